noncomputable section
theorem dX10_greatestLeast_0 : decode cX10_greatestLeast 0 = .ok (.iload_n 1, 1) := by decide +kernel
theorem dX10_greatestLeast_1 : decode cX10_greatestLeast 1 = .ok (.iconst 1, 1) := by decide +kernel
theorem dX10_greatestLeast_2 : decode cX10_greatestLeast 2 = .ok (.isub, 1) := by decide +kernel
theorem dX10_greatestLeast_3 : decode cX10_greatestLeast 3 = .ok (.istore_n 2, 1) := by decide +kernel
theorem dX10_greatestLeast_4 : decode cX10_greatestLeast 4 = .ok (.iload_n 2, 1) := by decide +kernel
theorem dX10_greatestLeast_5 : decode cX10_greatestLeast 5 = .ok (.ifCond .lt 81, 3) := by decide +kernel
theorem dX10_greatestLeast_8 : decode cX10_greatestLeast 8 = .ok (.iconst 0, 1) := by decide +kernel
theorem dX10_greatestLeast_9 : decode cX10_greatestLeast 9 = .ok (.istore_n 3, 1) := by decide +kernel
theorem dX10_greatestLeast_10 : decode cX10_greatestLeast 10 = .ok (.iload_n 3, 1) := by decide +kernel
theorem dX10_greatestLeast_11 : decode cX10_greatestLeast 11 = .ok (.iconst 4, 1) := by decide +kernel
theorem dX10_greatestLeast_12 : decode cX10_greatestLeast 12 = .ok (.if_icmp .ge 68, 3) := by decide +kernel
theorem dX10_greatestLeast_15 : decode cX10_greatestLeast 15 = .ok (.iconst 4, 1) := by decide +kernel
theorem dX10_greatestLeast_16 : decode cX10_greatestLeast 16 = .ok (.iload_n 2, 1) := by decide +kernel
theorem dX10_greatestLeast_17 : decode cX10_greatestLeast 17 = .ok (.imul, 1) := by decide +kernel
theorem dX10_greatestLeast_18 : decode cX10_greatestLeast 18 = .ok (.iload_n 3, 1) := by decide +kernel
theorem dX10_greatestLeast_19 : decode cX10_greatestLeast 19 = .ok (.iadd, 1) := by decide +kernel
theorem dX10_greatestLeast_20 : decode cX10_greatestLeast 20 = .ok (.istore 4, 2) := by decide +kernel
theorem dX10_greatestLeast_22 : decode cX10_greatestLeast 22 = .ok (.aload_n 0, 1) := by decide +kernel
theorem dX10_greatestLeast_23 : decode cX10_greatestLeast 23 = .ok (.getfield 18, 3) := by decide +kernel
theorem dX10_greatestLeast_26 : decode cX10_greatestLeast 26 = .ok (.iload 4, 2) := by decide +kernel
theorem dX10_greatestLeast_28 : decode cX10_greatestLeast 28 = .ok (.aload_n 0, 1) := by decide +kernel
theorem dX10_greatestLeast_29 : decode cX10_greatestLeast 29 = .ok (.getfield 15, 3) := by decide +kernel
theorem dX10_greatestLeast_32 : decode cX10_greatestLeast 32 = .ok (.iload 4, 2) := by decide +kernel
theorem dX10_greatestLeast_34 : decode cX10_greatestLeast 34 = .ok (.iaload, 1) := by decide +kernel
theorem dX10_greatestLeast_35 : decode cX10_greatestLeast 35 = .ok (.iastore, 1) := by decide +kernel
theorem dX10_greatestLeast_36 : decode cX10_greatestLeast 36 = .ok (.iload_n 2, 1) := by decide +kernel
theorem dX10_greatestLeast_37 : decode cX10_greatestLeast 37 = .ok (.iload_n 1, 1) := by decide +kernel
theorem dX10_greatestLeast_38 : decode cX10_greatestLeast 38 = .ok (.iconst 1, 1) := by decide +kernel
theorem dX10_greatestLeast_39 : decode cX10_greatestLeast 39 = .ok (.isub, 1) := by decide +kernel
theorem dX10_greatestLeast_40 : decode cX10_greatestLeast 40 = .ok (.if_icmp .ge 34, 3) := by decide +kernel
theorem dX10_greatestLeast_43 : decode cX10_greatestLeast 43 = .ok (.aload_n 0, 1) := by decide +kernel
theorem dX10_greatestLeast_44 : decode cX10_greatestLeast 44 = .ok (.getfield 18, 3) := by decide +kernel
theorem dX10_greatestLeast_47 : decode cX10_greatestLeast 47 = .ok (.iload 4, 2) := by decide +kernel
theorem dX10_greatestLeast_49 : decode cX10_greatestLeast 49 = .ok (.aload_n 0, 1) := by decide +kernel
theorem dX10_greatestLeast_50 : decode cX10_greatestLeast 50 = .ok (.getfield 15, 3) := by decide +kernel
theorem dX10_greatestLeast_53 : decode cX10_greatestLeast 53 = .ok (.iload 4, 2) := by decide +kernel
theorem dX10_greatestLeast_55 : decode cX10_greatestLeast 55 = .ok (.iaload, 1) := by decide +kernel
theorem dX10_greatestLeast_56 : decode cX10_greatestLeast 56 = .ok (.aload_n 0, 1) := by decide +kernel
theorem dX10_greatestLeast_57 : decode cX10_greatestLeast 57 = .ok (.iload_n 2, 1) := by decide +kernel
theorem dX10_greatestLeast_58 : decode cX10_greatestLeast 58 = .ok (.iconst 1, 1) := by decide +kernel
theorem dX10_greatestLeast_59 : decode cX10_greatestLeast 59 = .ok (.iadd, 1) := by decide +kernel
theorem dX10_greatestLeast_60 : decode cX10_greatestLeast 60 = .ok (.getstatic 75, 3) := by decide +kernel
theorem dX10_greatestLeast_63 : decode cX10_greatestLeast 63 = .ok (.iconst 1, 1) := by decide +kernel
theorem dX10_greatestLeast_64 : decode cX10_greatestLeast 64 = .ok (.iload_n 3, 1) := by decide +kernel
theorem dX10_greatestLeast_65 : decode cX10_greatestLeast 65 = .ok (.ishl, 1) := by decide +kernel
theorem dX10_greatestLeast_66 : decode cX10_greatestLeast 66 = .ok (.iaload, 1) := by decide +kernel
theorem dX10_greatestLeast_67 : decode cX10_greatestLeast 67 = .ok (.invokevirtual 111, 3) := by decide +kernel
theorem dX10_greatestLeast_70 : decode cX10_greatestLeast 70 = .ok (.invokestatic 114, 3) := by decide +kernel
theorem dX10_greatestLeast_73 : decode cX10_greatestLeast 73 = .ok (.iastore, 1) := by decide +kernel
theorem dX10_greatestLeast_74 : decode cX10_greatestLeast 74 = .ok (.iinc 3 1, 3) := by decide +kernel
theorem dX10_greatestLeast_77 : decode cX10_greatestLeast 77 = .ok (.goto (-67), 3) := by decide +kernel
theorem dX10_greatestLeast_80 : decode cX10_greatestLeast 80 = .ok (.iinc 2 (-1), 3) := by decide +kernel
theorem dX10_greatestLeast_83 : decode cX10_greatestLeast 83 = .ok (.goto (-79), 3) := by decide +kernel
theorem dX10_greatestLeast_86 : decode cX10_greatestLeast 86 = .ok (.aload_n 0, 1) := by decide +kernel
theorem dX10_greatestLeast_87 : decode cX10_greatestLeast 87 = .ok (.iconst 0, 1) := by decide +kernel
theorem dX10_greatestLeast_88 : decode cX10_greatestLeast 88 = .ok (.bipush 15, 2) := by decide +kernel
theorem dX10_greatestLeast_90 : decode cX10_greatestLeast 90 = .ok (.invokevirtual 111, 3) := by decide +kernel
theorem dX10_greatestLeast_93 : decode cX10_greatestLeast 93 = .ok (.ireturn, 1) := by decide +kernel
theorem okc_X10_bestOpen {kn : sKn} {cc : ByteArray} {own : String} {nL : Nat} {D : Nat} {ret : Option FieldType} {ini : Bool} {pc index : Nat} (hD : 1 + 1 ≤ D) (hl : Cond.methodLink own index yX10_bestOpen ∈ wsL_law) (hd : decode cc pc = .ok (.invokevirtual index, 3)) : mOk kn cc own nL wsL_law D ret ini pc (a_callV false (fX10_bestOpen kn) 11 (2 + 1) (pc + 3)) := ok_callV (mX10_bestOpen kn) (good_ws ws_good (fun _ h => h) kw267) hD (by decide) hl kw268 kw269 kw170 ⟨by decide +kernel, by decide +kernel, by decide +kernel⟩ rfl hd
def tX10_greatestLeast (kn : sKn) : List (Nat × sA) := [(0, a_iload 1 1), (1, a_stk (q_int 1) 2), (2, a_stk q_isub 3), (3, a_istore 2 4), (4, a_iload 2 5), (5, a_if kn b_lt 2 86 8), (8, a_stk (q_int 0) 9), (9, a_istore 3 10), (10, a_iload 3 11), (11, a_stk (q_int 4) 12), (12, a_icmp kn b_ge 3 80 15), (15, a_stk (q_int 4) 16), (16, a_iload 2 17), (17, a_stk q_imul 18), (18, a_iload 3 19), (19, a_stk q_iadd 20), (20, a_istore 4 22), (22, a_aload 0 23), (23, a_get 11 2 26), (26, a_iload 4 28), (28, a_aload 0 29), (29, a_get 11 1 32), (32, a_iload 4 34), (34, a_iald 35), (35, a_iast 36), (36, a_iload 2 37), (37, a_iload 1 38), (38, a_stk (q_int 1) 39), (39, a_stk q_isub 40), (40, a_icmp kn b_ge 3 74 43), (43, a_aload 0 44), (44, a_get 11 2 47), (47, a_iload 4 49), (49, a_aload 0 50), (50, a_get 11 1 53), (53, a_iload 4 55), (55, a_iald 56), (56, a_aload 0 57), (57, a_iload 2 58), (58, a_stk (q_int 1) 59), (59, a_stk q_iadd 60), (60, a_gets 1000000 63), (63, a_stk (q_int 1) 64), (64, a_iload 3 65), (65, a_stk q_ishl 66), (66, a_iald 67), (67, a_callV false (fX10_bestOpen kn) 11 3 70), (70, a_mmin 73), (73, a_iast 74), (74, a_iinc 3 1 77), (77, a_goto 10), (80, a_iinc 2 (-1) 83), (83, a_goto 4), (86, a_aload 0 87), (87, a_stk (q_int 0) 88), (88, a_stk (q_int 15) 90), (90, a_callV false (fX10_bestOpen kn) 11 3 93), (93, a_iret)]
def fX10_greatestLeast (kn : sKn) : List Value → sW → Option sR := fW (tX10_greatestLeast kn) 5
set_option maxRecDepth 100000 in
set_option maxHeartbeats 4000000 in
theorem mX10_greatestLeast (kn : sKn) : mM kn yX10_greatestLeast (Cond.code yX10_greatestLeast cX10_greatestLeast 5 (some .int) :: wsL_law) 2 false (fX10_greatestLeast kn) := mM_W (fun n => mM_of (own := RX10) (ini := false) rfl (by decide +kernel) (by decide +kernel) (all_c (ok_iload_n dX10_greatestLeast_0 rfl) (all_c (ok_stk (s_iconst dX10_greatestLeast_1 (by decide))) (all_c (ok_stk (s_isub dX10_greatestLeast_2)) (all_c (ok_istore_n dX10_greatestLeast_3 rfl (by decide)) (all_c (ok_iload_n dX10_greatestLeast_4 rfl) (all_c (ok_if_lt dX10_greatestLeast_5 (by decide)) (all_c (ok_stk (s_iconst dX10_greatestLeast_8 (by decide))) (all_c (ok_istore_n dX10_greatestLeast_9 rfl (by decide)) (all_c (ok_iload_n dX10_greatestLeast_10 rfl) (all_c (ok_stk (s_iconst dX10_greatestLeast_11 (by decide))) (all_c (ok_icmp_ge dX10_greatestLeast_12 (by decide)) (all_c (ok_stk (s_iconst dX10_greatestLeast_15 (by decide))) (all_c (ok_iload_n dX10_greatestLeast_16 rfl) (all_c (ok_stk (s_imul dX10_greatestLeast_17)) (all_c (ok_iload_n dX10_greatestLeast_18 rfl) (all_c (ok_stk (s_iadd dX10_greatestLeast_19)) (all_c (ok_istore dX10_greatestLeast_20 (by decide)) (all_c (ok_aload_n dX10_greatestLeast_22 rfl) (all_c (okg_X10_2 kw260 dX10_greatestLeast_23) (all_c (ok_iload dX10_greatestLeast_26) (all_c (ok_aload_n dX10_greatestLeast_28 rfl) (all_c (okg_X10_1 kw266 dX10_greatestLeast_29) (all_c (ok_iload dX10_greatestLeast_32) (all_c (ok_iald dX10_greatestLeast_34) (all_c (ok_iast dX10_greatestLeast_35) (all_c (ok_iload_n dX10_greatestLeast_36 rfl) (all_c (ok_iload_n dX10_greatestLeast_37 rfl) (all_c (ok_stk (s_iconst dX10_greatestLeast_38 (by decide))) (all_c (ok_stk (s_isub dX10_greatestLeast_39)) (all_c (ok_icmp_ge dX10_greatestLeast_40 (by decide)) (all_c (ok_aload_n dX10_greatestLeast_43 rfl) (all_c (okg_X10_2 kw260 dX10_greatestLeast_44) (all_c (ok_iload dX10_greatestLeast_47) (all_c (ok_aload_n dX10_greatestLeast_49 rfl) (all_c (okg_X10_1 kw266 dX10_greatestLeast_50) (all_c (ok_iload dX10_greatestLeast_53) (all_c (ok_iald dX10_greatestLeast_55) (all_c (ok_aload_n dX10_greatestLeast_56 rfl) (all_c (ok_iload_n dX10_greatestLeast_57 rfl) (all_c (ok_stk (s_iconst dX10_greatestLeast_58 (by decide))) (all_c (ok_stk (s_iadd dX10_greatestLeast_59)) (all_c (ok_openN (by decide +kernel) dX10_greatestLeast_60) (all_c (ok_stk (s_iconst dX10_greatestLeast_63 (by decide))) (all_c (ok_iload_n dX10_greatestLeast_64 rfl) (all_c (ok_stk (s_ishl dX10_greatestLeast_65)) (all_c (ok_iald dX10_greatestLeast_66) (all_c (okc_X10_bestOpen (by decide) kw270 dX10_greatestLeast_67) (all_c (ok_mmin (by decide) kw271 kw53 kw38 kw54 dX10_greatestLeast_70) (all_c (ok_iast dX10_greatestLeast_73) (all_c (ok_iinc dX10_greatestLeast_74 (by decide) (by decide)) (all_c (ok_goto dX10_greatestLeast_77 (by decide)) (all_c (ok_iinc dX10_greatestLeast_80 (by decide) (by decide)) (all_c (ok_goto dX10_greatestLeast_83 (by decide)) (all_c (ok_aload_n dX10_greatestLeast_86 rfl) (all_c (ok_stk (s_iconst dX10_greatestLeast_87 (by decide))) (all_c (ok_stk (s_bipush dX10_greatestLeast_88 (by decide))) (all_c (okc_X10_bestOpen (by decide) kw270 dX10_greatestLeast_90) (all_c (ok_iret dX10_greatestLeast_93) all_n)))))))))))))))))))))))))))))))))))))))))))))))))))))))))) n (fun h => by first | rfl | cases h))
theorem dX10_spareSteps_0 : decode cX10_spareSteps 0 = .ok (.iconst 0, 1) := by decide +kernel
theorem dX10_spareSteps_1 : decode cX10_spareSteps 1 = .ok (.istore 5, 2) := by decide +kernel
theorem dX10_spareSteps_3 : decode cX10_spareSteps 3 = .ok (.iload 5, 2) := by decide +kernel
theorem dX10_spareSteps_5 : decode cX10_spareSteps 5 = .ok (.iload_n 1, 1) := by decide +kernel
theorem dX10_spareSteps_6 : decode cX10_spareSteps 6 = .ok (.if_icmp .ge 90, 3) := by decide +kernel
theorem dX10_spareSteps_9 : decode cX10_spareSteps 9 = .ok (.iconst 0, 1) := by decide +kernel
theorem dX10_spareSteps_10 : decode cX10_spareSteps 10 = .ok (.istore 6, 2) := by decide +kernel
theorem dX10_spareSteps_12 : decode cX10_spareSteps 12 = .ok (.iload 6, 2) := by decide +kernel
theorem dX10_spareSteps_14 : decode cX10_spareSteps 14 = .ok (.iconst 3, 1) := by decide +kernel
theorem dX10_spareSteps_15 : decode cX10_spareSteps 15 = .ok (.if_icmp .ge 52, 3) := by decide +kernel
theorem dX10_spareSteps_18 : decode cX10_spareSteps 18 = .ok (.aload_n 0, 1) := by decide +kernel
theorem dX10_spareSteps_19 : decode cX10_spareSteps 19 = .ok (.iload 5, 2) := by decide +kernel
theorem dX10_spareSteps_21 : decode cX10_spareSteps 21 = .ok (.iload 6, 2) := by decide +kernel
theorem dX10_spareSteps_23 : decode cX10_spareSteps 23 = .ok (.iload_n 3, 1) := by decide +kernel
theorem dX10_spareSteps_24 : decode cX10_spareSteps 24 = .ok (.invokevirtual 62, 3) := by decide +kernel
theorem dX10_spareSteps_27 : decode cX10_spareSteps 27 = .ok (.istore 7, 2) := by decide +kernel
theorem dX10_spareSteps_29 : decode cX10_spareSteps 29 = .ok (.aload_n 0, 1) := by decide +kernel
theorem dX10_spareSteps_30 : decode cX10_spareSteps 30 = .ok (.getfield 15, 3) := by decide +kernel
theorem dX10_spareSteps_33 : decode cX10_spareSteps 33 = .ok (.iconst 4, 1) := by decide +kernel
theorem dX10_spareSteps_34 : decode cX10_spareSteps 34 = .ok (.iload 5, 2) := by decide +kernel
theorem dX10_spareSteps_36 : decode cX10_spareSteps 36 = .ok (.imul, 1) := by decide +kernel
theorem dX10_spareSteps_37 : decode cX10_spareSteps 37 = .ok (.iload 6, 2) := by decide +kernel
theorem dX10_spareSteps_39 : decode cX10_spareSteps 39 = .ok (.iadd, 1) := by decide +kernel
theorem dX10_spareSteps_40 : decode cX10_spareSteps 40 = .ok (.iload 7, 2) := by decide +kernel
theorem dX10_spareSteps_42 : decode cX10_spareSteps 42 = .ok (.iconst (-1), 1) := by decide +kernel
theorem dX10_spareSteps_43 : decode cX10_spareSteps 43 = .ok (.if_icmp .eq 9, 3) := by decide +kernel
theorem dX10_spareSteps_46 : decode cX10_spareSteps 46 = .ok (.iload 7, 2) := by decide +kernel
theorem dX10_spareSteps_48 : decode cX10_spareSteps 48 = .ok (.iload_n 2, 1) := by decide +kernel
theorem dX10_spareSteps_49 : decode cX10_spareSteps 49 = .ok (.if_icmp .ge 7, 3) := by decide +kernel
theorem dX10_spareSteps_52 : decode cX10_spareSteps 52 = .ok (.iconst (-1), 1) := by decide +kernel
theorem dX10_spareSteps_53 : decode cX10_spareSteps 53 = .ok (.goto 7, 3) := by decide +kernel
theorem dX10_spareSteps_56 : decode cX10_spareSteps 56 = .ok (.iload 7, 2) := by decide +kernel
theorem dX10_spareSteps_58 : decode cX10_spareSteps 58 = .ok (.iload_n 2, 1) := by decide +kernel
theorem dX10_spareSteps_59 : decode cX10_spareSteps 59 = .ok (.isub, 1) := by decide +kernel
theorem dX10_spareSteps_60 : decode cX10_spareSteps 60 = .ok (.iastore, 1) := by decide +kernel
theorem dX10_spareSteps_61 : decode cX10_spareSteps 61 = .ok (.iinc 6 1, 3) := by decide +kernel
theorem dX10_spareSteps_64 : decode cX10_spareSteps 64 = .ok (.goto (-52), 3) := by decide +kernel
theorem dX10_spareSteps_67 : decode cX10_spareSteps 67 = .ok (.aload_n 0, 1) := by decide +kernel
theorem dX10_spareSteps_68 : decode cX10_spareSteps 68 = .ok (.getfield 15, 3) := by decide +kernel
theorem dX10_spareSteps_71 : decode cX10_spareSteps 71 = .ok (.iconst 4, 1) := by decide +kernel
theorem dX10_spareSteps_72 : decode cX10_spareSteps 72 = .ok (.iload 5, 2) := by decide +kernel
theorem dX10_spareSteps_74 : decode cX10_spareSteps 74 = .ok (.imul, 1) := by decide +kernel
theorem dX10_spareSteps_75 : decode cX10_spareSteps 75 = .ok (.iconst 3, 1) := by decide +kernel
theorem dX10_spareSteps_76 : decode cX10_spareSteps 76 = .ok (.iadd, 1) := by decide +kernel
theorem dX10_spareSteps_77 : decode cX10_spareSteps 77 = .ok (.iload 4, 2) := by decide +kernel
theorem dX10_spareSteps_79 : decode cX10_spareSteps 79 = .ok (.ifCond .eq 9, 3) := by decide +kernel
theorem dX10_spareSteps_82 : decode cX10_spareSteps 82 = .ok (.sipush 999, 3) := by decide +kernel
theorem dX10_spareSteps_85 : decode cX10_spareSteps 85 = .ok (.goto 4, 3) := by decide +kernel
theorem dX10_spareSteps_88 : decode cX10_spareSteps 88 = .ok (.iconst (-1), 1) := by decide +kernel
theorem dX10_spareSteps_89 : decode cX10_spareSteps 89 = .ok (.iastore, 1) := by decide +kernel
theorem dX10_spareSteps_90 : decode cX10_spareSteps 90 = .ok (.iinc 5 1, 3) := by decide +kernel
theorem dX10_spareSteps_93 : decode cX10_spareSteps 93 = .ok (.goto (-90), 3) := by decide +kernel
theorem dX10_spareSteps_96 : decode cX10_spareSteps 96 = .ok (.return_, 1) := by decide +kernel
def tX10_spareSteps (kn : sKn) : List (Nat × sA) := [(0, a_stk (q_int 0) 1), (1, a_istore 5 3), (3, a_iload 5 5), (5, a_iload 1 6), (6, a_icmp kn b_ge 3 96 9), (9, a_stk (q_int 0) 10), (10, a_istore 6 12), (12, a_iload 6 14), (14, a_stk (q_int 3) 15), (15, a_icmp kn b_ge 3 67 18), (18, a_aload 0 19), (19, a_iload 5 21), (21, a_iload 6 23), (23, a_iload 3 24), (24, a_callV false (fX10_bearTogether kn) 11 4 27), (27, a_istore 7 29), (29, a_aload 0 30), (30, a_get 11 1 33), (33, a_stk (q_int 4) 34), (34, a_iload 5 36), (36, a_stk q_imul 37), (37, a_iload 6 39), (39, a_stk q_iadd 40), (40, a_iload 7 42), (42, a_stk (q_int (-1)) 43), (43, a_icmp kn b_eq 0 52 46), (46, a_iload 7 48), (48, a_iload 2 49), (49, a_icmp kn b_ge 3 56 52), (52, a_stk (q_int (-1)) 53), (53, a_goto 60), (56, a_iload 7 58), (58, a_iload 2 59), (59, a_stk q_isub 60), (60, a_iast 61), (61, a_iinc 6 1 64), (64, a_goto 12), (67, a_aload 0 68), (68, a_get 11 1 71), (71, a_stk (q_int 4) 72), (72, a_iload 5 74), (74, a_stk q_imul 75), (75, a_stk (q_int 3) 76), (76, a_stk q_iadd 77), (77, a_iload 4 79), (79, a_if kn b_eq 0 88 82), (82, a_stk (q_int 999) 85), (85, a_goto 89), (88, a_stk (q_int (-1)) 89), (89, a_iast 90), (90, a_iinc 5 1 93), (93, a_goto 3), (96, a_vret)]
def fX10_spareSteps (kn : sKn) : List Value → sW → Option sR := fW (tX10_spareSteps kn) 8
set_option maxRecDepth 100000 in
set_option maxHeartbeats 4000000 in
theorem mX10_spareSteps (kn : sKn) : mM kn yX10_spareSteps (Cond.code yX10_spareSteps cX10_spareSteps 8 none :: wsL_law) 2 true (fX10_spareSteps kn) := mM_W (fun n => mM_of (own := RX10) (ini := false) rfl (by decide +kernel) (by decide +kernel) (all_c (ok_stk (s_iconst dX10_spareSteps_0 (by decide))) (all_c (ok_istore dX10_spareSteps_1 (by decide)) (all_c (ok_iload dX10_spareSteps_3) (all_c (ok_iload_n dX10_spareSteps_5 rfl) (all_c (ok_icmp_ge dX10_spareSteps_6 (by decide)) (all_c (ok_stk (s_iconst dX10_spareSteps_9 (by decide))) (all_c (ok_istore dX10_spareSteps_10 (by decide)) (all_c (ok_iload dX10_spareSteps_12) (all_c (ok_stk (s_iconst dX10_spareSteps_14 (by decide))) (all_c (ok_icmp_ge dX10_spareSteps_15 (by decide)) (all_c (ok_aload_n dX10_spareSteps_18 rfl) (all_c (ok_iload dX10_spareSteps_19) (all_c (ok_iload dX10_spareSteps_21) (all_c (ok_iload_n dX10_spareSteps_23 rfl) (all_c (okc_X10_bearTogether (by decide) kw240 dX10_spareSteps_24) (all_c (ok_istore dX10_spareSteps_27 (by decide)) (all_c (ok_aload_n dX10_spareSteps_29 rfl) (all_c (okg_X10_1 kw266 dX10_spareSteps_30) (all_c (ok_stk (s_iconst dX10_spareSteps_33 (by decide))) (all_c (ok_iload dX10_spareSteps_34) (all_c (ok_stk (s_imul dX10_spareSteps_36)) (all_c (ok_iload dX10_spareSteps_37) (all_c (ok_stk (s_iadd dX10_spareSteps_39)) (all_c (ok_iload dX10_spareSteps_40) (all_c (ok_stk (s_iconst dX10_spareSteps_42 (by decide))) (all_c (ok_icmp_eq dX10_spareSteps_43 (by decide)) (all_c (ok_iload dX10_spareSteps_46) (all_c (ok_iload_n dX10_spareSteps_48 rfl) (all_c (ok_icmp_ge dX10_spareSteps_49 (by decide)) (all_c (ok_stk (s_iconst dX10_spareSteps_52 (by decide))) (all_c (ok_goto dX10_spareSteps_53 (by decide)) (all_c (ok_iload dX10_spareSteps_56) (all_c (ok_iload_n dX10_spareSteps_58 rfl) (all_c (ok_stk (s_isub dX10_spareSteps_59)) (all_c (ok_iast dX10_spareSteps_60) (all_c (ok_iinc dX10_spareSteps_61 (by decide) (by decide)) (all_c (ok_goto dX10_spareSteps_64 (by decide)) (all_c (ok_aload_n dX10_spareSteps_67 rfl) (all_c (okg_X10_1 kw266 dX10_spareSteps_68) (all_c (ok_stk (s_iconst dX10_spareSteps_71 (by decide))) (all_c (ok_iload dX10_spareSteps_72) (all_c (ok_stk (s_imul dX10_spareSteps_74)) (all_c (ok_stk (s_iconst dX10_spareSteps_75 (by decide))) (all_c (ok_stk (s_iadd dX10_spareSteps_76)) (all_c (ok_iload dX10_spareSteps_77) (all_c (ok_if_eq dX10_spareSteps_79 (by decide)) (all_c (ok_stk (s_sipush dX10_spareSteps_82 (by decide))) (all_c (ok_goto dX10_spareSteps_85 (by decide)) (all_c (ok_stk (s_iconst dX10_spareSteps_88 (by decide))) (all_c (ok_iast dX10_spareSteps_89) (all_c (ok_iinc dX10_spareSteps_90 (by decide) (by decide)) (all_c (ok_goto dX10_spareSteps_93 (by decide)) (all_c (ok_vret dX10_spareSteps_96) all_n))))))))))))))))))))))))))))))))))))))))))))))))))))) n (fun h => by first | rfl | cases h))
theorem dX10_findSafest_0 : decode cX10_findSafest 0 = .ok (.aload_n 0, 1) := by decide +kernel
theorem dX10_findSafest_1 : decode cX10_findSafest 1 = .ok (.aload_n 1, 1) := by decide +kernel
theorem dX10_findSafest_2 : decode cX10_findSafest 2 = .ok (.aload_n 2, 1) := by decide +kernel
theorem dX10_findSafest_3 : decode cX10_findSafest 3 = .ok (.invokevirtual 58, 3) := by decide +kernel
theorem dX10_findSafest_6 : decode cX10_findSafest 6 = .ok (.aload_n 0, 1) := by decide +kernel
theorem dX10_findSafest_7 : decode cX10_findSafest 7 = .ok (.aload_n 1, 1) := by decide +kernel
theorem dX10_findSafest_8 : decode cX10_findSafest 8 = .ok (.getfield 51, 3) := by decide +kernel
theorem dX10_findSafest_11 : decode cX10_findSafest 11 = .ok (.aload_n 1, 1) := by decide +kernel
theorem dX10_findSafest_12 : decode cX10_findSafest 12 = .ok (.getfield 66, 3) := by decide +kernel
theorem dX10_findSafest_15 : decode cX10_findSafest 15 = .ok (.iload_n 3, 1) := by decide +kernel
theorem dX10_findSafest_16 : decode cX10_findSafest 16 = .ok (.iaload, 1) := by decide +kernel
theorem dX10_findSafest_17 : decode cX10_findSafest 17 = .ok (.aload_n 1, 1) := by decide +kernel
theorem dX10_findSafest_18 : decode cX10_findSafest 18 = .ok (.getfield 69, 3) := by decide +kernel
theorem dX10_findSafest_21 : decode cX10_findSafest 21 = .ok (.iload_n 3, 1) := by decide +kernel
theorem dX10_findSafest_22 : decode cX10_findSafest 22 = .ok (.iaload, 1) := by decide +kernel
theorem dX10_findSafest_23 : decode cX10_findSafest 23 = .ok (.aload_n 1, 1) := by decide +kernel
theorem dX10_findSafest_24 : decode cX10_findSafest 24 = .ok (.getfield 66, 3) := by decide +kernel
theorem dX10_findSafest_27 : decode cX10_findSafest 27 = .ok (.iload_n 3, 1) := by decide +kernel
theorem dX10_findSafest_28 : decode cX10_findSafest 28 = .ok (.iaload, 1) := by decide +kernel
theorem dX10_findSafest_29 : decode cX10_findSafest 29 = .ok (.bipush 9, 2) := by decide +kernel
theorem dX10_findSafest_31 : decode cX10_findSafest 31 = .ok (.if_icmp .gt 7, 3) := by decide +kernel
theorem dX10_findSafest_34 : decode cX10_findSafest 34 = .ok (.iconst 1, 1) := by decide +kernel
theorem dX10_findSafest_35 : decode cX10_findSafest 35 = .ok (.goto 4, 3) := by decide +kernel
theorem dX10_findSafest_38 : decode cX10_findSafest 38 = .ok (.iconst 0, 1) := by decide +kernel
theorem dX10_findSafest_39 : decode cX10_findSafest 39 = .ok (.invokevirtual 99, 3) := by decide +kernel
theorem dX10_findSafest_42 : decode cX10_findSafest 42 = .ok (.aload_n 0, 1) := by decide +kernel
theorem dX10_findSafest_43 : decode cX10_findSafest 43 = .ok (.aload_n 1, 1) := by decide +kernel
theorem dX10_findSafest_44 : decode cX10_findSafest 44 = .ok (.getfield 51, 3) := by decide +kernel
theorem dX10_findSafest_47 : decode cX10_findSafest 47 = .ok (.invokevirtual 103, 3) := by decide +kernel
theorem dX10_findSafest_50 : decode cX10_findSafest 50 = .ok (.istore 4, 2) := by decide +kernel
theorem dX10_findSafest_52 : decode cX10_findSafest 52 = .ok (.iload 4, 2) := by decide +kernel
theorem dX10_findSafest_54 : decode cX10_findSafest 54 = .ok (.iconst (-1), 1) := by decide +kernel
theorem dX10_findSafest_55 : decode cX10_findSafest 55 = .ok (.if_icmp .eq 13, 3) := by decide +kernel
theorem dX10_findSafest_58 : decode cX10_findSafest 58 = .ok (.aload_n 0, 1) := by decide +kernel
theorem dX10_findSafest_59 : decode cX10_findSafest 59 = .ok (.aload_n 1, 1) := by decide +kernel
theorem dX10_findSafest_60 : decode cX10_findSafest 60 = .ok (.getfield 51, 3) := by decide +kernel
theorem dX10_findSafest_63 : decode cX10_findSafest 63 = .ok (.iload 4, 2) := by decide +kernel
theorem dX10_findSafest_65 : decode cX10_findSafest 65 = .ok (.invokevirtual 107, 3) := by decide +kernel
theorem dX10_findSafest_68 : decode cX10_findSafest 68 = .ok (.iload 4, 2) := by decide +kernel
theorem dX10_findSafest_70 : decode cX10_findSafest 70 = .ok (.ireturn, 1) := by decide +kernel
theorem okc_X10_spareSteps {kn : sKn} {cc : ByteArray} {own : String} {nL : Nat} {D : Nat} {ret : Option FieldType} {ini : Bool} {pc index : Nat} (hD : 2 + 1 ≤ D) (hl : Cond.methodLink own index yX10_spareSteps ∈ wsL_law) (hd : decode cc pc = .ok (.invokevirtual index, 3)) : mOk kn cc own nL wsL_law D ret ini pc (a_callV true (fX10_spareSteps kn) 11 (4 + 1) (pc + 3)) := ok_callV (mX10_spareSteps kn) (good_ws ws_good (fun _ h => h) kw272) hD (by decide) hl kw273 kw274 kw170 ⟨by decide +kernel, by decide +kernel, by decide +kernel⟩ rfl hd
theorem okc_X10_greatestLeast {kn : sKn} {cc : ByteArray} {own : String} {nL : Nat} {D : Nat} {ret : Option FieldType} {ini : Bool} {pc index : Nat} (hD : 2 + 1 ≤ D) (hl : Cond.methodLink own index yX10_greatestLeast ∈ wsL_law) (hd : decode cc pc = .ok (.invokevirtual index, 3)) : mOk kn cc own nL wsL_law D ret ini pc (a_callV false (fX10_greatestLeast kn) 11 (1 + 1) (pc + 3)) := ok_callV (mX10_greatestLeast kn) (good_ws ws_good (fun _ h => h) kw276) hD (by decide) hl kw277 kw278 kw170 ⟨by decide +kernel, by decide +kernel, by decide +kernel⟩ rfl hd
theorem okc_X10_followFirst {kn : sKn} {cc : ByteArray} {own : String} {nL : Nat} {D : Nat} {ret : Option FieldType} {ini : Bool} {pc index : Nat} (hD : 1 + 1 ≤ D) (hl : Cond.methodLink own index yX10_followFirst ∈ wsL_law) (hd : decode cc pc = .ok (.invokevirtual index, 3)) : mOk kn cc own nL wsL_law D ret ini pc (a_callV true (fX10_followFirst kn) 11 (2 + 1) (pc + 3)) := ok_callV (mX10_followFirst kn) (good_ws ws_good (fun _ h => h) kw280) hD (by decide) hl kw281 kw282 kw170 ⟨by decide +kernel, by decide +kernel, by decide +kernel⟩ rfl hd
def tX10_findSafest (kn : sKn) : List (Nat × sA) := [(0, a_aload 0 1), (1, a_aload 1 2), (2, a_aload 2 3), (3, a_callV true (fX10_weigh kn) 11 3 6), (6, a_aload 0 7), (7, a_aload 1 8), (8, a_get 7 0 11), (11, a_aload 1 12), (12, a_get 7 13 15), (15, a_iload 3 16), (16, a_iald 17), (17, a_aload 1 18), (18, a_get 7 14 21), (21, a_iload 3 22), (22, a_iald 23), (23, a_aload 1 24), (24, a_get 7 13 27), (27, a_iload 3 28), (28, a_iald 29), (29, a_stk (q_int 9) 31), (31, a_icmp kn b_gt 4 38 34), (34, a_stk (q_int 1) 35), (35, a_goto 39), (38, a_stk (q_int 0) 39), (39, a_callV true (fX10_spareSteps kn) 11 5 42), (42, a_aload 0 43), (43, a_aload 1 44), (44, a_get 7 0 47), (47, a_callV false (fX10_greatestLeast kn) 11 2 50), (50, a_istore 4 52), (52, a_iload 4 54), (54, a_stk (q_int (-1)) 55), (55, a_icmp kn b_eq 0 68 58), (58, a_aload 0 59), (59, a_aload 1 60), (60, a_get 7 0 63), (63, a_iload 4 65), (65, a_callV true (fX10_followFirst kn) 11 3 68), (68, a_iload 4 70), (70, a_iret)]
def fX10_findSafest (kn : sKn) : List Value → sW → Option sR := fW (tX10_findSafest kn) 5
set_option maxRecDepth 100000 in
set_option maxHeartbeats 4000000 in
theorem mX10_findSafest (kn : sKn) : mM kn yX10_findSafest (Cond.code yX10_findSafest cX10_findSafest 5 (some .int) :: wsL_law) 4 false (fX10_findSafest kn) := mM_W (fun n => mM_of (own := RX10) (ini := false) rfl (by decide +kernel) (by decide +kernel) (all_c (ok_aload_n dX10_findSafest_0 rfl) (all_c (ok_aload_n dX10_findSafest_1 rfl) (all_c (ok_aload_n dX10_findSafest_2 rfl) (all_c (okc_X10_weigh (by decide) kw253 dX10_findSafest_3) (all_c (ok_aload_n dX10_findSafest_6 rfl) (all_c (ok_aload_n dX10_findSafest_7 rfl) (all_c (okg_X6_0 kw241 dX10_findSafest_8) (all_c (ok_aload_n dX10_findSafest_11 rfl) (all_c (okg_X6_13 kw242 dX10_findSafest_12) (all_c (ok_iload_n dX10_findSafest_15 rfl) (all_c (ok_iald dX10_findSafest_16) (all_c (ok_aload_n dX10_findSafest_17 rfl) (all_c (okg_X6_14 kw243 dX10_findSafest_18) (all_c (ok_iload_n dX10_findSafest_21 rfl) (all_c (ok_iald dX10_findSafest_22) (all_c (ok_aload_n dX10_findSafest_23 rfl) (all_c (okg_X6_13 kw242 dX10_findSafest_24) (all_c (ok_iload_n dX10_findSafest_27 rfl) (all_c (ok_iald dX10_findSafest_28) (all_c (ok_stk (s_bipush dX10_findSafest_29 (by decide))) (all_c (ok_icmp_gt dX10_findSafest_31 (by decide)) (all_c (ok_stk (s_iconst dX10_findSafest_34 (by decide))) (all_c (ok_goto dX10_findSafest_35 (by decide)) (all_c (ok_stk (s_iconst dX10_findSafest_38 (by decide))) (all_c (okc_X10_spareSteps (by decide) kw275 dX10_findSafest_39) (all_c (ok_aload_n dX10_findSafest_42 rfl) (all_c (ok_aload_n dX10_findSafest_43 rfl) (all_c (okg_X6_0 kw241 dX10_findSafest_44) (all_c (okc_X10_greatestLeast (by decide) kw279 dX10_findSafest_47) (all_c (ok_istore dX10_findSafest_50 (by decide)) (all_c (ok_iload dX10_findSafest_52) (all_c (ok_stk (s_iconst dX10_findSafest_54 (by decide))) (all_c (ok_icmp_eq dX10_findSafest_55 (by decide)) (all_c (ok_aload_n dX10_findSafest_58 rfl) (all_c (ok_aload_n dX10_findSafest_59 rfl) (all_c (okg_X6_0 kw241 dX10_findSafest_60) (all_c (ok_iload dX10_findSafest_63) (all_c (okc_X10_followFirst (by decide) kw283 dX10_findSafest_65) (all_c (ok_iload dX10_findSafest_68) (all_c (ok_iret dX10_findSafest_70) all_n)))))))))))))))))))))))))))))))))))))))) n (fun h => by first | rfl | cases h))
theorem dX10_hasPath_0 : decode cX10_hasPath 0 = .ok (.aload_n 0, 1) := by decide +kernel
theorem dX10_hasPath_1 : decode cX10_hasPath 1 = .ok (.aload_n 1, 1) := by decide +kernel
theorem dX10_hasPath_2 : decode cX10_hasPath 2 = .ok (.aload_n 2, 1) := by decide +kernel
theorem dX10_hasPath_3 : decode cX10_hasPath 3 = .ok (.invokevirtual 58, 3) := by decide +kernel
theorem dX10_hasPath_6 : decode cX10_hasPath 6 = .ok (.aload_n 0, 1) := by decide +kernel
theorem dX10_hasPath_7 : decode cX10_hasPath 7 = .ok (.aload_n 1, 1) := by decide +kernel
theorem dX10_hasPath_8 : decode cX10_hasPath 8 = .ok (.iload_n 3, 1) := by decide +kernel
theorem dX10_hasPath_9 : decode cX10_hasPath 9 = .ok (.invokevirtual 78, 3) := by decide +kernel
theorem dX10_hasPath_12 : decode cX10_hasPath 12 = .ok (.iconst (-1), 1) := by decide +kernel
theorem dX10_hasPath_13 : decode cX10_hasPath 13 = .ok (.if_icmp .ne 7, 3) := by decide +kernel
theorem dX10_hasPath_16 : decode cX10_hasPath 16 = .ok (.iconst 1, 1) := by decide +kernel
theorem dX10_hasPath_17 : decode cX10_hasPath 17 = .ok (.goto 4, 3) := by decide +kernel
theorem dX10_hasPath_20 : decode cX10_hasPath 20 = .ok (.iconst 0, 1) := by decide +kernel
theorem dX10_hasPath_21 : decode cX10_hasPath 21 = .ok (.ireturn, 1) := by decide +kernel
def tX10_hasPath (kn : sKn) : List (Nat × sA) := [(0, a_aload 0 1), (1, a_aload 1 2), (2, a_aload 2 3), (3, a_callV true (fX10_weigh kn) 11 3 6), (6, a_aload 0 7), (7, a_aload 1 8), (8, a_iload 3 9), (9, a_callV false (fX10_lostRow kn) 11 3 12), (12, a_stk (q_int (-1)) 13), (13, a_icmp kn b_ne 1 20 16), (16, a_stk (q_int 1) 17), (17, a_goto 21), (20, a_stk (q_int 0) 21), (21, a_zret)]
def fX10_hasPath (kn : sKn) : List Value → sW → Option sR := fW (tX10_hasPath kn) 4
set_option maxRecDepth 100000 in
set_option maxHeartbeats 4000000 in
theorem mX10_hasPath (kn : sKn) : mM kn yX10_hasPath (Cond.code yX10_hasPath cX10_hasPath 4 (some .boolean) :: wsL_law) 4 false (fX10_hasPath kn) := mM_W (fun n => mM_of (own := RX10) (ini := false) rfl (by decide +kernel) (by decide +kernel) (all_c (ok_aload_n dX10_hasPath_0 rfl) (all_c (ok_aload_n dX10_hasPath_1 rfl) (all_c (ok_aload_n dX10_hasPath_2 rfl) (all_c (okc_X10_weigh (by decide) kw253 dX10_hasPath_3) (all_c (ok_aload_n dX10_hasPath_6 rfl) (all_c (ok_aload_n dX10_hasPath_7 rfl) (all_c (ok_iload_n dX10_hasPath_8 rfl) (all_c (okc_X10_lostRow (by decide) kw259 dX10_hasPath_9) (all_c (ok_stk (s_iconst dX10_hasPath_12 (by decide))) (all_c (ok_icmp_ne dX10_hasPath_13 (by decide)) (all_c (ok_stk (s_iconst dX10_hasPath_16 (by decide))) (all_c (ok_goto dX10_hasPath_17 (by decide)) (all_c (ok_stk (s_iconst dX10_hasPath_20 (by decide))) (all_c (ok_zret dX10_hasPath_21) all_n)))))))))))))) n (fun h => by first | rfl | cases h))
theorem dX10_init_0 : decode cX10_init 0 = .ok (.aload_n 0, 1) := by decide +kernel
theorem dX10_init_1 : decode cX10_init 1 = .ok (.invokespecial 3, 3) := by decide +kernel
theorem dX10_init_4 : decode cX10_init 4 = .ok (.aload_n 0, 1) := by decide +kernel
theorem dX10_init_5 : decode cX10_init 5 = .ok (.bipush 36, 2) := by decide +kernel
theorem dX10_init_7 : decode cX10_init 7 = .ok (.newarray .int, 2) := by decide +kernel
theorem dX10_init_9 : decode cX10_init 9 = .ok (.putfield 9, 3) := by decide +kernel
theorem dX10_init_12 : decode cX10_init 12 = .ok (.aload_n 0, 1) := by decide +kernel
theorem dX10_init_13 : decode cX10_init 13 = .ok (.bipush 48, 2) := by decide +kernel
theorem dX10_init_15 : decode cX10_init 15 = .ok (.newarray .int, 2) := by decide +kernel
theorem dX10_init_17 : decode cX10_init 17 = .ok (.putfield 15, 3) := by decide +kernel
theorem dX10_init_20 : decode cX10_init 20 = .ok (.aload_n 0, 1) := by decide +kernel
theorem dX10_init_21 : decode cX10_init 21 = .ok (.bipush 48, 2) := by decide +kernel
theorem dX10_init_23 : decode cX10_init 23 = .ok (.newarray .int, 2) := by decide +kernel
theorem dX10_init_25 : decode cX10_init 25 = .ok (.putfield 18, 3) := by decide +kernel
theorem dX10_init_28 : decode cX10_init 28 = .ok (.aload_n 0, 1) := by decide +kernel
theorem dX10_init_29 : decode cX10_init 29 = .ok (.bipush 12, 2) := by decide +kernel
theorem dX10_init_31 : decode cX10_init 31 = .ok (.newarray .int, 2) := by decide +kernel
theorem dX10_init_33 : decode cX10_init 33 = .ok (.putfield 21, 3) := by decide +kernel
theorem dX10_init_36 : decode cX10_init 36 = .ok (.return_, 1) := by decide +kernel
def tX10_init (kn : sKn) : List (Nat × sA) := [(0, a_aload 0 1), (1, a_obj 4), (4, a_aload 0 5), (5, a_stk (q_int 36) 7), (7, a_newa 1 9), (9, a_put 11 0 ckR 12), (12, a_aload 0 13), (13, a_stk (q_int 48) 15), (15, a_newa 1 17), (17, a_put 11 1 ckR 20), (20, a_aload 0 21), (21, a_stk (q_int 48) 23), (23, a_newa 1 25), (25, a_put 11 2 ckR 28), (28, a_aload 0 29), (29, a_stk (q_int 12) 31), (31, a_newa 1 33), (33, a_put 11 3 ckR 36), (36, a_vret)]
def fX10_init (kn : sKn) : List Value → sW → Option sR := fW (tX10_init kn) 1
set_option maxRecDepth 100000 in
set_option maxHeartbeats 4000000 in
theorem mX10_init (kn : sKn) : mM kn yX10_init (Cond.code yX10_init cX10_init 1 none :: wsL_law) 1 true (fX10_init kn) := mM_W (fun n => mM_of (own := RX10) (ini := true) rfl (by decide +kernel) (by decide +kernel) (all_c (ok_aload_n dX10_init_0 rfl) (all_c (ok_obj (by decide) kw284 kw122 kw123 dX10_init_1) (all_c (ok_aload_n dX10_init_4 rfl) (all_c (ok_stk (s_bipush dX10_init_5 (by decide))) (all_c (ok_newI kw229 dX10_init_7) (all_c (okp_X10_0 kw236 dX10_init_9) (all_c (ok_aload_n dX10_init_12 rfl) (all_c (ok_stk (s_bipush dX10_init_13 (by decide))) (all_c (ok_newI kw229 dX10_init_15) (all_c (okp_X10_1 kw266 dX10_init_17) (all_c (ok_aload_n dX10_init_20 rfl) (all_c (ok_stk (s_bipush dX10_init_21 (by decide))) (all_c (ok_newI kw229 dX10_init_23) (all_c (okp_X10_2 kw260 dX10_init_25) (all_c (ok_aload_n dX10_init_28 rfl) (all_c (ok_stk (s_bipush dX10_init_29 (by decide))) (all_c (ok_newI kw229 dX10_init_31) (all_c (okp_X10_3 kw261 dX10_init_33) (all_c (ok_vret dX10_init_36) all_n))))))))))))))))))) n (fun h => by first | rfl | cases h))
theorem dX10_mostWeight_0 : decode cX10_mostWeight 0 = .ok (.aload_n 0, 1) := by decide +kernel
theorem dX10_mostWeight_1 : decode cX10_mostWeight 1 = .ok (.aload_n 1, 1) := by decide +kernel
theorem dX10_mostWeight_2 : decode cX10_mostWeight 2 = .ok (.aload_n 2, 1) := by decide +kernel
theorem dX10_mostWeight_3 : decode cX10_mostWeight 3 = .ok (.invokevirtual 58, 3) := by decide +kernel
theorem dX10_mostWeight_6 : decode cX10_mostWeight 6 = .ok (.aload_n 0, 1) := by decide +kernel
theorem dX10_mostWeight_7 : decode cX10_mostWeight 7 = .ok (.aload_n 1, 1) := by decide +kernel
theorem dX10_mostWeight_8 : decode cX10_mostWeight 8 = .ok (.getfield 51, 3) := by decide +kernel
theorem dX10_mostWeight_11 : decode cX10_mostWeight 11 = .ok (.iconst 0, 1) := by decide +kernel
theorem dX10_mostWeight_12 : decode cX10_mostWeight 12 = .ok (.iload_n 3, 1) := by decide +kernel
theorem dX10_mostWeight_13 : decode cX10_mostWeight 13 = .ok (.iconst 0, 1) := by decide +kernel
theorem dX10_mostWeight_14 : decode cX10_mostWeight 14 = .ok (.invokevirtual 99, 3) := by decide +kernel
theorem dX10_mostWeight_17 : decode cX10_mostWeight 17 = .ok (.iconst 0, 1) := by decide +kernel
theorem dX10_mostWeight_18 : decode cX10_mostWeight 18 = .ok (.aload_n 0, 1) := by decide +kernel
theorem dX10_mostWeight_19 : decode cX10_mostWeight 19 = .ok (.aload_n 1, 1) := by decide +kernel
theorem dX10_mostWeight_20 : decode cX10_mostWeight 20 = .ok (.getfield 51, 3) := by decide +kernel
theorem dX10_mostWeight_23 : decode cX10_mostWeight 23 = .ok (.invokevirtual 103, 3) := by decide +kernel
theorem dX10_mostWeight_26 : decode cX10_mostWeight 26 = .ok (.invokestatic 41, 3) := by decide +kernel
theorem dX10_mostWeight_29 : decode cX10_mostWeight 29 = .ok (.ireturn, 1) := by decide +kernel
def tX10_mostWeight (kn : sKn) : List (Nat × sA) := [(0, a_aload 0 1), (1, a_aload 1 2), (2, a_aload 2 3), (3, a_callV true (fX10_weigh kn) 11 3 6), (6, a_aload 0 7), (7, a_aload 1 8), (8, a_get 7 0 11), (11, a_stk (q_int 0) 12), (12, a_iload 3 13), (13, a_stk (q_int 0) 14), (14, a_callV true (fX10_spareSteps kn) 11 5 17), (17, a_stk (q_int 0) 18), (18, a_aload 0 19), (19, a_aload 1 20), (20, a_get 7 0 23), (23, a_callV false (fX10_greatestLeast kn) 11 2 26), (26, a_mmax 29), (29, a_iret)]
def fX10_mostWeight (kn : sKn) : List Value → sW → Option sR := fW (tX10_mostWeight kn) 4
set_option maxRecDepth 100000 in
set_option maxHeartbeats 4000000 in
theorem mX10_mostWeight (kn : sKn) : mM kn yX10_mostWeight (Cond.code yX10_mostWeight cX10_mostWeight 4 (some .int) :: wsL_law) 4 false (fX10_mostWeight kn) := mM_W (fun n => mM_of (own := RX10) (ini := false) rfl (by decide +kernel) (by decide +kernel) (all_c (ok_aload_n dX10_mostWeight_0 rfl) (all_c (ok_aload_n dX10_mostWeight_1 rfl) (all_c (ok_aload_n dX10_mostWeight_2 rfl) (all_c (okc_X10_weigh (by decide) kw253 dX10_mostWeight_3) (all_c (ok_aload_n dX10_mostWeight_6 rfl) (all_c (ok_aload_n dX10_mostWeight_7 rfl) (all_c (okg_X6_0 kw241 dX10_mostWeight_8) (all_c (ok_stk (s_iconst dX10_mostWeight_11 (by decide))) (all_c (ok_iload_n dX10_mostWeight_12 rfl) (all_c (ok_stk (s_iconst dX10_mostWeight_13 (by decide))) (all_c (okc_X10_spareSteps (by decide) kw275 dX10_mostWeight_14) (all_c (ok_stk (s_iconst dX10_mostWeight_17 (by decide))) (all_c (ok_aload_n dX10_mostWeight_18 rfl) (all_c (ok_aload_n dX10_mostWeight_19 rfl) (all_c (okg_X6_0 kw241 dX10_mostWeight_20) (all_c (okc_X10_greatestLeast (by decide) kw279 dX10_mostWeight_23) (all_c (ok_mmax (by decide) kw166 kw37 kw38 kw39 dX10_mostWeight_26) (all_c (ok_iret dX10_mostWeight_29) all_n)))))))))))))))))) n (fun h => by first | rfl | cases h))
theorem dX10_tryCrossing_0 : decode cX10_tryCrossing 0 = .ok (.aload_n 2, 1) := by decide +kernel
theorem dX10_tryCrossing_1 : decode cX10_tryCrossing 1 = .ok (.getfield 85, 3) := by decide +kernel
theorem dX10_tryCrossing_4 : decode cX10_tryCrossing 4 = .ok (.iload_n 3, 1) := by decide +kernel
theorem dX10_tryCrossing_5 : decode cX10_tryCrossing 5 = .ok (.ishr, 1) := by decide +kernel
theorem dX10_tryCrossing_6 : decode cX10_tryCrossing 6 = .ok (.iconst 1, 1) := by decide +kernel
theorem dX10_tryCrossing_7 : decode cX10_tryCrossing 7 = .ok (.iand, 1) := by decide +kernel
theorem dX10_tryCrossing_8 : decode cX10_tryCrossing 8 = .ok (.ifCond .eq 5, 3) := by decide +kernel
theorem dX10_tryCrossing_11 : decode cX10_tryCrossing 11 = .ok (.iconst 1, 1) := by decide +kernel
theorem dX10_tryCrossing_12 : decode cX10_tryCrossing 12 = .ok (.ireturn, 1) := by decide +kernel
theorem dX10_tryCrossing_13 : decode cX10_tryCrossing 13 = .ok (.aload_n 0, 1) := by decide +kernel
theorem dX10_tryCrossing_14 : decode cX10_tryCrossing 14 = .ok (.aload_n 1, 1) := by decide +kernel
theorem dX10_tryCrossing_15 : decode cX10_tryCrossing 15 = .ok (.aload_n 2, 1) := by decide +kernel
theorem dX10_tryCrossing_16 : decode cX10_tryCrossing 16 = .ok (.invokevirtual 58, 3) := by decide +kernel
theorem dX10_tryCrossing_19 : decode cX10_tryCrossing 19 = .ok (.aload_n 0, 1) := by decide +kernel
theorem dX10_tryCrossing_20 : decode cX10_tryCrossing 20 = .ok (.aload_n 1, 1) := by decide +kernel
theorem dX10_tryCrossing_21 : decode cX10_tryCrossing 21 = .ok (.iload_n 3, 1) := by decide +kernel
theorem dX10_tryCrossing_22 : decode cX10_tryCrossing 22 = .ok (.invokevirtual 78, 3) := by decide +kernel
theorem dX10_tryCrossing_25 : decode cX10_tryCrossing 25 = .ok (.istore 4, 2) := by decide +kernel
theorem dX10_tryCrossing_27 : decode cX10_tryCrossing 27 = .ok (.iload 4, 2) := by decide +kernel
theorem dX10_tryCrossing_29 : decode cX10_tryCrossing 29 = .ok (.iconst (-1), 1) := by decide +kernel
theorem dX10_tryCrossing_30 : decode cX10_tryCrossing 30 = .ok (.if_icmp .ne 15, 3) := by decide +kernel
theorem dX10_tryCrossing_33 : decode cX10_tryCrossing 33 = .ok (.aload_n 2, 1) := by decide +kernel
theorem dX10_tryCrossing_34 : decode cX10_tryCrossing 34 = .ok (.getfield 88, 3) := by decide +kernel
theorem dX10_tryCrossing_37 : decode cX10_tryCrossing 37 = .ok (.iload_n 3, 1) := by decide +kernel
theorem dX10_tryCrossing_38 : decode cX10_tryCrossing 38 = .ok (.dup2, 1) := by decide +kernel
theorem dX10_tryCrossing_39 : decode cX10_tryCrossing 39 = .ok (.iaload, 1) := by decide +kernel
theorem dX10_tryCrossing_40 : decode cX10_tryCrossing 40 = .ok (.iconst 1, 1) := by decide +kernel
theorem dX10_tryCrossing_41 : decode cX10_tryCrossing 41 = .ok (.iadd, 1) := by decide +kernel
theorem dX10_tryCrossing_42 : decode cX10_tryCrossing 42 = .ok (.iastore, 1) := by decide +kernel
theorem dX10_tryCrossing_43 : decode cX10_tryCrossing 43 = .ok (.iconst 0, 1) := by decide +kernel
theorem dX10_tryCrossing_44 : decode cX10_tryCrossing 44 = .ok (.ireturn, 1) := by decide +kernel
theorem dX10_tryCrossing_45 : decode cX10_tryCrossing 45 = .ok (.aload_n 2, 1) := by decide +kernel
theorem dX10_tryCrossing_46 : decode cX10_tryCrossing 46 = .ok (.dup, 1) := by decide +kernel
theorem dX10_tryCrossing_47 : decode cX10_tryCrossing 47 = .ok (.getfield 85, 3) := by decide +kernel
theorem dX10_tryCrossing_50 : decode cX10_tryCrossing 50 = .ok (.iconst 1, 1) := by decide +kernel
theorem dX10_tryCrossing_51 : decode cX10_tryCrossing 51 = .ok (.iload_n 3, 1) := by decide +kernel
theorem dX10_tryCrossing_52 : decode cX10_tryCrossing 52 = .ok (.ishl, 1) := by decide +kernel
theorem dX10_tryCrossing_53 : decode cX10_tryCrossing 53 = .ok (.ior, 1) := by decide +kernel
theorem dX10_tryCrossing_54 : decode cX10_tryCrossing 54 = .ok (.putfield 85, 3) := by decide +kernel
theorem dX10_tryCrossing_57 : decode cX10_tryCrossing 57 = .ok (.aload_n 0, 1) := by decide +kernel
theorem dX10_tryCrossing_58 : decode cX10_tryCrossing 58 = .ok (.aload_n 2, 1) := by decide +kernel
theorem dX10_tryCrossing_59 : decode cX10_tryCrossing 59 = .ok (.iload 4, 2) := by decide +kernel
theorem dX10_tryCrossing_61 : decode cX10_tryCrossing 61 = .ok (.aload_n 1, 1) := by decide +kernel
theorem dX10_tryCrossing_62 : decode cX10_tryCrossing 62 = .ok (.getfield 69, 3) := by decide +kernel
theorem dX10_tryCrossing_65 : decode cX10_tryCrossing 65 = .ok (.iload_n 3, 1) := by decide +kernel
theorem dX10_tryCrossing_66 : decode cX10_tryCrossing 66 = .ok (.iaload, 1) := by decide +kernel
theorem dX10_tryCrossing_67 : decode cX10_tryCrossing 67 = .ok (.invokevirtual 91, 3) := by decide +kernel
theorem dX10_tryCrossing_70 : decode cX10_tryCrossing 70 = .ok (.iconst 2, 1) := by decide +kernel
theorem dX10_tryCrossing_71 : decode cX10_tryCrossing 71 = .ok (.ireturn, 1) := by decide +kernel
theorem okc_X10_dropPlanks {kn : sKn} {cc : ByteArray} {own : String} {nL : Nat} {D : Nat} {ret : Option FieldType} {ini : Bool} {pc index : Nat} (hD : 2 + 1 ≤ D) (hl : Cond.methodLink own index yX10_dropPlanks ∈ wsL_law) (hd : decode cc pc = .ok (.invokevirtual index, 3)) : mOk kn cc own nL wsL_law D ret ini pc (a_callV true (fX10_dropPlanks kn) 11 (3 + 1) (pc + 3)) := ok_callV (mX10_dropPlanks kn) (good_ws ws_good (fun _ h => h) kw286) hD (by decide) hl kw287 kw288 kw170 ⟨by decide +kernel, by decide +kernel, by decide +kernel⟩ rfl hd
def tX10_tryCrossing (kn : sKn) : List (Nat × sA) := [(0, a_aload 2 1), (1, a_get 9 2 4), (4, a_iload 3 5), (5, a_stk q_ishr 6), (6, a_stk (q_int 1) 7), (7, a_stk q_iand 8), (8, a_if kn b_eq 0 13 11), (11, a_stk (q_int 1) 12), (12, a_iret), (13, a_aload 0 14), (14, a_aload 1 15), (15, a_aload 2 16), (16, a_callV true (fX10_weigh kn) 11 3 19), (19, a_aload 0 20), (20, a_aload 1 21), (21, a_iload 3 22), (22, a_callV false (fX10_lostRow kn) 11 3 25), (25, a_istore 4 27), (27, a_iload 4 29), (29, a_stk (q_int (-1)) 30), (30, a_icmp kn b_ne 1 45 33), (33, a_aload 2 34), (34, a_get 9 8 37), (37, a_iload 3 38), (38, a_stk q_dup2 39), (39, a_iald 40), (40, a_stk (q_int 1) 41), (41, a_stk q_iadd 42), (42, a_iast 43), (43, a_stk (q_int 0) 44), (44, a_iret), (45, a_aload 2 46), (46, a_stk q_dup 47), (47, a_get 9 2 50), (50, a_stk (q_int 1) 51), (51, a_iload 3 52), (52, a_stk q_ishl 53), (53, a_stk q_ior 54), (54, a_put 9 2 ckI 57), (57, a_aload 0 58), (58, a_aload 2 59), (59, a_iload 4 61), (61, a_aload 1 62), (62, a_get 7 14 65), (65, a_iload 3 66), (66, a_iald 67), (67, a_callV true (fX10_dropPlanks kn) 11 4 70), (70, a_stk (q_int 2) 71), (71, a_iret)]
def fX10_tryCrossing (kn : sKn) : List Value → sW → Option sR := fW (tX10_tryCrossing kn) 5
set_option maxRecDepth 100000 in
set_option maxHeartbeats 4000000 in
theorem mX10_tryCrossing (kn : sKn) : mM kn yX10_tryCrossing (Cond.code yX10_tryCrossing cX10_tryCrossing 5 (some .int) :: wsL_law) 4 false (fX10_tryCrossing kn) := mM_W (fun n => mM_of (own := RX10) (ini := false) rfl (by decide +kernel) (by decide +kernel) (all_c (ok_aload_n dX10_tryCrossing_0 rfl) (all_c (okg_X8_2 kw255 dX10_tryCrossing_1) (all_c (ok_iload_n dX10_tryCrossing_4 rfl) (all_c (ok_stk (s_ishr dX10_tryCrossing_5)) (all_c (ok_stk (s_iconst dX10_tryCrossing_6 (by decide))) (all_c (ok_stk (s_iand dX10_tryCrossing_7)) (all_c (ok_if_eq dX10_tryCrossing_8 (by decide)) (all_c (ok_stk (s_iconst dX10_tryCrossing_11 (by decide))) (all_c (ok_iret dX10_tryCrossing_12) (all_c (ok_aload_n dX10_tryCrossing_13 rfl) (all_c (ok_aload_n dX10_tryCrossing_14 rfl) (all_c (ok_aload_n dX10_tryCrossing_15 rfl) (all_c (okc_X10_weigh (by decide) kw253 dX10_tryCrossing_16) (all_c (ok_aload_n dX10_tryCrossing_19 rfl) (all_c (ok_aload_n dX10_tryCrossing_20 rfl) (all_c (ok_iload_n dX10_tryCrossing_21 rfl) (all_c (okc_X10_lostRow (by decide) kw259 dX10_tryCrossing_22) (all_c (ok_istore dX10_tryCrossing_25 (by decide)) (all_c (ok_iload dX10_tryCrossing_27) (all_c (ok_stk (s_iconst dX10_tryCrossing_29 (by decide))) (all_c (ok_icmp_ne dX10_tryCrossing_30 (by decide)) (all_c (ok_aload_n dX10_tryCrossing_33 rfl) (all_c (okg_X8_8 kw285 dX10_tryCrossing_34) (all_c (ok_iload_n dX10_tryCrossing_37 rfl) (all_c (ok_stk (s_dup2 dX10_tryCrossing_38)) (all_c (ok_iald dX10_tryCrossing_39) (all_c (ok_stk (s_iconst dX10_tryCrossing_40 (by decide))) (all_c (ok_stk (s_iadd dX10_tryCrossing_41)) (all_c (ok_iast dX10_tryCrossing_42) (all_c (ok_stk (s_iconst dX10_tryCrossing_43 (by decide))) (all_c (ok_iret dX10_tryCrossing_44) (all_c (ok_aload_n dX10_tryCrossing_45 rfl) (all_c (ok_stk (s_dup dX10_tryCrossing_46)) (all_c (okg_X8_2 kw255 dX10_tryCrossing_47) (all_c (ok_stk (s_iconst dX10_tryCrossing_50 (by decide))) (all_c (ok_iload_n dX10_tryCrossing_51 rfl) (all_c (ok_stk (s_ishl dX10_tryCrossing_52)) (all_c (ok_stk (s_ior dX10_tryCrossing_53)) (all_c (okp_X8_2 kw255 dX10_tryCrossing_54) (all_c (ok_aload_n dX10_tryCrossing_57 rfl) (all_c (ok_aload_n dX10_tryCrossing_58 rfl) (all_c (ok_iload dX10_tryCrossing_59) (all_c (ok_aload_n dX10_tryCrossing_61 rfl) (all_c (okg_X6_14 kw243 dX10_tryCrossing_62) (all_c (ok_iload_n dX10_tryCrossing_65 rfl) (all_c (ok_iald dX10_tryCrossing_66) (all_c (okc_X10_dropPlanks (by decide) kw289 dX10_tryCrossing_67) (all_c (ok_stk (s_iconst dX10_tryCrossing_70 (by decide))) (all_c (ok_iret dX10_tryCrossing_71) all_n))))))))))))))))))))))))))))))))))))))))))))))))) n (fun h => by first | rfl | cases h))
theorem dX10_weighRow_0 : decode cX10_weighRow 0 = .ok (.iconst 0, 1) := by decide +kernel
theorem dX10_weighRow_1 : decode cX10_weighRow 1 = .ok (.istore 5, 2) := by decide +kernel
theorem dX10_weighRow_3 : decode cX10_weighRow 3 = .ok (.iload 5, 2) := by decide +kernel
theorem dX10_weighRow_5 : decode cX10_weighRow 5 = .ok (.iconst 3, 1) := by decide +kernel
theorem dX10_weighRow_6 : decode cX10_weighRow 6 = .ok (.if_icmp .ge 33, 3) := by decide +kernel
theorem dX10_weighRow_9 : decode cX10_weighRow 9 = .ok (.iconst 3, 1) := by decide +kernel
theorem dX10_weighRow_10 : decode cX10_weighRow 10 = .ok (.iload 4, 2) := by decide +kernel
theorem dX10_weighRow_12 : decode cX10_weighRow 12 = .ok (.imul, 1) := by decide +kernel
theorem dX10_weighRow_13 : decode cX10_weighRow 13 = .ok (.iload 5, 2) := by decide +kernel
theorem dX10_weighRow_15 : decode cX10_weighRow 15 = .ok (.iadd, 1) := by decide +kernel
theorem dX10_weighRow_16 : decode cX10_weighRow 16 = .ok (.istore 6, 2) := by decide +kernel
theorem dX10_weighRow_18 : decode cX10_weighRow 18 = .ok (.aload_n 0, 1) := by decide +kernel
theorem dX10_weighRow_19 : decode cX10_weighRow 19 = .ok (.getfield 9, 3) := by decide +kernel
theorem dX10_weighRow_22 : decode cX10_weighRow 22 = .ok (.iload 6, 2) := by decide +kernel
theorem dX10_weighRow_24 : decode cX10_weighRow 24 = .ok (.aload_n 1, 1) := by decide +kernel
theorem dX10_weighRow_25 : decode cX10_weighRow 25 = .ok (.aload_n 2, 1) := by decide +kernel
theorem dX10_weighRow_26 : decode cX10_weighRow 26 = .ok (.iload_n 3, 1) := by decide +kernel
theorem dX10_weighRow_27 : decode cX10_weighRow 27 = .ok (.iload 6, 2) := by decide +kernel
theorem dX10_weighRow_29 : decode cX10_weighRow 29 = .ok (.invokestatic 47, 3) := by decide +kernel
theorem dX10_weighRow_32 : decode cX10_weighRow 32 = .ok (.iastore, 1) := by decide +kernel
theorem dX10_weighRow_33 : decode cX10_weighRow 33 = .ok (.iinc 5 1, 3) := by decide +kernel
theorem dX10_weighRow_36 : decode cX10_weighRow 36 = .ok (.goto (-33), 3) := by decide +kernel
theorem dX10_weighRow_39 : decode cX10_weighRow 39 = .ok (.return_, 1) := by decide +kernel
def tX10_weighRow (kn : sKn) : List (Nat × sA) := [(0, a_stk (q_int 0) 1), (1, a_istore 5 3), (3, a_iload 5 5), (5, a_stk (q_int 3) 6), (6, a_icmp kn b_ge 3 39 9), (9, a_stk (q_int 3) 10), (10, a_iload 4 12), (12, a_stk q_imul 13), (13, a_iload 5 15), (15, a_stk q_iadd 16), (16, a_istore 6 18), (18, a_aload 0 19), (19, a_get 11 0 22), (22, a_iload 6 24), (24, a_aload 1 25), (25, a_aload 2 26), (26, a_iload 3 27), (27, a_iload 6 29), (29, a_callS false (fX10_bearing kn) 4 32), (32, a_iast 33), (33, a_iinc 5 1 36), (36, a_goto 3), (39, a_vret)]
def fX10_weighRow (kn : sKn) : List Value → sW → Option sR := fW (tX10_weighRow kn) 7
set_option maxRecDepth 100000 in
set_option maxHeartbeats 4000000 in
theorem mX10_weighRow (kn : sKn) : mM kn yX10_weighRow (Cond.code yX10_weighRow cX10_weighRow 7 none :: wsL_law) 3 true (fX10_weighRow kn) := mM_W (fun n => mM_of (own := RX10) (ini := false) rfl (by decide +kernel) (by decide +kernel) (all_c (ok_stk (s_iconst dX10_weighRow_0 (by decide))) (all_c (ok_istore dX10_weighRow_1 (by decide)) (all_c (ok_iload dX10_weighRow_3) (all_c (ok_stk (s_iconst dX10_weighRow_5 (by decide))) (all_c (ok_icmp_ge dX10_weighRow_6 (by decide)) (all_c (ok_stk (s_iconst dX10_weighRow_9 (by decide))) (all_c (ok_iload dX10_weighRow_10) (all_c (ok_stk (s_imul dX10_weighRow_12)) (all_c (ok_iload dX10_weighRow_13) (all_c (ok_stk (s_iadd dX10_weighRow_15)) (all_c (ok_istore dX10_weighRow_16 (by decide)) (all_c (ok_aload_n dX10_weighRow_18 rfl) (all_c (okg_X10_0 kw236 dX10_weighRow_19) (all_c (ok_iload dX10_weighRow_22) (all_c (ok_aload_n dX10_weighRow_24 rfl) (all_c (ok_aload_n dX10_weighRow_25 rfl) (all_c (ok_iload_n dX10_weighRow_26 rfl) (all_c (ok_iload dX10_weighRow_27) (all_c (okc_X10_bearing (by decide) kw249 dX10_weighRow_29) (all_c (ok_iast dX10_weighRow_32) (all_c (ok_iinc dX10_weighRow_33 (by decide) (by decide)) (all_c (ok_goto dX10_weighRow_36 (by decide)) (all_c (ok_vret dX10_weighRow_39) all_n))))))))))))))))))))))) n (fun h => by first | rfl | cases h))
theorem dX11_able_0 : decode cX11_able 0 = .ok (.aload_n 0, 1) := by decide +kernel
theorem dX11_able_1 : decode cX11_able 1 = .ok (.getfield 57, 3) := by decide +kernel
theorem dX11_able_4 : decode cX11_able 4 = .ok (.aload_n 0, 1) := by decide +kernel
theorem dX11_able_5 : decode cX11_able 5 = .ok (.getfield 26, 3) := by decide +kernel
theorem dX11_able_8 : decode cX11_able 8 = .ok (.aload_n 0, 1) := by decide +kernel
theorem dX11_able_9 : decode cX11_able 9 = .ok (.getfield 33, 3) := by decide +kernel
theorem dX11_able_12 : decode cX11_able 12 = .ok (.invokevirtual 298, 3) := by decide +kernel
theorem dX11_able_15 : decode cX11_able 15 = .ok (.invokestatic 301, 3) := by decide +kernel
theorem dX11_able_18 : decode cX11_able 18 = .ok (.ireturn, 1) := by decide +kernel
theorem okc_X10_ableLoads {kn : sKn} {cc : ByteArray} {own : String} {nL : Nat} {D : Nat} {ret : Option FieldType} {ini : Bool} {pc index : Nat} (hD : 4 + 1 ≤ D) (hl : Cond.methodLink own index yX10_ableLoads ∈ wsL_law) (hd : decode cc pc = .ok (.invokevirtual index, 3)) : mOk kn cc own nL wsL_law D ret ini pc (a_callV false (fX10_ableLoads kn) 11 (2 + 1) (pc + 3)) := ok_callV (mX10_ableLoads kn) (good_ws ws_good (fun _ h => h) kw293) hD (by decide) hl kw294 kw295 kw170 ⟨by decide +kernel, by decide +kernel, by decide +kernel⟩ rfl hd
theorem okc_J6_bitCount_0f7a4 {kn : sKn} {cc : ByteArray} {own : String} {nL : Nat} {D : Nat} {ret : Option FieldType} {ini : Bool} {pc index : Nat} (hD : 1 + 1 ≤ D) (hl : Cond.methodLink own index yJ6_bitCount_0f7a4 ∈ wsL_law) (hd : decode cc pc = .ok (.invokestatic index, 3)) : mOk kn cc own nL wsL_law D ret ini pc (a_callS false (fJ6_bitCount_0f7a4 kn) 1 (pc + 3)) := ok_callS (mJ6_bitCount_0f7a4 kn) (good_ws ws_good (fun _ h => h) kw297) hD (by decide) hl kw299 kw298 ⟨by decide +kernel, by decide +kernel, by decide +kernel⟩ hd
def tX11_able (kn : sKn) : List (Nat × sA) := [(0, a_aload 0 1), (1, a_get 12 7 4), (4, a_aload 0 5), (5, a_get 12 2 8), (8, a_aload 0 9), (9, a_get 12 3 12), (12, a_callV false (fX10_ableLoads kn) 11 3 15), (15, a_callS false (fJ6_bitCount_0f7a4 kn) 1 18), (18, a_iret)]
def fX11_able (kn : sKn) : List Value → sW → Option sR := fW (tX11_able kn) 1
set_option maxRecDepth 100000 in
set_option maxHeartbeats 4000000 in
theorem mX11_able (kn : sKn) : mM kn yX11_able (Cond.code yX11_able cX11_able 1 (some .int) :: wsL_law) 5 false (fX11_able kn) := mM_W (fun n => mM_of (own := RX11) (ini := false) rfl (by decide +kernel) (by decide +kernel) (all_c (ok_aload_n dX11_able_0 rfl) (all_c (okg_X11_7 kw290 dX11_able_1) (all_c (ok_aload_n dX11_able_4 rfl) (all_c (okg_X11_2 kw291 dX11_able_5) (all_c (ok_aload_n dX11_able_8 rfl) (all_c (okg_X11_3 kw292 dX11_able_9) (all_c (okc_X10_ableLoads (by decide) kw296 dX11_able_12) (all_c (okc_J6_bitCount_0f7a4 (by decide) kw300 dX11_able_15) (all_c (ok_iret dX11_able_18) all_n))))))))) n (fun h => by first | rfl | cases h))
theorem dX11_isRow_0 : decode cX11_isRow 0 = .ok (.iload_n 1, 1) := by decide +kernel
theorem dX11_isRow_1 : decode cX11_isRow 1 = .ok (.ifCond .lt 18, 3) := by decide +kernel
theorem dX11_isRow_4 : decode cX11_isRow 4 = .ok (.iload_n 1, 1) := by decide +kernel
theorem dX11_isRow_5 : decode cX11_isRow 5 = .ok (.aload_n 0, 1) := by decide +kernel
theorem dX11_isRow_6 : decode cX11_isRow 6 = .ok (.getfield 26, 3) := by decide +kernel
theorem dX11_isRow_9 : decode cX11_isRow 9 = .ok (.getfield 398, 3) := by decide +kernel
theorem dX11_isRow_12 : decode cX11_isRow 12 = .ok (.if_icmp .ge 7, 3) := by decide +kernel
theorem dX11_isRow_15 : decode cX11_isRow 15 = .ok (.iconst 1, 1) := by decide +kernel
theorem dX11_isRow_16 : decode cX11_isRow 16 = .ok (.goto 4, 3) := by decide +kernel
theorem dX11_isRow_19 : decode cX11_isRow 19 = .ok (.iconst 0, 1) := by decide +kernel
theorem dX11_isRow_20 : decode cX11_isRow 20 = .ok (.ireturn, 1) := by decide +kernel
def tX11_isRow (kn : sKn) : List (Nat × sA) := [(0, a_iload 1 1), (1, a_if kn b_lt 2 19 4), (4, a_iload 1 5), (5, a_aload 0 6), (6, a_get 12 2 9), (9, a_get 7 0 12), (12, a_icmp kn b_ge 3 19 15), (15, a_stk (q_int 1) 16), (16, a_goto 20), (19, a_stk (q_int 0) 20), (20, a_zret)]
def fX11_isRow (kn : sKn) : List Value → sW → Option sR := fW (tX11_isRow kn) 2
set_option maxRecDepth 100000 in
set_option maxHeartbeats 4000000 in
theorem mX11_isRow (kn : sKn) : mM kn yX11_isRow (Cond.code yX11_isRow cX11_isRow 2 (some .boolean) :: wsL_law) 1 false (fX11_isRow kn) := mM_W (fun n => mM_of (own := RX11) (ini := false) rfl (by decide +kernel) (by decide +kernel) (all_c (ok_iload_n dX11_isRow_0 rfl) (all_c (ok_if_lt dX11_isRow_1 (by decide)) (all_c (ok_iload_n dX11_isRow_4 rfl) (all_c (ok_aload_n dX11_isRow_5 rfl) (all_c (okg_X11_2 kw291 dX11_isRow_6) (all_c (okg_X6_0 kw301 dX11_isRow_9) (all_c (ok_icmp_ge dX11_isRow_12 (by decide)) (all_c (ok_stk (s_iconst dX11_isRow_15 (by decide))) (all_c (ok_goto dX11_isRow_16 (by decide)) (all_c (ok_stk (s_iconst dX11_isRow_19 (by decide))) (all_c (ok_zret dX11_isRow_20) all_n))))))))))) n (fun h => by first | rfl | cases h))
theorem dX11_isPlace_0 : decode cX11_isPlace 0 = .ok (.aload_n 0, 1) := by decide +kernel
theorem dX11_isPlace_1 : decode cX11_isPlace 1 = .ok (.iload_n 1, 1) := by decide +kernel
theorem dX11_isPlace_2 : decode cX11_isPlace 2 = .ok (.invokevirtual 279, 3) := by decide +kernel
theorem dX11_isPlace_5 : decode cX11_isPlace 5 = .ok (.ifCond .eq 16, 3) := by decide +kernel
theorem dX11_isPlace_8 : decode cX11_isPlace 8 = .ok (.iload_n 2, 1) := by decide +kernel
theorem dX11_isPlace_9 : decode cX11_isPlace 9 = .ok (.ifCond .lt 12, 3) := by decide +kernel
theorem dX11_isPlace_12 : decode cX11_isPlace 12 = .ok (.iload_n 2, 1) := by decide +kernel
theorem dX11_isPlace_13 : decode cX11_isPlace 13 = .ok (.iconst 3, 1) := by decide +kernel
theorem dX11_isPlace_14 : decode cX11_isPlace 14 = .ok (.if_icmp .ge 7, 3) := by decide +kernel
theorem dX11_isPlace_17 : decode cX11_isPlace 17 = .ok (.iconst 1, 1) := by decide +kernel
theorem dX11_isPlace_18 : decode cX11_isPlace 18 = .ok (.goto 4, 3) := by decide +kernel
theorem dX11_isPlace_21 : decode cX11_isPlace 21 = .ok (.iconst 0, 1) := by decide +kernel
theorem dX11_isPlace_22 : decode cX11_isPlace 22 = .ok (.ireturn, 1) := by decide +kernel
theorem okc_X11_isRow {kn : sKn} {cc : ByteArray} {own : String} {nL : Nat} {D : Nat} {ret : Option FieldType} {ini : Bool} {pc index : Nat} (hD : 1 + 1 ≤ D) (hl : Cond.methodLink own index yX11_isRow ∈ wsL_law) (hd : decode cc pc = .ok (.invokevirtual index, 3)) : mOk kn cc own nL wsL_law D ret ini pc (a_callV false (fX11_isRow kn) 12 (1 + 1) (pc + 3)) := ok_callV (mX11_isRow kn) (good_ws ws_good (fun _ h => h) kw302) hD (by decide) hl kw304 kw305 kw303 ⟨by decide +kernel, by decide +kernel, by decide +kernel⟩ rfl hd
def tX11_isPlace (kn : sKn) : List (Nat × sA) := [(0, a_aload 0 1), (1, a_iload 1 2), (2, a_callV false (fX11_isRow kn) 12 2 5), (5, a_if kn b_eq 0 21 8), (8, a_iload 2 9), (9, a_if kn b_lt 2 21 12), (12, a_iload 2 13), (13, a_stk (q_int 3) 14), (14, a_icmp kn b_ge 3 21 17), (17, a_stk (q_int 1) 18), (18, a_goto 22), (21, a_stk (q_int 0) 22), (22, a_zret)]
def fX11_isPlace (kn : sKn) : List Value → sW → Option sR := fW (tX11_isPlace kn) 3
set_option maxRecDepth 100000 in
set_option maxHeartbeats 4000000 in
theorem mX11_isPlace (kn : sKn) : mM kn yX11_isPlace (Cond.code yX11_isPlace cX11_isPlace 3 (some .boolean) :: wsL_law) 2 false (fX11_isPlace kn) := mM_W (fun n => mM_of (own := RX11) (ini := false) rfl (by decide +kernel) (by decide +kernel) (all_c (ok_aload_n dX11_isPlace_0 rfl) (all_c (ok_iload_n dX11_isPlace_1 rfl) (all_c (okc_X11_isRow (by decide) kw306 dX11_isPlace_2) (all_c (ok_if_eq dX11_isPlace_5 (by decide)) (all_c (ok_iload_n dX11_isPlace_8 rfl) (all_c (ok_if_lt dX11_isPlace_9 (by decide)) (all_c (ok_iload_n dX11_isPlace_12 rfl) (all_c (ok_stk (s_iconst dX11_isPlace_13 (by decide))) (all_c (ok_icmp_ge dX11_isPlace_14 (by decide)) (all_c (ok_stk (s_iconst dX11_isPlace_17 (by decide))) (all_c (ok_goto dX11_isPlace_18 (by decide)) (all_c (ok_stk (s_iconst dX11_isPlace_21 (by decide))) (all_c (ok_zret dX11_isPlace_22) all_n))))))))))))) n (fun h => by first | rfl | cases h))
theorem dX11_asked_0 : decode cX11_asked 0 = .ok (.aload_n 0, 1) := by decide +kernel
theorem dX11_asked_1 : decode cX11_asked 1 = .ok (.iload_n 1, 1) := by decide +kernel
theorem dX11_asked_2 : decode cX11_asked 2 = .ok (.iload_n 2, 1) := by decide +kernel
theorem dX11_asked_3 : decode cX11_asked 3 = .ok (.invokevirtual 181, 3) := by decide +kernel
theorem dX11_asked_6 : decode cX11_asked 6 = .ok (.ifCond .ne 5, 3) := by decide +kernel
theorem dX11_asked_9 : decode cX11_asked 9 = .ok (.iconst (-1), 1) := by decide +kernel
theorem dX11_asked_10 : decode cX11_asked 10 = .ok (.ireturn, 1) := by decide +kernel
theorem dX11_asked_11 : decode cX11_asked 11 = .ok (.aload_n 0, 1) := by decide +kernel
theorem dX11_asked_12 : decode cX11_asked 12 = .ok (.getfield 64, 3) := by decide +kernel
theorem dX11_asked_15 : decode cX11_asked 15 = .ok (.getfield 291, 3) := by decide +kernel
theorem dX11_asked_18 : decode cX11_asked 18 = .ok (.iconst 3, 1) := by decide +kernel
theorem dX11_asked_19 : decode cX11_asked 19 = .ok (.iload_n 1, 1) := by decide +kernel
theorem dX11_asked_20 : decode cX11_asked 20 = .ok (.imul, 1) := by decide +kernel
theorem dX11_asked_21 : decode cX11_asked 21 = .ok (.iload_n 2, 1) := by decide +kernel
theorem dX11_asked_22 : decode cX11_asked 22 = .ok (.iadd, 1) := by decide +kernel
theorem dX11_asked_23 : decode cX11_asked 23 = .ok (.iaload, 1) := by decide +kernel
theorem dX11_asked_24 : decode cX11_asked 24 = .ok (.ireturn, 1) := by decide +kernel
theorem okc_X11_isPlace {kn : sKn} {cc : ByteArray} {own : String} {nL : Nat} {D : Nat} {ret : Option FieldType} {ini : Bool} {pc index : Nat} (hD : 2 + 1 ≤ D) (hl : Cond.methodLink own index yX11_isPlace ∈ wsL_law) (hd : decode cc pc = .ok (.invokevirtual index, 3)) : mOk kn cc own nL wsL_law D ret ini pc (a_callV false (fX11_isPlace kn) 12 (2 + 1) (pc + 3)) := ok_callV (mX11_isPlace kn) (good_ws ws_good (fun _ h => h) kw307) hD (by decide) hl kw308 kw309 kw303 ⟨by decide +kernel, by decide +kernel, by decide +kernel⟩ rfl hd
def tX11_asked (kn : sKn) : List (Nat × sA) := [(0, a_aload 0 1), (1, a_iload 1 2), (2, a_iload 2 3), (3, a_callV false (fX11_isPlace kn) 12 3 6), (6, a_if kn b_ne 1 11 9), (9, a_stk (q_int (-1)) 10), (10, a_iret), (11, a_aload 0 12), (12, a_get 12 8 15), (15, a_get 1 4 18), (18, a_stk (q_int 3) 19), (19, a_iload 1 20), (20, a_stk q_imul 21), (21, a_iload 2 22), (22, a_stk q_iadd 23), (23, a_iald 24), (24, a_iret)]
def fX11_asked (kn : sKn) : List Value → sW → Option sR := fW (tX11_asked kn) 3
set_option maxRecDepth 100000 in
set_option maxHeartbeats 4000000 in
theorem mX11_asked (kn : sKn) : mM kn yX11_asked (Cond.code yX11_asked cX11_asked 3 (some .int) :: wsL_law) 3 false (fX11_asked kn) := mM_W (fun n => mM_of (own := RX11) (ini := false) rfl (by decide +kernel) (by decide +kernel) (all_c (ok_aload_n dX11_asked_0 rfl) (all_c (ok_iload_n dX11_asked_1 rfl) (all_c (ok_iload_n dX11_asked_2 rfl) (all_c (okc_X11_isPlace (by decide) kw310 dX11_asked_3) (all_c (ok_if_ne dX11_asked_6 (by decide)) (all_c (ok_stk (s_iconst dX11_asked_9 (by decide))) (all_c (ok_iret dX11_asked_10) (all_c (ok_aload_n dX11_asked_11 rfl) (all_c (okg_X11_8 kw311 dX11_asked_12) (all_c (okg_X0_4 kw312 dX11_asked_15) (all_c (ok_stk (s_iconst dX11_asked_18 (by decide))) (all_c (ok_iload_n dX11_asked_19 rfl) (all_c (ok_stk (s_imul dX11_asked_20)) (all_c (ok_iload_n dX11_asked_21 rfl) (all_c (ok_stk (s_iadd dX11_asked_22)) (all_c (ok_iald dX11_asked_23) (all_c (ok_iret dX11_asked_24) all_n))))))))))))))))) n (fun h => by first | rfl | cases h))
theorem dX11_isLoad_0 : decode cX11_isLoad 0 = .ok (.iload_n 1, 1) := by decide +kernel
theorem dX11_isLoad_1 : decode cX11_isLoad 1 = .ok (.ifCond .lt 18, 3) := by decide +kernel
theorem dX11_isLoad_4 : decode cX11_isLoad 4 = .ok (.iload_n 1, 1) := by decide +kernel
theorem dX11_isLoad_5 : decode cX11_isLoad 5 = .ok (.aload_n 0, 1) := by decide +kernel
theorem dX11_isLoad_6 : decode cX11_isLoad 6 = .ok (.getfield 26, 3) := by decide +kernel
theorem dX11_isLoad_9 : decode cX11_isLoad 9 = .ok (.getfield 401, 3) := by decide +kernel
theorem dX11_isLoad_12 : decode cX11_isLoad 12 = .ok (.if_icmp .ge 7, 3) := by decide +kernel
theorem dX11_isLoad_15 : decode cX11_isLoad 15 = .ok (.iconst 1, 1) := by decide +kernel
theorem dX11_isLoad_16 : decode cX11_isLoad 16 = .ok (.goto 4, 3) := by decide +kernel
theorem dX11_isLoad_19 : decode cX11_isLoad 19 = .ok (.iconst 0, 1) := by decide +kernel
theorem dX11_isLoad_20 : decode cX11_isLoad 20 = .ok (.ireturn, 1) := by decide +kernel
def tX11_isLoad (kn : sKn) : List (Nat × sA) := [(0, a_iload 1 1), (1, a_if kn b_lt 2 19 4), (4, a_iload 1 5), (5, a_aload 0 6), (6, a_get 12 2 9), (9, a_get 7 3 12), (12, a_icmp kn b_ge 3 19 15), (15, a_stk (q_int 1) 16), (16, a_goto 20), (19, a_stk (q_int 0) 20), (20, a_zret)]
def fX11_isLoad (kn : sKn) : List Value → sW → Option sR := fW (tX11_isLoad kn) 2
set_option maxRecDepth 100000 in
set_option maxHeartbeats 4000000 in
theorem mX11_isLoad (kn : sKn) : mM kn yX11_isLoad (Cond.code yX11_isLoad cX11_isLoad 2 (some .boolean) :: wsL_law) 1 false (fX11_isLoad kn) := mM_W (fun n => mM_of (own := RX11) (ini := false) rfl (by decide +kernel) (by decide +kernel) (all_c (ok_iload_n dX11_isLoad_0 rfl) (all_c (ok_if_lt dX11_isLoad_1 (by decide)) (all_c (ok_iload_n dX11_isLoad_4 rfl) (all_c (ok_aload_n dX11_isLoad_5 rfl) (all_c (okg_X11_2 kw291 dX11_isLoad_6) (all_c (okg_X6_3 kw313 dX11_isLoad_9) (all_c (ok_icmp_ge dX11_isLoad_12 (by decide)) (all_c (ok_stk (s_iconst dX11_isLoad_15 (by decide))) (all_c (ok_goto dX11_isLoad_16 (by decide)) (all_c (ok_stk (s_iconst dX11_isLoad_19 (by decide))) (all_c (ok_zret dX11_isLoad_20) all_n))))))))))) n (fun h => by first | rfl | cases h))
theorem dX11_asks_0 : decode cX11_asks 0 = .ok (.aload_n 0, 1) := by decide +kernel
theorem dX11_asks_1 : decode cX11_asks 1 = .ok (.iload_n 1, 1) := by decide +kernel
theorem dX11_asks_2 : decode cX11_asks 2 = .ok (.invokevirtual 201, 3) := by decide +kernel
theorem dX11_asks_5 : decode cX11_asks 5 = .ok (.ifCond .ne 5, 3) := by decide +kernel
theorem dX11_asks_8 : decode cX11_asks 8 = .ok (.iconst (-1), 1) := by decide +kernel
theorem dX11_asks_9 : decode cX11_asks 9 = .ok (.ireturn, 1) := by decide +kernel
theorem dX11_asks_10 : decode cX11_asks 10 = .ok (.aload_n 0, 1) := by decide +kernel
theorem dX11_asks_11 : decode cX11_asks 11 = .ok (.getfield 64, 3) := by decide +kernel
theorem dX11_asks_14 : decode cX11_asks 14 = .ok (.aload_n 0, 1) := by decide +kernel
theorem dX11_asks_15 : decode cX11_asks 15 = .ok (.getfield 26, 3) := by decide +kernel
theorem dX11_asks_18 : decode cX11_asks 18 = .ok (.aload_n 0, 1) := by decide +kernel
theorem dX11_asks_19 : decode cX11_asks 19 = .ok (.getfield 33, 3) := by decide +kernel
theorem dX11_asks_22 : decode cX11_asks 22 = .ok (.iload_n 1, 1) := by decide +kernel
theorem dX11_asks_23 : decode cX11_asks 23 = .ok (.invokevirtual 288, 3) := by decide +kernel
theorem dX11_asks_26 : decode cX11_asks 26 = .ok (.ireturn, 1) := by decide +kernel
theorem okc_X11_isLoad {kn : sKn} {cc : ByteArray} {own : String} {nL : Nat} {D : Nat} {ret : Option FieldType} {ini : Bool} {pc index : Nat} (hD : 1 + 1 ≤ D) (hl : Cond.methodLink own index yX11_isLoad ∈ wsL_law) (hd : decode cc pc = .ok (.invokevirtual index, 3)) : mOk kn cc own nL wsL_law D ret ini pc (a_callV false (fX11_isLoad kn) 12 (1 + 1) (pc + 3)) := ok_callV (mX11_isLoad kn) (good_ws ws_good (fun _ h => h) kw314) hD (by decide) hl kw315 kw316 kw303 ⟨by decide +kernel, by decide +kernel, by decide +kernel⟩ rfl hd
theorem okc_X0_find {kn : sKn} {cc : ByteArray} {own : String} {nL : Nat} {D : Nat} {ret : Option FieldType} {ini : Bool} {pc index : Nat} (hD : 5 + 1 ≤ D) (hl : Cond.methodLink own index yX0_find ∈ wsL_law) (hd : decode cc pc = .ok (.invokevirtual index, 3)) : mOk kn cc own nL wsL_law D ret ini pc (a_callV false (fX0_find kn) 1 (3 + 1) (pc + 3)) := ok_callV (mX0_find kn) (good_ws ws_good (fun _ h => h) kw318) hD (by decide) hl kw319 kw320 kw152 ⟨by decide +kernel, by decide +kernel, by decide +kernel⟩ rfl hd
def tX11_asks (kn : sKn) : List (Nat × sA) := [(0, a_aload 0 1), (1, a_iload 1 2), (2, a_callV false (fX11_isLoad kn) 12 2 5), (5, a_if kn b_ne 1 10 8), (8, a_stk (q_int (-1)) 9), (9, a_iret), (10, a_aload 0 11), (11, a_get 12 8 14), (14, a_aload 0 15), (15, a_get 12 2 18), (18, a_aload 0 19), (19, a_get 12 3 22), (22, a_iload 1 23), (23, a_callV false (fX0_find kn) 1 4 26), (26, a_iret)]
def fX11_asks (kn : sKn) : List Value → sW → Option sR := fW (tX11_asks kn) 2
set_option maxRecDepth 100000 in
set_option maxHeartbeats 4000000 in
theorem mX11_asks (kn : sKn) : mM kn yX11_asks (Cond.code yX11_asks cX11_asks 2 (some .int) :: wsL_law) 6 false (fX11_asks kn) := mM_W (fun n => mM_of (own := RX11) (ini := false) rfl (by decide +kernel) (by decide +kernel) (all_c (ok_aload_n dX11_asks_0 rfl) (all_c (ok_iload_n dX11_asks_1 rfl) (all_c (okc_X11_isLoad (by decide) kw317 dX11_asks_2) (all_c (ok_if_ne dX11_asks_5 (by decide)) (all_c (ok_stk (s_iconst dX11_asks_8 (by decide))) (all_c (ok_iret dX11_asks_9) (all_c (ok_aload_n dX11_asks_10 rfl) (all_c (okg_X11_8 kw311 dX11_asks_11) (all_c (ok_aload_n dX11_asks_14 rfl) (all_c (okg_X11_2 kw291 dX11_asks_15) (all_c (ok_aload_n dX11_asks_18 rfl) (all_c (okg_X11_3 kw292 dX11_asks_19) (all_c (ok_iload_n dX11_asks_22 rfl) (all_c (okc_X0_find (by decide) kw321 dX11_asks_23) (all_c (ok_iret dX11_asks_26) all_n))))))))))))))) n (fun h => by first | rfl | cases h))
theorem dX11_keepRemembered_0 : decode cX11_keepRemembered 0 = .ok (.aload_n 0, 1) := by decide +kernel
theorem dX11_keepRemembered_1 : decode cX11_keepRemembered 1 = .ok (.aload_n 0, 1) := by decide +kernel
theorem dX11_keepRemembered_2 : decode cX11_keepRemembered 2 = .ok (.getfield 270, 3) := by decide +kernel
theorem dX11_keepRemembered_5 : decode cX11_keepRemembered 5 = .ok (.bipush 8, 2) := by decide +kernel
theorem dX11_keepRemembered_7 : decode cX11_keepRemembered 7 = .ok (.if_icmp .ne 7, 3) := by decide +kernel
theorem dX11_keepRemembered_10 : decode cX11_keepRemembered 10 = .ok (.iconst 0, 1) := by decide +kernel
theorem dX11_keepRemembered_11 : decode cX11_keepRemembered 11 = .ok (.goto 9, 3) := by decide +kernel
theorem dX11_keepRemembered_14 : decode cX11_keepRemembered 14 = .ok (.aload_n 0, 1) := by decide +kernel
theorem dX11_keepRemembered_15 : decode cX11_keepRemembered 15 = .ok (.getfield 270, 3) := by decide +kernel
theorem dX11_keepRemembered_18 : decode cX11_keepRemembered 18 = .ok (.iconst 1, 1) := by decide +kernel
theorem dX11_keepRemembered_19 : decode cX11_keepRemembered 19 = .ok (.iadd, 1) := by decide +kernel
theorem dX11_keepRemembered_20 : decode cX11_keepRemembered 20 = .ok (.putfield 270, 3) := by decide +kernel
theorem dX11_keepRemembered_23 : decode cX11_keepRemembered 23 = .ok (.aload_n 0, 1) := by decide +kernel
theorem dX11_keepRemembered_24 : decode cX11_keepRemembered 24 = .ok (.bipush 8, 2) := by decide +kernel
theorem dX11_keepRemembered_26 : decode cX11_keepRemembered 26 = .ok (.aload_n 0, 1) := by decide +kernel
theorem dX11_keepRemembered_27 : decode cX11_keepRemembered 27 = .ok (.getfield 141, 3) := by decide +kernel
theorem dX11_keepRemembered_30 : decode cX11_keepRemembered 30 = .ok (.iconst 1, 1) := by decide +kernel
theorem dX11_keepRemembered_31 : decode cX11_keepRemembered 31 = .ok (.iadd, 1) := by decide +kernel
theorem dX11_keepRemembered_32 : decode cX11_keepRemembered 32 = .ok (.invokestatic 412, 3) := by decide +kernel
theorem dX11_keepRemembered_35 : decode cX11_keepRemembered 35 = .ok (.putfield 141, 3) := by decide +kernel
theorem dX11_keepRemembered_38 : decode cX11_keepRemembered 38 = .ok (.return_, 1) := by decide +kernel
def tX11_keepRemembered (kn : sKn) : List (Nat × sA) := [(0, a_aload 0 1), (1, a_aload 0 2), (2, a_get 12 14 5), (5, a_stk (q_int 8) 7), (7, a_icmp kn b_ne 1 14 10), (10, a_stk (q_int 0) 11), (11, a_goto 20), (14, a_aload 0 15), (15, a_get 12 14 18), (18, a_stk (q_int 1) 19), (19, a_stk q_iadd 20), (20, a_put 12 14 ckI 23), (23, a_aload 0 24), (24, a_stk (q_int 8) 26), (26, a_aload 0 27), (27, a_get 12 15 30), (30, a_stk (q_int 1) 31), (31, a_stk q_iadd 32), (32, a_mmin 35), (35, a_put 12 15 ckI 38), (38, a_vret)]
def fX11_keepRemembered (kn : sKn) : List Value → sW → Option sR := fW (tX11_keepRemembered kn) 1
set_option maxRecDepth 100000 in
set_option maxHeartbeats 4000000 in
theorem mX11_keepRemembered (kn : sKn) : mM kn yX11_keepRemembered (Cond.code yX11_keepRemembered cX11_keepRemembered 1 none :: wsL_law) 1 true (fX11_keepRemembered kn) := mM_W (fun n => mM_of (own := RX11) (ini := false) rfl (by decide +kernel) (by decide +kernel) (all_c (ok_aload_n dX11_keepRemembered_0 rfl) (all_c (ok_aload_n dX11_keepRemembered_1 rfl) (all_c (okg_X11_14 kw322 dX11_keepRemembered_2) (all_c (ok_stk (s_bipush dX11_keepRemembered_5 (by decide))) (all_c (ok_icmp_ne dX11_keepRemembered_7 (by decide)) (all_c (ok_stk (s_iconst dX11_keepRemembered_10 (by decide))) (all_c (ok_goto dX11_keepRemembered_11 (by decide)) (all_c (ok_aload_n dX11_keepRemembered_14 rfl) (all_c (okg_X11_14 kw322 dX11_keepRemembered_15) (all_c (ok_stk (s_iconst dX11_keepRemembered_18 (by decide))) (all_c (ok_stk (s_iadd dX11_keepRemembered_19)) (all_c (okp_X11_14 kw322 dX11_keepRemembered_20) (all_c (ok_aload_n dX11_keepRemembered_23 rfl) (all_c (ok_stk (s_bipush dX11_keepRemembered_24 (by decide))) (all_c (ok_aload_n dX11_keepRemembered_26 rfl) (all_c (okg_X11_15 kw323 dX11_keepRemembered_27) (all_c (ok_stk (s_iconst dX11_keepRemembered_30 (by decide))) (all_c (ok_stk (s_iadd dX11_keepRemembered_31)) (all_c (ok_mmin (by decide) kw324 kw53 kw38 kw54 dX11_keepRemembered_32) (all_c (okp_X11_15 kw323 dX11_keepRemembered_35) (all_c (ok_vret dX11_keepRemembered_38) all_n))))))))))))))))))))) n (fun h => by first | rfl | cases h))
theorem dX11_rememberState_0 : decode cX11_rememberState 0 = .ok (.aload_n 0, 1) := by decide +kernel
theorem dX11_rememberState_1 : decode cX11_rememberState 1 = .ok (.getfield 96, 3) := by decide +kernel
theorem dX11_rememberState_4 : decode cX11_rememberState 4 = .ok (.aload_n 0, 1) := by decide +kernel
theorem dX11_rememberState_5 : decode cX11_rememberState 5 = .ok (.getfield 270, 3) := by decide +kernel
theorem dX11_rememberState_8 : decode cX11_rememberState 8 = .ok (.aaload, 1) := by decide +kernel
theorem dX11_rememberState_9 : decode cX11_rememberState 9 = .ok (.aload_n 0, 1) := by decide +kernel
theorem dX11_rememberState_10 : decode cX11_rememberState 10 = .ok (.getfield 33, 3) := by decide +kernel
theorem dX11_rememberState_13 : decode cX11_rememberState 13 = .ok (.invokevirtual 273, 3) := by decide +kernel
theorem dX11_rememberState_16 : decode cX11_rememberState 16 = .ok (.return_, 1) := by decide +kernel
def tX11_rememberState (kn : sKn) : List (Nat × sA) := [(0, a_aload 0 1), (1, a_get 12 13 4), (4, a_aload 0 5), (5, a_get 12 14 8), (8, a_aald 9), (9, a_aload 0 10), (10, a_get 12 3 13), (13, a_callV true (fX8_copyOf kn) 9 2 16), (16, a_vret)]
def fX11_rememberState (kn : sKn) : List Value → sW → Option sR := fW (tX11_rememberState kn) 1
set_option maxRecDepth 100000 in
set_option maxHeartbeats 4000000 in
theorem mX11_rememberState (kn : sKn) : mM kn yX11_rememberState (Cond.code yX11_rememberState cX11_rememberState 1 none :: wsL_law) 2 true (fX11_rememberState kn) := mM_W (fun n => mM_of (own := RX11) (ini := false) rfl (by decide +kernel) (by decide +kernel) (all_c (ok_aload_n dX11_rememberState_0 rfl) (all_c (okg_X11_13 kw325 dX11_rememberState_1) (all_c (ok_aload_n dX11_rememberState_4 rfl) (all_c (okg_X11_14 kw322 dX11_rememberState_5) (all_c (ok_aald dX11_rememberState_8) (all_c (ok_aload_n dX11_rememberState_9 rfl) (all_c (okg_X11_3 kw292 dX11_rememberState_10) (all_c (okc_X8_copyOf (by decide) kw326 dX11_rememberState_13) (all_c (ok_vret dX11_rememberState_16) all_n))))))))) n (fun h => by first | rfl | cases h))
theorem dX1_behind_0 : decode cX1_behind 0 = .ok (.iload_n 1, 1) := by decide +kernel
theorem dX1_behind_1 : decode cX1_behind 1 = .ok (.ifCond .ne 7, 3) := by decide +kernel
theorem dX1_behind_4 : decode cX1_behind 4 = .ok (.iconst 0, 1) := by decide +kernel
theorem dX1_behind_5 : decode cX1_behind 5 = .ok (.goto 6, 3) := by decide +kernel
theorem dX1_behind_8 : decode cX1_behind 8 = .ok (.iload_n 0, 1) := by decide +kernel
theorem dX1_behind_9 : decode cX1_behind 9 = .ok (.iload_n 1, 1) := by decide +kernel
theorem dX1_behind_10 : decode cX1_behind 10 = .ok (.iadd, 1) := by decide +kernel
theorem dX1_behind_11 : decode cX1_behind 11 = .ok (.ireturn, 1) := by decide +kernel
def tX1_behind (kn : sKn) : List (Nat × sA) := [(0, a_iload 1 1), (1, a_if kn b_ne 1 8 4), (4, a_stk (q_int 0) 5), (5, a_goto 11), (8, a_iload 0 9), (9, a_iload 1 10), (10, a_stk q_iadd 11), (11, a_iret)]
def fX1_behind (kn : sKn) : List Value → sW → Option sR := fW (tX1_behind kn) 2
set_option maxRecDepth 100000 in
set_option maxHeartbeats 4000000 in
theorem mX1_behind (kn : sKn) : mM kn yX1_behind (Cond.code yX1_behind cX1_behind 2 (some .int) :: wsL_law) 1 false (fX1_behind kn) := mM_W (fun n => mM_of (own := RX1) (ini := false) rfl (by decide +kernel) (by decide +kernel) (all_c (ok_iload_n dX1_behind_0 rfl) (all_c (ok_if_ne dX1_behind_1 (by decide)) (all_c (ok_stk (s_iconst dX1_behind_4 (by decide))) (all_c (ok_goto dX1_behind_5 (by decide)) (all_c (ok_iload_n dX1_behind_8 rfl) (all_c (ok_iload_n dX1_behind_9 rfl) (all_c (ok_stk (s_iadd dX1_behind_10)) (all_c (ok_iret dX1_behind_11) all_n)))))))) n (fun h => by first | rfl | cases h))
theorem dX8_breakWord_0 : decode cX8_breakWord 0 = .ok (.aload_n 0, 1) := by decide +kernel
theorem dX8_breakWord_1 : decode cX8_breakWord 1 = .ok (.iload_n 1, 1) := by decide +kernel
theorem dX8_breakWord_2 : decode cX8_breakWord 2 = .ok (.invokevirtual 63, 3) := by decide +kernel
theorem dX8_breakWord_5 : decode cX8_breakWord 5 = .ok (.ifCond .ne 5, 3) := by decide +kernel
theorem dX8_breakWord_8 : decode cX8_breakWord 8 = .ok (.iconst 1, 1) := by decide +kernel
theorem dX8_breakWord_9 : decode cX8_breakWord 9 = .ok (.ireturn, 1) := by decide +kernel
theorem dX8_breakWord_10 : decode cX8_breakWord 10 = .ok (.aload_n 0, 1) := by decide +kernel
theorem dX8_breakWord_11 : decode cX8_breakWord 11 = .ok (.getfield 9, 3) := by decide +kernel
theorem dX8_breakWord_14 : decode cX8_breakWord 14 = .ok (.iload_n 1, 1) := by decide +kernel
theorem dX8_breakWord_15 : decode cX8_breakWord 15 = .ok (.dup2, 1) := by decide +kernel
theorem dX8_breakWord_16 : decode cX8_breakWord 16 = .ok (.iaload, 1) := by decide +kernel
theorem dX8_breakWord_17 : decode cX8_breakWord 17 = .ok (.iconst 2, 1) := by decide +kernel
theorem dX8_breakWord_18 : decode cX8_breakWord 18 = .ok (.idiv, 1) := by decide +kernel
theorem dX8_breakWord_19 : decode cX8_breakWord 19 = .ok (.iastore, 1) := by decide +kernel
theorem dX8_breakWord_20 : decode cX8_breakWord 20 = .ok (.iconst 0, 1) := by decide +kernel
theorem dX8_breakWord_21 : decode cX8_breakWord 21 = .ok (.ireturn, 1) := by decide +kernel
def tX8_breakWord (kn : sKn) : List (Nat × sA) := [(0, a_aload 0 1), (1, a_iload 1 2), (2, a_callV false (fX8_lives kn) 9 2 5), (5, a_if kn b_ne 1 10 8), (8, a_stk (q_int 1) 9), (9, a_iret), (10, a_aload 0 11), (11, a_get 9 3 14), (14, a_iload 1 15), (15, a_stk q_dup2 16), (16, a_iald 17), (17, a_stk (q_int 2) 18), (18, a_stk q_idiv 19), (19, a_iast 20), (20, a_stk (q_int 0) 21), (21, a_iret)]
def fX8_breakWord (kn : sKn) : List Value → sW → Option sR := fW (tX8_breakWord kn) 2
set_option maxRecDepth 100000 in
set_option maxHeartbeats 4000000 in
theorem mX8_breakWord (kn : sKn) : mM kn yX8_breakWord (Cond.code yX8_breakWord cX8_breakWord 2 (some .int) :: wsL_law) 2 false (fX8_breakWord kn) := mM_W (fun n => mM_of (own := RX8) (ini := false) rfl (by decide +kernel) (by decide +kernel) (all_c (ok_aload_n dX8_breakWord_0 rfl) (all_c (ok_iload_n dX8_breakWord_1 rfl) (all_c (okc_X8_lives (by decide) kw327 dX8_breakWord_2) (all_c (ok_if_ne dX8_breakWord_5 (by decide)) (all_c (ok_stk (s_iconst dX8_breakWord_8 (by decide))) (all_c (ok_iret dX8_breakWord_9) (all_c (ok_aload_n dX8_breakWord_10 rfl) (all_c (okg_X8_3 kw206 dX8_breakWord_11) (all_c (ok_iload_n dX8_breakWord_14 rfl) (all_c (ok_stk (s_dup2 dX8_breakWord_15)) (all_c (ok_iald dX8_breakWord_16) (all_c (ok_stk (s_iconst dX8_breakWord_17 (by decide))) (all_c (ok_stk (s_idiv dX8_breakWord_18)) (all_c (ok_iast dX8_breakWord_19) (all_c (ok_stk (s_iconst dX8_breakWord_20 (by decide))) (all_c (ok_iret dX8_breakWord_21) all_n)))))))))))))))) n (fun h => by first | rfl | cases h))
theorem dX8_singe_0 : decode cX8_singe 0 = .ok (.aload_n 0, 1) := by decide +kernel
theorem dX8_singe_1 : decode cX8_singe 1 = .ok (.getfield 21, 3) := by decide +kernel
theorem dX8_singe_4 : decode cX8_singe 4 = .ok (.iload_n 1, 1) := by decide +kernel
theorem dX8_singe_5 : decode cX8_singe 5 = .ok (.iaload, 1) := by decide +kernel
theorem dX8_singe_6 : decode cX8_singe 6 = .ok (.iconst (-1), 1) := by decide +kernel
theorem dX8_singe_7 : decode cX8_singe 7 = .ok (.if_icmp .eq 23, 3) := by decide +kernel
theorem dX8_singe_10 : decode cX8_singe 10 = .ok (.aload_n 0, 1) := by decide +kernel
theorem dX8_singe_11 : decode cX8_singe 11 = .ok (.getfield 24, 3) := by decide +kernel
theorem dX8_singe_14 : decode cX8_singe 14 = .ok (.iload_n 1, 1) := by decide +kernel
theorem dX8_singe_15 : decode cX8_singe 15 = .ok (.iaload, 1) := by decide +kernel
theorem dX8_singe_16 : decode cX8_singe 16 = .ok (.iconst 3, 1) := by decide +kernel
theorem dX8_singe_17 : decode cX8_singe 17 = .ok (.if_icmp .ge 13, 3) := by decide +kernel
theorem dX8_singe_20 : decode cX8_singe 20 = .ok (.aload_n 0, 1) := by decide +kernel
theorem dX8_singe_21 : decode cX8_singe 21 = .ok (.getfield 24, 3) := by decide +kernel
theorem dX8_singe_24 : decode cX8_singe 24 = .ok (.iload_n 1, 1) := by decide +kernel
theorem dX8_singe_25 : decode cX8_singe 25 = .ok (.dup2, 1) := by decide +kernel
theorem dX8_singe_26 : decode cX8_singe 26 = .ok (.iaload, 1) := by decide +kernel
theorem dX8_singe_27 : decode cX8_singe 27 = .ok (.iconst 1, 1) := by decide +kernel
theorem dX8_singe_28 : decode cX8_singe 28 = .ok (.iadd, 1) := by decide +kernel
theorem dX8_singe_29 : decode cX8_singe 29 = .ok (.iastore, 1) := by decide +kernel
theorem dX8_singe_30 : decode cX8_singe 30 = .ok (.return_, 1) := by decide +kernel
def tX8_singe (kn : sKn) : List (Nat × sA) := [(0, a_aload 0 1), (1, a_get 9 6 4), (4, a_iload 1 5), (5, a_iald 6), (6, a_stk (q_int (-1)) 7), (7, a_icmp kn b_eq 0 30 10), (10, a_aload 0 11), (11, a_get 9 7 14), (14, a_iload 1 15), (15, a_iald 16), (16, a_stk (q_int 3) 17), (17, a_icmp kn b_ge 3 30 20), (20, a_aload 0 21), (21, a_get 9 7 24), (24, a_iload 1 25), (25, a_stk q_dup2 26), (26, a_iald 27), (27, a_stk (q_int 1) 28), (28, a_stk q_iadd 29), (29, a_iast 30), (30, a_vret)]
def fX8_singe (kn : sKn) : List Value → sW → Option sR := fW (tX8_singe kn) 2
set_option maxRecDepth 100000 in
set_option maxHeartbeats 4000000 in
theorem mX8_singe (kn : sKn) : mM kn yX8_singe (Cond.code yX8_singe cX8_singe 2 none :: wsL_law) 1 true (fX8_singe kn) := mM_W (fun n => mM_of (own := RX8) (ini := false) rfl (by decide +kernel) (by decide +kernel) (all_c (ok_aload_n dX8_singe_0 rfl) (all_c (okg_X8_6 kw209 dX8_singe_1) (all_c (ok_iload_n dX8_singe_4 rfl) (all_c (ok_iald dX8_singe_5) (all_c (ok_stk (s_iconst dX8_singe_6 (by decide))) (all_c (ok_icmp_eq dX8_singe_7 (by decide)) (all_c (ok_aload_n dX8_singe_10 rfl) (all_c (okg_X8_7 kw210 dX8_singe_11) (all_c (ok_iload_n dX8_singe_14 rfl) (all_c (ok_iald dX8_singe_15) (all_c (ok_stk (s_iconst dX8_singe_16 (by decide))) (all_c (ok_icmp_ge dX8_singe_17 (by decide)) (all_c (ok_aload_n dX8_singe_20 rfl) (all_c (okg_X8_7 kw210 dX8_singe_21) (all_c (ok_iload_n dX8_singe_24 rfl) (all_c (ok_stk (s_dup2 dX8_singe_25)) (all_c (ok_iald dX8_singe_26) (all_c (ok_stk (s_iconst dX8_singe_27 (by decide))) (all_c (ok_stk (s_iadd dX8_singe_28)) (all_c (ok_iast dX8_singe_29) (all_c (ok_vret dX8_singe_30) all_n))))))))))))))))))))) n (fun h => by first | rfl | cases h))
theorem dX8_burnPlank_0 : decode cX8_burnPlank 0 = .ok (.aload_n 0, 1) := by decide +kernel
theorem dX8_burnPlank_1 : decode cX8_burnPlank 1 = .ok (.getfield 21, 3) := by decide +kernel
theorem dX8_burnPlank_4 : decode cX8_burnPlank 4 = .ok (.iload_n 1, 1) := by decide +kernel
theorem dX8_burnPlank_5 : decode cX8_burnPlank 5 = .ok (.iaload, 1) := by decide +kernel
theorem dX8_burnPlank_6 : decode cX8_burnPlank 6 = .ok (.iconst (-1), 1) := by decide +kernel
theorem dX8_burnPlank_7 : decode cX8_burnPlank 7 = .ok (.if_icmp .ne 5, 3) := by decide +kernel
theorem dX8_burnPlank_10 : decode cX8_burnPlank 10 = .ok (.iconst 1, 1) := by decide +kernel
theorem dX8_burnPlank_11 : decode cX8_burnPlank 11 = .ok (.ireturn, 1) := by decide +kernel
theorem dX8_burnPlank_12 : decode cX8_burnPlank 12 = .ok (.aload_n 0, 1) := by decide +kernel
theorem dX8_burnPlank_13 : decode cX8_burnPlank 13 = .ok (.iload_n 1, 1) := by decide +kernel
theorem dX8_burnPlank_14 : decode cX8_burnPlank 14 = .ok (.invokevirtual 67, 3) := by decide +kernel
theorem dX8_burnPlank_17 : decode cX8_burnPlank 17 = .ok (.aload_n 0, 1) := by decide +kernel
theorem dX8_burnPlank_18 : decode cX8_burnPlank 18 = .ok (.dup, 1) := by decide +kernel
theorem dX8_burnPlank_19 : decode cX8_burnPlank 19 = .ok (.getfield 40, 3) := by decide +kernel
theorem dX8_burnPlank_22 : decode cX8_burnPlank 22 = .ok (.iconst 1, 1) := by decide +kernel
theorem dX8_burnPlank_23 : decode cX8_burnPlank 23 = .ok (.iadd, 1) := by decide +kernel
theorem dX8_burnPlank_24 : decode cX8_burnPlank 24 = .ok (.putfield 40, 3) := by decide +kernel
theorem dX8_burnPlank_27 : decode cX8_burnPlank 27 = .ok (.iload_n 1, 1) := by decide +kernel
theorem dX8_burnPlank_28 : decode cX8_burnPlank 28 = .ok (.iconst 3, 1) := by decide +kernel
theorem dX8_burnPlank_29 : decode cX8_burnPlank 29 = .ok (.irem, 1) := by decide +kernel
theorem dX8_burnPlank_30 : decode cX8_burnPlank 30 = .ok (.istore_n 2, 1) := by decide +kernel
theorem dX8_burnPlank_31 : decode cX8_burnPlank 31 = .ok (.iload_n 2, 1) := by decide +kernel
theorem dX8_burnPlank_32 : decode cX8_burnPlank 32 = .ok (.ifCond .le 10, 3) := by decide +kernel
theorem dX8_burnPlank_35 : decode cX8_burnPlank 35 = .ok (.aload_n 0, 1) := by decide +kernel
theorem dX8_burnPlank_36 : decode cX8_burnPlank 36 = .ok (.iload_n 1, 1) := by decide +kernel
theorem dX8_burnPlank_37 : decode cX8_burnPlank 37 = .ok (.iconst 1, 1) := by decide +kernel
theorem dX8_burnPlank_38 : decode cX8_burnPlank 38 = .ok (.isub, 1) := by decide +kernel
theorem dX8_burnPlank_39 : decode cX8_burnPlank 39 = .ok (.invokevirtual 71, 3) := by decide +kernel
theorem dX8_burnPlank_42 : decode cX8_burnPlank 42 = .ok (.iload_n 2, 1) := by decide +kernel
theorem dX8_burnPlank_43 : decode cX8_burnPlank 43 = .ok (.iconst 2, 1) := by decide +kernel
theorem dX8_burnPlank_44 : decode cX8_burnPlank 44 = .ok (.if_icmp .ge 10, 3) := by decide +kernel
theorem dX8_burnPlank_47 : decode cX8_burnPlank 47 = .ok (.aload_n 0, 1) := by decide +kernel
theorem dX8_burnPlank_48 : decode cX8_burnPlank 48 = .ok (.iload_n 1, 1) := by decide +kernel
theorem dX8_burnPlank_49 : decode cX8_burnPlank 49 = .ok (.iconst 1, 1) := by decide +kernel
theorem dX8_burnPlank_50 : decode cX8_burnPlank 50 = .ok (.iadd, 1) := by decide +kernel
theorem dX8_burnPlank_51 : decode cX8_burnPlank 51 = .ok (.invokevirtual 71, 3) := by decide +kernel
theorem dX8_burnPlank_54 : decode cX8_burnPlank 54 = .ok (.iconst 0, 1) := by decide +kernel
theorem dX8_burnPlank_55 : decode cX8_burnPlank 55 = .ok (.ireturn, 1) := by decide +kernel
theorem okc_X8_singe {kn : sKn} {cc : ByteArray} {own : String} {nL : Nat} {D : Nat} {ret : Option FieldType} {ini : Bool} {pc index : Nat} (hD : 1 + 1 ≤ D) (hl : Cond.methodLink own index yX8_singe ∈ wsL_law) (hd : decode cc pc = .ok (.invokevirtual index, 3)) : mOk kn cc own nL wsL_law D ret ini pc (a_callV true (fX8_singe kn) 9 (1 + 1) (pc + 3)) := ok_callV (mX8_singe kn) (good_ws ws_good (fun _ h => h) kw329) hD (by decide) hl kw330 kw331 kw184 ⟨by decide +kernel, by decide +kernel, by decide +kernel⟩ rfl hd
def tX8_burnPlank (kn : sKn) : List (Nat × sA) := [(0, a_aload 0 1), (1, a_get 9 6 4), (4, a_iload 1 5), (5, a_iald 6), (6, a_stk (q_int (-1)) 7), (7, a_icmp kn b_ne 1 12 10), (10, a_stk (q_int 1) 11), (11, a_iret), (12, a_aload 0 13), (13, a_iload 1 14), (14, a_callV true (fX8_makeGap kn) 9 2 17), (17, a_aload 0 18), (18, a_stk q_dup 19), (19, a_get 9 1 22), (22, a_stk (q_int 1) 23), (23, a_stk q_iadd 24), (24, a_put 9 1 ckI 27), (27, a_iload 1 28), (28, a_stk (q_int 3) 29), (29, a_stk q_irem 30), (30, a_istore 2 31), (31, a_iload 2 32), (32, a_if kn b_le 5 42 35), (35, a_aload 0 36), (36, a_iload 1 37), (37, a_stk (q_int 1) 38), (38, a_stk q_isub 39), (39, a_callV true (fX8_singe kn) 9 2 42), (42, a_iload 2 43), (43, a_stk (q_int 2) 44), (44, a_icmp kn b_ge 3 54 47), (47, a_aload 0 48), (48, a_iload 1 49), (49, a_stk (q_int 1) 50), (50, a_stk q_iadd 51), (51, a_callV true (fX8_singe kn) 9 2 54), (54, a_stk (q_int 0) 55), (55, a_iret)]
def fX8_burnPlank (kn : sKn) : List Value → sW → Option sR := fW (tX8_burnPlank kn) 3
set_option maxRecDepth 100000 in
set_option maxHeartbeats 4000000 in
theorem mX8_burnPlank (kn : sKn) : mM kn yX8_burnPlank (Cond.code yX8_burnPlank cX8_burnPlank 3 (some .int) :: wsL_law) 2 false (fX8_burnPlank kn) := mM_W (fun n => mM_of (own := RX8) (ini := false) rfl (by decide +kernel) (by decide +kernel) (all_c (ok_aload_n dX8_burnPlank_0 rfl) (all_c (okg_X8_6 kw209 dX8_burnPlank_1) (all_c (ok_iload_n dX8_burnPlank_4 rfl) (all_c (ok_iald dX8_burnPlank_5) (all_c (ok_stk (s_iconst dX8_burnPlank_6 (by decide))) (all_c (ok_icmp_ne dX8_burnPlank_7 (by decide)) (all_c (ok_stk (s_iconst dX8_burnPlank_10 (by decide))) (all_c (ok_iret dX8_burnPlank_11) (all_c (ok_aload_n dX8_burnPlank_12 rfl) (all_c (ok_iload_n dX8_burnPlank_13 rfl) (all_c (okc_X8_makeGap (by decide) kw328 dX8_burnPlank_14) (all_c (ok_aload_n dX8_burnPlank_17 rfl) (all_c (ok_stk (s_dup dX8_burnPlank_18)) (all_c (okg_X8_1 kw204 dX8_burnPlank_19) (all_c (ok_stk (s_iconst dX8_burnPlank_22 (by decide))) (all_c (ok_stk (s_iadd dX8_burnPlank_23)) (all_c (okp_X8_1 kw204 dX8_burnPlank_24) (all_c (ok_iload_n dX8_burnPlank_27 rfl) (all_c (ok_stk (s_iconst dX8_burnPlank_28 (by decide))) (all_c (ok_stk (s_irem dX8_burnPlank_29)) (all_c (ok_istore_n dX8_burnPlank_30 rfl (by decide)) (all_c (ok_iload_n dX8_burnPlank_31 rfl) (all_c (ok_if_le dX8_burnPlank_32 (by decide)) (all_c (ok_aload_n dX8_burnPlank_35 rfl) (all_c (ok_iload_n dX8_burnPlank_36 rfl) (all_c (ok_stk (s_iconst dX8_burnPlank_37 (by decide))) (all_c (ok_stk (s_isub dX8_burnPlank_38)) (all_c (okc_X8_singe (by decide) kw332 dX8_burnPlank_39) (all_c (ok_iload_n dX8_burnPlank_42 rfl) (all_c (ok_stk (s_iconst dX8_burnPlank_43 (by decide))) (all_c (ok_icmp_ge dX8_burnPlank_44 (by decide)) (all_c (ok_aload_n dX8_burnPlank_47 rfl) (all_c (ok_iload_n dX8_burnPlank_48 rfl) (all_c (ok_stk (s_iconst dX8_burnPlank_49 (by decide))) (all_c (ok_stk (s_iadd dX8_burnPlank_50)) (all_c (okc_X8_singe (by decide) kw332 dX8_burnPlank_51) (all_c (ok_stk (s_iconst dX8_burnPlank_54 (by decide))) (all_c (ok_iret dX8_burnPlank_55) all_n)))))))))))))))))))))))))))))))))))))) n (fun h => by first | rfl | cases h))
theorem dX8_endLife_0 : decode cX8_endLife 0 = .ok (.aload_n 0, 1) := by decide +kernel
theorem dX8_endLife_1 : decode cX8_endLife 1 = .ok (.iload_n 1, 1) := by decide +kernel
theorem dX8_endLife_2 : decode cX8_endLife 2 = .ok (.invokevirtual 63, 3) := by decide +kernel
theorem dX8_endLife_5 : decode cX8_endLife 5 = .ok (.ifCond .ne 5, 3) := by decide +kernel
theorem dX8_endLife_8 : decode cX8_endLife 8 = .ok (.iconst 1, 1) := by decide +kernel
theorem dX8_endLife_9 : decode cX8_endLife 9 = .ok (.ireturn, 1) := by decide +kernel
theorem dX8_endLife_10 : decode cX8_endLife 10 = .ok (.aload_n 0, 1) := by decide +kernel
theorem dX8_endLife_11 : decode cX8_endLife 11 = .ok (.getfield 15, 3) := by decide +kernel
theorem dX8_endLife_14 : decode cX8_endLife 14 = .ok (.iload_n 1, 1) := by decide +kernel
theorem dX8_endLife_15 : decode cX8_endLife 15 = .ok (.aload_n 0, 1) := by decide +kernel
theorem dX8_endLife_16 : decode cX8_endLife 16 = .ok (.getfield 36, 3) := by decide +kernel
theorem dX8_endLife_19 : decode cX8_endLife 19 = .ok (.iastore, 1) := by decide +kernel
theorem dX8_endLife_20 : decode cX8_endLife 20 = .ok (.iconst 0, 1) := by decide +kernel
theorem dX8_endLife_21 : decode cX8_endLife 21 = .ok (.ireturn, 1) := by decide +kernel
def tX8_endLife (kn : sKn) : List (Nat × sA) := [(0, a_aload 0 1), (1, a_iload 1 2), (2, a_callV false (fX8_lives kn) 9 2 5), (5, a_if kn b_ne 1 10 8), (8, a_stk (q_int 1) 9), (9, a_iret), (10, a_aload 0 11), (11, a_get 9 4 14), (14, a_iload 1 15), (15, a_aload 0 16), (16, a_get 9 0 19), (19, a_iast 20), (20, a_stk (q_int 0) 21), (21, a_iret)]
def fX8_endLife (kn : sKn) : List Value → sW → Option sR := fW (tX8_endLife kn) 2
set_option maxRecDepth 100000 in
set_option maxHeartbeats 4000000 in
theorem mX8_endLife (kn : sKn) : mM kn yX8_endLife (Cond.code yX8_endLife cX8_endLife 2 (some .int) :: wsL_law) 2 false (fX8_endLife kn) := mM_W (fun n => mM_of (own := RX8) (ini := false) rfl (by decide +kernel) (by decide +kernel) (all_c (ok_aload_n dX8_endLife_0 rfl) (all_c (ok_iload_n dX8_endLife_1 rfl) (all_c (okc_X8_lives (by decide) kw327 dX8_endLife_2) (all_c (ok_if_ne dX8_endLife_5 (by decide)) (all_c (ok_stk (s_iconst dX8_endLife_8 (by decide))) (all_c (ok_iret dX8_endLife_9) (all_c (ok_aload_n dX8_endLife_10 rfl) (all_c (okg_X8_4 kw182 dX8_endLife_11) (all_c (ok_iload_n dX8_endLife_14 rfl) (all_c (ok_aload_n dX8_endLife_15 rfl) (all_c (okg_X8_0 kw203 dX8_endLife_16) (all_c (ok_iast dX8_endLife_19) (all_c (ok_stk (s_iconst dX8_endLife_20 (by decide))) (all_c (ok_iret dX8_endLife_21) all_n)))))))))))))) n (fun h => by first | rfl | cases h))
theorem dX8_holdWord_0 : decode cX8_holdWord 0 = .ok (.aload_n 0, 1) := by decide +kernel
theorem dX8_holdWord_1 : decode cX8_holdWord 1 = .ok (.iload_n 1, 1) := by decide +kernel
theorem dX8_holdWord_2 : decode cX8_holdWord 2 = .ok (.invokevirtual 63, 3) := by decide +kernel
theorem dX8_holdWord_5 : decode cX8_holdWord 5 = .ok (.ifCond .ne 5, 3) := by decide +kernel
theorem dX8_holdWord_8 : decode cX8_holdWord 8 = .ok (.iconst 1, 1) := by decide +kernel
theorem dX8_holdWord_9 : decode cX8_holdWord 9 = .ok (.ireturn, 1) := by decide +kernel
theorem dX8_holdWord_10 : decode cX8_holdWord 10 = .ok (.aload_n 0, 1) := by decide +kernel
theorem dX8_holdWord_11 : decode cX8_holdWord 11 = .ok (.getfield 9, 3) := by decide +kernel
theorem dX8_holdWord_14 : decode cX8_holdWord 14 = .ok (.iload_n 1, 1) := by decide +kernel
theorem dX8_holdWord_15 : decode cX8_holdWord 15 = .ok (.iaload, 1) := by decide +kernel
theorem dX8_holdWord_16 : decode cX8_holdWord 16 = .ok (.bipush 9, 2) := by decide +kernel
theorem dX8_holdWord_18 : decode cX8_holdWord 18 = .ok (.if_icmp .lt 5, 3) := by decide +kernel
theorem dX8_holdWord_21 : decode cX8_holdWord 21 = .ok (.iconst 2, 1) := by decide +kernel
theorem dX8_holdWord_22 : decode cX8_holdWord 22 = .ok (.ireturn, 1) := by decide +kernel
theorem dX8_holdWord_23 : decode cX8_holdWord 23 = .ok (.aload_n 0, 1) := by decide +kernel
theorem dX8_holdWord_24 : decode cX8_holdWord 24 = .ok (.getfield 9, 3) := by decide +kernel
theorem dX8_holdWord_27 : decode cX8_holdWord 27 = .ok (.iload_n 1, 1) := by decide +kernel
theorem dX8_holdWord_28 : decode cX8_holdWord 28 = .ok (.dup2, 1) := by decide +kernel
theorem dX8_holdWord_29 : decode cX8_holdWord 29 = .ok (.iaload, 1) := by decide +kernel
theorem dX8_holdWord_30 : decode cX8_holdWord 30 = .ok (.iconst 1, 1) := by decide +kernel
theorem dX8_holdWord_31 : decode cX8_holdWord 31 = .ok (.iadd, 1) := by decide +kernel
theorem dX8_holdWord_32 : decode cX8_holdWord 32 = .ok (.iastore, 1) := by decide +kernel
theorem dX8_holdWord_33 : decode cX8_holdWord 33 = .ok (.iconst 0, 1) := by decide +kernel
theorem dX8_holdWord_34 : decode cX8_holdWord 34 = .ok (.ireturn, 1) := by decide +kernel
def tX8_holdWord (kn : sKn) : List (Nat × sA) := [(0, a_aload 0 1), (1, a_iload 1 2), (2, a_callV false (fX8_lives kn) 9 2 5), (5, a_if kn b_ne 1 10 8), (8, a_stk (q_int 1) 9), (9, a_iret), (10, a_aload 0 11), (11, a_get 9 3 14), (14, a_iload 1 15), (15, a_iald 16), (16, a_stk (q_int 9) 18), (18, a_icmp kn b_lt 2 23 21), (21, a_stk (q_int 2) 22), (22, a_iret), (23, a_aload 0 24), (24, a_get 9 3 27), (27, a_iload 1 28), (28, a_stk q_dup2 29), (29, a_iald 30), (30, a_stk (q_int 1) 31), (31, a_stk q_iadd 32), (32, a_iast 33), (33, a_stk (q_int 0) 34), (34, a_iret)]
def fX8_holdWord (kn : sKn) : List Value → sW → Option sR := fW (tX8_holdWord kn) 2
set_option maxRecDepth 100000 in
set_option maxHeartbeats 4000000 in
theorem mX8_holdWord (kn : sKn) : mM kn yX8_holdWord (Cond.code yX8_holdWord cX8_holdWord 2 (some .int) :: wsL_law) 2 false (fX8_holdWord kn) := mM_W (fun n => mM_of (own := RX8) (ini := false) rfl (by decide +kernel) (by decide +kernel) (all_c (ok_aload_n dX8_holdWord_0 rfl) (all_c (ok_iload_n dX8_holdWord_1 rfl) (all_c (okc_X8_lives (by decide) kw327 dX8_holdWord_2) (all_c (ok_if_ne dX8_holdWord_5 (by decide)) (all_c (ok_stk (s_iconst dX8_holdWord_8 (by decide))) (all_c (ok_iret dX8_holdWord_9) (all_c (ok_aload_n dX8_holdWord_10 rfl) (all_c (okg_X8_3 kw206 dX8_holdWord_11) (all_c (ok_iload_n dX8_holdWord_14 rfl) (all_c (ok_iald dX8_holdWord_15) (all_c (ok_stk (s_bipush dX8_holdWord_16 (by decide))) (all_c (ok_icmp_lt dX8_holdWord_18 (by decide)) (all_c (ok_stk (s_iconst dX8_holdWord_21 (by decide))) (all_c (ok_iret dX8_holdWord_22) (all_c (ok_aload_n dX8_holdWord_23 rfl) (all_c (okg_X8_3 kw206 dX8_holdWord_24) (all_c (ok_iload_n dX8_holdWord_27 rfl) (all_c (ok_stk (s_dup2 dX8_holdWord_28)) (all_c (ok_iald dX8_holdWord_29) (all_c (ok_stk (s_iconst dX8_holdWord_30 (by decide))) (all_c (ok_stk (s_iadd dX8_holdWord_31)) (all_c (ok_iast dX8_holdWord_32) (all_c (ok_stk (s_iconst dX8_holdWord_33 (by decide))) (all_c (ok_iret dX8_holdWord_34) all_n)))))))))))))))))))))))) n (fun h => by first | rfl | cases h))
theorem dX8_handDown_0 : decode cX8_handDown 0 = .ok (.iconst 0, 1) := by decide +kernel
theorem dX8_handDown_1 : decode cX8_handDown 1 = .ok (.istore_n 3, 1) := by decide +kernel
theorem dX8_handDown_2 : decode cX8_handDown 2 = .ok (.iload_n 3, 1) := by decide +kernel
theorem dX8_handDown_3 : decode cX8_handDown 3 = .ok (.bipush 36, 2) := by decide +kernel
theorem dX8_handDown_5 : decode cX8_handDown 5 = .ok (.if_icmp .ge 81, 3) := by decide +kernel
theorem dX8_handDown_8 : decode cX8_handDown 8 = .ok (.aload_n 0, 1) := by decide +kernel
theorem dX8_handDown_9 : decode cX8_handDown 9 = .ok (.getfield 21, 3) := by decide +kernel
theorem dX8_handDown_12 : decode cX8_handDown 12 = .ok (.iload_n 3, 1) := by decide +kernel
theorem dX8_handDown_13 : decode cX8_handDown 13 = .ok (.iaload, 1) := by decide +kernel
theorem dX8_handDown_14 : decode cX8_handDown 14 = .ok (.iload_n 1, 1) := by decide +kernel
theorem dX8_handDown_15 : decode cX8_handDown 15 = .ok (.if_icmp .eq 6, 3) := by decide +kernel
theorem dX8_handDown_18 : decode cX8_handDown 18 = .ok (.goto 62, 3) := by decide +kernel
theorem dX8_handDown_21 : decode cX8_handDown 21 = .ok (.iload_n 2, 1) := by decide +kernel
theorem dX8_handDown_22 : decode cX8_handDown 22 = .ok (.iconst (-1), 1) := by decide +kernel
theorem dX8_handDown_23 : decode cX8_handDown 23 = .ok (.if_icmp .eq 52, 3) := by decide +kernel
theorem dX8_handDown_26 : decode cX8_handDown 26 = .ok (.aload_n 0, 1) := by decide +kernel
theorem dX8_handDown_27 : decode cX8_handDown 27 = .ok (.iload_n 2, 1) := by decide +kernel
theorem dX8_handDown_28 : decode cX8_handDown 28 = .ok (.invokevirtual 63, 3) := by decide +kernel
theorem dX8_handDown_31 : decode cX8_handDown 31 = .ok (.ifCond .eq 44, 3) := by decide +kernel
theorem dX8_handDown_34 : decode cX8_handDown 34 = .ok (.aload_n 0, 1) := by decide +kernel
theorem dX8_handDown_35 : decode cX8_handDown 35 = .ok (.getfield 18, 3) := by decide +kernel
theorem dX8_handDown_38 : decode cX8_handDown 38 = .ok (.iload_n 2, 1) := by decide +kernel
theorem dX8_handDown_39 : decode cX8_handDown 39 = .ok (.iaload, 1) := by decide +kernel
theorem dX8_handDown_40 : decode cX8_handDown 40 = .ok (.bipush 6, 2) := by decide +kernel
theorem dX8_handDown_42 : decode cX8_handDown 42 = .ok (.if_icmp .ge 33, 3) := by decide +kernel
theorem dX8_handDown_45 : decode cX8_handDown 45 = .ok (.aload_n 0, 1) := by decide +kernel
theorem dX8_handDown_46 : decode cX8_handDown 46 = .ok (.getfield 21, 3) := by decide +kernel
theorem dX8_handDown_49 : decode cX8_handDown 49 = .ok (.iload_n 3, 1) := by decide +kernel
theorem dX8_handDown_50 : decode cX8_handDown 50 = .ok (.iload_n 2, 1) := by decide +kernel
theorem dX8_handDown_51 : decode cX8_handDown 51 = .ok (.iastore, 1) := by decide +kernel
theorem dX8_handDown_52 : decode cX8_handDown 52 = .ok (.aload_n 0, 1) := by decide +kernel
theorem dX8_handDown_53 : decode cX8_handDown 53 = .ok (.getfield 18, 3) := by decide +kernel
theorem dX8_handDown_56 : decode cX8_handDown 56 = .ok (.iload_n 1, 1) := by decide +kernel
theorem dX8_handDown_57 : decode cX8_handDown 57 = .ok (.dup2, 1) := by decide +kernel
theorem dX8_handDown_58 : decode cX8_handDown 58 = .ok (.iaload, 1) := by decide +kernel
theorem dX8_handDown_59 : decode cX8_handDown 59 = .ok (.iconst 1, 1) := by decide +kernel
theorem dX8_handDown_60 : decode cX8_handDown 60 = .ok (.isub, 1) := by decide +kernel
theorem dX8_handDown_61 : decode cX8_handDown 61 = .ok (.iastore, 1) := by decide +kernel
theorem dX8_handDown_62 : decode cX8_handDown 62 = .ok (.aload_n 0, 1) := by decide +kernel
theorem dX8_handDown_63 : decode cX8_handDown 63 = .ok (.getfield 18, 3) := by decide +kernel
theorem dX8_handDown_66 : decode cX8_handDown 66 = .ok (.iload_n 2, 1) := by decide +kernel
theorem dX8_handDown_67 : decode cX8_handDown 67 = .ok (.dup2, 1) := by decide +kernel
theorem dX8_handDown_68 : decode cX8_handDown 68 = .ok (.iaload, 1) := by decide +kernel
theorem dX8_handDown_69 : decode cX8_handDown 69 = .ok (.iconst 1, 1) := by decide +kernel
theorem dX8_handDown_70 : decode cX8_handDown 70 = .ok (.iadd, 1) := by decide +kernel
theorem dX8_handDown_71 : decode cX8_handDown 71 = .ok (.iastore, 1) := by decide +kernel
theorem dX8_handDown_72 : decode cX8_handDown 72 = .ok (.goto 8, 3) := by decide +kernel
theorem dX8_handDown_75 : decode cX8_handDown 75 = .ok (.aload_n 0, 1) := by decide +kernel
theorem dX8_handDown_76 : decode cX8_handDown 76 = .ok (.iload_n 3, 1) := by decide +kernel
theorem dX8_handDown_77 : decode cX8_handDown 77 = .ok (.invokevirtual 67, 3) := by decide +kernel
theorem dX8_handDown_80 : decode cX8_handDown 80 = .ok (.iinc 3 1, 3) := by decide +kernel
theorem dX8_handDown_83 : decode cX8_handDown 83 = .ok (.goto (-81), 3) := by decide +kernel
theorem dX8_handDown_86 : decode cX8_handDown 86 = .ok (.return_, 1) := by decide +kernel
def tX8_handDown (kn : sKn) : List (Nat × sA) := [(0, a_stk (q_int 0) 1), (1, a_istore 3 2), (2, a_iload 3 3), (3, a_stk (q_int 36) 5), (5, a_icmp kn b_ge 3 86 8), (8, a_aload 0 9), (9, a_get 9 6 12), (12, a_iload 3 13), (13, a_iald 14), (14, a_iload 1 15), (15, a_icmp kn b_eq 0 21 18), (18, a_goto 80), (21, a_iload 2 22), (22, a_stk (q_int (-1)) 23), (23, a_icmp kn b_eq 0 75 26), (26, a_aload 0 27), (27, a_iload 2 28), (28, a_callV false (fX8_lives kn) 9 2 31), (31, a_if kn b_eq 0 75 34), (34, a_aload 0 35), (35, a_get 9 5 38), (38, a_iload 2 39), (39, a_iald 40), (40, a_stk (q_int 6) 42), (42, a_icmp kn b_ge 3 75 45), (45, a_aload 0 46), (46, a_get 9 6 49), (49, a_iload 3 50), (50, a_iload 2 51), (51, a_iast 52), (52, a_aload 0 53), (53, a_get 9 5 56), (56, a_iload 1 57), (57, a_stk q_dup2 58), (58, a_iald 59), (59, a_stk (q_int 1) 60), (60, a_stk q_isub 61), (61, a_iast 62), (62, a_aload 0 63), (63, a_get 9 5 66), (66, a_iload 2 67), (67, a_stk q_dup2 68), (68, a_iald 69), (69, a_stk (q_int 1) 70), (70, a_stk q_iadd 71), (71, a_iast 72), (72, a_goto 80), (75, a_aload 0 76), (76, a_iload 3 77), (77, a_callV true (fX8_makeGap kn) 9 2 80), (80, a_iinc 3 1 83), (83, a_goto 2), (86, a_vret)]
def fX8_handDown (kn : sKn) : List Value → sW → Option sR := fW (tX8_handDown kn) 4
set_option maxRecDepth 100000 in
set_option maxHeartbeats 4000000 in
theorem mX8_handDown (kn : sKn) : mM kn yX8_handDown (Cond.code yX8_handDown cX8_handDown 4 none :: wsL_law) 2 true (fX8_handDown kn) := mM_W (fun n => mM_of (own := RX8) (ini := false) rfl (by decide +kernel) (by decide +kernel) (all_c (ok_stk (s_iconst dX8_handDown_0 (by decide))) (all_c (ok_istore_n dX8_handDown_1 rfl (by decide)) (all_c (ok_iload_n dX8_handDown_2 rfl) (all_c (ok_stk (s_bipush dX8_handDown_3 (by decide))) (all_c (ok_icmp_ge dX8_handDown_5 (by decide)) (all_c (ok_aload_n dX8_handDown_8 rfl) (all_c (okg_X8_6 kw209 dX8_handDown_9) (all_c (ok_iload_n dX8_handDown_12 rfl) (all_c (ok_iald dX8_handDown_13) (all_c (ok_iload_n dX8_handDown_14 rfl) (all_c (ok_icmp_eq dX8_handDown_15 (by decide)) (all_c (ok_goto dX8_handDown_18 (by decide)) (all_c (ok_iload_n dX8_handDown_21 rfl) (all_c (ok_stk (s_iconst dX8_handDown_22 (by decide))) (all_c (ok_icmp_eq dX8_handDown_23 (by decide)) (all_c (ok_aload_n dX8_handDown_26 rfl) (all_c (ok_iload_n dX8_handDown_27 rfl) (all_c (okc_X8_lives (by decide) kw327 dX8_handDown_28) (all_c (ok_if_eq dX8_handDown_31 (by decide)) (all_c (ok_aload_n dX8_handDown_34 rfl) (all_c (okg_X8_5 kw208 dX8_handDown_35) (all_c (ok_iload_n dX8_handDown_38 rfl) (all_c (ok_iald dX8_handDown_39) (all_c (ok_stk (s_bipush dX8_handDown_40 (by decide))) (all_c (ok_icmp_ge dX8_handDown_42 (by decide)) (all_c (ok_aload_n dX8_handDown_45 rfl) (all_c (okg_X8_6 kw209 dX8_handDown_46) (all_c (ok_iload_n dX8_handDown_49 rfl) (all_c (ok_iload_n dX8_handDown_50 rfl) (all_c (ok_iast dX8_handDown_51) (all_c (ok_aload_n dX8_handDown_52 rfl) (all_c (okg_X8_5 kw208 dX8_handDown_53) (all_c (ok_iload_n dX8_handDown_56 rfl) (all_c (ok_stk (s_dup2 dX8_handDown_57)) (all_c (ok_iald dX8_handDown_58) (all_c (ok_stk (s_iconst dX8_handDown_59 (by decide))) (all_c (ok_stk (s_isub dX8_handDown_60)) (all_c (ok_iast dX8_handDown_61) (all_c (ok_aload_n dX8_handDown_62 rfl) (all_c (okg_X8_5 kw208 dX8_handDown_63) (all_c (ok_iload_n dX8_handDown_66 rfl) (all_c (ok_stk (s_dup2 dX8_handDown_67)) (all_c (ok_iald dX8_handDown_68) (all_c (ok_stk (s_iconst dX8_handDown_69 (by decide))) (all_c (ok_stk (s_iadd dX8_handDown_70)) (all_c (ok_iast dX8_handDown_71) (all_c (ok_goto dX8_handDown_72 (by decide)) (all_c (ok_aload_n dX8_handDown_75 rfl) (all_c (ok_iload_n dX8_handDown_76 rfl) (all_c (okc_X8_makeGap (by decide) kw328 dX8_handDown_77) (all_c (ok_iinc dX8_handDown_80 (by decide) (by decide)) (all_c (ok_goto dX8_handDown_83 (by decide)) (all_c (ok_vret dX8_handDown_86) all_n))))))))))))))))))))))))))))))))))))))))))))))))))))) n (fun h => by first | rfl | cases h))
theorem dX8_passDay_0 : decode cX8_passDay 0 = .ok (.aload_n 0, 1) := by decide +kernel
theorem dX8_passDay_1 : decode cX8_passDay 1 = .ok (.getfield 36, 3) := by decide +kernel
theorem dX8_passDay_4 : decode cX8_passDay 4 = .ok (.sipush 400, 3) := by decide +kernel
theorem dX8_passDay_7 : decode cX8_passDay 7 = .ok (.if_icmp .lt 5, 3) := by decide +kernel
theorem dX8_passDay_10 : decode cX8_passDay 10 = .ok (.iconst 0, 1) := by decide +kernel
theorem dX8_passDay_11 : decode cX8_passDay 11 = .ok (.ireturn, 1) := by decide +kernel
theorem dX8_passDay_12 : decode cX8_passDay 12 = .ok (.iconst 0, 1) := by decide +kernel
theorem dX8_passDay_13 : decode cX8_passDay 13 = .ok (.istore_n 3, 1) := by decide +kernel
theorem dX8_passDay_14 : decode cX8_passDay 14 = .ok (.iconst 0, 1) := by decide +kernel
theorem dX8_passDay_15 : decode cX8_passDay 15 = .ok (.istore 4, 2) := by decide +kernel
theorem dX8_passDay_17 : decode cX8_passDay 17 = .ok (.iload 4, 2) := by decide +kernel
theorem dX8_passDay_19 : decode cX8_passDay 19 = .ok (.aload_n 1, 1) := by decide +kernel
theorem dX8_passDay_20 : decode cX8_passDay 20 = .ok (.getfield 60, 3) := by decide +kernel
theorem dX8_passDay_23 : decode cX8_passDay 23 = .ok (.if_icmp .ge 59, 3) := by decide +kernel
theorem dX8_passDay_26 : decode cX8_passDay 26 = .ok (.aload_n 0, 1) := by decide +kernel
theorem dX8_passDay_27 : decode cX8_passDay 27 = .ok (.iload 4, 2) := by decide +kernel
theorem dX8_passDay_29 : decode cX8_passDay 29 = .ok (.invokevirtual 63, 3) := by decide +kernel
theorem dX8_passDay_32 : decode cX8_passDay 32 = .ok (.ifCond .ne 44, 3) := by decide +kernel
theorem dX8_passDay_35 : decode cX8_passDay 35 = .ok (.aload_n 0, 1) := by decide +kernel
theorem dX8_passDay_36 : decode cX8_passDay 36 = .ok (.getfield 18, 3) := by decide +kernel
theorem dX8_passDay_39 : decode cX8_passDay 39 = .ok (.iload 4, 2) := by decide +kernel
theorem dX8_passDay_41 : decode cX8_passDay 41 = .ok (.iaload, 1) := by decide +kernel
theorem dX8_passDay_42 : decode cX8_passDay 42 = .ok (.ifCond .le 34, 3) := by decide +kernel
theorem dX8_passDay_45 : decode cX8_passDay 45 = .ok (.aload_n 0, 1) := by decide +kernel
theorem dX8_passDay_46 : decode cX8_passDay 46 = .ok (.getfield 15, 3) := by decide +kernel
theorem dX8_passDay_49 : decode cX8_passDay 49 = .ok (.iload 4, 2) := by decide +kernel
theorem dX8_passDay_51 : decode cX8_passDay 51 = .ok (.iaload, 1) := by decide +kernel
theorem dX8_passDay_52 : decode cX8_passDay 52 = .ok (.iload_n 2, 1) := by decide +kernel
theorem dX8_passDay_53 : decode cX8_passDay 53 = .ok (.iadd, 1) := by decide +kernel
theorem dX8_passDay_54 : decode cX8_passDay 54 = .ok (.aload_n 0, 1) := by decide +kernel
theorem dX8_passDay_55 : decode cX8_passDay 55 = .ok (.getfield 36, 3) := by decide +kernel
theorem dX8_passDay_58 : decode cX8_passDay 58 = .ok (.if_icmp .ne 18, 3) := by decide +kernel
theorem dX8_passDay_61 : decode cX8_passDay 61 = .ok (.aload_n 0, 1) := by decide +kernel
theorem dX8_passDay_62 : decode cX8_passDay 62 = .ok (.iload 4, 2) := by decide +kernel
theorem dX8_passDay_64 : decode cX8_passDay 64 = .ok (.aload_n 1, 1) := by decide +kernel
theorem dX8_passDay_65 : decode cX8_passDay 65 = .ok (.getfield 81, 3) := by decide +kernel
theorem dX8_passDay_68 : decode cX8_passDay 68 = .ok (.iload 4, 2) := by decide +kernel
theorem dX8_passDay_70 : decode cX8_passDay 70 = .ok (.iaload, 1) := by decide +kernel
theorem dX8_passDay_71 : decode cX8_passDay 71 = .ok (.invokevirtual 84, 3) := by decide +kernel
theorem dX8_passDay_74 : decode cX8_passDay 74 = .ok (.iconst 1, 1) := by decide +kernel
theorem dX8_passDay_75 : decode cX8_passDay 75 = .ok (.istore_n 3, 1) := by decide +kernel
theorem dX8_passDay_76 : decode cX8_passDay 76 = .ok (.iinc 4 1, 3) := by decide +kernel
theorem dX8_passDay_79 : decode cX8_passDay 79 = .ok (.goto (-62), 3) := by decide +kernel
theorem dX8_passDay_82 : decode cX8_passDay 82 = .ok (.aload_n 0, 1) := by decide +kernel
theorem dX8_passDay_83 : decode cX8_passDay 83 = .ok (.dup, 1) := by decide +kernel
theorem dX8_passDay_84 : decode cX8_passDay 84 = .ok (.getfield 36, 3) := by decide +kernel
theorem dX8_passDay_87 : decode cX8_passDay 87 = .ok (.iconst 1, 1) := by decide +kernel
theorem dX8_passDay_88 : decode cX8_passDay 88 = .ok (.iadd, 1) := by decide +kernel
theorem dX8_passDay_89 : decode cX8_passDay 89 = .ok (.putfield 36, 3) := by decide +kernel
theorem dX8_passDay_92 : decode cX8_passDay 92 = .ok (.iload_n 3, 1) := by decide +kernel
theorem dX8_passDay_93 : decode cX8_passDay 93 = .ok (.ireturn, 1) := by decide +kernel
theorem okc_X8_handDown {kn : sKn} {cc : ByteArray} {own : String} {nL : Nat} {D : Nat} {ret : Option FieldType} {ini : Bool} {pc index : Nat} (hD : 2 + 1 ≤ D) (hl : Cond.methodLink own index yX8_handDown ∈ wsL_law) (hd : decode cc pc = .ok (.invokevirtual index, 3)) : mOk kn cc own nL wsL_law D ret ini pc (a_callV true (fX8_handDown kn) 9 (2 + 1) (pc + 3)) := ok_callV (mX8_handDown kn) (good_ws ws_good (fun _ h => h) kw335) hD (by decide) hl kw336 kw337 kw184 ⟨by decide +kernel, by decide +kernel, by decide +kernel⟩ rfl hd
def tX8_passDay (kn : sKn) : List (Nat × sA) := [(0, a_aload 0 1), (1, a_get 9 0 4), (4, a_stk (q_int 400) 7), (7, a_icmp kn b_lt 2 12 10), (10, a_stk (q_int 0) 11), (11, a_zret), (12, a_stk (q_int 0) 13), (13, a_istore 3 14), (14, a_stk (q_int 0) 15), (15, a_istore 4 17), (17, a_iload 4 19), (19, a_aload 1 20), (20, a_get 7 2 23), (23, a_icmp kn b_ge 3 82 26), (26, a_aload 0 27), (27, a_iload 4 29), (29, a_callV false (fX8_lives kn) 9 2 32), (32, a_if kn b_ne 1 76 35), (35, a_aload 0 36), (36, a_get 9 5 39), (39, a_iload 4 41), (41, a_iald 42), (42, a_if kn b_le 5 76 45), (45, a_aload 0 46), (46, a_get 9 4 49), (49, a_iload 4 51), (51, a_iald 52), (52, a_iload 2 53), (53, a_stk q_iadd 54), (54, a_aload 0 55), (55, a_get 9 0 58), (58, a_icmp kn b_ne 1 76 61), (61, a_aload 0 62), (62, a_iload 4 64), (64, a_aload 1 65), (65, a_get 7 9 68), (68, a_iload 4 70), (70, a_iald 71), (71, a_callV true (fX8_handDown kn) 9 3 74), (74, a_stk (q_int 1) 75), (75, a_istore 3 76), (76, a_iinc 4 1 79), (79, a_goto 17), (82, a_aload 0 83), (83, a_stk q_dup 84), (84, a_get 9 0 87), (87, a_stk (q_int 1) 88), (88, a_stk q_iadd 89), (89, a_put 9 0 ckI 92), (92, a_iload 3 93), (93, a_zret)]
def fX8_passDay (kn : sKn) : List Value → sW → Option sR := fW (tX8_passDay kn) 5
set_option maxRecDepth 100000 in
set_option maxHeartbeats 4000000 in
theorem mX8_passDay (kn : sKn) : mM kn yX8_passDay (Cond.code yX8_passDay cX8_passDay 5 (some .boolean) :: wsL_law) 3 false (fX8_passDay kn) := mM_W (fun n => mM_of (own := RX8) (ini := false) rfl (by decide +kernel) (by decide +kernel) (all_c (ok_aload_n dX8_passDay_0 rfl) (all_c (okg_X8_0 kw203 dX8_passDay_1) (all_c (ok_stk (s_sipush dX8_passDay_4 (by decide))) (all_c (ok_icmp_lt dX8_passDay_7 (by decide)) (all_c (ok_stk (s_iconst dX8_passDay_10 (by decide))) (all_c (ok_zret dX8_passDay_11) (all_c (ok_stk (s_iconst dX8_passDay_12 (by decide))) (all_c (ok_istore_n dX8_passDay_13 rfl (by decide)) (all_c (ok_stk (s_iconst dX8_passDay_14 (by decide))) (all_c (ok_istore dX8_passDay_15 (by decide)) (all_c (ok_iload dX8_passDay_17) (all_c (ok_aload_n dX8_passDay_19 rfl) (all_c (okg_X6_2 kw333 dX8_passDay_20) (all_c (ok_icmp_ge dX8_passDay_23 (by decide)) (all_c (ok_aload_n dX8_passDay_26 rfl) (all_c (ok_iload dX8_passDay_27) (all_c (okc_X8_lives (by decide) kw327 dX8_passDay_29) (all_c (ok_if_ne dX8_passDay_32 (by decide)) (all_c (ok_aload_n dX8_passDay_35 rfl) (all_c (okg_X8_5 kw208 dX8_passDay_36) (all_c (ok_iload dX8_passDay_39) (all_c (ok_iald dX8_passDay_41) (all_c (ok_if_le dX8_passDay_42 (by decide)) (all_c (ok_aload_n dX8_passDay_45 rfl) (all_c (okg_X8_4 kw182 dX8_passDay_46) (all_c (ok_iload dX8_passDay_49) (all_c (ok_iald dX8_passDay_51) (all_c (ok_iload_n dX8_passDay_52 rfl) (all_c (ok_stk (s_iadd dX8_passDay_53)) (all_c (ok_aload_n dX8_passDay_54 rfl) (all_c (okg_X8_0 kw203 dX8_passDay_55) (all_c (ok_icmp_ne dX8_passDay_58 (by decide)) (all_c (ok_aload_n dX8_passDay_61 rfl) (all_c (ok_iload dX8_passDay_62) (all_c (ok_aload_n dX8_passDay_64 rfl) (all_c (okg_X6_9 kw334 dX8_passDay_65) (all_c (ok_iload dX8_passDay_68) (all_c (ok_iald dX8_passDay_70) (all_c (okc_X8_handDown (by decide) kw338 dX8_passDay_71) (all_c (ok_stk (s_iconst dX8_passDay_74 (by decide))) (all_c (ok_istore_n dX8_passDay_75 rfl (by decide)) (all_c (ok_iinc dX8_passDay_76 (by decide) (by decide)) (all_c (ok_goto dX8_passDay_79 (by decide)) (all_c (ok_aload_n dX8_passDay_82 rfl) (all_c (ok_stk (s_dup dX8_passDay_83)) (all_c (okg_X8_0 kw203 dX8_passDay_84) (all_c (ok_stk (s_iconst dX8_passDay_87 (by decide))) (all_c (ok_stk (s_iadd dX8_passDay_88)) (all_c (okp_X8_0 kw203 dX8_passDay_89) (all_c (ok_iload_n dX8_passDay_92 rfl) (all_c (ok_zret dX8_passDay_93) all_n))))))))))))))))))))))))))))))))))))))))))))))))))) n (fun h => by first | rfl | cases h))
theorem dX8_passDays_0 : decode cX8_passDays 0 = .ok (.iconst 0, 1) := by decide +kernel
theorem dX8_passDays_1 : decode cX8_passDays 1 = .ok (.istore_n 3, 1) := by decide +kernel
theorem dX8_passDays_2 : decode cX8_passDays 2 = .ok (.iload_n 3, 1) := by decide +kernel
theorem dX8_passDays_3 : decode cX8_passDays 3 = .ok (.iload_n 2, 1) := by decide +kernel
theorem dX8_passDays_4 : decode cX8_passDays 4 = .ok (.if_icmp .ge 29, 3) := by decide +kernel
theorem dX8_passDays_7 : decode cX8_passDays 7 = .ok (.aload_n 0, 1) := by decide +kernel
theorem dX8_passDays_8 : decode cX8_passDays 8 = .ok (.getfield 36, 3) := by decide +kernel
theorem dX8_passDays_11 : decode cX8_passDays 11 = .ok (.sipush 400, 3) := by decide +kernel
theorem dX8_passDays_14 : decode cX8_passDays 14 = .ok (.if_icmp .ge 19, 3) := by decide +kernel
theorem dX8_passDays_17 : decode cX8_passDays 17 = .ok (.aload_n 0, 1) := by decide +kernel
theorem dX8_passDays_18 : decode cX8_passDays 18 = .ok (.aload_n 1, 1) := by decide +kernel
theorem dX8_passDays_19 : decode cX8_passDays 19 = .ok (.aload_n 1, 1) := by decide +kernel
theorem dX8_passDays_20 : decode cX8_passDays 20 = .ok (.getfield 74, 3) := by decide +kernel
theorem dX8_passDays_23 : decode cX8_passDays 23 = .ok (.invokevirtual 77, 3) := by decide +kernel
theorem dX8_passDays_26 : decode cX8_passDays 26 = .ok (.pop, 1) := by decide +kernel
theorem dX8_passDays_27 : decode cX8_passDays 27 = .ok (.iinc 3 1, 3) := by decide +kernel
theorem dX8_passDays_30 : decode cX8_passDays 30 = .ok (.goto (-28), 3) := by decide +kernel
theorem dX8_passDays_33 : decode cX8_passDays 33 = .ok (.iload_n 3, 1) := by decide +kernel
theorem dX8_passDays_34 : decode cX8_passDays 34 = .ok (.ireturn, 1) := by decide +kernel
theorem okc_X8_passDay {kn : sKn} {cc : ByteArray} {own : String} {nL : Nat} {D : Nat} {ret : Option FieldType} {ini : Bool} {pc index : Nat} (hD : 3 + 1 ≤ D) (hl : Cond.methodLink own index yX8_passDay ∈ wsL_law) (hd : decode cc pc = .ok (.invokevirtual index, 3)) : mOk kn cc own nL wsL_law D ret ini pc (a_callV false (fX8_passDay kn) 9 (2 + 1) (pc + 3)) := ok_callV (mX8_passDay kn) (good_ws ws_good (fun _ h => h) kw340) hD (by decide) hl kw341 kw342 kw184 ⟨by decide +kernel, by decide +kernel, by decide +kernel⟩ rfl hd
def tX8_passDays (kn : sKn) : List (Nat × sA) := [(0, a_stk (q_int 0) 1), (1, a_istore 3 2), (2, a_iload 3 3), (3, a_iload 2 4), (4, a_icmp kn b_ge 3 33 7), (7, a_aload 0 8), (8, a_get 9 0 11), (11, a_stk (q_int 400) 14), (14, a_icmp kn b_ge 3 33 17), (17, a_aload 0 18), (18, a_aload 1 19), (19, a_aload 1 20), (20, a_get 7 1 23), (23, a_callV false (fX8_passDay kn) 9 3 26), (26, a_stk q_pop 27), (27, a_iinc 3 1 30), (30, a_goto 2), (33, a_iload 3 34), (34, a_iret)]
def fX8_passDays (kn : sKn) : List Value → sW → Option sR := fW (tX8_passDays kn) 4
set_option maxRecDepth 100000 in
set_option maxHeartbeats 4000000 in
theorem mX8_passDays (kn : sKn) : mM kn yX8_passDays (Cond.code yX8_passDays cX8_passDays 4 (some .int) :: wsL_law) 4 false (fX8_passDays kn) := mM_W (fun n => mM_of (own := RX8) (ini := false) rfl (by decide +kernel) (by decide +kernel) (all_c (ok_stk (s_iconst dX8_passDays_0 (by decide))) (all_c (ok_istore_n dX8_passDays_1 rfl (by decide)) (all_c (ok_iload_n dX8_passDays_2 rfl) (all_c (ok_iload_n dX8_passDays_3 rfl) (all_c (ok_icmp_ge dX8_passDays_4 (by decide)) (all_c (ok_aload_n dX8_passDays_7 rfl) (all_c (okg_X8_0 kw203 dX8_passDays_8) (all_c (ok_stk (s_sipush dX8_passDays_11 (by decide))) (all_c (ok_icmp_ge dX8_passDays_14 (by decide)) (all_c (ok_aload_n dX8_passDays_17 rfl) (all_c (ok_aload_n dX8_passDays_18 rfl) (all_c (ok_aload_n dX8_passDays_19 rfl) (all_c (okg_X6_1 kw339 dX8_passDays_20) (all_c (okc_X8_passDay (by decide) kw343 dX8_passDays_23) (all_c (ok_stk (s_pop dX8_passDays_26)) (all_c (ok_iinc dX8_passDays_27 (by decide) (by decide)) (all_c (ok_goto dX8_passDays_30 (by decide)) (all_c (ok_iload_n dX8_passDays_33 rfl) (all_c (ok_iret dX8_passDays_34) all_n))))))))))))))))))) n (fun h => by first | rfl | cases h))
theorem dX8_putPlank_0 : decode cX8_putPlank 0 = .ok (.aload_n 0, 1) := by decide +kernel
theorem dX8_putPlank_1 : decode cX8_putPlank 1 = .ok (.iload_n 1, 1) := by decide +kernel
theorem dX8_putPlank_2 : decode cX8_putPlank 2 = .ok (.invokevirtual 63, 3) := by decide +kernel
theorem dX8_putPlank_5 : decode cX8_putPlank 5 = .ok (.ifCond .ne 5, 3) := by decide +kernel
theorem dX8_putPlank_8 : decode cX8_putPlank 8 = .ok (.iconst 1, 1) := by decide +kernel
theorem dX8_putPlank_9 : decode cX8_putPlank 9 = .ok (.ireturn, 1) := by decide +kernel
theorem dX8_putPlank_10 : decode cX8_putPlank 10 = .ok (.aload_n 0, 1) := by decide +kernel
theorem dX8_putPlank_11 : decode cX8_putPlank 11 = .ok (.getfield 21, 3) := by decide +kernel
theorem dX8_putPlank_14 : decode cX8_putPlank 14 = .ok (.iload_n 2, 1) := by decide +kernel
theorem dX8_putPlank_15 : decode cX8_putPlank 15 = .ok (.iaload, 1) := by decide +kernel
theorem dX8_putPlank_16 : decode cX8_putPlank 16 = .ok (.iconst (-1), 1) := by decide +kernel
theorem dX8_putPlank_17 : decode cX8_putPlank 17 = .ok (.if_icmp .eq 5, 3) := by decide +kernel
theorem dX8_putPlank_20 : decode cX8_putPlank 20 = .ok (.iconst 2, 1) := by decide +kernel
theorem dX8_putPlank_21 : decode cX8_putPlank 21 = .ok (.ireturn, 1) := by decide +kernel
theorem dX8_putPlank_22 : decode cX8_putPlank 22 = .ok (.aload_n 0, 1) := by decide +kernel
theorem dX8_putPlank_23 : decode cX8_putPlank 23 = .ok (.getfield 18, 3) := by decide +kernel
theorem dX8_putPlank_26 : decode cX8_putPlank 26 = .ok (.iload_n 1, 1) := by decide +kernel
theorem dX8_putPlank_27 : decode cX8_putPlank 27 = .ok (.iaload, 1) := by decide +kernel
theorem dX8_putPlank_28 : decode cX8_putPlank 28 = .ok (.bipush 6, 2) := by decide +kernel
theorem dX8_putPlank_30 : decode cX8_putPlank 30 = .ok (.if_icmp .lt 5, 3) := by decide +kernel
theorem dX8_putPlank_33 : decode cX8_putPlank 33 = .ok (.iconst 3, 1) := by decide +kernel
theorem dX8_putPlank_34 : decode cX8_putPlank 34 = .ok (.ireturn, 1) := by decide +kernel
theorem dX8_putPlank_35 : decode cX8_putPlank 35 = .ok (.aload_n 0, 1) := by decide +kernel
theorem dX8_putPlank_36 : decode cX8_putPlank 36 = .ok (.getfield 21, 3) := by decide +kernel
theorem dX8_putPlank_39 : decode cX8_putPlank 39 = .ok (.iload_n 2, 1) := by decide +kernel
theorem dX8_putPlank_40 : decode cX8_putPlank 40 = .ok (.iload_n 1, 1) := by decide +kernel
theorem dX8_putPlank_41 : decode cX8_putPlank 41 = .ok (.iastore, 1) := by decide +kernel
theorem dX8_putPlank_42 : decode cX8_putPlank 42 = .ok (.aload_n 0, 1) := by decide +kernel
theorem dX8_putPlank_43 : decode cX8_putPlank 43 = .ok (.getfield 18, 3) := by decide +kernel
theorem dX8_putPlank_46 : decode cX8_putPlank 46 = .ok (.iload_n 1, 1) := by decide +kernel
theorem dX8_putPlank_47 : decode cX8_putPlank 47 = .ok (.dup2, 1) := by decide +kernel
theorem dX8_putPlank_48 : decode cX8_putPlank 48 = .ok (.iaload, 1) := by decide +kernel
theorem dX8_putPlank_49 : decode cX8_putPlank 49 = .ok (.iconst 1, 1) := by decide +kernel
theorem dX8_putPlank_50 : decode cX8_putPlank 50 = .ok (.iadd, 1) := by decide +kernel
theorem dX8_putPlank_51 : decode cX8_putPlank 51 = .ok (.iastore, 1) := by decide +kernel
theorem dX8_putPlank_52 : decode cX8_putPlank 52 = .ok (.iconst 0, 1) := by decide +kernel
theorem dX8_putPlank_53 : decode cX8_putPlank 53 = .ok (.ireturn, 1) := by decide +kernel
def tX8_putPlank (kn : sKn) : List (Nat × sA) := [(0, a_aload 0 1), (1, a_iload 1 2), (2, a_callV false (fX8_lives kn) 9 2 5), (5, a_if kn b_ne 1 10 8), (8, a_stk (q_int 1) 9), (9, a_iret), (10, a_aload 0 11), (11, a_get 9 6 14), (14, a_iload 2 15), (15, a_iald 16), (16, a_stk (q_int (-1)) 17), (17, a_icmp kn b_eq 0 22 20), (20, a_stk (q_int 2) 21), (21, a_iret), (22, a_aload 0 23), (23, a_get 9 5 26), (26, a_iload 1 27), (27, a_iald 28), (28, a_stk (q_int 6) 30), (30, a_icmp kn b_lt 2 35 33), (33, a_stk (q_int 3) 34), (34, a_iret), (35, a_aload 0 36), (36, a_get 9 6 39), (39, a_iload 2 40), (40, a_iload 1 41), (41, a_iast 42), (42, a_aload 0 43), (43, a_get 9 5 46), (46, a_iload 1 47), (47, a_stk q_dup2 48), (48, a_iald 49), (49, a_stk (q_int 1) 50), (50, a_stk q_iadd 51), (51, a_iast 52), (52, a_stk (q_int 0) 53), (53, a_iret)]
def fX8_putPlank (kn : sKn) : List Value → sW → Option sR := fW (tX8_putPlank kn) 3
set_option maxRecDepth 100000 in
set_option maxHeartbeats 4000000 in
theorem mX8_putPlank (kn : sKn) : mM kn yX8_putPlank (Cond.code yX8_putPlank cX8_putPlank 3 (some .int) :: wsL_law) 2 false (fX8_putPlank kn) := mM_W (fun n => mM_of (own := RX8) (ini := false) rfl (by decide +kernel) (by decide +kernel) (all_c (ok_aload_n dX8_putPlank_0 rfl) (all_c (ok_iload_n dX8_putPlank_1 rfl) (all_c (okc_X8_lives (by decide) kw327 dX8_putPlank_2) (all_c (ok_if_ne dX8_putPlank_5 (by decide)) (all_c (ok_stk (s_iconst dX8_putPlank_8 (by decide))) (all_c (ok_iret dX8_putPlank_9) (all_c (ok_aload_n dX8_putPlank_10 rfl) (all_c (okg_X8_6 kw209 dX8_putPlank_11) (all_c (ok_iload_n dX8_putPlank_14 rfl) (all_c (ok_iald dX8_putPlank_15) (all_c (ok_stk (s_iconst dX8_putPlank_16 (by decide))) (all_c (ok_icmp_eq dX8_putPlank_17 (by decide)) (all_c (ok_stk (s_iconst dX8_putPlank_20 (by decide))) (all_c (ok_iret dX8_putPlank_21) (all_c (ok_aload_n dX8_putPlank_22 rfl) (all_c (okg_X8_5 kw208 dX8_putPlank_23) (all_c (ok_iload_n dX8_putPlank_26 rfl) (all_c (ok_iald dX8_putPlank_27) (all_c (ok_stk (s_bipush dX8_putPlank_28 (by decide))) (all_c (ok_icmp_lt dX8_putPlank_30 (by decide)) (all_c (ok_stk (s_iconst dX8_putPlank_33 (by decide))) (all_c (ok_iret dX8_putPlank_34) (all_c (ok_aload_n dX8_putPlank_35 rfl) (all_c (okg_X8_6 kw209 dX8_putPlank_36) (all_c (ok_iload_n dX8_putPlank_39 rfl) (all_c (ok_iload_n dX8_putPlank_40 rfl) (all_c (ok_iast dX8_putPlank_41) (all_c (ok_aload_n dX8_putPlank_42 rfl) (all_c (okg_X8_5 kw208 dX8_putPlank_43) (all_c (ok_iload_n dX8_putPlank_46 rfl) (all_c (ok_stk (s_dup2 dX8_putPlank_47)) (all_c (ok_iald dX8_putPlank_48) (all_c (ok_stk (s_iconst dX8_putPlank_49 (by decide))) (all_c (ok_stk (s_iadd dX8_putPlank_50)) (all_c (ok_iast dX8_putPlank_51) (all_c (ok_stk (s_iconst dX8_putPlank_52 (by decide))) (all_c (ok_iret dX8_putPlank_53) all_n))))))))))))))))))))))))))))))))))))) n (fun h => by first | rfl | cases h))
theorem dX1_liveLine_0 : decode cX1_liveLine 0 = .ok (.aload_n 0, 1) := by decide +kernel
theorem dX1_liveLine_1 : decode cX1_liveLine 1 = .ok (.getfield 18, 3) := by decide +kernel
theorem dX1_liveLine_4 : decode cX1_liveLine 4 = .ok (.iload 4, 2) := by decide +kernel
theorem dX1_liveLine_6 : decode cX1_liveLine 6 = .ok (.iaload, 1) := by decide +kernel
theorem dX1_liveLine_7 : decode cX1_liveLine 7 = .ok (.istore 5, 2) := by decide +kernel
theorem dX1_liveLine_9 : decode cX1_liveLine 9 = .ok (.iconst 3, 1) := by decide +kernel
theorem dX1_liveLine_10 : decode cX1_liveLine 10 = .ok (.iload 5, 2) := by decide +kernel
theorem dX1_liveLine_12 : decode cX1_liveLine 12 = .ok (.imul, 1) := by decide +kernel
theorem dX1_liveLine_13 : decode cX1_liveLine 13 = .ok (.aload_n 0, 1) := by decide +kernel
theorem dX1_liveLine_14 : decode cX1_liveLine 14 = .ok (.getfield 21, 3) := by decide +kernel
theorem dX1_liveLine_17 : decode cX1_liveLine 17 = .ok (.iload 4, 2) := by decide +kernel
theorem dX1_liveLine_19 : decode cX1_liveLine 19 = .ok (.iaload, 1) := by decide +kernel
theorem dX1_liveLine_20 : decode cX1_liveLine 20 = .ok (.iadd, 1) := by decide +kernel
theorem dX1_liveLine_21 : decode cX1_liveLine 21 = .ok (.istore 6, 2) := by decide +kernel
theorem dX1_liveLine_23 : decode cX1_liveLine 23 = .ok (.aload_n 0, 1) := by decide +kernel
theorem dX1_liveLine_24 : decode cX1_liveLine 24 = .ok (.getfield 11, 3) := by decide +kernel
theorem dX1_liveLine_27 : decode cX1_liveLine 27 = .ok (.iload 4, 2) := by decide +kernel
theorem dX1_liveLine_29 : decode cX1_liveLine 29 = .ok (.iaload, 1) := by decide +kernel
theorem dX1_liveLine_30 : decode cX1_liveLine 30 = .ok (.tableswitch 167 8 13 #[38, 92, 109, 126, 66, 143], 38) := by decide +kernel
theorem dX1_liveLine_68 : decode cX1_liveLine 68 = .ok (.iload 5, 2) := by decide +kernel
theorem dX1_liveLine_70 : decode cX1_liveLine 70 = .ok (.aload_n 1, 1) := by decide +kernel
theorem dX1_liveLine_71 : decode cX1_liveLine 71 = .ok (.getfield 106, 3) := by decide +kernel
theorem dX1_liveLine_74 : decode cX1_liveLine 74 = .ok (.if_icmp .lt 8, 3) := by decide +kernel
theorem dX1_liveLine_77 : decode cX1_liveLine 77 = .ok (.bipush 9, 2) := by decide +kernel
theorem dX1_liveLine_79 : decode cX1_liveLine 79 = .ok (.goto 16, 3) := by decide +kernel
theorem dX1_liveLine_82 : decode cX1_liveLine 82 = .ok (.aload_n 2, 1) := by decide +kernel
theorem dX1_liveLine_83 : decode cX1_liveLine 83 = .ok (.aload_n 0, 1) := by decide +kernel
theorem dX1_liveLine_84 : decode cX1_liveLine 84 = .ok (.getfield 15, 3) := by decide +kernel
theorem dX1_liveLine_87 : decode cX1_liveLine 87 = .ok (.iload 4, 2) := by decide +kernel
theorem dX1_liveLine_89 : decode cX1_liveLine 89 = .ok (.iaload, 1) := by decide +kernel
theorem dX1_liveLine_90 : decode cX1_liveLine 90 = .ok (.iload 6, 2) := by decide +kernel
theorem dX1_liveLine_92 : decode cX1_liveLine 92 = .ok (.invokevirtual 109, 3) := by decide +kernel
theorem dX1_liveLine_95 : decode cX1_liveLine 95 = .ok (.ireturn, 1) := by decide +kernel
theorem dX1_liveLine_96 : decode cX1_liveLine 96 = .ok (.iload 5, 2) := by decide +kernel
theorem dX1_liveLine_98 : decode cX1_liveLine 98 = .ok (.aload_n 1, 1) := by decide +kernel
theorem dX1_liveLine_99 : decode cX1_liveLine 99 = .ok (.getfield 106, 3) := by decide +kernel
theorem dX1_liveLine_102 : decode cX1_liveLine 102 = .ok (.if_icmp .lt 8, 3) := by decide +kernel
theorem dX1_liveLine_105 : decode cX1_liveLine 105 = .ok (.bipush 19, 2) := by decide +kernel
theorem dX1_liveLine_107 : decode cX1_liveLine 107 = .ok (.goto 14, 3) := by decide +kernel
theorem dX1_liveLine_110 : decode cX1_liveLine 110 = .ok (.bipush 10, 2) := by decide +kernel
theorem dX1_liveLine_112 : decode cX1_liveLine 112 = .ok (.aload_n 2, 1) := by decide +kernel
theorem dX1_liveLine_113 : decode cX1_liveLine 113 = .ok (.iload 6, 2) := by decide +kernel
theorem dX1_liveLine_115 : decode cX1_liveLine 115 = .ok (.invokevirtual 113, 3) := by decide +kernel
theorem dX1_liveLine_118 : decode cX1_liveLine 118 = .ok (.invokestatic 117, 3) := by decide +kernel
theorem dX1_liveLine_121 : decode cX1_liveLine 121 = .ok (.ireturn, 1) := by decide +kernel
theorem dX1_liveLine_122 : decode cX1_liveLine 122 = .ok (.bipush 20, 2) := by decide +kernel
theorem dX1_liveLine_124 : decode cX1_liveLine 124 = .ok (.aload_n 2, 1) := by decide +kernel
theorem dX1_liveLine_125 : decode cX1_liveLine 125 = .ok (.aload_n 0, 1) := by decide +kernel
theorem dX1_liveLine_126 : decode cX1_liveLine 126 = .ok (.getfield 15, 3) := by decide +kernel
theorem dX1_liveLine_129 : decode cX1_liveLine 129 = .ok (.iload 4, 2) := by decide +kernel
theorem dX1_liveLine_131 : decode cX1_liveLine 131 = .ok (.iaload, 1) := by decide +kernel
theorem dX1_liveLine_132 : decode cX1_liveLine 132 = .ok (.invokevirtual 120, 3) := by decide +kernel
theorem dX1_liveLine_135 : decode cX1_liveLine 135 = .ok (.invokestatic 117, 3) := by decide +kernel
theorem dX1_liveLine_138 : decode cX1_liveLine 138 = .ok (.ireturn, 1) := by decide +kernel
theorem dX1_liveLine_139 : decode cX1_liveLine 139 = .ok (.bipush 30, 2) := by decide +kernel
theorem dX1_liveLine_141 : decode cX1_liveLine 141 = .ok (.aload_n 2, 1) := by decide +kernel
theorem dX1_liveLine_142 : decode cX1_liveLine 142 = .ok (.aload_n 0, 1) := by decide +kernel
theorem dX1_liveLine_143 : decode cX1_liveLine 143 = .ok (.getfield 15, 3) := by decide +kernel
theorem dX1_liveLine_146 : decode cX1_liveLine 146 = .ok (.iload 4, 2) := by decide +kernel
theorem dX1_liveLine_148 : decode cX1_liveLine 148 = .ok (.iaload, 1) := by decide +kernel
theorem dX1_liveLine_149 : decode cX1_liveLine 149 = .ok (.invokevirtual 123, 3) := by decide +kernel
theorem dX1_liveLine_152 : decode cX1_liveLine 152 = .ok (.invokestatic 117, 3) := by decide +kernel
theorem dX1_liveLine_155 : decode cX1_liveLine 155 = .ok (.ireturn, 1) := by decide +kernel
theorem dX1_liveLine_156 : decode cX1_liveLine 156 = .ok (.bipush 40, 2) := by decide +kernel
theorem dX1_liveLine_158 : decode cX1_liveLine 158 = .ok (.aload_n 2, 1) := by decide +kernel
theorem dX1_liveLine_159 : decode cX1_liveLine 159 = .ok (.aload_n 0, 1) := by decide +kernel
theorem dX1_liveLine_160 : decode cX1_liveLine 160 = .ok (.getfield 15, 3) := by decide +kernel
theorem dX1_liveLine_163 : decode cX1_liveLine 163 = .ok (.iload 4, 2) := by decide +kernel
theorem dX1_liveLine_165 : decode cX1_liveLine 165 = .ok (.iaload, 1) := by decide +kernel
theorem dX1_liveLine_166 : decode cX1_liveLine 166 = .ok (.invokevirtual 126, 3) := by decide +kernel
theorem dX1_liveLine_169 : decode cX1_liveLine 169 = .ok (.invokestatic 117, 3) := by decide +kernel
theorem dX1_liveLine_172 : decode cX1_liveLine 172 = .ok (.ireturn, 1) := by decide +kernel
theorem dX1_liveLine_173 : decode cX1_liveLine 173 = .ok (.aload_n 3, 1) := by decide +kernel
theorem dX1_liveLine_174 : decode cX1_liveLine 174 = .ok (.aload_n 1, 1) := by decide +kernel
theorem dX1_liveLine_175 : decode cX1_liveLine 175 = .ok (.aload_n 2, 1) := by decide +kernel
theorem dX1_liveLine_176 : decode cX1_liveLine 176 = .ok (.aload_n 0, 1) := by decide +kernel
theorem dX1_liveLine_177 : decode cX1_liveLine 177 = .ok (.getfield 15, 3) := by decide +kernel
theorem dX1_liveLine_180 : decode cX1_liveLine 180 = .ok (.iload 4, 2) := by decide +kernel
theorem dX1_liveLine_182 : decode cX1_liveLine 182 = .ok (.iaload, 1) := by decide +kernel
theorem dX1_liveLine_183 : decode cX1_liveLine 183 = .ok (.invokevirtual 129, 3) := by decide +kernel
theorem dX1_liveLine_186 : decode cX1_liveLine 186 = .ok (.iconst 1, 1) := by decide +kernel
theorem dX1_liveLine_187 : decode cX1_liveLine 187 = .ok (.if_icmp .ne 8, 3) := by decide +kernel
theorem dX1_liveLine_190 : decode cX1_liveLine 190 = .ok (.bipush 51, 2) := by decide +kernel
theorem dX1_liveLine_192 : decode cX1_liveLine 192 = .ok (.goto 4, 3) := by decide +kernel
theorem dX1_liveLine_195 : decode cX1_liveLine 195 = .ok (.iconst 0, 1) := by decide +kernel
theorem dX1_liveLine_196 : decode cX1_liveLine 196 = .ok (.ireturn, 1) := by decide +kernel
theorem dX1_liveLine_197 : decode cX1_liveLine 197 = .ok (.aload_n 2, 1) := by decide +kernel
theorem dX1_liveLine_198 : decode cX1_liveLine 198 = .ok (.getfield 98, 3) := by decide +kernel
theorem dX1_liveLine_201 : decode cX1_liveLine 201 = .ok (.aload_n 0, 1) := by decide +kernel
theorem dX1_liveLine_202 : decode cX1_liveLine 202 = .ok (.getfield 18, 3) := by decide +kernel
theorem dX1_liveLine_205 : decode cX1_liveLine 205 = .ok (.iload 4, 2) := by decide +kernel
theorem dX1_liveLine_207 : decode cX1_liveLine 207 = .ok (.iaload, 1) := by decide +kernel
theorem dX1_liveLine_208 : decode cX1_liveLine 208 = .ok (.iadd, 1) := by decide +kernel
theorem dX1_liveLine_209 : decode cX1_liveLine 209 = .ok (.sipush 400, 3) := by decide +kernel
theorem dX1_liveLine_212 : decode cX1_liveLine 212 = .ok (.if_icmp .le 6, 3) := by decide +kernel
theorem dX1_liveLine_215 : decode cX1_liveLine 215 = .ok (.bipush 61, 2) := by decide +kernel
theorem dX1_liveLine_217 : decode cX1_liveLine 217 = .ok (.ireturn, 1) := by decide +kernel
theorem dX1_liveLine_218 : decode cX1_liveLine 218 = .ok (.aload_n 2, 1) := by decide +kernel
theorem dX1_liveLine_219 : decode cX1_liveLine 219 = .ok (.aload_n 1, 1) := by decide +kernel
theorem dX1_liveLine_220 : decode cX1_liveLine 220 = .ok (.aload_n 0, 1) := by decide +kernel
theorem dX1_liveLine_221 : decode cX1_liveLine 221 = .ok (.getfield 18, 3) := by decide +kernel
theorem dX1_liveLine_224 : decode cX1_liveLine 224 = .ok (.iload 4, 2) := by decide +kernel
theorem dX1_liveLine_226 : decode cX1_liveLine 226 = .ok (.iaload, 1) := by decide +kernel
theorem dX1_liveLine_227 : decode cX1_liveLine 227 = .ok (.invokevirtual 135, 3) := by decide +kernel
theorem dX1_liveLine_230 : decode cX1_liveLine 230 = .ok (.pop, 1) := by decide +kernel
theorem dX1_liveLine_231 : decode cX1_liveLine 231 = .ok (.iconst 0, 1) := by decide +kernel
theorem dX1_liveLine_232 : decode cX1_liveLine 232 = .ok (.ireturn, 1) := by decide +kernel
theorem okc_X8_putPlank {kn : sKn} {cc : ByteArray} {own : String} {nL : Nat} {D : Nat} {ret : Option FieldType} {ini : Bool} {pc index : Nat} (hD : 2 + 1 ≤ D) (hl : Cond.methodLink own index yX8_putPlank ∈ wsL_law) (hd : decode cc pc = .ok (.invokevirtual index, 3)) : mOk kn cc own nL wsL_law D ret ini pc (a_callV false (fX8_putPlank kn) 9 (2 + 1) (pc + 3)) := ok_callV (mX8_putPlank kn) (good_ws ws_good (fun _ h => h) kw349) hD (by decide) hl kw350 kw351 kw184 ⟨by decide +kernel, by decide +kernel, by decide +kernel⟩ rfl hd
theorem okc_X8_burnPlank {kn : sKn} {cc : ByteArray} {own : String} {nL : Nat} {D : Nat} {ret : Option FieldType} {ini : Bool} {pc index : Nat} (hD : 2 + 1 ≤ D) (hl : Cond.methodLink own index yX8_burnPlank ∈ wsL_law) (hd : decode cc pc = .ok (.invokevirtual index, 3)) : mOk kn cc own nL wsL_law D ret ini pc (a_callV false (fX8_burnPlank kn) 9 (1 + 1) (pc + 3)) := ok_callV (mX8_burnPlank kn) (good_ws ws_good (fun _ h => h) kw353) hD (by decide) hl kw354 kw355 kw184 ⟨by decide +kernel, by decide +kernel, by decide +kernel⟩ rfl hd
theorem okc_X1_behind {kn : sKn} {cc : ByteArray} {own : String} {nL : Nat} {D : Nat} {ret : Option FieldType} {ini : Bool} {pc index : Nat} (hD : 1 + 1 ≤ D) (hl : Cond.methodLink own index yX1_behind ∈ wsL_law) (hd : decode cc pc = .ok (.invokestatic index, 3)) : mOk kn cc own nL wsL_law D ret ini pc (a_callS false (fX1_behind kn) 2 (pc + 3)) := ok_callS (mX1_behind kn) (good_ws ws_good (fun _ h => h) kw357) hD (by decide) hl kw359 kw358 ⟨by decide +kernel, by decide +kernel, by decide +kernel⟩ hd
theorem okc_X8_breakWord {kn : sKn} {cc : ByteArray} {own : String} {nL : Nat} {D : Nat} {ret : Option FieldType} {ini : Bool} {pc index : Nat} (hD : 2 + 1 ≤ D) (hl : Cond.methodLink own index yX8_breakWord ∈ wsL_law) (hd : decode cc pc = .ok (.invokevirtual index, 3)) : mOk kn cc own nL wsL_law D ret ini pc (a_callV false (fX8_breakWord kn) 9 (1 + 1) (pc + 3)) := ok_callV (mX8_breakWord kn) (good_ws ws_good (fun _ h => h) kw361) hD (by decide) hl kw362 kw363 kw184 ⟨by decide +kernel, by decide +kernel, by decide +kernel⟩ rfl hd
theorem okc_X8_holdWord {kn : sKn} {cc : ByteArray} {own : String} {nL : Nat} {D : Nat} {ret : Option FieldType} {ini : Bool} {pc index : Nat} (hD : 2 + 1 ≤ D) (hl : Cond.methodLink own index yX8_holdWord ∈ wsL_law) (hd : decode cc pc = .ok (.invokevirtual index, 3)) : mOk kn cc own nL wsL_law D ret ini pc (a_callV false (fX8_holdWord kn) 9 (1 + 1) (pc + 3)) := ok_callV (mX8_holdWord kn) (good_ws ws_good (fun _ h => h) kw365) hD (by decide) hl kw366 kw367 kw184 ⟨by decide +kernel, by decide +kernel, by decide +kernel⟩ rfl hd
theorem okc_X8_endLife {kn : sKn} {cc : ByteArray} {own : String} {nL : Nat} {D : Nat} {ret : Option FieldType} {ini : Bool} {pc index : Nat} (hD : 2 + 1 ≤ D) (hl : Cond.methodLink own index yX8_endLife ∈ wsL_law) (hd : decode cc pc = .ok (.invokevirtual index, 3)) : mOk kn cc own nL wsL_law D ret ini pc (a_callV false (fX8_endLife kn) 9 (1 + 1) (pc + 3)) := ok_callV (mX8_endLife kn) (good_ws ws_good (fun _ h => h) kw369) hD (by decide) hl kw370 kw371 kw184 ⟨by decide +kernel, by decide +kernel, by decide +kernel⟩ rfl hd
theorem okc_X10_tryCrossing {kn : sKn} {cc : ByteArray} {own : String} {nL : Nat} {D : Nat} {ret : Option FieldType} {ini : Bool} {pc index : Nat} (hD : 4 + 1 ≤ D) (hl : Cond.methodLink own index yX10_tryCrossing ∈ wsL_law) (hd : decode cc pc = .ok (.invokevirtual index, 3)) : mOk kn cc own nL wsL_law D ret ini pc (a_callV false (fX10_tryCrossing kn) 11 (3 + 1) (pc + 3)) := ok_callV (mX10_tryCrossing kn) (good_ws ws_good (fun _ h => h) kw373) hD (by decide) hl kw374 kw375 kw170 ⟨by decide +kernel, by decide +kernel, by decide +kernel⟩ rfl hd
theorem okc_X8_passDays {kn : sKn} {cc : ByteArray} {own : String} {nL : Nat} {D : Nat} {ret : Option FieldType} {ini : Bool} {pc index : Nat} (hD : 4 + 1 ≤ D) (hl : Cond.methodLink own index yX8_passDays ∈ wsL_law) (hd : decode cc pc = .ok (.invokevirtual index, 3)) : mOk kn cc own nL wsL_law D ret ini pc (a_callV false (fX8_passDays kn) 9 (2 + 1) (pc + 3)) := ok_callV (mX8_passDays kn) (good_ws ws_good (fun _ h => h) kw378) hD (by decide) hl kw379 kw380 kw184 ⟨by decide +kernel, by decide +kernel, by decide +kernel⟩ rfl hd
def tX1_liveLine (kn : sKn) : List (Nat × sA) := [(0, a_aload 0 1), (1, a_get 2 2 4), (4, a_iload 4 6), (6, a_iald 7), (7, a_istore 5 9), (9, a_stk (q_int 3) 10), (10, a_iload 5 12), (12, a_stk q_imul 13), (13, a_aload 0 14), (14, a_get 2 3 17), (17, a_iload 4 19), (19, a_iald 20), (20, a_stk q_iadd 21), (21, a_istore 6 23), (23, a_aload 0 24), (24, a_get 2 0 27), (27, a_iload 4 29), (29, a_iald 30), (30, a_table kn 8 13 [68, 122, 139, 156, 96, 173] 197), (68, a_iload 5 70), (70, a_aload 1 71), (71, a_get 7 0 74), (74, a_icmp kn b_lt 2 82 77), (77, a_stk (q_int 9) 79), (79, a_goto 95), (82, a_aload 2 83), (83, a_aload 0 84), (84, a_get 2 1 87), (87, a_iload 4 89), (89, a_iald 90), (90, a_iload 6 92), (92, a_callV false (fX8_putPlank kn) 9 3 95), (95, a_iret), (96, a_iload 5 98), (98, a_aload 1 99), (99, a_get 7 0 102), (102, a_icmp kn b_lt 2 110 105), (105, a_stk (q_int 19) 107), (107, a_goto 121), (110, a_stk (q_int 10) 112), (112, a_aload 2 113), (113, a_iload 6 115), (115, a_callV false (fX8_burnPlank kn) 9 2 118), (118, a_callS false (fX1_behind kn) 2 121), (121, a_iret), (122, a_stk (q_int 20) 124), (124, a_aload 2 125), (125, a_aload 0 126), (126, a_get 2 1 129), (129, a_iload 4 131), (131, a_iald 132), (132, a_callV false (fX8_breakWord kn) 9 2 135), (135, a_callS false (fX1_behind kn) 2 138), (138, a_iret), (139, a_stk (q_int 30) 141), (141, a_aload 2 142), (142, a_aload 0 143), (143, a_get 2 1 146), (146, a_iload 4 148), (148, a_iald 149), (149, a_callV false (fX8_holdWord kn) 9 2 152), (152, a_callS false (fX1_behind kn) 2 155), (155, a_iret), (156, a_stk (q_int 40) 158), (158, a_aload 2 159), (159, a_aload 0 160), (160, a_get 2 1 163), (163, a_iload 4 165), (165, a_iald 166), (166, a_callV false (fX8_endLife kn) 9 2 169), (169, a_callS false (fX1_behind kn) 2 172), (172, a_iret), (173, a_aload 3 174), (174, a_aload 1 175), (175, a_aload 2 176), (176, a_aload 0 177), (177, a_get 2 1 180), (180, a_iload 4 182), (182, a_iald 183), (183, a_callV false (fX10_tryCrossing kn) 11 4 186), (186, a_stk (q_int 1) 187), (187, a_icmp kn b_ne 1 195 190), (190, a_stk (q_int 51) 192), (192, a_goto 196), (195, a_stk (q_int 0) 196), (196, a_iret), (197, a_aload 2 198), (198, a_get 9 0 201), (201, a_aload 0 202), (202, a_get 2 2 205), (205, a_iload 4 207), (207, a_iald 208), (208, a_stk q_iadd 209), (209, a_stk (q_int 400) 212), (212, a_icmp kn b_le 5 218 215), (215, a_stk (q_int 61) 217), (217, a_iret), (218, a_aload 2 219), (219, a_aload 1 220), (220, a_aload 0 221), (221, a_get 2 2 224), (224, a_iload 4 226), (226, a_iald 227), (227, a_callV false (fX8_passDays kn) 9 3 230), (230, a_stk q_pop 231), (231, a_stk (q_int 0) 232), (232, a_iret)]
def fX1_liveLine (kn : sKn) : List Value → sW → Option sR := fW (tX1_liveLine kn) 7
set_option maxRecDepth 100000 in
set_option maxHeartbeats 4000000 in
theorem mX1_liveLine (kn : sKn) : mM kn yX1_liveLine (Cond.code yX1_liveLine cX1_liveLine 7 (some .int) :: wsL_law) 5 false (fX1_liveLine kn) := mM_W (fun n => mM_of (own := RX1) (ini := false) rfl (by decide +kernel) (by decide +kernel) (all_c (ok_aload_n dX1_liveLine_0 rfl) (all_c (okg_X1_2 kw344 dX1_liveLine_1) (all_c (ok_iload dX1_liveLine_4) (all_c (ok_iald dX1_liveLine_6) (all_c (ok_istore dX1_liveLine_7 (by decide)) (all_c (ok_stk (s_iconst dX1_liveLine_9 (by decide))) (all_c (ok_iload dX1_liveLine_10) (all_c (ok_stk (s_imul dX1_liveLine_12)) (all_c (ok_aload_n dX1_liveLine_13 rfl) (all_c (okg_X1_3 kw345 dX1_liveLine_14) (all_c (ok_iload dX1_liveLine_17) (all_c (ok_iald dX1_liveLine_19) (all_c (ok_stk (s_iadd dX1_liveLine_20)) (all_c (ok_istore dX1_liveLine_21 (by decide)) (all_c (ok_aload_n dX1_liveLine_23 rfl) (all_c (okg_X1_0 kw346 dX1_liveLine_24) (all_c (ok_iload dX1_liveLine_27) (all_c (ok_iald dX1_liveLine_29) (all_c (ok_table dX1_liveLine_30 (by decide) (by decide) (by decide) (by decide)) (all_c (ok_iload dX1_liveLine_68) (all_c (ok_aload_n dX1_liveLine_70 rfl) (all_c (okg_X6_0 kw347 dX1_liveLine_71) (all_c (ok_icmp_lt dX1_liveLine_74 (by decide)) (all_c (ok_stk (s_bipush dX1_liveLine_77 (by decide))) (all_c (ok_goto dX1_liveLine_79 (by decide)) (all_c (ok_aload_n dX1_liveLine_82 rfl) (all_c (ok_aload_n dX1_liveLine_83 rfl) (all_c (okg_X1_1 kw348 dX1_liveLine_84) (all_c (ok_iload dX1_liveLine_87) (all_c (ok_iald dX1_liveLine_89) (all_c (ok_iload dX1_liveLine_90) (all_c (okc_X8_putPlank (by decide) kw352 dX1_liveLine_92) (all_c (ok_iret dX1_liveLine_95) (all_c (ok_iload dX1_liveLine_96) (all_c (ok_aload_n dX1_liveLine_98 rfl) (all_c (okg_X6_0 kw347 dX1_liveLine_99) (all_c (ok_icmp_lt dX1_liveLine_102 (by decide)) (all_c (ok_stk (s_bipush dX1_liveLine_105 (by decide))) (all_c (ok_goto dX1_liveLine_107 (by decide)) (all_c (ok_stk (s_bipush dX1_liveLine_110 (by decide))) (all_c (ok_aload_n dX1_liveLine_112 rfl) (all_c (ok_iload dX1_liveLine_113) (all_c (okc_X8_burnPlank (by decide) kw356 dX1_liveLine_115) (all_c (okc_X1_behind (by decide) kw360 dX1_liveLine_118) (all_c (ok_iret dX1_liveLine_121) (all_c (ok_stk (s_bipush dX1_liveLine_122 (by decide))) (all_c (ok_aload_n dX1_liveLine_124 rfl) (all_c (ok_aload_n dX1_liveLine_125 rfl) (all_c (okg_X1_1 kw348 dX1_liveLine_126) (all_c (ok_iload dX1_liveLine_129) (all_c (ok_iald dX1_liveLine_131) (all_c (okc_X8_breakWord (by decide) kw364 dX1_liveLine_132) (all_c (okc_X1_behind (by decide) kw360 dX1_liveLine_135) (all_c (ok_iret dX1_liveLine_138) (all_c (ok_stk (s_bipush dX1_liveLine_139 (by decide))) (all_c (ok_aload_n dX1_liveLine_141 rfl) (all_c (ok_aload_n dX1_liveLine_142 rfl) (all_c (okg_X1_1 kw348 dX1_liveLine_143) (all_c (ok_iload dX1_liveLine_146) (all_c (ok_iald dX1_liveLine_148) (all_c (okc_X8_holdWord (by decide) kw368 dX1_liveLine_149) (all_c (okc_X1_behind (by decide) kw360 dX1_liveLine_152) (all_c (ok_iret dX1_liveLine_155) (all_c (ok_stk (s_bipush dX1_liveLine_156 (by decide))) (all_c (ok_aload_n dX1_liveLine_158 rfl) (all_c (ok_aload_n dX1_liveLine_159 rfl) (all_c (okg_X1_1 kw348 dX1_liveLine_160) (all_c (ok_iload dX1_liveLine_163) (all_c (ok_iald dX1_liveLine_165) (all_c (okc_X8_endLife (by decide) kw372 dX1_liveLine_166) (all_c (okc_X1_behind (by decide) kw360 dX1_liveLine_169) (all_c (ok_iret dX1_liveLine_172) (all_c (ok_aload_n dX1_liveLine_173 rfl) (all_c (ok_aload_n dX1_liveLine_174 rfl) (all_c (ok_aload_n dX1_liveLine_175 rfl) (all_c (ok_aload_n dX1_liveLine_176 rfl) (all_c (okg_X1_1 kw348 dX1_liveLine_177) (all_c (ok_iload dX1_liveLine_180) (all_c (ok_iald dX1_liveLine_182) (all_c (okc_X10_tryCrossing (by decide) kw376 dX1_liveLine_183) (all_c (ok_stk (s_iconst dX1_liveLine_186 (by decide))) (all_c (ok_icmp_ne dX1_liveLine_187 (by decide)) (all_c (ok_stk (s_bipush dX1_liveLine_190 (by decide))) (all_c (ok_goto dX1_liveLine_192 (by decide)) (all_c (ok_stk (s_iconst dX1_liveLine_195 (by decide))) (all_c (ok_iret dX1_liveLine_196) (all_c (ok_aload_n dX1_liveLine_197 rfl) (all_c (okg_X8_0 kw377 dX1_liveLine_198) (all_c (ok_aload_n dX1_liveLine_201 rfl) (all_c (okg_X1_2 kw344 dX1_liveLine_202) (all_c (ok_iload dX1_liveLine_205) (all_c (ok_iald dX1_liveLine_207) (all_c (ok_stk (s_iadd dX1_liveLine_208)) (all_c (ok_stk (s_sipush dX1_liveLine_209 (by decide))) (all_c (ok_icmp_le dX1_liveLine_212 (by decide)) (all_c (ok_stk (s_bipush dX1_liveLine_215 (by decide))) (all_c (ok_iret dX1_liveLine_217) (all_c (ok_aload_n dX1_liveLine_218 rfl) (all_c (ok_aload_n dX1_liveLine_219 rfl) (all_c (ok_aload_n dX1_liveLine_220 rfl) (all_c (okg_X1_2 kw344 dX1_liveLine_221) (all_c (ok_iload dX1_liveLine_224) (all_c (ok_iald dX1_liveLine_226) (all_c (okc_X8_passDays (by decide) kw381 dX1_liveLine_227) (all_c (ok_stk (s_pop dX1_liveLine_230)) (all_c (ok_stk (s_iconst dX1_liveLine_231 (by decide))) (all_c (ok_iret dX1_liveLine_232) all_n))))))))))))))))))))))))))))))))))))))))))))))))))))))))))))))))))))))))))))))))))))))))))))))))))))))))))) n (fun h => by first | rfl | cases h))
theorem dX1_live_0 : decode cX1_live 0 = .ok (.iconst 0, 1) := by decide +kernel
theorem dX1_live_1 : decode cX1_live 1 = .ok (.istore 4, 2) := by decide +kernel
theorem dX1_live_3 : decode cX1_live 3 = .ok (.iconst 0, 1) := by decide +kernel
theorem dX1_live_4 : decode cX1_live 4 = .ok (.istore 5, 2) := by decide +kernel
theorem dX1_live_6 : decode cX1_live 6 = .ok (.iload 4, 2) := by decide +kernel
theorem dX1_live_8 : decode cX1_live 8 = .ok (.aload_n 0, 1) := by decide +kernel
theorem dX1_live_9 : decode cX1_live 9 = .ok (.getfield 33, 3) := by decide +kernel
theorem dX1_live_12 : decode cX1_live 12 = .ok (.if_icmp .ge 30, 3) := by decide +kernel
theorem dX1_live_15 : decode cX1_live 15 = .ok (.iload 5, 2) := by decide +kernel
theorem dX1_live_17 : decode cX1_live 17 = .ok (.ifCond .ne 25, 3) := by decide +kernel
theorem dX1_live_20 : decode cX1_live 20 = .ok (.aload_n 0, 1) := by decide +kernel
theorem dX1_live_21 : decode cX1_live 21 = .ok (.aload_n 1, 1) := by decide +kernel
theorem dX1_live_22 : decode cX1_live 22 = .ok (.aload_n 2, 1) := by decide +kernel
theorem dX1_live_23 : decode cX1_live 23 = .ok (.aload_n 3, 1) := by decide +kernel
theorem dX1_live_24 : decode cX1_live 24 = .ok (.iload 4, 2) := by decide +kernel
theorem dX1_live_26 : decode cX1_live 26 = .ok (.invokevirtual 94, 3) := by decide +kernel
theorem dX1_live_29 : decode cX1_live 29 = .ok (.istore 5, 2) := by decide +kernel
theorem dX1_live_31 : decode cX1_live 31 = .ok (.iload 5, 2) := by decide +kernel
theorem dX1_live_33 : decode cX1_live 33 = .ok (.ifCond .ne (-27), 3) := by decide +kernel
theorem dX1_live_36 : decode cX1_live 36 = .ok (.iinc 4 1, 3) := by decide +kernel
theorem dX1_live_39 : decode cX1_live 39 = .ok (.goto (-33), 3) := by decide +kernel
theorem dX1_live_42 : decode cX1_live 42 = .ok (.aload_n 0, 1) := by decide +kernel
theorem dX1_live_43 : decode cX1_live 43 = .ok (.getfield 24, 3) := by decide +kernel
theorem dX1_live_46 : decode cX1_live 46 = .ok (.iconst 0, 1) := by decide +kernel
theorem dX1_live_47 : decode cX1_live 47 = .ok (.iload 5, 2) := by decide +kernel
theorem dX1_live_49 : decode cX1_live 49 = .ok (.iastore, 1) := by decide +kernel
theorem dX1_live_50 : decode cX1_live 50 = .ok (.aload_n 0, 1) := by decide +kernel
theorem dX1_live_51 : decode cX1_live 51 = .ok (.getfield 24, 3) := by decide +kernel
theorem dX1_live_54 : decode cX1_live 54 = .ok (.iconst 1, 1) := by decide +kernel
theorem dX1_live_55 : decode cX1_live 55 = .ok (.iload 4, 2) := by decide +kernel
theorem dX1_live_57 : decode cX1_live 57 = .ok (.iastore, 1) := by decide +kernel
theorem dX1_live_58 : decode cX1_live 58 = .ok (.aload_n 0, 1) := by decide +kernel
theorem dX1_live_59 : decode cX1_live 59 = .ok (.getfield 24, 3) := by decide +kernel
theorem dX1_live_62 : decode cX1_live 62 = .ok (.iconst 2, 1) := by decide +kernel
theorem dX1_live_63 : decode cX1_live 63 = .ok (.aload_n 2, 1) := by decide +kernel
theorem dX1_live_64 : decode cX1_live 64 = .ok (.getfield 98, 3) := by decide +kernel
theorem dX1_live_67 : decode cX1_live 67 = .ok (.iastore, 1) := by decide +kernel
theorem dX1_live_68 : decode cX1_live 68 = .ok (.aload_n 0, 1) := by decide +kernel
theorem dX1_live_69 : decode cX1_live 69 = .ok (.getfield 24, 3) := by decide +kernel
theorem dX1_live_72 : decode cX1_live 72 = .ok (.iconst 3, 1) := by decide +kernel
theorem dX1_live_73 : decode cX1_live 73 = .ok (.aload_n 2, 1) := by decide +kernel
theorem dX1_live_74 : decode cX1_live 74 = .ok (.getfield 103, 3) := by decide +kernel
theorem dX1_live_77 : decode cX1_live 77 = .ok (.iastore, 1) := by decide +kernel
theorem dX1_live_78 : decode cX1_live 78 = .ok (.iload 5, 2) := by decide +kernel
theorem dX1_live_80 : decode cX1_live 80 = .ok (.ifCond .ne 7, 3) := by decide +kernel
theorem dX1_live_83 : decode cX1_live 83 = .ok (.iconst (-1), 1) := by decide +kernel
theorem dX1_live_84 : decode cX1_live 84 = .ok (.goto 5, 3) := by decide +kernel
theorem dX1_live_87 : decode cX1_live 87 = .ok (.iload 4, 2) := by decide +kernel
theorem dX1_live_89 : decode cX1_live 89 = .ok (.ireturn, 1) := by decide +kernel
theorem okc_X1_liveLine {kn : sKn} {cc : ByteArray} {own : String} {nL : Nat} {D : Nat} {ret : Option FieldType} {ini : Bool} {pc index : Nat} (hD : 5 + 1 ≤ D) (hl : Cond.methodLink own index yX1_liveLine ∈ wsL_law) (hd : decode cc pc = .ok (.invokevirtual index, 3)) : mOk kn cc own nL wsL_law D ret ini pc (a_callV false (fX1_liveLine kn) 2 (4 + 1) (pc + 3)) := ok_callV (mX1_liveLine kn) (good_ws ws_good (fun _ h => h) kw383) hD (by decide) hl kw384 kw385 kw358 ⟨by decide +kernel, by decide +kernel, by decide +kernel⟩ rfl hd
def tX1_live (kn : sKn) : List (Nat × sA) := [(0, a_stk (q_int 0) 1), (1, a_istore 4 3), (3, a_stk (q_int 0) 4), (4, a_istore 5 6), (6, a_iload 4 8), (8, a_aload 0 9), (9, a_get 2 4 12), (12, a_icmp kn b_ge 3 42 15), (15, a_iload 5 17), (17, a_if kn b_ne 1 42 20), (20, a_aload 0 21), (21, a_aload 1 22), (22, a_aload 2 23), (23, a_aload 3 24), (24, a_iload 4 26), (26, a_callV false (fX1_liveLine kn) 2 5 29), (29, a_istore 5 31), (31, a_iload 5 33), (33, a_if kn b_ne 1 6 36), (36, a_iinc 4 1 39), (39, a_goto 6), (42, a_aload 0 43), (43, a_get 2 5 46), (46, a_stk (q_int 0) 47), (47, a_iload 5 49), (49, a_iast 50), (50, a_aload 0 51), (51, a_get 2 5 54), (54, a_stk (q_int 1) 55), (55, a_iload 4 57), (57, a_iast 58), (58, a_aload 0 59), (59, a_get 2 5 62), (62, a_stk (q_int 2) 63), (63, a_aload 2 64), (64, a_get 9 0 67), (67, a_iast 68), (68, a_aload 0 69), (69, a_get 2 5 72), (72, a_stk (q_int 3) 73), (73, a_aload 2 74), (74, a_get 9 2 77), (77, a_iast 78), (78, a_iload 5 80), (80, a_if kn b_ne 1 87 83), (83, a_stk (q_int (-1)) 84), (84, a_goto 89), (87, a_iload 4 89), (89, a_iret)]
def fX1_live (kn : sKn) : List Value → sW → Option sR := fW (tX1_live kn) 6
set_option maxRecDepth 100000 in
set_option maxHeartbeats 4000000 in
theorem mX1_live (kn : sKn) : mM kn yX1_live (Cond.code yX1_live cX1_live 6 (some .int) :: wsL_law) 6 false (fX1_live kn) := mM_W (fun n => mM_of (own := RX1) (ini := false) rfl (by decide +kernel) (by decide +kernel) (all_c (ok_stk (s_iconst dX1_live_0 (by decide))) (all_c (ok_istore dX1_live_1 (by decide)) (all_c (ok_stk (s_iconst dX1_live_3 (by decide))) (all_c (ok_istore dX1_live_4 (by decide)) (all_c (ok_iload dX1_live_6) (all_c (ok_aload_n dX1_live_8 rfl) (all_c (okg_X1_4 kw382 dX1_live_9) (all_c (ok_icmp_ge dX1_live_12 (by decide)) (all_c (ok_iload dX1_live_15) (all_c (ok_if_ne dX1_live_17 (by decide)) (all_c (ok_aload_n dX1_live_20 rfl) (all_c (ok_aload_n dX1_live_21 rfl) (all_c (ok_aload_n dX1_live_22 rfl) (all_c (ok_aload_n dX1_live_23 rfl) (all_c (ok_iload dX1_live_24) (all_c (okc_X1_liveLine (by decide) kw386 dX1_live_26) (all_c (ok_istore dX1_live_29 (by decide)) (all_c (ok_iload dX1_live_31) (all_c (ok_if_ne dX1_live_33 (by decide)) (all_c (ok_iinc dX1_live_36 (by decide) (by decide)) (all_c (ok_goto dX1_live_39 (by decide)) (all_c (ok_aload_n dX1_live_42 rfl) (all_c (okg_X1_5 kw387 dX1_live_43) (all_c (ok_stk (s_iconst dX1_live_46 (by decide))) (all_c (ok_iload dX1_live_47) (all_c (ok_iast dX1_live_49) (all_c (ok_aload_n dX1_live_50 rfl) (all_c (okg_X1_5 kw387 dX1_live_51) (all_c (ok_stk (s_iconst dX1_live_54 (by decide))) (all_c (ok_iload dX1_live_55) (all_c (ok_iast dX1_live_57) (all_c (ok_aload_n dX1_live_58 rfl) (all_c (okg_X1_5 kw387 dX1_live_59) (all_c (ok_stk (s_iconst dX1_live_62 (by decide))) (all_c (ok_aload_n dX1_live_63 rfl) (all_c (okg_X8_0 kw377 dX1_live_64) (all_c (ok_iast dX1_live_67) (all_c (ok_aload_n dX1_live_68 rfl) (all_c (okg_X1_5 kw387 dX1_live_69) (all_c (ok_stk (s_iconst dX1_live_72 (by decide))) (all_c (ok_aload_n dX1_live_73 rfl) (all_c (okg_X8_2 kw388 dX1_live_74) (all_c (ok_iast dX1_live_77) (all_c (ok_iload dX1_live_78) (all_c (ok_if_ne dX1_live_80 (by decide)) (all_c (ok_stk (s_iconst dX1_live_83 (by decide))) (all_c (ok_goto dX1_live_84 (by decide)) (all_c (ok_iload dX1_live_87) (all_c (ok_iret dX1_live_89) all_n))))))))))))))))))))))))))))))))))))))))))))))))) n (fun h => by first | rfl | cases h))
theorem dX9_isKey_0 : decode cX9_isKey 0 = .ok (.aload_n 0, 1) := by decide +kernel
theorem dX9_isKey_1 : decode cX9_isKey 1 = .ok (.getfield 40, 3) := by decide +kernel
theorem dX9_isKey_4 : decode cX9_isKey 4 = .ok (.iconst 4, 1) := by decide +kernel
theorem dX9_isKey_5 : decode cX9_isKey 5 = .ok (.if_icmp .ne 15, 3) := by decide +kernel
theorem dX9_isKey_8 : decode cX9_isKey 8 = .ok (.aload_n 0, 1) := by decide +kernel
theorem dX9_isKey_9 : decode cX9_isKey 9 = .ok (.getfield 43, 3) := by decide +kernel
theorem dX9_isKey_12 : decode cX9_isKey 12 = .ok (.iload_n 1, 1) := by decide +kernel
theorem dX9_isKey_13 : decode cX9_isKey 13 = .ok (.if_icmp .ne 7, 3) := by decide +kernel
theorem dX9_isKey_16 : decode cX9_isKey 16 = .ok (.iconst 1, 1) := by decide +kernel
theorem dX9_isKey_17 : decode cX9_isKey 17 = .ok (.goto 4, 3) := by decide +kernel
theorem dX9_isKey_20 : decode cX9_isKey 20 = .ok (.iconst 0, 1) := by decide +kernel
theorem dX9_isKey_21 : decode cX9_isKey 21 = .ok (.ireturn, 1) := by decide +kernel
def tX9_isKey (kn : sKn) : List (Nat × sA) := [(0, a_aload 0 1), (1, a_get 10 4 4), (4, a_stk (q_int 4) 5), (5, a_icmp kn b_ne 1 20 8), (8, a_aload 0 9), (9, a_get 10 6 12), (12, a_iload 1 13), (13, a_icmp kn b_ne 1 20 16), (16, a_stk (q_int 1) 17), (17, a_goto 21), (20, a_stk (q_int 0) 21), (21, a_zret)]
def fX9_isKey (kn : sKn) : List Value → sW → Option sR := fW (tX9_isKey kn) 2
set_option maxRecDepth 100000 in
set_option maxHeartbeats 4000000 in
theorem mX9_isKey (kn : sKn) : mM kn yX9_isKey (Cond.code yX9_isKey cX9_isKey 2 (some .boolean) :: wsL_law) 1 false (fX9_isKey kn) := mM_W (fun n => mM_of (own := RX9) (ini := false) rfl (by decide +kernel) (by decide +kernel) (all_c (ok_aload_n dX9_isKey_0 rfl) (all_c (okg_X9_4 kw389 dX9_isKey_1) (all_c (ok_stk (s_iconst dX9_isKey_4 (by decide))) (all_c (ok_icmp_ne dX9_isKey_5 (by decide)) (all_c (ok_aload_n dX9_isKey_8 rfl) (all_c (okg_X9_6 kw390 dX9_isKey_9) (all_c (ok_iload_n dX9_isKey_12 rfl) (all_c (ok_icmp_ne dX9_isKey_13 (by decide)) (all_c (ok_stk (s_iconst dX9_isKey_16 (by decide))) (all_c (ok_goto dX9_isKey_17 (by decide)) (all_c (ok_stk (s_iconst dX9_isKey_20 (by decide))) (all_c (ok_zret dX9_isKey_21) all_n)))))))))))) n (fun h => by first | rfl | cases h))
theorem dX1_isSignersDeed_0 : decode cX1_isSignersDeed 0 = .ok (.aload_n 0, 1) := by decide +kernel
theorem dX1_isSignersDeed_1 : decode cX1_isSignersDeed 1 = .ok (.bipush 8, 2) := by decide +kernel
theorem dX1_isSignersDeed_3 : decode cX1_isSignersDeed 3 = .ok (.invokevirtual 52, 3) := by decide +kernel
theorem dX1_isSignersDeed_6 : decode cX1_isSignersDeed 6 = .ok (.ifCond .ne 30, 3) := by decide +kernel
theorem dX1_isSignersDeed_9 : decode cX1_isSignersDeed 9 = .ok (.aload_n 0, 1) := by decide +kernel
theorem dX1_isSignersDeed_10 : decode cX1_isSignersDeed 10 = .ok (.bipush 9, 2) := by decide +kernel
theorem dX1_isSignersDeed_12 : decode cX1_isSignersDeed 12 = .ok (.invokevirtual 52, 3) := by decide +kernel
theorem dX1_isSignersDeed_15 : decode cX1_isSignersDeed 15 = .ok (.ifCond .ne 21, 3) := by decide +kernel
theorem dX1_isSignersDeed_18 : decode cX1_isSignersDeed 18 = .ok (.aload_n 0, 1) := by decide +kernel
theorem dX1_isSignersDeed_19 : decode cX1_isSignersDeed 19 = .ok (.bipush 10, 2) := by decide +kernel
theorem dX1_isSignersDeed_21 : decode cX1_isSignersDeed 21 = .ok (.invokevirtual 52, 3) := by decide +kernel
theorem dX1_isSignersDeed_24 : decode cX1_isSignersDeed 24 = .ok (.ifCond .ne 12, 3) := by decide +kernel
theorem dX1_isSignersDeed_27 : decode cX1_isSignersDeed 27 = .ok (.aload_n 0, 1) := by decide +kernel
theorem dX1_isSignersDeed_28 : decode cX1_isSignersDeed 28 = .ok (.bipush 11, 2) := by decide +kernel
theorem dX1_isSignersDeed_30 : decode cX1_isSignersDeed 30 = .ok (.invokevirtual 52, 3) := by decide +kernel
theorem dX1_isSignersDeed_33 : decode cX1_isSignersDeed 33 = .ok (.ifCond .eq 7, 3) := by decide +kernel
theorem dX1_isSignersDeed_36 : decode cX1_isSignersDeed 36 = .ok (.iconst 1, 1) := by decide +kernel
theorem dX1_isSignersDeed_37 : decode cX1_isSignersDeed 37 = .ok (.goto 4, 3) := by decide +kernel
theorem dX1_isSignersDeed_40 : decode cX1_isSignersDeed 40 = .ok (.iconst 0, 1) := by decide +kernel
theorem dX1_isSignersDeed_41 : decode cX1_isSignersDeed 41 = .ok (.ireturn, 1) := by decide +kernel
theorem okc_X9_isKey {kn : sKn} {cc : ByteArray} {own : String} {nL : Nat} {D : Nat} {ret : Option FieldType} {ini : Bool} {pc index : Nat} (hD : 1 + 1 ≤ D) (hl : Cond.methodLink own index yX9_isKey ∈ wsL_law) (hd : decode cc pc = .ok (.invokevirtual index, 3)) : mOk kn cc own nL wsL_law D ret ini pc (a_callV false (fX9_isKey kn) 10 (1 + 1) (pc + 3)) := ok_callV (mX9_isKey kn) (good_ws ws_good (fun _ h => h) kw391) hD (by decide) hl kw393 kw394 kw392 ⟨by decide +kernel, by decide +kernel, by decide +kernel⟩ rfl hd
def tX1_isSignersDeed (kn : sKn) : List (Nat × sA) := [(0, a_aload 0 1), (1, a_stk (q_int 8) 3), (3, a_callV false (fX9_isKey kn) 10 2 6), (6, a_if kn b_ne 1 36 9), (9, a_aload 0 10), (10, a_stk (q_int 9) 12), (12, a_callV false (fX9_isKey kn) 10 2 15), (15, a_if kn b_ne 1 36 18), (18, a_aload 0 19), (19, a_stk (q_int 10) 21), (21, a_callV false (fX9_isKey kn) 10 2 24), (24, a_if kn b_ne 1 36 27), (27, a_aload 0 28), (28, a_stk (q_int 11) 30), (30, a_callV false (fX9_isKey kn) 10 2 33), (33, a_if kn b_eq 0 40 36), (36, a_stk (q_int 1) 37), (37, a_goto 41), (40, a_stk (q_int 0) 41), (41, a_zret)]
def fX1_isSignersDeed (kn : sKn) : List Value → sW → Option sR := fW (tX1_isSignersDeed kn) 1
set_option maxRecDepth 100000 in
set_option maxHeartbeats 4000000 in
theorem mX1_isSignersDeed (kn : sKn) : mM kn yX1_isSignersDeed (Cond.code yX1_isSignersDeed cX1_isSignersDeed 1 (some .boolean) :: wsL_law) 2 false (fX1_isSignersDeed kn) := mM_W (fun n => mM_of (own := RX1) (ini := false) rfl (by decide +kernel) (by decide +kernel) (all_c (ok_aload_n dX1_isSignersDeed_0 rfl) (all_c (ok_stk (s_bipush dX1_isSignersDeed_1 (by decide))) (all_c (okc_X9_isKey (by decide) kw395 dX1_isSignersDeed_3) (all_c (ok_if_ne dX1_isSignersDeed_6 (by decide)) (all_c (ok_aload_n dX1_isSignersDeed_9 rfl) (all_c (ok_stk (s_bipush dX1_isSignersDeed_10 (by decide))) (all_c (okc_X9_isKey (by decide) kw395 dX1_isSignersDeed_12) (all_c (ok_if_ne dX1_isSignersDeed_15 (by decide)) (all_c (ok_aload_n dX1_isSignersDeed_18 rfl) (all_c (ok_stk (s_bipush dX1_isSignersDeed_19 (by decide))) (all_c (okc_X9_isKey (by decide) kw395 dX1_isSignersDeed_21) (all_c (ok_if_ne dX1_isSignersDeed_24 (by decide)) (all_c (ok_aload_n dX1_isSignersDeed_27 rfl) (all_c (ok_stk (s_bipush dX1_isSignersDeed_28 (by decide))) (all_c (okc_X9_isKey (by decide) kw395 dX1_isSignersDeed_30) (all_c (ok_if_eq dX1_isSignersDeed_33 (by decide)) (all_c (ok_stk (s_iconst dX1_isSignersDeed_36 (by decide))) (all_c (ok_goto dX1_isSignersDeed_37 (by decide)) (all_c (ok_stk (s_iconst dX1_isSignersDeed_40 (by decide))) (all_c (ok_zret dX1_isSignersDeed_41) all_n)))))))))))))))))))) n (fun h => by first | rfl | cases h))
theorem dX9_isDigit_0 : decode cX9_isDigit 0 = .ok (.iload_n 0, 1) := by decide +kernel
theorem dX9_isDigit_1 : decode cX9_isDigit 1 = .ok (.bipush 48, 2) := by decide +kernel
theorem dX9_isDigit_3 : decode cX9_isDigit 3 = .ok (.if_icmp .lt 13, 3) := by decide +kernel
theorem dX9_isDigit_6 : decode cX9_isDigit 6 = .ok (.iload_n 0, 1) := by decide +kernel
theorem dX9_isDigit_7 : decode cX9_isDigit 7 = .ok (.bipush 57, 2) := by decide +kernel
theorem dX9_isDigit_9 : decode cX9_isDigit 9 = .ok (.if_icmp .gt 7, 3) := by decide +kernel
theorem dX9_isDigit_12 : decode cX9_isDigit 12 = .ok (.iconst 1, 1) := by decide +kernel
theorem dX9_isDigit_13 : decode cX9_isDigit 13 = .ok (.goto 4, 3) := by decide +kernel
theorem dX9_isDigit_16 : decode cX9_isDigit 16 = .ok (.iconst 0, 1) := by decide +kernel
theorem dX9_isDigit_17 : decode cX9_isDigit 17 = .ok (.ireturn, 1) := by decide +kernel
def tX9_isDigit (kn : sKn) : List (Nat × sA) := [(0, a_iload 0 1), (1, a_stk (q_int 48) 3), (3, a_icmp kn b_lt 2 16 6), (6, a_iload 0 7), (7, a_stk (q_int 57) 9), (9, a_icmp kn b_gt 4 16 12), (12, a_stk (q_int 1) 13), (13, a_goto 17), (16, a_stk (q_int 0) 17), (17, a_zret)]
def fX9_isDigit (kn : sKn) : List Value → sW → Option sR := fW (tX9_isDigit kn) 1
set_option maxRecDepth 100000 in
set_option maxHeartbeats 4000000 in
theorem mX9_isDigit (kn : sKn) : mM kn yX9_isDigit (Cond.code yX9_isDigit cX9_isDigit 1 (some .boolean) :: wsL_law) 1 false (fX9_isDigit kn) := mM_W (fun n => mM_of (own := RX9) (ini := false) rfl (by decide +kernel) (by decide +kernel) (all_c (ok_iload_n dX9_isDigit_0 rfl) (all_c (ok_stk (s_bipush dX9_isDigit_1 (by decide))) (all_c (ok_icmp_lt dX9_isDigit_3 (by decide)) (all_c (ok_iload_n dX9_isDigit_6 rfl) (all_c (ok_stk (s_bipush dX9_isDigit_7 (by decide))) (all_c (ok_icmp_gt dX9_isDigit_9 (by decide)) (all_c (ok_stk (s_iconst dX9_isDigit_12 (by decide))) (all_c (ok_goto dX9_isDigit_13 (by decide)) (all_c (ok_stk (s_iconst dX9_isDigit_16 (by decide))) (all_c (ok_zret dX9_isDigit_17) all_n)))))))))) n (fun h => by first | rfl | cases h))
theorem dX9_isLetter_0 : decode cX9_isLetter 0 = .ok (.iload_n 0, 1) := by decide +kernel
theorem dX9_isLetter_1 : decode cX9_isLetter 1 = .ok (.bipush 97, 2) := by decide +kernel
theorem dX9_isLetter_3 : decode cX9_isLetter 3 = .ok (.if_icmp .lt 13, 3) := by decide +kernel
theorem dX9_isLetter_6 : decode cX9_isLetter 6 = .ok (.iload_n 0, 1) := by decide +kernel
theorem dX9_isLetter_7 : decode cX9_isLetter 7 = .ok (.bipush 122, 2) := by decide +kernel
theorem dX9_isLetter_9 : decode cX9_isLetter 9 = .ok (.if_icmp .gt 7, 3) := by decide +kernel
theorem dX9_isLetter_12 : decode cX9_isLetter 12 = .ok (.iconst 1, 1) := by decide +kernel
theorem dX9_isLetter_13 : decode cX9_isLetter 13 = .ok (.goto 4, 3) := by decide +kernel
theorem dX9_isLetter_16 : decode cX9_isLetter 16 = .ok (.iconst 0, 1) := by decide +kernel
theorem dX9_isLetter_17 : decode cX9_isLetter 17 = .ok (.ireturn, 1) := by decide +kernel
def tX9_isLetter (kn : sKn) : List (Nat × sA) := [(0, a_iload 0 1), (1, a_stk (q_int 97) 3), (3, a_icmp kn b_lt 2 16 6), (6, a_iload 0 7), (7, a_stk (q_int 122) 9), (9, a_icmp kn b_gt 4 16 12), (12, a_stk (q_int 1) 13), (13, a_goto 17), (16, a_stk (q_int 0) 17), (17, a_zret)]
def fX9_isLetter (kn : sKn) : List Value → sW → Option sR := fW (tX9_isLetter kn) 1
set_option maxRecDepth 100000 in
set_option maxHeartbeats 4000000 in
theorem mX9_isLetter (kn : sKn) : mM kn yX9_isLetter (Cond.code yX9_isLetter cX9_isLetter 1 (some .boolean) :: wsL_law) 1 false (fX9_isLetter kn) := mM_W (fun n => mM_of (own := RX9) (ini := false) rfl (by decide +kernel) (by decide +kernel) (all_c (ok_iload_n dX9_isLetter_0 rfl) (all_c (ok_stk (s_bipush dX9_isLetter_1 (by decide))) (all_c (ok_icmp_lt dX9_isLetter_3 (by decide)) (all_c (ok_iload_n dX9_isLetter_6 rfl) (all_c (ok_stk (s_bipush dX9_isLetter_7 (by decide))) (all_c (ok_icmp_gt dX9_isLetter_9 (by decide)) (all_c (ok_stk (s_iconst dX9_isLetter_12 (by decide))) (all_c (ok_goto dX9_isLetter_13 (by decide)) (all_c (ok_stk (s_iconst dX9_isLetter_16 (by decide))) (all_c (ok_zret dX9_isLetter_17) all_n)))))))))) n (fun h => by first | rfl | cases h))
theorem dX9_isSign_0 : decode cX9_isSign 0 = .ok (.iload_n 0, 1) := by decide +kernel
theorem dX9_isSign_1 : decode cX9_isSign 1 = .ok (.bipush 59, 2) := by decide +kernel
theorem dX9_isSign_3 : decode cX9_isSign 3 = .ok (.if_icmp .eq 33, 3) := by decide +kernel
theorem dX9_isSign_6 : decode cX9_isSign 6 = .ok (.iload_n 0, 1) := by decide +kernel
theorem dX9_isSign_7 : decode cX9_isSign 7 = .ok (.bipush 60, 2) := by decide +kernel
theorem dX9_isSign_9 : decode cX9_isSign 9 = .ok (.if_icmp .eq 27, 3) := by decide +kernel
theorem dX9_isSign_12 : decode cX9_isSign 12 = .ok (.iload_n 0, 1) := by decide +kernel
theorem dX9_isSign_13 : decode cX9_isSign 13 = .ok (.bipush 61, 2) := by decide +kernel
theorem dX9_isSign_15 : decode cX9_isSign 15 = .ok (.if_icmp .eq 21, 3) := by decide +kernel
theorem dX9_isSign_18 : decode cX9_isSign 18 = .ok (.iload_n 0, 1) := by decide +kernel
theorem dX9_isSign_19 : decode cX9_isSign 19 = .ok (.bipush 62, 2) := by decide +kernel
theorem dX9_isSign_21 : decode cX9_isSign 21 = .ok (.if_icmp .eq 15, 3) := by decide +kernel
theorem dX9_isSign_24 : decode cX9_isSign 24 = .ok (.iload_n 0, 1) := by decide +kernel
theorem dX9_isSign_25 : decode cX9_isSign 25 = .ok (.bipush 40, 2) := by decide +kernel
theorem dX9_isSign_27 : decode cX9_isSign 27 = .ok (.if_icmp .eq 9, 3) := by decide +kernel
theorem dX9_isSign_30 : decode cX9_isSign 30 = .ok (.iload_n 0, 1) := by decide +kernel
theorem dX9_isSign_31 : decode cX9_isSign 31 = .ok (.bipush 41, 2) := by decide +kernel
theorem dX9_isSign_33 : decode cX9_isSign 33 = .ok (.if_icmp .ne 7, 3) := by decide +kernel
theorem dX9_isSign_36 : decode cX9_isSign 36 = .ok (.iconst 1, 1) := by decide +kernel
theorem dX9_isSign_37 : decode cX9_isSign 37 = .ok (.goto 4, 3) := by decide +kernel
theorem dX9_isSign_40 : decode cX9_isSign 40 = .ok (.iconst 0, 1) := by decide +kernel
theorem dX9_isSign_41 : decode cX9_isSign 41 = .ok (.ireturn, 1) := by decide +kernel
def tX9_isSign (kn : sKn) : List (Nat × sA) := [(0, a_iload 0 1), (1, a_stk (q_int 59) 3), (3, a_icmp kn b_eq 0 36 6), (6, a_iload 0 7), (7, a_stk (q_int 60) 9), (9, a_icmp kn b_eq 0 36 12), (12, a_iload 0 13), (13, a_stk (q_int 61) 15), (15, a_icmp kn b_eq 0 36 18), (18, a_iload 0 19), (19, a_stk (q_int 62) 21), (21, a_icmp kn b_eq 0 36 24), (24, a_iload 0 25), (25, a_stk (q_int 40) 27), (27, a_icmp kn b_eq 0 36 30), (30, a_iload 0 31), (31, a_stk (q_int 41) 33), (33, a_icmp kn b_ne 1 40 36), (36, a_stk (q_int 1) 37), (37, a_goto 41), (40, a_stk (q_int 0) 41), (41, a_zret)]
def fX9_isSign (kn : sKn) : List Value → sW → Option sR := fW (tX9_isSign kn) 1
set_option maxRecDepth 100000 in
set_option maxHeartbeats 4000000 in
theorem mX9_isSign (kn : sKn) : mM kn yX9_isSign (Cond.code yX9_isSign cX9_isSign 1 (some .boolean) :: wsL_law) 1 false (fX9_isSign kn) := mM_W (fun n => mM_of (own := RX9) (ini := false) rfl (by decide +kernel) (by decide +kernel) (all_c (ok_iload_n dX9_isSign_0 rfl) (all_c (ok_stk (s_bipush dX9_isSign_1 (by decide))) (all_c (ok_icmp_eq dX9_isSign_3 (by decide)) (all_c (ok_iload_n dX9_isSign_6 rfl) (all_c (ok_stk (s_bipush dX9_isSign_7 (by decide))) (all_c (ok_icmp_eq dX9_isSign_9 (by decide)) (all_c (ok_iload_n dX9_isSign_12 rfl) (all_c (ok_stk (s_bipush dX9_isSign_13 (by decide))) (all_c (ok_icmp_eq dX9_isSign_15 (by decide)) (all_c (ok_iload_n dX9_isSign_18 rfl) (all_c (ok_stk (s_bipush dX9_isSign_19 (by decide))) (all_c (ok_icmp_eq dX9_isSign_21 (by decide)) (all_c (ok_iload_n dX9_isSign_24 rfl) (all_c (ok_stk (s_bipush dX9_isSign_25 (by decide))) (all_c (ok_icmp_eq dX9_isSign_27 (by decide)) (all_c (ok_iload_n dX9_isSign_30 rfl) (all_c (ok_stk (s_bipush dX9_isSign_31 (by decide))) (all_c (ok_icmp_ne dX9_isSign_33 (by decide)) (all_c (ok_stk (s_iconst dX9_isSign_36 (by decide))) (all_c (ok_goto dX9_isSign_37 (by decide)) (all_c (ok_stk (s_iconst dX9_isSign_40 (by decide))) (all_c (ok_zret dX9_isSign_41) all_n)))))))))))))))))))))) n (fun h => by first | rfl | cases h))
theorem dX9_readNumber_0 : decode cX9_readNumber 0 = .ok (.aload_n 0, 1) := by decide +kernel
theorem dX9_readNumber_1 : decode cX9_readNumber 1 = .ok (.iconst 0, 1) := by decide +kernel
theorem dX9_readNumber_2 : decode cX9_readNumber 2 = .ok (.putfield 43, 3) := by decide +kernel
theorem dX9_readNumber_5 : decode cX9_readNumber 5 = .ok (.aload_n 0, 1) := by decide +kernel
theorem dX9_readNumber_6 : decode cX9_readNumber 6 = .ok (.getfield 37, 3) := by decide +kernel
theorem dX9_readNumber_9 : decode cX9_readNumber 9 = .ok (.istore_n 1, 1) := by decide +kernel
theorem dX9_readNumber_10 : decode cX9_readNumber 10 = .ok (.iload_n 1, 1) := by decide +kernel
theorem dX9_readNumber_11 : decode cX9_readNumber 11 = .ok (.aload_n 0, 1) := by decide +kernel
theorem dX9_readNumber_12 : decode cX9_readNumber 12 = .ok (.getfield 22, 3) := by decide +kernel
theorem dX9_readNumber_15 : decode cX9_readNumber 15 = .ok (.if_icmp .ge 30, 3) := by decide +kernel
theorem dX9_readNumber_18 : decode cX9_readNumber 18 = .ok (.aload_n 0, 1) := by decide +kernel
theorem dX9_readNumber_19 : decode cX9_readNumber 19 = .ok (.bipush 10, 2) := by decide +kernel
theorem dX9_readNumber_21 : decode cX9_readNumber 21 = .ok (.aload_n 0, 1) := by decide +kernel
theorem dX9_readNumber_22 : decode cX9_readNumber 22 = .ok (.getfield 43, 3) := by decide +kernel
theorem dX9_readNumber_25 : decode cX9_readNumber 25 = .ok (.imul, 1) := by decide +kernel
theorem dX9_readNumber_26 : decode cX9_readNumber 26 = .ok (.aload_n 0, 1) := by decide +kernel
theorem dX9_readNumber_27 : decode cX9_readNumber 27 = .ok (.getfield 9, 3) := by decide +kernel
theorem dX9_readNumber_30 : decode cX9_readNumber 30 = .ok (.iload_n 1, 1) := by decide +kernel
theorem dX9_readNumber_31 : decode cX9_readNumber 31 = .ok (.iaload, 1) := by decide +kernel
theorem dX9_readNumber_32 : decode cX9_readNumber 32 = .ok (.iadd, 1) := by decide +kernel
theorem dX9_readNumber_33 : decode cX9_readNumber 33 = .ok (.bipush 48, 2) := by decide +kernel
theorem dX9_readNumber_35 : decode cX9_readNumber 35 = .ok (.isub, 1) := by decide +kernel
theorem dX9_readNumber_36 : decode cX9_readNumber 36 = .ok (.putfield 43, 3) := by decide +kernel
theorem dX9_readNumber_39 : decode cX9_readNumber 39 = .ok (.iinc 1 1, 3) := by decide +kernel
theorem dX9_readNumber_42 : decode cX9_readNumber 42 = .ok (.goto (-32), 3) := by decide +kernel
theorem dX9_readNumber_45 : decode cX9_readNumber 45 = .ok (.aload_n 0, 1) := by decide +kernel
theorem dX9_readNumber_46 : decode cX9_readNumber 46 = .ok (.iconst 3, 1) := by decide +kernel
theorem dX9_readNumber_47 : decode cX9_readNumber 47 = .ok (.putfield 40, 3) := by decide +kernel
theorem dX9_readNumber_50 : decode cX9_readNumber 50 = .ok (.return_, 1) := by decide +kernel
def tX9_readNumber (kn : sKn) : List (Nat × sA) := [(0, a_aload 0 1), (1, a_stk (q_int 0) 2), (2, a_put 10 6 ckI 5), (5, a_aload 0 6), (6, a_get 10 5 9), (9, a_istore 1 10), (10, a_iload 1 11), (11, a_aload 0 12), (12, a_get 10 3 15), (15, a_icmp kn b_ge 3 45 18), (18, a_aload 0 19), (19, a_stk (q_int 10) 21), (21, a_aload 0 22), (22, a_get 10 6 25), (25, a_stk q_imul 26), (26, a_aload 0 27), (27, a_get 10 0 30), (30, a_iload 1 31), (31, a_iald 32), (32, a_stk q_iadd 33), (33, a_stk (q_int 48) 35), (35, a_stk q_isub 36), (36, a_put 10 6 ckI 39), (39, a_iinc 1 1 42), (42, a_goto 10), (45, a_aload 0 46), (46, a_stk (q_int 3) 47), (47, a_put 10 4 ckI 50), (50, a_vret)]
def fX9_readNumber (kn : sKn) : List Value → sW → Option sR := fW (tX9_readNumber kn) 2
set_option maxRecDepth 100000 in
set_option maxHeartbeats 4000000 in
theorem mX9_readNumber (kn : sKn) : mM kn yX9_readNumber (Cond.code yX9_readNumber cX9_readNumber 2 none :: wsL_law) 1 true (fX9_readNumber kn) := mM_W (fun n => mM_of (own := RX9) (ini := false) rfl (by decide +kernel) (by decide +kernel) (all_c (ok_aload_n dX9_readNumber_0 rfl) (all_c (ok_stk (s_iconst dX9_readNumber_1 (by decide))) (all_c (okp_X9_6 kw390 dX9_readNumber_2) (all_c (ok_aload_n dX9_readNumber_5 rfl) (all_c (okg_X9_5 kw396 dX9_readNumber_6) (all_c (ok_istore_n dX9_readNumber_9 rfl (by decide)) (all_c (ok_iload_n dX9_readNumber_10 rfl) (all_c (ok_aload_n dX9_readNumber_11 rfl) (all_c (okg_X9_3 kw397 dX9_readNumber_12) (all_c (ok_icmp_ge dX9_readNumber_15 (by decide)) (all_c (ok_aload_n dX9_readNumber_18 rfl) (all_c (ok_stk (s_bipush dX9_readNumber_19 (by decide))) (all_c (ok_aload_n dX9_readNumber_21 rfl) (all_c (okg_X9_6 kw390 dX9_readNumber_22) (all_c (ok_stk (s_imul dX9_readNumber_25)) (all_c (ok_aload_n dX9_readNumber_26 rfl) (all_c (okg_X9_0 kw398 dX9_readNumber_27) (all_c (ok_iload_n dX9_readNumber_30 rfl) (all_c (ok_iald dX9_readNumber_31) (all_c (ok_stk (s_iadd dX9_readNumber_32)) (all_c (ok_stk (s_bipush dX9_readNumber_33 (by decide))) (all_c (ok_stk (s_isub dX9_readNumber_35)) (all_c (okp_X9_6 kw390 dX9_readNumber_36) (all_c (ok_iinc dX9_readNumber_39 (by decide) (by decide)) (all_c (ok_goto dX9_readNumber_42 (by decide)) (all_c (ok_aload_n dX9_readNumber_45 rfl) (all_c (ok_stk (s_iconst dX9_readNumber_46 (by decide))) (all_c (okp_X9_4 kw389 dX9_readNumber_47) (all_c (ok_vret dX9_readNumber_50) all_n))))))))))))))))))))))))))))) n (fun h => by first | rfl | cases h))
theorem dX9_readWord_0 : decode cX9_readWord 0 = .ok (.aload_n 0, 1) := by decide +kernel
theorem dX9_readWord_1 : decode cX9_readWord 1 = .ok (.lconst 0, 1) := by decide +kernel
theorem dX9_readWord_2 : decode cX9_readWord 2 = .ok (.putfield 62, 3) := by decide +kernel
theorem dX9_readWord_5 : decode cX9_readWord 5 = .ok (.aload_n 0, 1) := by decide +kernel
theorem dX9_readWord_6 : decode cX9_readWord 6 = .ok (.getfield 37, 3) := by decide +kernel
theorem dX9_readWord_9 : decode cX9_readWord 9 = .ok (.istore_n 1, 1) := by decide +kernel
theorem dX9_readWord_10 : decode cX9_readWord 10 = .ok (.iload_n 1, 1) := by decide +kernel
theorem dX9_readWord_11 : decode cX9_readWord 11 = .ok (.aload_n 0, 1) := by decide +kernel
theorem dX9_readWord_12 : decode cX9_readWord 12 = .ok (.getfield 22, 3) := by decide +kernel
theorem dX9_readWord_15 : decode cX9_readWord 15 = .ok (.if_icmp .ge 35, 3) := by decide +kernel
theorem dX9_readWord_18 : decode cX9_readWord 18 = .ok (.aload_n 0, 1) := by decide +kernel
theorem dX9_readWord_19 : decode cX9_readWord 19 = .ok (.ldc2_w 66, 3) := by decide +kernel
theorem dX9_readWord_22 : decode cX9_readWord 22 = .ok (.aload_n 0, 1) := by decide +kernel
theorem dX9_readWord_23 : decode cX9_readWord 23 = .ok (.getfield 62, 3) := by decide +kernel
theorem dX9_readWord_26 : decode cX9_readWord 26 = .ok (.lmul, 1) := by decide +kernel
theorem dX9_readWord_27 : decode cX9_readWord 27 = .ok (.aload_n 0, 1) := by decide +kernel
theorem dX9_readWord_28 : decode cX9_readWord 28 = .ok (.getfield 9, 3) := by decide +kernel
theorem dX9_readWord_31 : decode cX9_readWord 31 = .ok (.iload_n 1, 1) := by decide +kernel
theorem dX9_readWord_32 : decode cX9_readWord 32 = .ok (.iaload, 1) := by decide +kernel
theorem dX9_readWord_33 : decode cX9_readWord 33 = .ok (.i2l, 1) := by decide +kernel
theorem dX9_readWord_34 : decode cX9_readWord 34 = .ok (.ladd, 1) := by decide +kernel
theorem dX9_readWord_35 : decode cX9_readWord 35 = .ok (.ldc2_w 68, 3) := by decide +kernel
theorem dX9_readWord_38 : decode cX9_readWord 38 = .ok (.lsub, 1) := by decide +kernel
theorem dX9_readWord_39 : decode cX9_readWord 39 = .ok (.lconst 1, 1) := by decide +kernel
theorem dX9_readWord_40 : decode cX9_readWord 40 = .ok (.ladd, 1) := by decide +kernel
theorem dX9_readWord_41 : decode cX9_readWord 41 = .ok (.putfield 62, 3) := by decide +kernel
theorem dX9_readWord_44 : decode cX9_readWord 44 = .ok (.iinc 1 1, 3) := by decide +kernel
theorem dX9_readWord_47 : decode cX9_readWord 47 = .ok (.goto (-37), 3) := by decide +kernel
theorem dX9_readWord_50 : decode cX9_readWord 50 = .ok (.aload_n 0, 1) := by decide +kernel
theorem dX9_readWord_51 : decode cX9_readWord 51 = .ok (.iconst 5, 1) := by decide +kernel
theorem dX9_readWord_52 : decode cX9_readWord 52 = .ok (.putfield 40, 3) := by decide +kernel
theorem dX9_readWord_55 : decode cX9_readWord 55 = .ok (.aload_n 0, 1) := by decide +kernel
theorem dX9_readWord_56 : decode cX9_readWord 56 = .ok (.getfield 22, 3) := by decide +kernel
theorem dX9_readWord_59 : decode cX9_readWord 59 = .ok (.aload_n 0, 1) := by decide +kernel
theorem dX9_readWord_60 : decode cX9_readWord 60 = .ok (.getfield 37, 3) := by decide +kernel
theorem dX9_readWord_63 : decode cX9_readWord 63 = .ok (.isub, 1) := by decide +kernel
theorem dX9_readWord_64 : decode cX9_readWord 64 = .ok (.istore_n 1, 1) := by decide +kernel
theorem dX9_readWord_65 : decode cX9_readWord 65 = .ok (.iconst 0, 1) := by decide +kernel
theorem dX9_readWord_66 : decode cX9_readWord 66 = .ok (.istore_n 2, 1) := by decide +kernel
theorem dX9_readWord_67 : decode cX9_readWord 67 = .ok (.iload_n 2, 1) := by decide +kernel
theorem dX9_readWord_68 : decode cX9_readWord 68 = .ok (.bipush 27, 2) := by decide +kernel
theorem dX9_readWord_70 : decode cX9_readWord 70 = .ok (.if_icmp .ge 86, 3) := by decide +kernel
theorem dX9_readWord_73 : decode cX9_readWord 73 = .ok (.aload_n 0, 1) := by decide +kernel
theorem dX9_readWord_74 : decode cX9_readWord 74 = .ok (.getfield 40, 3) := by decide +kernel
theorem dX9_readWord_77 : decode cX9_readWord 77 = .ok (.iconst 5, 1) := by decide +kernel
theorem dX9_readWord_78 : decode cX9_readWord 78 = .ok (.if_icmp .ne 78, 3) := by decide +kernel
theorem dX9_readWord_81 : decode cX9_readWord 81 = .ok (.iconst 0, 1) := by decide +kernel
theorem dX9_readWord_82 : decode cX9_readWord 82 = .ok (.istore_n 3, 1) := by decide +kernel
theorem dX9_readWord_83 : decode cX9_readWord 83 = .ok (.iload_n 3, 1) := by decide +kernel
theorem dX9_readWord_84 : decode cX9_readWord 84 = .ok (.iload_n 1, 1) := by decide +kernel
theorem dX9_readWord_85 : decode cX9_readWord 85 = .ok (.if_icmp .ge 34, 3) := by decide +kernel
theorem dX9_readWord_88 : decode cX9_readWord 88 = .ok (.ldc 70, 2) := by decide +kernel
theorem dX9_readWord_90 : decode cX9_readWord 90 = .ok (.bipush 8, 2) := by decide +kernel
theorem dX9_readWord_92 : decode cX9_readWord 92 = .ok (.iload_n 2, 1) := by decide +kernel
theorem dX9_readWord_93 : decode cX9_readWord 93 = .ok (.imul, 1) := by decide +kernel
theorem dX9_readWord_94 : decode cX9_readWord 94 = .ok (.iload_n 3, 1) := by decide +kernel
theorem dX9_readWord_95 : decode cX9_readWord 95 = .ok (.iadd, 1) := by decide +kernel
theorem dX9_readWord_96 : decode cX9_readWord 96 = .ok (.invokevirtual 72, 3) := by decide +kernel
theorem dX9_readWord_99 : decode cX9_readWord 99 = .ok (.aload_n 0, 1) := by decide +kernel
theorem dX9_readWord_100 : decode cX9_readWord 100 = .ok (.getfield 9, 3) := by decide +kernel
theorem dX9_readWord_103 : decode cX9_readWord 103 = .ok (.aload_n 0, 1) := by decide +kernel
theorem dX9_readWord_104 : decode cX9_readWord 104 = .ok (.getfield 37, 3) := by decide +kernel
theorem dX9_readWord_107 : decode cX9_readWord 107 = .ok (.iload_n 3, 1) := by decide +kernel
theorem dX9_readWord_108 : decode cX9_readWord 108 = .ok (.iadd, 1) := by decide +kernel
theorem dX9_readWord_109 : decode cX9_readWord 109 = .ok (.iaload, 1) := by decide +kernel
theorem dX9_readWord_110 : decode cX9_readWord 110 = .ok (.if_icmp .ne 9, 3) := by decide +kernel
theorem dX9_readWord_113 : decode cX9_readWord 113 = .ok (.iinc 3 1, 3) := by decide +kernel
theorem dX9_readWord_116 : decode cX9_readWord 116 = .ok (.goto (-33), 3) := by decide +kernel
theorem dX9_readWord_119 : decode cX9_readWord 119 = .ok (.iload_n 3, 1) := by decide +kernel
theorem dX9_readWord_120 : decode cX9_readWord 120 = .ok (.iload_n 1, 1) := by decide +kernel
theorem dX9_readWord_121 : decode cX9_readWord 121 = .ok (.if_icmp .ne 29, 3) := by decide +kernel
theorem dX9_readWord_124 : decode cX9_readWord 124 = .ok (.ldc 70, 2) := by decide +kernel
theorem dX9_readWord_126 : decode cX9_readWord 126 = .ok (.bipush 8, 2) := by decide +kernel
theorem dX9_readWord_128 : decode cX9_readWord 128 = .ok (.iload_n 2, 1) := by decide +kernel
theorem dX9_readWord_129 : decode cX9_readWord 129 = .ok (.imul, 1) := by decide +kernel
theorem dX9_readWord_130 : decode cX9_readWord 130 = .ok (.iload_n 3, 1) := by decide +kernel
theorem dX9_readWord_131 : decode cX9_readWord 131 = .ok (.iadd, 1) := by decide +kernel
theorem dX9_readWord_132 : decode cX9_readWord 132 = .ok (.invokevirtual 72, 3) := by decide +kernel
theorem dX9_readWord_135 : decode cX9_readWord 135 = .ok (.bipush 32, 2) := by decide +kernel
theorem dX9_readWord_137 : decode cX9_readWord 137 = .ok (.if_icmp .ne 13, 3) := by decide +kernel
theorem dX9_readWord_140 : decode cX9_readWord 140 = .ok (.aload_n 0, 1) := by decide +kernel
theorem dX9_readWord_141 : decode cX9_readWord 141 = .ok (.iconst 4, 1) := by decide +kernel
theorem dX9_readWord_142 : decode cX9_readWord 142 = .ok (.putfield 40, 3) := by decide +kernel
theorem dX9_readWord_145 : decode cX9_readWord 145 = .ok (.aload_n 0, 1) := by decide +kernel
theorem dX9_readWord_146 : decode cX9_readWord 146 = .ok (.iload_n 2, 1) := by decide +kernel
theorem dX9_readWord_147 : decode cX9_readWord 147 = .ok (.putfield 43, 3) := by decide +kernel
theorem dX9_readWord_150 : decode cX9_readWord 150 = .ok (.iinc 2 1, 3) := by decide +kernel
theorem dX9_readWord_153 : decode cX9_readWord 153 = .ok (.goto (-86), 3) := by decide +kernel
theorem dX9_readWord_156 : decode cX9_readWord 156 = .ok (.return_, 1) := by decide +kernel
def tX9_readWord (kn : sKn) : List (Nat × sA) := [(0, a_aload 0 1), (1, a_stk (q_long 0) 2), (2, a_put 10 7 ckJ 5), (5, a_aload 0 6), (6, a_get 10 5 9), (9, a_istore 1 10), (10, a_iload 1 11), (11, a_aload 0 12), (12, a_get 10 3 15), (15, a_icmp kn b_ge 3 50 18), (18, a_aload 0 19), (19, a_stk (q_long (32)) 22), (22, a_aload 0 23), (23, a_get 10 7 26), (26, a_stk q_lmul 27), (27, a_aload 0 28), (28, a_get 10 0 31), (31, a_iload 1 32), (32, a_iald 33), (33, a_stk q_i2l 34), (34, a_stk q_ladd 35), (35, a_stk (q_long (97)) 38), (38, a_stk q_lsub 39), (39, a_stk (q_long 1) 40), (40, a_stk q_ladd 41), (41, a_put 10 7 ckJ 44), (44, a_iinc 1 1 47), (47, a_goto 10), (50, a_aload 0 51), (51, a_stk (q_int 5) 52), (52, a_put 10 4 ckI 55), (55, a_aload 0 56), (56, a_get 10 3 59), (59, a_aload 0 60), (60, a_get 10 5 63), (63, a_stk q_isub 64), (64, a_istore 1 65), (65, a_stk (q_int 0) 66), (66, a_istore 2 67), (67, a_iload 2 68), (68, a_stk (q_int 27) 70), (70, a_icmp kn b_ge 3 156 73), (73, a_aload 0 74), (74, a_get 10 4 77), (77, a_stk (q_int 5) 78), (78, a_icmp kn b_ne 1 156 81), (81, a_stk (q_int 0) 82), (82, a_istore 3 83), (83, a_iload 3 84), (84, a_iload 1 85), (85, a_icmp kn b_ge 3 119 88), (88, a_gets 1000004 90), (90, a_stk (q_int 8) 92), (92, a_iload 2 93), (93, a_stk q_imul 94), (94, a_iload 3 95), (95, a_stk q_iadd 96), (96, a_callVSK false (fJ0_charAt_5068e kn) 2 99), (99, a_aload 0 100), (100, a_get 10 0 103), (103, a_aload 0 104), (104, a_get 10 5 107), (107, a_iload 3 108), (108, a_stk q_iadd 109), (109, a_iald 110), (110, a_icmp kn b_ne 1 119 113), (113, a_iinc 3 1 116), (116, a_goto 83), (119, a_iload 3 120), (120, a_iload 1 121), (121, a_icmp kn b_ne 1 150 124), (124, a_gets 1000004 126), (126, a_stk (q_int 8) 128), (128, a_iload 2 129), (129, a_stk q_imul 130), (130, a_iload 3 131), (131, a_stk q_iadd 132), (132, a_callVSK false (fJ0_charAt_5068e kn) 2 135), (135, a_stk (q_int 32) 137), (137, a_icmp kn b_ne 1 150 140), (140, a_aload 0 141), (141, a_stk (q_int 4) 142), (142, a_put 10 4 ckI 145), (145, a_aload 0 146), (146, a_iload 2 147), (147, a_put 10 6 ckI 150), (150, a_iinc 2 1 153), (153, a_goto 67), (156, a_vret)]
def fX9_readWord (kn : sKn) : List Value → sW → Option sR := fW (tX9_readWord kn) 4
set_option maxRecDepth 100000 in
set_option maxHeartbeats 4000000 in
theorem mX9_readWord (kn : sKn) : mM kn yX9_readWord (Cond.code yX9_readWord cX9_readWord 4 none :: wsL_law) 5 true (fX9_readWord kn) := mM_W (fun n => mM_of (own := RX9) (ini := false) rfl (by decide +kernel) (by decide +kernel) (all_c (ok_aload_n dX9_readWord_0 rfl) (all_c (ok_stk (s_lconst dX9_readWord_1 (by decide))) (all_c (okp_X9_7 kw399 dX9_readWord_2) (all_c (ok_aload_n dX9_readWord_5 rfl) (all_c (okg_X9_5 kw396 dX9_readWord_6) (all_c (ok_istore_n dX9_readWord_9 rfl (by decide)) (all_c (ok_iload_n dX9_readWord_10 rfl) (all_c (ok_aload_n dX9_readWord_11 rfl) (all_c (okg_X9_3 kw397 dX9_readWord_12) (all_c (ok_icmp_ge dX9_readWord_15 (by decide)) (all_c (ok_aload_n dX9_readWord_18 rfl) (all_c (ok_ldc2 kw400 dX9_readWord_19) (all_c (ok_aload_n dX9_readWord_22 rfl) (all_c (okg_X9_7 kw399 dX9_readWord_23) (all_c (ok_stk (s_lmul dX9_readWord_26)) (all_c (ok_aload_n dX9_readWord_27 rfl) (all_c (okg_X9_0 kw398 dX9_readWord_28) (all_c (ok_iload_n dX9_readWord_31 rfl) (all_c (ok_iald dX9_readWord_32) (all_c (ok_stk (s_i2l dX9_readWord_33)) (all_c (ok_stk (s_ladd dX9_readWord_34)) (all_c (ok_ldc2 kw401 dX9_readWord_35) (all_c (ok_stk (s_lsub dX9_readWord_38)) (all_c (ok_stk (s_lconst dX9_readWord_39 (by decide))) (all_c (ok_stk (s_ladd dX9_readWord_40)) (all_c (okp_X9_7 kw399 dX9_readWord_41) (all_c (ok_iinc dX9_readWord_44 (by decide) (by decide)) (all_c (ok_goto dX9_readWord_47 (by decide)) (all_c (ok_aload_n dX9_readWord_50 rfl) (all_c (ok_stk (s_iconst dX9_readWord_51 (by decide))) (all_c (okp_X9_4 kw389 dX9_readWord_52) (all_c (ok_aload_n dX9_readWord_55 rfl) (all_c (okg_X9_3 kw397 dX9_readWord_56) (all_c (ok_aload_n dX9_readWord_59 rfl) (all_c (okg_X9_5 kw396 dX9_readWord_60) (all_c (ok_stk (s_isub dX9_readWord_63)) (all_c (ok_istore_n dX9_readWord_64 rfl (by decide)) (all_c (ok_stk (s_iconst dX9_readWord_65 (by decide))) (all_c (ok_istore_n dX9_readWord_66 rfl (by decide)) (all_c (ok_iload_n dX9_readWord_67 rfl) (all_c (ok_stk (s_bipush dX9_readWord_68 (by decide))) (all_c (ok_icmp_ge dX9_readWord_70 (by decide)) (all_c (ok_aload_n dX9_readWord_73 rfl) (all_c (okg_X9_4 kw389 dX9_readWord_74) (all_c (ok_stk (s_iconst dX9_readWord_77 (by decide))) (all_c (ok_icmp_ne dX9_readWord_78 (by decide)) (all_c (ok_stk (s_iconst dX9_readWord_81 (by decide))) (all_c (ok_istore_n dX9_readWord_82 rfl (by decide)) (all_c (ok_iload_n dX9_readWord_83 rfl) (all_c (ok_iload_n dX9_readWord_84 rfl) (all_c (ok_icmp_ge dX9_readWord_85 (by decide)) (all_c (ok_ldcK rfl dX9_readWord_88) (all_c (ok_stk (s_bipush dX9_readWord_90 (by decide))) (all_c (ok_iload_n dX9_readWord_92 rfl) (all_c (ok_stk (s_imul dX9_readWord_93)) (all_c (ok_iload_n dX9_readWord_94 rfl) (all_c (ok_stk (s_iadd dX9_readWord_95)) (all_c (ok_callVSK (mJ0_charAt_5068e kn) (good_ws ws_good (fun _ h => h) kw402) (by decide) (by decide) kw405 kw403 kw404 kw9 ⟨by decide +kernel, by decide +kernel, by decide +kernel⟩ dX9_readWord_96) (all_c (ok_aload_n dX9_readWord_99 rfl) (all_c (okg_X9_0 kw398 dX9_readWord_100) (all_c (ok_aload_n dX9_readWord_103 rfl) (all_c (okg_X9_5 kw396 dX9_readWord_104) (all_c (ok_iload_n dX9_readWord_107 rfl) (all_c (ok_stk (s_iadd dX9_readWord_108)) (all_c (ok_iald dX9_readWord_109) (all_c (ok_icmp_ne dX9_readWord_110 (by decide)) (all_c (ok_iinc dX9_readWord_113 (by decide) (by decide)) (all_c (ok_goto dX9_readWord_116 (by decide)) (all_c (ok_iload_n dX9_readWord_119 rfl) (all_c (ok_iload_n dX9_readWord_120 rfl) (all_c (ok_icmp_ne dX9_readWord_121 (by decide)) (all_c (ok_ldcK rfl dX9_readWord_124) (all_c (ok_stk (s_bipush dX9_readWord_126 (by decide))) (all_c (ok_iload_n dX9_readWord_128 rfl) (all_c (ok_stk (s_imul dX9_readWord_129)) (all_c (ok_iload_n dX9_readWord_130 rfl) (all_c (ok_stk (s_iadd dX9_readWord_131)) (all_c (ok_callVSK (mJ0_charAt_5068e kn) (good_ws ws_good (fun _ h => h) kw402) (by decide) (by decide) kw405 kw403 kw404 kw9 ⟨by decide +kernel, by decide +kernel, by decide +kernel⟩ dX9_readWord_132) (all_c (ok_stk (s_bipush dX9_readWord_135 (by decide))) (all_c (ok_icmp_ne dX9_readWord_137 (by decide)) (all_c (ok_aload_n dX9_readWord_140 rfl) (all_c (ok_stk (s_iconst dX9_readWord_141 (by decide))) (all_c (okp_X9_4 kw389 dX9_readWord_142) (all_c (ok_aload_n dX9_readWord_145 rfl) (all_c (ok_iload_n dX9_readWord_146 rfl) (all_c (okp_X9_6 kw390 dX9_readWord_147) (all_c (ok_iinc dX9_readWord_150 (by decide) (by decide)) (all_c (ok_goto dX9_readWord_153 (by decide)) (all_c (ok_vret dX9_readWord_156) all_n))))))))))))))))))))))))))))))))))))))))))))))))))))))))))))))))))))))))))))))))))))))))) n (fun h => by first | rfl | cases h))
theorem dX9_advance_0 : decode cX9_advance 0 = .ok (.aload_n 0, 1) := by decide +kernel
theorem dX9_advance_1 : decode cX9_advance 1 = .ok (.getfield 15, 3) := by decide +kernel
theorem dX9_advance_4 : decode cX9_advance 4 = .ok (.aload_n 0, 1) := by decide +kernel
theorem dX9_advance_5 : decode cX9_advance 5 = .ok (.getfield 19, 3) := by decide +kernel
theorem dX9_advance_8 : decode cX9_advance 8 = .ok (.invokestatic 31, 3) := by decide +kernel
theorem dX9_advance_11 : decode cX9_advance 11 = .ok (.istore_n 1, 1) := by decide +kernel
theorem dX9_advance_12 : decode cX9_advance 12 = .ok (.aload_n 0, 1) := by decide +kernel
theorem dX9_advance_13 : decode cX9_advance 13 = .ok (.getfield 22, 3) := by decide +kernel
theorem dX9_advance_16 : decode cX9_advance 16 = .ok (.iload_n 1, 1) := by decide +kernel
theorem dX9_advance_17 : decode cX9_advance 17 = .ok (.if_icmp .ge 44, 3) := by decide +kernel
theorem dX9_advance_20 : decode cX9_advance 20 = .ok (.aload_n 0, 1) := by decide +kernel
theorem dX9_advance_21 : decode cX9_advance 21 = .ok (.getfield 9, 3) := by decide +kernel
theorem dX9_advance_24 : decode cX9_advance 24 = .ok (.aload_n 0, 1) := by decide +kernel
theorem dX9_advance_25 : decode cX9_advance 25 = .ok (.getfield 22, 3) := by decide +kernel
theorem dX9_advance_28 : decode cX9_advance 28 = .ok (.iaload, 1) := by decide +kernel
theorem dX9_advance_29 : decode cX9_advance 29 = .ok (.bipush 32, 2) := by decide +kernel
theorem dX9_advance_31 : decode cX9_advance 31 = .ok (.if_icmp .eq 17, 3) := by decide +kernel
theorem dX9_advance_34 : decode cX9_advance 34 = .ok (.aload_n 0, 1) := by decide +kernel
theorem dX9_advance_35 : decode cX9_advance 35 = .ok (.getfield 9, 3) := by decide +kernel
theorem dX9_advance_38 : decode cX9_advance 38 = .ok (.aload_n 0, 1) := by decide +kernel
theorem dX9_advance_39 : decode cX9_advance 39 = .ok (.getfield 22, 3) := by decide +kernel
theorem dX9_advance_42 : decode cX9_advance 42 = .ok (.iaload, 1) := by decide +kernel
theorem dX9_advance_43 : decode cX9_advance 43 = .ok (.bipush 10, 2) := by decide +kernel
theorem dX9_advance_45 : decode cX9_advance 45 = .ok (.if_icmp .ne 16, 3) := by decide +kernel
theorem dX9_advance_48 : decode cX9_advance 48 = .ok (.aload_n 0, 1) := by decide +kernel
theorem dX9_advance_49 : decode cX9_advance 49 = .ok (.dup, 1) := by decide +kernel
theorem dX9_advance_50 : decode cX9_advance 50 = .ok (.getfield 22, 3) := by decide +kernel
theorem dX9_advance_53 : decode cX9_advance 53 = .ok (.iconst 1, 1) := by decide +kernel
theorem dX9_advance_54 : decode cX9_advance 54 = .ok (.iadd, 1) := by decide +kernel
theorem dX9_advance_55 : decode cX9_advance 55 = .ok (.putfield 22, 3) := by decide +kernel
theorem dX9_advance_58 : decode cX9_advance 58 = .ok (.goto (-46), 3) := by decide +kernel
theorem dX9_advance_61 : decode cX9_advance 61 = .ok (.aload_n 0, 1) := by decide +kernel
theorem dX9_advance_62 : decode cX9_advance 62 = .ok (.aload_n 0, 1) := by decide +kernel
theorem dX9_advance_63 : decode cX9_advance 63 = .ok (.getfield 22, 3) := by decide +kernel
theorem dX9_advance_66 : decode cX9_advance 66 = .ok (.iload_n 1, 1) := by decide +kernel
theorem dX9_advance_67 : decode cX9_advance 67 = .ok (.invokestatic 31, 3) := by decide +kernel
theorem dX9_advance_70 : decode cX9_advance 70 = .ok (.putfield 37, 3) := by decide +kernel
theorem dX9_advance_73 : decode cX9_advance 73 = .ok (.aload_n 0, 1) := by decide +kernel
theorem dX9_advance_74 : decode cX9_advance 74 = .ok (.getfield 22, 3) := by decide +kernel
theorem dX9_advance_77 : decode cX9_advance 77 = .ok (.iload_n 1, 1) := by decide +kernel
theorem dX9_advance_78 : decode cX9_advance 78 = .ok (.if_icmp .lt 9, 3) := by decide +kernel
theorem dX9_advance_81 : decode cX9_advance 81 = .ok (.aload_n 0, 1) := by decide +kernel
theorem dX9_advance_82 : decode cX9_advance 82 = .ok (.iconst 0, 1) := by decide +kernel
theorem dX9_advance_83 : decode cX9_advance 83 = .ok (.putfield 40, 3) := by decide +kernel
theorem dX9_advance_86 : decode cX9_advance 86 = .ok (.return_, 1) := by decide +kernel
theorem dX9_advance_87 : decode cX9_advance 87 = .ok (.aload_n 0, 1) := by decide +kernel
theorem dX9_advance_88 : decode cX9_advance 88 = .ok (.aload_n 0, 1) := by decide +kernel
theorem dX9_advance_89 : decode cX9_advance 89 = .ok (.getfield 9, 3) := by decide +kernel
theorem dX9_advance_92 : decode cX9_advance 92 = .ok (.aload_n 0, 1) := by decide +kernel
theorem dX9_advance_93 : decode cX9_advance 93 = .ok (.getfield 22, 3) := by decide +kernel
theorem dX9_advance_96 : decode cX9_advance 96 = .ok (.iaload, 1) := by decide +kernel
theorem dX9_advance_97 : decode cX9_advance 97 = .ok (.putfield 43, 3) := by decide +kernel
theorem dX9_advance_100 : decode cX9_advance 100 = .ok (.aload_n 0, 1) := by decide +kernel
theorem dX9_advance_101 : decode cX9_advance 101 = .ok (.dup, 1) := by decide +kernel
theorem dX9_advance_102 : decode cX9_advance 102 = .ok (.getfield 22, 3) := by decide +kernel
theorem dX9_advance_105 : decode cX9_advance 105 = .ok (.iconst 1, 1) := by decide +kernel
theorem dX9_advance_106 : decode cX9_advance 106 = .ok (.iadd, 1) := by decide +kernel
theorem dX9_advance_107 : decode cX9_advance 107 = .ok (.putfield 22, 3) := by decide +kernel
theorem dX9_advance_110 : decode cX9_advance 110 = .ok (.aload_n 0, 1) := by decide +kernel
theorem dX9_advance_111 : decode cX9_advance 111 = .ok (.getfield 43, 3) := by decide +kernel
theorem dX9_advance_114 : decode cX9_advance 114 = .ok (.invokestatic 46, 3) := by decide +kernel
theorem dX9_advance_117 : decode cX9_advance 117 = .ok (.ifCond .ne 33, 3) := by decide +kernel
theorem dX9_advance_120 : decode cX9_advance 120 = .ok (.aload_n 0, 1) := by decide +kernel
theorem dX9_advance_121 : decode cX9_advance 121 = .ok (.getfield 43, 3) := by decide +kernel
theorem dX9_advance_124 : decode cX9_advance 124 = .ok (.invokestatic 50, 3) := by decide +kernel
theorem dX9_advance_127 : decode cX9_advance 127 = .ok (.ifCond .ne 23, 3) := by decide +kernel
theorem dX9_advance_130 : decode cX9_advance 130 = .ok (.aload_n 0, 1) := by decide +kernel
theorem dX9_advance_131 : decode cX9_advance 131 = .ok (.aload_n 0, 1) := by decide +kernel
theorem dX9_advance_132 : decode cX9_advance 132 = .ok (.getfield 43, 3) := by decide +kernel
theorem dX9_advance_135 : decode cX9_advance 135 = .ok (.invokestatic 53, 3) := by decide +kernel
theorem dX9_advance_138 : decode cX9_advance 138 = .ok (.ifCond .eq 7, 3) := by decide +kernel
theorem dX9_advance_141 : decode cX9_advance 141 = .ok (.iconst 2, 1) := by decide +kernel
theorem dX9_advance_142 : decode cX9_advance 142 = .ok (.goto 4, 3) := by decide +kernel
theorem dX9_advance_145 : decode cX9_advance 145 = .ok (.iconst 1, 1) := by decide +kernel
theorem dX9_advance_146 : decode cX9_advance 146 = .ok (.putfield 40, 3) := by decide +kernel
theorem dX9_advance_149 : decode cX9_advance 149 = .ok (.return_, 1) := by decide +kernel
theorem dX9_advance_150 : decode cX9_advance 150 = .ok (.aload_n 0, 1) := by decide +kernel
theorem dX9_advance_151 : decode cX9_advance 151 = .ok (.getfield 43, 3) := by decide +kernel
theorem dX9_advance_154 : decode cX9_advance 154 = .ok (.invokestatic 46, 3) := by decide +kernel
theorem dX9_advance_157 : decode cX9_advance 157 = .ok (.ifCond .eq 7, 3) := by decide +kernel
theorem dX9_advance_160 : decode cX9_advance 160 = .ok (.iconst 1, 1) := by decide +kernel
theorem dX9_advance_161 : decode cX9_advance 161 = .ok (.goto 4, 3) := by decide +kernel
theorem dX9_advance_164 : decode cX9_advance 164 = .ok (.iconst 0, 1) := by decide +kernel
theorem dX9_advance_165 : decode cX9_advance 165 = .ok (.istore_n 2, 1) := by decide +kernel
theorem dX9_advance_166 : decode cX9_advance 166 = .ok (.aload_n 0, 1) := by decide +kernel
theorem dX9_advance_167 : decode cX9_advance 167 = .ok (.getfield 22, 3) := by decide +kernel
theorem dX9_advance_170 : decode cX9_advance 170 = .ok (.aload_n 0, 1) := by decide +kernel
theorem dX9_advance_171 : decode cX9_advance 171 = .ok (.getfield 15, 3) := by decide +kernel
theorem dX9_advance_174 : decode cX9_advance 174 = .ok (.if_icmp .ge 69, 3) := by decide +kernel
theorem dX9_advance_177 : decode cX9_advance 177 = .ok (.aload_n 0, 1) := by decide +kernel
theorem dX9_advance_178 : decode cX9_advance 178 = .ok (.getfield 9, 3) := by decide +kernel
theorem dX9_advance_181 : decode cX9_advance 181 = .ok (.aload_n 0, 1) := by decide +kernel
theorem dX9_advance_182 : decode cX9_advance 182 = .ok (.getfield 22, 3) := by decide +kernel
theorem dX9_advance_185 : decode cX9_advance 185 = .ok (.iaload, 1) := by decide +kernel
theorem dX9_advance_186 : decode cX9_advance 186 = .ok (.invokestatic 46, 3) := by decide +kernel
theorem dX9_advance_189 : decode cX9_advance 189 = .ok (.ifCond .ne 18, 3) := by decide +kernel
theorem dX9_advance_192 : decode cX9_advance 192 = .ok (.aload_n 0, 1) := by decide +kernel
theorem dX9_advance_193 : decode cX9_advance 193 = .ok (.getfield 9, 3) := by decide +kernel
theorem dX9_advance_196 : decode cX9_advance 196 = .ok (.aload_n 0, 1) := by decide +kernel
theorem dX9_advance_197 : decode cX9_advance 197 = .ok (.getfield 22, 3) := by decide +kernel
theorem dX9_advance_200 : decode cX9_advance 200 = .ok (.iaload, 1) := by decide +kernel
theorem dX9_advance_201 : decode cX9_advance 201 = .ok (.invokestatic 50, 3) := by decide +kernel
theorem dX9_advance_204 : decode cX9_advance 204 = .ok (.ifCond .eq 39, 3) := by decide +kernel
theorem dX9_advance_207 : decode cX9_advance 207 = .ok (.iload_n 2, 1) := by decide +kernel
theorem dX9_advance_208 : decode cX9_advance 208 = .ok (.aload_n 0, 1) := by decide +kernel
theorem dX9_advance_209 : decode cX9_advance 209 = .ok (.getfield 9, 3) := by decide +kernel
theorem dX9_advance_212 : decode cX9_advance 212 = .ok (.aload_n 0, 1) := by decide +kernel
theorem dX9_advance_213 : decode cX9_advance 213 = .ok (.getfield 22, 3) := by decide +kernel
theorem dX9_advance_216 : decode cX9_advance 216 = .ok (.iaload, 1) := by decide +kernel
theorem dX9_advance_217 : decode cX9_advance 217 = .ok (.invokestatic 46, 3) := by decide +kernel
theorem dX9_advance_220 : decode cX9_advance 220 = .ok (.ifCond .eq 7, 3) := by decide +kernel
theorem dX9_advance_223 : decode cX9_advance 223 = .ok (.iconst 1, 1) := by decide +kernel
theorem dX9_advance_224 : decode cX9_advance 224 = .ok (.goto 4, 3) := by decide +kernel
theorem dX9_advance_227 : decode cX9_advance 227 = .ok (.iconst 0, 1) := by decide +kernel
theorem dX9_advance_228 : decode cX9_advance 228 = .ok (.iadd, 1) := by decide +kernel
theorem dX9_advance_229 : decode cX9_advance 229 = .ok (.istore_n 2, 1) := by decide +kernel
theorem dX9_advance_230 : decode cX9_advance 230 = .ok (.aload_n 0, 1) := by decide +kernel
theorem dX9_advance_231 : decode cX9_advance 231 = .ok (.dup, 1) := by decide +kernel
theorem dX9_advance_232 : decode cX9_advance 232 = .ok (.getfield 22, 3) := by decide +kernel
theorem dX9_advance_235 : decode cX9_advance 235 = .ok (.iconst 1, 1) := by decide +kernel
theorem dX9_advance_236 : decode cX9_advance 236 = .ok (.iadd, 1) := by decide +kernel
theorem dX9_advance_237 : decode cX9_advance 237 = .ok (.putfield 22, 3) := by decide +kernel
theorem dX9_advance_240 : decode cX9_advance 240 = .ok (.goto (-74), 3) := by decide +kernel
theorem dX9_advance_243 : decode cX9_advance 243 = .ok (.aload_n 0, 1) := by decide +kernel
theorem dX9_advance_244 : decode cX9_advance 244 = .ok (.getfield 22, 3) := by decide +kernel
theorem dX9_advance_247 : decode cX9_advance 247 = .ok (.aload_n 0, 1) := by decide +kernel
theorem dX9_advance_248 : decode cX9_advance 248 = .ok (.getfield 37, 3) := by decide +kernel
theorem dX9_advance_251 : decode cX9_advance 251 = .ok (.isub, 1) := by decide +kernel
theorem dX9_advance_252 : decode cX9_advance 252 = .ok (.istore_n 3, 1) := by decide +kernel
theorem dX9_advance_253 : decode cX9_advance 253 = .ok (.iload_n 2, 1) := by decide +kernel
theorem dX9_advance_254 : decode cX9_advance 254 = .ok (.iload_n 3, 1) := by decide +kernel
theorem dX9_advance_255 : decode cX9_advance 255 = .ok (.if_icmp .ne 16, 3) := by decide +kernel
theorem dX9_advance_258 : decode cX9_advance 258 = .ok (.iload_n 3, 1) := by decide +kernel
theorem dX9_advance_259 : decode cX9_advance 259 = .ok (.bipush 7, 2) := by decide +kernel
theorem dX9_advance_261 : decode cX9_advance 261 = .ok (.if_icmp .gt 10, 3) := by decide +kernel
theorem dX9_advance_264 : decode cX9_advance 264 = .ok (.aload_n 0, 1) := by decide +kernel
theorem dX9_advance_265 : decode cX9_advance 265 = .ok (.invokevirtual 56, 3) := by decide +kernel
theorem dX9_advance_268 : decode cX9_advance 268 = .ok (.goto 24, 3) := by decide +kernel
theorem dX9_advance_271 : decode cX9_advance 271 = .ok (.iload_n 2, 1) := by decide +kernel
theorem dX9_advance_272 : decode cX9_advance 272 = .ok (.ifCond .ne 15, 3) := by decide +kernel
theorem dX9_advance_275 : decode cX9_advance 275 = .ok (.iload_n 3, 1) := by decide +kernel
theorem dX9_advance_276 : decode cX9_advance 276 = .ok (.iconst 3, 1) := by decide +kernel
theorem dX9_advance_277 : decode cX9_advance 277 = .ok (.if_icmp .gt 10, 3) := by decide +kernel
theorem dX9_advance_280 : decode cX9_advance 280 = .ok (.aload_n 0, 1) := by decide +kernel
theorem dX9_advance_281 : decode cX9_advance 281 = .ok (.invokevirtual 59, 3) := by decide +kernel
theorem dX9_advance_284 : decode cX9_advance 284 = .ok (.goto 8, 3) := by decide +kernel
theorem dX9_advance_287 : decode cX9_advance 287 = .ok (.aload_n 0, 1) := by decide +kernel
theorem dX9_advance_288 : decode cX9_advance 288 = .ok (.iconst 1, 1) := by decide +kernel
theorem dX9_advance_289 : decode cX9_advance 289 = .ok (.putfield 40, 3) := by decide +kernel
theorem dX9_advance_292 : decode cX9_advance 292 = .ok (.return_, 1) := by decide +kernel
theorem okc_X9_isLetter {kn : sKn} {cc : ByteArray} {own : String} {nL : Nat} {D : Nat} {ret : Option FieldType} {ini : Bool} {pc index : Nat} (hD : 1 + 1 ≤ D) (hl : Cond.methodLink own index yX9_isLetter ∈ wsL_law) (hd : decode cc pc = .ok (.invokestatic index, 3)) : mOk kn cc own nL wsL_law D ret ini pc (a_callS false (fX9_isLetter kn) 1 (pc + 3)) := ok_callS (mX9_isLetter kn) (good_ws ws_good (fun _ h => h) kw409) hD (by decide) hl kw410 kw392 ⟨by decide +kernel, by decide +kernel, by decide +kernel⟩ hd
theorem okc_X9_isDigit {kn : sKn} {cc : ByteArray} {own : String} {nL : Nat} {D : Nat} {ret : Option FieldType} {ini : Bool} {pc index : Nat} (hD : 1 + 1 ≤ D) (hl : Cond.methodLink own index yX9_isDigit ∈ wsL_law) (hd : decode cc pc = .ok (.invokestatic index, 3)) : mOk kn cc own nL wsL_law D ret ini pc (a_callS false (fX9_isDigit kn) 1 (pc + 3)) := ok_callS (mX9_isDigit kn) (good_ws ws_good (fun _ h => h) kw412) hD (by decide) hl kw413 kw392 ⟨by decide +kernel, by decide +kernel, by decide +kernel⟩ hd
theorem okc_X9_isSign {kn : sKn} {cc : ByteArray} {own : String} {nL : Nat} {D : Nat} {ret : Option FieldType} {ini : Bool} {pc index : Nat} (hD : 1 + 1 ≤ D) (hl : Cond.methodLink own index yX9_isSign ∈ wsL_law) (hd : decode cc pc = .ok (.invokestatic index, 3)) : mOk kn cc own nL wsL_law D ret ini pc (a_callS false (fX9_isSign kn) 1 (pc + 3)) := ok_callS (mX9_isSign kn) (good_ws ws_good (fun _ h => h) kw415) hD (by decide) hl kw416 kw392 ⟨by decide +kernel, by decide +kernel, by decide +kernel⟩ hd
theorem okc_X9_readWord {kn : sKn} {cc : ByteArray} {own : String} {nL : Nat} {D : Nat} {ret : Option FieldType} {ini : Bool} {pc index : Nat} (hD : 5 + 1 ≤ D) (hl : Cond.methodLink own index yX9_readWord ∈ wsL_law) (hd : decode cc pc = .ok (.invokevirtual index, 3)) : mOk kn cc own nL wsL_law D ret ini pc (a_callV true (fX9_readWord kn) 10 (0 + 1) (pc + 3)) := ok_callV (mX9_readWord kn) (good_ws ws_good (fun _ h => h) kw418) hD (by decide) hl kw419 kw420 kw392 ⟨by decide +kernel, by decide +kernel, by decide +kernel⟩ rfl hd
theorem okc_X9_readNumber {kn : sKn} {cc : ByteArray} {own : String} {nL : Nat} {D : Nat} {ret : Option FieldType} {ini : Bool} {pc index : Nat} (hD : 1 + 1 ≤ D) (hl : Cond.methodLink own index yX9_readNumber ∈ wsL_law) (hd : decode cc pc = .ok (.invokevirtual index, 3)) : mOk kn cc own nL wsL_law D ret ini pc (a_callV true (fX9_readNumber kn) 10 (0 + 1) (pc + 3)) := ok_callV (mX9_readNumber kn) (good_ws ws_good (fun _ h => h) kw422) hD (by decide) hl kw423 kw424 kw392 ⟨by decide +kernel, by decide +kernel, by decide +kernel⟩ rfl hd
def tX9_advance (kn : sKn) : List (Nat × sA) := [(0, a_aload 0 1), (1, a_get 10 1 4), (4, a_aload 0 5), (5, a_get 10 2 8), (8, a_mmin 11), (11, a_istore 1 12), (12, a_aload 0 13), (13, a_get 10 3 16), (16, a_iload 1 17), (17, a_icmp kn b_ge 3 61 20), (20, a_aload 0 21), (21, a_get 10 0 24), (24, a_aload 0 25), (25, a_get 10 3 28), (28, a_iald 29), (29, a_stk (q_int 32) 31), (31, a_icmp kn b_eq 0 48 34), (34, a_aload 0 35), (35, a_get 10 0 38), (38, a_aload 0 39), (39, a_get 10 3 42), (42, a_iald 43), (43, a_stk (q_int 10) 45), (45, a_icmp kn b_ne 1 61 48), (48, a_aload 0 49), (49, a_stk q_dup 50), (50, a_get 10 3 53), (53, a_stk (q_int 1) 54), (54, a_stk q_iadd 55), (55, a_put 10 3 ckI 58), (58, a_goto 12), (61, a_aload 0 62), (62, a_aload 0 63), (63, a_get 10 3 66), (66, a_iload 1 67), (67, a_mmin 70), (70, a_put 10 5 ckI 73), (73, a_aload 0 74), (74, a_get 10 3 77), (77, a_iload 1 78), (78, a_icmp kn b_lt 2 87 81), (81, a_aload 0 82), (82, a_stk (q_int 0) 83), (83, a_put 10 4 ckI 86), (86, a_vret), (87, a_aload 0 88), (88, a_aload 0 89), (89, a_get 10 0 92), (92, a_aload 0 93), (93, a_get 10 3 96), (96, a_iald 97), (97, a_put 10 6 ckI 100), (100, a_aload 0 101), (101, a_stk q_dup 102), (102, a_get 10 3 105), (105, a_stk (q_int 1) 106), (106, a_stk q_iadd 107), (107, a_put 10 3 ckI 110), (110, a_aload 0 111), (111, a_get 10 6 114), (114, a_callS false (fX9_isLetter kn) 1 117), (117, a_if kn b_ne 1 150 120), (120, a_aload 0 121), (121, a_get 10 6 124), (124, a_callS false (fX9_isDigit kn) 1 127), (127, a_if kn b_ne 1 150 130), (130, a_aload 0 131), (131, a_aload 0 132), (132, a_get 10 6 135), (135, a_callS false (fX9_isSign kn) 1 138), (138, a_if kn b_eq 0 145 141), (141, a_stk (q_int 2) 142), (142, a_goto 146), (145, a_stk (q_int 1) 146), (146, a_put 10 4 ckI 149), (149, a_vret), (150, a_aload 0 151), (151, a_get 10 6 154), (154, a_callS false (fX9_isLetter kn) 1 157), (157, a_if kn b_eq 0 164 160), (160, a_stk (q_int 1) 161), (161, a_goto 165), (164, a_stk (q_int 0) 165), (165, a_istore 2 166), (166, a_aload 0 167), (167, a_get 10 3 170), (170, a_aload 0 171), (171, a_get 10 1 174), (174, a_icmp kn b_ge 3 243 177), (177, a_aload 0 178), (178, a_get 10 0 181), (181, a_aload 0 182), (182, a_get 10 3 185), (185, a_iald 186), (186, a_callS false (fX9_isLetter kn) 1 189), (189, a_if kn b_ne 1 207 192), (192, a_aload 0 193), (193, a_get 10 0 196), (196, a_aload 0 197), (197, a_get 10 3 200), (200, a_iald 201), (201, a_callS false (fX9_isDigit kn) 1 204), (204, a_if kn b_eq 0 243 207), (207, a_iload 2 208), (208, a_aload 0 209), (209, a_get 10 0 212), (212, a_aload 0 213), (213, a_get 10 3 216), (216, a_iald 217), (217, a_callS false (fX9_isLetter kn) 1 220), (220, a_if kn b_eq 0 227 223), (223, a_stk (q_int 1) 224), (224, a_goto 228), (227, a_stk (q_int 0) 228), (228, a_stk q_iadd 229), (229, a_istore 2 230), (230, a_aload 0 231), (231, a_stk q_dup 232), (232, a_get 10 3 235), (235, a_stk (q_int 1) 236), (236, a_stk q_iadd 237), (237, a_put 10 3 ckI 240), (240, a_goto 166), (243, a_aload 0 244), (244, a_get 10 3 247), (247, a_aload 0 248), (248, a_get 10 5 251), (251, a_stk q_isub 252), (252, a_istore 3 253), (253, a_iload 2 254), (254, a_iload 3 255), (255, a_icmp kn b_ne 1 271 258), (258, a_iload 3 259), (259, a_stk (q_int 7) 261), (261, a_icmp kn b_gt 4 271 264), (264, a_aload 0 265), (265, a_callV true (fX9_readWord kn) 10 1 268), (268, a_goto 292), (271, a_iload 2 272), (272, a_if kn b_ne 1 287 275), (275, a_iload 3 276), (276, a_stk (q_int 3) 277), (277, a_icmp kn b_gt 4 287 280), (280, a_aload 0 281), (281, a_callV true (fX9_readNumber kn) 10 1 284), (284, a_goto 292), (287, a_aload 0 288), (288, a_stk (q_int 1) 289), (289, a_put 10 4 ckI 292), (292, a_vret)]
def fX9_advance (kn : sKn) : List Value → sW → Option sR := fW (tX9_advance kn) 4
set_option maxRecDepth 100000 in
set_option maxHeartbeats 4000000 in
theorem mX9_advance (kn : sKn) : mM kn yX9_advance (Cond.code yX9_advance cX9_advance 4 none :: wsL_law) 6 true (fX9_advance kn) := mM_W (fun n => mM_of (own := RX9) (ini := false) rfl (by decide +kernel) (by decide +kernel) (all_c (ok_aload_n dX9_advance_0 rfl) (all_c (okg_X9_1 kw406 dX9_advance_1) (all_c (ok_aload_n dX9_advance_4 rfl) (all_c (okg_X9_2 kw407 dX9_advance_5) (all_c (ok_mmin (by decide) kw408 kw53 kw38 kw54 dX9_advance_8) (all_c (ok_istore_n dX9_advance_11 rfl (by decide)) (all_c (ok_aload_n dX9_advance_12 rfl) (all_c (okg_X9_3 kw397 dX9_advance_13) (all_c (ok_iload_n dX9_advance_16 rfl) (all_c (ok_icmp_ge dX9_advance_17 (by decide)) (all_c (ok_aload_n dX9_advance_20 rfl) (all_c (okg_X9_0 kw398 dX9_advance_21) (all_c (ok_aload_n dX9_advance_24 rfl) (all_c (okg_X9_3 kw397 dX9_advance_25) (all_c (ok_iald dX9_advance_28) (all_c (ok_stk (s_bipush dX9_advance_29 (by decide))) (all_c (ok_icmp_eq dX9_advance_31 (by decide)) (all_c (ok_aload_n dX9_advance_34 rfl) (all_c (okg_X9_0 kw398 dX9_advance_35) (all_c (ok_aload_n dX9_advance_38 rfl) (all_c (okg_X9_3 kw397 dX9_advance_39) (all_c (ok_iald dX9_advance_42) (all_c (ok_stk (s_bipush dX9_advance_43 (by decide))) (all_c (ok_icmp_ne dX9_advance_45 (by decide)) (all_c (ok_aload_n dX9_advance_48 rfl) (all_c (ok_stk (s_dup dX9_advance_49)) (all_c (okg_X9_3 kw397 dX9_advance_50) (all_c (ok_stk (s_iconst dX9_advance_53 (by decide))) (all_c (ok_stk (s_iadd dX9_advance_54)) (all_c (okp_X9_3 kw397 dX9_advance_55) (all_c (ok_goto dX9_advance_58 (by decide)) (all_c (ok_aload_n dX9_advance_61 rfl) (all_c (ok_aload_n dX9_advance_62 rfl) (all_c (okg_X9_3 kw397 dX9_advance_63) (all_c (ok_iload_n dX9_advance_66 rfl) (all_c (ok_mmin (by decide) kw408 kw53 kw38 kw54 dX9_advance_67) (all_c (okp_X9_5 kw396 dX9_advance_70) (all_c (ok_aload_n dX9_advance_73 rfl) (all_c (okg_X9_3 kw397 dX9_advance_74) (all_c (ok_iload_n dX9_advance_77 rfl) (all_c (ok_icmp_lt dX9_advance_78 (by decide)) (all_c (ok_aload_n dX9_advance_81 rfl) (all_c (ok_stk (s_iconst dX9_advance_82 (by decide))) (all_c (okp_X9_4 kw389 dX9_advance_83) (all_c (ok_vret dX9_advance_86) (all_c (ok_aload_n dX9_advance_87 rfl) (all_c (ok_aload_n dX9_advance_88 rfl) (all_c (okg_X9_0 kw398 dX9_advance_89) (all_c (ok_aload_n dX9_advance_92 rfl) (all_c (okg_X9_3 kw397 dX9_advance_93) (all_c (ok_iald dX9_advance_96) (all_c (okp_X9_6 kw390 dX9_advance_97) (all_c (ok_aload_n dX9_advance_100 rfl) (all_c (ok_stk (s_dup dX9_advance_101)) (all_c (okg_X9_3 kw397 dX9_advance_102) (all_c (ok_stk (s_iconst dX9_advance_105 (by decide))) (all_c (ok_stk (s_iadd dX9_advance_106)) (all_c (okp_X9_3 kw397 dX9_advance_107) (all_c (ok_aload_n dX9_advance_110 rfl) (all_c (okg_X9_6 kw390 dX9_advance_111) (all_c (okc_X9_isLetter (by decide) kw411 dX9_advance_114) (all_c (ok_if_ne dX9_advance_117 (by decide)) (all_c (ok_aload_n dX9_advance_120 rfl) (all_c (okg_X9_6 kw390 dX9_advance_121) (all_c (okc_X9_isDigit (by decide) kw414 dX9_advance_124) (all_c (ok_if_ne dX9_advance_127 (by decide)) (all_c (ok_aload_n dX9_advance_130 rfl) (all_c (ok_aload_n dX9_advance_131 rfl) (all_c (okg_X9_6 kw390 dX9_advance_132) (all_c (okc_X9_isSign (by decide) kw417 dX9_advance_135) (all_c (ok_if_eq dX9_advance_138 (by decide)) (all_c (ok_stk (s_iconst dX9_advance_141 (by decide))) (all_c (ok_goto dX9_advance_142 (by decide)) (all_c (ok_stk (s_iconst dX9_advance_145 (by decide))) (all_c (okp_X9_4 kw389 dX9_advance_146) (all_c (ok_vret dX9_advance_149) (all_c (ok_aload_n dX9_advance_150 rfl) (all_c (okg_X9_6 kw390 dX9_advance_151) (all_c (okc_X9_isLetter (by decide) kw411 dX9_advance_154) (all_c (ok_if_eq dX9_advance_157 (by decide)) (all_c (ok_stk (s_iconst dX9_advance_160 (by decide))) (all_c (ok_goto dX9_advance_161 (by decide)) (all_c (ok_stk (s_iconst dX9_advance_164 (by decide))) (all_c (ok_istore_n dX9_advance_165 rfl (by decide)) (all_c (ok_aload_n dX9_advance_166 rfl) (all_c (okg_X9_3 kw397 dX9_advance_167) (all_c (ok_aload_n dX9_advance_170 rfl) (all_c (okg_X9_1 kw406 dX9_advance_171) (all_c (ok_icmp_ge dX9_advance_174 (by decide)) (all_c (ok_aload_n dX9_advance_177 rfl) (all_c (okg_X9_0 kw398 dX9_advance_178) (all_c (ok_aload_n dX9_advance_181 rfl) (all_c (okg_X9_3 kw397 dX9_advance_182) (all_c (ok_iald dX9_advance_185) (all_c (okc_X9_isLetter (by decide) kw411 dX9_advance_186) (all_c (ok_if_ne dX9_advance_189 (by decide)) (all_c (ok_aload_n dX9_advance_192 rfl) (all_c (okg_X9_0 kw398 dX9_advance_193) (all_c (ok_aload_n dX9_advance_196 rfl) (all_c (okg_X9_3 kw397 dX9_advance_197) (all_c (ok_iald dX9_advance_200) (all_c (okc_X9_isDigit (by decide) kw414 dX9_advance_201) (all_c (ok_if_eq dX9_advance_204 (by decide)) (all_c (ok_iload_n dX9_advance_207 rfl) (all_c (ok_aload_n dX9_advance_208 rfl) (all_c (okg_X9_0 kw398 dX9_advance_209) (all_c (ok_aload_n dX9_advance_212 rfl) (all_c (okg_X9_3 kw397 dX9_advance_213) (all_c (ok_iald dX9_advance_216) (all_c (okc_X9_isLetter (by decide) kw411 dX9_advance_217) (all_c (ok_if_eq dX9_advance_220 (by decide)) (all_c (ok_stk (s_iconst dX9_advance_223 (by decide))) (all_c (ok_goto dX9_advance_224 (by decide)) (all_c (ok_stk (s_iconst dX9_advance_227 (by decide))) (all_c (ok_stk (s_iadd dX9_advance_228)) (all_c (ok_istore_n dX9_advance_229 rfl (by decide)) (all_c (ok_aload_n dX9_advance_230 rfl) (all_c (ok_stk (s_dup dX9_advance_231)) (all_c (okg_X9_3 kw397 dX9_advance_232) (all_c (ok_stk (s_iconst dX9_advance_235 (by decide))) (all_c (ok_stk (s_iadd dX9_advance_236)) (all_c (okp_X9_3 kw397 dX9_advance_237) (all_c (ok_goto dX9_advance_240 (by decide)) (all_c (ok_aload_n dX9_advance_243 rfl) (all_c (okg_X9_3 kw397 dX9_advance_244) (all_c (ok_aload_n dX9_advance_247 rfl) (all_c (okg_X9_5 kw396 dX9_advance_248) (all_c (ok_stk (s_isub dX9_advance_251)) (all_c (ok_istore_n dX9_advance_252 rfl (by decide)) (all_c (ok_iload_n dX9_advance_253 rfl) (all_c (ok_iload_n dX9_advance_254 rfl) (all_c (ok_icmp_ne dX9_advance_255 (by decide)) (all_c (ok_iload_n dX9_advance_258 rfl) (all_c (ok_stk (s_bipush dX9_advance_259 (by decide))) (all_c (ok_icmp_gt dX9_advance_261 (by decide)) (all_c (ok_aload_n dX9_advance_264 rfl) (all_c (okc_X9_readWord (by decide) kw421 dX9_advance_265) (all_c (ok_goto dX9_advance_268 (by decide)) (all_c (ok_iload_n dX9_advance_271 rfl) (all_c (ok_if_ne dX9_advance_272 (by decide)) (all_c (ok_iload_n dX9_advance_275 rfl) (all_c (ok_stk (s_iconst dX9_advance_276 (by decide))) (all_c (ok_icmp_gt dX9_advance_277 (by decide)) (all_c (ok_aload_n dX9_advance_280 rfl) (all_c (okc_X9_readNumber (by decide) kw425 dX9_advance_281) (all_c (ok_goto dX9_advance_284 (by decide)) (all_c (ok_aload_n dX9_advance_287 rfl) (all_c (ok_stk (s_iconst dX9_advance_288 (by decide))) (all_c (okp_X9_4 kw389 dX9_advance_289) (all_c (ok_vret dX9_advance_292) all_n)))))))))))))))))))))))))))))))))))))))))))))))))))))))))))))))))))))))))))))))))))))))))))))))))))))))))))))))))))))))))))))))))))))))))))))))))))))) n (fun h => by first | rfl | cases h))
theorem dX9_refuseAt_0 : decode cX9_refuseAt 0 = .ok (.aload_n 0, 1) := by decide +kernel
theorem dX9_refuseAt_1 : decode cX9_refuseAt 1 = .ok (.iload_n 1, 1) := by decide +kernel
theorem dX9_refuseAt_2 : decode cX9_refuseAt 2 = .ok (.putfield 25, 3) := by decide +kernel
theorem dX9_refuseAt_5 : decode cX9_refuseAt 5 = .ok (.aload_n 0, 1) := by decide +kernel
theorem dX9_refuseAt_6 : decode cX9_refuseAt 6 = .ok (.iload_n 2, 1) := by decide +kernel
theorem dX9_refuseAt_7 : decode cX9_refuseAt 7 = .ok (.putfield 82, 3) := by decide +kernel
theorem dX9_refuseAt_10 : decode cX9_refuseAt 10 = .ok (.iconst 0, 1) := by decide +kernel
theorem dX9_refuseAt_11 : decode cX9_refuseAt 11 = .ok (.ireturn, 1) := by decide +kernel
def tX9_refuseAt (kn : sKn) : List (Nat × sA) := [(0, a_aload 0 1), (1, a_iload 1 2), (2, a_put 10 11 ckI 5), (5, a_aload 0 6), (6, a_iload 2 7), (7, a_put 10 12 ckI 10), (10, a_stk (q_int 0) 11), (11, a_zret)]
def fX9_refuseAt (kn : sKn) : List Value → sW → Option sR := fW (tX9_refuseAt kn) 3
set_option maxRecDepth 100000 in
set_option maxHeartbeats 4000000 in
theorem mX9_refuseAt (kn : sKn) : mM kn yX9_refuseAt (Cond.code yX9_refuseAt cX9_refuseAt 3 (some .boolean) :: wsL_law) 1 false (fX9_refuseAt kn) := mM_W (fun n => mM_of (own := RX9) (ini := false) rfl (by decide +kernel) (by decide +kernel) (all_c (ok_aload_n dX9_refuseAt_0 rfl) (all_c (ok_iload_n dX9_refuseAt_1 rfl) (all_c (okp_X9_11 kw426 dX9_refuseAt_2) (all_c (ok_aload_n dX9_refuseAt_5 rfl) (all_c (ok_iload_n dX9_refuseAt_6 rfl) (all_c (okp_X9_12 kw427 dX9_refuseAt_7) (all_c (ok_stk (s_iconst dX9_refuseAt_10 (by decide))) (all_c (ok_zret dX9_refuseAt_11) all_n)))))))) n (fun h => by first | rfl | cases h))
theorem dX9_refuse_0 : decode cX9_refuse 0 = .ok (.aload_n 0, 1) := by decide +kernel
theorem dX9_refuse_1 : decode cX9_refuse 1 = .ok (.iload_n 1, 1) := by decide +kernel
theorem dX9_refuse_2 : decode cX9_refuse 2 = .ok (.aload_n 0, 1) := by decide +kernel
theorem dX9_refuse_3 : decode cX9_refuse 3 = .ok (.getfield 37, 3) := by decide +kernel
theorem dX9_refuse_6 : decode cX9_refuse 6 = .ok (.invokevirtual 78, 3) := by decide +kernel
theorem dX9_refuse_9 : decode cX9_refuse 9 = .ok (.ireturn, 1) := by decide +kernel
theorem okc_X9_refuseAt {kn : sKn} {cc : ByteArray} {own : String} {nL : Nat} {D : Nat} {ret : Option FieldType} {ini : Bool} {pc index : Nat} (hD : 1 + 1 ≤ D) (hl : Cond.methodLink own index yX9_refuseAt ∈ wsL_law) (hd : decode cc pc = .ok (.invokevirtual index, 3)) : mOk kn cc own nL wsL_law D ret ini pc (a_callV false (fX9_refuseAt kn) 10 (2 + 1) (pc + 3)) := ok_callV (mX9_refuseAt kn) (good_ws ws_good (fun _ h => h) kw428) hD (by decide) hl kw429 kw430 kw392 ⟨by decide +kernel, by decide +kernel, by decide +kernel⟩ rfl hd
def tX9_refuse (kn : sKn) : List (Nat × sA) := [(0, a_aload 0 1), (1, a_iload 1 2), (2, a_aload 0 3), (3, a_get 10 5 6), (6, a_callV false (fX9_refuseAt kn) 10 3 9), (9, a_zret)]
def fX9_refuse (kn : sKn) : List Value → sW → Option sR := fW (tX9_refuse kn) 2
set_option maxRecDepth 100000 in
set_option maxHeartbeats 4000000 in
theorem mX9_refuse (kn : sKn) : mM kn yX9_refuse (Cond.code yX9_refuse cX9_refuse 2 (some .boolean) :: wsL_law) 2 false (fX9_refuse kn) := mM_W (fun n => mM_of (own := RX9) (ini := false) rfl (by decide +kernel) (by decide +kernel) (all_c (ok_aload_n dX9_refuse_0 rfl) (all_c (ok_iload_n dX9_refuse_1 rfl) (all_c (ok_aload_n dX9_refuse_2 rfl) (all_c (okg_X9_5 kw396 dX9_refuse_3) (all_c (okc_X9_refuseAt (by decide) kw431 dX9_refuse_6) (all_c (ok_zret dX9_refuse_9) all_n)))))) n (fun h => by first | rfl | cases h))
theorem dX9_takeNumber_0 : decode cX9_takeNumber 0 = .ok (.aload_n 0, 1) := by decide +kernel
theorem dX9_takeNumber_1 : decode cX9_takeNumber 1 = .ok (.getfield 40, 3) := by decide +kernel
theorem dX9_takeNumber_4 : decode cX9_takeNumber 4 = .ok (.iconst 3, 1) := by decide +kernel
theorem dX9_takeNumber_5 : decode cX9_takeNumber 5 = .ok (.if_icmp .eq 9, 3) := by decide +kernel
theorem dX9_takeNumber_8 : decode cX9_takeNumber 8 = .ok (.aload_n 0, 1) := by decide +kernel
theorem dX9_takeNumber_9 : decode cX9_takeNumber 9 = .ok (.iconst 1, 1) := by decide +kernel
theorem dX9_takeNumber_10 : decode cX9_takeNumber 10 = .ok (.invokevirtual 85, 3) := by decide +kernel
theorem dX9_takeNumber_13 : decode cX9_takeNumber 13 = .ok (.ireturn, 1) := by decide +kernel
theorem dX9_takeNumber_14 : decode cX9_takeNumber 14 = .ok (.aload_n 0, 1) := by decide +kernel
theorem dX9_takeNumber_15 : decode cX9_takeNumber 15 = .ok (.getfield 43, 3) := by decide +kernel
theorem dX9_takeNumber_18 : decode cX9_takeNumber 18 = .ok (.iload_n 1, 1) := by decide +kernel
theorem dX9_takeNumber_19 : decode cX9_takeNumber 19 = .ok (.if_icmp .lt 11, 3) := by decide +kernel
theorem dX9_takeNumber_22 : decode cX9_takeNumber 22 = .ok (.aload_n 0, 1) := by decide +kernel
theorem dX9_takeNumber_23 : decode cX9_takeNumber 23 = .ok (.getfield 43, 3) := by decide +kernel
theorem dX9_takeNumber_26 : decode cX9_takeNumber 26 = .ok (.iload_n 2, 1) := by decide +kernel
theorem dX9_takeNumber_27 : decode cX9_takeNumber 27 = .ok (.if_icmp .le 9, 3) := by decide +kernel
theorem dX9_takeNumber_30 : decode cX9_takeNumber 30 = .ok (.aload_n 0, 1) := by decide +kernel
theorem dX9_takeNumber_31 : decode cX9_takeNumber 31 = .ok (.iconst 2, 1) := by decide +kernel
theorem dX9_takeNumber_32 : decode cX9_takeNumber 32 = .ok (.invokevirtual 85, 3) := by decide +kernel
theorem dX9_takeNumber_35 : decode cX9_takeNumber 35 = .ok (.ireturn, 1) := by decide +kernel
theorem dX9_takeNumber_36 : decode cX9_takeNumber 36 = .ok (.aload_n 0, 1) := by decide +kernel
theorem dX9_takeNumber_37 : decode cX9_takeNumber 37 = .ok (.aload_n 0, 1) := by decide +kernel
theorem dX9_takeNumber_38 : decode cX9_takeNumber 38 = .ok (.getfield 43, 3) := by decide +kernel
theorem dX9_takeNumber_41 : decode cX9_takeNumber 41 = .ok (.putfield 91, 3) := by decide +kernel
theorem dX9_takeNumber_44 : decode cX9_takeNumber 44 = .ok (.aload_n 0, 1) := by decide +kernel
theorem dX9_takeNumber_45 : decode cX9_takeNumber 45 = .ok (.aload_n 0, 1) := by decide +kernel
theorem dX9_takeNumber_46 : decode cX9_takeNumber 46 = .ok (.getfield 37, 3) := by decide +kernel
theorem dX9_takeNumber_49 : decode cX9_takeNumber 49 = .ok (.putfield 94, 3) := by decide +kernel
theorem dX9_takeNumber_52 : decode cX9_takeNumber 52 = .ok (.aload_n 0, 1) := by decide +kernel
theorem dX9_takeNumber_53 : decode cX9_takeNumber 53 = .ok (.invokevirtual 28, 3) := by decide +kernel
theorem dX9_takeNumber_56 : decode cX9_takeNumber 56 = .ok (.iconst 1, 1) := by decide +kernel
theorem dX9_takeNumber_57 : decode cX9_takeNumber 57 = .ok (.ireturn, 1) := by decide +kernel
theorem okc_X9_refuse {kn : sKn} {cc : ByteArray} {own : String} {nL : Nat} {D : Nat} {ret : Option FieldType} {ini : Bool} {pc index : Nat} (hD : 2 + 1 ≤ D) (hl : Cond.methodLink own index yX9_refuse ∈ wsL_law) (hd : decode cc pc = .ok (.invokevirtual index, 3)) : mOk kn cc own nL wsL_law D ret ini pc (a_callV false (fX9_refuse kn) 10 (1 + 1) (pc + 3)) := ok_callV (mX9_refuse kn) (good_ws ws_good (fun _ h => h) kw432) hD (by decide) hl kw433 kw434 kw392 ⟨by decide +kernel, by decide +kernel, by decide +kernel⟩ rfl hd
theorem okc_X9_advance {kn : sKn} {cc : ByteArray} {own : String} {nL : Nat} {D : Nat} {ret : Option FieldType} {ini : Bool} {pc index : Nat} (hD : 6 + 1 ≤ D) (hl : Cond.methodLink own index yX9_advance ∈ wsL_law) (hd : decode cc pc = .ok (.invokevirtual index, 3)) : mOk kn cc own nL wsL_law D ret ini pc (a_callV true (fX9_advance kn) 10 (0 + 1) (pc + 3)) := ok_callV (mX9_advance kn) (good_ws ws_good (fun _ h => h) kw438) hD (by decide) hl kw439 kw440 kw392 ⟨by decide +kernel, by decide +kernel, by decide +kernel⟩ rfl hd
def tX9_takeNumber (kn : sKn) : List (Nat × sA) := [(0, a_aload 0 1), (1, a_get 10 4 4), (4, a_stk (q_int 3) 5), (5, a_icmp kn b_eq 0 14 8), (8, a_aload 0 9), (9, a_stk (q_int 1) 10), (10, a_callV false (fX9_refuse kn) 10 2 13), (13, a_zret), (14, a_aload 0 15), (15, a_get 10 6 18), (18, a_iload 1 19), (19, a_icmp kn b_lt 2 30 22), (22, a_aload 0 23), (23, a_get 10 6 26), (26, a_iload 2 27), (27, a_icmp kn b_le 5 36 30), (30, a_aload 0 31), (31, a_stk (q_int 2) 32), (32, a_callV false (fX9_refuse kn) 10 2 35), (35, a_zret), (36, a_aload 0 37), (37, a_aload 0 38), (38, a_get 10 6 41), (41, a_put 10 8 ckI 44), (44, a_aload 0 45), (45, a_aload 0 46), (46, a_get 10 5 49), (49, a_put 10 10 ckI 52), (52, a_aload 0 53), (53, a_callV true (fX9_advance kn) 10 1 56), (56, a_stk (q_int 1) 57), (57, a_zret)]
def fX9_takeNumber (kn : sKn) : List Value → sW → Option sR := fW (tX9_takeNumber kn) 3
set_option maxRecDepth 100000 in
set_option maxHeartbeats 4000000 in
theorem mX9_takeNumber (kn : sKn) : mM kn yX9_takeNumber (Cond.code yX9_takeNumber cX9_takeNumber 3 (some .boolean) :: wsL_law) 7 false (fX9_takeNumber kn) := mM_W (fun n => mM_of (own := RX9) (ini := false) rfl (by decide +kernel) (by decide +kernel) (all_c (ok_aload_n dX9_takeNumber_0 rfl) (all_c (okg_X9_4 kw389 dX9_takeNumber_1) (all_c (ok_stk (s_iconst dX9_takeNumber_4 (by decide))) (all_c (ok_icmp_eq dX9_takeNumber_5 (by decide)) (all_c (ok_aload_n dX9_takeNumber_8 rfl) (all_c (ok_stk (s_iconst dX9_takeNumber_9 (by decide))) (all_c (okc_X9_refuse (by decide) kw435 dX9_takeNumber_10) (all_c (ok_zret dX9_takeNumber_13) (all_c (ok_aload_n dX9_takeNumber_14 rfl) (all_c (okg_X9_6 kw390 dX9_takeNumber_15) (all_c (ok_iload_n dX9_takeNumber_18 rfl) (all_c (ok_icmp_lt dX9_takeNumber_19 (by decide)) (all_c (ok_aload_n dX9_takeNumber_22 rfl) (all_c (okg_X9_6 kw390 dX9_takeNumber_23) (all_c (ok_iload_n dX9_takeNumber_26 rfl) (all_c (ok_icmp_le dX9_takeNumber_27 (by decide)) (all_c (ok_aload_n dX9_takeNumber_30 rfl) (all_c (ok_stk (s_iconst dX9_takeNumber_31 (by decide))) (all_c (okc_X9_refuse (by decide) kw435 dX9_takeNumber_32) (all_c (ok_zret dX9_takeNumber_35) (all_c (ok_aload_n dX9_takeNumber_36 rfl) (all_c (ok_aload_n dX9_takeNumber_37 rfl) (all_c (okg_X9_6 kw390 dX9_takeNumber_38) (all_c (okp_X9_8 kw436 dX9_takeNumber_41) (all_c (ok_aload_n dX9_takeNumber_44 rfl) (all_c (ok_aload_n dX9_takeNumber_45 rfl) (all_c (okg_X9_5 kw396 dX9_takeNumber_46) (all_c (okp_X9_10 kw437 dX9_takeNumber_49) (all_c (ok_aload_n dX9_takeNumber_52 rfl) (all_c (okc_X9_advance (by decide) kw441 dX9_takeNumber_53) (all_c (ok_stk (s_iconst dX9_takeNumber_56 (by decide))) (all_c (ok_zret dX9_takeNumber_57) all_n)))))))))))))))))))))))))))))))) n (fun h => by first | rfl | cases h))
theorem dX1_readDays_0 : decode cX1_readDays 0 = .ok (.aload_n 1, 1) := by decide +kernel
theorem dX1_readDays_1 : decode cX1_readDays 1 = .ok (.iconst 1, 1) := by decide +kernel
theorem dX1_readDays_2 : decode cX1_readDays 2 = .ok (.bipush 60, 2) := by decide +kernel
theorem dX1_readDays_4 : decode cX1_readDays 4 = .ok (.invokevirtual 87, 3) := by decide +kernel
theorem dX1_readDays_7 : decode cX1_readDays 7 = .ok (.ifCond .ne 5, 3) := by decide +kernel
theorem dX1_readDays_10 : decode cX1_readDays 10 = .ok (.iconst 0, 1) := by decide +kernel
theorem dX1_readDays_11 : decode cX1_readDays 11 = .ok (.ireturn, 1) := by decide +kernel
theorem dX1_readDays_12 : decode cX1_readDays 12 = .ok (.aload_n 0, 1) := by decide +kernel
theorem dX1_readDays_13 : decode cX1_readDays 13 = .ok (.getfield 18, 3) := by decide +kernel
theorem dX1_readDays_16 : decode cX1_readDays 16 = .ok (.aload_n 0, 1) := by decide +kernel
theorem dX1_readDays_17 : decode cX1_readDays 17 = .ok (.getfield 33, 3) := by decide +kernel
theorem dX1_readDays_20 : decode cX1_readDays 20 = .ok (.aload_n 1, 1) := by decide +kernel
theorem dX1_readDays_21 : decode cX1_readDays 21 = .ok (.getfield 91, 3) := by decide +kernel
theorem dX1_readDays_24 : decode cX1_readDays 24 = .ok (.iastore, 1) := by decide +kernel
theorem dX1_readDays_25 : decode cX1_readDays 25 = .ok (.iconst 1, 1) := by decide +kernel
theorem dX1_readDays_26 : decode cX1_readDays 26 = .ok (.ireturn, 1) := by decide +kernel
theorem okc_X9_takeNumber {kn : sKn} {cc : ByteArray} {own : String} {nL : Nat} {D : Nat} {ret : Option FieldType} {ini : Bool} {pc index : Nat} (hD : 7 + 1 ≤ D) (hl : Cond.methodLink own index yX9_takeNumber ∈ wsL_law) (hd : decode cc pc = .ok (.invokevirtual index, 3)) : mOk kn cc own nL wsL_law D ret ini pc (a_callV false (fX9_takeNumber kn) 10 (2 + 1) (pc + 3)) := ok_callV (mX9_takeNumber kn) (good_ws ws_good (fun _ h => h) kw442) hD (by decide) hl kw443 kw444 kw392 ⟨by decide +kernel, by decide +kernel, by decide +kernel⟩ rfl hd
def tX1_readDays (kn : sKn) : List (Nat × sA) := [(0, a_aload 1 1), (1, a_stk (q_int 1) 2), (2, a_stk (q_int 60) 4), (4, a_callV false (fX9_takeNumber kn) 10 3 7), (7, a_if kn b_ne 1 12 10), (10, a_stk (q_int 0) 11), (11, a_zret), (12, a_aload 0 13), (13, a_get 2 2 16), (16, a_aload 0 17), (17, a_get 2 4 20), (20, a_aload 1 21), (21, a_get 10 8 24), (24, a_iast 25), (25, a_stk (q_int 1) 26), (26, a_zret)]
def fX1_readDays (kn : sKn) : List Value → sW → Option sR := fW (tX1_readDays kn) 2
set_option maxRecDepth 100000 in
set_option maxHeartbeats 4000000 in
theorem mX1_readDays (kn : sKn) : mM kn yX1_readDays (Cond.code yX1_readDays cX1_readDays 2 (some .boolean) :: wsL_law) 8 false (fX1_readDays kn) := mM_W (fun n => mM_of (own := RX1) (ini := false) rfl (by decide +kernel) (by decide +kernel) (all_c (ok_aload_n dX1_readDays_0 rfl) (all_c (ok_stk (s_iconst dX1_readDays_1 (by decide))) (all_c (ok_stk (s_bipush dX1_readDays_2 (by decide))) (all_c (okc_X9_takeNumber (by decide) kw445 dX1_readDays_4) (all_c (ok_if_ne dX1_readDays_7 (by decide)) (all_c (ok_stk (s_iconst dX1_readDays_10 (by decide))) (all_c (ok_zret dX1_readDays_11) (all_c (ok_aload_n dX1_readDays_12 rfl) (all_c (okg_X1_2 kw344 dX1_readDays_13) (all_c (ok_aload_n dX1_readDays_16 rfl) (all_c (okg_X1_4 kw382 dX1_readDays_17) (all_c (ok_aload_n dX1_readDays_20 rfl) (all_c (okg_X9_8 kw446 dX1_readDays_21) (all_c (ok_iast dX1_readDays_24) (all_c (ok_stk (s_iconst dX1_readDays_25 (by decide))) (all_c (ok_zret dX1_readDays_26) all_n)))))))))))))))) n (fun h => by first | rfl | cases h))
theorem dX1_readPlace_0 : decode cX1_readPlace 0 = .ok (.aload_n 1, 1) := by decide +kernel
theorem dX1_readPlace_1 : decode cX1_readPlace 1 = .ok (.iconst 0, 1) := by decide +kernel
theorem dX1_readPlace_2 : decode cX1_readPlace 2 = .ok (.bipush 11, 2) := by decide +kernel
theorem dX1_readPlace_4 : decode cX1_readPlace 4 = .ok (.invokevirtual 87, 3) := by decide +kernel
theorem dX1_readPlace_7 : decode cX1_readPlace 7 = .ok (.ifCond .ne 5, 3) := by decide +kernel
theorem dX1_readPlace_10 : decode cX1_readPlace 10 = .ok (.iconst 0, 1) := by decide +kernel
theorem dX1_readPlace_11 : decode cX1_readPlace 11 = .ok (.ireturn, 1) := by decide +kernel
theorem dX1_readPlace_12 : decode cX1_readPlace 12 = .ok (.aload_n 0, 1) := by decide +kernel
theorem dX1_readPlace_13 : decode cX1_readPlace 13 = .ok (.getfield 18, 3) := by decide +kernel
theorem dX1_readPlace_16 : decode cX1_readPlace 16 = .ok (.aload_n 0, 1) := by decide +kernel
theorem dX1_readPlace_17 : decode cX1_readPlace 17 = .ok (.getfield 33, 3) := by decide +kernel
theorem dX1_readPlace_20 : decode cX1_readPlace 20 = .ok (.aload_n 1, 1) := by decide +kernel
theorem dX1_readPlace_21 : decode cX1_readPlace 21 = .ok (.getfield 91, 3) := by decide +kernel
theorem dX1_readPlace_24 : decode cX1_readPlace 24 = .ok (.iastore, 1) := by decide +kernel
theorem dX1_readPlace_25 : decode cX1_readPlace 25 = .ok (.aload_n 1, 1) := by decide +kernel
theorem dX1_readPlace_26 : decode cX1_readPlace 26 = .ok (.iconst 0, 1) := by decide +kernel
theorem dX1_readPlace_27 : decode cX1_readPlace 27 = .ok (.iconst 2, 1) := by decide +kernel
theorem dX1_readPlace_28 : decode cX1_readPlace 28 = .ok (.invokevirtual 87, 3) := by decide +kernel
theorem dX1_readPlace_31 : decode cX1_readPlace 31 = .ok (.ifCond .ne 5, 3) := by decide +kernel
theorem dX1_readPlace_34 : decode cX1_readPlace 34 = .ok (.iconst 0, 1) := by decide +kernel
theorem dX1_readPlace_35 : decode cX1_readPlace 35 = .ok (.ireturn, 1) := by decide +kernel
theorem dX1_readPlace_36 : decode cX1_readPlace 36 = .ok (.aload_n 0, 1) := by decide +kernel
theorem dX1_readPlace_37 : decode cX1_readPlace 37 = .ok (.getfield 21, 3) := by decide +kernel
theorem dX1_readPlace_40 : decode cX1_readPlace 40 = .ok (.aload_n 0, 1) := by decide +kernel
theorem dX1_readPlace_41 : decode cX1_readPlace 41 = .ok (.getfield 33, 3) := by decide +kernel
theorem dX1_readPlace_44 : decode cX1_readPlace 44 = .ok (.aload_n 1, 1) := by decide +kernel
theorem dX1_readPlace_45 : decode cX1_readPlace 45 = .ok (.getfield 91, 3) := by decide +kernel
theorem dX1_readPlace_48 : decode cX1_readPlace 48 = .ok (.iastore, 1) := by decide +kernel
theorem dX1_readPlace_49 : decode cX1_readPlace 49 = .ok (.iconst 1, 1) := by decide +kernel
theorem dX1_readPlace_50 : decode cX1_readPlace 50 = .ok (.ireturn, 1) := by decide +kernel
def tX1_readPlace (kn : sKn) : List (Nat × sA) := [(0, a_aload 1 1), (1, a_stk (q_int 0) 2), (2, a_stk (q_int 11) 4), (4, a_callV false (fX9_takeNumber kn) 10 3 7), (7, a_if kn b_ne 1 12 10), (10, a_stk (q_int 0) 11), (11, a_zret), (12, a_aload 0 13), (13, a_get 2 2 16), (16, a_aload 0 17), (17, a_get 2 4 20), (20, a_aload 1 21), (21, a_get 10 8 24), (24, a_iast 25), (25, a_aload 1 26), (26, a_stk (q_int 0) 27), (27, a_stk (q_int 2) 28), (28, a_callV false (fX9_takeNumber kn) 10 3 31), (31, a_if kn b_ne 1 36 34), (34, a_stk (q_int 0) 35), (35, a_zret), (36, a_aload 0 37), (37, a_get 2 3 40), (40, a_aload 0 41), (41, a_get 2 4 44), (44, a_aload 1 45), (45, a_get 10 8 48), (48, a_iast 49), (49, a_stk (q_int 1) 50), (50, a_zret)]
def fX1_readPlace (kn : sKn) : List Value → sW → Option sR := fW (tX1_readPlace kn) 2
set_option maxRecDepth 100000 in
set_option maxHeartbeats 4000000 in
theorem mX1_readPlace (kn : sKn) : mM kn yX1_readPlace (Cond.code yX1_readPlace cX1_readPlace 2 (some .boolean) :: wsL_law) 8 false (fX1_readPlace kn) := mM_W (fun n => mM_of (own := RX1) (ini := false) rfl (by decide +kernel) (by decide +kernel) (all_c (ok_aload_n dX1_readPlace_0 rfl) (all_c (ok_stk (s_iconst dX1_readPlace_1 (by decide))) (all_c (ok_stk (s_bipush dX1_readPlace_2 (by decide))) (all_c (okc_X9_takeNumber (by decide) kw445 dX1_readPlace_4) (all_c (ok_if_ne dX1_readPlace_7 (by decide)) (all_c (ok_stk (s_iconst dX1_readPlace_10 (by decide))) (all_c (ok_zret dX1_readPlace_11) (all_c (ok_aload_n dX1_readPlace_12 rfl) (all_c (okg_X1_2 kw344 dX1_readPlace_13) (all_c (ok_aload_n dX1_readPlace_16 rfl) (all_c (okg_X1_4 kw382 dX1_readPlace_17) (all_c (ok_aload_n dX1_readPlace_20 rfl) (all_c (okg_X9_8 kw446 dX1_readPlace_21) (all_c (ok_iast dX1_readPlace_24) (all_c (ok_aload_n dX1_readPlace_25 rfl) (all_c (ok_stk (s_iconst dX1_readPlace_26 (by decide))) (all_c (ok_stk (s_iconst dX1_readPlace_27 (by decide))) (all_c (okc_X9_takeNumber (by decide) kw445 dX1_readPlace_28) (all_c (ok_if_ne dX1_readPlace_31 (by decide)) (all_c (ok_stk (s_iconst dX1_readPlace_34 (by decide))) (all_c (ok_zret dX1_readPlace_35) (all_c (ok_aload_n dX1_readPlace_36 rfl) (all_c (okg_X1_3 kw345 dX1_readPlace_37) (all_c (ok_aload_n dX1_readPlace_40 rfl) (all_c (okg_X1_4 kw382 dX1_readPlace_41) (all_c (ok_aload_n dX1_readPlace_44 rfl) (all_c (okg_X9_8 kw446 dX1_readPlace_45) (all_c (ok_iast dX1_readPlace_48) (all_c (ok_stk (s_iconst dX1_readPlace_49 (by decide))) (all_c (ok_zret dX1_readPlace_50) all_n)))))))))))))))))))))))))))))) n (fun h => by first | rfl | cases h))
theorem dX6_loadNamed_0 : decode cX6_loadNamed 0 = .ok (.iconst 0, 1) := by decide +kernel
theorem dX6_loadNamed_1 : decode cX6_loadNamed 1 = .ok (.istore_n 3, 1) := by decide +kernel
theorem dX6_loadNamed_2 : decode cX6_loadNamed 2 = .ok (.iload_n 3, 1) := by decide +kernel
theorem dX6_loadNamed_3 : decode cX6_loadNamed 3 = .ok (.aload_n 0, 1) := by decide +kernel
theorem dX6_loadNamed_4 : decode cX6_loadNamed 4 = .ok (.getfield 53, 3) := by decide +kernel
theorem dX6_loadNamed_7 : decode cX6_loadNamed 7 = .ok (.if_icmp .ge 22, 3) := by decide +kernel
theorem dX6_loadNamed_10 : decode cX6_loadNamed 10 = .ok (.aload_n 0, 1) := by decide +kernel
theorem dX6_loadNamed_11 : decode cX6_loadNamed 11 = .ok (.getfield 31, 3) := by decide +kernel
theorem dX6_loadNamed_14 : decode cX6_loadNamed 14 = .ok (.iload_n 3, 1) := by decide +kernel
theorem dX6_loadNamed_15 : decode cX6_loadNamed 15 = .ok (.laload, 1) := by decide +kernel
theorem dX6_loadNamed_16 : decode cX6_loadNamed 16 = .ok (.lload_n 1, 1) := by decide +kernel
theorem dX6_loadNamed_17 : decode cX6_loadNamed 17 = .ok (.lcmp, 1) := by decide +kernel
theorem dX6_loadNamed_18 : decode cX6_loadNamed 18 = .ok (.ifCond .ne 5, 3) := by decide +kernel
theorem dX6_loadNamed_21 : decode cX6_loadNamed 21 = .ok (.iload_n 3, 1) := by decide +kernel
theorem dX6_loadNamed_22 : decode cX6_loadNamed 22 = .ok (.ireturn, 1) := by decide +kernel
theorem dX6_loadNamed_23 : decode cX6_loadNamed 23 = .ok (.iinc 3 1, 3) := by decide +kernel
theorem dX6_loadNamed_26 : decode cX6_loadNamed 26 = .ok (.goto (-24), 3) := by decide +kernel
theorem dX6_loadNamed_29 : decode cX6_loadNamed 29 = .ok (.iconst (-1), 1) := by decide +kernel
theorem dX6_loadNamed_30 : decode cX6_loadNamed 30 = .ok (.ireturn, 1) := by decide +kernel
def tX6_loadNamed (kn : sKn) : List (Nat × sA) := [(0, a_stk (q_int 0) 1), (1, a_istore 3 2), (2, a_iload 3 3), (3, a_aload 0 4), (4, a_get 7 3 7), (7, a_icmp kn b_ge 3 29 10), (10, a_aload 0 11), (11, a_get 7 12 14), (14, a_iload 3 15), (15, a_lald 16), (16, a_lload 1 17), (17, a_stk q_lcmp 18), (18, a_if kn b_ne 1 23 21), (21, a_iload 3 22), (22, a_iret), (23, a_iinc 3 1 26), (26, a_goto 2), (29, a_stk (q_int (-1)) 30), (30, a_iret)]
def fX6_loadNamed (kn : sKn) : List Value → sW → Option sR := fW (tX6_loadNamed kn) 4
set_option maxRecDepth 100000 in
set_option maxHeartbeats 4000000 in
theorem mX6_loadNamed (kn : sKn) : mM kn yX6_loadNamed (Cond.code yX6_loadNamed cX6_loadNamed 4 (some .int) :: wsL_law) 1 false (fX6_loadNamed kn) := mM_W (fun n => mM_of (own := RX6) (ini := false) rfl (by decide +kernel) (by decide +kernel) (all_c (ok_stk (s_iconst dX6_loadNamed_0 (by decide))) (all_c (ok_istore_n dX6_loadNamed_1 rfl (by decide)) (all_c (ok_iload_n dX6_loadNamed_2 rfl) (all_c (ok_aload_n dX6_loadNamed_3 rfl) (all_c (okg_X6_3 kw447 dX6_loadNamed_4) (all_c (ok_icmp_ge dX6_loadNamed_7 (by decide)) (all_c (ok_aload_n dX6_loadNamed_10 rfl) (all_c (okg_X6_12 kw448 dX6_loadNamed_11) (all_c (ok_iload_n dX6_loadNamed_14 rfl) (all_c (ok_lald dX6_loadNamed_15) (all_c (ok_lload_n dX6_loadNamed_16 rfl) (all_c (ok_stk (s_lcmp dX6_loadNamed_17)) (all_c (ok_if_ne dX6_loadNamed_18 (by decide)) (all_c (ok_iload_n dX6_loadNamed_21 rfl) (all_c (ok_iret dX6_loadNamed_22) (all_c (ok_iinc dX6_loadNamed_23 (by decide) (by decide)) (all_c (ok_goto dX6_loadNamed_26 (by decide)) (all_c (ok_stk (s_iconst dX6_loadNamed_29 (by decide))) (all_c (ok_iret dX6_loadNamed_30) all_n))))))))))))))))))) n (fun h => by first | rfl | cases h))
theorem dX6_signerNamed_0 : decode cX6_signerNamed 0 = .ok (.iconst 0, 1) := by decide +kernel
theorem dX6_signerNamed_1 : decode cX6_signerNamed 1 = .ok (.istore_n 3, 1) := by decide +kernel
theorem dX6_signerNamed_2 : decode cX6_signerNamed 2 = .ok (.iload_n 3, 1) := by decide +kernel
theorem dX6_signerNamed_3 : decode cX6_signerNamed 3 = .ok (.aload_n 0, 1) := by decide +kernel
theorem dX6_signerNamed_4 : decode cX6_signerNamed 4 = .ok (.getfield 50, 3) := by decide +kernel
theorem dX6_signerNamed_7 : decode cX6_signerNamed 7 = .ok (.if_icmp .ge 22, 3) := by decide +kernel
theorem dX6_signerNamed_10 : decode cX6_signerNamed 10 = .ok (.aload_n 0, 1) := by decide +kernel
theorem dX6_signerNamed_11 : decode cX6_signerNamed 11 = .ok (.getfield 9, 3) := by decide +kernel
theorem dX6_signerNamed_14 : decode cX6_signerNamed 14 = .ok (.iload_n 3, 1) := by decide +kernel
theorem dX6_signerNamed_15 : decode cX6_signerNamed 15 = .ok (.laload, 1) := by decide +kernel
theorem dX6_signerNamed_16 : decode cX6_signerNamed 16 = .ok (.lload_n 1, 1) := by decide +kernel
theorem dX6_signerNamed_17 : decode cX6_signerNamed 17 = .ok (.lcmp, 1) := by decide +kernel
theorem dX6_signerNamed_18 : decode cX6_signerNamed 18 = .ok (.ifCond .ne 5, 3) := by decide +kernel
theorem dX6_signerNamed_21 : decode cX6_signerNamed 21 = .ok (.iload_n 3, 1) := by decide +kernel
theorem dX6_signerNamed_22 : decode cX6_signerNamed 22 = .ok (.ireturn, 1) := by decide +kernel
theorem dX6_signerNamed_23 : decode cX6_signerNamed 23 = .ok (.iinc 3 1, 3) := by decide +kernel
theorem dX6_signerNamed_26 : decode cX6_signerNamed 26 = .ok (.goto (-24), 3) := by decide +kernel
theorem dX6_signerNamed_29 : decode cX6_signerNamed 29 = .ok (.iconst (-1), 1) := by decide +kernel
theorem dX6_signerNamed_30 : decode cX6_signerNamed 30 = .ok (.ireturn, 1) := by decide +kernel
def tX6_signerNamed (kn : sKn) : List (Nat × sA) := [(0, a_stk (q_int 0) 1), (1, a_istore 3 2), (2, a_iload 3 3), (3, a_aload 0 4), (4, a_get 7 2 7), (7, a_icmp kn b_ge 3 29 10), (10, a_aload 0 11), (11, a_get 7 6 14), (14, a_iload 3 15), (15, a_lald 16), (16, a_lload 1 17), (17, a_stk q_lcmp 18), (18, a_if kn b_ne 1 23 21), (21, a_iload 3 22), (22, a_iret), (23, a_iinc 3 1 26), (26, a_goto 2), (29, a_stk (q_int (-1)) 30), (30, a_iret)]
def fX6_signerNamed (kn : sKn) : List Value → sW → Option sR := fW (tX6_signerNamed kn) 4
set_option maxRecDepth 100000 in
set_option maxHeartbeats 4000000 in
theorem mX6_signerNamed (kn : sKn) : mM kn yX6_signerNamed (Cond.code yX6_signerNamed cX6_signerNamed 4 (some .int) :: wsL_law) 1 false (fX6_signerNamed kn) := mM_W (fun n => mM_of (own := RX6) (ini := false) rfl (by decide +kernel) (by decide +kernel) (all_c (ok_stk (s_iconst dX6_signerNamed_0 (by decide))) (all_c (ok_istore_n dX6_signerNamed_1 rfl (by decide)) (all_c (ok_iload_n dX6_signerNamed_2 rfl) (all_c (ok_aload_n dX6_signerNamed_3 rfl) (all_c (okg_X6_2 kw449 dX6_signerNamed_4) (all_c (ok_icmp_ge dX6_signerNamed_7 (by decide)) (all_c (ok_aload_n dX6_signerNamed_10 rfl) (all_c (okg_X6_6 kw450 dX6_signerNamed_11) (all_c (ok_iload_n dX6_signerNamed_14 rfl) (all_c (ok_lald dX6_signerNamed_15) (all_c (ok_lload_n dX6_signerNamed_16 rfl) (all_c (ok_stk (s_lcmp dX6_signerNamed_17)) (all_c (ok_if_ne dX6_signerNamed_18 (by decide)) (all_c (ok_iload_n dX6_signerNamed_21 rfl) (all_c (ok_iret dX6_signerNamed_22) (all_c (ok_iinc dX6_signerNamed_23 (by decide) (by decide)) (all_c (ok_goto dX6_signerNamed_26 (by decide)) (all_c (ok_stk (s_iconst dX6_signerNamed_29 (by decide))) (all_c (ok_iret dX6_signerNamed_30) all_n))))))))))))))))))) n (fun h => by first | rfl | cases h))
theorem dX1_readLine_0 : decode cX1_readLine 0 = .ok (.aload_n 1, 1) := by decide +kernel
theorem dX1_readLine_1 : decode cX1_readLine 1 = .ok (.getfield 37, 3) := by decide +kernel
theorem dX1_readLine_4 : decode cX1_readLine 4 = .ok (.iconst 5, 1) := by decide +kernel
theorem dX1_readLine_5 : decode cX1_readLine 5 = .ok (.if_icmp .ne 7, 3) := by decide +kernel
theorem dX1_readLine_8 : decode cX1_readLine 8 = .ok (.iconst 1, 1) := by decide +kernel
theorem dX1_readLine_9 : decode cX1_readLine 9 = .ok (.goto 4, 3) := by decide +kernel
theorem dX1_readLine_12 : decode cX1_readLine 12 = .ok (.iconst 0, 1) := by decide +kernel
theorem dX1_readLine_13 : decode cX1_readLine 13 = .ok (.istore_n 3, 1) := by decide +kernel
theorem dX1_readLine_14 : decode cX1_readLine 14 = .ok (.iload_n 3, 1) := by decide +kernel
theorem dX1_readLine_15 : decode cX1_readLine 15 = .ok (.ifCond .ne 27, 3) := by decide +kernel
theorem dX1_readLine_18 : decode cX1_readLine 18 = .ok (.aload_n 1, 1) := by decide +kernel
theorem dX1_readLine_19 : decode cX1_readLine 19 = .ok (.bipush 12, 2) := by decide +kernel
theorem dX1_readLine_21 : decode cX1_readLine 21 = .ok (.invokevirtual 52, 3) := by decide +kernel
theorem dX1_readLine_24 : decode cX1_readLine 24 = .ok (.ifCond .ne 18, 3) := by decide +kernel
theorem dX1_readLine_27 : decode cX1_readLine 27 = .ok (.aload_n 1, 1) := by decide +kernel
theorem dX1_readLine_28 : decode cX1_readLine 28 = .ok (.bipush 14, 2) := by decide +kernel
theorem dX1_readLine_30 : decode cX1_readLine 30 = .ok (.invokevirtual 52, 3) := by decide +kernel
theorem dX1_readLine_33 : decode cX1_readLine 33 = .ok (.ifCond .ne 9, 3) := by decide +kernel
theorem dX1_readLine_36 : decode cX1_readLine 36 = .ok (.aload_n 1, 1) := by decide +kernel
theorem dX1_readLine_37 : decode cX1_readLine 37 = .ok (.iconst 1, 1) := by decide +kernel
theorem dX1_readLine_38 : decode cX1_readLine 38 = .ok (.invokevirtual 55, 3) := by decide +kernel
theorem dX1_readLine_41 : decode cX1_readLine 41 = .ok (.ireturn, 1) := by decide +kernel
theorem dX1_readLine_42 : decode cX1_readLine 42 = .ok (.iload_n 3, 1) := by decide +kernel
theorem dX1_readLine_43 : decode cX1_readLine 43 = .ok (.ifCond .eq 14, 3) := by decide +kernel
theorem dX1_readLine_46 : decode cX1_readLine 46 = .ok (.aload_n 2, 1) := by decide +kernel
theorem dX1_readLine_47 : decode cX1_readLine 47 = .ok (.aload_n 1, 1) := by decide +kernel
theorem dX1_readLine_48 : decode cX1_readLine 48 = .ok (.getfield 58, 3) := by decide +kernel
theorem dX1_readLine_51 : decode cX1_readLine 51 = .ok (.invokevirtual 62, 3) := by decide +kernel
theorem dX1_readLine_54 : decode cX1_readLine 54 = .ok (.goto 4, 3) := by decide +kernel
theorem dX1_readLine_57 : decode cX1_readLine 57 = .ok (.iconst (-1), 1) := by decide +kernel
theorem dX1_readLine_58 : decode cX1_readLine 58 = .ok (.istore 4, 2) := by decide +kernel
theorem dX1_readLine_60 : decode cX1_readLine 60 = .ok (.iload_n 3, 1) := by decide +kernel
theorem dX1_readLine_61 : decode cX1_readLine 61 = .ok (.ifCond .eq 14, 3) := by decide +kernel
theorem dX1_readLine_64 : decode cX1_readLine 64 = .ok (.aload_n 2, 1) := by decide +kernel
theorem dX1_readLine_65 : decode cX1_readLine 65 = .ok (.aload_n 1, 1) := by decide +kernel
theorem dX1_readLine_66 : decode cX1_readLine 66 = .ok (.getfield 58, 3) := by decide +kernel
theorem dX1_readLine_69 : decode cX1_readLine 69 = .ok (.invokevirtual 68, 3) := by decide +kernel
theorem dX1_readLine_72 : decode cX1_readLine 72 = .ok (.goto 4, 3) := by decide +kernel
theorem dX1_readLine_75 : decode cX1_readLine 75 = .ok (.iconst (-1), 1) := by decide +kernel
theorem dX1_readLine_76 : decode cX1_readLine 76 = .ok (.istore 5, 2) := by decide +kernel
theorem dX1_readLine_78 : decode cX1_readLine 78 = .ok (.iload_n 3, 1) := by decide +kernel
theorem dX1_readLine_79 : decode cX1_readLine 79 = .ok (.ifCond .eq 21, 3) := by decide +kernel
theorem dX1_readLine_82 : decode cX1_readLine 82 = .ok (.iload 4, 2) := by decide +kernel
theorem dX1_readLine_84 : decode cX1_readLine 84 = .ok (.iconst (-1), 1) := by decide +kernel
theorem dX1_readLine_85 : decode cX1_readLine 85 = .ok (.if_icmp .ne 15, 3) := by decide +kernel
theorem dX1_readLine_88 : decode cX1_readLine 88 = .ok (.iload 5, 2) := by decide +kernel
theorem dX1_readLine_90 : decode cX1_readLine 90 = .ok (.iconst (-1), 1) := by decide +kernel
theorem dX1_readLine_91 : decode cX1_readLine 91 = .ok (.if_icmp .ne 9, 3) := by decide +kernel
theorem dX1_readLine_94 : decode cX1_readLine 94 = .ok (.aload_n 1, 1) := by decide +kernel
theorem dX1_readLine_95 : decode cX1_readLine 95 = .ok (.iconst 3, 1) := by decide +kernel
theorem dX1_readLine_96 : decode cX1_readLine 96 = .ok (.invokevirtual 55, 3) := by decide +kernel
theorem dX1_readLine_99 : decode cX1_readLine 99 = .ok (.ireturn, 1) := by decide +kernel
theorem dX1_readLine_100 : decode cX1_readLine 100 = .ok (.aload_n 0, 1) := by decide +kernel
theorem dX1_readLine_101 : decode cX1_readLine 101 = .ok (.getfield 33, 3) := by decide +kernel
theorem dX1_readLine_104 : decode cX1_readLine 104 = .ok (.bipush 40, 2) := by decide +kernel
theorem dX1_readLine_106 : decode cX1_readLine 106 = .ok (.if_icmp .lt 9, 3) := by decide +kernel
theorem dX1_readLine_109 : decode cX1_readLine 109 = .ok (.aload_n 1, 1) := by decide +kernel
theorem dX1_readLine_110 : decode cX1_readLine 110 = .ok (.iconst 4, 1) := by decide +kernel
theorem dX1_readLine_111 : decode cX1_readLine 111 = .ok (.invokevirtual 55, 3) := by decide +kernel
theorem dX1_readLine_114 : decode cX1_readLine 114 = .ok (.ireturn, 1) := by decide +kernel
theorem dX1_readLine_115 : decode cX1_readLine 115 = .ok (.iload_n 3, 1) := by decide +kernel
theorem dX1_readLine_116 : decode cX1_readLine 116 = .ok (.ifCond .eq 29, 3) := by decide +kernel
theorem dX1_readLine_119 : decode cX1_readLine 119 = .ok (.aload_n 1, 1) := by decide +kernel
theorem dX1_readLine_120 : decode cX1_readLine 120 = .ok (.invokevirtual 71, 3) := by decide +kernel
theorem dX1_readLine_123 : decode cX1_readLine 123 = .ok (.aload_n 0, 1) := by decide +kernel
theorem dX1_readLine_124 : decode cX1_readLine 124 = .ok (.getfield 15, 3) := by decide +kernel
theorem dX1_readLine_127 : decode cX1_readLine 127 = .ok (.aload_n 0, 1) := by decide +kernel
theorem dX1_readLine_128 : decode cX1_readLine 128 = .ok (.getfield 33, 3) := by decide +kernel
theorem dX1_readLine_131 : decode cX1_readLine 131 = .ok (.iload 4, 2) := by decide +kernel
theorem dX1_readLine_133 : decode cX1_readLine 133 = .ok (.iconst (-1), 1) := by decide +kernel
theorem dX1_readLine_134 : decode cX1_readLine 134 = .ok (.if_icmp .eq 8, 3) := by decide +kernel
theorem dX1_readLine_137 : decode cX1_readLine 137 = .ok (.iload 4, 2) := by decide +kernel
theorem dX1_readLine_139 : decode cX1_readLine 139 = .ok (.goto 5, 3) := by decide +kernel
theorem dX1_readLine_142 : decode cX1_readLine 142 = .ok (.iload 5, 2) := by decide +kernel
theorem dX1_readLine_144 : decode cX1_readLine 144 = .ok (.iastore, 1) := by decide +kernel
theorem dX1_readLine_145 : decode cX1_readLine 145 = .ok (.iload_n 3, 1) := by decide +kernel
theorem dX1_readLine_146 : decode cX1_readLine 146 = .ok (.ifCond .eq 34, 3) := by decide +kernel
theorem dX1_readLine_149 : decode cX1_readLine 149 = .ok (.iload 4, 2) := by decide +kernel
theorem dX1_readLine_151 : decode cX1_readLine 151 = .ok (.iconst (-1), 1) := by decide +kernel
theorem dX1_readLine_152 : decode cX1_readLine 152 = .ok (.if_icmp .eq 13, 3) := by decide +kernel
theorem dX1_readLine_155 : decode cX1_readLine 155 = .ok (.aload_n 1, 1) := by decide +kernel
theorem dX1_readLine_156 : decode cX1_readLine 156 = .ok (.invokestatic 74, 3) := by decide +kernel
theorem dX1_readLine_159 : decode cX1_readLine 159 = .ok (.ifCond .eq 15, 3) := by decide +kernel
theorem dX1_readLine_162 : decode cX1_readLine 162 = .ok (.goto 18, 3) := by decide +kernel
theorem dX1_readLine_165 : decode cX1_readLine 165 = .ok (.aload_n 1, 1) := by decide +kernel
theorem dX1_readLine_166 : decode cX1_readLine 166 = .ok (.bipush 13, 2) := by decide +kernel
theorem dX1_readLine_168 : decode cX1_readLine 168 = .ok (.invokevirtual 52, 3) := by decide +kernel
theorem dX1_readLine_171 : decode cX1_readLine 171 = .ok (.ifCond .ne 9, 3) := by decide +kernel
theorem dX1_readLine_174 : decode cX1_readLine 174 = .ok (.aload_n 1, 1) := by decide +kernel
theorem dX1_readLine_175 : decode cX1_readLine 175 = .ok (.iconst 1, 1) := by decide +kernel
theorem dX1_readLine_176 : decode cX1_readLine 176 = .ok (.invokevirtual 55, 3) := by decide +kernel
theorem dX1_readLine_179 : decode cX1_readLine 179 = .ok (.ireturn, 1) := by decide +kernel
theorem dX1_readLine_180 : decode cX1_readLine 180 = .ok (.aload_n 0, 1) := by decide +kernel
theorem dX1_readLine_181 : decode cX1_readLine 181 = .ok (.getfield 11, 3) := by decide +kernel
theorem dX1_readLine_184 : decode cX1_readLine 184 = .ok (.aload_n 0, 1) := by decide +kernel
theorem dX1_readLine_185 : decode cX1_readLine 185 = .ok (.getfield 33, 3) := by decide +kernel
theorem dX1_readLine_188 : decode cX1_readLine 188 = .ok (.aload_n 1, 1) := by decide +kernel
theorem dX1_readLine_189 : decode cX1_readLine 189 = .ok (.getfield 78, 3) := by decide +kernel
theorem dX1_readLine_192 : decode cX1_readLine 192 = .ok (.iastore, 1) := by decide +kernel
theorem dX1_readLine_193 : decode cX1_readLine 193 = .ok (.aload_n 1, 1) := by decide +kernel
theorem dX1_readLine_194 : decode cX1_readLine 194 = .ok (.invokevirtual 71, 3) := by decide +kernel
theorem dX1_readLine_197 : decode cX1_readLine 197 = .ok (.aload_n 0, 1) := by decide +kernel
theorem dX1_readLine_198 : decode cX1_readLine 198 = .ok (.getfield 11, 3) := by decide +kernel
theorem dX1_readLine_201 : decode cX1_readLine 201 = .ok (.aload_n 0, 1) := by decide +kernel
theorem dX1_readLine_202 : decode cX1_readLine 202 = .ok (.getfield 33, 3) := by decide +kernel
theorem dX1_readLine_205 : decode cX1_readLine 205 = .ok (.iaload, 1) := by decide +kernel
theorem dX1_readLine_206 : decode cX1_readLine 206 = .ok (.lookupswitch 52 #[(8, 34), (12, 40), (14, 46)], 34) := by decide +kernel
theorem dX1_readLine_240 : decode cX1_readLine 240 = .ok (.aload_n 0, 1) := by decide +kernel
theorem dX1_readLine_241 : decode cX1_readLine 241 = .ok (.aload_n 1, 1) := by decide +kernel
theorem dX1_readLine_242 : decode cX1_readLine 242 = .ok (.invokevirtual 81, 3) := by decide +kernel
theorem dX1_readLine_245 : decode cX1_readLine 245 = .ok (.ireturn, 1) := by decide +kernel
theorem dX1_readLine_246 : decode cX1_readLine 246 = .ok (.aload_n 0, 1) := by decide +kernel
theorem dX1_readLine_247 : decode cX1_readLine 247 = .ok (.aload_n 1, 1) := by decide +kernel
theorem dX1_readLine_248 : decode cX1_readLine 248 = .ok (.invokevirtual 81, 3) := by decide +kernel
theorem dX1_readLine_251 : decode cX1_readLine 251 = .ok (.ireturn, 1) := by decide +kernel
theorem dX1_readLine_252 : decode cX1_readLine 252 = .ok (.aload_n 0, 1) := by decide +kernel
theorem dX1_readLine_253 : decode cX1_readLine 253 = .ok (.aload_n 1, 1) := by decide +kernel
theorem dX1_readLine_254 : decode cX1_readLine 254 = .ok (.invokevirtual 84, 3) := by decide +kernel
theorem dX1_readLine_257 : decode cX1_readLine 257 = .ok (.ireturn, 1) := by decide +kernel
theorem dX1_readLine_258 : decode cX1_readLine 258 = .ok (.iconst 1, 1) := by decide +kernel
theorem dX1_readLine_259 : decode cX1_readLine 259 = .ok (.ireturn, 1) := by decide +kernel
theorem okc_X6_signerNamed {kn : sKn} {cc : ByteArray} {own : String} {nL : Nat} {D : Nat} {ret : Option FieldType} {ini : Bool} {pc index : Nat} (hD : 1 + 1 ≤ D) (hl : Cond.methodLink own index yX6_signerNamed ∈ wsL_law) (hd : decode cc pc = .ok (.invokevirtual index, 3)) : mOk kn cc own nL wsL_law D ret ini pc (a_callV false (fX6_signerNamed kn) 7 (1 + 1) (pc + 3)) := ok_callV (mX6_signerNamed kn) (good_ws ws_good (fun _ h => h) kw454) hD (by decide) hl kw455 kw456 kw162 ⟨by decide +kernel, by decide +kernel, by decide +kernel⟩ rfl hd
theorem okc_X6_loadNamed {kn : sKn} {cc : ByteArray} {own : String} {nL : Nat} {D : Nat} {ret : Option FieldType} {ini : Bool} {pc index : Nat} (hD : 1 + 1 ≤ D) (hl : Cond.methodLink own index yX6_loadNamed ∈ wsL_law) (hd : decode cc pc = .ok (.invokevirtual index, 3)) : mOk kn cc own nL wsL_law D ret ini pc (a_callV false (fX6_loadNamed kn) 7 (1 + 1) (pc + 3)) := ok_callV (mX6_loadNamed kn) (good_ws ws_good (fun _ h => h) kw458) hD (by decide) hl kw459 kw460 kw162 ⟨by decide +kernel, by decide +kernel, by decide +kernel⟩ rfl hd
theorem okc_X1_isSignersDeed {kn : sKn} {cc : ByteArray} {own : String} {nL : Nat} {D : Nat} {ret : Option FieldType} {ini : Bool} {pc index : Nat} (hD : 2 + 1 ≤ D) (hl : Cond.methodLink own index yX1_isSignersDeed ∈ wsL_law) (hd : decode cc pc = .ok (.invokestatic index, 3)) : mOk kn cc own nL wsL_law D ret ini pc (a_callS false (fX1_isSignersDeed kn) 1 (pc + 3)) := ok_callS (mX1_isSignersDeed kn) (good_ws ws_good (fun _ h => h) kw463) hD (by decide) hl kw464 kw358 ⟨by decide +kernel, by decide +kernel, by decide +kernel⟩ hd
theorem okc_X1_readPlace {kn : sKn} {cc : ByteArray} {own : String} {nL : Nat} {D : Nat} {ret : Option FieldType} {ini : Bool} {pc index : Nat} (hD : 8 + 1 ≤ D) (hl : Cond.methodLink own index yX1_readPlace ∈ wsL_law) (hd : decode cc pc = .ok (.invokevirtual index, 3)) : mOk kn cc own nL wsL_law D ret ini pc (a_callV false (fX1_readPlace kn) 2 (1 + 1) (pc + 3)) := ok_callV (mX1_readPlace kn) (good_ws ws_good (fun _ h => h) kw467) hD (by decide) hl kw468 kw469 kw358 ⟨by decide +kernel, by decide +kernel, by decide +kernel⟩ rfl hd
theorem okc_X1_readDays {kn : sKn} {cc : ByteArray} {own : String} {nL : Nat} {D : Nat} {ret : Option FieldType} {ini : Bool} {pc index : Nat} (hD : 8 + 1 ≤ D) (hl : Cond.methodLink own index yX1_readDays ∈ wsL_law) (hd : decode cc pc = .ok (.invokevirtual index, 3)) : mOk kn cc own nL wsL_law D ret ini pc (a_callV false (fX1_readDays kn) 2 (1 + 1) (pc + 3)) := ok_callV (mX1_readDays kn) (good_ws ws_good (fun _ h => h) kw471) hD (by decide) hl kw472 kw473 kw358 ⟨by decide +kernel, by decide +kernel, by decide +kernel⟩ rfl hd
def tX1_readLine (kn : sKn) : List (Nat × sA) := [(0, a_aload 1 1), (1, a_get 10 4 4), (4, a_stk (q_int 5) 5), (5, a_icmp kn b_ne 1 12 8), (8, a_stk (q_int 1) 9), (9, a_goto 13), (12, a_stk (q_int 0) 13), (13, a_istore 3 14), (14, a_iload 3 15), (15, a_if kn b_ne 1 42 18), (18, a_aload 1 19), (19, a_stk (q_int 12) 21), (21, a_callV false (fX9_isKey kn) 10 2 24), (24, a_if kn b_ne 1 42 27), (27, a_aload 1 28), (28, a_stk (q_int 14) 30), (30, a_callV false (fX9_isKey kn) 10 2 33), (33, a_if kn b_ne 1 42 36), (36, a_aload 1 37), (37, a_stk (q_int 1) 38), (38, a_callV false (fX9_refuse kn) 10 2 41), (41, a_zret), (42, a_iload 3 43), (43, a_if kn b_eq 0 57 46), (46, a_aload 2 47), (47, a_aload 1 48), (48, a_get 10 7 51), (51, a_callV false (fX6_signerNamed kn) 7 2 54), (54, a_goto 58), (57, a_stk (q_int (-1)) 58), (58, a_istore 4 60), (60, a_iload 3 61), (61, a_if kn b_eq 0 75 64), (64, a_aload 2 65), (65, a_aload 1 66), (66, a_get 10 7 69), (69, a_callV false (fX6_loadNamed kn) 7 2 72), (72, a_goto 76), (75, a_stk (q_int (-1)) 76), (76, a_istore 5 78), (78, a_iload 3 79), (79, a_if kn b_eq 0 100 82), (82, a_iload 4 84), (84, a_stk (q_int (-1)) 85), (85, a_icmp kn b_ne 1 100 88), (88, a_iload 5 90), (90, a_stk (q_int (-1)) 91), (91, a_icmp kn b_ne 1 100 94), (94, a_aload 1 95), (95, a_stk (q_int 3) 96), (96, a_callV false (fX9_refuse kn) 10 2 99), (99, a_zret), (100, a_aload 0 101), (101, a_get 2 4 104), (104, a_stk (q_int 40) 106), (106, a_icmp kn b_lt 2 115 109), (109, a_aload 1 110), (110, a_stk (q_int 4) 111), (111, a_callV false (fX9_refuse kn) 10 2 114), (114, a_zret), (115, a_iload 3 116), (116, a_if kn b_eq 0 145 119), (119, a_aload 1 120), (120, a_callV true (fX9_advance kn) 10 1 123), (123, a_aload 0 124), (124, a_get 2 1 127), (127, a_aload 0 128), (128, a_get 2 4 131), (131, a_iload 4 133), (133, a_stk (q_int (-1)) 134), (134, a_icmp kn b_eq 0 142 137), (137, a_iload 4 139), (139, a_goto 144), (142, a_iload 5 144), (144, a_iast 145), (145, a_iload 3 146), (146, a_if kn b_eq 0 180 149), (149, a_iload 4 151), (151, a_stk (q_int (-1)) 152), (152, a_icmp kn b_eq 0 165 155), (155, a_aload 1 156), (156, a_callS false (fX1_isSignersDeed kn) 1 159), (159, a_if kn b_eq 0 174 162), (162, a_goto 180), (165, a_aload 1 166), (166, a_stk (q_int 13) 168), (168, a_callV false (fX9_isKey kn) 10 2 171), (171, a_if kn b_ne 1 180 174), (174, a_aload 1 175), (175, a_stk (q_int 1) 176), (176, a_callV false (fX9_refuse kn) 10 2 179), (179, a_zret), (180, a_aload 0 181), (181, a_get 2 0 184), (184, a_aload 0 185), (185, a_get 2 4 188), (188, a_aload 1 189), (189, a_get 10 6 192), (192, a_iast 193), (193, a_aload 1 194), (194, a_callV true (fX9_advance kn) 10 1 197), (197, a_aload 0 198), (198, a_get 2 0 201), (201, a_aload 0 202), (202, a_get 2 4 205), (205, a_iald 206), (206, a_look [(8, 240), (12, 246), (14, 252)] 258), (240, a_aload 0 241), (241, a_aload 1 242), (242, a_callV false (fX1_readPlace kn) 2 2 245), (245, a_zret), (246, a_aload 0 247), (247, a_aload 1 248), (248, a_callV false (fX1_readPlace kn) 2 2 251), (251, a_zret), (252, a_aload 0 253), (253, a_aload 1 254), (254, a_callV false (fX1_readDays kn) 2 2 257), (257, a_zret), (258, a_stk (q_int 1) 259), (259, a_zret)]
def fX1_readLine (kn : sKn) : List Value → sW → Option sR := fW (tX1_readLine kn) 6
set_option maxRecDepth 100000 in
set_option maxHeartbeats 4000000 in
theorem mX1_readLine (kn : sKn) : mM kn yX1_readLine (Cond.code yX1_readLine cX1_readLine 6 (some .boolean) :: wsL_law) 9 false (fX1_readLine kn) := mM_W (fun n => mM_of (own := RX1) (ini := false) rfl (by decide +kernel) (by decide +kernel) (all_c (ok_aload_n dX1_readLine_0 rfl) (all_c (okg_X9_4 kw451 dX1_readLine_1) (all_c (ok_stk (s_iconst dX1_readLine_4 (by decide))) (all_c (ok_icmp_ne dX1_readLine_5 (by decide)) (all_c (ok_stk (s_iconst dX1_readLine_8 (by decide))) (all_c (ok_goto dX1_readLine_9 (by decide)) (all_c (ok_stk (s_iconst dX1_readLine_12 (by decide))) (all_c (ok_istore_n dX1_readLine_13 rfl (by decide)) (all_c (ok_iload_n dX1_readLine_14 rfl) (all_c (ok_if_ne dX1_readLine_15 (by decide)) (all_c (ok_aload_n dX1_readLine_18 rfl) (all_c (ok_stk (s_bipush dX1_readLine_19 (by decide))) (all_c (okc_X9_isKey (by decide) kw395 dX1_readLine_21) (all_c (ok_if_ne dX1_readLine_24 (by decide)) (all_c (ok_aload_n dX1_readLine_27 rfl) (all_c (ok_stk (s_bipush dX1_readLine_28 (by decide))) (all_c (okc_X9_isKey (by decide) kw395 dX1_readLine_30) (all_c (ok_if_ne dX1_readLine_33 (by decide)) (all_c (ok_aload_n dX1_readLine_36 rfl) (all_c (ok_stk (s_iconst dX1_readLine_37 (by decide))) (all_c (okc_X9_refuse (by decide) kw452 dX1_readLine_38) (all_c (ok_zret dX1_readLine_41) (all_c (ok_iload_n dX1_readLine_42 rfl) (all_c (ok_if_eq dX1_readLine_43 (by decide)) (all_c (ok_aload_n dX1_readLine_46 rfl) (all_c (ok_aload_n dX1_readLine_47 rfl) (all_c (okg_X9_7 kw453 dX1_readLine_48) (all_c (okc_X6_signerNamed (by decide) kw457 dX1_readLine_51) (all_c (ok_goto dX1_readLine_54 (by decide)) (all_c (ok_stk (s_iconst dX1_readLine_57 (by decide))) (all_c (ok_istore dX1_readLine_58 (by decide)) (all_c (ok_iload_n dX1_readLine_60 rfl) (all_c (ok_if_eq dX1_readLine_61 (by decide)) (all_c (ok_aload_n dX1_readLine_64 rfl) (all_c (ok_aload_n dX1_readLine_65 rfl) (all_c (okg_X9_7 kw453 dX1_readLine_66) (all_c (okc_X6_loadNamed (by decide) kw461 dX1_readLine_69) (all_c (ok_goto dX1_readLine_72 (by decide)) (all_c (ok_stk (s_iconst dX1_readLine_75 (by decide))) (all_c (ok_istore dX1_readLine_76 (by decide)) (all_c (ok_iload_n dX1_readLine_78 rfl) (all_c (ok_if_eq dX1_readLine_79 (by decide)) (all_c (ok_iload dX1_readLine_82) (all_c (ok_stk (s_iconst dX1_readLine_84 (by decide))) (all_c (ok_icmp_ne dX1_readLine_85 (by decide)) (all_c (ok_iload dX1_readLine_88) (all_c (ok_stk (s_iconst dX1_readLine_90 (by decide))) (all_c (ok_icmp_ne dX1_readLine_91 (by decide)) (all_c (ok_aload_n dX1_readLine_94 rfl) (all_c (ok_stk (s_iconst dX1_readLine_95 (by decide))) (all_c (okc_X9_refuse (by decide) kw452 dX1_readLine_96) (all_c (ok_zret dX1_readLine_99) (all_c (ok_aload_n dX1_readLine_100 rfl) (all_c (okg_X1_4 kw382 dX1_readLine_101) (all_c (ok_stk (s_bipush dX1_readLine_104 (by decide))) (all_c (ok_icmp_lt dX1_readLine_106 (by decide)) (all_c (ok_aload_n dX1_readLine_109 rfl) (all_c (ok_stk (s_iconst dX1_readLine_110 (by decide))) (all_c (okc_X9_refuse (by decide) kw452 dX1_readLine_111) (all_c (ok_zret dX1_readLine_114) (all_c (ok_iload_n dX1_readLine_115 rfl) (all_c (ok_if_eq dX1_readLine_116 (by decide)) (all_c (ok_aload_n dX1_readLine_119 rfl) (all_c (okc_X9_advance (by decide) kw462 dX1_readLine_120) (all_c (ok_aload_n dX1_readLine_123 rfl) (all_c (okg_X1_1 kw348 dX1_readLine_124) (all_c (ok_aload_n dX1_readLine_127 rfl) (all_c (okg_X1_4 kw382 dX1_readLine_128) (all_c (ok_iload dX1_readLine_131) (all_c (ok_stk (s_iconst dX1_readLine_133 (by decide))) (all_c (ok_icmp_eq dX1_readLine_134 (by decide)) (all_c (ok_iload dX1_readLine_137) (all_c (ok_goto dX1_readLine_139 (by decide)) (all_c (ok_iload dX1_readLine_142) (all_c (ok_iast dX1_readLine_144) (all_c (ok_iload_n dX1_readLine_145 rfl) (all_c (ok_if_eq dX1_readLine_146 (by decide)) (all_c (ok_iload dX1_readLine_149) (all_c (ok_stk (s_iconst dX1_readLine_151 (by decide))) (all_c (ok_icmp_eq dX1_readLine_152 (by decide)) (all_c (ok_aload_n dX1_readLine_155 rfl) (all_c (okc_X1_isSignersDeed (by decide) kw465 dX1_readLine_156) (all_c (ok_if_eq dX1_readLine_159 (by decide)) (all_c (ok_goto dX1_readLine_162 (by decide)) (all_c (ok_aload_n dX1_readLine_165 rfl) (all_c (ok_stk (s_bipush dX1_readLine_166 (by decide))) (all_c (okc_X9_isKey (by decide) kw395 dX1_readLine_168) (all_c (ok_if_ne dX1_readLine_171 (by decide)) (all_c (ok_aload_n dX1_readLine_174 rfl) (all_c (ok_stk (s_iconst dX1_readLine_175 (by decide))) (all_c (okc_X9_refuse (by decide) kw452 dX1_readLine_176) (all_c (ok_zret dX1_readLine_179) (all_c (ok_aload_n dX1_readLine_180 rfl) (all_c (okg_X1_0 kw346 dX1_readLine_181) (all_c (ok_aload_n dX1_readLine_184 rfl) (all_c (okg_X1_4 kw382 dX1_readLine_185) (all_c (ok_aload_n dX1_readLine_188 rfl) (all_c (okg_X9_6 kw466 dX1_readLine_189) (all_c (ok_iast dX1_readLine_192) (all_c (ok_aload_n dX1_readLine_193 rfl) (all_c (okc_X9_advance (by decide) kw462 dX1_readLine_194) (all_c (ok_aload_n dX1_readLine_197 rfl) (all_c (okg_X1_0 kw346 dX1_readLine_198) (all_c (ok_aload_n dX1_readLine_201 rfl) (all_c (okg_X1_4 kw382 dX1_readLine_202) (all_c (ok_iald dX1_readLine_205) (all_c (ok_look dX1_readLine_206 (by decide) (by decide) (by decide)) (all_c (ok_aload_n dX1_readLine_240 rfl) (all_c (ok_aload_n dX1_readLine_241 rfl) (all_c (okc_X1_readPlace (by decide) kw470 dX1_readLine_242) (all_c (ok_zret dX1_readLine_245) (all_c (ok_aload_n dX1_readLine_246 rfl) (all_c (ok_aload_n dX1_readLine_247 rfl) (all_c (okc_X1_readPlace (by decide) kw470 dX1_readLine_248) (all_c (ok_zret dX1_readLine_251) (all_c (ok_aload_n dX1_readLine_252 rfl) (all_c (ok_aload_n dX1_readLine_253 rfl) (all_c (okc_X1_readDays (by decide) kw474 dX1_readLine_254) (all_c (ok_zret dX1_readLine_257) (all_c (ok_stk (s_iconst dX1_readLine_258 (by decide))) (all_c (ok_zret dX1_readLine_259) all_n))))))))))))))))))))))))))))))))))))))))))))))))))))))))))))))))))))))))))))))))))))))))))))))))))))))))))))))))))))))))) n (fun h => by first | rfl | cases h))
theorem dX9_begin_0 : decode cX9_begin 0 = .ok (.aload_n 0, 1) := by decide +kernel
theorem dX9_begin_1 : decode cX9_begin 1 = .ok (.iload_n 1, 1) := by decide +kernel
theorem dX9_begin_2 : decode cX9_begin 2 = .ok (.putfield 19, 3) := by decide +kernel
theorem dX9_begin_5 : decode cX9_begin 5 = .ok (.aload_n 0, 1) := by decide +kernel
theorem dX9_begin_6 : decode cX9_begin 6 = .ok (.iconst 0, 1) := by decide +kernel
theorem dX9_begin_7 : decode cX9_begin 7 = .ok (.putfield 22, 3) := by decide +kernel
theorem dX9_begin_10 : decode cX9_begin 10 = .ok (.aload_n 0, 1) := by decide +kernel
theorem dX9_begin_11 : decode cX9_begin 11 = .ok (.iconst 0, 1) := by decide +kernel
theorem dX9_begin_12 : decode cX9_begin 12 = .ok (.putfield 25, 3) := by decide +kernel
theorem dX9_begin_15 : decode cX9_begin 15 = .ok (.aload_n 0, 1) := by decide +kernel
theorem dX9_begin_16 : decode cX9_begin 16 = .ok (.invokevirtual 28, 3) := by decide +kernel
theorem dX9_begin_19 : decode cX9_begin 19 = .ok (.return_, 1) := by decide +kernel
def tX9_begin (kn : sKn) : List (Nat × sA) := [(0, a_aload 0 1), (1, a_iload 1 2), (2, a_put 10 2 ckI 5), (5, a_aload 0 6), (6, a_stk (q_int 0) 7), (7, a_put 10 3 ckI 10), (10, a_aload 0 11), (11, a_stk (q_int 0) 12), (12, a_put 10 11 ckI 15), (15, a_aload 0 16), (16, a_callV true (fX9_advance kn) 10 1 19), (19, a_vret)]
def fX9_begin (kn : sKn) : List Value → sW → Option sR := fW (tX9_begin kn) 2
set_option maxRecDepth 100000 in
set_option maxHeartbeats 4000000 in
theorem mX9_begin (kn : sKn) : mM kn yX9_begin (Cond.code yX9_begin cX9_begin 2 none :: wsL_law) 7 true (fX9_begin kn) := mM_W (fun n => mM_of (own := RX9) (ini := false) rfl (by decide +kernel) (by decide +kernel) (all_c (ok_aload_n dX9_begin_0 rfl) (all_c (ok_iload_n dX9_begin_1 rfl) (all_c (okp_X9_2 kw407 dX9_begin_2) (all_c (ok_aload_n dX9_begin_5 rfl) (all_c (ok_stk (s_iconst dX9_begin_6 (by decide))) (all_c (okp_X9_3 kw397 dX9_begin_7) (all_c (ok_aload_n dX9_begin_10 rfl) (all_c (ok_stk (s_iconst dX9_begin_11 (by decide))) (all_c (okp_X9_11 kw426 dX9_begin_12) (all_c (ok_aload_n dX9_begin_15 rfl) (all_c (okc_X9_advance (by decide) kw441 dX9_begin_16) (all_c (ok_vret dX9_begin_19) all_n)))))))))))) n (fun h => by first | rfl | cases h))
theorem dX9_takeEnd_0 : decode cX9_takeEnd 0 = .ok (.aload_n 0, 1) := by decide +kernel
theorem dX9_takeEnd_1 : decode cX9_takeEnd 1 = .ok (.getfield 40, 3) := by decide +kernel
theorem dX9_takeEnd_4 : decode cX9_takeEnd 4 = .ok (.ifCond .ne 14, 3) := by decide +kernel
theorem dX9_takeEnd_7 : decode cX9_takeEnd 7 = .ok (.aload_n 0, 1) := by decide +kernel
theorem dX9_takeEnd_8 : decode cX9_takeEnd 8 = .ok (.getfield 15, 3) := by decide +kernel
theorem dX9_takeEnd_11 : decode cX9_takeEnd 11 = .ok (.aload_n 0, 1) := by decide +kernel
theorem dX9_takeEnd_12 : decode cX9_takeEnd 12 = .ok (.getfield 19, 3) := by decide +kernel
theorem dX9_takeEnd_15 : decode cX9_takeEnd 15 = .ok (.if_icmp .le 9, 3) := by decide +kernel
theorem dX9_takeEnd_18 : decode cX9_takeEnd 18 = .ok (.aload_n 0, 1) := by decide +kernel
theorem dX9_takeEnd_19 : decode cX9_takeEnd 19 = .ok (.iconst 1, 1) := by decide +kernel
theorem dX9_takeEnd_20 : decode cX9_takeEnd 20 = .ok (.invokevirtual 85, 3) := by decide +kernel
theorem dX9_takeEnd_23 : decode cX9_takeEnd 23 = .ok (.ireturn, 1) := by decide +kernel
theorem dX9_takeEnd_24 : decode cX9_takeEnd 24 = .ok (.iconst 1, 1) := by decide +kernel
theorem dX9_takeEnd_25 : decode cX9_takeEnd 25 = .ok (.ireturn, 1) := by decide +kernel
def tX9_takeEnd (kn : sKn) : List (Nat × sA) := [(0, a_aload 0 1), (1, a_get 10 4 4), (4, a_if kn b_ne 1 18 7), (7, a_aload 0 8), (8, a_get 10 1 11), (11, a_aload 0 12), (12, a_get 10 2 15), (15, a_icmp kn b_le 5 24 18), (18, a_aload 0 19), (19, a_stk (q_int 1) 20), (20, a_callV false (fX9_refuse kn) 10 2 23), (23, a_zret), (24, a_stk (q_int 1) 25), (25, a_zret)]
def fX9_takeEnd (kn : sKn) : List Value → sW → Option sR := fW (tX9_takeEnd kn) 1
set_option maxRecDepth 100000 in
set_option maxHeartbeats 4000000 in
theorem mX9_takeEnd (kn : sKn) : mM kn yX9_takeEnd (Cond.code yX9_takeEnd cX9_takeEnd 1 (some .boolean) :: wsL_law) 3 false (fX9_takeEnd kn) := mM_W (fun n => mM_of (own := RX9) (ini := false) rfl (by decide +kernel) (by decide +kernel) (all_c (ok_aload_n dX9_takeEnd_0 rfl) (all_c (okg_X9_4 kw389 dX9_takeEnd_1) (all_c (ok_if_ne dX9_takeEnd_4 (by decide)) (all_c (ok_aload_n dX9_takeEnd_7 rfl) (all_c (okg_X9_1 kw406 dX9_takeEnd_8) (all_c (ok_aload_n dX9_takeEnd_11 rfl) (all_c (okg_X9_2 kw407 dX9_takeEnd_12) (all_c (ok_icmp_le dX9_takeEnd_15 (by decide)) (all_c (ok_aload_n dX9_takeEnd_18 rfl) (all_c (ok_stk (s_iconst dX9_takeEnd_19 (by decide))) (all_c (okc_X9_refuse (by decide) kw435 dX9_takeEnd_20) (all_c (ok_zret dX9_takeEnd_23) (all_c (ok_stk (s_iconst dX9_takeEnd_24 (by decide))) (all_c (ok_zret dX9_takeEnd_25) all_n)))))))))))))) n (fun h => by first | rfl | cases h))
theorem dX9_isSignOf_0 : decode cX9_isSignOf 0 = .ok (.aload_n 0, 1) := by decide +kernel
theorem dX9_isSignOf_1 : decode cX9_isSignOf 1 = .ok (.getfield 40, 3) := by decide +kernel
theorem dX9_isSignOf_4 : decode cX9_isSignOf 4 = .ok (.iconst 2, 1) := by decide +kernel
theorem dX9_isSignOf_5 : decode cX9_isSignOf 5 = .ok (.if_icmp .ne 15, 3) := by decide +kernel
theorem dX9_isSignOf_8 : decode cX9_isSignOf 8 = .ok (.aload_n 0, 1) := by decide +kernel
theorem dX9_isSignOf_9 : decode cX9_isSignOf 9 = .ok (.getfield 43, 3) := by decide +kernel
theorem dX9_isSignOf_12 : decode cX9_isSignOf 12 = .ok (.iload_n 1, 1) := by decide +kernel
theorem dX9_isSignOf_13 : decode cX9_isSignOf 13 = .ok (.if_icmp .ne 7, 3) := by decide +kernel
theorem dX9_isSignOf_16 : decode cX9_isSignOf 16 = .ok (.iconst 1, 1) := by decide +kernel
theorem dX9_isSignOf_17 : decode cX9_isSignOf 17 = .ok (.goto 4, 3) := by decide +kernel
theorem dX9_isSignOf_20 : decode cX9_isSignOf 20 = .ok (.iconst 0, 1) := by decide +kernel
theorem dX9_isSignOf_21 : decode cX9_isSignOf 21 = .ok (.ireturn, 1) := by decide +kernel
def tX9_isSignOf (kn : sKn) : List (Nat × sA) := [(0, a_aload 0 1), (1, a_get 10 4 4), (4, a_stk (q_int 2) 5), (5, a_icmp kn b_ne 1 20 8), (8, a_aload 0 9), (9, a_get 10 6 12), (12, a_iload 1 13), (13, a_icmp kn b_ne 1 20 16), (16, a_stk (q_int 1) 17), (17, a_goto 21), (20, a_stk (q_int 0) 21), (21, a_zret)]
def fX9_isSignOf (kn : sKn) : List Value → sW → Option sR := fW (tX9_isSignOf kn) 2
set_option maxRecDepth 100000 in
set_option maxHeartbeats 4000000 in
theorem mX9_isSignOf (kn : sKn) : mM kn yX9_isSignOf (Cond.code yX9_isSignOf cX9_isSignOf 2 (some .boolean) :: wsL_law) 1 false (fX9_isSignOf kn) := mM_W (fun n => mM_of (own := RX9) (ini := false) rfl (by decide +kernel) (by decide +kernel) (all_c (ok_aload_n dX9_isSignOf_0 rfl) (all_c (okg_X9_4 kw389 dX9_isSignOf_1) (all_c (ok_stk (s_iconst dX9_isSignOf_4 (by decide))) (all_c (ok_icmp_ne dX9_isSignOf_5 (by decide)) (all_c (ok_aload_n dX9_isSignOf_8 rfl) (all_c (okg_X9_6 kw390 dX9_isSignOf_9) (all_c (ok_iload_n dX9_isSignOf_12 rfl) (all_c (ok_icmp_ne dX9_isSignOf_13 (by decide)) (all_c (ok_stk (s_iconst dX9_isSignOf_16 (by decide))) (all_c (ok_goto dX9_isSignOf_17 (by decide)) (all_c (ok_stk (s_iconst dX9_isSignOf_20 (by decide))) (all_c (ok_zret dX9_isSignOf_21) all_n)))))))))))) n (fun h => by first | rfl | cases h))
theorem dX9_takeSign_0 : decode cX9_takeSign 0 = .ok (.aload_n 0, 1) := by decide +kernel
theorem dX9_takeSign_1 : decode cX9_takeSign 1 = .ok (.iload_n 1, 1) := by decide +kernel
theorem dX9_takeSign_2 : decode cX9_takeSign 2 = .ok (.invokevirtual 88, 3) := by decide +kernel
theorem dX9_takeSign_5 : decode cX9_takeSign 5 = .ok (.ifCond .ne 9, 3) := by decide +kernel
theorem dX9_takeSign_8 : decode cX9_takeSign 8 = .ok (.aload_n 0, 1) := by decide +kernel
theorem dX9_takeSign_9 : decode cX9_takeSign 9 = .ok (.iconst 1, 1) := by decide +kernel
theorem dX9_takeSign_10 : decode cX9_takeSign 10 = .ok (.invokevirtual 85, 3) := by decide +kernel
theorem dX9_takeSign_13 : decode cX9_takeSign 13 = .ok (.ireturn, 1) := by decide +kernel
theorem dX9_takeSign_14 : decode cX9_takeSign 14 = .ok (.aload_n 0, 1) := by decide +kernel
theorem dX9_takeSign_15 : decode cX9_takeSign 15 = .ok (.invokevirtual 28, 3) := by decide +kernel
theorem dX9_takeSign_18 : decode cX9_takeSign 18 = .ok (.iconst 1, 1) := by decide +kernel
theorem dX9_takeSign_19 : decode cX9_takeSign 19 = .ok (.ireturn, 1) := by decide +kernel
theorem okc_X9_isSignOf {kn : sKn} {cc : ByteArray} {own : String} {nL : Nat} {D : Nat} {ret : Option FieldType} {ini : Bool} {pc index : Nat} (hD : 1 + 1 ≤ D) (hl : Cond.methodLink own index yX9_isSignOf ∈ wsL_law) (hd : decode cc pc = .ok (.invokevirtual index, 3)) : mOk kn cc own nL wsL_law D ret ini pc (a_callV false (fX9_isSignOf kn) 10 (1 + 1) (pc + 3)) := ok_callV (mX9_isSignOf kn) (good_ws ws_good (fun _ h => h) kw475) hD (by decide) hl kw476 kw477 kw392 ⟨by decide +kernel, by decide +kernel, by decide +kernel⟩ rfl hd
def tX9_takeSign (kn : sKn) : List (Nat × sA) := [(0, a_aload 0 1), (1, a_iload 1 2), (2, a_callV false (fX9_isSignOf kn) 10 2 5), (5, a_if kn b_ne 1 14 8), (8, a_aload 0 9), (9, a_stk (q_int 1) 10), (10, a_callV false (fX9_refuse kn) 10 2 13), (13, a_zret), (14, a_aload 0 15), (15, a_callV true (fX9_advance kn) 10 1 18), (18, a_stk (q_int 1) 19), (19, a_zret)]
def fX9_takeSign (kn : sKn) : List Value → sW → Option sR := fW (tX9_takeSign kn) 2
set_option maxRecDepth 100000 in
set_option maxHeartbeats 4000000 in
theorem mX9_takeSign (kn : sKn) : mM kn yX9_takeSign (Cond.code yX9_takeSign cX9_takeSign 2 (some .boolean) :: wsL_law) 7 false (fX9_takeSign kn) := mM_W (fun n => mM_of (own := RX9) (ini := false) rfl (by decide +kernel) (by decide +kernel) (all_c (ok_aload_n dX9_takeSign_0 rfl) (all_c (ok_iload_n dX9_takeSign_1 rfl) (all_c (okc_X9_isSignOf (by decide) kw478 dX9_takeSign_2) (all_c (ok_if_ne dX9_takeSign_5 (by decide)) (all_c (ok_aload_n dX9_takeSign_8 rfl) (all_c (ok_stk (s_iconst dX9_takeSign_9 (by decide))) (all_c (okc_X9_refuse (by decide) kw435 dX9_takeSign_10) (all_c (ok_zret dX9_takeSign_13) (all_c (ok_aload_n dX9_takeSign_14 rfl) (all_c (okc_X9_advance (by decide) kw441 dX9_takeSign_15) (all_c (ok_stk (s_iconst dX9_takeSign_18 (by decide))) (all_c (ok_zret dX9_takeSign_19) all_n)))))))))))) n (fun h => by first | rfl | cases h))
theorem dX1_read_0 : decode cX1_read 0 = .ok (.aload_n 1, 1) := by decide +kernel
theorem dX1_read_1 : decode cX1_read 1 = .ok (.sipush 400, 3) := by decide +kernel
theorem dX1_read_4 : decode cX1_read 4 = .ok (.invokevirtual 27, 3) := by decide +kernel
theorem dX1_read_7 : decode cX1_read 7 = .ok (.aload_n 0, 1) := by decide +kernel
theorem dX1_read_8 : decode cX1_read 8 = .ok (.iconst 0, 1) := by decide +kernel
theorem dX1_read_9 : decode cX1_read 9 = .ok (.putfield 33, 3) := by decide +kernel
theorem dX1_read_12 : decode cX1_read 12 = .ok (.aload_n 0, 1) := by decide +kernel
theorem dX1_read_13 : decode cX1_read 13 = .ok (.getfield 33, 3) := by decide +kernel
theorem dX1_read_16 : decode cX1_read 16 = .ok (.bipush 40, 2) := by decide +kernel
theorem dX1_read_18 : decode cX1_read 18 = .ok (.if_icmp .gt 43, 3) := by decide +kernel
theorem dX1_read_21 : decode cX1_read 21 = .ok (.aload_n 1, 1) := by decide +kernel
theorem dX1_read_22 : decode cX1_read 22 = .ok (.getfield 37, 3) := by decide +kernel
theorem dX1_read_25 : decode cX1_read 25 = .ok (.ifCond .eq 36, 3) := by decide +kernel
theorem dX1_read_28 : decode cX1_read 28 = .ok (.aload_n 0, 1) := by decide +kernel
theorem dX1_read_29 : decode cX1_read 29 = .ok (.aload_n 1, 1) := by decide +kernel
theorem dX1_read_30 : decode cX1_read 30 = .ok (.aload_n 2, 1) := by decide +kernel
theorem dX1_read_31 : decode cX1_read 31 = .ok (.invokevirtual 40, 3) := by decide +kernel
theorem dX1_read_34 : decode cX1_read 34 = .ok (.ifCond .eq 12, 3) := by decide +kernel
theorem dX1_read_37 : decode cX1_read 37 = .ok (.aload_n 1, 1) := by decide +kernel
theorem dX1_read_38 : decode cX1_read 38 = .ok (.bipush 59, 2) := by decide +kernel
theorem dX1_read_40 : decode cX1_read 40 = .ok (.invokevirtual 44, 3) := by decide +kernel
theorem dX1_read_43 : decode cX1_read 43 = .ok (.ifCond .ne 5, 3) := by decide +kernel
theorem dX1_read_46 : decode cX1_read 46 = .ok (.iconst 0, 1) := by decide +kernel
theorem dX1_read_47 : decode cX1_read 47 = .ok (.ireturn, 1) := by decide +kernel
theorem dX1_read_48 : decode cX1_read 48 = .ok (.aload_n 0, 1) := by decide +kernel
theorem dX1_read_49 : decode cX1_read 49 = .ok (.dup, 1) := by decide +kernel
theorem dX1_read_50 : decode cX1_read 50 = .ok (.getfield 33, 3) := by decide +kernel
theorem dX1_read_53 : decode cX1_read 53 = .ok (.iconst 1, 1) := by decide +kernel
theorem dX1_read_54 : decode cX1_read 54 = .ok (.iadd, 1) := by decide +kernel
theorem dX1_read_55 : decode cX1_read 55 = .ok (.putfield 33, 3) := by decide +kernel
theorem dX1_read_58 : decode cX1_read 58 = .ok (.goto (-46), 3) := by decide +kernel
theorem dX1_read_61 : decode cX1_read 61 = .ok (.aload_n 1, 1) := by decide +kernel
theorem dX1_read_62 : decode cX1_read 62 = .ok (.invokevirtual 48, 3) := by decide +kernel
theorem dX1_read_65 : decode cX1_read 65 = .ok (.ireturn, 1) := by decide +kernel
theorem okc_X9_begin {kn : sKn} {cc : ByteArray} {own : String} {nL : Nat} {D : Nat} {ret : Option FieldType} {ini : Bool} {pc index : Nat} (hD : 7 + 1 ≤ D) (hl : Cond.methodLink own index yX9_begin ∈ wsL_law) (hd : decode cc pc = .ok (.invokevirtual index, 3)) : mOk kn cc own nL wsL_law D ret ini pc (a_callV true (fX9_begin kn) 10 (1 + 1) (pc + 3)) := ok_callV (mX9_begin kn) (good_ws ws_good (fun _ h => h) kw479) hD (by decide) hl kw480 kw481 kw392 ⟨by decide +kernel, by decide +kernel, by decide +kernel⟩ rfl hd
theorem okc_X1_readLine {kn : sKn} {cc : ByteArray} {own : String} {nL : Nat} {D : Nat} {ret : Option FieldType} {ini : Bool} {pc index : Nat} (hD : 9 + 1 ≤ D) (hl : Cond.methodLink own index yX1_readLine ∈ wsL_law) (hd : decode cc pc = .ok (.invokevirtual index, 3)) : mOk kn cc own nL wsL_law D ret ini pc (a_callV false (fX1_readLine kn) 2 (2 + 1) (pc + 3)) := ok_callV (mX1_readLine kn) (good_ws ws_good (fun _ h => h) kw483) hD (by decide) hl kw484 kw485 kw358 ⟨by decide +kernel, by decide +kernel, by decide +kernel⟩ rfl hd
theorem okc_X9_takeSign {kn : sKn} {cc : ByteArray} {own : String} {nL : Nat} {D : Nat} {ret : Option FieldType} {ini : Bool} {pc index : Nat} (hD : 7 + 1 ≤ D) (hl : Cond.methodLink own index yX9_takeSign ∈ wsL_law) (hd : decode cc pc = .ok (.invokevirtual index, 3)) : mOk kn cc own nL wsL_law D ret ini pc (a_callV false (fX9_takeSign kn) 10 (1 + 1) (pc + 3)) := ok_callV (mX9_takeSign kn) (good_ws ws_good (fun _ h => h) kw487) hD (by decide) hl kw488 kw489 kw392 ⟨by decide +kernel, by decide +kernel, by decide +kernel⟩ rfl hd
theorem okc_X9_takeEnd {kn : sKn} {cc : ByteArray} {own : String} {nL : Nat} {D : Nat} {ret : Option FieldType} {ini : Bool} {pc index : Nat} (hD : 3 + 1 ≤ D) (hl : Cond.methodLink own index yX9_takeEnd ∈ wsL_law) (hd : decode cc pc = .ok (.invokevirtual index, 3)) : mOk kn cc own nL wsL_law D ret ini pc (a_callV false (fX9_takeEnd kn) 10 (0 + 1) (pc + 3)) := ok_callV (mX9_takeEnd kn) (good_ws ws_good (fun _ h => h) kw491) hD (by decide) hl kw492 kw493 kw392 ⟨by decide +kernel, by decide +kernel, by decide +kernel⟩ rfl hd
def tX1_read (kn : sKn) : List (Nat × sA) := [(0, a_aload 1 1), (1, a_stk (q_int 400) 4), (4, a_callV true (fX9_begin kn) 10 2 7), (7, a_aload 0 8), (8, a_stk (q_int 0) 9), (9, a_put 2 4 ckI 12), (12, a_aload 0 13), (13, a_get 2 4 16), (16, a_stk (q_int 40) 18), (18, a_icmp kn b_gt 4 61 21), (21, a_aload 1 22), (22, a_get 10 4 25), (25, a_if kn b_eq 0 61 28), (28, a_aload 0 29), (29, a_aload 1 30), (30, a_aload 2 31), (31, a_callV false (fX1_readLine kn) 2 3 34), (34, a_if kn b_eq 0 46 37), (37, a_aload 1 38), (38, a_stk (q_int 59) 40), (40, a_callV false (fX9_takeSign kn) 10 2 43), (43, a_if kn b_ne 1 48 46), (46, a_stk (q_int 0) 47), (47, a_zret), (48, a_aload 0 49), (49, a_stk q_dup 50), (50, a_get 2 4 53), (53, a_stk (q_int 1) 54), (54, a_stk q_iadd 55), (55, a_put 2 4 ckI 58), (58, a_goto 12), (61, a_aload 1 62), (62, a_callV false (fX9_takeEnd kn) 10 1 65), (65, a_zret)]
def fX1_read (kn : sKn) : List Value → sW → Option sR := fW (tX1_read kn) 3
set_option maxRecDepth 100000 in
set_option maxHeartbeats 4000000 in
theorem mX1_read (kn : sKn) : mM kn yX1_read (Cond.code yX1_read cX1_read 3 (some .boolean) :: wsL_law) 10 false (fX1_read kn) := mM_W (fun n => mM_of (own := RX1) (ini := false) rfl (by decide +kernel) (by decide +kernel) (all_c (ok_aload_n dX1_read_0 rfl) (all_c (ok_stk (s_sipush dX1_read_1 (by decide))) (all_c (okc_X9_begin (by decide) kw482 dX1_read_4) (all_c (ok_aload_n dX1_read_7 rfl) (all_c (ok_stk (s_iconst dX1_read_8 (by decide))) (all_c (okp_X1_4 kw382 dX1_read_9) (all_c (ok_aload_n dX1_read_12 rfl) (all_c (okg_X1_4 kw382 dX1_read_13) (all_c (ok_stk (s_bipush dX1_read_16 (by decide))) (all_c (ok_icmp_gt dX1_read_18 (by decide)) (all_c (ok_aload_n dX1_read_21 rfl) (all_c (okg_X9_4 kw451 dX1_read_22) (all_c (ok_if_eq dX1_read_25 (by decide)) (all_c (ok_aload_n dX1_read_28 rfl) (all_c (ok_aload_n dX1_read_29 rfl) (all_c (ok_aload_n dX1_read_30 rfl) (all_c (okc_X1_readLine (by decide) kw486 dX1_read_31) (all_c (ok_if_eq dX1_read_34 (by decide)) (all_c (ok_aload_n dX1_read_37 rfl) (all_c (ok_stk (s_bipush dX1_read_38 (by decide))) (all_c (okc_X9_takeSign (by decide) kw490 dX1_read_40) (all_c (ok_if_ne dX1_read_43 (by decide)) (all_c (ok_stk (s_iconst dX1_read_46 (by decide))) (all_c (ok_zret dX1_read_47) (all_c (ok_aload_n dX1_read_48 rfl) (all_c (ok_stk (s_dup dX1_read_49)) (all_c (okg_X1_4 kw382 dX1_read_50) (all_c (ok_stk (s_iconst dX1_read_53 (by decide))) (all_c (ok_stk (s_iadd dX1_read_54)) (all_c (okp_X1_4 kw382 dX1_read_55) (all_c (ok_goto dX1_read_58 (by decide)) (all_c (ok_aload_n dX1_read_61 rfl) (all_c (okc_X9_takeEnd (by decide) kw494 dX1_read_62) (all_c (ok_zret dX1_read_65) all_n)))))))))))))))))))))))))))))))))) n (fun h => by first | rfl | cases h))
theorem dX11_book_0 : decode cX11_book 0 = .ok (.iload_n 1, 1) := by decide +kernel
theorem dX11_book_1 : decode cX11_book 1 = .ok (.ifCond .eq 12, 3) := by decide +kernel
theorem dX11_book_4 : decode cX11_book 4 = .ok (.iload_n 1, 1) := by decide +kernel
theorem dX11_book_5 : decode cX11_book 5 = .ok (.iconst 1, 1) := by decide +kernel
theorem dX11_book_6 : decode cX11_book 6 = .ok (.if_icmp .eq 7, 3) := by decide +kernel
theorem dX11_book_9 : decode cX11_book 9 = .ok (.sipush (-1000), 3) := by decide +kernel
theorem dX11_book_12 : decode cX11_book 12 = .ok (.ireturn, 1) := by decide +kernel
theorem dX11_book_13 : decode cX11_book 13 = .ok (.aload_n 0, 1) := by decide +kernel
theorem dX11_book_14 : decode cX11_book 14 = .ok (.getfield 50, 3) := by decide +kernel
theorem dX11_book_17 : decode cX11_book 17 = .ok (.aload_n 0, 1) := by decide +kernel
theorem dX11_book_18 : decode cX11_book 18 = .ok (.getfield 10, 3) := by decide +kernel
theorem dX11_book_21 : decode cX11_book 21 = .ok (.aload_n 0, 1) := by decide +kernel
theorem dX11_book_22 : decode cX11_book 22 = .ok (.getfield 26, 3) := by decide +kernel
theorem dX11_book_25 : decode cX11_book 25 = .ok (.invokevirtual 379, 3) := by decide +kernel
theorem dX11_book_28 : decode cX11_book 28 = .ok (.istore_n 2, 1) := by decide +kernel
theorem dX11_book_29 : decode cX11_book 29 = .ok (.aload_n 0, 1) := by decide +kernel
theorem dX11_book_30 : decode cX11_book 30 = .ok (.getfield 10, 3) := by decide +kernel
theorem dX11_book_33 : decode cX11_book 33 = .ok (.iconst 0, 1) := by decide +kernel
theorem dX11_book_34 : decode cX11_book 34 = .ok (.putfield 115, 3) := by decide +kernel
theorem dX11_book_37 : decode cX11_book 37 = .ok (.iload_n 2, 1) := by decide +kernel
theorem dX11_book_38 : decode cX11_book 38 = .ok (.ifCond .ne 14, 3) := by decide +kernel
theorem dX11_book_41 : decode cX11_book 41 = .ok (.bipush (-2), 2) := by decide +kernel
theorem dX11_book_43 : decode cX11_book 43 = .ok (.aload_n 0, 1) := by decide +kernel
theorem dX11_book_44 : decode cX11_book 44 = .ok (.getfield 10, 3) := by decide +kernel
theorem dX11_book_47 : decode cX11_book 47 = .ok (.getfield 127, 3) := by decide +kernel
theorem dX11_book_50 : decode cX11_book 50 = .ok (.isub, 1) := by decide +kernel
theorem dX11_book_51 : decode cX11_book 51 = .ok (.ireturn, 1) := by decide +kernel
theorem dX11_book_52 : decode cX11_book 52 = .ok (.aload_n 0, 1) := by decide +kernel
theorem dX11_book_53 : decode cX11_book 53 = .ok (.invokevirtual 237, 3) := by decide +kernel
theorem dX11_book_56 : decode cX11_book 56 = .ok (.aload_n 0, 1) := by decide +kernel
theorem dX11_book_57 : decode cX11_book 57 = .ok (.getfield 50, 3) := by decide +kernel
theorem dX11_book_60 : decode cX11_book 60 = .ok (.aload_n 0, 1) := by decide +kernel
theorem dX11_book_61 : decode cX11_book 61 = .ok (.getfield 26, 3) := by decide +kernel
theorem dX11_book_64 : decode cX11_book 64 = .ok (.aload_n 0, 1) := by decide +kernel
theorem dX11_book_65 : decode cX11_book 65 = .ok (.getfield 33, 3) := by decide +kernel
theorem dX11_book_68 : decode cX11_book 68 = .ok (.aload_n 0, 1) := by decide +kernel
theorem dX11_book_69 : decode cX11_book 69 = .ok (.getfield 57, 3) := by decide +kernel
theorem dX11_book_72 : decode cX11_book 72 = .ok (.invokevirtual 382, 3) := by decide +kernel
theorem dX11_book_75 : decode cX11_book 75 = .ok (.istore_n 3, 1) := by decide +kernel
theorem dX11_book_76 : decode cX11_book 76 = .ok (.iload_n 1, 1) := by decide +kernel
theorem dX11_book_77 : decode cX11_book 77 = .ok (.iconst 1, 1) := by decide +kernel
theorem dX11_book_78 : decode cX11_book 78 = .ok (.if_icmp .ne 10, 3) := by decide +kernel
theorem dX11_book_81 : decode cX11_book 81 = .ok (.aload_n 0, 1) := by decide +kernel
theorem dX11_book_82 : decode cX11_book 82 = .ok (.invokevirtual 263, 3) := by decide +kernel
theorem dX11_book_85 : decode cX11_book 85 = .ok (.goto 19, 3) := by decide +kernel
theorem dX11_book_88 : decode cX11_book 88 = .ok (.aload_n 0, 1) := by decide +kernel
theorem dX11_book_89 : decode cX11_book 89 = .ok (.getfield 33, 3) := by decide +kernel
theorem dX11_book_92 : decode cX11_book 92 = .ok (.aload_n 0, 1) := by decide +kernel
theorem dX11_book_93 : decode cX11_book 93 = .ok (.getfield 96, 3) := by decide +kernel
theorem dX11_book_96 : decode cX11_book 96 = .ok (.aload_n 0, 1) := by decide +kernel
theorem dX11_book_97 : decode cX11_book 97 = .ok (.getfield 270, 3) := by decide +kernel
theorem dX11_book_100 : decode cX11_book 100 = .ok (.aaload, 1) := by decide +kernel
theorem dX11_book_101 : decode cX11_book 101 = .ok (.invokevirtual 273, 3) := by decide +kernel
theorem dX11_book_104 : decode cX11_book 104 = .ok (.iload_n 3, 1) := by decide +kernel
theorem dX11_book_105 : decode cX11_book 105 = .ok (.ireturn, 1) := by decide +kernel
theorem okc_X1_read {kn : sKn} {cc : ByteArray} {own : String} {nL : Nat} {D : Nat} {ret : Option FieldType} {ini : Bool} {pc index : Nat} (hD : 10 + 1 ≤ D) (hl : Cond.methodLink own index yX1_read ∈ wsL_law) (hd : decode cc pc = .ok (.invokevirtual index, 3)) : mOk kn cc own nL wsL_law D ret ini pc (a_callV false (fX1_read kn) 2 (2 + 1) (pc + 3)) := ok_callV (mX1_read kn) (good_ws ws_good (fun _ h => h) kw497) hD (by decide) hl kw498 kw499 kw358 ⟨by decide +kernel, by decide +kernel, by decide +kernel⟩ rfl hd
theorem okc_X11_rememberState {kn : sKn} {cc : ByteArray} {own : String} {nL : Nat} {D : Nat} {ret : Option FieldType} {ini : Bool} {pc index : Nat} (hD : 2 + 1 ≤ D) (hl : Cond.methodLink own index yX11_rememberState ∈ wsL_law) (hd : decode cc pc = .ok (.invokevirtual index, 3)) : mOk kn cc own nL wsL_law D ret ini pc (a_callV true (fX11_rememberState kn) 12 (0 + 1) (pc + 3)) := ok_callV (mX11_rememberState kn) (good_ws ws_good (fun _ h => h) kw503) hD (by decide) hl kw504 kw505 kw303 ⟨by decide +kernel, by decide +kernel, by decide +kernel⟩ rfl hd
theorem okc_X1_live {kn : sKn} {cc : ByteArray} {own : String} {nL : Nat} {D : Nat} {ret : Option FieldType} {ini : Bool} {pc index : Nat} (hD : 6 + 1 ≤ D) (hl : Cond.methodLink own index yX1_live ∈ wsL_law) (hd : decode cc pc = .ok (.invokevirtual index, 3)) : mOk kn cc own nL wsL_law D ret ini pc (a_callV false (fX1_live kn) 2 (3 + 1) (pc + 3)) := ok_callV (mX1_live kn) (good_ws ws_good (fun _ h => h) kw507) hD (by decide) hl kw508 kw509 kw358 ⟨by decide +kernel, by decide +kernel, by decide +kernel⟩ rfl hd
theorem okc_X11_keepRemembered {kn : sKn} {cc : ByteArray} {own : String} {nL : Nat} {D : Nat} {ret : Option FieldType} {ini : Bool} {pc index : Nat} (hD : 1 + 1 ≤ D) (hl : Cond.methodLink own index yX11_keepRemembered ∈ wsL_law) (hd : decode cc pc = .ok (.invokevirtual index, 3)) : mOk kn cc own nL wsL_law D ret ini pc (a_callV true (fX11_keepRemembered kn) 12 (0 + 1) (pc + 3)) := ok_callV (mX11_keepRemembered kn) (good_ws ws_good (fun _ h => h) kw511) hD (by decide) hl kw512 kw513 kw303 ⟨by decide +kernel, by decide +kernel, by decide +kernel⟩ rfl hd
def tX11_book (kn : sKn) : List (Nat × sA) := [(0, a_iload 1 1), (1, a_if kn b_eq 0 13 4), (4, a_iload 1 5), (5, a_stk (q_int 1) 6), (6, a_icmp kn b_eq 0 13 9), (9, a_stk (q_int (-1000)) 12), (12, a_iret), (13, a_aload 0 14), (14, a_get 12 6 17), (17, a_aload 0 18), (18, a_get 12 0 21), (21, a_aload 0 22), (22, a_get 12 2 25), (25, a_callV false (fX1_read kn) 2 3 28), (28, a_istore 2 29), (29, a_aload 0 30), (30, a_get 12 0 33), (33, a_stk (q_int 0) 34), (34, a_put 10 1 ckI 37), (37, a_iload 2 38), (38, a_if kn b_ne 1 52 41), (41, a_stk (q_int (-2)) 43), (43, a_aload 0 44), (44, a_get 12 0 47), (47, a_get 10 12 50), (50, a_stk q_isub 51), (51, a_iret), (52, a_aload 0 53), (53, a_callV true (fX11_rememberState kn) 12 1 56), (56, a_aload 0 57), (57, a_get 12 6 60), (60, a_aload 0 61), (61, a_get 12 2 64), (64, a_aload 0 65), (65, a_get 12 3 68), (68, a_aload 0 69), (69, a_get 12 7 72), (72, a_callV false (fX1_live kn) 2 4 75), (75, a_istore 3 76), (76, a_iload 1 77), (77, a_stk (q_int 1) 78), (78, a_icmp kn b_ne 1 88 81), (81, a_aload 0 82), (82, a_callV true (fX11_keepRemembered kn) 12 1 85), (85, a_goto 104), (88, a_aload 0 89), (89, a_get 12 3 92), (92, a_aload 0 93), (93, a_get 12 13 96), (96, a_aload 0 97), (97, a_get 12 14 100), (100, a_aald 101), (101, a_callV true (fX8_copyOf kn) 9 2 104), (104, a_iload 3 105), (105, a_iret)]
def fX11_book (kn : sKn) : List Value → sW → Option sR := fW (tX11_book kn) 4
set_option maxRecDepth 100000 in
set_option maxHeartbeats 4000000 in
theorem mX11_book (kn : sKn) : mM kn yX11_book (Cond.code yX11_book cX11_book 4 (some .int) :: wsL_law) 11 false (fX11_book kn) := mM_W (fun n => mM_of (own := RX11) (ini := false) rfl (by decide +kernel) (by decide +kernel) (all_c (ok_iload_n dX11_book_0 rfl) (all_c (ok_if_eq dX11_book_1 (by decide)) (all_c (ok_iload_n dX11_book_4 rfl) (all_c (ok_stk (s_iconst dX11_book_5 (by decide))) (all_c (ok_icmp_eq dX11_book_6 (by decide)) (all_c (ok_stk (s_sipush dX11_book_9 (by decide))) (all_c (ok_iret dX11_book_12) (all_c (ok_aload_n dX11_book_13 rfl) (all_c (okg_X11_6 kw495 dX11_book_14) (all_c (ok_aload_n dX11_book_17 rfl) (all_c (okg_X11_0 kw496 dX11_book_18) (all_c (ok_aload_n dX11_book_21 rfl) (all_c (okg_X11_2 kw291 dX11_book_22) (all_c (okc_X1_read (by decide) kw500 dX11_book_25) (all_c (ok_istore_n dX11_book_28 rfl (by decide)) (all_c (ok_aload_n dX11_book_29 rfl) (all_c (okg_X11_0 kw496 dX11_book_30) (all_c (ok_stk (s_iconst dX11_book_33 (by decide))) (all_c (okp_X9_1 kw501 dX11_book_34) (all_c (ok_iload_n dX11_book_37 rfl) (all_c (ok_if_ne dX11_book_38 (by decide)) (all_c (ok_stk (s_bipush dX11_book_41 (by decide))) (all_c (ok_aload_n dX11_book_43 rfl) (all_c (okg_X11_0 kw496 dX11_book_44) (all_c (okg_X9_12 kw502 dX11_book_47) (all_c (ok_stk (s_isub dX11_book_50)) (all_c (ok_iret dX11_book_51) (all_c (ok_aload_n dX11_book_52 rfl) (all_c (okc_X11_rememberState (by decide) kw506 dX11_book_53) (all_c (ok_aload_n dX11_book_56 rfl) (all_c (okg_X11_6 kw495 dX11_book_57) (all_c (ok_aload_n dX11_book_60 rfl) (all_c (okg_X11_2 kw291 dX11_book_61) (all_c (ok_aload_n dX11_book_64 rfl) (all_c (okg_X11_3 kw292 dX11_book_65) (all_c (ok_aload_n dX11_book_68 rfl) (all_c (okg_X11_7 kw290 dX11_book_69) (all_c (okc_X1_live (by decide) kw510 dX11_book_72) (all_c (ok_istore_n dX11_book_75 rfl (by decide)) (all_c (ok_iload_n dX11_book_76 rfl) (all_c (ok_stk (s_iconst dX11_book_77 (by decide))) (all_c (ok_icmp_ne dX11_book_78 (by decide)) (all_c (ok_aload_n dX11_book_81 rfl) (all_c (okc_X11_keepRemembered (by decide) kw514 dX11_book_82) (all_c (ok_goto dX11_book_85 (by decide)) (all_c (ok_aload_n dX11_book_88 rfl) (all_c (okg_X11_3 kw292 dX11_book_89) (all_c (ok_aload_n dX11_book_92 rfl) (all_c (okg_X11_13 kw325 dX11_book_93) (all_c (ok_aload_n dX11_book_96 rfl) (all_c (okg_X11_14 kw322 dX11_book_97) (all_c (ok_aald dX11_book_100) (all_c (okc_X8_copyOf (by decide) kw326 dX11_book_101) (all_c (ok_iload_n dX11_book_104 rfl) (all_c (ok_iret dX11_book_105) all_n))))))))))))))))))))))))))))))))))))))))))))))))))))))) n (fun h => by first | rfl | cases h))
end
