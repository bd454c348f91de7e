noncomputable section
theorem dX9_isSignOf_0 : decode cX9_isSignOf 0 = .ok (.aload_n 0, 1) := by decide +kernel
theorem dX9_isSignOf_1 : decode cX9_isSignOf 1 = .ok (.getfield 40, 3) := by decide +kernel
theorem dX9_isSignOf_4 : decode cX9_isSignOf 4 = .ok (.iconst 2, 1) := by decide +kernel
theorem dX9_isSignOf_5 : decode cX9_isSignOf 5 = .ok (.if_icmp .ne 15, 3) := by decide +kernel
theorem dX9_isSignOf_8 : decode cX9_isSignOf 8 = .ok (.aload_n 0, 1) := by decide +kernel
theorem dX9_isSignOf_9 : decode cX9_isSignOf 9 = .ok (.getfield 43, 3) := by decide +kernel
theorem dX9_isSignOf_12 : decode cX9_isSignOf 12 = .ok (.iload_n 1, 1) := by decide +kernel
theorem dX9_isSignOf_13 : decode cX9_isSignOf 13 = .ok (.if_icmp .ne 7, 3) := by decide +kernel
theorem dX9_isSignOf_16 : decode cX9_isSignOf 16 = .ok (.iconst 1, 1) := by decide +kernel
theorem dX9_isSignOf_17 : decode cX9_isSignOf 17 = .ok (.goto 4, 3) := by decide +kernel
theorem dX9_isSignOf_20 : decode cX9_isSignOf 20 = .ok (.iconst 0, 1) := by decide +kernel
theorem dX9_isSignOf_21 : decode cX9_isSignOf 21 = .ok (.ireturn, 1) := by decide +kernel
def tX9_isSignOf (kn : sKn) : List (Nat × sA) := [(0, a_aload 0 1), (1, a_get 10 4 4), (4, a_stk (q_int 2) 5), (5, a_icmp kn b_ne 1 20 8), (8, a_aload 0 9), (9, a_get 10 6 12), (12, a_iload 1 13), (13, a_icmp kn b_ne 1 20 16), (16, a_stk (q_int 1) 17), (17, a_goto 21), (20, a_stk (q_int 0) 21), (21, a_zret)]
def fX9_isSignOf (kn : sKn) : List Value → sW → Option sR := mF (tX9_isSignOf kn) 2 1000000
set_option maxRecDepth 100000 in
set_option maxHeartbeats 4000000 in
theorem mX9_isSignOf (kn : sKn) : mM kn yX9_isSignOf (Cond.code yX9_isSignOf cX9_isSignOf 2 (some .boolean) :: wsL_law) 1 false (fX9_isSignOf kn) := mM_of (own := RX9) (ini := false) rfl (by decide +kernel) (by decide +kernel) (all_c (ok_aload_n dX9_isSignOf_0 rfl) (all_c (okg_X9_4 kw169 dX9_isSignOf_1) (all_c (ok_stk (s_iconst dX9_isSignOf_4 (by decide))) (all_c (ok_icmp_ne dX9_isSignOf_5 (by decide)) (all_c (ok_aload_n dX9_isSignOf_8 rfl) (all_c (okg_X9_6 kw170 dX9_isSignOf_9) (all_c (ok_iload_n dX9_isSignOf_12 rfl) (all_c (ok_icmp_ne dX9_isSignOf_13 (by decide)) (all_c (ok_stk (s_iconst dX9_isSignOf_16 (by decide))) (all_c (ok_goto dX9_isSignOf_17 (by decide)) (all_c (ok_stk (s_iconst dX9_isSignOf_20 (by decide))) (all_c (ok_zret dX9_isSignOf_21) all_n)))))))))))) 1000000 (fun h => by first | rfl | cases h)
theorem dX7_beginsOne_0 : decode cX7_beginsOne 0 = .ok (.aload_n 0, 1) := by decide +kernel
theorem dX7_beginsOne_1 : decode cX7_beginsOne 1 = .ok (.getfield 99, 3) := by decide +kernel
theorem dX7_beginsOne_4 : decode cX7_beginsOne 4 = .ok (.iconst 4, 1) := by decide +kernel
theorem dX7_beginsOne_5 : decode cX7_beginsOne 5 = .ok (.if_icmp .ne 27, 3) := by decide +kernel
theorem dX7_beginsOne_8 : decode cX7_beginsOne 8 = .ok (.aload_n 0, 1) := by decide +kernel
theorem dX7_beginsOne_9 : decode cX7_beginsOne 9 = .ok (.getfield 102, 3) := by decide +kernel
theorem dX7_beginsOne_12 : decode cX7_beginsOne 12 = .ok (.bipush 17, 2) := by decide +kernel
theorem dX7_beginsOne_14 : decode cX7_beginsOne 14 = .ok (.if_icmp .lt 16, 3) := by decide +kernel
theorem dX7_beginsOne_17 : decode cX7_beginsOne 17 = .ok (.aload_n 0, 1) := by decide +kernel
theorem dX7_beginsOne_18 : decode cX7_beginsOne 18 = .ok (.getfield 102, 3) := by decide +kernel
theorem dX7_beginsOne_21 : decode cX7_beginsOne 21 = .ok (.bipush 26, 2) := by decide +kernel
theorem dX7_beginsOne_23 : decode cX7_beginsOne 23 = .ok (.if_icmp .gt 7, 3) := by decide +kernel
theorem dX7_beginsOne_26 : decode cX7_beginsOne 26 = .ok (.iconst 1, 1) := by decide +kernel
theorem dX7_beginsOne_27 : decode cX7_beginsOne 27 = .ok (.goto 4, 3) := by decide +kernel
theorem dX7_beginsOne_30 : decode cX7_beginsOne 30 = .ok (.iconst 0, 1) := by decide +kernel
theorem dX7_beginsOne_31 : decode cX7_beginsOne 31 = .ok (.ireturn, 1) := by decide +kernel
theorem dX7_beginsOne_32 : decode cX7_beginsOne 32 = .ok (.aload_n 0, 1) := by decide +kernel
theorem dX7_beginsOne_33 : decode cX7_beginsOne 33 = .ok (.bipush 40, 2) := by decide +kernel
theorem dX7_beginsOne_35 : decode cX7_beginsOne 35 = .ok (.invokevirtual 84, 3) := by decide +kernel
theorem dX7_beginsOne_38 : decode cX7_beginsOne 38 = .ok (.ireturn, 1) := by decide +kernel
theorem okc_X9_isSignOf {kn : sKn} {cc : ByteArray} {own : String} {nL : Nat} {D : Nat} {ret : Option FieldType} {ini : Bool} {pc index : Nat} (hD : 1 + 1 ≤ D) (hl : Cond.methodLink own index yX9_isSignOf ∈ wsL_law) (hd : decode cc pc = .ok (.invokevirtual index, 3)) : mOk kn cc own nL wsL_law D ret ini pc (a_callV false (fX9_isSignOf kn) 10 (1 + 1) (pc + 3)) := ok_callV (mX9_isSignOf kn) (good_ws ws_good (fun _ h => h) kw614) hD (by decide) hl kw615 kw616 kw172 ⟨by decide +kernel, by decide +kernel, by decide +kernel⟩ rfl hd
def tX7_beginsOne (kn : sKn) : List (Nat × sA) := [(0, a_aload 0 1), (1, a_get 10 4 4), (4, a_stk (q_int 4) 5), (5, a_icmp kn b_ne 1 32 8), (8, a_aload 0 9), (9, a_get 10 6 12), (12, a_stk (q_int 17) 14), (14, a_icmp kn b_lt 2 30 17), (17, a_aload 0 18), (18, a_get 10 6 21), (21, a_stk (q_int 26) 23), (23, a_icmp kn b_gt 4 30 26), (26, a_stk (q_int 1) 27), (27, a_goto 31), (30, a_stk (q_int 0) 31), (31, a_zret), (32, a_aload 0 33), (33, a_stk (q_int 40) 35), (35, a_callV false (fX9_isSignOf kn) 10 2 38), (38, a_zret)]
def fX7_beginsOne (kn : sKn) : List Value → sW → Option sR := mF (tX7_beginsOne kn) 1 1000000
set_option maxRecDepth 100000 in
set_option maxHeartbeats 4000000 in
theorem mX7_beginsOne (kn : sKn) : mM kn yX7_beginsOne (Cond.code yX7_beginsOne cX7_beginsOne 1 (some .boolean) :: wsL_law) 2 false (fX7_beginsOne kn) := mM_of (own := RX7) (ini := false) rfl (by decide +kernel) (by decide +kernel) (all_c (ok_aload_n dX7_beginsOne_0 rfl) (all_c (okg_X9_4 kw612 dX7_beginsOne_1) (all_c (ok_stk (s_iconst dX7_beginsOne_4 (by decide))) (all_c (ok_icmp_ne dX7_beginsOne_5 (by decide)) (all_c (ok_aload_n dX7_beginsOne_8 rfl) (all_c (okg_X9_6 kw613 dX7_beginsOne_9) (all_c (ok_stk (s_bipush dX7_beginsOne_12 (by decide))) (all_c (ok_icmp_lt dX7_beginsOne_14 (by decide)) (all_c (ok_aload_n dX7_beginsOne_17 rfl) (all_c (okg_X9_6 kw613 dX7_beginsOne_18) (all_c (ok_stk (s_bipush dX7_beginsOne_21 (by decide))) (all_c (ok_icmp_gt dX7_beginsOne_23 (by decide)) (all_c (ok_stk (s_iconst dX7_beginsOne_26 (by decide))) (all_c (ok_goto dX7_beginsOne_27 (by decide)) (all_c (ok_stk (s_iconst dX7_beginsOne_30 (by decide))) (all_c (ok_zret dX7_beginsOne_31) (all_c (ok_aload_n dX7_beginsOne_32 rfl) (all_c (ok_stk (s_bipush dX7_beginsOne_33 (by decide))) (all_c (okc_X9_isSignOf (by decide) kw617 dX7_beginsOne_35) (all_c (ok_zret dX7_beginsOne_38) all_n)))))))))))))))))))) 1000000 (fun h => by first | rfl | cases h)
theorem dX7_readOne_0 : decode cX7_readOne 0 = .ok (.iconst 0, 1) := by decide +kernel
theorem dX7_readOne_1 : decode cX7_readOne 1 = .ok (.istore_n 3, 1) := by decide +kernel
theorem dX7_readOne_2 : decode cX7_readOne 2 = .ok (.iload_n 3, 1) := by decide +kernel
theorem dX7_readOne_3 : decode cX7_readOne 3 = .ok (.bipush 20, 2) := by decide +kernel
theorem dX7_readOne_5 : decode cX7_readOne 5 = .ok (.if_icmp .gt 130, 3) := by decide +kernel
theorem dX7_readOne_8 : decode cX7_readOne 8 = .ok (.aload_n 1, 1) := by decide +kernel
theorem dX7_readOne_9 : decode cX7_readOne 9 = .ok (.invokestatic 78, 3) := by decide +kernel
theorem dX7_readOne_12 : decode cX7_readOne 12 = .ok (.ifCond .ne 9, 3) := by decide +kernel
theorem dX7_readOne_15 : decode cX7_readOne 15 = .ok (.aload_n 1, 1) := by decide +kernel
theorem dX7_readOne_16 : decode cX7_readOne 16 = .ok (.iconst 1, 1) := by decide +kernel
theorem dX7_readOne_17 : decode cX7_readOne 17 = .ok (.invokevirtual 67, 3) := by decide +kernel
theorem dX7_readOne_20 : decode cX7_readOne 20 = .ok (.ireturn, 1) := by decide +kernel
theorem dX7_readOne_21 : decode cX7_readOne 21 = .ok (.aload_n 0, 1) := by decide +kernel
theorem dX7_readOne_22 : decode cX7_readOne 22 = .ok (.getfield 27, 3) := by decide +kernel
theorem dX7_readOne_25 : decode cX7_readOne 25 = .ok (.bipush 20, 2) := by decide +kernel
theorem dX7_readOne_27 : decode cX7_readOne 27 = .ok (.if_icmp .ge 12, 3) := by decide +kernel
theorem dX7_readOne_30 : decode cX7_readOne 30 = .ok (.aload_n 0, 1) := by decide +kernel
theorem dX7_readOne_31 : decode cX7_readOne 31 = .ok (.getfield 46, 3) := by decide +kernel
theorem dX7_readOne_34 : decode cX7_readOne 34 = .ok (.bipush 8, 2) := by decide +kernel
theorem dX7_readOne_36 : decode cX7_readOne 36 = .ok (.if_icmp .lt 9, 3) := by decide +kernel
theorem dX7_readOne_39 : decode cX7_readOne 39 = .ok (.aload_n 1, 1) := by decide +kernel
theorem dX7_readOne_40 : decode cX7_readOne 40 = .ok (.iconst 4, 1) := by decide +kernel
theorem dX7_readOne_41 : decode cX7_readOne 41 = .ok (.invokevirtual 67, 3) := by decide +kernel
theorem dX7_readOne_44 : decode cX7_readOne 44 = .ok (.ireturn, 1) := by decide +kernel
theorem dX7_readOne_45 : decode cX7_readOne 45 = .ok (.aload_n 0, 1) := by decide +kernel
theorem dX7_readOne_46 : decode cX7_readOne 46 = .ok (.dup, 1) := by decide +kernel
theorem dX7_readOne_47 : decode cX7_readOne 47 = .ok (.getfield 27, 3) := by decide +kernel
theorem dX7_readOne_50 : decode cX7_readOne 50 = .ok (.iconst 1, 1) := by decide +kernel
theorem dX7_readOne_51 : decode cX7_readOne 51 = .ok (.iadd, 1) := by decide +kernel
theorem dX7_readOne_52 : decode cX7_readOne 52 = .ok (.putfield 27, 3) := by decide +kernel
theorem dX7_readOne_55 : decode cX7_readOne 55 = .ok (.aload_n 1, 1) := by decide +kernel
theorem dX7_readOne_56 : decode cX7_readOne 56 = .ok (.bipush 17, 2) := by decide +kernel
theorem dX7_readOne_58 : decode cX7_readOne 58 = .ok (.invokevirtual 81, 3) := by decide +kernel
theorem dX7_readOne_61 : decode cX7_readOne 61 = .ok (.istore 4, 2) := by decide +kernel
theorem dX7_readOne_63 : decode cX7_readOne 63 = .ok (.iload 4, 2) := by decide +kernel
theorem dX7_readOne_65 : decode cX7_readOne 65 = .ok (.ifCond .ne 34, 3) := by decide +kernel
theorem dX7_readOne_68 : decode cX7_readOne 68 = .ok (.aload_n 1, 1) := by decide +kernel
theorem dX7_readOne_69 : decode cX7_readOne 69 = .ok (.bipush 40, 2) := by decide +kernel
theorem dX7_readOne_71 : decode cX7_readOne 71 = .ok (.invokevirtual 84, 3) := by decide +kernel
theorem dX7_readOne_74 : decode cX7_readOne 74 = .ok (.ifCond .ne 25, 3) := by decide +kernel
theorem dX7_readOne_77 : decode cX7_readOne 77 = .ok (.aload_n 0, 1) := by decide +kernel
theorem dX7_readOne_78 : decode cX7_readOne 78 = .ok (.aload_n 1, 1) := by decide +kernel
theorem dX7_readOne_79 : decode cX7_readOne 79 = .ok (.aload_n 2, 1) := by decide +kernel
theorem dX7_readOne_80 : decode cX7_readOne 80 = .ok (.invokevirtual 87, 3) := by decide +kernel
theorem dX7_readOne_83 : decode cX7_readOne 83 = .ok (.ifCond .eq 14, 3) := by decide +kernel
theorem dX7_readOne_86 : decode cX7_readOne 86 = .ok (.aload_n 0, 1) := by decide +kernel
theorem dX7_readOne_87 : decode cX7_readOne 87 = .ok (.invokevirtual 90, 3) := by decide +kernel
theorem dX7_readOne_90 : decode cX7_readOne 90 = .ok (.ifCond .eq 7, 3) := by decide +kernel
theorem dX7_readOne_93 : decode cX7_readOne 93 = .ok (.iconst 1, 1) := by decide +kernel
theorem dX7_readOne_94 : decode cX7_readOne 94 = .ok (.goto 4, 3) := by decide +kernel
theorem dX7_readOne_97 : decode cX7_readOne 97 = .ok (.iconst 0, 1) := by decide +kernel
theorem dX7_readOne_98 : decode cX7_readOne 98 = .ok (.ireturn, 1) := by decide +kernel
theorem dX7_readOne_99 : decode cX7_readOne 99 = .ok (.aload_n 0, 1) := by decide +kernel
theorem dX7_readOne_100 : decode cX7_readOne 100 = .ok (.iload 4, 2) := by decide +kernel
theorem dX7_readOne_102 : decode cX7_readOne 102 = .ok (.ifCond .eq 8, 3) := by decide +kernel
theorem dX7_readOne_105 : decode cX7_readOne 105 = .ok (.bipush 17, 2) := by decide +kernel
theorem dX7_readOne_107 : decode cX7_readOne 107 = .ok (.goto 5, 3) := by decide +kernel
theorem dX7_readOne_110 : decode cX7_readOne 110 = .ok (.bipush 100, 2) := by decide +kernel
theorem dX7_readOne_112 : decode cX7_readOne 112 = .ok (.invokevirtual 93, 3) := by decide +kernel
theorem dX7_readOne_115 : decode cX7_readOne 115 = .ok (.aload_n 0, 1) := by decide +kernel
theorem dX7_readOne_116 : decode cX7_readOne 116 = .ok (.dup, 1) := by decide +kernel
theorem dX7_readOne_117 : decode cX7_readOne 117 = .ok (.getfield 46, 3) := by decide +kernel
theorem dX7_readOne_120 : decode cX7_readOne 120 = .ok (.iconst 1, 1) := by decide +kernel
theorem dX7_readOne_121 : decode cX7_readOne 121 = .ok (.iadd, 1) := by decide +kernel
theorem dX7_readOne_122 : decode cX7_readOne 122 = .ok (.putfield 46, 3) := by decide +kernel
theorem dX7_readOne_125 : decode cX7_readOne 125 = .ok (.aload_n 1, 1) := by decide +kernel
theorem dX7_readOne_126 : decode cX7_readOne 126 = .ok (.invokevirtual 96, 3) := by decide +kernel
theorem dX7_readOne_129 : decode cX7_readOne 129 = .ok (.iinc 3 1, 3) := by decide +kernel
theorem dX7_readOne_132 : decode cX7_readOne 132 = .ok (.goto (-130), 3) := by decide +kernel
theorem dX7_readOne_135 : decode cX7_readOne 135 = .ok (.aload_n 1, 1) := by decide +kernel
theorem dX7_readOne_136 : decode cX7_readOne 136 = .ok (.iconst 4, 1) := by decide +kernel
theorem dX7_readOne_137 : decode cX7_readOne 137 = .ok (.invokevirtual 67, 3) := by decide +kernel
theorem dX7_readOne_140 : decode cX7_readOne 140 = .ok (.ireturn, 1) := by decide +kernel
theorem okc_X7_beginsOne {kn : sKn} {cc : ByteArray} {own : String} {nL : Nat} {D : Nat} {ret : Option FieldType} {ini : Bool} {pc index : Nat} (hD : 2 + 1 ≤ D) (hl : Cond.methodLink own index yX7_beginsOne ∈ wsL_law) (hd : decode cc pc = .ok (.invokestatic index, 3)) : mOk kn cc own nL wsL_law D ret ini pc (a_callS false (fX7_beginsOne kn) 1 (pc + 3)) := ok_callS (mX7_beginsOne kn) (good_ws ws_good (fun _ h => h) kw618) hD (by decide) hl kw619 kw312 ⟨by decide +kernel, by decide +kernel, by decide +kernel⟩ hd
theorem okc0_X9_isKey {kn : sKn} {cc : ByteArray} {own : String} {nL : Nat} {D : Nat} {ret : Option FieldType} {ini : Bool} {pc index : Nat} (hD : 0 + 1 ≤ D) (hl : Cond.methodLink own index yX9_isKey ∈ wsL_law) (hd : decode cc pc = .ok (.invokevirtual index, 3)) : mOk kn cc own nL wsL_law D ret ini pc (a_callV false f_none 10 (1 + 1) (pc + 3)) := ok_callV (m_none (D := 0)) (good_ws ws_good (fun _ h => h) kw623) hD (by decide) hl kw624 kw625 kw172 ⟨by decide +kernel, by decide +kernel, by decide +kernel⟩ rfl hd
theorem okc0_X7_readSaying {kn : sKn} {cc : ByteArray} {own : String} {nL : Nat} {D : Nat} {ret : Option FieldType} {ini : Bool} {pc index : Nat} (hD : 0 + 1 ≤ D) (hl : Cond.methodLink own index yX7_readSaying ∈ wsL_law) (hd : decode cc pc = .ok (.invokevirtual index, 3)) : mOk kn cc own nL wsL_law D ret ini pc (a_callV false f_none 8 (2 + 1) (pc + 3)) := ok_callV (m_none (D := 0)) (good_ws ws_good (fun _ h => h) kw627) hD (by decide) hl kw628 kw629 kw312 ⟨by decide +kernel, by decide +kernel, by decide +kernel⟩ rfl hd
theorem okc0_X7_settleNots {kn : sKn} {cc : ByteArray} {own : String} {nL : Nat} {D : Nat} {ret : Option FieldType} {ini : Bool} {pc index : Nat} (hD : 0 + 1 ≤ D) (hl : Cond.methodLink own index yX7_settleNots ∈ wsL_law) (hd : decode cc pc = .ok (.invokevirtual index, 3)) : mOk kn cc own nL wsL_law D ret ini pc (a_callV false f_none 8 (0 + 1) (pc + 3)) := ok_callV (m_none (D := 0)) (good_ws ws_good (fun _ h => h) kw631) hD (by decide) hl kw632 kw633 kw312 ⟨by decide +kernel, by decide +kernel, by decide +kernel⟩ rfl hd
theorem okc0_X7_delay {kn : sKn} {cc : ByteArray} {own : String} {nL : Nat} {D : Nat} {ret : Option FieldType} {ini : Bool} {pc index : Nat} (hD : 0 + 1 ≤ D) (hl : Cond.methodLink own index yX7_delay ∈ wsL_law) (hd : decode cc pc = .ok (.invokevirtual index, 3)) : mOk kn cc own nL wsL_law D ret ini pc (a_callV true f_none 8 (1 + 1) (pc + 3)) := ok_callV (m_none (D := 0)) (good_ws ws_good (fun _ h => h) kw635) hD (by decide) hl kw636 kw637 kw312 ⟨by decide +kernel, by decide +kernel, by decide +kernel⟩ rfl hd
def tX7_readOne (kn : sKn) : List (Nat × sA) := [(0, a_stk (q_int 0) 1), (1, a_istore 3 2), (2, a_iload 3 3), (3, a_stk (q_int 20) 5), (5, a_icmp kn b_gt 4 135 8), (8, a_aload 1 9), (9, a_callS false (fX7_beginsOne kn) 1 12), (12, a_if kn b_ne 1 21 15), (15, a_aload 1 16), (16, a_stk (q_int 1) 17), (17, a_callV false (fX9_refuse kn) 10 2 20), (20, a_zret), (21, a_aload 0 22), (22, a_get 8 8 25), (25, a_stk (q_int 20) 27), (27, a_icmp kn b_ge 3 39 30), (30, a_aload 0 31), (31, a_get 8 6 34), (34, a_stk (q_int 8) 36), (36, a_icmp kn b_lt 2 45 39), (39, a_aload 1 40), (40, a_stk (q_int 4) 41), (41, a_callV false (fX9_refuse kn) 10 2 44), (44, a_zret), (45, a_aload 0 46), (46, a_stk q_dup 47), (47, a_get 8 8 50), (50, a_stk (q_int 1) 51), (51, a_stk q_iadd 52), (52, a_put 8 8 ckI 55), (55, a_aload 1 56), (56, a_stk (q_int 17) 58), (58, a_callV false f_none 10 2 61), (61, a_istore 4 63), (63, a_iload 4 65), (65, a_if kn b_ne 1 99 68), (68, a_aload 1 69), (69, a_stk (q_int 40) 71), (71, a_callV false (fX9_isSignOf kn) 10 2 74), (74, a_if kn b_ne 1 99 77), (77, a_aload 0 78), (78, a_aload 1 79), (79, a_aload 2 80), (80, a_callV false f_none 8 3 83), (83, a_if kn b_eq 0 97 86), (86, a_aload 0 87), (87, a_callV false f_none 8 1 90), (90, a_if kn b_eq 0 97 93), (93, a_stk (q_int 1) 94), (94, a_goto 98), (97, a_stk (q_int 0) 98), (98, a_zret), (99, a_aload 0 100), (100, a_iload 4 102), (102, a_if kn b_eq 0 110 105), (105, a_stk (q_int 17) 107), (107, a_goto 112), (110, a_stk (q_int 100) 112), (112, a_callV true f_none 8 2 115), (115, a_aload 0 116), (116, a_stk q_dup 117), (117, a_get 8 6 120), (120, a_stk (q_int 1) 121), (121, a_stk q_iadd 122), (122, a_put 8 6 ckI 125), (125, a_aload 1 126), (126, a_callV true (fX9_advance kn) 10 1 129), (129, a_iinc 3 1 132), (132, a_goto 2), (135, a_aload 1 136), (136, a_stk (q_int 4) 137), (137, a_callV false (fX9_refuse kn) 10 2 140), (140, a_zret)]
def fX7_readOne (kn : sKn) : List Value → sW → Option sR := mF (tX7_readOne kn) 5 1000000
set_option maxRecDepth 100000 in
set_option maxHeartbeats 4000000 in
theorem mX7_readOne (kn : sKn) : mM kn yX7_readOne (Cond.code yX7_readOne cX7_readOne 5 (some .boolean) :: wsL_law) 3 false (fX7_readOne kn) := mM_of (own := RX7) (ini := false) rfl (by decide +kernel) (by decide +kernel) (all_c (ok_stk (s_iconst dX7_readOne_0 (by decide))) (all_c (ok_istore_n dX7_readOne_1 rfl (by decide)) (all_c (ok_iload_n dX7_readOne_2 rfl) (all_c (ok_stk (s_bipush dX7_readOne_3 (by decide))) (all_c (ok_icmp_gt dX7_readOne_5 (by decide)) (all_c (ok_aload_n dX7_readOne_8 rfl) (all_c (okc_X7_beginsOne (by decide) kw620 dX7_readOne_9) (all_c (ok_if_ne dX7_readOne_12 (by decide)) (all_c (ok_aload_n dX7_readOne_15 rfl) (all_c (ok_stk (s_iconst dX7_readOne_16 (by decide))) (all_c (okc_X9_refuse (by decide) kw621 dX7_readOne_17) (all_c (ok_zret dX7_readOne_20) (all_c (ok_aload_n dX7_readOne_21 rfl) (all_c (okg_X7_8 kw288 dX7_readOne_22) (all_c (ok_stk (s_bipush dX7_readOne_25 (by decide))) (all_c (ok_icmp_ge dX7_readOne_27 (by decide)) (all_c (ok_aload_n dX7_readOne_30 rfl) (all_c (okg_X7_6 kw622 dX7_readOne_31) (all_c (ok_stk (s_bipush dX7_readOne_34 (by decide))) (all_c (ok_icmp_lt dX7_readOne_36 (by decide)) (all_c (ok_aload_n dX7_readOne_39 rfl) (all_c (ok_stk (s_iconst dX7_readOne_40 (by decide))) (all_c (okc_X9_refuse (by decide) kw621 dX7_readOne_41) (all_c (ok_zret dX7_readOne_44) (all_c (ok_aload_n dX7_readOne_45 rfl) (all_c (ok_stk (s_dup dX7_readOne_46)) (all_c (okg_X7_8 kw288 dX7_readOne_47) (all_c (ok_stk (s_iconst dX7_readOne_50 (by decide))) (all_c (ok_stk (s_iadd dX7_readOne_51)) (all_c (okp_X7_8 kw288 dX7_readOne_52) (all_c (ok_aload_n dX7_readOne_55 rfl) (all_c (ok_stk (s_bipush dX7_readOne_56 (by decide))) (all_c (okc0_X9_isKey (by decide) kw626 dX7_readOne_58) (all_c (ok_istore dX7_readOne_61 (by decide)) (all_c (ok_iload dX7_readOne_63) (all_c (ok_if_ne dX7_readOne_65 (by decide)) (all_c (ok_aload_n dX7_readOne_68 rfl) (all_c (ok_stk (s_bipush dX7_readOne_69 (by decide))) (all_c (okc_X9_isSignOf (by decide) kw617 dX7_readOne_71) (all_c (ok_if_ne dX7_readOne_74 (by decide)) (all_c (ok_aload_n dX7_readOne_77 rfl) (all_c (ok_aload_n dX7_readOne_78 rfl) (all_c (ok_aload_n dX7_readOne_79 rfl) (all_c (okc0_X7_readSaying (by decide) kw630 dX7_readOne_80) (all_c (ok_if_eq dX7_readOne_83 (by decide)) (all_c (ok_aload_n dX7_readOne_86 rfl) (all_c (okc0_X7_settleNots (by decide) kw634 dX7_readOne_87) (all_c (ok_if_eq dX7_readOne_90 (by decide)) (all_c (ok_stk (s_iconst dX7_readOne_93 (by decide))) (all_c (ok_goto dX7_readOne_94 (by decide)) (all_c (ok_stk (s_iconst dX7_readOne_97 (by decide))) (all_c (ok_zret dX7_readOne_98) (all_c (ok_aload_n dX7_readOne_99 rfl) (all_c (ok_iload dX7_readOne_100) (all_c (ok_if_eq dX7_readOne_102 (by decide)) (all_c (ok_stk (s_bipush dX7_readOne_105 (by decide))) (all_c (ok_goto dX7_readOne_107 (by decide)) (all_c (ok_stk (s_bipush dX7_readOne_110 (by decide))) (all_c (okc0_X7_delay (by decide) kw638 dX7_readOne_112) (all_c (ok_aload_n dX7_readOne_115 rfl) (all_c (ok_stk (s_dup dX7_readOne_116)) (all_c (okg_X7_6 kw622 dX7_readOne_117) (all_c (ok_stk (s_iconst dX7_readOne_120 (by decide))) (all_c (ok_stk (s_iadd dX7_readOne_121)) (all_c (okp_X7_6 kw622 dX7_readOne_122) (all_c (ok_aload_n dX7_readOne_125 rfl) (all_c (okc_X9_advance (by decide) kw639 dX7_readOne_126) (all_c (ok_iinc dX7_readOne_129 (by decide) (by decide)) (all_c (ok_goto dX7_readOne_132 (by decide)) (all_c (ok_aload_n dX7_readOne_135 rfl) (all_c (ok_stk (s_iconst dX7_readOne_136 (by decide))) (all_c (okc_X9_refuse (by decide) kw621 dX7_readOne_137) (all_c (ok_zret dX7_readOne_140) all_n))))))))))))))))))))))))))))))))))))))))))))))))))))))))))))))))))))))))) 1000000 (fun h => by first | rfl | cases h)
theorem dX7_read_0 : decode cX7_read 0 = .ok (.aload_n 0, 1) := by decide +kernel
theorem dX7_read_1 : decode cX7_read 1 = .ok (.invokevirtual 40, 3) := by decide +kernel
theorem dX7_read_4 : decode cX7_read 4 = .ok (.aload_n 0, 1) := by decide +kernel
theorem dX7_read_5 : decode cX7_read 5 = .ok (.iconst 0, 1) := by decide +kernel
theorem dX7_read_6 : decode cX7_read 6 = .ok (.putfield 43, 3) := by decide +kernel
theorem dX7_read_9 : decode cX7_read 9 = .ok (.aload_n 0, 1) := by decide +kernel
theorem dX7_read_10 : decode cX7_read 10 = .ok (.iconst 0, 1) := by decide +kernel
theorem dX7_read_11 : decode cX7_read 11 = .ok (.putfield 46, 3) := by decide +kernel
theorem dX7_read_14 : decode cX7_read 14 = .ok (.aload_n 1, 1) := by decide +kernel
theorem dX7_read_15 : decode cX7_read 15 = .ok (.sipush 200, 3) := by decide +kernel
theorem dX7_read_18 : decode cX7_read 18 = .ok (.invokevirtual 49, 3) := by decide +kernel
theorem dX7_read_21 : decode cX7_read 21 = .ok (.iconst 1, 1) := by decide +kernel
theorem dX7_read_22 : decode cX7_read 22 = .ok (.istore_n 3, 1) := by decide +kernel
theorem dX7_read_23 : decode cX7_read 23 = .ok (.iconst 0, 1) := by decide +kernel
theorem dX7_read_24 : decode cX7_read 24 = .ok (.istore 4, 2) := by decide +kernel
theorem dX7_read_26 : decode cX7_read 26 = .ok (.iload 4, 2) := by decide +kernel
theorem dX7_read_28 : decode cX7_read 28 = .ok (.sipush 940, 3) := by decide +kernel
theorem dX7_read_31 : decode cX7_read 31 = .ok (.if_icmp .gt 35, 3) := by decide +kernel
theorem dX7_read_34 : decode cX7_read 34 = .ok (.iload_n 3, 1) := by decide +kernel
theorem dX7_read_35 : decode cX7_read 35 = .ok (.ifCond .eq 31, 3) := by decide +kernel
theorem dX7_read_38 : decode cX7_read 38 = .ok (.aload_n 0, 1) := by decide +kernel
theorem dX7_read_39 : decode cX7_read 39 = .ok (.aload_n 1, 1) := by decide +kernel
theorem dX7_read_40 : decode cX7_read 40 = .ok (.aload_n 2, 1) := by decide +kernel
theorem dX7_read_41 : decode cX7_read 41 = .ok (.invokevirtual 55, 3) := by decide +kernel
theorem dX7_read_44 : decode cX7_read 44 = .ok (.ifCond .ne 5, 3) := by decide +kernel
theorem dX7_read_47 : decode cX7_read 47 = .ok (.iconst 0, 1) := by decide +kernel
theorem dX7_read_48 : decode cX7_read 48 = .ok (.ireturn, 1) := by decide +kernel
theorem dX7_read_49 : decode cX7_read 49 = .ok (.aload_n 0, 1) := by decide +kernel
theorem dX7_read_50 : decode cX7_read 50 = .ok (.aload_n 1, 1) := by decide +kernel
theorem dX7_read_51 : decode cX7_read 51 = .ok (.invokevirtual 59, 3) := by decide +kernel
theorem dX7_read_54 : decode cX7_read 54 = .ok (.aload_n 0, 1) := by decide +kernel
theorem dX7_read_55 : decode cX7_read 55 = .ok (.aload_n 1, 1) := by decide +kernel
theorem dX7_read_56 : decode cX7_read 56 = .ok (.invokevirtual 63, 3) := by decide +kernel
theorem dX7_read_59 : decode cX7_read 59 = .ok (.istore_n 3, 1) := by decide +kernel
theorem dX7_read_60 : decode cX7_read 60 = .ok (.iinc 4 1, 3) := by decide +kernel
theorem dX7_read_63 : decode cX7_read 63 = .ok (.goto (-37), 3) := by decide +kernel
theorem dX7_read_66 : decode cX7_read 66 = .ok (.aload_n 0, 1) := by decide +kernel
theorem dX7_read_67 : decode cX7_read 67 = .ok (.getfield 46, 3) := by decide +kernel
theorem dX7_read_70 : decode cX7_read 70 = .ok (.ifCond .le 9, 3) := by decide +kernel
theorem dX7_read_73 : decode cX7_read 73 = .ok (.aload_n 1, 1) := by decide +kernel
theorem dX7_read_74 : decode cX7_read 74 = .ok (.iconst 1, 1) := by decide +kernel
theorem dX7_read_75 : decode cX7_read 75 = .ok (.invokevirtual 67, 3) := by decide +kernel
theorem dX7_read_78 : decode cX7_read 78 = .ok (.ireturn, 1) := by decide +kernel
theorem dX7_read_79 : decode cX7_read 79 = .ok (.aload_n 0, 1) := by decide +kernel
theorem dX7_read_80 : decode cX7_read 80 = .ok (.iconst (-1), 1) := by decide +kernel
theorem dX7_read_81 : decode cX7_read 81 = .ok (.invokevirtual 71, 3) := by decide +kernel
theorem dX7_read_84 : decode cX7_read 84 = .ok (.aload_n 1, 1) := by decide +kernel
theorem dX7_read_85 : decode cX7_read 85 = .ok (.invokevirtual 74, 3) := by decide +kernel
theorem dX7_read_88 : decode cX7_read 88 = .ok (.ireturn, 1) := by decide +kernel
theorem okc_X7_readOne {kn : sKn} {cc : ByteArray} {own : String} {nL : Nat} {D : Nat} {ret : Option FieldType} {ini : Bool} {pc index : Nat} (hD : 3 + 1 ≤ D) (hl : Cond.methodLink own index yX7_readOne ∈ wsL_law) (hd : decode cc pc = .ok (.invokevirtual index, 3)) : mOk kn cc own nL wsL_law D ret ini pc (a_callV false (fX7_readOne kn) 8 (2 + 1) (pc + 3)) := ok_callV (mX7_readOne kn) (good_ws ws_good (fun _ h => h) kw643) hD (by decide) hl kw644 kw645 kw312 ⟨by decide +kernel, by decide +kernel, by decide +kernel⟩ rfl hd
theorem okc0_X7_closeBrackets {kn : sKn} {cc : ByteArray} {own : String} {nL : Nat} {D : Nat} {ret : Option FieldType} {ini : Bool} {pc index : Nat} (hD : 0 + 1 ≤ D) (hl : Cond.methodLink own index yX7_closeBrackets ∈ wsL_law) (hd : decode cc pc = .ok (.invokevirtual index, 3)) : mOk kn cc own nL wsL_law D ret ini pc (a_callV true f_none 8 (1 + 1) (pc + 3)) := ok_callV (m_none (D := 0)) (good_ws ws_good (fun _ h => h) kw647) hD (by decide) hl kw648 kw649 kw312 ⟨by decide +kernel, by decide +kernel, by decide +kernel⟩ rfl hd
theorem okc0_X7_readJoin {kn : sKn} {cc : ByteArray} {own : String} {nL : Nat} {D : Nat} {ret : Option FieldType} {ini : Bool} {pc index : Nat} (hD : 0 + 1 ≤ D) (hl : Cond.methodLink own index yX7_readJoin ∈ wsL_law) (hd : decode cc pc = .ok (.invokevirtual index, 3)) : mOk kn cc own nL wsL_law D ret ini pc (a_callV false f_none 8 (1 + 1) (pc + 3)) := ok_callV (m_none (D := 0)) (good_ws ws_good (fun _ h => h) kw651) hD (by decide) hl kw652 kw653 kw312 ⟨by decide +kernel, by decide +kernel, by decide +kernel⟩ rfl hd
theorem okc0_X7_settle {kn : sKn} {cc : ByteArray} {own : String} {nL : Nat} {D : Nat} {ret : Option FieldType} {ini : Bool} {pc index : Nat} (hD : 0 + 1 ≤ D) (hl : Cond.methodLink own index yX7_settle ∈ wsL_law) (hd : decode cc pc = .ok (.invokevirtual index, 3)) : mOk kn cc own nL wsL_law D ret ini pc (a_callV true f_none 8 (1 + 1) (pc + 3)) := ok_callV (m_none (D := 0)) (good_ws ws_good (fun _ h => h) kw655) hD (by decide) hl kw656 kw657 kw312 ⟨by decide +kernel, by decide +kernel, by decide +kernel⟩ rfl hd
def tX7_read (kn : sKn) : List (Nat × sA) := [(0, a_aload 0 1), (1, a_callV true (fX7_forget kn) 8 1 4), (4, a_aload 0 5), (5, a_stk (q_int 0) 6), (6, a_put 8 5 ckI 9), (9, a_aload 0 10), (10, a_stk (q_int 0) 11), (11, a_put 8 6 ckI 14), (14, a_aload 1 15), (15, a_stk (q_int 200) 18), (18, a_callV true (fX9_begin kn) 10 2 21), (21, a_stk (q_int 1) 22), (22, a_istore 3 23), (23, a_stk (q_int 0) 24), (24, a_istore 4 26), (26, a_iload 4 28), (28, a_stk (q_int 940) 31), (31, a_icmp kn b_gt 4 66 34), (34, a_iload 3 35), (35, a_if kn b_eq 0 66 38), (38, a_aload 0 39), (39, a_aload 1 40), (40, a_aload 2 41), (41, a_callV false (fX7_readOne kn) 8 3 44), (44, a_if kn b_ne 1 49 47), (47, a_stk (q_int 0) 48), (48, a_zret), (49, a_aload 0 50), (50, a_aload 1 51), (51, a_callV true f_none 8 2 54), (54, a_aload 0 55), (55, a_aload 1 56), (56, a_callV false f_none 8 2 59), (59, a_istore 3 60), (60, a_iinc 4 1 63), (63, a_goto 26), (66, a_aload 0 67), (67, a_get 8 6 70), (70, a_if kn b_le 5 79 73), (73, a_aload 1 74), (74, a_stk (q_int 1) 75), (75, a_callV false (fX9_refuse kn) 10 2 78), (78, a_zret), (79, a_aload 0 80), (80, a_stk (q_int (-1)) 81), (81, a_callV true f_none 8 2 84), (84, a_aload 1 85), (85, a_callV false (fX9_takeEnd kn) 10 1 88), (88, a_zret)]
def fX7_read (kn : sKn) : List Value → sW → Option sR := mF (tX7_read kn) 5 1000000
set_option maxRecDepth 100000 in
set_option maxHeartbeats 4000000 in
theorem mX7_read (kn : sKn) : mM kn yX7_read (Cond.code yX7_read cX7_read 5 (some .boolean) :: wsL_law) 4 false (fX7_read kn) := mM_of (own := RX7) (ini := false) rfl (by decide +kernel) (by decide +kernel) (all_c (ok_aload_n dX7_read_0 rfl) (all_c (okc_X7_forget (by decide) kw640 dX7_read_1) (all_c (ok_aload_n dX7_read_4 rfl) (all_c (ok_stk (s_iconst dX7_read_5 (by decide))) (all_c (okp_X7_5 kw641 dX7_read_6) (all_c (ok_aload_n dX7_read_9 rfl) (all_c (ok_stk (s_iconst dX7_read_10 (by decide))) (all_c (okp_X7_6 kw622 dX7_read_11) (all_c (ok_aload_n dX7_read_14 rfl) (all_c (ok_stk (s_sipush dX7_read_15 (by decide))) (all_c (okc_X9_begin (by decide) kw642 dX7_read_18) (all_c (ok_stk (s_iconst dX7_read_21 (by decide))) (all_c (ok_istore_n dX7_read_22 rfl (by decide)) (all_c (ok_stk (s_iconst dX7_read_23 (by decide))) (all_c (ok_istore dX7_read_24 (by decide)) (all_c (ok_iload dX7_read_26) (all_c (ok_stk (s_sipush dX7_read_28 (by decide))) (all_c (ok_icmp_gt dX7_read_31 (by decide)) (all_c (ok_iload_n dX7_read_34 rfl) (all_c (ok_if_eq dX7_read_35 (by decide)) (all_c (ok_aload_n dX7_read_38 rfl) (all_c (ok_aload_n dX7_read_39 rfl) (all_c (ok_aload_n dX7_read_40 rfl) (all_c (okc_X7_readOne (by decide) kw646 dX7_read_41) (all_c (ok_if_ne dX7_read_44 (by decide)) (all_c (ok_stk (s_iconst dX7_read_47 (by decide))) (all_c (ok_zret dX7_read_48) (all_c (ok_aload_n dX7_read_49 rfl) (all_c (ok_aload_n dX7_read_50 rfl) (all_c (okc0_X7_closeBrackets (by decide) kw650 dX7_read_51) (all_c (ok_aload_n dX7_read_54 rfl) (all_c (ok_aload_n dX7_read_55 rfl) (all_c (okc0_X7_readJoin (by decide) kw654 dX7_read_56) (all_c (ok_istore_n dX7_read_59 rfl (by decide)) (all_c (ok_iinc dX7_read_60 (by decide) (by decide)) (all_c (ok_goto dX7_read_63 (by decide)) (all_c (ok_aload_n dX7_read_66 rfl) (all_c (okg_X7_6 kw622 dX7_read_67) (all_c (ok_if_le dX7_read_70 (by decide)) (all_c (ok_aload_n dX7_read_73 rfl) (all_c (ok_stk (s_iconst dX7_read_74 (by decide))) (all_c (okc_X9_refuse (by decide) kw621 dX7_read_75) (all_c (ok_zret dX7_read_78) (all_c (ok_aload_n dX7_read_79 rfl) (all_c (ok_stk (s_iconst dX7_read_80 (by decide))) (all_c (okc0_X7_settle (by decide) kw658 dX7_read_81) (all_c (ok_aload_n dX7_read_84 rfl) (all_c (okc_X9_takeEnd (by decide) kw659 dX7_read_85) (all_c (ok_zret dX7_read_88) all_n))))))))))))))))))))))))))))))))))))))))))))))))) 1000000 (fun h => by first | rfl | cases h)
theorem dX11_sentence_0 : decode cX11_sentence 0 = .ok (.aload_n 0, 1) := by decide +kernel
theorem dX11_sentence_1 : decode cX11_sentence 1 = .ok (.getfield 44, 3) := by decide +kernel
theorem dX11_sentence_4 : decode cX11_sentence 4 = .ok (.aload_n 0, 1) := by decide +kernel
theorem dX11_sentence_5 : decode cX11_sentence 5 = .ok (.getfield 10, 3) := by decide +kernel
theorem dX11_sentence_8 : decode cX11_sentence 8 = .ok (.aload_n 0, 1) := by decide +kernel
theorem dX11_sentence_9 : decode cX11_sentence 9 = .ok (.getfield 26, 3) := by decide +kernel
theorem dX11_sentence_12 : decode cX11_sentence 12 = .ok (.invokevirtual 388, 3) := by decide +kernel
theorem dX11_sentence_15 : decode cX11_sentence 15 = .ok (.istore_n 1, 1) := by decide +kernel
theorem dX11_sentence_16 : decode cX11_sentence 16 = .ok (.aload_n 0, 1) := by decide +kernel
theorem dX11_sentence_17 : decode cX11_sentence 17 = .ok (.getfield 10, 3) := by decide +kernel
theorem dX11_sentence_20 : decode cX11_sentence 20 = .ok (.iconst 0, 1) := by decide +kernel
theorem dX11_sentence_21 : decode cX11_sentence 21 = .ok (.putfield 115, 3) := by decide +kernel
theorem dX11_sentence_24 : decode cX11_sentence 24 = .ok (.iload_n 1, 1) := by decide +kernel
theorem dX11_sentence_25 : decode cX11_sentence 25 = .ok (.ifCond .ne 13, 3) := by decide +kernel
theorem dX11_sentence_28 : decode cX11_sentence 28 = .ok (.iconst (-1), 1) := by decide +kernel
theorem dX11_sentence_29 : decode cX11_sentence 29 = .ok (.aload_n 0, 1) := by decide +kernel
theorem dX11_sentence_30 : decode cX11_sentence 30 = .ok (.getfield 10, 3) := by decide +kernel
theorem dX11_sentence_33 : decode cX11_sentence 33 = .ok (.getfield 127, 3) := by decide +kernel
theorem dX11_sentence_36 : decode cX11_sentence 36 = .ok (.isub, 1) := by decide +kernel
theorem dX11_sentence_37 : decode cX11_sentence 37 = .ok (.ireturn, 1) := by decide +kernel
theorem dX11_sentence_38 : decode cX11_sentence 38 = .ok (.aload_n 0, 1) := by decide +kernel
theorem dX11_sentence_39 : decode cX11_sentence 39 = .ok (.getfield 40, 3) := by decide +kernel
theorem dX11_sentence_42 : decode cX11_sentence 42 = .ok (.astore_n 2, 1) := by decide +kernel
theorem dX11_sentence_43 : decode cX11_sentence 43 = .ok (.aload_n 0, 1) := by decide +kernel
theorem dX11_sentence_44 : decode cX11_sentence 44 = .ok (.aload_n 0, 1) := by decide +kernel
theorem dX11_sentence_45 : decode cX11_sentence 45 = .ok (.getfield 44, 3) := by decide +kernel
theorem dX11_sentence_48 : decode cX11_sentence 48 = .ok (.putfield 40, 3) := by decide +kernel
theorem dX11_sentence_51 : decode cX11_sentence 51 = .ok (.aload_n 0, 1) := by decide +kernel
theorem dX11_sentence_52 : decode cX11_sentence 52 = .ok (.aload_n 2, 1) := by decide +kernel
theorem dX11_sentence_53 : decode cX11_sentence 53 = .ok (.putfield 44, 3) := by decide +kernel
theorem dX11_sentence_56 : decode cX11_sentence 56 = .ok (.aload_n 0, 1) := by decide +kernel
theorem dX11_sentence_57 : decode cX11_sentence 57 = .ok (.getfield 40, 3) := by decide +kernel
theorem dX11_sentence_60 : decode cX11_sentence 60 = .ok (.getfield 389, 3) := by decide +kernel
theorem dX11_sentence_63 : decode cX11_sentence 63 = .ok (.ireturn, 1) := by decide +kernel
theorem okc_X7_read {kn : sKn} {cc : ByteArray} {own : String} {nL : Nat} {D : Nat} {ret : Option FieldType} {ini : Bool} {pc index : Nat} (hD : 4 + 1 ≤ D) (hl : Cond.methodLink own index yX7_read ∈ wsL_law) (hd : decode cc pc = .ok (.invokevirtual index, 3)) : mOk kn cc own nL wsL_law D ret ini pc (a_callV false (fX7_read kn) 8 (2 + 1) (pc + 3)) := ok_callV (mX7_read kn) (good_ws ws_good (fun _ h => h) kw660) hD (by decide) hl kw661 kw662 kw312 ⟨by decide +kernel, by decide +kernel, by decide +kernel⟩ rfl hd
def tX11_sentence (kn : sKn) : List (Nat × sA) := [(0, a_aload 0 1), (1, a_get 12 5 4), (4, a_aload 0 5), (5, a_get 12 0 8), (8, a_aload 0 9), (9, a_get 12 2 12), (12, a_callV false (fX7_read kn) 8 3 15), (15, a_istore 1 16), (16, a_aload 0 17), (17, a_get 12 0 20), (20, a_stk (q_int 0) 21), (21, a_put 10 1 ckI 24), (24, a_iload 1 25), (25, a_if kn b_ne 1 38 28), (28, a_stk (q_int (-1)) 29), (29, a_aload 0 30), (30, a_get 12 0 33), (33, a_get 10 12 36), (36, a_stk q_isub 37), (37, a_iret), (38, a_aload 0 39), (39, a_get 12 4 42), (42, a_astore 2 43), (43, a_aload 0 44), (44, a_aload 0 45), (45, a_get 12 5 48), (48, a_put 12 4 ckR 51), (51, a_aload 0 52), (52, a_aload 2 53), (53, a_put 12 5 ckR 56), (56, a_aload 0 57), (57, a_get 12 4 60), (60, a_get 8 8 63), (63, a_iret)]
def fX11_sentence (kn : sKn) : List Value → sW → Option sR := mF (tX11_sentence kn) 3 1000000
set_option maxRecDepth 100000 in
set_option maxHeartbeats 4000000 in
theorem mX11_sentence (kn : sKn) : mM kn yX11_sentence (Cond.code yX11_sentence cX11_sentence 3 (some .int) :: wsL_law) 5 false (fX11_sentence kn) := mM_of (own := RX11) (ini := false) rfl (by decide +kernel) (by decide +kernel) (all_c (ok_aload_n dX11_sentence_0 rfl) (all_c (okg_X11_5 kw492 dX11_sentence_1) (all_c (ok_aload_n dX11_sentence_4 rfl) (all_c (okg_X11_0 kw221 dX11_sentence_5) (all_c (ok_aload_n dX11_sentence_8 rfl) (all_c (okg_X11_2 kw107 dX11_sentence_9) (all_c (okc_X7_read (by decide) kw663 dX11_sentence_12) (all_c (ok_istore_n dX11_sentence_15 rfl (by decide)) (all_c (ok_aload_n dX11_sentence_16 rfl) (all_c (okg_X11_0 kw221 dX11_sentence_17) (all_c (ok_stk (s_iconst dX11_sentence_20 (by decide))) (all_c (okp_X9_1 kw226 dX11_sentence_21) (all_c (ok_iload_n dX11_sentence_24 rfl) (all_c (ok_if_ne dX11_sentence_25 (by decide)) (all_c (ok_stk (s_iconst dX11_sentence_28 (by decide))) (all_c (ok_aload_n dX11_sentence_29 rfl) (all_c (okg_X11_0 kw221 dX11_sentence_30) (all_c (okg_X9_12 kw227 dX11_sentence_33) (all_c (ok_stk (s_isub dX11_sentence_36)) (all_c (ok_iret dX11_sentence_37) (all_c (ok_aload_n dX11_sentence_38 rfl) (all_c (okg_X11_4 kw310 dX11_sentence_39) (all_c (ok_astore_n dX11_sentence_42 rfl (by decide)) (all_c (ok_aload_n dX11_sentence_43 rfl) (all_c (ok_aload_n dX11_sentence_44 rfl) (all_c (okg_X11_5 kw492 dX11_sentence_45) (all_c (okp_X11_4 kw310 dX11_sentence_48) (all_c (ok_aload_n dX11_sentence_51 rfl) (all_c (ok_aload_n dX11_sentence_52 rfl) (all_c (okp_X11_5 kw492 dX11_sentence_53) (all_c (ok_aload_n dX11_sentence_56 rfl) (all_c (okg_X11_4 kw310 dX11_sentence_57) (all_c (okg_X7_8 kw607 dX11_sentence_60) (all_c (ok_iret dX11_sentence_63) all_n)))))))))))))))))))))))))))))))))) 1000000 (fun h => by first | rfl | cases h)
theorem dX11_sign_0 : decode cX11_sign 0 = .ok (.aload_n 0, 1) := by decide +kernel
theorem dX11_sign_1 : decode cX11_sign 1 = .ok (.iload_n 1, 1) := by decide +kernel
theorem dX11_sign_2 : decode cX11_sign 2 = .ok (.invokevirtual 150, 3) := by decide +kernel
theorem dX11_sign_5 : decode cX11_sign 5 = .ok (.ifCond .eq 12, 3) := by decide +kernel
theorem dX11_sign_8 : decode cX11_sign 8 = .ok (.aload_n 0, 1) := by decide +kernel
theorem dX11_sign_9 : decode cX11_sign 9 = .ok (.iload_n 2, 1) := by decide +kernel
theorem dX11_sign_10 : decode cX11_sign 10 = .ok (.iload_n 3, 1) := by decide +kernel
theorem dX11_sign_11 : decode cX11_sign 11 = .ok (.invokevirtual 181, 3) := by decide +kernel
theorem dX11_sign_14 : decode cX11_sign 14 = .ok (.ifCond .ne 5, 3) := by decide +kernel
theorem dX11_sign_17 : decode cX11_sign 17 = .ok (.iconst (-1), 1) := by decide +kernel
theorem dX11_sign_18 : decode cX11_sign 18 = .ok (.ireturn, 1) := by decide +kernel
theorem dX11_sign_19 : decode cX11_sign 19 = .ok (.aload_n 0, 1) := by decide +kernel
theorem dX11_sign_20 : decode cX11_sign 20 = .ok (.invokevirtual 237, 3) := by decide +kernel
theorem dX11_sign_23 : decode cX11_sign 23 = .ok (.aload_n 0, 1) := by decide +kernel
theorem dX11_sign_24 : decode cX11_sign 24 = .ok (.aload_n 0, 1) := by decide +kernel
theorem dX11_sign_25 : decode cX11_sign 25 = .ok (.getfield 33, 3) := by decide +kernel
theorem dX11_sign_28 : decode cX11_sign 28 = .ok (.iload_n 1, 1) := by decide +kernel
theorem dX11_sign_29 : decode cX11_sign 29 = .ok (.iconst 3, 1) := by decide +kernel
theorem dX11_sign_30 : decode cX11_sign 30 = .ok (.iload_n 2, 1) := by decide +kernel
theorem dX11_sign_31 : decode cX11_sign 31 = .ok (.imul, 1) := by decide +kernel
theorem dX11_sign_32 : decode cX11_sign 32 = .ok (.iload_n 3, 1) := by decide +kernel
theorem dX11_sign_33 : decode cX11_sign 33 = .ok (.iadd, 1) := by decide +kernel
theorem dX11_sign_34 : decode cX11_sign 34 = .ok (.invokevirtual 240, 3) := by decide +kernel
theorem dX11_sign_37 : decode cX11_sign 37 = .ok (.invokevirtual 243, 3) := by decide +kernel
theorem dX11_sign_40 : decode cX11_sign 40 = .ok (.ireturn, 1) := by decide +kernel
theorem okc0_X8_putPlank {kn : sKn} {cc : ByteArray} {own : String} {nL : Nat} {D : Nat} {ret : Option FieldType} {ini : Bool} {pc index : Nat} (hD : 0 + 1 ≤ D) (hl : Cond.methodLink own index yX8_putPlank ∈ wsL_law) (hd : decode cc pc = .ok (.invokevirtual index, 3)) : mOk kn cc own nL wsL_law D ret ini pc (a_callV false f_none 9 (2 + 1) (pc + 3)) := ok_callV (m_none (D := 0)) (good_ws ws_good (fun _ h => h) kw664) hD (by decide) hl kw665 kw666 kw45 ⟨by decide +kernel, by decide +kernel, by decide +kernel⟩ rfl hd
def tX11_sign (kn : sKn) : List (Nat × sA) := [(0, a_aload 0 1), (1, a_iload 1 2), (2, a_callV false (fX11_isSigner kn) 12 2 5), (5, a_if kn b_eq 0 17 8), (8, a_aload 0 9), (9, a_iload 2 10), (10, a_iload 3 11), (11, a_callV false (fX11_isPlace kn) 12 3 14), (14, a_if kn b_ne 1 19 17), (17, a_stk (q_int (-1)) 18), (18, a_iret), (19, a_aload 0 20), (20, a_callV true (fX11_rememberState kn) 12 1 23), (23, a_aload 0 24), (24, a_aload 0 25), (25, a_get 12 3 28), (28, a_iload 1 29), (29, a_stk (q_int 3) 30), (30, a_iload 2 31), (31, a_stk q_imul 32), (32, a_iload 3 33), (33, a_stk q_iadd 34), (34, a_callV false f_none 9 3 37), (37, a_callV false (fX11_keepIfDone kn) 12 2 40), (40, a_iret)]
def fX11_sign (kn : sKn) : List Value → sW → Option sR := mF (tX11_sign kn) 4 1000000
set_option maxRecDepth 100000 in
set_option maxHeartbeats 4000000 in
theorem mX11_sign (kn : sKn) : mM kn yX11_sign (Cond.code yX11_sign cX11_sign 4 (some .int) :: wsL_law) 3 false (fX11_sign kn) := mM_of (own := RX11) (ini := false) rfl (by decide +kernel) (by decide +kernel) (all_c (ok_aload_n dX11_sign_0 rfl) (all_c (ok_iload_n dX11_sign_1 rfl) (all_c (okc_X11_isSigner (by decide) kw244 dX11_sign_2) (all_c (ok_if_eq dX11_sign_5 (by decide)) (all_c (ok_aload_n dX11_sign_8 rfl) (all_c (ok_iload_n dX11_sign_9 rfl) (all_c (ok_iload_n dX11_sign_10 rfl) (all_c (okc_X11_isPlace (by decide) kw126 dX11_sign_11) (all_c (ok_if_ne dX11_sign_14 (by decide)) (all_c (ok_stk (s_iconst dX11_sign_17 (by decide))) (all_c (ok_iret dX11_sign_18) (all_c (ok_aload_n dX11_sign_19 rfl) (all_c (okc_X11_rememberState (by decide) kw231 dX11_sign_20) (all_c (ok_aload_n dX11_sign_23 rfl) (all_c (ok_aload_n dX11_sign_24 rfl) (all_c (okg_X11_3 kw108 dX11_sign_25) (all_c (ok_iload_n dX11_sign_28 rfl) (all_c (ok_stk (s_iconst dX11_sign_29 (by decide))) (all_c (ok_iload_n dX11_sign_30 rfl) (all_c (ok_stk (s_imul dX11_sign_31)) (all_c (ok_iload_n dX11_sign_32 rfl) (all_c (ok_stk (s_iadd dX11_sign_33)) (all_c (okc0_X8_putPlank (by decide) kw667 dX11_sign_34) (all_c (okc_X11_keepIfDone (by decide) kw252 dX11_sign_37) (all_c (ok_iret dX11_sign_40) all_n))))))))))))))))))))))))) 1000000 (fun h => by first | rfl | cases h)
theorem dX11_signer_0 : decode cX11_signer 0 = .ok (.aload_n 0, 1) := by decide +kernel
theorem dX11_signer_1 : decode cX11_signer 1 = .ok (.iload_n 1, 1) := by decide +kernel
theorem dX11_signer_2 : decode cX11_signer 2 = .ok (.invokevirtual 150, 3) := by decide +kernel
theorem dX11_signer_5 : decode cX11_signer 5 = .ok (.ifCond .ne 11, 3) := by decide +kernel
theorem dX11_signer_8 : decode cX11_signer 8 = .ok (.new 154, 3) := by decide +kernel
theorem dX11_signer_11 : decode cX11_signer 11 = .ok (.dup, 1) := by decide +kernel
theorem dX11_signer_12 : decode cX11_signer 12 = .ok (.invokespecial 156, 3) := by decide +kernel
theorem dX11_signer_15 : decode cX11_signer 15 = .ok (.athrow, 1) := by decide +kernel
theorem dX11_signer_16 : decode cX11_signer 16 = .ok (.iload_n 2, 1) := by decide +kernel
theorem dX11_signer_17 : decode cX11_signer 17 = .ok (.tableswitch 136 0 7 #[47, 57, 67, 79, 89, 99, 116, 126], 47) := by decide +kernel
theorem dX11_signer_64 : decode cX11_signer 64 = .ok (.aload_n 0, 1) := by decide +kernel
theorem dX11_signer_65 : decode cX11_signer 65 = .ok (.getfield 33, 3) := by decide +kernel
theorem dX11_signer_68 : decode cX11_signer 68 = .ok (.getfield 157, 3) := by decide +kernel
theorem dX11_signer_71 : decode cX11_signer 71 = .ok (.iload_n 1, 1) := by decide +kernel
theorem dX11_signer_72 : decode cX11_signer 72 = .ok (.iaload, 1) := by decide +kernel
theorem dX11_signer_73 : decode cX11_signer 73 = .ok (.ireturn, 1) := by decide +kernel
theorem dX11_signer_74 : decode cX11_signer 74 = .ok (.aload_n 0, 1) := by decide +kernel
theorem dX11_signer_75 : decode cX11_signer 75 = .ok (.getfield 26, 3) := by decide +kernel
theorem dX11_signer_78 : decode cX11_signer 78 = .ok (.getfield 161, 3) := by decide +kernel
theorem dX11_signer_81 : decode cX11_signer 81 = .ok (.iload_n 1, 1) := by decide +kernel
theorem dX11_signer_82 : decode cX11_signer 82 = .ok (.iaload, 1) := by decide +kernel
theorem dX11_signer_83 : decode cX11_signer 83 = .ok (.ireturn, 1) := by decide +kernel
theorem dX11_signer_84 : decode cX11_signer 84 = .ok (.aload_n 0, 1) := by decide +kernel
theorem dX11_signer_85 : decode cX11_signer 85 = .ok (.getfield 26, 3) := by decide +kernel
theorem dX11_signer_88 : decode cX11_signer 88 = .ok (.getfield 164, 3) := by decide +kernel
theorem dX11_signer_91 : decode cX11_signer 91 = .ok (.iload_n 1, 1) := by decide +kernel
theorem dX11_signer_92 : decode cX11_signer 92 = .ok (.ishr, 1) := by decide +kernel
theorem dX11_signer_93 : decode cX11_signer 93 = .ok (.iconst 1, 1) := by decide +kernel
theorem dX11_signer_94 : decode cX11_signer 94 = .ok (.iand, 1) := by decide +kernel
theorem dX11_signer_95 : decode cX11_signer 95 = .ok (.ireturn, 1) := by decide +kernel
theorem dX11_signer_96 : decode cX11_signer 96 = .ok (.aload_n 0, 1) := by decide +kernel
theorem dX11_signer_97 : decode cX11_signer 97 = .ok (.getfield 26, 3) := by decide +kernel
theorem dX11_signer_100 : decode cX11_signer 100 = .ok (.getfield 166, 3) := by decide +kernel
theorem dX11_signer_103 : decode cX11_signer 103 = .ok (.iload_n 1, 1) := by decide +kernel
theorem dX11_signer_104 : decode cX11_signer 104 = .ok (.iaload, 1) := by decide +kernel
theorem dX11_signer_105 : decode cX11_signer 105 = .ok (.ireturn, 1) := by decide +kernel
theorem dX11_signer_106 : decode cX11_signer 106 = .ok (.aload_n 0, 1) := by decide +kernel
theorem dX11_signer_107 : decode cX11_signer 107 = .ok (.getfield 26, 3) := by decide +kernel
theorem dX11_signer_110 : decode cX11_signer 110 = .ok (.getfield 169, 3) := by decide +kernel
theorem dX11_signer_113 : decode cX11_signer 113 = .ok (.iload_n 1, 1) := by decide +kernel
theorem dX11_signer_114 : decode cX11_signer 114 = .ok (.iaload, 1) := by decide +kernel
theorem dX11_signer_115 : decode cX11_signer 115 = .ok (.ireturn, 1) := by decide +kernel
theorem dX11_signer_116 : decode cX11_signer 116 = .ok (.aload_n 0, 1) := by decide +kernel
theorem dX11_signer_117 : decode cX11_signer 117 = .ok (.getfield 33, 3) := by decide +kernel
theorem dX11_signer_120 : decode cX11_signer 120 = .ok (.iload_n 1, 1) := by decide +kernel
theorem dX11_signer_121 : decode cX11_signer 121 = .ok (.invokevirtual 172, 3) := by decide +kernel
theorem dX11_signer_124 : decode cX11_signer 124 = .ok (.ifCond .eq 7, 3) := by decide +kernel
theorem dX11_signer_127 : decode cX11_signer 127 = .ok (.iconst 0, 1) := by decide +kernel
theorem dX11_signer_128 : decode cX11_signer 128 = .ok (.goto 4, 3) := by decide +kernel
theorem dX11_signer_131 : decode cX11_signer 131 = .ok (.iconst 1, 1) := by decide +kernel
theorem dX11_signer_132 : decode cX11_signer 132 = .ok (.ireturn, 1) := by decide +kernel
theorem dX11_signer_133 : decode cX11_signer 133 = .ok (.aload_n 0, 1) := by decide +kernel
theorem dX11_signer_134 : decode cX11_signer 134 = .ok (.getfield 33, 3) := by decide +kernel
theorem dX11_signer_137 : decode cX11_signer 137 = .ok (.getfield 175, 3) := by decide +kernel
theorem dX11_signer_140 : decode cX11_signer 140 = .ok (.iload_n 1, 1) := by decide +kernel
theorem dX11_signer_141 : decode cX11_signer 141 = .ok (.iaload, 1) := by decide +kernel
theorem dX11_signer_142 : decode cX11_signer 142 = .ok (.ireturn, 1) := by decide +kernel
theorem dX11_signer_143 : decode cX11_signer 143 = .ok (.aload_n 0, 1) := by decide +kernel
theorem dX11_signer_144 : decode cX11_signer 144 = .ok (.getfield 33, 3) := by decide +kernel
theorem dX11_signer_147 : decode cX11_signer 147 = .ok (.getfield 178, 3) := by decide +kernel
theorem dX11_signer_150 : decode cX11_signer 150 = .ok (.iload_n 1, 1) := by decide +kernel
theorem dX11_signer_151 : decode cX11_signer 151 = .ok (.iaload, 1) := by decide +kernel
theorem dX11_signer_152 : decode cX11_signer 152 = .ok (.ireturn, 1) := by decide +kernel
theorem dX11_signer_153 : decode cX11_signer 153 = .ok (.new 154, 3) := by decide +kernel
theorem dX11_signer_156 : decode cX11_signer 156 = .ok (.dup, 1) := by decide +kernel
theorem dX11_signer_157 : decode cX11_signer 157 = .ok (.invokespecial 156, 3) := by decide +kernel
theorem dX11_signer_160 : decode cX11_signer 160 = .ok (.athrow, 1) := by decide +kernel
def tX11_signer (kn : sKn) : List (Nat × sA) := [(0, a_aload 0 1), (1, a_iload 1 2), (2, a_callV false (fX11_isSigner kn) 12 2 5), (5, a_if kn b_ne 1 16 8), (8, a_throw), (11, a_stk q_dup 12), (12, a_none), (15, a_none), (16, a_iload 2 17), (17, a_table kn 0 7 [64, 74, 84, 96, 106, 116, 133, 143] 153), (64, a_aload 0 65), (65, a_get 12 3 68), (68, a_get 9 3 71), (71, a_iload 1 72), (72, a_iald 73), (73, a_iret), (74, a_aload 0 75), (75, a_get 12 2 78), (78, a_get 7 8 81), (81, a_iload 1 82), (82, a_iald 83), (83, a_iret), (84, a_aload 0 85), (85, a_get 12 2 88), (88, a_get 7 5 91), (91, a_iload 1 92), (92, a_stk q_ishr 93), (93, a_stk (q_int 1) 94), (94, a_stk q_iand 95), (95, a_iret), (96, a_aload 0 97), (97, a_get 12 2 100), (100, a_get 7 9 103), (103, a_iload 1 104), (104, a_iald 105), (105, a_iret), (106, a_aload 0 107), (107, a_get 12 2 110), (110, a_get 7 10 113), (113, a_iload 1 114), (114, a_iald 115), (115, a_iret), (116, a_aload 0 117), (117, a_get 12 3 120), (120, a_iload 1 121), (121, a_callV false f_none 9 2 124), (124, a_if kn b_eq 0 131 127), (127, a_stk (q_int 0) 128), (128, a_goto 132), (131, a_stk (q_int 1) 132), (132, a_iret), (133, a_aload 0 134), (134, a_get 12 3 137), (137, a_get 9 5 140), (140, a_iload 1 141), (141, a_iald 142), (142, a_iret), (143, a_aload 0 144), (144, a_get 12 3 147), (147, a_get 9 4 150), (150, a_iload 1 151), (151, a_iald 152), (152, a_iret), (153, a_throw), (156, a_stk q_dup 157), (157, a_none), (160, a_none)]
def fX11_signer (kn : sKn) : List Value → sW → Option sR := mF (tX11_signer kn) 3 1000000
set_option maxRecDepth 100000 in
set_option maxHeartbeats 4000000 in
theorem mX11_signer (kn : sKn) : mV kn yX11_signer (Cond.code yX11_signer cX11_signer 3 (some .int) :: wsL_law) 6 (fX11_signer kn) := mV_of (own := RX11) rfl (by decide +kernel) (all_c (ok_aload_n dX11_signer_0 rfl) (all_c (ok_iload_n dX11_signer_1 rfl) (all_c (okc_X11_isSigner (by decide) kw244 dX11_signer_2) (all_c (ok_if_ne dX11_signer_5 (by decide)) (all_c (ok_throw (by decide) kw539 kw540 inNse dX11_signer_8 dX11_signer_11 dX11_signer_12 dX11_signer_15) (all_c (ok_stk (s_dup dX11_signer_11)) (all_c (ok_none) (all_c (ok_none) (all_c (ok_iload_n dX11_signer_16 rfl) (all_c (ok_table dX11_signer_17 (by decide) (by decide) (by decide) (by decide)) (all_c (ok_aload_n dX11_signer_64 rfl) (all_c (okg_X11_3 kw108 dX11_signer_65) (all_c (okg_X8_3 kw668 dX11_signer_68) (all_c (ok_iload_n dX11_signer_71 rfl) (all_c (ok_iald dX11_signer_72) (all_c (ok_iret dX11_signer_73) (all_c (ok_aload_n dX11_signer_74 rfl) (all_c (okg_X11_2 kw107 dX11_signer_75) (all_c (okg_X6_8 kw669 dX11_signer_78) (all_c (ok_iload_n dX11_signer_81 rfl) (all_c (ok_iald dX11_signer_82) (all_c (ok_iret dX11_signer_83) (all_c (ok_aload_n dX11_signer_84 rfl) (all_c (okg_X11_2 kw107 dX11_signer_85) (all_c (okg_X6_5 kw586 dX11_signer_88) (all_c (ok_iload_n dX11_signer_91 rfl) (all_c (ok_stk (s_ishr dX11_signer_92)) (all_c (ok_stk (s_iconst dX11_signer_93 (by decide))) (all_c (ok_stk (s_iand dX11_signer_94)) (all_c (ok_iret dX11_signer_95) (all_c (ok_aload_n dX11_signer_96 rfl) (all_c (okg_X11_2 kw107 dX11_signer_97) (all_c (okg_X6_9 kw670 dX11_signer_100) (all_c (ok_iload_n dX11_signer_103 rfl) (all_c (ok_iald dX11_signer_104) (all_c (ok_iret dX11_signer_105) (all_c (ok_aload_n dX11_signer_106 rfl) (all_c (okg_X11_2 kw107 dX11_signer_107) (all_c (okg_X6_10 kw671 dX11_signer_110) (all_c (ok_iload_n dX11_signer_113 rfl) (all_c (ok_iald dX11_signer_114) (all_c (ok_iret dX11_signer_115) (all_c (ok_aload_n dX11_signer_116 rfl) (all_c (okg_X11_3 kw108 dX11_signer_117) (all_c (ok_iload_n dX11_signer_120 rfl) (all_c (okc0_X8_lives (by decide) kw672 dX11_signer_121) (all_c (ok_if_eq dX11_signer_124 (by decide)) (all_c (ok_stk (s_iconst dX11_signer_127 (by decide))) (all_c (ok_goto dX11_signer_128 (by decide)) (all_c (ok_stk (s_iconst dX11_signer_131 (by decide))) (all_c (ok_iret dX11_signer_132) (all_c (ok_aload_n dX11_signer_133 rfl) (all_c (okg_X11_3 kw108 dX11_signer_134) (all_c (okg_X8_5 kw673 dX11_signer_137) (all_c (ok_iload_n dX11_signer_140 rfl) (all_c (ok_iald dX11_signer_141) (all_c (ok_iret dX11_signer_142) (all_c (ok_aload_n dX11_signer_143 rfl) (all_c (okg_X11_3 kw108 dX11_signer_144) (all_c (okg_X8_4 kw674 dX11_signer_147) (all_c (ok_iload_n dX11_signer_150 rfl) (all_c (ok_iald dX11_signer_151) (all_c (ok_iret dX11_signer_152) (all_c (ok_throw (by decide) kw539 kw540 inNse dX11_signer_153 dX11_signer_156 dX11_signer_157 dX11_signer_160) (all_c (ok_stk (s_dup dX11_signer_156)) (all_c (ok_none) (all_c (ok_none) all_n))))))))))))))))))))))))))))))))))))))))))))))))))))))))))))))))))) 1000000
theorem dX11_spare_0 : decode cX11_spare 0 = .ok (.aload_n 0, 1) := by decide +kernel
theorem dX11_spare_1 : decode cX11_spare 1 = .ok (.iload_n 1, 1) := by decide +kernel
theorem dX11_spare_2 : decode cX11_spare 2 = .ok (.invokevirtual 201, 3) := by decide +kernel
theorem dX11_spare_5 : decode cX11_spare 5 = .ok (.ifCond .ne 5, 3) := by decide +kernel
theorem dX11_spare_8 : decode cX11_spare 8 = .ok (.iconst (-1), 1) := by decide +kernel
theorem dX11_spare_9 : decode cX11_spare 9 = .ok (.ireturn, 1) := by decide +kernel
theorem dX11_spare_10 : decode cX11_spare 10 = .ok (.aload_n 0, 1) := by decide +kernel
theorem dX11_spare_11 : decode cX11_spare 11 = .ok (.getfield 57, 3) := by decide +kernel
theorem dX11_spare_14 : decode cX11_spare 14 = .ok (.aload_n 0, 1) := by decide +kernel
theorem dX11_spare_15 : decode cX11_spare 15 = .ok (.getfield 26, 3) := by decide +kernel
theorem dX11_spare_18 : decode cX11_spare 18 = .ok (.aload_n 0, 1) := by decide +kernel
theorem dX11_spare_19 : decode cX11_spare 19 = .ok (.getfield 33, 3) := by decide +kernel
theorem dX11_spare_22 : decode cX11_spare 22 = .ok (.iload_n 1, 1) := by decide +kernel
theorem dX11_spare_23 : decode cX11_spare 23 = .ok (.invokevirtual 276, 3) := by decide +kernel
theorem dX11_spare_26 : decode cX11_spare 26 = .ok (.ireturn, 1) := by decide +kernel
def tX11_spare (kn : sKn) : List (Nat × sA) := [(0, a_aload 0 1), (1, a_iload 1 2), (2, a_callV false (fX11_isLoad kn) 12 2 5), (5, a_if kn b_ne 1 10 8), (8, a_stk (q_int (-1)) 9), (9, a_iret), (10, a_aload 0 11), (11, a_get 12 7 14), (14, a_aload 0 15), (15, a_get 12 2 18), (18, a_aload 0 19), (19, a_get 12 3 22), (22, a_iload 1 23), (23, a_callV false f_none 11 4 26), (26, a_iret)]
def fX11_spare (kn : sKn) : List Value → sW → Option sR := mF (tX11_spare kn) 2 1000000
set_option maxRecDepth 100000 in
set_option maxHeartbeats 4000000 in
theorem mX11_spare (kn : sKn) : mM kn yX11_spare (Cond.code yX11_spare cX11_spare 2 (some .int) :: wsL_law) 2 false (fX11_spare kn) := mM_of (own := RX11) (ini := false) rfl (by decide +kernel) (by decide +kernel) (all_c (ok_aload_n dX11_spare_0 rfl) (all_c (ok_iload_n dX11_spare_1 rfl) (all_c (okc_X11_isLoad (by decide) kw133 dX11_spare_2) (all_c (ok_if_ne dX11_spare_5 (by decide)) (all_c (ok_stk (s_iconst dX11_spare_8 (by decide))) (all_c (ok_iret dX11_spare_9) (all_c (ok_aload_n dX11_spare_10 rfl) (all_c (okg_X11_7 kw106 dX11_spare_11) (all_c (ok_aload_n dX11_spare_14 rfl) (all_c (okg_X11_2 kw107 dX11_spare_15) (all_c (ok_aload_n dX11_spare_18 rfl) (all_c (okg_X11_3 kw108 dX11_spare_19) (all_c (ok_iload_n dX11_spare_22 rfl) (all_c (okc0_X10_findSafest (by decide) kw583 dX11_spare_23) (all_c (ok_iret dX11_spare_26) all_n))))))))))))))) 1000000 (fun h => by first | rfl | cases h)
theorem dX11_surely_0 : decode cX11_surely 0 = .ok (.aload_n 0, 1) := by decide +kernel
theorem dX11_surely_1 : decode cX11_surely 1 = .ok (.getfield 78, 3) := by decide +kernel
theorem dX11_surely_4 : decode cX11_surely 4 = .ok (.getfield 327, 3) := by decide +kernel
theorem dX11_surely_7 : decode cX11_surely 7 = .ok (.ireturn, 1) := by decide +kernel
def tX11_surely (kn : sKn) : List (Nat × sA) := [(0, a_aload 0 1), (1, a_get 12 10 4), (4, a_get 6 3 7), (7, a_iret)]
def fX11_surely (kn : sKn) : List Value → sW → Option sR := mF (tX11_surely kn) 1 1000000
set_option maxRecDepth 100000 in
set_option maxHeartbeats 4000000 in
theorem mX11_surely (kn : sKn) : mM kn yX11_surely (Cond.code yX11_surely cX11_surely 1 (some .int) :: wsL_law) 1 false (fX11_surely kn) := mM_of (own := RX11) (ini := false) rfl (by decide +kernel) (by decide +kernel) (all_c (ok_aload_n dX11_surely_0 rfl) (all_c (okg_X11_10 kw424 dX11_surely_1) (all_c (okg_X5_3 kw675 dX11_surely_4) (all_c (ok_iret dX11_surely_7) all_n)))) 1000000 (fun h => by first | rfl | cases h)
theorem dX11_tells_0 : decode cX11_tells 0 = .ok (.aload_n 0, 1) := by decide +kernel
theorem dX11_tells_1 : decode cX11_tells 1 = .ok (.getfield 78, 3) := by decide +kernel
theorem dX11_tells_4 : decode cX11_tells 4 = .ok (.getfield 330, 3) := by decide +kernel
theorem dX11_tells_7 : decode cX11_tells 7 = .ok (.ireturn, 1) := by decide +kernel
def tX11_tells (kn : sKn) : List (Nat × sA) := [(0, a_aload 0 1), (1, a_get 12 10 4), (4, a_get 6 4 7), (7, a_iret)]
def fX11_tells (kn : sKn) : List Value → sW → Option sR := mF (tX11_tells kn) 1 1000000
set_option maxRecDepth 100000 in
set_option maxHeartbeats 4000000 in
theorem mX11_tells (kn : sKn) : mM kn yX11_tells (Cond.code yX11_tells cX11_tells 1 (some .int) :: wsL_law) 1 false (fX11_tells kn) := mM_of (own := RX11) (ini := false) rfl (by decide +kernel) (by decide +kernel) (all_c (ok_aload_n dX11_tells_0 rfl) (all_c (okg_X11_10 kw424 dX11_tells_1) (all_c (okg_X5_4 kw676 dX11_tells_4) (all_c (ok_iret dX11_tells_7) all_n)))) 1000000 (fun h => by first | rfl | cases h)
theorem dX11_told_0 : decode cX11_told 0 = .ok (.iload_n 1, 1) := by decide +kernel
theorem dX11_told_1 : decode cX11_told 1 = .ok (.ifCond .lt 15, 3) := by decide +kernel
theorem dX11_told_4 : decode cX11_told 4 = .ok (.iload_n 1, 1) := by decide +kernel
theorem dX11_told_5 : decode cX11_told 5 = .ok (.aload_n 0, 1) := by decide +kernel
theorem dX11_told_6 : decode cX11_told 6 = .ok (.getfield 50, 3) := by decide +kernel
theorem dX11_told_9 : decode cX11_told 9 = .ok (.getfield 385, 3) := by decide +kernel
theorem dX11_told_12 : decode cX11_told 12 = .ok (.arraylength, 1) := by decide +kernel
theorem dX11_told_13 : decode cX11_told 13 = .ok (.if_icmp .lt 5, 3) := by decide +kernel
theorem dX11_told_16 : decode cX11_told 16 = .ok (.iconst (-1), 1) := by decide +kernel
theorem dX11_told_17 : decode cX11_told 17 = .ok (.ireturn, 1) := by decide +kernel
theorem dX11_told_18 : decode cX11_told 18 = .ok (.aload_n 0, 1) := by decide +kernel
theorem dX11_told_19 : decode cX11_told 19 = .ok (.getfield 50, 3) := by decide +kernel
theorem dX11_told_22 : decode cX11_told 22 = .ok (.getfield 385, 3) := by decide +kernel
theorem dX11_told_25 : decode cX11_told 25 = .ok (.iload_n 1, 1) := by decide +kernel
theorem dX11_told_26 : decode cX11_told 26 = .ok (.iaload, 1) := by decide +kernel
theorem dX11_told_27 : decode cX11_told 27 = .ok (.ireturn, 1) := by decide +kernel
def tX11_told (kn : sKn) : List (Nat × sA) := [(0, a_iload 1 1), (1, a_if kn b_lt 2 16 4), (4, a_iload 1 5), (5, a_aload 0 6), (6, a_get 12 6 9), (9, a_get 2 5 12), (12, a_alen 13), (13, a_icmp kn b_lt 2 18 16), (16, a_stk (q_int (-1)) 17), (17, a_iret), (18, a_aload 0 19), (19, a_get 12 6 22), (22, a_get 2 5 25), (25, a_iload 1 26), (26, a_iald 27), (27, a_iret)]
def fX11_told (kn : sKn) : List Value → sW → Option sR := mF (tX11_told kn) 2 1000000
set_option maxRecDepth 100000 in
set_option maxHeartbeats 4000000 in
theorem mX11_told (kn : sKn) : mM kn yX11_told (Cond.code yX11_told cX11_told 2 (some .int) :: wsL_law) 1 false (fX11_told kn) := mM_of (own := RX11) (ini := false) rfl (by decide +kernel) (by decide +kernel) (all_c (ok_iload_n dX11_told_0 rfl) (all_c (ok_if_lt dX11_told_1 (by decide)) (all_c (ok_iload_n dX11_told_4 rfl) (all_c (ok_aload_n dX11_told_5 rfl) (all_c (okg_X11_6 kw220 dX11_told_6) (all_c (okg_X1_5 kw677 dX11_told_9) (all_c (ok_alen dX11_told_12) (all_c (ok_icmp_lt dX11_told_13 (by decide)) (all_c (ok_stk (s_iconst dX11_told_16 (by decide))) (all_c (ok_iret dX11_told_17) (all_c (ok_aload_n dX11_told_18 rfl) (all_c (okg_X11_6 kw220 dX11_told_19) (all_c (okg_X1_5 kw677 dX11_told_22) (all_c (ok_iload_n dX11_told_25 rfl) (all_c (ok_iald dX11_told_26) (all_c (ok_iret dX11_told_27) all_n)))))))))))))))) 1000000 (fun h => by first | rfl | cases h)
theorem dX11_toll_0 : decode cX11_toll 0 = .ok (.aload_n 0, 1) := by decide +kernel
theorem dX11_toll_1 : decode cX11_toll 1 = .ok (.iload_n 1, 1) := by decide +kernel
theorem dX11_toll_2 : decode cX11_toll 2 = .ok (.invokevirtual 150, 3) := by decide +kernel
theorem dX11_toll_5 : decode cX11_toll 5 = .ok (.ifCond .eq 31, 3) := by decide +kernel
theorem dX11_toll_8 : decode cX11_toll 8 = .ok (.aload_n 0, 1) := by decide +kernel
theorem dX11_toll_9 : decode cX11_toll 9 = .ok (.iload_n 2, 1) := by decide +kernel
theorem dX11_toll_10 : decode cX11_toll 10 = .ok (.invokevirtual 201, 3) := by decide +kernel
theorem dX11_toll_13 : decode cX11_toll 13 = .ok (.ifCond .eq 23, 3) := by decide +kernel
theorem dX11_toll_16 : decode cX11_toll 16 = .ok (.aload_n 0, 1) := by decide +kernel
theorem dX11_toll_17 : decode cX11_toll 17 = .ok (.getfield 57, 3) := by decide +kernel
theorem dX11_toll_20 : decode cX11_toll 20 = .ok (.aload_n 0, 1) := by decide +kernel
theorem dX11_toll_21 : decode cX11_toll 21 = .ok (.getfield 26, 3) := by decide +kernel
theorem dX11_toll_24 : decode cX11_toll 24 = .ok (.aload_n 0, 1) := by decide +kernel
theorem dX11_toll_25 : decode cX11_toll 25 = .ok (.getfield 33, 3) := by decide +kernel
theorem dX11_toll_28 : decode cX11_toll 28 = .ok (.iload_n 2, 1) := by decide +kernel
theorem dX11_toll_29 : decode cX11_toll 29 = .ok (.invokevirtual 276, 3) := by decide +kernel
theorem dX11_toll_32 : decode cX11_toll 32 = .ok (.iconst (-1), 1) := by decide +kernel
theorem dX11_toll_33 : decode cX11_toll 33 = .ok (.if_icmp .ne 5, 3) := by decide +kernel
theorem dX11_toll_36 : decode cX11_toll 36 = .ok (.iconst (-1), 1) := by decide +kernel
theorem dX11_toll_37 : decode cX11_toll 37 = .ok (.ireturn, 1) := by decide +kernel
theorem dX11_toll_38 : decode cX11_toll 38 = .ok (.aload_n 0, 1) := by decide +kernel
theorem dX11_toll_39 : decode cX11_toll 39 = .ok (.getfield 57, 3) := by decide +kernel
theorem dX11_toll_42 : decode cX11_toll 42 = .ok (.aload_n 0, 1) := by decide +kernel
theorem dX11_toll_43 : decode cX11_toll 43 = .ok (.getfield 26, 3) := by decide +kernel
theorem dX11_toll_46 : decode cX11_toll 46 = .ok (.aload_n 0, 1) := by decide +kernel
theorem dX11_toll_47 : decode cX11_toll 47 = .ok (.getfield 33, 3) := by decide +kernel
theorem dX11_toll_50 : decode cX11_toll 50 = .ok (.iload_n 1, 1) := by decide +kernel
theorem dX11_toll_51 : decode cX11_toll 51 = .ok (.iload_n 2, 1) := by decide +kernel
theorem dX11_toll_52 : decode cX11_toll 52 = .ok (.invokevirtual 340, 3) := by decide +kernel
theorem dX11_toll_55 : decode cX11_toll 55 = .ok (.ireturn, 1) := by decide +kernel
theorem okc0_X10_countOnPath {kn : sKn} {cc : ByteArray} {own : String} {nL : Nat} {D : Nat} {ret : Option FieldType} {ini : Bool} {pc index : Nat} (hD : 0 + 1 ≤ D) (hl : Cond.methodLink own index yX10_countOnPath ∈ wsL_law) (hd : decode cc pc = .ok (.invokevirtual index, 3)) : mOk kn cc own nL wsL_law D ret ini pc (a_callV false f_none 11 (4 + 1) (pc + 3)) := ok_callV (m_none (D := 0)) (good_ws ws_good (fun _ h => h) kw678) hD (by decide) hl kw679 kw680 kw70 ⟨by decide +kernel, by decide +kernel, by decide +kernel⟩ rfl hd
def tX11_toll (kn : sKn) : List (Nat × sA) := [(0, a_aload 0 1), (1, a_iload 1 2), (2, a_callV false (fX11_isSigner kn) 12 2 5), (5, a_if kn b_eq 0 36 8), (8, a_aload 0 9), (9, a_iload 2 10), (10, a_callV false (fX11_isLoad kn) 12 2 13), (13, a_if kn b_eq 0 36 16), (16, a_aload 0 17), (17, a_get 12 7 20), (20, a_aload 0 21), (21, a_get 12 2 24), (24, a_aload 0 25), (25, a_get 12 3 28), (28, a_iload 2 29), (29, a_callV false f_none 11 4 32), (32, a_stk (q_int (-1)) 33), (33, a_icmp kn b_ne 1 38 36), (36, a_stk (q_int (-1)) 37), (37, a_iret), (38, a_aload 0 39), (39, a_get 12 7 42), (42, a_aload 0 43), (43, a_get 12 2 46), (46, a_aload 0 47), (47, a_get 12 3 50), (50, a_iload 1 51), (51, a_iload 2 52), (52, a_callV false f_none 11 5 55), (55, a_iret)]
def fX11_toll (kn : sKn) : List Value → sW → Option sR := mF (tX11_toll kn) 3 1000000
set_option maxRecDepth 100000 in
set_option maxHeartbeats 4000000 in
theorem mX11_toll (kn : sKn) : mM kn yX11_toll (Cond.code yX11_toll cX11_toll 3 (some .int) :: wsL_law) 2 false (fX11_toll kn) := mM_of (own := RX11) (ini := false) rfl (by decide +kernel) (by decide +kernel) (all_c (ok_aload_n dX11_toll_0 rfl) (all_c (ok_iload_n dX11_toll_1 rfl) (all_c (okc_X11_isSigner (by decide) kw244 dX11_toll_2) (all_c (ok_if_eq dX11_toll_5 (by decide)) (all_c (ok_aload_n dX11_toll_8 rfl) (all_c (ok_iload_n dX11_toll_9 rfl) (all_c (okc_X11_isLoad (by decide) kw133 dX11_toll_10) (all_c (ok_if_eq dX11_toll_13 (by decide)) (all_c (ok_aload_n dX11_toll_16 rfl) (all_c (okg_X11_7 kw106 dX11_toll_17) (all_c (ok_aload_n dX11_toll_20 rfl) (all_c (okg_X11_2 kw107 dX11_toll_21) (all_c (ok_aload_n dX11_toll_24 rfl) (all_c (okg_X11_3 kw108 dX11_toll_25) (all_c (ok_iload_n dX11_toll_28 rfl) (all_c (okc0_X10_findSafest (by decide) kw583 dX11_toll_29) (all_c (ok_stk (s_iconst dX11_toll_32 (by decide))) (all_c (ok_icmp_ne dX11_toll_33 (by decide)) (all_c (ok_stk (s_iconst dX11_toll_36 (by decide))) (all_c (ok_iret dX11_toll_37) (all_c (ok_aload_n dX11_toll_38 rfl) (all_c (okg_X11_7 kw106 dX11_toll_39) (all_c (ok_aload_n dX11_toll_42 rfl) (all_c (okg_X11_2 kw107 dX11_toll_43) (all_c (ok_aload_n dX11_toll_46 rfl) (all_c (okg_X11_3 kw108 dX11_toll_47) (all_c (ok_iload_n dX11_toll_50 rfl) (all_c (ok_iload_n dX11_toll_51 rfl) (all_c (okc0_X10_countOnPath (by decide) kw681 dX11_toll_52) (all_c (ok_iret dX11_toll_55) all_n)))))))))))))))))))))))))))))) 1000000 (fun h => by first | rfl | cases h)
theorem dX11_undo_0 : decode cX11_undo 0 = .ok (.aload_n 0, 1) := by decide +kernel
theorem dX11_undo_1 : decode cX11_undo 1 = .ok (.getfield 141, 3) := by decide +kernel
theorem dX11_undo_4 : decode cX11_undo 4 = .ok (.ifCond .ne 5, 3) := by decide +kernel
theorem dX11_undo_7 : decode cX11_undo 7 = .ok (.iconst (-1), 1) := by decide +kernel
theorem dX11_undo_8 : decode cX11_undo 8 = .ok (.ireturn, 1) := by decide +kernel
theorem dX11_undo_9 : decode cX11_undo 9 = .ok (.aload_n 0, 1) := by decide +kernel
theorem dX11_undo_10 : decode cX11_undo 10 = .ok (.dup, 1) := by decide +kernel
theorem dX11_undo_11 : decode cX11_undo 11 = .ok (.getfield 141, 3) := by decide +kernel
theorem dX11_undo_14 : decode cX11_undo 14 = .ok (.iconst 1, 1) := by decide +kernel
theorem dX11_undo_15 : decode cX11_undo 15 = .ok (.isub, 1) := by decide +kernel
theorem dX11_undo_16 : decode cX11_undo 16 = .ok (.putfield 141, 3) := by decide +kernel
theorem dX11_undo_19 : decode cX11_undo 19 = .ok (.aload_n 0, 1) := by decide +kernel
theorem dX11_undo_20 : decode cX11_undo 20 = .ok (.aload_n 0, 1) := by decide +kernel
theorem dX11_undo_21 : decode cX11_undo 21 = .ok (.getfield 270, 3) := by decide +kernel
theorem dX11_undo_24 : decode cX11_undo 24 = .ok (.ifCond .ne 8, 3) := by decide +kernel
theorem dX11_undo_27 : decode cX11_undo 27 = .ok (.bipush 8, 2) := by decide +kernel
theorem dX11_undo_29 : decode cX11_undo 29 = .ok (.goto 9, 3) := by decide +kernel
theorem dX11_undo_32 : decode cX11_undo 32 = .ok (.aload_n 0, 1) := by decide +kernel
theorem dX11_undo_33 : decode cX11_undo 33 = .ok (.getfield 270, 3) := by decide +kernel
theorem dX11_undo_36 : decode cX11_undo 36 = .ok (.iconst 1, 1) := by decide +kernel
theorem dX11_undo_37 : decode cX11_undo 37 = .ok (.isub, 1) := by decide +kernel
theorem dX11_undo_38 : decode cX11_undo 38 = .ok (.putfield 270, 3) := by decide +kernel
theorem dX11_undo_41 : decode cX11_undo 41 = .ok (.aload_n 0, 1) := by decide +kernel
theorem dX11_undo_42 : decode cX11_undo 42 = .ok (.getfield 33, 3) := by decide +kernel
theorem dX11_undo_45 : decode cX11_undo 45 = .ok (.aload_n 0, 1) := by decide +kernel
theorem dX11_undo_46 : decode cX11_undo 46 = .ok (.getfield 96, 3) := by decide +kernel
theorem dX11_undo_49 : decode cX11_undo 49 = .ok (.aload_n 0, 1) := by decide +kernel
theorem dX11_undo_50 : decode cX11_undo 50 = .ok (.getfield 270, 3) := by decide +kernel
theorem dX11_undo_53 : decode cX11_undo 53 = .ok (.aaload, 1) := by decide +kernel
theorem dX11_undo_54 : decode cX11_undo 54 = .ok (.invokevirtual 273, 3) := by decide +kernel
theorem dX11_undo_57 : decode cX11_undo 57 = .ok (.aload_n 0, 1) := by decide +kernel
theorem dX11_undo_58 : decode cX11_undo 58 = .ok (.getfield 141, 3) := by decide +kernel
theorem dX11_undo_61 : decode cX11_undo 61 = .ok (.ireturn, 1) := by decide +kernel
def tX11_undo (kn : sKn) : List (Nat × sA) := [(0, a_aload 0 1), (1, a_get 12 15 4), (4, a_if kn b_ne 1 9 7), (7, a_stk (q_int (-1)) 8), (8, a_iret), (9, a_aload 0 10), (10, a_stk q_dup 11), (11, a_get 12 15 14), (14, a_stk (q_int 1) 15), (15, a_stk q_isub 16), (16, a_put 12 15 ckI 19), (19, a_aload 0 20), (20, a_aload 0 21), (21, a_get 12 14 24), (24, a_if kn b_ne 1 32 27), (27, a_stk (q_int 8) 29), (29, a_goto 38), (32, a_aload 0 33), (33, a_get 12 14 36), (36, a_stk (q_int 1) 37), (37, a_stk q_isub 38), (38, a_put 12 14 ckI 41), (41, a_aload 0 42), (42, a_get 12 3 45), (45, a_aload 0 46), (46, a_get 12 13 49), (49, a_aload 0 50), (50, a_get 12 14 53), (53, a_aald 54), (54, a_callV true (fX8_copyOf kn) 9 2 57), (57, a_aload 0 58), (58, a_get 12 15 61), (61, a_iret)]
def fX11_undo (kn : sKn) : List Value → sW → Option sR := mF (tX11_undo kn) 1 1000000
set_option maxRecDepth 100000 in
set_option maxHeartbeats 4000000 in
theorem mX11_undo (kn : sKn) : mM kn yX11_undo (Cond.code yX11_undo cX11_undo 1 (some .int) :: wsL_law) 2 false (fX11_undo kn) := mM_of (own := RX11) (ini := false) rfl (by decide +kernel) (by decide +kernel) (all_c (ok_aload_n dX11_undo_0 rfl) (all_c (okg_X11_15 kw140 dX11_undo_1) (all_c (ok_if_ne dX11_undo_4 (by decide)) (all_c (ok_stk (s_iconst dX11_undo_7 (by decide))) (all_c (ok_iret dX11_undo_8) (all_c (ok_aload_n dX11_undo_9 rfl) (all_c (ok_stk (s_dup dX11_undo_10)) (all_c (okg_X11_15 kw140 dX11_undo_11) (all_c (ok_stk (s_iconst dX11_undo_14 (by decide))) (all_c (ok_stk (s_isub dX11_undo_15)) (all_c (okp_X11_15 kw140 dX11_undo_16) (all_c (ok_aload_n dX11_undo_19 rfl) (all_c (ok_aload_n dX11_undo_20 rfl) (all_c (okg_X11_14 kw139 dX11_undo_21) (all_c (ok_if_ne dX11_undo_24 (by decide)) (all_c (ok_stk (s_bipush dX11_undo_27 (by decide))) (all_c (ok_goto dX11_undo_29 (by decide)) (all_c (ok_aload_n dX11_undo_32 rfl) (all_c (okg_X11_14 kw139 dX11_undo_33) (all_c (ok_stk (s_iconst dX11_undo_36 (by decide))) (all_c (ok_stk (s_isub dX11_undo_37)) (all_c (okp_X11_14 kw139 dX11_undo_38) (all_c (ok_aload_n dX11_undo_41 rfl) (all_c (okg_X11_3 kw108 dX11_undo_42) (all_c (ok_aload_n dX11_undo_45 rfl) (all_c (okg_X11_13 kw149 dX11_undo_46) (all_c (ok_aload_n dX11_undo_49 rfl) (all_c (okg_X11_14 kw139 dX11_undo_50) (all_c (ok_aald dX11_undo_53) (all_c (okc_X8_copyOf (by decide) kw153 dX11_undo_54) (all_c (ok_aload_n dX11_undo_57 rfl) (all_c (okg_X11_15 kw140 dX11_undo_58) (all_c (ok_iret dX11_undo_61) all_n))))))))))))))))))))))))))))))))) 1000000 (fun h => by first | rfl | cases h)
theorem dX12_layWhose_0 : decode cX12_layWhose 0 = .ok (.iconst 0, 1) := by decide +kernel
theorem dX12_layWhose_1 : decode cX12_layWhose 1 = .ok (.istore_n 1, 1) := by decide +kernel
theorem dX12_layWhose_2 : decode cX12_layWhose 2 = .ok (.iload_n 1, 1) := by decide +kernel
theorem dX12_layWhose_3 : decode cX12_layWhose 3 = .ok (.bipush 36, 2) := by decide +kernel
theorem dX12_layWhose_5 : decode cX12_layWhose 5 = .ok (.if_icmp .ge 24, 3) := by decide +kernel
theorem dX12_layWhose_8 : decode cX12_layWhose 8 = .ok (.aload_n 0, 1) := by decide +kernel
theorem dX12_layWhose_9 : decode cX12_layWhose 9 = .ok (.getfield 127, 3) := by decide +kernel
theorem dX12_layWhose_12 : decode cX12_layWhose 12 = .ok (.iload_n 1, 1) := by decide +kernel
theorem dX12_layWhose_13 : decode cX12_layWhose 13 = .ok (.aload_n 0, 1) := by decide +kernel
theorem dX12_layWhose_14 : decode cX12_layWhose 14 = .ok (.getfield 98, 3) := by decide +kernel
theorem dX12_layWhose_17 : decode cX12_layWhose 17 = .ok (.bipush 118, 2) := by decide +kernel
theorem dX12_layWhose_19 : decode cX12_layWhose 19 = .ok (.iload_n 1, 1) := by decide +kernel
theorem dX12_layWhose_20 : decode cX12_layWhose 20 = .ok (.iadd, 1) := by decide +kernel
theorem dX12_layWhose_21 : decode cX12_layWhose 21 = .ok (.iaload, 1) := by decide +kernel
theorem dX12_layWhose_22 : decode cX12_layWhose 22 = .ok (.iastore, 1) := by decide +kernel
theorem dX12_layWhose_23 : decode cX12_layWhose 23 = .ok (.iinc 1 1, 3) := by decide +kernel
theorem dX12_layWhose_26 : decode cX12_layWhose 26 = .ok (.goto (-24), 3) := by decide +kernel
theorem dX12_layWhose_29 : decode cX12_layWhose 29 = .ok (.aload_n 0, 1) := by decide +kernel
theorem dX12_layWhose_30 : decode cX12_layWhose 30 = .ok (.aload_n 0, 1) := by decide +kernel
theorem dX12_layWhose_31 : decode cX12_layWhose 31 = .ok (.getfield 98, 3) := by decide +kernel
theorem dX12_layWhose_34 : decode cX12_layWhose 34 = .ok (.bipush 25, 2) := by decide +kernel
theorem dX12_layWhose_36 : decode cX12_layWhose 36 = .ok (.iaload, 1) := by decide +kernel
theorem dX12_layWhose_37 : decode cX12_layWhose 37 = .ok (.putfield 267, 3) := by decide +kernel
theorem dX12_layWhose_40 : decode cX12_layWhose 40 = .ok (.return_, 1) := by decide +kernel
def tX12_layWhose (kn : sKn) : List (Nat × sA) := [(0, a_stk (q_int 0) 1), (1, a_istore 1 2), (2, a_iload 1 3), (3, a_stk (q_int 36) 5), (5, a_icmp kn b_ge 3 29 8), (8, a_aload 0 9), (9, a_get 13 27 12), (12, a_iload 1 13), (13, a_aload 0 14), (14, a_get 13 14 17), (17, a_stk (q_int 118) 19), (19, a_iload 1 20), (20, a_stk q_iadd 21), (21, a_iald 22), (22, a_iast 23), (23, a_iinc 1 1 26), (26, a_goto 2), (29, a_aload 0 30), (30, a_aload 0 31), (31, a_get 13 14 34), (34, a_stk (q_int 25) 36), (36, a_iald 37), (37, a_put 13 28 ckI 40), (40, a_vret)]
def fX12_layWhose (kn : sKn) : List Value → sW → Option sR := mF (tX12_layWhose kn) 2 1000000
set_option maxRecDepth 100000 in
set_option maxHeartbeats 4000000 in
theorem mX12_layWhose (kn : sKn) : mM kn yX12_layWhose (Cond.code yX12_layWhose cX12_layWhose 2 none :: wsL_law) 1 true (fX12_layWhose kn) := mM_of (own := RX12) (ini := false) rfl (by decide +kernel) (by decide +kernel) (all_c (ok_stk (s_iconst dX12_layWhose_0 (by decide))) (all_c (ok_istore_n dX12_layWhose_1 rfl (by decide)) (all_c (ok_iload_n dX12_layWhose_2 rfl) (all_c (ok_stk (s_bipush dX12_layWhose_3 (by decide))) (all_c (ok_icmp_ge dX12_layWhose_5 (by decide)) (all_c (ok_aload_n dX12_layWhose_8 rfl) (all_c (okg_X12_27 kw682 dX12_layWhose_9) (all_c (ok_iload_n dX12_layWhose_12 rfl) (all_c (ok_aload_n dX12_layWhose_13 rfl) (all_c (okg_X12_14 kw683 dX12_layWhose_14) (all_c (ok_stk (s_bipush dX12_layWhose_17 (by decide))) (all_c (ok_iload_n dX12_layWhose_19 rfl) (all_c (ok_stk (s_iadd dX12_layWhose_20)) (all_c (ok_iald dX12_layWhose_21) (all_c (ok_iast dX12_layWhose_22) (all_c (ok_iinc dX12_layWhose_23 (by decide) (by decide)) (all_c (ok_goto dX12_layWhose_26 (by decide)) (all_c (ok_aload_n dX12_layWhose_29 rfl) (all_c (ok_aload_n dX12_layWhose_30 rfl) (all_c (okg_X12_14 kw683 dX12_layWhose_31) (all_c (ok_stk (s_bipush dX12_layWhose_34 (by decide))) (all_c (ok_iald dX12_layWhose_36) (all_c (okp_X12_28 kw684 dX12_layWhose_37) (all_c (ok_vret dX12_layWhose_40) all_n)))))))))))))))))))))))) 1000000 (fun h => by first | rfl | cases h)
theorem dX12_pathsNow_0 : decode cX12_pathsNow 0 = .ok (.iconst 0, 1) := by decide +kernel
theorem dX12_pathsNow_1 : decode cX12_pathsNow 1 = .ok (.istore_n 1, 1) := by decide +kernel
theorem dX12_pathsNow_2 : decode cX12_pathsNow 2 = .ok (.iconst 0, 1) := by decide +kernel
theorem dX12_pathsNow_3 : decode cX12_pathsNow 3 = .ok (.istore_n 2, 1) := by decide +kernel
theorem dX12_pathsNow_4 : decode cX12_pathsNow 4 = .ok (.iload_n 2, 1) := by decide +kernel
theorem dX12_pathsNow_5 : decode cX12_pathsNow 5 = .ok (.aload_n 0, 1) := by decide +kernel
theorem dX12_pathsNow_6 : decode cX12_pathsNow 6 = .ok (.getfield 98, 3) := by decide +kernel
theorem dX12_pathsNow_9 : decode cX12_pathsNow 9 = .ok (.iconst 2, 1) := by decide +kernel
theorem dX12_pathsNow_10 : decode cX12_pathsNow 10 = .ok (.iaload, 1) := by decide +kernel
theorem dX12_pathsNow_11 : decode cX12_pathsNow 11 = .ok (.if_icmp .ge 34, 3) := by decide +kernel
theorem dX12_pathsNow_14 : decode cX12_pathsNow 14 = .ok (.aload_n 0, 1) := by decide +kernel
theorem dX12_pathsNow_15 : decode cX12_pathsNow 15 = .ok (.getfield 98, 3) := by decide +kernel
theorem dX12_pathsNow_18 : decode cX12_pathsNow 18 = .ok (.bipush 96, 2) := by decide +kernel
theorem dX12_pathsNow_20 : decode cX12_pathsNow 20 = .ok (.iaload, 1) := by decide +kernel
theorem dX12_pathsNow_21 : decode cX12_pathsNow 21 = .ok (.iload_n 2, 1) := by decide +kernel
theorem dX12_pathsNow_22 : decode cX12_pathsNow 22 = .ok (.invokestatic 225, 3) := by decide +kernel
theorem dX12_pathsNow_25 : decode cX12_pathsNow 25 = .ok (.ifCond .ne 14, 3) := by decide +kernel
theorem dX12_pathsNow_28 : decode cX12_pathsNow 28 = .ok (.aload_n 0, 1) := by decide +kernel
theorem dX12_pathsNow_29 : decode cX12_pathsNow 29 = .ok (.iload_n 2, 1) := by decide +kernel
theorem dX12_pathsNow_30 : decode cX12_pathsNow 30 = .ok (.invokevirtual 334, 3) := by decide +kernel
theorem dX12_pathsNow_33 : decode cX12_pathsNow 33 = .ok (.ifCond .eq 6, 3) := by decide +kernel
theorem dX12_pathsNow_36 : decode cX12_pathsNow 36 = .ok (.iinc 1 1, 3) := by decide +kernel
theorem dX12_pathsNow_39 : decode cX12_pathsNow 39 = .ok (.iinc 2 1, 3) := by decide +kernel
theorem dX12_pathsNow_42 : decode cX12_pathsNow 42 = .ok (.goto (-38), 3) := by decide +kernel
theorem dX12_pathsNow_45 : decode cX12_pathsNow 45 = .ok (.iload_n 1, 1) := by decide +kernel
theorem dX12_pathsNow_46 : decode cX12_pathsNow 46 = .ok (.ireturn, 1) := by decide +kernel
theorem okc0_X12_has {kn : sKn} {cc : ByteArray} {own : String} {nL : Nat} {D : Nat} {ret : Option FieldType} {ini : Bool} {pc index : Nat} (hD : 0 + 1 ≤ D) (hl : Cond.methodLink own index yX12_has ∈ wsL_law) (hd : decode cc pc = .ok (.invokestatic index, 3)) : mOk kn cc own nL wsL_law D ret ini pc (a_callS false f_none 2 (pc + 3)) := ok_callS (m_none (D := 0)) (good_ws ws_good (fun _ h => h) kw685) hD (by decide) hl kw687 kw686 ⟨by decide +kernel, by decide +kernel, by decide +kernel⟩ hd
theorem okc0_X12_hasPath {kn : sKn} {cc : ByteArray} {own : String} {nL : Nat} {D : Nat} {ret : Option FieldType} {ini : Bool} {pc index : Nat} (hD : 0 + 1 ≤ D) (hl : Cond.methodLink own index yX12_hasPath ∈ wsL_law) (hd : decode cc pc = .ok (.invokevirtual index, 3)) : mOk kn cc own nL wsL_law D ret ini pc (a_callV false f_none 13 (1 + 1) (pc + 3)) := ok_callV (m_none (D := 0)) (good_ws ws_good (fun _ h => h) kw689) hD (by decide) hl kw690 kw691 kw686 ⟨by decide +kernel, by decide +kernel, by decide +kernel⟩ rfl hd
def tX12_pathsNow (kn : sKn) : List (Nat × sA) := [(0, a_stk (q_int 0) 1), (1, a_istore 1 2), (2, a_stk (q_int 0) 3), (3, a_istore 2 4), (4, a_iload 2 5), (5, a_aload 0 6), (6, a_get 13 14 9), (9, a_stk (q_int 2) 10), (10, a_iald 11), (11, a_icmp kn b_ge 3 45 14), (14, a_aload 0 15), (15, a_get 13 14 18), (18, a_stk (q_int 96) 20), (20, a_iald 21), (21, a_iload 2 22), (22, a_callS false f_none 2 25), (25, a_if kn b_ne 1 39 28), (28, a_aload 0 29), (29, a_iload 2 30), (30, a_callV false f_none 13 2 33), (33, a_if kn b_eq 0 39 36), (36, a_iinc 1 1 39), (39, a_iinc 2 1 42), (42, a_goto 4), (45, a_iload 1 46), (46, a_iret)]
def fX12_pathsNow (kn : sKn) : List Value → sW → Option sR := mF (tX12_pathsNow kn) 3 1000000
set_option maxRecDepth 100000 in
set_option maxHeartbeats 4000000 in
theorem mX12_pathsNow (kn : sKn) : mM kn yX12_pathsNow (Cond.code yX12_pathsNow cX12_pathsNow 3 (some .int) :: wsL_law) 1 false (fX12_pathsNow kn) := mM_of (own := RX12) (ini := false) rfl (by decide +kernel) (by decide +kernel) (all_c (ok_stk (s_iconst dX12_pathsNow_0 (by decide))) (all_c (ok_istore_n dX12_pathsNow_1 rfl (by decide)) (all_c (ok_stk (s_iconst dX12_pathsNow_2 (by decide))) (all_c (ok_istore_n dX12_pathsNow_3 rfl (by decide)) (all_c (ok_iload_n dX12_pathsNow_4 rfl) (all_c (ok_aload_n dX12_pathsNow_5 rfl) (all_c (okg_X12_14 kw683 dX12_pathsNow_6) (all_c (ok_stk (s_iconst dX12_pathsNow_9 (by decide))) (all_c (ok_iald dX12_pathsNow_10) (all_c (ok_icmp_ge dX12_pathsNow_11 (by decide)) (all_c (ok_aload_n dX12_pathsNow_14 rfl) (all_c (okg_X12_14 kw683 dX12_pathsNow_15) (all_c (ok_stk (s_bipush dX12_pathsNow_18 (by decide))) (all_c (ok_iald dX12_pathsNow_20) (all_c (ok_iload_n dX12_pathsNow_21 rfl) (all_c (okc0_X12_has (by decide) kw688 dX12_pathsNow_22) (all_c (ok_if_ne dX12_pathsNow_25 (by decide)) (all_c (ok_aload_n dX12_pathsNow_28 rfl) (all_c (ok_iload_n dX12_pathsNow_29 rfl) (all_c (okc0_X12_hasPath (by decide) kw692 dX12_pathsNow_30) (all_c (ok_if_eq dX12_pathsNow_33 (by decide)) (all_c (ok_iinc dX12_pathsNow_36 (by decide) (by decide)) (all_c (ok_iinc dX12_pathsNow_39 (by decide) (by decide)) (all_c (ok_goto dX12_pathsNow_42 (by decide)) (all_c (ok_iload_n dX12_pathsNow_45 rfl) (all_c (ok_iret dX12_pathsNow_46) all_n)))))))))))))))))))))))))) 1000000 (fun h => by first | rfl | cases h)
theorem dX12_able_0 : decode cX12_able 0 = .ok (.aload_n 0, 1) := by decide +kernel
theorem dX12_able_1 : decode cX12_able 1 = .ok (.iconst 0, 1) := by decide +kernel
theorem dX12_able_2 : decode cX12_able 2 = .ok (.putfield 1, 3) := by decide +kernel
theorem dX12_able_5 : decode cX12_able 5 = .ok (.aload_n 0, 1) := by decide +kernel
theorem dX12_able_6 : decode cX12_able 6 = .ok (.invokevirtual 292, 3) := by decide +kernel
theorem dX12_able_9 : decode cX12_able 9 = .ok (.aload_n 0, 1) := by decide +kernel
theorem dX12_able_10 : decode cX12_able 10 = .ok (.invokevirtual 383, 3) := by decide +kernel
theorem dX12_able_13 : decode cX12_able 13 = .ok (.ireturn, 1) := by decide +kernel
theorem okc_X12_layWhose {kn : sKn} {cc : ByteArray} {own : String} {nL : Nat} {D : Nat} {ret : Option FieldType} {ini : Bool} {pc index : Nat} (hD : 1 + 1 ≤ D) (hl : Cond.methodLink own index yX12_layWhose ∈ wsL_law) (hd : decode cc pc = .ok (.invokevirtual index, 3)) : mOk kn cc own nL wsL_law D ret ini pc (a_callV true (fX12_layWhose kn) 13 (0 + 1) (pc + 3)) := ok_callV (mX12_layWhose kn) (good_ws ws_good (fun _ h => h) kw694) hD (by decide) hl kw695 kw696 kw686 ⟨by decide +kernel, by decide +kernel, by decide +kernel⟩ rfl hd
theorem okc_X12_pathsNow {kn : sKn} {cc : ByteArray} {own : String} {nL : Nat} {D : Nat} {ret : Option FieldType} {ini : Bool} {pc index : Nat} (hD : 1 + 1 ≤ D) (hl : Cond.methodLink own index yX12_pathsNow ∈ wsL_law) (hd : decode cc pc = .ok (.invokevirtual index, 3)) : mOk kn cc own nL wsL_law D ret ini pc (a_callV false (fX12_pathsNow kn) 13 (0 + 1) (pc + 3)) := ok_callV (mX12_pathsNow kn) (good_ws ws_good (fun _ h => h) kw698) hD (by decide) hl kw699 kw700 kw686 ⟨by decide +kernel, by decide +kernel, by decide +kernel⟩ rfl hd
def tX12_able (kn : sKn) : List (Nat × sA) := [(0, a_aload 0 1), (1, a_stk (q_int 0) 2), (2, a_put 13 0 ckI 5), (5, a_aload 0 6), (6, a_callV true (fX12_layWhose kn) 13 1 9), (9, a_aload 0 10), (10, a_callV false (fX12_pathsNow kn) 13 1 13), (13, a_iret)]
def fX12_able (kn : sKn) : List Value → sW → Option sR := mF (tX12_able kn) 1 1000000
set_option maxRecDepth 100000 in
set_option maxHeartbeats 4000000 in
theorem mX12_able (kn : sKn) : mM kn yX12_able (Cond.code yX12_able cX12_able 1 (some .int) :: wsL_law) 2 false (fX12_able kn) := mM_of (own := RX12) (ini := false) rfl (by decide +kernel) (by decide +kernel) (all_c (ok_aload_n dX12_able_0 rfl) (all_c (ok_stk (s_iconst dX12_able_1 (by decide))) (all_c (okp_X12_0 kw693 dX12_able_2) (all_c (ok_aload_n dX12_able_5 rfl) (all_c (okc_X12_layWhose (by decide) kw697 dX12_able_6) (all_c (ok_aload_n dX12_able_9 rfl) (all_c (okc_X12_pathsNow (by decide) kw701 dX12_able_10) (all_c (ok_iret dX12_able_13) all_n)))))))) 1000000 (fun h => by first | rfl | cases h)
theorem dX12_isIn_0 : decode cX12_isIn 0 = .ok (.iload_n 0, 1) := by decide +kernel
theorem dX12_isIn_1 : decode cX12_isIn 1 = .ok (.iload_n 1, 1) := by decide +kernel
theorem dX12_isIn_2 : decode cX12_isIn 2 = .ok (.if_icmp .lt 12, 3) := by decide +kernel
theorem dX12_isIn_5 : decode cX12_isIn 5 = .ok (.iload_n 0, 1) := by decide +kernel
theorem dX12_isIn_6 : decode cX12_isIn 6 = .ok (.iload_n 2, 1) := by decide +kernel
theorem dX12_isIn_7 : decode cX12_isIn 7 = .ok (.if_icmp .gt 7, 3) := by decide +kernel
theorem dX12_isIn_10 : decode cX12_isIn 10 = .ok (.iconst 1, 1) := by decide +kernel
theorem dX12_isIn_11 : decode cX12_isIn 11 = .ok (.goto 4, 3) := by decide +kernel
theorem dX12_isIn_14 : decode cX12_isIn 14 = .ok (.iconst 0, 1) := by decide +kernel
theorem dX12_isIn_15 : decode cX12_isIn 15 = .ok (.ireturn, 1) := by decide +kernel
def tX12_isIn (kn : sKn) : List (Nat × sA) := [(0, a_iload 0 1), (1, a_iload 1 2), (2, a_icmp kn b_lt 2 14 5), (5, a_iload 0 6), (6, a_iload 2 7), (7, a_icmp kn b_gt 4 14 10), (10, a_stk (q_int 1) 11), (11, a_goto 15), (14, a_stk (q_int 0) 15), (15, a_zret)]
def fX12_isIn (kn : sKn) : List Value → sW → Option sR := mF (tX12_isIn kn) 3 1000000
set_option maxRecDepth 100000 in
set_option maxHeartbeats 4000000 in
theorem mX12_isIn (kn : sKn) : mM kn yX12_isIn (Cond.code yX12_isIn cX12_isIn 3 (some .boolean) :: wsL_law) 1 false (fX12_isIn kn) := mM_of (own := RX12) (ini := false) rfl (by decide +kernel) (by decide +kernel) (all_c (ok_iload_n dX12_isIn_0 rfl) (all_c (ok_iload_n dX12_isIn_1 rfl) (all_c (ok_icmp_lt dX12_isIn_2 (by decide)) (all_c (ok_iload_n dX12_isIn_5 rfl) (all_c (ok_iload_n dX12_isIn_6 rfl) (all_c (ok_icmp_gt dX12_isIn_7 (by decide)) (all_c (ok_stk (s_iconst dX12_isIn_10 (by decide))) (all_c (ok_goto dX12_isIn_11 (by decide)) (all_c (ok_stk (s_iconst dX12_isIn_14 (by decide))) (all_c (ok_zret dX12_isIn_15) all_n)))))))))) 1000000 (fun h => by first | rfl | cases h)
theorem dX12_asked_0 : decode cX12_asked 0 = .ok (.aload_n 0, 1) := by decide +kernel
theorem dX12_asked_1 : decode cX12_asked 1 = .ok (.iconst 0, 1) := by decide +kernel
theorem dX12_asked_2 : decode cX12_asked 2 = .ok (.putfield 1, 3) := by decide +kernel
theorem dX12_asked_5 : decode cX12_asked 5 = .ok (.iload_n 1, 1) := by decide +kernel
theorem dX12_asked_6 : decode cX12_asked 6 = .ok (.iconst 0, 1) := by decide +kernel
theorem dX12_asked_7 : decode cX12_asked 7 = .ok (.aload_n 0, 1) := by decide +kernel
theorem dX12_asked_8 : decode cX12_asked 8 = .ok (.getfield 380, 3) := by decide +kernel
theorem dX12_asked_11 : decode cX12_asked 11 = .ok (.iconst 1, 1) := by decide +kernel
theorem dX12_asked_12 : decode cX12_asked 12 = .ok (.isub, 1) := by decide +kernel
theorem dX12_asked_13 : decode cX12_asked 13 = .ok (.invokestatic 75, 3) := by decide +kernel
theorem dX12_asked_16 : decode cX12_asked 16 = .ok (.ifCond .eq 25, 3) := by decide +kernel
theorem dX12_asked_19 : decode cX12_asked 19 = .ok (.iload_n 2, 1) := by decide +kernel
theorem dX12_asked_20 : decode cX12_asked 20 = .ok (.iconst 0, 1) := by decide +kernel
theorem dX12_asked_21 : decode cX12_asked 21 = .ok (.iconst 2, 1) := by decide +kernel
theorem dX12_asked_22 : decode cX12_asked 22 = .ok (.invokestatic 75, 3) := by decide +kernel
theorem dX12_asked_25 : decode cX12_asked 25 = .ok (.ifCond .eq 16, 3) := by decide +kernel
theorem dX12_asked_28 : decode cX12_asked 28 = .ok (.aload_n 0, 1) := by decide +kernel
theorem dX12_asked_29 : decode cX12_asked 29 = .ok (.getfield 142, 3) := by decide +kernel
theorem dX12_asked_32 : decode cX12_asked 32 = .ok (.iconst 3, 1) := by decide +kernel
theorem dX12_asked_33 : decode cX12_asked 33 = .ok (.iload_n 1, 1) := by decide +kernel
theorem dX12_asked_34 : decode cX12_asked 34 = .ok (.imul, 1) := by decide +kernel
theorem dX12_asked_35 : decode cX12_asked 35 = .ok (.iload_n 2, 1) := by decide +kernel
theorem dX12_asked_36 : decode cX12_asked 36 = .ok (.iadd, 1) := by decide +kernel
theorem dX12_asked_37 : decode cX12_asked 37 = .ok (.iaload, 1) := by decide +kernel
theorem dX12_asked_38 : decode cX12_asked 38 = .ok (.goto 4, 3) := by decide +kernel
theorem dX12_asked_41 : decode cX12_asked 41 = .ok (.iconst (-1), 1) := by decide +kernel
theorem dX12_asked_42 : decode cX12_asked 42 = .ok (.ireturn, 1) := by decide +kernel
theorem okc_X12_isIn {kn : sKn} {cc : ByteArray} {own : String} {nL : Nat} {D : Nat} {ret : Option FieldType} {ini : Bool} {pc index : Nat} (hD : 1 + 1 ≤ D) (hl : Cond.methodLink own index yX12_isIn ∈ wsL_law) (hd : decode cc pc = .ok (.invokestatic index, 3)) : mOk kn cc own nL wsL_law D ret ini pc (a_callS false (fX12_isIn kn) 3 (pc + 3)) := ok_callS (mX12_isIn kn) (good_ws ws_good (fun _ h => h) kw703) hD (by decide) hl kw704 kw686 ⟨by decide +kernel, by decide +kernel, by decide +kernel⟩ hd
def tX12_asked (kn : sKn) : List (Nat × sA) := [(0, a_aload 0 1), (1, a_stk (q_int 0) 2), (2, a_put 13 0 ckI 5), (5, a_iload 1 6), (6, a_stk (q_int 0) 7), (7, a_aload 0 8), (8, a_get 13 35 11), (11, a_stk (q_int 1) 12), (12, a_stk q_isub 13), (13, a_callS false (fX12_isIn kn) 3 16), (16, a_if kn b_eq 0 41 19), (19, a_iload 2 20), (20, a_stk (q_int 0) 21), (21, a_stk (q_int 2) 22), (22, a_callS false (fX12_isIn kn) 3 25), (25, a_if kn b_eq 0 41 28), (28, a_aload 0 29), (29, a_get 13 33 32), (32, a_stk (q_int 3) 33), (33, a_iload 1 34), (34, a_stk q_imul 35), (35, a_iload 2 36), (36, a_stk q_iadd 37), (37, a_iald 38), (38, a_goto 42), (41, a_stk (q_int (-1)) 42), (42, a_iret)]
def fX12_asked (kn : sKn) : List Value → sW → Option sR := mF (tX12_asked kn) 3 1000000
set_option maxRecDepth 100000 in
set_option maxHeartbeats 4000000 in
theorem mX12_asked (kn : sKn) : mM kn yX12_asked (Cond.code yX12_asked cX12_asked 3 (some .int) :: wsL_law) 2 false (fX12_asked kn) := mM_of (own := RX12) (ini := false) rfl (by decide +kernel) (by decide +kernel) (all_c (ok_aload_n dX12_asked_0 rfl) (all_c (ok_stk (s_iconst dX12_asked_1 (by decide))) (all_c (okp_X12_0 kw693 dX12_asked_2) (all_c (ok_iload_n dX12_asked_5 rfl) (all_c (ok_stk (s_iconst dX12_asked_6 (by decide))) (all_c (ok_aload_n dX12_asked_7 rfl) (all_c (okg_X12_35 kw702 dX12_asked_8) (all_c (ok_stk (s_iconst dX12_asked_11 (by decide))) (all_c (ok_stk (s_isub dX12_asked_12)) (all_c (okc_X12_isIn (by decide) kw705 dX12_asked_13) (all_c (ok_if_eq dX12_asked_16 (by decide)) (all_c (ok_iload_n dX12_asked_19 rfl) (all_c (ok_stk (s_iconst dX12_asked_20 (by decide))) (all_c (ok_stk (s_iconst dX12_asked_21 (by decide))) (all_c (okc_X12_isIn (by decide) kw705 dX12_asked_22) (all_c (ok_if_eq dX12_asked_25 (by decide)) (all_c (ok_aload_n dX12_asked_28 rfl) (all_c (okg_X12_33 kw706 dX12_asked_29) (all_c (ok_stk (s_iconst dX12_asked_32 (by decide))) (all_c (ok_iload_n dX12_asked_33 rfl) (all_c (ok_stk (s_imul dX12_asked_34)) (all_c (ok_iload_n dX12_asked_35 rfl) (all_c (ok_stk (s_iadd dX12_asked_36)) (all_c (ok_iald dX12_asked_37) (all_c (ok_goto dX12_asked_38 (by decide)) (all_c (ok_stk (s_iconst dX12_asked_41 (by decide))) (all_c (ok_iret dX12_asked_42) all_n))))))))))))))))))))))))))) 1000000 (fun h => by first | rfl | cases h)
theorem dX12_isLoad_0 : decode cX12_isLoad 0 = .ok (.iload_n 1, 1) := by decide +kernel
theorem dX12_isLoad_1 : decode cX12_isLoad 1 = .ok (.iconst 0, 1) := by decide +kernel
theorem dX12_isLoad_2 : decode cX12_isLoad 2 = .ok (.aload_n 0, 1) := by decide +kernel
theorem dX12_isLoad_3 : decode cX12_isLoad 3 = .ok (.getfield 98, 3) := by decide +kernel
theorem dX12_isLoad_6 : decode cX12_isLoad 6 = .ok (.iconst 2, 1) := by decide +kernel
theorem dX12_isLoad_7 : decode cX12_isLoad 7 = .ok (.iaload, 1) := by decide +kernel
theorem dX12_isLoad_8 : decode cX12_isLoad 8 = .ok (.iconst 1, 1) := by decide +kernel
theorem dX12_isLoad_9 : decode cX12_isLoad 9 = .ok (.isub, 1) := by decide +kernel
theorem dX12_isLoad_10 : decode cX12_isLoad 10 = .ok (.invokestatic 75, 3) := by decide +kernel
theorem dX12_isLoad_13 : decode cX12_isLoad 13 = .ok (.ireturn, 1) := by decide +kernel
def tX12_isLoad (kn : sKn) : List (Nat × sA) := [(0, a_iload 1 1), (1, a_stk (q_int 0) 2), (2, a_aload 0 3), (3, a_get 13 14 6), (6, a_stk (q_int 2) 7), (7, a_iald 8), (8, a_stk (q_int 1) 9), (9, a_stk q_isub 10), (10, a_callS false (fX12_isIn kn) 3 13), (13, a_zret)]
def fX12_isLoad (kn : sKn) : List Value → sW → Option sR := mF (tX12_isLoad kn) 2 1000000
set_option maxRecDepth 100000 in
set_option maxHeartbeats 4000000 in
theorem mX12_isLoad (kn : sKn) : mM kn yX12_isLoad (Cond.code yX12_isLoad cX12_isLoad 2 (some .boolean) :: wsL_law) 2 false (fX12_isLoad kn) := mM_of (own := RX12) (ini := false) rfl (by decide +kernel) (by decide +kernel) (all_c (ok_iload_n dX12_isLoad_0 rfl) (all_c (ok_stk (s_iconst dX12_isLoad_1 (by decide))) (all_c (ok_aload_n dX12_isLoad_2 rfl) (all_c (okg_X12_14 kw683 dX12_isLoad_3) (all_c (ok_stk (s_iconst dX12_isLoad_6 (by decide))) (all_c (ok_iald dX12_isLoad_7) (all_c (ok_stk (s_iconst dX12_isLoad_8 (by decide))) (all_c (ok_stk (s_isub dX12_isLoad_9)) (all_c (okc_X12_isIn (by decide) kw705 dX12_isLoad_10) (all_c (ok_zret dX12_isLoad_13) all_n)))))))))) 1000000 (fun h => by first | rfl | cases h)
theorem dX12_least_0 : decode cX12_least 0 = .ok (.iload_n 0, 1) := by decide +kernel
theorem dX12_least_1 : decode cX12_least 1 = .ok (.iload_n 1, 1) := by decide +kernel
theorem dX12_least_2 : decode cX12_least 2 = .ok (.if_icmp .ge 7, 3) := by decide +kernel
theorem dX12_least_5 : decode cX12_least 5 = .ok (.iload_n 0, 1) := by decide +kernel
theorem dX12_least_6 : decode cX12_least 6 = .ok (.goto 4, 3) := by decide +kernel
theorem dX12_least_9 : decode cX12_least 9 = .ok (.iload_n 1, 1) := by decide +kernel
theorem dX12_least_10 : decode cX12_least 10 = .ok (.ireturn, 1) := by decide +kernel
def tX12_least (kn : sKn) : List (Nat × sA) := [(0, a_iload 0 1), (1, a_iload 1 2), (2, a_icmp kn b_ge 3 9 5), (5, a_iload 0 6), (6, a_goto 10), (9, a_iload 1 10), (10, a_iret)]
def fX12_least (kn : sKn) : List Value → sW → Option sR := mF (tX12_least kn) 2 1000000
set_option maxRecDepth 100000 in
set_option maxHeartbeats 4000000 in
theorem mX12_least (kn : sKn) : mM kn yX12_least (Cond.code yX12_least cX12_least 2 (some .int) :: wsL_law) 1 false (fX12_least kn) := mM_of (own := RX12) (ini := false) rfl (by decide +kernel) (by decide +kernel) (all_c (ok_iload_n dX12_least_0 rfl) (all_c (ok_iload_n dX12_least_1 rfl) (all_c (ok_icmp_ge dX12_least_2 (by decide)) (all_c (ok_iload_n dX12_least_5 rfl) (all_c (ok_goto dX12_least_6 (by decide)) (all_c (ok_iload_n dX12_least_9 rfl) (all_c (ok_iret dX12_least_10) all_n))))))) 1000000 (fun h => by first | rfl | cases h)
theorem dX12_asks_0 : decode cX12_asks 0 = .ok (.aload_n 0, 1) := by decide +kernel
theorem dX12_asks_1 : decode cX12_asks 1 = .ok (.iconst 0, 1) := by decide +kernel
theorem dX12_asks_2 : decode cX12_asks 2 = .ok (.putfield 1, 3) := by decide +kernel
theorem dX12_asks_5 : decode cX12_asks 5 = .ok (.aload_n 0, 1) := by decide +kernel
theorem dX12_asks_6 : decode cX12_asks 6 = .ok (.iload_n 1, 1) := by decide +kernel
theorem dX12_asks_7 : decode cX12_asks 7 = .ok (.invokevirtual 295, 3) := by decide +kernel
theorem dX12_asks_10 : decode cX12_asks 10 = .ok (.ifCond .ne 5, 3) := by decide +kernel
theorem dX12_asks_13 : decode cX12_asks 13 = .ok (.iconst (-1), 1) := by decide +kernel
theorem dX12_asks_14 : decode cX12_asks 14 = .ok (.ireturn, 1) := by decide +kernel
theorem dX12_asks_15 : decode cX12_asks 15 = .ok (.aload_n 0, 1) := by decide +kernel
theorem dX12_asks_16 : decode cX12_asks 16 = .ok (.invokevirtual 292, 3) := by decide +kernel
theorem dX12_asks_19 : decode cX12_asks 19 = .ok (.aload_n 0, 1) := by decide +kernel
theorem dX12_asks_20 : decode cX12_asks 20 = .ok (.getfield 98, 3) := by decide +kernel
theorem dX12_asks_23 : decode cX12_asks 23 = .ok (.iconst 0, 1) := by decide +kernel
theorem dX12_asks_24 : decode cX12_asks 24 = .ok (.iaload, 1) := by decide +kernel
theorem dX12_asks_25 : decode cX12_asks 25 = .ok (.istore_n 2, 1) := by decide +kernel
theorem dX12_asks_26 : decode cX12_asks 26 = .ok (.iload_n 2, 1) := by decide +kernel
theorem dX12_asks_27 : decode cX12_asks 27 = .ok (.iconst 1, 1) := by decide +kernel
theorem dX12_asks_28 : decode cX12_asks 28 = .ok (.isub, 1) := by decide +kernel
theorem dX12_asks_29 : decode cX12_asks 29 = .ok (.istore_n 3, 1) := by decide +kernel
theorem dX12_asks_30 : decode cX12_asks 30 = .ok (.iload_n 3, 1) := by decide +kernel
theorem dX12_asks_31 : decode cX12_asks 31 = .ok (.ifCond .lt 120, 3) := by decide +kernel
theorem dX12_asks_34 : decode cX12_asks 34 = .ok (.iconst 0, 1) := by decide +kernel
theorem dX12_asks_35 : decode cX12_asks 35 = .ok (.istore 4, 2) := by decide +kernel
theorem dX12_asks_37 : decode cX12_asks 37 = .ok (.iload 4, 2) := by decide +kernel
theorem dX12_asks_39 : decode cX12_asks 39 = .ok (.iconst 3, 1) := by decide +kernel
theorem dX12_asks_40 : decode cX12_asks 40 = .ok (.if_icmp .gt 105, 3) := by decide +kernel
theorem dX12_asks_43 : decode cX12_asks 43 = .ok (.iload_n 3, 1) := by decide +kernel
theorem dX12_asks_44 : decode cX12_asks 44 = .ok (.iload_n 2, 1) := by decide +kernel
theorem dX12_asks_45 : decode cX12_asks 45 = .ok (.iconst 1, 1) := by decide +kernel
theorem dX12_asks_46 : decode cX12_asks 46 = .ok (.isub, 1) := by decide +kernel
theorem dX12_asks_47 : decode cX12_asks 47 = .ok (.if_icmp .ne 7, 3) := by decide +kernel
theorem dX12_asks_50 : decode cX12_asks 50 = .ok (.iconst 0, 1) := by decide +kernel
theorem dX12_asks_51 : decode cX12_asks 51 = .ok (.goto 6, 3) := by decide +kernel
theorem dX12_asks_54 : decode cX12_asks 54 = .ok (.ldc_w 308, 3) := by decide +kernel
theorem dX12_asks_57 : decode cX12_asks 57 = .ok (.istore 5, 2) := by decide +kernel
theorem dX12_asks_59 : decode cX12_asks 59 = .ok (.iconst 0, 1) := by decide +kernel
theorem dX12_asks_60 : decode cX12_asks 60 = .ok (.istore 6, 2) := by decide +kernel
theorem dX12_asks_62 : decode cX12_asks 62 = .ok (.iload 6, 2) := by decide +kernel
theorem dX12_asks_64 : decode cX12_asks 64 = .ok (.iconst 3, 1) := by decide +kernel
theorem dX12_asks_65 : decode cX12_asks 65 = .ok (.if_icmp .gt 46, 3) := by decide +kernel
theorem dX12_asks_68 : decode cX12_asks 68 = .ok (.iload_n 3, 1) := by decide +kernel
theorem dX12_asks_69 : decode cX12_asks 69 = .ok (.iload_n 2, 1) := by decide +kernel
theorem dX12_asks_70 : decode cX12_asks 70 = .ok (.iconst 1, 1) := by decide +kernel
theorem dX12_asks_71 : decode cX12_asks 71 = .ok (.isub, 1) := by decide +kernel
theorem dX12_asks_72 : decode cX12_asks 72 = .ok (.if_icmp .ge 39, 3) := by decide +kernel
theorem dX12_asks_75 : decode cX12_asks 75 = .ok (.iload 4, 2) := by decide +kernel
theorem dX12_asks_77 : decode cX12_asks 77 = .ok (.iload 6, 2) := by decide +kernel
theorem dX12_asks_79 : decode cX12_asks 79 = .ok (.invokestatic 309, 3) := by decide +kernel
theorem dX12_asks_82 : decode cX12_asks 82 = .ok (.ifCond .eq 23, 3) := by decide +kernel
theorem dX12_asks_85 : decode cX12_asks 85 = .ok (.iload 5, 2) := by decide +kernel
theorem dX12_asks_87 : decode cX12_asks 87 = .ok (.aload_n 0, 1) := by decide +kernel
theorem dX12_asks_88 : decode cX12_asks 88 = .ok (.getfield 136, 3) := by decide +kernel
theorem dX12_asks_91 : decode cX12_asks 91 = .ok (.iconst 4, 1) := by decide +kernel
theorem dX12_asks_92 : decode cX12_asks 92 = .ok (.iload_n 3, 1) := by decide +kernel
theorem dX12_asks_93 : decode cX12_asks 93 = .ok (.imul, 1) := by decide +kernel
theorem dX12_asks_94 : decode cX12_asks 94 = .ok (.iconst 4, 1) := by decide +kernel
theorem dX12_asks_95 : decode cX12_asks 95 = .ok (.iadd, 1) := by decide +kernel
theorem dX12_asks_96 : decode cX12_asks 96 = .ok (.iload 6, 2) := by decide +kernel
theorem dX12_asks_98 : decode cX12_asks 98 = .ok (.iadd, 1) := by decide +kernel
theorem dX12_asks_99 : decode cX12_asks 99 = .ok (.iaload, 1) := by decide +kernel
theorem dX12_asks_100 : decode cX12_asks 100 = .ok (.invokestatic 312, 3) := by decide +kernel
theorem dX12_asks_103 : decode cX12_asks 103 = .ok (.istore 5, 2) := by decide +kernel
theorem dX12_asks_105 : decode cX12_asks 105 = .ok (.iinc 6 1, 3) := by decide +kernel
theorem dX12_asks_108 : decode cX12_asks 108 = .ok (.goto (-46), 3) := by decide +kernel
theorem dX12_asks_111 : decode cX12_asks 111 = .ok (.aload_n 0, 1) := by decide +kernel
theorem dX12_asks_112 : decode cX12_asks 112 = .ok (.getfield 136, 3) := by decide +kernel
theorem dX12_asks_115 : decode cX12_asks 115 = .ok (.iconst 4, 1) := by decide +kernel
theorem dX12_asks_116 : decode cX12_asks 116 = .ok (.iload_n 3, 1) := by decide +kernel
theorem dX12_asks_117 : decode cX12_asks 117 = .ok (.imul, 1) := by decide +kernel
theorem dX12_asks_118 : decode cX12_asks 118 = .ok (.iload 4, 2) := by decide +kernel
theorem dX12_asks_120 : decode cX12_asks 120 = .ok (.iadd, 1) := by decide +kernel
theorem dX12_asks_121 : decode cX12_asks 121 = .ok (.ldc_w 308, 3) := by decide +kernel
theorem dX12_asks_124 : decode cX12_asks 124 = .ok (.aload_n 0, 1) := by decide +kernel
theorem dX12_asks_125 : decode cX12_asks 125 = .ok (.iload_n 3, 1) := by decide +kernel
theorem dX12_asks_126 : decode cX12_asks 126 = .ok (.iload 4, 2) := by decide +kernel
theorem dX12_asks_128 : decode cX12_asks 128 = .ok (.iload_n 1, 1) := by decide +kernel
theorem dX12_asks_129 : decode cX12_asks 129 = .ok (.invokevirtual 377, 3) := by decide +kernel
theorem dX12_asks_132 : decode cX12_asks 132 = .ok (.iload 5, 2) := by decide +kernel
theorem dX12_asks_134 : decode cX12_asks 134 = .ok (.iadd, 1) := by decide +kernel
theorem dX12_asks_135 : decode cX12_asks 135 = .ok (.invokestatic 312, 3) := by decide +kernel
theorem dX12_asks_138 : decode cX12_asks 138 = .ok (.iastore, 1) := by decide +kernel
theorem dX12_asks_139 : decode cX12_asks 139 = .ok (.iinc 4 1, 3) := by decide +kernel
theorem dX12_asks_142 : decode cX12_asks 142 = .ok (.goto (-105), 3) := by decide +kernel
theorem dX12_asks_145 : decode cX12_asks 145 = .ok (.iinc 3 (-1), 3) := by decide +kernel
theorem dX12_asks_148 : decode cX12_asks 148 = .ok (.goto (-118), 3) := by decide +kernel
theorem dX12_asks_151 : decode cX12_asks 151 = .ok (.ldc_w 308, 3) := by decide +kernel
theorem dX12_asks_154 : decode cX12_asks 154 = .ok (.istore_n 3, 1) := by decide +kernel
theorem dX12_asks_155 : decode cX12_asks 155 = .ok (.iconst 0, 1) := by decide +kernel
theorem dX12_asks_156 : decode cX12_asks 156 = .ok (.istore 4, 2) := by decide +kernel
theorem dX12_asks_158 : decode cX12_asks 158 = .ok (.iload 4, 2) := by decide +kernel
theorem dX12_asks_160 : decode cX12_asks 160 = .ok (.iconst 3, 1) := by decide +kernel
theorem dX12_asks_161 : decode cX12_asks 161 = .ok (.if_icmp .gt 21, 3) := by decide +kernel
theorem dX12_asks_164 : decode cX12_asks 164 = .ok (.iload_n 3, 1) := by decide +kernel
theorem dX12_asks_165 : decode cX12_asks 165 = .ok (.aload_n 0, 1) := by decide +kernel
theorem dX12_asks_166 : decode cX12_asks 166 = .ok (.getfield 136, 3) := by decide +kernel
theorem dX12_asks_169 : decode cX12_asks 169 = .ok (.iload 4, 2) := by decide +kernel
theorem dX12_asks_171 : decode cX12_asks 171 = .ok (.iaload, 1) := by decide +kernel
theorem dX12_asks_172 : decode cX12_asks 172 = .ok (.invokestatic 312, 3) := by decide +kernel
theorem dX12_asks_175 : decode cX12_asks 175 = .ok (.istore_n 3, 1) := by decide +kernel
theorem dX12_asks_176 : decode cX12_asks 176 = .ok (.iinc 4 1, 3) := by decide +kernel
theorem dX12_asks_179 : decode cX12_asks 179 = .ok (.goto (-21), 3) := by decide +kernel
theorem dX12_asks_182 : decode cX12_asks 182 = .ok (.iload_n 3, 1) := by decide +kernel
theorem dX12_asks_183 : decode cX12_asks 183 = .ok (.ldc_w 308, 3) := by decide +kernel
theorem dX12_asks_186 : decode cX12_asks 186 = .ok (.if_icmp .lt 5, 3) := by decide +kernel
theorem dX12_asks_189 : decode cX12_asks 189 = .ok (.iconst (-1), 1) := by decide +kernel
theorem dX12_asks_190 : decode cX12_asks 190 = .ok (.ireturn, 1) := by decide +kernel
theorem dX12_asks_191 : decode cX12_asks 191 = .ok (.iconst 0, 1) := by decide +kernel
theorem dX12_asks_192 : decode cX12_asks 192 = .ok (.istore 4, 2) := by decide +kernel
theorem dX12_asks_194 : decode cX12_asks 194 = .ok (.iload 4, 2) := by decide +kernel
theorem dX12_asks_196 : decode cX12_asks 196 = .ok (.bipush 36, 2) := by decide +kernel
theorem dX12_asks_198 : decode cX12_asks 198 = .ok (.if_icmp .ge 17, 3) := by decide +kernel
theorem dX12_asks_201 : decode cX12_asks 201 = .ok (.aload_n 0, 1) := by decide +kernel
theorem dX12_asks_202 : decode cX12_asks 202 = .ok (.getfield 142, 3) := by decide +kernel
theorem dX12_asks_205 : decode cX12_asks 205 = .ok (.iload 4, 2) := by decide +kernel
theorem dX12_asks_207 : decode cX12_asks 207 = .ok (.iconst (-1), 1) := by decide +kernel
theorem dX12_asks_208 : decode cX12_asks 208 = .ok (.iastore, 1) := by decide +kernel
theorem dX12_asks_209 : decode cX12_asks 209 = .ok (.iinc 4 1, 3) := by decide +kernel
theorem dX12_asks_212 : decode cX12_asks 212 = .ok (.goto (-18), 3) := by decide +kernel
theorem dX12_asks_215 : decode cX12_asks 215 = .ok (.aload_n 0, 1) := by decide +kernel
theorem dX12_asks_216 : decode cX12_asks 216 = .ok (.iload_n 2, 1) := by decide +kernel
theorem dX12_asks_217 : decode cX12_asks 217 = .ok (.putfield 380, 3) := by decide +kernel
theorem dX12_asks_220 : decode cX12_asks 220 = .ok (.iload_n 3, 1) := by decide +kernel
theorem dX12_asks_221 : decode cX12_asks 221 = .ok (.istore 4, 2) := by decide +kernel
theorem dX12_asks_223 : decode cX12_asks 223 = .ok (.iconst (-1), 1) := by decide +kernel
theorem dX12_asks_224 : decode cX12_asks 224 = .ok (.istore 5, 2) := by decide +kernel
theorem dX12_asks_226 : decode cX12_asks 226 = .ok (.iconst 0, 1) := by decide +kernel
theorem dX12_asks_227 : decode cX12_asks 227 = .ok (.istore 6, 2) := by decide +kernel
theorem dX12_asks_229 : decode cX12_asks 229 = .ok (.iload 6, 2) := by decide +kernel
theorem dX12_asks_231 : decode cX12_asks 231 = .ok (.iload_n 2, 1) := by decide +kernel
theorem dX12_asks_232 : decode cX12_asks 232 = .ok (.if_icmp .ge 119, 3) := by decide +kernel
theorem dX12_asks_235 : decode cX12_asks 235 = .ok (.iconst 0, 1) := by decide +kernel
theorem dX12_asks_236 : decode cX12_asks 236 = .ok (.istore 7, 2) := by decide +kernel
theorem dX12_asks_238 : decode cX12_asks 238 = .ok (.aload_n 0, 1) := by decide +kernel
theorem dX12_asks_239 : decode cX12_asks 239 = .ok (.getfield 136, 3) := by decide +kernel
theorem dX12_asks_242 : decode cX12_asks 242 = .ok (.iconst 4, 1) := by decide +kernel
theorem dX12_asks_243 : decode cX12_asks 243 = .ok (.iload 6, 2) := by decide +kernel
theorem dX12_asks_245 : decode cX12_asks 245 = .ok (.imul, 1) := by decide +kernel
theorem dX12_asks_246 : decode cX12_asks 246 = .ok (.iload 7, 2) := by decide +kernel
theorem dX12_asks_248 : decode cX12_asks 248 = .ok (.iadd, 1) := by decide +kernel
theorem dX12_asks_249 : decode cX12_asks 249 = .ok (.iaload, 1) := by decide +kernel
theorem dX12_asks_250 : decode cX12_asks 250 = .ok (.iload 4, 2) := by decide +kernel
theorem dX12_asks_252 : decode cX12_asks 252 = .ok (.if_icmp .ne 18, 3) := by decide +kernel
theorem dX12_asks_255 : decode cX12_asks 255 = .ok (.iload 6, 2) := by decide +kernel
theorem dX12_asks_257 : decode cX12_asks 257 = .ok (.ifCond .le 19, 3) := by decide +kernel
theorem dX12_asks_260 : decode cX12_asks 260 = .ok (.iload 5, 2) := by decide +kernel
theorem dX12_asks_262 : decode cX12_asks 262 = .ok (.iload 7, 2) := by decide +kernel
theorem dX12_asks_264 : decode cX12_asks 264 = .ok (.invokestatic 309, 3) := by decide +kernel
theorem dX12_asks_267 : decode cX12_asks 267 = .ok (.ifCond .ne 9, 3) := by decide +kernel
theorem dX12_asks_270 : decode cX12_asks 270 = .ok (.iinc 7 1, 3) := by decide +kernel
theorem dX12_asks_273 : decode cX12_asks 273 = .ok (.goto (-35), 3) := by decide +kernel
theorem dX12_asks_276 : decode cX12_asks 276 = .ok (.iload 4, 2) := by decide +kernel
theorem dX12_asks_278 : decode cX12_asks 278 = .ok (.aload_n 0, 1) := by decide +kernel
theorem dX12_asks_279 : decode cX12_asks 279 = .ok (.iload 6, 2) := by decide +kernel
theorem dX12_asks_281 : decode cX12_asks 281 = .ok (.iload 7, 2) := by decide +kernel
theorem dX12_asks_283 : decode cX12_asks 283 = .ok (.iload_n 1, 1) := by decide +kernel
theorem dX12_asks_284 : decode cX12_asks 284 = .ok (.invokevirtual 377, 3) := by decide +kernel
theorem dX12_asks_287 : decode cX12_asks 287 = .ok (.isub, 1) := by decide +kernel
theorem dX12_asks_288 : decode cX12_asks 288 = .ok (.istore 4, 2) := by decide +kernel
theorem dX12_asks_290 : decode cX12_asks 290 = .ok (.iconst 0, 1) := by decide +kernel
theorem dX12_asks_291 : decode cX12_asks 291 = .ok (.istore 8, 2) := by decide +kernel
theorem dX12_asks_293 : decode cX12_asks 293 = .ok (.iload 8, 2) := by decide +kernel
theorem dX12_asks_295 : decode cX12_asks 295 = .ok (.aload_n 0, 1) := by decide +kernel
theorem dX12_asks_296 : decode cX12_asks 296 = .ok (.getfield 98, 3) := by decide +kernel
theorem dX12_asks_299 : decode cX12_asks 299 = .ok (.bipush 88, 2) := by decide +kernel
theorem dX12_asks_301 : decode cX12_asks 301 = .ok (.iload_n 1, 1) := by decide +kernel
theorem dX12_asks_302 : decode cX12_asks 302 = .ok (.iadd, 1) := by decide +kernel
theorem dX12_asks_303 : decode cX12_asks 303 = .ok (.iaload, 1) := by decide +kernel
theorem dX12_asks_304 : decode cX12_asks 304 = .ok (.if_icmp .ge 37, 3) := by decide +kernel
theorem dX12_asks_307 : decode cX12_asks 307 = .ok (.iload 7, 2) := by decide +kernel
theorem dX12_asks_309 : decode cX12_asks 309 = .ok (.iconst 3, 1) := by decide +kernel
theorem dX12_asks_310 : decode cX12_asks 310 = .ok (.if_icmp .eq 31, 3) := by decide +kernel
theorem dX12_asks_313 : decode cX12_asks 313 = .ok (.aload_n 0, 1) := by decide +kernel
theorem dX12_asks_314 : decode cX12_asks 314 = .ok (.getfield 142, 3) := by decide +kernel
theorem dX12_asks_317 : decode cX12_asks 317 = .ok (.iconst 3, 1) := by decide +kernel
theorem dX12_asks_318 : decode cX12_asks 318 = .ok (.iload 6, 2) := by decide +kernel
theorem dX12_asks_320 : decode cX12_asks 320 = .ok (.imul, 1) := by decide +kernel
theorem dX12_asks_321 : decode cX12_asks 321 = .ok (.iload 7, 2) := by decide +kernel
theorem dX12_asks_323 : decode cX12_asks 323 = .ok (.iadd, 1) := by decide +kernel
theorem dX12_asks_324 : decode cX12_asks 324 = .ok (.iload 8, 2) := by decide +kernel
theorem dX12_asks_326 : decode cX12_asks 326 = .ok (.iadd, 1) := by decide +kernel
theorem dX12_asks_327 : decode cX12_asks 327 = .ok (.aload_n 0, 1) := by decide +kernel
theorem dX12_asks_328 : decode cX12_asks 328 = .ok (.getfield 139, 3) := by decide +kernel
theorem dX12_asks_331 : decode cX12_asks 331 = .ok (.iload 8, 2) := by decide +kernel
theorem dX12_asks_333 : decode cX12_asks 333 = .ok (.iaload, 1) := by decide +kernel
theorem dX12_asks_334 : decode cX12_asks 334 = .ok (.iastore, 1) := by decide +kernel
theorem dX12_asks_335 : decode cX12_asks 335 = .ok (.iinc 8 1, 3) := by decide +kernel
theorem dX12_asks_338 : decode cX12_asks 338 = .ok (.goto (-45), 3) := by decide +kernel
theorem dX12_asks_341 : decode cX12_asks 341 = .ok (.iload 7, 2) := by decide +kernel
theorem dX12_asks_343 : decode cX12_asks 343 = .ok (.istore 5, 2) := by decide +kernel
theorem dX12_asks_345 : decode cX12_asks 345 = .ok (.iinc 6 1, 3) := by decide +kernel
theorem dX12_asks_348 : decode cX12_asks 348 = .ok (.goto (-119), 3) := by decide +kernel
theorem dX12_asks_351 : decode cX12_asks 351 = .ok (.iload_n 3, 1) := by decide +kernel
theorem dX12_asks_352 : decode cX12_asks 352 = .ok (.ireturn, 1) := by decide +kernel
theorem okc_X12_isLoad {kn : sKn} {cc : ByteArray} {own : String} {nL : Nat} {D : Nat} {ret : Option FieldType} {ini : Bool} {pc index : Nat} (hD : 2 + 1 ≤ D) (hl : Cond.methodLink own index yX12_isLoad ∈ wsL_law) (hd : decode cc pc = .ok (.invokevirtual index, 3)) : mOk kn cc own nL wsL_law D ret ini pc (a_callV false (fX12_isLoad kn) 13 (1 + 1) (pc + 3)) := ok_callV (mX12_isLoad kn) (good_ws ws_good (fun _ h => h) kw707) hD (by decide) hl kw708 kw709 kw686 ⟨by decide +kernel, by decide +kernel, by decide +kernel⟩ rfl hd
theorem okc0_X12_follows {kn : sKn} {cc : ByteArray} {own : String} {nL : Nat} {D : Nat} {ret : Option FieldType} {ini : Bool} {pc index : Nat} (hD : 0 + 1 ≤ D) (hl : Cond.methodLink own index yX12_follows ∈ wsL_law) (hd : decode cc pc = .ok (.invokestatic index, 3)) : mOk kn cc own nL wsL_law D ret ini pc (a_callS false f_none 2 (pc + 3)) := ok_callS (m_none (D := 0)) (good_ws ws_good (fun _ h => h) kw712) hD (by decide) hl kw713 kw686 ⟨by decide +kernel, by decide +kernel, by decide +kernel⟩ hd
theorem okc_X12_least {kn : sKn} {cc : ByteArray} {own : String} {nL : Nat} {D : Nat} {ret : Option FieldType} {ini : Bool} {pc index : Nat} (hD : 1 + 1 ≤ D) (hl : Cond.methodLink own index yX12_least ∈ wsL_law) (hd : decode cc pc = .ok (.invokestatic index, 3)) : mOk kn cc own nL wsL_law D ret ini pc (a_callS false (fX12_least kn) 2 (pc + 3)) := ok_callS (mX12_least kn) (good_ws ws_good (fun _ h => h) kw716) hD (by decide) hl kw717 kw686 ⟨by decide +kernel, by decide +kernel, by decide +kernel⟩ hd
theorem okc0_X12_priceAt {kn : sKn} {cc : ByteArray} {own : String} {nL : Nat} {D : Nat} {ret : Option FieldType} {ini : Bool} {pc index : Nat} (hD : 0 + 1 ≤ D) (hl : Cond.methodLink own index yX12_priceAt ∈ wsL_law) (hd : decode cc pc = .ok (.invokevirtual index, 3)) : mOk kn cc own nL wsL_law D ret ini pc (a_callV false f_none 13 (3 + 1) (pc + 3)) := ok_callV (m_none (D := 0)) (good_ws ws_good (fun _ h => h) kw719) hD (by decide) hl kw720 kw721 kw686 ⟨by decide +kernel, by decide +kernel, by decide +kernel⟩ rfl hd
def tX12_asks (kn : sKn) : List (Nat × sA) := [(0, a_aload 0 1), (1, a_stk (q_int 0) 2), (2, a_put 13 0 ckI 5), (5, a_aload 0 6), (6, a_iload 1 7), (7, a_callV false (fX12_isLoad kn) 13 2 10), (10, a_if kn b_ne 1 15 13), (13, a_stk (q_int (-1)) 14), (14, a_iret), (15, a_aload 0 16), (16, a_callV true (fX12_layWhose kn) 13 1 19), (19, a_aload 0 20), (20, a_get 13 14 23), (23, a_stk (q_int 0) 24), (24, a_iald 25), (25, a_istore 2 26), (26, a_iload 2 27), (27, a_stk (q_int 1) 28), (28, a_stk q_isub 29), (29, a_istore 3 30), (30, a_iload 3 31), (31, a_if kn b_lt 2 151 34), (34, a_stk (q_int 0) 35), (35, a_istore 4 37), (37, a_iload 4 39), (39, a_stk (q_int 3) 40), (40, a_icmp kn b_gt 4 145 43), (43, a_iload 3 44), (44, a_iload 2 45), (45, a_stk (q_int 1) 46), (46, a_stk q_isub 47), (47, a_icmp kn b_ne 1 54 50), (50, a_stk (q_int 0) 51), (51, a_goto 57), (54, a_stk (q_int (100000)) 57), (57, a_istore 5 59), (59, a_stk (q_int 0) 60), (60, a_istore 6 62), (62, a_iload 6 64), (64, a_stk (q_int 3) 65), (65, a_icmp kn b_gt 4 111 68), (68, a_iload 3 69), (69, a_iload 2 70), (70, a_stk (q_int 1) 71), (71, a_stk q_isub 72), (72, a_icmp kn b_ge 3 111 75), (75, a_iload 4 77), (77, a_iload 6 79), (79, a_callS false f_none 2 82), (82, a_if kn b_eq 0 105 85), (85, a_iload 5 87), (87, a_aload 0 88), (88, a_get 13 31 91), (91, a_stk (q_int 4) 92), (92, a_iload 3 93), (93, a_stk q_imul 94), (94, a_stk (q_int 4) 95), (95, a_stk q_iadd 96), (96, a_iload 6 98), (98, a_stk q_iadd 99), (99, a_iald 100), (100, a_callS false (fX12_least kn) 2 103), (103, a_istore 5 105), (105, a_iinc 6 1 108), (108, a_goto 62), (111, a_aload 0 112), (112, a_get 13 31 115), (115, a_stk (q_int 4) 116), (116, a_iload 3 117), (117, a_stk q_imul 118), (118, a_iload 4 120), (120, a_stk q_iadd 121), (121, a_stk (q_int (100000)) 124), (124, a_aload 0 125), (125, a_iload 3 126), (126, a_iload 4 128), (128, a_iload 1 129), (129, a_callV false f_none 13 4 132), (132, a_iload 5 134), (134, a_stk q_iadd 135), (135, a_callS false (fX12_least kn) 2 138), (138, a_iast 139), (139, a_iinc 4 1 142), (142, a_goto 37), (145, a_iinc 3 (-1) 148), (148, a_goto 30), (151, a_stk (q_int (100000)) 154), (154, a_istore 3 155), (155, a_stk (q_int 0) 156), (156, a_istore 4 158), (158, a_iload 4 160), (160, a_stk (q_int 3) 161), (161, a_icmp kn b_gt 4 182 164), (164, a_iload 3 165), (165, a_aload 0 166), (166, a_get 13 31 169), (169, a_iload 4 171), (171, a_iald 172), (172, a_callS false (fX12_least kn) 2 175), (175, a_istore 3 176), (176, a_iinc 4 1 179), (179, a_goto 158), (182, a_iload 3 183), (183, a_stk (q_int (100000)) 186), (186, a_icmp kn b_lt 2 191 189), (189, a_stk (q_int (-1)) 190), (190, a_iret), (191, a_stk (q_int 0) 192), (192, a_istore 4 194), (194, a_iload 4 196), (196, a_stk (q_int 36) 198), (198, a_icmp kn b_ge 3 215 201), (201, a_aload 0 202), (202, a_get 13 33 205), (205, a_iload 4 207), (207, a_stk (q_int (-1)) 208), (208, a_iast 209), (209, a_iinc 4 1 212), (212, a_goto 194), (215, a_aload 0 216), (216, a_iload 2 217), (217, a_put 13 35 ckI 220), (220, a_iload 3 221), (221, a_istore 4 223), (223, a_stk (q_int (-1)) 224), (224, a_istore 5 226), (226, a_stk (q_int 0) 227), (227, a_istore 6 229), (229, a_iload 6 231), (231, a_iload 2 232), (232, a_icmp kn b_ge 3 351 235), (235, a_stk (q_int 0) 236), (236, a_istore 7 238), (238, a_aload 0 239), (239, a_get 13 31 242), (242, a_stk (q_int 4) 243), (243, a_iload 6 245), (245, a_stk q_imul 246), (246, a_iload 7 248), (248, a_stk q_iadd 249), (249, a_iald 250), (250, a_iload 4 252), (252, a_icmp kn b_ne 1 270 255), (255, a_iload 6 257), (257, a_if kn b_le 5 276 260), (260, a_iload 5 262), (262, a_iload 7 264), (264, a_callS false f_none 2 267), (267, a_if kn b_ne 1 276 270), (270, a_iinc 7 1 273), (273, a_goto 238), (276, a_iload 4 278), (278, a_aload 0 279), (279, a_iload 6 281), (281, a_iload 7 283), (283, a_iload 1 284), (284, a_callV false f_none 13 4 287), (287, a_stk q_isub 288), (288, a_istore 4 290), (290, a_stk (q_int 0) 291), (291, a_istore 8 293), (293, a_iload 8 295), (295, a_aload 0 296), (296, a_get 13 14 299), (299, a_stk (q_int 88) 301), (301, a_iload 1 302), (302, a_stk q_iadd 303), (303, a_iald 304), (304, a_icmp kn b_ge 3 341 307), (307, a_iload 7 309), (309, a_stk (q_int 3) 310), (310, a_icmp kn b_eq 0 341 313), (313, a_aload 0 314), (314, a_get 13 33 317), (317, a_stk (q_int 3) 318), (318, a_iload 6 320), (320, a_stk q_imul 321), (321, a_iload 7 323), (323, a_stk q_iadd 324), (324, a_iload 8 326), (326, a_stk q_iadd 327), (327, a_aload 0 328), (328, a_get 13 32 331), (331, a_iload 8 333), (333, a_iald 334), (334, a_iast 335), (335, a_iinc 8 1 338), (338, a_goto 293), (341, a_iload 7 343), (343, a_istore 5 345), (345, a_iinc 6 1 348), (348, a_goto 229), (351, a_iload 3 352), (352, a_iret)]
def fX12_asks (kn : sKn) : List Value → sW → Option sR := mF (tX12_asks kn) 9 1000000
set_option maxRecDepth 100000 in
set_option maxHeartbeats 4000000 in
theorem mX12_asks (kn : sKn) : mM kn yX12_asks (Cond.code yX12_asks cX12_asks 9 (some .int) :: wsL_law) 3 false (fX12_asks kn) := mM_of (own := RX12) (ini := false) rfl (by decide +kernel) (by decide +kernel) (all_c (ok_aload_n dX12_asks_0 rfl) (all_c (ok_stk (s_iconst dX12_asks_1 (by decide))) (all_c (okp_X12_0 kw693 dX12_asks_2) (all_c (ok_aload_n dX12_asks_5 rfl) (all_c (ok_iload_n dX12_asks_6 rfl) (all_c (okc_X12_isLoad (by decide) kw710 dX12_asks_7) (all_c (ok_if_ne dX12_asks_10 (by decide)) (all_c (ok_stk (s_iconst dX12_asks_13 (by decide))) (all_c (ok_iret dX12_asks_14) (all_c (ok_aload_n dX12_asks_15 rfl) (all_c (okc_X12_layWhose (by decide) kw697 dX12_asks_16) (all_c (ok_aload_n dX12_asks_19 rfl) (all_c (okg_X12_14 kw683 dX12_asks_20) (all_c (ok_stk (s_iconst dX12_asks_23 (by decide))) (all_c (ok_iald dX12_asks_24) (all_c (ok_istore_n dX12_asks_25 rfl (by decide)) (all_c (ok_iload_n dX12_asks_26 rfl) (all_c (ok_stk (s_iconst dX12_asks_27 (by decide))) (all_c (ok_stk (s_isub dX12_asks_28)) (all_c (ok_istore_n dX12_asks_29 rfl (by decide)) (all_c (ok_iload_n dX12_asks_30 rfl) (all_c (ok_if_lt dX12_asks_31 (by decide)) (all_c (ok_stk (s_iconst dX12_asks_34 (by decide))) (all_c (ok_istore dX12_asks_35 (by decide)) (all_c (ok_iload dX12_asks_37) (all_c (ok_stk (s_iconst dX12_asks_39 (by decide))) (all_c (ok_icmp_gt dX12_asks_40 (by decide)) (all_c (ok_iload_n dX12_asks_43 rfl) (all_c (ok_iload_n dX12_asks_44 rfl) (all_c (ok_stk (s_iconst dX12_asks_45 (by decide))) (all_c (ok_stk (s_isub dX12_asks_46)) (all_c (ok_icmp_ne dX12_asks_47 (by decide)) (all_c (ok_stk (s_iconst dX12_asks_50 (by decide))) (all_c (ok_goto dX12_asks_51 (by decide)) (all_c (ok_ldcw kw711 dX12_asks_54) (all_c (ok_istore dX12_asks_57 (by decide)) (all_c (ok_stk (s_iconst dX12_asks_59 (by decide))) (all_c (ok_istore dX12_asks_60 (by decide)) (all_c (ok_iload dX12_asks_62) (all_c (ok_stk (s_iconst dX12_asks_64 (by decide))) (all_c (ok_icmp_gt dX12_asks_65 (by decide)) (all_c (ok_iload_n dX12_asks_68 rfl) (all_c (ok_iload_n dX12_asks_69 rfl) (all_c (ok_stk (s_iconst dX12_asks_70 (by decide))) (all_c (ok_stk (s_isub dX12_asks_71)) (all_c (ok_icmp_ge dX12_asks_72 (by decide)) (all_c (ok_iload dX12_asks_75) (all_c (ok_iload dX12_asks_77) (all_c (okc0_X12_follows (by decide) kw714 dX12_asks_79) (all_c (ok_if_eq dX12_asks_82 (by decide)) (all_c (ok_iload dX12_asks_85) (all_c (ok_aload_n dX12_asks_87 rfl) (all_c (okg_X12_31 kw715 dX12_asks_88) (all_c (ok_stk (s_iconst dX12_asks_91 (by decide))) (all_c (ok_iload_n dX12_asks_92 rfl) (all_c (ok_stk (s_imul dX12_asks_93)) (all_c (ok_stk (s_iconst dX12_asks_94 (by decide))) (all_c (ok_stk (s_iadd dX12_asks_95)) (all_c (ok_iload dX12_asks_96) (all_c (ok_stk (s_iadd dX12_asks_98)) (all_c (ok_iald dX12_asks_99) (all_c (okc_X12_least (by decide) kw718 dX12_asks_100) (all_c (ok_istore dX12_asks_103 (by decide)) (all_c (ok_iinc dX12_asks_105 (by decide) (by decide)) (all_c (ok_goto dX12_asks_108 (by decide)) (all_c (ok_aload_n dX12_asks_111 rfl) (all_c (okg_X12_31 kw715 dX12_asks_112) (all_c (ok_stk (s_iconst dX12_asks_115 (by decide))) (all_c (ok_iload_n dX12_asks_116 rfl) (all_c (ok_stk (s_imul dX12_asks_117)) (all_c (ok_iload dX12_asks_118) (all_c (ok_stk (s_iadd dX12_asks_120)) (all_c (ok_ldcw kw711 dX12_asks_121) (all_c (ok_aload_n dX12_asks_124 rfl) (all_c (ok_iload_n dX12_asks_125 rfl) (all_c (ok_iload dX12_asks_126) (all_c (ok_iload_n dX12_asks_128 rfl) (all_c (okc0_X12_priceAt (by decide) kw722 dX12_asks_129) (all_c (ok_iload dX12_asks_132) (all_c (ok_stk (s_iadd dX12_asks_134)) (all_c (okc_X12_least (by decide) kw718 dX12_asks_135) (all_c (ok_iast dX12_asks_138) (all_c (ok_iinc dX12_asks_139 (by decide) (by decide)) (all_c (ok_goto dX12_asks_142 (by decide)) (all_c (ok_iinc dX12_asks_145 (by decide) (by decide)) (all_c (ok_goto dX12_asks_148 (by decide)) (all_c (ok_ldcw kw711 dX12_asks_151) (all_c (ok_istore_n dX12_asks_154 rfl (by decide)) (all_c (ok_stk (s_iconst dX12_asks_155 (by decide))) (all_c (ok_istore dX12_asks_156 (by decide)) (all_c (ok_iload dX12_asks_158) (all_c (ok_stk (s_iconst dX12_asks_160 (by decide))) (all_c (ok_icmp_gt dX12_asks_161 (by decide)) (all_c (ok_iload_n dX12_asks_164 rfl) (all_c (ok_aload_n dX12_asks_165 rfl) (all_c (okg_X12_31 kw715 dX12_asks_166) (all_c (ok_iload dX12_asks_169) (all_c (ok_iald dX12_asks_171) (all_c (okc_X12_least (by decide) kw718 dX12_asks_172) (all_c (ok_istore_n dX12_asks_175 rfl (by decide)) (all_c (ok_iinc dX12_asks_176 (by decide) (by decide)) (all_c (ok_goto dX12_asks_179 (by decide)) (all_c (ok_iload_n dX12_asks_182 rfl) (all_c (ok_ldcw kw711 dX12_asks_183) (all_c (ok_icmp_lt dX12_asks_186 (by decide)) (all_c (ok_stk (s_iconst dX12_asks_189 (by decide))) (all_c (ok_iret dX12_asks_190) (all_c (ok_stk (s_iconst dX12_asks_191 (by decide))) (all_c (ok_istore dX12_asks_192 (by decide)) (all_c (ok_iload dX12_asks_194) (all_c (ok_stk (s_bipush dX12_asks_196 (by decide))) (all_c (ok_icmp_ge dX12_asks_198 (by decide)) (all_c (ok_aload_n dX12_asks_201 rfl) (all_c (okg_X12_33 kw706 dX12_asks_202) (all_c (ok_iload dX12_asks_205) (all_c (ok_stk (s_iconst dX12_asks_207 (by decide))) (all_c (ok_iast dX12_asks_208) (all_c (ok_iinc dX12_asks_209 (by decide) (by decide)) (all_c (ok_goto dX12_asks_212 (by decide)) (all_c (ok_aload_n dX12_asks_215 rfl) (all_c (ok_iload_n dX12_asks_216 rfl) (all_c (okp_X12_35 kw702 dX12_asks_217) (all_c (ok_iload_n dX12_asks_220 rfl) (all_c (ok_istore dX12_asks_221 (by decide)) (all_c (ok_stk (s_iconst dX12_asks_223 (by decide))) (all_c (ok_istore dX12_asks_224 (by decide)) (all_c (ok_stk (s_iconst dX12_asks_226 (by decide))) (all_c (ok_istore dX12_asks_227 (by decide)) (all_c (ok_iload dX12_asks_229) (all_c (ok_iload_n dX12_asks_231 rfl) (all_c (ok_icmp_ge dX12_asks_232 (by decide)) (all_c (ok_stk (s_iconst dX12_asks_235 (by decide))) (all_c (ok_istore dX12_asks_236 (by decide)) (all_c (ok_aload_n dX12_asks_238 rfl) (all_c (okg_X12_31 kw715 dX12_asks_239) (all_c (ok_stk (s_iconst dX12_asks_242 (by decide))) (all_c (ok_iload dX12_asks_243) (all_c (ok_stk (s_imul dX12_asks_245)) (all_c (ok_iload dX12_asks_246) (all_c (ok_stk (s_iadd dX12_asks_248)) (all_c (ok_iald dX12_asks_249) (all_c (ok_iload dX12_asks_250) (all_c (ok_icmp_ne dX12_asks_252 (by decide)) (all_c (ok_iload dX12_asks_255) (all_c (ok_if_le dX12_asks_257 (by decide)) (all_c (ok_iload dX12_asks_260) (all_c (ok_iload dX12_asks_262) (all_c (okc0_X12_follows (by decide) kw714 dX12_asks_264) (all_c (ok_if_ne dX12_asks_267 (by decide)) (all_c (ok_iinc dX12_asks_270 (by decide) (by decide)) (all_c (ok_goto dX12_asks_273 (by decide)) (all_c (ok_iload dX12_asks_276) (all_c (ok_aload_n dX12_asks_278 rfl) (all_c (ok_iload dX12_asks_279) (all_c (ok_iload dX12_asks_281) (all_c (ok_iload_n dX12_asks_283 rfl) (all_c (okc0_X12_priceAt (by decide) kw722 dX12_asks_284) (all_c (ok_stk (s_isub dX12_asks_287)) (all_c (ok_istore dX12_asks_288 (by decide)) (all_c (ok_stk (s_iconst dX12_asks_290 (by decide))) (all_c (ok_istore dX12_asks_291 (by decide)) (all_c (ok_iload dX12_asks_293) (all_c (ok_aload_n dX12_asks_295 rfl) (all_c (okg_X12_14 kw683 dX12_asks_296) (all_c (ok_stk (s_bipush dX12_asks_299 (by decide))) (all_c (ok_iload_n dX12_asks_301 rfl) (all_c (ok_stk (s_iadd dX12_asks_302)) (all_c (ok_iald dX12_asks_303) (all_c (ok_icmp_ge dX12_asks_304 (by decide)) (all_c (ok_iload dX12_asks_307) (all_c (ok_stk (s_iconst dX12_asks_309 (by decide))) (all_c (ok_icmp_eq dX12_asks_310 (by decide)) (all_c (ok_aload_n dX12_asks_313 rfl) (all_c (okg_X12_33 kw706 dX12_asks_314) (all_c (ok_stk (s_iconst dX12_asks_317 (by decide))) (all_c (ok_iload dX12_asks_318) (all_c (ok_stk (s_imul dX12_asks_320)) (all_c (ok_iload dX12_asks_321) (all_c (ok_stk (s_iadd dX12_asks_323)) (all_c (ok_iload dX12_asks_324) (all_c (ok_stk (s_iadd dX12_asks_326)) (all_c (ok_aload_n dX12_asks_327 rfl) (all_c (okg_X12_32 kw723 dX12_asks_328) (all_c (ok_iload dX12_asks_331) (all_c (ok_iald dX12_asks_333) (all_c (ok_iast dX12_asks_334) (all_c (ok_iinc dX12_asks_335 (by decide) (by decide)) (all_c (ok_goto dX12_asks_338 (by decide)) (all_c (ok_iload dX12_asks_341) (all_c (ok_istore dX12_asks_343 (by decide)) (all_c (ok_iinc dX12_asks_345 (by decide) (by decide)) (all_c (ok_goto dX12_asks_348 (by decide)) (all_c (ok_iload_n dX12_asks_351 rfl) (all_c (ok_iret dX12_asks_352) all_n)))))))))))))))))))))))))))))))))))))))))))))))))))))))))))))))))))))))))))))))))))))))))))))))))))))))))))))))))))))))))))))))))))))))))))))))))))))))))))))))))))))))))))))))))))))))))))))))))) 1000000 (fun h => by first | rfl | cases h)
theorem dX12_bad_0 : decode cX12_bad 0 = .ok (.aload_n 0, 1) := by decide +kernel
theorem dX12_bad_1 : decode cX12_bad 1 = .ok (.aload_n 0, 1) := by decide +kernel
theorem dX12_bad_2 : decode cX12_bad 2 = .ok (.getfield 30, 3) := by decide +kernel
theorem dX12_bad_5 : decode cX12_bad 5 = .ok (.iconst 1, 1) := by decide +kernel
theorem dX12_bad_6 : decode cX12_bad 6 = .ok (.if_icmp .ne 7, 3) := by decide +kernel
theorem dX12_bad_9 : decode cX12_bad 9 = .ok (.iconst 1, 1) := by decide +kernel
theorem dX12_bad_10 : decode cX12_bad 10 = .ok (.goto 4, 3) := by decide +kernel
theorem dX12_bad_13 : decode cX12_bad 13 = .ok (.iload_n 1, 1) := by decide +kernel
theorem dX12_bad_14 : decode cX12_bad 14 = .ok (.putfield 66, 3) := by decide +kernel
theorem dX12_bad_17 : decode cX12_bad 17 = .ok (.aload_n 0, 1) := by decide +kernel
theorem dX12_bad_18 : decode cX12_bad 18 = .ok (.aload_n 0, 1) := by decide +kernel
theorem dX12_bad_19 : decode cX12_bad 19 = .ok (.getfield 24, 3) := by decide +kernel
theorem dX12_bad_22 : decode cX12_bad 22 = .ok (.putfield 69, 3) := by decide +kernel
theorem dX12_bad_25 : decode cX12_bad 25 = .ok (.iconst 0, 1) := by decide +kernel
theorem dX12_bad_26 : decode cX12_bad 26 = .ok (.ireturn, 1) := by decide +kernel
def tX12_bad (kn : sKn) : List (Nat × sA) := [(0, a_aload 0 1), (1, a_aload 0 2), (2, a_get 13 7 5), (5, a_stk (q_int 1) 6), (6, a_icmp kn b_ne 1 13 9), (9, a_stk (q_int 1) 10), (10, a_goto 14), (13, a_iload 1 14), (14, a_put 13 10 ckI 17), (17, a_aload 0 18), (18, a_aload 0 19), (19, a_get 13 6 22), (22, a_put 13 11 ckI 25), (25, a_stk (q_int 0) 26), (26, a_zret)]
def fX12_bad (kn : sKn) : List Value → sW → Option sR := mF (tX12_bad kn) 2 1000000
set_option maxRecDepth 100000 in
set_option maxHeartbeats 4000000 in
theorem mX12_bad (kn : sKn) : mM kn yX12_bad (Cond.code yX12_bad cX12_bad 2 (some .boolean) :: wsL_law) 1 false (fX12_bad kn) := mM_of (own := RX12) (ini := false) rfl (by decide +kernel) (by decide +kernel) (all_c (ok_aload_n dX12_bad_0 rfl) (all_c (ok_aload_n dX12_bad_1 rfl) (all_c (okg_X12_7 kw724 dX12_bad_2) (all_c (ok_stk (s_iconst dX12_bad_5 (by decide))) (all_c (ok_icmp_ne dX12_bad_6 (by decide)) (all_c (ok_stk (s_iconst dX12_bad_9 (by decide))) (all_c (ok_goto dX12_bad_10 (by decide)) (all_c (ok_iload_n dX12_bad_13 rfl) (all_c (okp_X12_10 kw725 dX12_bad_14) (all_c (ok_aload_n dX12_bad_17 rfl) (all_c (ok_aload_n dX12_bad_18 rfl) (all_c (okg_X12_6 kw726 dX12_bad_19) (all_c (okp_X12_11 kw727 dX12_bad_22) (all_c (ok_stk (s_iconst dX12_bad_25 (by decide))) (all_c (ok_zret dX12_bad_26) all_n))))))))))))))) 1000000 (fun h => by first | rfl | cases h)
theorem dX12_bearsAt_0 : decode cX12_bearsAt 0 = .ok (.aload_n 0, 1) := by decide +kernel
theorem dX12_bearsAt_1 : decode cX12_bearsAt 1 = .ok (.getfield 127, 3) := by decide +kernel
theorem dX12_bearsAt_4 : decode cX12_bearsAt 4 = .ok (.iload_n 1, 1) := by decide +kernel
theorem dX12_bearsAt_5 : decode cX12_bearsAt 5 = .ok (.iaload, 1) := by decide +kernel
theorem dX12_bearsAt_6 : decode cX12_bearsAt 6 = .ok (.istore_n 2, 1) := by decide +kernel
theorem dX12_bearsAt_7 : decode cX12_bearsAt 7 = .ok (.iload_n 2, 1) := by decide +kernel
theorem dX12_bearsAt_8 : decode cX12_bearsAt 8 = .ok (.iconst (-1), 1) := by decide +kernel
theorem dX12_bearsAt_9 : decode cX12_bearsAt 9 = .ok (.if_icmp .eq 14, 3) := by decide +kernel
theorem dX12_bearsAt_12 : decode cX12_bearsAt 12 = .ok (.aload_n 0, 1) := by decide +kernel
theorem dX12_bearsAt_13 : decode cX12_bearsAt 13 = .ok (.getfield 267, 3) := by decide +kernel
theorem dX12_bearsAt_16 : decode cX12_bearsAt 16 = .ok (.iload_n 2, 1) := by decide +kernel
theorem dX12_bearsAt_17 : decode cX12_bearsAt 17 = .ok (.invokestatic 225, 3) := by decide +kernel
theorem dX12_bearsAt_20 : decode cX12_bearsAt 20 = .ok (.ifCond .eq 5, 3) := by decide +kernel
theorem dX12_bearsAt_23 : decode cX12_bearsAt 23 = .ok (.iconst 0, 1) := by decide +kernel
theorem dX12_bearsAt_24 : decode cX12_bearsAt 24 = .ok (.ireturn, 1) := by decide +kernel
theorem dX12_bearsAt_25 : decode cX12_bearsAt 25 = .ok (.bipush 10, 2) := by decide +kernel
theorem dX12_bearsAt_27 : decode cX12_bearsAt 27 = .ok (.aload_n 0, 1) := by decide +kernel
theorem dX12_bearsAt_28 : decode cX12_bearsAt 28 = .ok (.getfield 98, 3) := by decide +kernel
theorem dX12_bearsAt_31 : decode cX12_bearsAt 31 = .ok (.bipush 98, 2) := by decide +kernel
theorem dX12_bearsAt_33 : decode cX12_bearsAt 33 = .ok (.iload_n 2, 1) := by decide +kernel
theorem dX12_bearsAt_34 : decode cX12_bearsAt 34 = .ok (.iadd, 1) := by decide +kernel
theorem dX12_bearsAt_35 : decode cX12_bearsAt 35 = .ok (.iaload, 1) := by decide +kernel
theorem dX12_bearsAt_36 : decode cX12_bearsAt 36 = .ok (.imul, 1) := by decide +kernel
theorem dX12_bearsAt_37 : decode cX12_bearsAt 37 = .ok (.iconst 5, 1) := by decide +kernel
theorem dX12_bearsAt_38 : decode cX12_bearsAt 38 = .ok (.aload_n 0, 1) := by decide +kernel
theorem dX12_bearsAt_39 : decode cX12_bearsAt 39 = .ok (.getfield 98, 3) := by decide +kernel
theorem dX12_bearsAt_42 : decode cX12_bearsAt 42 = .ok (.sipush 154, 3) := by decide +kernel
theorem dX12_bearsAt_45 : decode cX12_bearsAt 45 = .ok (.iload_n 1, 1) := by decide +kernel
theorem dX12_bearsAt_46 : decode cX12_bearsAt 46 = .ok (.iadd, 1) := by decide +kernel
theorem dX12_bearsAt_47 : decode cX12_bearsAt 47 = .ok (.iaload, 1) := by decide +kernel
theorem dX12_bearsAt_48 : decode cX12_bearsAt 48 = .ok (.imul, 1) := by decide +kernel
theorem dX12_bearsAt_49 : decode cX12_bearsAt 49 = .ok (.isub, 1) := by decide +kernel
theorem dX12_bearsAt_50 : decode cX12_bearsAt 50 = .ok (.istore_n 3, 1) := by decide +kernel
theorem dX12_bearsAt_51 : decode cX12_bearsAt 51 = .ok (.iload_n 1, 1) := by decide +kernel
theorem dX12_bearsAt_52 : decode cX12_bearsAt 52 = .ok (.iconst 3, 1) := by decide +kernel
theorem dX12_bearsAt_53 : decode cX12_bearsAt 53 = .ok (.irem, 1) := by decide +kernel
theorem dX12_bearsAt_54 : decode cX12_bearsAt 54 = .ok (.ifCond .le 14, 3) := by decide +kernel
theorem dX12_bearsAt_57 : decode cX12_bearsAt 57 = .ok (.iload_n 3, 1) := by decide +kernel
theorem dX12_bearsAt_58 : decode cX12_bearsAt 58 = .ok (.aload_n 0, 1) := by decide +kernel
theorem dX12_bearsAt_59 : decode cX12_bearsAt 59 = .ok (.iload_n 1, 1) := by decide +kernel
theorem dX12_bearsAt_60 : decode cX12_bearsAt 60 = .ok (.iload_n 1, 1) := by decide +kernel
theorem dX12_bearsAt_61 : decode cX12_bearsAt 61 = .ok (.iconst 1, 1) := by decide +kernel
theorem dX12_bearsAt_62 : decode cX12_bearsAt 62 = .ok (.isub, 1) := by decide +kernel
theorem dX12_bearsAt_63 : decode cX12_bearsAt 63 = .ok (.invokevirtual 270, 3) := by decide +kernel
theorem dX12_bearsAt_66 : decode cX12_bearsAt 66 = .ok (.iadd, 1) := by decide +kernel
theorem dX12_bearsAt_67 : decode cX12_bearsAt 67 = .ok (.istore_n 3, 1) := by decide +kernel
theorem dX12_bearsAt_68 : decode cX12_bearsAt 68 = .ok (.iload_n 1, 1) := by decide +kernel
theorem dX12_bearsAt_69 : decode cX12_bearsAt 69 = .ok (.iconst 3, 1) := by decide +kernel
theorem dX12_bearsAt_70 : decode cX12_bearsAt 70 = .ok (.irem, 1) := by decide +kernel
theorem dX12_bearsAt_71 : decode cX12_bearsAt 71 = .ok (.iconst 2, 1) := by decide +kernel
theorem dX12_bearsAt_72 : decode cX12_bearsAt 72 = .ok (.if_icmp .ge 14, 3) := by decide +kernel
theorem dX12_bearsAt_75 : decode cX12_bearsAt 75 = .ok (.iload_n 3, 1) := by decide +kernel
theorem dX12_bearsAt_76 : decode cX12_bearsAt 76 = .ok (.aload_n 0, 1) := by decide +kernel
theorem dX12_bearsAt_77 : decode cX12_bearsAt 77 = .ok (.iload_n 1, 1) := by decide +kernel
theorem dX12_bearsAt_78 : decode cX12_bearsAt 78 = .ok (.iload_n 1, 1) := by decide +kernel
theorem dX12_bearsAt_79 : decode cX12_bearsAt 79 = .ok (.iconst 1, 1) := by decide +kernel
theorem dX12_bearsAt_80 : decode cX12_bearsAt 80 = .ok (.iadd, 1) := by decide +kernel
theorem dX12_bearsAt_81 : decode cX12_bearsAt 81 = .ok (.invokevirtual 270, 3) := by decide +kernel
theorem dX12_bearsAt_84 : decode cX12_bearsAt 84 = .ok (.iadd, 1) := by decide +kernel
theorem dX12_bearsAt_85 : decode cX12_bearsAt 85 = .ok (.istore_n 3, 1) := by decide +kernel
theorem dX12_bearsAt_86 : decode cX12_bearsAt 86 = .ok (.iload_n 3, 1) := by decide +kernel
theorem dX12_bearsAt_87 : decode cX12_bearsAt 87 = .ok (.ifCond .ge 7, 3) := by decide +kernel
theorem dX12_bearsAt_90 : decode cX12_bearsAt 90 = .ok (.iconst 0, 1) := by decide +kernel
theorem dX12_bearsAt_91 : decode cX12_bearsAt 91 = .ok (.goto 4, 3) := by decide +kernel
theorem dX12_bearsAt_94 : decode cX12_bearsAt 94 = .ok (.iload_n 3, 1) := by decide +kernel
theorem dX12_bearsAt_95 : decode cX12_bearsAt 95 = .ok (.ireturn, 1) := by decide +kernel
theorem okc0_X12_besides {kn : sKn} {cc : ByteArray} {own : String} {nL : Nat} {D : Nat} {ret : Option FieldType} {ini : Bool} {pc index : Nat} (hD : 0 + 1 ≤ D) (hl : Cond.methodLink own index yX12_besides ∈ wsL_law) (hd : decode cc pc = .ok (.invokevirtual index, 3)) : mOk kn cc own nL wsL_law D ret ini pc (a_callV false f_none 13 (2 + 1) (pc + 3)) := ok_callV (m_none (D := 0)) (good_ws ws_good (fun _ h => h) kw728) hD (by decide) hl kw729 kw730 kw686 ⟨by decide +kernel, by decide +kernel, by decide +kernel⟩ rfl hd
def tX12_bearsAt (kn : sKn) : List (Nat × sA) := [(0, a_aload 0 1), (1, a_get 13 27 4), (4, a_iload 1 5), (5, a_iald 6), (6, a_istore 2 7), (7, a_iload 2 8), (8, a_stk (q_int (-1)) 9), (9, a_icmp kn b_eq 0 23 12), (12, a_aload 0 13), (13, a_get 13 28 16), (16, a_iload 2 17), (17, a_callS false f_none 2 20), (20, a_if kn b_eq 0 25 23), (23, a_stk (q_int 0) 24), (24, a_iret), (25, a_stk (q_int 10) 27), (27, a_aload 0 28), (28, a_get 13 14 31), (31, a_stk (q_int 98) 33), (33, a_iload 2 34), (34, a_stk q_iadd 35), (35, a_iald 36), (36, a_stk q_imul 37), (37, a_stk (q_int 5) 38), (38, a_aload 0 39), (39, a_get 13 14 42), (42, a_stk (q_int 154) 45), (45, a_iload 1 46), (46, a_stk q_iadd 47), (47, a_iald 48), (48, a_stk q_imul 49), (49, a_stk q_isub 50), (50, a_istore 3 51), (51, a_iload 1 52), (52, a_stk (q_int 3) 53), (53, a_stk q_irem 54), (54, a_if kn b_le 5 68 57), (57, a_iload 3 58), (58, a_aload 0 59), (59, a_iload 1 60), (60, a_iload 1 61), (61, a_stk (q_int 1) 62), (62, a_stk q_isub 63), (63, a_callV false f_none 13 3 66), (66, a_stk q_iadd 67), (67, a_istore 3 68), (68, a_iload 1 69), (69, a_stk (q_int 3) 70), (70, a_stk q_irem 71), (71, a_stk (q_int 2) 72), (72, a_icmp kn b_ge 3 86 75), (75, a_iload 3 76), (76, a_aload 0 77), (77, a_iload 1 78), (78, a_iload 1 79), (79, a_stk (q_int 1) 80), (80, a_stk q_iadd 81), (81, a_callV false f_none 13 3 84), (84, a_stk q_iadd 85), (85, a_istore 3 86), (86, a_iload 3 87), (87, a_if kn b_ge 3 94 90), (90, a_stk (q_int 0) 91), (91, a_goto 95), (94, a_iload 3 95), (95, a_iret)]
def fX12_bearsAt (kn : sKn) : List Value → sW → Option sR := mF (tX12_bearsAt kn) 4 1000000
set_option maxRecDepth 100000 in
set_option maxHeartbeats 4000000 in
theorem mX12_bearsAt (kn : sKn) : mM kn yX12_bearsAt (Cond.code yX12_bearsAt cX12_bearsAt 4 (some .int) :: wsL_law) 1 false (fX12_bearsAt kn) := mM_of (own := RX12) (ini := false) rfl (by decide +kernel) (by decide +kernel) (all_c (ok_aload_n dX12_bearsAt_0 rfl) (all_c (okg_X12_27 kw682 dX12_bearsAt_1) (all_c (ok_iload_n dX12_bearsAt_4 rfl) (all_c (ok_iald dX12_bearsAt_5) (all_c (ok_istore_n dX12_bearsAt_6 rfl (by decide)) (all_c (ok_iload_n dX12_bearsAt_7 rfl) (all_c (ok_stk (s_iconst dX12_bearsAt_8 (by decide))) (all_c (ok_icmp_eq dX12_bearsAt_9 (by decide)) (all_c (ok_aload_n dX12_bearsAt_12 rfl) (all_c (okg_X12_28 kw684 dX12_bearsAt_13) (all_c (ok_iload_n dX12_bearsAt_16 rfl) (all_c (okc0_X12_has (by decide) kw688 dX12_bearsAt_17) (all_c (ok_if_eq dX12_bearsAt_20 (by decide)) (all_c (ok_stk (s_iconst dX12_bearsAt_23 (by decide))) (all_c (ok_iret dX12_bearsAt_24) (all_c (ok_stk (s_bipush dX12_bearsAt_25 (by decide))) (all_c (ok_aload_n dX12_bearsAt_27 rfl) (all_c (okg_X12_14 kw683 dX12_bearsAt_28) (all_c (ok_stk (s_bipush dX12_bearsAt_31 (by decide))) (all_c (ok_iload_n dX12_bearsAt_33 rfl) (all_c (ok_stk (s_iadd dX12_bearsAt_34)) (all_c (ok_iald dX12_bearsAt_35) (all_c (ok_stk (s_imul dX12_bearsAt_36)) (all_c (ok_stk (s_iconst dX12_bearsAt_37 (by decide))) (all_c (ok_aload_n dX12_bearsAt_38 rfl) (all_c (okg_X12_14 kw683 dX12_bearsAt_39) (all_c (ok_stk (s_sipush dX12_bearsAt_42 (by decide))) (all_c (ok_iload_n dX12_bearsAt_45 rfl) (all_c (ok_stk (s_iadd dX12_bearsAt_46)) (all_c (ok_iald dX12_bearsAt_47) (all_c (ok_stk (s_imul dX12_bearsAt_48)) (all_c (ok_stk (s_isub dX12_bearsAt_49)) (all_c (ok_istore_n dX12_bearsAt_50 rfl (by decide)) (all_c (ok_iload_n dX12_bearsAt_51 rfl) (all_c (ok_stk (s_iconst dX12_bearsAt_52 (by decide))) (all_c (ok_stk (s_irem dX12_bearsAt_53)) (all_c (ok_if_le dX12_bearsAt_54 (by decide)) (all_c (ok_iload_n dX12_bearsAt_57 rfl) (all_c (ok_aload_n dX12_bearsAt_58 rfl) (all_c (ok_iload_n dX12_bearsAt_59 rfl) (all_c (ok_iload_n dX12_bearsAt_60 rfl) (all_c (ok_stk (s_iconst dX12_bearsAt_61 (by decide))) (all_c (ok_stk (s_isub dX12_bearsAt_62)) (all_c (okc0_X12_besides (by decide) kw731 dX12_bearsAt_63) (all_c (ok_stk (s_iadd dX12_bearsAt_66)) (all_c (ok_istore_n dX12_bearsAt_67 rfl (by decide)) (all_c (ok_iload_n dX12_bearsAt_68 rfl) (all_c (ok_stk (s_iconst dX12_bearsAt_69 (by decide))) (all_c (ok_stk (s_irem dX12_bearsAt_70)) (all_c (ok_stk (s_iconst dX12_bearsAt_71 (by decide))) (all_c (ok_icmp_ge dX12_bearsAt_72 (by decide)) (all_c (ok_iload_n dX12_bearsAt_75 rfl) (all_c (ok_aload_n dX12_bearsAt_76 rfl) (all_c (ok_iload_n dX12_bearsAt_77 rfl) (all_c (ok_iload_n dX12_bearsAt_78 rfl) (all_c (ok_stk (s_iconst dX12_bearsAt_79 (by decide))) (all_c (ok_stk (s_iadd dX12_bearsAt_80)) (all_c (okc0_X12_besides (by decide) kw731 dX12_bearsAt_81) (all_c (ok_stk (s_iadd dX12_bearsAt_84)) (all_c (ok_istore_n dX12_bearsAt_85 rfl (by decide)) (all_c (ok_iload_n dX12_bearsAt_86 rfl) (all_c (ok_if_ge dX12_bearsAt_87 (by decide)) (all_c (ok_stk (s_iconst dX12_bearsAt_90 (by decide))) (all_c (ok_goto dX12_bearsAt_91 (by decide)) (all_c (ok_iload_n dX12_bearsAt_94 rfl) (all_c (ok_iret dX12_bearsAt_95) all_n)))))))))))))))))))))))))))))))))))))))))))))))))))))))))))))))))) 1000000 (fun h => by first | rfl | cases h)
theorem dX12_go_0 : decode cX12_go 0 = .ok (.aload_n 0, 1) := by decide +kernel
theorem dX12_go_1 : decode cX12_go 1 = .ok (.getfield 21, 3) := by decide +kernel
theorem dX12_go_4 : decode cX12_go 4 = .ok (.aload_n 0, 1) := by decide +kernel
theorem dX12_go_5 : decode cX12_go 5 = .ok (.getfield 18, 3) := by decide +kernel
theorem dX12_go_8 : decode cX12_go 8 = .ok (.if_icmp .ge 44, 3) := by decide +kernel
theorem dX12_go_11 : decode cX12_go 11 = .ok (.aload_n 0, 1) := by decide +kernel
theorem dX12_go_12 : decode cX12_go 12 = .ok (.getfield 7, 3) := by decide +kernel
theorem dX12_go_15 : decode cX12_go 15 = .ok (.aload_n 0, 1) := by decide +kernel
theorem dX12_go_16 : decode cX12_go 16 = .ok (.getfield 21, 3) := by decide +kernel
theorem dX12_go_19 : decode cX12_go 19 = .ok (.iaload, 1) := by decide +kernel
theorem dX12_go_20 : decode cX12_go 20 = .ok (.bipush 32, 2) := by decide +kernel
theorem dX12_go_22 : decode cX12_go 22 = .ok (.if_icmp .eq 17, 3) := by decide +kernel
theorem dX12_go_25 : decode cX12_go 25 = .ok (.aload_n 0, 1) := by decide +kernel
theorem dX12_go_26 : decode cX12_go 26 = .ok (.getfield 7, 3) := by decide +kernel
theorem dX12_go_29 : decode cX12_go 29 = .ok (.aload_n 0, 1) := by decide +kernel
theorem dX12_go_30 : decode cX12_go 30 = .ok (.getfield 21, 3) := by decide +kernel
theorem dX12_go_33 : decode cX12_go 33 = .ok (.iaload, 1) := by decide +kernel
theorem dX12_go_34 : decode cX12_go 34 = .ok (.bipush 10, 2) := by decide +kernel
theorem dX12_go_36 : decode cX12_go 36 = .ok (.if_icmp .ne 16, 3) := by decide +kernel
theorem dX12_go_39 : decode cX12_go 39 = .ok (.aload_n 0, 1) := by decide +kernel
theorem dX12_go_40 : decode cX12_go 40 = .ok (.dup, 1) := by decide +kernel
theorem dX12_go_41 : decode cX12_go 41 = .ok (.getfield 21, 3) := by decide +kernel
theorem dX12_go_44 : decode cX12_go 44 = .ok (.iconst 1, 1) := by decide +kernel
theorem dX12_go_45 : decode cX12_go 45 = .ok (.iadd, 1) := by decide +kernel
theorem dX12_go_46 : decode cX12_go 46 = .ok (.putfield 21, 3) := by decide +kernel
theorem dX12_go_49 : decode cX12_go 49 = .ok (.goto (-49), 3) := by decide +kernel
theorem dX12_go_52 : decode cX12_go 52 = .ok (.aload_n 0, 1) := by decide +kernel
theorem dX12_go_53 : decode cX12_go 53 = .ok (.aload_n 0, 1) := by decide +kernel
theorem dX12_go_54 : decode cX12_go 54 = .ok (.getfield 21, 3) := by decide +kernel
theorem dX12_go_57 : decode cX12_go 57 = .ok (.putfield 24, 3) := by decide +kernel
theorem dX12_go_60 : decode cX12_go 60 = .ok (.aload_n 0, 1) := by decide +kernel
theorem dX12_go_61 : decode cX12_go 61 = .ok (.getfield 18, 3) := by decide +kernel
theorem dX12_go_64 : decode cX12_go 64 = .ok (.aload_n 0, 1) := by decide +kernel
theorem dX12_go_65 : decode cX12_go 65 = .ok (.getfield 27, 3) := by decide +kernel
theorem dX12_go_68 : decode cX12_go 68 = .ok (.if_icmp .le 28, 3) := by decide +kernel
theorem dX12_go_71 : decode cX12_go 71 = .ok (.aload_n 0, 1) := by decide +kernel
theorem dX12_go_72 : decode cX12_go 72 = .ok (.getfield 24, 3) := by decide +kernel
theorem dX12_go_75 : decode cX12_go 75 = .ok (.aload_n 0, 1) := by decide +kernel
theorem dX12_go_76 : decode cX12_go 76 = .ok (.getfield 27, 3) := by decide +kernel
theorem dX12_go_79 : decode cX12_go 79 = .ok (.if_icmp .lt 17, 3) := by decide +kernel
theorem dX12_go_82 : decode cX12_go 82 = .ok (.aload_n 0, 1) := by decide +kernel
theorem dX12_go_83 : decode cX12_go 83 = .ok (.aload_n 0, 1) := by decide +kernel
theorem dX12_go_84 : decode cX12_go 84 = .ok (.getfield 27, 3) := by decide +kernel
theorem dX12_go_87 : decode cX12_go 87 = .ok (.putfield 24, 3) := by decide +kernel
theorem dX12_go_90 : decode cX12_go 90 = .ok (.aload_n 0, 1) := by decide +kernel
theorem dX12_go_91 : decode cX12_go 91 = .ok (.iconst 1, 1) := by decide +kernel
theorem dX12_go_92 : decode cX12_go 92 = .ok (.putfield 30, 3) := by decide +kernel
theorem dX12_go_95 : decode cX12_go 95 = .ok (.return_, 1) := by decide +kernel
theorem dX12_go_96 : decode cX12_go 96 = .ok (.aload_n 0, 1) := by decide +kernel
theorem dX12_go_97 : decode cX12_go 97 = .ok (.getfield 21, 3) := by decide +kernel
theorem dX12_go_100 : decode cX12_go 100 = .ok (.aload_n 0, 1) := by decide +kernel
theorem dX12_go_101 : decode cX12_go 101 = .ok (.getfield 18, 3) := by decide +kernel
theorem dX12_go_104 : decode cX12_go 104 = .ok (.if_icmp .lt 9, 3) := by decide +kernel
theorem dX12_go_107 : decode cX12_go 107 = .ok (.aload_n 0, 1) := by decide +kernel
theorem dX12_go_108 : decode cX12_go 108 = .ok (.iconst 0, 1) := by decide +kernel
theorem dX12_go_109 : decode cX12_go 109 = .ok (.putfield 30, 3) := by decide +kernel
theorem dX12_go_112 : decode cX12_go 112 = .ok (.return_, 1) := by decide +kernel
theorem dX12_go_113 : decode cX12_go 113 = .ok (.aload_n 0, 1) := by decide +kernel
theorem dX12_go_114 : decode cX12_go 114 = .ok (.getfield 7, 3) := by decide +kernel
theorem dX12_go_117 : decode cX12_go 117 = .ok (.aload_n 0, 1) := by decide +kernel
theorem dX12_go_118 : decode cX12_go 118 = .ok (.getfield 21, 3) := by decide +kernel
theorem dX12_go_121 : decode cX12_go 121 = .ok (.iaload, 1) := by decide +kernel
theorem dX12_go_122 : decode cX12_go 122 = .ok (.istore_n 1, 1) := by decide +kernel
theorem dX12_go_123 : decode cX12_go 123 = .ok (.iload_n 1, 1) := by decide +kernel
theorem dX12_go_124 : decode cX12_go 124 = .ok (.invokestatic 33, 3) := by decide +kernel
theorem dX12_go_127 : decode cX12_go 127 = .ok (.ifCond .ne 71, 3) := by decide +kernel
theorem dX12_go_130 : decode cX12_go 130 = .ok (.iload_n 1, 1) := by decide +kernel
theorem dX12_go_131 : decode cX12_go 131 = .ok (.invokestatic 37, 3) := by decide +kernel
theorem dX12_go_134 : decode cX12_go 134 = .ok (.ifCond .ne 64, 3) := by decide +kernel
theorem dX12_go_137 : decode cX12_go 137 = .ok (.aload_n 0, 1) := by decide +kernel
theorem dX12_go_138 : decode cX12_go 138 = .ok (.iload_n 1, 1) := by decide +kernel
theorem dX12_go_139 : decode cX12_go 139 = .ok (.bipush 59, 2) := by decide +kernel
theorem dX12_go_141 : decode cX12_go 141 = .ok (.if_icmp .eq 33, 3) := by decide +kernel
theorem dX12_go_144 : decode cX12_go 144 = .ok (.iload_n 1, 1) := by decide +kernel
theorem dX12_go_145 : decode cX12_go 145 = .ok (.bipush 60, 2) := by decide +kernel
theorem dX12_go_147 : decode cX12_go 147 = .ok (.if_icmp .eq 27, 3) := by decide +kernel
theorem dX12_go_150 : decode cX12_go 150 = .ok (.iload_n 1, 1) := by decide +kernel
theorem dX12_go_151 : decode cX12_go 151 = .ok (.bipush 61, 2) := by decide +kernel
theorem dX12_go_153 : decode cX12_go 153 = .ok (.if_icmp .eq 21, 3) := by decide +kernel
theorem dX12_go_156 : decode cX12_go 156 = .ok (.iload_n 1, 1) := by decide +kernel
theorem dX12_go_157 : decode cX12_go 157 = .ok (.bipush 62, 2) := by decide +kernel
theorem dX12_go_159 : decode cX12_go 159 = .ok (.if_icmp .eq 15, 3) := by decide +kernel
theorem dX12_go_162 : decode cX12_go 162 = .ok (.iload_n 1, 1) := by decide +kernel
theorem dX12_go_163 : decode cX12_go 163 = .ok (.bipush 40, 2) := by decide +kernel
theorem dX12_go_165 : decode cX12_go 165 = .ok (.if_icmp .eq 9, 3) := by decide +kernel
theorem dX12_go_168 : decode cX12_go 168 = .ok (.iload_n 1, 1) := by decide +kernel
theorem dX12_go_169 : decode cX12_go 169 = .ok (.bipush 41, 2) := by decide +kernel
theorem dX12_go_171 : decode cX12_go 171 = .ok (.if_icmp .ne 7, 3) := by decide +kernel
theorem dX12_go_174 : decode cX12_go 174 = .ok (.iconst 4, 1) := by decide +kernel
theorem dX12_go_175 : decode cX12_go 175 = .ok (.goto 4, 3) := by decide +kernel
theorem dX12_go_178 : decode cX12_go 178 = .ok (.iconst 1, 1) := by decide +kernel
theorem dX12_go_179 : decode cX12_go 179 = .ok (.putfield 30, 3) := by decide +kernel
theorem dX12_go_182 : decode cX12_go 182 = .ok (.aload_n 0, 1) := by decide +kernel
theorem dX12_go_183 : decode cX12_go 183 = .ok (.iload_n 1, 1) := by decide +kernel
theorem dX12_go_184 : decode cX12_go 184 = .ok (.putfield 40, 3) := by decide +kernel
theorem dX12_go_187 : decode cX12_go 187 = .ok (.aload_n 0, 1) := by decide +kernel
theorem dX12_go_188 : decode cX12_go 188 = .ok (.dup, 1) := by decide +kernel
theorem dX12_go_189 : decode cX12_go 189 = .ok (.getfield 21, 3) := by decide +kernel
theorem dX12_go_192 : decode cX12_go 192 = .ok (.iconst 1, 1) := by decide +kernel
theorem dX12_go_193 : decode cX12_go 193 = .ok (.iadd, 1) := by decide +kernel
theorem dX12_go_194 : decode cX12_go 194 = .ok (.putfield 21, 3) := by decide +kernel
theorem dX12_go_197 : decode cX12_go 197 = .ok (.return_, 1) := by decide +kernel
theorem dX12_go_198 : decode cX12_go 198 = .ok (.iload_n 1, 1) := by decide +kernel
theorem dX12_go_199 : decode cX12_go 199 = .ok (.invokestatic 33, 3) := by decide +kernel
theorem dX12_go_202 : decode cX12_go 202 = .ok (.istore_n 2, 1) := by decide +kernel
theorem dX12_go_203 : decode cX12_go 203 = .ok (.iconst 1, 1) := by decide +kernel
theorem dX12_go_204 : decode cX12_go 204 = .ok (.istore_n 3, 1) := by decide +kernel
theorem dX12_go_205 : decode cX12_go 205 = .ok (.aload_n 0, 1) := by decide +kernel
theorem dX12_go_206 : decode cX12_go 206 = .ok (.lconst 0, 1) := by decide +kernel
theorem dX12_go_207 : decode cX12_go 207 = .ok (.putfield 43, 3) := by decide +kernel
theorem dX12_go_210 : decode cX12_go 210 = .ok (.aload_n 0, 1) := by decide +kernel
theorem dX12_go_211 : decode cX12_go 211 = .ok (.iconst 0, 1) := by decide +kernel
theorem dX12_go_212 : decode cX12_go 212 = .ok (.putfield 47, 3) := by decide +kernel
theorem dX12_go_215 : decode cX12_go 215 = .ok (.aload_n 0, 1) := by decide +kernel
theorem dX12_go_216 : decode cX12_go 216 = .ok (.aload_n 0, 1) := by decide +kernel
theorem dX12_go_217 : decode cX12_go 217 = .ok (.getfield 21, 3) := by decide +kernel
theorem dX12_go_220 : decode cX12_go 220 = .ok (.invokevirtual 50, 3) := by decide +kernel
theorem dX12_go_223 : decode cX12_go 223 = .ok (.invokestatic 33, 3) := by decide +kernel
theorem dX12_go_226 : decode cX12_go 226 = .ok (.ifCond .ne 17, 3) := by decide +kernel
theorem dX12_go_229 : decode cX12_go 229 = .ok (.aload_n 0, 1) := by decide +kernel
theorem dX12_go_230 : decode cX12_go 230 = .ok (.aload_n 0, 1) := by decide +kernel
theorem dX12_go_231 : decode cX12_go 231 = .ok (.getfield 21, 3) := by decide +kernel
theorem dX12_go_234 : decode cX12_go 234 = .ok (.invokevirtual 50, 3) := by decide +kernel
theorem dX12_go_237 : decode cX12_go 237 = .ok (.invokestatic 37, 3) := by decide +kernel
theorem dX12_go_240 : decode cX12_go 240 = .ok (.ifCond .eq 110, 3) := by decide +kernel
theorem dX12_go_243 : decode cX12_go 243 = .ok (.aload_n 0, 1) := by decide +kernel
theorem dX12_go_244 : decode cX12_go 244 = .ok (.getfield 7, 3) := by decide +kernel
theorem dX12_go_247 : decode cX12_go 247 = .ok (.aload_n 0, 1) := by decide +kernel
theorem dX12_go_248 : decode cX12_go 248 = .ok (.getfield 21, 3) := by decide +kernel
theorem dX12_go_251 : decode cX12_go 251 = .ok (.iaload, 1) := by decide +kernel
theorem dX12_go_252 : decode cX12_go 252 = .ok (.istore 4, 2) := by decide +kernel
theorem dX12_go_254 : decode cX12_go 254 = .ok (.iload_n 3, 1) := by decide +kernel
theorem dX12_go_255 : decode cX12_go 255 = .ok (.ifCond .eq 16, 3) := by decide +kernel
theorem dX12_go_258 : decode cX12_go 258 = .ok (.iload 4, 2) := by decide +kernel
theorem dX12_go_260 : decode cX12_go 260 = .ok (.invokestatic 33, 3) := by decide +kernel
theorem dX12_go_263 : decode cX12_go 263 = .ok (.iload_n 2, 1) := by decide +kernel
theorem dX12_go_264 : decode cX12_go 264 = .ok (.if_icmp .ne 7, 3) := by decide +kernel
theorem dX12_go_267 : decode cX12_go 267 = .ok (.iconst 1, 1) := by decide +kernel
theorem dX12_go_268 : decode cX12_go 268 = .ok (.goto 4, 3) := by decide +kernel
theorem dX12_go_271 : decode cX12_go 271 = .ok (.iconst 0, 1) := by decide +kernel
theorem dX12_go_272 : decode cX12_go 272 = .ok (.istore_n 3, 1) := by decide +kernel
theorem dX12_go_273 : decode cX12_go 273 = .ok (.aload_n 0, 1) := by decide +kernel
theorem dX12_go_274 : decode cX12_go 274 = .ok (.getfield 21, 3) := by decide +kernel
theorem dX12_go_277 : decode cX12_go 277 = .ok (.aload_n 0, 1) := by decide +kernel
theorem dX12_go_278 : decode cX12_go 278 = .ok (.getfield 24, 3) := by decide +kernel
theorem dX12_go_281 : decode cX12_go 281 = .ok (.isub, 1) := by decide +kernel
theorem dX12_go_282 : decode cX12_go 282 = .ok (.bipush 7, 2) := by decide +kernel
theorem dX12_go_284 : decode cX12_go 284 = .ok (.if_icmp .ge 23, 3) := by decide +kernel
theorem dX12_go_287 : decode cX12_go 287 = .ok (.aload_n 0, 1) := by decide +kernel
theorem dX12_go_288 : decode cX12_go 288 = .ok (.ldc2_w 54, 3) := by decide +kernel
theorem dX12_go_291 : decode cX12_go 291 = .ok (.aload_n 0, 1) := by decide +kernel
theorem dX12_go_292 : decode cX12_go 292 = .ok (.getfield 43, 3) := by decide +kernel
theorem dX12_go_295 : decode cX12_go 295 = .ok (.lmul, 1) := by decide +kernel
theorem dX12_go_296 : decode cX12_go 296 = .ok (.iload 4, 2) := by decide +kernel
theorem dX12_go_298 : decode cX12_go 298 = .ok (.i2l, 1) := by decide +kernel
theorem dX12_go_299 : decode cX12_go 299 = .ok (.ladd, 1) := by decide +kernel
theorem dX12_go_300 : decode cX12_go 300 = .ok (.ldc2_w 56, 3) := by decide +kernel
theorem dX12_go_303 : decode cX12_go 303 = .ok (.lsub, 1) := by decide +kernel
theorem dX12_go_304 : decode cX12_go 304 = .ok (.putfield 43, 3) := by decide +kernel
theorem dX12_go_307 : decode cX12_go 307 = .ok (.aload_n 0, 1) := by decide +kernel
theorem dX12_go_308 : decode cX12_go 308 = .ok (.getfield 21, 3) := by decide +kernel
theorem dX12_go_311 : decode cX12_go 311 = .ok (.aload_n 0, 1) := by decide +kernel
theorem dX12_go_312 : decode cX12_go 312 = .ok (.getfield 24, 3) := by decide +kernel
theorem dX12_go_315 : decode cX12_go 315 = .ok (.isub, 1) := by decide +kernel
theorem dX12_go_316 : decode cX12_go 316 = .ok (.iconst 3, 1) := by decide +kernel
theorem dX12_go_317 : decode cX12_go 317 = .ok (.if_icmp .ge 20, 3) := by decide +kernel
theorem dX12_go_320 : decode cX12_go 320 = .ok (.aload_n 0, 1) := by decide +kernel
theorem dX12_go_321 : decode cX12_go 321 = .ok (.bipush 10, 2) := by decide +kernel
theorem dX12_go_323 : decode cX12_go 323 = .ok (.aload_n 0, 1) := by decide +kernel
theorem dX12_go_324 : decode cX12_go 324 = .ok (.getfield 47, 3) := by decide +kernel
theorem dX12_go_327 : decode cX12_go 327 = .ok (.imul, 1) := by decide +kernel
theorem dX12_go_328 : decode cX12_go 328 = .ok (.iload 4, 2) := by decide +kernel
theorem dX12_go_330 : decode cX12_go 330 = .ok (.iadd, 1) := by decide +kernel
theorem dX12_go_331 : decode cX12_go 331 = .ok (.bipush 48, 2) := by decide +kernel
theorem dX12_go_333 : decode cX12_go 333 = .ok (.isub, 1) := by decide +kernel
theorem dX12_go_334 : decode cX12_go 334 = .ok (.putfield 47, 3) := by decide +kernel
theorem dX12_go_337 : decode cX12_go 337 = .ok (.aload_n 0, 1) := by decide +kernel
theorem dX12_go_338 : decode cX12_go 338 = .ok (.dup, 1) := by decide +kernel
theorem dX12_go_339 : decode cX12_go 339 = .ok (.getfield 21, 3) := by decide +kernel
theorem dX12_go_342 : decode cX12_go 342 = .ok (.iconst 1, 1) := by decide +kernel
theorem dX12_go_343 : decode cX12_go 343 = .ok (.iadd, 1) := by decide +kernel
theorem dX12_go_344 : decode cX12_go 344 = .ok (.putfield 21, 3) := by decide +kernel
theorem dX12_go_347 : decode cX12_go 347 = .ok (.goto (-132), 3) := by decide +kernel
theorem dX12_go_350 : decode cX12_go 350 = .ok (.aload_n 0, 1) := by decide +kernel
theorem dX12_go_351 : decode cX12_go 351 = .ok (.iload_n 3, 1) := by decide +kernel
theorem dX12_go_352 : decode cX12_go 352 = .ok (.ifCond .eq 25, 3) := by decide +kernel
theorem dX12_go_355 : decode cX12_go 355 = .ok (.aload_n 0, 1) := by decide +kernel
theorem dX12_go_356 : decode cX12_go 356 = .ok (.getfield 21, 3) := by decide +kernel
theorem dX12_go_359 : decode cX12_go 359 = .ok (.aload_n 0, 1) := by decide +kernel
theorem dX12_go_360 : decode cX12_go 360 = .ok (.getfield 24, 3) := by decide +kernel
theorem dX12_go_363 : decode cX12_go 363 = .ok (.isub, 1) := by decide +kernel
theorem dX12_go_364 : decode cX12_go 364 = .ok (.iload_n 2, 1) := by decide +kernel
theorem dX12_go_365 : decode cX12_go 365 = .ok (.ifCond .eq 8, 3) := by decide +kernel
theorem dX12_go_368 : decode cX12_go 368 = .ok (.bipush 7, 2) := by decide +kernel
theorem dX12_go_370 : decode cX12_go 370 = .ok (.goto 4, 3) := by decide +kernel
theorem dX12_go_373 : decode cX12_go 373 = .ok (.iconst 3, 1) := by decide +kernel
theorem dX12_go_374 : decode cX12_go 374 = .ok (.if_icmp .le 7, 3) := by decide +kernel
theorem dX12_go_377 : decode cX12_go 377 = .ok (.iconst 1, 1) := by decide +kernel
theorem dX12_go_378 : decode cX12_go 378 = .ok (.goto 12, 3) := by decide +kernel
theorem dX12_go_381 : decode cX12_go 381 = .ok (.iload_n 2, 1) := by decide +kernel
theorem dX12_go_382 : decode cX12_go 382 = .ok (.ifCond .eq 7, 3) := by decide +kernel
theorem dX12_go_385 : decode cX12_go 385 = .ok (.iconst 2, 1) := by decide +kernel
theorem dX12_go_386 : decode cX12_go 386 = .ok (.goto 4, 3) := by decide +kernel
theorem dX12_go_389 : decode cX12_go 389 = .ok (.iconst 3, 1) := by decide +kernel
theorem dX12_go_390 : decode cX12_go 390 = .ok (.putfield 30, 3) := by decide +kernel
theorem dX12_go_393 : decode cX12_go 393 = .ok (.return_, 1) := by decide +kernel
theorem okc0_X12_isLetter {kn : sKn} {cc : ByteArray} {own : String} {nL : Nat} {D : Nat} {ret : Option FieldType} {ini : Bool} {pc index : Nat} (hD : 0 + 1 ≤ D) (hl : Cond.methodLink own index yX12_isLetter ∈ wsL_law) (hd : decode cc pc = .ok (.invokestatic index, 3)) : mOk kn cc own nL wsL_law D ret ini pc (a_callS false f_none 1 (pc + 3)) := ok_callS (m_none (D := 0)) (good_ws ws_good (fun _ h => h) kw736) hD (by decide) hl kw737 kw686 ⟨by decide +kernel, by decide +kernel, by decide +kernel⟩ hd
theorem okc0_X12_isDigit {kn : sKn} {cc : ByteArray} {own : String} {nL : Nat} {D : Nat} {ret : Option FieldType} {ini : Bool} {pc index : Nat} (hD : 0 + 1 ≤ D) (hl : Cond.methodLink own index yX12_isDigit ∈ wsL_law) (hd : decode cc pc = .ok (.invokestatic index, 3)) : mOk kn cc own nL wsL_law D ret ini pc (a_callS false f_none 1 (pc + 3)) := ok_callS (m_none (D := 0)) (good_ws ws_good (fun _ h => h) kw739) hD (by decide) hl kw740 kw686 ⟨by decide +kernel, by decide +kernel, by decide +kernel⟩ hd
theorem okc0_X12_tapeAt {kn : sKn} {cc : ByteArray} {own : String} {nL : Nat} {D : Nat} {ret : Option FieldType} {ini : Bool} {pc index : Nat} (hD : 0 + 1 ≤ D) (hl : Cond.methodLink own index yX12_tapeAt ∈ wsL_law) (hd : decode cc pc = .ok (.invokevirtual index, 3)) : mOk kn cc own nL wsL_law D ret ini pc (a_callV false f_none 13 (1 + 1) (pc + 3)) := ok_callV (m_none (D := 0)) (good_ws ws_good (fun _ h => h) kw745) hD (by decide) hl kw746 kw747 kw686 ⟨by decide +kernel, by decide +kernel, by decide +kernel⟩ rfl hd
def tX12_go (kn : sKn) : List (Nat × sA) := [(0, a_aload 0 1), (1, a_get 13 5 4), (4, a_aload 0 5), (5, a_get 13 3 8), (8, a_icmp kn b_ge 3 52 11), (11, a_aload 0 12), (12, a_get 13 1 15), (15, a_aload 0 16), (16, a_get 13 5 19), (19, a_iald 20), (20, a_stk (q_int 32) 22), (22, a_icmp kn b_eq 0 39 25), (25, a_aload 0 26), (26, a_get 13 1 29), (29, a_aload 0 30), (30, a_get 13 5 33), (33, a_iald 34), (34, a_stk (q_int 10) 36), (36, a_icmp kn b_ne 1 52 39), (39, a_aload 0 40), (40, a_stk q_dup 41), (41, a_get 13 5 44), (44, a_stk (q_int 1) 45), (45, a_stk q_iadd 46), (46, a_put 13 5 ckI 49), (49, a_goto 0), (52, a_aload 0 53), (53, a_aload 0 54), (54, a_get 13 5 57), (57, a_put 13 6 ckI 60), (60, a_aload 0 61), (61, a_get 13 3 64), (64, a_aload 0 65), (65, a_get 13 4 68), (68, a_icmp kn b_le 5 96 71), (71, a_aload 0 72), (72, a_get 13 6 75), (75, a_aload 0 76), (76, a_get 13 4 79), (79, a_icmp kn b_lt 2 96 82), (82, a_aload 0 83), (83, a_aload 0 84), (84, a_get 13 4 87), (87, a_put 13 6 ckI 90), (90, a_aload 0 91), (91, a_stk (q_int 1) 92), (92, a_put 13 7 ckI 95), (95, a_vret), (96, a_aload 0 97), (97, a_get 13 5 100), (100, a_aload 0 101), (101, a_get 13 3 104), (104, a_icmp kn b_lt 2 113 107), (107, a_aload 0 108), (108, a_stk (q_int 0) 109), (109, a_put 13 7 ckI 112), (112, a_vret), (113, a_aload 0 114), (114, a_get 13 1 117), (117, a_aload 0 118), (118, a_get 13 5 121), (121, a_iald 122), (122, a_istore 1 123), (123, a_iload 1 124), (124, a_callS false f_none 1 127), (127, a_if kn b_ne 1 198 130), (130, a_iload 1 131), (131, a_callS false f_none 1 134), (134, a_if kn b_ne 1 198 137), (137, a_aload 0 138), (138, a_iload 1 139), (139, a_stk (q_int 59) 141), (141, a_icmp kn b_eq 0 174 144), (144, a_iload 1 145), (145, a_stk (q_int 60) 147), (147, a_icmp kn b_eq 0 174 150), (150, a_iload 1 151), (151, a_stk (q_int 61) 153), (153, a_icmp kn b_eq 0 174 156), (156, a_iload 1 157), (157, a_stk (q_int 62) 159), (159, a_icmp kn b_eq 0 174 162), (162, a_iload 1 163), (163, a_stk (q_int 40) 165), (165, a_icmp kn b_eq 0 174 168), (168, a_iload 1 169), (169, a_stk (q_int 41) 171), (171, a_icmp kn b_ne 1 178 174), (174, a_stk (q_int 4) 175), (175, a_goto 179), (178, a_stk (q_int 1) 179), (179, a_put 13 7 ckI 182), (182, a_aload 0 183), (183, a_iload 1 184), (184, a_put 13 9 ckI 187), (187, a_aload 0 188), (188, a_stk q_dup 189), (189, a_get 13 5 192), (192, a_stk (q_int 1) 193), (193, a_stk q_iadd 194), (194, a_put 13 5 ckI 197), (197, a_vret), (198, a_iload 1 199), (199, a_callS false f_none 1 202), (202, a_istore 2 203), (203, a_stk (q_int 1) 204), (204, a_istore 3 205), (205, a_aload 0 206), (206, a_stk (q_long 0) 207), (207, a_put 13 12 ckJ 210), (210, a_aload 0 211), (211, a_stk (q_int 0) 212), (212, a_put 13 8 ckI 215), (215, a_aload 0 216), (216, a_aload 0 217), (217, a_get 13 5 220), (220, a_callV false f_none 13 2 223), (223, a_callS false f_none 1 226), (226, a_if kn b_ne 1 243 229), (229, a_aload 0 230), (230, a_aload 0 231), (231, a_get 13 5 234), (234, a_callV false f_none 13 2 237), (237, a_callS false f_none 1 240), (240, a_if kn b_eq 0 350 243), (243, a_aload 0 244), (244, a_get 13 1 247), (247, a_aload 0 248), (248, a_get 13 5 251), (251, a_iald 252), (252, a_istore 4 254), (254, a_iload 3 255), (255, a_if kn b_eq 0 271 258), (258, a_iload 4 260), (260, a_callS false f_none 1 263), (263, a_iload 2 264), (264, a_icmp kn b_ne 1 271 267), (267, a_stk (q_int 1) 268), (268, a_goto 272), (271, a_stk (q_int 0) 272), (272, a_istore 3 273), (273, a_aload 0 274), (274, a_get 13 5 277), (277, a_aload 0 278), (278, a_get 13 6 281), (281, a_stk q_isub 282), (282, a_stk (q_int 7) 284), (284, a_icmp kn b_ge 3 307 287), (287, a_aload 0 288), (288, a_stk (q_long (27)) 291), (291, a_aload 0 292), (292, a_get 13 12 295), (295, a_stk q_lmul 296), (296, a_iload 4 298), (298, a_stk q_i2l 299), (299, a_stk q_ladd 300), (300, a_stk (q_long (96)) 303), (303, a_stk q_lsub 304), (304, a_put 13 12 ckJ 307), (307, a_aload 0 308), (308, a_get 13 5 311), (311, a_aload 0 312), (312, a_get 13 6 315), (315, a_stk q_isub 316), (316, a_stk (q_int 3) 317), (317, a_icmp kn b_ge 3 337 320), (320, a_aload 0 321), (321, a_stk (q_int 10) 323), (323, a_aload 0 324), (324, a_get 13 8 327), (327, a_stk q_imul 328), (328, a_iload 4 330), (330, a_stk q_iadd 331), (331, a_stk (q_int 48) 333), (333, a_stk q_isub 334), (334, a_put 13 8 ckI 337), (337, a_aload 0 338), (338, a_stk q_dup 339), (339, a_get 13 5 342), (342, a_stk (q_int 1) 343), (343, a_stk q_iadd 344), (344, a_put 13 5 ckI 347), (347, a_goto 215), (350, a_aload 0 351), (351, a_iload 3 352), (352, a_if kn b_eq 0 377 355), (355, a_aload 0 356), (356, a_get 13 5 359), (359, a_aload 0 360), (360, a_get 13 6 363), (363, a_stk q_isub 364), (364, a_iload 2 365), (365, a_if kn b_eq 0 373 368), (368, a_stk (q_int 7) 370), (370, a_goto 374), (373, a_stk (q_int 3) 374), (374, a_icmp kn b_le 5 381 377), (377, a_stk (q_int 1) 378), (378, a_goto 390), (381, a_iload 2 382), (382, a_if kn b_eq 0 389 385), (385, a_stk (q_int 2) 386), (386, a_goto 390), (389, a_stk (q_int 3) 390), (390, a_put 13 7 ckI 393), (393, a_vret)]
def fX12_go (kn : sKn) : List Value → sW → Option sR := mF (tX12_go kn) 5 1000000
set_option maxRecDepth 100000 in
set_option maxHeartbeats 4000000 in
theorem mX12_go (kn : sKn) : mM kn yX12_go (Cond.code yX12_go cX12_go 5 none :: wsL_law) 1 true (fX12_go kn) := mM_of (own := RX12) (ini := false) rfl (by decide +kernel) (by decide +kernel) (all_c (ok_aload_n dX12_go_0 rfl) (all_c (okg_X12_5 kw732 dX12_go_1) (all_c (ok_aload_n dX12_go_4 rfl) (all_c (okg_X12_3 kw733 dX12_go_5) (all_c (ok_icmp_ge dX12_go_8 (by decide)) (all_c (ok_aload_n dX12_go_11 rfl) (all_c (okg_X12_1 kw734 dX12_go_12) (all_c (ok_aload_n dX12_go_15 rfl) (all_c (okg_X12_5 kw732 dX12_go_16) (all_c (ok_iald dX12_go_19) (all_c (ok_stk (s_bipush dX12_go_20 (by decide))) (all_c (ok_icmp_eq dX12_go_22 (by decide)) (all_c (ok_aload_n dX12_go_25 rfl) (all_c (okg_X12_1 kw734 dX12_go_26) (all_c (ok_aload_n dX12_go_29 rfl) (all_c (okg_X12_5 kw732 dX12_go_30) (all_c (ok_iald dX12_go_33) (all_c (ok_stk (s_bipush dX12_go_34 (by decide))) (all_c (ok_icmp_ne dX12_go_36 (by decide)) (all_c (ok_aload_n dX12_go_39 rfl) (all_c (ok_stk (s_dup dX12_go_40)) (all_c (okg_X12_5 kw732 dX12_go_41) (all_c (ok_stk (s_iconst dX12_go_44 (by decide))) (all_c (ok_stk (s_iadd dX12_go_45)) (all_c (okp_X12_5 kw732 dX12_go_46) (all_c (ok_goto dX12_go_49 (by decide)) (all_c (ok_aload_n dX12_go_52 rfl) (all_c (ok_aload_n dX12_go_53 rfl) (all_c (okg_X12_5 kw732 dX12_go_54) (all_c (okp_X12_6 kw726 dX12_go_57) (all_c (ok_aload_n dX12_go_60 rfl) (all_c (okg_X12_3 kw733 dX12_go_61) (all_c (ok_aload_n dX12_go_64 rfl) (all_c (okg_X12_4 kw735 dX12_go_65) (all_c (ok_icmp_le dX12_go_68 (by decide)) (all_c (ok_aload_n dX12_go_71 rfl) (all_c (okg_X12_6 kw726 dX12_go_72) (all_c (ok_aload_n dX12_go_75 rfl) (all_c (okg_X12_4 kw735 dX12_go_76) (all_c (ok_icmp_lt dX12_go_79 (by decide)) (all_c (ok_aload_n dX12_go_82 rfl) (all_c (ok_aload_n dX12_go_83 rfl) (all_c (okg_X12_4 kw735 dX12_go_84) (all_c (okp_X12_6 kw726 dX12_go_87) (all_c (ok_aload_n dX12_go_90 rfl) (all_c (ok_stk (s_iconst dX12_go_91 (by decide))) (all_c (okp_X12_7 kw724 dX12_go_92) (all_c (ok_vret dX12_go_95) (all_c (ok_aload_n dX12_go_96 rfl) (all_c (okg_X12_5 kw732 dX12_go_97) (all_c (ok_aload_n dX12_go_100 rfl) (all_c (okg_X12_3 kw733 dX12_go_101) (all_c (ok_icmp_lt dX12_go_104 (by decide)) (all_c (ok_aload_n dX12_go_107 rfl) (all_c (ok_stk (s_iconst dX12_go_108 (by decide))) (all_c (okp_X12_7 kw724 dX12_go_109) (all_c (ok_vret dX12_go_112) (all_c (ok_aload_n dX12_go_113 rfl) (all_c (okg_X12_1 kw734 dX12_go_114) (all_c (ok_aload_n dX12_go_117 rfl) (all_c (okg_X12_5 kw732 dX12_go_118) (all_c (ok_iald dX12_go_121) (all_c (ok_istore_n dX12_go_122 rfl (by decide)) (all_c (ok_iload_n dX12_go_123 rfl) (all_c (okc0_X12_isLetter (by decide) kw738 dX12_go_124) (all_c (ok_if_ne dX12_go_127 (by decide)) (all_c (ok_iload_n dX12_go_130 rfl) (all_c (okc0_X12_isDigit (by decide) kw741 dX12_go_131) (all_c (ok_if_ne dX12_go_134 (by decide)) (all_c (ok_aload_n dX12_go_137 rfl) (all_c (ok_iload_n dX12_go_138 rfl) (all_c (ok_stk (s_bipush dX12_go_139 (by decide))) (all_c (ok_icmp_eq dX12_go_141 (by decide)) (all_c (ok_iload_n dX12_go_144 rfl) (all_c (ok_stk (s_bipush dX12_go_145 (by decide))) (all_c (ok_icmp_eq dX12_go_147 (by decide)) (all_c (ok_iload_n dX12_go_150 rfl) (all_c (ok_stk (s_bipush dX12_go_151 (by decide))) (all_c (ok_icmp_eq dX12_go_153 (by decide)) (all_c (ok_iload_n dX12_go_156 rfl) (all_c (ok_stk (s_bipush dX12_go_157 (by decide))) (all_c (ok_icmp_eq dX12_go_159 (by decide)) (all_c (ok_iload_n dX12_go_162 rfl) (all_c (ok_stk (s_bipush dX12_go_163 (by decide))) (all_c (ok_icmp_eq dX12_go_165 (by decide)) (all_c (ok_iload_n dX12_go_168 rfl) (all_c (ok_stk (s_bipush dX12_go_169 (by decide))) (all_c (ok_icmp_ne dX12_go_171 (by decide)) (all_c (ok_stk (s_iconst dX12_go_174 (by decide))) (all_c (ok_goto dX12_go_175 (by decide)) (all_c (ok_stk (s_iconst dX12_go_178 (by decide))) (all_c (okp_X12_7 kw724 dX12_go_179) (all_c (ok_aload_n dX12_go_182 rfl) (all_c (ok_iload_n dX12_go_183 rfl) (all_c (okp_X12_9 kw742 dX12_go_184) (all_c (ok_aload_n dX12_go_187 rfl) (all_c (ok_stk (s_dup dX12_go_188)) (all_c (okg_X12_5 kw732 dX12_go_189) (all_c (ok_stk (s_iconst dX12_go_192 (by decide))) (all_c (ok_stk (s_iadd dX12_go_193)) (all_c (okp_X12_5 kw732 dX12_go_194) (all_c (ok_vret dX12_go_197) (all_c (ok_iload_n dX12_go_198 rfl) (all_c (okc0_X12_isLetter (by decide) kw738 dX12_go_199) (all_c (ok_istore_n dX12_go_202 rfl (by decide)) (all_c (ok_stk (s_iconst dX12_go_203 (by decide))) (all_c (ok_istore_n dX12_go_204 rfl (by decide)) (all_c (ok_aload_n dX12_go_205 rfl) (all_c (ok_stk (s_lconst dX12_go_206 (by decide))) (all_c (okp_X12_12 kw743 dX12_go_207) (all_c (ok_aload_n dX12_go_210 rfl) (all_c (ok_stk (s_iconst dX12_go_211 (by decide))) (all_c (okp_X12_8 kw744 dX12_go_212) (all_c (ok_aload_n dX12_go_215 rfl) (all_c (ok_aload_n dX12_go_216 rfl) (all_c (okg_X12_5 kw732 dX12_go_217) (all_c (okc0_X12_tapeAt (by decide) kw748 dX12_go_220) (all_c (okc0_X12_isLetter (by decide) kw738 dX12_go_223) (all_c (ok_if_ne dX12_go_226 (by decide)) (all_c (ok_aload_n dX12_go_229 rfl) (all_c (ok_aload_n dX12_go_230 rfl) (all_c (okg_X12_5 kw732 dX12_go_231) (all_c (okc0_X12_tapeAt (by decide) kw748 dX12_go_234) (all_c (okc0_X12_isDigit (by decide) kw741 dX12_go_237) (all_c (ok_if_eq dX12_go_240 (by decide)) (all_c (ok_aload_n dX12_go_243 rfl) (all_c (okg_X12_1 kw734 dX12_go_244) (all_c (ok_aload_n dX12_go_247 rfl) (all_c (okg_X12_5 kw732 dX12_go_248) (all_c (ok_iald dX12_go_251) (all_c (ok_istore dX12_go_252 (by decide)) (all_c (ok_iload_n dX12_go_254 rfl) (all_c (ok_if_eq dX12_go_255 (by decide)) (all_c (ok_iload dX12_go_258) (all_c (okc0_X12_isLetter (by decide) kw738 dX12_go_260) (all_c (ok_iload_n dX12_go_263 rfl) (all_c (ok_icmp_ne dX12_go_264 (by decide)) (all_c (ok_stk (s_iconst dX12_go_267 (by decide))) (all_c (ok_goto dX12_go_268 (by decide)) (all_c (ok_stk (s_iconst dX12_go_271 (by decide))) (all_c (ok_istore_n dX12_go_272 rfl (by decide)) (all_c (ok_aload_n dX12_go_273 rfl) (all_c (okg_X12_5 kw732 dX12_go_274) (all_c (ok_aload_n dX12_go_277 rfl) (all_c (okg_X12_6 kw726 dX12_go_278) (all_c (ok_stk (s_isub dX12_go_281)) (all_c (ok_stk (s_bipush dX12_go_282 (by decide))) (all_c (ok_icmp_ge dX12_go_284 (by decide)) (all_c (ok_aload_n dX12_go_287 rfl) (all_c (ok_ldc2 kw749 dX12_go_288) (all_c (ok_aload_n dX12_go_291 rfl) (all_c (okg_X12_12 kw743 dX12_go_292) (all_c (ok_stk (s_lmul dX12_go_295)) (all_c (ok_iload dX12_go_296) (all_c (ok_stk (s_i2l dX12_go_298)) (all_c (ok_stk (s_ladd dX12_go_299)) (all_c (ok_ldc2 kw750 dX12_go_300) (all_c (ok_stk (s_lsub dX12_go_303)) (all_c (okp_X12_12 kw743 dX12_go_304) (all_c (ok_aload_n dX12_go_307 rfl) (all_c (okg_X12_5 kw732 dX12_go_308) (all_c (ok_aload_n dX12_go_311 rfl) (all_c (okg_X12_6 kw726 dX12_go_312) (all_c (ok_stk (s_isub dX12_go_315)) (all_c (ok_stk (s_iconst dX12_go_316 (by decide))) (all_c (ok_icmp_ge dX12_go_317 (by decide)) (all_c (ok_aload_n dX12_go_320 rfl) (all_c (ok_stk (s_bipush dX12_go_321 (by decide))) (all_c (ok_aload_n dX12_go_323 rfl) (all_c (okg_X12_8 kw744 dX12_go_324) (all_c (ok_stk (s_imul dX12_go_327)) (all_c (ok_iload dX12_go_328) (all_c (ok_stk (s_iadd dX12_go_330)) (all_c (ok_stk (s_bipush dX12_go_331 (by decide))) (all_c (ok_stk (s_isub dX12_go_333)) (all_c (okp_X12_8 kw744 dX12_go_334) (all_c (ok_aload_n dX12_go_337 rfl) (all_c (ok_stk (s_dup dX12_go_338)) (all_c (okg_X12_5 kw732 dX12_go_339) (all_c (ok_stk (s_iconst dX12_go_342 (by decide))) (all_c (ok_stk (s_iadd dX12_go_343)) (all_c (okp_X12_5 kw732 dX12_go_344) (all_c (ok_goto dX12_go_347 (by decide)) (all_c (ok_aload_n dX12_go_350 rfl) (all_c (ok_iload_n dX12_go_351 rfl) (all_c (ok_if_eq dX12_go_352 (by decide)) (all_c (ok_aload_n dX12_go_355 rfl) (all_c (okg_X12_5 kw732 dX12_go_356) (all_c (ok_aload_n dX12_go_359 rfl) (all_c (okg_X12_6 kw726 dX12_go_360) (all_c (ok_stk (s_isub dX12_go_363)) (all_c (ok_iload_n dX12_go_364 rfl) (all_c (ok_if_eq dX12_go_365 (by decide)) (all_c (ok_stk (s_bipush dX12_go_368 (by decide))) (all_c (ok_goto dX12_go_370 (by decide)) (all_c (ok_stk (s_iconst dX12_go_373 (by decide))) (all_c (ok_icmp_le dX12_go_374 (by decide)) (all_c (ok_stk (s_iconst dX12_go_377 (by decide))) (all_c (ok_goto dX12_go_378 (by decide)) (all_c (ok_iload_n dX12_go_381 rfl) (all_c (ok_if_eq dX12_go_382 (by decide)) (all_c (ok_stk (s_iconst dX12_go_385 (by decide))) (all_c (ok_goto dX12_go_386 (by decide)) (all_c (ok_stk (s_iconst dX12_go_389 (by decide))) (all_c (okp_X12_7 kw724 dX12_go_390) (all_c (ok_vret dX12_go_393) all_n)))))))))))))))))))))))))))))))))))))))))))))))))))))))))))))))))))))))))))))))))))))))))))))))))))))))))))))))))))))))))))))))))))))))))))))))))))))))))))))))))))))))))))))))))))))))))))))))))))))))))))))) 1000000 (fun h => by first | rfl | cases h)
theorem dX12_take_0 : decode cX12_take 0 = .ok (.aload_n 0, 1) := by decide +kernel
theorem dX12_take_1 : decode cX12_take 1 = .ok (.getfield 11, 3) := by decide +kernel
theorem dX12_take_4 : decode cX12_take 4 = .ok (.istore_n 1, 1) := by decide +kernel
theorem dX12_take_5 : decode cX12_take 5 = .ok (.aload_n 0, 1) := by decide +kernel
theorem dX12_take_6 : decode cX12_take 6 = .ok (.iconst 0, 1) := by decide +kernel
theorem dX12_take_7 : decode cX12_take 7 = .ok (.putfield 11, 3) := by decide +kernel
theorem dX12_take_10 : decode cX12_take 10 = .ok (.iload_n 1, 1) := by decide +kernel
theorem dX12_take_11 : decode cX12_take 11 = .ok (.ireturn, 1) := by decide +kernel
def tX12_take (kn : sKn) : List (Nat × sA) := [(0, a_aload 0 1), (1, a_get 13 2 4), (4, a_istore 1 5), (5, a_aload 0 6), (6, a_stk (q_int 0) 7), (7, a_put 13 2 ckI 10), (10, a_iload 1 11), (11, a_iret)]
def fX12_take (kn : sKn) : List Value → sW → Option sR := mF (tX12_take kn) 2 1000000
set_option maxRecDepth 100000 in
set_option maxHeartbeats 4000000 in
theorem mX12_take (kn : sKn) : mM kn yX12_take (Cond.code yX12_take cX12_take 2 (some .int) :: wsL_law) 1 false (fX12_take kn) := mM_of (own := RX12) (ini := false) rfl (by decide +kernel) (by decide +kernel) (all_c (ok_aload_n dX12_take_0 rfl) (all_c (okg_X12_2 kw751 dX12_take_1) (all_c (ok_istore_n dX12_take_4 rfl (by decide)) (all_c (ok_aload_n dX12_take_5 rfl) (all_c (ok_stk (s_iconst dX12_take_6 (by decide))) (all_c (okp_X12_2 kw751 dX12_take_7) (all_c (ok_iload_n dX12_take_10 rfl) (all_c (ok_iret dX12_take_11) all_n)))))))) 1000000 (fun h => by first | rfl | cases h)
theorem dX12_begin_0 : decode cX12_begin 0 = .ok (.aload_n 0, 1) := by decide +kernel
theorem dX12_begin_1 : decode cX12_begin 1 = .ok (.iconst 0, 1) := by decide +kernel
theorem dX12_begin_2 : decode cX12_begin 2 = .ok (.putfield 1, 3) := by decide +kernel
theorem dX12_begin_5 : decode cX12_begin 5 = .ok (.aload_n 0, 1) := by decide +kernel
theorem dX12_begin_6 : decode cX12_begin 6 = .ok (.aload_n 0, 1) := by decide +kernel
theorem dX12_begin_7 : decode cX12_begin 7 = .ok (.invokevirtual 89, 3) := by decide +kernel
theorem dX12_begin_10 : decode cX12_begin 10 = .ok (.putfield 18, 3) := by decide +kernel
theorem dX12_begin_13 : decode cX12_begin 13 = .ok (.aload_n 0, 1) := by decide +kernel
theorem dX12_begin_14 : decode cX12_begin 14 = .ok (.iload_n 1, 1) := by decide +kernel
theorem dX12_begin_15 : decode cX12_begin 15 = .ok (.putfield 27, 3) := by decide +kernel
theorem dX12_begin_18 : decode cX12_begin 18 = .ok (.aload_n 0, 1) := by decide +kernel
theorem dX12_begin_19 : decode cX12_begin 19 = .ok (.iconst 0, 1) := by decide +kernel
theorem dX12_begin_20 : decode cX12_begin 20 = .ok (.putfield 66, 3) := by decide +kernel
theorem dX12_begin_23 : decode cX12_begin 23 = .ok (.aload_n 0, 1) := by decide +kernel
theorem dX12_begin_24 : decode cX12_begin 24 = .ok (.iconst 0, 1) := by decide +kernel
theorem dX12_begin_25 : decode cX12_begin 25 = .ok (.putfield 21, 3) := by decide +kernel
theorem dX12_begin_28 : decode cX12_begin 28 = .ok (.aload_n 0, 1) := by decide +kernel
theorem dX12_begin_29 : decode cX12_begin 29 = .ok (.invokevirtual 82, 3) := by decide +kernel
theorem dX12_begin_32 : decode cX12_begin 32 = .ok (.return_, 1) := by decide +kernel
theorem okc_X12_take {kn : sKn} {cc : ByteArray} {own : String} {nL : Nat} {D : Nat} {ret : Option FieldType} {ini : Bool} {pc index : Nat} (hD : 1 + 1 ≤ D) (hl : Cond.methodLink own index yX12_take ∈ wsL_law) (hd : decode cc pc = .ok (.invokevirtual index, 3)) : mOk kn cc own nL wsL_law D ret ini pc (a_callV false (fX12_take kn) 13 (0 + 1) (pc + 3)) := ok_callV (mX12_take kn) (good_ws ws_good (fun _ h => h) kw752) hD (by decide) hl kw753 kw754 kw686 ⟨by decide +kernel, by decide +kernel, by decide +kernel⟩ rfl hd
theorem okc_X12_go {kn : sKn} {cc : ByteArray} {own : String} {nL : Nat} {D : Nat} {ret : Option FieldType} {ini : Bool} {pc index : Nat} (hD : 1 + 1 ≤ D) (hl : Cond.methodLink own index yX12_go ∈ wsL_law) (hd : decode cc pc = .ok (.invokevirtual index, 3)) : mOk kn cc own nL wsL_law D ret ini pc (a_callV true (fX12_go kn) 13 (0 + 1) (pc + 3)) := ok_callV (mX12_go kn) (good_ws ws_good (fun _ h => h) kw756) hD (by decide) hl kw757 kw758 kw686 ⟨by decide +kernel, by decide +kernel, by decide +kernel⟩ rfl hd
def tX12_begin (kn : sKn) : List (Nat × sA) := [(0, a_aload 0 1), (1, a_stk (q_int 0) 2), (2, a_put 13 0 ckI 5), (5, a_aload 0 6), (6, a_aload 0 7), (7, a_callV false (fX12_take kn) 13 1 10), (10, a_put 13 3 ckI 13), (13, a_aload 0 14), (14, a_iload 1 15), (15, a_put 13 4 ckI 18), (18, a_aload 0 19), (19, a_stk (q_int 0) 20), (20, a_put 13 10 ckI 23), (23, a_aload 0 24), (24, a_stk (q_int 0) 25), (25, a_put 13 5 ckI 28), (28, a_aload 0 29), (29, a_callV true (fX12_go kn) 13 1 32), (32, a_vret)]
def fX12_begin (kn : sKn) : List Value → sW → Option sR := mF (tX12_begin kn) 2 1000000
set_option maxRecDepth 100000 in
set_option maxHeartbeats 4000000 in
theorem mX12_begin (kn : sKn) : mM kn yX12_begin (Cond.code yX12_begin cX12_begin 2 none :: wsL_law) 2 true (fX12_begin kn) := mM_of (own := RX12) (ini := false) rfl (by decide +kernel) (by decide +kernel) (all_c (ok_aload_n dX12_begin_0 rfl) (all_c (ok_stk (s_iconst dX12_begin_1 (by decide))) (all_c (okp_X12_0 kw693 dX12_begin_2) (all_c (ok_aload_n dX12_begin_5 rfl) (all_c (ok_aload_n dX12_begin_6 rfl) (all_c (okc_X12_take (by decide) kw755 dX12_begin_7) (all_c (okp_X12_3 kw733 dX12_begin_10) (all_c (ok_aload_n dX12_begin_13 rfl) (all_c (ok_iload_n dX12_begin_14 rfl) (all_c (okp_X12_4 kw735 dX12_begin_15) (all_c (ok_aload_n dX12_begin_18 rfl) (all_c (ok_stk (s_iconst dX12_begin_19 (by decide))) (all_c (okp_X12_10 kw725 dX12_begin_20) (all_c (ok_aload_n dX12_begin_23 rfl) (all_c (ok_stk (s_iconst dX12_begin_24 (by decide))) (all_c (okp_X12_5 kw732 dX12_begin_25) (all_c (ok_aload_n dX12_begin_28 rfl) (all_c (okc_X12_go (by decide) kw759 dX12_begin_29) (all_c (ok_vret dX12_begin_32) all_n))))))))))))))))))) 1000000 (fun h => by first | rfl | cases h)
theorem dX12_bits_0 : decode cX12_bits 0 = .ok (.iconst 0, 1) := by decide +kernel
theorem dX12_bits_1 : decode cX12_bits 1 = .ok (.istore_n 1, 1) := by decide +kernel
theorem dX12_bits_2 : decode cX12_bits 2 = .ok (.iload_n 0, 1) := by decide +kernel
theorem dX12_bits_3 : decode cX12_bits 3 = .ok (.istore_n 2, 1) := by decide +kernel
theorem dX12_bits_4 : decode cX12_bits 4 = .ok (.iload_n 2, 1) := by decide +kernel
theorem dX12_bits_5 : decode cX12_bits 5 = .ok (.ifCond .eq 15, 3) := by decide +kernel
theorem dX12_bits_8 : decode cX12_bits 8 = .ok (.iinc 1 1, 3) := by decide +kernel
theorem dX12_bits_11 : decode cX12_bits 11 = .ok (.iload_n 2, 1) := by decide +kernel
theorem dX12_bits_12 : decode cX12_bits 12 = .ok (.iload_n 2, 1) := by decide +kernel
theorem dX12_bits_13 : decode cX12_bits 13 = .ok (.iconst 1, 1) := by decide +kernel
theorem dX12_bits_14 : decode cX12_bits 14 = .ok (.isub, 1) := by decide +kernel
theorem dX12_bits_15 : decode cX12_bits 15 = .ok (.iand, 1) := by decide +kernel
theorem dX12_bits_16 : decode cX12_bits 16 = .ok (.istore_n 2, 1) := by decide +kernel
theorem dX12_bits_17 : decode cX12_bits 17 = .ok (.goto (-13), 3) := by decide +kernel
theorem dX12_bits_20 : decode cX12_bits 20 = .ok (.iload_n 1, 1) := by decide +kernel
theorem dX12_bits_21 : decode cX12_bits 21 = .ok (.ireturn, 1) := by decide +kernel
def tX12_bits (kn : sKn) : List (Nat × sA) := [(0, a_stk (q_int 0) 1), (1, a_istore 1 2), (2, a_iload 0 3), (3, a_istore 2 4), (4, a_iload 2 5), (5, a_if kn b_eq 0 20 8), (8, a_iinc 1 1 11), (11, a_iload 2 12), (12, a_iload 2 13), (13, a_stk (q_int 1) 14), (14, a_stk q_isub 15), (15, a_stk q_iand 16), (16, a_istore 2 17), (17, a_goto 4), (20, a_iload 1 21), (21, a_iret)]
def fX12_bits (kn : sKn) : List Value → sW → Option sR := mF (tX12_bits kn) 3 1000000
set_option maxRecDepth 100000 in
set_option maxHeartbeats 4000000 in
theorem mX12_bits (kn : sKn) : mM kn yX12_bits (Cond.code yX12_bits cX12_bits 3 (some .int) :: wsL_law) 1 false (fX12_bits kn) := mM_of (own := RX12) (ini := false) rfl (by decide +kernel) (by decide +kernel) (all_c (ok_stk (s_iconst dX12_bits_0 (by decide))) (all_c (ok_istore_n dX12_bits_1 rfl (by decide)) (all_c (ok_iload_n dX12_bits_2 rfl) (all_c (ok_istore_n dX12_bits_3 rfl (by decide)) (all_c (ok_iload_n dX12_bits_4 rfl) (all_c (ok_if_eq dX12_bits_5 (by decide)) (all_c (ok_iinc dX12_bits_8 (by decide) (by decide)) (all_c (ok_iload_n dX12_bits_11 rfl) (all_c (ok_iload_n dX12_bits_12 rfl) (all_c (ok_stk (s_iconst dX12_bits_13 (by decide))) (all_c (ok_stk (s_isub dX12_bits_14)) (all_c (ok_stk (s_iand dX12_bits_15)) (all_c (ok_istore_n dX12_bits_16 rfl (by decide)) (all_c (ok_goto dX12_bits_17 (by decide)) (all_c (ok_iload_n dX12_bits_20 rfl) (all_c (ok_iret dX12_bits_21) all_n)))))))))))))))) 1000000 (fun h => by first | rfl | cases h)
theorem dX12_layAside_0 : decode cX12_layAside 0 = .ok (.iconst 0, 1) := by decide +kernel
theorem dX12_layAside_1 : decode cX12_layAside 1 = .ok (.istore_n 1, 1) := by decide +kernel
theorem dX12_layAside_2 : decode cX12_layAside 2 = .ok (.iload_n 1, 1) := by decide +kernel
theorem dX12_layAside_3 : decode cX12_layAside 3 = .ok (.bipush 102, 2) := by decide +kernel
theorem dX12_layAside_5 : decode cX12_layAside 5 = .ok (.if_icmp .ge 24, 3) := by decide +kernel
theorem dX12_layAside_8 : decode cX12_layAside 8 = .ok (.aload_n 0, 1) := by decide +kernel
theorem dX12_layAside_9 : decode cX12_layAside 9 = .ok (.getfield 110, 3) := by decide +kernel
theorem dX12_layAside_12 : decode cX12_layAside 12 = .ok (.iload_n 1, 1) := by decide +kernel
theorem dX12_layAside_13 : decode cX12_layAside 13 = .ok (.aload_n 0, 1) := by decide +kernel
theorem dX12_layAside_14 : decode cX12_layAside 14 = .ok (.getfield 98, 3) := by decide +kernel
theorem dX12_layAside_17 : decode cX12_layAside 17 = .ok (.bipush 94, 2) := by decide +kernel
theorem dX12_layAside_19 : decode cX12_layAside 19 = .ok (.iload_n 1, 1) := by decide +kernel
theorem dX12_layAside_20 : decode cX12_layAside 20 = .ok (.iadd, 1) := by decide +kernel
theorem dX12_layAside_21 : decode cX12_layAside 21 = .ok (.iaload, 1) := by decide +kernel
theorem dX12_layAside_22 : decode cX12_layAside 22 = .ok (.iastore, 1) := by decide +kernel
theorem dX12_layAside_23 : decode cX12_layAside 23 = .ok (.iinc 1 1, 3) := by decide +kernel
theorem dX12_layAside_26 : decode cX12_layAside 26 = .ok (.goto (-24), 3) := by decide +kernel
theorem dX12_layAside_29 : decode cX12_layAside 29 = .ok (.return_, 1) := by decide +kernel
def tX12_layAside (kn : sKn) : List (Nat × sA) := [(0, a_stk (q_int 0) 1), (1, a_istore 1 2), (2, a_iload 1 3), (3, a_stk (q_int 102) 5), (5, a_icmp kn b_ge 3 29 8), (8, a_aload 0 9), (9, a_get 13 18 12), (12, a_iload 1 13), (13, a_aload 0 14), (14, a_get 13 14 17), (17, a_stk (q_int 94) 19), (19, a_iload 1 20), (20, a_stk q_iadd 21), (21, a_iald 22), (22, a_iast 23), (23, a_iinc 1 1 26), (26, a_goto 2), (29, a_vret)]
def fX12_layAside (kn : sKn) : List Value → sW → Option sR := mF (tX12_layAside kn) 2 1000000
set_option maxRecDepth 100000 in
set_option maxHeartbeats 4000000 in
theorem mX12_layAside (kn : sKn) : mM kn yX12_layAside (Cond.code yX12_layAside cX12_layAside 2 none :: wsL_law) 1 true (fX12_layAside kn) := mM_of (own := RX12) (ini := false) rfl (by decide +kernel) (by decide +kernel) (all_c (ok_stk (s_iconst dX12_layAside_0 (by decide))) (all_c (ok_istore_n dX12_layAside_1 rfl (by decide)) (all_c (ok_iload_n dX12_layAside_2 rfl) (all_c (ok_stk (s_bipush dX12_layAside_3 (by decide))) (all_c (ok_icmp_ge dX12_layAside_5 (by decide)) (all_c (ok_aload_n dX12_layAside_8 rfl) (all_c (okg_X12_18 kw760 dX12_layAside_9) (all_c (ok_iload_n dX12_layAside_12 rfl) (all_c (ok_aload_n dX12_layAside_13 rfl) (all_c (okg_X12_14 kw683 dX12_layAside_14) (all_c (ok_stk (s_bipush dX12_layAside_17 (by decide))) (all_c (ok_iload_n dX12_layAside_19 rfl) (all_c (ok_stk (s_iadd dX12_layAside_20)) (all_c (ok_iald dX12_layAside_21) (all_c (ok_iast dX12_layAside_22) (all_c (ok_iinc dX12_layAside_23 (by decide) (by decide)) (all_c (ok_goto dX12_layAside_26 (by decide)) (all_c (ok_vret dX12_layAside_29) all_n)))))))))))))))))) 1000000 (fun h => by first | rfl | cases h)
theorem dX12_snap_0 : decode cX12_snap 0 = .ok (.aload_n 0, 1) := by decide +kernel
theorem dX12_snap_1 : decode cX12_snap 1 = .ok (.getfield 258, 3) := by decide +kernel
theorem dX12_snap_4 : decode cX12_snap 4 = .ok (.bipush 8, 2) := by decide +kernel
theorem dX12_snap_6 : decode cX12_snap 6 = .ok (.if_icmp .ne 43, 3) := by decide +kernel
theorem dX12_snap_9 : decode cX12_snap 9 = .ok (.iconst 0, 1) := by decide +kernel
theorem dX12_snap_10 : decode cX12_snap 10 = .ok (.istore_n 1, 1) := by decide +kernel
theorem dX12_snap_11 : decode cX12_snap 11 = .ok (.iload_n 1, 1) := by decide +kernel
theorem dX12_snap_12 : decode cX12_snap 12 = .ok (.sipush 714, 3) := by decide +kernel
theorem dX12_snap_15 : decode cX12_snap 15 = .ok (.if_icmp .ge 24, 3) := by decide +kernel
theorem dX12_snap_18 : decode cX12_snap 18 = .ok (.aload_n 0, 1) := by decide +kernel
theorem dX12_snap_19 : decode cX12_snap 19 = .ok (.getfield 107, 3) := by decide +kernel
theorem dX12_snap_22 : decode cX12_snap 22 = .ok (.iload_n 1, 1) := by decide +kernel
theorem dX12_snap_23 : decode cX12_snap 23 = .ok (.aload_n 0, 1) := by decide +kernel
theorem dX12_snap_24 : decode cX12_snap 24 = .ok (.getfield 107, 3) := by decide +kernel
theorem dX12_snap_27 : decode cX12_snap 27 = .ok (.iload_n 1, 1) := by decide +kernel
theorem dX12_snap_28 : decode cX12_snap 28 = .ok (.bipush 102, 2) := by decide +kernel
theorem dX12_snap_30 : decode cX12_snap 30 = .ok (.iadd, 1) := by decide +kernel
theorem dX12_snap_31 : decode cX12_snap 31 = .ok (.iaload, 1) := by decide +kernel
theorem dX12_snap_32 : decode cX12_snap 32 = .ok (.iastore, 1) := by decide +kernel
theorem dX12_snap_33 : decode cX12_snap 33 = .ok (.iinc 1 1, 3) := by decide +kernel
theorem dX12_snap_36 : decode cX12_snap 36 = .ok (.goto (-25), 3) := by decide +kernel
theorem dX12_snap_39 : decode cX12_snap 39 = .ok (.aload_n 0, 1) := by decide +kernel
theorem dX12_snap_40 : decode cX12_snap 40 = .ok (.dup, 1) := by decide +kernel
theorem dX12_snap_41 : decode cX12_snap 41 = .ok (.getfield 258, 3) := by decide +kernel
theorem dX12_snap_44 : decode cX12_snap 44 = .ok (.iconst 1, 1) := by decide +kernel
theorem dX12_snap_45 : decode cX12_snap 45 = .ok (.isub, 1) := by decide +kernel
theorem dX12_snap_46 : decode cX12_snap 46 = .ok (.putfield 258, 3) := by decide +kernel
theorem dX12_snap_49 : decode cX12_snap 49 = .ok (.iconst 0, 1) := by decide +kernel
theorem dX12_snap_50 : decode cX12_snap 50 = .ok (.istore_n 1, 1) := by decide +kernel
theorem dX12_snap_51 : decode cX12_snap 51 = .ok (.iload_n 1, 1) := by decide +kernel
theorem dX12_snap_52 : decode cX12_snap 52 = .ok (.bipush 102, 2) := by decide +kernel
theorem dX12_snap_54 : decode cX12_snap 54 = .ok (.if_icmp .ge 32, 3) := by decide +kernel
theorem dX12_snap_57 : decode cX12_snap 57 = .ok (.aload_n 0, 1) := by decide +kernel
theorem dX12_snap_58 : decode cX12_snap 58 = .ok (.getfield 107, 3) := by decide +kernel
theorem dX12_snap_61 : decode cX12_snap 61 = .ok (.bipush 102, 2) := by decide +kernel
theorem dX12_snap_63 : decode cX12_snap 63 = .ok (.aload_n 0, 1) := by decide +kernel
theorem dX12_snap_64 : decode cX12_snap 64 = .ok (.getfield 258, 3) := by decide +kernel
theorem dX12_snap_67 : decode cX12_snap 67 = .ok (.imul, 1) := by decide +kernel
theorem dX12_snap_68 : decode cX12_snap 68 = .ok (.iload_n 1, 1) := by decide +kernel
theorem dX12_snap_69 : decode cX12_snap 69 = .ok (.iadd, 1) := by decide +kernel
theorem dX12_snap_70 : decode cX12_snap 70 = .ok (.aload_n 0, 1) := by decide +kernel
theorem dX12_snap_71 : decode cX12_snap 71 = .ok (.getfield 98, 3) := by decide +kernel
theorem dX12_snap_74 : decode cX12_snap 74 = .ok (.bipush 94, 2) := by decide +kernel
theorem dX12_snap_76 : decode cX12_snap 76 = .ok (.iload_n 1, 1) := by decide +kernel
theorem dX12_snap_77 : decode cX12_snap 77 = .ok (.iadd, 1) := by decide +kernel
theorem dX12_snap_78 : decode cX12_snap 78 = .ok (.iaload, 1) := by decide +kernel
theorem dX12_snap_79 : decode cX12_snap 79 = .ok (.iastore, 1) := by decide +kernel
theorem dX12_snap_80 : decode cX12_snap 80 = .ok (.iinc 1 1, 3) := by decide +kernel
theorem dX12_snap_83 : decode cX12_snap 83 = .ok (.goto (-32), 3) := by decide +kernel
theorem dX12_snap_86 : decode cX12_snap 86 = .ok (.aload_n 0, 1) := by decide +kernel
theorem dX12_snap_87 : decode cX12_snap 87 = .ok (.dup, 1) := by decide +kernel
theorem dX12_snap_88 : decode cX12_snap 88 = .ok (.getfield 258, 3) := by decide +kernel
theorem dX12_snap_91 : decode cX12_snap 91 = .ok (.iconst 1, 1) := by decide +kernel
theorem dX12_snap_92 : decode cX12_snap 92 = .ok (.iadd, 1) := by decide +kernel
theorem dX12_snap_93 : decode cX12_snap 93 = .ok (.putfield 258, 3) := by decide +kernel
theorem dX12_snap_96 : decode cX12_snap 96 = .ok (.return_, 1) := by decide +kernel
def tX12_snap (kn : sKn) : List (Nat × sA) := [(0, a_aload 0 1), (1, a_get 13 23 4), (4, a_stk (q_int 8) 6), (6, a_icmp kn b_ne 1 49 9), (9, a_stk (q_int 0) 10), (10, a_istore 1 11), (11, a_iload 1 12), (12, a_stk (q_int 714) 15), (15, a_icmp kn b_ge 3 39 18), (18, a_aload 0 19), (19, a_get 13 17 22), (22, a_iload 1 23), (23, a_aload 0 24), (24, a_get 13 17 27), (27, a_iload 1 28), (28, a_stk (q_int 102) 30), (30, a_stk q_iadd 31), (31, a_iald 32), (32, a_iast 33), (33, a_iinc 1 1 36), (36, a_goto 11), (39, a_aload 0 40), (40, a_stk q_dup 41), (41, a_get 13 23 44), (44, a_stk (q_int 1) 45), (45, a_stk q_isub 46), (46, a_put 13 23 ckI 49), (49, a_stk (q_int 0) 50), (50, a_istore 1 51), (51, a_iload 1 52), (52, a_stk (q_int 102) 54), (54, a_icmp kn b_ge 3 86 57), (57, a_aload 0 58), (58, a_get 13 17 61), (61, a_stk (q_int 102) 63), (63, a_aload 0 64), (64, a_get 13 23 67), (67, a_stk q_imul 68), (68, a_iload 1 69), (69, a_stk q_iadd 70), (70, a_aload 0 71), (71, a_get 13 14 74), (74, a_stk (q_int 94) 76), (76, a_iload 1 77), (77, a_stk q_iadd 78), (78, a_iald 79), (79, a_iast 80), (80, a_iinc 1 1 83), (83, a_goto 51), (86, a_aload 0 87), (87, a_stk q_dup 88), (88, a_get 13 23 91), (91, a_stk (q_int 1) 92), (92, a_stk q_iadd 93), (93, a_put 13 23 ckI 96), (96, a_vret)]
def fX12_snap (kn : sKn) : List Value → sW → Option sR := mF (tX12_snap kn) 2 1000000
set_option maxRecDepth 100000 in
set_option maxHeartbeats 4000000 in
theorem mX12_snap (kn : sKn) : mM kn yX12_snap (Cond.code yX12_snap cX12_snap 2 none :: wsL_law) 1 true (fX12_snap kn) := mM_of (own := RX12) (ini := false) rfl (by decide +kernel) (by decide +kernel) (all_c (ok_aload_n dX12_snap_0 rfl) (all_c (okg_X12_23 kw761 dX12_snap_1) (all_c (ok_stk (s_bipush dX12_snap_4 (by decide))) (all_c (ok_icmp_ne dX12_snap_6 (by decide)) (all_c (ok_stk (s_iconst dX12_snap_9 (by decide))) (all_c (ok_istore_n dX12_snap_10 rfl (by decide)) (all_c (ok_iload_n dX12_snap_11 rfl) (all_c (ok_stk (s_sipush dX12_snap_12 (by decide))) (all_c (ok_icmp_ge dX12_snap_15 (by decide)) (all_c (ok_aload_n dX12_snap_18 rfl) (all_c (okg_X12_17 kw762 dX12_snap_19) (all_c (ok_iload_n dX12_snap_22 rfl) (all_c (ok_aload_n dX12_snap_23 rfl) (all_c (okg_X12_17 kw762 dX12_snap_24) (all_c (ok_iload_n dX12_snap_27 rfl) (all_c (ok_stk (s_bipush dX12_snap_28 (by decide))) (all_c (ok_stk (s_iadd dX12_snap_30)) (all_c (ok_iald dX12_snap_31) (all_c (ok_iast dX12_snap_32) (all_c (ok_iinc dX12_snap_33 (by decide) (by decide)) (all_c (ok_goto dX12_snap_36 (by decide)) (all_c (ok_aload_n dX12_snap_39 rfl) (all_c (ok_stk (s_dup dX12_snap_40)) (all_c (okg_X12_23 kw761 dX12_snap_41) (all_c (ok_stk (s_iconst dX12_snap_44 (by decide))) (all_c (ok_stk (s_isub dX12_snap_45)) (all_c (okp_X12_23 kw761 dX12_snap_46) (all_c (ok_stk (s_iconst dX12_snap_49 (by decide))) (all_c (ok_istore_n dX12_snap_50 rfl (by decide)) (all_c (ok_iload_n dX12_snap_51 rfl) (all_c (ok_stk (s_bipush dX12_snap_52 (by decide))) (all_c (ok_icmp_ge dX12_snap_54 (by decide)) (all_c (ok_aload_n dX12_snap_57 rfl) (all_c (okg_X12_17 kw762 dX12_snap_58) (all_c (ok_stk (s_bipush dX12_snap_61 (by decide))) (all_c (ok_aload_n dX12_snap_63 rfl) (all_c (okg_X12_23 kw761 dX12_snap_64) (all_c (ok_stk (s_imul dX12_snap_67)) (all_c (ok_iload_n dX12_snap_68 rfl) (all_c (ok_stk (s_iadd dX12_snap_69)) (all_c (ok_aload_n dX12_snap_70 rfl) (all_c (okg_X12_14 kw683 dX12_snap_71) (all_c (ok_stk (s_bipush dX12_snap_74 (by decide))) (all_c (ok_iload_n dX12_snap_76 rfl) (all_c (ok_stk (s_iadd dX12_snap_77)) (all_c (ok_iald dX12_snap_78) (all_c (ok_iast dX12_snap_79) (all_c (ok_iinc dX12_snap_80 (by decide) (by decide)) (all_c (ok_goto dX12_snap_83 (by decide)) (all_c (ok_aload_n dX12_snap_86 rfl) (all_c (ok_stk (s_dup dX12_snap_87)) (all_c (okg_X12_23 kw761 dX12_snap_88) (all_c (ok_stk (s_iconst dX12_snap_91 (by decide))) (all_c (ok_stk (s_iadd dX12_snap_92)) (all_c (okp_X12_23 kw761 dX12_snap_93) (all_c (ok_vret dX12_snap_96) all_n)))))))))))))))))))))))))))))))))))))))))))))))))))))))) 1000000 (fun h => by first | rfl | cases h)
theorem dX12_stay_0 : decode cX12_stay 0 = .ok (.iconst 0, 1) := by decide +kernel
theorem dX12_stay_1 : decode cX12_stay 1 = .ok (.istore_n 2, 1) := by decide +kernel
theorem dX12_stay_2 : decode cX12_stay 2 = .ok (.iload_n 2, 1) := by decide +kernel
theorem dX12_stay_3 : decode cX12_stay 3 = .ok (.bipush 102, 2) := by decide +kernel
theorem dX12_stay_5 : decode cX12_stay 5 = .ok (.if_icmp .ge 41, 3) := by decide +kernel
theorem dX12_stay_8 : decode cX12_stay 8 = .ok (.aload_n 0, 1) := by decide +kernel
theorem dX12_stay_9 : decode cX12_stay 9 = .ok (.getfield 98, 3) := by decide +kernel
theorem dX12_stay_12 : decode cX12_stay 12 = .ok (.bipush 94, 2) := by decide +kernel
theorem dX12_stay_14 : decode cX12_stay 14 = .ok (.iload_n 2, 1) := by decide +kernel
theorem dX12_stay_15 : decode cX12_stay 15 = .ok (.iadd, 1) := by decide +kernel
theorem dX12_stay_16 : decode cX12_stay 16 = .ok (.iaload, 1) := by decide +kernel
theorem dX12_stay_17 : decode cX12_stay 17 = .ok (.istore_n 3, 1) := by decide +kernel
theorem dX12_stay_18 : decode cX12_stay 18 = .ok (.aload_n 0, 1) := by decide +kernel
theorem dX12_stay_19 : decode cX12_stay 19 = .ok (.getfield 98, 3) := by decide +kernel
theorem dX12_stay_22 : decode cX12_stay 22 = .ok (.bipush 94, 2) := by decide +kernel
theorem dX12_stay_24 : decode cX12_stay 24 = .ok (.iload_n 2, 1) := by decide +kernel
theorem dX12_stay_25 : decode cX12_stay 25 = .ok (.iadd, 1) := by decide +kernel
theorem dX12_stay_26 : decode cX12_stay 26 = .ok (.aload_n 0, 1) := by decide +kernel
theorem dX12_stay_27 : decode cX12_stay 27 = .ok (.getfield 110, 3) := by decide +kernel
theorem dX12_stay_30 : decode cX12_stay 30 = .ok (.iload_n 2, 1) := by decide +kernel
theorem dX12_stay_31 : decode cX12_stay 31 = .ok (.iaload, 1) := by decide +kernel
theorem dX12_stay_32 : decode cX12_stay 32 = .ok (.iastore, 1) := by decide +kernel
theorem dX12_stay_33 : decode cX12_stay 33 = .ok (.aload_n 0, 1) := by decide +kernel
theorem dX12_stay_34 : decode cX12_stay 34 = .ok (.getfield 110, 3) := by decide +kernel
theorem dX12_stay_37 : decode cX12_stay 37 = .ok (.iload_n 2, 1) := by decide +kernel
theorem dX12_stay_38 : decode cX12_stay 38 = .ok (.iload_n 3, 1) := by decide +kernel
theorem dX12_stay_39 : decode cX12_stay 39 = .ok (.iastore, 1) := by decide +kernel
theorem dX12_stay_40 : decode cX12_stay 40 = .ok (.iinc 2 1, 3) := by decide +kernel
theorem dX12_stay_43 : decode cX12_stay 43 = .ok (.goto (-41), 3) := by decide +kernel
theorem dX12_stay_46 : decode cX12_stay 46 = .ok (.iload_n 1, 1) := by decide +kernel
theorem dX12_stay_47 : decode cX12_stay 47 = .ok (.ifCond .ne 4, 3) := by decide +kernel
theorem dX12_stay_50 : decode cX12_stay 50 = .ok (.return_, 1) := by decide +kernel
theorem dX12_stay_51 : decode cX12_stay 51 = .ok (.aload_n 0, 1) := by decide +kernel
theorem dX12_stay_52 : decode cX12_stay 52 = .ok (.invokevirtual 343, 3) := by decide +kernel
theorem dX12_stay_55 : decode cX12_stay 55 = .ok (.aload_n 0, 1) := by decide +kernel
theorem dX12_stay_56 : decode cX12_stay 56 = .ok (.invokevirtual 415, 3) := by decide +kernel
theorem dX12_stay_59 : decode cX12_stay 59 = .ok (.return_, 1) := by decide +kernel
theorem okc_X12_snap {kn : sKn} {cc : ByteArray} {own : String} {nL : Nat} {D : Nat} {ret : Option FieldType} {ini : Bool} {pc index : Nat} (hD : 1 + 1 ≤ D) (hl : Cond.methodLink own index yX12_snap ∈ wsL_law) (hd : decode cc pc = .ok (.invokevirtual index, 3)) : mOk kn cc own nL wsL_law D ret ini pc (a_callV true (fX12_snap kn) 13 (0 + 1) (pc + 3)) := ok_callV (mX12_snap kn) (good_ws ws_good (fun _ h => h) kw763) hD (by decide) hl kw764 kw765 kw686 ⟨by decide +kernel, by decide +kernel, by decide +kernel⟩ rfl hd
theorem okc0_X12_takeBack {kn : sKn} {cc : ByteArray} {own : String} {nL : Nat} {D : Nat} {ret : Option FieldType} {ini : Bool} {pc index : Nat} (hD : 0 + 1 ≤ D) (hl : Cond.methodLink own index yX12_takeBack ∈ wsL_law) (hd : decode cc pc = .ok (.invokevirtual index, 3)) : mOk kn cc own nL wsL_law D ret ini pc (a_callV true f_none 13 (0 + 1) (pc + 3)) := ok_callV (m_none (D := 0)) (good_ws ws_good (fun _ h => h) kw767) hD (by decide) hl kw768 kw769 kw686 ⟨by decide +kernel, by decide +kernel, by decide +kernel⟩ rfl hd
def tX12_stay (kn : sKn) : List (Nat × sA) := [(0, a_stk (q_int 0) 1), (1, a_istore 2 2), (2, a_iload 2 3), (3, a_stk (q_int 102) 5), (5, a_icmp kn b_ge 3 46 8), (8, a_aload 0 9), (9, a_get 13 14 12), (12, a_stk (q_int 94) 14), (14, a_iload 2 15), (15, a_stk q_iadd 16), (16, a_iald 17), (17, a_istore 3 18), (18, a_aload 0 19), (19, a_get 13 14 22), (22, a_stk (q_int 94) 24), (24, a_iload 2 25), (25, a_stk q_iadd 26), (26, a_aload 0 27), (27, a_get 13 18 30), (30, a_iload 2 31), (31, a_iald 32), (32, a_iast 33), (33, a_aload 0 34), (34, a_get 13 18 37), (37, a_iload 2 38), (38, a_iload 3 39), (39, a_iast 40), (40, a_iinc 2 1 43), (43, a_goto 2), (46, a_iload 1 47), (47, a_if kn b_ne 1 51 50), (50, a_vret), (51, a_aload 0 52), (52, a_callV true (fX12_snap kn) 13 1 55), (55, a_aload 0 56), (56, a_callV true f_none 13 1 59), (59, a_vret)]
def fX12_stay (kn : sKn) : List Value → sW → Option sR := mF (tX12_stay kn) 4 1000000
set_option maxRecDepth 100000 in
set_option maxHeartbeats 4000000 in
theorem mX12_stay (kn : sKn) : mM kn yX12_stay (Cond.code yX12_stay cX12_stay 4 none :: wsL_law) 2 true (fX12_stay kn) := mM_of (own := RX12) (ini := false) rfl (by decide +kernel) (by decide +kernel) (all_c (ok_stk (s_iconst dX12_stay_0 (by decide))) (all_c (ok_istore_n dX12_stay_1 rfl (by decide)) (all_c (ok_iload_n dX12_stay_2 rfl) (all_c (ok_stk (s_bipush dX12_stay_3 (by decide))) (all_c (ok_icmp_ge dX12_stay_5 (by decide)) (all_c (ok_aload_n dX12_stay_8 rfl) (all_c (okg_X12_14 kw683 dX12_stay_9) (all_c (ok_stk (s_bipush dX12_stay_12 (by decide))) (all_c (ok_iload_n dX12_stay_14 rfl) (all_c (ok_stk (s_iadd dX12_stay_15)) (all_c (ok_iald dX12_stay_16) (all_c (ok_istore_n dX12_stay_17 rfl (by decide)) (all_c (ok_aload_n dX12_stay_18 rfl) (all_c (okg_X12_14 kw683 dX12_stay_19) (all_c (ok_stk (s_bipush dX12_stay_22 (by decide))) (all_c (ok_iload_n dX12_stay_24 rfl) (all_c (ok_stk (s_iadd dX12_stay_25)) (all_c (ok_aload_n dX12_stay_26 rfl) (all_c (okg_X12_18 kw760 dX12_stay_27) (all_c (ok_iload_n dX12_stay_30 rfl) (all_c (ok_iald dX12_stay_31) (all_c (ok_iast dX12_stay_32) (all_c (ok_aload_n dX12_stay_33 rfl) (all_c (okg_X12_18 kw760 dX12_stay_34) (all_c (ok_iload_n dX12_stay_37 rfl) (all_c (ok_iload_n dX12_stay_38 rfl) (all_c (ok_iast dX12_stay_39) (all_c (ok_iinc dX12_stay_40 (by decide) (by decide)) (all_c (ok_goto dX12_stay_43 (by decide)) (all_c (ok_iload_n dX12_stay_46 rfl) (all_c (ok_if_ne dX12_stay_47 (by decide)) (all_c (ok_vret dX12_stay_50) (all_c (ok_aload_n dX12_stay_51 rfl) (all_c (okc_X12_snap (by decide) kw766 dX12_stay_52) (all_c (ok_aload_n dX12_stay_55 rfl) (all_c (okc0_X12_takeBack (by decide) kw770 dX12_stay_56) (all_c (ok_vret dX12_stay_59) all_n))))))))))))))))))))))))))))))))))))) 1000000 (fun h => by first | rfl | cases h)
theorem dX12_book_0 : decode cX12_book 0 = .ok (.aload_n 0, 1) := by decide +kernel
theorem dX12_book_1 : decode cX12_book 1 = .ok (.iconst 0, 1) := by decide +kernel
theorem dX12_book_2 : decode cX12_book 2 = .ok (.putfield 1, 3) := by decide +kernel
theorem dX12_book_5 : decode cX12_book 5 = .ok (.iload_n 1, 1) := by decide +kernel
theorem dX12_book_6 : decode cX12_book 6 = .ok (.iconst 0, 1) := by decide +kernel
theorem dX12_book_7 : decode cX12_book 7 = .ok (.iconst 1, 1) := by decide +kernel
theorem dX12_book_8 : decode cX12_book 8 = .ok (.invokestatic 75, 3) := by decide +kernel
theorem dX12_book_11 : decode cX12_book 11 = .ok (.ifCond .ne 7, 3) := by decide +kernel
theorem dX12_book_14 : decode cX12_book 14 = .ok (.sipush (-1000), 3) := by decide +kernel
theorem dX12_book_17 : decode cX12_book 17 = .ok (.ireturn, 1) := by decide +kernel
theorem dX12_book_18 : decode cX12_book 18 = .ok (.aload_n 0, 1) := by decide +kernel
theorem dX12_book_19 : decode cX12_book 19 = .ok (.sipush 400, 3) := by decide +kernel
theorem dX12_book_22 : decode cX12_book 22 = .ok (.invokevirtual 249, 3) := by decide +kernel
theorem dX12_book_25 : decode cX12_book 25 = .ok (.aload_n 0, 1) := by decide +kernel
theorem dX12_book_26 : decode cX12_book 26 = .ok (.iconst 0, 1) := by decide +kernel
theorem dX12_book_27 : decode cX12_book 27 = .ok (.putfield 450, 3) := by decide +kernel
theorem dX12_book_30 : decode cX12_book 30 = .ok (.aload_n 0, 1) := by decide +kernel
theorem dX12_book_31 : decode cX12_book 31 = .ok (.getfield 30, 3) := by decide +kernel
theorem dX12_book_34 : decode cX12_book 34 = .ok (.ifCond .eq 31, 3) := by decide +kernel
theorem dX12_book_37 : decode cX12_book 37 = .ok (.aload_n 0, 1) := by decide +kernel
theorem dX12_book_38 : decode cX12_book 38 = .ok (.invokevirtual 456, 3) := by decide +kernel
theorem dX12_book_41 : decode cX12_book 41 = .ok (.ifCond .ne 11, 3) := by decide +kernel
theorem dX12_book_44 : decode cX12_book 44 = .ok (.bipush (-2), 2) := by decide +kernel
theorem dX12_book_46 : decode cX12_book 46 = .ok (.aload_n 0, 1) := by decide +kernel
theorem dX12_book_47 : decode cX12_book 47 = .ok (.getfield 69, 3) := by decide +kernel
theorem dX12_book_50 : decode cX12_book 50 = .ok (.isub, 1) := by decide +kernel
theorem dX12_book_51 : decode cX12_book 51 = .ok (.ireturn, 1) := by decide +kernel
theorem dX12_book_52 : decode cX12_book 52 = .ok (.aload_n 0, 1) := by decide +kernel
theorem dX12_book_53 : decode cX12_book 53 = .ok (.dup, 1) := by decide +kernel
theorem dX12_book_54 : decode cX12_book 54 = .ok (.getfield 450, 3) := by decide +kernel
theorem dX12_book_57 : decode cX12_book 57 = .ok (.iconst 1, 1) := by decide +kernel
theorem dX12_book_58 : decode cX12_book 58 = .ok (.iadd, 1) := by decide +kernel
theorem dX12_book_59 : decode cX12_book 59 = .ok (.putfield 450, 3) := by decide +kernel
theorem dX12_book_62 : decode cX12_book 62 = .ok (.goto (-32), 3) := by decide +kernel
theorem dX12_book_65 : decode cX12_book 65 = .ok (.aload_n 0, 1) := by decide +kernel
theorem dX12_book_66 : decode cX12_book 66 = .ok (.invokevirtual 409, 3) := by decide +kernel
theorem dX12_book_69 : decode cX12_book 69 = .ok (.iconst 0, 1) := by decide +kernel
theorem dX12_book_70 : decode cX12_book 70 = .ok (.istore_n 2, 1) := by decide +kernel
theorem dX12_book_71 : decode cX12_book 71 = .ok (.iconst 0, 1) := by decide +kernel
theorem dX12_book_72 : decode cX12_book 72 = .ok (.istore_n 3, 1) := by decide +kernel
theorem dX12_book_73 : decode cX12_book 73 = .ok (.iload_n 2, 1) := by decide +kernel
theorem dX12_book_74 : decode cX12_book 74 = .ok (.aload_n 0, 1) := by decide +kernel
theorem dX12_book_75 : decode cX12_book 75 = .ok (.getfield 450, 3) := by decide +kernel
theorem dX12_book_78 : decode cX12_book 78 = .ok (.if_icmp .ge 49, 3) := by decide +kernel
theorem dX12_book_81 : decode cX12_book 81 = .ok (.iload_n 3, 1) := by decide +kernel
theorem dX12_book_82 : decode cX12_book 82 = .ok (.ifCond .ne 45, 3) := by decide +kernel
theorem dX12_book_85 : decode cX12_book 85 = .ok (.aload_n 0, 1) := by decide +kernel
theorem dX12_book_86 : decode cX12_book 86 = .ok (.iconst 4, 1) := by decide +kernel
theorem dX12_book_87 : decode cX12_book 87 = .ok (.iload_n 2, 1) := by decide +kernel
theorem dX12_book_88 : decode cX12_book 88 = .ok (.imul, 1) := by decide +kernel
theorem dX12_book_89 : decode cX12_book 89 = .ok (.invokevirtual 459, 3) := by decide +kernel
theorem dX12_book_92 : decode cX12_book 92 = .ok (.istore_n 3, 1) := by decide +kernel
theorem dX12_book_93 : decode cX12_book 93 = .ok (.iload_n 3, 1) := by decide +kernel
theorem dX12_book_94 : decode cX12_book 94 = .ok (.ifCond .eq 20, 3) := by decide +kernel
theorem dX12_book_97 : decode cX12_book 97 = .ok (.iload_n 3, 1) := by decide +kernel
theorem dX12_book_98 : decode cX12_book 98 = .ok (.bipush 10, 2) := by decide +kernel
theorem dX12_book_100 : decode cX12_book 100 = .ok (.aload_n 0, 1) := by decide +kernel
theorem dX12_book_101 : decode cX12_book 101 = .ok (.getfield 175, 3) := by decide +kernel
theorem dX12_book_104 : decode cX12_book 104 = .ok (.iconst 4, 1) := by decide +kernel
theorem dX12_book_105 : decode cX12_book 105 = .ok (.iload_n 2, 1) := by decide +kernel
theorem dX12_book_106 : decode cX12_book 106 = .ok (.imul, 1) := by decide +kernel
theorem dX12_book_107 : decode cX12_book 107 = .ok (.iaload, 1) := by decide +kernel
theorem dX12_book_108 : decode cX12_book 108 = .ok (.imul, 1) := by decide +kernel
theorem dX12_book_109 : decode cX12_book 109 = .ok (.iadd, 1) := by decide +kernel
theorem dX12_book_110 : decode cX12_book 110 = .ok (.istore_n 3, 1) := by decide +kernel
theorem dX12_book_111 : decode cX12_book 111 = .ok (.goto (-38), 3) := by decide +kernel
theorem dX12_book_114 : decode cX12_book 114 = .ok (.aload_n 0, 1) := by decide +kernel
theorem dX12_book_115 : decode cX12_book 115 = .ok (.iconst 4, 1) := by decide +kernel
theorem dX12_book_116 : decode cX12_book 116 = .ok (.iload_n 2, 1) := by decide +kernel
theorem dX12_book_117 : decode cX12_book 117 = .ok (.imul, 1) := by decide +kernel
theorem dX12_book_118 : decode cX12_book 118 = .ok (.invokevirtual 462, 3) := by decide +kernel
theorem dX12_book_121 : decode cX12_book 121 = .ok (.iinc 2 1, 3) := by decide +kernel
theorem dX12_book_124 : decode cX12_book 124 = .ok (.goto (-51), 3) := by decide +kernel
theorem dX12_book_127 : decode cX12_book 127 = .ok (.aload_n 0, 1) := by decide +kernel
theorem dX12_book_128 : decode cX12_book 128 = .ok (.getfield 178, 3) := by decide +kernel
theorem dX12_book_131 : decode cX12_book 131 = .ok (.iconst 0, 1) := by decide +kernel
theorem dX12_book_132 : decode cX12_book 132 = .ok (.iload_n 3, 1) := by decide +kernel
theorem dX12_book_133 : decode cX12_book 133 = .ok (.iastore, 1) := by decide +kernel
theorem dX12_book_134 : decode cX12_book 134 = .ok (.aload_n 0, 1) := by decide +kernel
theorem dX12_book_135 : decode cX12_book 135 = .ok (.getfield 178, 3) := by decide +kernel
theorem dX12_book_138 : decode cX12_book 138 = .ok (.iconst 1, 1) := by decide +kernel
theorem dX12_book_139 : decode cX12_book 139 = .ok (.iload_n 2, 1) := by decide +kernel
theorem dX12_book_140 : decode cX12_book 140 = .ok (.iastore, 1) := by decide +kernel
theorem dX12_book_141 : decode cX12_book 141 = .ok (.aload_n 0, 1) := by decide +kernel
theorem dX12_book_142 : decode cX12_book 142 = .ok (.getfield 178, 3) := by decide +kernel
theorem dX12_book_145 : decode cX12_book 145 = .ok (.iconst 2, 1) := by decide +kernel
theorem dX12_book_146 : decode cX12_book 146 = .ok (.aload_n 0, 1) := by decide +kernel
theorem dX12_book_147 : decode cX12_book 147 = .ok (.getfield 98, 3) := by decide +kernel
theorem dX12_book_150 : decode cX12_book 150 = .ok (.bipush 94, 2) := by decide +kernel
theorem dX12_book_152 : decode cX12_book 152 = .ok (.iaload, 1) := by decide +kernel
theorem dX12_book_153 : decode cX12_book 153 = .ok (.iastore, 1) := by decide +kernel
theorem dX12_book_154 : decode cX12_book 154 = .ok (.aload_n 0, 1) := by decide +kernel
theorem dX12_book_155 : decode cX12_book 155 = .ok (.getfield 178, 3) := by decide +kernel
theorem dX12_book_158 : decode cX12_book 158 = .ok (.iconst 3, 1) := by decide +kernel
theorem dX12_book_159 : decode cX12_book 159 = .ok (.aload_n 0, 1) := by decide +kernel
theorem dX12_book_160 : decode cX12_book 160 = .ok (.getfield 98, 3) := by decide +kernel
theorem dX12_book_163 : decode cX12_book 163 = .ok (.bipush 96, 2) := by decide +kernel
theorem dX12_book_165 : decode cX12_book 165 = .ok (.iaload, 1) := by decide +kernel
theorem dX12_book_166 : decode cX12_book 166 = .ok (.iastore, 1) := by decide +kernel
theorem dX12_book_167 : decode cX12_book 167 = .ok (.aload_n 0, 1) := by decide +kernel
theorem dX12_book_168 : decode cX12_book 168 = .ok (.iconst 1, 1) := by decide +kernel
theorem dX12_book_169 : decode cX12_book 169 = .ok (.putfield 465, 3) := by decide +kernel
theorem dX12_book_172 : decode cX12_book 172 = .ok (.aload_n 0, 1) := by decide +kernel
theorem dX12_book_173 : decode cX12_book 173 = .ok (.iload_n 1, 1) := by decide +kernel
theorem dX12_book_174 : decode cX12_book 174 = .ok (.iconst 1, 1) := by decide +kernel
theorem dX12_book_175 : decode cX12_book 175 = .ok (.if_icmp .ne 11, 3) := by decide +kernel
theorem dX12_book_178 : decode cX12_book 178 = .ok (.iload_n 2, 1) := by decide +kernel
theorem dX12_book_179 : decode cX12_book 179 = .ok (.ifCond .le 7, 3) := by decide +kernel
theorem dX12_book_182 : decode cX12_book 182 = .ok (.iconst 1, 1) := by decide +kernel
theorem dX12_book_183 : decode cX12_book 183 = .ok (.goto 4, 3) := by decide +kernel
theorem dX12_book_186 : decode cX12_book 186 = .ok (.iconst 0, 1) := by decide +kernel
theorem dX12_book_187 : decode cX12_book 187 = .ok (.invokevirtual 468, 3) := by decide +kernel
theorem dX12_book_190 : decode cX12_book 190 = .ok (.iload_n 3, 1) := by decide +kernel
theorem dX12_book_191 : decode cX12_book 191 = .ok (.ifCond .ne 7, 3) := by decide +kernel
theorem dX12_book_194 : decode cX12_book 194 = .ok (.iconst (-1), 1) := by decide +kernel
theorem dX12_book_195 : decode cX12_book 195 = .ok (.goto 4, 3) := by decide +kernel
theorem dX12_book_198 : decode cX12_book 198 = .ok (.iload_n 2, 1) := by decide +kernel
theorem dX12_book_199 : decode cX12_book 199 = .ok (.ireturn, 1) := by decide +kernel
theorem okc_X12_begin {kn : sKn} {cc : ByteArray} {own : String} {nL : Nat} {D : Nat} {ret : Option FieldType} {ini : Bool} {pc index : Nat} (hD : 2 + 1 ≤ D) (hl : Cond.methodLink own index yX12_begin ∈ wsL_law) (hd : decode cc pc = .ok (.invokevirtual index, 3)) : mOk kn cc own nL wsL_law D ret ini pc (a_callV true (fX12_begin kn) 13 (1 + 1) (pc + 3)) := ok_callV (mX12_begin kn) (good_ws ws_good (fun _ h => h) kw771) hD (by decide) hl kw772 kw773 kw686 ⟨by decide +kernel, by decide +kernel, by decide +kernel⟩ rfl hd
theorem okc0_X12_readBookLine {kn : sKn} {cc : ByteArray} {own : String} {nL : Nat} {D : Nat} {ret : Option FieldType} {ini : Bool} {pc index : Nat} (hD : 0 + 1 ≤ D) (hl : Cond.methodLink own index yX12_readBookLine ∈ wsL_law) (hd : decode cc pc = .ok (.invokevirtual index, 3)) : mOk kn cc own nL wsL_law D ret ini pc (a_callV false f_none 13 (0 + 1) (pc + 3)) := ok_callV (m_none (D := 0)) (good_ws ws_good (fun _ h => h) kw776) hD (by decide) hl kw777 kw778 kw686 ⟨by decide +kernel, by decide +kernel, by decide +kernel⟩ rfl hd
theorem okc_X12_layAside {kn : sKn} {cc : ByteArray} {own : String} {nL : Nat} {D : Nat} {ret : Option FieldType} {ini : Bool} {pc index : Nat} (hD : 1 + 1 ≤ D) (hl : Cond.methodLink own index yX12_layAside ∈ wsL_law) (hd : decode cc pc = .ok (.invokevirtual index, 3)) : mOk kn cc own nL wsL_law D ret ini pc (a_callV true (fX12_layAside kn) 13 (0 + 1) (pc + 3)) := ok_callV (mX12_layAside kn) (good_ws ws_good (fun _ h => h) kw780) hD (by decide) hl kw781 kw782 kw686 ⟨by decide +kernel, by decide +kernel, by decide +kernel⟩ rfl hd
theorem okc0_X12_whyLine {kn : sKn} {cc : ByteArray} {own : String} {nL : Nat} {D : Nat} {ret : Option FieldType} {ini : Bool} {pc index : Nat} (hD : 0 + 1 ≤ D) (hl : Cond.methodLink own index yX12_whyLine ∈ wsL_law) (hd : decode cc pc = .ok (.invokevirtual index, 3)) : mOk kn cc own nL wsL_law D ret ini pc (a_callV false f_none 13 (1 + 1) (pc + 3)) := ok_callV (m_none (D := 0)) (good_ws ws_good (fun _ h => h) kw784) hD (by decide) hl kw785 kw786 kw686 ⟨by decide +kernel, by decide +kernel, by decide +kernel⟩ rfl hd
theorem okc0_X12_live {kn : sKn} {cc : ByteArray} {own : String} {nL : Nat} {D : Nat} {ret : Option FieldType} {ini : Bool} {pc index : Nat} (hD : 0 + 1 ≤ D) (hl : Cond.methodLink own index yX12_live ∈ wsL_law) (hd : decode cc pc = .ok (.invokevirtual index, 3)) : mOk kn cc own nL wsL_law D ret ini pc (a_callV true f_none 13 (1 + 1) (pc + 3)) := ok_callV (m_none (D := 0)) (good_ws ws_good (fun _ h => h) kw789) hD (by decide) hl kw790 kw791 kw686 ⟨by decide +kernel, by decide +kernel, by decide +kernel⟩ rfl hd
theorem okc_X12_stay {kn : sKn} {cc : ByteArray} {own : String} {nL : Nat} {D : Nat} {ret : Option FieldType} {ini : Bool} {pc index : Nat} (hD : 2 + 1 ≤ D) (hl : Cond.methodLink own index yX12_stay ∈ wsL_law) (hd : decode cc pc = .ok (.invokevirtual index, 3)) : mOk kn cc own nL wsL_law D ret ini pc (a_callV true (fX12_stay kn) 13 (1 + 1) (pc + 3)) := ok_callV (mX12_stay kn) (good_ws ws_good (fun _ h => h) kw795) hD (by decide) hl kw796 kw797 kw686 ⟨by decide +kernel, by decide +kernel, by decide +kernel⟩ rfl hd
def tX12_book (kn : sKn) : List (Nat × sA) := [(0, a_aload 0 1), (1, a_stk (q_int 0) 2), (2, a_put 13 0 ckI 5), (5, a_iload 1 6), (6, a_stk (q_int 0) 7), (7, a_stk (q_int 1) 8), (8, a_callS false (fX12_isIn kn) 3 11), (11, a_if kn b_ne 1 18 14), (14, a_stk (q_int (-1000)) 17), (17, a_iret), (18, a_aload 0 19), (19, a_stk (q_int 400) 22), (22, a_callV true (fX12_begin kn) 13 2 25), (25, a_aload 0 26), (26, a_stk (q_int 0) 27), (27, a_put 13 53 ckI 30), (30, a_aload 0 31), (31, a_get 13 7 34), (34, a_if kn b_eq 0 65 37), (37, a_aload 0 38), (38, a_callV false f_none 13 1 41), (41, a_if kn b_ne 1 52 44), (44, a_stk (q_int (-2)) 46), (46, a_aload 0 47), (47, a_get 13 11 50), (50, a_stk q_isub 51), (51, a_iret), (52, a_aload 0 53), (53, a_stk q_dup 54), (54, a_get 13 53 57), (57, a_stk (q_int 1) 58), (58, a_stk q_iadd 59), (59, a_put 13 53 ckI 62), (62, a_goto 30), (65, a_aload 0 66), (66, a_callV true (fX12_layAside kn) 13 1 69), (69, a_stk (q_int 0) 70), (70, a_istore 2 71), (71, a_stk (q_int 0) 72), (72, a_istore 3 73), (73, a_iload 2 74), (74, a_aload 0 75), (75, a_get 13 53 78), (78, a_icmp kn b_ge 3 127 81), (81, a_iload 3 82), (82, a_if kn b_ne 1 127 85), (85, a_aload 0 86), (86, a_stk (q_int 4) 87), (87, a_iload 2 88), (88, a_stk q_imul 89), (89, a_callV false f_none 13 2 92), (92, a_istore 3 93), (93, a_iload 3 94), (94, a_if kn b_eq 0 114 97), (97, a_iload 3 98), (98, a_stk (q_int 10) 100), (100, a_aload 0 101), (101, a_get 13 51 104), (104, a_stk (q_int 4) 105), (105, a_iload 2 106), (106, a_stk q_imul 107), (107, a_iald 108), (108, a_stk q_imul 109), (109, a_stk q_iadd 110), (110, a_istore 3 111), (111, a_goto 73), (114, a_aload 0 115), (115, a_stk (q_int 4) 116), (116, a_iload 2 117), (117, a_stk q_imul 118), (118, a_callV true f_none 13 2 121), (121, a_iinc 2 1 124), (124, a_goto 73), (127, a_aload 0 128), (128, a_get 13 52 131), (131, a_stk (q_int 0) 132), (132, a_iload 3 133), (133, a_iast 134), (134, a_aload 0 135), (135, a_get 13 52 138), (138, a_stk (q_int 1) 139), (139, a_iload 2 140), (140, a_iast 141), (141, a_aload 0 142), (142, a_get 13 52 145), (145, a_stk (q_int 2) 146), (146, a_aload 0 147), (147, a_get 13 14 150), (150, a_stk (q_int 94) 152), (152, a_iald 153), (153, a_iast 154), (154, a_aload 0 155), (155, a_get 13 52 158), (158, a_stk (q_int 3) 159), (159, a_aload 0 160), (160, a_get 13 14 163), (163, a_stk (q_int 96) 165), (165, a_iald 166), (166, a_iast 167), (167, a_aload 0 168), (168, a_stk (q_int 1) 169), (169, a_put 13 54 ckZ 172), (172, a_aload 0 173), (173, a_iload 1 174), (174, a_stk (q_int 1) 175), (175, a_icmp kn b_ne 1 186 178), (178, a_iload 2 179), (179, a_if kn b_le 5 186 182), (182, a_stk (q_int 1) 183), (183, a_goto 187), (186, a_stk (q_int 0) 187), (187, a_callV true (fX12_stay kn) 13 2 190), (190, a_iload 3 191), (191, a_if kn b_ne 1 198 194), (194, a_stk (q_int (-1)) 195), (195, a_goto 199), (198, a_iload 2 199), (199, a_iret)]
def fX12_book (kn : sKn) : List Value → sW → Option sR := mF (tX12_book kn) 4 1000000
set_option maxRecDepth 100000 in
set_option maxHeartbeats 4000000 in
theorem mX12_book (kn : sKn) : mM kn yX12_book (Cond.code yX12_book cX12_book 4 (some .int) :: wsL_law) 3 false (fX12_book kn) := mM_of (own := RX12) (ini := false) rfl (by decide +kernel) (by decide +kernel) (all_c (ok_aload_n dX12_book_0 rfl) (all_c (ok_stk (s_iconst dX12_book_1 (by decide))) (all_c (okp_X12_0 kw693 dX12_book_2) (all_c (ok_iload_n dX12_book_5 rfl) (all_c (ok_stk (s_iconst dX12_book_6 (by decide))) (all_c (ok_stk (s_iconst dX12_book_7 (by decide))) (all_c (okc_X12_isIn (by decide) kw705 dX12_book_8) (all_c (ok_if_ne dX12_book_11 (by decide)) (all_c (ok_stk (s_sipush dX12_book_14 (by decide))) (all_c (ok_iret dX12_book_17) (all_c (ok_aload_n dX12_book_18 rfl) (all_c (ok_stk (s_sipush dX12_book_19 (by decide))) (all_c (okc_X12_begin (by decide) kw774 dX12_book_22) (all_c (ok_aload_n dX12_book_25 rfl) (all_c (ok_stk (s_iconst dX12_book_26 (by decide))) (all_c (okp_X12_53 kw775 dX12_book_27) (all_c (ok_aload_n dX12_book_30 rfl) (all_c (okg_X12_7 kw724 dX12_book_31) (all_c (ok_if_eq dX12_book_34 (by decide)) (all_c (ok_aload_n dX12_book_37 rfl) (all_c (okc0_X12_readBookLine (by decide) kw779 dX12_book_38) (all_c (ok_if_ne dX12_book_41 (by decide)) (all_c (ok_stk (s_bipush dX12_book_44 (by decide))) (all_c (ok_aload_n dX12_book_46 rfl) (all_c (okg_X12_11 kw727 dX12_book_47) (all_c (ok_stk (s_isub dX12_book_50)) (all_c (ok_iret dX12_book_51) (all_c (ok_aload_n dX12_book_52 rfl) (all_c (ok_stk (s_dup dX12_book_53)) (all_c (okg_X12_53 kw775 dX12_book_54) (all_c (ok_stk (s_iconst dX12_book_57 (by decide))) (all_c (ok_stk (s_iadd dX12_book_58)) (all_c (okp_X12_53 kw775 dX12_book_59) (all_c (ok_goto dX12_book_62 (by decide)) (all_c (ok_aload_n dX12_book_65 rfl) (all_c (okc_X12_layAside (by decide) kw783 dX12_book_66) (all_c (ok_stk (s_iconst dX12_book_69 (by decide))) (all_c (ok_istore_n dX12_book_70 rfl (by decide)) (all_c (ok_stk (s_iconst dX12_book_71 (by decide))) (all_c (ok_istore_n dX12_book_72 rfl (by decide)) (all_c (ok_iload_n dX12_book_73 rfl) (all_c (ok_aload_n dX12_book_74 rfl) (all_c (okg_X12_53 kw775 dX12_book_75) (all_c (ok_icmp_ge dX12_book_78 (by decide)) (all_c (ok_iload_n dX12_book_81 rfl) (all_c (ok_if_ne dX12_book_82 (by decide)) (all_c (ok_aload_n dX12_book_85 rfl) (all_c (ok_stk (s_iconst dX12_book_86 (by decide))) (all_c (ok_iload_n dX12_book_87 rfl) (all_c (ok_stk (s_imul dX12_book_88)) (all_c (okc0_X12_whyLine (by decide) kw787 dX12_book_89) (all_c (ok_istore_n dX12_book_92 rfl (by decide)) (all_c (ok_iload_n dX12_book_93 rfl) (all_c (ok_if_eq dX12_book_94 (by decide)) (all_c (ok_iload_n dX12_book_97 rfl) (all_c (ok_stk (s_bipush dX12_book_98 (by decide))) (all_c (ok_aload_n dX12_book_100 rfl) (all_c (okg_X12_51 kw788 dX12_book_101) (all_c (ok_stk (s_iconst dX12_book_104 (by decide))) (all_c (ok_iload_n dX12_book_105 rfl) (all_c (ok_stk (s_imul dX12_book_106)) (all_c (ok_iald dX12_book_107) (all_c (ok_stk (s_imul dX12_book_108)) (all_c (ok_stk (s_iadd dX12_book_109)) (all_c (ok_istore_n dX12_book_110 rfl (by decide)) (all_c (ok_goto dX12_book_111 (by decide)) (all_c (ok_aload_n dX12_book_114 rfl) (all_c (ok_stk (s_iconst dX12_book_115 (by decide))) (all_c (ok_iload_n dX12_book_116 rfl) (all_c (ok_stk (s_imul dX12_book_117)) (all_c (okc0_X12_live (by decide) kw792 dX12_book_118) (all_c (ok_iinc dX12_book_121 (by decide) (by decide)) (all_c (ok_goto dX12_book_124 (by decide)) (all_c (ok_aload_n dX12_book_127 rfl) (all_c (okg_X12_52 kw793 dX12_book_128) (all_c (ok_stk (s_iconst dX12_book_131 (by decide))) (all_c (ok_iload_n dX12_book_132 rfl) (all_c (ok_iast dX12_book_133) (all_c (ok_aload_n dX12_book_134 rfl) (all_c (okg_X12_52 kw793 dX12_book_135) (all_c (ok_stk (s_iconst dX12_book_138 (by decide))) (all_c (ok_iload_n dX12_book_139 rfl) (all_c (ok_iast dX12_book_140) (all_c (ok_aload_n dX12_book_141 rfl) (all_c (okg_X12_52 kw793 dX12_book_142) (all_c (ok_stk (s_iconst dX12_book_145 (by decide))) (all_c (ok_aload_n dX12_book_146 rfl) (all_c (okg_X12_14 kw683 dX12_book_147) (all_c (ok_stk (s_bipush dX12_book_150 (by decide))) (all_c (ok_iald dX12_book_152) (all_c (ok_iast dX12_book_153) (all_c (ok_aload_n dX12_book_154 rfl) (all_c (okg_X12_52 kw793 dX12_book_155) (all_c (ok_stk (s_iconst dX12_book_158 (by decide))) (all_c (ok_aload_n dX12_book_159 rfl) (all_c (okg_X12_14 kw683 dX12_book_160) (all_c (ok_stk (s_bipush dX12_book_163 (by decide))) (all_c (ok_iald dX12_book_165) (all_c (ok_iast dX12_book_166) (all_c (ok_aload_n dX12_book_167 rfl) (all_c (ok_stk (s_iconst dX12_book_168 (by decide))) (all_c (okp_X12_54 kw794 dX12_book_169) (all_c (ok_aload_n dX12_book_172 rfl) (all_c (ok_iload_n dX12_book_173 rfl) (all_c (ok_stk (s_iconst dX12_book_174 (by decide))) (all_c (ok_icmp_ne dX12_book_175 (by decide)) (all_c (ok_iload_n dX12_book_178 rfl) (all_c (ok_if_le dX12_book_179 (by decide)) (all_c (ok_stk (s_iconst dX12_book_182 (by decide))) (all_c (ok_goto dX12_book_183 (by decide)) (all_c (ok_stk (s_iconst dX12_book_186 (by decide))) (all_c (okc_X12_stay (by decide) kw798 dX12_book_187) (all_c (ok_iload_n dX12_book_190 rfl) (all_c (ok_if_ne dX12_book_191 (by decide)) (all_c (ok_stk (s_iconst dX12_book_194 (by decide))) (all_c (ok_goto dX12_book_195 (by decide)) (all_c (ok_iload_n dX12_book_198 rfl) (all_c (ok_iret dX12_book_199) all_n)))))))))))))))))))))))))))))))))))))))))))))))))))))))))))))))))))))))))))))))))))))))))))))))))))))))))))))))))))))) 1000000 (fun h => by first | rfl | cases h)
theorem dX12_isSigner_0 : decode cX12_isSigner 0 = .ok (.iload_n 1, 1) := by decide +kernel
theorem dX12_isSigner_1 : decode cX12_isSigner 1 = .ok (.iconst 0, 1) := by decide +kernel
theorem dX12_isSigner_2 : decode cX12_isSigner 2 = .ok (.aload_n 0, 1) := by decide +kernel
theorem dX12_isSigner_3 : decode cX12_isSigner 3 = .ok (.getfield 98, 3) := by decide +kernel
theorem dX12_isSigner_6 : decode cX12_isSigner 6 = .ok (.iconst 1, 1) := by decide +kernel
theorem dX12_isSigner_7 : decode cX12_isSigner 7 = .ok (.iaload, 1) := by decide +kernel
theorem dX12_isSigner_8 : decode cX12_isSigner 8 = .ok (.iconst 1, 1) := by decide +kernel
theorem dX12_isSigner_9 : decode cX12_isSigner 9 = .ok (.isub, 1) := by decide +kernel
theorem dX12_isSigner_10 : decode cX12_isSigner 10 = .ok (.invokestatic 75, 3) := by decide +kernel
theorem dX12_isSigner_13 : decode cX12_isSigner 13 = .ok (.ireturn, 1) := by decide +kernel
def tX12_isSigner (kn : sKn) : List (Nat × sA) := [(0, a_iload 1 1), (1, a_stk (q_int 0) 2), (2, a_aload 0 3), (3, a_get 13 14 6), (6, a_stk (q_int 1) 7), (7, a_iald 8), (8, a_stk (q_int 1) 9), (9, a_stk q_isub 10), (10, a_callS false (fX12_isIn kn) 3 13), (13, a_zret)]
def fX12_isSigner (kn : sKn) : List Value → sW → Option sR := mF (tX12_isSigner kn) 2 1000000
set_option maxRecDepth 100000 in
set_option maxHeartbeats 4000000 in
theorem mX12_isSigner (kn : sKn) : mM kn yX12_isSigner (Cond.code yX12_isSigner cX12_isSigner 2 (some .boolean) :: wsL_law) 2 false (fX12_isSigner kn) := mM_of (own := RX12) (ini := false) rfl (by decide +kernel) (by decide +kernel) (all_c (ok_iload_n dX12_isSigner_0 rfl) (all_c (ok_stk (s_iconst dX12_isSigner_1 (by decide))) (all_c (ok_aload_n dX12_isSigner_2 rfl) (all_c (okg_X12_14 kw683 dX12_isSigner_3) (all_c (ok_stk (s_iconst dX12_isSigner_6 (by decide))) (all_c (ok_iald dX12_isSigner_7) (all_c (ok_stk (s_iconst dX12_isSigner_8 (by decide))) (all_c (ok_stk (s_isub dX12_isSigner_9)) (all_c (okc_X12_isIn (by decide) kw705 dX12_isSigner_10) (all_c (ok_zret dX12_isSigner_13) all_n)))))))))) 1000000 (fun h => by first | rfl | cases h)
theorem dX12_breaks_0 : decode cX12_breaks 0 = .ok (.aload_n 0, 1) := by decide +kernel
theorem dX12_breaks_1 : decode cX12_breaks 1 = .ok (.iconst 0, 1) := by decide +kernel
theorem dX12_breaks_2 : decode cX12_breaks 2 = .ok (.putfield 1, 3) := by decide +kernel
theorem dX12_breaks_5 : decode cX12_breaks 5 = .ok (.aload_n 0, 1) := by decide +kernel
theorem dX12_breaks_6 : decode cX12_breaks 6 = .ok (.iload_n 1, 1) := by decide +kernel
theorem dX12_breaks_7 : decode cX12_breaks 7 = .ok (.invokevirtual 277, 3) := by decide +kernel
theorem dX12_breaks_10 : decode cX12_breaks 10 = .ok (.ifCond .ne 5, 3) := by decide +kernel
theorem dX12_breaks_13 : decode cX12_breaks 13 = .ok (.iconst (-1), 1) := by decide +kernel
theorem dX12_breaks_14 : decode cX12_breaks 14 = .ok (.ireturn, 1) := by decide +kernel
theorem dX12_breaks_15 : decode cX12_breaks 15 = .ok (.aload_n 0, 1) := by decide +kernel
theorem dX12_breaks_16 : decode cX12_breaks 16 = .ok (.iload_n 1, 1) := by decide +kernel
theorem dX12_breaks_17 : decode cX12_breaks 17 = .ok (.invokevirtual 283, 3) := by decide +kernel
theorem dX12_breaks_20 : decode cX12_breaks 20 = .ok (.ifCond .eq 5, 3) := by decide +kernel
theorem dX12_breaks_23 : decode cX12_breaks 23 = .ok (.iconst 1, 1) := by decide +kernel
theorem dX12_breaks_24 : decode cX12_breaks 24 = .ok (.ireturn, 1) := by decide +kernel
theorem dX12_breaks_25 : decode cX12_breaks 25 = .ok (.aload_n 0, 1) := by decide +kernel
theorem dX12_breaks_26 : decode cX12_breaks 26 = .ok (.invokevirtual 343, 3) := by decide +kernel
theorem dX12_breaks_29 : decode cX12_breaks 29 = .ok (.aload_n 0, 1) := by decide +kernel
theorem dX12_breaks_30 : decode cX12_breaks 30 = .ok (.getfield 98, 3) := by decide +kernel
theorem dX12_breaks_33 : decode cX12_breaks 33 = .ok (.bipush 98, 2) := by decide +kernel
theorem dX12_breaks_35 : decode cX12_breaks 35 = .ok (.iload_n 1, 1) := by decide +kernel
theorem dX12_breaks_36 : decode cX12_breaks 36 = .ok (.iadd, 1) := by decide +kernel
theorem dX12_breaks_37 : decode cX12_breaks 37 = .ok (.dup2, 1) := by decide +kernel
theorem dX12_breaks_38 : decode cX12_breaks 38 = .ok (.iaload, 1) := by decide +kernel
theorem dX12_breaks_39 : decode cX12_breaks 39 = .ok (.iconst 2, 1) := by decide +kernel
theorem dX12_breaks_40 : decode cX12_breaks 40 = .ok (.idiv, 1) := by decide +kernel
theorem dX12_breaks_41 : decode cX12_breaks 41 = .ok (.iastore, 1) := by decide +kernel
theorem dX12_breaks_42 : decode cX12_breaks 42 = .ok (.iconst 0, 1) := by decide +kernel
theorem dX12_breaks_43 : decode cX12_breaks 43 = .ok (.ireturn, 1) := by decide +kernel
theorem okc_X12_isSigner {kn : sKn} {cc : ByteArray} {own : String} {nL : Nat} {D : Nat} {ret : Option FieldType} {ini : Bool} {pc index : Nat} (hD : 2 + 1 ≤ D) (hl : Cond.methodLink own index yX12_isSigner ∈ wsL_law) (hd : decode cc pc = .ok (.invokevirtual index, 3)) : mOk kn cc own nL wsL_law D ret ini pc (a_callV false (fX12_isSigner kn) 13 (1 + 1) (pc + 3)) := ok_callV (mX12_isSigner kn) (good_ws ws_good (fun _ h => h) kw799) hD (by decide) hl kw800 kw801 kw686 ⟨by decide +kernel, by decide +kernel, by decide +kernel⟩ rfl hd
theorem okc0_X12_isDead {kn : sKn} {cc : ByteArray} {own : String} {nL : Nat} {D : Nat} {ret : Option FieldType} {ini : Bool} {pc index : Nat} (hD : 0 + 1 ≤ D) (hl : Cond.methodLink own index yX12_isDead ∈ wsL_law) (hd : decode cc pc = .ok (.invokevirtual index, 3)) : mOk kn cc own nL wsL_law D ret ini pc (a_callV false f_none 13 (1 + 1) (pc + 3)) := ok_callV (m_none (D := 0)) (good_ws ws_good (fun _ h => h) kw803) hD (by decide) hl kw804 kw805 kw686 ⟨by decide +kernel, by decide +kernel, by decide +kernel⟩ rfl hd
def tX12_breaks (kn : sKn) : List (Nat × sA) := [(0, a_aload 0 1), (1, a_stk (q_int 0) 2), (2, a_put 13 0 ckI 5), (5, a_aload 0 6), (6, a_iload 1 7), (7, a_callV false (fX12_isSigner kn) 13 2 10), (10, a_if kn b_ne 1 15 13), (13, a_stk (q_int (-1)) 14), (14, a_iret), (15, a_aload 0 16), (16, a_iload 1 17), (17, a_callV false f_none 13 2 20), (20, a_if kn b_eq 0 25 23), (23, a_stk (q_int 1) 24), (24, a_iret), (25, a_aload 0 26), (26, a_callV true (fX12_snap kn) 13 1 29), (29, a_aload 0 30), (30, a_get 13 14 33), (33, a_stk (q_int 98) 35), (35, a_iload 1 36), (36, a_stk q_iadd 37), (37, a_stk q_dup2 38), (38, a_iald 39), (39, a_stk (q_int 2) 40), (40, a_stk q_idiv 41), (41, a_iast 42), (42, a_stk (q_int 0) 43), (43, a_iret)]
def fX12_breaks (kn : sKn) : List Value → sW → Option sR := mF (tX12_breaks kn) 2 1000000
set_option maxRecDepth 100000 in
set_option maxHeartbeats 4000000 in
theorem mX12_breaks (kn : sKn) : mM kn yX12_breaks (Cond.code yX12_breaks cX12_breaks 2 (some .int) :: wsL_law) 3 false (fX12_breaks kn) := mM_of (own := RX12) (ini := false) rfl (by decide +kernel) (by decide +kernel) (all_c (ok_aload_n dX12_breaks_0 rfl) (all_c (ok_stk (s_iconst dX12_breaks_1 (by decide))) (all_c (okp_X12_0 kw693 dX12_breaks_2) (all_c (ok_aload_n dX12_breaks_5 rfl) (all_c (ok_iload_n dX12_breaks_6 rfl) (all_c (okc_X12_isSigner (by decide) kw802 dX12_breaks_7) (all_c (ok_if_ne dX12_breaks_10 (by decide)) (all_c (ok_stk (s_iconst dX12_breaks_13 (by decide))) (all_c (ok_iret dX12_breaks_14) (all_c (ok_aload_n dX12_breaks_15 rfl) (all_c (ok_iload_n dX12_breaks_16 rfl) (all_c (okc0_X12_isDead (by decide) kw806 dX12_breaks_17) (all_c (ok_if_eq dX12_breaks_20 (by decide)) (all_c (ok_stk (s_iconst dX12_breaks_23 (by decide))) (all_c (ok_iret dX12_breaks_24) (all_c (ok_aload_n dX12_breaks_25 rfl) (all_c (okc_X12_snap (by decide) kw766 dX12_breaks_26) (all_c (ok_aload_n dX12_breaks_29 rfl) (all_c (okg_X12_14 kw683 dX12_breaks_30) (all_c (ok_stk (s_bipush dX12_breaks_33 (by decide))) (all_c (ok_iload_n dX12_breaks_35 rfl) (all_c (ok_stk (s_iadd dX12_breaks_36)) (all_c (ok_stk (s_dup2 dX12_breaks_37)) (all_c (ok_iald dX12_breaks_38) (all_c (ok_stk (s_iconst dX12_breaks_39 (by decide))) (all_c (ok_stk (s_idiv dX12_breaks_40)) (all_c (ok_iast dX12_breaks_41) (all_c (ok_stk (s_iconst dX12_breaks_42 (by decide))) (all_c (ok_iret dX12_breaks_43) all_n))))))))))))))))))))))))))))) 1000000 (fun h => by first | rfl | cases h)
theorem dX12_startRead_0 : decode cX12_startRead 0 = .ok (.iconst 0, 1) := by decide +kernel
theorem dX12_startRead_1 : decode cX12_startRead 1 = .ok (.istore_n 1, 1) := by decide +kernel
theorem dX12_startRead_2 : decode cX12_startRead 2 = .ok (.iload_n 1, 1) := by decide +kernel
theorem dX12_startRead_3 : decode cX12_startRead 3 = .ok (.bipush 94, 2) := by decide +kernel
theorem dX12_startRead_5 : decode cX12_startRead 5 = .ok (.if_icmp .ge 16, 3) := by decide +kernel
theorem dX12_startRead_8 : decode cX12_startRead 8 = .ok (.aload_n 0, 1) := by decide +kernel
theorem dX12_startRead_9 : decode cX12_startRead 9 = .ok (.getfield 101, 3) := by decide +kernel
theorem dX12_startRead_12 : decode cX12_startRead 12 = .ok (.iload_n 1, 1) := by decide +kernel
theorem dX12_startRead_13 : decode cX12_startRead 13 = .ok (.iconst 0, 1) := by decide +kernel
theorem dX12_startRead_14 : decode cX12_startRead 14 = .ok (.iastore, 1) := by decide +kernel
theorem dX12_startRead_15 : decode cX12_startRead 15 = .ok (.iinc 1 1, 3) := by decide +kernel
theorem dX12_startRead_18 : decode cX12_startRead 18 = .ok (.goto (-16), 3) := by decide +kernel
theorem dX12_startRead_21 : decode cX12_startRead 21 = .ok (.iconst 0, 1) := by decide +kernel
theorem dX12_startRead_22 : decode cX12_startRead 22 = .ok (.istore_n 1, 1) := by decide +kernel
theorem dX12_startRead_23 : decode cX12_startRead 23 = .ok (.iload_n 1, 1) := by decide +kernel
theorem dX12_startRead_24 : decode cX12_startRead 24 = .ok (.bipush 10, 2) := by decide +kernel
theorem dX12_startRead_26 : decode cX12_startRead 26 = .ok (.if_icmp .ge 19, 3) := by decide +kernel
theorem dX12_startRead_29 : decode cX12_startRead 29 = .ok (.aload_n 0, 1) := by decide +kernel
theorem dX12_startRead_30 : decode cX12_startRead 30 = .ok (.getfield 101, 3) := by decide +kernel
theorem dX12_startRead_33 : decode cX12_startRead 33 = .ok (.bipush 26, 2) := by decide +kernel
theorem dX12_startRead_35 : decode cX12_startRead 35 = .ok (.iload_n 1, 1) := by decide +kernel
theorem dX12_startRead_36 : decode cX12_startRead 36 = .ok (.iadd, 1) := by decide +kernel
theorem dX12_startRead_37 : decode cX12_startRead 37 = .ok (.iconst (-1), 1) := by decide +kernel
theorem dX12_startRead_38 : decode cX12_startRead 38 = .ok (.iastore, 1) := by decide +kernel
theorem dX12_startRead_39 : decode cX12_startRead 39 = .ok (.iinc 1 1, 3) := by decide +kernel
theorem dX12_startRead_42 : decode cX12_startRead 42 = .ok (.goto (-19), 3) := by decide +kernel
theorem dX12_startRead_45 : decode cX12_startRead 45 = .ok (.iconst 0, 1) := by decide +kernel
theorem dX12_startRead_46 : decode cX12_startRead 46 = .ok (.istore_n 1, 1) := by decide +kernel
theorem dX12_startRead_47 : decode cX12_startRead 47 = .ok (.iload_n 1, 1) := by decide +kernel
theorem dX12_startRead_48 : decode cX12_startRead 48 = .ok (.bipush 36, 2) := by decide +kernel
theorem dX12_startRead_50 : decode cX12_startRead 50 = .ok (.if_icmp .ge 19, 3) := by decide +kernel
theorem dX12_startRead_53 : decode cX12_startRead 53 = .ok (.aload_n 0, 1) := by decide +kernel
theorem dX12_startRead_54 : decode cX12_startRead 54 = .ok (.getfield 101, 3) := by decide +kernel
theorem dX12_startRead_57 : decode cX12_startRead 57 = .ok (.bipush 46, 2) := by decide +kernel
theorem dX12_startRead_59 : decode cX12_startRead 59 = .ok (.iload_n 1, 1) := by decide +kernel
theorem dX12_startRead_60 : decode cX12_startRead 60 = .ok (.iadd, 1) := by decide +kernel
theorem dX12_startRead_61 : decode cX12_startRead 61 = .ok (.iconst (-1), 1) := by decide +kernel
theorem dX12_startRead_62 : decode cX12_startRead 62 = .ok (.iastore, 1) := by decide +kernel
theorem dX12_startRead_63 : decode cX12_startRead 63 = .ok (.iinc 1 1, 3) := by decide +kernel
theorem dX12_startRead_66 : decode cX12_startRead 66 = .ok (.goto (-19), 3) := by decide +kernel
theorem dX12_startRead_69 : decode cX12_startRead 69 = .ok (.aload_n 0, 1) := by decide +kernel
theorem dX12_startRead_70 : decode cX12_startRead 70 = .ok (.getfield 101, 3) := by decide +kernel
theorem dX12_startRead_73 : decode cX12_startRead 73 = .ok (.iconst 0, 1) := by decide +kernel
theorem dX12_startRead_74 : decode cX12_startRead 74 = .ok (.iconst 4, 1) := by decide +kernel
theorem dX12_startRead_75 : decode cX12_startRead 75 = .ok (.iastore, 1) := by decide +kernel
theorem dX12_startRead_76 : decode cX12_startRead 76 = .ok (.aload_n 0, 1) := by decide +kernel
theorem dX12_startRead_77 : decode cX12_startRead 77 = .ok (.getfield 101, 3) := by decide +kernel
theorem dX12_startRead_80 : decode cX12_startRead 80 = .ok (.iconst 4, 1) := by decide +kernel
theorem dX12_startRead_81 : decode cX12_startRead 81 = .ok (.iconst 5, 1) := by decide +kernel
theorem dX12_startRead_82 : decode cX12_startRead 82 = .ok (.iastore, 1) := by decide +kernel
theorem dX12_startRead_83 : decode cX12_startRead 83 = .ok (.return_, 1) := by decide +kernel
def tX12_startRead (kn : sKn) : List (Nat × sA) := [(0, a_stk (q_int 0) 1), (1, a_istore 1 2), (2, a_iload 1 3), (3, a_stk (q_int 94) 5), (5, a_icmp kn b_ge 3 21 8), (8, a_aload 0 9), (9, a_get 13 15 12), (12, a_iload 1 13), (13, a_stk (q_int 0) 14), (14, a_iast 15), (15, a_iinc 1 1 18), (18, a_goto 2), (21, a_stk (q_int 0) 22), (22, a_istore 1 23), (23, a_iload 1 24), (24, a_stk (q_int 10) 26), (26, a_icmp kn b_ge 3 45 29), (29, a_aload 0 30), (30, a_get 13 15 33), (33, a_stk (q_int 26) 35), (35, a_iload 1 36), (36, a_stk q_iadd 37), (37, a_stk (q_int (-1)) 38), (38, a_iast 39), (39, a_iinc 1 1 42), (42, a_goto 23), (45, a_stk (q_int 0) 46), (46, a_istore 1 47), (47, a_iload 1 48), (48, a_stk (q_int 36) 50), (50, a_icmp kn b_ge 3 69 53), (53, a_aload 0 54), (54, a_get 13 15 57), (57, a_stk (q_int 46) 59), (59, a_iload 1 60), (60, a_stk q_iadd 61), (61, a_stk (q_int (-1)) 62), (62, a_iast 63), (63, a_iinc 1 1 66), (66, a_goto 47), (69, a_aload 0 70), (70, a_get 13 15 73), (73, a_stk (q_int 0) 74), (74, a_stk (q_int 4) 75), (75, a_iast 76), (76, a_aload 0 77), (77, a_get 13 15 80), (80, a_stk (q_int 4) 81), (81, a_stk (q_int 5) 82), (82, a_iast 83), (83, a_vret)]
def fX12_startRead (kn : sKn) : List Value → sW → Option sR := mF (tX12_startRead kn) 2 1000000
set_option maxRecDepth 100000 in
set_option maxHeartbeats 4000000 in
theorem mX12_startRead (kn : sKn) : mM kn yX12_startRead (Cond.code yX12_startRead cX12_startRead 2 none :: wsL_law) 1 true (fX12_startRead kn) := mM_of (own := RX12) (ini := false) rfl (by decide +kernel) (by decide +kernel) (all_c (ok_stk (s_iconst dX12_startRead_0 (by decide))) (all_c (ok_istore_n dX12_startRead_1 rfl (by decide)) (all_c (ok_iload_n dX12_startRead_2 rfl) (all_c (ok_stk (s_bipush dX12_startRead_3 (by decide))) (all_c (ok_icmp_ge dX12_startRead_5 (by decide)) (all_c (ok_aload_n dX12_startRead_8 rfl) (all_c (okg_X12_15 kw807 dX12_startRead_9) (all_c (ok_iload_n dX12_startRead_12 rfl) (all_c (ok_stk (s_iconst dX12_startRead_13 (by decide))) (all_c (ok_iast dX12_startRead_14) (all_c (ok_iinc dX12_startRead_15 (by decide) (by decide)) (all_c (ok_goto dX12_startRead_18 (by decide)) (all_c (ok_stk (s_iconst dX12_startRead_21 (by decide))) (all_c (ok_istore_n dX12_startRead_22 rfl (by decide)) (all_c (ok_iload_n dX12_startRead_23 rfl) (all_c (ok_stk (s_bipush dX12_startRead_24 (by decide))) (all_c (ok_icmp_ge dX12_startRead_26 (by decide)) (all_c (ok_aload_n dX12_startRead_29 rfl) (all_c (okg_X12_15 kw807 dX12_startRead_30) (all_c (ok_stk (s_bipush dX12_startRead_33 (by decide))) (all_c (ok_iload_n dX12_startRead_35 rfl) (all_c (ok_stk (s_iadd dX12_startRead_36)) (all_c (ok_stk (s_iconst dX12_startRead_37 (by decide))) (all_c (ok_iast dX12_startRead_38) (all_c (ok_iinc dX12_startRead_39 (by decide) (by decide)) (all_c (ok_goto dX12_startRead_42 (by decide)) (all_c (ok_stk (s_iconst dX12_startRead_45 (by decide))) (all_c (ok_istore_n dX12_startRead_46 rfl (by decide)) (all_c (ok_iload_n dX12_startRead_47 rfl) (all_c (ok_stk (s_bipush dX12_startRead_48 (by decide))) (all_c (ok_icmp_ge dX12_startRead_50 (by decide)) (all_c (ok_aload_n dX12_startRead_53 rfl) (all_c (okg_X12_15 kw807 dX12_startRead_54) (all_c (ok_stk (s_bipush dX12_startRead_57 (by decide))) (all_c (ok_iload_n dX12_startRead_59 rfl) (all_c (ok_stk (s_iadd dX12_startRead_60)) (all_c (ok_stk (s_iconst dX12_startRead_61 (by decide))) (all_c (ok_iast dX12_startRead_62) (all_c (ok_iinc dX12_startRead_63 (by decide) (by decide)) (all_c (ok_goto dX12_startRead_66 (by decide)) (all_c (ok_aload_n dX12_startRead_69 rfl) (all_c (okg_X12_15 kw807 dX12_startRead_70) (all_c (ok_stk (s_iconst dX12_startRead_73 (by decide))) (all_c (ok_stk (s_iconst dX12_startRead_74 (by decide))) (all_c (ok_iast dX12_startRead_75) (all_c (ok_aload_n dX12_startRead_76 rfl) (all_c (okg_X12_15 kw807 dX12_startRead_77) (all_c (ok_stk (s_iconst dX12_startRead_80 (by decide))) (all_c (ok_stk (s_iconst dX12_startRead_81 (by decide))) (all_c (ok_iast dX12_startRead_82) (all_c (ok_vret dX12_startRead_83) all_n))))))))))))))))))))))))))))))))))))))))))))))))))) 1000000 (fun h => by first | rfl | cases h)
theorem dX12_startSo_0 : decode cX12_startSo 0 = .ok (.bipush 94, 2) := by decide +kernel
theorem dX12_startSo_2 : decode cX12_startSo 2 = .ok (.istore_n 1, 1) := by decide +kernel
theorem dX12_startSo_3 : decode cX12_startSo 3 = .ok (.iload_n 1, 1) := by decide +kernel
theorem dX12_startSo_4 : decode cX12_startSo 4 = .ok (.sipush 438, 3) := by decide +kernel
theorem dX12_startSo_7 : decode cX12_startSo 7 = .ok (.if_icmp .ge 16, 3) := by decide +kernel
theorem dX12_startSo_10 : decode cX12_startSo 10 = .ok (.aload_n 0, 1) := by decide +kernel
theorem dX12_startSo_11 : decode cX12_startSo 11 = .ok (.getfield 98, 3) := by decide +kernel
theorem dX12_startSo_14 : decode cX12_startSo 14 = .ok (.iload_n 1, 1) := by decide +kernel
theorem dX12_startSo_15 : decode cX12_startSo 15 = .ok (.iconst 0, 1) := by decide +kernel
theorem dX12_startSo_16 : decode cX12_startSo 16 = .ok (.iastore, 1) := by decide +kernel
theorem dX12_startSo_17 : decode cX12_startSo 17 = .ok (.iinc 1 1, 3) := by decide +kernel
theorem dX12_startSo_20 : decode cX12_startSo 20 = .ok (.goto (-17), 3) := by decide +kernel
theorem dX12_startSo_23 : decode cX12_startSo 23 = .ok (.iconst 0, 1) := by decide +kernel
theorem dX12_startSo_24 : decode cX12_startSo 24 = .ok (.istore_n 1, 1) := by decide +kernel
theorem dX12_startSo_25 : decode cX12_startSo 25 = .ok (.iload_n 1, 1) := by decide +kernel
theorem dX12_startSo_26 : decode cX12_startSo 26 = .ok (.bipush 10, 2) := by decide +kernel
theorem dX12_startSo_28 : decode cX12_startSo 28 = .ok (.if_icmp .ge 36, 3) := by decide +kernel
theorem dX12_startSo_31 : decode cX12_startSo 31 = .ok (.aload_n 0, 1) := by decide +kernel
theorem dX12_startSo_32 : decode cX12_startSo 32 = .ok (.getfield 98, 3) := by decide +kernel
theorem dX12_startSo_35 : decode cX12_startSo 35 = .ok (.bipush 98, 2) := by decide +kernel
theorem dX12_startSo_37 : decode cX12_startSo 37 = .ok (.iload_n 1, 1) := by decide +kernel
theorem dX12_startSo_38 : decode cX12_startSo 38 = .ok (.iadd, 1) := by decide +kernel
theorem dX12_startSo_39 : decode cX12_startSo 39 = .ok (.aload_n 0, 1) := by decide +kernel
theorem dX12_startSo_40 : decode cX12_startSo 40 = .ok (.getfield 98, 3) := by decide +kernel
theorem dX12_startSo_43 : decode cX12_startSo 43 = .ok (.iconst 5, 1) := by decide +kernel
theorem dX12_startSo_44 : decode cX12_startSo 44 = .ok (.iload_n 1, 1) := by decide +kernel
theorem dX12_startSo_45 : decode cX12_startSo 45 = .ok (.iadd, 1) := by decide +kernel
theorem dX12_startSo_46 : decode cX12_startSo 46 = .ok (.iaload, 1) := by decide +kernel
theorem dX12_startSo_47 : decode cX12_startSo 47 = .ok (.iastore, 1) := by decide +kernel
theorem dX12_startSo_48 : decode cX12_startSo 48 = .ok (.aload_n 0, 1) := by decide +kernel
theorem dX12_startSo_49 : decode cX12_startSo 49 = .ok (.getfield 98, 3) := by decide +kernel
theorem dX12_startSo_52 : decode cX12_startSo 52 = .ok (.bipush 108, 2) := by decide +kernel
theorem dX12_startSo_54 : decode cX12_startSo 54 = .ok (.iload_n 1, 1) := by decide +kernel
theorem dX12_startSo_55 : decode cX12_startSo 55 = .ok (.iadd, 1) := by decide +kernel
theorem dX12_startSo_56 : decode cX12_startSo 56 = .ok (.iconst (-1), 1) := by decide +kernel
theorem dX12_startSo_57 : decode cX12_startSo 57 = .ok (.iastore, 1) := by decide +kernel
theorem dX12_startSo_58 : decode cX12_startSo 58 = .ok (.iinc 1 1, 3) := by decide +kernel
theorem dX12_startSo_61 : decode cX12_startSo 61 = .ok (.goto (-36), 3) := by decide +kernel
theorem dX12_startSo_64 : decode cX12_startSo 64 = .ok (.iconst 0, 1) := by decide +kernel
theorem dX12_startSo_65 : decode cX12_startSo 65 = .ok (.istore_n 1, 1) := by decide +kernel
theorem dX12_startSo_66 : decode cX12_startSo 66 = .ok (.iload_n 1, 1) := by decide +kernel
theorem dX12_startSo_67 : decode cX12_startSo 67 = .ok (.bipush 36, 2) := by decide +kernel
theorem dX12_startSo_69 : decode cX12_startSo 69 = .ok (.if_icmp .ge 27, 3) := by decide +kernel
theorem dX12_startSo_72 : decode cX12_startSo 72 = .ok (.aload_n 0, 1) := by decide +kernel
theorem dX12_startSo_73 : decode cX12_startSo 73 = .ok (.getfield 98, 3) := by decide +kernel
theorem dX12_startSo_76 : decode cX12_startSo 76 = .ok (.bipush 118, 2) := by decide +kernel
theorem dX12_startSo_78 : decode cX12_startSo 78 = .ok (.iload_n 1, 1) := by decide +kernel
theorem dX12_startSo_79 : decode cX12_startSo 79 = .ok (.iadd, 1) := by decide +kernel
theorem dX12_startSo_80 : decode cX12_startSo 80 = .ok (.aload_n 0, 1) := by decide +kernel
theorem dX12_startSo_81 : decode cX12_startSo 81 = .ok (.getfield 98, 3) := by decide +kernel
theorem dX12_startSo_84 : decode cX12_startSo 84 = .ok (.bipush 46, 2) := by decide +kernel
theorem dX12_startSo_86 : decode cX12_startSo 86 = .ok (.iload_n 1, 1) := by decide +kernel
theorem dX12_startSo_87 : decode cX12_startSo 87 = .ok (.iadd, 1) := by decide +kernel
theorem dX12_startSo_88 : decode cX12_startSo 88 = .ok (.iaload, 1) := by decide +kernel
theorem dX12_startSo_89 : decode cX12_startSo 89 = .ok (.iastore, 1) := by decide +kernel
theorem dX12_startSo_90 : decode cX12_startSo 90 = .ok (.iinc 1 1, 3) := by decide +kernel
theorem dX12_startSo_93 : decode cX12_startSo 93 = .ok (.goto (-27), 3) := by decide +kernel
theorem dX12_startSo_96 : decode cX12_startSo 96 = .ok (.return_, 1) := by decide +kernel
def tX12_startSo (kn : sKn) : List (Nat × sA) := [(0, a_stk (q_int 94) 2), (2, a_istore 1 3), (3, a_iload 1 4), (4, a_stk (q_int 438) 7), (7, a_icmp kn b_ge 3 23 10), (10, a_aload 0 11), (11, a_get 13 14 14), (14, a_iload 1 15), (15, a_stk (q_int 0) 16), (16, a_iast 17), (17, a_iinc 1 1 20), (20, a_goto 3), (23, a_stk (q_int 0) 24), (24, a_istore 1 25), (25, a_iload 1 26), (26, a_stk (q_int 10) 28), (28, a_icmp kn b_ge 3 64 31), (31, a_aload 0 32), (32, a_get 13 14 35), (35, a_stk (q_int 98) 37), (37, a_iload 1 38), (38, a_stk q_iadd 39), (39, a_aload 0 40), (40, a_get 13 14 43), (43, a_stk (q_int 5) 44), (44, a_iload 1 45), (45, a_stk q_iadd 46), (46, a_iald 47), (47, a_iast 48), (48, a_aload 0 49), (49, a_get 13 14 52), (52, a_stk (q_int 108) 54), (54, a_iload 1 55), (55, a_stk q_iadd 56), (56, a_stk (q_int (-1)) 57), (57, a_iast 58), (58, a_iinc 1 1 61), (61, a_goto 25), (64, a_stk (q_int 0) 65), (65, a_istore 1 66), (66, a_iload 1 67), (67, a_stk (q_int 36) 69), (69, a_icmp kn b_ge 3 96 72), (72, a_aload 0 73), (73, a_get 13 14 76), (76, a_stk (q_int 118) 78), (78, a_iload 1 79), (79, a_stk q_iadd 80), (80, a_aload 0 81), (81, a_get 13 14 84), (84, a_stk (q_int 46) 86), (86, a_iload 1 87), (87, a_stk q_iadd 88), (88, a_iald 89), (89, a_iast 90), (90, a_iinc 1 1 93), (93, a_goto 66), (96, a_vret)]
def fX12_startSo (kn : sKn) : List Value → sW → Option sR := mF (tX12_startSo kn) 2 1000000
set_option maxRecDepth 100000 in
set_option maxHeartbeats 4000000 in
theorem mX12_startSo (kn : sKn) : mM kn yX12_startSo (Cond.code yX12_startSo cX12_startSo 2 none :: wsL_law) 1 true (fX12_startSo kn) := mM_of (own := RX12) (ini := false) rfl (by decide +kernel) (by decide +kernel) (all_c (ok_stk (s_bipush dX12_startSo_0 (by decide))) (all_c (ok_istore_n dX12_startSo_2 rfl (by decide)) (all_c (ok_iload_n dX12_startSo_3 rfl) (all_c (ok_stk (s_sipush dX12_startSo_4 (by decide))) (all_c (ok_icmp_ge dX12_startSo_7 (by decide)) (all_c (ok_aload_n dX12_startSo_10 rfl) (all_c (okg_X12_14 kw683 dX12_startSo_11) (all_c (ok_iload_n dX12_startSo_14 rfl) (all_c (ok_stk (s_iconst dX12_startSo_15 (by decide))) (all_c (ok_iast dX12_startSo_16) (all_c (ok_iinc dX12_startSo_17 (by decide) (by decide)) (all_c (ok_goto dX12_startSo_20 (by decide)) (all_c (ok_stk (s_iconst dX12_startSo_23 (by decide))) (all_c (ok_istore_n dX12_startSo_24 rfl (by decide)) (all_c (ok_iload_n dX12_startSo_25 rfl) (all_c (ok_stk (s_bipush dX12_startSo_26 (by decide))) (all_c (ok_icmp_ge dX12_startSo_28 (by decide)) (all_c (ok_aload_n dX12_startSo_31 rfl) (all_c (okg_X12_14 kw683 dX12_startSo_32) (all_c (ok_stk (s_bipush dX12_startSo_35 (by decide))) (all_c (ok_iload_n dX12_startSo_37 rfl) (all_c (ok_stk (s_iadd dX12_startSo_38)) (all_c (ok_aload_n dX12_startSo_39 rfl) (all_c (okg_X12_14 kw683 dX12_startSo_40) (all_c (ok_stk (s_iconst dX12_startSo_43 (by decide))) (all_c (ok_iload_n dX12_startSo_44 rfl) (all_c (ok_stk (s_iadd dX12_startSo_45)) (all_c (ok_iald dX12_startSo_46) (all_c (ok_iast dX12_startSo_47) (all_c (ok_aload_n dX12_startSo_48 rfl) (all_c (okg_X12_14 kw683 dX12_startSo_49) (all_c (ok_stk (s_bipush dX12_startSo_52 (by decide))) (all_c (ok_iload_n dX12_startSo_54 rfl) (all_c (ok_stk (s_iadd dX12_startSo_55)) (all_c (ok_stk (s_iconst dX12_startSo_56 (by decide))) (all_c (ok_iast dX12_startSo_57) (all_c (ok_iinc dX12_startSo_58 (by decide) (by decide)) (all_c (ok_goto dX12_startSo_61 (by decide)) (all_c (ok_stk (s_iconst dX12_startSo_64 (by decide))) (all_c (ok_istore_n dX12_startSo_65 rfl (by decide)) (all_c (ok_iload_n dX12_startSo_66 rfl) (all_c (ok_stk (s_bipush dX12_startSo_67 (by decide))) (all_c (ok_icmp_ge dX12_startSo_69 (by decide)) (all_c (ok_aload_n dX12_startSo_72 rfl) (all_c (okg_X12_14 kw683 dX12_startSo_73) (all_c (ok_stk (s_bipush dX12_startSo_76 (by decide))) (all_c (ok_iload_n dX12_startSo_78 rfl) (all_c (ok_stk (s_iadd dX12_startSo_79)) (all_c (ok_aload_n dX12_startSo_80 rfl) (all_c (okg_X12_14 kw683 dX12_startSo_81) (all_c (ok_stk (s_bipush dX12_startSo_84 (by decide))) (all_c (ok_iload_n dX12_startSo_86 rfl) (all_c (ok_stk (s_iadd dX12_startSo_87)) (all_c (ok_iald dX12_startSo_88) (all_c (ok_iast dX12_startSo_89) (all_c (ok_iinc dX12_startSo_90 (by decide) (by decide)) (all_c (ok_goto dX12_startSo_93 (by decide)) (all_c (ok_vret dX12_startSo_96) all_n)))))))))))))))))))))))))))))))))))))))))))))))))))))))))) 1000000 (fun h => by first | rfl | cases h)
theorem dX12_bridge_0 : decode cX12_bridge 0 = .ok (.aload_n 0, 1) := by decide +kernel
theorem dX12_bridge_1 : decode cX12_bridge 1 = .ok (.sipush 900, 3) := by decide +kernel
theorem dX12_bridge_4 : decode cX12_bridge 4 = .ok (.invokevirtual 249, 3) := by decide +kernel
theorem dX12_bridge_7 : decode cX12_bridge 7 = .ok (.aload_n 0, 1) := by decide +kernel
theorem dX12_bridge_8 : decode cX12_bridge 8 = .ok (.invokevirtual 184, 3) := by decide +kernel
theorem dX12_bridge_11 : decode cX12_bridge 11 = .ok (.aload_n 0, 1) := by decide +kernel
theorem dX12_bridge_12 : decode cX12_bridge 12 = .ok (.iconst 0, 1) := by decide +kernel
theorem dX12_bridge_13 : decode cX12_bridge 13 = .ok (.putfield 198, 3) := by decide +kernel
theorem dX12_bridge_16 : decode cX12_bridge 16 = .ok (.aload_n 0, 1) := by decide +kernel
theorem dX12_bridge_17 : decode cX12_bridge 17 = .ok (.iconst 0, 1) := by decide +kernel
theorem dX12_bridge_18 : decode cX12_bridge 18 = .ok (.putfield 246, 3) := by decide +kernel
theorem dX12_bridge_21 : decode cX12_bridge 21 = .ok (.aload_n 0, 1) := by decide +kernel
theorem dX12_bridge_22 : decode cX12_bridge 22 = .ok (.iconst 0, 1) := by decide +kernel
theorem dX12_bridge_23 : decode cX12_bridge 23 = .ok (.putfield 202, 3) := by decide +kernel
theorem dX12_bridge_26 : decode cX12_bridge 26 = .ok (.iconst 0, 1) := by decide +kernel
theorem dX12_bridge_27 : decode cX12_bridge 27 = .ok (.istore_n 1, 1) := by decide +kernel
theorem dX12_bridge_28 : decode cX12_bridge 28 = .ok (.aload_n 0, 1) := by decide +kernel
theorem dX12_bridge_29 : decode cX12_bridge 29 = .ok (.getfield 30, 3) := by decide +kernel
theorem dX12_bridge_32 : decode cX12_bridge 32 = .ok (.ifCond .eq 30, 3) := by decide +kernel
theorem dX12_bridge_35 : decode cX12_bridge 35 = .ok (.aload_n 0, 1) := by decide +kernel
theorem dX12_bridge_36 : decode cX12_bridge 36 = .ok (.invokevirtual 252, 3) := by decide +kernel
theorem dX12_bridge_39 : decode cX12_bridge 39 = .ok (.ifCond .eq 10, 3) := by decide +kernel
theorem dX12_bridge_42 : decode cX12_bridge 42 = .ok (.aload_n 0, 1) := by decide +kernel
theorem dX12_bridge_43 : decode cX12_bridge 43 = .ok (.invokevirtual 255, 3) := by decide +kernel
theorem dX12_bridge_46 : decode cX12_bridge 46 = .ok (.ifCond .ne 10, 3) := by decide +kernel
theorem dX12_bridge_49 : decode cX12_bridge 49 = .ok (.iconst (-1), 1) := by decide +kernel
theorem dX12_bridge_50 : decode cX12_bridge 50 = .ok (.aload_n 0, 1) := by decide +kernel
theorem dX12_bridge_51 : decode cX12_bridge 51 = .ok (.getfield 69, 3) := by decide +kernel
theorem dX12_bridge_54 : decode cX12_bridge 54 = .ok (.isub, 1) := by decide +kernel
theorem dX12_bridge_55 : decode cX12_bridge 55 = .ok (.ireturn, 1) := by decide +kernel
theorem dX12_bridge_56 : decode cX12_bridge 56 = .ok (.iinc 1 1, 3) := by decide +kernel
theorem dX12_bridge_59 : decode cX12_bridge 59 = .ok (.goto (-31), 3) := by decide +kernel
theorem dX12_bridge_62 : decode cX12_bridge 62 = .ok (.iconst 0, 1) := by decide +kernel
theorem dX12_bridge_63 : decode cX12_bridge 63 = .ok (.istore_n 2, 1) := by decide +kernel
theorem dX12_bridge_64 : decode cX12_bridge 64 = .ok (.iload_n 2, 1) := by decide +kernel
theorem dX12_bridge_65 : decode cX12_bridge 65 = .ok (.bipush 94, 2) := by decide +kernel
theorem dX12_bridge_67 : decode cX12_bridge 67 = .ok (.if_icmp .ge 21, 3) := by decide +kernel
theorem dX12_bridge_70 : decode cX12_bridge 70 = .ok (.aload_n 0, 1) := by decide +kernel
theorem dX12_bridge_71 : decode cX12_bridge 71 = .ok (.getfield 98, 3) := by decide +kernel
theorem dX12_bridge_74 : decode cX12_bridge 74 = .ok (.iload_n 2, 1) := by decide +kernel
theorem dX12_bridge_75 : decode cX12_bridge 75 = .ok (.aload_n 0, 1) := by decide +kernel
theorem dX12_bridge_76 : decode cX12_bridge 76 = .ok (.getfield 101, 3) := by decide +kernel
theorem dX12_bridge_79 : decode cX12_bridge 79 = .ok (.iload_n 2, 1) := by decide +kernel
theorem dX12_bridge_80 : decode cX12_bridge 80 = .ok (.iaload, 1) := by decide +kernel
theorem dX12_bridge_81 : decode cX12_bridge 81 = .ok (.iastore, 1) := by decide +kernel
theorem dX12_bridge_82 : decode cX12_bridge 82 = .ok (.iinc 2 1, 3) := by decide +kernel
theorem dX12_bridge_85 : decode cX12_bridge 85 = .ok (.goto (-21), 3) := by decide +kernel
theorem dX12_bridge_88 : decode cX12_bridge 88 = .ok (.iconst 0, 1) := by decide +kernel
theorem dX12_bridge_89 : decode cX12_bridge 89 = .ok (.istore_n 2, 1) := by decide +kernel
theorem dX12_bridge_90 : decode cX12_bridge 90 = .ok (.iload_n 2, 1) := by decide +kernel
theorem dX12_bridge_91 : decode cX12_bridge 91 = .ok (.bipush 16, 2) := by decide +kernel
theorem dX12_bridge_93 : decode cX12_bridge 93 = .ok (.if_icmp .ge 21, 3) := by decide +kernel
theorem dX12_bridge_96 : decode cX12_bridge 96 = .ok (.aload_n 0, 1) := by decide +kernel
theorem dX12_bridge_97 : decode cX12_bridge 97 = .ok (.getfield 113, 3) := by decide +kernel
theorem dX12_bridge_100 : decode cX12_bridge 100 = .ok (.iload_n 2, 1) := by decide +kernel
theorem dX12_bridge_101 : decode cX12_bridge 101 = .ok (.aload_n 0, 1) := by decide +kernel
theorem dX12_bridge_102 : decode cX12_bridge 102 = .ok (.getfield 117, 3) := by decide +kernel
theorem dX12_bridge_105 : decode cX12_bridge 105 = .ok (.iload_n 2, 1) := by decide +kernel
theorem dX12_bridge_106 : decode cX12_bridge 106 = .ok (.laload, 1) := by decide +kernel
theorem dX12_bridge_107 : decode cX12_bridge 107 = .ok (.lastore, 1) := by decide +kernel
theorem dX12_bridge_108 : decode cX12_bridge 108 = .ok (.iinc 2 1, 3) := by decide +kernel
theorem dX12_bridge_111 : decode cX12_bridge 111 = .ok (.goto (-21), 3) := by decide +kernel
theorem dX12_bridge_114 : decode cX12_bridge 114 = .ok (.aload_n 0, 1) := by decide +kernel
theorem dX12_bridge_115 : decode cX12_bridge 115 = .ok (.invokevirtual 187, 3) := by decide +kernel
theorem dX12_bridge_118 : decode cX12_bridge 118 = .ok (.aload_n 0, 1) := by decide +kernel
theorem dX12_bridge_119 : decode cX12_bridge 119 = .ok (.iconst 0, 1) := by decide +kernel
theorem dX12_bridge_120 : decode cX12_bridge 120 = .ok (.putfield 258, 3) := by decide +kernel
theorem dX12_bridge_123 : decode cX12_bridge 123 = .ok (.iload_n 1, 1) := by decide +kernel
theorem dX12_bridge_124 : decode cX12_bridge 124 = .ok (.ireturn, 1) := by decide +kernel
theorem okc_X12_startRead {kn : sKn} {cc : ByteArray} {own : String} {nL : Nat} {D : Nat} {ret : Option FieldType} {ini : Bool} {pc index : Nat} (hD : 1 + 1 ≤ D) (hl : Cond.methodLink own index yX12_startRead ∈ wsL_law) (hd : decode cc pc = .ok (.invokevirtual index, 3)) : mOk kn cc own nL wsL_law D ret ini pc (a_callV true (fX12_startRead kn) 13 (0 + 1) (pc + 3)) := ok_callV (mX12_startRead kn) (good_ws ws_good (fun _ h => h) kw808) hD (by decide) hl kw809 kw810 kw686 ⟨by decide +kernel, by decide +kernel, by decide +kernel⟩ rfl hd
theorem okc0_X12_readLine {kn : sKn} {cc : ByteArray} {own : String} {nL : Nat} {D : Nat} {ret : Option FieldType} {ini : Bool} {pc index : Nat} (hD : 0 + 1 ≤ D) (hl : Cond.methodLink own index yX12_readLine ∈ wsL_law) (hd : decode cc pc = .ok (.invokevirtual index, 3)) : mOk kn cc own nL wsL_law D ret ini pc (a_callV false f_none 13 (0 + 1) (pc + 3)) := ok_callV (m_none (D := 0)) (good_ws ws_good (fun _ h => h) kw815) hD (by decide) hl kw816 kw817 kw686 ⟨by decide +kernel, by decide +kernel, by decide +kernel⟩ rfl hd
theorem okc0_X12_readEnd {kn : sKn} {cc : ByteArray} {own : String} {nL : Nat} {D : Nat} {ret : Option FieldType} {ini : Bool} {pc index : Nat} (hD : 0 + 1 ≤ D) (hl : Cond.methodLink own index yX12_readEnd ∈ wsL_law) (hd : decode cc pc = .ok (.invokevirtual index, 3)) : mOk kn cc own nL wsL_law D ret ini pc (a_callV false f_none 13 (0 + 1) (pc + 3)) := ok_callV (m_none (D := 0)) (good_ws ws_good (fun _ h => h) kw819) hD (by decide) hl kw820 kw821 kw686 ⟨by decide +kernel, by decide +kernel, by decide +kernel⟩ rfl hd
theorem okc_X12_startSo {kn : sKn} {cc : ByteArray} {own : String} {nL : Nat} {D : Nat} {ret : Option FieldType} {ini : Bool} {pc index : Nat} (hD : 1 + 1 ≤ D) (hl : Cond.methodLink own index yX12_startSo ∈ wsL_law) (hd : decode cc pc = .ok (.invokevirtual index, 3)) : mOk kn cc own nL wsL_law D ret ini pc (a_callV true (fX12_startSo kn) 13 (0 + 1) (pc + 3)) := ok_callV (mX12_startSo kn) (good_ws ws_good (fun _ h => h) kw825) hD (by decide) hl kw826 kw827 kw686 ⟨by decide +kernel, by decide +kernel, by decide +kernel⟩ rfl hd
def tX12_bridge (kn : sKn) : List (Nat × sA) := [(0, a_aload 0 1), (1, a_stk (q_int 900) 4), (4, a_callV true (fX12_begin kn) 13 2 7), (7, a_aload 0 8), (8, a_callV true (fX12_startRead kn) 13 1 11), (11, a_aload 0 12), (12, a_stk (q_int 0) 13), (13, a_put 13 24 ckZ 16), (16, a_aload 0 17), (17, a_stk (q_int 0) 18), (18, a_put 13 25 ckZ 21), (21, a_aload 0 22), (22, a_stk (q_int 0) 23), (23, a_put 13 26 ckZ 26), (26, a_stk (q_int 0) 27), (27, a_istore 1 28), (28, a_aload 0 29), (29, a_get 13 7 32), (32, a_if kn b_eq 0 62 35), (35, a_aload 0 36), (36, a_callV false f_none 13 1 39), (39, a_if kn b_eq 0 49 42), (42, a_aload 0 43), (43, a_callV false f_none 13 1 46), (46, a_if kn b_ne 1 56 49), (49, a_stk (q_int (-1)) 50), (50, a_aload 0 51), (51, a_get 13 11 54), (54, a_stk q_isub 55), (55, a_iret), (56, a_iinc 1 1 59), (59, a_goto 28), (62, a_stk (q_int 0) 63), (63, a_istore 2 64), (64, a_iload 2 65), (65, a_stk (q_int 94) 67), (67, a_icmp kn b_ge 3 88 70), (70, a_aload 0 71), (71, a_get 13 14 74), (74, a_iload 2 75), (75, a_aload 0 76), (76, a_get 13 15 79), (79, a_iload 2 80), (80, a_iald 81), (81, a_iast 82), (82, a_iinc 2 1 85), (85, a_goto 64), (88, a_stk (q_int 0) 89), (89, a_istore 2 90), (90, a_iload 2 91), (91, a_stk (q_int 16) 93), (93, a_icmp kn b_ge 3 114 96), (96, a_aload 0 97), (97, a_get 13 19 100), (100, a_iload 2 101), (101, a_aload 0 102), (102, a_get 13 20 105), (105, a_iload 2 106), (106, a_lald 107), (107, a_last 108), (108, a_iinc 2 1 111), (111, a_goto 90), (114, a_aload 0 115), (115, a_callV true (fX12_startSo kn) 13 1 118), (118, a_aload 0 119), (119, a_stk (q_int 0) 120), (120, a_put 13 23 ckI 123), (123, a_iload 1 124), (124, a_iret)]
def fX12_bridge (kn : sKn) : List Value → sW → Option sR := mF (tX12_bridge kn) 3 1000000
set_option maxRecDepth 100000 in
set_option maxHeartbeats 4000000 in
theorem mX12_bridge (kn : sKn) : mM kn yX12_bridge (Cond.code yX12_bridge cX12_bridge 3 (some .int) :: wsL_law) 3 false (fX12_bridge kn) := mM_of (own := RX12) (ini := false) rfl (by decide +kernel) (by decide +kernel) (all_c (ok_aload_n dX12_bridge_0 rfl) (all_c (ok_stk (s_sipush dX12_bridge_1 (by decide))) (all_c (okc_X12_begin (by decide) kw774 dX12_bridge_4) (all_c (ok_aload_n dX12_bridge_7 rfl) (all_c (okc_X12_startRead (by decide) kw811 dX12_bridge_8) (all_c (ok_aload_n dX12_bridge_11 rfl) (all_c (ok_stk (s_iconst dX12_bridge_12 (by decide))) (all_c (okp_X12_24 kw812 dX12_bridge_13) (all_c (ok_aload_n dX12_bridge_16 rfl) (all_c (ok_stk (s_iconst dX12_bridge_17 (by decide))) (all_c (okp_X12_25 kw813 dX12_bridge_18) (all_c (ok_aload_n dX12_bridge_21 rfl) (all_c (ok_stk (s_iconst dX12_bridge_22 (by decide))) (all_c (okp_X12_26 kw814 dX12_bridge_23) (all_c (ok_stk (s_iconst dX12_bridge_26 (by decide))) (all_c (ok_istore_n dX12_bridge_27 rfl (by decide)) (all_c (ok_aload_n dX12_bridge_28 rfl) (all_c (okg_X12_7 kw724 dX12_bridge_29) (all_c (ok_if_eq dX12_bridge_32 (by decide)) (all_c (ok_aload_n dX12_bridge_35 rfl) (all_c (okc0_X12_readLine (by decide) kw818 dX12_bridge_36) (all_c (ok_if_eq dX12_bridge_39 (by decide)) (all_c (ok_aload_n dX12_bridge_42 rfl) (all_c (okc0_X12_readEnd (by decide) kw822 dX12_bridge_43) (all_c (ok_if_ne dX12_bridge_46 (by decide)) (all_c (ok_stk (s_iconst dX12_bridge_49 (by decide))) (all_c (ok_aload_n dX12_bridge_50 rfl) (all_c (okg_X12_11 kw727 dX12_bridge_51) (all_c (ok_stk (s_isub dX12_bridge_54)) (all_c (ok_iret dX12_bridge_55) (all_c (ok_iinc dX12_bridge_56 (by decide) (by decide)) (all_c (ok_goto dX12_bridge_59 (by decide)) (all_c (ok_stk (s_iconst dX12_bridge_62 (by decide))) (all_c (ok_istore_n dX12_bridge_63 rfl (by decide)) (all_c (ok_iload_n dX12_bridge_64 rfl) (all_c (ok_stk (s_bipush dX12_bridge_65 (by decide))) (all_c (ok_icmp_ge dX12_bridge_67 (by decide)) (all_c (ok_aload_n dX12_bridge_70 rfl) (all_c (okg_X12_14 kw683 dX12_bridge_71) (all_c (ok_iload_n dX12_bridge_74 rfl) (all_c (ok_aload_n dX12_bridge_75 rfl) (all_c (okg_X12_15 kw807 dX12_bridge_76) (all_c (ok_iload_n dX12_bridge_79 rfl) (all_c (ok_iald dX12_bridge_80) (all_c (ok_iast dX12_bridge_81) (all_c (ok_iinc dX12_bridge_82 (by decide) (by decide)) (all_c (ok_goto dX12_bridge_85 (by decide)) (all_c (ok_stk (s_iconst dX12_bridge_88 (by decide))) (all_c (ok_istore_n dX12_bridge_89 rfl (by decide)) (all_c (ok_iload_n dX12_bridge_90 rfl) (all_c (ok_stk (s_bipush dX12_bridge_91 (by decide))) (all_c (ok_icmp_ge dX12_bridge_93 (by decide)) (all_c (ok_aload_n dX12_bridge_96 rfl) (all_c (okg_X12_19 kw823 dX12_bridge_97) (all_c (ok_iload_n dX12_bridge_100 rfl) (all_c (ok_aload_n dX12_bridge_101 rfl) (all_c (okg_X12_20 kw824 dX12_bridge_102) (all_c (ok_iload_n dX12_bridge_105 rfl) (all_c (ok_lald dX12_bridge_106) (all_c (ok_last dX12_bridge_107) (all_c (ok_iinc dX12_bridge_108 (by decide) (by decide)) (all_c (ok_goto dX12_bridge_111 (by decide)) (all_c (ok_aload_n dX12_bridge_114 rfl) (all_c (okc_X12_startSo (by decide) kw828 dX12_bridge_115) (all_c (ok_aload_n dX12_bridge_118 rfl) (all_c (ok_stk (s_iconst dX12_bridge_119 (by decide))) (all_c (okp_X12_23 kw761 dX12_bridge_120) (all_c (ok_iload_n dX12_bridge_123 rfl) (all_c (ok_iret dX12_bridge_124) all_n))))))))))))))))))))))))))))))))))))))))))))))))))))))))))))))))))))) 1000000 (fun h => by first | rfl | cases h)
theorem dX12_isRow_0 : decode cX12_isRow 0 = .ok (.iload_n 1, 1) := by decide +kernel
theorem dX12_isRow_1 : decode cX12_isRow 1 = .ok (.iconst 0, 1) := by decide +kernel
theorem dX12_isRow_2 : decode cX12_isRow 2 = .ok (.aload_n 0, 1) := by decide +kernel
theorem dX12_isRow_3 : decode cX12_isRow 3 = .ok (.getfield 98, 3) := by decide +kernel
theorem dX12_isRow_6 : decode cX12_isRow 6 = .ok (.iconst 0, 1) := by decide +kernel
theorem dX12_isRow_7 : decode cX12_isRow 7 = .ok (.iaload, 1) := by decide +kernel
theorem dX12_isRow_8 : decode cX12_isRow 8 = .ok (.iconst 1, 1) := by decide +kernel
theorem dX12_isRow_9 : decode cX12_isRow 9 = .ok (.isub, 1) := by decide +kernel
theorem dX12_isRow_10 : decode cX12_isRow 10 = .ok (.invokestatic 75, 3) := by decide +kernel
theorem dX12_isRow_13 : decode cX12_isRow 13 = .ok (.ireturn, 1) := by decide +kernel
def tX12_isRow (kn : sKn) : List (Nat × sA) := [(0, a_iload 1 1), (1, a_stk (q_int 0) 2), (2, a_aload 0 3), (3, a_get 13 14 6), (6, a_stk (q_int 0) 7), (7, a_iald 8), (8, a_stk (q_int 1) 9), (9, a_stk q_isub 10), (10, a_callS false (fX12_isIn kn) 3 13), (13, a_zret)]
def fX12_isRow (kn : sKn) : List Value → sW → Option sR := mF (tX12_isRow kn) 2 1000000
set_option maxRecDepth 100000 in
set_option maxHeartbeats 4000000 in
theorem mX12_isRow (kn : sKn) : mM kn yX12_isRow (Cond.code yX12_isRow cX12_isRow 2 (some .boolean) :: wsL_law) 2 false (fX12_isRow kn) := mM_of (own := RX12) (ini := false) rfl (by decide +kernel) (by decide +kernel) (all_c (ok_iload_n dX12_isRow_0 rfl) (all_c (ok_stk (s_iconst dX12_isRow_1 (by decide))) (all_c (ok_aload_n dX12_isRow_2 rfl) (all_c (okg_X12_14 kw683 dX12_isRow_3) (all_c (ok_stk (s_iconst dX12_isRow_6 (by decide))) (all_c (ok_iald dX12_isRow_7) (all_c (ok_stk (s_iconst dX12_isRow_8 (by decide))) (all_c (ok_stk (s_isub dX12_isRow_9)) (all_c (okc_X12_isIn (by decide) kw705 dX12_isRow_10) (all_c (ok_zret dX12_isRow_13) all_n)))))))))) 1000000 (fun h => by first | rfl | cases h)
theorem dX12_isPlace_0 : decode cX12_isPlace 0 = .ok (.aload_n 0, 1) := by decide +kernel
theorem dX12_isPlace_1 : decode cX12_isPlace 1 = .ok (.iload_n 1, 1) := by decide +kernel
theorem dX12_isPlace_2 : decode cX12_isPlace 2 = .ok (.invokevirtual 261, 3) := by decide +kernel
theorem dX12_isPlace_5 : decode cX12_isPlace 5 = .ok (.ifCond .eq 16, 3) := by decide +kernel
theorem dX12_isPlace_8 : decode cX12_isPlace 8 = .ok (.iload_n 2, 1) := by decide +kernel
theorem dX12_isPlace_9 : decode cX12_isPlace 9 = .ok (.iconst 0, 1) := by decide +kernel
theorem dX12_isPlace_10 : decode cX12_isPlace 10 = .ok (.iconst 2, 1) := by decide +kernel
theorem dX12_isPlace_11 : decode cX12_isPlace 11 = .ok (.invokestatic 75, 3) := by decide +kernel
theorem dX12_isPlace_14 : decode cX12_isPlace 14 = .ok (.ifCond .eq 7, 3) := by decide +kernel
theorem dX12_isPlace_17 : decode cX12_isPlace 17 = .ok (.iconst 1, 1) := by decide +kernel
theorem dX12_isPlace_18 : decode cX12_isPlace 18 = .ok (.goto 4, 3) := by decide +kernel
theorem dX12_isPlace_21 : decode cX12_isPlace 21 = .ok (.iconst 0, 1) := by decide +kernel
theorem dX12_isPlace_22 : decode cX12_isPlace 22 = .ok (.ireturn, 1) := by decide +kernel
theorem okc_X12_isRow {kn : sKn} {cc : ByteArray} {own : String} {nL : Nat} {D : Nat} {ret : Option FieldType} {ini : Bool} {pc index : Nat} (hD : 2 + 1 ≤ D) (hl : Cond.methodLink own index yX12_isRow ∈ wsL_law) (hd : decode cc pc = .ok (.invokevirtual index, 3)) : mOk kn cc own nL wsL_law D ret ini pc (a_callV false (fX12_isRow kn) 13 (1 + 1) (pc + 3)) := ok_callV (mX12_isRow kn) (good_ws ws_good (fun _ h => h) kw829) hD (by decide) hl kw830 kw831 kw686 ⟨by decide +kernel, by decide +kernel, by decide +kernel⟩ rfl hd
def tX12_isPlace (kn : sKn) : List (Nat × sA) := [(0, a_aload 0 1), (1, a_iload 1 2), (2, a_callV false (fX12_isRow kn) 13 2 5), (5, a_if kn b_eq 0 21 8), (8, a_iload 2 9), (9, a_stk (q_int 0) 10), (10, a_stk (q_int 2) 11), (11, a_callS false (fX12_isIn kn) 3 14), (14, a_if kn b_eq 0 21 17), (17, a_stk (q_int 1) 18), (18, a_goto 22), (21, a_stk (q_int 0) 22), (22, a_zret)]
def fX12_isPlace (kn : sKn) : List Value → sW → Option sR := mF (tX12_isPlace kn) 3 1000000
set_option maxRecDepth 100000 in
set_option maxHeartbeats 4000000 in
theorem mX12_isPlace (kn : sKn) : mM kn yX12_isPlace (Cond.code yX12_isPlace cX12_isPlace 3 (some .boolean) :: wsL_law) 3 false (fX12_isPlace kn) := mM_of (own := RX12) (ini := false) rfl (by decide +kernel) (by decide +kernel) (all_c (ok_aload_n dX12_isPlace_0 rfl) (all_c (ok_iload_n dX12_isPlace_1 rfl) (all_c (okc_X12_isRow (by decide) kw832 dX12_isPlace_2) (all_c (ok_if_eq dX12_isPlace_5 (by decide)) (all_c (ok_iload_n dX12_isPlace_8 rfl) (all_c (ok_stk (s_iconst dX12_isPlace_9 (by decide))) (all_c (ok_stk (s_iconst dX12_isPlace_10 (by decide))) (all_c (okc_X12_isIn (by decide) kw705 dX12_isPlace_11) (all_c (ok_if_eq dX12_isPlace_14 (by decide)) (all_c (ok_stk (s_iconst dX12_isPlace_17 (by decide))) (all_c (ok_goto dX12_isPlace_18 (by decide)) (all_c (ok_stk (s_iconst dX12_isPlace_21 (by decide))) (all_c (ok_zret dX12_isPlace_22) all_n))))))))))))) 1000000 (fun h => by first | rfl | cases h)
theorem dX12_burn_0 : decode cX12_burn 0 = .ok (.aload_n 0, 1) := by decide +kernel
theorem dX12_burn_1 : decode cX12_burn 1 = .ok (.iconst 0, 1) := by decide +kernel
theorem dX12_burn_2 : decode cX12_burn 2 = .ok (.putfield 1, 3) := by decide +kernel
theorem dX12_burn_5 : decode cX12_burn 5 = .ok (.aload_n 0, 1) := by decide +kernel
theorem dX12_burn_6 : decode cX12_burn 6 = .ok (.iload_n 1, 1) := by decide +kernel
theorem dX12_burn_7 : decode cX12_burn 7 = .ok (.iload_n 2, 1) := by decide +kernel
theorem dX12_burn_8 : decode cX12_burn 8 = .ok (.invokevirtual 289, 3) := by decide +kernel
theorem dX12_burn_11 : decode cX12_burn 11 = .ok (.ifCond .ne 5, 3) := by decide +kernel
theorem dX12_burn_14 : decode cX12_burn 14 = .ok (.iconst (-1), 1) := by decide +kernel
theorem dX12_burn_15 : decode cX12_burn 15 = .ok (.ireturn, 1) := by decide +kernel
theorem dX12_burn_16 : decode cX12_burn 16 = .ok (.aload_n 0, 1) := by decide +kernel
theorem dX12_burn_17 : decode cX12_burn 17 = .ok (.getfield 98, 3) := by decide +kernel
theorem dX12_burn_20 : decode cX12_burn 20 = .ok (.bipush 118, 2) := by decide +kernel
theorem dX12_burn_22 : decode cX12_burn 22 = .ok (.iconst 3, 1) := by decide +kernel
theorem dX12_burn_23 : decode cX12_burn 23 = .ok (.iload_n 1, 1) := by decide +kernel
theorem dX12_burn_24 : decode cX12_burn 24 = .ok (.imul, 1) := by decide +kernel
theorem dX12_burn_25 : decode cX12_burn 25 = .ok (.iadd, 1) := by decide +kernel
theorem dX12_burn_26 : decode cX12_burn 26 = .ok (.iload_n 2, 1) := by decide +kernel
theorem dX12_burn_27 : decode cX12_burn 27 = .ok (.iadd, 1) := by decide +kernel
theorem dX12_burn_28 : decode cX12_burn 28 = .ok (.iaload, 1) := by decide +kernel
theorem dX12_burn_29 : decode cX12_burn 29 = .ok (.iconst (-1), 1) := by decide +kernel
theorem dX12_burn_30 : decode cX12_burn 30 = .ok (.if_icmp .ne 5, 3) := by decide +kernel
theorem dX12_burn_33 : decode cX12_burn 33 = .ok (.iconst 1, 1) := by decide +kernel
theorem dX12_burn_34 : decode cX12_burn 34 = .ok (.ireturn, 1) := by decide +kernel
theorem dX12_burn_35 : decode cX12_burn 35 = .ok (.aload_n 0, 1) := by decide +kernel
theorem dX12_burn_36 : decode cX12_burn 36 = .ok (.invokevirtual 343, 3) := by decide +kernel
theorem dX12_burn_39 : decode cX12_burn 39 = .ok (.aload_n 0, 1) := by decide +kernel
theorem dX12_burn_40 : decode cX12_burn 40 = .ok (.iconst 3, 1) := by decide +kernel
theorem dX12_burn_41 : decode cX12_burn 41 = .ok (.iload_n 1, 1) := by decide +kernel
theorem dX12_burn_42 : decode cX12_burn 42 = .ok (.imul, 1) := by decide +kernel
theorem dX12_burn_43 : decode cX12_burn 43 = .ok (.iload_n 2, 1) := by decide +kernel
theorem dX12_burn_44 : decode cX12_burn 44 = .ok (.iadd, 1) := by decide +kernel
theorem dX12_burn_45 : decode cX12_burn 45 = .ok (.invokevirtual 349, 3) := by decide +kernel
theorem dX12_burn_48 : decode cX12_burn 48 = .ok (.iconst 0, 1) := by decide +kernel
theorem dX12_burn_49 : decode cX12_burn 49 = .ok (.ireturn, 1) := by decide +kernel
theorem okc_X12_isPlace {kn : sKn} {cc : ByteArray} {own : String} {nL : Nat} {D : Nat} {ret : Option FieldType} {ini : Bool} {pc index : Nat} (hD : 3 + 1 ≤ D) (hl : Cond.methodLink own index yX12_isPlace ∈ wsL_law) (hd : decode cc pc = .ok (.invokevirtual index, 3)) : mOk kn cc own nL wsL_law D ret ini pc (a_callV false (fX12_isPlace kn) 13 (2 + 1) (pc + 3)) := ok_callV (mX12_isPlace kn) (good_ws ws_good (fun _ h => h) kw833) hD (by decide) hl kw834 kw835 kw686 ⟨by decide +kernel, by decide +kernel, by decide +kernel⟩ rfl hd
theorem okc0_X12_doBurn {kn : sKn} {cc : ByteArray} {own : String} {nL : Nat} {D : Nat} {ret : Option FieldType} {ini : Bool} {pc index : Nat} (hD : 0 + 1 ≤ D) (hl : Cond.methodLink own index yX12_doBurn ∈ wsL_law) (hd : decode cc pc = .ok (.invokevirtual index, 3)) : mOk kn cc own nL wsL_law D ret ini pc (a_callV true f_none 13 (1 + 1) (pc + 3)) := ok_callV (m_none (D := 0)) (good_ws ws_good (fun _ h => h) kw837) hD (by decide) hl kw838 kw839 kw686 ⟨by decide +kernel, by decide +kernel, by decide +kernel⟩ rfl hd
def tX12_burn (kn : sKn) : List (Nat × sA) := [(0, a_aload 0 1), (1, a_stk (q_int 0) 2), (2, a_put 13 0 ckI 5), (5, a_aload 0 6), (6, a_iload 1 7), (7, a_iload 2 8), (8, a_callV false (fX12_isPlace kn) 13 3 11), (11, a_if kn b_ne 1 16 14), (14, a_stk (q_int (-1)) 15), (15, a_iret), (16, a_aload 0 17), (17, a_get 13 14 20), (20, a_stk (q_int 118) 22), (22, a_stk (q_int 3) 23), (23, a_iload 1 24), (24, a_stk q_imul 25), (25, a_stk q_iadd 26), (26, a_iload 2 27), (27, a_stk q_iadd 28), (28, a_iald 29), (29, a_stk (q_int (-1)) 30), (30, a_icmp kn b_ne 1 35 33), (33, a_stk (q_int 1) 34), (34, a_iret), (35, a_aload 0 36), (36, a_callV true (fX12_snap kn) 13 1 39), (39, a_aload 0 40), (40, a_stk (q_int 3) 41), (41, a_iload 1 42), (42, a_stk q_imul 43), (43, a_iload 2 44), (44, a_stk q_iadd 45), (45, a_callV true f_none 13 2 48), (48, a_stk (q_int 0) 49), (49, a_iret)]
def fX12_burn (kn : sKn) : List Value → sW → Option sR := mF (tX12_burn kn) 3 1000000
set_option maxRecDepth 100000 in
set_option maxHeartbeats 4000000 in
theorem mX12_burn (kn : sKn) : mM kn yX12_burn (Cond.code yX12_burn cX12_burn 3 (some .int) :: wsL_law) 4 false (fX12_burn kn) := mM_of (own := RX12) (ini := false) rfl (by decide +kernel) (by decide +kernel) (all_c (ok_aload_n dX12_burn_0 rfl) (all_c (ok_stk (s_iconst dX12_burn_1 (by decide))) (all_c (okp_X12_0 kw693 dX12_burn_2) (all_c (ok_aload_n dX12_burn_5 rfl) (all_c (ok_iload_n dX12_burn_6 rfl) (all_c (ok_iload_n dX12_burn_7 rfl) (all_c (okc_X12_isPlace (by decide) kw836 dX12_burn_8) (all_c (ok_if_ne dX12_burn_11 (by decide)) (all_c (ok_stk (s_iconst dX12_burn_14 (by decide))) (all_c (ok_iret dX12_burn_15) (all_c (ok_aload_n dX12_burn_16 rfl) (all_c (okg_X12_14 kw683 dX12_burn_17) (all_c (ok_stk (s_bipush dX12_burn_20 (by decide))) (all_c (ok_stk (s_iconst dX12_burn_22 (by decide))) (all_c (ok_iload_n dX12_burn_23 rfl) (all_c (ok_stk (s_imul dX12_burn_24)) (all_c (ok_stk (s_iadd dX12_burn_25)) (all_c (ok_iload_n dX12_burn_26 rfl) (all_c (ok_stk (s_iadd dX12_burn_27)) (all_c (ok_iald dX12_burn_28) (all_c (ok_stk (s_iconst dX12_burn_29 (by decide))) (all_c (ok_icmp_ne dX12_burn_30 (by decide)) (all_c (ok_stk (s_iconst dX12_burn_33 (by decide))) (all_c (ok_iret dX12_burn_34) (all_c (ok_aload_n dX12_burn_35 rfl) (all_c (okc_X12_snap (by decide) kw766 dX12_burn_36) (all_c (ok_aload_n dX12_burn_39 rfl) (all_c (ok_stk (s_iconst dX12_burn_40 (by decide))) (all_c (ok_iload_n dX12_burn_41 rfl) (all_c (ok_stk (s_imul dX12_burn_42)) (all_c (ok_iload_n dX12_burn_43 rfl) (all_c (ok_stk (s_iadd dX12_burn_44)) (all_c (okc0_X12_doBurn (by decide) kw840 dX12_burn_45) (all_c (ok_stk (s_iconst dX12_burn_48 (by decide))) (all_c (ok_iret dX12_burn_49) all_n))))))))))))))))))))))))))))))))))) 1000000 (fun h => by first | rfl | cases h)
end
