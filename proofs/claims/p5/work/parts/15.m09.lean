noncomputable section
theorem dX12_odds_0 : decode cX12_odds 0 = .ok (.aload_n 0, 1) := by decide +kernel
theorem dX12_odds_1 : decode cX12_odds 1 = .ok (.iconst 0, 1) := by decide +kernel
theorem dX12_odds_2 : decode cX12_odds 2 = .ok (.putfield 1, 3) := by decide +kernel
theorem dX12_odds_5 : decode cX12_odds 5 = .ok (.aload_n 0, 1) := by decide +kernel
theorem dX12_odds_6 : decode cX12_odds 6 = .ok (.iload_n 1, 1) := by decide +kernel
theorem dX12_odds_7 : decode cX12_odds 7 = .ok (.invokevirtual 295, 3) := by decide +kernel
theorem dX12_odds_10 : decode cX12_odds 10 = .ok (.ifCond .eq 22, 3) := by decide +kernel
theorem dX12_odds_13 : decode cX12_odds 13 = .ok (.iload_n 2, 1) := by decide +kernel
theorem dX12_odds_14 : decode cX12_odds 14 = .ok (.iconst 1, 1) := by decide +kernel
theorem dX12_odds_15 : decode cX12_odds 15 = .ok (.bipush 30, 2) := by decide +kernel
theorem dX12_odds_17 : decode cX12_odds 17 = .ok (.invokestatic 75, 3) := by decide +kernel
theorem dX12_odds_20 : decode cX12_odds 20 = .ok (.ifCond .eq 12, 3) := by decide +kernel
theorem dX12_odds_23 : decode cX12_odds 23 = .ok (.aload_n 0, 1) := by decide +kernel
theorem dX12_odds_24 : decode cX12_odds 24 = .ok (.getfield 98, 3) := by decide +kernel
theorem dX12_odds_27 : decode cX12_odds 27 = .ok (.iconst 1, 1) := by decide +kernel
theorem dX12_odds_28 : decode cX12_odds 28 = .ok (.iaload, 1) := by decide +kernel
theorem dX12_odds_29 : decode cX12_odds 29 = .ok (.ifCond .ne 5, 3) := by decide +kernel
theorem dX12_odds_32 : decode cX12_odds 32 = .ok (.iconst (-1), 1) := by decide +kernel
theorem dX12_odds_33 : decode cX12_odds 33 = .ok (.ireturn, 1) := by decide +kernel
theorem dX12_odds_34 : decode cX12_odds 34 = .ok (.aload_n 0, 1) := by decide +kernel
theorem dX12_odds_35 : decode cX12_odds 35 = .ok (.invokevirtual 409, 3) := by decide +kernel
theorem dX12_odds_38 : decode cX12_odds 38 = .ok (.iconst 0, 1) := by decide +kernel
theorem dX12_odds_39 : decode cX12_odds 39 = .ok (.istore 4, 2) := by decide +kernel
theorem dX12_odds_41 : decode cX12_odds 41 = .ok (.iconst 0, 1) := by decide +kernel
theorem dX12_odds_42 : decode cX12_odds 42 = .ok (.istore 5, 2) := by decide +kernel
theorem dX12_odds_44 : decode cX12_odds 44 = .ok (.iload 5, 2) := by decide +kernel
theorem dX12_odds_46 : decode cX12_odds 46 = .ok (.iload_n 2, 1) := by decide +kernel
theorem dX12_odds_47 : decode cX12_odds 47 = .ok (.if_icmp .ge 39, 3) := by decide +kernel
theorem dX12_odds_50 : decode cX12_odds 50 = .ok (.aload_n 0, 1) := by decide +kernel
theorem dX12_odds_51 : decode cX12_odds 51 = .ok (.bipush 20, 2) := by decide +kernel
theorem dX12_odds_53 : decode cX12_odds 53 = .ok (.iload_n 3, 1) := by decide +kernel
theorem dX12_odds_54 : decode cX12_odds 54 = .ok (.iload 5, 2) := by decide +kernel
theorem dX12_odds_56 : decode cX12_odds 56 = .ok (.iadd, 1) := by decide +kernel
theorem dX12_odds_57 : decode cX12_odds 57 = .ok (.invokevirtual 438, 3) := by decide +kernel
theorem dX12_odds_60 : decode cX12_odds 60 = .ok (.pop, 1) := by decide +kernel
theorem dX12_odds_61 : decode cX12_odds 61 = .ok (.aload_n 0, 1) := by decide +kernel
theorem dX12_odds_62 : decode cX12_odds 62 = .ok (.invokevirtual 292, 3) := by decide +kernel
theorem dX12_odds_65 : decode cX12_odds 65 = .ok (.aload_n 0, 1) := by decide +kernel
theorem dX12_odds_66 : decode cX12_odds 66 = .ok (.iload_n 1, 1) := by decide +kernel
theorem dX12_odds_67 : decode cX12_odds 67 = .ok (.invokevirtual 334, 3) := by decide +kernel
theorem dX12_odds_70 : decode cX12_odds 70 = .ok (.ifCond .eq 6, 3) := by decide +kernel
theorem dX12_odds_73 : decode cX12_odds 73 = .ok (.iinc 4 1, 3) := by decide +kernel
theorem dX12_odds_76 : decode cX12_odds 76 = .ok (.aload_n 0, 1) := by decide +kernel
theorem dX12_odds_77 : decode cX12_odds 77 = .ok (.invokevirtual 415, 3) := by decide +kernel
theorem dX12_odds_80 : decode cX12_odds 80 = .ok (.iinc 5 1, 3) := by decide +kernel
theorem dX12_odds_83 : decode cX12_odds 83 = .ok (.goto (-39), 3) := by decide +kernel
theorem dX12_odds_86 : decode cX12_odds 86 = .ok (.iload 4, 2) := by decide +kernel
theorem dX12_odds_88 : decode cX12_odds 88 = .ok (.ireturn, 1) := by decide +kernel
def tX12_odds (kn : sKn) : List (Nat × sA) := [(0, a_aload 0 1), (1, a_stk (q_int 0) 2), (2, a_put 13 0 ckI 5), (5, a_aload 0 6), (6, a_iload 1 7), (7, a_callV false (fX12_isLoad kn) 13 2 10), (10, a_if kn b_eq 0 32 13), (13, a_iload 2 14), (14, a_stk (q_int 1) 15), (15, a_stk (q_int 30) 17), (17, a_callS false (fX12_isIn kn) 3 20), (20, a_if kn b_eq 0 32 23), (23, a_aload 0 24), (24, a_get 13 14 27), (27, a_stk (q_int 1) 28), (28, a_iald 29), (29, a_if kn b_ne 1 34 32), (32, a_stk (q_int (-1)) 33), (33, a_iret), (34, a_aload 0 35), (35, a_callV true (fX12_layAside kn) 13 1 38), (38, a_stk (q_int 0) 39), (39, a_istore 4 41), (41, a_stk (q_int 0) 42), (42, a_istore 5 44), (44, a_iload 5 46), (46, a_iload 2 47), (47, a_icmp kn b_ge 3 86 50), (50, a_aload 0 51), (51, a_stk (q_int 20) 53), (53, a_iload 3 54), (54, a_iload 5 56), (56, a_stk q_iadd 57), (57, a_callV false (fX12_drawDays kn) 13 3 60), (60, a_stk q_pop 61), (61, a_aload 0 62), (62, a_callV true (fX12_layWhose kn) 13 1 65), (65, a_aload 0 66), (66, a_iload 1 67), (67, a_callV false (fX12_hasPath kn) 13 2 70), (70, a_if kn b_eq 0 76 73), (73, a_iinc 4 1 76), (76, a_aload 0 77), (77, a_callV true (fX12_takeBack kn) 13 1 80), (80, a_iinc 5 1 83), (83, a_goto 44), (86, a_iload 4 88), (88, a_iret)]
def fX12_odds (kn : sKn) : List Value → sW → Option sR := fW (tX12_odds kn) 6
set_option maxRecDepth 100000 in
set_option maxHeartbeats 4000000 in
theorem mX12_odds (kn : sKn) : mM kn yX12_odds (Cond.code yX12_odds cX12_odds 6 (some .int) :: wsL_law) 11 false (fX12_odds kn) := mM_W (fun n => mM_of (own := RX12) (ini := false) rfl (by decide +kernel) (by decide +kernel) (all_c (ok_aload_n dX12_odds_0 rfl) (all_c (ok_stk (s_iconst dX12_odds_1 (by decide))) (all_c (okp_X12_0 kw1114 dX12_odds_2) (all_c (ok_aload_n dX12_odds_5 rfl) (all_c (ok_iload_n dX12_odds_6 rfl) (all_c (okc_X12_isLoad (by decide) kw1142 dX12_odds_7) (all_c (ok_if_eq dX12_odds_10 (by decide)) (all_c (ok_iload_n dX12_odds_13 rfl) (all_c (ok_stk (s_iconst dX12_odds_14 (by decide))) (all_c (ok_stk (s_bipush dX12_odds_15 (by decide))) (all_c (okc_X12_isIn (by decide) kw1126 dX12_odds_17) (all_c (ok_if_eq dX12_odds_20 (by decide)) (all_c (ok_aload_n dX12_odds_23 rfl) (all_c (okg_X12_14 kw1069 dX12_odds_24) (all_c (ok_stk (s_iconst dX12_odds_27 (by decide))) (all_c (ok_iald dX12_odds_28) (all_c (ok_if_ne dX12_odds_29 (by decide)) (all_c (ok_stk (s_iconst dX12_odds_32 (by decide))) (all_c (ok_iret dX12_odds_33) (all_c (ok_aload_n dX12_odds_34 rfl) (all_c (okc_X12_layAside (by decide) kw1319 dX12_odds_35) (all_c (ok_stk (s_iconst dX12_odds_38 (by decide))) (all_c (ok_istore dX12_odds_39 (by decide)) (all_c (ok_stk (s_iconst dX12_odds_41 (by decide))) (all_c (ok_istore dX12_odds_42 (by decide)) (all_c (ok_iload dX12_odds_44) (all_c (ok_iload_n dX12_odds_46 rfl) (all_c (ok_icmp_ge dX12_odds_47 (by decide)) (all_c (ok_aload_n dX12_odds_50 rfl) (all_c (ok_stk (s_bipush dX12_odds_51 (by decide))) (all_c (ok_iload_n dX12_odds_53 rfl) (all_c (ok_iload dX12_odds_54) (all_c (ok_stk (s_iadd dX12_odds_56)) (all_c (okc_X12_drawDays (by decide) kw1421 dX12_odds_57) (all_c (ok_stk (s_pop dX12_odds_60)) (all_c (ok_aload_n dX12_odds_61 rfl) (all_c (okc_X12_layWhose (by decide) kw1118 dX12_odds_62) (all_c (ok_aload_n dX12_odds_65 rfl) (all_c (ok_iload_n dX12_odds_66 rfl) (all_c (okc_X12_hasPath (by decide) kw1113 dX12_odds_67) (all_c (ok_if_eq dX12_odds_70 (by decide)) (all_c (ok_iinc dX12_odds_73 (by decide) (by decide)) (all_c (ok_aload_n dX12_odds_76 rfl) (all_c (okc_X12_takeBack (by decide) kw1295 dX12_odds_77) (all_c (ok_iinc dX12_odds_80 (by decide) (by decide)) (all_c (ok_goto dX12_odds_83 (by decide)) (all_c (ok_iload dX12_odds_86) (all_c (ok_iret dX12_odds_88) all_n)))))))))))))))))))))))))))))))))))))))))))))))) n (fun h => by first | rfl | cases h))
theorem dX12_orderFrom_0 : decode cX12_orderFrom 0 = .ok (.iload_n 3, 1) := by decide +kernel
theorem dX12_orderFrom_1 : decode cX12_orderFrom 1 = .ok (.ifCond .ne 49, 3) := by decide +kernel
theorem dX12_orderFrom_4 : decode cX12_orderFrom 4 = .ok (.iload 4, 2) := by decide +kernel
theorem dX12_orderFrom_6 : decode cX12_orderFrom 6 = .ok (.aload_n 0, 1) := by decide +kernel
theorem dX12_orderFrom_7 : decode cX12_orderFrom 7 = .ok (.getfield 393, 3) := by decide +kernel
theorem dX12_orderFrom_10 : decode cX12_orderFrom 10 = .ok (.if_icmp .gt 4, 3) := by decide +kernel
theorem dX12_orderFrom_13 : decode cX12_orderFrom 13 = .ok (.return_, 1) := by decide +kernel
theorem dX12_orderFrom_14 : decode cX12_orderFrom 14 = .ok (.aload_n 0, 1) := by decide +kernel
theorem dX12_orderFrom_15 : decode cX12_orderFrom 15 = .ok (.iload 4, 2) := by decide +kernel
theorem dX12_orderFrom_17 : decode cX12_orderFrom 17 = .ok (.putfield 393, 3) := by decide +kernel
theorem dX12_orderFrom_20 : decode cX12_orderFrom 20 = .ok (.iconst 0, 1) := by decide +kernel
theorem dX12_orderFrom_21 : decode cX12_orderFrom 21 = .ok (.istore 5, 2) := by decide +kernel
theorem dX12_orderFrom_23 : decode cX12_orderFrom 23 = .ok (.iload 5, 2) := by decide +kernel
theorem dX12_orderFrom_25 : decode cX12_orderFrom 25 = .ok (.iload_n 2, 1) := by decide +kernel
theorem dX12_orderFrom_26 : decode cX12_orderFrom 26 = .ok (.if_icmp .ge 23, 3) := by decide +kernel
theorem dX12_orderFrom_29 : decode cX12_orderFrom 29 = .ok (.aload_n 0, 1) := by decide +kernel
theorem dX12_orderFrom_30 : decode cX12_orderFrom 30 = .ok (.getfield 157, 3) := by decide +kernel
theorem dX12_orderFrom_33 : decode cX12_orderFrom 33 = .ok (.iload 5, 2) := by decide +kernel
theorem dX12_orderFrom_35 : decode cX12_orderFrom 35 = .ok (.aload_n 0, 1) := by decide +kernel
theorem dX12_orderFrom_36 : decode cX12_orderFrom 36 = .ok (.getfield 154, 3) := by decide +kernel
theorem dX12_orderFrom_39 : decode cX12_orderFrom 39 = .ok (.iload 5, 2) := by decide +kernel
theorem dX12_orderFrom_41 : decode cX12_orderFrom 41 = .ok (.iaload, 1) := by decide +kernel
theorem dX12_orderFrom_42 : decode cX12_orderFrom 42 = .ok (.iastore, 1) := by decide +kernel
theorem dX12_orderFrom_43 : decode cX12_orderFrom 43 = .ok (.iinc 5 1, 3) := by decide +kernel
theorem dX12_orderFrom_46 : decode cX12_orderFrom 46 = .ok (.goto (-23), 3) := by decide +kernel
theorem dX12_orderFrom_49 : decode cX12_orderFrom 49 = .ok (.return_, 1) := by decide +kernel
theorem dX12_orderFrom_50 : decode cX12_orderFrom 50 = .ok (.iconst 0, 1) := by decide +kernel
theorem dX12_orderFrom_51 : decode cX12_orderFrom 51 = .ok (.istore 5, 2) := by decide +kernel
theorem dX12_orderFrom_53 : decode cX12_orderFrom 53 = .ok (.iload 5, 2) := by decide +kernel
theorem dX12_orderFrom_55 : decode cX12_orderFrom 55 = .ok (.bipush 102, 2) := by decide +kernel
theorem dX12_orderFrom_57 : decode cX12_orderFrom 57 = .ok (.if_icmp .ge 31, 3) := by decide +kernel
theorem dX12_orderFrom_60 : decode cX12_orderFrom 60 = .ok (.aload_n 0, 1) := by decide +kernel
theorem dX12_orderFrom_61 : decode cX12_orderFrom 61 = .ok (.getfield 160, 3) := by decide +kernel
theorem dX12_orderFrom_64 : decode cX12_orderFrom 64 = .ok (.bipush 102, 2) := by decide +kernel
theorem dX12_orderFrom_66 : decode cX12_orderFrom 66 = .ok (.iload_n 1, 1) := by decide +kernel
theorem dX12_orderFrom_67 : decode cX12_orderFrom 67 = .ok (.imul, 1) := by decide +kernel
theorem dX12_orderFrom_68 : decode cX12_orderFrom 68 = .ok (.iload 5, 2) := by decide +kernel
theorem dX12_orderFrom_70 : decode cX12_orderFrom 70 = .ok (.iadd, 1) := by decide +kernel
theorem dX12_orderFrom_71 : decode cX12_orderFrom 71 = .ok (.aload_n 0, 1) := by decide +kernel
theorem dX12_orderFrom_72 : decode cX12_orderFrom 72 = .ok (.getfield 98, 3) := by decide +kernel
theorem dX12_orderFrom_75 : decode cX12_orderFrom 75 = .ok (.bipush 94, 2) := by decide +kernel
theorem dX12_orderFrom_77 : decode cX12_orderFrom 77 = .ok (.iload 5, 2) := by decide +kernel
theorem dX12_orderFrom_79 : decode cX12_orderFrom 79 = .ok (.iadd, 1) := by decide +kernel
theorem dX12_orderFrom_80 : decode cX12_orderFrom 80 = .ok (.iaload, 1) := by decide +kernel
theorem dX12_orderFrom_81 : decode cX12_orderFrom 81 = .ok (.iastore, 1) := by decide +kernel
theorem dX12_orderFrom_82 : decode cX12_orderFrom 82 = .ok (.iinc 5 1, 3) := by decide +kernel
theorem dX12_orderFrom_85 : decode cX12_orderFrom 85 = .ok (.goto (-32), 3) := by decide +kernel
theorem dX12_orderFrom_88 : decode cX12_orderFrom 88 = .ok (.iconst 0, 1) := by decide +kernel
theorem dX12_orderFrom_89 : decode cX12_orderFrom 89 = .ok (.istore 5, 2) := by decide +kernel
theorem dX12_orderFrom_91 : decode cX12_orderFrom 91 = .ok (.iload 5, 2) := by decide +kernel
theorem dX12_orderFrom_93 : decode cX12_orderFrom 93 = .ok (.aload_n 0, 1) := by decide +kernel
theorem dX12_orderFrom_94 : decode cX12_orderFrom 94 = .ok (.getfield 98, 3) := by decide +kernel
theorem dX12_orderFrom_97 : decode cX12_orderFrom 97 = .ok (.iconst 2, 1) := by decide +kernel
theorem dX12_orderFrom_98 : decode cX12_orderFrom 98 = .ok (.iaload, 1) := by decide +kernel
theorem dX12_orderFrom_99 : decode cX12_orderFrom 99 = .ok (.if_icmp .ge 104, 3) := by decide +kernel
theorem dX12_orderFrom_102 : decode cX12_orderFrom 102 = .ok (.iload_n 3, 1) := by decide +kernel
theorem dX12_orderFrom_103 : decode cX12_orderFrom 103 = .ok (.iload 5, 2) := by decide +kernel
theorem dX12_orderFrom_105 : decode cX12_orderFrom 105 = .ok (.invokestatic 225, 3) := by decide +kernel
theorem dX12_orderFrom_108 : decode cX12_orderFrom 108 = .ok (.ifCond .ne 6, 3) := by decide +kernel
theorem dX12_orderFrom_111 : decode cX12_orderFrom 111 = .ok (.goto 86, 3) := by decide +kernel
theorem dX12_orderFrom_114 : decode cX12_orderFrom 114 = .ok (.aload_n 0, 1) := by decide +kernel
theorem dX12_orderFrom_115 : decode cX12_orderFrom 115 = .ok (.getfield 154, 3) := by decide +kernel
theorem dX12_orderFrom_118 : decode cX12_orderFrom 118 = .ok (.iload_n 1, 1) := by decide +kernel
theorem dX12_orderFrom_119 : decode cX12_orderFrom 119 = .ok (.iload 5, 2) := by decide +kernel
theorem dX12_orderFrom_121 : decode cX12_orderFrom 121 = .ok (.iastore, 1) := by decide +kernel
theorem dX12_orderFrom_122 : decode cX12_orderFrom 122 = .ok (.aload_n 0, 1) := by decide +kernel
theorem dX12_orderFrom_123 : decode cX12_orderFrom 123 = .ok (.iload 5, 2) := by decide +kernel
theorem dX12_orderFrom_125 : decode cX12_orderFrom 125 = .ok (.invokevirtual 358, 3) := by decide +kernel
theorem dX12_orderFrom_128 : decode cX12_orderFrom 128 = .ok (.ifCond .ne 7, 3) := by decide +kernel
theorem dX12_orderFrom_131 : decode cX12_orderFrom 131 = .ok (.iconst 1, 1) := by decide +kernel
theorem dX12_orderFrom_132 : decode cX12_orderFrom 132 = .ok (.goto 4, 3) := by decide +kernel
theorem dX12_orderFrom_135 : decode cX12_orderFrom 135 = .ok (.iconst 0, 1) := by decide +kernel
theorem dX12_orderFrom_136 : decode cX12_orderFrom 136 = .ok (.istore 6, 2) := by decide +kernel
theorem dX12_orderFrom_138 : decode cX12_orderFrom 138 = .ok (.aload_n 0, 1) := by decide +kernel
theorem dX12_orderFrom_139 : decode cX12_orderFrom 139 = .ok (.iload_n 1, 1) := by decide +kernel
theorem dX12_orderFrom_140 : decode cX12_orderFrom 140 = .ok (.iconst 1, 1) := by decide +kernel
theorem dX12_orderFrom_141 : decode cX12_orderFrom 141 = .ok (.iadd, 1) := by decide +kernel
theorem dX12_orderFrom_142 : decode cX12_orderFrom 142 = .ok (.iload_n 2, 1) := by decide +kernel
theorem dX12_orderFrom_143 : decode cX12_orderFrom 143 = .ok (.iload_n 3, 1) := by decide +kernel
theorem dX12_orderFrom_144 : decode cX12_orderFrom 144 = .ok (.iconst 1, 1) := by decide +kernel
theorem dX12_orderFrom_145 : decode cX12_orderFrom 145 = .ok (.iload 5, 2) := by decide +kernel
theorem dX12_orderFrom_147 : decode cX12_orderFrom 147 = .ok (.ishl, 1) := by decide +kernel
theorem dX12_orderFrom_148 : decode cX12_orderFrom 148 = .ok (.iconst (-1), 1) := by decide +kernel
theorem dX12_orderFrom_149 : decode cX12_orderFrom 149 = .ok (.ixor, 1) := by decide +kernel
theorem dX12_orderFrom_150 : decode cX12_orderFrom 150 = .ok (.iand, 1) := by decide +kernel
theorem dX12_orderFrom_151 : decode cX12_orderFrom 151 = .ok (.iload 4, 2) := by decide +kernel
theorem dX12_orderFrom_153 : decode cX12_orderFrom 153 = .ok (.iload 6, 2) := by decide +kernel
theorem dX12_orderFrom_155 : decode cX12_orderFrom 155 = .ok (.iadd, 1) := by decide +kernel
theorem dX12_orderFrom_156 : decode cX12_orderFrom 156 = .ok (.invokevirtual 396, 3) := by decide +kernel
theorem dX12_orderFrom_159 : decode cX12_orderFrom 159 = .ok (.iconst 0, 1) := by decide +kernel
theorem dX12_orderFrom_160 : decode cX12_orderFrom 160 = .ok (.istore 7, 2) := by decide +kernel
theorem dX12_orderFrom_162 : decode cX12_orderFrom 162 = .ok (.iload 7, 2) := by decide +kernel
theorem dX12_orderFrom_164 : decode cX12_orderFrom 164 = .ok (.bipush 102, 2) := by decide +kernel
theorem dX12_orderFrom_166 : decode cX12_orderFrom 166 = .ok (.if_icmp .ge 31, 3) := by decide +kernel
theorem dX12_orderFrom_169 : decode cX12_orderFrom 169 = .ok (.aload_n 0, 1) := by decide +kernel
theorem dX12_orderFrom_170 : decode cX12_orderFrom 170 = .ok (.getfield 98, 3) := by decide +kernel
theorem dX12_orderFrom_173 : decode cX12_orderFrom 173 = .ok (.bipush 94, 2) := by decide +kernel
theorem dX12_orderFrom_175 : decode cX12_orderFrom 175 = .ok (.iload 7, 2) := by decide +kernel
theorem dX12_orderFrom_177 : decode cX12_orderFrom 177 = .ok (.iadd, 1) := by decide +kernel
theorem dX12_orderFrom_178 : decode cX12_orderFrom 178 = .ok (.aload_n 0, 1) := by decide +kernel
theorem dX12_orderFrom_179 : decode cX12_orderFrom 179 = .ok (.getfield 160, 3) := by decide +kernel
theorem dX12_orderFrom_182 : decode cX12_orderFrom 182 = .ok (.bipush 102, 2) := by decide +kernel
theorem dX12_orderFrom_184 : decode cX12_orderFrom 184 = .ok (.iload_n 1, 1) := by decide +kernel
theorem dX12_orderFrom_185 : decode cX12_orderFrom 185 = .ok (.imul, 1) := by decide +kernel
theorem dX12_orderFrom_186 : decode cX12_orderFrom 186 = .ok (.iload 7, 2) := by decide +kernel
theorem dX12_orderFrom_188 : decode cX12_orderFrom 188 = .ok (.iadd, 1) := by decide +kernel
theorem dX12_orderFrom_189 : decode cX12_orderFrom 189 = .ok (.iaload, 1) := by decide +kernel
theorem dX12_orderFrom_190 : decode cX12_orderFrom 190 = .ok (.iastore, 1) := by decide +kernel
theorem dX12_orderFrom_191 : decode cX12_orderFrom 191 = .ok (.iinc 7 1, 3) := by decide +kernel
theorem dX12_orderFrom_194 : decode cX12_orderFrom 194 = .ok (.goto (-32), 3) := by decide +kernel
theorem dX12_orderFrom_197 : decode cX12_orderFrom 197 = .ok (.iinc 5 1, 3) := by decide +kernel
theorem dX12_orderFrom_200 : decode cX12_orderFrom 200 = .ok (.goto (-109), 3) := by decide +kernel
theorem dX12_orderFrom_203 : decode cX12_orderFrom 203 = .ok (.return_, 1) := by decide +kernel
def tX12_orderFrom_g (kn : sKn) (g : List Value → sW → Option sR) : List (Nat × sA) := [(0, a_iload 3 1), (1, a_if kn b_ne 1 50 4), (4, a_iload 4 6), (6, a_aload 0 7), (7, a_get 13 44 10), (10, a_icmp kn b_gt 4 14 13), (13, a_vret), (14, a_aload 0 15), (15, a_iload 4 17), (17, a_put 13 44 ckI 20), (20, a_stk (q_int 0) 21), (21, a_istore 5 23), (23, a_iload 5 25), (25, a_iload 2 26), (26, a_icmp kn b_ge 3 49 29), (29, a_aload 0 30), (30, a_get 13 41 33), (33, a_iload 5 35), (35, a_aload 0 36), (36, a_get 13 40 39), (39, a_iload 5 41), (41, a_iald 42), (42, a_iast 43), (43, a_iinc 5 1 46), (46, a_goto 23), (49, a_vret), (50, a_stk (q_int 0) 51), (51, a_istore 5 53), (53, a_iload 5 55), (55, a_stk (q_int 102) 57), (57, a_icmp kn b_ge 3 88 60), (60, a_aload 0 61), (61, a_get 13 42 64), (64, a_stk (q_int 102) 66), (66, a_iload 1 67), (67, a_stk q_imul 68), (68, a_iload 5 70), (70, a_stk q_iadd 71), (71, a_aload 0 72), (72, a_get 13 14 75), (75, a_stk (q_int 94) 77), (77, a_iload 5 79), (79, a_stk q_iadd 80), (80, a_iald 81), (81, a_iast 82), (82, a_iinc 5 1 85), (85, a_goto 53), (88, a_stk (q_int 0) 89), (89, a_istore 5 91), (91, a_iload 5 93), (93, a_aload 0 94), (94, a_get 13 14 97), (97, a_stk (q_int 2) 98), (98, a_iald 99), (99, a_icmp kn b_ge 3 203 102), (102, a_iload 3 103), (103, a_iload 5 105), (105, a_callS false (fX12_has kn) 2 108), (108, a_if kn b_ne 1 114 111), (111, a_goto 197), (114, a_aload 0 115), (115, a_get 13 40 118), (118, a_iload 1 119), (119, a_iload 5 121), (121, a_iast 122), (122, a_aload 0 123), (123, a_iload 5 125), (125, a_callV false (fX12_doCross kn) 13 2 128), (128, a_if kn b_ne 1 135 131), (131, a_stk (q_int 1) 132), (132, a_goto 136), (135, a_stk (q_int 0) 136), (136, a_istore 6 138), (138, a_aload 0 139), (139, a_iload 1 140), (140, a_stk (q_int 1) 141), (141, a_stk q_iadd 142), (142, a_iload 2 143), (143, a_iload 3 144), (144, a_stk (q_int 1) 145), (145, a_iload 5 147), (147, a_stk q_ishl 148), (148, a_stk (q_int (-1)) 149), (149, a_stk q_ixor 150), (150, a_stk q_iand 151), (151, a_iload 4 153), (153, a_iload 6 155), (155, a_stk q_iadd 156), (156, a_callV true g 13 5 159), (159, a_stk (q_int 0) 160), (160, a_istore 7 162), (162, a_iload 7 164), (164, a_stk (q_int 102) 166), (166, a_icmp kn b_ge 3 197 169), (169, a_aload 0 170), (170, a_get 13 14 173), (173, a_stk (q_int 94) 175), (175, a_iload 7 177), (177, a_stk q_iadd 178), (178, a_aload 0 179), (179, a_get 13 42 182), (182, a_stk (q_int 102) 184), (184, a_iload 1 185), (185, a_stk q_imul 186), (186, a_iload 7 188), (188, a_stk q_iadd 189), (189, a_iald 190), (190, a_iast 191), (191, a_iinc 7 1 194), (194, a_goto 162), (197, a_iinc 5 1 200), (200, a_goto 91), (203, a_vret)]
def fX12_orderFrom_g (kn : sKn) (g : List Value → sW → Option sR) : List Value → sW → Option sR := fW (tX12_orderFrom_g kn g) 8
set_option maxRecDepth 100000 in
set_option maxHeartbeats 4000000 in
theorem mX12_orderFrom_g (kn : sKn) {g : List Value → sW → Option sR} {Dg : Nat} (hg : mM kn yX12_orderFrom (Cond.code yX12_orderFrom cX12_orderFrom 8 none :: wsL_law) Dg true g) : mM kn yX12_orderFrom (Cond.code yX12_orderFrom cX12_orderFrom 8 none :: wsL_law) (Dg + 10) true (fX12_orderFrom_g kn g) := mM_W (fun n => mM_of (own := RX12) (ini := false) rfl (by decide +kernel) (by decide +kernel) (all_c (ok_iload_n dX12_orderFrom_0 rfl) (all_c (ok_if_ne dX12_orderFrom_1 (by first | decide | omega)) (all_c (ok_iload dX12_orderFrom_4) (all_c (ok_aload_n dX12_orderFrom_6 rfl) (all_c (okg_X12_44 kw1458 dX12_orderFrom_7) (all_c (ok_icmp_gt dX12_orderFrom_10 (by first | decide | omega)) (all_c (ok_vret dX12_orderFrom_13) (all_c (ok_aload_n dX12_orderFrom_14 rfl) (all_c (ok_iload dX12_orderFrom_15) (all_c (okp_X12_44 kw1458 dX12_orderFrom_17) (all_c (ok_stk (s_iconst dX12_orderFrom_20 (by first | decide | omega))) (all_c (ok_istore dX12_orderFrom_21 (by first | decide | omega)) (all_c (ok_iload dX12_orderFrom_23) (all_c (ok_iload_n dX12_orderFrom_25 rfl) (all_c (ok_icmp_ge dX12_orderFrom_26 (by first | decide | omega)) (all_c (ok_aload_n dX12_orderFrom_29 rfl) (all_c (okg_X12_41 kw1447 dX12_orderFrom_30) (all_c (ok_iload dX12_orderFrom_33) (all_c (ok_aload_n dX12_orderFrom_35 rfl) (all_c (okg_X12_40 kw1446 dX12_orderFrom_36) (all_c (ok_iload dX12_orderFrom_39) (all_c (ok_iald dX12_orderFrom_41) (all_c (ok_iast dX12_orderFrom_42) (all_c (ok_iinc dX12_orderFrom_43 (by first | decide | omega) (by first | decide | omega)) (all_c (ok_goto dX12_orderFrom_46 (by first | decide | omega)) (all_c (ok_vret dX12_orderFrom_49) (all_c (ok_stk (s_iconst dX12_orderFrom_50 (by first | decide | omega))) (all_c (ok_istore dX12_orderFrom_51 (by first | decide | omega)) (all_c (ok_iload dX12_orderFrom_53) (all_c (ok_stk (s_bipush dX12_orderFrom_55 (by first | decide | omega))) (all_c (ok_icmp_ge dX12_orderFrom_57 (by first | decide | omega)) (all_c (ok_aload_n dX12_orderFrom_60 rfl) (all_c (okg_X12_42 kw1448 dX12_orderFrom_61) (all_c (ok_stk (s_bipush dX12_orderFrom_64 (by first | decide | omega))) (all_c (ok_iload_n dX12_orderFrom_66 rfl) (all_c (ok_stk (s_imul dX12_orderFrom_67)) (all_c (ok_iload dX12_orderFrom_68) (all_c (ok_stk (s_iadd dX12_orderFrom_70)) (all_c (ok_aload_n dX12_orderFrom_71 rfl) (all_c (okg_X12_14 kw1069 dX12_orderFrom_72) (all_c (ok_stk (s_bipush dX12_orderFrom_75 (by first | decide | omega))) (all_c (ok_iload dX12_orderFrom_77) (all_c (ok_stk (s_iadd dX12_orderFrom_79)) (all_c (ok_iald dX12_orderFrom_80) (all_c (ok_iast dX12_orderFrom_81) (all_c (ok_iinc dX12_orderFrom_82 (by first | decide | omega) (by first | decide | omega)) (all_c (ok_goto dX12_orderFrom_85 (by first | decide | omega)) (all_c (ok_stk (s_iconst dX12_orderFrom_88 (by first | decide | omega))) (all_c (ok_istore dX12_orderFrom_89 (by first | decide | omega)) (all_c (ok_iload dX12_orderFrom_91) (all_c (ok_aload_n dX12_orderFrom_93 rfl) (all_c (okg_X12_14 kw1069 dX12_orderFrom_94) (all_c (ok_stk (s_iconst dX12_orderFrom_97 (by first | decide | omega))) (all_c (ok_iald dX12_orderFrom_98) (all_c (ok_icmp_ge dX12_orderFrom_99 (by first | decide | omega)) (all_c (ok_iload_n dX12_orderFrom_102 rfl) (all_c (ok_iload dX12_orderFrom_103) (all_c (okc_X12_has (by first | decide | omega) kw1077 dX12_orderFrom_105) (all_c (ok_if_ne dX12_orderFrom_108 (by first | decide | omega)) (all_c (ok_goto dX12_orderFrom_111 (by first | decide | omega)) (all_c (ok_aload_n dX12_orderFrom_114 rfl) (all_c (okg_X12_40 kw1446 dX12_orderFrom_115) (all_c (ok_iload_n dX12_orderFrom_118 rfl) (all_c (ok_iload dX12_orderFrom_119) (all_c (ok_iast dX12_orderFrom_121) (all_c (ok_aload_n dX12_orderFrom_122 rfl) (all_c (ok_iload dX12_orderFrom_123) (all_c (okc_X12_doCross (by first | decide | omega) kw1229 dX12_orderFrom_125) (all_c (ok_if_ne dX12_orderFrom_128 (by first | decide | omega)) (all_c (ok_stk (s_iconst dX12_orderFrom_131 (by first | decide | omega))) (all_c (ok_goto dX12_orderFrom_132 (by first | decide | omega)) (all_c (ok_stk (s_iconst dX12_orderFrom_135 (by first | decide | omega))) (all_c (ok_istore dX12_orderFrom_136 (by first | decide | omega)) (all_c (ok_aload_n dX12_orderFrom_138 rfl) (all_c (ok_iload_n dX12_orderFrom_139 rfl) (all_c (ok_stk (s_iconst dX12_orderFrom_140 (by first | decide | omega))) (all_c (ok_stk (s_iadd dX12_orderFrom_141)) (all_c (ok_iload_n dX12_orderFrom_142 rfl) (all_c (ok_iload_n dX12_orderFrom_143 rfl) (all_c (ok_stk (s_iconst dX12_orderFrom_144 (by first | decide | omega))) (all_c (ok_iload dX12_orderFrom_145) (all_c (ok_stk (s_ishl dX12_orderFrom_147)) (all_c (ok_stk (s_iconst dX12_orderFrom_148 (by first | decide | omega))) (all_c (ok_stk (s_ixor dX12_orderFrom_149)) (all_c (ok_stk (s_iand dX12_orderFrom_150)) (all_c (ok_iload dX12_orderFrom_151) (all_c (ok_iload dX12_orderFrom_153) (all_c (ok_stk (s_iadd dX12_orderFrom_155)) (all_c (ok_callV hg (good_ws ws_good (fun _ h => h) kw1461) (by first | decide | omega) (by first | decide | omega) kw1462 kw1459 kw1460 kw1072 ⟨by decide +kernel, by decide +kernel, by decide +kernel⟩ rfl dX12_orderFrom_156) (all_c (ok_stk (s_iconst dX12_orderFrom_159 (by first | decide | omega))) (all_c (ok_istore dX12_orderFrom_160 (by first | decide | omega)) (all_c (ok_iload dX12_orderFrom_162) (all_c (ok_stk (s_bipush dX12_orderFrom_164 (by first | decide | omega))) (all_c (ok_icmp_ge dX12_orderFrom_166 (by first | decide | omega)) (all_c (ok_aload_n dX12_orderFrom_169 rfl) (all_c (okg_X12_14 kw1069 dX12_orderFrom_170) (all_c (ok_stk (s_bipush dX12_orderFrom_173 (by first | decide | omega))) (all_c (ok_iload dX12_orderFrom_175) (all_c (ok_stk (s_iadd dX12_orderFrom_177)) (all_c (ok_aload_n dX12_orderFrom_178 rfl) (all_c (okg_X12_42 kw1448 dX12_orderFrom_179) (all_c (ok_stk (s_bipush dX12_orderFrom_182 (by first | decide | omega))) (all_c (ok_iload_n dX12_orderFrom_184 rfl) (all_c (ok_stk (s_imul dX12_orderFrom_185)) (all_c (ok_iload dX12_orderFrom_186) (all_c (ok_stk (s_iadd dX12_orderFrom_188)) (all_c (ok_iald dX12_orderFrom_189) (all_c (ok_iast dX12_orderFrom_190) (all_c (ok_iinc dX12_orderFrom_191 (by first | decide | omega) (by first | decide | omega)) (all_c (ok_goto dX12_orderFrom_194 (by first | decide | omega)) (all_c (ok_iinc dX12_orderFrom_197 (by first | decide | omega) (by first | decide | omega)) (all_c (ok_goto dX12_orderFrom_200 (by first | decide | omega)) (all_c (ok_vret dX12_orderFrom_203) all_n))))))))))))))))))))))))))))))))))))))))))))))))))))))))))))))))))))))))))))))))))))))))))))))))))))))))))))))))) n (fun h => by first | rfl | cases h))
def fX12_orderFrom_n (kn : sKn) (n : Nat) : List Value → sW → Option sR := Nat.rec (motive := fun _ => List Value → sW → Option sR) f_none (fun _ g => fX12_orderFrom_g kn g) n
theorem mX12_orderFrom_n (kn : sKn) : ∀ n, mM kn yX12_orderFrom (Cond.code yX12_orderFrom cX12_orderFrom 8 none :: wsL_law) (n * 10) true (fX12_orderFrom_n kn n) := by
  intro n
  induction n with
  | zero => exact m_none
  | succ n ih =>
    have h := mX12_orderFrom_g kn ih
    rw [Nat.succ_mul]
    exact h
def fX12_orderFrom (kn : sKn) : List Value → sW → Option sR := fX12_orderFrom_n kn 8
theorem mX12_orderFrom (kn : sKn) : mM kn yX12_orderFrom (Cond.code yX12_orderFrom cX12_orderFrom 8 none :: wsL_law) 80 true (fX12_orderFrom kn) := mX12_orderFrom_n kn 8
theorem dX12_order_0 : decode cX12_order 0 = .ok (.aload_n 0, 1) := by decide +kernel
theorem dX12_order_1 : decode cX12_order 1 = .ok (.iconst 0, 1) := by decide +kernel
theorem dX12_order_2 : decode cX12_order 2 = .ok (.putfield 1, 3) := by decide +kernel
theorem dX12_order_5 : decode cX12_order 5 = .ok (.iconst 1, 1) := by decide +kernel
theorem dX12_order_6 : decode cX12_order 6 = .ok (.aload_n 0, 1) := by decide +kernel
theorem dX12_order_7 : decode cX12_order 7 = .ok (.getfield 98, 3) := by decide +kernel
theorem dX12_order_10 : decode cX12_order 10 = .ok (.iconst 2, 1) := by decide +kernel
theorem dX12_order_11 : decode cX12_order 11 = .ok (.iaload, 1) := by decide +kernel
theorem dX12_order_12 : decode cX12_order 12 = .ok (.ishl, 1) := by decide +kernel
theorem dX12_order_13 : decode cX12_order 13 = .ok (.iconst 1, 1) := by decide +kernel
theorem dX12_order_14 : decode cX12_order 14 = .ok (.isub, 1) := by decide +kernel
theorem dX12_order_15 : decode cX12_order 15 = .ok (.aload_n 0, 1) := by decide +kernel
theorem dX12_order_16 : decode cX12_order 16 = .ok (.getfield 98, 3) := by decide +kernel
theorem dX12_order_19 : decode cX12_order 19 = .ok (.bipush 96, 2) := by decide +kernel
theorem dX12_order_21 : decode cX12_order 21 = .ok (.iaload, 1) := by decide +kernel
theorem dX12_order_22 : decode cX12_order 22 = .ok (.iconst (-1), 1) := by decide +kernel
theorem dX12_order_23 : decode cX12_order 23 = .ok (.ixor, 1) := by decide +kernel
theorem dX12_order_24 : decode cX12_order 24 = .ok (.iand, 1) := by decide +kernel
theorem dX12_order_25 : decode cX12_order 25 = .ok (.istore_n 1, 1) := by decide +kernel
theorem dX12_order_26 : decode cX12_order 26 = .ok (.aload_n 0, 1) := by decide +kernel
theorem dX12_order_27 : decode cX12_order 27 = .ok (.iconst (-1), 1) := by decide +kernel
theorem dX12_order_28 : decode cX12_order 28 = .ok (.putfield 393, 3) := by decide +kernel
theorem dX12_order_31 : decode cX12_order 31 = .ok (.aload_n 0, 1) := by decide +kernel
theorem dX12_order_32 : decode cX12_order 32 = .ok (.iload_n 1, 1) := by decide +kernel
theorem dX12_order_33 : decode cX12_order 33 = .ok (.invokestatic 400, 3) := by decide +kernel
theorem dX12_order_36 : decode cX12_order 36 = .ok (.putfield 403, 3) := by decide +kernel
theorem dX12_order_39 : decode cX12_order 39 = .ok (.aload_n 0, 1) := by decide +kernel
theorem dX12_order_40 : decode cX12_order 40 = .ok (.iconst 0, 1) := by decide +kernel
theorem dX12_order_41 : decode cX12_order 41 = .ok (.aload_n 0, 1) := by decide +kernel
theorem dX12_order_42 : decode cX12_order 42 = .ok (.getfield 403, 3) := by decide +kernel
theorem dX12_order_45 : decode cX12_order 45 = .ok (.iload_n 1, 1) := by decide +kernel
theorem dX12_order_46 : decode cX12_order 46 = .ok (.iconst 0, 1) := by decide +kernel
theorem dX12_order_47 : decode cX12_order 47 = .ok (.invokevirtual 396, 3) := by decide +kernel
theorem dX12_order_50 : decode cX12_order 50 = .ok (.aload_n 0, 1) := by decide +kernel
theorem dX12_order_51 : decode cX12_order 51 = .ok (.getfield 393, 3) := by decide +kernel
theorem dX12_order_54 : decode cX12_order 54 = .ok (.ireturn, 1) := by decide +kernel
theorem okc_X12_bits {kn : sKn} {cc : ByteArray} {own : String} {nL : Nat} {D : Nat} {ret : Option FieldType} {ini : Bool} {pc index : Nat} (hD : 1 + 1 ≤ D) (hl : Cond.methodLink own index yX12_bits ∈ wsL_law) (hd : decode cc pc = .ok (.invokestatic index, 3)) : mOk kn cc own nL wsL_law D ret ini pc (a_callS false (fX12_bits kn) 1 (pc + 3)) := ok_callS (mX12_bits kn) (good_ws ws_good (fun _ h => h) kw1463) hD (by decide) hl kw1464 kw1072 ⟨by decide +kernel, by decide +kernel, by decide +kernel⟩ hd
theorem okc_X12_orderFrom {kn : sKn} {cc : ByteArray} {own : String} {nL : Nat} {D : Nat} {ret : Option FieldType} {ini : Bool} {pc index : Nat} (hD : 80 + 1 ≤ D) (hl : Cond.methodLink own index yX12_orderFrom ∈ wsL_law) (hd : decode cc pc = .ok (.invokevirtual index, 3)) : mOk kn cc own nL wsL_law D ret ini pc (a_callV true (fX12_orderFrom kn) 13 (4 + 1) (pc + 3)) := ok_callV (mX12_orderFrom kn) (good_ws ws_good (fun _ h => h) kw1461) hD (by decide) hl kw1459 kw1460 kw1072 ⟨by decide +kernel, by decide +kernel, by decide +kernel⟩ rfl hd
def tX12_order (kn : sKn) : List (Nat × sA) := [(0, a_aload 0 1), (1, a_stk (q_int 0) 2), (2, a_put 13 0 ckI 5), (5, a_stk (q_int 1) 6), (6, a_aload 0 7), (7, a_get 13 14 10), (10, a_stk (q_int 2) 11), (11, a_iald 12), (12, a_stk q_ishl 13), (13, a_stk (q_int 1) 14), (14, a_stk q_isub 15), (15, a_aload 0 16), (16, a_get 13 14 19), (19, a_stk (q_int 96) 21), (21, a_iald 22), (22, a_stk (q_int (-1)) 23), (23, a_stk q_ixor 24), (24, a_stk q_iand 25), (25, a_istore 1 26), (26, a_aload 0 27), (27, a_stk (q_int (-1)) 28), (28, a_put 13 44 ckI 31), (31, a_aload 0 32), (32, a_iload 1 33), (33, a_callS false (fX12_bits kn) 1 36), (36, a_put 13 43 ckI 39), (39, a_aload 0 40), (40, a_stk (q_int 0) 41), (41, a_aload 0 42), (42, a_get 13 43 45), (45, a_iload 1 46), (46, a_stk (q_int 0) 47), (47, a_callV true (fX12_orderFrom kn) 13 5 50), (50, a_aload 0 51), (51, a_get 13 44 54), (54, a_iret)]
def fX12_order (kn : sKn) : List Value → sW → Option sR := fW (tX12_order kn) 2
set_option maxRecDepth 100000 in
set_option maxHeartbeats 4000000 in
theorem mX12_order (kn : sKn) : mM kn yX12_order (Cond.code yX12_order cX12_order 2 (some .int) :: wsL_law) 81 false (fX12_order kn) := mM_W (fun n => mM_of (own := RX12) (ini := false) rfl (by decide +kernel) (by decide +kernel) (all_c (ok_aload_n dX12_order_0 rfl) (all_c (ok_stk (s_iconst dX12_order_1 (by decide))) (all_c (okp_X12_0 kw1114 dX12_order_2) (all_c (ok_stk (s_iconst dX12_order_5 (by decide))) (all_c (ok_aload_n dX12_order_6 rfl) (all_c (okg_X12_14 kw1069 dX12_order_7) (all_c (ok_stk (s_iconst dX12_order_10 (by decide))) (all_c (ok_iald dX12_order_11) (all_c (ok_stk (s_ishl dX12_order_12)) (all_c (ok_stk (s_iconst dX12_order_13 (by decide))) (all_c (ok_stk (s_isub dX12_order_14)) (all_c (ok_aload_n dX12_order_15 rfl) (all_c (okg_X12_14 kw1069 dX12_order_16) (all_c (ok_stk (s_bipush dX12_order_19 (by decide))) (all_c (ok_iald dX12_order_21) (all_c (ok_stk (s_iconst dX12_order_22 (by decide))) (all_c (ok_stk (s_ixor dX12_order_23)) (all_c (ok_stk (s_iand dX12_order_24)) (all_c (ok_istore_n dX12_order_25 rfl (by decide)) (all_c (ok_aload_n dX12_order_26 rfl) (all_c (ok_stk (s_iconst dX12_order_27 (by decide))) (all_c (okp_X12_44 kw1458 dX12_order_28) (all_c (ok_aload_n dX12_order_31 rfl) (all_c (ok_iload_n dX12_order_32 rfl) (all_c (okc_X12_bits (by decide) kw1465 dX12_order_33) (all_c (okp_X12_43 kw1466 dX12_order_36) (all_c (ok_aload_n dX12_order_39 rfl) (all_c (ok_stk (s_iconst dX12_order_40 (by decide))) (all_c (ok_aload_n dX12_order_41 rfl) (all_c (okg_X12_43 kw1466 dX12_order_42) (all_c (ok_iload_n dX12_order_45 rfl) (all_c (ok_stk (s_iconst dX12_order_46 (by decide))) (all_c (okc_X12_orderFrom (by decide) kw1462 dX12_order_47) (all_c (ok_aload_n dX12_order_50 rfl) (all_c (okg_X12_44 kw1458 dX12_order_51) (all_c (ok_iret dX12_order_54) all_n)))))))))))))))))))))))))))))))))))) n (fun h => by first | rfl | cases h))
theorem dX12_orderAt_0 : decode cX12_orderAt 0 = .ok (.aload_n 0, 1) := by decide +kernel
theorem dX12_orderAt_1 : decode cX12_orderAt 1 = .ok (.iconst 0, 1) := by decide +kernel
theorem dX12_orderAt_2 : decode cX12_orderAt 2 = .ok (.putfield 1, 3) := by decide +kernel
theorem dX12_orderAt_5 : decode cX12_orderAt 5 = .ok (.iload_n 1, 1) := by decide +kernel
theorem dX12_orderAt_6 : decode cX12_orderAt 6 = .ok (.iconst 0, 1) := by decide +kernel
theorem dX12_orderAt_7 : decode cX12_orderAt 7 = .ok (.aload_n 0, 1) := by decide +kernel
theorem dX12_orderAt_8 : decode cX12_orderAt 8 = .ok (.getfield 403, 3) := by decide +kernel
theorem dX12_orderAt_11 : decode cX12_orderAt 11 = .ok (.iconst 1, 1) := by decide +kernel
theorem dX12_orderAt_12 : decode cX12_orderAt 12 = .ok (.isub, 1) := by decide +kernel
theorem dX12_orderAt_13 : decode cX12_orderAt 13 = .ok (.invokestatic 75, 3) := by decide +kernel
theorem dX12_orderAt_16 : decode cX12_orderAt 16 = .ok (.ifCond .eq 12, 3) := by decide +kernel
theorem dX12_orderAt_19 : decode cX12_orderAt 19 = .ok (.aload_n 0, 1) := by decide +kernel
theorem dX12_orderAt_20 : decode cX12_orderAt 20 = .ok (.getfield 157, 3) := by decide +kernel
theorem dX12_orderAt_23 : decode cX12_orderAt 23 = .ok (.iload_n 1, 1) := by decide +kernel
theorem dX12_orderAt_24 : decode cX12_orderAt 24 = .ok (.iaload, 1) := by decide +kernel
theorem dX12_orderAt_25 : decode cX12_orderAt 25 = .ok (.goto 4, 3) := by decide +kernel
theorem dX12_orderAt_28 : decode cX12_orderAt 28 = .ok (.iconst (-1), 1) := by decide +kernel
theorem dX12_orderAt_29 : decode cX12_orderAt 29 = .ok (.ireturn, 1) := by decide +kernel
def tX12_orderAt (kn : sKn) : List (Nat × sA) := [(0, a_aload 0 1), (1, a_stk (q_int 0) 2), (2, a_put 13 0 ckI 5), (5, a_iload 1 6), (6, a_stk (q_int 0) 7), (7, a_aload 0 8), (8, a_get 13 43 11), (11, a_stk (q_int 1) 12), (12, a_stk q_isub 13), (13, a_callS false (fX12_isIn kn) 3 16), (16, a_if kn b_eq 0 28 19), (19, a_aload 0 20), (20, a_get 13 41 23), (23, a_iload 1 24), (24, a_iald 25), (25, a_goto 29), (28, a_stk (q_int (-1)) 29), (29, a_iret)]
def fX12_orderAt (kn : sKn) : List Value → sW → Option sR := fW (tX12_orderAt kn) 2
set_option maxRecDepth 100000 in
set_option maxHeartbeats 4000000 in
theorem mX12_orderAt (kn : sKn) : mM kn yX12_orderAt (Cond.code yX12_orderAt cX12_orderAt 2 (some .int) :: wsL_law) 2 false (fX12_orderAt kn) := mM_W (fun n => mM_of (own := RX12) (ini := false) rfl (by decide +kernel) (by decide +kernel) (all_c (ok_aload_n dX12_orderAt_0 rfl) (all_c (ok_stk (s_iconst dX12_orderAt_1 (by decide))) (all_c (okp_X12_0 kw1114 dX12_orderAt_2) (all_c (ok_iload_n dX12_orderAt_5 rfl) (all_c (ok_stk (s_iconst dX12_orderAt_6 (by decide))) (all_c (ok_aload_n dX12_orderAt_7 rfl) (all_c (okg_X12_43 kw1466 dX12_orderAt_8) (all_c (ok_stk (s_iconst dX12_orderAt_11 (by decide))) (all_c (ok_stk (s_isub dX12_orderAt_12)) (all_c (okc_X12_isIn (by decide) kw1126 dX12_orderAt_13) (all_c (ok_if_eq dX12_orderAt_16 (by decide)) (all_c (ok_aload_n dX12_orderAt_19 rfl) (all_c (okg_X12_41 kw1447 dX12_orderAt_20) (all_c (ok_iload_n dX12_orderAt_23 rfl) (all_c (ok_iald dX12_orderAt_24) (all_c (ok_goto dX12_orderAt_25 (by decide)) (all_c (ok_stk (s_iconst dX12_orderAt_28 (by decide))) (all_c (ok_iret dX12_orderAt_29) all_n)))))))))))))))))) n (fun h => by first | rfl | cases h))
theorem dX12_path_0 : decode cX12_path 0 = .ok (.aload_n 0, 1) := by decide +kernel
theorem dX12_path_1 : decode cX12_path 1 = .ok (.iconst 0, 1) := by decide +kernel
theorem dX12_path_2 : decode cX12_path 2 = .ok (.putfield 1, 3) := by decide +kernel
theorem dX12_path_5 : decode cX12_path 5 = .ok (.aload_n 0, 1) := by decide +kernel
theorem dX12_path_6 : decode cX12_path 6 = .ok (.iload_n 1, 1) := by decide +kernel
theorem dX12_path_7 : decode cX12_path 7 = .ok (.invokevirtual 295, 3) := by decide +kernel
theorem dX12_path_10 : decode cX12_path 10 = .ok (.ifCond .eq 28, 3) := by decide +kernel
theorem dX12_path_13 : decode cX12_path 13 = .ok (.aload_n 0, 1) := by decide +kernel
theorem dX12_path_14 : decode cX12_path 14 = .ok (.iload_n 2, 1) := by decide +kernel
theorem dX12_path_15 : decode cX12_path 15 = .ok (.invokevirtual 261, 3) := by decide +kernel
theorem dX12_path_18 : decode cX12_path 18 = .ok (.ifCond .eq 20, 3) := by decide +kernel
theorem dX12_path_21 : decode cX12_path 21 = .ok (.aload_n 0, 1) := by decide +kernel
theorem dX12_path_22 : decode cX12_path 22 = .ok (.iload_n 1, 1) := by decide +kernel
theorem dX12_path_23 : decode cX12_path 23 = .ok (.invokevirtual 322, 3) := by decide +kernel
theorem dX12_path_26 : decode cX12_path 26 = .ok (.ifCond .eq 12, 3) := by decide +kernel
theorem dX12_path_29 : decode cX12_path 29 = .ok (.aload_n 0, 1) := by decide +kernel
theorem dX12_path_30 : decode cX12_path 30 = .ok (.getfield 133, 3) := by decide +kernel
theorem dX12_path_33 : decode cX12_path 33 = .ok (.iload_n 2, 1) := by decide +kernel
theorem dX12_path_34 : decode cX12_path 34 = .ok (.iaload, 1) := by decide +kernel
theorem dX12_path_35 : decode cX12_path 35 = .ok (.goto 4, 3) := by decide +kernel
theorem dX12_path_38 : decode cX12_path 38 = .ok (.iconst (-1), 1) := by decide +kernel
theorem dX12_path_39 : decode cX12_path 39 = .ok (.ireturn, 1) := by decide +kernel
theorem okc_X12_layPath {kn : sKn} {cc : ByteArray} {own : String} {nL : Nat} {D : Nat} {ret : Option FieldType} {ini : Bool} {pc index : Nat} (hD : 8 + 1 ≤ D) (hl : Cond.methodLink own index yX12_layPath ∈ wsL_law) (hd : decode cc pc = .ok (.invokevirtual index, 3)) : mOk kn cc own nL wsL_law D ret ini pc (a_callV false (fX12_layPath kn) 13 (1 + 1) (pc + 3)) := ok_callV (mX12_layPath kn) (good_ws ws_good (fun _ h => h) kw1467) hD (by decide) hl kw1468 kw1469 kw1072 ⟨by decide +kernel, by decide +kernel, by decide +kernel⟩ rfl hd
def tX12_path (kn : sKn) : List (Nat × sA) := [(0, a_aload 0 1), (1, a_stk (q_int 0) 2), (2, a_put 13 0 ckI 5), (5, a_aload 0 6), (6, a_iload 1 7), (7, a_callV false (fX12_isLoad kn) 13 2 10), (10, a_if kn b_eq 0 38 13), (13, a_aload 0 14), (14, a_iload 2 15), (15, a_callV false (fX12_isRow kn) 13 2 18), (18, a_if kn b_eq 0 38 21), (21, a_aload 0 22), (22, a_iload 1 23), (23, a_callV false (fX12_layPath kn) 13 2 26), (26, a_if kn b_eq 0 38 29), (29, a_aload 0 30), (30, a_get 13 30 33), (33, a_iload 2 34), (34, a_iald 35), (35, a_goto 39), (38, a_stk (q_int (-1)) 39), (39, a_iret)]
def fX12_path (kn : sKn) : List Value → sW → Option sR := fW (tX12_path kn) 3
set_option maxRecDepth 100000 in
set_option maxHeartbeats 4000000 in
theorem mX12_path (kn : sKn) : mM kn yX12_path (Cond.code yX12_path cX12_path 3 (some .int) :: wsL_law) 9 false (fX12_path kn) := mM_W (fun n => mM_of (own := RX12) (ini := false) rfl (by decide +kernel) (by decide +kernel) (all_c (ok_aload_n dX12_path_0 rfl) (all_c (ok_stk (s_iconst dX12_path_1 (by decide))) (all_c (okp_X12_0 kw1114 dX12_path_2) (all_c (ok_aload_n dX12_path_5 rfl) (all_c (ok_iload_n dX12_path_6 rfl) (all_c (okc_X12_isLoad (by decide) kw1142 dX12_path_7) (all_c (ok_if_eq dX12_path_10 (by decide)) (all_c (ok_aload_n dX12_path_13 rfl) (all_c (ok_iload_n dX12_path_14 rfl) (all_c (okc_X12_isRow (by decide) kw1299 dX12_path_15) (all_c (ok_if_eq dX12_path_18 (by decide)) (all_c (ok_aload_n dX12_path_21 rfl) (all_c (ok_iload_n dX12_path_22 rfl) (all_c (okc_X12_layPath (by decide) kw1470 dX12_path_23) (all_c (ok_if_eq dX12_path_26 (by decide)) (all_c (ok_aload_n dX12_path_29 rfl) (all_c (okg_X12_30 kw1445 dX12_path_30) (all_c (ok_iload_n dX12_path_33 rfl) (all_c (ok_iald dX12_path_34) (all_c (ok_goto dX12_path_35 (by decide)) (all_c (ok_stk (s_iconst dX12_path_38 (by decide))) (all_c (ok_iret dX12_path_39) all_n)))))))))))))))))))))) n (fun h => by first | rfl | cases h))
theorem dX12_plank_0 : decode cX12_plank 0 = .ok (.aload_n 0, 1) := by decide +kernel
theorem dX12_plank_1 : decode cX12_plank 1 = .ok (.iconst 0, 1) := by decide +kernel
theorem dX12_plank_2 : decode cX12_plank 2 = .ok (.putfield 1, 3) := by decide +kernel
theorem dX12_plank_5 : decode cX12_plank 5 = .ok (.aload_n 0, 1) := by decide +kernel
theorem dX12_plank_6 : decode cX12_plank 6 = .ok (.iload_n 1, 1) := by decide +kernel
theorem dX12_plank_7 : decode cX12_plank 7 = .ok (.iload_n 2, 1) := by decide +kernel
theorem dX12_plank_8 : decode cX12_plank 8 = .ok (.invokevirtual 289, 3) := by decide +kernel
theorem dX12_plank_11 : decode cX12_plank 11 = .ok (.ifCond .ne 8, 3) := by decide +kernel
theorem dX12_plank_14 : decode cX12_plank 14 = .ok (.aload_n 0, 1) := by decide +kernel
theorem dX12_plank_15 : decode cX12_plank 15 = .ok (.invokevirtual 280, 3) := by decide +kernel
theorem dX12_plank_18 : decode cX12_plank 18 = .ok (.ireturn, 1) := by decide +kernel
theorem dX12_plank_19 : decode cX12_plank 19 = .ok (.aload_n 0, 1) := by decide +kernel
theorem dX12_plank_20 : decode cX12_plank 20 = .ok (.invokevirtual 292, 3) := by decide +kernel
theorem dX12_plank_23 : decode cX12_plank 23 = .ok (.iconst 3, 1) := by decide +kernel
theorem dX12_plank_24 : decode cX12_plank 24 = .ok (.iload_n 1, 1) := by decide +kernel
theorem dX12_plank_25 : decode cX12_plank 25 = .ok (.imul, 1) := by decide +kernel
theorem dX12_plank_26 : decode cX12_plank 26 = .ok (.iload_n 2, 1) := by decide +kernel
theorem dX12_plank_27 : decode cX12_plank 27 = .ok (.iadd, 1) := by decide +kernel
theorem dX12_plank_28 : decode cX12_plank 28 = .ok (.istore 4, 2) := by decide +kernel
theorem dX12_plank_30 : decode cX12_plank 30 = .ok (.iload_n 3, 1) := by decide +kernel
theorem dX12_plank_31 : decode cX12_plank 31 = .ok (.tableswitch 55 0 2 #[25, 36, 43], 25) := by decide +kernel
theorem dX12_plank_56 : decode cX12_plank 56 = .ok (.aload_n 0, 1) := by decide +kernel
theorem dX12_plank_57 : decode cX12_plank 57 = .ok (.getfield 98, 3) := by decide +kernel
theorem dX12_plank_60 : decode cX12_plank 60 = .ok (.bipush 118, 2) := by decide +kernel
theorem dX12_plank_62 : decode cX12_plank 62 = .ok (.iload 4, 2) := by decide +kernel
theorem dX12_plank_64 : decode cX12_plank 64 = .ok (.iadd, 1) := by decide +kernel
theorem dX12_plank_65 : decode cX12_plank 65 = .ok (.iaload, 1) := by decide +kernel
theorem dX12_plank_66 : decode cX12_plank 66 = .ok (.ireturn, 1) := by decide +kernel
theorem dX12_plank_67 : decode cX12_plank 67 = .ok (.aload_n 0, 1) := by decide +kernel
theorem dX12_plank_68 : decode cX12_plank 68 = .ok (.iload 4, 2) := by decide +kernel
theorem dX12_plank_70 : decode cX12_plank 70 = .ok (.invokevirtual 274, 3) := by decide +kernel
theorem dX12_plank_73 : decode cX12_plank 73 = .ok (.ireturn, 1) := by decide +kernel
theorem dX12_plank_74 : decode cX12_plank 74 = .ok (.aload_n 0, 1) := by decide +kernel
theorem dX12_plank_75 : decode cX12_plank 75 = .ok (.getfield 98, 3) := by decide +kernel
theorem dX12_plank_78 : decode cX12_plank 78 = .ok (.sipush 154, 3) := by decide +kernel
theorem dX12_plank_81 : decode cX12_plank 81 = .ok (.iload 4, 2) := by decide +kernel
theorem dX12_plank_83 : decode cX12_plank 83 = .ok (.iadd, 1) := by decide +kernel
theorem dX12_plank_84 : decode cX12_plank 84 = .ok (.iaload, 1) := by decide +kernel
theorem dX12_plank_85 : decode cX12_plank 85 = .ok (.ireturn, 1) := by decide +kernel
theorem dX12_plank_86 : decode cX12_plank 86 = .ok (.aload_n 0, 1) := by decide +kernel
theorem dX12_plank_87 : decode cX12_plank 87 = .ok (.invokevirtual 280, 3) := by decide +kernel
theorem dX12_plank_90 : decode cX12_plank 90 = .ok (.ireturn, 1) := by decide +kernel
def tX12_plank (kn : sKn) : List (Nat × sA) := [(0, a_aload 0 1), (1, a_stk (q_int 0) 2), (2, a_put 13 0 ckI 5), (5, a_aload 0 6), (6, a_iload 1 7), (7, a_iload 2 8), (8, a_callV false (fX12_isPlace kn) 13 3 11), (11, a_if kn b_ne 1 19 14), (14, a_aload 0 15), (15, a_callV false (fX12_refuse kn) 13 1 18), (18, a_iret), (19, a_aload 0 20), (20, a_callV true (fX12_layWhose kn) 13 1 23), (23, a_stk (q_int 3) 24), (24, a_iload 1 25), (25, a_stk q_imul 26), (26, a_iload 2 27), (27, a_stk q_iadd 28), (28, a_istore 4 30), (30, a_iload 3 31), (31, a_table kn 0 2 [56, 67, 74] 86), (56, a_aload 0 57), (57, a_get 13 14 60), (60, a_stk (q_int 118) 62), (62, a_iload 4 64), (64, a_stk q_iadd 65), (65, a_iald 66), (66, a_iret), (67, a_aload 0 68), (68, a_iload 4 70), (70, a_callV false (fX12_bearsAt kn) 13 2 73), (73, a_iret), (74, a_aload 0 75), (75, a_get 13 14 78), (78, a_stk (q_int 154) 81), (81, a_iload 4 83), (83, a_stk q_iadd 84), (84, a_iald 85), (85, a_iret), (86, a_aload 0 87), (87, a_callV false (fX12_refuse kn) 13 1 90), (90, a_iret)]
def fX12_plank (kn : sKn) : List Value → sW → Option sR := fW (tX12_plank kn) 5
set_option maxRecDepth 100000 in
set_option maxHeartbeats 4000000 in
theorem mX12_plank (kn : sKn) : mM kn yX12_plank (Cond.code yX12_plank cX12_plank 5 (some .int) :: wsL_law) 4 false (fX12_plank kn) := mM_W (fun n => mM_of (own := RX12) (ini := false) rfl (by decide +kernel) (by decide +kernel) (all_c (ok_aload_n dX12_plank_0 rfl) (all_c (ok_stk (s_iconst dX12_plank_1 (by decide))) (all_c (okp_X12_0 kw1114 dX12_plank_2) (all_c (ok_aload_n dX12_plank_5 rfl) (all_c (ok_iload_n dX12_plank_6 rfl) (all_c (ok_iload_n dX12_plank_7 rfl) (all_c (okc_X12_isPlace (by decide) kw1398 dX12_plank_8) (all_c (ok_if_ne dX12_plank_11 (by decide)) (all_c (ok_aload_n dX12_plank_14 rfl) (all_c (okc_X12_refuse (by decide) kw1457 dX12_plank_15) (all_c (ok_iret dX12_plank_18) (all_c (ok_aload_n dX12_plank_19 rfl) (all_c (okc_X12_layWhose (by decide) kw1118 dX12_plank_20) (all_c (ok_stk (s_iconst dX12_plank_23 (by decide))) (all_c (ok_iload_n dX12_plank_24 rfl) (all_c (ok_stk (s_imul dX12_plank_25)) (all_c (ok_iload_n dX12_plank_26 rfl) (all_c (ok_stk (s_iadd dX12_plank_27)) (all_c (ok_istore dX12_plank_28 (by decide)) (all_c (ok_iload_n dX12_plank_30 rfl) (all_c (ok_table dX12_plank_31 (by decide) (by decide) (by decide) (by decide)) (all_c (ok_aload_n dX12_plank_56 rfl) (all_c (okg_X12_14 kw1069 dX12_plank_57) (all_c (ok_stk (s_bipush dX12_plank_60 (by decide))) (all_c (ok_iload dX12_plank_62) (all_c (ok_stk (s_iadd dX12_plank_64)) (all_c (ok_iald dX12_plank_65) (all_c (ok_iret dX12_plank_66) (all_c (ok_aload_n dX12_plank_67 rfl) (all_c (ok_iload dX12_plank_68) (all_c (okc_X12_bearsAt (by decide) kw1085 dX12_plank_70) (all_c (ok_iret dX12_plank_73) (all_c (ok_aload_n dX12_plank_74 rfl) (all_c (okg_X12_14 kw1069 dX12_plank_75) (all_c (ok_stk (s_sipush dX12_plank_78 (by decide))) (all_c (ok_iload dX12_plank_81) (all_c (ok_stk (s_iadd dX12_plank_83)) (all_c (ok_iald dX12_plank_84) (all_c (ok_iret dX12_plank_85) (all_c (ok_aload_n dX12_plank_86 rfl) (all_c (okc_X12_refuse (by decide) kw1457 dX12_plank_87) (all_c (ok_iret dX12_plank_90) all_n)))))))))))))))))))))))))))))))))))))))))) n (fun h => by first | rfl | cases h))
theorem dX12_write_0 : decode cX12_write 0 = .ok (.aload_n 0, 1) := by decide +kernel
theorem dX12_write_1 : decode cX12_write 1 = .ok (.getfield 172, 3) := by decide +kernel
theorem dX12_write_4 : decode cX12_write 4 = .ok (.aload_n 0, 1) := by decide +kernel
theorem dX12_write_5 : decode cX12_write 5 = .ok (.getfield 418, 3) := by decide +kernel
theorem dX12_write_8 : decode cX12_write 8 = .ok (.iload_n 1, 1) := by decide +kernel
theorem dX12_write_9 : decode cX12_write 9 = .ok (.iastore, 1) := by decide +kernel
theorem dX12_write_10 : decode cX12_write 10 = .ok (.aload_n 0, 1) := by decide +kernel
theorem dX12_write_11 : decode cX12_write 11 = .ok (.dup, 1) := by decide +kernel
theorem dX12_write_12 : decode cX12_write 12 = .ok (.getfield 418, 3) := by decide +kernel
theorem dX12_write_15 : decode cX12_write 15 = .ok (.iconst 1, 1) := by decide +kernel
theorem dX12_write_16 : decode cX12_write 16 = .ok (.iadd, 1) := by decide +kernel
theorem dX12_write_17 : decode cX12_write 17 = .ok (.putfield 418, 3) := by decide +kernel
theorem dX12_write_20 : decode cX12_write 20 = .ok (.return_, 1) := by decide +kernel
def tX12_write (kn : sKn) : List (Nat × sA) := [(0, a_aload 0 1), (1, a_get 13 48 4), (4, a_aload 0 5), (5, a_get 13 49 8), (8, a_iload 1 9), (9, a_iast 10), (10, a_aload 0 11), (11, a_stk q_dup 12), (12, a_get 13 49 15), (15, a_stk (q_int 1) 16), (16, a_stk q_iadd 17), (17, a_put 13 49 ckI 20), (20, a_vret)]
def fX12_write (kn : sKn) : List Value → sW → Option sR := fW (tX12_write kn) 2
set_option maxRecDepth 100000 in
set_option maxHeartbeats 4000000 in
theorem mX12_write (kn : sKn) : mM kn yX12_write (Cond.code yX12_write cX12_write 2 none :: wsL_law) 1 true (fX12_write kn) := mM_W (fun n => mM_of (own := RX12) (ini := false) rfl (by decide +kernel) (by decide +kernel) (all_c (ok_aload_n dX12_write_0 rfl) (all_c (okg_X12_48 kw1400 dX12_write_1) (all_c (ok_aload_n dX12_write_4 rfl) (all_c (okg_X12_49 kw1399 dX12_write_5) (all_c (ok_iload_n dX12_write_8 rfl) (all_c (ok_iast dX12_write_9) (all_c (ok_aload_n dX12_write_10 rfl) (all_c (ok_stk (s_dup dX12_write_11)) (all_c (okg_X12_49 kw1399 dX12_write_12) (all_c (ok_stk (s_iconst dX12_write_15 (by decide))) (all_c (ok_stk (s_iadd dX12_write_16)) (all_c (okp_X12_49 kw1399 dX12_write_17) (all_c (ok_vret dX12_write_20) all_n))))))))))))) n (fun h => by first | rfl | cases h))
theorem dX12_writeWord_0 : decode cX12_writeWord 0 = .ok (.lload_n 1, 1) := by decide +kernel
theorem dX12_writeWord_1 : decode cX12_writeWord 1 = .ok (.ldc2_w 54, 3) := by decide +kernel
theorem dX12_writeWord_4 : decode cX12_writeWord 4 = .ok (.lcmp, 1) := by decide +kernel
theorem dX12_writeWord_5 : decode cX12_writeWord 5 = .ok (.ifCond .lt 12, 3) := by decide +kernel
theorem dX12_writeWord_8 : decode cX12_writeWord 8 = .ok (.aload_n 0, 1) := by decide +kernel
theorem dX12_writeWord_9 : decode cX12_writeWord 9 = .ok (.lload_n 1, 1) := by decide +kernel
theorem dX12_writeWord_10 : decode cX12_writeWord 10 = .ok (.ldc2_w 54, 3) := by decide +kernel
theorem dX12_writeWord_13 : decode cX12_writeWord 13 = .ok (.ldiv, 1) := by decide +kernel
theorem dX12_writeWord_14 : decode cX12_writeWord 14 = .ok (.invokevirtual 421, 3) := by decide +kernel
theorem dX12_writeWord_17 : decode cX12_writeWord 17 = .ok (.aload_n 0, 1) := by decide +kernel
theorem dX12_writeWord_18 : decode cX12_writeWord 18 = .ok (.bipush 96, 2) := by decide +kernel
theorem dX12_writeWord_20 : decode cX12_writeWord 20 = .ok (.lload_n 1, 1) := by decide +kernel
theorem dX12_writeWord_21 : decode cX12_writeWord 21 = .ok (.ldc2_w 54, 3) := by decide +kernel
theorem dX12_writeWord_24 : decode cX12_writeWord 24 = .ok (.lrem, 1) := by decide +kernel
theorem dX12_writeWord_25 : decode cX12_writeWord 25 = .ok (.l2i, 1) := by decide +kernel
theorem dX12_writeWord_26 : decode cX12_writeWord 26 = .ok (.iadd, 1) := by decide +kernel
theorem dX12_writeWord_27 : decode cX12_writeWord 27 = .ok (.invokevirtual 425, 3) := by decide +kernel
theorem dX12_writeWord_30 : decode cX12_writeWord 30 = .ok (.return_, 1) := by decide +kernel
theorem okc_X12_write {kn : sKn} {cc : ByteArray} {own : String} {nL : Nat} {D : Nat} {ret : Option FieldType} {ini : Bool} {pc index : Nat} (hD : 1 + 1 ≤ D) (hl : Cond.methodLink own index yX12_write ∈ wsL_law) (hd : decode cc pc = .ok (.invokevirtual index, 3)) : mOk kn cc own nL wsL_law D ret ini pc (a_callV true (fX12_write kn) 13 (1 + 1) (pc + 3)) := ok_callV (mX12_write kn) (good_ws ws_good (fun _ h => h) kw1475) hD (by decide) hl kw1476 kw1477 kw1072 ⟨by decide +kernel, by decide +kernel, by decide +kernel⟩ rfl hd
def tX12_writeWord_g (kn : sKn) (g : List Value → sW → Option sR) : List (Nat × sA) := [(0, a_lload 1 1), (1, a_stk (q_long (27)) 4), (4, a_stk q_lcmp 5), (5, a_if kn b_lt 2 17 8), (8, a_aload 0 9), (9, a_lload 1 10), (10, a_stk (q_long (27)) 13), (13, a_stk q_ldiv 14), (14, a_callV true g 13 2 17), (17, a_aload 0 18), (18, a_stk (q_int 96) 20), (20, a_lload 1 21), (21, a_stk (q_long (27)) 24), (24, a_stk q_lrem 25), (25, a_stk q_l2i 26), (26, a_stk q_iadd 27), (27, a_callV true (fX12_write kn) 13 2 30), (30, a_vret)]
def fX12_writeWord_g (kn : sKn) (g : List Value → sW → Option sR) : List Value → sW → Option sR := fW (tX12_writeWord_g kn g) 3
set_option maxRecDepth 100000 in
set_option maxHeartbeats 4000000 in
theorem mX12_writeWord_g (kn : sKn) {g : List Value → sW → Option sR} {Dg : Nat} (hg : mM kn yX12_writeWord (Cond.code yX12_writeWord cX12_writeWord 3 none :: wsL_law) Dg true g) : mM kn yX12_writeWord (Cond.code yX12_writeWord cX12_writeWord 3 none :: wsL_law) (Dg + 2) true (fX12_writeWord_g kn g) := mM_W (fun n => mM_of (own := RX12) (ini := false) rfl (by decide +kernel) (by decide +kernel) (all_c (ok_lload_n dX12_writeWord_0 rfl) (all_c (ok_ldc2 kw1169 dX12_writeWord_1) (all_c (ok_stk (s_lcmp dX12_writeWord_4)) (all_c (ok_if_lt dX12_writeWord_5 (by first | decide | omega)) (all_c (ok_aload_n dX12_writeWord_8 rfl) (all_c (ok_lload_n dX12_writeWord_9 rfl) (all_c (ok_ldc2 kw1169 dX12_writeWord_10) (all_c (ok_stk (s_ldiv dX12_writeWord_13)) (all_c (ok_callV hg (good_ws ws_good (fun _ h => h) kw1473) (by first | decide | omega) (by first | decide | omega) kw1474 kw1471 kw1472 kw1072 ⟨by decide +kernel, by decide +kernel, by decide +kernel⟩ rfl dX12_writeWord_14) (all_c (ok_aload_n dX12_writeWord_17 rfl) (all_c (ok_stk (s_bipush dX12_writeWord_18 (by first | decide | omega))) (all_c (ok_lload_n dX12_writeWord_20 rfl) (all_c (ok_ldc2 kw1169 dX12_writeWord_21) (all_c (ok_stk (s_lrem dX12_writeWord_24)) (all_c (ok_stk (s_l2i dX12_writeWord_25)) (all_c (ok_stk (s_iadd dX12_writeWord_26)) (all_c (okc_X12_write (by first | decide | omega) kw1478 dX12_writeWord_27) (all_c (ok_vret dX12_writeWord_30) all_n)))))))))))))))))) n (fun h => by first | rfl | cases h))
def fX12_writeWord_n (kn : sKn) (n : Nat) : List Value → sW → Option sR := Nat.rec (motive := fun _ => List Value → sW → Option sR) f_none (fun _ g => fX12_writeWord_g kn g) n
theorem mX12_writeWord_n (kn : sKn) : ∀ n, mM kn yX12_writeWord (Cond.code yX12_writeWord cX12_writeWord 3 none :: wsL_law) (n * 2) true (fX12_writeWord_n kn n) := by
  intro n
  induction n with
  | zero => exact m_none
  | succ n ih =>
    have h := mX12_writeWord_g kn ih
    rw [Nat.succ_mul]
    exact h
def fX12_writeWord (kn : sKn) : List Value → sW → Option sR := fX12_writeWord_n kn 15
theorem mX12_writeWord (kn : sKn) : mM kn yX12_writeWord (Cond.code yX12_writeWord cX12_writeWord 3 none :: wsL_law) 30 true (fX12_writeWord kn) := mX12_writeWord_n kn 15
theorem dX12_plate_0 : decode cX12_plate 0 = .ok (.aload_n 0, 1) := by decide +kernel
theorem dX12_plate_1 : decode cX12_plate 1 = .ok (.iconst 0, 1) := by decide +kernel
theorem dX12_plate_2 : decode cX12_plate 2 = .ok (.putfield 1, 3) := by decide +kernel
theorem dX12_plate_5 : decode cX12_plate 5 = .ok (.aload_n 0, 1) := by decide +kernel
theorem dX12_plate_6 : decode cX12_plate 6 = .ok (.iload_n 1, 1) := by decide +kernel
theorem dX12_plate_7 : decode cX12_plate 7 = .ok (.invokevirtual 261, 3) := by decide +kernel
theorem dX12_plate_10 : decode cX12_plate 10 = .ok (.ifCond .ne 5, 3) := by decide +kernel
theorem dX12_plate_13 : decode cX12_plate 13 = .ok (.iconst (-1), 1) := by decide +kernel
theorem dX12_plate_14 : decode cX12_plate 14 = .ok (.ireturn, 1) := by decide +kernel
theorem dX12_plate_15 : decode cX12_plate 15 = .ok (.aload_n 0, 1) := by decide +kernel
theorem dX12_plate_16 : decode cX12_plate 16 = .ok (.iconst 0, 1) := by decide +kernel
theorem dX12_plate_17 : decode cX12_plate 17 = .ok (.putfield 418, 3) := by decide +kernel
theorem dX12_plate_20 : decode cX12_plate 20 = .ok (.iconst 0, 1) := by decide +kernel
theorem dX12_plate_21 : decode cX12_plate 21 = .ok (.istore_n 2, 1) := by decide +kernel
theorem dX12_plate_22 : decode cX12_plate 22 = .ok (.iload_n 2, 1) := by decide +kernel
theorem dX12_plate_23 : decode cX12_plate 23 = .ok (.iconst 3, 1) := by decide +kernel
theorem dX12_plate_24 : decode cX12_plate 24 = .ok (.if_icmp .ge 64, 3) := by decide +kernel
theorem dX12_plate_27 : decode cX12_plate 27 = .ok (.iload_n 2, 1) := by decide +kernel
theorem dX12_plate_28 : decode cX12_plate 28 = .ok (.ifCond .le 9, 3) := by decide +kernel
theorem dX12_plate_31 : decode cX12_plate 31 = .ok (.aload_n 0, 1) := by decide +kernel
theorem dX12_plate_32 : decode cX12_plate 32 = .ok (.bipush 45, 2) := by decide +kernel
theorem dX12_plate_34 : decode cX12_plate 34 = .ok (.invokevirtual 425, 3) := by decide +kernel
theorem dX12_plate_37 : decode cX12_plate 37 = .ok (.aload_n 0, 1) := by decide +kernel
theorem dX12_plate_38 : decode cX12_plate 38 = .ok (.getfield 98, 3) := by decide +kernel
theorem dX12_plate_41 : decode cX12_plate 41 = .ok (.bipush 118, 2) := by decide +kernel
theorem dX12_plate_43 : decode cX12_plate 43 = .ok (.iconst 3, 1) := by decide +kernel
theorem dX12_plate_44 : decode cX12_plate 44 = .ok (.iload_n 1, 1) := by decide +kernel
theorem dX12_plate_45 : decode cX12_plate 45 = .ok (.imul, 1) := by decide +kernel
theorem dX12_plate_46 : decode cX12_plate 46 = .ok (.iadd, 1) := by decide +kernel
theorem dX12_plate_47 : decode cX12_plate 47 = .ok (.iload_n 2, 1) := by decide +kernel
theorem dX12_plate_48 : decode cX12_plate 48 = .ok (.iadd, 1) := by decide +kernel
theorem dX12_plate_49 : decode cX12_plate 49 = .ok (.iaload, 1) := by decide +kernel
theorem dX12_plate_50 : decode cX12_plate 50 = .ok (.istore_n 3, 1) := by decide +kernel
theorem dX12_plate_51 : decode cX12_plate 51 = .ok (.aload_n 0, 1) := by decide +kernel
theorem dX12_plate_52 : decode cX12_plate 52 = .ok (.iload_n 3, 1) := by decide +kernel
theorem dX12_plate_53 : decode cX12_plate 53 = .ok (.iconst (-1), 1) := by decide +kernel
theorem dX12_plate_54 : decode cX12_plate 54 = .ok (.if_icmp .ne 19, 3) := by decide +kernel
theorem dX12_plate_57 : decode cX12_plate 57 = .ok (.bipush 103, 2) := by decide +kernel
theorem dX12_plate_59 : decode cX12_plate 59 = .ok (.bipush 97, 2) := by decide +kernel
theorem dX12_plate_61 : decode cX12_plate 61 = .ok (.bipush 112, 2) := by decide +kernel
theorem dX12_plate_63 : decode cX12_plate 63 = .ok (.iconst 0, 1) := by decide +kernel
theorem dX12_plate_64 : decode cX12_plate 64 = .ok (.iconst 0, 1) := by decide +kernel
theorem dX12_plate_65 : decode cX12_plate 65 = .ok (.iconst 0, 1) := by decide +kernel
theorem dX12_plate_66 : decode cX12_plate 66 = .ok (.iconst 0, 1) := by decide +kernel
theorem dX12_plate_67 : decode cX12_plate 67 = .ok (.invokestatic 58, 3) := by decide +kernel
theorem dX12_plate_70 : decode cX12_plate 70 = .ok (.goto 9, 3) := by decide +kernel
theorem dX12_plate_73 : decode cX12_plate 73 = .ok (.aload_n 0, 1) := by decide +kernel
theorem dX12_plate_74 : decode cX12_plate 74 = .ok (.getfield 113, 3) := by decide +kernel
theorem dX12_plate_77 : decode cX12_plate 77 = .ok (.iload_n 3, 1) := by decide +kernel
theorem dX12_plate_78 : decode cX12_plate 78 = .ok (.laload, 1) := by decide +kernel
theorem dX12_plate_79 : decode cX12_plate 79 = .ok (.invokevirtual 421, 3) := by decide +kernel
theorem dX12_plate_82 : decode cX12_plate 82 = .ok (.iinc 2 1, 3) := by decide +kernel
theorem dX12_plate_85 : decode cX12_plate 85 = .ok (.goto (-63), 3) := by decide +kernel
theorem dX12_plate_88 : decode cX12_plate 88 = .ok (.aload_n 0, 1) := by decide +kernel
theorem dX12_plate_89 : decode cX12_plate 89 = .ok (.getfield 418, 3) := by decide +kernel
theorem dX12_plate_92 : decode cX12_plate 92 = .ok (.ireturn, 1) := by decide +kernel
theorem okc_X12_writeWord {kn : sKn} {cc : ByteArray} {own : String} {nL : Nat} {D : Nat} {ret : Option FieldType} {ini : Bool} {pc index : Nat} (hD : 30 + 1 ≤ D) (hl : Cond.methodLink own index yX12_writeWord ∈ wsL_law) (hd : decode cc pc = .ok (.invokevirtual index, 3)) : mOk kn cc own nL wsL_law D ret ini pc (a_callV true (fX12_writeWord kn) 13 (1 + 1) (pc + 3)) := ok_callV (mX12_writeWord kn) (good_ws ws_good (fun _ h => h) kw1473) hD (by decide) hl kw1471 kw1472 kw1072 ⟨by decide +kernel, by decide +kernel, by decide +kernel⟩ rfl hd
def tX12_plate (kn : sKn) : List (Nat × sA) := [(0, a_aload 0 1), (1, a_stk (q_int 0) 2), (2, a_put 13 0 ckI 5), (5, a_aload 0 6), (6, a_iload 1 7), (7, a_callV false (fX12_isRow kn) 13 2 10), (10, a_if kn b_ne 1 15 13), (13, a_stk (q_int (-1)) 14), (14, a_iret), (15, a_aload 0 16), (16, a_stk (q_int 0) 17), (17, a_put 13 49 ckI 20), (20, a_stk (q_int 0) 21), (21, a_istore 2 22), (22, a_iload 2 23), (23, a_stk (q_int 3) 24), (24, a_icmp kn b_ge 3 88 27), (27, a_iload 2 28), (28, a_if kn b_le 5 37 31), (31, a_aload 0 32), (32, a_stk (q_int 45) 34), (34, a_callV true (fX12_write kn) 13 2 37), (37, a_aload 0 38), (38, a_get 13 14 41), (41, a_stk (q_int 118) 43), (43, a_stk (q_int 3) 44), (44, a_iload 1 45), (45, a_stk q_imul 46), (46, a_stk q_iadd 47), (47, a_iload 2 48), (48, a_stk q_iadd 49), (49, a_iald 50), (50, a_istore 3 51), (51, a_aload 0 52), (52, a_iload 3 53), (53, a_stk (q_int (-1)) 54), (54, a_icmp kn b_ne 1 73 57), (57, a_stk (q_int 103) 59), (59, a_stk (q_int 97) 61), (61, a_stk (q_int 112) 63), (63, a_stk (q_int 0) 64), (64, a_stk (q_int 0) 65), (65, a_stk (q_int 0) 66), (66, a_stk (q_int 0) 67), (67, a_callS false (fX12_spelt kn) 7 70), (70, a_goto 79), (73, a_aload 0 74), (74, a_get 13 19 77), (77, a_iload 3 78), (78, a_lald 79), (79, a_callV true (fX12_writeWord kn) 13 2 82), (82, a_iinc 2 1 85), (85, a_goto 22), (88, a_aload 0 89), (89, a_get 13 49 92), (92, a_iret)]
def fX12_plate (kn : sKn) : List Value → sW → Option sR := fW (tX12_plate kn) 4
set_option maxRecDepth 100000 in
set_option maxHeartbeats 4000000 in
theorem mX12_plate (kn : sKn) : mM kn yX12_plate (Cond.code yX12_plate cX12_plate 4 (some .int) :: wsL_law) 31 false (fX12_plate kn) := mM_W (fun n => mM_of (own := RX12) (ini := false) rfl (by decide +kernel) (by decide +kernel) (all_c (ok_aload_n dX12_plate_0 rfl) (all_c (ok_stk (s_iconst dX12_plate_1 (by decide))) (all_c (okp_X12_0 kw1114 dX12_plate_2) (all_c (ok_aload_n dX12_plate_5 rfl) (all_c (ok_iload_n dX12_plate_6 rfl) (all_c (okc_X12_isRow (by decide) kw1299 dX12_plate_7) (all_c (ok_if_ne dX12_plate_10 (by decide)) (all_c (ok_stk (s_iconst dX12_plate_13 (by decide))) (all_c (ok_iret dX12_plate_14) (all_c (ok_aload_n dX12_plate_15 rfl) (all_c (ok_stk (s_iconst dX12_plate_16 (by decide))) (all_c (okp_X12_49 kw1399 dX12_plate_17) (all_c (ok_stk (s_iconst dX12_plate_20 (by decide))) (all_c (ok_istore_n dX12_plate_21 rfl (by decide)) (all_c (ok_iload_n dX12_plate_22 rfl) (all_c (ok_stk (s_iconst dX12_plate_23 (by decide))) (all_c (ok_icmp_ge dX12_plate_24 (by decide)) (all_c (ok_iload_n dX12_plate_27 rfl) (all_c (ok_if_le dX12_plate_28 (by decide)) (all_c (ok_aload_n dX12_plate_31 rfl) (all_c (ok_stk (s_bipush dX12_plate_32 (by decide))) (all_c (okc_X12_write (by decide) kw1478 dX12_plate_34) (all_c (ok_aload_n dX12_plate_37 rfl) (all_c (okg_X12_14 kw1069 dX12_plate_38) (all_c (ok_stk (s_bipush dX12_plate_41 (by decide))) (all_c (ok_stk (s_iconst dX12_plate_43 (by decide))) (all_c (ok_iload_n dX12_plate_44 rfl) (all_c (ok_stk (s_imul dX12_plate_45)) (all_c (ok_stk (s_iadd dX12_plate_46)) (all_c (ok_iload_n dX12_plate_47 rfl) (all_c (ok_stk (s_iadd dX12_plate_48)) (all_c (ok_iald dX12_plate_49) (all_c (ok_istore_n dX12_plate_50 rfl (by decide)) (all_c (ok_aload_n dX12_plate_51 rfl) (all_c (ok_iload_n dX12_plate_52 rfl) (all_c (ok_stk (s_iconst dX12_plate_53 (by decide))) (all_c (ok_icmp_ne dX12_plate_54 (by decide)) (all_c (ok_stk (s_bipush dX12_plate_57 (by decide))) (all_c (ok_stk (s_bipush dX12_plate_59 (by decide))) (all_c (ok_stk (s_bipush dX12_plate_61 (by decide))) (all_c (ok_stk (s_iconst dX12_plate_63 (by decide))) (all_c (ok_stk (s_iconst dX12_plate_64 (by decide))) (all_c (ok_stk (s_iconst dX12_plate_65 (by decide))) (all_c (ok_stk (s_iconst dX12_plate_66 (by decide))) (all_c (okc_X12_spelt (by decide) kw1236 dX12_plate_67) (all_c (ok_goto dX12_plate_70 (by decide)) (all_c (ok_aload_n dX12_plate_73 rfl) (all_c (okg_X12_19 kw1261 dX12_plate_74) (all_c (ok_iload_n dX12_plate_77 rfl) (all_c (ok_lald dX12_plate_78) (all_c (okc_X12_writeWord (by decide) kw1474 dX12_plate_79) (all_c (ok_iinc dX12_plate_82 (by decide) (by decide)) (all_c (ok_goto dX12_plate_85 (by decide)) (all_c (ok_aload_n dX12_plate_88 rfl) (all_c (okg_X12_49 kw1399 dX12_plate_89) (all_c (ok_iret dX12_plate_92) all_n)))))))))))))))))))))))))))))))))))))))))))))))))))))))) n (fun h => by first | rfl | cases h))
theorem dX12_saysOne_0 : decode cX12_saysOne 0 = .ok (.iconst 4, 1) := by decide +kernel
theorem dX12_saysOne_1 : decode cX12_saysOne 1 = .ok (.aload_n 0, 1) := by decide +kernel
theorem dX12_saysOne_2 : decode cX12_saysOne 2 = .ok (.getfield 472, 3) := by decide +kernel
theorem dX12_saysOne_5 : decode cX12_saysOne 5 = .ok (.imul, 1) := by decide +kernel
theorem dX12_saysOne_6 : decode cX12_saysOne 6 = .ok (.istore 5, 2) := by decide +kernel
theorem dX12_saysOne_8 : decode cX12_saysOne 8 = .ok (.aload_n 0, 1) := by decide +kernel
theorem dX12_saysOne_9 : decode cX12_saysOne 9 = .ok (.getfield 181, 3) := by decide +kernel
theorem dX12_saysOne_12 : decode cX12_saysOne 12 = .ok (.iload 5, 2) := by decide +kernel
theorem dX12_saysOne_14 : decode cX12_saysOne 14 = .ok (.iload_n 1, 1) := by decide +kernel
theorem dX12_saysOne_15 : decode cX12_saysOne 15 = .ok (.iastore, 1) := by decide +kernel
theorem dX12_saysOne_16 : decode cX12_saysOne 16 = .ok (.aload_n 0, 1) := by decide +kernel
theorem dX12_saysOne_17 : decode cX12_saysOne 17 = .ok (.getfield 181, 3) := by decide +kernel
theorem dX12_saysOne_20 : decode cX12_saysOne 20 = .ok (.iload 5, 2) := by decide +kernel
theorem dX12_saysOne_22 : decode cX12_saysOne 22 = .ok (.iconst 1, 1) := by decide +kernel
theorem dX12_saysOne_23 : decode cX12_saysOne 23 = .ok (.iadd, 1) := by decide +kernel
theorem dX12_saysOne_24 : decode cX12_saysOne 24 = .ok (.iload_n 2, 1) := by decide +kernel
theorem dX12_saysOne_25 : decode cX12_saysOne 25 = .ok (.iastore, 1) := by decide +kernel
theorem dX12_saysOne_26 : decode cX12_saysOne 26 = .ok (.aload_n 0, 1) := by decide +kernel
theorem dX12_saysOne_27 : decode cX12_saysOne 27 = .ok (.getfield 181, 3) := by decide +kernel
theorem dX12_saysOne_30 : decode cX12_saysOne 30 = .ok (.iload 5, 2) := by decide +kernel
theorem dX12_saysOne_32 : decode cX12_saysOne 32 = .ok (.iconst 2, 1) := by decide +kernel
theorem dX12_saysOne_33 : decode cX12_saysOne 33 = .ok (.iadd, 1) := by decide +kernel
theorem dX12_saysOne_34 : decode cX12_saysOne 34 = .ok (.iload_n 3, 1) := by decide +kernel
theorem dX12_saysOne_35 : decode cX12_saysOne 35 = .ok (.iastore, 1) := by decide +kernel
theorem dX12_saysOne_36 : decode cX12_saysOne 36 = .ok (.aload_n 0, 1) := by decide +kernel
theorem dX12_saysOne_37 : decode cX12_saysOne 37 = .ok (.getfield 181, 3) := by decide +kernel
theorem dX12_saysOne_40 : decode cX12_saysOne 40 = .ok (.iload 5, 2) := by decide +kernel
theorem dX12_saysOne_42 : decode cX12_saysOne 42 = .ok (.iconst 3, 1) := by decide +kernel
theorem dX12_saysOne_43 : decode cX12_saysOne 43 = .ok (.iadd, 1) := by decide +kernel
theorem dX12_saysOne_44 : decode cX12_saysOne 44 = .ok (.iload 4, 2) := by decide +kernel
theorem dX12_saysOne_46 : decode cX12_saysOne 46 = .ok (.iastore, 1) := by decide +kernel
theorem dX12_saysOne_47 : decode cX12_saysOne 47 = .ok (.aload_n 0, 1) := by decide +kernel
theorem dX12_saysOne_48 : decode cX12_saysOne 48 = .ok (.dup, 1) := by decide +kernel
theorem dX12_saysOne_49 : decode cX12_saysOne 49 = .ok (.getfield 472, 3) := by decide +kernel
theorem dX12_saysOne_52 : decode cX12_saysOne 52 = .ok (.iconst 1, 1) := by decide +kernel
theorem dX12_saysOne_53 : decode cX12_saysOne 53 = .ok (.iadd, 1) := by decide +kernel
theorem dX12_saysOne_54 : decode cX12_saysOne 54 = .ok (.putfield 472, 3) := by decide +kernel
theorem dX12_saysOne_57 : decode cX12_saysOne 57 = .ok (.aload_n 0, 1) := by decide +kernel
theorem dX12_saysOne_58 : decode cX12_saysOne 58 = .ok (.getfield 472, 3) := by decide +kernel
theorem dX12_saysOne_61 : decode cX12_saysOne 61 = .ok (.iconst 1, 1) := by decide +kernel
theorem dX12_saysOne_62 : decode cX12_saysOne 62 = .ok (.isub, 1) := by decide +kernel
theorem dX12_saysOne_63 : decode cX12_saysOne 63 = .ok (.ireturn, 1) := by decide +kernel
def tX12_saysOne (kn : sKn) : List (Nat × sA) := [(0, a_stk (q_int 4) 1), (1, a_aload 0 2), (2, a_get 13 56 5), (5, a_stk q_imul 6), (6, a_istore 5 8), (8, a_aload 0 9), (9, a_get 13 55 12), (12, a_iload 5 14), (14, a_iload 1 15), (15, a_iast 16), (16, a_aload 0 17), (17, a_get 13 55 20), (20, a_iload 5 22), (22, a_stk (q_int 1) 23), (23, a_stk q_iadd 24), (24, a_iload 2 25), (25, a_iast 26), (26, a_aload 0 27), (27, a_get 13 55 30), (30, a_iload 5 32), (32, a_stk (q_int 2) 33), (33, a_stk q_iadd 34), (34, a_iload 3 35), (35, a_iast 36), (36, a_aload 0 37), (37, a_get 13 55 40), (40, a_iload 5 42), (42, a_stk (q_int 3) 43), (43, a_stk q_iadd 44), (44, a_iload 4 46), (46, a_iast 47), (47, a_aload 0 48), (48, a_stk q_dup 49), (49, a_get 13 56 52), (52, a_stk (q_int 1) 53), (53, a_stk q_iadd 54), (54, a_put 13 56 ckI 57), (57, a_aload 0 58), (58, a_get 13 56 61), (61, a_stk (q_int 1) 62), (62, a_stk q_isub 63), (63, a_iret)]
def fX12_saysOne (kn : sKn) : List Value → sW → Option sR := fW (tX12_saysOne kn) 6
set_option maxRecDepth 100000 in
set_option maxHeartbeats 4000000 in
theorem mX12_saysOne (kn : sKn) : mM kn yX12_saysOne (Cond.code yX12_saysOne cX12_saysOne 6 (some .int) :: wsL_law) 1 false (fX12_saysOne kn) := mM_W (fun n => mM_of (own := RX12) (ini := false) rfl (by decide +kernel) (by decide +kernel) (all_c (ok_stk (s_iconst dX12_saysOne_0 (by decide))) (all_c (ok_aload_n dX12_saysOne_1 rfl) (all_c (okg_X12_56 kw1479 dX12_saysOne_2) (all_c (ok_stk (s_imul dX12_saysOne_5)) (all_c (ok_istore dX12_saysOne_6 (by decide)) (all_c (ok_aload_n dX12_saysOne_8 rfl) (all_c (okg_X12_55 kw1449 dX12_saysOne_9) (all_c (ok_iload dX12_saysOne_12) (all_c (ok_iload_n dX12_saysOne_14 rfl) (all_c (ok_iast dX12_saysOne_15) (all_c (ok_aload_n dX12_saysOne_16 rfl) (all_c (okg_X12_55 kw1449 dX12_saysOne_17) (all_c (ok_iload dX12_saysOne_20) (all_c (ok_stk (s_iconst dX12_saysOne_22 (by decide))) (all_c (ok_stk (s_iadd dX12_saysOne_23)) (all_c (ok_iload_n dX12_saysOne_24 rfl) (all_c (ok_iast dX12_saysOne_25) (all_c (ok_aload_n dX12_saysOne_26 rfl) (all_c (okg_X12_55 kw1449 dX12_saysOne_27) (all_c (ok_iload dX12_saysOne_30) (all_c (ok_stk (s_iconst dX12_saysOne_32 (by decide))) (all_c (ok_stk (s_iadd dX12_saysOne_33)) (all_c (ok_iload_n dX12_saysOne_34 rfl) (all_c (ok_iast dX12_saysOne_35) (all_c (ok_aload_n dX12_saysOne_36 rfl) (all_c (okg_X12_55 kw1449 dX12_saysOne_37) (all_c (ok_iload dX12_saysOne_40) (all_c (ok_stk (s_iconst dX12_saysOne_42 (by decide))) (all_c (ok_stk (s_iadd dX12_saysOne_43)) (all_c (ok_iload dX12_saysOne_44) (all_c (ok_iast dX12_saysOne_46) (all_c (ok_aload_n dX12_saysOne_47 rfl) (all_c (ok_stk (s_dup dX12_saysOne_48)) (all_c (okg_X12_56 kw1479 dX12_saysOne_49) (all_c (ok_stk (s_iconst dX12_saysOne_52 (by decide))) (all_c (ok_stk (s_iadd dX12_saysOne_53)) (all_c (okp_X12_56 kw1479 dX12_saysOne_54) (all_c (ok_aload_n dX12_saysOne_57 rfl) (all_c (okg_X12_56 kw1479 dX12_saysOne_58) (all_c (ok_stk (s_iconst dX12_saysOne_61 (by decide))) (all_c (ok_stk (s_isub dX12_saysOne_62)) (all_c (ok_iret dX12_saysOne_63) all_n)))))))))))))))))))))))))))))))))))))))))) n (fun h => by first | rfl | cases h))
theorem dX12_readCompare_0 : decode cX12_readCompare 0 = .ok (.aload_n 0, 1) := by decide +kernel
theorem dX12_readCompare_1 : decode cX12_readCompare 1 = .ok (.bipush 60, 2) := by decide +kernel
theorem dX12_readCompare_3 : decode cX12_readCompare 3 = .ok (.invokevirtual 86, 3) := by decide +kernel
theorem dX12_readCompare_6 : decode cX12_readCompare 6 = .ok (.ifCond .ne 27, 3) := by decide +kernel
theorem dX12_readCompare_9 : decode cX12_readCompare 9 = .ok (.aload_n 0, 1) := by decide +kernel
theorem dX12_readCompare_10 : decode cX12_readCompare 10 = .ok (.bipush 61, 2) := by decide +kernel
theorem dX12_readCompare_12 : decode cX12_readCompare 12 = .ok (.invokevirtual 86, 3) := by decide +kernel
theorem dX12_readCompare_15 : decode cX12_readCompare 15 = .ok (.ifCond .ne 18, 3) := by decide +kernel
theorem dX12_readCompare_18 : decode cX12_readCompare 18 = .ok (.aload_n 0, 1) := by decide +kernel
theorem dX12_readCompare_19 : decode cX12_readCompare 19 = .ok (.bipush 62, 2) := by decide +kernel
theorem dX12_readCompare_21 : decode cX12_readCompare 21 = .ok (.invokevirtual 86, 3) := by decide +kernel
theorem dX12_readCompare_24 : decode cX12_readCompare 24 = .ok (.ifCond .ne 9, 3) := by decide +kernel
theorem dX12_readCompare_27 : decode cX12_readCompare 27 = .ok (.aload_n 0, 1) := by decide +kernel
theorem dX12_readCompare_28 : decode cX12_readCompare 28 = .ok (.iconst 1, 1) := by decide +kernel
theorem dX12_readCompare_29 : decode cX12_readCompare 29 = .ok (.invokevirtual 72, 3) := by decide +kernel
theorem dX12_readCompare_32 : decode cX12_readCompare 32 = .ok (.ireturn, 1) := by decide +kernel
theorem dX12_readCompare_33 : decode cX12_readCompare 33 = .ok (.aload_n 0, 1) := by decide +kernel
theorem dX12_readCompare_34 : decode cX12_readCompare 34 = .ok (.getfield 40, 3) := by decide +kernel
theorem dX12_readCompare_37 : decode cX12_readCompare 37 = .ok (.istore_n 2, 1) := by decide +kernel
theorem dX12_readCompare_38 : decode cX12_readCompare 38 = .ok (.aload_n 0, 1) := by decide +kernel
theorem dX12_readCompare_39 : decode cX12_readCompare 39 = .ok (.invokevirtual 82, 3) := by decide +kernel
theorem dX12_readCompare_42 : decode cX12_readCompare 42 = .ok (.aload_n 0, 1) := by decide +kernel
theorem dX12_readCompare_43 : decode cX12_readCompare 43 = .ok (.iconst 0, 1) := by decide +kernel
theorem dX12_readCompare_44 : decode cX12_readCompare 44 = .ok (.sipush 999, 3) := by decide +kernel
theorem dX12_readCompare_47 : decode cX12_readCompare 47 = .ok (.invokevirtual 205, 3) := by decide +kernel
theorem dX12_readCompare_50 : decode cX12_readCompare 50 = .ok (.ifCond .ne 5, 3) := by decide +kernel
theorem dX12_readCompare_53 : decode cX12_readCompare 53 = .ok (.iconst 0, 1) := by decide +kernel
theorem dX12_readCompare_54 : decode cX12_readCompare 54 = .ok (.ireturn, 1) := by decide +kernel
theorem dX12_readCompare_55 : decode cX12_readCompare 55 = .ok (.aload_n 0, 1) := by decide +kernel
theorem dX12_readCompare_56 : decode cX12_readCompare 56 = .ok (.aload_n 0, 1) := by decide +kernel
theorem dX12_readCompare_57 : decode cX12_readCompare 57 = .ok (.bipush 50, 2) := by decide +kernel
theorem dX12_readCompare_59 : decode cX12_readCompare 59 = .ok (.iload_n 1, 1) := by decide +kernel
theorem dX12_readCompare_60 : decode cX12_readCompare 60 = .ok (.iadd, 1) := by decide +kernel
theorem dX12_readCompare_61 : decode cX12_readCompare 61 = .ok (.iconst 0, 1) := by decide +kernel
theorem dX12_readCompare_62 : decode cX12_readCompare 62 = .ok (.aload_n 0, 1) := by decide +kernel
theorem dX12_readCompare_63 : decode cX12_readCompare 63 = .ok (.getfield 79, 3) := by decide +kernel
theorem dX12_readCompare_66 : decode cX12_readCompare 66 = .ok (.iload_n 2, 1) := by decide +kernel
theorem dX12_readCompare_67 : decode cX12_readCompare 67 = .ok (.invokevirtual 481, 3) := by decide +kernel
theorem dX12_readCompare_70 : decode cX12_readCompare 70 = .ok (.putfield 478, 3) := by decide +kernel
theorem dX12_readCompare_73 : decode cX12_readCompare 73 = .ok (.iconst 1, 1) := by decide +kernel
theorem dX12_readCompare_74 : decode cX12_readCompare 74 = .ok (.ireturn, 1) := by decide +kernel
theorem okc_X12_saysOne {kn : sKn} {cc : ByteArray} {own : String} {nL : Nat} {D : Nat} {ret : Option FieldType} {ini : Bool} {pc index : Nat} (hD : 1 + 1 ≤ D) (hl : Cond.methodLink own index yX12_saysOne ∈ wsL_law) (hd : decode cc pc = .ok (.invokevirtual index, 3)) : mOk kn cc own nL wsL_law D ret ini pc (a_callV false (fX12_saysOne kn) 13 (4 + 1) (pc + 3)) := ok_callV (mX12_saysOne kn) (good_ws ws_good (fun _ h => h) kw1480) hD (by decide) hl kw1481 kw1482 kw1072 ⟨by decide +kernel, by decide +kernel, by decide +kernel⟩ rfl hd
def tX12_readCompare (kn : sKn) : List (Nat × sA) := [(0, a_aload 0 1), (1, a_stk (q_int 60) 3), (3, a_callV false (fX12_isSign kn) 13 2 6), (6, a_if kn b_ne 1 33 9), (9, a_aload 0 10), (10, a_stk (q_int 61) 12), (12, a_callV false (fX12_isSign kn) 13 2 15), (15, a_if kn b_ne 1 33 18), (18, a_aload 0 19), (19, a_stk (q_int 62) 21), (21, a_callV false (fX12_isSign kn) 13 2 24), (24, a_if kn b_ne 1 33 27), (27, a_aload 0 28), (28, a_stk (q_int 1) 29), (29, a_callV false (fX12_bad kn) 13 2 32), (32, a_zret), (33, a_aload 0 34), (34, a_get 13 9 37), (37, a_istore 2 38), (38, a_aload 0 39), (39, a_callV true (fX12_go kn) 13 1 42), (42, a_aload 0 43), (43, a_stk (q_int 0) 44), (44, a_stk (q_int 999) 47), (47, a_callV false (fX12_readNumber kn) 13 3 50), (50, a_if kn b_ne 1 55 53), (53, a_stk (q_int 0) 54), (54, a_zret), (55, a_aload 0 56), (56, a_aload 0 57), (57, a_stk (q_int 50) 59), (59, a_iload 1 60), (60, a_stk q_iadd 61), (61, a_stk (q_int 0) 62), (62, a_aload 0 63), (63, a_get 13 13 66), (66, a_iload 2 67), (67, a_callV false (fX12_saysOne kn) 13 5 70), (70, a_put 13 59 ckI 73), (73, a_stk (q_int 1) 74), (74, a_zret)]
def fX12_readCompare (kn : sKn) : List Value → sW → Option sR := fW (tX12_readCompare kn) 3
set_option maxRecDepth 100000 in
set_option maxHeartbeats 4000000 in
theorem mX12_readCompare (kn : sKn) : mM kn yX12_readCompare (Cond.code yX12_readCompare cX12_readCompare 3 (some .boolean) :: wsL_law) 4 false (fX12_readCompare kn) := mM_W (fun n => mM_of (own := RX12) (ini := false) rfl (by decide +kernel) (by decide +kernel) (all_c (ok_aload_n dX12_readCompare_0 rfl) (all_c (ok_stk (s_bipush dX12_readCompare_1 (by decide))) (all_c (okc_X12_isSign (by decide) kw1272 dX12_readCompare_3) (all_c (ok_if_ne dX12_readCompare_6 (by decide)) (all_c (ok_aload_n dX12_readCompare_9 rfl) (all_c (ok_stk (s_bipush dX12_readCompare_10 (by decide))) (all_c (okc_X12_isSign (by decide) kw1272 dX12_readCompare_12) (all_c (ok_if_ne dX12_readCompare_15 (by decide)) (all_c (ok_aload_n dX12_readCompare_18 rfl) (all_c (ok_stk (s_bipush dX12_readCompare_19 (by decide))) (all_c (okc_X12_isSign (by decide) kw1272 dX12_readCompare_21) (all_c (ok_if_ne dX12_readCompare_24 (by decide)) (all_c (ok_aload_n dX12_readCompare_27 rfl) (all_c (ok_stk (s_iconst dX12_readCompare_28 (by decide))) (all_c (okc_X12_bad (by decide) kw1243 dX12_readCompare_29) (all_c (ok_zret dX12_readCompare_32) (all_c (ok_aload_n dX12_readCompare_33 rfl) (all_c (okg_X12_9 kw1162 dX12_readCompare_34) (all_c (ok_istore_n dX12_readCompare_37 rfl (by decide)) (all_c (ok_aload_n dX12_readCompare_38 rfl) (all_c (okc_X12_go (by decide) kw1179 dX12_readCompare_39) (all_c (ok_aload_n dX12_readCompare_42 rfl) (all_c (ok_stk (s_iconst dX12_readCompare_43 (by decide))) (all_c (ok_stk (s_sipush dX12_readCompare_44 (by decide))) (all_c (okc_X12_readNumber (by decide) kw1248 dX12_readCompare_47) (all_c (ok_if_ne dX12_readCompare_50 (by decide)) (all_c (ok_stk (s_iconst dX12_readCompare_53 (by decide))) (all_c (ok_zret dX12_readCompare_54) (all_c (ok_aload_n dX12_readCompare_55 rfl) (all_c (ok_aload_n dX12_readCompare_56 rfl) (all_c (ok_stk (s_bipush dX12_readCompare_57 (by decide))) (all_c (ok_iload_n dX12_readCompare_59 rfl) (all_c (ok_stk (s_iadd dX12_readCompare_60)) (all_c (ok_stk (s_iconst dX12_readCompare_61 (by decide))) (all_c (ok_aload_n dX12_readCompare_62 rfl) (all_c (okg_X12_13 kw1244 dX12_readCompare_63) (all_c (ok_iload_n dX12_readCompare_66 rfl) (all_c (okc_X12_saysOne (by decide) kw1483 dX12_readCompare_67) (all_c (okp_X12_59 kw1484 dX12_readCompare_70) (all_c (ok_stk (s_iconst dX12_readCompare_73 (by decide))) (all_c (ok_zret dX12_readCompare_74) all_n))))))))))))))))))))))))))))))))))))))))) n (fun h => by first | rfl | cases h))
theorem dX12_readWhom_0 : decode cX12_readWhom 0 = .ok (.iload_n 1, 1) := by decide +kernel
theorem dX12_readWhom_1 : decode cX12_readWhom 1 = .ok (.bipush 22, 2) := by decide +kernel
theorem dX12_readWhom_3 : decode cX12_readWhom 3 = .ok (.if_icmp .ne 11, 3) := by decide +kernel
theorem dX12_readWhom_6 : decode cX12_readWhom 6 = .ok (.aload_n 0, 1) := by decide +kernel
theorem dX12_readWhom_7 : decode cX12_readWhom 7 = .ok (.iconst 0, 1) := by decide +kernel
theorem dX12_readWhom_8 : decode cX12_readWhom 8 = .ok (.bipush 11, 2) := by decide +kernel
theorem dX12_readWhom_10 : decode cX12_readWhom 10 = .ok (.invokevirtual 205, 3) := by decide +kernel
theorem dX12_readWhom_13 : decode cX12_readWhom 13 = .ok (.ireturn, 1) := by decide +kernel
theorem dX12_readWhom_14 : decode cX12_readWhom 14 = .ok (.aload_n 0, 1) := by decide +kernel
theorem dX12_readWhom_15 : decode cX12_readWhom 15 = .ok (.invokevirtual 190, 3) := by decide +kernel
theorem dX12_readWhom_18 : decode cX12_readWhom 18 = .ok (.ifCond .ne 9, 3) := by decide +kernel
theorem dX12_readWhom_21 : decode cX12_readWhom 21 = .ok (.aload_n 0, 1) := by decide +kernel
theorem dX12_readWhom_22 : decode cX12_readWhom 22 = .ok (.iconst 1, 1) := by decide +kernel
theorem dX12_readWhom_23 : decode cX12_readWhom 23 = .ok (.invokevirtual 72, 3) := by decide +kernel
theorem dX12_readWhom_26 : decode cX12_readWhom 26 = .ok (.ireturn, 1) := by decide +kernel
theorem dX12_readWhom_27 : decode cX12_readWhom 27 = .ok (.aload_n 0, 1) := by decide +kernel
theorem dX12_readWhom_28 : decode cX12_readWhom 28 = .ok (.aload_n 0, 1) := by decide +kernel
theorem dX12_readWhom_29 : decode cX12_readWhom 29 = .ok (.getfield 113, 3) := by decide +kernel
theorem dX12_readWhom_32 : decode cX12_readWhom 32 = .ok (.iconst 0, 1) := by decide +kernel
theorem dX12_readWhom_33 : decode cX12_readWhom 33 = .ok (.aload_n 0, 1) := by decide +kernel
theorem dX12_readWhom_34 : decode cX12_readWhom 34 = .ok (.getfield 98, 3) := by decide +kernel
theorem dX12_readWhom_37 : decode cX12_readWhom 37 = .ok (.iconst 1, 1) := by decide +kernel
theorem dX12_readWhom_38 : decode cX12_readWhom 38 = .ok (.iaload, 1) := by decide +kernel
theorem dX12_readWhom_39 : decode cX12_readWhom 39 = .ok (.aload_n 0, 1) := by decide +kernel
theorem dX12_readWhom_40 : decode cX12_readWhom 40 = .ok (.getfield 43, 3) := by decide +kernel
theorem dX12_readWhom_43 : decode cX12_readWhom 43 = .ok (.invokestatic 194, 3) := by decide +kernel
theorem dX12_readWhom_46 : decode cX12_readWhom 46 = .ok (.putfield 79, 3) := by decide +kernel
theorem dX12_readWhom_49 : decode cX12_readWhom 49 = .ok (.aload_n 0, 1) := by decide +kernel
theorem dX12_readWhom_50 : decode cX12_readWhom 50 = .ok (.getfield 79, 3) := by decide +kernel
theorem dX12_readWhom_53 : decode cX12_readWhom 53 = .ok (.iconst (-1), 1) := by decide +kernel
theorem dX12_readWhom_54 : decode cX12_readWhom 54 = .ok (.if_icmp .ne 9, 3) := by decide +kernel
theorem dX12_readWhom_57 : decode cX12_readWhom 57 = .ok (.aload_n 0, 1) := by decide +kernel
theorem dX12_readWhom_58 : decode cX12_readWhom 58 = .ok (.iconst 3, 1) := by decide +kernel
theorem dX12_readWhom_59 : decode cX12_readWhom 59 = .ok (.invokevirtual 72, 3) := by decide +kernel
theorem dX12_readWhom_62 : decode cX12_readWhom 62 = .ok (.ireturn, 1) := by decide +kernel
theorem dX12_readWhom_63 : decode cX12_readWhom 63 = .ok (.aload_n 0, 1) := by decide +kernel
theorem dX12_readWhom_64 : decode cX12_readWhom 64 = .ok (.invokevirtual 82, 3) := by decide +kernel
theorem dX12_readWhom_67 : decode cX12_readWhom 67 = .ok (.iconst 1, 1) := by decide +kernel
theorem dX12_readWhom_68 : decode cX12_readWhom 68 = .ok (.ireturn, 1) := by decide +kernel
def tX12_readWhom (kn : sKn) : List (Nat × sA) := [(0, a_iload 1 1), (1, a_stk (q_int 22) 3), (3, a_icmp kn b_ne 1 14 6), (6, a_aload 0 7), (7, a_stk (q_int 0) 8), (8, a_stk (q_int 11) 10), (10, a_callV false (fX12_readNumber kn) 13 3 13), (13, a_zret), (14, a_aload 0 15), (15, a_callV false (fX12_isName kn) 13 1 18), (18, a_if kn b_ne 1 27 21), (21, a_aload 0 22), (22, a_stk (q_int 1) 23), (23, a_callV false (fX12_bad kn) 13 2 26), (26, a_zret), (27, a_aload 0 28), (28, a_aload 0 29), (29, a_get 13 19 32), (32, a_stk (q_int 0) 33), (33, a_aload 0 34), (34, a_get 13 14 37), (37, a_stk (q_int 1) 38), (38, a_iald 39), (39, a_aload 0 40), (40, a_get 13 12 43), (43, a_callS false (fX12_findIn kn) 4 46), (46, a_put 13 13 ckI 49), (49, a_aload 0 50), (50, a_get 13 13 53), (53, a_stk (q_int (-1)) 54), (54, a_icmp kn b_ne 1 63 57), (57, a_aload 0 58), (58, a_stk (q_int 3) 59), (59, a_callV false (fX12_bad kn) 13 2 62), (62, a_zret), (63, a_aload 0 64), (64, a_callV true (fX12_go kn) 13 1 67), (67, a_stk (q_int 1) 68), (68, a_zret)]
def fX12_readWhom (kn : sKn) : List Value → sW → Option sR := fW (tX12_readWhom kn) 2
set_option maxRecDepth 100000 in
set_option maxHeartbeats 4000000 in
theorem mX12_readWhom (kn : sKn) : mM kn yX12_readWhom (Cond.code yX12_readWhom cX12_readWhom 2 (some .boolean) :: wsL_law) 4 false (fX12_readWhom kn) := mM_W (fun n => mM_of (own := RX12) (ini := false) rfl (by decide +kernel) (by decide +kernel) (all_c (ok_iload_n dX12_readWhom_0 rfl) (all_c (ok_stk (s_bipush dX12_readWhom_1 (by decide))) (all_c (ok_icmp_ne dX12_readWhom_3 (by decide)) (all_c (ok_aload_n dX12_readWhom_6 rfl) (all_c (ok_stk (s_iconst dX12_readWhom_7 (by decide))) (all_c (ok_stk (s_bipush dX12_readWhom_8 (by decide))) (all_c (okc_X12_readNumber (by decide) kw1248 dX12_readWhom_10) (all_c (ok_zret dX12_readWhom_13) (all_c (ok_aload_n dX12_readWhom_14 rfl) (all_c (okc_X12_isName (by decide) kw1276 dX12_readWhom_15) (all_c (ok_if_ne dX12_readWhom_18 (by decide)) (all_c (ok_aload_n dX12_readWhom_21 rfl) (all_c (ok_stk (s_iconst dX12_readWhom_22 (by decide))) (all_c (okc_X12_bad (by decide) kw1243 dX12_readWhom_23) (all_c (ok_zret dX12_readWhom_26) (all_c (ok_aload_n dX12_readWhom_27 rfl) (all_c (ok_aload_n dX12_readWhom_28 rfl) (all_c (okg_X12_19 kw1261 dX12_readWhom_29) (all_c (ok_stk (s_iconst dX12_readWhom_32 (by decide))) (all_c (ok_aload_n dX12_readWhom_33 rfl) (all_c (okg_X12_14 kw1069 dX12_readWhom_34) (all_c (ok_stk (s_iconst dX12_readWhom_37 (by decide))) (all_c (ok_iald dX12_readWhom_38) (all_c (ok_aload_n dX12_readWhom_39 rfl) (all_c (okg_X12_12 kw1163 dX12_readWhom_40) (all_c (okc_X12_findIn (by decide) kw1264 dX12_readWhom_43) (all_c (okp_X12_13 kw1244 dX12_readWhom_46) (all_c (ok_aload_n dX12_readWhom_49 rfl) (all_c (okg_X12_13 kw1244 dX12_readWhom_50) (all_c (ok_stk (s_iconst dX12_readWhom_53 (by decide))) (all_c (ok_icmp_ne dX12_readWhom_54 (by decide)) (all_c (ok_aload_n dX12_readWhom_57 rfl) (all_c (ok_stk (s_iconst dX12_readWhom_58 (by decide))) (all_c (okc_X12_bad (by decide) kw1243 dX12_readWhom_59) (all_c (ok_zret dX12_readWhom_62) (all_c (ok_aload_n dX12_readWhom_63 rfl) (all_c (okc_X12_go (by decide) kw1179 dX12_readWhom_64) (all_c (ok_stk (s_iconst dX12_readWhom_67 (by decide))) (all_c (ok_zret dX12_readWhom_68) all_n))))))))))))))))))))))))))))))))))))))) n (fun h => by first | rfl | cases h))
theorem dX12_readOf_0 : decode cX12_readOf 0 = .ok (.aload_n 0, 1) := by decide +kernel
theorem dX12_readOf_1 : decode cX12_readOf 1 = .ok (.iload_n 1, 1) := by decide +kernel
theorem dX12_readOf_2 : decode cX12_readOf 2 = .ok (.invokevirtual 508, 3) := by decide +kernel
theorem dX12_readOf_5 : decode cX12_readOf 5 = .ok (.ifCond .ne 5, 3) := by decide +kernel
theorem dX12_readOf_8 : decode cX12_readOf 8 = .ok (.iconst 0, 1) := by decide +kernel
theorem dX12_readOf_9 : decode cX12_readOf 9 = .ok (.ireturn, 1) := by decide +kernel
theorem dX12_readOf_10 : decode cX12_readOf 10 = .ok (.aload_n 0, 1) := by decide +kernel
theorem dX12_readOf_11 : decode cX12_readOf 11 = .ok (.aload_n 0, 1) := by decide +kernel
theorem dX12_readOf_12 : decode cX12_readOf 12 = .ok (.bipush 50, 2) := by decide +kernel
theorem dX12_readOf_14 : decode cX12_readOf 14 = .ok (.iload_n 1, 1) := by decide +kernel
theorem dX12_readOf_15 : decode cX12_readOf 15 = .ok (.iadd, 1) := by decide +kernel
theorem dX12_readOf_16 : decode cX12_readOf 16 = .ok (.aload_n 0, 1) := by decide +kernel
theorem dX12_readOf_17 : decode cX12_readOf 17 = .ok (.getfield 79, 3) := by decide +kernel
theorem dX12_readOf_20 : decode cX12_readOf 20 = .ok (.iconst 0, 1) := by decide +kernel
theorem dX12_readOf_21 : decode cX12_readOf 21 = .ok (.iconst 0, 1) := by decide +kernel
theorem dX12_readOf_22 : decode cX12_readOf 22 = .ok (.invokevirtual 481, 3) := by decide +kernel
theorem dX12_readOf_25 : decode cX12_readOf 25 = .ok (.putfield 478, 3) := by decide +kernel
theorem dX12_readOf_28 : decode cX12_readOf 28 = .ok (.iconst 1, 1) := by decide +kernel
theorem dX12_readOf_29 : decode cX12_readOf 29 = .ok (.ireturn, 1) := by decide +kernel
theorem okc_X12_readWhom {kn : sKn} {cc : ByteArray} {own : String} {nL : Nat} {D : Nat} {ret : Option FieldType} {ini : Bool} {pc index : Nat} (hD : 4 + 1 ≤ D) (hl : Cond.methodLink own index yX12_readWhom ∈ wsL_law) (hd : decode cc pc = .ok (.invokevirtual index, 3)) : mOk kn cc own nL wsL_law D ret ini pc (a_callV false (fX12_readWhom kn) 13 (1 + 1) (pc + 3)) := ok_callV (mX12_readWhom kn) (good_ws ws_good (fun _ h => h) kw1485) hD (by decide) hl kw1486 kw1487 kw1072 ⟨by decide +kernel, by decide +kernel, by decide +kernel⟩ rfl hd
def tX12_readOf (kn : sKn) : List (Nat × sA) := [(0, a_aload 0 1), (1, a_iload 1 2), (2, a_callV false (fX12_readWhom kn) 13 2 5), (5, a_if kn b_ne 1 10 8), (8, a_stk (q_int 0) 9), (9, a_zret), (10, a_aload 0 11), (11, a_aload 0 12), (12, a_stk (q_int 50) 14), (14, a_iload 1 15), (15, a_stk q_iadd 16), (16, a_aload 0 17), (17, a_get 13 13 20), (20, a_stk (q_int 0) 21), (21, a_stk (q_int 0) 22), (22, a_callV false (fX12_saysOne kn) 13 5 25), (25, a_put 13 59 ckI 28), (28, a_stk (q_int 1) 29), (29, a_zret)]
def fX12_readOf (kn : sKn) : List Value → sW → Option sR := fW (tX12_readOf kn) 2
set_option maxRecDepth 100000 in
set_option maxHeartbeats 4000000 in
theorem mX12_readOf (kn : sKn) : mM kn yX12_readOf (Cond.code yX12_readOf cX12_readOf 2 (some .boolean) :: wsL_law) 5 false (fX12_readOf kn) := mM_W (fun n => mM_of (own := RX12) (ini := false) rfl (by decide +kernel) (by decide +kernel) (all_c (ok_aload_n dX12_readOf_0 rfl) (all_c (ok_iload_n dX12_readOf_1 rfl) (all_c (okc_X12_readWhom (by decide) kw1488 dX12_readOf_2) (all_c (ok_if_ne dX12_readOf_5 (by decide)) (all_c (ok_stk (s_iconst dX12_readOf_8 (by decide))) (all_c (ok_zret dX12_readOf_9) (all_c (ok_aload_n dX12_readOf_10 rfl) (all_c (ok_aload_n dX12_readOf_11 rfl) (all_c (ok_stk (s_bipush dX12_readOf_12 (by decide))) (all_c (ok_iload_n dX12_readOf_14 rfl) (all_c (ok_stk (s_iadd dX12_readOf_15)) (all_c (ok_aload_n dX12_readOf_16 rfl) (all_c (okg_X12_13 kw1244 dX12_readOf_17) (all_c (ok_stk (s_iconst dX12_readOf_20 (by decide))) (all_c (ok_stk (s_iconst dX12_readOf_21 (by decide))) (all_c (okc_X12_saysOne (by decide) kw1483 dX12_readOf_22) (all_c (okp_X12_59 kw1484 dX12_readOf_25) (all_c (ok_stk (s_iconst dX12_readOf_28 (by decide))) (all_c (ok_zret dX12_readOf_29) all_n))))))))))))))))))) n (fun h => by first | rfl | cases h))
theorem dX12_readAnd_0 : decode cX12_readAnd 0 = .ok (.aload_n 0, 1) := by decide +kernel
theorem dX12_readAnd_1 : decode cX12_readAnd 1 = .ok (.invokevirtual 484, 3) := by decide +kernel
theorem dX12_readAnd_4 : decode cX12_readAnd 4 = .ok (.ifCond .ne 5, 3) := by decide +kernel
theorem dX12_readAnd_7 : decode cX12_readAnd 7 = .ok (.iconst 0, 1) := by decide +kernel
theorem dX12_readAnd_8 : decode cX12_readAnd 8 = .ok (.ireturn, 1) := by decide +kernel
theorem dX12_readAnd_9 : decode cX12_readAnd 9 = .ok (.aload_n 0, 1) := by decide +kernel
theorem dX12_readAnd_10 : decode cX12_readAnd 10 = .ok (.getfield 478, 3) := by decide +kernel
theorem dX12_readAnd_13 : decode cX12_readAnd 13 = .ok (.istore_n 1, 1) := by decide +kernel
theorem dX12_readAnd_14 : decode cX12_readAnd 14 = .ok (.aload_n 0, 1) := by decide +kernel
theorem dX12_readAnd_15 : decode cX12_readAnd 15 = .ok (.bipush 16, 2) := by decide +kernel
theorem dX12_readAnd_17 : decode cX12_readAnd 17 = .ok (.invokevirtual 219, 3) := by decide +kernel
theorem dX12_readAnd_20 : decode cX12_readAnd 20 = .ok (.ifCond .eq 31, 3) := by decide +kernel
theorem dX12_readAnd_23 : decode cX12_readAnd 23 = .ok (.aload_n 0, 1) := by decide +kernel
theorem dX12_readAnd_24 : decode cX12_readAnd 24 = .ok (.invokevirtual 82, 3) := by decide +kernel
theorem dX12_readAnd_27 : decode cX12_readAnd 27 = .ok (.aload_n 0, 1) := by decide +kernel
theorem dX12_readAnd_28 : decode cX12_readAnd 28 = .ok (.invokevirtual 484, 3) := by decide +kernel
theorem dX12_readAnd_31 : decode cX12_readAnd 31 = .ok (.ifCond .ne 5, 3) := by decide +kernel
theorem dX12_readAnd_34 : decode cX12_readAnd 34 = .ok (.iconst 0, 1) := by decide +kernel
theorem dX12_readAnd_35 : decode cX12_readAnd 35 = .ok (.ireturn, 1) := by decide +kernel
theorem dX12_readAnd_36 : decode cX12_readAnd 36 = .ok (.aload_n 0, 1) := by decide +kernel
theorem dX12_readAnd_37 : decode cX12_readAnd 37 = .ok (.iconst 2, 1) := by decide +kernel
theorem dX12_readAnd_38 : decode cX12_readAnd 38 = .ok (.iload_n 1, 1) := by decide +kernel
theorem dX12_readAnd_39 : decode cX12_readAnd 39 = .ok (.aload_n 0, 1) := by decide +kernel
theorem dX12_readAnd_40 : decode cX12_readAnd 40 = .ok (.getfield 478, 3) := by decide +kernel
theorem dX12_readAnd_43 : decode cX12_readAnd 43 = .ok (.iconst 0, 1) := by decide +kernel
theorem dX12_readAnd_44 : decode cX12_readAnd 44 = .ok (.invokevirtual 481, 3) := by decide +kernel
theorem dX12_readAnd_47 : decode cX12_readAnd 47 = .ok (.istore_n 1, 1) := by decide +kernel
theorem dX12_readAnd_48 : decode cX12_readAnd 48 = .ok (.goto (-34), 3) := by decide +kernel
theorem dX12_readAnd_51 : decode cX12_readAnd 51 = .ok (.aload_n 0, 1) := by decide +kernel
theorem dX12_readAnd_52 : decode cX12_readAnd 52 = .ok (.iload_n 1, 1) := by decide +kernel
theorem dX12_readAnd_53 : decode cX12_readAnd 53 = .ok (.putfield 478, 3) := by decide +kernel
theorem dX12_readAnd_56 : decode cX12_readAnd 56 = .ok (.iconst 1, 1) := by decide +kernel
theorem dX12_readAnd_57 : decode cX12_readAnd 57 = .ok (.ireturn, 1) := by decide +kernel
def tX12_readAnd_g (kn : sKn) (g : List Value → sW → Option sR) : List (Nat × sA) := [(0, a_aload 0 1), (1, a_callV false g 13 1 4), (4, a_if kn b_ne 1 9 7), (7, a_stk (q_int 0) 8), (8, a_zret), (9, a_aload 0 10), (10, a_get 13 59 13), (13, a_istore 1 14), (14, a_aload 0 15), (15, a_stk (q_int 16) 17), (17, a_callV false (fX12_isWord kn) 13 2 20), (20, a_if kn b_eq 0 51 23), (23, a_aload 0 24), (24, a_callV true (fX12_go kn) 13 1 27), (27, a_aload 0 28), (28, a_callV false g 13 1 31), (31, a_if kn b_ne 1 36 34), (34, a_stk (q_int 0) 35), (35, a_zret), (36, a_aload 0 37), (37, a_stk (q_int 2) 38), (38, a_iload 1 39), (39, a_aload 0 40), (40, a_get 13 59 43), (43, a_stk (q_int 0) 44), (44, a_callV false (fX12_saysOne kn) 13 5 47), (47, a_istore 1 48), (48, a_goto 14), (51, a_aload 0 52), (52, a_iload 1 53), (53, a_put 13 59 ckI 56), (56, a_stk (q_int 1) 57), (57, a_zret)]
def fX12_readAnd_g (kn : sKn) (g : List Value → sW → Option sR) : List Value → sW → Option sR := fW (tX12_readAnd_g kn g) 2
set_option maxRecDepth 100000 in
set_option maxHeartbeats 4000000 in
theorem mX12_readAnd_g (kn : sKn) {g : List Value → sW → Option sR} {Dg : Nat} (hg : mM kn yX12_readSaid (Cond.code yX12_readSaid cX12_readSaid 4 (some .boolean) :: wsL_law) Dg false g) : mM kn yX12_readAnd (Cond.code yX12_readAnd cX12_readAnd 2 (some .boolean) :: wsL_law) (Dg + 4) false (fX12_readAnd_g kn g) := mM_W (fun n => mM_of (own := RX12) (ini := false) rfl (by decide +kernel) (by decide +kernel) (all_c (ok_aload_n dX12_readAnd_0 rfl) (all_c (ok_callV hg (good_ws ws_good (fun _ h => h) kw1491) (by first | decide | omega) (by first | decide | omega) kw1492 kw1489 kw1490 kw1072 ⟨by decide +kernel, by decide +kernel, by decide +kernel⟩ rfl dX12_readAnd_1) (all_c (ok_if_ne dX12_readAnd_4 (by first | decide | omega)) (all_c (ok_stk (s_iconst dX12_readAnd_7 (by first | decide | omega))) (all_c (ok_zret dX12_readAnd_8) (all_c (ok_aload_n dX12_readAnd_9 rfl) (all_c (okg_X12_59 kw1484 dX12_readAnd_10) (all_c (ok_istore_n dX12_readAnd_13 rfl (by first | decide | omega)) (all_c (ok_aload_n dX12_readAnd_14 rfl) (all_c (ok_stk (s_bipush dX12_readAnd_15 (by first | decide | omega))) (all_c (okc_X12_isWord (by first | decide | omega) kw1252 dX12_readAnd_17) (all_c (ok_if_eq dX12_readAnd_20 (by first | decide | omega)) (all_c (ok_aload_n dX12_readAnd_23 rfl) (all_c (okc_X12_go (by first | decide | omega) kw1179 dX12_readAnd_24) (all_c (ok_aload_n dX12_readAnd_27 rfl) (all_c (ok_callV hg (good_ws ws_good (fun _ h => h) kw1491) (by first | decide | omega) (by first | decide | omega) kw1492 kw1489 kw1490 kw1072 ⟨by decide +kernel, by decide +kernel, by decide +kernel⟩ rfl dX12_readAnd_28) (all_c (ok_if_ne dX12_readAnd_31 (by first | decide | omega)) (all_c (ok_stk (s_iconst dX12_readAnd_34 (by first | decide | omega))) (all_c (ok_zret dX12_readAnd_35) (all_c (ok_aload_n dX12_readAnd_36 rfl) (all_c (ok_stk (s_iconst dX12_readAnd_37 (by first | decide | omega))) (all_c (ok_iload_n dX12_readAnd_38 rfl) (all_c (ok_aload_n dX12_readAnd_39 rfl) (all_c (okg_X12_59 kw1484 dX12_readAnd_40) (all_c (ok_stk (s_iconst dX12_readAnd_43 (by first | decide | omega))) (all_c (okc_X12_saysOne (by first | decide | omega) kw1483 dX12_readAnd_44) (all_c (ok_istore_n dX12_readAnd_47 rfl (by first | decide | omega)) (all_c (ok_goto dX12_readAnd_48 (by first | decide | omega)) (all_c (ok_aload_n dX12_readAnd_51 rfl) (all_c (ok_iload_n dX12_readAnd_52 rfl) (all_c (okp_X12_59 kw1484 dX12_readAnd_53) (all_c (ok_stk (s_iconst dX12_readAnd_56 (by first | decide | omega))) (all_c (ok_zret dX12_readAnd_57) all_n))))))))))))))))))))))))))))))))) n (fun h => by first | rfl | cases h))
theorem dX12_readOr_0 : decode cX12_readOr 0 = .ok (.aload_n 0, 1) := by decide +kernel
theorem dX12_readOr_1 : decode cX12_readOr 1 = .ok (.invokevirtual 475, 3) := by decide +kernel
theorem dX12_readOr_4 : decode cX12_readOr 4 = .ok (.ifCond .ne 5, 3) := by decide +kernel
theorem dX12_readOr_7 : decode cX12_readOr 7 = .ok (.iconst 0, 1) := by decide +kernel
theorem dX12_readOr_8 : decode cX12_readOr 8 = .ok (.ireturn, 1) := by decide +kernel
theorem dX12_readOr_9 : decode cX12_readOr 9 = .ok (.aload_n 0, 1) := by decide +kernel
theorem dX12_readOr_10 : decode cX12_readOr 10 = .ok (.getfield 478, 3) := by decide +kernel
theorem dX12_readOr_13 : decode cX12_readOr 13 = .ok (.istore_n 1, 1) := by decide +kernel
theorem dX12_readOr_14 : decode cX12_readOr 14 = .ok (.aload_n 0, 1) := by decide +kernel
theorem dX12_readOr_15 : decode cX12_readOr 15 = .ok (.bipush 15, 2) := by decide +kernel
theorem dX12_readOr_17 : decode cX12_readOr 17 = .ok (.invokevirtual 219, 3) := by decide +kernel
theorem dX12_readOr_20 : decode cX12_readOr 20 = .ok (.ifCond .eq 31, 3) := by decide +kernel
theorem dX12_readOr_23 : decode cX12_readOr 23 = .ok (.aload_n 0, 1) := by decide +kernel
theorem dX12_readOr_24 : decode cX12_readOr 24 = .ok (.invokevirtual 82, 3) := by decide +kernel
theorem dX12_readOr_27 : decode cX12_readOr 27 = .ok (.aload_n 0, 1) := by decide +kernel
theorem dX12_readOr_28 : decode cX12_readOr 28 = .ok (.invokevirtual 475, 3) := by decide +kernel
theorem dX12_readOr_31 : decode cX12_readOr 31 = .ok (.ifCond .ne 5, 3) := by decide +kernel
theorem dX12_readOr_34 : decode cX12_readOr 34 = .ok (.iconst 0, 1) := by decide +kernel
theorem dX12_readOr_35 : decode cX12_readOr 35 = .ok (.ireturn, 1) := by decide +kernel
theorem dX12_readOr_36 : decode cX12_readOr 36 = .ok (.aload_n 0, 1) := by decide +kernel
theorem dX12_readOr_37 : decode cX12_readOr 37 = .ok (.iconst 3, 1) := by decide +kernel
theorem dX12_readOr_38 : decode cX12_readOr 38 = .ok (.iload_n 1, 1) := by decide +kernel
theorem dX12_readOr_39 : decode cX12_readOr 39 = .ok (.aload_n 0, 1) := by decide +kernel
theorem dX12_readOr_40 : decode cX12_readOr 40 = .ok (.getfield 478, 3) := by decide +kernel
theorem dX12_readOr_43 : decode cX12_readOr 43 = .ok (.iconst 0, 1) := by decide +kernel
theorem dX12_readOr_44 : decode cX12_readOr 44 = .ok (.invokevirtual 481, 3) := by decide +kernel
theorem dX12_readOr_47 : decode cX12_readOr 47 = .ok (.istore_n 1, 1) := by decide +kernel
theorem dX12_readOr_48 : decode cX12_readOr 48 = .ok (.goto (-34), 3) := by decide +kernel
theorem dX12_readOr_51 : decode cX12_readOr 51 = .ok (.aload_n 0, 1) := by decide +kernel
theorem dX12_readOr_52 : decode cX12_readOr 52 = .ok (.iload_n 1, 1) := by decide +kernel
theorem dX12_readOr_53 : decode cX12_readOr 53 = .ok (.putfield 478, 3) := by decide +kernel
theorem dX12_readOr_56 : decode cX12_readOr 56 = .ok (.iconst 1, 1) := by decide +kernel
theorem dX12_readOr_57 : decode cX12_readOr 57 = .ok (.ireturn, 1) := by decide +kernel
def tX12_readOr_g (kn : sKn) (g : List Value → sW → Option sR) : List (Nat × sA) := [(0, a_aload 0 1), (1, a_callV false (fX12_readAnd_g kn g) 13 1 4), (4, a_if kn b_ne 1 9 7), (7, a_stk (q_int 0) 8), (8, a_zret), (9, a_aload 0 10), (10, a_get 13 59 13), (13, a_istore 1 14), (14, a_aload 0 15), (15, a_stk (q_int 15) 17), (17, a_callV false (fX12_isWord kn) 13 2 20), (20, a_if kn b_eq 0 51 23), (23, a_aload 0 24), (24, a_callV true (fX12_go kn) 13 1 27), (27, a_aload 0 28), (28, a_callV false (fX12_readAnd_g kn g) 13 1 31), (31, a_if kn b_ne 1 36 34), (34, a_stk (q_int 0) 35), (35, a_zret), (36, a_aload 0 37), (37, a_stk (q_int 3) 38), (38, a_iload 1 39), (39, a_aload 0 40), (40, a_get 13 59 43), (43, a_stk (q_int 0) 44), (44, a_callV false (fX12_saysOne kn) 13 5 47), (47, a_istore 1 48), (48, a_goto 14), (51, a_aload 0 52), (52, a_iload 1 53), (53, a_put 13 59 ckI 56), (56, a_stk (q_int 1) 57), (57, a_zret)]
def fX12_readOr_g (kn : sKn) (g : List Value → sW → Option sR) : List Value → sW → Option sR := fW (tX12_readOr_g kn g) 2
set_option maxRecDepth 100000 in
set_option maxHeartbeats 4000000 in
theorem mX12_readOr_g (kn : sKn) {g : List Value → sW → Option sR} {Dg : Nat} (hg : mM kn yX12_readSaid (Cond.code yX12_readSaid cX12_readSaid 4 (some .boolean) :: wsL_law) Dg false g) : mM kn yX12_readOr (Cond.code yX12_readOr cX12_readOr 2 (some .boolean) :: wsL_law) (Dg + 5) false (fX12_readOr_g kn g) := mM_W (fun n => mM_of (own := RX12) (ini := false) rfl (by decide +kernel) (by decide +kernel) (all_c (ok_aload_n dX12_readOr_0 rfl) (all_c (ok_callV (mX12_readAnd_g kn hg) (good_ws ws_good (fun _ h => h) kw1495) (by first | decide | omega) (by first | decide | omega) kw1496 kw1493 kw1494 kw1072 ⟨by decide +kernel, by decide +kernel, by decide +kernel⟩ rfl dX12_readOr_1) (all_c (ok_if_ne dX12_readOr_4 (by first | decide | omega)) (all_c (ok_stk (s_iconst dX12_readOr_7 (by first | decide | omega))) (all_c (ok_zret dX12_readOr_8) (all_c (ok_aload_n dX12_readOr_9 rfl) (all_c (okg_X12_59 kw1484 dX12_readOr_10) (all_c (ok_istore_n dX12_readOr_13 rfl (by first | decide | omega)) (all_c (ok_aload_n dX12_readOr_14 rfl) (all_c (ok_stk (s_bipush dX12_readOr_15 (by first | decide | omega))) (all_c (okc_X12_isWord (by first | decide | omega) kw1252 dX12_readOr_17) (all_c (ok_if_eq dX12_readOr_20 (by first | decide | omega)) (all_c (ok_aload_n dX12_readOr_23 rfl) (all_c (okc_X12_go (by first | decide | omega) kw1179 dX12_readOr_24) (all_c (ok_aload_n dX12_readOr_27 rfl) (all_c (ok_callV (mX12_readAnd_g kn hg) (good_ws ws_good (fun _ h => h) kw1495) (by first | decide | omega) (by first | decide | omega) kw1496 kw1493 kw1494 kw1072 ⟨by decide +kernel, by decide +kernel, by decide +kernel⟩ rfl dX12_readOr_28) (all_c (ok_if_ne dX12_readOr_31 (by first | decide | omega)) (all_c (ok_stk (s_iconst dX12_readOr_34 (by first | decide | omega))) (all_c (ok_zret dX12_readOr_35) (all_c (ok_aload_n dX12_readOr_36 rfl) (all_c (ok_stk (s_iconst dX12_readOr_37 (by first | decide | omega))) (all_c (ok_iload_n dX12_readOr_38 rfl) (all_c (ok_aload_n dX12_readOr_39 rfl) (all_c (okg_X12_59 kw1484 dX12_readOr_40) (all_c (ok_stk (s_iconst dX12_readOr_43 (by first | decide | omega))) (all_c (okc_X12_saysOne (by first | decide | omega) kw1483 dX12_readOr_44) (all_c (ok_istore_n dX12_readOr_47 rfl (by first | decide | omega)) (all_c (ok_goto dX12_readOr_48 (by first | decide | omega)) (all_c (ok_aload_n dX12_readOr_51 rfl) (all_c (ok_iload_n dX12_readOr_52 rfl) (all_c (okp_X12_59 kw1484 dX12_readOr_53) (all_c (ok_stk (s_iconst dX12_readOr_56 (by first | decide | omega))) (all_c (ok_zret dX12_readOr_57) all_n))))))))))))))))))))))))))))))))) n (fun h => by first | rfl | cases h))
theorem dX12_readBracket_0 : decode cX12_readBracket 0 = .ok (.aload_n 0, 1) := by decide +kernel
theorem dX12_readBracket_1 : decode cX12_readBracket 1 = .ok (.invokevirtual 505, 3) := by decide +kernel
theorem dX12_readBracket_4 : decode cX12_readBracket 4 = .ok (.ifCond .ne 5, 3) := by decide +kernel
theorem dX12_readBracket_7 : decode cX12_readBracket 7 = .ok (.iconst 0, 1) := by decide +kernel
theorem dX12_readBracket_8 : decode cX12_readBracket 8 = .ok (.ireturn, 1) := by decide +kernel
theorem dX12_readBracket_9 : decode cX12_readBracket 9 = .ok (.aload_n 0, 1) := by decide +kernel
theorem dX12_readBracket_10 : decode cX12_readBracket 10 = .ok (.bipush 41, 2) := by decide +kernel
theorem dX12_readBracket_12 : decode cX12_readBracket 12 = .ok (.invokevirtual 86, 3) := by decide +kernel
theorem dX12_readBracket_15 : decode cX12_readBracket 15 = .ok (.ifCond .ne 9, 3) := by decide +kernel
theorem dX12_readBracket_18 : decode cX12_readBracket 18 = .ok (.aload_n 0, 1) := by decide +kernel
theorem dX12_readBracket_19 : decode cX12_readBracket 19 = .ok (.iconst 1, 1) := by decide +kernel
theorem dX12_readBracket_20 : decode cX12_readBracket 20 = .ok (.invokevirtual 72, 3) := by decide +kernel
theorem dX12_readBracket_23 : decode cX12_readBracket 23 = .ok (.ireturn, 1) := by decide +kernel
theorem dX12_readBracket_24 : decode cX12_readBracket 24 = .ok (.aload_n 0, 1) := by decide +kernel
theorem dX12_readBracket_25 : decode cX12_readBracket 25 = .ok (.invokevirtual 82, 3) := by decide +kernel
theorem dX12_readBracket_28 : decode cX12_readBracket 28 = .ok (.iconst 1, 1) := by decide +kernel
theorem dX12_readBracket_29 : decode cX12_readBracket 29 = .ok (.ireturn, 1) := by decide +kernel
def tX12_readBracket_g (kn : sKn) (g : List Value → sW → Option sR) : List (Nat × sA) := [(0, a_aload 0 1), (1, a_callV false (fX12_readOr_g kn g) 13 1 4), (4, a_if kn b_ne 1 9 7), (7, a_stk (q_int 0) 8), (8, a_zret), (9, a_aload 0 10), (10, a_stk (q_int 41) 12), (12, a_callV false (fX12_isSign kn) 13 2 15), (15, a_if kn b_ne 1 24 18), (18, a_aload 0 19), (19, a_stk (q_int 1) 20), (20, a_callV false (fX12_bad kn) 13 2 23), (23, a_zret), (24, a_aload 0 25), (25, a_callV true (fX12_go kn) 13 1 28), (28, a_stk (q_int 1) 29), (29, a_zret)]
def fX12_readBracket_g (kn : sKn) (g : List Value → sW → Option sR) : List Value → sW → Option sR := fW (tX12_readBracket_g kn g) 1
set_option maxRecDepth 100000 in
set_option maxHeartbeats 4000000 in
theorem mX12_readBracket_g (kn : sKn) {g : List Value → sW → Option sR} {Dg : Nat} (hg : mM kn yX12_readSaid (Cond.code yX12_readSaid cX12_readSaid 4 (some .boolean) :: wsL_law) Dg false g) : mM kn yX12_readBracket (Cond.code yX12_readBracket cX12_readBracket 1 (some .boolean) :: wsL_law) (Dg + 6) false (fX12_readBracket_g kn g) := mM_W (fun n => mM_of (own := RX12) (ini := false) rfl (by decide +kernel) (by decide +kernel) (all_c (ok_aload_n dX12_readBracket_0 rfl) (all_c (ok_callV (mX12_readOr_g kn hg) (good_ws ws_good (fun _ h => h) kw1499) (by first | decide | omega) (by first | decide | omega) kw1500 kw1497 kw1498 kw1072 ⟨by decide +kernel, by decide +kernel, by decide +kernel⟩ rfl dX12_readBracket_1) (all_c (ok_if_ne dX12_readBracket_4 (by first | decide | omega)) (all_c (ok_stk (s_iconst dX12_readBracket_7 (by first | decide | omega))) (all_c (ok_zret dX12_readBracket_8) (all_c (ok_aload_n dX12_readBracket_9 rfl) (all_c (ok_stk (s_bipush dX12_readBracket_10 (by first | decide | omega))) (all_c (okc_X12_isSign (by first | decide | omega) kw1272 dX12_readBracket_12) (all_c (ok_if_ne dX12_readBracket_15 (by first | decide | omega)) (all_c (ok_aload_n dX12_readBracket_18 rfl) (all_c (ok_stk (s_iconst dX12_readBracket_19 (by first | decide | omega))) (all_c (okc_X12_bad (by first | decide | omega) kw1243 dX12_readBracket_20) (all_c (ok_zret dX12_readBracket_23) (all_c (ok_aload_n dX12_readBracket_24 rfl) (all_c (okc_X12_go (by first | decide | omega) kw1179 dX12_readBracket_25) (all_c (ok_stk (s_iconst dX12_readBracket_28 (by first | decide | omega))) (all_c (ok_zret dX12_readBracket_29) all_n))))))))))))))))) n (fun h => by first | rfl | cases h))
theorem dX12_readNot_0 : decode cX12_readNot 0 = .ok (.aload_n 0, 1) := by decide +kernel
theorem dX12_readNot_1 : decode cX12_readNot 1 = .ok (.invokevirtual 484, 3) := by decide +kernel
theorem dX12_readNot_4 : decode cX12_readNot 4 = .ok (.ifCond .ne 5, 3) := by decide +kernel
theorem dX12_readNot_7 : decode cX12_readNot 7 = .ok (.iconst 0, 1) := by decide +kernel
theorem dX12_readNot_8 : decode cX12_readNot 8 = .ok (.ireturn, 1) := by decide +kernel
theorem dX12_readNot_9 : decode cX12_readNot 9 = .ok (.aload_n 0, 1) := by decide +kernel
theorem dX12_readNot_10 : decode cX12_readNot 10 = .ok (.aload_n 0, 1) := by decide +kernel
theorem dX12_readNot_11 : decode cX12_readNot 11 = .ok (.iconst 1, 1) := by decide +kernel
theorem dX12_readNot_12 : decode cX12_readNot 12 = .ok (.aload_n 0, 1) := by decide +kernel
theorem dX12_readNot_13 : decode cX12_readNot 13 = .ok (.getfield 478, 3) := by decide +kernel
theorem dX12_readNot_16 : decode cX12_readNot 16 = .ok (.iconst 0, 1) := by decide +kernel
theorem dX12_readNot_17 : decode cX12_readNot 17 = .ok (.iconst 0, 1) := by decide +kernel
theorem dX12_readNot_18 : decode cX12_readNot 18 = .ok (.invokevirtual 481, 3) := by decide +kernel
theorem dX12_readNot_21 : decode cX12_readNot 21 = .ok (.putfield 478, 3) := by decide +kernel
theorem dX12_readNot_24 : decode cX12_readNot 24 = .ok (.iconst 1, 1) := by decide +kernel
theorem dX12_readNot_25 : decode cX12_readNot 25 = .ok (.ireturn, 1) := by decide +kernel
def tX12_readNot_g (kn : sKn) (g : List Value → sW → Option sR) : List (Nat × sA) := [(0, a_aload 0 1), (1, a_callV false g 13 1 4), (4, a_if kn b_ne 1 9 7), (7, a_stk (q_int 0) 8), (8, a_zret), (9, a_aload 0 10), (10, a_aload 0 11), (11, a_stk (q_int 1) 12), (12, a_aload 0 13), (13, a_get 13 59 16), (16, a_stk (q_int 0) 17), (17, a_stk (q_int 0) 18), (18, a_callV false (fX12_saysOne kn) 13 5 21), (21, a_put 13 59 ckI 24), (24, a_stk (q_int 1) 25), (25, a_zret)]
def fX12_readNot_g (kn : sKn) (g : List Value → sW → Option sR) : List Value → sW → Option sR := fW (tX12_readNot_g kn g) 1
set_option maxRecDepth 100000 in
set_option maxHeartbeats 4000000 in
theorem mX12_readNot_g (kn : sKn) {g : List Value → sW → Option sR} {Dg : Nat} (hg : mM kn yX12_readSaid (Cond.code yX12_readSaid cX12_readSaid 4 (some .boolean) :: wsL_law) Dg false g) : mM kn yX12_readNot (Cond.code yX12_readNot cX12_readNot 1 (some .boolean) :: wsL_law) (Dg + 2) false (fX12_readNot_g kn g) := mM_W (fun n => mM_of (own := RX12) (ini := false) rfl (by decide +kernel) (by decide +kernel) (all_c (ok_aload_n dX12_readNot_0 rfl) (all_c (ok_callV hg (good_ws ws_good (fun _ h => h) kw1491) (by first | decide | omega) (by first | decide | omega) kw1492 kw1489 kw1490 kw1072 ⟨by decide +kernel, by decide +kernel, by decide +kernel⟩ rfl dX12_readNot_1) (all_c (ok_if_ne dX12_readNot_4 (by first | decide | omega)) (all_c (ok_stk (s_iconst dX12_readNot_7 (by first | decide | omega))) (all_c (ok_zret dX12_readNot_8) (all_c (ok_aload_n dX12_readNot_9 rfl) (all_c (ok_aload_n dX12_readNot_10 rfl) (all_c (ok_stk (s_iconst dX12_readNot_11 (by first | decide | omega))) (all_c (ok_aload_n dX12_readNot_12 rfl) (all_c (okg_X12_59 kw1484 dX12_readNot_13) (all_c (ok_stk (s_iconst dX12_readNot_16 (by first | decide | omega))) (all_c (ok_stk (s_iconst dX12_readNot_17 (by first | decide | omega))) (all_c (okc_X12_saysOne (by first | decide | omega) kw1483 dX12_readNot_18) (all_c (okp_X12_59 kw1484 dX12_readNot_21) (all_c (ok_stk (s_iconst dX12_readNot_24 (by first | decide | omega))) (all_c (ok_zret dX12_readNot_25) all_n)))))))))))))))) n (fun h => by first | rfl | cases h))
theorem dX12_readSaid_0 : decode cX12_readSaid 0 = .ok (.aload_n 0, 1) := by decide +kernel
theorem dX12_readSaid_1 : decode cX12_readSaid 1 = .ok (.bipush 40, 2) := by decide +kernel
theorem dX12_readSaid_3 : decode cX12_readSaid 3 = .ok (.invokevirtual 86, 3) := by decide +kernel
theorem dX12_readSaid_6 : decode cX12_readSaid 6 = .ok (.istore_n 1, 1) := by decide +kernel
theorem dX12_readSaid_7 : decode cX12_readSaid 7 = .ok (.bipush 17, 2) := by decide +kernel
theorem dX12_readSaid_9 : decode cX12_readSaid 9 = .ok (.istore_n 2, 1) := by decide +kernel
theorem dX12_readSaid_10 : decode cX12_readSaid 10 = .ok (.iload_n 2, 1) := by decide +kernel
theorem dX12_readSaid_11 : decode cX12_readSaid 11 = .ok (.bipush 26, 2) := by decide +kernel
theorem dX12_readSaid_13 : decode cX12_readSaid 13 = .ok (.if_icmp .gt 17, 3) := by decide +kernel
theorem dX12_readSaid_16 : decode cX12_readSaid 16 = .ok (.aload_n 0, 1) := by decide +kernel
theorem dX12_readSaid_17 : decode cX12_readSaid 17 = .ok (.iload_n 2, 1) := by decide +kernel
theorem dX12_readSaid_18 : decode cX12_readSaid 18 = .ok (.invokevirtual 219, 3) := by decide +kernel
theorem dX12_readSaid_21 : decode cX12_readSaid 21 = .ok (.ifCond .ne 9, 3) := by decide +kernel
theorem dX12_readSaid_24 : decode cX12_readSaid 24 = .ok (.iinc 2 1, 3) := by decide +kernel
theorem dX12_readSaid_27 : decode cX12_readSaid 27 = .ok (.goto (-17), 3) := by decide +kernel
theorem dX12_readSaid_30 : decode cX12_readSaid 30 = .ok (.iload_n 1, 1) := by decide +kernel
theorem dX12_readSaid_31 : decode cX12_readSaid 31 = .ok (.ifCond .ne 15, 3) := by decide +kernel
theorem dX12_readSaid_34 : decode cX12_readSaid 34 = .ok (.iload_n 2, 1) := by decide +kernel
theorem dX12_readSaid_35 : decode cX12_readSaid 35 = .ok (.bipush 26, 2) := by decide +kernel
theorem dX12_readSaid_37 : decode cX12_readSaid 37 = .ok (.if_icmp .le 9, 3) := by decide +kernel
theorem dX12_readSaid_40 : decode cX12_readSaid 40 = .ok (.aload_n 0, 1) := by decide +kernel
theorem dX12_readSaid_41 : decode cX12_readSaid 41 = .ok (.iconst 1, 1) := by decide +kernel
theorem dX12_readSaid_42 : decode cX12_readSaid 42 = .ok (.invokevirtual 72, 3) := by decide +kernel
theorem dX12_readSaid_45 : decode cX12_readSaid 45 = .ok (.ireturn, 1) := by decide +kernel
theorem dX12_readSaid_46 : decode cX12_readSaid 46 = .ok (.aload_n 0, 1) := by decide +kernel
theorem dX12_readSaid_47 : decode cX12_readSaid 47 = .ok (.getfield 487, 3) := by decide +kernel
theorem dX12_readSaid_50 : decode cX12_readSaid 50 = .ok (.bipush 20, 2) := by decide +kernel
theorem dX12_readSaid_52 : decode cX12_readSaid 52 = .ok (.if_icmp .eq 12, 3) := by decide +kernel
theorem dX12_readSaid_55 : decode cX12_readSaid 55 = .ok (.aload_n 0, 1) := by decide +kernel
theorem dX12_readSaid_56 : decode cX12_readSaid 56 = .ok (.getfield 490, 3) := by decide +kernel
theorem dX12_readSaid_59 : decode cX12_readSaid 59 = .ok (.bipush 8, 2) := by decide +kernel
theorem dX12_readSaid_61 : decode cX12_readSaid 61 = .ok (.if_icmp .ne 9, 3) := by decide +kernel
theorem dX12_readSaid_64 : decode cX12_readSaid 64 = .ok (.aload_n 0, 1) := by decide +kernel
theorem dX12_readSaid_65 : decode cX12_readSaid 65 = .ok (.iconst 4, 1) := by decide +kernel
theorem dX12_readSaid_66 : decode cX12_readSaid 66 = .ok (.invokevirtual 72, 3) := by decide +kernel
theorem dX12_readSaid_69 : decode cX12_readSaid 69 = .ok (.ireturn, 1) := by decide +kernel
theorem dX12_readSaid_70 : decode cX12_readSaid 70 = .ok (.aload_n 0, 1) := by decide +kernel
theorem dX12_readSaid_71 : decode cX12_readSaid 71 = .ok (.dup, 1) := by decide +kernel
theorem dX12_readSaid_72 : decode cX12_readSaid 72 = .ok (.getfield 487, 3) := by decide +kernel
theorem dX12_readSaid_75 : decode cX12_readSaid 75 = .ok (.iconst 1, 1) := by decide +kernel
theorem dX12_readSaid_76 : decode cX12_readSaid 76 = .ok (.iadd, 1) := by decide +kernel
theorem dX12_readSaid_77 : decode cX12_readSaid 77 = .ok (.putfield 487, 3) := by decide +kernel
theorem dX12_readSaid_80 : decode cX12_readSaid 80 = .ok (.aload_n 0, 1) := by decide +kernel
theorem dX12_readSaid_81 : decode cX12_readSaid 81 = .ok (.dup, 1) := by decide +kernel
theorem dX12_readSaid_82 : decode cX12_readSaid 82 = .ok (.getfield 490, 3) := by decide +kernel
theorem dX12_readSaid_85 : decode cX12_readSaid 85 = .ok (.iconst 1, 1) := by decide +kernel
theorem dX12_readSaid_86 : decode cX12_readSaid 86 = .ok (.iadd, 1) := by decide +kernel
theorem dX12_readSaid_87 : decode cX12_readSaid 87 = .ok (.putfield 490, 3) := by decide +kernel
theorem dX12_readSaid_90 : decode cX12_readSaid 90 = .ok (.aload_n 0, 1) := by decide +kernel
theorem dX12_readSaid_91 : decode cX12_readSaid 91 = .ok (.invokevirtual 82, 3) := by decide +kernel
theorem dX12_readSaid_94 : decode cX12_readSaid 94 = .ok (.iconst 1, 1) := by decide +kernel
theorem dX12_readSaid_95 : decode cX12_readSaid 95 = .ok (.istore_n 3, 1) := by decide +kernel
theorem dX12_readSaid_96 : decode cX12_readSaid 96 = .ok (.iload_n 1, 1) := by decide +kernel
theorem dX12_readSaid_97 : decode cX12_readSaid 97 = .ok (.ifCond .eq 11, 3) := by decide +kernel
theorem dX12_readSaid_100 : decode cX12_readSaid 100 = .ok (.aload_n 0, 1) := by decide +kernel
theorem dX12_readSaid_101 : decode cX12_readSaid 101 = .ok (.invokevirtual 493, 3) := by decide +kernel
theorem dX12_readSaid_104 : decode cX12_readSaid 104 = .ok (.istore_n 3, 1) := by decide +kernel
theorem dX12_readSaid_105 : decode cX12_readSaid 105 = .ok (.goto 61, 3) := by decide +kernel
theorem dX12_readSaid_108 : decode cX12_readSaid 108 = .ok (.iload_n 2, 1) := by decide +kernel
theorem dX12_readSaid_109 : decode cX12_readSaid 109 = .ok (.bipush 17, 2) := by decide +kernel
theorem dX12_readSaid_111 : decode cX12_readSaid 111 = .ok (.if_icmp .ne 11, 3) := by decide +kernel
theorem dX12_readSaid_114 : decode cX12_readSaid 114 = .ok (.aload_n 0, 1) := by decide +kernel
theorem dX12_readSaid_115 : decode cX12_readSaid 115 = .ok (.invokevirtual 496, 3) := by decide +kernel
theorem dX12_readSaid_118 : decode cX12_readSaid 118 = .ok (.istore_n 3, 1) := by decide +kernel
theorem dX12_readSaid_119 : decode cX12_readSaid 119 = .ok (.goto 47, 3) := by decide +kernel
theorem dX12_readSaid_122 : decode cX12_readSaid 122 = .ok (.iload_n 2, 1) := by decide +kernel
theorem dX12_readSaid_123 : decode cX12_readSaid 123 = .ok (.bipush 20, 2) := by decide +kernel
theorem dX12_readSaid_125 : decode cX12_readSaid 125 = .ok (.if_icmp .ge 21, 3) := by decide +kernel
theorem dX12_readSaid_128 : decode cX12_readSaid 128 = .ok (.aload_n 0, 1) := by decide +kernel
theorem dX12_readSaid_129 : decode cX12_readSaid 129 = .ok (.aload_n 0, 1) := by decide +kernel
theorem dX12_readSaid_130 : decode cX12_readSaid 130 = .ok (.bipush 50, 2) := by decide +kernel
theorem dX12_readSaid_132 : decode cX12_readSaid 132 = .ok (.iload_n 2, 1) := by decide +kernel
theorem dX12_readSaid_133 : decode cX12_readSaid 133 = .ok (.iadd, 1) := by decide +kernel
theorem dX12_readSaid_134 : decode cX12_readSaid 134 = .ok (.iconst 0, 1) := by decide +kernel
theorem dX12_readSaid_135 : decode cX12_readSaid 135 = .ok (.iconst 0, 1) := by decide +kernel
theorem dX12_readSaid_136 : decode cX12_readSaid 136 = .ok (.iconst 0, 1) := by decide +kernel
theorem dX12_readSaid_137 : decode cX12_readSaid 137 = .ok (.invokevirtual 481, 3) := by decide +kernel
theorem dX12_readSaid_140 : decode cX12_readSaid 140 = .ok (.putfield 478, 3) := by decide +kernel
theorem dX12_readSaid_143 : decode cX12_readSaid 143 = .ok (.goto 23, 3) := by decide +kernel
theorem dX12_readSaid_146 : decode cX12_readSaid 146 = .ok (.iload_n 2, 1) := by decide +kernel
theorem dX12_readSaid_147 : decode cX12_readSaid 147 = .ok (.bipush 23, 2) := by decide +kernel
theorem dX12_readSaid_149 : decode cX12_readSaid 149 = .ok (.if_icmp .ge 11, 3) := by decide +kernel
theorem dX12_readSaid_152 : decode cX12_readSaid 152 = .ok (.aload_n 0, 1) := by decide +kernel
theorem dX12_readSaid_153 : decode cX12_readSaid 153 = .ok (.iload_n 2, 1) := by decide +kernel
theorem dX12_readSaid_154 : decode cX12_readSaid 154 = .ok (.invokevirtual 499, 3) := by decide +kernel
theorem dX12_readSaid_157 : decode cX12_readSaid 157 = .ok (.goto 8, 3) := by decide +kernel
theorem dX12_readSaid_160 : decode cX12_readSaid 160 = .ok (.aload_n 0, 1) := by decide +kernel
theorem dX12_readSaid_161 : decode cX12_readSaid 161 = .ok (.iload_n 2, 1) := by decide +kernel
theorem dX12_readSaid_162 : decode cX12_readSaid 162 = .ok (.invokevirtual 502, 3) := by decide +kernel
theorem dX12_readSaid_165 : decode cX12_readSaid 165 = .ok (.istore_n 3, 1) := by decide +kernel
theorem dX12_readSaid_166 : decode cX12_readSaid 166 = .ok (.aload_n 0, 1) := by decide +kernel
theorem dX12_readSaid_167 : decode cX12_readSaid 167 = .ok (.dup, 1) := by decide +kernel
theorem dX12_readSaid_168 : decode cX12_readSaid 168 = .ok (.getfield 490, 3) := by decide +kernel
theorem dX12_readSaid_171 : decode cX12_readSaid 171 = .ok (.iconst 1, 1) := by decide +kernel
theorem dX12_readSaid_172 : decode cX12_readSaid 172 = .ok (.isub, 1) := by decide +kernel
theorem dX12_readSaid_173 : decode cX12_readSaid 173 = .ok (.putfield 490, 3) := by decide +kernel
theorem dX12_readSaid_176 : decode cX12_readSaid 176 = .ok (.iload_n 3, 1) := by decide +kernel
theorem dX12_readSaid_177 : decode cX12_readSaid 177 = .ok (.ireturn, 1) := by decide +kernel
theorem okc_X12_readOf {kn : sKn} {cc : ByteArray} {own : String} {nL : Nat} {D : Nat} {ret : Option FieldType} {ini : Bool} {pc index : Nat} (hD : 5 + 1 ≤ D) (hl : Cond.methodLink own index yX12_readOf ∈ wsL_law) (hd : decode cc pc = .ok (.invokevirtual index, 3)) : mOk kn cc own nL wsL_law D ret ini pc (a_callV false (fX12_readOf kn) 13 (1 + 1) (pc + 3)) := ok_callV (mX12_readOf kn) (good_ws ws_good (fun _ h => h) kw1511) hD (by decide) hl kw1512 kw1513 kw1072 ⟨by decide +kernel, by decide +kernel, by decide +kernel⟩ rfl hd
theorem okc_X12_readCompare {kn : sKn} {cc : ByteArray} {own : String} {nL : Nat} {D : Nat} {ret : Option FieldType} {ini : Bool} {pc index : Nat} (hD : 4 + 1 ≤ D) (hl : Cond.methodLink own index yX12_readCompare ∈ wsL_law) (hd : decode cc pc = .ok (.invokevirtual index, 3)) : mOk kn cc own nL wsL_law D ret ini pc (a_callV false (fX12_readCompare kn) 13 (1 + 1) (pc + 3)) := ok_callV (mX12_readCompare kn) (good_ws ws_good (fun _ h => h) kw1515) hD (by decide) hl kw1516 kw1517 kw1072 ⟨by decide +kernel, by decide +kernel, by decide +kernel⟩ rfl hd
def tX12_readSaid_g (kn : sKn) (g : List Value → sW → Option sR) : List (Nat × sA) := [(0, a_aload 0 1), (1, a_stk (q_int 40) 3), (3, a_callV false (fX12_isSign kn) 13 2 6), (6, a_istore 1 7), (7, a_stk (q_int 17) 9), (9, a_istore 2 10), (10, a_iload 2 11), (11, a_stk (q_int 26) 13), (13, a_icmp kn b_gt 4 30 16), (16, a_aload 0 17), (17, a_iload 2 18), (18, a_callV false (fX12_isWord kn) 13 2 21), (21, a_if kn b_ne 1 30 24), (24, a_iinc 2 1 27), (27, a_goto 10), (30, a_iload 1 31), (31, a_if kn b_ne 1 46 34), (34, a_iload 2 35), (35, a_stk (q_int 26) 37), (37, a_icmp kn b_le 5 46 40), (40, a_aload 0 41), (41, a_stk (q_int 1) 42), (42, a_callV false (fX12_bad kn) 13 2 45), (45, a_zret), (46, a_aload 0 47), (47, a_get 13 57 50), (50, a_stk (q_int 20) 52), (52, a_icmp kn b_eq 0 64 55), (55, a_aload 0 56), (56, a_get 13 58 59), (59, a_stk (q_int 8) 61), (61, a_icmp kn b_ne 1 70 64), (64, a_aload 0 65), (65, a_stk (q_int 4) 66), (66, a_callV false (fX12_bad kn) 13 2 69), (69, a_zret), (70, a_aload 0 71), (71, a_stk q_dup 72), (72, a_get 13 57 75), (75, a_stk (q_int 1) 76), (76, a_stk q_iadd 77), (77, a_put 13 57 ckI 80), (80, a_aload 0 81), (81, a_stk q_dup 82), (82, a_get 13 58 85), (85, a_stk (q_int 1) 86), (86, a_stk q_iadd 87), (87, a_put 13 58 ckI 90), (90, a_aload 0 91), (91, a_callV true (fX12_go kn) 13 1 94), (94, a_stk (q_int 1) 95), (95, a_istore 3 96), (96, a_iload 1 97), (97, a_if kn b_eq 0 108 100), (100, a_aload 0 101), (101, a_callV false (fX12_readBracket_g kn g) 13 1 104), (104, a_istore 3 105), (105, a_goto 166), (108, a_iload 2 109), (109, a_stk (q_int 17) 111), (111, a_icmp kn b_ne 1 122 114), (114, a_aload 0 115), (115, a_callV false (fX12_readNot_g kn g) 13 1 118), (118, a_istore 3 119), (119, a_goto 166), (122, a_iload 2 123), (123, a_stk (q_int 20) 125), (125, a_icmp kn b_ge 3 146 128), (128, a_aload 0 129), (129, a_aload 0 130), (130, a_stk (q_int 50) 132), (132, a_iload 2 133), (133, a_stk q_iadd 134), (134, a_stk (q_int 0) 135), (135, a_stk (q_int 0) 136), (136, a_stk (q_int 0) 137), (137, a_callV false (fX12_saysOne kn) 13 5 140), (140, a_put 13 59 ckI 143), (143, a_goto 166), (146, a_iload 2 147), (147, a_stk (q_int 23) 149), (149, a_icmp kn b_ge 3 160 152), (152, a_aload 0 153), (153, a_iload 2 154), (154, a_callV false (fX12_readOf kn) 13 2 157), (157, a_goto 165), (160, a_aload 0 161), (161, a_iload 2 162), (162, a_callV false (fX12_readCompare kn) 13 2 165), (165, a_istore 3 166), (166, a_aload 0 167), (167, a_stk q_dup 168), (168, a_get 13 58 171), (171, a_stk (q_int 1) 172), (172, a_stk q_isub 173), (173, a_put 13 58 ckI 176), (176, a_iload 3 177), (177, a_zret)]
def fX12_readSaid_g (kn : sKn) (g : List Value → sW → Option sR) : List Value → sW → Option sR := fW (tX12_readSaid_g kn g) 4
set_option maxRecDepth 100000 in
set_option maxHeartbeats 4000000 in
theorem mX12_readSaid_g (kn : sKn) {g : List Value → sW → Option sR} {Dg : Nat} (hg : mM kn yX12_readSaid (Cond.code yX12_readSaid cX12_readSaid 4 (some .boolean) :: wsL_law) Dg false g) : mM kn yX12_readSaid (Cond.code yX12_readSaid cX12_readSaid 4 (some .boolean) :: wsL_law) (Dg + 7) false (fX12_readSaid_g kn g) := mM_W (fun n => mM_of (own := RX12) (ini := false) rfl (by decide +kernel) (by decide +kernel) (all_c (ok_aload_n dX12_readSaid_0 rfl) (all_c (ok_stk (s_bipush dX12_readSaid_1 (by first | decide | omega))) (all_c (okc_X12_isSign (by first | decide | omega) kw1272 dX12_readSaid_3) (all_c (ok_istore_n dX12_readSaid_6 rfl (by first | decide | omega)) (all_c (ok_stk (s_bipush dX12_readSaid_7 (by first | decide | omega))) (all_c (ok_istore_n dX12_readSaid_9 rfl (by first | decide | omega)) (all_c (ok_iload_n dX12_readSaid_10 rfl) (all_c (ok_stk (s_bipush dX12_readSaid_11 (by first | decide | omega))) (all_c (ok_icmp_gt dX12_readSaid_13 (by first | decide | omega)) (all_c (ok_aload_n dX12_readSaid_16 rfl) (all_c (ok_iload_n dX12_readSaid_17 rfl) (all_c (okc_X12_isWord (by first | decide | omega) kw1252 dX12_readSaid_18) (all_c (ok_if_ne dX12_readSaid_21 (by first | decide | omega)) (all_c (ok_iinc dX12_readSaid_24 (by first | decide | omega) (by first | decide | omega)) (all_c (ok_goto dX12_readSaid_27 (by first | decide | omega)) (all_c (ok_iload_n dX12_readSaid_30 rfl) (all_c (ok_if_ne dX12_readSaid_31 (by first | decide | omega)) (all_c (ok_iload_n dX12_readSaid_34 rfl) (all_c (ok_stk (s_bipush dX12_readSaid_35 (by first | decide | omega))) (all_c (ok_icmp_le dX12_readSaid_37 (by first | decide | omega)) (all_c (ok_aload_n dX12_readSaid_40 rfl) (all_c (ok_stk (s_iconst dX12_readSaid_41 (by first | decide | omega))) (all_c (okc_X12_bad (by first | decide | omega) kw1243 dX12_readSaid_42) (all_c (ok_zret dX12_readSaid_45) (all_c (ok_aload_n dX12_readSaid_46 rfl) (all_c (okg_X12_57 kw1501 dX12_readSaid_47) (all_c (ok_stk (s_bipush dX12_readSaid_50 (by first | decide | omega))) (all_c (ok_icmp_eq dX12_readSaid_52 (by first | decide | omega)) (all_c (ok_aload_n dX12_readSaid_55 rfl) (all_c (okg_X12_58 kw1502 dX12_readSaid_56) (all_c (ok_stk (s_bipush dX12_readSaid_59 (by first | decide | omega))) (all_c (ok_icmp_ne dX12_readSaid_61 (by first | decide | omega)) (all_c (ok_aload_n dX12_readSaid_64 rfl) (all_c (ok_stk (s_iconst dX12_readSaid_65 (by first | decide | omega))) (all_c (okc_X12_bad (by first | decide | omega) kw1243 dX12_readSaid_66) (all_c (ok_zret dX12_readSaid_69) (all_c (ok_aload_n dX12_readSaid_70 rfl) (all_c (ok_stk (s_dup dX12_readSaid_71)) (all_c (okg_X12_57 kw1501 dX12_readSaid_72) (all_c (ok_stk (s_iconst dX12_readSaid_75 (by first | decide | omega))) (all_c (ok_stk (s_iadd dX12_readSaid_76)) (all_c (okp_X12_57 kw1501 dX12_readSaid_77) (all_c (ok_aload_n dX12_readSaid_80 rfl) (all_c (ok_stk (s_dup dX12_readSaid_81)) (all_c (okg_X12_58 kw1502 dX12_readSaid_82) (all_c (ok_stk (s_iconst dX12_readSaid_85 (by first | decide | omega))) (all_c (ok_stk (s_iadd dX12_readSaid_86)) (all_c (okp_X12_58 kw1502 dX12_readSaid_87) (all_c (ok_aload_n dX12_readSaid_90 rfl) (all_c (okc_X12_go (by first | decide | omega) kw1179 dX12_readSaid_91) (all_c (ok_stk (s_iconst dX12_readSaid_94 (by first | decide | omega))) (all_c (ok_istore_n dX12_readSaid_95 rfl (by first | decide | omega)) (all_c (ok_iload_n dX12_readSaid_96 rfl) (all_c (ok_if_eq dX12_readSaid_97 (by first | decide | omega)) (all_c (ok_aload_n dX12_readSaid_100 rfl) (all_c (ok_callV (mX12_readBracket_g kn hg) (good_ws ws_good (fun _ h => h) kw1505) (by first | decide | omega) (by first | decide | omega) kw1506 kw1503 kw1504 kw1072 ⟨by decide +kernel, by decide +kernel, by decide +kernel⟩ rfl dX12_readSaid_101) (all_c (ok_istore_n dX12_readSaid_104 rfl (by first | decide | omega)) (all_c (ok_goto dX12_readSaid_105 (by first | decide | omega)) (all_c (ok_iload_n dX12_readSaid_108 rfl) (all_c (ok_stk (s_bipush dX12_readSaid_109 (by first | decide | omega))) (all_c (ok_icmp_ne dX12_readSaid_111 (by first | decide | omega)) (all_c (ok_aload_n dX12_readSaid_114 rfl) (all_c (ok_callV (mX12_readNot_g kn hg) (good_ws ws_good (fun _ h => h) kw1509) (by first | decide | omega) (by first | decide | omega) kw1510 kw1507 kw1508 kw1072 ⟨by decide +kernel, by decide +kernel, by decide +kernel⟩ rfl dX12_readSaid_115) (all_c (ok_istore_n dX12_readSaid_118 rfl (by first | decide | omega)) (all_c (ok_goto dX12_readSaid_119 (by first | decide | omega)) (all_c (ok_iload_n dX12_readSaid_122 rfl) (all_c (ok_stk (s_bipush dX12_readSaid_123 (by first | decide | omega))) (all_c (ok_icmp_ge dX12_readSaid_125 (by first | decide | omega)) (all_c (ok_aload_n dX12_readSaid_128 rfl) (all_c (ok_aload_n dX12_readSaid_129 rfl) (all_c (ok_stk (s_bipush dX12_readSaid_130 (by first | decide | omega))) (all_c (ok_iload_n dX12_readSaid_132 rfl) (all_c (ok_stk (s_iadd dX12_readSaid_133)) (all_c (ok_stk (s_iconst dX12_readSaid_134 (by first | decide | omega))) (all_c (ok_stk (s_iconst dX12_readSaid_135 (by first | decide | omega))) (all_c (ok_stk (s_iconst dX12_readSaid_136 (by first | decide | omega))) (all_c (okc_X12_saysOne (by first | decide | omega) kw1483 dX12_readSaid_137) (all_c (okp_X12_59 kw1484 dX12_readSaid_140) (all_c (ok_goto dX12_readSaid_143 (by first | decide | omega)) (all_c (ok_iload_n dX12_readSaid_146 rfl) (all_c (ok_stk (s_bipush dX12_readSaid_147 (by first | decide | omega))) (all_c (ok_icmp_ge dX12_readSaid_149 (by first | decide | omega)) (all_c (ok_aload_n dX12_readSaid_152 rfl) (all_c (ok_iload_n dX12_readSaid_153 rfl) (all_c (okc_X12_readOf (by first | decide | omega) kw1514 dX12_readSaid_154) (all_c (ok_goto dX12_readSaid_157 (by first | decide | omega)) (all_c (ok_aload_n dX12_readSaid_160 rfl) (all_c (ok_iload_n dX12_readSaid_161 rfl) (all_c (okc_X12_readCompare (by first | decide | omega) kw1518 dX12_readSaid_162) (all_c (ok_istore_n dX12_readSaid_165 rfl (by first | decide | omega)) (all_c (ok_aload_n dX12_readSaid_166 rfl) (all_c (ok_stk (s_dup dX12_readSaid_167)) (all_c (okg_X12_58 kw1502 dX12_readSaid_168) (all_c (ok_stk (s_iconst dX12_readSaid_171 (by first | decide | omega))) (all_c (ok_stk (s_isub dX12_readSaid_172)) (all_c (okp_X12_58 kw1502 dX12_readSaid_173) (all_c (ok_iload_n dX12_readSaid_176 rfl) (all_c (ok_zret dX12_readSaid_177) all_n)))))))))))))))))))))))))))))))))))))))))))))))))))))))))))))))))))))))))))))))))))))))))))))))))) n (fun h => by first | rfl | cases h))
def fX12_readSaid_n (kn : sKn) (n : Nat) : List Value → sW → Option sR := Nat.rec (motive := fun _ => List Value → sW → Option sR) f_none (fun _ g => fX12_readSaid_g kn g) n
theorem mX12_readSaid_n (kn : sKn) : ∀ n, mM kn yX12_readSaid (Cond.code yX12_readSaid cX12_readSaid 4 (some .boolean) :: wsL_law) (n * 7) false (fX12_readSaid_n kn n) := by
  intro n
  induction n with
  | zero => exact m_none
  | succ n ih =>
    have h := mX12_readSaid_g kn ih
    rw [Nat.succ_mul]
    exact h
def fX12_readSaid (kn : sKn) : List Value → sW → Option sR := fX12_readSaid_n kn 10
theorem mX12_readSaid (kn : sKn) : mM kn yX12_readSaid (Cond.code yX12_readSaid cX12_readSaid 4 (some .boolean) :: wsL_law) 70 false (fX12_readSaid kn) := mX12_readSaid_n kn 10
def fX12_readAnd (kn : sKn) : List Value → sW → Option sR := fX12_readAnd_g kn (fX12_readSaid kn)
theorem mX12_readAnd (kn : sKn) : mM kn yX12_readAnd (Cond.code yX12_readAnd cX12_readAnd 2 (some .boolean) :: wsL_law) 74 false (fX12_readAnd kn) := mX12_readAnd_g kn (mX12_readSaid kn)
def fX12_readOr (kn : sKn) : List Value → sW → Option sR := fX12_readOr_g kn (fX12_readSaid kn)
theorem mX12_readOr (kn : sKn) : mM kn yX12_readOr (Cond.code yX12_readOr cX12_readOr 2 (some .boolean) :: wsL_law) 75 false (fX12_readOr kn) := mX12_readOr_g kn (mX12_readSaid kn)
def fX12_readBracket (kn : sKn) : List Value → sW → Option sR := fX12_readBracket_g kn (fX12_readSaid kn)
theorem mX12_readBracket (kn : sKn) : mM kn yX12_readBracket (Cond.code yX12_readBracket cX12_readBracket 1 (some .boolean) :: wsL_law) 76 false (fX12_readBracket kn) := mX12_readBracket_g kn (mX12_readSaid kn)
def fX12_readNot (kn : sKn) : List Value → sW → Option sR := fX12_readNot_g kn (fX12_readSaid kn)
theorem mX12_readNot (kn : sKn) : mM kn yX12_readNot (Cond.code yX12_readNot cX12_readNot 1 (some .boolean) :: wsL_law) 72 false (fX12_readNot kn) := mX12_readNot_g kn (mX12_readSaid kn)
theorem dX12_restore_0 : decode cX12_restore 0 = .ok (.aload_n 0, 1) := by decide +kernel
theorem dX12_restore_1 : decode cX12_restore 1 = .ok (.iconst 0, 1) := by decide +kernel
theorem dX12_restore_2 : decode cX12_restore 2 = .ok (.putfield 1, 3) := by decide +kernel
theorem dX12_restore_5 : decode cX12_restore 5 = .ok (.iload_n 1, 1) := by decide +kernel
theorem dX12_restore_6 : decode cX12_restore 6 = .ok (.iconst 0, 1) := by decide +kernel
theorem dX12_restore_7 : decode cX12_restore 7 = .ok (.iconst 1, 1) := by decide +kernel
theorem dX12_restore_8 : decode cX12_restore 8 = .ok (.invokestatic 75, 3) := by decide +kernel
theorem dX12_restore_11 : decode cX12_restore 11 = .ok (.ifCond .eq 12, 3) := by decide +kernel
theorem dX12_restore_14 : decode cX12_restore 14 = .ok (.aload_n 0, 1) := by decide +kernel
theorem dX12_restore_15 : decode cX12_restore 15 = .ok (.getfield 123, 3) := by decide +kernel
theorem dX12_restore_18 : decode cX12_restore 18 = .ok (.iload_n 1, 1) := by decide +kernel
theorem dX12_restore_19 : decode cX12_restore 19 = .ok (.baload, 1) := by decide +kernel
theorem dX12_restore_20 : decode cX12_restore 20 = .ok (.ifCond .ne 5, 3) := by decide +kernel
theorem dX12_restore_23 : decode cX12_restore 23 = .ok (.iconst 0, 1) := by decide +kernel
theorem dX12_restore_24 : decode cX12_restore 24 = .ok (.ireturn, 1) := by decide +kernel
theorem dX12_restore_25 : decode cX12_restore 25 = .ok (.iconst 0, 1) := by decide +kernel
theorem dX12_restore_26 : decode cX12_restore 26 = .ok (.istore_n 2, 1) := by decide +kernel
theorem dX12_restore_27 : decode cX12_restore 27 = .ok (.iload_n 2, 1) := by decide +kernel
theorem dX12_restore_28 : decode cX12_restore 28 = .ok (.sipush 438, 3) := by decide +kernel
theorem dX12_restore_31 : decode cX12_restore 31 = .ok (.if_icmp .ge 27, 3) := by decide +kernel
theorem dX12_restore_34 : decode cX12_restore 34 = .ok (.aload_n 0, 1) := by decide +kernel
theorem dX12_restore_35 : decode cX12_restore 35 = .ok (.getfield 98, 3) := by decide +kernel
theorem dX12_restore_38 : decode cX12_restore 38 = .ok (.iload_n 2, 1) := by decide +kernel
theorem dX12_restore_39 : decode cX12_restore 39 = .ok (.aload_n 0, 1) := by decide +kernel
theorem dX12_restore_40 : decode cX12_restore 40 = .ok (.getfield 104, 3) := by decide +kernel
theorem dX12_restore_43 : decode cX12_restore 43 = .ok (.sipush 438, 3) := by decide +kernel
theorem dX12_restore_46 : decode cX12_restore 46 = .ok (.iload_n 1, 1) := by decide +kernel
theorem dX12_restore_47 : decode cX12_restore 47 = .ok (.imul, 1) := by decide +kernel
theorem dX12_restore_48 : decode cX12_restore 48 = .ok (.iload_n 2, 1) := by decide +kernel
theorem dX12_restore_49 : decode cX12_restore 49 = .ok (.iadd, 1) := by decide +kernel
theorem dX12_restore_50 : decode cX12_restore 50 = .ok (.iaload, 1) := by decide +kernel
theorem dX12_restore_51 : decode cX12_restore 51 = .ok (.iastore, 1) := by decide +kernel
theorem dX12_restore_52 : decode cX12_restore 52 = .ok (.iinc 2 1, 3) := by decide +kernel
theorem dX12_restore_55 : decode cX12_restore 55 = .ok (.goto (-28), 3) := by decide +kernel
theorem dX12_restore_58 : decode cX12_restore 58 = .ok (.iconst 0, 1) := by decide +kernel
theorem dX12_restore_59 : decode cX12_restore 59 = .ok (.istore_n 2, 1) := by decide +kernel
theorem dX12_restore_60 : decode cX12_restore 60 = .ok (.iload_n 2, 1) := by decide +kernel
theorem dX12_restore_61 : decode cX12_restore 61 = .ok (.bipush 16, 2) := by decide +kernel
theorem dX12_restore_63 : decode cX12_restore 63 = .ok (.if_icmp .ge 26, 3) := by decide +kernel
theorem dX12_restore_66 : decode cX12_restore 66 = .ok (.aload_n 0, 1) := by decide +kernel
theorem dX12_restore_67 : decode cX12_restore 67 = .ok (.getfield 113, 3) := by decide +kernel
theorem dX12_restore_70 : decode cX12_restore 70 = .ok (.iload_n 2, 1) := by decide +kernel
theorem dX12_restore_71 : decode cX12_restore 71 = .ok (.aload_n 0, 1) := by decide +kernel
theorem dX12_restore_72 : decode cX12_restore 72 = .ok (.getfield 120, 3) := by decide +kernel
theorem dX12_restore_75 : decode cX12_restore 75 = .ok (.bipush 16, 2) := by decide +kernel
theorem dX12_restore_77 : decode cX12_restore 77 = .ok (.iload_n 1, 1) := by decide +kernel
theorem dX12_restore_78 : decode cX12_restore 78 = .ok (.imul, 1) := by decide +kernel
theorem dX12_restore_79 : decode cX12_restore 79 = .ok (.iload_n 2, 1) := by decide +kernel
theorem dX12_restore_80 : decode cX12_restore 80 = .ok (.iadd, 1) := by decide +kernel
theorem dX12_restore_81 : decode cX12_restore 81 = .ok (.laload, 1) := by decide +kernel
theorem dX12_restore_82 : decode cX12_restore 82 = .ok (.lastore, 1) := by decide +kernel
theorem dX12_restore_83 : decode cX12_restore 83 = .ok (.iinc 2 1, 3) := by decide +kernel
theorem dX12_restore_86 : decode cX12_restore 86 = .ok (.goto (-26), 3) := by decide +kernel
theorem dX12_restore_89 : decode cX12_restore 89 = .ok (.aload_n 0, 1) := by decide +kernel
theorem dX12_restore_90 : decode cX12_restore 90 = .ok (.iconst 0, 1) := by decide +kernel
theorem dX12_restore_91 : decode cX12_restore 91 = .ok (.putfield 258, 3) := by decide +kernel
theorem dX12_restore_94 : decode cX12_restore 94 = .ok (.iconst 1, 1) := by decide +kernel
theorem dX12_restore_95 : decode cX12_restore 95 = .ok (.ireturn, 1) := by decide +kernel
def tX12_restore (kn : sKn) : List (Nat × sA) := [(0, a_aload 0 1), (1, a_stk (q_int 0) 2), (2, a_put 13 0 ckI 5), (5, a_iload 1 6), (6, a_stk (q_int 0) 7), (7, a_stk (q_int 1) 8), (8, a_callS false (fX12_isIn kn) 3 11), (11, a_if kn b_eq 0 23 14), (14, a_aload 0 15), (15, a_get 13 22 18), (18, a_iload 1 19), (19, a_bald 20), (20, a_if kn b_ne 1 25 23), (23, a_stk (q_int 0) 24), (24, a_zret), (25, a_stk (q_int 0) 26), (26, a_istore 2 27), (27, a_iload 2 28), (28, a_stk (q_int 438) 31), (31, a_icmp kn b_ge 3 58 34), (34, a_aload 0 35), (35, a_get 13 14 38), (38, a_iload 2 39), (39, a_aload 0 40), (40, a_get 13 16 43), (43, a_stk (q_int 438) 46), (46, a_iload 1 47), (47, a_stk q_imul 48), (48, a_iload 2 49), (49, a_stk q_iadd 50), (50, a_iald 51), (51, a_iast 52), (52, a_iinc 2 1 55), (55, a_goto 27), (58, a_stk (q_int 0) 59), (59, a_istore 2 60), (60, a_iload 2 61), (61, a_stk (q_int 16) 63), (63, a_icmp kn b_ge 3 89 66), (66, a_aload 0 67), (67, a_get 13 19 70), (70, a_iload 2 71), (71, a_aload 0 72), (72, a_get 13 21 75), (75, a_stk (q_int 16) 77), (77, a_iload 1 78), (78, a_stk q_imul 79), (79, a_iload 2 80), (80, a_stk q_iadd 81), (81, a_lald 82), (82, a_last 83), (83, a_iinc 2 1 86), (86, a_goto 60), (89, a_aload 0 90), (90, a_stk (q_int 0) 91), (91, a_put 13 23 ckI 94), (94, a_stk (q_int 1) 95), (95, a_zret)]
def fX12_restore (kn : sKn) : List Value → sW → Option sR := fW (tX12_restore kn) 3
set_option maxRecDepth 100000 in
set_option maxHeartbeats 4000000 in
theorem mX12_restore (kn : sKn) : mM kn yX12_restore (Cond.code yX12_restore cX12_restore 3 (some .boolean) :: wsL_law) 2 false (fX12_restore kn) := mM_W (fun n => mM_of (own := RX12) (ini := false) rfl (by decide +kernel) (by decide +kernel) (all_c (ok_aload_n dX12_restore_0 rfl) (all_c (ok_stk (s_iconst dX12_restore_1 (by decide))) (all_c (okp_X12_0 kw1114 dX12_restore_2) (all_c (ok_iload_n dX12_restore_5 rfl) (all_c (ok_stk (s_iconst dX12_restore_6 (by decide))) (all_c (ok_stk (s_iconst dX12_restore_7 (by decide))) (all_c (okc_X12_isIn (by decide) kw1126 dX12_restore_8) (all_c (ok_if_eq dX12_restore_11 (by decide)) (all_c (ok_aload_n dX12_restore_14 rfl) (all_c (okg_X12_22 kw1443 dX12_restore_15) (all_c (ok_iload_n dX12_restore_18 rfl) (all_c (ok_bald dX12_restore_19) (all_c (ok_if_ne dX12_restore_20 (by decide)) (all_c (ok_stk (s_iconst dX12_restore_23 (by decide))) (all_c (ok_zret dX12_restore_24) (all_c (ok_stk (s_iconst dX12_restore_25 (by decide))) (all_c (ok_istore_n dX12_restore_26 rfl (by decide)) (all_c (ok_iload_n dX12_restore_27 rfl) (all_c (ok_stk (s_sipush dX12_restore_28 (by decide))) (all_c (ok_icmp_ge dX12_restore_31 (by decide)) (all_c (ok_aload_n dX12_restore_34 rfl) (all_c (okg_X12_14 kw1069 dX12_restore_35) (all_c (ok_iload_n dX12_restore_38 rfl) (all_c (ok_aload_n dX12_restore_39 rfl) (all_c (okg_X12_16 kw1441 dX12_restore_40) (all_c (ok_stk (s_sipush dX12_restore_43 (by decide))) (all_c (ok_iload_n dX12_restore_46 rfl) (all_c (ok_stk (s_imul dX12_restore_47)) (all_c (ok_iload_n dX12_restore_48 rfl) (all_c (ok_stk (s_iadd dX12_restore_49)) (all_c (ok_iald dX12_restore_50) (all_c (ok_iast dX12_restore_51) (all_c (ok_iinc dX12_restore_52 (by decide) (by decide)) (all_c (ok_goto dX12_restore_55 (by decide)) (all_c (ok_stk (s_iconst dX12_restore_58 (by decide))) (all_c (ok_istore_n dX12_restore_59 rfl (by decide)) (all_c (ok_iload_n dX12_restore_60 rfl) (all_c (ok_stk (s_bipush dX12_restore_61 (by decide))) (all_c (ok_icmp_ge dX12_restore_63 (by decide)) (all_c (ok_aload_n dX12_restore_66 rfl) (all_c (okg_X12_19 kw1261 dX12_restore_67) (all_c (ok_iload_n dX12_restore_70 rfl) (all_c (ok_aload_n dX12_restore_71 rfl) (all_c (okg_X12_21 kw1442 dX12_restore_72) (all_c (ok_stk (s_bipush dX12_restore_75 (by decide))) (all_c (ok_iload_n dX12_restore_77 rfl) (all_c (ok_stk (s_imul dX12_restore_78)) (all_c (ok_iload_n dX12_restore_79 rfl) (all_c (ok_stk (s_iadd dX12_restore_80)) (all_c (ok_lald dX12_restore_81) (all_c (ok_last dX12_restore_82) (all_c (ok_iinc dX12_restore_83 (by decide) (by decide)) (all_c (ok_goto dX12_restore_86 (by decide)) (all_c (ok_aload_n dX12_restore_89 rfl) (all_c (ok_stk (s_iconst dX12_restore_90 (by decide))) (all_c (okp_X12_23 kw1286 dX12_restore_91) (all_c (ok_stk (s_iconst dX12_restore_94 (by decide))) (all_c (ok_zret dX12_restore_95) all_n)))))))))))))))))))))))))))))))))))))))))))))))))))))))))) n (fun h => by first | rfl | cases h))
theorem dX12_said_0 : decode cX12_said 0 = .ok (.aload_n 0, 1) := by decide +kernel
theorem dX12_said_1 : decode cX12_said 1 = .ok (.iconst 0, 1) := by decide +kernel
theorem dX12_said_2 : decode cX12_said 2 = .ok (.putfield 1, 3) := by decide +kernel
theorem dX12_said_5 : decode cX12_said 5 = .ok (.aload_n 0, 1) := by decide +kernel
theorem dX12_said_6 : decode cX12_said 6 = .ok (.getfield 98, 3) := by decide +kernel
theorem dX12_said_9 : decode cX12_said 9 = .ok (.sipush 196, 3) := by decide +kernel
theorem dX12_said_12 : decode cX12_said 12 = .ok (.iaload, 1) := by decide +kernel
theorem dX12_said_13 : decode cX12_said 13 = .ok (.ifCond .ne 5, 3) := by decide +kernel
theorem dX12_said_16 : decode cX12_said 16 = .ok (.iconst (-1), 1) := by decide +kernel
theorem dX12_said_17 : decode cX12_said 17 = .ok (.ireturn, 1) := by decide +kernel
theorem dX12_said_18 : decode cX12_said 18 = .ok (.iconst 0, 1) := by decide +kernel
theorem dX12_said_19 : decode cX12_said 19 = .ok (.istore_n 2, 1) := by decide +kernel
theorem dX12_said_20 : decode cX12_said 20 = .ok (.iconst 0, 1) := by decide +kernel
theorem dX12_said_21 : decode cX12_said 21 = .ok (.istore_n 3, 1) := by decide +kernel
theorem dX12_said_22 : decode cX12_said 22 = .ok (.iload_n 3, 1) := by decide +kernel
theorem dX12_said_23 : decode cX12_said 23 = .ok (.aload_n 0, 1) := by decide +kernel
theorem dX12_said_24 : decode cX12_said 24 = .ok (.getfield 98, 3) := by decide +kernel
theorem dX12_said_27 : decode cX12_said 27 = .ok (.iconst 1, 1) := by decide +kernel
theorem dX12_said_28 : decode cX12_said 28 = .ok (.iaload, 1) := by decide +kernel
theorem dX12_said_29 : decode cX12_said 29 = .ok (.if_icmp .ge 38, 3) := by decide +kernel
theorem dX12_said_32 : decode cX12_said 32 = .ok (.aload_n 0, 1) := by decide +kernel
theorem dX12_said_33 : decode cX12_said 33 = .ok (.aload_n 0, 1) := by decide +kernel
theorem dX12_said_34 : decode cX12_said 34 = .ok (.getfield 98, 3) := by decide +kernel
theorem dX12_said_37 : decode cX12_said 37 = .ok (.sipush 197, 3) := by decide +kernel
theorem dX12_said_40 : decode cX12_said 40 = .ok (.iaload, 1) := by decide +kernel
theorem dX12_said_41 : decode cX12_said 41 = .ok (.iload_n 3, 1) := by decide +kernel
theorem dX12_said_42 : decode cX12_said 42 = .ok (.invokevirtual 511, 3) := by decide +kernel
theorem dX12_said_45 : decode cX12_said 45 = .ok (.ifCond .ne 6, 3) := by decide +kernel
theorem dX12_said_48 : decode cX12_said 48 = .ok (.goto 13, 3) := by decide +kernel
theorem dX12_said_51 : decode cX12_said 51 = .ok (.iload_n 2, 1) := by decide +kernel
theorem dX12_said_52 : decode cX12_said 52 = .ok (.iload_n 1, 1) := by decide +kernel
theorem dX12_said_53 : decode cX12_said 53 = .ok (.if_icmp .ne 5, 3) := by decide +kernel
theorem dX12_said_56 : decode cX12_said 56 = .ok (.iload_n 3, 1) := by decide +kernel
theorem dX12_said_57 : decode cX12_said 57 = .ok (.ireturn, 1) := by decide +kernel
theorem dX12_said_58 : decode cX12_said 58 = .ok (.iinc 2 1, 3) := by decide +kernel
theorem dX12_said_61 : decode cX12_said 61 = .ok (.iinc 3 1, 3) := by decide +kernel
theorem dX12_said_64 : decode cX12_said 64 = .ok (.goto (-42), 3) := by decide +kernel
theorem dX12_said_67 : decode cX12_said 67 = .ok (.iload_n 1, 1) := by decide +kernel
theorem dX12_said_68 : decode cX12_said 68 = .ok (.iconst (-1), 1) := by decide +kernel
theorem dX12_said_69 : decode cX12_said 69 = .ok (.if_icmp .ne 7, 3) := by decide +kernel
theorem dX12_said_72 : decode cX12_said 72 = .ok (.iload_n 2, 1) := by decide +kernel
theorem dX12_said_73 : decode cX12_said 73 = .ok (.goto 4, 3) := by decide +kernel
theorem dX12_said_76 : decode cX12_said 76 = .ok (.iconst (-1), 1) := by decide +kernel
theorem dX12_said_77 : decode cX12_said 77 = .ok (.ireturn, 1) := by decide +kernel
theorem okc_X12_holds_ {kn : sKn} {cc : ByteArray} {own : String} {nL : Nat} {D : Nat} {ret : Option FieldType} {ini : Bool} {pc index : Nat} (hD : 183 + 1 ≤ D) (hl : Cond.methodLink own index yX12_holds_ ∈ wsL_law) (hd : decode cc pc = .ok (.invokevirtual index, 3)) : mOk kn cc own nL wsL_law D ret ini pc (a_callV false (fX12_holds_ kn) 13 (2 + 1) (pc + 3)) := ok_callV (mX12_holds_ kn) (good_ws ws_good (fun _ h => h) kw1435) hD (by decide) hl kw1433 kw1434 kw1072 ⟨by decide +kernel, by decide +kernel, by decide +kernel⟩ rfl hd
def tX12_said (kn : sKn) : List (Nat × sA) := [(0, a_aload 0 1), (1, a_stk (q_int 0) 2), (2, a_put 13 0 ckI 5), (5, a_aload 0 6), (6, a_get 13 14 9), (9, a_stk (q_int 196) 12), (12, a_iald 13), (13, a_if kn b_ne 1 18 16), (16, a_stk (q_int (-1)) 17), (17, a_iret), (18, a_stk (q_int 0) 19), (19, a_istore 2 20), (20, a_stk (q_int 0) 21), (21, a_istore 3 22), (22, a_iload 3 23), (23, a_aload 0 24), (24, a_get 13 14 27), (27, a_stk (q_int 1) 28), (28, a_iald 29), (29, a_icmp kn b_ge 3 67 32), (32, a_aload 0 33), (33, a_aload 0 34), (34, a_get 13 14 37), (37, a_stk (q_int 197) 40), (40, a_iald 41), (41, a_iload 3 42), (42, a_callV false (fX12_holds_ kn) 13 3 45), (45, a_if kn b_ne 1 51 48), (48, a_goto 61), (51, a_iload 2 52), (52, a_iload 1 53), (53, a_icmp kn b_ne 1 58 56), (56, a_iload 3 57), (57, a_iret), (58, a_iinc 2 1 61), (61, a_iinc 3 1 64), (64, a_goto 22), (67, a_iload 1 68), (68, a_stk (q_int (-1)) 69), (69, a_icmp kn b_ne 1 76 72), (72, a_iload 2 73), (73, a_goto 77), (76, a_stk (q_int (-1)) 77), (77, a_iret)]
def fX12_said (kn : sKn) : List Value → sW → Option sR := fW (tX12_said kn) 4
set_option maxRecDepth 100000 in
set_option maxHeartbeats 4000000 in
theorem mX12_said (kn : sKn) : mM kn yX12_said (Cond.code yX12_said cX12_said 4 (some .int) :: wsL_law) 184 false (fX12_said kn) := mM_W (fun n => mM_of (own := RX12) (ini := false) rfl (by decide +kernel) (by decide +kernel) (all_c (ok_aload_n dX12_said_0 rfl) (all_c (ok_stk (s_iconst dX12_said_1 (by decide))) (all_c (okp_X12_0 kw1114 dX12_said_2) (all_c (ok_aload_n dX12_said_5 rfl) (all_c (okg_X12_14 kw1069 dX12_said_6) (all_c (ok_stk (s_sipush dX12_said_9 (by decide))) (all_c (ok_iald dX12_said_12) (all_c (ok_if_ne dX12_said_13 (by decide)) (all_c (ok_stk (s_iconst dX12_said_16 (by decide))) (all_c (ok_iret dX12_said_17) (all_c (ok_stk (s_iconst dX12_said_18 (by decide))) (all_c (ok_istore_n dX12_said_19 rfl (by decide)) (all_c (ok_stk (s_iconst dX12_said_20 (by decide))) (all_c (ok_istore_n dX12_said_21 rfl (by decide)) (all_c (ok_iload_n dX12_said_22 rfl) (all_c (ok_aload_n dX12_said_23 rfl) (all_c (okg_X12_14 kw1069 dX12_said_24) (all_c (ok_stk (s_iconst dX12_said_27 (by decide))) (all_c (ok_iald dX12_said_28) (all_c (ok_icmp_ge dX12_said_29 (by decide)) (all_c (ok_aload_n dX12_said_32 rfl) (all_c (ok_aload_n dX12_said_33 rfl) (all_c (okg_X12_14 kw1069 dX12_said_34) (all_c (ok_stk (s_sipush dX12_said_37 (by decide))) (all_c (ok_iald dX12_said_40) (all_c (ok_iload_n dX12_said_41 rfl) (all_c (okc_X12_holds_ (by decide) kw1436 dX12_said_42) (all_c (ok_if_ne dX12_said_45 (by decide)) (all_c (ok_goto dX12_said_48 (by decide)) (all_c (ok_iload_n dX12_said_51 rfl) (all_c (ok_iload_n dX12_said_52 rfl) (all_c (ok_icmp_ne dX12_said_53 (by decide)) (all_c (ok_iload_n dX12_said_56 rfl) (all_c (ok_iret dX12_said_57) (all_c (ok_iinc dX12_said_58 (by decide) (by decide)) (all_c (ok_iinc dX12_said_61 (by decide) (by decide)) (all_c (ok_goto dX12_said_64 (by decide)) (all_c (ok_iload_n dX12_said_67 rfl) (all_c (ok_stk (s_iconst dX12_said_68 (by decide))) (all_c (ok_icmp_ne dX12_said_69 (by decide)) (all_c (ok_iload_n dX12_said_72 rfl) (all_c (ok_goto dX12_said_73 (by decide)) (all_c (ok_stk (s_iconst dX12_said_76 (by decide))) (all_c (ok_iret dX12_said_77) all_n)))))))))))))))))))))))))))))))))))))))))))) n (fun h => by first | rfl | cases h))
theorem dX12_sentence_0 : decode cX12_sentence 0 = .ok (.aload_n 0, 1) := by decide +kernel
theorem dX12_sentence_1 : decode cX12_sentence 1 = .ok (.sipush 200, 3) := by decide +kernel
theorem dX12_sentence_4 : decode cX12_sentence 4 = .ok (.invokevirtual 249, 3) := by decide +kernel
theorem dX12_sentence_7 : decode cX12_sentence 7 = .ok (.aload_n 0, 1) := by decide +kernel
theorem dX12_sentence_8 : decode cX12_sentence 8 = .ok (.iconst 0, 1) := by decide +kernel
theorem dX12_sentence_9 : decode cX12_sentence 9 = .ok (.putfield 472, 3) := by decide +kernel
theorem dX12_sentence_12 : decode cX12_sentence 12 = .ok (.aload_n 0, 1) := by decide +kernel
theorem dX12_sentence_13 : decode cX12_sentence 13 = .ok (.iconst 0, 1) := by decide +kernel
theorem dX12_sentence_14 : decode cX12_sentence 14 = .ok (.putfield 487, 3) := by decide +kernel
theorem dX12_sentence_17 : decode cX12_sentence 17 = .ok (.aload_n 0, 1) := by decide +kernel
theorem dX12_sentence_18 : decode cX12_sentence 18 = .ok (.iconst 0, 1) := by decide +kernel
theorem dX12_sentence_19 : decode cX12_sentence 19 = .ok (.putfield 490, 3) := by decide +kernel
theorem dX12_sentence_22 : decode cX12_sentence 22 = .ok (.aload_n 0, 1) := by decide +kernel
theorem dX12_sentence_23 : decode cX12_sentence 23 = .ok (.invokevirtual 505, 3) := by decide +kernel
theorem dX12_sentence_26 : decode cX12_sentence 26 = .ok (.ifCond .ne 10, 3) := by decide +kernel
theorem dX12_sentence_29 : decode cX12_sentence 29 = .ok (.iconst (-1), 1) := by decide +kernel
theorem dX12_sentence_30 : decode cX12_sentence 30 = .ok (.aload_n 0, 1) := by decide +kernel
theorem dX12_sentence_31 : decode cX12_sentence 31 = .ok (.getfield 69, 3) := by decide +kernel
theorem dX12_sentence_34 : decode cX12_sentence 34 = .ok (.isub, 1) := by decide +kernel
theorem dX12_sentence_35 : decode cX12_sentence 35 = .ok (.ireturn, 1) := by decide +kernel
theorem dX12_sentence_36 : decode cX12_sentence 36 = .ok (.aload_n 0, 1) := by decide +kernel
theorem dX12_sentence_37 : decode cX12_sentence 37 = .ok (.getfield 30, 3) := by decide +kernel
theorem dX12_sentence_40 : decode cX12_sentence 40 = .ok (.ifCond .eq 16, 3) := by decide +kernel
theorem dX12_sentence_43 : decode cX12_sentence 43 = .ok (.aload_n 0, 1) := by decide +kernel
theorem dX12_sentence_44 : decode cX12_sentence 44 = .ok (.iconst 1, 1) := by decide +kernel
theorem dX12_sentence_45 : decode cX12_sentence 45 = .ok (.invokevirtual 72, 3) := by decide +kernel
theorem dX12_sentence_48 : decode cX12_sentence 48 = .ok (.pop, 1) := by decide +kernel
theorem dX12_sentence_49 : decode cX12_sentence 49 = .ok (.iconst (-1), 1) := by decide +kernel
theorem dX12_sentence_50 : decode cX12_sentence 50 = .ok (.aload_n 0, 1) := by decide +kernel
theorem dX12_sentence_51 : decode cX12_sentence 51 = .ok (.getfield 69, 3) := by decide +kernel
theorem dX12_sentence_54 : decode cX12_sentence 54 = .ok (.isub, 1) := by decide +kernel
theorem dX12_sentence_55 : decode cX12_sentence 55 = .ok (.ireturn, 1) := by decide +kernel
theorem dX12_sentence_56 : decode cX12_sentence 56 = .ok (.aload_n 0, 1) := by decide +kernel
theorem dX12_sentence_57 : decode cX12_sentence 57 = .ok (.getfield 98, 3) := by decide +kernel
theorem dX12_sentence_60 : decode cX12_sentence 60 = .ok (.sipush 196, 3) := by decide +kernel
theorem dX12_sentence_63 : decode cX12_sentence 63 = .ok (.iconst 1, 1) := by decide +kernel
theorem dX12_sentence_64 : decode cX12_sentence 64 = .ok (.iastore, 1) := by decide +kernel
theorem dX12_sentence_65 : decode cX12_sentence 65 = .ok (.aload_n 0, 1) := by decide +kernel
theorem dX12_sentence_66 : decode cX12_sentence 66 = .ok (.getfield 98, 3) := by decide +kernel
theorem dX12_sentence_69 : decode cX12_sentence 69 = .ok (.sipush 197, 3) := by decide +kernel
theorem dX12_sentence_72 : decode cX12_sentence 72 = .ok (.aload_n 0, 1) := by decide +kernel
theorem dX12_sentence_73 : decode cX12_sentence 73 = .ok (.getfield 478, 3) := by decide +kernel
theorem dX12_sentence_76 : decode cX12_sentence 76 = .ok (.iastore, 1) := by decide +kernel
theorem dX12_sentence_77 : decode cX12_sentence 77 = .ok (.iconst 0, 1) := by decide +kernel
theorem dX12_sentence_78 : decode cX12_sentence 78 = .ok (.istore_n 1, 1) := by decide +kernel
theorem dX12_sentence_79 : decode cX12_sentence 79 = .ok (.iload_n 1, 1) := by decide +kernel
theorem dX12_sentence_80 : decode cX12_sentence 80 = .ok (.sipush 240, 3) := by decide +kernel
theorem dX12_sentence_83 : decode cX12_sentence 83 = .ok (.if_icmp .ge 25, 3) := by decide +kernel
theorem dX12_sentence_86 : decode cX12_sentence 86 = .ok (.aload_n 0, 1) := by decide +kernel
theorem dX12_sentence_87 : decode cX12_sentence 87 = .ok (.getfield 98, 3) := by decide +kernel
theorem dX12_sentence_90 : decode cX12_sentence 90 = .ok (.sipush 198, 3) := by decide +kernel
theorem dX12_sentence_93 : decode cX12_sentence 93 = .ok (.iload_n 1, 1) := by decide +kernel
theorem dX12_sentence_94 : decode cX12_sentence 94 = .ok (.iadd, 1) := by decide +kernel
theorem dX12_sentence_95 : decode cX12_sentence 95 = .ok (.aload_n 0, 1) := by decide +kernel
theorem dX12_sentence_96 : decode cX12_sentence 96 = .ok (.getfield 181, 3) := by decide +kernel
theorem dX12_sentence_99 : decode cX12_sentence 99 = .ok (.iload_n 1, 1) := by decide +kernel
theorem dX12_sentence_100 : decode cX12_sentence 100 = .ok (.iaload, 1) := by decide +kernel
theorem dX12_sentence_101 : decode cX12_sentence 101 = .ok (.iastore, 1) := by decide +kernel
theorem dX12_sentence_102 : decode cX12_sentence 102 = .ok (.iinc 1 1, 3) := by decide +kernel
theorem dX12_sentence_105 : decode cX12_sentence 105 = .ok (.goto (-26), 3) := by decide +kernel
theorem dX12_sentence_108 : decode cX12_sentence 108 = .ok (.aload_n 0, 1) := by decide +kernel
theorem dX12_sentence_109 : decode cX12_sentence 109 = .ok (.getfield 487, 3) := by decide +kernel
theorem dX12_sentence_112 : decode cX12_sentence 112 = .ok (.ireturn, 1) := by decide +kernel
theorem okc_X12_readOr {kn : sKn} {cc : ByteArray} {own : String} {nL : Nat} {D : Nat} {ret : Option FieldType} {ini : Bool} {pc index : Nat} (hD : 75 + 1 ≤ D) (hl : Cond.methodLink own index yX12_readOr ∈ wsL_law) (hd : decode cc pc = .ok (.invokevirtual index, 3)) : mOk kn cc own nL wsL_law D ret ini pc (a_callV false (fX12_readOr kn) 13 (0 + 1) (pc + 3)) := ok_callV (mX12_readOr kn) (good_ws ws_good (fun _ h => h) kw1499) hD (by decide) hl kw1497 kw1498 kw1072 ⟨by decide +kernel, by decide +kernel, by decide +kernel⟩ rfl hd
def tX12_sentence (kn : sKn) : List (Nat × sA) := [(0, a_aload 0 1), (1, a_stk (q_int 200) 4), (4, a_callV true (fX12_begin kn) 13 2 7), (7, a_aload 0 8), (8, a_stk (q_int 0) 9), (9, a_put 13 56 ckI 12), (12, a_aload 0 13), (13, a_stk (q_int 0) 14), (14, a_put 13 57 ckI 17), (17, a_aload 0 18), (18, a_stk (q_int 0) 19), (19, a_put 13 58 ckI 22), (22, a_aload 0 23), (23, a_callV false (fX12_readOr kn) 13 1 26), (26, a_if kn b_ne 1 36 29), (29, a_stk (q_int (-1)) 30), (30, a_aload 0 31), (31, a_get 13 11 34), (34, a_stk q_isub 35), (35, a_iret), (36, a_aload 0 37), (37, a_get 13 7 40), (40, a_if kn b_eq 0 56 43), (43, a_aload 0 44), (44, a_stk (q_int 1) 45), (45, a_callV false (fX12_bad kn) 13 2 48), (48, a_stk q_pop 49), (49, a_stk (q_int (-1)) 50), (50, a_aload 0 51), (51, a_get 13 11 54), (54, a_stk q_isub 55), (55, a_iret), (56, a_aload 0 57), (57, a_get 13 14 60), (60, a_stk (q_int 196) 63), (63, a_stk (q_int 1) 64), (64, a_iast 65), (65, a_aload 0 66), (66, a_get 13 14 69), (69, a_stk (q_int 197) 72), (72, a_aload 0 73), (73, a_get 13 59 76), (76, a_iast 77), (77, a_stk (q_int 0) 78), (78, a_istore 1 79), (79, a_iload 1 80), (80, a_stk (q_int 240) 83), (83, a_icmp kn b_ge 3 108 86), (86, a_aload 0 87), (87, a_get 13 14 90), (90, a_stk (q_int 198) 93), (93, a_iload 1 94), (94, a_stk q_iadd 95), (95, a_aload 0 96), (96, a_get 13 55 99), (99, a_iload 1 100), (100, a_iald 101), (101, a_iast 102), (102, a_iinc 1 1 105), (105, a_goto 79), (108, a_aload 0 109), (109, a_get 13 57 112), (112, a_iret)]
def fX12_sentence (kn : sKn) : List Value → sW → Option sR := fW (tX12_sentence kn) 2
set_option maxRecDepth 100000 in
set_option maxHeartbeats 4000000 in
theorem mX12_sentence (kn : sKn) : mM kn yX12_sentence (Cond.code yX12_sentence cX12_sentence 2 (some .int) :: wsL_law) 76 false (fX12_sentence kn) := mM_W (fun n => mM_of (own := RX12) (ini := false) rfl (by decide +kernel) (by decide +kernel) (all_c (ok_aload_n dX12_sentence_0 rfl) (all_c (ok_stk (s_sipush dX12_sentence_1 (by decide))) (all_c (okc_X12_begin (by decide) kw1311 dX12_sentence_4) (all_c (ok_aload_n dX12_sentence_7 rfl) (all_c (ok_stk (s_iconst dX12_sentence_8 (by decide))) (all_c (okp_X12_56 kw1479 dX12_sentence_9) (all_c (ok_aload_n dX12_sentence_12 rfl) (all_c (ok_stk (s_iconst dX12_sentence_13 (by decide))) (all_c (okp_X12_57 kw1501 dX12_sentence_14) (all_c (ok_aload_n dX12_sentence_17 rfl) (all_c (ok_stk (s_iconst dX12_sentence_18 (by decide))) (all_c (okp_X12_58 kw1502 dX12_sentence_19) (all_c (ok_aload_n dX12_sentence_22 rfl) (all_c (okc_X12_readOr (by decide) kw1500 dX12_sentence_23) (all_c (ok_if_ne dX12_sentence_26 (by decide)) (all_c (ok_stk (s_iconst dX12_sentence_29 (by decide))) (all_c (ok_aload_n dX12_sentence_30 rfl) (all_c (okg_X12_11 kw1151 dX12_sentence_31) (all_c (ok_stk (s_isub dX12_sentence_34)) (all_c (ok_iret dX12_sentence_35) (all_c (ok_aload_n dX12_sentence_36 rfl) (all_c (okg_X12_7 kw1148 dX12_sentence_37) (all_c (ok_if_eq dX12_sentence_40 (by decide)) (all_c (ok_aload_n dX12_sentence_43 rfl) (all_c (ok_stk (s_iconst dX12_sentence_44 (by decide))) (all_c (okc_X12_bad (by decide) kw1243 dX12_sentence_45) (all_c (ok_stk (s_pop dX12_sentence_48)) (all_c (ok_stk (s_iconst dX12_sentence_49 (by decide))) (all_c (ok_aload_n dX12_sentence_50 rfl) (all_c (okg_X12_11 kw1151 dX12_sentence_51) (all_c (ok_stk (s_isub dX12_sentence_54)) (all_c (ok_iret dX12_sentence_55) (all_c (ok_aload_n dX12_sentence_56 rfl) (all_c (okg_X12_14 kw1069 dX12_sentence_57) (all_c (ok_stk (s_sipush dX12_sentence_60 (by decide))) (all_c (ok_stk (s_iconst dX12_sentence_63 (by decide))) (all_c (ok_iast dX12_sentence_64) (all_c (ok_aload_n dX12_sentence_65 rfl) (all_c (okg_X12_14 kw1069 dX12_sentence_66) (all_c (ok_stk (s_sipush dX12_sentence_69 (by decide))) (all_c (ok_aload_n dX12_sentence_72 rfl) (all_c (okg_X12_59 kw1484 dX12_sentence_73) (all_c (ok_iast dX12_sentence_76) (all_c (ok_stk (s_iconst dX12_sentence_77 (by decide))) (all_c (ok_istore_n dX12_sentence_78 rfl (by decide)) (all_c (ok_iload_n dX12_sentence_79 rfl) (all_c (ok_stk (s_sipush dX12_sentence_80 (by decide))) (all_c (ok_icmp_ge dX12_sentence_83 (by decide)) (all_c (ok_aload_n dX12_sentence_86 rfl) (all_c (okg_X12_14 kw1069 dX12_sentence_87) (all_c (ok_stk (s_sipush dX12_sentence_90 (by decide))) (all_c (ok_iload_n dX12_sentence_93 rfl) (all_c (ok_stk (s_iadd dX12_sentence_94)) (all_c (ok_aload_n dX12_sentence_95 rfl) (all_c (okg_X12_55 kw1449 dX12_sentence_96) (all_c (ok_iload_n dX12_sentence_99 rfl) (all_c (ok_iald dX12_sentence_100) (all_c (ok_iast dX12_sentence_101) (all_c (ok_iinc dX12_sentence_102 (by decide) (by decide)) (all_c (ok_goto dX12_sentence_105 (by decide)) (all_c (ok_aload_n dX12_sentence_108 rfl) (all_c (okg_X12_57 kw1501 dX12_sentence_109) (all_c (ok_iret dX12_sentence_112) all_n))))))))))))))))))))))))))))))))))))))))))))))))))))))))))))))) n (fun h => by first | rfl | cases h))
theorem dX12_sign_0 : decode cX12_sign 0 = .ok (.aload_n 0, 1) := by decide +kernel
theorem dX12_sign_1 : decode cX12_sign 1 = .ok (.iconst 0, 1) := by decide +kernel
theorem dX12_sign_2 : decode cX12_sign 2 = .ok (.putfield 1, 3) := by decide +kernel
theorem dX12_sign_5 : decode cX12_sign 5 = .ok (.aload_n 0, 1) := by decide +kernel
theorem dX12_sign_6 : decode cX12_sign 6 = .ok (.iload_n 1, 1) := by decide +kernel
theorem dX12_sign_7 : decode cX12_sign 7 = .ok (.invokevirtual 277, 3) := by decide +kernel
theorem dX12_sign_10 : decode cX12_sign 10 = .ok (.ifCond .eq 12, 3) := by decide +kernel
theorem dX12_sign_13 : decode cX12_sign 13 = .ok (.aload_n 0, 1) := by decide +kernel
theorem dX12_sign_14 : decode cX12_sign 14 = .ok (.iload_n 2, 1) := by decide +kernel
theorem dX12_sign_15 : decode cX12_sign 15 = .ok (.iload_n 3, 1) := by decide +kernel
theorem dX12_sign_16 : decode cX12_sign 16 = .ok (.invokevirtual 289, 3) := by decide +kernel
theorem dX12_sign_19 : decode cX12_sign 19 = .ok (.ifCond .ne 5, 3) := by decide +kernel
theorem dX12_sign_22 : decode cX12_sign 22 = .ok (.iconst (-1), 1) := by decide +kernel
theorem dX12_sign_23 : decode cX12_sign 23 = .ok (.ireturn, 1) := by decide +kernel
theorem dX12_sign_24 : decode cX12_sign 24 = .ok (.aload_n 0, 1) := by decide +kernel
theorem dX12_sign_25 : decode cX12_sign 25 = .ok (.iload_n 1, 1) := by decide +kernel
theorem dX12_sign_26 : decode cX12_sign 26 = .ok (.iconst 3, 1) := by decide +kernel
theorem dX12_sign_27 : decode cX12_sign 27 = .ok (.iload_n 2, 1) := by decide +kernel
theorem dX12_sign_28 : decode cX12_sign 28 = .ok (.imul, 1) := by decide +kernel
theorem dX12_sign_29 : decode cX12_sign 29 = .ok (.iload_n 3, 1) := by decide +kernel
theorem dX12_sign_30 : decode cX12_sign 30 = .ok (.iadd, 1) := by decide +kernel
theorem dX12_sign_31 : decode cX12_sign 31 = .ok (.invokevirtual 340, 3) := by decide +kernel
theorem dX12_sign_34 : decode cX12_sign 34 = .ok (.istore 4, 2) := by decide +kernel
theorem dX12_sign_36 : decode cX12_sign 36 = .ok (.iload 4, 2) := by decide +kernel
theorem dX12_sign_38 : decode cX12_sign 38 = .ok (.ifCond .eq 6, 3) := by decide +kernel
theorem dX12_sign_41 : decode cX12_sign 41 = .ok (.iload 4, 2) := by decide +kernel
theorem dX12_sign_43 : decode cX12_sign 43 = .ok (.ireturn, 1) := by decide +kernel
theorem dX12_sign_44 : decode cX12_sign 44 = .ok (.aload_n 0, 1) := by decide +kernel
theorem dX12_sign_45 : decode cX12_sign 45 = .ok (.invokevirtual 343, 3) := by decide +kernel
theorem dX12_sign_48 : decode cX12_sign 48 = .ok (.aload_n 0, 1) := by decide +kernel
theorem dX12_sign_49 : decode cX12_sign 49 = .ok (.iload_n 1, 1) := by decide +kernel
theorem dX12_sign_50 : decode cX12_sign 50 = .ok (.iconst 3, 1) := by decide +kernel
theorem dX12_sign_51 : decode cX12_sign 51 = .ok (.iload_n 2, 1) := by decide +kernel
theorem dX12_sign_52 : decode cX12_sign 52 = .ok (.imul, 1) := by decide +kernel
theorem dX12_sign_53 : decode cX12_sign 53 = .ok (.iload_n 3, 1) := by decide +kernel
theorem dX12_sign_54 : decode cX12_sign 54 = .ok (.iadd, 1) := by decide +kernel
theorem dX12_sign_55 : decode cX12_sign 55 = .ok (.invokevirtual 346, 3) := by decide +kernel
theorem dX12_sign_58 : decode cX12_sign 58 = .ok (.iconst 0, 1) := by decide +kernel
theorem dX12_sign_59 : decode cX12_sign 59 = .ok (.ireturn, 1) := by decide +kernel
def tX12_sign (kn : sKn) : List (Nat × sA) := [(0, a_aload 0 1), (1, a_stk (q_int 0) 2), (2, a_put 13 0 ckI 5), (5, a_aload 0 6), (6, a_iload 1 7), (7, a_callV false (fX12_isSigner kn) 13 2 10), (10, a_if kn b_eq 0 22 13), (13, a_aload 0 14), (14, a_iload 2 15), (15, a_iload 3 16), (16, a_callV false (fX12_isPlace kn) 13 3 19), (19, a_if kn b_ne 1 24 22), (22, a_stk (q_int (-1)) 23), (23, a_iret), (24, a_aload 0 25), (25, a_iload 1 26), (26, a_stk (q_int 3) 27), (27, a_iload 2 28), (28, a_stk q_imul 29), (29, a_iload 3 30), (30, a_stk q_iadd 31), (31, a_callV false (fX12_whySign kn) 13 3 34), (34, a_istore 4 36), (36, a_iload 4 38), (38, a_if kn b_eq 0 44 41), (41, a_iload 4 43), (43, a_iret), (44, a_aload 0 45), (45, a_callV true (fX12_snap kn) 13 1 48), (48, a_aload 0 49), (49, a_iload 1 50), (50, a_stk (q_int 3) 51), (51, a_iload 2 52), (52, a_stk q_imul 53), (53, a_iload 3 54), (54, a_stk q_iadd 55), (55, a_callV true (fX12_doSign kn) 13 3 58), (58, a_stk (q_int 0) 59), (59, a_iret)]
def fX12_sign (kn : sKn) : List Value → sW → Option sR := fW (tX12_sign kn) 5
set_option maxRecDepth 100000 in
set_option maxHeartbeats 4000000 in
theorem mX12_sign (kn : sKn) : mM kn yX12_sign (Cond.code yX12_sign cX12_sign 5 (some .int) :: wsL_law) 4 false (fX12_sign kn) := mM_W (fun n => mM_of (own := RX12) (ini := false) rfl (by decide +kernel) (by decide +kernel) (all_c (ok_aload_n dX12_sign_0 rfl) (all_c (ok_stk (s_iconst dX12_sign_1 (by decide))) (all_c (okp_X12_0 kw1114 dX12_sign_2) (all_c (ok_aload_n dX12_sign_5 rfl) (all_c (ok_iload_n dX12_sign_6 rfl) (all_c (okc_X12_isSigner (by decide) kw1337 dX12_sign_7) (all_c (ok_if_eq dX12_sign_10 (by decide)) (all_c (ok_aload_n dX12_sign_13 rfl) (all_c (ok_iload_n dX12_sign_14 rfl) (all_c (ok_iload_n dX12_sign_15 rfl) (all_c (okc_X12_isPlace (by decide) kw1398 dX12_sign_16) (all_c (ok_if_ne dX12_sign_19 (by decide)) (all_c (ok_stk (s_iconst dX12_sign_22 (by decide))) (all_c (ok_iret dX12_sign_23) (all_c (ok_aload_n dX12_sign_24 rfl) (all_c (ok_iload_n dX12_sign_25 rfl) (all_c (ok_stk (s_iconst dX12_sign_26 (by decide))) (all_c (ok_iload_n dX12_sign_27 rfl) (all_c (ok_stk (s_imul dX12_sign_28)) (all_c (ok_iload_n dX12_sign_29 rfl) (all_c (ok_stk (s_iadd dX12_sign_30)) (all_c (okc_X12_whySign (by decide) kw1303 dX12_sign_31) (all_c (ok_istore dX12_sign_34 (by decide)) (all_c (ok_iload dX12_sign_36) (all_c (ok_if_eq dX12_sign_38 (by decide)) (all_c (ok_iload dX12_sign_41) (all_c (ok_iret dX12_sign_43) (all_c (ok_aload_n dX12_sign_44 rfl) (all_c (okc_X12_snap (by decide) kw1291 dX12_sign_45) (all_c (ok_aload_n dX12_sign_48 rfl) (all_c (ok_iload_n dX12_sign_49 rfl) (all_c (ok_stk (s_iconst dX12_sign_50 (by decide))) (all_c (ok_iload_n dX12_sign_51 rfl) (all_c (ok_stk (s_imul dX12_sign_52)) (all_c (ok_iload_n dX12_sign_53 rfl) (all_c (ok_stk (s_iadd dX12_sign_54)) (all_c (okc_X12_doSign (by decide) kw1217 dX12_sign_55) (all_c (ok_stk (s_iconst dX12_sign_58 (by decide))) (all_c (ok_iret dX12_sign_59) all_n))))))))))))))))))))))))))))))))))))))) n (fun h => by first | rfl | cases h))
theorem dX12_signer_0 : decode cX12_signer 0 = .ok (.aload_n 0, 1) := by decide +kernel
theorem dX12_signer_1 : decode cX12_signer 1 = .ok (.iconst 0, 1) := by decide +kernel
theorem dX12_signer_2 : decode cX12_signer 2 = .ok (.putfield 1, 3) := by decide +kernel
theorem dX12_signer_5 : decode cX12_signer 5 = .ok (.aload_n 0, 1) := by decide +kernel
theorem dX12_signer_6 : decode cX12_signer 6 = .ok (.iload_n 1, 1) := by decide +kernel
theorem dX12_signer_7 : decode cX12_signer 7 = .ok (.invokevirtual 277, 3) := by decide +kernel
theorem dX12_signer_10 : decode cX12_signer 10 = .ok (.ifCond .ne 8, 3) := by decide +kernel
theorem dX12_signer_13 : decode cX12_signer 13 = .ok (.aload_n 0, 1) := by decide +kernel
theorem dX12_signer_14 : decode cX12_signer 14 = .ok (.invokevirtual 280, 3) := by decide +kernel
theorem dX12_signer_17 : decode cX12_signer 17 = .ok (.ireturn, 1) := by decide +kernel
theorem dX12_signer_18 : decode cX12_signer 18 = .ok (.iload_n 2, 1) := by decide +kernel
theorem dX12_signer_19 : decode cX12_signer 19 = .ok (.tableswitch 135 0 7 #[45, 55, 65, 85, 95, 105, 119, 125], 45) := by decide +kernel
theorem dX12_signer_64 : decode cX12_signer 64 = .ok (.aload_n 0, 1) := by decide +kernel
theorem dX12_signer_65 : decode cX12_signer 65 = .ok (.getfield 98, 3) := by decide +kernel
theorem dX12_signer_68 : decode cX12_signer 68 = .ok (.bipush 98, 2) := by decide +kernel
theorem dX12_signer_70 : decode cX12_signer 70 = .ok (.iload_n 1, 1) := by decide +kernel
theorem dX12_signer_71 : decode cX12_signer 71 = .ok (.iadd, 1) := by decide +kernel
theorem dX12_signer_72 : decode cX12_signer 72 = .ok (.iaload, 1) := by decide +kernel
theorem dX12_signer_73 : decode cX12_signer 73 = .ok (.ireturn, 1) := by decide +kernel
theorem dX12_signer_74 : decode cX12_signer 74 = .ok (.aload_n 0, 1) := by decide +kernel
theorem dX12_signer_75 : decode cX12_signer 75 = .ok (.getfield 98, 3) := by decide +kernel
theorem dX12_signer_78 : decode cX12_signer 78 = .ok (.bipush 15, 2) := by decide +kernel
theorem dX12_signer_80 : decode cX12_signer 80 = .ok (.iload_n 1, 1) := by decide +kernel
theorem dX12_signer_81 : decode cX12_signer 81 = .ok (.iadd, 1) := by decide +kernel
theorem dX12_signer_82 : decode cX12_signer 82 = .ok (.iaload, 1) := by decide +kernel
theorem dX12_signer_83 : decode cX12_signer 83 = .ok (.ireturn, 1) := by decide +kernel
theorem dX12_signer_84 : decode cX12_signer 84 = .ok (.aload_n 0, 1) := by decide +kernel
theorem dX12_signer_85 : decode cX12_signer 85 = .ok (.getfield 98, 3) := by decide +kernel
theorem dX12_signer_88 : decode cX12_signer 88 = .ok (.bipush 25, 2) := by decide +kernel
theorem dX12_signer_90 : decode cX12_signer 90 = .ok (.iaload, 1) := by decide +kernel
theorem dX12_signer_91 : decode cX12_signer 91 = .ok (.iload_n 1, 1) := by decide +kernel
theorem dX12_signer_92 : decode cX12_signer 92 = .ok (.invokestatic 225, 3) := by decide +kernel
theorem dX12_signer_95 : decode cX12_signer 95 = .ok (.ifCond .eq 7, 3) := by decide +kernel
theorem dX12_signer_98 : decode cX12_signer 98 = .ok (.iconst 1, 1) := by decide +kernel
theorem dX12_signer_99 : decode cX12_signer 99 = .ok (.goto 4, 3) := by decide +kernel
theorem dX12_signer_102 : decode cX12_signer 102 = .ok (.iconst 0, 1) := by decide +kernel
theorem dX12_signer_103 : decode cX12_signer 103 = .ok (.ireturn, 1) := by decide +kernel
theorem dX12_signer_104 : decode cX12_signer 104 = .ok (.aload_n 0, 1) := by decide +kernel
theorem dX12_signer_105 : decode cX12_signer 105 = .ok (.getfield 98, 3) := by decide +kernel
theorem dX12_signer_108 : decode cX12_signer 108 = .ok (.bipush 26, 2) := by decide +kernel
theorem dX12_signer_110 : decode cX12_signer 110 = .ok (.iload_n 1, 1) := by decide +kernel
theorem dX12_signer_111 : decode cX12_signer 111 = .ok (.iadd, 1) := by decide +kernel
theorem dX12_signer_112 : decode cX12_signer 112 = .ok (.iaload, 1) := by decide +kernel
theorem dX12_signer_113 : decode cX12_signer 113 = .ok (.ireturn, 1) := by decide +kernel
theorem dX12_signer_114 : decode cX12_signer 114 = .ok (.aload_n 0, 1) := by decide +kernel
theorem dX12_signer_115 : decode cX12_signer 115 = .ok (.getfield 98, 3) := by decide +kernel
theorem dX12_signer_118 : decode cX12_signer 118 = .ok (.bipush 36, 2) := by decide +kernel
theorem dX12_signer_120 : decode cX12_signer 120 = .ok (.iload_n 1, 1) := by decide +kernel
theorem dX12_signer_121 : decode cX12_signer 121 = .ok (.iadd, 1) := by decide +kernel
theorem dX12_signer_122 : decode cX12_signer 122 = .ok (.iaload, 1) := by decide +kernel
theorem dX12_signer_123 : decode cX12_signer 123 = .ok (.ireturn, 1) := by decide +kernel
theorem dX12_signer_124 : decode cX12_signer 124 = .ok (.aload_n 0, 1) := by decide +kernel
theorem dX12_signer_125 : decode cX12_signer 125 = .ok (.iload_n 1, 1) := by decide +kernel
theorem dX12_signer_126 : decode cX12_signer 126 = .ok (.invokevirtual 283, 3) := by decide +kernel
theorem dX12_signer_129 : decode cX12_signer 129 = .ok (.ifCond .eq 7, 3) := by decide +kernel
theorem dX12_signer_132 : decode cX12_signer 132 = .ok (.iconst 1, 1) := by decide +kernel
theorem dX12_signer_133 : decode cX12_signer 133 = .ok (.goto 4, 3) := by decide +kernel
theorem dX12_signer_136 : decode cX12_signer 136 = .ok (.iconst 0, 1) := by decide +kernel
theorem dX12_signer_137 : decode cX12_signer 137 = .ok (.ireturn, 1) := by decide +kernel
theorem dX12_signer_138 : decode cX12_signer 138 = .ok (.aload_n 0, 1) := by decide +kernel
theorem dX12_signer_139 : decode cX12_signer 139 = .ok (.iload_n 1, 1) := by decide +kernel
theorem dX12_signer_140 : decode cX12_signer 140 = .ok (.invokevirtual 286, 3) := by decide +kernel
theorem dX12_signer_143 : decode cX12_signer 143 = .ok (.ireturn, 1) := by decide +kernel
theorem dX12_signer_144 : decode cX12_signer 144 = .ok (.aload_n 0, 1) := by decide +kernel
theorem dX12_signer_145 : decode cX12_signer 145 = .ok (.getfield 98, 3) := by decide +kernel
theorem dX12_signer_148 : decode cX12_signer 148 = .ok (.bipush 108, 2) := by decide +kernel
theorem dX12_signer_150 : decode cX12_signer 150 = .ok (.iload_n 1, 1) := by decide +kernel
theorem dX12_signer_151 : decode cX12_signer 151 = .ok (.iadd, 1) := by decide +kernel
theorem dX12_signer_152 : decode cX12_signer 152 = .ok (.iaload, 1) := by decide +kernel
theorem dX12_signer_153 : decode cX12_signer 153 = .ok (.ireturn, 1) := by decide +kernel
theorem dX12_signer_154 : decode cX12_signer 154 = .ok (.aload_n 0, 1) := by decide +kernel
theorem dX12_signer_155 : decode cX12_signer 155 = .ok (.invokevirtual 280, 3) := by decide +kernel
theorem dX12_signer_158 : decode cX12_signer 158 = .ok (.ireturn, 1) := by decide +kernel
def tX12_signer (kn : sKn) : List (Nat × sA) := [(0, a_aload 0 1), (1, a_stk (q_int 0) 2), (2, a_put 13 0 ckI 5), (5, a_aload 0 6), (6, a_iload 1 7), (7, a_callV false (fX12_isSigner kn) 13 2 10), (10, a_if kn b_ne 1 18 13), (13, a_aload 0 14), (14, a_callV false (fX12_refuse kn) 13 1 17), (17, a_iret), (18, a_iload 2 19), (19, a_table kn 0 7 [64, 74, 84, 104, 114, 124, 138, 144] 154), (64, a_aload 0 65), (65, a_get 13 14 68), (68, a_stk (q_int 98) 70), (70, a_iload 1 71), (71, a_stk q_iadd 72), (72, a_iald 73), (73, a_iret), (74, a_aload 0 75), (75, a_get 13 14 78), (78, a_stk (q_int 15) 80), (80, a_iload 1 81), (81, a_stk q_iadd 82), (82, a_iald 83), (83, a_iret), (84, a_aload 0 85), (85, a_get 13 14 88), (88, a_stk (q_int 25) 90), (90, a_iald 91), (91, a_iload 1 92), (92, a_callS false (fX12_has kn) 2 95), (95, a_if kn b_eq 0 102 98), (98, a_stk (q_int 1) 99), (99, a_goto 103), (102, a_stk (q_int 0) 103), (103, a_iret), (104, a_aload 0 105), (105, a_get 13 14 108), (108, a_stk (q_int 26) 110), (110, a_iload 1 111), (111, a_stk q_iadd 112), (112, a_iald 113), (113, a_iret), (114, a_aload 0 115), (115, a_get 13 14 118), (118, a_stk (q_int 36) 120), (120, a_iload 1 121), (121, a_stk q_iadd 122), (122, a_iald 123), (123, a_iret), (124, a_aload 0 125), (125, a_iload 1 126), (126, a_callV false (fX12_isDead kn) 13 2 129), (129, a_if kn b_eq 0 136 132), (132, a_stk (q_int 1) 133), (133, a_goto 137), (136, a_stk (q_int 0) 137), (137, a_iret), (138, a_aload 0 139), (139, a_iload 1 140), (140, a_callV false (fX12_planksOf kn) 13 2 143), (143, a_iret), (144, a_aload 0 145), (145, a_get 13 14 148), (148, a_stk (q_int 108) 150), (150, a_iload 1 151), (151, a_stk q_iadd 152), (152, a_iald 153), (153, a_iret), (154, a_aload 0 155), (155, a_callV false (fX12_refuse kn) 13 1 158), (158, a_iret)]
def fX12_signer (kn : sKn) : List Value → sW → Option sR := fW (tX12_signer kn) 3
set_option maxRecDepth 100000 in
set_option maxHeartbeats 4000000 in
theorem mX12_signer (kn : sKn) : mM kn yX12_signer (Cond.code yX12_signer cX12_signer 3 (some .int) :: wsL_law) 3 false (fX12_signer kn) := mM_W (fun n => mM_of (own := RX12) (ini := false) rfl (by decide +kernel) (by decide +kernel) (all_c (ok_aload_n dX12_signer_0 rfl) (all_c (ok_stk (s_iconst dX12_signer_1 (by decide))) (all_c (okp_X12_0 kw1114 dX12_signer_2) (all_c (ok_aload_n dX12_signer_5 rfl) (all_c (ok_iload_n dX12_signer_6 rfl) (all_c (okc_X12_isSigner (by decide) kw1337 dX12_signer_7) (all_c (ok_if_ne dX12_signer_10 (by decide)) (all_c (ok_aload_n dX12_signer_13 rfl) (all_c (okc_X12_refuse (by decide) kw1457 dX12_signer_14) (all_c (ok_iret dX12_signer_17) (all_c (ok_iload_n dX12_signer_18 rfl) (all_c (ok_table dX12_signer_19 (by decide) (by decide) (by decide) (by decide)) (all_c (ok_aload_n dX12_signer_64 rfl) (all_c (okg_X12_14 kw1069 dX12_signer_65) (all_c (ok_stk (s_bipush dX12_signer_68 (by decide))) (all_c (ok_iload_n dX12_signer_70 rfl) (all_c (ok_stk (s_iadd dX12_signer_71)) (all_c (ok_iald dX12_signer_72) (all_c (ok_iret dX12_signer_73) (all_c (ok_aload_n dX12_signer_74 rfl) (all_c (okg_X12_14 kw1069 dX12_signer_75) (all_c (ok_stk (s_bipush dX12_signer_78 (by decide))) (all_c (ok_iload_n dX12_signer_80 rfl) (all_c (ok_stk (s_iadd dX12_signer_81)) (all_c (ok_iald dX12_signer_82) (all_c (ok_iret dX12_signer_83) (all_c (ok_aload_n dX12_signer_84 rfl) (all_c (okg_X12_14 kw1069 dX12_signer_85) (all_c (ok_stk (s_bipush dX12_signer_88 (by decide))) (all_c (ok_iald dX12_signer_90) (all_c (ok_iload_n dX12_signer_91 rfl) (all_c (okc_X12_has (by decide) kw1077 dX12_signer_92) (all_c (ok_if_eq dX12_signer_95 (by decide)) (all_c (ok_stk (s_iconst dX12_signer_98 (by decide))) (all_c (ok_goto dX12_signer_99 (by decide)) (all_c (ok_stk (s_iconst dX12_signer_102 (by decide))) (all_c (ok_iret dX12_signer_103) (all_c (ok_aload_n dX12_signer_104 rfl) (all_c (okg_X12_14 kw1069 dX12_signer_105) (all_c (ok_stk (s_bipush dX12_signer_108 (by decide))) (all_c (ok_iload_n dX12_signer_110 rfl) (all_c (ok_stk (s_iadd dX12_signer_111)) (all_c (ok_iald dX12_signer_112) (all_c (ok_iret dX12_signer_113) (all_c (ok_aload_n dX12_signer_114 rfl) (all_c (okg_X12_14 kw1069 dX12_signer_115) (all_c (ok_stk (s_bipush dX12_signer_118 (by decide))) (all_c (ok_iload_n dX12_signer_120 rfl) (all_c (ok_stk (s_iadd dX12_signer_121)) (all_c (ok_iald dX12_signer_122) (all_c (ok_iret dX12_signer_123) (all_c (ok_aload_n dX12_signer_124 rfl) (all_c (ok_iload_n dX12_signer_125 rfl) (all_c (okc_X12_isDead (by decide) kw1138 dX12_signer_126) (all_c (ok_if_eq dX12_signer_129 (by decide)) (all_c (ok_stk (s_iconst dX12_signer_132 (by decide))) (all_c (ok_goto dX12_signer_133 (by decide)) (all_c (ok_stk (s_iconst dX12_signer_136 (by decide))) (all_c (ok_iret dX12_signer_137) (all_c (ok_aload_n dX12_signer_138 rfl) (all_c (ok_iload_n dX12_signer_139 rfl) (all_c (okc_X12_planksOf (by decide) kw1204 dX12_signer_140) (all_c (ok_iret dX12_signer_143) (all_c (ok_aload_n dX12_signer_144 rfl) (all_c (okg_X12_14 kw1069 dX12_signer_145) (all_c (ok_stk (s_bipush dX12_signer_148 (by decide))) (all_c (ok_iload_n dX12_signer_150 rfl) (all_c (ok_stk (s_iadd dX12_signer_151)) (all_c (ok_iald dX12_signer_152) (all_c (ok_iret dX12_signer_153) (all_c (ok_aload_n dX12_signer_154 rfl) (all_c (okc_X12_refuse (by decide) kw1457 dX12_signer_155) (all_c (ok_iret dX12_signer_158) all_n))))))))))))))))))))))))))))))))))))))))))))))))))))))))))))))))))))))))) n (fun h => by first | rfl | cases h))
theorem dX12_spare_0 : decode cX12_spare 0 = .ok (.aload_n 0, 1) := by decide +kernel
theorem dX12_spare_1 : decode cX12_spare 1 = .ok (.iconst 0, 1) := by decide +kernel
theorem dX12_spare_2 : decode cX12_spare 2 = .ok (.putfield 1, 3) := by decide +kernel
theorem dX12_spare_5 : decode cX12_spare 5 = .ok (.aload_n 0, 1) := by decide +kernel
theorem dX12_spare_6 : decode cX12_spare 6 = .ok (.iload_n 1, 1) := by decide +kernel
theorem dX12_spare_7 : decode cX12_spare 7 = .ok (.invokevirtual 295, 3) := by decide +kernel
theorem dX12_spare_10 : decode cX12_spare 10 = .ok (.ifCond .ne 5, 3) := by decide +kernel
theorem dX12_spare_13 : decode cX12_spare 13 = .ok (.iconst (-1), 1) := by decide +kernel
theorem dX12_spare_14 : decode cX12_spare 14 = .ok (.ireturn, 1) := by decide +kernel
theorem dX12_spare_15 : decode cX12_spare 15 = .ok (.aload_n 0, 1) := by decide +kernel
theorem dX12_spare_16 : decode cX12_spare 16 = .ok (.invokevirtual 292, 3) := by decide +kernel
theorem dX12_spare_19 : decode cX12_spare 19 = .ok (.aload_n 0, 1) := by decide +kernel
theorem dX12_spare_20 : decode cX12_spare 20 = .ok (.iload_n 1, 1) := by decide +kernel
theorem dX12_spare_21 : decode cX12_spare 21 = .ok (.invokevirtual 319, 3) := by decide +kernel
theorem dX12_spare_24 : decode cX12_spare 24 = .ok (.ireturn, 1) := by decide +kernel
def tX12_spare (kn : sKn) : List (Nat × sA) := [(0, a_aload 0 1), (1, a_stk (q_int 0) 2), (2, a_put 13 0 ckI 5), (5, a_aload 0 6), (6, a_iload 1 7), (7, a_callV false (fX12_isLoad kn) 13 2 10), (10, a_if kn b_ne 1 15 13), (13, a_stk (q_int (-1)) 14), (14, a_iret), (15, a_aload 0 16), (16, a_callV true (fX12_layWhose kn) 13 1 19), (19, a_aload 0 20), (20, a_iload 1 21), (21, a_callV false (fX12_bestOf kn) 13 2 24), (24, a_iret)]
def fX12_spare (kn : sKn) : List Value → sW → Option sR := fW (tX12_spare kn) 2
set_option maxRecDepth 100000 in
set_option maxHeartbeats 4000000 in
theorem mX12_spare (kn : sKn) : mM kn yX12_spare (Cond.code yX12_spare cX12_spare 2 (some .int) :: wsL_law) 8 false (fX12_spare kn) := mM_W (fun n => mM_of (own := RX12) (ini := false) rfl (by decide +kernel) (by decide +kernel) (all_c (ok_aload_n dX12_spare_0 rfl) (all_c (ok_stk (s_iconst dX12_spare_1 (by decide))) (all_c (okp_X12_0 kw1114 dX12_spare_2) (all_c (ok_aload_n dX12_spare_5 rfl) (all_c (ok_iload_n dX12_spare_6 rfl) (all_c (okc_X12_isLoad (by decide) kw1142 dX12_spare_7) (all_c (ok_if_ne dX12_spare_10 (by decide)) (all_c (ok_stk (s_iconst dX12_spare_13 (by decide))) (all_c (ok_iret dX12_spare_14) (all_c (ok_aload_n dX12_spare_15 rfl) (all_c (okc_X12_layWhose (by decide) kw1118 dX12_spare_16) (all_c (ok_aload_n dX12_spare_19 rfl) (all_c (ok_iload_n dX12_spare_20 rfl) (all_c (okc_X12_bestOf (by decide) kw1109 dX12_spare_21) (all_c (ok_iret dX12_spare_24) all_n))))))))))))))) n (fun h => by first | rfl | cases h))
theorem dX12_surely_0 : decode cX12_surely 0 = .ok (.aload_n 0, 1) := by decide +kernel
theorem dX12_surely_1 : decode cX12_surely 1 = .ok (.iconst 0, 1) := by decide +kernel
theorem dX12_surely_2 : decode cX12_surely 2 = .ok (.putfield 1, 3) := by decide +kernel
theorem dX12_surely_5 : decode cX12_surely 5 = .ok (.aload_n 0, 1) := by decide +kernel
theorem dX12_surely_6 : decode cX12_surely 6 = .ok (.getfield 166, 3) := by decide +kernel
theorem dX12_surely_9 : decode cX12_surely 9 = .ok (.ireturn, 1) := by decide +kernel
def tX12_surely (kn : sKn) : List (Nat × sA) := [(0, a_aload 0 1), (1, a_stk (q_int 0) 2), (2, a_put 13 0 ckI 5), (5, a_aload 0 6), (6, a_get 13 46 9), (9, a_iret)]
def fX12_surely (kn : sKn) : List Value → sW → Option sR := fW (tX12_surely kn) 1
set_option maxRecDepth 100000 in
set_option maxHeartbeats 4000000 in
theorem mX12_surely (kn : sKn) : mM kn yX12_surely (Cond.code yX12_surely cX12_surely 1 (some .int) :: wsL_law) 1 false (fX12_surely kn) := mM_W (fun n => mM_of (own := RX12) (ini := false) rfl (by decide +kernel) (by decide +kernel) (all_c (ok_aload_n dX12_surely_0 rfl) (all_c (ok_stk (s_iconst dX12_surely_1 (by decide))) (all_c (okp_X12_0 kw1114 dX12_surely_2) (all_c (ok_aload_n dX12_surely_5 rfl) (all_c (okg_X12_46 kw1431 dX12_surely_6) (all_c (ok_iret dX12_surely_9) all_n)))))) n (fun h => by first | rfl | cases h))
theorem dX12_tells_0 : decode cX12_tells 0 = .ok (.aload_n 0, 1) := by decide +kernel
theorem dX12_tells_1 : decode cX12_tells 1 = .ok (.iconst 0, 1) := by decide +kernel
theorem dX12_tells_2 : decode cX12_tells 2 = .ok (.putfield 1, 3) := by decide +kernel
theorem dX12_tells_5 : decode cX12_tells 5 = .ok (.aload_n 0, 1) := by decide +kernel
theorem dX12_tells_6 : decode cX12_tells 6 = .ok (.getfield 169, 3) := by decide +kernel
theorem dX12_tells_9 : decode cX12_tells 9 = .ok (.ireturn, 1) := by decide +kernel
def tX12_tells (kn : sKn) : List (Nat × sA) := [(0, a_aload 0 1), (1, a_stk (q_int 0) 2), (2, a_put 13 0 ckI 5), (5, a_aload 0 6), (6, a_get 13 47 9), (9, a_iret)]
def fX12_tells (kn : sKn) : List Value → sW → Option sR := fW (tX12_tells kn) 1
set_option maxRecDepth 100000 in
set_option maxHeartbeats 4000000 in
theorem mX12_tells (kn : sKn) : mM kn yX12_tells (Cond.code yX12_tells cX12_tells 1 (some .int) :: wsL_law) 1 false (fX12_tells kn) := mM_W (fun n => mM_of (own := RX12) (ini := false) rfl (by decide +kernel) (by decide +kernel) (all_c (ok_aload_n dX12_tells_0 rfl) (all_c (ok_stk (s_iconst dX12_tells_1 (by decide))) (all_c (okp_X12_0 kw1114 dX12_tells_2) (all_c (ok_aload_n dX12_tells_5 rfl) (all_c (okg_X12_47 kw1432 dX12_tells_6) (all_c (ok_iret dX12_tells_9) all_n)))))) n (fun h => by first | rfl | cases h))
theorem dX12_told_0 : decode cX12_told 0 = .ok (.aload_n 0, 1) := by decide +kernel
theorem dX12_told_1 : decode cX12_told 1 = .ok (.iconst 0, 1) := by decide +kernel
theorem dX12_told_2 : decode cX12_told 2 = .ok (.putfield 1, 3) := by decide +kernel
theorem dX12_told_5 : decode cX12_told 5 = .ok (.aload_n 0, 1) := by decide +kernel
theorem dX12_told_6 : decode cX12_told 6 = .ok (.getfield 465, 3) := by decide +kernel
theorem dX12_told_9 : decode cX12_told 9 = .ok (.ifCond .eq 21, 3) := by decide +kernel
theorem dX12_told_12 : decode cX12_told 12 = .ok (.iload_n 1, 1) := by decide +kernel
theorem dX12_told_13 : decode cX12_told 13 = .ok (.iconst 0, 1) := by decide +kernel
theorem dX12_told_14 : decode cX12_told 14 = .ok (.iconst 3, 1) := by decide +kernel
theorem dX12_told_15 : decode cX12_told 15 = .ok (.invokestatic 75, 3) := by decide +kernel
theorem dX12_told_18 : decode cX12_told 18 = .ok (.ifCond .eq 12, 3) := by decide +kernel
theorem dX12_told_21 : decode cX12_told 21 = .ok (.aload_n 0, 1) := by decide +kernel
theorem dX12_told_22 : decode cX12_told 22 = .ok (.getfield 178, 3) := by decide +kernel
theorem dX12_told_25 : decode cX12_told 25 = .ok (.iload_n 1, 1) := by decide +kernel
theorem dX12_told_26 : decode cX12_told 26 = .ok (.iaload, 1) := by decide +kernel
theorem dX12_told_27 : decode cX12_told 27 = .ok (.goto 4, 3) := by decide +kernel
theorem dX12_told_30 : decode cX12_told 30 = .ok (.iconst (-1), 1) := by decide +kernel
theorem dX12_told_31 : decode cX12_told 31 = .ok (.ireturn, 1) := by decide +kernel
def tX12_told (kn : sKn) : List (Nat × sA) := [(0, a_aload 0 1), (1, a_stk (q_int 0) 2), (2, a_put 13 0 ckI 5), (5, a_aload 0 6), (6, a_get 13 54 9), (9, a_if kn b_eq 0 30 12), (12, a_iload 1 13), (13, a_stk (q_int 0) 14), (14, a_stk (q_int 3) 15), (15, a_callS false (fX12_isIn kn) 3 18), (18, a_if kn b_eq 0 30 21), (21, a_aload 0 22), (22, a_get 13 52 25), (25, a_iload 1 26), (26, a_iald 27), (27, a_goto 31), (30, a_stk (q_int (-1)) 31), (31, a_iret)]
def fX12_told (kn : sKn) : List Value → sW → Option sR := fW (tX12_told kn) 2
set_option maxRecDepth 100000 in
set_option maxHeartbeats 4000000 in
theorem mX12_told (kn : sKn) : mM kn yX12_told (Cond.code yX12_told cX12_told 2 (some .int) :: wsL_law) 2 false (fX12_told kn) := mM_W (fun n => mM_of (own := RX12) (ini := false) rfl (by decide +kernel) (by decide +kernel) (all_c (ok_aload_n dX12_told_0 rfl) (all_c (ok_stk (s_iconst dX12_told_1 (by decide))) (all_c (okp_X12_0 kw1114 dX12_told_2) (all_c (ok_aload_n dX12_told_5 rfl) (all_c (okg_X12_54 kw1329 dX12_told_6) (all_c (ok_if_eq dX12_told_9 (by decide)) (all_c (ok_iload_n dX12_told_12 rfl) (all_c (ok_stk (s_iconst dX12_told_13 (by decide))) (all_c (ok_stk (s_iconst dX12_told_14 (by decide))) (all_c (okc_X12_isIn (by decide) kw1126 dX12_told_15) (all_c (ok_if_eq dX12_told_18 (by decide)) (all_c (ok_aload_n dX12_told_21 rfl) (all_c (okg_X12_52 kw1328 dX12_told_22) (all_c (ok_iload_n dX12_told_25 rfl) (all_c (ok_iald dX12_told_26) (all_c (ok_goto dX12_told_27 (by decide)) (all_c (ok_stk (s_iconst dX12_told_30 (by decide))) (all_c (ok_iret dX12_told_31) all_n)))))))))))))))))) n (fun h => by first | rfl | cases h))
theorem dX12_toll_0 : decode cX12_toll 0 = .ok (.aload_n 0, 1) := by decide +kernel
theorem dX12_toll_1 : decode cX12_toll 1 = .ok (.iconst 0, 1) := by decide +kernel
theorem dX12_toll_2 : decode cX12_toll 2 = .ok (.putfield 1, 3) := by decide +kernel
theorem dX12_toll_5 : decode cX12_toll 5 = .ok (.aload_n 0, 1) := by decide +kernel
theorem dX12_toll_6 : decode cX12_toll 6 = .ok (.iload_n 1, 1) := by decide +kernel
theorem dX12_toll_7 : decode cX12_toll 7 = .ok (.invokevirtual 277, 3) := by decide +kernel
theorem dX12_toll_10 : decode cX12_toll 10 = .ok (.ifCond .eq 19, 3) := by decide +kernel
theorem dX12_toll_13 : decode cX12_toll 13 = .ok (.aload_n 0, 1) := by decide +kernel
theorem dX12_toll_14 : decode cX12_toll 14 = .ok (.iload_n 2, 1) := by decide +kernel
theorem dX12_toll_15 : decode cX12_toll 15 = .ok (.invokevirtual 295, 3) := by decide +kernel
theorem dX12_toll_18 : decode cX12_toll 18 = .ok (.ifCond .eq 11, 3) := by decide +kernel
theorem dX12_toll_21 : decode cX12_toll 21 = .ok (.aload_n 0, 1) := by decide +kernel
theorem dX12_toll_22 : decode cX12_toll 22 = .ok (.iload_n 2, 1) := by decide +kernel
theorem dX12_toll_23 : decode cX12_toll 23 = .ok (.invokevirtual 322, 3) := by decide +kernel
theorem dX12_toll_26 : decode cX12_toll 26 = .ok (.ifCond .ne 5, 3) := by decide +kernel
theorem dX12_toll_29 : decode cX12_toll 29 = .ok (.iconst (-1), 1) := by decide +kernel
theorem dX12_toll_30 : decode cX12_toll 30 = .ok (.ireturn, 1) := by decide +kernel
theorem dX12_toll_31 : decode cX12_toll 31 = .ok (.iconst 0, 1) := by decide +kernel
theorem dX12_toll_32 : decode cX12_toll 32 = .ok (.istore_n 3, 1) := by decide +kernel
theorem dX12_toll_33 : decode cX12_toll 33 = .ok (.iconst 0, 1) := by decide +kernel
theorem dX12_toll_34 : decode cX12_toll 34 = .ok (.istore 4, 2) := by decide +kernel
theorem dX12_toll_36 : decode cX12_toll 36 = .ok (.iload 4, 2) := by decide +kernel
theorem dX12_toll_38 : decode cX12_toll 38 = .ok (.aload_n 0, 1) := by decide +kernel
theorem dX12_toll_39 : decode cX12_toll 39 = .ok (.getfield 98, 3) := by decide +kernel
theorem dX12_toll_42 : decode cX12_toll 42 = .ok (.iconst 0, 1) := by decide +kernel
theorem dX12_toll_43 : decode cX12_toll 43 = .ok (.iaload, 1) := by decide +kernel
theorem dX12_toll_44 : decode cX12_toll 44 = .ok (.if_icmp .ge 70, 3) := by decide +kernel
theorem dX12_toll_47 : decode cX12_toll 47 = .ok (.iconst 0, 1) := by decide +kernel
theorem dX12_toll_48 : decode cX12_toll 48 = .ok (.istore 5, 2) := by decide +kernel
theorem dX12_toll_50 : decode cX12_toll 50 = .ok (.iload 5, 2) := by decide +kernel
theorem dX12_toll_52 : decode cX12_toll 52 = .ok (.aload_n 0, 1) := by decide +kernel
theorem dX12_toll_53 : decode cX12_toll 53 = .ok (.getfield 98, 3) := by decide +kernel
theorem dX12_toll_56 : decode cX12_toll 56 = .ok (.bipush 88, 2) := by decide +kernel
theorem dX12_toll_58 : decode cX12_toll 58 = .ok (.iload_n 2, 1) := by decide +kernel
theorem dX12_toll_59 : decode cX12_toll 59 = .ok (.iadd, 1) := by decide +kernel
theorem dX12_toll_60 : decode cX12_toll 60 = .ok (.iaload, 1) := by decide +kernel
theorem dX12_toll_61 : decode cX12_toll 61 = .ok (.if_icmp .ge 47, 3) := by decide +kernel
theorem dX12_toll_64 : decode cX12_toll 64 = .ok (.aload_n 0, 1) := by decide +kernel
theorem dX12_toll_65 : decode cX12_toll 65 = .ok (.getfield 133, 3) := by decide +kernel
theorem dX12_toll_68 : decode cX12_toll 68 = .ok (.iload 4, 2) := by decide +kernel
theorem dX12_toll_70 : decode cX12_toll 70 = .ok (.iaload, 1) := by decide +kernel
theorem dX12_toll_71 : decode cX12_toll 71 = .ok (.iconst 3, 1) := by decide +kernel
theorem dX12_toll_72 : decode cX12_toll 72 = .ok (.if_icmp .eq 36, 3) := by decide +kernel
theorem dX12_toll_75 : decode cX12_toll 75 = .ok (.aload_n 0, 1) := by decide +kernel
theorem dX12_toll_76 : decode cX12_toll 76 = .ok (.getfield 127, 3) := by decide +kernel
theorem dX12_toll_79 : decode cX12_toll 79 = .ok (.iconst 3, 1) := by decide +kernel
theorem dX12_toll_80 : decode cX12_toll 80 = .ok (.iload 4, 2) := by decide +kernel
theorem dX12_toll_82 : decode cX12_toll 82 = .ok (.imul, 1) := by decide +kernel
theorem dX12_toll_83 : decode cX12_toll 83 = .ok (.aload_n 0, 1) := by decide +kernel
theorem dX12_toll_84 : decode cX12_toll 84 = .ok (.getfield 133, 3) := by decide +kernel
theorem dX12_toll_87 : decode cX12_toll 87 = .ok (.iload 4, 2) := by decide +kernel
theorem dX12_toll_89 : decode cX12_toll 89 = .ok (.iaload, 1) := by decide +kernel
theorem dX12_toll_90 : decode cX12_toll 90 = .ok (.iadd, 1) := by decide +kernel
theorem dX12_toll_91 : decode cX12_toll 91 = .ok (.iload 5, 2) := by decide +kernel
theorem dX12_toll_93 : decode cX12_toll 93 = .ok (.iadd, 1) := by decide +kernel
theorem dX12_toll_94 : decode cX12_toll 94 = .ok (.iaload, 1) := by decide +kernel
theorem dX12_toll_95 : decode cX12_toll 95 = .ok (.iload_n 1, 1) := by decide +kernel
theorem dX12_toll_96 : decode cX12_toll 96 = .ok (.if_icmp .ne 6, 3) := by decide +kernel
theorem dX12_toll_99 : decode cX12_toll 99 = .ok (.iinc 3 1, 3) := by decide +kernel
theorem dX12_toll_102 : decode cX12_toll 102 = .ok (.iinc 5 1, 3) := by decide +kernel
theorem dX12_toll_105 : decode cX12_toll 105 = .ok (.goto (-55), 3) := by decide +kernel
theorem dX12_toll_108 : decode cX12_toll 108 = .ok (.iinc 4 1, 3) := by decide +kernel
theorem dX12_toll_111 : decode cX12_toll 111 = .ok (.goto (-75), 3) := by decide +kernel
theorem dX12_toll_114 : decode cX12_toll 114 = .ok (.iload_n 3, 1) := by decide +kernel
theorem dX12_toll_115 : decode cX12_toll 115 = .ok (.ireturn, 1) := by decide +kernel
def tX12_toll (kn : sKn) : List (Nat × sA) := [(0, a_aload 0 1), (1, a_stk (q_int 0) 2), (2, a_put 13 0 ckI 5), (5, a_aload 0 6), (6, a_iload 1 7), (7, a_callV false (fX12_isSigner kn) 13 2 10), (10, a_if kn b_eq 0 29 13), (13, a_aload 0 14), (14, a_iload 2 15), (15, a_callV false (fX12_isLoad kn) 13 2 18), (18, a_if kn b_eq 0 29 21), (21, a_aload 0 22), (22, a_iload 2 23), (23, a_callV false (fX12_layPath kn) 13 2 26), (26, a_if kn b_ne 1 31 29), (29, a_stk (q_int (-1)) 30), (30, a_iret), (31, a_stk (q_int 0) 32), (32, a_istore 3 33), (33, a_stk (q_int 0) 34), (34, a_istore 4 36), (36, a_iload 4 38), (38, a_aload 0 39), (39, a_get 13 14 42), (42, a_stk (q_int 0) 43), (43, a_iald 44), (44, a_icmp kn b_ge 3 114 47), (47, a_stk (q_int 0) 48), (48, a_istore 5 50), (50, a_iload 5 52), (52, a_aload 0 53), (53, a_get 13 14 56), (56, a_stk (q_int 88) 58), (58, a_iload 2 59), (59, a_stk q_iadd 60), (60, a_iald 61), (61, a_icmp kn b_ge 3 108 64), (64, a_aload 0 65), (65, a_get 13 30 68), (68, a_iload 4 70), (70, a_iald 71), (71, a_stk (q_int 3) 72), (72, a_icmp kn b_eq 0 108 75), (75, a_aload 0 76), (76, a_get 13 27 79), (79, a_stk (q_int 3) 80), (80, a_iload 4 82), (82, a_stk q_imul 83), (83, a_aload 0 84), (84, a_get 13 30 87), (87, a_iload 4 89), (89, a_iald 90), (90, a_stk q_iadd 91), (91, a_iload 5 93), (93, a_stk q_iadd 94), (94, a_iald 95), (95, a_iload 1 96), (96, a_icmp kn b_ne 1 102 99), (99, a_iinc 3 1 102), (102, a_iinc 5 1 105), (105, a_goto 50), (108, a_iinc 4 1 111), (111, a_goto 36), (114, a_iload 3 115), (115, a_iret)]
def fX12_toll (kn : sKn) : List Value → sW → Option sR := fW (tX12_toll kn) 6
set_option maxRecDepth 100000 in
set_option maxHeartbeats 4000000 in
theorem mX12_toll (kn : sKn) : mM kn yX12_toll (Cond.code yX12_toll cX12_toll 6 (some .int) :: wsL_law) 9 false (fX12_toll kn) := mM_W (fun n => mM_of (own := RX12) (ini := false) rfl (by decide +kernel) (by decide +kernel) (all_c (ok_aload_n dX12_toll_0 rfl) (all_c (ok_stk (s_iconst dX12_toll_1 (by decide))) (all_c (okp_X12_0 kw1114 dX12_toll_2) (all_c (ok_aload_n dX12_toll_5 rfl) (all_c (ok_iload_n dX12_toll_6 rfl) (all_c (okc_X12_isSigner (by decide) kw1337 dX12_toll_7) (all_c (ok_if_eq dX12_toll_10 (by decide)) (all_c (ok_aload_n dX12_toll_13 rfl) (all_c (ok_iload_n dX12_toll_14 rfl) (all_c (okc_X12_isLoad (by decide) kw1142 dX12_toll_15) (all_c (ok_if_eq dX12_toll_18 (by decide)) (all_c (ok_aload_n dX12_toll_21 rfl) (all_c (ok_iload_n dX12_toll_22 rfl) (all_c (okc_X12_layPath (by decide) kw1470 dX12_toll_23) (all_c (ok_if_ne dX12_toll_26 (by decide)) (all_c (ok_stk (s_iconst dX12_toll_29 (by decide))) (all_c (ok_iret dX12_toll_30) (all_c (ok_stk (s_iconst dX12_toll_31 (by decide))) (all_c (ok_istore_n dX12_toll_32 rfl (by decide)) (all_c (ok_stk (s_iconst dX12_toll_33 (by decide))) (all_c (ok_istore dX12_toll_34 (by decide)) (all_c (ok_iload dX12_toll_36) (all_c (ok_aload_n dX12_toll_38 rfl) (all_c (okg_X12_14 kw1069 dX12_toll_39) (all_c (ok_stk (s_iconst dX12_toll_42 (by decide))) (all_c (ok_iald dX12_toll_43) (all_c (ok_icmp_ge dX12_toll_44 (by decide)) (all_c (ok_stk (s_iconst dX12_toll_47 (by decide))) (all_c (ok_istore dX12_toll_48 (by decide)) (all_c (ok_iload dX12_toll_50) (all_c (ok_aload_n dX12_toll_52 rfl) (all_c (okg_X12_14 kw1069 dX12_toll_53) (all_c (ok_stk (s_bipush dX12_toll_56 (by decide))) (all_c (ok_iload_n dX12_toll_58 rfl) (all_c (ok_stk (s_iadd dX12_toll_59)) (all_c (ok_iald dX12_toll_60) (all_c (ok_icmp_ge dX12_toll_61 (by decide)) (all_c (ok_aload_n dX12_toll_64 rfl) (all_c (okg_X12_30 kw1445 dX12_toll_65) (all_c (ok_iload dX12_toll_68) (all_c (ok_iald dX12_toll_70) (all_c (ok_stk (s_iconst dX12_toll_71 (by decide))) (all_c (ok_icmp_eq dX12_toll_72 (by decide)) (all_c (ok_aload_n dX12_toll_75 rfl) (all_c (okg_X12_27 kw1068 dX12_toll_76) (all_c (ok_stk (s_iconst dX12_toll_79 (by decide))) (all_c (ok_iload dX12_toll_80) (all_c (ok_stk (s_imul dX12_toll_82)) (all_c (ok_aload_n dX12_toll_83 rfl) (all_c (okg_X12_30 kw1445 dX12_toll_84) (all_c (ok_iload dX12_toll_87) (all_c (ok_iald dX12_toll_89) (all_c (ok_stk (s_iadd dX12_toll_90)) (all_c (ok_iload dX12_toll_91) (all_c (ok_stk (s_iadd dX12_toll_93)) (all_c (ok_iald dX12_toll_94) (all_c (ok_iload_n dX12_toll_95 rfl) (all_c (ok_icmp_ne dX12_toll_96 (by decide)) (all_c (ok_iinc dX12_toll_99 (by decide) (by decide)) (all_c (ok_iinc dX12_toll_102 (by decide) (by decide)) (all_c (ok_goto dX12_toll_105 (by decide)) (all_c (ok_iinc dX12_toll_108 (by decide) (by decide)) (all_c (ok_goto dX12_toll_111 (by decide)) (all_c (ok_iload_n dX12_toll_114 rfl) (all_c (ok_iret dX12_toll_115) all_n))))))))))))))))))))))))))))))))))))))))))))))))))))))))))))))))) n (fun h => by first | rfl | cases h))
theorem dX12_undo_0 : decode cX12_undo 0 = .ok (.aload_n 0, 1) := by decide +kernel
theorem dX12_undo_1 : decode cX12_undo 1 = .ok (.iconst 0, 1) := by decide +kernel
theorem dX12_undo_2 : decode cX12_undo 2 = .ok (.putfield 1, 3) := by decide +kernel
theorem dX12_undo_5 : decode cX12_undo 5 = .ok (.aload_n 0, 1) := by decide +kernel
theorem dX12_undo_6 : decode cX12_undo 6 = .ok (.getfield 258, 3) := by decide +kernel
theorem dX12_undo_9 : decode cX12_undo 9 = .ok (.ifCond .ne 5, 3) := by decide +kernel
theorem dX12_undo_12 : decode cX12_undo 12 = .ok (.iconst (-1), 1) := by decide +kernel
theorem dX12_undo_13 : decode cX12_undo 13 = .ok (.ireturn, 1) := by decide +kernel
theorem dX12_undo_14 : decode cX12_undo 14 = .ok (.aload_n 0, 1) := by decide +kernel
theorem dX12_undo_15 : decode cX12_undo 15 = .ok (.dup, 1) := by decide +kernel
theorem dX12_undo_16 : decode cX12_undo 16 = .ok (.getfield 258, 3) := by decide +kernel
theorem dX12_undo_19 : decode cX12_undo 19 = .ok (.iconst 1, 1) := by decide +kernel
theorem dX12_undo_20 : decode cX12_undo 20 = .ok (.isub, 1) := by decide +kernel
theorem dX12_undo_21 : decode cX12_undo 21 = .ok (.putfield 258, 3) := by decide +kernel
theorem dX12_undo_24 : decode cX12_undo 24 = .ok (.iconst 0, 1) := by decide +kernel
theorem dX12_undo_25 : decode cX12_undo 25 = .ok (.istore_n 1, 1) := by decide +kernel
theorem dX12_undo_26 : decode cX12_undo 26 = .ok (.iload_n 1, 1) := by decide +kernel
theorem dX12_undo_27 : decode cX12_undo 27 = .ok (.bipush 102, 2) := by decide +kernel
theorem dX12_undo_29 : decode cX12_undo 29 = .ok (.if_icmp .ge 32, 3) := by decide +kernel
theorem dX12_undo_32 : decode cX12_undo 32 = .ok (.aload_n 0, 1) := by decide +kernel
theorem dX12_undo_33 : decode cX12_undo 33 = .ok (.getfield 98, 3) := by decide +kernel
theorem dX12_undo_36 : decode cX12_undo 36 = .ok (.bipush 94, 2) := by decide +kernel
theorem dX12_undo_38 : decode cX12_undo 38 = .ok (.iload_n 1, 1) := by decide +kernel
theorem dX12_undo_39 : decode cX12_undo 39 = .ok (.iadd, 1) := by decide +kernel
theorem dX12_undo_40 : decode cX12_undo 40 = .ok (.aload_n 0, 1) := by decide +kernel
theorem dX12_undo_41 : decode cX12_undo 41 = .ok (.getfield 107, 3) := by decide +kernel
theorem dX12_undo_44 : decode cX12_undo 44 = .ok (.bipush 102, 2) := by decide +kernel
theorem dX12_undo_46 : decode cX12_undo 46 = .ok (.aload_n 0, 1) := by decide +kernel
theorem dX12_undo_47 : decode cX12_undo 47 = .ok (.getfield 258, 3) := by decide +kernel
theorem dX12_undo_50 : decode cX12_undo 50 = .ok (.imul, 1) := by decide +kernel
theorem dX12_undo_51 : decode cX12_undo 51 = .ok (.iload_n 1, 1) := by decide +kernel
theorem dX12_undo_52 : decode cX12_undo 52 = .ok (.iadd, 1) := by decide +kernel
theorem dX12_undo_53 : decode cX12_undo 53 = .ok (.iaload, 1) := by decide +kernel
theorem dX12_undo_54 : decode cX12_undo 54 = .ok (.iastore, 1) := by decide +kernel
theorem dX12_undo_55 : decode cX12_undo 55 = .ok (.iinc 1 1, 3) := by decide +kernel
theorem dX12_undo_58 : decode cX12_undo 58 = .ok (.goto (-32), 3) := by decide +kernel
theorem dX12_undo_61 : decode cX12_undo 61 = .ok (.aload_n 0, 1) := by decide +kernel
theorem dX12_undo_62 : decode cX12_undo 62 = .ok (.getfield 258, 3) := by decide +kernel
theorem dX12_undo_65 : decode cX12_undo 65 = .ok (.ireturn, 1) := by decide +kernel
def tX12_undo (kn : sKn) : List (Nat × sA) := [(0, a_aload 0 1), (1, a_stk (q_int 0) 2), (2, a_put 13 0 ckI 5), (5, a_aload 0 6), (6, a_get 13 23 9), (9, a_if kn b_ne 1 14 12), (12, a_stk (q_int (-1)) 13), (13, a_iret), (14, a_aload 0 15), (15, a_stk q_dup 16), (16, a_get 13 23 19), (19, a_stk (q_int 1) 20), (20, a_stk q_isub 21), (21, a_put 13 23 ckI 24), (24, a_stk (q_int 0) 25), (25, a_istore 1 26), (26, a_iload 1 27), (27, a_stk (q_int 102) 29), (29, a_icmp kn b_ge 3 61 32), (32, a_aload 0 33), (33, a_get 13 14 36), (36, a_stk (q_int 94) 38), (38, a_iload 1 39), (39, a_stk q_iadd 40), (40, a_aload 0 41), (41, a_get 13 17 44), (44, a_stk (q_int 102) 46), (46, a_aload 0 47), (47, a_get 13 23 50), (50, a_stk q_imul 51), (51, a_iload 1 52), (52, a_stk q_iadd 53), (53, a_iald 54), (54, a_iast 55), (55, a_iinc 1 1 58), (58, a_goto 26), (61, a_aload 0 62), (62, a_get 13 23 65), (65, a_iret)]
def fX12_undo (kn : sKn) : List Value → sW → Option sR := fW (tX12_undo kn) 2
set_option maxRecDepth 100000 in
set_option maxHeartbeats 4000000 in
theorem mX12_undo (kn : sKn) : mM kn yX12_undo (Cond.code yX12_undo cX12_undo 2 (some .int) :: wsL_law) 1 false (fX12_undo kn) := mM_W (fun n => mM_of (own := RX12) (ini := false) rfl (by decide +kernel) (by decide +kernel) (all_c (ok_aload_n dX12_undo_0 rfl) (all_c (ok_stk (s_iconst dX12_undo_1 (by decide))) (all_c (okp_X12_0 kw1114 dX12_undo_2) (all_c (ok_aload_n dX12_undo_5 rfl) (all_c (okg_X12_23 kw1286 dX12_undo_6) (all_c (ok_if_ne dX12_undo_9 (by decide)) (all_c (ok_stk (s_iconst dX12_undo_12 (by decide))) (all_c (ok_iret dX12_undo_13) (all_c (ok_aload_n dX12_undo_14 rfl) (all_c (ok_stk (s_dup dX12_undo_15)) (all_c (okg_X12_23 kw1286 dX12_undo_16) (all_c (ok_stk (s_iconst dX12_undo_19 (by decide))) (all_c (ok_stk (s_isub dX12_undo_20)) (all_c (okp_X12_23 kw1286 dX12_undo_21) (all_c (ok_stk (s_iconst dX12_undo_24 (by decide))) (all_c (ok_istore_n dX12_undo_25 rfl (by decide)) (all_c (ok_iload_n dX12_undo_26 rfl) (all_c (ok_stk (s_bipush dX12_undo_27 (by decide))) (all_c (ok_icmp_ge dX12_undo_29 (by decide)) (all_c (ok_aload_n dX12_undo_32 rfl) (all_c (okg_X12_14 kw1069 dX12_undo_33) (all_c (ok_stk (s_bipush dX12_undo_36 (by decide))) (all_c (ok_iload_n dX12_undo_38 rfl) (all_c (ok_stk (s_iadd dX12_undo_39)) (all_c (ok_aload_n dX12_undo_40 rfl) (all_c (okg_X12_17 kw1287 dX12_undo_41) (all_c (ok_stk (s_bipush dX12_undo_44 (by decide))) (all_c (ok_aload_n dX12_undo_46 rfl) (all_c (okg_X12_23 kw1286 dX12_undo_47) (all_c (ok_stk (s_imul dX12_undo_50)) (all_c (ok_iload_n dX12_undo_51 rfl) (all_c (ok_stk (s_iadd dX12_undo_52)) (all_c (ok_iald dX12_undo_53) (all_c (ok_iast dX12_undo_54) (all_c (ok_iinc dX12_undo_55 (by decide) (by decide)) (all_c (ok_goto dX12_undo_58 (by decide)) (all_c (ok_aload_n dX12_undo_61 rfl) (all_c (okg_X12_23 kw1286 dX12_undo_62) (all_c (ok_iret dX12_undo_65) all_n))))))))))))))))))))))))))))))))))))))) n (fun h => by first | rfl | cases h))
end
