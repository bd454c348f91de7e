noncomputable section
theorem dX12_priceAt_0 : decode cX12_priceAt 0 = .ok (.iload_n 2, 1) := by decide +kernel
theorem dX12_priceAt_1 : decode cX12_priceAt 1 = .ok (.iconst 3, 1) := by decide +kernel
theorem dX12_priceAt_2 : decode cX12_priceAt 2 = .ok (.if_icmp .ne 25, 3) := by decide +kernel
theorem dX12_priceAt_5 : decode cX12_priceAt 5 = .ok (.aload_n 0, 1) := by decide +kernel
theorem dX12_priceAt_6 : decode cX12_priceAt 6 = .ok (.getfield 98, 3) := by decide +kernel
theorem dX12_priceAt_9 : decode cX12_priceAt 9 = .ok (.bipush 82, 2) := by decide +kernel
theorem dX12_priceAt_11 : decode cX12_priceAt 11 = .ok (.iload_n 3, 1) := by decide +kernel
theorem dX12_priceAt_12 : decode cX12_priceAt 12 = .ok (.iadd, 1) := by decide +kernel
theorem dX12_priceAt_13 : decode cX12_priceAt 13 = .ok (.iaload, 1) := by decide +kernel
theorem dX12_priceAt_14 : decode cX12_priceAt 14 = .ok (.bipush 9, 2) := by decide +kernel
theorem dX12_priceAt_16 : decode cX12_priceAt 16 = .ok (.if_icmp .gt 7, 3) := by decide +kernel
theorem dX12_priceAt_19 : decode cX12_priceAt 19 = .ok (.iconst 0, 1) := by decide +kernel
theorem dX12_priceAt_20 : decode cX12_priceAt 20 = .ok (.goto 6, 3) := by decide +kernel
theorem dX12_priceAt_23 : decode cX12_priceAt 23 = .ok (.ldc_w 308, 3) := by decide +kernel
theorem dX12_priceAt_26 : decode cX12_priceAt 26 = .ok (.ireturn, 1) := by decide +kernel
theorem dX12_priceAt_27 : decode cX12_priceAt 27 = .ok (.iload_n 2, 1) := by decide +kernel
theorem dX12_priceAt_28 : decode cX12_priceAt 28 = .ok (.aload_n 0, 1) := by decide +kernel
theorem dX12_priceAt_29 : decode cX12_priceAt 29 = .ok (.getfield 98, 3) := by decide +kernel
theorem dX12_priceAt_32 : decode cX12_priceAt 32 = .ok (.bipush 88, 2) := by decide +kernel
theorem dX12_priceAt_34 : decode cX12_priceAt 34 = .ok (.iload_n 3, 1) := by decide +kernel
theorem dX12_priceAt_35 : decode cX12_priceAt 35 = .ok (.iadd, 1) := by decide +kernel
theorem dX12_priceAt_36 : decode cX12_priceAt 36 = .ok (.iaload, 1) := by decide +kernel
theorem dX12_priceAt_37 : decode cX12_priceAt 37 = .ok (.iadd, 1) := by decide +kernel
theorem dX12_priceAt_38 : decode cX12_priceAt 38 = .ok (.iconst 3, 1) := by decide +kernel
theorem dX12_priceAt_39 : decode cX12_priceAt 39 = .ok (.if_icmp .le 7, 3) := by decide +kernel
theorem dX12_priceAt_42 : decode cX12_priceAt 42 = .ok (.ldc_w 308, 3) := by decide +kernel
theorem dX12_priceAt_45 : decode cX12_priceAt 45 = .ok (.ireturn, 1) := by decide +kernel
theorem dX12_priceAt_46 : decode cX12_priceAt 46 = .ok (.aload_n 0, 1) := by decide +kernel
theorem dX12_priceAt_47 : decode cX12_priceAt 47 = .ok (.ldc_w 308, 3) := by decide +kernel
theorem dX12_priceAt_50 : decode cX12_priceAt 50 = .ok (.putfield 370, 3) := by decide +kernel
theorem dX12_priceAt_53 : decode cX12_priceAt 53 = .ok (.iconst 0, 1) := by decide +kernel
theorem dX12_priceAt_54 : decode cX12_priceAt 54 = .ok (.istore 4, 2) := by decide +kernel
theorem dX12_priceAt_56 : decode cX12_priceAt 56 = .ok (.iload 4, 2) := by decide +kernel
theorem dX12_priceAt_58 : decode cX12_priceAt 58 = .ok (.iconst 3, 1) := by decide +kernel
theorem dX12_priceAt_59 : decode cX12_priceAt 59 = .ok (.if_icmp .ge 17, 3) := by decide +kernel
theorem dX12_priceAt_62 : decode cX12_priceAt 62 = .ok (.aload_n 0, 1) := by decide +kernel
theorem dX12_priceAt_63 : decode cX12_priceAt 63 = .ok (.getfield 145, 3) := by decide +kernel
theorem dX12_priceAt_66 : decode cX12_priceAt 66 = .ok (.iload 4, 2) := by decide +kernel
theorem dX12_priceAt_68 : decode cX12_priceAt 68 = .ok (.iconst (-1), 1) := by decide +kernel
theorem dX12_priceAt_69 : decode cX12_priceAt 69 = .ok (.iastore, 1) := by decide +kernel
theorem dX12_priceAt_70 : decode cX12_priceAt 70 = .ok (.iinc 4 1, 3) := by decide +kernel
theorem dX12_priceAt_73 : decode cX12_priceAt 73 = .ok (.goto (-17), 3) := by decide +kernel
theorem dX12_priceAt_76 : decode cX12_priceAt 76 = .ok (.aload_n 0, 1) := by decide +kernel
theorem dX12_priceAt_77 : decode cX12_priceAt 77 = .ok (.iload_n 1, 1) := by decide +kernel
theorem dX12_priceAt_78 : decode cX12_priceAt 78 = .ok (.iload_n 2, 1) := by decide +kernel
theorem dX12_priceAt_79 : decode cX12_priceAt 79 = .ok (.iconst 0, 1) := by decide +kernel
theorem dX12_priceAt_80 : decode cX12_priceAt 80 = .ok (.iload_n 3, 1) := by decide +kernel
theorem dX12_priceAt_81 : decode cX12_priceAt 81 = .ok (.iconst 0, 1) := by decide +kernel
theorem dX12_priceAt_82 : decode cX12_priceAt 82 = .ok (.invokevirtual 373, 3) := by decide +kernel
theorem dX12_priceAt_85 : decode cX12_priceAt 85 = .ok (.aload_n 0, 1) := by decide +kernel
theorem dX12_priceAt_86 : decode cX12_priceAt 86 = .ok (.getfield 370, 3) := by decide +kernel
theorem dX12_priceAt_89 : decode cX12_priceAt 89 = .ok (.ireturn, 1) := by decide +kernel
theorem okc_X12_trySigns {kn : sKn} {cc : ByteArray} {own : String} {nL : Nat} {D : Nat} {ret : Option FieldType} {ini : Bool} {pc index : Nat} (hD : 25 + 1 ≤ D) (hl : Cond.methodLink own index yX12_trySigns ∈ wsL_law) (hd : decode cc pc = .ok (.invokevirtual index, 3)) : mOk kn cc own nL wsL_law D ret ini pc (a_callV true (fX12_trySigns kn) 13 (5 + 1) (pc + 3)) := ok_callV (mX12_trySigns kn) (good_ws ws_good (fun _ h => h) kw1133) hD (by decide) hl kw1131 kw1132 kw1072 ⟨by decide +kernel, by decide +kernel, by decide +kernel⟩ rfl hd
def tX12_priceAt (kn : sKn) : List (Nat × sA) := [(0, a_iload 2 1), (1, a_stk (q_int 3) 2), (2, a_icmp kn b_ne 1 27 5), (5, a_aload 0 6), (6, a_get 13 14 9), (9, a_stk (q_int 82) 11), (11, a_iload 3 12), (12, a_stk q_iadd 13), (13, a_iald 14), (14, a_stk (q_int 9) 16), (16, a_icmp kn b_gt 4 23 19), (19, a_stk (q_int 0) 20), (20, a_goto 26), (23, a_stk (q_int (100000)) 26), (26, a_iret), (27, a_iload 2 28), (28, a_aload 0 29), (29, a_get 13 14 32), (32, a_stk (q_int 88) 34), (34, a_iload 3 35), (35, a_stk q_iadd 36), (36, a_iald 37), (37, a_stk q_iadd 38), (38, a_stk (q_int 3) 39), (39, a_icmp kn b_le 5 46 42), (42, a_stk (q_int (100000)) 45), (45, a_iret), (46, a_aload 0 47), (47, a_stk (q_int (100000)) 50), (50, a_put 13 36 ckI 53), (53, a_stk (q_int 0) 54), (54, a_istore 4 56), (56, a_iload 4 58), (58, a_stk (q_int 3) 59), (59, a_icmp kn b_ge 3 76 62), (62, a_aload 0 63), (63, a_get 13 34 66), (66, a_iload 4 68), (68, a_stk (q_int (-1)) 69), (69, a_iast 70), (70, a_iinc 4 1 73), (73, a_goto 56), (76, a_aload 0 77), (77, a_iload 1 78), (78, a_iload 2 79), (79, a_stk (q_int 0) 80), (80, a_iload 3 81), (81, a_stk (q_int 0) 82), (82, a_callV true (fX12_trySigns kn) 13 6 85), (85, a_aload 0 86), (86, a_get 13 36 89), (89, a_iret)]
def fX12_priceAt (kn : sKn) : List Value → sW → Option sR := fW (tX12_priceAt kn) 5
set_option maxRecDepth 100000 in
set_option maxHeartbeats 4000000 in
theorem mX12_priceAt (kn : sKn) : mM kn yX12_priceAt (Cond.code yX12_priceAt cX12_priceAt 5 (some .int) :: wsL_law) 26 false (fX12_priceAt kn) := mM_W (fun n => mM_of (own := RX12) (ini := false) rfl (by decide +kernel) (by decide +kernel) (all_c (ok_iload_n dX12_priceAt_0 rfl) (all_c (ok_stk (s_iconst dX12_priceAt_1 (by decide))) (all_c (ok_icmp_ne dX12_priceAt_2 (by decide)) (all_c (ok_aload_n dX12_priceAt_5 rfl) (all_c (okg_X12_14 kw1069 dX12_priceAt_6) (all_c (ok_stk (s_bipush dX12_priceAt_9 (by decide))) (all_c (ok_iload_n dX12_priceAt_11 rfl) (all_c (ok_stk (s_iadd dX12_priceAt_12)) (all_c (ok_iald dX12_priceAt_13) (all_c (ok_stk (s_bipush dX12_priceAt_14 (by decide))) (all_c (ok_icmp_gt dX12_priceAt_16 (by decide)) (all_c (ok_stk (s_iconst dX12_priceAt_19 (by decide))) (all_c (ok_goto dX12_priceAt_20 (by decide)) (all_c (ok_ldcw kw1094 dX12_priceAt_23) (all_c (ok_iret dX12_priceAt_26) (all_c (ok_iload_n dX12_priceAt_27 rfl) (all_c (ok_aload_n dX12_priceAt_28 rfl) (all_c (okg_X12_14 kw1069 dX12_priceAt_29) (all_c (ok_stk (s_bipush dX12_priceAt_32 (by decide))) (all_c (ok_iload_n dX12_priceAt_34 rfl) (all_c (ok_stk (s_iadd dX12_priceAt_35)) (all_c (ok_iald dX12_priceAt_36) (all_c (ok_stk (s_iadd dX12_priceAt_37)) (all_c (ok_stk (s_iconst dX12_priceAt_38 (by decide))) (all_c (ok_icmp_le dX12_priceAt_39 (by decide)) (all_c (ok_ldcw kw1094 dX12_priceAt_42) (all_c (ok_iret dX12_priceAt_45) (all_c (ok_aload_n dX12_priceAt_46 rfl) (all_c (ok_ldcw kw1094 dX12_priceAt_47) (all_c (okp_X12_36 kw1128 dX12_priceAt_50) (all_c (ok_stk (s_iconst dX12_priceAt_53 (by decide))) (all_c (ok_istore dX12_priceAt_54 (by decide)) (all_c (ok_iload dX12_priceAt_56) (all_c (ok_stk (s_iconst dX12_priceAt_58 (by decide))) (all_c (ok_icmp_ge dX12_priceAt_59 (by decide)) (all_c (ok_aload_n dX12_priceAt_62 rfl) (all_c (okg_X12_34 kw1130 dX12_priceAt_63) (all_c (ok_iload dX12_priceAt_66) (all_c (ok_stk (s_iconst dX12_priceAt_68 (by decide))) (all_c (ok_iast dX12_priceAt_69) (all_c (ok_iinc dX12_priceAt_70 (by decide) (by decide)) (all_c (ok_goto dX12_priceAt_73 (by decide)) (all_c (ok_aload_n dX12_priceAt_76 rfl) (all_c (ok_iload_n dX12_priceAt_77 rfl) (all_c (ok_iload_n dX12_priceAt_78 rfl) (all_c (ok_stk (s_iconst dX12_priceAt_79 (by decide))) (all_c (ok_iload_n dX12_priceAt_80 rfl) (all_c (ok_stk (s_iconst dX12_priceAt_81 (by decide))) (all_c (okc_X12_trySigns (by decide) kw1134 dX12_priceAt_82) (all_c (ok_aload_n dX12_priceAt_85 rfl) (all_c (okg_X12_36 kw1128 dX12_priceAt_86) (all_c (ok_iret dX12_priceAt_89) all_n)))))))))))))))))))))))))))))))))))))))))))))))))))) n (fun h => by first | rfl | cases h))
theorem dX12_asks_0 : decode cX12_asks 0 = .ok (.aload_n 0, 1) := by decide +kernel
theorem dX12_asks_1 : decode cX12_asks 1 = .ok (.iconst 0, 1) := by decide +kernel
theorem dX12_asks_2 : decode cX12_asks 2 = .ok (.putfield 1, 3) := by decide +kernel
theorem dX12_asks_5 : decode cX12_asks 5 = .ok (.aload_n 0, 1) := by decide +kernel
theorem dX12_asks_6 : decode cX12_asks 6 = .ok (.iload_n 1, 1) := by decide +kernel
theorem dX12_asks_7 : decode cX12_asks 7 = .ok (.invokevirtual 295, 3) := by decide +kernel
theorem dX12_asks_10 : decode cX12_asks 10 = .ok (.ifCond .ne 5, 3) := by decide +kernel
theorem dX12_asks_13 : decode cX12_asks 13 = .ok (.iconst (-1), 1) := by decide +kernel
theorem dX12_asks_14 : decode cX12_asks 14 = .ok (.ireturn, 1) := by decide +kernel
theorem dX12_asks_15 : decode cX12_asks 15 = .ok (.aload_n 0, 1) := by decide +kernel
theorem dX12_asks_16 : decode cX12_asks 16 = .ok (.invokevirtual 292, 3) := by decide +kernel
theorem dX12_asks_19 : decode cX12_asks 19 = .ok (.aload_n 0, 1) := by decide +kernel
theorem dX12_asks_20 : decode cX12_asks 20 = .ok (.getfield 98, 3) := by decide +kernel
theorem dX12_asks_23 : decode cX12_asks 23 = .ok (.iconst 0, 1) := by decide +kernel
theorem dX12_asks_24 : decode cX12_asks 24 = .ok (.iaload, 1) := by decide +kernel
theorem dX12_asks_25 : decode cX12_asks 25 = .ok (.istore_n 2, 1) := by decide +kernel
theorem dX12_asks_26 : decode cX12_asks 26 = .ok (.iload_n 2, 1) := by decide +kernel
theorem dX12_asks_27 : decode cX12_asks 27 = .ok (.iconst 1, 1) := by decide +kernel
theorem dX12_asks_28 : decode cX12_asks 28 = .ok (.isub, 1) := by decide +kernel
theorem dX12_asks_29 : decode cX12_asks 29 = .ok (.istore_n 3, 1) := by decide +kernel
theorem dX12_asks_30 : decode cX12_asks 30 = .ok (.iload_n 3, 1) := by decide +kernel
theorem dX12_asks_31 : decode cX12_asks 31 = .ok (.ifCond .lt 120, 3) := by decide +kernel
theorem dX12_asks_34 : decode cX12_asks 34 = .ok (.iconst 0, 1) := by decide +kernel
theorem dX12_asks_35 : decode cX12_asks 35 = .ok (.istore 4, 2) := by decide +kernel
theorem dX12_asks_37 : decode cX12_asks 37 = .ok (.iload 4, 2) := by decide +kernel
theorem dX12_asks_39 : decode cX12_asks 39 = .ok (.iconst 3, 1) := by decide +kernel
theorem dX12_asks_40 : decode cX12_asks 40 = .ok (.if_icmp .gt 105, 3) := by decide +kernel
theorem dX12_asks_43 : decode cX12_asks 43 = .ok (.iload_n 3, 1) := by decide +kernel
theorem dX12_asks_44 : decode cX12_asks 44 = .ok (.iload_n 2, 1) := by decide +kernel
theorem dX12_asks_45 : decode cX12_asks 45 = .ok (.iconst 1, 1) := by decide +kernel
theorem dX12_asks_46 : decode cX12_asks 46 = .ok (.isub, 1) := by decide +kernel
theorem dX12_asks_47 : decode cX12_asks 47 = .ok (.if_icmp .ne 7, 3) := by decide +kernel
theorem dX12_asks_50 : decode cX12_asks 50 = .ok (.iconst 0, 1) := by decide +kernel
theorem dX12_asks_51 : decode cX12_asks 51 = .ok (.goto 6, 3) := by decide +kernel
theorem dX12_asks_54 : decode cX12_asks 54 = .ok (.ldc_w 308, 3) := by decide +kernel
theorem dX12_asks_57 : decode cX12_asks 57 = .ok (.istore 5, 2) := by decide +kernel
theorem dX12_asks_59 : decode cX12_asks 59 = .ok (.iconst 0, 1) := by decide +kernel
theorem dX12_asks_60 : decode cX12_asks 60 = .ok (.istore 6, 2) := by decide +kernel
theorem dX12_asks_62 : decode cX12_asks 62 = .ok (.iload 6, 2) := by decide +kernel
theorem dX12_asks_64 : decode cX12_asks 64 = .ok (.iconst 3, 1) := by decide +kernel
theorem dX12_asks_65 : decode cX12_asks 65 = .ok (.if_icmp .gt 46, 3) := by decide +kernel
theorem dX12_asks_68 : decode cX12_asks 68 = .ok (.iload_n 3, 1) := by decide +kernel
theorem dX12_asks_69 : decode cX12_asks 69 = .ok (.iload_n 2, 1) := by decide +kernel
theorem dX12_asks_70 : decode cX12_asks 70 = .ok (.iconst 1, 1) := by decide +kernel
theorem dX12_asks_71 : decode cX12_asks 71 = .ok (.isub, 1) := by decide +kernel
theorem dX12_asks_72 : decode cX12_asks 72 = .ok (.if_icmp .ge 39, 3) := by decide +kernel
theorem dX12_asks_75 : decode cX12_asks 75 = .ok (.iload 4, 2) := by decide +kernel
theorem dX12_asks_77 : decode cX12_asks 77 = .ok (.iload 6, 2) := by decide +kernel
theorem dX12_asks_79 : decode cX12_asks 79 = .ok (.invokestatic 309, 3) := by decide +kernel
theorem dX12_asks_82 : decode cX12_asks 82 = .ok (.ifCond .eq 23, 3) := by decide +kernel
theorem dX12_asks_85 : decode cX12_asks 85 = .ok (.iload 5, 2) := by decide +kernel
theorem dX12_asks_87 : decode cX12_asks 87 = .ok (.aload_n 0, 1) := by decide +kernel
theorem dX12_asks_88 : decode cX12_asks 88 = .ok (.getfield 136, 3) := by decide +kernel
theorem dX12_asks_91 : decode cX12_asks 91 = .ok (.iconst 4, 1) := by decide +kernel
theorem dX12_asks_92 : decode cX12_asks 92 = .ok (.iload_n 3, 1) := by decide +kernel
theorem dX12_asks_93 : decode cX12_asks 93 = .ok (.imul, 1) := by decide +kernel
theorem dX12_asks_94 : decode cX12_asks 94 = .ok (.iconst 4, 1) := by decide +kernel
theorem dX12_asks_95 : decode cX12_asks 95 = .ok (.iadd, 1) := by decide +kernel
theorem dX12_asks_96 : decode cX12_asks 96 = .ok (.iload 6, 2) := by decide +kernel
theorem dX12_asks_98 : decode cX12_asks 98 = .ok (.iadd, 1) := by decide +kernel
theorem dX12_asks_99 : decode cX12_asks 99 = .ok (.iaload, 1) := by decide +kernel
theorem dX12_asks_100 : decode cX12_asks 100 = .ok (.invokestatic 312, 3) := by decide +kernel
theorem dX12_asks_103 : decode cX12_asks 103 = .ok (.istore 5, 2) := by decide +kernel
theorem dX12_asks_105 : decode cX12_asks 105 = .ok (.iinc 6 1, 3) := by decide +kernel
theorem dX12_asks_108 : decode cX12_asks 108 = .ok (.goto (-46), 3) := by decide +kernel
theorem dX12_asks_111 : decode cX12_asks 111 = .ok (.aload_n 0, 1) := by decide +kernel
theorem dX12_asks_112 : decode cX12_asks 112 = .ok (.getfield 136, 3) := by decide +kernel
theorem dX12_asks_115 : decode cX12_asks 115 = .ok (.iconst 4, 1) := by decide +kernel
theorem dX12_asks_116 : decode cX12_asks 116 = .ok (.iload_n 3, 1) := by decide +kernel
theorem dX12_asks_117 : decode cX12_asks 117 = .ok (.imul, 1) := by decide +kernel
theorem dX12_asks_118 : decode cX12_asks 118 = .ok (.iload 4, 2) := by decide +kernel
theorem dX12_asks_120 : decode cX12_asks 120 = .ok (.iadd, 1) := by decide +kernel
theorem dX12_asks_121 : decode cX12_asks 121 = .ok (.ldc_w 308, 3) := by decide +kernel
theorem dX12_asks_124 : decode cX12_asks 124 = .ok (.aload_n 0, 1) := by decide +kernel
theorem dX12_asks_125 : decode cX12_asks 125 = .ok (.iload_n 3, 1) := by decide +kernel
theorem dX12_asks_126 : decode cX12_asks 126 = .ok (.iload 4, 2) := by decide +kernel
theorem dX12_asks_128 : decode cX12_asks 128 = .ok (.iload_n 1, 1) := by decide +kernel
theorem dX12_asks_129 : decode cX12_asks 129 = .ok (.invokevirtual 377, 3) := by decide +kernel
theorem dX12_asks_132 : decode cX12_asks 132 = .ok (.iload 5, 2) := by decide +kernel
theorem dX12_asks_134 : decode cX12_asks 134 = .ok (.iadd, 1) := by decide +kernel
theorem dX12_asks_135 : decode cX12_asks 135 = .ok (.invokestatic 312, 3) := by decide +kernel
theorem dX12_asks_138 : decode cX12_asks 138 = .ok (.iastore, 1) := by decide +kernel
theorem dX12_asks_139 : decode cX12_asks 139 = .ok (.iinc 4 1, 3) := by decide +kernel
theorem dX12_asks_142 : decode cX12_asks 142 = .ok (.goto (-105), 3) := by decide +kernel
theorem dX12_asks_145 : decode cX12_asks 145 = .ok (.iinc 3 (-1), 3) := by decide +kernel
theorem dX12_asks_148 : decode cX12_asks 148 = .ok (.goto (-118), 3) := by decide +kernel
theorem dX12_asks_151 : decode cX12_asks 151 = .ok (.ldc_w 308, 3) := by decide +kernel
theorem dX12_asks_154 : decode cX12_asks 154 = .ok (.istore_n 3, 1) := by decide +kernel
theorem dX12_asks_155 : decode cX12_asks 155 = .ok (.iconst 0, 1) := by decide +kernel
theorem dX12_asks_156 : decode cX12_asks 156 = .ok (.istore 4, 2) := by decide +kernel
theorem dX12_asks_158 : decode cX12_asks 158 = .ok (.iload 4, 2) := by decide +kernel
theorem dX12_asks_160 : decode cX12_asks 160 = .ok (.iconst 3, 1) := by decide +kernel
theorem dX12_asks_161 : decode cX12_asks 161 = .ok (.if_icmp .gt 21, 3) := by decide +kernel
theorem dX12_asks_164 : decode cX12_asks 164 = .ok (.iload_n 3, 1) := by decide +kernel
theorem dX12_asks_165 : decode cX12_asks 165 = .ok (.aload_n 0, 1) := by decide +kernel
theorem dX12_asks_166 : decode cX12_asks 166 = .ok (.getfield 136, 3) := by decide +kernel
theorem dX12_asks_169 : decode cX12_asks 169 = .ok (.iload 4, 2) := by decide +kernel
theorem dX12_asks_171 : decode cX12_asks 171 = .ok (.iaload, 1) := by decide +kernel
theorem dX12_asks_172 : decode cX12_asks 172 = .ok (.invokestatic 312, 3) := by decide +kernel
theorem dX12_asks_175 : decode cX12_asks 175 = .ok (.istore_n 3, 1) := by decide +kernel
theorem dX12_asks_176 : decode cX12_asks 176 = .ok (.iinc 4 1, 3) := by decide +kernel
theorem dX12_asks_179 : decode cX12_asks 179 = .ok (.goto (-21), 3) := by decide +kernel
theorem dX12_asks_182 : decode cX12_asks 182 = .ok (.iload_n 3, 1) := by decide +kernel
theorem dX12_asks_183 : decode cX12_asks 183 = .ok (.ldc_w 308, 3) := by decide +kernel
theorem dX12_asks_186 : decode cX12_asks 186 = .ok (.if_icmp .lt 5, 3) := by decide +kernel
theorem dX12_asks_189 : decode cX12_asks 189 = .ok (.iconst (-1), 1) := by decide +kernel
theorem dX12_asks_190 : decode cX12_asks 190 = .ok (.ireturn, 1) := by decide +kernel
theorem dX12_asks_191 : decode cX12_asks 191 = .ok (.iconst 0, 1) := by decide +kernel
theorem dX12_asks_192 : decode cX12_asks 192 = .ok (.istore 4, 2) := by decide +kernel
theorem dX12_asks_194 : decode cX12_asks 194 = .ok (.iload 4, 2) := by decide +kernel
theorem dX12_asks_196 : decode cX12_asks 196 = .ok (.bipush 36, 2) := by decide +kernel
theorem dX12_asks_198 : decode cX12_asks 198 = .ok (.if_icmp .ge 17, 3) := by decide +kernel
theorem dX12_asks_201 : decode cX12_asks 201 = .ok (.aload_n 0, 1) := by decide +kernel
theorem dX12_asks_202 : decode cX12_asks 202 = .ok (.getfield 142, 3) := by decide +kernel
theorem dX12_asks_205 : decode cX12_asks 205 = .ok (.iload 4, 2) := by decide +kernel
theorem dX12_asks_207 : decode cX12_asks 207 = .ok (.iconst (-1), 1) := by decide +kernel
theorem dX12_asks_208 : decode cX12_asks 208 = .ok (.iastore, 1) := by decide +kernel
theorem dX12_asks_209 : decode cX12_asks 209 = .ok (.iinc 4 1, 3) := by decide +kernel
theorem dX12_asks_212 : decode cX12_asks 212 = .ok (.goto (-18), 3) := by decide +kernel
theorem dX12_asks_215 : decode cX12_asks 215 = .ok (.aload_n 0, 1) := by decide +kernel
theorem dX12_asks_216 : decode cX12_asks 216 = .ok (.iload_n 2, 1) := by decide +kernel
theorem dX12_asks_217 : decode cX12_asks 217 = .ok (.putfield 380, 3) := by decide +kernel
theorem dX12_asks_220 : decode cX12_asks 220 = .ok (.iload_n 3, 1) := by decide +kernel
theorem dX12_asks_221 : decode cX12_asks 221 = .ok (.istore 4, 2) := by decide +kernel
theorem dX12_asks_223 : decode cX12_asks 223 = .ok (.iconst (-1), 1) := by decide +kernel
theorem dX12_asks_224 : decode cX12_asks 224 = .ok (.istore 5, 2) := by decide +kernel
theorem dX12_asks_226 : decode cX12_asks 226 = .ok (.iconst 0, 1) := by decide +kernel
theorem dX12_asks_227 : decode cX12_asks 227 = .ok (.istore 6, 2) := by decide +kernel
theorem dX12_asks_229 : decode cX12_asks 229 = .ok (.iload 6, 2) := by decide +kernel
theorem dX12_asks_231 : decode cX12_asks 231 = .ok (.iload_n 2, 1) := by decide +kernel
theorem dX12_asks_232 : decode cX12_asks 232 = .ok (.if_icmp .ge 119, 3) := by decide +kernel
theorem dX12_asks_235 : decode cX12_asks 235 = .ok (.iconst 0, 1) := by decide +kernel
theorem dX12_asks_236 : decode cX12_asks 236 = .ok (.istore 7, 2) := by decide +kernel
theorem dX12_asks_238 : decode cX12_asks 238 = .ok (.aload_n 0, 1) := by decide +kernel
theorem dX12_asks_239 : decode cX12_asks 239 = .ok (.getfield 136, 3) := by decide +kernel
theorem dX12_asks_242 : decode cX12_asks 242 = .ok (.iconst 4, 1) := by decide +kernel
theorem dX12_asks_243 : decode cX12_asks 243 = .ok (.iload 6, 2) := by decide +kernel
theorem dX12_asks_245 : decode cX12_asks 245 = .ok (.imul, 1) := by decide +kernel
theorem dX12_asks_246 : decode cX12_asks 246 = .ok (.iload 7, 2) := by decide +kernel
theorem dX12_asks_248 : decode cX12_asks 248 = .ok (.iadd, 1) := by decide +kernel
theorem dX12_asks_249 : decode cX12_asks 249 = .ok (.iaload, 1) := by decide +kernel
theorem dX12_asks_250 : decode cX12_asks 250 = .ok (.iload 4, 2) := by decide +kernel
theorem dX12_asks_252 : decode cX12_asks 252 = .ok (.if_icmp .ne 18, 3) := by decide +kernel
theorem dX12_asks_255 : decode cX12_asks 255 = .ok (.iload 6, 2) := by decide +kernel
theorem dX12_asks_257 : decode cX12_asks 257 = .ok (.ifCond .le 19, 3) := by decide +kernel
theorem dX12_asks_260 : decode cX12_asks 260 = .ok (.iload 5, 2) := by decide +kernel
theorem dX12_asks_262 : decode cX12_asks 262 = .ok (.iload 7, 2) := by decide +kernel
theorem dX12_asks_264 : decode cX12_asks 264 = .ok (.invokestatic 309, 3) := by decide +kernel
theorem dX12_asks_267 : decode cX12_asks 267 = .ok (.ifCond .ne 9, 3) := by decide +kernel
theorem dX12_asks_270 : decode cX12_asks 270 = .ok (.iinc 7 1, 3) := by decide +kernel
theorem dX12_asks_273 : decode cX12_asks 273 = .ok (.goto (-35), 3) := by decide +kernel
theorem dX12_asks_276 : decode cX12_asks 276 = .ok (.iload 4, 2) := by decide +kernel
theorem dX12_asks_278 : decode cX12_asks 278 = .ok (.aload_n 0, 1) := by decide +kernel
theorem dX12_asks_279 : decode cX12_asks 279 = .ok (.iload 6, 2) := by decide +kernel
theorem dX12_asks_281 : decode cX12_asks 281 = .ok (.iload 7, 2) := by decide +kernel
theorem dX12_asks_283 : decode cX12_asks 283 = .ok (.iload_n 1, 1) := by decide +kernel
theorem dX12_asks_284 : decode cX12_asks 284 = .ok (.invokevirtual 377, 3) := by decide +kernel
theorem dX12_asks_287 : decode cX12_asks 287 = .ok (.isub, 1) := by decide +kernel
theorem dX12_asks_288 : decode cX12_asks 288 = .ok (.istore 4, 2) := by decide +kernel
theorem dX12_asks_290 : decode cX12_asks 290 = .ok (.iconst 0, 1) := by decide +kernel
theorem dX12_asks_291 : decode cX12_asks 291 = .ok (.istore 8, 2) := by decide +kernel
theorem dX12_asks_293 : decode cX12_asks 293 = .ok (.iload 8, 2) := by decide +kernel
theorem dX12_asks_295 : decode cX12_asks 295 = .ok (.aload_n 0, 1) := by decide +kernel
theorem dX12_asks_296 : decode cX12_asks 296 = .ok (.getfield 98, 3) := by decide +kernel
theorem dX12_asks_299 : decode cX12_asks 299 = .ok (.bipush 88, 2) := by decide +kernel
theorem dX12_asks_301 : decode cX12_asks 301 = .ok (.iload_n 1, 1) := by decide +kernel
theorem dX12_asks_302 : decode cX12_asks 302 = .ok (.iadd, 1) := by decide +kernel
theorem dX12_asks_303 : decode cX12_asks 303 = .ok (.iaload, 1) := by decide +kernel
theorem dX12_asks_304 : decode cX12_asks 304 = .ok (.if_icmp .ge 37, 3) := by decide +kernel
theorem dX12_asks_307 : decode cX12_asks 307 = .ok (.iload 7, 2) := by decide +kernel
theorem dX12_asks_309 : decode cX12_asks 309 = .ok (.iconst 3, 1) := by decide +kernel
theorem dX12_asks_310 : decode cX12_asks 310 = .ok (.if_icmp .eq 31, 3) := by decide +kernel
theorem dX12_asks_313 : decode cX12_asks 313 = .ok (.aload_n 0, 1) := by decide +kernel
theorem dX12_asks_314 : decode cX12_asks 314 = .ok (.getfield 142, 3) := by decide +kernel
theorem dX12_asks_317 : decode cX12_asks 317 = .ok (.iconst 3, 1) := by decide +kernel
theorem dX12_asks_318 : decode cX12_asks 318 = .ok (.iload 6, 2) := by decide +kernel
theorem dX12_asks_320 : decode cX12_asks 320 = .ok (.imul, 1) := by decide +kernel
theorem dX12_asks_321 : decode cX12_asks 321 = .ok (.iload 7, 2) := by decide +kernel
theorem dX12_asks_323 : decode cX12_asks 323 = .ok (.iadd, 1) := by decide +kernel
theorem dX12_asks_324 : decode cX12_asks 324 = .ok (.iload 8, 2) := by decide +kernel
theorem dX12_asks_326 : decode cX12_asks 326 = .ok (.iadd, 1) := by decide +kernel
theorem dX12_asks_327 : decode cX12_asks 327 = .ok (.aload_n 0, 1) := by decide +kernel
theorem dX12_asks_328 : decode cX12_asks 328 = .ok (.getfield 139, 3) := by decide +kernel
theorem dX12_asks_331 : decode cX12_asks 331 = .ok (.iload 8, 2) := by decide +kernel
theorem dX12_asks_333 : decode cX12_asks 333 = .ok (.iaload, 1) := by decide +kernel
theorem dX12_asks_334 : decode cX12_asks 334 = .ok (.iastore, 1) := by decide +kernel
theorem dX12_asks_335 : decode cX12_asks 335 = .ok (.iinc 8 1, 3) := by decide +kernel
theorem dX12_asks_338 : decode cX12_asks 338 = .ok (.goto (-45), 3) := by decide +kernel
theorem dX12_asks_341 : decode cX12_asks 341 = .ok (.iload 7, 2) := by decide +kernel
theorem dX12_asks_343 : decode cX12_asks 343 = .ok (.istore 5, 2) := by decide +kernel
theorem dX12_asks_345 : decode cX12_asks 345 = .ok (.iinc 6 1, 3) := by decide +kernel
theorem dX12_asks_348 : decode cX12_asks 348 = .ok (.goto (-119), 3) := by decide +kernel
theorem dX12_asks_351 : decode cX12_asks 351 = .ok (.iload_n 3, 1) := by decide +kernel
theorem dX12_asks_352 : decode cX12_asks 352 = .ok (.ireturn, 1) := by decide +kernel
theorem okc_X12_isLoad {kn : sKn} {cc : ByteArray} {own : String} {nL : Nat} {D : Nat} {ret : Option FieldType} {ini : Bool} {pc index : Nat} (hD : 2 + 1 ≤ D) (hl : Cond.methodLink own index yX12_isLoad ∈ wsL_law) (hd : decode cc pc = .ok (.invokevirtual index, 3)) : mOk kn cc own nL wsL_law D ret ini pc (a_callV false (fX12_isLoad kn) 13 (1 + 1) (pc + 3)) := ok_callV (mX12_isLoad kn) (good_ws ws_good (fun _ h => h) kw1139) hD (by decide) hl kw1140 kw1141 kw1072 ⟨by decide +kernel, by decide +kernel, by decide +kernel⟩ rfl hd
theorem okc_X12_priceAt {kn : sKn} {cc : ByteArray} {own : String} {nL : Nat} {D : Nat} {ret : Option FieldType} {ini : Bool} {pc index : Nat} (hD : 26 + 1 ≤ D) (hl : Cond.methodLink own index yX12_priceAt ∈ wsL_law) (hd : decode cc pc = .ok (.invokevirtual index, 3)) : mOk kn cc own nL wsL_law D ret ini pc (a_callV false (fX12_priceAt kn) 13 (3 + 1) (pc + 3)) := ok_callV (mX12_priceAt kn) (good_ws ws_good (fun _ h => h) kw1144) hD (by decide) hl kw1145 kw1146 kw1072 ⟨by decide +kernel, by decide +kernel, by decide +kernel⟩ rfl hd
def tX12_asks (kn : sKn) : List (Nat × sA) := [(0, a_aload 0 1), (1, a_stk (q_int 0) 2), (2, a_put 13 0 ckI 5), (5, a_aload 0 6), (6, a_iload 1 7), (7, a_callV false (fX12_isLoad kn) 13 2 10), (10, a_if kn b_ne 1 15 13), (13, a_stk (q_int (-1)) 14), (14, a_iret), (15, a_aload 0 16), (16, a_callV true (fX12_layWhose kn) 13 1 19), (19, a_aload 0 20), (20, a_get 13 14 23), (23, a_stk (q_int 0) 24), (24, a_iald 25), (25, a_istore 2 26), (26, a_iload 2 27), (27, a_stk (q_int 1) 28), (28, a_stk q_isub 29), (29, a_istore 3 30), (30, a_iload 3 31), (31, a_if kn b_lt 2 151 34), (34, a_stk (q_int 0) 35), (35, a_istore 4 37), (37, a_iload 4 39), (39, a_stk (q_int 3) 40), (40, a_icmp kn b_gt 4 145 43), (43, a_iload 3 44), (44, a_iload 2 45), (45, a_stk (q_int 1) 46), (46, a_stk q_isub 47), (47, a_icmp kn b_ne 1 54 50), (50, a_stk (q_int 0) 51), (51, a_goto 57), (54, a_stk (q_int (100000)) 57), (57, a_istore 5 59), (59, a_stk (q_int 0) 60), (60, a_istore 6 62), (62, a_iload 6 64), (64, a_stk (q_int 3) 65), (65, a_icmp kn b_gt 4 111 68), (68, a_iload 3 69), (69, a_iload 2 70), (70, a_stk (q_int 1) 71), (71, a_stk q_isub 72), (72, a_icmp kn b_ge 3 111 75), (75, a_iload 4 77), (77, a_iload 6 79), (79, a_callS false (fX12_follows kn) 2 82), (82, a_if kn b_eq 0 105 85), (85, a_iload 5 87), (87, a_aload 0 88), (88, a_get 13 31 91), (91, a_stk (q_int 4) 92), (92, a_iload 3 93), (93, a_stk q_imul 94), (94, a_stk (q_int 4) 95), (95, a_stk q_iadd 96), (96, a_iload 6 98), (98, a_stk q_iadd 99), (99, a_iald 100), (100, a_callS false (fX12_least kn) 2 103), (103, a_istore 5 105), (105, a_iinc 6 1 108), (108, a_goto 62), (111, a_aload 0 112), (112, a_get 13 31 115), (115, a_stk (q_int 4) 116), (116, a_iload 3 117), (117, a_stk q_imul 118), (118, a_iload 4 120), (120, a_stk q_iadd 121), (121, a_stk (q_int (100000)) 124), (124, a_aload 0 125), (125, a_iload 3 126), (126, a_iload 4 128), (128, a_iload 1 129), (129, a_callV false (fX12_priceAt kn) 13 4 132), (132, a_iload 5 134), (134, a_stk q_iadd 135), (135, a_callS false (fX12_least kn) 2 138), (138, a_iast 139), (139, a_iinc 4 1 142), (142, a_goto 37), (145, a_iinc 3 (-1) 148), (148, a_goto 30), (151, a_stk (q_int (100000)) 154), (154, a_istore 3 155), (155, a_stk (q_int 0) 156), (156, a_istore 4 158), (158, a_iload 4 160), (160, a_stk (q_int 3) 161), (161, a_icmp kn b_gt 4 182 164), (164, a_iload 3 165), (165, a_aload 0 166), (166, a_get 13 31 169), (169, a_iload 4 171), (171, a_iald 172), (172, a_callS false (fX12_least kn) 2 175), (175, a_istore 3 176), (176, a_iinc 4 1 179), (179, a_goto 158), (182, a_iload 3 183), (183, a_stk (q_int (100000)) 186), (186, a_icmp kn b_lt 2 191 189), (189, a_stk (q_int (-1)) 190), (190, a_iret), (191, a_stk (q_int 0) 192), (192, a_istore 4 194), (194, a_iload 4 196), (196, a_stk (q_int 36) 198), (198, a_icmp kn b_ge 3 215 201), (201, a_aload 0 202), (202, a_get 13 33 205), (205, a_iload 4 207), (207, a_stk (q_int (-1)) 208), (208, a_iast 209), (209, a_iinc 4 1 212), (212, a_goto 194), (215, a_aload 0 216), (216, a_iload 2 217), (217, a_put 13 35 ckI 220), (220, a_iload 3 221), (221, a_istore 4 223), (223, a_stk (q_int (-1)) 224), (224, a_istore 5 226), (226, a_stk (q_int 0) 227), (227, a_istore 6 229), (229, a_iload 6 231), (231, a_iload 2 232), (232, a_icmp kn b_ge 3 351 235), (235, a_stk (q_int 0) 236), (236, a_istore 7 238), (238, a_aload 0 239), (239, a_get 13 31 242), (242, a_stk (q_int 4) 243), (243, a_iload 6 245), (245, a_stk q_imul 246), (246, a_iload 7 248), (248, a_stk q_iadd 249), (249, a_iald 250), (250, a_iload 4 252), (252, a_icmp kn b_ne 1 270 255), (255, a_iload 6 257), (257, a_if kn b_le 5 276 260), (260, a_iload 5 262), (262, a_iload 7 264), (264, a_callS false (fX12_follows kn) 2 267), (267, a_if kn b_ne 1 276 270), (270, a_iinc 7 1 273), (273, a_goto 238), (276, a_iload 4 278), (278, a_aload 0 279), (279, a_iload 6 281), (281, a_iload 7 283), (283, a_iload 1 284), (284, a_callV false (fX12_priceAt kn) 13 4 287), (287, a_stk q_isub 288), (288, a_istore 4 290), (290, a_stk (q_int 0) 291), (291, a_istore 8 293), (293, a_iload 8 295), (295, a_aload 0 296), (296, a_get 13 14 299), (299, a_stk (q_int 88) 301), (301, a_iload 1 302), (302, a_stk q_iadd 303), (303, a_iald 304), (304, a_icmp kn b_ge 3 341 307), (307, a_iload 7 309), (309, a_stk (q_int 3) 310), (310, a_icmp kn b_eq 0 341 313), (313, a_aload 0 314), (314, a_get 13 33 317), (317, a_stk (q_int 3) 318), (318, a_iload 6 320), (320, a_stk q_imul 321), (321, a_iload 7 323), (323, a_stk q_iadd 324), (324, a_iload 8 326), (326, a_stk q_iadd 327), (327, a_aload 0 328), (328, a_get 13 32 331), (331, a_iload 8 333), (333, a_iald 334), (334, a_iast 335), (335, a_iinc 8 1 338), (338, a_goto 293), (341, a_iload 7 343), (343, a_istore 5 345), (345, a_iinc 6 1 348), (348, a_goto 229), (351, a_iload 3 352), (352, a_iret)]
def fX12_asks (kn : sKn) : List Value → sW → Option sR := fW (tX12_asks kn) 9
set_option maxRecDepth 100000 in
set_option maxHeartbeats 4000000 in
theorem mX12_asks (kn : sKn) : mM kn yX12_asks (Cond.code yX12_asks cX12_asks 9 (some .int) :: wsL_law) 27 false (fX12_asks kn) := mM_W (fun n => mM_of (own := RX12) (ini := false) rfl (by decide +kernel) (by decide +kernel) (all_c (ok_aload_n dX12_asks_0 rfl) (all_c (ok_stk (s_iconst dX12_asks_1 (by decide))) (all_c (okp_X12_0 kw1114 dX12_asks_2) (all_c (ok_aload_n dX12_asks_5 rfl) (all_c (ok_iload_n dX12_asks_6 rfl) (all_c (okc_X12_isLoad (by decide) kw1142 dX12_asks_7) (all_c (ok_if_ne dX12_asks_10 (by decide)) (all_c (ok_stk (s_iconst dX12_asks_13 (by decide))) (all_c (ok_iret dX12_asks_14) (all_c (ok_aload_n dX12_asks_15 rfl) (all_c (okc_X12_layWhose (by decide) kw1118 dX12_asks_16) (all_c (ok_aload_n dX12_asks_19 rfl) (all_c (okg_X12_14 kw1069 dX12_asks_20) (all_c (ok_stk (s_iconst dX12_asks_23 (by decide))) (all_c (ok_iald dX12_asks_24) (all_c (ok_istore_n dX12_asks_25 rfl (by decide)) (all_c (ok_iload_n dX12_asks_26 rfl) (all_c (ok_stk (s_iconst dX12_asks_27 (by decide))) (all_c (ok_stk (s_isub dX12_asks_28)) (all_c (ok_istore_n dX12_asks_29 rfl (by decide)) (all_c (ok_iload_n dX12_asks_30 rfl) (all_c (ok_if_lt dX12_asks_31 (by decide)) (all_c (ok_stk (s_iconst dX12_asks_34 (by decide))) (all_c (ok_istore dX12_asks_35 (by decide)) (all_c (ok_iload dX12_asks_37) (all_c (ok_stk (s_iconst dX12_asks_39 (by decide))) (all_c (ok_icmp_gt dX12_asks_40 (by decide)) (all_c (ok_iload_n dX12_asks_43 rfl) (all_c (ok_iload_n dX12_asks_44 rfl) (all_c (ok_stk (s_iconst dX12_asks_45 (by decide))) (all_c (ok_stk (s_isub dX12_asks_46)) (all_c (ok_icmp_ne dX12_asks_47 (by decide)) (all_c (ok_stk (s_iconst dX12_asks_50 (by decide))) (all_c (ok_goto dX12_asks_51 (by decide)) (all_c (ok_ldcw kw1094 dX12_asks_54) (all_c (ok_istore dX12_asks_57 (by decide)) (all_c (ok_stk (s_iconst dX12_asks_59 (by decide))) (all_c (ok_istore dX12_asks_60 (by decide)) (all_c (ok_iload dX12_asks_62) (all_c (ok_stk (s_iconst dX12_asks_64 (by decide))) (all_c (ok_icmp_gt dX12_asks_65 (by decide)) (all_c (ok_iload_n dX12_asks_68 rfl) (all_c (ok_iload_n dX12_asks_69 rfl) (all_c (ok_stk (s_iconst dX12_asks_70 (by decide))) (all_c (ok_stk (s_isub dX12_asks_71)) (all_c (ok_icmp_ge dX12_asks_72 (by decide)) (all_c (ok_iload dX12_asks_75) (all_c (ok_iload dX12_asks_77) (all_c (okc_X12_follows (by decide) kw1097 dX12_asks_79) (all_c (ok_if_eq dX12_asks_82 (by decide)) (all_c (ok_iload dX12_asks_85) (all_c (ok_aload_n dX12_asks_87 rfl) (all_c (okg_X12_31 kw1143 dX12_asks_88) (all_c (ok_stk (s_iconst dX12_asks_91 (by decide))) (all_c (ok_iload_n dX12_asks_92 rfl) (all_c (ok_stk (s_imul dX12_asks_93)) (all_c (ok_stk (s_iconst dX12_asks_94 (by decide))) (all_c (ok_stk (s_iadd dX12_asks_95)) (all_c (ok_iload dX12_asks_96) (all_c (ok_stk (s_iadd dX12_asks_98)) (all_c (ok_iald dX12_asks_99) (all_c (okc_X12_least (by decide) kw1101 dX12_asks_100) (all_c (ok_istore dX12_asks_103 (by decide)) (all_c (ok_iinc dX12_asks_105 (by decide) (by decide)) (all_c (ok_goto dX12_asks_108 (by decide)) (all_c (ok_aload_n dX12_asks_111 rfl) (all_c (okg_X12_31 kw1143 dX12_asks_112) (all_c (ok_stk (s_iconst dX12_asks_115 (by decide))) (all_c (ok_iload_n dX12_asks_116 rfl) (all_c (ok_stk (s_imul dX12_asks_117)) (all_c (ok_iload dX12_asks_118) (all_c (ok_stk (s_iadd dX12_asks_120)) (all_c (ok_ldcw kw1094 dX12_asks_121) (all_c (ok_aload_n dX12_asks_124 rfl) (all_c (ok_iload_n dX12_asks_125 rfl) (all_c (ok_iload dX12_asks_126) (all_c (ok_iload_n dX12_asks_128 rfl) (all_c (okc_X12_priceAt (by decide) kw1147 dX12_asks_129) (all_c (ok_iload dX12_asks_132) (all_c (ok_stk (s_iadd dX12_asks_134)) (all_c (okc_X12_least (by decide) kw1101 dX12_asks_135) (all_c (ok_iast dX12_asks_138) (all_c (ok_iinc dX12_asks_139 (by decide) (by decide)) (all_c (ok_goto dX12_asks_142 (by decide)) (all_c (ok_iinc dX12_asks_145 (by decide) (by decide)) (all_c (ok_goto dX12_asks_148 (by decide)) (all_c (ok_ldcw kw1094 dX12_asks_151) (all_c (ok_istore_n dX12_asks_154 rfl (by decide)) (all_c (ok_stk (s_iconst dX12_asks_155 (by decide))) (all_c (ok_istore dX12_asks_156 (by decide)) (all_c (ok_iload dX12_asks_158) (all_c (ok_stk (s_iconst dX12_asks_160 (by decide))) (all_c (ok_icmp_gt dX12_asks_161 (by decide)) (all_c (ok_iload_n dX12_asks_164 rfl) (all_c (ok_aload_n dX12_asks_165 rfl) (all_c (okg_X12_31 kw1143 dX12_asks_166) (all_c (ok_iload dX12_asks_169) (all_c (ok_iald dX12_asks_171) (all_c (okc_X12_least (by decide) kw1101 dX12_asks_172) (all_c (ok_istore_n dX12_asks_175 rfl (by decide)) (all_c (ok_iinc dX12_asks_176 (by decide) (by decide)) (all_c (ok_goto dX12_asks_179 (by decide)) (all_c (ok_iload_n dX12_asks_182 rfl) (all_c (ok_ldcw kw1094 dX12_asks_183) (all_c (ok_icmp_lt dX12_asks_186 (by decide)) (all_c (ok_stk (s_iconst dX12_asks_189 (by decide))) (all_c (ok_iret dX12_asks_190) (all_c (ok_stk (s_iconst dX12_asks_191 (by decide))) (all_c (ok_istore dX12_asks_192 (by decide)) (all_c (ok_iload dX12_asks_194) (all_c (ok_stk (s_bipush dX12_asks_196 (by decide))) (all_c (ok_icmp_ge dX12_asks_198 (by decide)) (all_c (ok_aload_n dX12_asks_201 rfl) (all_c (okg_X12_33 kw1127 dX12_asks_202) (all_c (ok_iload dX12_asks_205) (all_c (ok_stk (s_iconst dX12_asks_207 (by decide))) (all_c (ok_iast dX12_asks_208) (all_c (ok_iinc dX12_asks_209 (by decide) (by decide)) (all_c (ok_goto dX12_asks_212 (by decide)) (all_c (ok_aload_n dX12_asks_215 rfl) (all_c (ok_iload_n dX12_asks_216 rfl) (all_c (okp_X12_35 kw1123 dX12_asks_217) (all_c (ok_iload_n dX12_asks_220 rfl) (all_c (ok_istore dX12_asks_221 (by decide)) (all_c (ok_stk (s_iconst dX12_asks_223 (by decide))) (all_c (ok_istore dX12_asks_224 (by decide)) (all_c (ok_stk (s_iconst dX12_asks_226 (by decide))) (all_c (ok_istore dX12_asks_227 (by decide)) (all_c (ok_iload dX12_asks_229) (all_c (ok_iload_n dX12_asks_231 rfl) (all_c (ok_icmp_ge dX12_asks_232 (by decide)) (all_c (ok_stk (s_iconst dX12_asks_235 (by decide))) (all_c (ok_istore dX12_asks_236 (by decide)) (all_c (ok_aload_n dX12_asks_238 rfl) (all_c (okg_X12_31 kw1143 dX12_asks_239) (all_c (ok_stk (s_iconst dX12_asks_242 (by decide))) (all_c (ok_iload dX12_asks_243) (all_c (ok_stk (s_imul dX12_asks_245)) (all_c (ok_iload dX12_asks_246) (all_c (ok_stk (s_iadd dX12_asks_248)) (all_c (ok_iald dX12_asks_249) (all_c (ok_iload dX12_asks_250) (all_c (ok_icmp_ne dX12_asks_252 (by decide)) (all_c (ok_iload dX12_asks_255) (all_c (ok_if_le dX12_asks_257 (by decide)) (all_c (ok_iload dX12_asks_260) (all_c (ok_iload dX12_asks_262) (all_c (okc_X12_follows (by decide) kw1097 dX12_asks_264) (all_c (ok_if_ne dX12_asks_267 (by decide)) (all_c (ok_iinc dX12_asks_270 (by decide) (by decide)) (all_c (ok_goto dX12_asks_273 (by decide)) (all_c (ok_iload dX12_asks_276) (all_c (ok_aload_n dX12_asks_278 rfl) (all_c (ok_iload dX12_asks_279) (all_c (ok_iload dX12_asks_281) (all_c (ok_iload_n dX12_asks_283 rfl) (all_c (okc_X12_priceAt (by decide) kw1147 dX12_asks_284) (all_c (ok_stk (s_isub dX12_asks_287)) (all_c (ok_istore dX12_asks_288 (by decide)) (all_c (ok_stk (s_iconst dX12_asks_290 (by decide))) (all_c (ok_istore dX12_asks_291 (by decide)) (all_c (ok_iload dX12_asks_293) (all_c (ok_aload_n dX12_asks_295 rfl) (all_c (okg_X12_14 kw1069 dX12_asks_296) (all_c (ok_stk (s_bipush dX12_asks_299 (by decide))) (all_c (ok_iload_n dX12_asks_301 rfl) (all_c (ok_stk (s_iadd dX12_asks_302)) (all_c (ok_iald dX12_asks_303) (all_c (ok_icmp_ge dX12_asks_304 (by decide)) (all_c (ok_iload dX12_asks_307) (all_c (ok_stk (s_iconst dX12_asks_309 (by decide))) (all_c (ok_icmp_eq dX12_asks_310 (by decide)) (all_c (ok_aload_n dX12_asks_313 rfl) (all_c (okg_X12_33 kw1127 dX12_asks_314) (all_c (ok_stk (s_iconst dX12_asks_317 (by decide))) (all_c (ok_iload dX12_asks_318) (all_c (ok_stk (s_imul dX12_asks_320)) (all_c (ok_iload dX12_asks_321) (all_c (ok_stk (s_iadd dX12_asks_323)) (all_c (ok_iload dX12_asks_324) (all_c (ok_stk (s_iadd dX12_asks_326)) (all_c (ok_aload_n dX12_asks_327 rfl) (all_c (okg_X12_32 kw1129 dX12_asks_328) (all_c (ok_iload dX12_asks_331) (all_c (ok_iald dX12_asks_333) (all_c (ok_iast dX12_asks_334) (all_c (ok_iinc dX12_asks_335 (by decide) (by decide)) (all_c (ok_goto dX12_asks_338 (by decide)) (all_c (ok_iload dX12_asks_341) (all_c (ok_istore dX12_asks_343 (by decide)) (all_c (ok_iinc dX12_asks_345 (by decide) (by decide)) (all_c (ok_goto dX12_asks_348 (by decide)) (all_c (ok_iload_n dX12_asks_351 rfl) (all_c (ok_iret dX12_asks_352) all_n)))))))))))))))))))))))))))))))))))))))))))))))))))))))))))))))))))))))))))))))))))))))))))))))))))))))))))))))))))))))))))))))))))))))))))))))))))))))))))))))))))))))))))))))))))))))))))))))))) n (fun h => by first | rfl | cases h))
theorem dX12_bad_0 : decode cX12_bad 0 = .ok (.aload_n 0, 1) := by decide +kernel
theorem dX12_bad_1 : decode cX12_bad 1 = .ok (.aload_n 0, 1) := by decide +kernel
theorem dX12_bad_2 : decode cX12_bad 2 = .ok (.getfield 30, 3) := by decide +kernel
theorem dX12_bad_5 : decode cX12_bad 5 = .ok (.iconst 1, 1) := by decide +kernel
theorem dX12_bad_6 : decode cX12_bad 6 = .ok (.if_icmp .ne 7, 3) := by decide +kernel
theorem dX12_bad_9 : decode cX12_bad 9 = .ok (.iconst 1, 1) := by decide +kernel
theorem dX12_bad_10 : decode cX12_bad 10 = .ok (.goto 4, 3) := by decide +kernel
theorem dX12_bad_13 : decode cX12_bad 13 = .ok (.iload_n 1, 1) := by decide +kernel
theorem dX12_bad_14 : decode cX12_bad 14 = .ok (.putfield 66, 3) := by decide +kernel
theorem dX12_bad_17 : decode cX12_bad 17 = .ok (.aload_n 0, 1) := by decide +kernel
theorem dX12_bad_18 : decode cX12_bad 18 = .ok (.aload_n 0, 1) := by decide +kernel
theorem dX12_bad_19 : decode cX12_bad 19 = .ok (.getfield 24, 3) := by decide +kernel
theorem dX12_bad_22 : decode cX12_bad 22 = .ok (.putfield 69, 3) := by decide +kernel
theorem dX12_bad_25 : decode cX12_bad 25 = .ok (.iconst 0, 1) := by decide +kernel
theorem dX12_bad_26 : decode cX12_bad 26 = .ok (.ireturn, 1) := by decide +kernel
def tX12_bad (kn : sKn) : List (Nat × sA) := [(0, a_aload 0 1), (1, a_aload 0 2), (2, a_get 13 7 5), (5, a_stk (q_int 1) 6), (6, a_icmp kn b_ne 1 13 9), (9, a_stk (q_int 1) 10), (10, a_goto 14), (13, a_iload 1 14), (14, a_put 13 10 ckI 17), (17, a_aload 0 18), (18, a_aload 0 19), (19, a_get 13 6 22), (22, a_put 13 11 ckI 25), (25, a_stk (q_int 0) 26), (26, a_zret)]
def fX12_bad (kn : sKn) : List Value → sW → Option sR := fW (tX12_bad kn) 2
set_option maxRecDepth 100000 in
set_option maxHeartbeats 4000000 in
theorem mX12_bad (kn : sKn) : mM kn yX12_bad (Cond.code yX12_bad cX12_bad 2 (some .boolean) :: wsL_law) 1 false (fX12_bad kn) := mM_W (fun n => mM_of (own := RX12) (ini := false) rfl (by decide +kernel) (by decide +kernel) (all_c (ok_aload_n dX12_bad_0 rfl) (all_c (ok_aload_n dX12_bad_1 rfl) (all_c (okg_X12_7 kw1148 dX12_bad_2) (all_c (ok_stk (s_iconst dX12_bad_5 (by decide))) (all_c (ok_icmp_ne dX12_bad_6 (by decide)) (all_c (ok_stk (s_iconst dX12_bad_9 (by decide))) (all_c (ok_goto dX12_bad_10 (by decide)) (all_c (ok_iload_n dX12_bad_13 rfl) (all_c (okp_X12_10 kw1149 dX12_bad_14) (all_c (ok_aload_n dX12_bad_17 rfl) (all_c (ok_aload_n dX12_bad_18 rfl) (all_c (okg_X12_6 kw1150 dX12_bad_19) (all_c (okp_X12_11 kw1151 dX12_bad_22) (all_c (ok_stk (s_iconst dX12_bad_25 (by decide))) (all_c (ok_zret dX12_bad_26) all_n))))))))))))))) n (fun h => by first | rfl | cases h))
theorem dX12_isDigit_0 : decode cX12_isDigit 0 = .ok (.iload_n 0, 1) := by decide +kernel
theorem dX12_isDigit_1 : decode cX12_isDigit 1 = .ok (.bipush 48, 2) := by decide +kernel
theorem dX12_isDigit_3 : decode cX12_isDigit 3 = .ok (.if_icmp .lt 13, 3) := by decide +kernel
theorem dX12_isDigit_6 : decode cX12_isDigit 6 = .ok (.iload_n 0, 1) := by decide +kernel
theorem dX12_isDigit_7 : decode cX12_isDigit 7 = .ok (.bipush 57, 2) := by decide +kernel
theorem dX12_isDigit_9 : decode cX12_isDigit 9 = .ok (.if_icmp .gt 7, 3) := by decide +kernel
theorem dX12_isDigit_12 : decode cX12_isDigit 12 = .ok (.iconst 1, 1) := by decide +kernel
theorem dX12_isDigit_13 : decode cX12_isDigit 13 = .ok (.goto 4, 3) := by decide +kernel
theorem dX12_isDigit_16 : decode cX12_isDigit 16 = .ok (.iconst 0, 1) := by decide +kernel
theorem dX12_isDigit_17 : decode cX12_isDigit 17 = .ok (.ireturn, 1) := by decide +kernel
def tX12_isDigit (kn : sKn) : List (Nat × sA) := [(0, a_iload 0 1), (1, a_stk (q_int 48) 3), (3, a_icmp kn b_lt 2 16 6), (6, a_iload 0 7), (7, a_stk (q_int 57) 9), (9, a_icmp kn b_gt 4 16 12), (12, a_stk (q_int 1) 13), (13, a_goto 17), (16, a_stk (q_int 0) 17), (17, a_zret)]
def fX12_isDigit (kn : sKn) : List Value → sW → Option sR := fW (tX12_isDigit kn) 1
set_option maxRecDepth 100000 in
set_option maxHeartbeats 4000000 in
theorem mX12_isDigit (kn : sKn) : mM kn yX12_isDigit (Cond.code yX12_isDigit cX12_isDigit 1 (some .boolean) :: wsL_law) 1 false (fX12_isDigit kn) := mM_W (fun n => mM_of (own := RX12) (ini := false) rfl (by decide +kernel) (by decide +kernel) (all_c (ok_iload_n dX12_isDigit_0 rfl) (all_c (ok_stk (s_bipush dX12_isDigit_1 (by decide))) (all_c (ok_icmp_lt dX12_isDigit_3 (by decide)) (all_c (ok_iload_n dX12_isDigit_6 rfl) (all_c (ok_stk (s_bipush dX12_isDigit_7 (by decide))) (all_c (ok_icmp_gt dX12_isDigit_9 (by decide)) (all_c (ok_stk (s_iconst dX12_isDigit_12 (by decide))) (all_c (ok_goto dX12_isDigit_13 (by decide)) (all_c (ok_stk (s_iconst dX12_isDigit_16 (by decide))) (all_c (ok_zret dX12_isDigit_17) all_n)))))))))) n (fun h => by first | rfl | cases h))
theorem dX12_isLetter_0 : decode cX12_isLetter 0 = .ok (.iload_n 0, 1) := by decide +kernel
theorem dX12_isLetter_1 : decode cX12_isLetter 1 = .ok (.bipush 97, 2) := by decide +kernel
theorem dX12_isLetter_3 : decode cX12_isLetter 3 = .ok (.if_icmp .lt 13, 3) := by decide +kernel
theorem dX12_isLetter_6 : decode cX12_isLetter 6 = .ok (.iload_n 0, 1) := by decide +kernel
theorem dX12_isLetter_7 : decode cX12_isLetter 7 = .ok (.bipush 122, 2) := by decide +kernel
theorem dX12_isLetter_9 : decode cX12_isLetter 9 = .ok (.if_icmp .gt 7, 3) := by decide +kernel
theorem dX12_isLetter_12 : decode cX12_isLetter 12 = .ok (.iconst 1, 1) := by decide +kernel
theorem dX12_isLetter_13 : decode cX12_isLetter 13 = .ok (.goto 4, 3) := by decide +kernel
theorem dX12_isLetter_16 : decode cX12_isLetter 16 = .ok (.iconst 0, 1) := by decide +kernel
theorem dX12_isLetter_17 : decode cX12_isLetter 17 = .ok (.ireturn, 1) := by decide +kernel
def tX12_isLetter (kn : sKn) : List (Nat × sA) := [(0, a_iload 0 1), (1, a_stk (q_int 97) 3), (3, a_icmp kn b_lt 2 16 6), (6, a_iload 0 7), (7, a_stk (q_int 122) 9), (9, a_icmp kn b_gt 4 16 12), (12, a_stk (q_int 1) 13), (13, a_goto 17), (16, a_stk (q_int 0) 17), (17, a_zret)]
def fX12_isLetter (kn : sKn) : List Value → sW → Option sR := fW (tX12_isLetter kn) 1
set_option maxRecDepth 100000 in
set_option maxHeartbeats 4000000 in
theorem mX12_isLetter (kn : sKn) : mM kn yX12_isLetter (Cond.code yX12_isLetter cX12_isLetter 1 (some .boolean) :: wsL_law) 1 false (fX12_isLetter kn) := mM_W (fun n => mM_of (own := RX12) (ini := false) rfl (by decide +kernel) (by decide +kernel) (all_c (ok_iload_n dX12_isLetter_0 rfl) (all_c (ok_stk (s_bipush dX12_isLetter_1 (by decide))) (all_c (ok_icmp_lt dX12_isLetter_3 (by decide)) (all_c (ok_iload_n dX12_isLetter_6 rfl) (all_c (ok_stk (s_bipush dX12_isLetter_7 (by decide))) (all_c (ok_icmp_gt dX12_isLetter_9 (by decide)) (all_c (ok_stk (s_iconst dX12_isLetter_12 (by decide))) (all_c (ok_goto dX12_isLetter_13 (by decide)) (all_c (ok_stk (s_iconst dX12_isLetter_16 (by decide))) (all_c (ok_zret dX12_isLetter_17) all_n)))))))))) n (fun h => by first | rfl | cases h))
theorem dX12_tapeAt_0 : decode cX12_tapeAt 0 = .ok (.iload_n 1, 1) := by decide +kernel
theorem dX12_tapeAt_1 : decode cX12_tapeAt 1 = .ok (.aload_n 0, 1) := by decide +kernel
theorem dX12_tapeAt_2 : decode cX12_tapeAt 2 = .ok (.getfield 18, 3) := by decide +kernel
theorem dX12_tapeAt_5 : decode cX12_tapeAt 5 = .ok (.if_icmp .ge 12, 3) := by decide +kernel
theorem dX12_tapeAt_8 : decode cX12_tapeAt 8 = .ok (.aload_n 0, 1) := by decide +kernel
theorem dX12_tapeAt_9 : decode cX12_tapeAt 9 = .ok (.getfield 7, 3) := by decide +kernel
theorem dX12_tapeAt_12 : decode cX12_tapeAt 12 = .ok (.iload_n 1, 1) := by decide +kernel
theorem dX12_tapeAt_13 : decode cX12_tapeAt 13 = .ok (.iaload, 1) := by decide +kernel
theorem dX12_tapeAt_14 : decode cX12_tapeAt 14 = .ok (.goto 4, 3) := by decide +kernel
theorem dX12_tapeAt_17 : decode cX12_tapeAt 17 = .ok (.iconst 0, 1) := by decide +kernel
theorem dX12_tapeAt_18 : decode cX12_tapeAt 18 = .ok (.ireturn, 1) := by decide +kernel
def tX12_tapeAt (kn : sKn) : List (Nat × sA) := [(0, a_iload 1 1), (1, a_aload 0 2), (2, a_get 13 3 5), (5, a_icmp kn b_ge 3 17 8), (8, a_aload 0 9), (9, a_get 13 1 12), (12, a_iload 1 13), (13, a_iald 14), (14, a_goto 18), (17, a_stk (q_int 0) 18), (18, a_iret)]
def fX12_tapeAt (kn : sKn) : List Value → sW → Option sR := fW (tX12_tapeAt kn) 2
set_option maxRecDepth 100000 in
set_option maxHeartbeats 4000000 in
theorem mX12_tapeAt (kn : sKn) : mM kn yX12_tapeAt (Cond.code yX12_tapeAt cX12_tapeAt 2 (some .int) :: wsL_law) 1 false (fX12_tapeAt kn) := mM_W (fun n => mM_of (own := RX12) (ini := false) rfl (by decide +kernel) (by decide +kernel) (all_c (ok_iload_n dX12_tapeAt_0 rfl) (all_c (ok_aload_n dX12_tapeAt_1 rfl) (all_c (okg_X12_3 kw1152 dX12_tapeAt_2) (all_c (ok_icmp_ge dX12_tapeAt_5 (by decide)) (all_c (ok_aload_n dX12_tapeAt_8 rfl) (all_c (okg_X12_1 kw1153 dX12_tapeAt_9) (all_c (ok_iload_n dX12_tapeAt_12 rfl) (all_c (ok_iald dX12_tapeAt_13) (all_c (ok_goto dX12_tapeAt_14 (by decide)) (all_c (ok_stk (s_iconst dX12_tapeAt_17 (by decide))) (all_c (ok_iret dX12_tapeAt_18) all_n))))))))))) n (fun h => by first | rfl | cases h))
theorem dX12_go_0 : decode cX12_go 0 = .ok (.aload_n 0, 1) := by decide +kernel
theorem dX12_go_1 : decode cX12_go 1 = .ok (.getfield 21, 3) := by decide +kernel
theorem dX12_go_4 : decode cX12_go 4 = .ok (.aload_n 0, 1) := by decide +kernel
theorem dX12_go_5 : decode cX12_go 5 = .ok (.getfield 18, 3) := by decide +kernel
theorem dX12_go_8 : decode cX12_go 8 = .ok (.if_icmp .ge 44, 3) := by decide +kernel
theorem dX12_go_11 : decode cX12_go 11 = .ok (.aload_n 0, 1) := by decide +kernel
theorem dX12_go_12 : decode cX12_go 12 = .ok (.getfield 7, 3) := by decide +kernel
theorem dX12_go_15 : decode cX12_go 15 = .ok (.aload_n 0, 1) := by decide +kernel
theorem dX12_go_16 : decode cX12_go 16 = .ok (.getfield 21, 3) := by decide +kernel
theorem dX12_go_19 : decode cX12_go 19 = .ok (.iaload, 1) := by decide +kernel
theorem dX12_go_20 : decode cX12_go 20 = .ok (.bipush 32, 2) := by decide +kernel
theorem dX12_go_22 : decode cX12_go 22 = .ok (.if_icmp .eq 17, 3) := by decide +kernel
theorem dX12_go_25 : decode cX12_go 25 = .ok (.aload_n 0, 1) := by decide +kernel
theorem dX12_go_26 : decode cX12_go 26 = .ok (.getfield 7, 3) := by decide +kernel
theorem dX12_go_29 : decode cX12_go 29 = .ok (.aload_n 0, 1) := by decide +kernel
theorem dX12_go_30 : decode cX12_go 30 = .ok (.getfield 21, 3) := by decide +kernel
theorem dX12_go_33 : decode cX12_go 33 = .ok (.iaload, 1) := by decide +kernel
theorem dX12_go_34 : decode cX12_go 34 = .ok (.bipush 10, 2) := by decide +kernel
theorem dX12_go_36 : decode cX12_go 36 = .ok (.if_icmp .ne 16, 3) := by decide +kernel
theorem dX12_go_39 : decode cX12_go 39 = .ok (.aload_n 0, 1) := by decide +kernel
theorem dX12_go_40 : decode cX12_go 40 = .ok (.dup, 1) := by decide +kernel
theorem dX12_go_41 : decode cX12_go 41 = .ok (.getfield 21, 3) := by decide +kernel
theorem dX12_go_44 : decode cX12_go 44 = .ok (.iconst 1, 1) := by decide +kernel
theorem dX12_go_45 : decode cX12_go 45 = .ok (.iadd, 1) := by decide +kernel
theorem dX12_go_46 : decode cX12_go 46 = .ok (.putfield 21, 3) := by decide +kernel
theorem dX12_go_49 : decode cX12_go 49 = .ok (.goto (-49), 3) := by decide +kernel
theorem dX12_go_52 : decode cX12_go 52 = .ok (.aload_n 0, 1) := by decide +kernel
theorem dX12_go_53 : decode cX12_go 53 = .ok (.aload_n 0, 1) := by decide +kernel
theorem dX12_go_54 : decode cX12_go 54 = .ok (.getfield 21, 3) := by decide +kernel
theorem dX12_go_57 : decode cX12_go 57 = .ok (.putfield 24, 3) := by decide +kernel
theorem dX12_go_60 : decode cX12_go 60 = .ok (.aload_n 0, 1) := by decide +kernel
theorem dX12_go_61 : decode cX12_go 61 = .ok (.getfield 18, 3) := by decide +kernel
theorem dX12_go_64 : decode cX12_go 64 = .ok (.aload_n 0, 1) := by decide +kernel
theorem dX12_go_65 : decode cX12_go 65 = .ok (.getfield 27, 3) := by decide +kernel
theorem dX12_go_68 : decode cX12_go 68 = .ok (.if_icmp .le 28, 3) := by decide +kernel
theorem dX12_go_71 : decode cX12_go 71 = .ok (.aload_n 0, 1) := by decide +kernel
theorem dX12_go_72 : decode cX12_go 72 = .ok (.getfield 24, 3) := by decide +kernel
theorem dX12_go_75 : decode cX12_go 75 = .ok (.aload_n 0, 1) := by decide +kernel
theorem dX12_go_76 : decode cX12_go 76 = .ok (.getfield 27, 3) := by decide +kernel
theorem dX12_go_79 : decode cX12_go 79 = .ok (.if_icmp .lt 17, 3) := by decide +kernel
theorem dX12_go_82 : decode cX12_go 82 = .ok (.aload_n 0, 1) := by decide +kernel
theorem dX12_go_83 : decode cX12_go 83 = .ok (.aload_n 0, 1) := by decide +kernel
theorem dX12_go_84 : decode cX12_go 84 = .ok (.getfield 27, 3) := by decide +kernel
theorem dX12_go_87 : decode cX12_go 87 = .ok (.putfield 24, 3) := by decide +kernel
theorem dX12_go_90 : decode cX12_go 90 = .ok (.aload_n 0, 1) := by decide +kernel
theorem dX12_go_91 : decode cX12_go 91 = .ok (.iconst 1, 1) := by decide +kernel
theorem dX12_go_92 : decode cX12_go 92 = .ok (.putfield 30, 3) := by decide +kernel
theorem dX12_go_95 : decode cX12_go 95 = .ok (.return_, 1) := by decide +kernel
theorem dX12_go_96 : decode cX12_go 96 = .ok (.aload_n 0, 1) := by decide +kernel
theorem dX12_go_97 : decode cX12_go 97 = .ok (.getfield 21, 3) := by decide +kernel
theorem dX12_go_100 : decode cX12_go 100 = .ok (.aload_n 0, 1) := by decide +kernel
theorem dX12_go_101 : decode cX12_go 101 = .ok (.getfield 18, 3) := by decide +kernel
theorem dX12_go_104 : decode cX12_go 104 = .ok (.if_icmp .lt 9, 3) := by decide +kernel
theorem dX12_go_107 : decode cX12_go 107 = .ok (.aload_n 0, 1) := by decide +kernel
theorem dX12_go_108 : decode cX12_go 108 = .ok (.iconst 0, 1) := by decide +kernel
theorem dX12_go_109 : decode cX12_go 109 = .ok (.putfield 30, 3) := by decide +kernel
theorem dX12_go_112 : decode cX12_go 112 = .ok (.return_, 1) := by decide +kernel
theorem dX12_go_113 : decode cX12_go 113 = .ok (.aload_n 0, 1) := by decide +kernel
theorem dX12_go_114 : decode cX12_go 114 = .ok (.getfield 7, 3) := by decide +kernel
theorem dX12_go_117 : decode cX12_go 117 = .ok (.aload_n 0, 1) := by decide +kernel
theorem dX12_go_118 : decode cX12_go 118 = .ok (.getfield 21, 3) := by decide +kernel
theorem dX12_go_121 : decode cX12_go 121 = .ok (.iaload, 1) := by decide +kernel
theorem dX12_go_122 : decode cX12_go 122 = .ok (.istore_n 1, 1) := by decide +kernel
theorem dX12_go_123 : decode cX12_go 123 = .ok (.iload_n 1, 1) := by decide +kernel
theorem dX12_go_124 : decode cX12_go 124 = .ok (.invokestatic 33, 3) := by decide +kernel
theorem dX12_go_127 : decode cX12_go 127 = .ok (.ifCond .ne 71, 3) := by decide +kernel
theorem dX12_go_130 : decode cX12_go 130 = .ok (.iload_n 1, 1) := by decide +kernel
theorem dX12_go_131 : decode cX12_go 131 = .ok (.invokestatic 37, 3) := by decide +kernel
theorem dX12_go_134 : decode cX12_go 134 = .ok (.ifCond .ne 64, 3) := by decide +kernel
theorem dX12_go_137 : decode cX12_go 137 = .ok (.aload_n 0, 1) := by decide +kernel
theorem dX12_go_138 : decode cX12_go 138 = .ok (.iload_n 1, 1) := by decide +kernel
theorem dX12_go_139 : decode cX12_go 139 = .ok (.bipush 59, 2) := by decide +kernel
theorem dX12_go_141 : decode cX12_go 141 = .ok (.if_icmp .eq 33, 3) := by decide +kernel
theorem dX12_go_144 : decode cX12_go 144 = .ok (.iload_n 1, 1) := by decide +kernel
theorem dX12_go_145 : decode cX12_go 145 = .ok (.bipush 60, 2) := by decide +kernel
theorem dX12_go_147 : decode cX12_go 147 = .ok (.if_icmp .eq 27, 3) := by decide +kernel
theorem dX12_go_150 : decode cX12_go 150 = .ok (.iload_n 1, 1) := by decide +kernel
theorem dX12_go_151 : decode cX12_go 151 = .ok (.bipush 61, 2) := by decide +kernel
theorem dX12_go_153 : decode cX12_go 153 = .ok (.if_icmp .eq 21, 3) := by decide +kernel
theorem dX12_go_156 : decode cX12_go 156 = .ok (.iload_n 1, 1) := by decide +kernel
theorem dX12_go_157 : decode cX12_go 157 = .ok (.bipush 62, 2) := by decide +kernel
theorem dX12_go_159 : decode cX12_go 159 = .ok (.if_icmp .eq 15, 3) := by decide +kernel
theorem dX12_go_162 : decode cX12_go 162 = .ok (.iload_n 1, 1) := by decide +kernel
theorem dX12_go_163 : decode cX12_go 163 = .ok (.bipush 40, 2) := by decide +kernel
theorem dX12_go_165 : decode cX12_go 165 = .ok (.if_icmp .eq 9, 3) := by decide +kernel
theorem dX12_go_168 : decode cX12_go 168 = .ok (.iload_n 1, 1) := by decide +kernel
theorem dX12_go_169 : decode cX12_go 169 = .ok (.bipush 41, 2) := by decide +kernel
theorem dX12_go_171 : decode cX12_go 171 = .ok (.if_icmp .ne 7, 3) := by decide +kernel
theorem dX12_go_174 : decode cX12_go 174 = .ok (.iconst 4, 1) := by decide +kernel
theorem dX12_go_175 : decode cX12_go 175 = .ok (.goto 4, 3) := by decide +kernel
theorem dX12_go_178 : decode cX12_go 178 = .ok (.iconst 1, 1) := by decide +kernel
theorem dX12_go_179 : decode cX12_go 179 = .ok (.putfield 30, 3) := by decide +kernel
theorem dX12_go_182 : decode cX12_go 182 = .ok (.aload_n 0, 1) := by decide +kernel
theorem dX12_go_183 : decode cX12_go 183 = .ok (.iload_n 1, 1) := by decide +kernel
theorem dX12_go_184 : decode cX12_go 184 = .ok (.putfield 40, 3) := by decide +kernel
theorem dX12_go_187 : decode cX12_go 187 = .ok (.aload_n 0, 1) := by decide +kernel
theorem dX12_go_188 : decode cX12_go 188 = .ok (.dup, 1) := by decide +kernel
theorem dX12_go_189 : decode cX12_go 189 = .ok (.getfield 21, 3) := by decide +kernel
theorem dX12_go_192 : decode cX12_go 192 = .ok (.iconst 1, 1) := by decide +kernel
theorem dX12_go_193 : decode cX12_go 193 = .ok (.iadd, 1) := by decide +kernel
theorem dX12_go_194 : decode cX12_go 194 = .ok (.putfield 21, 3) := by decide +kernel
theorem dX12_go_197 : decode cX12_go 197 = .ok (.return_, 1) := by decide +kernel
theorem dX12_go_198 : decode cX12_go 198 = .ok (.iload_n 1, 1) := by decide +kernel
theorem dX12_go_199 : decode cX12_go 199 = .ok (.invokestatic 33, 3) := by decide +kernel
theorem dX12_go_202 : decode cX12_go 202 = .ok (.istore_n 2, 1) := by decide +kernel
theorem dX12_go_203 : decode cX12_go 203 = .ok (.iconst 1, 1) := by decide +kernel
theorem dX12_go_204 : decode cX12_go 204 = .ok (.istore_n 3, 1) := by decide +kernel
theorem dX12_go_205 : decode cX12_go 205 = .ok (.aload_n 0, 1) := by decide +kernel
theorem dX12_go_206 : decode cX12_go 206 = .ok (.lconst 0, 1) := by decide +kernel
theorem dX12_go_207 : decode cX12_go 207 = .ok (.putfield 43, 3) := by decide +kernel
theorem dX12_go_210 : decode cX12_go 210 = .ok (.aload_n 0, 1) := by decide +kernel
theorem dX12_go_211 : decode cX12_go 211 = .ok (.iconst 0, 1) := by decide +kernel
theorem dX12_go_212 : decode cX12_go 212 = .ok (.putfield 47, 3) := by decide +kernel
theorem dX12_go_215 : decode cX12_go 215 = .ok (.aload_n 0, 1) := by decide +kernel
theorem dX12_go_216 : decode cX12_go 216 = .ok (.aload_n 0, 1) := by decide +kernel
theorem dX12_go_217 : decode cX12_go 217 = .ok (.getfield 21, 3) := by decide +kernel
theorem dX12_go_220 : decode cX12_go 220 = .ok (.invokevirtual 50, 3) := by decide +kernel
theorem dX12_go_223 : decode cX12_go 223 = .ok (.invokestatic 33, 3) := by decide +kernel
theorem dX12_go_226 : decode cX12_go 226 = .ok (.ifCond .ne 17, 3) := by decide +kernel
theorem dX12_go_229 : decode cX12_go 229 = .ok (.aload_n 0, 1) := by decide +kernel
theorem dX12_go_230 : decode cX12_go 230 = .ok (.aload_n 0, 1) := by decide +kernel
theorem dX12_go_231 : decode cX12_go 231 = .ok (.getfield 21, 3) := by decide +kernel
theorem dX12_go_234 : decode cX12_go 234 = .ok (.invokevirtual 50, 3) := by decide +kernel
theorem dX12_go_237 : decode cX12_go 237 = .ok (.invokestatic 37, 3) := by decide +kernel
theorem dX12_go_240 : decode cX12_go 240 = .ok (.ifCond .eq 110, 3) := by decide +kernel
theorem dX12_go_243 : decode cX12_go 243 = .ok (.aload_n 0, 1) := by decide +kernel
theorem dX12_go_244 : decode cX12_go 244 = .ok (.getfield 7, 3) := by decide +kernel
theorem dX12_go_247 : decode cX12_go 247 = .ok (.aload_n 0, 1) := by decide +kernel
theorem dX12_go_248 : decode cX12_go 248 = .ok (.getfield 21, 3) := by decide +kernel
theorem dX12_go_251 : decode cX12_go 251 = .ok (.iaload, 1) := by decide +kernel
theorem dX12_go_252 : decode cX12_go 252 = .ok (.istore 4, 2) := by decide +kernel
theorem dX12_go_254 : decode cX12_go 254 = .ok (.iload_n 3, 1) := by decide +kernel
theorem dX12_go_255 : decode cX12_go 255 = .ok (.ifCond .eq 16, 3) := by decide +kernel
theorem dX12_go_258 : decode cX12_go 258 = .ok (.iload 4, 2) := by decide +kernel
theorem dX12_go_260 : decode cX12_go 260 = .ok (.invokestatic 33, 3) := by decide +kernel
theorem dX12_go_263 : decode cX12_go 263 = .ok (.iload_n 2, 1) := by decide +kernel
theorem dX12_go_264 : decode cX12_go 264 = .ok (.if_icmp .ne 7, 3) := by decide +kernel
theorem dX12_go_267 : decode cX12_go 267 = .ok (.iconst 1, 1) := by decide +kernel
theorem dX12_go_268 : decode cX12_go 268 = .ok (.goto 4, 3) := by decide +kernel
theorem dX12_go_271 : decode cX12_go 271 = .ok (.iconst 0, 1) := by decide +kernel
theorem dX12_go_272 : decode cX12_go 272 = .ok (.istore_n 3, 1) := by decide +kernel
theorem dX12_go_273 : decode cX12_go 273 = .ok (.aload_n 0, 1) := by decide +kernel
theorem dX12_go_274 : decode cX12_go 274 = .ok (.getfield 21, 3) := by decide +kernel
theorem dX12_go_277 : decode cX12_go 277 = .ok (.aload_n 0, 1) := by decide +kernel
theorem dX12_go_278 : decode cX12_go 278 = .ok (.getfield 24, 3) := by decide +kernel
theorem dX12_go_281 : decode cX12_go 281 = .ok (.isub, 1) := by decide +kernel
theorem dX12_go_282 : decode cX12_go 282 = .ok (.bipush 7, 2) := by decide +kernel
theorem dX12_go_284 : decode cX12_go 284 = .ok (.if_icmp .ge 23, 3) := by decide +kernel
theorem dX12_go_287 : decode cX12_go 287 = .ok (.aload_n 0, 1) := by decide +kernel
theorem dX12_go_288 : decode cX12_go 288 = .ok (.ldc2_w 54, 3) := by decide +kernel
theorem dX12_go_291 : decode cX12_go 291 = .ok (.aload_n 0, 1) := by decide +kernel
theorem dX12_go_292 : decode cX12_go 292 = .ok (.getfield 43, 3) := by decide +kernel
theorem dX12_go_295 : decode cX12_go 295 = .ok (.lmul, 1) := by decide +kernel
theorem dX12_go_296 : decode cX12_go 296 = .ok (.iload 4, 2) := by decide +kernel
theorem dX12_go_298 : decode cX12_go 298 = .ok (.i2l, 1) := by decide +kernel
theorem dX12_go_299 : decode cX12_go 299 = .ok (.ladd, 1) := by decide +kernel
theorem dX12_go_300 : decode cX12_go 300 = .ok (.ldc2_w 56, 3) := by decide +kernel
theorem dX12_go_303 : decode cX12_go 303 = .ok (.lsub, 1) := by decide +kernel
theorem dX12_go_304 : decode cX12_go 304 = .ok (.putfield 43, 3) := by decide +kernel
theorem dX12_go_307 : decode cX12_go 307 = .ok (.aload_n 0, 1) := by decide +kernel
theorem dX12_go_308 : decode cX12_go 308 = .ok (.getfield 21, 3) := by decide +kernel
theorem dX12_go_311 : decode cX12_go 311 = .ok (.aload_n 0, 1) := by decide +kernel
theorem dX12_go_312 : decode cX12_go 312 = .ok (.getfield 24, 3) := by decide +kernel
theorem dX12_go_315 : decode cX12_go 315 = .ok (.isub, 1) := by decide +kernel
theorem dX12_go_316 : decode cX12_go 316 = .ok (.iconst 3, 1) := by decide +kernel
theorem dX12_go_317 : decode cX12_go 317 = .ok (.if_icmp .ge 20, 3) := by decide +kernel
theorem dX12_go_320 : decode cX12_go 320 = .ok (.aload_n 0, 1) := by decide +kernel
theorem dX12_go_321 : decode cX12_go 321 = .ok (.bipush 10, 2) := by decide +kernel
theorem dX12_go_323 : decode cX12_go 323 = .ok (.aload_n 0, 1) := by decide +kernel
theorem dX12_go_324 : decode cX12_go 324 = .ok (.getfield 47, 3) := by decide +kernel
theorem dX12_go_327 : decode cX12_go 327 = .ok (.imul, 1) := by decide +kernel
theorem dX12_go_328 : decode cX12_go 328 = .ok (.iload 4, 2) := by decide +kernel
theorem dX12_go_330 : decode cX12_go 330 = .ok (.iadd, 1) := by decide +kernel
theorem dX12_go_331 : decode cX12_go 331 = .ok (.bipush 48, 2) := by decide +kernel
theorem dX12_go_333 : decode cX12_go 333 = .ok (.isub, 1) := by decide +kernel
theorem dX12_go_334 : decode cX12_go 334 = .ok (.putfield 47, 3) := by decide +kernel
theorem dX12_go_337 : decode cX12_go 337 = .ok (.aload_n 0, 1) := by decide +kernel
theorem dX12_go_338 : decode cX12_go 338 = .ok (.dup, 1) := by decide +kernel
theorem dX12_go_339 : decode cX12_go 339 = .ok (.getfield 21, 3) := by decide +kernel
theorem dX12_go_342 : decode cX12_go 342 = .ok (.iconst 1, 1) := by decide +kernel
theorem dX12_go_343 : decode cX12_go 343 = .ok (.iadd, 1) := by decide +kernel
theorem dX12_go_344 : decode cX12_go 344 = .ok (.putfield 21, 3) := by decide +kernel
theorem dX12_go_347 : decode cX12_go 347 = .ok (.goto (-132), 3) := by decide +kernel
theorem dX12_go_350 : decode cX12_go 350 = .ok (.aload_n 0, 1) := by decide +kernel
theorem dX12_go_351 : decode cX12_go 351 = .ok (.iload_n 3, 1) := by decide +kernel
theorem dX12_go_352 : decode cX12_go 352 = .ok (.ifCond .eq 25, 3) := by decide +kernel
theorem dX12_go_355 : decode cX12_go 355 = .ok (.aload_n 0, 1) := by decide +kernel
theorem dX12_go_356 : decode cX12_go 356 = .ok (.getfield 21, 3) := by decide +kernel
theorem dX12_go_359 : decode cX12_go 359 = .ok (.aload_n 0, 1) := by decide +kernel
theorem dX12_go_360 : decode cX12_go 360 = .ok (.getfield 24, 3) := by decide +kernel
theorem dX12_go_363 : decode cX12_go 363 = .ok (.isub, 1) := by decide +kernel
theorem dX12_go_364 : decode cX12_go 364 = .ok (.iload_n 2, 1) := by decide +kernel
theorem dX12_go_365 : decode cX12_go 365 = .ok (.ifCond .eq 8, 3) := by decide +kernel
theorem dX12_go_368 : decode cX12_go 368 = .ok (.bipush 7, 2) := by decide +kernel
theorem dX12_go_370 : decode cX12_go 370 = .ok (.goto 4, 3) := by decide +kernel
theorem dX12_go_373 : decode cX12_go 373 = .ok (.iconst 3, 1) := by decide +kernel
theorem dX12_go_374 : decode cX12_go 374 = .ok (.if_icmp .le 7, 3) := by decide +kernel
theorem dX12_go_377 : decode cX12_go 377 = .ok (.iconst 1, 1) := by decide +kernel
theorem dX12_go_378 : decode cX12_go 378 = .ok (.goto 12, 3) := by decide +kernel
theorem dX12_go_381 : decode cX12_go 381 = .ok (.iload_n 2, 1) := by decide +kernel
theorem dX12_go_382 : decode cX12_go 382 = .ok (.ifCond .eq 7, 3) := by decide +kernel
theorem dX12_go_385 : decode cX12_go 385 = .ok (.iconst 2, 1) := by decide +kernel
theorem dX12_go_386 : decode cX12_go 386 = .ok (.goto 4, 3) := by decide +kernel
theorem dX12_go_389 : decode cX12_go 389 = .ok (.iconst 3, 1) := by decide +kernel
theorem dX12_go_390 : decode cX12_go 390 = .ok (.putfield 30, 3) := by decide +kernel
theorem dX12_go_393 : decode cX12_go 393 = .ok (.return_, 1) := by decide +kernel
theorem okc_X12_isLetter {kn : sKn} {cc : ByteArray} {own : String} {nL : Nat} {D : Nat} {ret : Option FieldType} {ini : Bool} {pc index : Nat} (hD : 1 + 1 ≤ D) (hl : Cond.methodLink own index yX12_isLetter ∈ wsL_law) (hd : decode cc pc = .ok (.invokestatic index, 3)) : mOk kn cc own nL wsL_law D ret ini pc (a_callS false (fX12_isLetter kn) 1 (pc + 3)) := ok_callS (mX12_isLetter kn) (good_ws ws_good (fun _ h => h) kw1156) hD (by decide) hl kw1157 kw1072 ⟨by decide +kernel, by decide +kernel, by decide +kernel⟩ hd
theorem okc_X12_isDigit {kn : sKn} {cc : ByteArray} {own : String} {nL : Nat} {D : Nat} {ret : Option FieldType} {ini : Bool} {pc index : Nat} (hD : 1 + 1 ≤ D) (hl : Cond.methodLink own index yX12_isDigit ∈ wsL_law) (hd : decode cc pc = .ok (.invokestatic index, 3)) : mOk kn cc own nL wsL_law D ret ini pc (a_callS false (fX12_isDigit kn) 1 (pc + 3)) := ok_callS (mX12_isDigit kn) (good_ws ws_good (fun _ h => h) kw1159) hD (by decide) hl kw1160 kw1072 ⟨by decide +kernel, by decide +kernel, by decide +kernel⟩ hd
theorem okc_X12_tapeAt {kn : sKn} {cc : ByteArray} {own : String} {nL : Nat} {D : Nat} {ret : Option FieldType} {ini : Bool} {pc index : Nat} (hD : 1 + 1 ≤ D) (hl : Cond.methodLink own index yX12_tapeAt ∈ wsL_law) (hd : decode cc pc = .ok (.invokevirtual index, 3)) : mOk kn cc own nL wsL_law D ret ini pc (a_callV false (fX12_tapeAt kn) 13 (1 + 1) (pc + 3)) := ok_callV (mX12_tapeAt kn) (good_ws ws_good (fun _ h => h) kw1165) hD (by decide) hl kw1166 kw1167 kw1072 ⟨by decide +kernel, by decide +kernel, by decide +kernel⟩ rfl hd
def tX12_go (kn : sKn) : List (Nat × sA) := [(0, a_aload 0 1), (1, a_get 13 5 4), (4, a_aload 0 5), (5, a_get 13 3 8), (8, a_icmp kn b_ge 3 52 11), (11, a_aload 0 12), (12, a_get 13 1 15), (15, a_aload 0 16), (16, a_get 13 5 19), (19, a_iald 20), (20, a_stk (q_int 32) 22), (22, a_icmp kn b_eq 0 39 25), (25, a_aload 0 26), (26, a_get 13 1 29), (29, a_aload 0 30), (30, a_get 13 5 33), (33, a_iald 34), (34, a_stk (q_int 10) 36), (36, a_icmp kn b_ne 1 52 39), (39, a_aload 0 40), (40, a_stk q_dup 41), (41, a_get 13 5 44), (44, a_stk (q_int 1) 45), (45, a_stk q_iadd 46), (46, a_put 13 5 ckI 49), (49, a_goto 0), (52, a_aload 0 53), (53, a_aload 0 54), (54, a_get 13 5 57), (57, a_put 13 6 ckI 60), (60, a_aload 0 61), (61, a_get 13 3 64), (64, a_aload 0 65), (65, a_get 13 4 68), (68, a_icmp kn b_le 5 96 71), (71, a_aload 0 72), (72, a_get 13 6 75), (75, a_aload 0 76), (76, a_get 13 4 79), (79, a_icmp kn b_lt 2 96 82), (82, a_aload 0 83), (83, a_aload 0 84), (84, a_get 13 4 87), (87, a_put 13 6 ckI 90), (90, a_aload 0 91), (91, a_stk (q_int 1) 92), (92, a_put 13 7 ckI 95), (95, a_vret), (96, a_aload 0 97), (97, a_get 13 5 100), (100, a_aload 0 101), (101, a_get 13 3 104), (104, a_icmp kn b_lt 2 113 107), (107, a_aload 0 108), (108, a_stk (q_int 0) 109), (109, a_put 13 7 ckI 112), (112, a_vret), (113, a_aload 0 114), (114, a_get 13 1 117), (117, a_aload 0 118), (118, a_get 13 5 121), (121, a_iald 122), (122, a_istore 1 123), (123, a_iload 1 124), (124, a_callS false (fX12_isLetter kn) 1 127), (127, a_if kn b_ne 1 198 130), (130, a_iload 1 131), (131, a_callS false (fX12_isDigit kn) 1 134), (134, a_if kn b_ne 1 198 137), (137, a_aload 0 138), (138, a_iload 1 139), (139, a_stk (q_int 59) 141), (141, a_icmp kn b_eq 0 174 144), (144, a_iload 1 145), (145, a_stk (q_int 60) 147), (147, a_icmp kn b_eq 0 174 150), (150, a_iload 1 151), (151, a_stk (q_int 61) 153), (153, a_icmp kn b_eq 0 174 156), (156, a_iload 1 157), (157, a_stk (q_int 62) 159), (159, a_icmp kn b_eq 0 174 162), (162, a_iload 1 163), (163, a_stk (q_int 40) 165), (165, a_icmp kn b_eq 0 174 168), (168, a_iload 1 169), (169, a_stk (q_int 41) 171), (171, a_icmp kn b_ne 1 178 174), (174, a_stk (q_int 4) 175), (175, a_goto 179), (178, a_stk (q_int 1) 179), (179, a_put 13 7 ckI 182), (182, a_aload 0 183), (183, a_iload 1 184), (184, a_put 13 9 ckI 187), (187, a_aload 0 188), (188, a_stk q_dup 189), (189, a_get 13 5 192), (192, a_stk (q_int 1) 193), (193, a_stk q_iadd 194), (194, a_put 13 5 ckI 197), (197, a_vret), (198, a_iload 1 199), (199, a_callS false (fX12_isLetter kn) 1 202), (202, a_istore 2 203), (203, a_stk (q_int 1) 204), (204, a_istore 3 205), (205, a_aload 0 206), (206, a_stk (q_long 0) 207), (207, a_put 13 12 ckJ 210), (210, a_aload 0 211), (211, a_stk (q_int 0) 212), (212, a_put 13 8 ckI 215), (215, a_aload 0 216), (216, a_aload 0 217), (217, a_get 13 5 220), (220, a_callV false (fX12_tapeAt kn) 13 2 223), (223, a_callS false (fX12_isLetter kn) 1 226), (226, a_if kn b_ne 1 243 229), (229, a_aload 0 230), (230, a_aload 0 231), (231, a_get 13 5 234), (234, a_callV false (fX12_tapeAt kn) 13 2 237), (237, a_callS false (fX12_isDigit kn) 1 240), (240, a_if kn b_eq 0 350 243), (243, a_aload 0 244), (244, a_get 13 1 247), (247, a_aload 0 248), (248, a_get 13 5 251), (251, a_iald 252), (252, a_istore 4 254), (254, a_iload 3 255), (255, a_if kn b_eq 0 271 258), (258, a_iload 4 260), (260, a_callS false (fX12_isLetter kn) 1 263), (263, a_iload 2 264), (264, a_icmp kn b_ne 1 271 267), (267, a_stk (q_int 1) 268), (268, a_goto 272), (271, a_stk (q_int 0) 272), (272, a_istore 3 273), (273, a_aload 0 274), (274, a_get 13 5 277), (277, a_aload 0 278), (278, a_get 13 6 281), (281, a_stk q_isub 282), (282, a_stk (q_int 7) 284), (284, a_icmp kn b_ge 3 307 287), (287, a_aload 0 288), (288, a_stk (q_long (27)) 291), (291, a_aload 0 292), (292, a_get 13 12 295), (295, a_stk q_lmul 296), (296, a_iload 4 298), (298, a_stk q_i2l 299), (299, a_stk q_ladd 300), (300, a_stk (q_long (96)) 303), (303, a_stk q_lsub 304), (304, a_put 13 12 ckJ 307), (307, a_aload 0 308), (308, a_get 13 5 311), (311, a_aload 0 312), (312, a_get 13 6 315), (315, a_stk q_isub 316), (316, a_stk (q_int 3) 317), (317, a_icmp kn b_ge 3 337 320), (320, a_aload 0 321), (321, a_stk (q_int 10) 323), (323, a_aload 0 324), (324, a_get 13 8 327), (327, a_stk q_imul 328), (328, a_iload 4 330), (330, a_stk q_iadd 331), (331, a_stk (q_int 48) 333), (333, a_stk q_isub 334), (334, a_put 13 8 ckI 337), (337, a_aload 0 338), (338, a_stk q_dup 339), (339, a_get 13 5 342), (342, a_stk (q_int 1) 343), (343, a_stk q_iadd 344), (344, a_put 13 5 ckI 347), (347, a_goto 215), (350, a_aload 0 351), (351, a_iload 3 352), (352, a_if kn b_eq 0 377 355), (355, a_aload 0 356), (356, a_get 13 5 359), (359, a_aload 0 360), (360, a_get 13 6 363), (363, a_stk q_isub 364), (364, a_iload 2 365), (365, a_if kn b_eq 0 373 368), (368, a_stk (q_int 7) 370), (370, a_goto 374), (373, a_stk (q_int 3) 374), (374, a_icmp kn b_le 5 381 377), (377, a_stk (q_int 1) 378), (378, a_goto 390), (381, a_iload 2 382), (382, a_if kn b_eq 0 389 385), (385, a_stk (q_int 2) 386), (386, a_goto 390), (389, a_stk (q_int 3) 390), (390, a_put 13 7 ckI 393), (393, a_vret)]
def fX12_go (kn : sKn) : List Value → sW → Option sR := fW (tX12_go kn) 5
set_option maxRecDepth 100000 in
set_option maxHeartbeats 4000000 in
theorem mX12_go (kn : sKn) : mM kn yX12_go (Cond.code yX12_go cX12_go 5 none :: wsL_law) 2 true (fX12_go kn) := mM_W (fun n => mM_of (own := RX12) (ini := false) rfl (by decide +kernel) (by decide +kernel) (all_c (ok_aload_n dX12_go_0 rfl) (all_c (okg_X12_5 kw1154 dX12_go_1) (all_c (ok_aload_n dX12_go_4 rfl) (all_c (okg_X12_3 kw1152 dX12_go_5) (all_c (ok_icmp_ge dX12_go_8 (by decide)) (all_c (ok_aload_n dX12_go_11 rfl) (all_c (okg_X12_1 kw1153 dX12_go_12) (all_c (ok_aload_n dX12_go_15 rfl) (all_c (okg_X12_5 kw1154 dX12_go_16) (all_c (ok_iald dX12_go_19) (all_c (ok_stk (s_bipush dX12_go_20 (by decide))) (all_c (ok_icmp_eq dX12_go_22 (by decide)) (all_c (ok_aload_n dX12_go_25 rfl) (all_c (okg_X12_1 kw1153 dX12_go_26) (all_c (ok_aload_n dX12_go_29 rfl) (all_c (okg_X12_5 kw1154 dX12_go_30) (all_c (ok_iald dX12_go_33) (all_c (ok_stk (s_bipush dX12_go_34 (by decide))) (all_c (ok_icmp_ne dX12_go_36 (by decide)) (all_c (ok_aload_n dX12_go_39 rfl) (all_c (ok_stk (s_dup dX12_go_40)) (all_c (okg_X12_5 kw1154 dX12_go_41) (all_c (ok_stk (s_iconst dX12_go_44 (by decide))) (all_c (ok_stk (s_iadd dX12_go_45)) (all_c (okp_X12_5 kw1154 dX12_go_46) (all_c (ok_goto dX12_go_49 (by decide)) (all_c (ok_aload_n dX12_go_52 rfl) (all_c (ok_aload_n dX12_go_53 rfl) (all_c (okg_X12_5 kw1154 dX12_go_54) (all_c (okp_X12_6 kw1150 dX12_go_57) (all_c (ok_aload_n dX12_go_60 rfl) (all_c (okg_X12_3 kw1152 dX12_go_61) (all_c (ok_aload_n dX12_go_64 rfl) (all_c (okg_X12_4 kw1155 dX12_go_65) (all_c (ok_icmp_le dX12_go_68 (by decide)) (all_c (ok_aload_n dX12_go_71 rfl) (all_c (okg_X12_6 kw1150 dX12_go_72) (all_c (ok_aload_n dX12_go_75 rfl) (all_c (okg_X12_4 kw1155 dX12_go_76) (all_c (ok_icmp_lt dX12_go_79 (by decide)) (all_c (ok_aload_n dX12_go_82 rfl) (all_c (ok_aload_n dX12_go_83 rfl) (all_c (okg_X12_4 kw1155 dX12_go_84) (all_c (okp_X12_6 kw1150 dX12_go_87) (all_c (ok_aload_n dX12_go_90 rfl) (all_c (ok_stk (s_iconst dX12_go_91 (by decide))) (all_c (okp_X12_7 kw1148 dX12_go_92) (all_c (ok_vret dX12_go_95) (all_c (ok_aload_n dX12_go_96 rfl) (all_c (okg_X12_5 kw1154 dX12_go_97) (all_c (ok_aload_n dX12_go_100 rfl) (all_c (okg_X12_3 kw1152 dX12_go_101) (all_c (ok_icmp_lt dX12_go_104 (by decide)) (all_c (ok_aload_n dX12_go_107 rfl) (all_c (ok_stk (s_iconst dX12_go_108 (by decide))) (all_c (okp_X12_7 kw1148 dX12_go_109) (all_c (ok_vret dX12_go_112) (all_c (ok_aload_n dX12_go_113 rfl) (all_c (okg_X12_1 kw1153 dX12_go_114) (all_c (ok_aload_n dX12_go_117 rfl) (all_c (okg_X12_5 kw1154 dX12_go_118) (all_c (ok_iald dX12_go_121) (all_c (ok_istore_n dX12_go_122 rfl (by decide)) (all_c (ok_iload_n dX12_go_123 rfl) (all_c (okc_X12_isLetter (by decide) kw1158 dX12_go_124) (all_c (ok_if_ne dX12_go_127 (by decide)) (all_c (ok_iload_n dX12_go_130 rfl) (all_c (okc_X12_isDigit (by decide) kw1161 dX12_go_131) (all_c (ok_if_ne dX12_go_134 (by decide)) (all_c (ok_aload_n dX12_go_137 rfl) (all_c (ok_iload_n dX12_go_138 rfl) (all_c (ok_stk (s_bipush dX12_go_139 (by decide))) (all_c (ok_icmp_eq dX12_go_141 (by decide)) (all_c (ok_iload_n dX12_go_144 rfl) (all_c (ok_stk (s_bipush dX12_go_145 (by decide))) (all_c (ok_icmp_eq dX12_go_147 (by decide)) (all_c (ok_iload_n dX12_go_150 rfl) (all_c (ok_stk (s_bipush dX12_go_151 (by decide))) (all_c (ok_icmp_eq dX12_go_153 (by decide)) (all_c (ok_iload_n dX12_go_156 rfl) (all_c (ok_stk (s_bipush dX12_go_157 (by decide))) (all_c (ok_icmp_eq dX12_go_159 (by decide)) (all_c (ok_iload_n dX12_go_162 rfl) (all_c (ok_stk (s_bipush dX12_go_163 (by decide))) (all_c (ok_icmp_eq dX12_go_165 (by decide)) (all_c (ok_iload_n dX12_go_168 rfl) (all_c (ok_stk (s_bipush dX12_go_169 (by decide))) (all_c (ok_icmp_ne dX12_go_171 (by decide)) (all_c (ok_stk (s_iconst dX12_go_174 (by decide))) (all_c (ok_goto dX12_go_175 (by decide)) (all_c (ok_stk (s_iconst dX12_go_178 (by decide))) (all_c (okp_X12_7 kw1148 dX12_go_179) (all_c (ok_aload_n dX12_go_182 rfl) (all_c (ok_iload_n dX12_go_183 rfl) (all_c (okp_X12_9 kw1162 dX12_go_184) (all_c (ok_aload_n dX12_go_187 rfl) (all_c (ok_stk (s_dup dX12_go_188)) (all_c (okg_X12_5 kw1154 dX12_go_189) (all_c (ok_stk (s_iconst dX12_go_192 (by decide))) (all_c (ok_stk (s_iadd dX12_go_193)) (all_c (okp_X12_5 kw1154 dX12_go_194) (all_c (ok_vret dX12_go_197) (all_c (ok_iload_n dX12_go_198 rfl) (all_c (okc_X12_isLetter (by decide) kw1158 dX12_go_199) (all_c (ok_istore_n dX12_go_202 rfl (by decide)) (all_c (ok_stk (s_iconst dX12_go_203 (by decide))) (all_c (ok_istore_n dX12_go_204 rfl (by decide)) (all_c (ok_aload_n dX12_go_205 rfl) (all_c (ok_stk (s_lconst dX12_go_206 (by decide))) (all_c (okp_X12_12 kw1163 dX12_go_207) (all_c (ok_aload_n dX12_go_210 rfl) (all_c (ok_stk (s_iconst dX12_go_211 (by decide))) (all_c (okp_X12_8 kw1164 dX12_go_212) (all_c (ok_aload_n dX12_go_215 rfl) (all_c (ok_aload_n dX12_go_216 rfl) (all_c (okg_X12_5 kw1154 dX12_go_217) (all_c (okc_X12_tapeAt (by decide) kw1168 dX12_go_220) (all_c (okc_X12_isLetter (by decide) kw1158 dX12_go_223) (all_c (ok_if_ne dX12_go_226 (by decide)) (all_c (ok_aload_n dX12_go_229 rfl) (all_c (ok_aload_n dX12_go_230 rfl) (all_c (okg_X12_5 kw1154 dX12_go_231) (all_c (okc_X12_tapeAt (by decide) kw1168 dX12_go_234) (all_c (okc_X12_isDigit (by decide) kw1161 dX12_go_237) (all_c (ok_if_eq dX12_go_240 (by decide)) (all_c (ok_aload_n dX12_go_243 rfl) (all_c (okg_X12_1 kw1153 dX12_go_244) (all_c (ok_aload_n dX12_go_247 rfl) (all_c (okg_X12_5 kw1154 dX12_go_248) (all_c (ok_iald dX12_go_251) (all_c (ok_istore dX12_go_252 (by decide)) (all_c (ok_iload_n dX12_go_254 rfl) (all_c (ok_if_eq dX12_go_255 (by decide)) (all_c (ok_iload dX12_go_258) (all_c (okc_X12_isLetter (by decide) kw1158 dX12_go_260) (all_c (ok_iload_n dX12_go_263 rfl) (all_c (ok_icmp_ne dX12_go_264 (by decide)) (all_c (ok_stk (s_iconst dX12_go_267 (by decide))) (all_c (ok_goto dX12_go_268 (by decide)) (all_c (ok_stk (s_iconst dX12_go_271 (by decide))) (all_c (ok_istore_n dX12_go_272 rfl (by decide)) (all_c (ok_aload_n dX12_go_273 rfl) (all_c (okg_X12_5 kw1154 dX12_go_274) (all_c (ok_aload_n dX12_go_277 rfl) (all_c (okg_X12_6 kw1150 dX12_go_278) (all_c (ok_stk (s_isub dX12_go_281)) (all_c (ok_stk (s_bipush dX12_go_282 (by decide))) (all_c (ok_icmp_ge dX12_go_284 (by decide)) (all_c (ok_aload_n dX12_go_287 rfl) (all_c (ok_ldc2 kw1169 dX12_go_288) (all_c (ok_aload_n dX12_go_291 rfl) (all_c (okg_X12_12 kw1163 dX12_go_292) (all_c (ok_stk (s_lmul dX12_go_295)) (all_c (ok_iload dX12_go_296) (all_c (ok_stk (s_i2l dX12_go_298)) (all_c (ok_stk (s_ladd dX12_go_299)) (all_c (ok_ldc2 kw1170 dX12_go_300) (all_c (ok_stk (s_lsub dX12_go_303)) (all_c (okp_X12_12 kw1163 dX12_go_304) (all_c (ok_aload_n dX12_go_307 rfl) (all_c (okg_X12_5 kw1154 dX12_go_308) (all_c (ok_aload_n dX12_go_311 rfl) (all_c (okg_X12_6 kw1150 dX12_go_312) (all_c (ok_stk (s_isub dX12_go_315)) (all_c (ok_stk (s_iconst dX12_go_316 (by decide))) (all_c (ok_icmp_ge dX12_go_317 (by decide)) (all_c (ok_aload_n dX12_go_320 rfl) (all_c (ok_stk (s_bipush dX12_go_321 (by decide))) (all_c (ok_aload_n dX12_go_323 rfl) (all_c (okg_X12_8 kw1164 dX12_go_324) (all_c (ok_stk (s_imul dX12_go_327)) (all_c (ok_iload dX12_go_328) (all_c (ok_stk (s_iadd dX12_go_330)) (all_c (ok_stk (s_bipush dX12_go_331 (by decide))) (all_c (ok_stk (s_isub dX12_go_333)) (all_c (okp_X12_8 kw1164 dX12_go_334) (all_c (ok_aload_n dX12_go_337 rfl) (all_c (ok_stk (s_dup dX12_go_338)) (all_c (okg_X12_5 kw1154 dX12_go_339) (all_c (ok_stk (s_iconst dX12_go_342 (by decide))) (all_c (ok_stk (s_iadd dX12_go_343)) (all_c (okp_X12_5 kw1154 dX12_go_344) (all_c (ok_goto dX12_go_347 (by decide)) (all_c (ok_aload_n dX12_go_350 rfl) (all_c (ok_iload_n dX12_go_351 rfl) (all_c (ok_if_eq dX12_go_352 (by decide)) (all_c (ok_aload_n dX12_go_355 rfl) (all_c (okg_X12_5 kw1154 dX12_go_356) (all_c (ok_aload_n dX12_go_359 rfl) (all_c (okg_X12_6 kw1150 dX12_go_360) (all_c (ok_stk (s_isub dX12_go_363)) (all_c (ok_iload_n dX12_go_364 rfl) (all_c (ok_if_eq dX12_go_365 (by decide)) (all_c (ok_stk (s_bipush dX12_go_368 (by decide))) (all_c (ok_goto dX12_go_370 (by decide)) (all_c (ok_stk (s_iconst dX12_go_373 (by decide))) (all_c (ok_icmp_le dX12_go_374 (by decide)) (all_c (ok_stk (s_iconst dX12_go_377 (by decide))) (all_c (ok_goto dX12_go_378 (by decide)) (all_c (ok_iload_n dX12_go_381 rfl) (all_c (ok_if_eq dX12_go_382 (by decide)) (all_c (ok_stk (s_iconst dX12_go_385 (by decide))) (all_c (ok_goto dX12_go_386 (by decide)) (all_c (ok_stk (s_iconst dX12_go_389 (by decide))) (all_c (okp_X12_7 kw1148 dX12_go_390) (all_c (ok_vret dX12_go_393) all_n)))))))))))))))))))))))))))))))))))))))))))))))))))))))))))))))))))))))))))))))))))))))))))))))))))))))))))))))))))))))))))))))))))))))))))))))))))))))))))))))))))))))))))))))))))))))))))))))))))))))))))))) n (fun h => by first | rfl | cases h))
theorem dX12_take_0 : decode cX12_take 0 = .ok (.aload_n 0, 1) := by decide +kernel
theorem dX12_take_1 : decode cX12_take 1 = .ok (.getfield 11, 3) := by decide +kernel
theorem dX12_take_4 : decode cX12_take 4 = .ok (.istore_n 1, 1) := by decide +kernel
theorem dX12_take_5 : decode cX12_take 5 = .ok (.aload_n 0, 1) := by decide +kernel
theorem dX12_take_6 : decode cX12_take 6 = .ok (.iconst 0, 1) := by decide +kernel
theorem dX12_take_7 : decode cX12_take 7 = .ok (.putfield 11, 3) := by decide +kernel
theorem dX12_take_10 : decode cX12_take 10 = .ok (.iload_n 1, 1) := by decide +kernel
theorem dX12_take_11 : decode cX12_take 11 = .ok (.ireturn, 1) := by decide +kernel
def tX12_take (kn : sKn) : List (Nat × sA) := [(0, a_aload 0 1), (1, a_get 13 2 4), (4, a_istore 1 5), (5, a_aload 0 6), (6, a_stk (q_int 0) 7), (7, a_put 13 2 ckI 10), (10, a_iload 1 11), (11, a_iret)]
def fX12_take (kn : sKn) : List Value → sW → Option sR := fW (tX12_take kn) 2
set_option maxRecDepth 100000 in
set_option maxHeartbeats 4000000 in
theorem mX12_take (kn : sKn) : mM kn yX12_take (Cond.code yX12_take cX12_take 2 (some .int) :: wsL_law) 1 false (fX12_take kn) := mM_W (fun n => mM_of (own := RX12) (ini := false) rfl (by decide +kernel) (by decide +kernel) (all_c (ok_aload_n dX12_take_0 rfl) (all_c (okg_X12_2 kw1171 dX12_take_1) (all_c (ok_istore_n dX12_take_4 rfl (by decide)) (all_c (ok_aload_n dX12_take_5 rfl) (all_c (ok_stk (s_iconst dX12_take_6 (by decide))) (all_c (okp_X12_2 kw1171 dX12_take_7) (all_c (ok_iload_n dX12_take_10 rfl) (all_c (ok_iret dX12_take_11) all_n)))))))) n (fun h => by first | rfl | cases h))
theorem dX12_begin_0 : decode cX12_begin 0 = .ok (.aload_n 0, 1) := by decide +kernel
theorem dX12_begin_1 : decode cX12_begin 1 = .ok (.iconst 0, 1) := by decide +kernel
theorem dX12_begin_2 : decode cX12_begin 2 = .ok (.putfield 1, 3) := by decide +kernel
theorem dX12_begin_5 : decode cX12_begin 5 = .ok (.aload_n 0, 1) := by decide +kernel
theorem dX12_begin_6 : decode cX12_begin 6 = .ok (.aload_n 0, 1) := by decide +kernel
theorem dX12_begin_7 : decode cX12_begin 7 = .ok (.invokevirtual 89, 3) := by decide +kernel
theorem dX12_begin_10 : decode cX12_begin 10 = .ok (.putfield 18, 3) := by decide +kernel
theorem dX12_begin_13 : decode cX12_begin 13 = .ok (.aload_n 0, 1) := by decide +kernel
theorem dX12_begin_14 : decode cX12_begin 14 = .ok (.iload_n 1, 1) := by decide +kernel
theorem dX12_begin_15 : decode cX12_begin 15 = .ok (.putfield 27, 3) := by decide +kernel
theorem dX12_begin_18 : decode cX12_begin 18 = .ok (.aload_n 0, 1) := by decide +kernel
theorem dX12_begin_19 : decode cX12_begin 19 = .ok (.iconst 0, 1) := by decide +kernel
theorem dX12_begin_20 : decode cX12_begin 20 = .ok (.putfield 66, 3) := by decide +kernel
theorem dX12_begin_23 : decode cX12_begin 23 = .ok (.aload_n 0, 1) := by decide +kernel
theorem dX12_begin_24 : decode cX12_begin 24 = .ok (.iconst 0, 1) := by decide +kernel
theorem dX12_begin_25 : decode cX12_begin 25 = .ok (.putfield 21, 3) := by decide +kernel
theorem dX12_begin_28 : decode cX12_begin 28 = .ok (.aload_n 0, 1) := by decide +kernel
theorem dX12_begin_29 : decode cX12_begin 29 = .ok (.invokevirtual 82, 3) := by decide +kernel
theorem dX12_begin_32 : decode cX12_begin 32 = .ok (.return_, 1) := by decide +kernel
theorem okc_X12_take {kn : sKn} {cc : ByteArray} {own : String} {nL : Nat} {D : Nat} {ret : Option FieldType} {ini : Bool} {pc index : Nat} (hD : 1 + 1 ≤ D) (hl : Cond.methodLink own index yX12_take ∈ wsL_law) (hd : decode cc pc = .ok (.invokevirtual index, 3)) : mOk kn cc own nL wsL_law D ret ini pc (a_callV false (fX12_take kn) 13 (0 + 1) (pc + 3)) := ok_callV (mX12_take kn) (good_ws ws_good (fun _ h => h) kw1172) hD (by decide) hl kw1173 kw1174 kw1072 ⟨by decide +kernel, by decide +kernel, by decide +kernel⟩ rfl hd
theorem okc_X12_go {kn : sKn} {cc : ByteArray} {own : String} {nL : Nat} {D : Nat} {ret : Option FieldType} {ini : Bool} {pc index : Nat} (hD : 2 + 1 ≤ D) (hl : Cond.methodLink own index yX12_go ∈ wsL_law) (hd : decode cc pc = .ok (.invokevirtual index, 3)) : mOk kn cc own nL wsL_law D ret ini pc (a_callV true (fX12_go kn) 13 (0 + 1) (pc + 3)) := ok_callV (mX12_go kn) (good_ws ws_good (fun _ h => h) kw1176) hD (by decide) hl kw1177 kw1178 kw1072 ⟨by decide +kernel, by decide +kernel, by decide +kernel⟩ rfl hd
def tX12_begin (kn : sKn) : List (Nat × sA) := [(0, a_aload 0 1), (1, a_stk (q_int 0) 2), (2, a_put 13 0 ckI 5), (5, a_aload 0 6), (6, a_aload 0 7), (7, a_callV false (fX12_take kn) 13 1 10), (10, a_put 13 3 ckI 13), (13, a_aload 0 14), (14, a_iload 1 15), (15, a_put 13 4 ckI 18), (18, a_aload 0 19), (19, a_stk (q_int 0) 20), (20, a_put 13 10 ckI 23), (23, a_aload 0 24), (24, a_stk (q_int 0) 25), (25, a_put 13 5 ckI 28), (28, a_aload 0 29), (29, a_callV true (fX12_go kn) 13 1 32), (32, a_vret)]
def fX12_begin (kn : sKn) : List Value → sW → Option sR := fW (tX12_begin kn) 2
set_option maxRecDepth 100000 in
set_option maxHeartbeats 4000000 in
theorem mX12_begin (kn : sKn) : mM kn yX12_begin (Cond.code yX12_begin cX12_begin 2 none :: wsL_law) 3 true (fX12_begin kn) := mM_W (fun n => mM_of (own := RX12) (ini := false) rfl (by decide +kernel) (by decide +kernel) (all_c (ok_aload_n dX12_begin_0 rfl) (all_c (ok_stk (s_iconst dX12_begin_1 (by decide))) (all_c (okp_X12_0 kw1114 dX12_begin_2) (all_c (ok_aload_n dX12_begin_5 rfl) (all_c (ok_aload_n dX12_begin_6 rfl) (all_c (okc_X12_take (by decide) kw1175 dX12_begin_7) (all_c (okp_X12_3 kw1152 dX12_begin_10) (all_c (ok_aload_n dX12_begin_13 rfl) (all_c (ok_iload_n dX12_begin_14 rfl) (all_c (okp_X12_4 kw1155 dX12_begin_15) (all_c (ok_aload_n dX12_begin_18 rfl) (all_c (ok_stk (s_iconst dX12_begin_19 (by decide))) (all_c (okp_X12_10 kw1149 dX12_begin_20) (all_c (ok_aload_n dX12_begin_23 rfl) (all_c (ok_stk (s_iconst dX12_begin_24 (by decide))) (all_c (okp_X12_5 kw1154 dX12_begin_25) (all_c (ok_aload_n dX12_begin_28 rfl) (all_c (okc_X12_go (by decide) kw1179 dX12_begin_29) (all_c (ok_vret dX12_begin_32) all_n))))))))))))))))))) n (fun h => by first | rfl | cases h))
theorem dX12_bits_0 : decode cX12_bits 0 = .ok (.iconst 0, 1) := by decide +kernel
theorem dX12_bits_1 : decode cX12_bits 1 = .ok (.istore_n 1, 1) := by decide +kernel
theorem dX12_bits_2 : decode cX12_bits 2 = .ok (.iload_n 0, 1) := by decide +kernel
theorem dX12_bits_3 : decode cX12_bits 3 = .ok (.istore_n 2, 1) := by decide +kernel
theorem dX12_bits_4 : decode cX12_bits 4 = .ok (.iload_n 2, 1) := by decide +kernel
theorem dX12_bits_5 : decode cX12_bits 5 = .ok (.ifCond .eq 15, 3) := by decide +kernel
theorem dX12_bits_8 : decode cX12_bits 8 = .ok (.iinc 1 1, 3) := by decide +kernel
theorem dX12_bits_11 : decode cX12_bits 11 = .ok (.iload_n 2, 1) := by decide +kernel
theorem dX12_bits_12 : decode cX12_bits 12 = .ok (.iload_n 2, 1) := by decide +kernel
theorem dX12_bits_13 : decode cX12_bits 13 = .ok (.iconst 1, 1) := by decide +kernel
theorem dX12_bits_14 : decode cX12_bits 14 = .ok (.isub, 1) := by decide +kernel
theorem dX12_bits_15 : decode cX12_bits 15 = .ok (.iand, 1) := by decide +kernel
theorem dX12_bits_16 : decode cX12_bits 16 = .ok (.istore_n 2, 1) := by decide +kernel
theorem dX12_bits_17 : decode cX12_bits 17 = .ok (.goto (-13), 3) := by decide +kernel
theorem dX12_bits_20 : decode cX12_bits 20 = .ok (.iload_n 1, 1) := by decide +kernel
theorem dX12_bits_21 : decode cX12_bits 21 = .ok (.ireturn, 1) := by decide +kernel
def tX12_bits (kn : sKn) : List (Nat × sA) := [(0, a_stk (q_int 0) 1), (1, a_istore 1 2), (2, a_iload 0 3), (3, a_istore 2 4), (4, a_iload 2 5), (5, a_if kn b_eq 0 20 8), (8, a_iinc 1 1 11), (11, a_iload 2 12), (12, a_iload 2 13), (13, a_stk (q_int 1) 14), (14, a_stk q_isub 15), (15, a_stk q_iand 16), (16, a_istore 2 17), (17, a_goto 4), (20, a_iload 1 21), (21, a_iret)]
def fX12_bits (kn : sKn) : List Value → sW → Option sR := fW (tX12_bits kn) 3
set_option maxRecDepth 100000 in
set_option maxHeartbeats 4000000 in
theorem mX12_bits (kn : sKn) : mM kn yX12_bits (Cond.code yX12_bits cX12_bits 3 (some .int) :: wsL_law) 1 false (fX12_bits kn) := mM_W (fun n => mM_of (own := RX12) (ini := false) rfl (by decide +kernel) (by decide +kernel) (all_c (ok_stk (s_iconst dX12_bits_0 (by decide))) (all_c (ok_istore_n dX12_bits_1 rfl (by decide)) (all_c (ok_iload_n dX12_bits_2 rfl) (all_c (ok_istore_n dX12_bits_3 rfl (by decide)) (all_c (ok_iload_n dX12_bits_4 rfl) (all_c (ok_if_eq dX12_bits_5 (by decide)) (all_c (ok_iinc dX12_bits_8 (by decide) (by decide)) (all_c (ok_iload_n dX12_bits_11 rfl) (all_c (ok_iload_n dX12_bits_12 rfl) (all_c (ok_stk (s_iconst dX12_bits_13 (by decide))) (all_c (ok_stk (s_isub dX12_bits_14)) (all_c (ok_stk (s_iand dX12_bits_15)) (all_c (ok_istore_n dX12_bits_16 rfl (by decide)) (all_c (ok_goto dX12_bits_17 (by decide)) (all_c (ok_iload_n dX12_bits_20 rfl) (all_c (ok_iret dX12_bits_21) all_n)))))))))))))))) n (fun h => by first | rfl | cases h))
theorem dX12_layAside_0 : decode cX12_layAside 0 = .ok (.iconst 0, 1) := by decide +kernel
theorem dX12_layAside_1 : decode cX12_layAside 1 = .ok (.istore_n 1, 1) := by decide +kernel
theorem dX12_layAside_2 : decode cX12_layAside 2 = .ok (.iload_n 1, 1) := by decide +kernel
theorem dX12_layAside_3 : decode cX12_layAside 3 = .ok (.bipush 102, 2) := by decide +kernel
theorem dX12_layAside_5 : decode cX12_layAside 5 = .ok (.if_icmp .ge 24, 3) := by decide +kernel
theorem dX12_layAside_8 : decode cX12_layAside 8 = .ok (.aload_n 0, 1) := by decide +kernel
theorem dX12_layAside_9 : decode cX12_layAside 9 = .ok (.getfield 110, 3) := by decide +kernel
theorem dX12_layAside_12 : decode cX12_layAside 12 = .ok (.iload_n 1, 1) := by decide +kernel
theorem dX12_layAside_13 : decode cX12_layAside 13 = .ok (.aload_n 0, 1) := by decide +kernel
theorem dX12_layAside_14 : decode cX12_layAside 14 = .ok (.getfield 98, 3) := by decide +kernel
theorem dX12_layAside_17 : decode cX12_layAside 17 = .ok (.bipush 94, 2) := by decide +kernel
theorem dX12_layAside_19 : decode cX12_layAside 19 = .ok (.iload_n 1, 1) := by decide +kernel
theorem dX12_layAside_20 : decode cX12_layAside 20 = .ok (.iadd, 1) := by decide +kernel
theorem dX12_layAside_21 : decode cX12_layAside 21 = .ok (.iaload, 1) := by decide +kernel
theorem dX12_layAside_22 : decode cX12_layAside 22 = .ok (.iastore, 1) := by decide +kernel
theorem dX12_layAside_23 : decode cX12_layAside 23 = .ok (.iinc 1 1, 3) := by decide +kernel
theorem dX12_layAside_26 : decode cX12_layAside 26 = .ok (.goto (-24), 3) := by decide +kernel
theorem dX12_layAside_29 : decode cX12_layAside 29 = .ok (.return_, 1) := by decide +kernel
def tX12_layAside (kn : sKn) : List (Nat × sA) := [(0, a_stk (q_int 0) 1), (1, a_istore 1 2), (2, a_iload 1 3), (3, a_stk (q_int 102) 5), (5, a_icmp kn b_ge 3 29 8), (8, a_aload 0 9), (9, a_get 13 18 12), (12, a_iload 1 13), (13, a_aload 0 14), (14, a_get 13 14 17), (17, a_stk (q_int 94) 19), (19, a_iload 1 20), (20, a_stk q_iadd 21), (21, a_iald 22), (22, a_iast 23), (23, a_iinc 1 1 26), (26, a_goto 2), (29, a_vret)]
def fX12_layAside (kn : sKn) : List Value → sW → Option sR := fW (tX12_layAside kn) 2
set_option maxRecDepth 100000 in
set_option maxHeartbeats 4000000 in
theorem mX12_layAside (kn : sKn) : mM kn yX12_layAside (Cond.code yX12_layAside cX12_layAside 2 none :: wsL_law) 1 true (fX12_layAside kn) := mM_W (fun n => mM_of (own := RX12) (ini := false) rfl (by decide +kernel) (by decide +kernel) (all_c (ok_stk (s_iconst dX12_layAside_0 (by decide))) (all_c (ok_istore_n dX12_layAside_1 rfl (by decide)) (all_c (ok_iload_n dX12_layAside_2 rfl) (all_c (ok_stk (s_bipush dX12_layAside_3 (by decide))) (all_c (ok_icmp_ge dX12_layAside_5 (by decide)) (all_c (ok_aload_n dX12_layAside_8 rfl) (all_c (okg_X12_18 kw1180 dX12_layAside_9) (all_c (ok_iload_n dX12_layAside_12 rfl) (all_c (ok_aload_n dX12_layAside_13 rfl) (all_c (okg_X12_14 kw1069 dX12_layAside_14) (all_c (ok_stk (s_bipush dX12_layAside_17 (by decide))) (all_c (ok_iload_n dX12_layAside_19 rfl) (all_c (ok_stk (s_iadd dX12_layAside_20)) (all_c (ok_iald dX12_layAside_21) (all_c (ok_iast dX12_layAside_22) (all_c (ok_iinc dX12_layAside_23 (by decide) (by decide)) (all_c (ok_goto dX12_layAside_26 (by decide)) (all_c (ok_vret dX12_layAside_29) all_n)))))))))))))))))) n (fun h => by first | rfl | cases h))
theorem dX12_open_0 : decode cX12_open 0 = .ok (.aload_n 0, 1) := by decide +kernel
theorem dX12_open_1 : decode cX12_open 1 = .ok (.getfield 98, 3) := by decide +kernel
theorem dX12_open_4 : decode cX12_open 4 = .ok (.bipush 118, 2) := by decide +kernel
theorem dX12_open_6 : decode cX12_open 6 = .ok (.iload_n 1, 1) := by decide +kernel
theorem dX12_open_7 : decode cX12_open 7 = .ok (.iadd, 1) := by decide +kernel
theorem dX12_open_8 : decode cX12_open 8 = .ok (.iconst (-1), 1) := by decide +kernel
theorem dX12_open_9 : decode cX12_open 9 = .ok (.iastore, 1) := by decide +kernel
theorem dX12_open_10 : decode cX12_open 10 = .ok (.aload_n 0, 1) := by decide +kernel
theorem dX12_open_11 : decode cX12_open 11 = .ok (.getfield 98, 3) := by decide +kernel
theorem dX12_open_14 : decode cX12_open 14 = .ok (.sipush 154, 3) := by decide +kernel
theorem dX12_open_17 : decode cX12_open 17 = .ok (.iload_n 1, 1) := by decide +kernel
theorem dX12_open_18 : decode cX12_open 18 = .ok (.iadd, 1) := by decide +kernel
theorem dX12_open_19 : decode cX12_open 19 = .ok (.iconst 0, 1) := by decide +kernel
theorem dX12_open_20 : decode cX12_open 20 = .ok (.iastore, 1) := by decide +kernel
theorem dX12_open_21 : decode cX12_open 21 = .ok (.return_, 1) := by decide +kernel
def tX12_open (kn : sKn) : List (Nat × sA) := [(0, a_aload 0 1), (1, a_get 13 14 4), (4, a_stk (q_int 118) 6), (6, a_iload 1 7), (7, a_stk q_iadd 8), (8, a_stk (q_int (-1)) 9), (9, a_iast 10), (10, a_aload 0 11), (11, a_get 13 14 14), (14, a_stk (q_int 154) 17), (17, a_iload 1 18), (18, a_stk q_iadd 19), (19, a_stk (q_int 0) 20), (20, a_iast 21), (21, a_vret)]
def fX12_open (kn : sKn) : List Value → sW → Option sR := fW (tX12_open kn) 2
set_option maxRecDepth 100000 in
set_option maxHeartbeats 4000000 in
theorem mX12_open (kn : sKn) : mM kn yX12_open (Cond.code yX12_open cX12_open 2 none :: wsL_law) 1 true (fX12_open kn) := mM_W (fun n => mM_of (own := RX12) (ini := false) rfl (by decide +kernel) (by decide +kernel) (all_c (ok_aload_n dX12_open_0 rfl) (all_c (okg_X12_14 kw1069 dX12_open_1) (all_c (ok_stk (s_bipush dX12_open_4 (by decide))) (all_c (ok_iload_n dX12_open_6 rfl) (all_c (ok_stk (s_iadd dX12_open_7)) (all_c (ok_stk (s_iconst dX12_open_8 (by decide))) (all_c (ok_iast dX12_open_9) (all_c (ok_aload_n dX12_open_10 rfl) (all_c (okg_X12_14 kw1069 dX12_open_11) (all_c (ok_stk (s_sipush dX12_open_14 (by decide))) (all_c (ok_iload_n dX12_open_17 rfl) (all_c (ok_stk (s_iadd dX12_open_18)) (all_c (ok_stk (s_iconst dX12_open_19 (by decide))) (all_c (ok_iast dX12_open_20) (all_c (ok_vret dX12_open_21) all_n))))))))))))))) n (fun h => by first | rfl | cases h))
theorem dX12_singe_0 : decode cX12_singe 0 = .ok (.aload_n 0, 1) := by decide +kernel
theorem dX12_singe_1 : decode cX12_singe 1 = .ok (.getfield 98, 3) := by decide +kernel
theorem dX12_singe_4 : decode cX12_singe 4 = .ok (.bipush 118, 2) := by decide +kernel
theorem dX12_singe_6 : decode cX12_singe 6 = .ok (.iload_n 1, 1) := by decide +kernel
theorem dX12_singe_7 : decode cX12_singe 7 = .ok (.iadd, 1) := by decide +kernel
theorem dX12_singe_8 : decode cX12_singe 8 = .ok (.iaload, 1) := by decide +kernel
theorem dX12_singe_9 : decode cX12_singe 9 = .ok (.iconst (-1), 1) := by decide +kernel
theorem dX12_singe_10 : decode cX12_singe 10 = .ok (.if_icmp .eq 29, 3) := by decide +kernel
theorem dX12_singe_13 : decode cX12_singe 13 = .ok (.aload_n 0, 1) := by decide +kernel
theorem dX12_singe_14 : decode cX12_singe 14 = .ok (.getfield 98, 3) := by decide +kernel
theorem dX12_singe_17 : decode cX12_singe 17 = .ok (.sipush 154, 3) := by decide +kernel
theorem dX12_singe_20 : decode cX12_singe 20 = .ok (.iload_n 1, 1) := by decide +kernel
theorem dX12_singe_21 : decode cX12_singe 21 = .ok (.iadd, 1) := by decide +kernel
theorem dX12_singe_22 : decode cX12_singe 22 = .ok (.iconst 3, 1) := by decide +kernel
theorem dX12_singe_23 : decode cX12_singe 23 = .ok (.aload_n 0, 1) := by decide +kernel
theorem dX12_singe_24 : decode cX12_singe 24 = .ok (.getfield 98, 3) := by decide +kernel
theorem dX12_singe_27 : decode cX12_singe 27 = .ok (.sipush 154, 3) := by decide +kernel
theorem dX12_singe_30 : decode cX12_singe 30 = .ok (.iload_n 1, 1) := by decide +kernel
theorem dX12_singe_31 : decode cX12_singe 31 = .ok (.iadd, 1) := by decide +kernel
theorem dX12_singe_32 : decode cX12_singe 32 = .ok (.iaload, 1) := by decide +kernel
theorem dX12_singe_33 : decode cX12_singe 33 = .ok (.iconst 1, 1) := by decide +kernel
theorem dX12_singe_34 : decode cX12_singe 34 = .ok (.iadd, 1) := by decide +kernel
theorem dX12_singe_35 : decode cX12_singe 35 = .ok (.invokestatic 312, 3) := by decide +kernel
theorem dX12_singe_38 : decode cX12_singe 38 = .ok (.iastore, 1) := by decide +kernel
theorem dX12_singe_39 : decode cX12_singe 39 = .ok (.return_, 1) := by decide +kernel
def tX12_singe (kn : sKn) : List (Nat × sA) := [(0, a_aload 0 1), (1, a_get 13 14 4), (4, a_stk (q_int 118) 6), (6, a_iload 1 7), (7, a_stk q_iadd 8), (8, a_iald 9), (9, a_stk (q_int (-1)) 10), (10, a_icmp kn b_eq 0 39 13), (13, a_aload 0 14), (14, a_get 13 14 17), (17, a_stk (q_int 154) 20), (20, a_iload 1 21), (21, a_stk q_iadd 22), (22, a_stk (q_int 3) 23), (23, a_aload 0 24), (24, a_get 13 14 27), (27, a_stk (q_int 154) 30), (30, a_iload 1 31), (31, a_stk q_iadd 32), (32, a_iald 33), (33, a_stk (q_int 1) 34), (34, a_stk q_iadd 35), (35, a_callS false (fX12_least kn) 2 38), (38, a_iast 39), (39, a_vret)]
def fX12_singe (kn : sKn) : List Value → sW → Option sR := fW (tX12_singe kn) 2
set_option maxRecDepth 100000 in
set_option maxHeartbeats 4000000 in
theorem mX12_singe (kn : sKn) : mM kn yX12_singe (Cond.code yX12_singe cX12_singe 2 none :: wsL_law) 2 true (fX12_singe kn) := mM_W (fun n => mM_of (own := RX12) (ini := false) rfl (by decide +kernel) (by decide +kernel) (all_c (ok_aload_n dX12_singe_0 rfl) (all_c (okg_X12_14 kw1069 dX12_singe_1) (all_c (ok_stk (s_bipush dX12_singe_4 (by decide))) (all_c (ok_iload_n dX12_singe_6 rfl) (all_c (ok_stk (s_iadd dX12_singe_7)) (all_c (ok_iald dX12_singe_8) (all_c (ok_stk (s_iconst dX12_singe_9 (by decide))) (all_c (ok_icmp_eq dX12_singe_10 (by decide)) (all_c (ok_aload_n dX12_singe_13 rfl) (all_c (okg_X12_14 kw1069 dX12_singe_14) (all_c (ok_stk (s_sipush dX12_singe_17 (by decide))) (all_c (ok_iload_n dX12_singe_20 rfl) (all_c (ok_stk (s_iadd dX12_singe_21)) (all_c (ok_stk (s_iconst dX12_singe_22 (by decide))) (all_c (ok_aload_n dX12_singe_23 rfl) (all_c (okg_X12_14 kw1069 dX12_singe_24) (all_c (ok_stk (s_sipush dX12_singe_27 (by decide))) (all_c (ok_iload_n dX12_singe_30 rfl) (all_c (ok_stk (s_iadd dX12_singe_31)) (all_c (ok_iald dX12_singe_32) (all_c (ok_stk (s_iconst dX12_singe_33 (by decide))) (all_c (ok_stk (s_iadd dX12_singe_34)) (all_c (okc_X12_least (by decide) kw1101 dX12_singe_35) (all_c (ok_iast dX12_singe_38) (all_c (ok_vret dX12_singe_39) all_n))))))))))))))))))))))))) n (fun h => by first | rfl | cases h))
theorem dX12_doBurn_0 : decode cX12_doBurn 0 = .ok (.aload_n 0, 1) := by decide +kernel
theorem dX12_doBurn_1 : decode cX12_doBurn 1 = .ok (.iload_n 1, 1) := by decide +kernel
theorem dX12_doBurn_2 : decode cX12_doBurn 2 = .ok (.invokevirtual 325, 3) := by decide +kernel
theorem dX12_doBurn_5 : decode cX12_doBurn 5 = .ok (.aload_n 0, 1) := by decide +kernel
theorem dX12_doBurn_6 : decode cX12_doBurn 6 = .ok (.getfield 98, 3) := by decide +kernel
theorem dX12_doBurn_9 : decode cX12_doBurn 9 = .ok (.bipush 97, 2) := by decide +kernel
theorem dX12_doBurn_11 : decode cX12_doBurn 11 = .ok (.dup2, 1) := by decide +kernel
theorem dX12_doBurn_12 : decode cX12_doBurn 12 = .ok (.iaload, 1) := by decide +kernel
theorem dX12_doBurn_13 : decode cX12_doBurn 13 = .ok (.iconst 1, 1) := by decide +kernel
theorem dX12_doBurn_14 : decode cX12_doBurn 14 = .ok (.iadd, 1) := by decide +kernel
theorem dX12_doBurn_15 : decode cX12_doBurn 15 = .ok (.iastore, 1) := by decide +kernel
theorem dX12_doBurn_16 : decode cX12_doBurn 16 = .ok (.iload_n 1, 1) := by decide +kernel
theorem dX12_doBurn_17 : decode cX12_doBurn 17 = .ok (.iconst 3, 1) := by decide +kernel
theorem dX12_doBurn_18 : decode cX12_doBurn 18 = .ok (.irem, 1) := by decide +kernel
theorem dX12_doBurn_19 : decode cX12_doBurn 19 = .ok (.ifCond .le 10, 3) := by decide +kernel
theorem dX12_doBurn_22 : decode cX12_doBurn 22 = .ok (.aload_n 0, 1) := by decide +kernel
theorem dX12_doBurn_23 : decode cX12_doBurn 23 = .ok (.iload_n 1, 1) := by decide +kernel
theorem dX12_doBurn_24 : decode cX12_doBurn 24 = .ok (.iconst 1, 1) := by decide +kernel
theorem dX12_doBurn_25 : decode cX12_doBurn 25 = .ok (.isub, 1) := by decide +kernel
theorem dX12_doBurn_26 : decode cX12_doBurn 26 = .ok (.invokevirtual 328, 3) := by decide +kernel
theorem dX12_doBurn_29 : decode cX12_doBurn 29 = .ok (.iload_n 1, 1) := by decide +kernel
theorem dX12_doBurn_30 : decode cX12_doBurn 30 = .ok (.iconst 3, 1) := by decide +kernel
theorem dX12_doBurn_31 : decode cX12_doBurn 31 = .ok (.irem, 1) := by decide +kernel
theorem dX12_doBurn_32 : decode cX12_doBurn 32 = .ok (.iconst 2, 1) := by decide +kernel
theorem dX12_doBurn_33 : decode cX12_doBurn 33 = .ok (.if_icmp .ge 10, 3) := by decide +kernel
theorem dX12_doBurn_36 : decode cX12_doBurn 36 = .ok (.aload_n 0, 1) := by decide +kernel
theorem dX12_doBurn_37 : decode cX12_doBurn 37 = .ok (.iload_n 1, 1) := by decide +kernel
theorem dX12_doBurn_38 : decode cX12_doBurn 38 = .ok (.iconst 1, 1) := by decide +kernel
theorem dX12_doBurn_39 : decode cX12_doBurn 39 = .ok (.iadd, 1) := by decide +kernel
theorem dX12_doBurn_40 : decode cX12_doBurn 40 = .ok (.invokevirtual 328, 3) := by decide +kernel
theorem dX12_doBurn_43 : decode cX12_doBurn 43 = .ok (.return_, 1) := by decide +kernel
theorem okc_X12_open {kn : sKn} {cc : ByteArray} {own : String} {nL : Nat} {D : Nat} {ret : Option FieldType} {ini : Bool} {pc index : Nat} (hD : 1 + 1 ≤ D) (hl : Cond.methodLink own index yX12_open ∈ wsL_law) (hd : decode cc pc = .ok (.invokevirtual index, 3)) : mOk kn cc own nL wsL_law D ret ini pc (a_callV true (fX12_open kn) 13 (1 + 1) (pc + 3)) := ok_callV (mX12_open kn) (good_ws ws_good (fun _ h => h) kw1181) hD (by decide) hl kw1182 kw1183 kw1072 ⟨by decide +kernel, by decide +kernel, by decide +kernel⟩ rfl hd
theorem okc_X12_singe {kn : sKn} {cc : ByteArray} {own : String} {nL : Nat} {D : Nat} {ret : Option FieldType} {ini : Bool} {pc index : Nat} (hD : 2 + 1 ≤ D) (hl : Cond.methodLink own index yX12_singe ∈ wsL_law) (hd : decode cc pc = .ok (.invokevirtual index, 3)) : mOk kn cc own nL wsL_law D ret ini pc (a_callV true (fX12_singe kn) 13 (1 + 1) (pc + 3)) := ok_callV (mX12_singe kn) (good_ws ws_good (fun _ h => h) kw1185) hD (by decide) hl kw1186 kw1187 kw1072 ⟨by decide +kernel, by decide +kernel, by decide +kernel⟩ rfl hd
def tX12_doBurn (kn : sKn) : List (Nat × sA) := [(0, a_aload 0 1), (1, a_iload 1 2), (2, a_callV true (fX12_open kn) 13 2 5), (5, a_aload 0 6), (6, a_get 13 14 9), (9, a_stk (q_int 97) 11), (11, a_stk q_dup2 12), (12, a_iald 13), (13, a_stk (q_int 1) 14), (14, a_stk q_iadd 15), (15, a_iast 16), (16, a_iload 1 17), (17, a_stk (q_int 3) 18), (18, a_stk q_irem 19), (19, a_if kn b_le 5 29 22), (22, a_aload 0 23), (23, a_iload 1 24), (24, a_stk (q_int 1) 25), (25, a_stk q_isub 26), (26, a_callV true (fX12_singe kn) 13 2 29), (29, a_iload 1 30), (30, a_stk (q_int 3) 31), (31, a_stk q_irem 32), (32, a_stk (q_int 2) 33), (33, a_icmp kn b_ge 3 43 36), (36, a_aload 0 37), (37, a_iload 1 38), (38, a_stk (q_int 1) 39), (39, a_stk q_iadd 40), (40, a_callV true (fX12_singe kn) 13 2 43), (43, a_vret)]
def fX12_doBurn (kn : sKn) : List Value → sW → Option sR := fW (tX12_doBurn kn) 2
set_option maxRecDepth 100000 in
set_option maxHeartbeats 4000000 in
theorem mX12_doBurn (kn : sKn) : mM kn yX12_doBurn (Cond.code yX12_doBurn cX12_doBurn 2 none :: wsL_law) 3 true (fX12_doBurn kn) := mM_W (fun n => mM_of (own := RX12) (ini := false) rfl (by decide +kernel) (by decide +kernel) (all_c (ok_aload_n dX12_doBurn_0 rfl) (all_c (ok_iload_n dX12_doBurn_1 rfl) (all_c (okc_X12_open (by decide) kw1184 dX12_doBurn_2) (all_c (ok_aload_n dX12_doBurn_5 rfl) (all_c (okg_X12_14 kw1069 dX12_doBurn_6) (all_c (ok_stk (s_bipush dX12_doBurn_9 (by decide))) (all_c (ok_stk (s_dup2 dX12_doBurn_11)) (all_c (ok_iald dX12_doBurn_12) (all_c (ok_stk (s_iconst dX12_doBurn_13 (by decide))) (all_c (ok_stk (s_iadd dX12_doBurn_14)) (all_c (ok_iast dX12_doBurn_15) (all_c (ok_iload_n dX12_doBurn_16 rfl) (all_c (ok_stk (s_iconst dX12_doBurn_17 (by decide))) (all_c (ok_stk (s_irem dX12_doBurn_18)) (all_c (ok_if_le dX12_doBurn_19 (by decide)) (all_c (ok_aload_n dX12_doBurn_22 rfl) (all_c (ok_iload_n dX12_doBurn_23 rfl) (all_c (ok_stk (s_iconst dX12_doBurn_24 (by decide))) (all_c (ok_stk (s_isub dX12_doBurn_25)) (all_c (okc_X12_singe (by decide) kw1188 dX12_doBurn_26) (all_c (ok_iload_n dX12_doBurn_29 rfl) (all_c (ok_stk (s_iconst dX12_doBurn_30 (by decide))) (all_c (ok_stk (s_irem dX12_doBurn_31)) (all_c (ok_stk (s_iconst dX12_doBurn_32 (by decide))) (all_c (ok_icmp_ge dX12_doBurn_33 (by decide)) (all_c (ok_aload_n dX12_doBurn_36 rfl) (all_c (ok_iload_n dX12_doBurn_37 rfl) (all_c (ok_stk (s_iconst dX12_doBurn_38 (by decide))) (all_c (ok_stk (s_iadd dX12_doBurn_39)) (all_c (okc_X12_singe (by decide) kw1188 dX12_doBurn_40) (all_c (ok_vret dX12_doBurn_43) all_n))))))))))))))))))))))))))))))) n (fun h => by first | rfl | cases h))
theorem dX12_stuckAt_0 : decode cX12_stuckAt 0 = .ok (.bipush 15, 2) := by decide +kernel
theorem dX12_stuckAt_2 : decode cX12_stuckAt 2 = .ok (.istore_n 2, 1) := by decide +kernel
theorem dX12_stuckAt_3 : decode cX12_stuckAt 3 = .ok (.iconst 0, 1) := by decide +kernel
theorem dX12_stuckAt_4 : decode cX12_stuckAt 4 = .ok (.istore_n 3, 1) := by decide +kernel
theorem dX12_stuckAt_5 : decode cX12_stuckAt 5 = .ok (.iload_n 3, 1) := by decide +kernel
theorem dX12_stuckAt_6 : decode cX12_stuckAt 6 = .ok (.aload_n 0, 1) := by decide +kernel
theorem dX12_stuckAt_7 : decode cX12_stuckAt 7 = .ok (.getfield 98, 3) := by decide +kernel
theorem dX12_stuckAt_10 : decode cX12_stuckAt 10 = .ok (.iconst 0, 1) := by decide +kernel
theorem dX12_stuckAt_11 : decode cX12_stuckAt 11 = .ok (.iaload, 1) := by decide +kernel
theorem dX12_stuckAt_12 : decode cX12_stuckAt 12 = .ok (.if_icmp .ge 140, 3) := by decide +kernel
theorem dX12_stuckAt_15 : decode cX12_stuckAt 15 = .ok (.iconst 0, 1) := by decide +kernel
theorem dX12_stuckAt_16 : decode cX12_stuckAt 16 = .ok (.istore 4, 2) := by decide +kernel
theorem dX12_stuckAt_18 : decode cX12_stuckAt 18 = .ok (.iconst 0, 1) := by decide +kernel
theorem dX12_stuckAt_19 : decode cX12_stuckAt 19 = .ok (.istore 5, 2) := by decide +kernel
theorem dX12_stuckAt_21 : decode cX12_stuckAt 21 = .ok (.iload 5, 2) := by decide +kernel
theorem dX12_stuckAt_23 : decode cX12_stuckAt 23 = .ok (.iconst 3, 1) := by decide +kernel
theorem dX12_stuckAt_24 : decode cX12_stuckAt 24 = .ok (.if_icmp .gt 112, 3) := by decide +kernel
theorem dX12_stuckAt_27 : decode cX12_stuckAt 27 = .ok (.aload_n 0, 1) := by decide +kernel
theorem dX12_stuckAt_28 : decode cX12_stuckAt 28 = .ok (.iload_n 3, 1) := by decide +kernel
theorem dX12_stuckAt_29 : decode cX12_stuckAt 29 = .ok (.iload 5, 2) := by decide +kernel
theorem dX12_stuckAt_31 : decode cX12_stuckAt 31 = .ok (.aload_n 0, 1) := by decide +kernel
theorem dX12_stuckAt_32 : decode cX12_stuckAt 32 = .ok (.getfield 98, 3) := by decide +kernel
theorem dX12_stuckAt_35 : decode cX12_stuckAt 35 = .ok (.bipush 88, 2) := by decide +kernel
theorem dX12_stuckAt_37 : decode cX12_stuckAt 37 = .ok (.iload_n 1, 1) := by decide +kernel
theorem dX12_stuckAt_38 : decode cX12_stuckAt 38 = .ok (.iadd, 1) := by decide +kernel
theorem dX12_stuckAt_39 : decode cX12_stuckAt 39 = .ok (.iaload, 1) := by decide +kernel
theorem dX12_stuckAt_40 : decode cX12_stuckAt 40 = .ok (.aload_n 0, 1) := by decide +kernel
theorem dX12_stuckAt_41 : decode cX12_stuckAt 41 = .ok (.getfield 98, 3) := by decide +kernel
theorem dX12_stuckAt_44 : decode cX12_stuckAt 44 = .ok (.bipush 82, 2) := by decide +kernel
theorem dX12_stuckAt_46 : decode cX12_stuckAt 46 = .ok (.iload_n 1, 1) := by decide +kernel
theorem dX12_stuckAt_47 : decode cX12_stuckAt 47 = .ok (.iadd, 1) := by decide +kernel
theorem dX12_stuckAt_48 : decode cX12_stuckAt 48 = .ok (.iaload, 1) := by decide +kernel
theorem dX12_stuckAt_49 : decode cX12_stuckAt 49 = .ok (.invokevirtual 304, 3) := by decide +kernel
theorem dX12_stuckAt_52 : decode cX12_stuckAt 52 = .ok (.iconst (-1), 1) := by decide +kernel
theorem dX12_stuckAt_53 : decode cX12_stuckAt 53 = .ok (.if_icmp .ne 6, 3) := by decide +kernel
theorem dX12_stuckAt_56 : decode cX12_stuckAt 56 = .ok (.goto 74, 3) := by decide +kernel
theorem dX12_stuckAt_59 : decode cX12_stuckAt 59 = .ok (.iload_n 3, 1) := by decide +kernel
theorem dX12_stuckAt_60 : decode cX12_stuckAt 60 = .ok (.ifCond .ne 7, 3) := by decide +kernel
theorem dX12_stuckAt_63 : decode cX12_stuckAt 63 = .ok (.iconst 1, 1) := by decide +kernel
theorem dX12_stuckAt_64 : decode cX12_stuckAt 64 = .ok (.goto 4, 3) := by decide +kernel
theorem dX12_stuckAt_67 : decode cX12_stuckAt 67 = .ok (.iconst 0, 1) := by decide +kernel
theorem dX12_stuckAt_68 : decode cX12_stuckAt 68 = .ok (.istore 6, 2) := by decide +kernel
theorem dX12_stuckAt_70 : decode cX12_stuckAt 70 = .ok (.iconst 0, 1) := by decide +kernel
theorem dX12_stuckAt_71 : decode cX12_stuckAt 71 = .ok (.istore 7, 2) := by decide +kernel
theorem dX12_stuckAt_73 : decode cX12_stuckAt 73 = .ok (.iload 7, 2) := by decide +kernel
theorem dX12_stuckAt_75 : decode cX12_stuckAt 75 = .ok (.iconst 3, 1) := by decide +kernel
theorem dX12_stuckAt_76 : decode cX12_stuckAt 76 = .ok (.if_icmp .gt 40, 3) := by decide +kernel
theorem dX12_stuckAt_79 : decode cX12_stuckAt 79 = .ok (.iload 6, 2) := by decide +kernel
theorem dX12_stuckAt_81 : decode cX12_stuckAt 81 = .ok (.ifCond .ne 35, 3) := by decide +kernel
theorem dX12_stuckAt_84 : decode cX12_stuckAt 84 = .ok (.iload_n 2, 1) := by decide +kernel
theorem dX12_stuckAt_85 : decode cX12_stuckAt 85 = .ok (.iload 7, 2) := by decide +kernel
theorem dX12_stuckAt_87 : decode cX12_stuckAt 87 = .ok (.invokestatic 225, 3) := by decide +kernel
theorem dX12_stuckAt_90 : decode cX12_stuckAt 90 = .ok (.ifCond .eq 17, 3) := by decide +kernel
theorem dX12_stuckAt_93 : decode cX12_stuckAt 93 = .ok (.iload 7, 2) := by decide +kernel
theorem dX12_stuckAt_95 : decode cX12_stuckAt 95 = .ok (.iload 5, 2) := by decide +kernel
theorem dX12_stuckAt_97 : decode cX12_stuckAt 97 = .ok (.invokestatic 309, 3) := by decide +kernel
theorem dX12_stuckAt_100 : decode cX12_stuckAt 100 = .ok (.ifCond .eq 7, 3) := by decide +kernel
theorem dX12_stuckAt_103 : decode cX12_stuckAt 103 = .ok (.iconst 1, 1) := by decide +kernel
theorem dX12_stuckAt_104 : decode cX12_stuckAt 104 = .ok (.goto 4, 3) := by decide +kernel
theorem dX12_stuckAt_107 : decode cX12_stuckAt 107 = .ok (.iconst 0, 1) := by decide +kernel
theorem dX12_stuckAt_108 : decode cX12_stuckAt 108 = .ok (.istore 6, 2) := by decide +kernel
theorem dX12_stuckAt_110 : decode cX12_stuckAt 110 = .ok (.iinc 7 1, 3) := by decide +kernel
theorem dX12_stuckAt_113 : decode cX12_stuckAt 113 = .ok (.goto (-40), 3) := by decide +kernel
theorem dX12_stuckAt_116 : decode cX12_stuckAt 116 = .ok (.iload 6, 2) := by decide +kernel
theorem dX12_stuckAt_118 : decode cX12_stuckAt 118 = .ok (.ifCond .eq 12, 3) := by decide +kernel
theorem dX12_stuckAt_121 : decode cX12_stuckAt 121 = .ok (.iload 4, 2) := by decide +kernel
theorem dX12_stuckAt_123 : decode cX12_stuckAt 123 = .ok (.iconst 1, 1) := by decide +kernel
theorem dX12_stuckAt_124 : decode cX12_stuckAt 124 = .ok (.iload 5, 2) := by decide +kernel
theorem dX12_stuckAt_126 : decode cX12_stuckAt 126 = .ok (.ishl, 1) := by decide +kernel
theorem dX12_stuckAt_127 : decode cX12_stuckAt 127 = .ok (.ior, 1) := by decide +kernel
theorem dX12_stuckAt_128 : decode cX12_stuckAt 128 = .ok (.istore 4, 2) := by decide +kernel
theorem dX12_stuckAt_130 : decode cX12_stuckAt 130 = .ok (.iinc 5 1, 3) := by decide +kernel
theorem dX12_stuckAt_133 : decode cX12_stuckAt 133 = .ok (.goto (-112), 3) := by decide +kernel
theorem dX12_stuckAt_136 : decode cX12_stuckAt 136 = .ok (.iload 4, 2) := by decide +kernel
theorem dX12_stuckAt_138 : decode cX12_stuckAt 138 = .ok (.ifCond .ne 5, 3) := by decide +kernel
theorem dX12_stuckAt_141 : decode cX12_stuckAt 141 = .ok (.iload_n 3, 1) := by decide +kernel
theorem dX12_stuckAt_142 : decode cX12_stuckAt 142 = .ok (.ireturn, 1) := by decide +kernel
theorem dX12_stuckAt_143 : decode cX12_stuckAt 143 = .ok (.iload 4, 2) := by decide +kernel
theorem dX12_stuckAt_145 : decode cX12_stuckAt 145 = .ok (.istore_n 2, 1) := by decide +kernel
theorem dX12_stuckAt_146 : decode cX12_stuckAt 146 = .ok (.iinc 3 1, 3) := by decide +kernel
theorem dX12_stuckAt_149 : decode cX12_stuckAt 149 = .ok (.goto (-144), 3) := by decide +kernel
theorem dX12_stuckAt_152 : decode cX12_stuckAt 152 = .ok (.iconst (-1), 1) := by decide +kernel
theorem dX12_stuckAt_153 : decode cX12_stuckAt 153 = .ok (.ireturn, 1) := by decide +kernel
def tX12_stuckAt (kn : sKn) : List (Nat × sA) := [(0, a_stk (q_int 15) 2), (2, a_istore 2 3), (3, a_stk (q_int 0) 4), (4, a_istore 3 5), (5, a_iload 3 6), (6, a_aload 0 7), (7, a_get 13 14 10), (10, a_stk (q_int 0) 11), (11, a_iald 12), (12, a_icmp kn b_ge 3 152 15), (15, a_stk (q_int 0) 16), (16, a_istore 4 18), (18, a_stk (q_int 0) 19), (19, a_istore 5 21), (21, a_iload 5 23), (23, a_stk (q_int 3) 24), (24, a_icmp kn b_gt 4 136 27), (27, a_aload 0 28), (28, a_iload 3 29), (29, a_iload 5 31), (31, a_aload 0 32), (32, a_get 13 14 35), (35, a_stk (q_int 88) 37), (37, a_iload 1 38), (38, a_stk q_iadd 39), (39, a_iald 40), (40, a_aload 0 41), (41, a_get 13 14 44), (44, a_stk (q_int 82) 46), (46, a_iload 1 47), (47, a_stk q_iadd 48), (48, a_iald 49), (49, a_callV false (fX12_spareAt kn) 13 5 52), (52, a_stk (q_int (-1)) 53), (53, a_icmp kn b_ne 1 59 56), (56, a_goto 130), (59, a_iload 3 60), (60, a_if kn b_ne 1 67 63), (63, a_stk (q_int 1) 64), (64, a_goto 68), (67, a_stk (q_int 0) 68), (68, a_istore 6 70), (70, a_stk (q_int 0) 71), (71, a_istore 7 73), (73, a_iload 7 75), (75, a_stk (q_int 3) 76), (76, a_icmp kn b_gt 4 116 79), (79, a_iload 6 81), (81, a_if kn b_ne 1 116 84), (84, a_iload 2 85), (85, a_iload 7 87), (87, a_callS false (fX12_has kn) 2 90), (90, a_if kn b_eq 0 107 93), (93, a_iload 7 95), (95, a_iload 5 97), (97, a_callS false (fX12_follows kn) 2 100), (100, a_if kn b_eq 0 107 103), (103, a_stk (q_int 1) 104), (104, a_goto 108), (107, a_stk (q_int 0) 108), (108, a_istore 6 110), (110, a_iinc 7 1 113), (113, a_goto 73), (116, a_iload 6 118), (118, a_if kn b_eq 0 130 121), (121, a_iload 4 123), (123, a_stk (q_int 1) 124), (124, a_iload 5 126), (126, a_stk q_ishl 127), (127, a_stk q_ior 128), (128, a_istore 4 130), (130, a_iinc 5 1 133), (133, a_goto 21), (136, a_iload 4 138), (138, a_if kn b_ne 1 143 141), (141, a_iload 3 142), (142, a_iret), (143, a_iload 4 145), (145, a_istore 2 146), (146, a_iinc 3 1 149), (149, a_goto 5), (152, a_stk (q_int (-1)) 153), (153, a_iret)]
def fX12_stuckAt (kn : sKn) : List Value → sW → Option sR := fW (tX12_stuckAt kn) 8
set_option maxRecDepth 100000 in
set_option maxHeartbeats 4000000 in
theorem mX12_stuckAt (kn : sKn) : mM kn yX12_stuckAt (Cond.code yX12_stuckAt cX12_stuckAt 8 (some .int) :: wsL_law) 6 false (fX12_stuckAt kn) := mM_W (fun n => mM_of (own := RX12) (ini := false) rfl (by decide +kernel) (by decide +kernel) (all_c (ok_stk (s_bipush dX12_stuckAt_0 (by decide))) (all_c (ok_istore_n dX12_stuckAt_2 rfl (by decide)) (all_c (ok_stk (s_iconst dX12_stuckAt_3 (by decide))) (all_c (ok_istore_n dX12_stuckAt_4 rfl (by decide)) (all_c (ok_iload_n dX12_stuckAt_5 rfl) (all_c (ok_aload_n dX12_stuckAt_6 rfl) (all_c (okg_X12_14 kw1069 dX12_stuckAt_7) (all_c (ok_stk (s_iconst dX12_stuckAt_10 (by decide))) (all_c (ok_iald dX12_stuckAt_11) (all_c (ok_icmp_ge dX12_stuckAt_12 (by decide)) (all_c (ok_stk (s_iconst dX12_stuckAt_15 (by decide))) (all_c (ok_istore dX12_stuckAt_16 (by decide)) (all_c (ok_stk (s_iconst dX12_stuckAt_18 (by decide))) (all_c (ok_istore dX12_stuckAt_19 (by decide)) (all_c (ok_iload dX12_stuckAt_21) (all_c (ok_stk (s_iconst dX12_stuckAt_23 (by decide))) (all_c (ok_icmp_gt dX12_stuckAt_24 (by decide)) (all_c (ok_aload_n dX12_stuckAt_27 rfl) (all_c (ok_iload_n dX12_stuckAt_28 rfl) (all_c (ok_iload dX12_stuckAt_29) (all_c (ok_aload_n dX12_stuckAt_31 rfl) (all_c (okg_X12_14 kw1069 dX12_stuckAt_32) (all_c (ok_stk (s_bipush dX12_stuckAt_35 (by decide))) (all_c (ok_iload_n dX12_stuckAt_37 rfl) (all_c (ok_stk (s_iadd dX12_stuckAt_38)) (all_c (ok_iald dX12_stuckAt_39) (all_c (ok_aload_n dX12_stuckAt_40 rfl) (all_c (okg_X12_14 kw1069 dX12_stuckAt_41) (all_c (ok_stk (s_bipush dX12_stuckAt_44 (by decide))) (all_c (ok_iload_n dX12_stuckAt_46 rfl) (all_c (ok_stk (s_iadd dX12_stuckAt_47)) (all_c (ok_iald dX12_stuckAt_48) (all_c (okc_X12_spareAt (by decide) kw1093 dX12_stuckAt_49) (all_c (ok_stk (s_iconst dX12_stuckAt_52 (by decide))) (all_c (ok_icmp_ne dX12_stuckAt_53 (by decide)) (all_c (ok_goto dX12_stuckAt_56 (by decide)) (all_c (ok_iload_n dX12_stuckAt_59 rfl) (all_c (ok_if_ne dX12_stuckAt_60 (by decide)) (all_c (ok_stk (s_iconst dX12_stuckAt_63 (by decide))) (all_c (ok_goto dX12_stuckAt_64 (by decide)) (all_c (ok_stk (s_iconst dX12_stuckAt_67 (by decide))) (all_c (ok_istore dX12_stuckAt_68 (by decide)) (all_c (ok_stk (s_iconst dX12_stuckAt_70 (by decide))) (all_c (ok_istore dX12_stuckAt_71 (by decide)) (all_c (ok_iload dX12_stuckAt_73) (all_c (ok_stk (s_iconst dX12_stuckAt_75 (by decide))) (all_c (ok_icmp_gt dX12_stuckAt_76 (by decide)) (all_c (ok_iload dX12_stuckAt_79) (all_c (ok_if_ne dX12_stuckAt_81 (by decide)) (all_c (ok_iload_n dX12_stuckAt_84 rfl) (all_c (ok_iload dX12_stuckAt_85) (all_c (okc_X12_has (by decide) kw1077 dX12_stuckAt_87) (all_c (ok_if_eq dX12_stuckAt_90 (by decide)) (all_c (ok_iload dX12_stuckAt_93) (all_c (ok_iload dX12_stuckAt_95) (all_c (okc_X12_follows (by decide) kw1097 dX12_stuckAt_97) (all_c (ok_if_eq dX12_stuckAt_100 (by decide)) (all_c (ok_stk (s_iconst dX12_stuckAt_103 (by decide))) (all_c (ok_goto dX12_stuckAt_104 (by decide)) (all_c (ok_stk (s_iconst dX12_stuckAt_107 (by decide))) (all_c (ok_istore dX12_stuckAt_108 (by decide)) (all_c (ok_iinc dX12_stuckAt_110 (by decide) (by decide)) (all_c (ok_goto dX12_stuckAt_113 (by decide)) (all_c (ok_iload dX12_stuckAt_116) (all_c (ok_if_eq dX12_stuckAt_118 (by decide)) (all_c (ok_iload dX12_stuckAt_121) (all_c (ok_stk (s_iconst dX12_stuckAt_123 (by decide))) (all_c (ok_iload dX12_stuckAt_124) (all_c (ok_stk (s_ishl dX12_stuckAt_126)) (all_c (ok_stk (s_ior dX12_stuckAt_127)) (all_c (ok_istore dX12_stuckAt_128 (by decide)) (all_c (ok_iinc dX12_stuckAt_130 (by decide) (by decide)) (all_c (ok_goto dX12_stuckAt_133 (by decide)) (all_c (ok_iload dX12_stuckAt_136) (all_c (ok_if_ne dX12_stuckAt_138 (by decide)) (all_c (ok_iload_n dX12_stuckAt_141 rfl) (all_c (ok_iret dX12_stuckAt_142) (all_c (ok_iload dX12_stuckAt_143) (all_c (ok_istore_n dX12_stuckAt_145 rfl (by decide)) (all_c (ok_iinc dX12_stuckAt_146 (by decide) (by decide)) (all_c (ok_goto dX12_stuckAt_149 (by decide)) (all_c (ok_stk (s_iconst dX12_stuckAt_152 (by decide))) (all_c (ok_iret dX12_stuckAt_153) all_n))))))))))))))))))))))))))))))))))))))))))))))))))))))))))))))))))))))))))))))))))) n (fun h => by first | rfl | cases h))
theorem dX12_doFall_0 : decode cX12_doFall 0 = .ok (.aload_n 0, 1) := by decide +kernel
theorem dX12_doFall_1 : decode cX12_doFall 1 = .ok (.invokevirtual 292, 3) := by decide +kernel
theorem dX12_doFall_4 : decode cX12_doFall 4 = .ok (.aload_n 0, 1) := by decide +kernel
theorem dX12_doFall_5 : decode cX12_doFall 5 = .ok (.iload_n 1, 1) := by decide +kernel
theorem dX12_doFall_6 : decode cX12_doFall 6 = .ok (.invokevirtual 331, 3) := by decide +kernel
theorem dX12_doFall_9 : decode cX12_doFall 9 = .ok (.istore_n 2, 1) := by decide +kernel
theorem dX12_doFall_10 : decode cX12_doFall 10 = .ok (.aload_n 0, 1) := by decide +kernel
theorem dX12_doFall_11 : decode cX12_doFall 11 = .ok (.getfield 98, 3) := by decide +kernel
theorem dX12_doFall_14 : decode cX12_doFall 14 = .ok (.bipush 88, 2) := by decide +kernel
theorem dX12_doFall_16 : decode cX12_doFall 16 = .ok (.iload_n 1, 1) := by decide +kernel
theorem dX12_doFall_17 : decode cX12_doFall 17 = .ok (.iadd, 1) := by decide +kernel
theorem dX12_doFall_18 : decode cX12_doFall 18 = .ok (.iaload, 1) := by decide +kernel
theorem dX12_doFall_19 : decode cX12_doFall 19 = .ok (.istore_n 3, 1) := by decide +kernel
theorem dX12_doFall_20 : decode cX12_doFall 20 = .ok (.iconst (-1), 1) := by decide +kernel
theorem dX12_doFall_21 : decode cX12_doFall 21 = .ok (.istore 4, 2) := by decide +kernel
theorem dX12_doFall_23 : decode cX12_doFall 23 = .ok (.iconst 0, 1) := by decide +kernel
theorem dX12_doFall_24 : decode cX12_doFall 24 = .ok (.istore 5, 2) := by decide +kernel
theorem dX12_doFall_26 : decode cX12_doFall 26 = .ok (.iload 5, 2) := by decide +kernel
theorem dX12_doFall_28 : decode cX12_doFall 28 = .ok (.iload_n 3, 1) := by decide +kernel
theorem dX12_doFall_29 : decode cX12_doFall 29 = .ok (.iadd, 1) := by decide +kernel
theorem dX12_doFall_30 : decode cX12_doFall 30 = .ok (.iconst 3, 1) := by decide +kernel
theorem dX12_doFall_31 : decode cX12_doFall 31 = .ok (.if_icmp .gt 50, 3) := by decide +kernel
theorem dX12_doFall_34 : decode cX12_doFall 34 = .ok (.aload_n 0, 1) := by decide +kernel
theorem dX12_doFall_35 : decode cX12_doFall 35 = .ok (.iload_n 2, 1) := by decide +kernel
theorem dX12_doFall_36 : decode cX12_doFall 36 = .ok (.iload 5, 2) := by decide +kernel
theorem dX12_doFall_38 : decode cX12_doFall 38 = .ok (.iload_n 3, 1) := by decide +kernel
theorem dX12_doFall_39 : decode cX12_doFall 39 = .ok (.invokevirtual 298, 3) := by decide +kernel
theorem dX12_doFall_42 : decode cX12_doFall 42 = .ok (.iconst (-1), 1) := by decide +kernel
theorem dX12_doFall_43 : decode cX12_doFall 43 = .ok (.if_icmp .eq 32, 3) := by decide +kernel
theorem dX12_doFall_46 : decode cX12_doFall 46 = .ok (.iload 4, 2) := by decide +kernel
theorem dX12_doFall_48 : decode cX12_doFall 48 = .ok (.iconst (-1), 1) := by decide +kernel
theorem dX12_doFall_49 : decode cX12_doFall 49 = .ok (.if_icmp .eq 22, 3) := by decide +kernel
theorem dX12_doFall_52 : decode cX12_doFall 52 = .ok (.aload_n 0, 1) := by decide +kernel
theorem dX12_doFall_53 : decode cX12_doFall 53 = .ok (.iload_n 2, 1) := by decide +kernel
theorem dX12_doFall_54 : decode cX12_doFall 54 = .ok (.iload 5, 2) := by decide +kernel
theorem dX12_doFall_56 : decode cX12_doFall 56 = .ok (.iload_n 3, 1) := by decide +kernel
theorem dX12_doFall_57 : decode cX12_doFall 57 = .ok (.invokevirtual 298, 3) := by decide +kernel
theorem dX12_doFall_60 : decode cX12_doFall 60 = .ok (.aload_n 0, 1) := by decide +kernel
theorem dX12_doFall_61 : decode cX12_doFall 61 = .ok (.iload_n 2, 1) := by decide +kernel
theorem dX12_doFall_62 : decode cX12_doFall 62 = .ok (.iload 4, 2) := by decide +kernel
theorem dX12_doFall_64 : decode cX12_doFall 64 = .ok (.iload_n 3, 1) := by decide +kernel
theorem dX12_doFall_65 : decode cX12_doFall 65 = .ok (.invokevirtual 298, 3) := by decide +kernel
theorem dX12_doFall_68 : decode cX12_doFall 68 = .ok (.if_icmp .le 7, 3) := by decide +kernel
theorem dX12_doFall_71 : decode cX12_doFall 71 = .ok (.iload 5, 2) := by decide +kernel
theorem dX12_doFall_73 : decode cX12_doFall 73 = .ok (.istore 4, 2) := by decide +kernel
theorem dX12_doFall_75 : decode cX12_doFall 75 = .ok (.iinc 5 1, 3) := by decide +kernel
theorem dX12_doFall_78 : decode cX12_doFall 78 = .ok (.goto (-52), 3) := by decide +kernel
theorem dX12_doFall_81 : decode cX12_doFall 81 = .ok (.aload_n 0, 1) := by decide +kernel
theorem dX12_doFall_82 : decode cX12_doFall 82 = .ok (.getfield 98, 3) := by decide +kernel
theorem dX12_doFall_85 : decode cX12_doFall 85 = .ok (.bipush 96, 2) := by decide +kernel
theorem dX12_doFall_87 : decode cX12_doFall 87 = .ok (.dup2, 1) := by decide +kernel
theorem dX12_doFall_88 : decode cX12_doFall 88 = .ok (.iaload, 1) := by decide +kernel
theorem dX12_doFall_89 : decode cX12_doFall 89 = .ok (.iconst 1, 1) := by decide +kernel
theorem dX12_doFall_90 : decode cX12_doFall 90 = .ok (.iload_n 1, 1) := by decide +kernel
theorem dX12_doFall_91 : decode cX12_doFall 91 = .ok (.ishl, 1) := by decide +kernel
theorem dX12_doFall_92 : decode cX12_doFall 92 = .ok (.ior, 1) := by decide +kernel
theorem dX12_doFall_93 : decode cX12_doFall 93 = .ok (.iastore, 1) := by decide +kernel
theorem dX12_doFall_94 : decode cX12_doFall 94 = .ok (.iconst 0, 1) := by decide +kernel
theorem dX12_doFall_95 : decode cX12_doFall 95 = .ok (.istore 5, 2) := by decide +kernel
theorem dX12_doFall_97 : decode cX12_doFall 97 = .ok (.iload 5, 2) := by decide +kernel
theorem dX12_doFall_99 : decode cX12_doFall 99 = .ok (.iload_n 3, 1) := by decide +kernel
theorem dX12_doFall_100 : decode cX12_doFall 100 = .ok (.if_icmp .ge 28, 3) := by decide +kernel
theorem dX12_doFall_103 : decode cX12_doFall 103 = .ok (.iload 4, 2) := by decide +kernel
theorem dX12_doFall_105 : decode cX12_doFall 105 = .ok (.iconst (-1), 1) := by decide +kernel
theorem dX12_doFall_106 : decode cX12_doFall 106 = .ok (.if_icmp .eq 22, 3) := by decide +kernel
theorem dX12_doFall_109 : decode cX12_doFall 109 = .ok (.aload_n 0, 1) := by decide +kernel
theorem dX12_doFall_110 : decode cX12_doFall 110 = .ok (.iconst 3, 1) := by decide +kernel
theorem dX12_doFall_111 : decode cX12_doFall 111 = .ok (.iload_n 2, 1) := by decide +kernel
theorem dX12_doFall_112 : decode cX12_doFall 112 = .ok (.imul, 1) := by decide +kernel
theorem dX12_doFall_113 : decode cX12_doFall 113 = .ok (.iload 4, 2) := by decide +kernel
theorem dX12_doFall_115 : decode cX12_doFall 115 = .ok (.iadd, 1) := by decide +kernel
theorem dX12_doFall_116 : decode cX12_doFall 116 = .ok (.iload 5, 2) := by decide +kernel
theorem dX12_doFall_118 : decode cX12_doFall 118 = .ok (.iadd, 1) := by decide +kernel
theorem dX12_doFall_119 : decode cX12_doFall 119 = .ok (.invokevirtual 325, 3) := by decide +kernel
theorem dX12_doFall_122 : decode cX12_doFall 122 = .ok (.iinc 5 1, 3) := by decide +kernel
theorem dX12_doFall_125 : decode cX12_doFall 125 = .ok (.goto (-28), 3) := by decide +kernel
theorem dX12_doFall_128 : decode cX12_doFall 128 = .ok (.return_, 1) := by decide +kernel
theorem okc_X12_stuckAt {kn : sKn} {cc : ByteArray} {own : String} {nL : Nat} {D : Nat} {ret : Option FieldType} {ini : Bool} {pc index : Nat} (hD : 6 + 1 ≤ D) (hl : Cond.methodLink own index yX12_stuckAt ∈ wsL_law) (hd : decode cc pc = .ok (.invokevirtual index, 3)) : mOk kn cc own nL wsL_law D ret ini pc (a_callV false (fX12_stuckAt kn) 13 (1 + 1) (pc + 3)) := ok_callV (mX12_stuckAt kn) (good_ws ws_good (fun _ h => h) kw1189) hD (by decide) hl kw1190 kw1191 kw1072 ⟨by decide +kernel, by decide +kernel, by decide +kernel⟩ rfl hd
def tX12_doFall (kn : sKn) : List (Nat × sA) := [(0, a_aload 0 1), (1, a_callV true (fX12_layWhose kn) 13 1 4), (4, a_aload 0 5), (5, a_iload 1 6), (6, a_callV false (fX12_stuckAt kn) 13 2 9), (9, a_istore 2 10), (10, a_aload 0 11), (11, a_get 13 14 14), (14, a_stk (q_int 88) 16), (16, a_iload 1 17), (17, a_stk q_iadd 18), (18, a_iald 19), (19, a_istore 3 20), (20, a_stk (q_int (-1)) 21), (21, a_istore 4 23), (23, a_stk (q_int 0) 24), (24, a_istore 5 26), (26, a_iload 5 28), (28, a_iload 3 29), (29, a_stk q_iadd 30), (30, a_stk (q_int 3) 31), (31, a_icmp kn b_gt 4 81 34), (34, a_aload 0 35), (35, a_iload 2 36), (36, a_iload 5 38), (38, a_iload 3 39), (39, a_callV false (fX12_sumAt kn) 13 4 42), (42, a_stk (q_int (-1)) 43), (43, a_icmp kn b_eq 0 75 46), (46, a_iload 4 48), (48, a_stk (q_int (-1)) 49), (49, a_icmp kn b_eq 0 71 52), (52, a_aload 0 53), (53, a_iload 2 54), (54, a_iload 5 56), (56, a_iload 3 57), (57, a_callV false (fX12_sumAt kn) 13 4 60), (60, a_aload 0 61), (61, a_iload 2 62), (62, a_iload 4 64), (64, a_iload 3 65), (65, a_callV false (fX12_sumAt kn) 13 4 68), (68, a_icmp kn b_le 5 75 71), (71, a_iload 5 73), (73, a_istore 4 75), (75, a_iinc 5 1 78), (78, a_goto 26), (81, a_aload 0 82), (82, a_get 13 14 85), (85, a_stk (q_int 96) 87), (87, a_stk q_dup2 88), (88, a_iald 89), (89, a_stk (q_int 1) 90), (90, a_iload 1 91), (91, a_stk q_ishl 92), (92, a_stk q_ior 93), (93, a_iast 94), (94, a_stk (q_int 0) 95), (95, a_istore 5 97), (97, a_iload 5 99), (99, a_iload 3 100), (100, a_icmp kn b_ge 3 128 103), (103, a_iload 4 105), (105, a_stk (q_int (-1)) 106), (106, a_icmp kn b_eq 0 128 109), (109, a_aload 0 110), (110, a_stk (q_int 3) 111), (111, a_iload 2 112), (112, a_stk q_imul 113), (113, a_iload 4 115), (115, a_stk q_iadd 116), (116, a_iload 5 118), (118, a_stk q_iadd 119), (119, a_callV true (fX12_open kn) 13 2 122), (122, a_iinc 5 1 125), (125, a_goto 97), (128, a_vret)]
def fX12_doFall (kn : sKn) : List Value → sW → Option sR := fW (tX12_doFall kn) 6
set_option maxRecDepth 100000 in
set_option maxHeartbeats 4000000 in
theorem mX12_doFall (kn : sKn) : mM kn yX12_doFall (Cond.code yX12_doFall cX12_doFall 6 none :: wsL_law) 7 true (fX12_doFall kn) := mM_W (fun n => mM_of (own := RX12) (ini := false) rfl (by decide +kernel) (by decide +kernel) (all_c (ok_aload_n dX12_doFall_0 rfl) (all_c (okc_X12_layWhose (by decide) kw1118 dX12_doFall_1) (all_c (ok_aload_n dX12_doFall_4 rfl) (all_c (ok_iload_n dX12_doFall_5 rfl) (all_c (okc_X12_stuckAt (by decide) kw1192 dX12_doFall_6) (all_c (ok_istore_n dX12_doFall_9 rfl (by decide)) (all_c (ok_aload_n dX12_doFall_10 rfl) (all_c (okg_X12_14 kw1069 dX12_doFall_11) (all_c (ok_stk (s_bipush dX12_doFall_14 (by decide))) (all_c (ok_iload_n dX12_doFall_16 rfl) (all_c (ok_stk (s_iadd dX12_doFall_17)) (all_c (ok_iald dX12_doFall_18) (all_c (ok_istore_n dX12_doFall_19 rfl (by decide)) (all_c (ok_stk (s_iconst dX12_doFall_20 (by decide))) (all_c (ok_istore dX12_doFall_21 (by decide)) (all_c (ok_stk (s_iconst dX12_doFall_23 (by decide))) (all_c (ok_istore dX12_doFall_24 (by decide)) (all_c (ok_iload dX12_doFall_26) (all_c (ok_iload_n dX12_doFall_28 rfl) (all_c (ok_stk (s_iadd dX12_doFall_29)) (all_c (ok_stk (s_iconst dX12_doFall_30 (by decide))) (all_c (ok_icmp_gt dX12_doFall_31 (by decide)) (all_c (ok_aload_n dX12_doFall_34 rfl) (all_c (ok_iload_n dX12_doFall_35 rfl) (all_c (ok_iload dX12_doFall_36) (all_c (ok_iload_n dX12_doFall_38 rfl) (all_c (okc_X12_sumAt (by decide) kw1089 dX12_doFall_39) (all_c (ok_stk (s_iconst dX12_doFall_42 (by decide))) (all_c (ok_icmp_eq dX12_doFall_43 (by decide)) (all_c (ok_iload dX12_doFall_46) (all_c (ok_stk (s_iconst dX12_doFall_48 (by decide))) (all_c (ok_icmp_eq dX12_doFall_49 (by decide)) (all_c (ok_aload_n dX12_doFall_52 rfl) (all_c (ok_iload_n dX12_doFall_53 rfl) (all_c (ok_iload dX12_doFall_54) (all_c (ok_iload_n dX12_doFall_56 rfl) (all_c (okc_X12_sumAt (by decide) kw1089 dX12_doFall_57) (all_c (ok_aload_n dX12_doFall_60 rfl) (all_c (ok_iload_n dX12_doFall_61 rfl) (all_c (ok_iload dX12_doFall_62) (all_c (ok_iload_n dX12_doFall_64 rfl) (all_c (okc_X12_sumAt (by decide) kw1089 dX12_doFall_65) (all_c (ok_icmp_le dX12_doFall_68 (by decide)) (all_c (ok_iload dX12_doFall_71) (all_c (ok_istore dX12_doFall_73 (by decide)) (all_c (ok_iinc dX12_doFall_75 (by decide) (by decide)) (all_c (ok_goto dX12_doFall_78 (by decide)) (all_c (ok_aload_n dX12_doFall_81 rfl) (all_c (okg_X12_14 kw1069 dX12_doFall_82) (all_c (ok_stk (s_bipush dX12_doFall_85 (by decide))) (all_c (ok_stk (s_dup2 dX12_doFall_87)) (all_c (ok_iald dX12_doFall_88) (all_c (ok_stk (s_iconst dX12_doFall_89 (by decide))) (all_c (ok_iload_n dX12_doFall_90 rfl) (all_c (ok_stk (s_ishl dX12_doFall_91)) (all_c (ok_stk (s_ior dX12_doFall_92)) (all_c (ok_iast dX12_doFall_93) (all_c (ok_stk (s_iconst dX12_doFall_94 (by decide))) (all_c (ok_istore dX12_doFall_95 (by decide)) (all_c (ok_iload dX12_doFall_97) (all_c (ok_iload_n dX12_doFall_99 rfl) (all_c (ok_icmp_ge dX12_doFall_100 (by decide)) (all_c (ok_iload dX12_doFall_103) (all_c (ok_stk (s_iconst dX12_doFall_105 (by decide))) (all_c (ok_icmp_eq dX12_doFall_106 (by decide)) (all_c (ok_aload_n dX12_doFall_109 rfl) (all_c (ok_stk (s_iconst dX12_doFall_110 (by decide))) (all_c (ok_iload_n dX12_doFall_111 rfl) (all_c (ok_stk (s_imul dX12_doFall_112)) (all_c (ok_iload dX12_doFall_113) (all_c (ok_stk (s_iadd dX12_doFall_115)) (all_c (ok_iload dX12_doFall_116) (all_c (ok_stk (s_iadd dX12_doFall_118)) (all_c (okc_X12_open (by decide) kw1184 dX12_doFall_119) (all_c (ok_iinc dX12_doFall_122 (by decide) (by decide)) (all_c (ok_goto dX12_doFall_125 (by decide)) (all_c (ok_vret dX12_doFall_128) all_n))))))))))))))))))))))))))))))))))))))))))))))))))))))))))))))))))))))))))))) n (fun h => by first | rfl | cases h))
theorem dX12_doCross_0 : decode cX12_doCross 0 = .ok (.aload_n 0, 1) := by decide +kernel
theorem dX12_doCross_1 : decode cX12_doCross 1 = .ok (.invokevirtual 292, 3) := by decide +kernel
theorem dX12_doCross_4 : decode cX12_doCross 4 = .ok (.aload_n 0, 1) := by decide +kernel
theorem dX12_doCross_5 : decode cX12_doCross 5 = .ok (.iload_n 1, 1) := by decide +kernel
theorem dX12_doCross_6 : decode cX12_doCross 6 = .ok (.invokevirtual 334, 3) := by decide +kernel
theorem dX12_doCross_9 : decode cX12_doCross 9 = .ok (.ifCond .ne 10, 3) := by decide +kernel
theorem dX12_doCross_12 : decode cX12_doCross 12 = .ok (.aload_n 0, 1) := by decide +kernel
theorem dX12_doCross_13 : decode cX12_doCross 13 = .ok (.iload_n 1, 1) := by decide +kernel
theorem dX12_doCross_14 : decode cX12_doCross 14 = .ok (.invokevirtual 337, 3) := by decide +kernel
theorem dX12_doCross_17 : decode cX12_doCross 17 = .ok (.iconst 2, 1) := by decide +kernel
theorem dX12_doCross_18 : decode cX12_doCross 18 = .ok (.ireturn, 1) := by decide +kernel
theorem dX12_doCross_19 : decode cX12_doCross 19 = .ok (.aload_n 0, 1) := by decide +kernel
theorem dX12_doCross_20 : decode cX12_doCross 20 = .ok (.getfield 98, 3) := by decide +kernel
theorem dX12_doCross_23 : decode cX12_doCross 23 = .ok (.sipush 190, 3) := by decide +kernel
theorem dX12_doCross_26 : decode cX12_doCross 26 = .ok (.iload_n 1, 1) := by decide +kernel
theorem dX12_doCross_27 : decode cX12_doCross 27 = .ok (.iadd, 1) := by decide +kernel
theorem dX12_doCross_28 : decode cX12_doCross 28 = .ok (.dup2, 1) := by decide +kernel
theorem dX12_doCross_29 : decode cX12_doCross 29 = .ok (.iaload, 1) := by decide +kernel
theorem dX12_doCross_30 : decode cX12_doCross 30 = .ok (.iconst 1, 1) := by decide +kernel
theorem dX12_doCross_31 : decode cX12_doCross 31 = .ok (.iadd, 1) := by decide +kernel
theorem dX12_doCross_32 : decode cX12_doCross 32 = .ok (.iastore, 1) := by decide +kernel
theorem dX12_doCross_33 : decode cX12_doCross 33 = .ok (.iconst 0, 1) := by decide +kernel
theorem dX12_doCross_34 : decode cX12_doCross 34 = .ok (.ireturn, 1) := by decide +kernel
theorem okc_X12_doFall {kn : sKn} {cc : ByteArray} {own : String} {nL : Nat} {D : Nat} {ret : Option FieldType} {ini : Bool} {pc index : Nat} (hD : 7 + 1 ≤ D) (hl : Cond.methodLink own index yX12_doFall ∈ wsL_law) (hd : decode cc pc = .ok (.invokevirtual index, 3)) : mOk kn cc own nL wsL_law D ret ini pc (a_callV true (fX12_doFall kn) 13 (1 + 1) (pc + 3)) := ok_callV (mX12_doFall kn) (good_ws ws_good (fun _ h => h) kw1193) hD (by decide) hl kw1194 kw1195 kw1072 ⟨by decide +kernel, by decide +kernel, by decide +kernel⟩ rfl hd
def tX12_doCross (kn : sKn) : List (Nat × sA) := [(0, a_aload 0 1), (1, a_callV true (fX12_layWhose kn) 13 1 4), (4, a_aload 0 5), (5, a_iload 1 6), (6, a_callV false (fX12_hasPath kn) 13 2 9), (9, a_if kn b_ne 1 19 12), (12, a_aload 0 13), (13, a_iload 1 14), (14, a_callV true (fX12_doFall kn) 13 2 17), (17, a_stk (q_int 2) 18), (18, a_iret), (19, a_aload 0 20), (20, a_get 13 14 23), (23, a_stk (q_int 190) 26), (26, a_iload 1 27), (27, a_stk q_iadd 28), (28, a_stk q_dup2 29), (29, a_iald 30), (30, a_stk (q_int 1) 31), (31, a_stk q_iadd 32), (32, a_iast 33), (33, a_stk (q_int 0) 34), (34, a_iret)]
def fX12_doCross (kn : sKn) : List Value → sW → Option sR := fW (tX12_doCross kn) 2
set_option maxRecDepth 100000 in
set_option maxHeartbeats 4000000 in
theorem mX12_doCross (kn : sKn) : mM kn yX12_doCross (Cond.code yX12_doCross cX12_doCross 2 (some .int) :: wsL_law) 9 false (fX12_doCross kn) := mM_W (fun n => mM_of (own := RX12) (ini := false) rfl (by decide +kernel) (by decide +kernel) (all_c (ok_aload_n dX12_doCross_0 rfl) (all_c (okc_X12_layWhose (by decide) kw1118 dX12_doCross_1) (all_c (ok_aload_n dX12_doCross_4 rfl) (all_c (ok_iload_n dX12_doCross_5 rfl) (all_c (okc_X12_hasPath (by decide) kw1113 dX12_doCross_6) (all_c (ok_if_ne dX12_doCross_9 (by decide)) (all_c (ok_aload_n dX12_doCross_12 rfl) (all_c (ok_iload_n dX12_doCross_13 rfl) (all_c (okc_X12_doFall (by decide) kw1196 dX12_doCross_14) (all_c (ok_stk (s_iconst dX12_doCross_17 (by decide))) (all_c (ok_iret dX12_doCross_18) (all_c (ok_aload_n dX12_doCross_19 rfl) (all_c (okg_X12_14 kw1069 dX12_doCross_20) (all_c (ok_stk (s_sipush dX12_doCross_23 (by decide))) (all_c (ok_iload_n dX12_doCross_26 rfl) (all_c (ok_stk (s_iadd dX12_doCross_27)) (all_c (ok_stk (s_dup2 dX12_doCross_28)) (all_c (ok_iald dX12_doCross_29) (all_c (ok_stk (s_iconst dX12_doCross_30 (by decide))) (all_c (ok_stk (s_iadd dX12_doCross_31)) (all_c (ok_iast dX12_doCross_32) (all_c (ok_stk (s_iconst dX12_doCross_33 (by decide))) (all_c (ok_iret dX12_doCross_34) all_n))))))))))))))))))))))) n (fun h => by first | rfl | cases h))
theorem dX12_doDie_0 : decode cX12_doDie 0 = .ok (.aload_n 0, 1) := by decide +kernel
theorem dX12_doDie_1 : decode cX12_doDie 1 = .ok (.getfield 98, 3) := by decide +kernel
theorem dX12_doDie_4 : decode cX12_doDie 4 = .ok (.bipush 95, 2) := by decide +kernel
theorem dX12_doDie_6 : decode cX12_doDie 6 = .ok (.dup2, 1) := by decide +kernel
theorem dX12_doDie_7 : decode cX12_doDie 7 = .ok (.iaload, 1) := by decide +kernel
theorem dX12_doDie_8 : decode cX12_doDie 8 = .ok (.iconst 1, 1) := by decide +kernel
theorem dX12_doDie_9 : decode cX12_doDie 9 = .ok (.iload_n 1, 1) := by decide +kernel
theorem dX12_doDie_10 : decode cX12_doDie 10 = .ok (.ishl, 1) := by decide +kernel
theorem dX12_doDie_11 : decode cX12_doDie 11 = .ok (.ior, 1) := by decide +kernel
theorem dX12_doDie_12 : decode cX12_doDie 12 = .ok (.iastore, 1) := by decide +kernel
theorem dX12_doDie_13 : decode cX12_doDie 13 = .ok (.aload_n 0, 1) := by decide +kernel
theorem dX12_doDie_14 : decode cX12_doDie 14 = .ok (.getfield 98, 3) := by decide +kernel
theorem dX12_doDie_17 : decode cX12_doDie 17 = .ok (.bipush 108, 2) := by decide +kernel
theorem dX12_doDie_19 : decode cX12_doDie 19 = .ok (.iload_n 1, 1) := by decide +kernel
theorem dX12_doDie_20 : decode cX12_doDie 20 = .ok (.iadd, 1) := by decide +kernel
theorem dX12_doDie_21 : decode cX12_doDie 21 = .ok (.aload_n 0, 1) := by decide +kernel
theorem dX12_doDie_22 : decode cX12_doDie 22 = .ok (.getfield 98, 3) := by decide +kernel
theorem dX12_doDie_25 : decode cX12_doDie 25 = .ok (.bipush 94, 2) := by decide +kernel
theorem dX12_doDie_27 : decode cX12_doDie 27 = .ok (.iaload, 1) := by decide +kernel
theorem dX12_doDie_28 : decode cX12_doDie 28 = .ok (.iastore, 1) := by decide +kernel
theorem dX12_doDie_29 : decode cX12_doDie 29 = .ok (.return_, 1) := by decide +kernel
def tX12_doDie (kn : sKn) : List (Nat × sA) := [(0, a_aload 0 1), (1, a_get 13 14 4), (4, a_stk (q_int 95) 6), (6, a_stk q_dup2 7), (7, a_iald 8), (8, a_stk (q_int 1) 9), (9, a_iload 1 10), (10, a_stk q_ishl 11), (11, a_stk q_ior 12), (12, a_iast 13), (13, a_aload 0 14), (14, a_get 13 14 17), (17, a_stk (q_int 108) 19), (19, a_iload 1 20), (20, a_stk q_iadd 21), (21, a_aload 0 22), (22, a_get 13 14 25), (25, a_stk (q_int 94) 27), (27, a_iald 28), (28, a_iast 29), (29, a_vret)]
def fX12_doDie (kn : sKn) : List Value → sW → Option sR := fW (tX12_doDie kn) 2
set_option maxRecDepth 100000 in
set_option maxHeartbeats 4000000 in
theorem mX12_doDie (kn : sKn) : mM kn yX12_doDie (Cond.code yX12_doDie cX12_doDie 2 none :: wsL_law) 1 true (fX12_doDie kn) := mM_W (fun n => mM_of (own := RX12) (ini := false) rfl (by decide +kernel) (by decide +kernel) (all_c (ok_aload_n dX12_doDie_0 rfl) (all_c (okg_X12_14 kw1069 dX12_doDie_1) (all_c (ok_stk (s_bipush dX12_doDie_4 (by decide))) (all_c (ok_stk (s_dup2 dX12_doDie_6)) (all_c (ok_iald dX12_doDie_7) (all_c (ok_stk (s_iconst dX12_doDie_8 (by decide))) (all_c (ok_iload_n dX12_doDie_9 rfl) (all_c (ok_stk (s_ishl dX12_doDie_10)) (all_c (ok_stk (s_ior dX12_doDie_11)) (all_c (ok_iast dX12_doDie_12) (all_c (ok_aload_n dX12_doDie_13 rfl) (all_c (okg_X12_14 kw1069 dX12_doDie_14) (all_c (ok_stk (s_bipush dX12_doDie_17 (by decide))) (all_c (ok_iload_n dX12_doDie_19 rfl) (all_c (ok_stk (s_iadd dX12_doDie_20)) (all_c (ok_aload_n dX12_doDie_21 rfl) (all_c (okg_X12_14 kw1069 dX12_doDie_22) (all_c (ok_stk (s_bipush dX12_doDie_25 (by decide))) (all_c (ok_iald dX12_doDie_27) (all_c (ok_iast dX12_doDie_28) (all_c (ok_vret dX12_doDie_29) all_n))))))))))))))))))))) n (fun h => by first | rfl | cases h))
theorem dX12_doSign_0 : decode cX12_doSign 0 = .ok (.aload_n 0, 1) := by decide +kernel
theorem dX12_doSign_1 : decode cX12_doSign 1 = .ok (.getfield 98, 3) := by decide +kernel
theorem dX12_doSign_4 : decode cX12_doSign 4 = .ok (.bipush 118, 2) := by decide +kernel
theorem dX12_doSign_6 : decode cX12_doSign 6 = .ok (.iload_n 2, 1) := by decide +kernel
theorem dX12_doSign_7 : decode cX12_doSign 7 = .ok (.iadd, 1) := by decide +kernel
theorem dX12_doSign_8 : decode cX12_doSign 8 = .ok (.iload_n 1, 1) := by decide +kernel
theorem dX12_doSign_9 : decode cX12_doSign 9 = .ok (.iastore, 1) := by decide +kernel
theorem dX12_doSign_10 : decode cX12_doSign 10 = .ok (.aload_n 0, 1) := by decide +kernel
theorem dX12_doSign_11 : decode cX12_doSign 11 = .ok (.getfield 98, 3) := by decide +kernel
theorem dX12_doSign_14 : decode cX12_doSign 14 = .ok (.sipush 154, 3) := by decide +kernel
theorem dX12_doSign_17 : decode cX12_doSign 17 = .ok (.iload_n 2, 1) := by decide +kernel
theorem dX12_doSign_18 : decode cX12_doSign 18 = .ok (.iadd, 1) := by decide +kernel
theorem dX12_doSign_19 : decode cX12_doSign 19 = .ok (.iconst 0, 1) := by decide +kernel
theorem dX12_doSign_20 : decode cX12_doSign 20 = .ok (.iastore, 1) := by decide +kernel
theorem dX12_doSign_21 : decode cX12_doSign 21 = .ok (.return_, 1) := by decide +kernel
def tX12_doSign (kn : sKn) : List (Nat × sA) := [(0, a_aload 0 1), (1, a_get 13 14 4), (4, a_stk (q_int 118) 6), (6, a_iload 2 7), (7, a_stk q_iadd 8), (8, a_iload 1 9), (9, a_iast 10), (10, a_aload 0 11), (11, a_get 13 14 14), (14, a_stk (q_int 154) 17), (17, a_iload 2 18), (18, a_stk q_iadd 19), (19, a_stk (q_int 0) 20), (20, a_iast 21), (21, a_vret)]
def fX12_doSign (kn : sKn) : List Value → sW → Option sR := fW (tX12_doSign kn) 3
set_option maxRecDepth 100000 in
set_option maxHeartbeats 4000000 in
theorem mX12_doSign (kn : sKn) : mM kn yX12_doSign (Cond.code yX12_doSign cX12_doSign 3 none :: wsL_law) 1 true (fX12_doSign kn) := mM_W (fun n => mM_of (own := RX12) (ini := false) rfl (by decide +kernel) (by decide +kernel) (all_c (ok_aload_n dX12_doSign_0 rfl) (all_c (okg_X12_14 kw1069 dX12_doSign_1) (all_c (ok_stk (s_bipush dX12_doSign_4 (by decide))) (all_c (ok_iload_n dX12_doSign_6 rfl) (all_c (ok_stk (s_iadd dX12_doSign_7)) (all_c (ok_iload_n dX12_doSign_8 rfl) (all_c (ok_iast dX12_doSign_9) (all_c (ok_aload_n dX12_doSign_10 rfl) (all_c (okg_X12_14 kw1069 dX12_doSign_11) (all_c (ok_stk (s_sipush dX12_doSign_14 (by decide))) (all_c (ok_iload_n dX12_doSign_17 rfl) (all_c (ok_stk (s_iadd dX12_doSign_18)) (all_c (ok_stk (s_iconst dX12_doSign_19 (by decide))) (all_c (ok_iast dX12_doSign_20) (all_c (ok_vret dX12_doSign_21) all_n))))))))))))))) n (fun h => by first | rfl | cases h))
theorem dX12_places_0 : decode cX12_places 0 = .ok (.iconst 3, 1) := by decide +kernel
theorem dX12_places_1 : decode cX12_places 1 = .ok (.aload_n 0, 1) := by decide +kernel
theorem dX12_places_2 : decode cX12_places 2 = .ok (.getfield 98, 3) := by decide +kernel
theorem dX12_places_5 : decode cX12_places 5 = .ok (.iconst 0, 1) := by decide +kernel
theorem dX12_places_6 : decode cX12_places 6 = .ok (.iaload, 1) := by decide +kernel
theorem dX12_places_7 : decode cX12_places 7 = .ok (.imul, 1) := by decide +kernel
theorem dX12_places_8 : decode cX12_places 8 = .ok (.ireturn, 1) := by decide +kernel
def tX12_places (kn : sKn) : List (Nat × sA) := [(0, a_stk (q_int 3) 1), (1, a_aload 0 2), (2, a_get 13 14 5), (5, a_stk (q_int 0) 6), (6, a_iald 7), (7, a_stk q_imul 8), (8, a_iret)]
def fX12_places (kn : sKn) : List Value → sW → Option sR := fW (tX12_places kn) 1
set_option maxRecDepth 100000 in
set_option maxHeartbeats 4000000 in
theorem mX12_places (kn : sKn) : mM kn yX12_places (Cond.code yX12_places cX12_places 1 (some .int) :: wsL_law) 1 false (fX12_places kn) := mM_W (fun n => mM_of (own := RX12) (ini := false) rfl (by decide +kernel) (by decide +kernel) (all_c (ok_stk (s_iconst dX12_places_0 (by decide))) (all_c (ok_aload_n dX12_places_1 rfl) (all_c (okg_X12_14 kw1069 dX12_places_2) (all_c (ok_stk (s_iconst dX12_places_5 (by decide))) (all_c (ok_iald dX12_places_6) (all_c (ok_stk (s_imul dX12_places_7)) (all_c (ok_iret dX12_places_8) all_n))))))) n (fun h => by first | rfl | cases h))
theorem dX12_planksOf_0 : decode cX12_planksOf 0 = .ok (.iconst 0, 1) := by decide +kernel
theorem dX12_planksOf_1 : decode cX12_planksOf 1 = .ok (.istore_n 2, 1) := by decide +kernel
theorem dX12_planksOf_2 : decode cX12_planksOf 2 = .ok (.iconst 0, 1) := by decide +kernel
theorem dX12_planksOf_3 : decode cX12_planksOf 3 = .ok (.istore_n 3, 1) := by decide +kernel
theorem dX12_planksOf_4 : decode cX12_planksOf 4 = .ok (.iload_n 3, 1) := by decide +kernel
theorem dX12_planksOf_5 : decode cX12_planksOf 5 = .ok (.aload_n 0, 1) := by decide +kernel
theorem dX12_planksOf_6 : decode cX12_planksOf 6 = .ok (.invokevirtual 264, 3) := by decide +kernel
theorem dX12_planksOf_9 : decode cX12_planksOf 9 = .ok (.if_icmp .ge 25, 3) := by decide +kernel
theorem dX12_planksOf_12 : decode cX12_planksOf 12 = .ok (.aload_n 0, 1) := by decide +kernel
theorem dX12_planksOf_13 : decode cX12_planksOf 13 = .ok (.getfield 98, 3) := by decide +kernel
theorem dX12_planksOf_16 : decode cX12_planksOf 16 = .ok (.bipush 118, 2) := by decide +kernel
theorem dX12_planksOf_18 : decode cX12_planksOf 18 = .ok (.iload_n 3, 1) := by decide +kernel
theorem dX12_planksOf_19 : decode cX12_planksOf 19 = .ok (.iadd, 1) := by decide +kernel
theorem dX12_planksOf_20 : decode cX12_planksOf 20 = .ok (.iaload, 1) := by decide +kernel
theorem dX12_planksOf_21 : decode cX12_planksOf 21 = .ok (.iload_n 1, 1) := by decide +kernel
theorem dX12_planksOf_22 : decode cX12_planksOf 22 = .ok (.if_icmp .ne 6, 3) := by decide +kernel
theorem dX12_planksOf_25 : decode cX12_planksOf 25 = .ok (.iinc 2 1, 3) := by decide +kernel
theorem dX12_planksOf_28 : decode cX12_planksOf 28 = .ok (.iinc 3 1, 3) := by decide +kernel
theorem dX12_planksOf_31 : decode cX12_planksOf 31 = .ok (.goto (-27), 3) := by decide +kernel
theorem dX12_planksOf_34 : decode cX12_planksOf 34 = .ok (.iload_n 2, 1) := by decide +kernel
theorem dX12_planksOf_35 : decode cX12_planksOf 35 = .ok (.ireturn, 1) := by decide +kernel
theorem okc_X12_places {kn : sKn} {cc : ByteArray} {own : String} {nL : Nat} {D : Nat} {ret : Option FieldType} {ini : Bool} {pc index : Nat} (hD : 1 + 1 ≤ D) (hl : Cond.methodLink own index yX12_places ∈ wsL_law) (hd : decode cc pc = .ok (.invokevirtual index, 3)) : mOk kn cc own nL wsL_law D ret ini pc (a_callV false (fX12_places kn) 13 (0 + 1) (pc + 3)) := ok_callV (mX12_places kn) (good_ws ws_good (fun _ h => h) kw1197) hD (by decide) hl kw1198 kw1199 kw1072 ⟨by decide +kernel, by decide +kernel, by decide +kernel⟩ rfl hd
def tX12_planksOf (kn : sKn) : List (Nat × sA) := [(0, a_stk (q_int 0) 1), (1, a_istore 2 2), (2, a_stk (q_int 0) 3), (3, a_istore 3 4), (4, a_iload 3 5), (5, a_aload 0 6), (6, a_callV false (fX12_places kn) 13 1 9), (9, a_icmp kn b_ge 3 34 12), (12, a_aload 0 13), (13, a_get 13 14 16), (16, a_stk (q_int 118) 18), (18, a_iload 3 19), (19, a_stk q_iadd 20), (20, a_iald 21), (21, a_iload 1 22), (22, a_icmp kn b_ne 1 28 25), (25, a_iinc 2 1 28), (28, a_iinc 3 1 31), (31, a_goto 4), (34, a_iload 2 35), (35, a_iret)]
def fX12_planksOf (kn : sKn) : List Value → sW → Option sR := fW (tX12_planksOf kn) 4
set_option maxRecDepth 100000 in
set_option maxHeartbeats 4000000 in
theorem mX12_planksOf (kn : sKn) : mM kn yX12_planksOf (Cond.code yX12_planksOf cX12_planksOf 4 (some .int) :: wsL_law) 2 false (fX12_planksOf kn) := mM_W (fun n => mM_of (own := RX12) (ini := false) rfl (by decide +kernel) (by decide +kernel) (all_c (ok_stk (s_iconst dX12_planksOf_0 (by decide))) (all_c (ok_istore_n dX12_planksOf_1 rfl (by decide)) (all_c (ok_stk (s_iconst dX12_planksOf_2 (by decide))) (all_c (ok_istore_n dX12_planksOf_3 rfl (by decide)) (all_c (ok_iload_n dX12_planksOf_4 rfl) (all_c (ok_aload_n dX12_planksOf_5 rfl) (all_c (okc_X12_places (by decide) kw1200 dX12_planksOf_6) (all_c (ok_icmp_ge dX12_planksOf_9 (by decide)) (all_c (ok_aload_n dX12_planksOf_12 rfl) (all_c (okg_X12_14 kw1069 dX12_planksOf_13) (all_c (ok_stk (s_bipush dX12_planksOf_16 (by decide))) (all_c (ok_iload_n dX12_planksOf_18 rfl) (all_c (ok_stk (s_iadd dX12_planksOf_19)) (all_c (ok_iald dX12_planksOf_20) (all_c (ok_iload_n dX12_planksOf_21 rfl) (all_c (ok_icmp_ne dX12_planksOf_22 (by decide)) (all_c (ok_iinc dX12_planksOf_25 (by decide) (by decide)) (all_c (ok_iinc dX12_planksOf_28 (by decide) (by decide)) (all_c (ok_goto dX12_planksOf_31 (by decide)) (all_c (ok_iload_n dX12_planksOf_34 rfl) (all_c (ok_iret dX12_planksOf_35) all_n))))))))))))))))))))) n (fun h => by first | rfl | cases h))
theorem dX12_inherit_0 : decode cX12_inherit 0 = .ok (.aload_n 0, 1) := by decide +kernel
theorem dX12_inherit_1 : decode cX12_inherit 1 = .ok (.getfield 98, 3) := by decide +kernel
theorem dX12_inherit_4 : decode cX12_inherit 4 = .ok (.bipush 26, 2) := by decide +kernel
theorem dX12_inherit_6 : decode cX12_inherit 6 = .ok (.iload_n 1, 1) := by decide +kernel
theorem dX12_inherit_7 : decode cX12_inherit 7 = .ok (.iadd, 1) := by decide +kernel
theorem dX12_inherit_8 : decode cX12_inherit 8 = .ok (.iaload, 1) := by decide +kernel
theorem dX12_inherit_9 : decode cX12_inherit 9 = .ok (.istore_n 2, 1) := by decide +kernel
theorem dX12_inherit_10 : decode cX12_inherit 10 = .ok (.iconst 0, 1) := by decide +kernel
theorem dX12_inherit_11 : decode cX12_inherit 11 = .ok (.istore_n 3, 1) := by decide +kernel
theorem dX12_inherit_12 : decode cX12_inherit 12 = .ok (.iload_n 3, 1) := by decide +kernel
theorem dX12_inherit_13 : decode cX12_inherit 13 = .ok (.aload_n 0, 1) := by decide +kernel
theorem dX12_inherit_14 : decode cX12_inherit 14 = .ok (.invokevirtual 264, 3) := by decide +kernel
theorem dX12_inherit_17 : decode cX12_inherit 17 = .ok (.if_icmp .ge 66, 3) := by decide +kernel
theorem dX12_inherit_20 : decode cX12_inherit 20 = .ok (.aload_n 0, 1) := by decide +kernel
theorem dX12_inherit_21 : decode cX12_inherit 21 = .ok (.getfield 98, 3) := by decide +kernel
theorem dX12_inherit_24 : decode cX12_inherit 24 = .ok (.bipush 118, 2) := by decide +kernel
theorem dX12_inherit_26 : decode cX12_inherit 26 = .ok (.iload_n 3, 1) := by decide +kernel
theorem dX12_inherit_27 : decode cX12_inherit 27 = .ok (.iadd, 1) := by decide +kernel
theorem dX12_inherit_28 : decode cX12_inherit 28 = .ok (.iaload, 1) := by decide +kernel
theorem dX12_inherit_29 : decode cX12_inherit 29 = .ok (.iload_n 1, 1) := by decide +kernel
theorem dX12_inherit_30 : decode cX12_inherit 30 = .ok (.if_icmp .eq 6, 3) := by decide +kernel
theorem dX12_inherit_33 : decode cX12_inherit 33 = .ok (.goto 44, 3) := by decide +kernel
theorem dX12_inherit_36 : decode cX12_inherit 36 = .ok (.iload_n 2, 1) := by decide +kernel
theorem dX12_inherit_37 : decode cX12_inherit 37 = .ok (.iconst (-1), 1) := by decide +kernel
theorem dX12_inherit_38 : decode cX12_inherit 38 = .ok (.if_icmp .eq 34, 3) := by decide +kernel
theorem dX12_inherit_41 : decode cX12_inherit 41 = .ok (.aload_n 0, 1) := by decide +kernel
theorem dX12_inherit_42 : decode cX12_inherit 42 = .ok (.iload_n 2, 1) := by decide +kernel
theorem dX12_inherit_43 : decode cX12_inherit 43 = .ok (.invokevirtual 283, 3) := by decide +kernel
theorem dX12_inherit_46 : decode cX12_inherit 46 = .ok (.ifCond .ne 26, 3) := by decide +kernel
theorem dX12_inherit_49 : decode cX12_inherit 49 = .ok (.aload_n 0, 1) := by decide +kernel
theorem dX12_inherit_50 : decode cX12_inherit 50 = .ok (.iload_n 2, 1) := by decide +kernel
theorem dX12_inherit_51 : decode cX12_inherit 51 = .ok (.invokevirtual 286, 3) := by decide +kernel
theorem dX12_inherit_54 : decode cX12_inherit 54 = .ok (.bipush 6, 2) := by decide +kernel
theorem dX12_inherit_56 : decode cX12_inherit 56 = .ok (.if_icmp .ge 16, 3) := by decide +kernel
theorem dX12_inherit_59 : decode cX12_inherit 59 = .ok (.aload_n 0, 1) := by decide +kernel
theorem dX12_inherit_60 : decode cX12_inherit 60 = .ok (.getfield 98, 3) := by decide +kernel
theorem dX12_inherit_63 : decode cX12_inherit 63 = .ok (.bipush 118, 2) := by decide +kernel
theorem dX12_inherit_65 : decode cX12_inherit 65 = .ok (.iload_n 3, 1) := by decide +kernel
theorem dX12_inherit_66 : decode cX12_inherit 66 = .ok (.iadd, 1) := by decide +kernel
theorem dX12_inherit_67 : decode cX12_inherit 67 = .ok (.iload_n 2, 1) := by decide +kernel
theorem dX12_inherit_68 : decode cX12_inherit 68 = .ok (.iastore, 1) := by decide +kernel
theorem dX12_inherit_69 : decode cX12_inherit 69 = .ok (.goto 8, 3) := by decide +kernel
theorem dX12_inherit_72 : decode cX12_inherit 72 = .ok (.aload_n 0, 1) := by decide +kernel
theorem dX12_inherit_73 : decode cX12_inherit 73 = .ok (.iload_n 3, 1) := by decide +kernel
theorem dX12_inherit_74 : decode cX12_inherit 74 = .ok (.invokevirtual 325, 3) := by decide +kernel
theorem dX12_inherit_77 : decode cX12_inherit 77 = .ok (.iinc 3 1, 3) := by decide +kernel
theorem dX12_inherit_80 : decode cX12_inherit 80 = .ok (.goto (-68), 3) := by decide +kernel
theorem dX12_inherit_83 : decode cX12_inherit 83 = .ok (.return_, 1) := by decide +kernel
theorem okc_X12_planksOf {kn : sKn} {cc : ByteArray} {own : String} {nL : Nat} {D : Nat} {ret : Option FieldType} {ini : Bool} {pc index : Nat} (hD : 2 + 1 ≤ D) (hl : Cond.methodLink own index yX12_planksOf ∈ wsL_law) (hd : decode cc pc = .ok (.invokevirtual index, 3)) : mOk kn cc own nL wsL_law D ret ini pc (a_callV false (fX12_planksOf kn) 13 (1 + 1) (pc + 3)) := ok_callV (mX12_planksOf kn) (good_ws ws_good (fun _ h => h) kw1201) hD (by decide) hl kw1202 kw1203 kw1072 ⟨by decide +kernel, by decide +kernel, by decide +kernel⟩ rfl hd
def tX12_inherit (kn : sKn) : List (Nat × sA) := [(0, a_aload 0 1), (1, a_get 13 14 4), (4, a_stk (q_int 26) 6), (6, a_iload 1 7), (7, a_stk q_iadd 8), (8, a_iald 9), (9, a_istore 2 10), (10, a_stk (q_int 0) 11), (11, a_istore 3 12), (12, a_iload 3 13), (13, a_aload 0 14), (14, a_callV false (fX12_places kn) 13 1 17), (17, a_icmp kn b_ge 3 83 20), (20, a_aload 0 21), (21, a_get 13 14 24), (24, a_stk (q_int 118) 26), (26, a_iload 3 27), (27, a_stk q_iadd 28), (28, a_iald 29), (29, a_iload 1 30), (30, a_icmp kn b_eq 0 36 33), (33, a_goto 77), (36, a_iload 2 37), (37, a_stk (q_int (-1)) 38), (38, a_icmp kn b_eq 0 72 41), (41, a_aload 0 42), (42, a_iload 2 43), (43, a_callV false (fX12_isDead kn) 13 2 46), (46, a_if kn b_ne 1 72 49), (49, a_aload 0 50), (50, a_iload 2 51), (51, a_callV false (fX12_planksOf kn) 13 2 54), (54, a_stk (q_int 6) 56), (56, a_icmp kn b_ge 3 72 59), (59, a_aload 0 60), (60, a_get 13 14 63), (63, a_stk (q_int 118) 65), (65, a_iload 3 66), (66, a_stk q_iadd 67), (67, a_iload 2 68), (68, a_iast 69), (69, a_goto 77), (72, a_aload 0 73), (73, a_iload 3 74), (74, a_callV true (fX12_open kn) 13 2 77), (77, a_iinc 3 1 80), (80, a_goto 12), (83, a_vret)]
def fX12_inherit (kn : sKn) : List Value → sW → Option sR := fW (tX12_inherit kn) 4
set_option maxRecDepth 100000 in
set_option maxHeartbeats 4000000 in
theorem mX12_inherit (kn : sKn) : mM kn yX12_inherit (Cond.code yX12_inherit cX12_inherit 4 none :: wsL_law) 3 true (fX12_inherit kn) := mM_W (fun n => mM_of (own := RX12) (ini := false) rfl (by decide +kernel) (by decide +kernel) (all_c (ok_aload_n dX12_inherit_0 rfl) (all_c (okg_X12_14 kw1069 dX12_inherit_1) (all_c (ok_stk (s_bipush dX12_inherit_4 (by decide))) (all_c (ok_iload_n dX12_inherit_6 rfl) (all_c (ok_stk (s_iadd dX12_inherit_7)) (all_c (ok_iald dX12_inherit_8) (all_c (ok_istore_n dX12_inherit_9 rfl (by decide)) (all_c (ok_stk (s_iconst dX12_inherit_10 (by decide))) (all_c (ok_istore_n dX12_inherit_11 rfl (by decide)) (all_c (ok_iload_n dX12_inherit_12 rfl) (all_c (ok_aload_n dX12_inherit_13 rfl) (all_c (okc_X12_places (by decide) kw1200 dX12_inherit_14) (all_c (ok_icmp_ge dX12_inherit_17 (by decide)) (all_c (ok_aload_n dX12_inherit_20 rfl) (all_c (okg_X12_14 kw1069 dX12_inherit_21) (all_c (ok_stk (s_bipush dX12_inherit_24 (by decide))) (all_c (ok_iload_n dX12_inherit_26 rfl) (all_c (ok_stk (s_iadd dX12_inherit_27)) (all_c (ok_iald dX12_inherit_28) (all_c (ok_iload_n dX12_inherit_29 rfl) (all_c (ok_icmp_eq dX12_inherit_30 (by decide)) (all_c (ok_goto dX12_inherit_33 (by decide)) (all_c (ok_iload_n dX12_inherit_36 rfl) (all_c (ok_stk (s_iconst dX12_inherit_37 (by decide))) (all_c (ok_icmp_eq dX12_inherit_38 (by decide)) (all_c (ok_aload_n dX12_inherit_41 rfl) (all_c (ok_iload_n dX12_inherit_42 rfl) (all_c (okc_X12_isDead (by decide) kw1138 dX12_inherit_43) (all_c (ok_if_ne dX12_inherit_46 (by decide)) (all_c (ok_aload_n dX12_inherit_49 rfl) (all_c (ok_iload_n dX12_inherit_50 rfl) (all_c (okc_X12_planksOf (by decide) kw1204 dX12_inherit_51) (all_c (ok_stk (s_bipush dX12_inherit_54 (by decide))) (all_c (ok_icmp_ge dX12_inherit_56 (by decide)) (all_c (ok_aload_n dX12_inherit_59 rfl) (all_c (okg_X12_14 kw1069 dX12_inherit_60) (all_c (ok_stk (s_bipush dX12_inherit_63 (by decide))) (all_c (ok_iload_n dX12_inherit_65 rfl) (all_c (ok_stk (s_iadd dX12_inherit_66)) (all_c (ok_iload_n dX12_inherit_67 rfl) (all_c (ok_iast dX12_inherit_68) (all_c (ok_goto dX12_inherit_69 (by decide)) (all_c (ok_aload_n dX12_inherit_72 rfl) (all_c (ok_iload_n dX12_inherit_73 rfl) (all_c (okc_X12_open (by decide) kw1184 dX12_inherit_74) (all_c (ok_iinc dX12_inherit_77 (by decide) (by decide)) (all_c (ok_goto dX12_inherit_80 (by decide)) (all_c (ok_vret dX12_inherit_83) all_n)))))))))))))))))))))))))))))))))))))))))))))))) n (fun h => by first | rfl | cases h))
theorem dX12_oneDay_0 : decode cX12_oneDay 0 = .ok (.iconst 0, 1) := by decide +kernel
theorem dX12_oneDay_1 : decode cX12_oneDay 1 = .ok (.istore_n 1, 1) := by decide +kernel
theorem dX12_oneDay_2 : decode cX12_oneDay 2 = .ok (.iload_n 1, 1) := by decide +kernel
theorem dX12_oneDay_3 : decode cX12_oneDay 3 = .ok (.aload_n 0, 1) := by decide +kernel
theorem dX12_oneDay_4 : decode cX12_oneDay 4 = .ok (.getfield 98, 3) := by decide +kernel
theorem dX12_oneDay_7 : decode cX12_oneDay 7 = .ok (.iconst 1, 1) := by decide +kernel
theorem dX12_oneDay_8 : decode cX12_oneDay 8 = .ok (.iaload, 1) := by decide +kernel
theorem dX12_oneDay_9 : decode cX12_oneDay 9 = .ok (.if_icmp .ge 48, 3) := by decide +kernel
theorem dX12_oneDay_12 : decode cX12_oneDay 12 = .ok (.aload_n 0, 1) := by decide +kernel
theorem dX12_oneDay_13 : decode cX12_oneDay 13 = .ok (.iload_n 1, 1) := by decide +kernel
theorem dX12_oneDay_14 : decode cX12_oneDay 14 = .ok (.invokevirtual 283, 3) := by decide +kernel
theorem dX12_oneDay_17 : decode cX12_oneDay 17 = .ok (.ifCond .eq 34, 3) := by decide +kernel
theorem dX12_oneDay_20 : decode cX12_oneDay 20 = .ok (.aload_n 0, 1) := by decide +kernel
theorem dX12_oneDay_21 : decode cX12_oneDay 21 = .ok (.getfield 98, 3) := by decide +kernel
theorem dX12_oneDay_24 : decode cX12_oneDay 24 = .ok (.bipush 108, 2) := by decide +kernel
theorem dX12_oneDay_26 : decode cX12_oneDay 26 = .ok (.iload_n 1, 1) := by decide +kernel
theorem dX12_oneDay_27 : decode cX12_oneDay 27 = .ok (.iadd, 1) := by decide +kernel
theorem dX12_oneDay_28 : decode cX12_oneDay 28 = .ok (.iaload, 1) := by decide +kernel
theorem dX12_oneDay_29 : decode cX12_oneDay 29 = .ok (.aload_n 0, 1) := by decide +kernel
theorem dX12_oneDay_30 : decode cX12_oneDay 30 = .ok (.getfield 98, 3) := by decide +kernel
theorem dX12_oneDay_33 : decode cX12_oneDay 33 = .ok (.bipush 94, 2) := by decide +kernel
theorem dX12_oneDay_35 : decode cX12_oneDay 35 = .ok (.iaload, 1) := by decide +kernel
theorem dX12_oneDay_36 : decode cX12_oneDay 36 = .ok (.aload_n 0, 1) := by decide +kernel
theorem dX12_oneDay_37 : decode cX12_oneDay 37 = .ok (.getfield 98, 3) := by decide +kernel
theorem dX12_oneDay_40 : decode cX12_oneDay 40 = .ok (.iconst 4, 1) := by decide +kernel
theorem dX12_oneDay_41 : decode cX12_oneDay 41 = .ok (.iaload, 1) := by decide +kernel
theorem dX12_oneDay_42 : decode cX12_oneDay 42 = .ok (.isub, 1) := by decide +kernel
theorem dX12_oneDay_43 : decode cX12_oneDay 43 = .ok (.if_icmp .ne 8, 3) := by decide +kernel
theorem dX12_oneDay_46 : decode cX12_oneDay 46 = .ok (.aload_n 0, 1) := by decide +kernel
theorem dX12_oneDay_47 : decode cX12_oneDay 47 = .ok (.iload_n 1, 1) := by decide +kernel
theorem dX12_oneDay_48 : decode cX12_oneDay 48 = .ok (.invokevirtual 361, 3) := by decide +kernel
theorem dX12_oneDay_51 : decode cX12_oneDay 51 = .ok (.iinc 1 1, 3) := by decide +kernel
theorem dX12_oneDay_54 : decode cX12_oneDay 54 = .ok (.goto (-52), 3) := by decide +kernel
theorem dX12_oneDay_57 : decode cX12_oneDay 57 = .ok (.aload_n 0, 1) := by decide +kernel
theorem dX12_oneDay_58 : decode cX12_oneDay 58 = .ok (.getfield 98, 3) := by decide +kernel
theorem dX12_oneDay_61 : decode cX12_oneDay 61 = .ok (.bipush 94, 2) := by decide +kernel
theorem dX12_oneDay_63 : decode cX12_oneDay 63 = .ok (.dup2, 1) := by decide +kernel
theorem dX12_oneDay_64 : decode cX12_oneDay 64 = .ok (.iaload, 1) := by decide +kernel
theorem dX12_oneDay_65 : decode cX12_oneDay 65 = .ok (.iconst 1, 1) := by decide +kernel
theorem dX12_oneDay_66 : decode cX12_oneDay 66 = .ok (.iadd, 1) := by decide +kernel
theorem dX12_oneDay_67 : decode cX12_oneDay 67 = .ok (.iastore, 1) := by decide +kernel
theorem dX12_oneDay_68 : decode cX12_oneDay 68 = .ok (.return_, 1) := by decide +kernel
theorem okc_X12_inherit {kn : sKn} {cc : ByteArray} {own : String} {nL : Nat} {D : Nat} {ret : Option FieldType} {ini : Bool} {pc index : Nat} (hD : 3 + 1 ≤ D) (hl : Cond.methodLink own index yX12_inherit ∈ wsL_law) (hd : decode cc pc = .ok (.invokevirtual index, 3)) : mOk kn cc own nL wsL_law D ret ini pc (a_callV true (fX12_inherit kn) 13 (1 + 1) (pc + 3)) := ok_callV (mX12_inherit kn) (good_ws ws_good (fun _ h => h) kw1205) hD (by decide) hl kw1206 kw1207 kw1072 ⟨by decide +kernel, by decide +kernel, by decide +kernel⟩ rfl hd
def tX12_oneDay (kn : sKn) : List (Nat × sA) := [(0, a_stk (q_int 0) 1), (1, a_istore 1 2), (2, a_iload 1 3), (3, a_aload 0 4), (4, a_get 13 14 7), (7, a_stk (q_int 1) 8), (8, a_iald 9), (9, a_icmp kn b_ge 3 57 12), (12, a_aload 0 13), (13, a_iload 1 14), (14, a_callV false (fX12_isDead kn) 13 2 17), (17, a_if kn b_eq 0 51 20), (20, a_aload 0 21), (21, a_get 13 14 24), (24, a_stk (q_int 108) 26), (26, a_iload 1 27), (27, a_stk q_iadd 28), (28, a_iald 29), (29, a_aload 0 30), (30, a_get 13 14 33), (33, a_stk (q_int 94) 35), (35, a_iald 36), (36, a_aload 0 37), (37, a_get 13 14 40), (40, a_stk (q_int 4) 41), (41, a_iald 42), (42, a_stk q_isub 43), (43, a_icmp kn b_ne 1 51 46), (46, a_aload 0 47), (47, a_iload 1 48), (48, a_callV true (fX12_inherit kn) 13 2 51), (51, a_iinc 1 1 54), (54, a_goto 2), (57, a_aload 0 58), (58, a_get 13 14 61), (61, a_stk (q_int 94) 63), (63, a_stk q_dup2 64), (64, a_iald 65), (65, a_stk (q_int 1) 66), (66, a_stk q_iadd 67), (67, a_iast 68), (68, a_vret)]
def fX12_oneDay (kn : sKn) : List Value → sW → Option sR := fW (tX12_oneDay kn) 2
set_option maxRecDepth 100000 in
set_option maxHeartbeats 4000000 in
theorem mX12_oneDay (kn : sKn) : mM kn yX12_oneDay (Cond.code yX12_oneDay cX12_oneDay 2 none :: wsL_law) 4 true (fX12_oneDay kn) := mM_W (fun n => mM_of (own := RX12) (ini := false) rfl (by decide +kernel) (by decide +kernel) (all_c (ok_stk (s_iconst dX12_oneDay_0 (by decide))) (all_c (ok_istore_n dX12_oneDay_1 rfl (by decide)) (all_c (ok_iload_n dX12_oneDay_2 rfl) (all_c (ok_aload_n dX12_oneDay_3 rfl) (all_c (okg_X12_14 kw1069 dX12_oneDay_4) (all_c (ok_stk (s_iconst dX12_oneDay_7 (by decide))) (all_c (ok_iald dX12_oneDay_8) (all_c (ok_icmp_ge dX12_oneDay_9 (by decide)) (all_c (ok_aload_n dX12_oneDay_12 rfl) (all_c (ok_iload_n dX12_oneDay_13 rfl) (all_c (okc_X12_isDead (by decide) kw1138 dX12_oneDay_14) (all_c (ok_if_eq dX12_oneDay_17 (by decide)) (all_c (ok_aload_n dX12_oneDay_20 rfl) (all_c (okg_X12_14 kw1069 dX12_oneDay_21) (all_c (ok_stk (s_bipush dX12_oneDay_24 (by decide))) (all_c (ok_iload_n dX12_oneDay_26 rfl) (all_c (ok_stk (s_iadd dX12_oneDay_27)) (all_c (ok_iald dX12_oneDay_28) (all_c (ok_aload_n dX12_oneDay_29 rfl) (all_c (okg_X12_14 kw1069 dX12_oneDay_30) (all_c (ok_stk (s_bipush dX12_oneDay_33 (by decide))) (all_c (ok_iald dX12_oneDay_35) (all_c (ok_aload_n dX12_oneDay_36 rfl) (all_c (okg_X12_14 kw1069 dX12_oneDay_37) (all_c (ok_stk (s_iconst dX12_oneDay_40 (by decide))) (all_c (ok_iald dX12_oneDay_41) (all_c (ok_stk (s_isub dX12_oneDay_42)) (all_c (ok_icmp_ne dX12_oneDay_43 (by decide)) (all_c (ok_aload_n dX12_oneDay_46 rfl) (all_c (ok_iload_n dX12_oneDay_47 rfl) (all_c (okc_X12_inherit (by decide) kw1208 dX12_oneDay_48) (all_c (ok_iinc dX12_oneDay_51 (by decide) (by decide)) (all_c (ok_goto dX12_oneDay_54 (by decide)) (all_c (ok_aload_n dX12_oneDay_57 rfl) (all_c (okg_X12_14 kw1069 dX12_oneDay_58) (all_c (ok_stk (s_bipush dX12_oneDay_61 (by decide))) (all_c (ok_stk (s_dup2 dX12_oneDay_63)) (all_c (ok_iald dX12_oneDay_64) (all_c (ok_stk (s_iconst dX12_oneDay_65 (by decide))) (all_c (ok_stk (s_iadd dX12_oneDay_66)) (all_c (ok_iast dX12_oneDay_67) (all_c (ok_vret dX12_oneDay_68) all_n)))))))))))))))))))))))))))))))))))))))))) n (fun h => by first | rfl | cases h))
theorem dX12_passDays_0 : decode cX12_passDays 0 = .ok (.iload_n 1, 1) := by decide +kernel
theorem dX12_passDays_1 : decode cX12_passDays 1 = .ok (.sipush 400, 3) := by decide +kernel
theorem dX12_passDays_4 : decode cX12_passDays 4 = .ok (.aload_n 0, 1) := by decide +kernel
theorem dX12_passDays_5 : decode cX12_passDays 5 = .ok (.getfield 98, 3) := by decide +kernel
theorem dX12_passDays_8 : decode cX12_passDays 8 = .ok (.bipush 94, 2) := by decide +kernel
theorem dX12_passDays_10 : decode cX12_passDays 10 = .ok (.iaload, 1) := by decide +kernel
theorem dX12_passDays_11 : decode cX12_passDays 11 = .ok (.isub, 1) := by decide +kernel
theorem dX12_passDays_12 : decode cX12_passDays 12 = .ok (.invokestatic 312, 3) := by decide +kernel
theorem dX12_passDays_15 : decode cX12_passDays 15 = .ok (.istore_n 2, 1) := by decide +kernel
theorem dX12_passDays_16 : decode cX12_passDays 16 = .ok (.iconst 0, 1) := by decide +kernel
theorem dX12_passDays_17 : decode cX12_passDays 17 = .ok (.istore_n 3, 1) := by decide +kernel
theorem dX12_passDays_18 : decode cX12_passDays 18 = .ok (.iload_n 3, 1) := by decide +kernel
theorem dX12_passDays_19 : decode cX12_passDays 19 = .ok (.iload_n 2, 1) := by decide +kernel
theorem dX12_passDays_20 : decode cX12_passDays 20 = .ok (.if_icmp .ge 13, 3) := by decide +kernel
theorem dX12_passDays_23 : decode cX12_passDays 23 = .ok (.aload_n 0, 1) := by decide +kernel
theorem dX12_passDays_24 : decode cX12_passDays 24 = .ok (.invokevirtual 364, 3) := by decide +kernel
theorem dX12_passDays_27 : decode cX12_passDays 27 = .ok (.iinc 3 1, 3) := by decide +kernel
theorem dX12_passDays_30 : decode cX12_passDays 30 = .ok (.goto (-12), 3) := by decide +kernel
theorem dX12_passDays_33 : decode cX12_passDays 33 = .ok (.iload_n 2, 1) := by decide +kernel
theorem dX12_passDays_34 : decode cX12_passDays 34 = .ok (.ireturn, 1) := by decide +kernel
theorem okc_X12_oneDay {kn : sKn} {cc : ByteArray} {own : String} {nL : Nat} {D : Nat} {ret : Option FieldType} {ini : Bool} {pc index : Nat} (hD : 4 + 1 ≤ D) (hl : Cond.methodLink own index yX12_oneDay ∈ wsL_law) (hd : decode cc pc = .ok (.invokevirtual index, 3)) : mOk kn cc own nL wsL_law D ret ini pc (a_callV true (fX12_oneDay kn) 13 (0 + 1) (pc + 3)) := ok_callV (mX12_oneDay kn) (good_ws ws_good (fun _ h => h) kw1209) hD (by decide) hl kw1210 kw1211 kw1072 ⟨by decide +kernel, by decide +kernel, by decide +kernel⟩ rfl hd
def tX12_passDays (kn : sKn) : List (Nat × sA) := [(0, a_iload 1 1), (1, a_stk (q_int 400) 4), (4, a_aload 0 5), (5, a_get 13 14 8), (8, a_stk (q_int 94) 10), (10, a_iald 11), (11, a_stk q_isub 12), (12, a_callS false (fX12_least kn) 2 15), (15, a_istore 2 16), (16, a_stk (q_int 0) 17), (17, a_istore 3 18), (18, a_iload 3 19), (19, a_iload 2 20), (20, a_icmp kn b_ge 3 33 23), (23, a_aload 0 24), (24, a_callV true (fX12_oneDay kn) 13 1 27), (27, a_iinc 3 1 30), (30, a_goto 18), (33, a_iload 2 34), (34, a_iret)]
def fX12_passDays (kn : sKn) : List Value → sW → Option sR := fW (tX12_passDays kn) 4
set_option maxRecDepth 100000 in
set_option maxHeartbeats 4000000 in
theorem mX12_passDays (kn : sKn) : mM kn yX12_passDays (Cond.code yX12_passDays cX12_passDays 4 (some .int) :: wsL_law) 5 false (fX12_passDays kn) := mM_W (fun n => mM_of (own := RX12) (ini := false) rfl (by decide +kernel) (by decide +kernel) (all_c (ok_iload_n dX12_passDays_0 rfl) (all_c (ok_stk (s_sipush dX12_passDays_1 (by decide))) (all_c (ok_aload_n dX12_passDays_4 rfl) (all_c (okg_X12_14 kw1069 dX12_passDays_5) (all_c (ok_stk (s_bipush dX12_passDays_8 (by decide))) (all_c (ok_iald dX12_passDays_10) (all_c (ok_stk (s_isub dX12_passDays_11)) (all_c (okc_X12_least (by decide) kw1101 dX12_passDays_12) (all_c (ok_istore_n dX12_passDays_15 rfl (by decide)) (all_c (ok_stk (s_iconst dX12_passDays_16 (by decide))) (all_c (ok_istore_n dX12_passDays_17 rfl (by decide)) (all_c (ok_iload_n dX12_passDays_18 rfl) (all_c (ok_iload_n dX12_passDays_19 rfl) (all_c (ok_icmp_ge dX12_passDays_20 (by decide)) (all_c (ok_aload_n dX12_passDays_23 rfl) (all_c (okc_X12_oneDay (by decide) kw1212 dX12_passDays_24) (all_c (ok_iinc dX12_passDays_27 (by decide) (by decide)) (all_c (ok_goto dX12_passDays_30 (by decide)) (all_c (ok_iload_n dX12_passDays_33 rfl) (all_c (ok_iret dX12_passDays_34) all_n)))))))))))))))))))) n (fun h => by first | rfl | cases h))
theorem dX12_live_0 : decode cX12_live 0 = .ok (.aload_n 0, 1) := by decide +kernel
theorem dX12_live_1 : decode cX12_live 1 = .ok (.getfield 175, 3) := by decide +kernel
theorem dX12_live_4 : decode cX12_live 4 = .ok (.iload_n 1, 1) := by decide +kernel
theorem dX12_live_5 : decode cX12_live 5 = .ok (.iconst 1, 1) := by decide +kernel
theorem dX12_live_6 : decode cX12_live 6 = .ok (.iadd, 1) := by decide +kernel
theorem dX12_live_7 : decode cX12_live 7 = .ok (.iaload, 1) := by decide +kernel
theorem dX12_live_8 : decode cX12_live 8 = .ok (.istore_n 2, 1) := by decide +kernel
theorem dX12_live_9 : decode cX12_live 9 = .ok (.iconst 3, 1) := by decide +kernel
theorem dX12_live_10 : decode cX12_live 10 = .ok (.aload_n 0, 1) := by decide +kernel
theorem dX12_live_11 : decode cX12_live 11 = .ok (.getfield 175, 3) := by decide +kernel
theorem dX12_live_14 : decode cX12_live 14 = .ok (.iload_n 1, 1) := by decide +kernel
theorem dX12_live_15 : decode cX12_live 15 = .ok (.iconst 2, 1) := by decide +kernel
theorem dX12_live_16 : decode cX12_live 16 = .ok (.iadd, 1) := by decide +kernel
theorem dX12_live_17 : decode cX12_live 17 = .ok (.iaload, 1) := by decide +kernel
theorem dX12_live_18 : decode cX12_live 18 = .ok (.imul, 1) := by decide +kernel
theorem dX12_live_19 : decode cX12_live 19 = .ok (.aload_n 0, 1) := by decide +kernel
theorem dX12_live_20 : decode cX12_live 20 = .ok (.getfield 175, 3) := by decide +kernel
theorem dX12_live_23 : decode cX12_live 23 = .ok (.iload_n 1, 1) := by decide +kernel
theorem dX12_live_24 : decode cX12_live 24 = .ok (.iconst 3, 1) := by decide +kernel
theorem dX12_live_25 : decode cX12_live 25 = .ok (.iadd, 1) := by decide +kernel
theorem dX12_live_26 : decode cX12_live 26 = .ok (.iaload, 1) := by decide +kernel
theorem dX12_live_27 : decode cX12_live 27 = .ok (.iadd, 1) := by decide +kernel
theorem dX12_live_28 : decode cX12_live 28 = .ok (.istore_n 3, 1) := by decide +kernel
theorem dX12_live_29 : decode cX12_live 29 = .ok (.aload_n 0, 1) := by decide +kernel
theorem dX12_live_30 : decode cX12_live 30 = .ok (.getfield 175, 3) := by decide +kernel
theorem dX12_live_33 : decode cX12_live 33 = .ok (.iload_n 1, 1) := by decide +kernel
theorem dX12_live_34 : decode cX12_live 34 = .ok (.iaload, 1) := by decide +kernel
theorem dX12_live_35 : decode cX12_live 35 = .ok (.tableswitch 91 0 5 #[37, 44, 50, 64, 78, 84], 37) := by decide +kernel
theorem dX12_live_72 : decode cX12_live 72 = .ok (.aload_n 0, 1) := by decide +kernel
theorem dX12_live_73 : decode cX12_live 73 = .ok (.iload_n 2, 1) := by decide +kernel
theorem dX12_live_74 : decode cX12_live 74 = .ok (.iload_n 3, 1) := by decide +kernel
theorem dX12_live_75 : decode cX12_live 75 = .ok (.invokevirtual 346, 3) := by decide +kernel
theorem dX12_live_78 : decode cX12_live 78 = .ok (.return_, 1) := by decide +kernel
theorem dX12_live_79 : decode cX12_live 79 = .ok (.aload_n 0, 1) := by decide +kernel
theorem dX12_live_80 : decode cX12_live 80 = .ok (.iload_n 3, 1) := by decide +kernel
theorem dX12_live_81 : decode cX12_live 81 = .ok (.invokevirtual 349, 3) := by decide +kernel
theorem dX12_live_84 : decode cX12_live 84 = .ok (.return_, 1) := by decide +kernel
theorem dX12_live_85 : decode cX12_live 85 = .ok (.aload_n 0, 1) := by decide +kernel
theorem dX12_live_86 : decode cX12_live 86 = .ok (.getfield 98, 3) := by decide +kernel
theorem dX12_live_89 : decode cX12_live 89 = .ok (.bipush 98, 2) := by decide +kernel
theorem dX12_live_91 : decode cX12_live 91 = .ok (.iload_n 2, 1) := by decide +kernel
theorem dX12_live_92 : decode cX12_live 92 = .ok (.iadd, 1) := by decide +kernel
theorem dX12_live_93 : decode cX12_live 93 = .ok (.dup2, 1) := by decide +kernel
theorem dX12_live_94 : decode cX12_live 94 = .ok (.iaload, 1) := by decide +kernel
theorem dX12_live_95 : decode cX12_live 95 = .ok (.iconst 2, 1) := by decide +kernel
theorem dX12_live_96 : decode cX12_live 96 = .ok (.idiv, 1) := by decide +kernel
theorem dX12_live_97 : decode cX12_live 97 = .ok (.iastore, 1) := by decide +kernel
theorem dX12_live_98 : decode cX12_live 98 = .ok (.return_, 1) := by decide +kernel
theorem dX12_live_99 : decode cX12_live 99 = .ok (.aload_n 0, 1) := by decide +kernel
theorem dX12_live_100 : decode cX12_live 100 = .ok (.getfield 98, 3) := by decide +kernel
theorem dX12_live_103 : decode cX12_live 103 = .ok (.bipush 98, 2) := by decide +kernel
theorem dX12_live_105 : decode cX12_live 105 = .ok (.iload_n 2, 1) := by decide +kernel
theorem dX12_live_106 : decode cX12_live 106 = .ok (.iadd, 1) := by decide +kernel
theorem dX12_live_107 : decode cX12_live 107 = .ok (.dup2, 1) := by decide +kernel
theorem dX12_live_108 : decode cX12_live 108 = .ok (.iaload, 1) := by decide +kernel
theorem dX12_live_109 : decode cX12_live 109 = .ok (.iconst 1, 1) := by decide +kernel
theorem dX12_live_110 : decode cX12_live 110 = .ok (.iadd, 1) := by decide +kernel
theorem dX12_live_111 : decode cX12_live 111 = .ok (.iastore, 1) := by decide +kernel
theorem dX12_live_112 : decode cX12_live 112 = .ok (.return_, 1) := by decide +kernel
theorem dX12_live_113 : decode cX12_live 113 = .ok (.aload_n 0, 1) := by decide +kernel
theorem dX12_live_114 : decode cX12_live 114 = .ok (.iload_n 2, 1) := by decide +kernel
theorem dX12_live_115 : decode cX12_live 115 = .ok (.invokevirtual 355, 3) := by decide +kernel
theorem dX12_live_118 : decode cX12_live 118 = .ok (.return_, 1) := by decide +kernel
theorem dX12_live_119 : decode cX12_live 119 = .ok (.aload_n 0, 1) := by decide +kernel
theorem dX12_live_120 : decode cX12_live 120 = .ok (.iload_n 2, 1) := by decide +kernel
theorem dX12_live_121 : decode cX12_live 121 = .ok (.invokevirtual 358, 3) := by decide +kernel
theorem dX12_live_124 : decode cX12_live 124 = .ok (.pop, 1) := by decide +kernel
theorem dX12_live_125 : decode cX12_live 125 = .ok (.return_, 1) := by decide +kernel
theorem dX12_live_126 : decode cX12_live 126 = .ok (.aload_n 0, 1) := by decide +kernel
theorem dX12_live_127 : decode cX12_live 127 = .ok (.aload_n 0, 1) := by decide +kernel
theorem dX12_live_128 : decode cX12_live 128 = .ok (.getfield 175, 3) := by decide +kernel
theorem dX12_live_131 : decode cX12_live 131 = .ok (.iload_n 1, 1) := by decide +kernel
theorem dX12_live_132 : decode cX12_live 132 = .ok (.iconst 2, 1) := by decide +kernel
theorem dX12_live_133 : decode cX12_live 133 = .ok (.iadd, 1) := by decide +kernel
theorem dX12_live_134 : decode cX12_live 134 = .ok (.iaload, 1) := by decide +kernel
theorem dX12_live_135 : decode cX12_live 135 = .ok (.invokevirtual 367, 3) := by decide +kernel
theorem dX12_live_138 : decode cX12_live 138 = .ok (.pop, 1) := by decide +kernel
theorem dX12_live_139 : decode cX12_live 139 = .ok (.return_, 1) := by decide +kernel
theorem okc_X12_doSign {kn : sKn} {cc : ByteArray} {own : String} {nL : Nat} {D : Nat} {ret : Option FieldType} {ini : Bool} {pc index : Nat} (hD : 1 + 1 ≤ D) (hl : Cond.methodLink own index yX12_doSign ∈ wsL_law) (hd : decode cc pc = .ok (.invokevirtual index, 3)) : mOk kn cc own nL wsL_law D ret ini pc (a_callV true (fX12_doSign kn) 13 (2 + 1) (pc + 3)) := ok_callV (mX12_doSign kn) (good_ws ws_good (fun _ h => h) kw1214) hD (by decide) hl kw1215 kw1216 kw1072 ⟨by decide +kernel, by decide +kernel, by decide +kernel⟩ rfl hd
theorem okc_X12_doBurn {kn : sKn} {cc : ByteArray} {own : String} {nL : Nat} {D : Nat} {ret : Option FieldType} {ini : Bool} {pc index : Nat} (hD : 3 + 1 ≤ D) (hl : Cond.methodLink own index yX12_doBurn ∈ wsL_law) (hd : decode cc pc = .ok (.invokevirtual index, 3)) : mOk kn cc own nL wsL_law D ret ini pc (a_callV true (fX12_doBurn kn) 13 (1 + 1) (pc + 3)) := ok_callV (mX12_doBurn kn) (good_ws ws_good (fun _ h => h) kw1218) hD (by decide) hl kw1219 kw1220 kw1072 ⟨by decide +kernel, by decide +kernel, by decide +kernel⟩ rfl hd
theorem okc_X12_doDie {kn : sKn} {cc : ByteArray} {own : String} {nL : Nat} {D : Nat} {ret : Option FieldType} {ini : Bool} {pc index : Nat} (hD : 1 + 1 ≤ D) (hl : Cond.methodLink own index yX12_doDie ∈ wsL_law) (hd : decode cc pc = .ok (.invokevirtual index, 3)) : mOk kn cc own nL wsL_law D ret ini pc (a_callV true (fX12_doDie kn) 13 (1 + 1) (pc + 3)) := ok_callV (mX12_doDie kn) (good_ws ws_good (fun _ h => h) kw1222) hD (by decide) hl kw1223 kw1224 kw1072 ⟨by decide +kernel, by decide +kernel, by decide +kernel⟩ rfl hd
theorem okc_X12_doCross {kn : sKn} {cc : ByteArray} {own : String} {nL : Nat} {D : Nat} {ret : Option FieldType} {ini : Bool} {pc index : Nat} (hD : 9 + 1 ≤ D) (hl : Cond.methodLink own index yX12_doCross ∈ wsL_law) (hd : decode cc pc = .ok (.invokevirtual index, 3)) : mOk kn cc own nL wsL_law D ret ini pc (a_callV false (fX12_doCross kn) 13 (1 + 1) (pc + 3)) := ok_callV (mX12_doCross kn) (good_ws ws_good (fun _ h => h) kw1226) hD (by decide) hl kw1227 kw1228 kw1072 ⟨by decide +kernel, by decide +kernel, by decide +kernel⟩ rfl hd
theorem okc_X12_passDays {kn : sKn} {cc : ByteArray} {own : String} {nL : Nat} {D : Nat} {ret : Option FieldType} {ini : Bool} {pc index : Nat} (hD : 5 + 1 ≤ D) (hl : Cond.methodLink own index yX12_passDays ∈ wsL_law) (hd : decode cc pc = .ok (.invokevirtual index, 3)) : mOk kn cc own nL wsL_law D ret ini pc (a_callV false (fX12_passDays kn) 13 (1 + 1) (pc + 3)) := ok_callV (mX12_passDays kn) (good_ws ws_good (fun _ h => h) kw1230) hD (by decide) hl kw1231 kw1232 kw1072 ⟨by decide +kernel, by decide +kernel, by decide +kernel⟩ rfl hd
def tX12_live (kn : sKn) : List (Nat × sA) := [(0, a_aload 0 1), (1, a_get 13 51 4), (4, a_iload 1 5), (5, a_stk (q_int 1) 6), (6, a_stk q_iadd 7), (7, a_iald 8), (8, a_istore 2 9), (9, a_stk (q_int 3) 10), (10, a_aload 0 11), (11, a_get 13 51 14), (14, a_iload 1 15), (15, a_stk (q_int 2) 16), (16, a_stk q_iadd 17), (17, a_iald 18), (18, a_stk q_imul 19), (19, a_aload 0 20), (20, a_get 13 51 23), (23, a_iload 1 24), (24, a_stk (q_int 3) 25), (25, a_stk q_iadd 26), (26, a_iald 27), (27, a_stk q_iadd 28), (28, a_istore 3 29), (29, a_aload 0 30), (30, a_get 13 51 33), (33, a_iload 1 34), (34, a_iald 35), (35, a_table kn 0 5 [72, 79, 85, 99, 113, 119] 126), (72, a_aload 0 73), (73, a_iload 2 74), (74, a_iload 3 75), (75, a_callV true (fX12_doSign kn) 13 3 78), (78, a_vret), (79, a_aload 0 80), (80, a_iload 3 81), (81, a_callV true (fX12_doBurn kn) 13 2 84), (84, a_vret), (85, a_aload 0 86), (86, a_get 13 14 89), (89, a_stk (q_int 98) 91), (91, a_iload 2 92), (92, a_stk q_iadd 93), (93, a_stk q_dup2 94), (94, a_iald 95), (95, a_stk (q_int 2) 96), (96, a_stk q_idiv 97), (97, a_iast 98), (98, a_vret), (99, a_aload 0 100), (100, a_get 13 14 103), (103, a_stk (q_int 98) 105), (105, a_iload 2 106), (106, a_stk q_iadd 107), (107, a_stk q_dup2 108), (108, a_iald 109), (109, a_stk (q_int 1) 110), (110, a_stk q_iadd 111), (111, a_iast 112), (112, a_vret), (113, a_aload 0 114), (114, a_iload 2 115), (115, a_callV true (fX12_doDie kn) 13 2 118), (118, a_vret), (119, a_aload 0 120), (120, a_iload 2 121), (121, a_callV false (fX12_doCross kn) 13 2 124), (124, a_stk q_pop 125), (125, a_vret), (126, a_aload 0 127), (127, a_aload 0 128), (128, a_get 13 51 131), (131, a_iload 1 132), (132, a_stk (q_int 2) 133), (133, a_stk q_iadd 134), (134, a_iald 135), (135, a_callV false (fX12_passDays kn) 13 2 138), (138, a_stk q_pop 139), (139, a_vret)]
def fX12_live (kn : sKn) : List Value → sW → Option sR := fW (tX12_live kn) 4
set_option maxRecDepth 100000 in
set_option maxHeartbeats 4000000 in
theorem mX12_live (kn : sKn) : mM kn yX12_live (Cond.code yX12_live cX12_live 4 none :: wsL_law) 10 true (fX12_live kn) := mM_W (fun n => mM_of (own := RX12) (ini := false) rfl (by decide +kernel) (by decide +kernel) (all_c (ok_aload_n dX12_live_0 rfl) (all_c (okg_X12_51 kw1213 dX12_live_1) (all_c (ok_iload_n dX12_live_4 rfl) (all_c (ok_stk (s_iconst dX12_live_5 (by decide))) (all_c (ok_stk (s_iadd dX12_live_6)) (all_c (ok_iald dX12_live_7) (all_c (ok_istore_n dX12_live_8 rfl (by decide)) (all_c (ok_stk (s_iconst dX12_live_9 (by decide))) (all_c (ok_aload_n dX12_live_10 rfl) (all_c (okg_X12_51 kw1213 dX12_live_11) (all_c (ok_iload_n dX12_live_14 rfl) (all_c (ok_stk (s_iconst dX12_live_15 (by decide))) (all_c (ok_stk (s_iadd dX12_live_16)) (all_c (ok_iald dX12_live_17) (all_c (ok_stk (s_imul dX12_live_18)) (all_c (ok_aload_n dX12_live_19 rfl) (all_c (okg_X12_51 kw1213 dX12_live_20) (all_c (ok_iload_n dX12_live_23 rfl) (all_c (ok_stk (s_iconst dX12_live_24 (by decide))) (all_c (ok_stk (s_iadd dX12_live_25)) (all_c (ok_iald dX12_live_26) (all_c (ok_stk (s_iadd dX12_live_27)) (all_c (ok_istore_n dX12_live_28 rfl (by decide)) (all_c (ok_aload_n dX12_live_29 rfl) (all_c (okg_X12_51 kw1213 dX12_live_30) (all_c (ok_iload_n dX12_live_33 rfl) (all_c (ok_iald dX12_live_34) (all_c (ok_table dX12_live_35 (by decide) (by decide) (by decide) (by decide)) (all_c (ok_aload_n dX12_live_72 rfl) (all_c (ok_iload_n dX12_live_73 rfl) (all_c (ok_iload_n dX12_live_74 rfl) (all_c (okc_X12_doSign (by decide) kw1217 dX12_live_75) (all_c (ok_vret dX12_live_78) (all_c (ok_aload_n dX12_live_79 rfl) (all_c (ok_iload_n dX12_live_80 rfl) (all_c (okc_X12_doBurn (by decide) kw1221 dX12_live_81) (all_c (ok_vret dX12_live_84) (all_c (ok_aload_n dX12_live_85 rfl) (all_c (okg_X12_14 kw1069 dX12_live_86) (all_c (ok_stk (s_bipush dX12_live_89 (by decide))) (all_c (ok_iload_n dX12_live_91 rfl) (all_c (ok_stk (s_iadd dX12_live_92)) (all_c (ok_stk (s_dup2 dX12_live_93)) (all_c (ok_iald dX12_live_94) (all_c (ok_stk (s_iconst dX12_live_95 (by decide))) (all_c (ok_stk (s_idiv dX12_live_96)) (all_c (ok_iast dX12_live_97) (all_c (ok_vret dX12_live_98) (all_c (ok_aload_n dX12_live_99 rfl) (all_c (okg_X12_14 kw1069 dX12_live_100) (all_c (ok_stk (s_bipush dX12_live_103 (by decide))) (all_c (ok_iload_n dX12_live_105 rfl) (all_c (ok_stk (s_iadd dX12_live_106)) (all_c (ok_stk (s_dup2 dX12_live_107)) (all_c (ok_iald dX12_live_108) (all_c (ok_stk (s_iconst dX12_live_109 (by decide))) (all_c (ok_stk (s_iadd dX12_live_110)) (all_c (ok_iast dX12_live_111) (all_c (ok_vret dX12_live_112) (all_c (ok_aload_n dX12_live_113 rfl) (all_c (ok_iload_n dX12_live_114 rfl) (all_c (okc_X12_doDie (by decide) kw1225 dX12_live_115) (all_c (ok_vret dX12_live_118) (all_c (ok_aload_n dX12_live_119 rfl) (all_c (ok_iload_n dX12_live_120 rfl) (all_c (okc_X12_doCross (by decide) kw1229 dX12_live_121) (all_c (ok_stk (s_pop dX12_live_124)) (all_c (ok_vret dX12_live_125) (all_c (ok_aload_n dX12_live_126 rfl) (all_c (ok_aload_n dX12_live_127 rfl) (all_c (okg_X12_51 kw1213 dX12_live_128) (all_c (ok_iload_n dX12_live_131 rfl) (all_c (ok_stk (s_iconst dX12_live_132 (by decide))) (all_c (ok_stk (s_iadd dX12_live_133)) (all_c (ok_iald dX12_live_134) (all_c (okc_X12_passDays (by decide) kw1233 dX12_live_135) (all_c (ok_stk (s_pop dX12_live_138)) (all_c (ok_vret dX12_live_139) all_n)))))))))))))))))))))))))))))))))))))))))))))))))))))))))))))))))))))))))))))) n (fun h => by first | rfl | cases h))
theorem dX12_findIn_0 : decode cX12_findIn 0 = .ok (.iconst 0, 1) := by decide +kernel
theorem dX12_findIn_1 : decode cX12_findIn 1 = .ok (.istore 5, 2) := by decide +kernel
theorem dX12_findIn_3 : decode cX12_findIn 3 = .ok (.iload 5, 2) := by decide +kernel
theorem dX12_findIn_5 : decode cX12_findIn 5 = .ok (.iload_n 2, 1) := by decide +kernel
theorem dX12_findIn_6 : decode cX12_findIn 6 = .ok (.if_icmp .ge 23, 3) := by decide +kernel
theorem dX12_findIn_9 : decode cX12_findIn 9 = .ok (.aload_n 0, 1) := by decide +kernel
theorem dX12_findIn_10 : decode cX12_findIn 10 = .ok (.iload_n 1, 1) := by decide +kernel
theorem dX12_findIn_11 : decode cX12_findIn 11 = .ok (.iload 5, 2) := by decide +kernel
theorem dX12_findIn_13 : decode cX12_findIn 13 = .ok (.iadd, 1) := by decide +kernel
theorem dX12_findIn_14 : decode cX12_findIn 14 = .ok (.laload, 1) := by decide +kernel
theorem dX12_findIn_15 : decode cX12_findIn 15 = .ok (.lload_n 3, 1) := by decide +kernel
theorem dX12_findIn_16 : decode cX12_findIn 16 = .ok (.lcmp, 1) := by decide +kernel
theorem dX12_findIn_17 : decode cX12_findIn 17 = .ok (.ifCond .ne 6, 3) := by decide +kernel
theorem dX12_findIn_20 : decode cX12_findIn 20 = .ok (.iload 5, 2) := by decide +kernel
theorem dX12_findIn_22 : decode cX12_findIn 22 = .ok (.ireturn, 1) := by decide +kernel
theorem dX12_findIn_23 : decode cX12_findIn 23 = .ok (.iinc 5 1, 3) := by decide +kernel
theorem dX12_findIn_26 : decode cX12_findIn 26 = .ok (.goto (-23), 3) := by decide +kernel
theorem dX12_findIn_29 : decode cX12_findIn 29 = .ok (.iconst (-1), 1) := by decide +kernel
theorem dX12_findIn_30 : decode cX12_findIn 30 = .ok (.ireturn, 1) := by decide +kernel
def tX12_findIn (kn : sKn) : List (Nat × sA) := [(0, a_stk (q_int 0) 1), (1, a_istore 5 3), (3, a_iload 5 5), (5, a_iload 2 6), (6, a_icmp kn b_ge 3 29 9), (9, a_aload 0 10), (10, a_iload 1 11), (11, a_iload 5 13), (13, a_stk q_iadd 14), (14, a_lald 15), (15, a_lload 3 16), (16, a_stk q_lcmp 17), (17, a_if kn b_ne 1 23 20), (20, a_iload 5 22), (22, a_iret), (23, a_iinc 5 1 26), (26, a_goto 3), (29, a_stk (q_int (-1)) 30), (30, a_iret)]
def fX12_findIn (kn : sKn) : List Value → sW → Option sR := fW (tX12_findIn kn) 6
set_option maxRecDepth 100000 in
set_option maxHeartbeats 4000000 in
theorem mX12_findIn (kn : sKn) : mM kn yX12_findIn (Cond.code yX12_findIn cX12_findIn 6 (some .int) :: wsL_law) 1 false (fX12_findIn kn) := mM_W (fun n => mM_of (own := RX12) (ini := false) rfl (by decide +kernel) (by decide +kernel) (all_c (ok_stk (s_iconst dX12_findIn_0 (by decide))) (all_c (ok_istore dX12_findIn_1 (by decide)) (all_c (ok_iload dX12_findIn_3) (all_c (ok_iload_n dX12_findIn_5 rfl) (all_c (ok_icmp_ge dX12_findIn_6 (by decide)) (all_c (ok_aload_n dX12_findIn_9 rfl) (all_c (ok_iload_n dX12_findIn_10 rfl) (all_c (ok_iload dX12_findIn_11) (all_c (ok_stk (s_iadd dX12_findIn_13)) (all_c (ok_lald dX12_findIn_14) (all_c (ok_lload_n dX12_findIn_15 rfl) (all_c (ok_stk (s_lcmp dX12_findIn_16)) (all_c (ok_if_ne dX12_findIn_17 (by decide)) (all_c (ok_iload dX12_findIn_20) (all_c (ok_iret dX12_findIn_22) (all_c (ok_iinc dX12_findIn_23 (by decide) (by decide)) (all_c (ok_goto dX12_findIn_26 (by decide)) (all_c (ok_stk (s_iconst dX12_findIn_29 (by decide))) (all_c (ok_iret dX12_findIn_30) all_n))))))))))))))))))) n (fun h => by first | rfl | cases h))
theorem dX12_spelt_0 : decode cX12_spelt 0 = .ok (.ldc2_w 54, 3) := by decide +kernel
theorem dX12_spelt_3 : decode cX12_spelt 3 = .ok (.iload_n 0, 1) := by decide +kernel
theorem dX12_spelt_4 : decode cX12_spelt 4 = .ok (.i2l, 1) := by decide +kernel
theorem dX12_spelt_5 : decode cX12_spelt 5 = .ok (.ldc2_w 56, 3) := by decide +kernel
theorem dX12_spelt_8 : decode cX12_spelt 8 = .ok (.lsub, 1) := by decide +kernel
theorem dX12_spelt_9 : decode cX12_spelt 9 = .ok (.lmul, 1) := by decide +kernel
theorem dX12_spelt_10 : decode cX12_spelt 10 = .ok (.iload_n 1, 1) := by decide +kernel
theorem dX12_spelt_11 : decode cX12_spelt 11 = .ok (.i2l, 1) := by decide +kernel
theorem dX12_spelt_12 : decode cX12_spelt 12 = .ok (.ladd, 1) := by decide +kernel
theorem dX12_spelt_13 : decode cX12_spelt 13 = .ok (.ldc2_w 56, 3) := by decide +kernel
theorem dX12_spelt_16 : decode cX12_spelt 16 = .ok (.lsub, 1) := by decide +kernel
theorem dX12_spelt_17 : decode cX12_spelt 17 = .ok (.lstore 7, 2) := by decide +kernel
theorem dX12_spelt_19 : decode cX12_spelt 19 = .ok (.iload_n 2, 1) := by decide +kernel
theorem dX12_spelt_20 : decode cX12_spelt 20 = .ok (.ifCond .le 18, 3) := by decide +kernel
theorem dX12_spelt_23 : decode cX12_spelt 23 = .ok (.ldc2_w 54, 3) := by decide +kernel
theorem dX12_spelt_26 : decode cX12_spelt 26 = .ok (.lload 7, 2) := by decide +kernel
theorem dX12_spelt_28 : decode cX12_spelt 28 = .ok (.lmul, 1) := by decide +kernel
theorem dX12_spelt_29 : decode cX12_spelt 29 = .ok (.iload_n 2, 1) := by decide +kernel
theorem dX12_spelt_30 : decode cX12_spelt 30 = .ok (.i2l, 1) := by decide +kernel
theorem dX12_spelt_31 : decode cX12_spelt 31 = .ok (.ladd, 1) := by decide +kernel
theorem dX12_spelt_32 : decode cX12_spelt 32 = .ok (.ldc2_w 56, 3) := by decide +kernel
theorem dX12_spelt_35 : decode cX12_spelt 35 = .ok (.lsub, 1) := by decide +kernel
theorem dX12_spelt_36 : decode cX12_spelt 36 = .ok (.lstore 7, 2) := by decide +kernel
theorem dX12_spelt_38 : decode cX12_spelt 38 = .ok (.iload_n 3, 1) := by decide +kernel
theorem dX12_spelt_39 : decode cX12_spelt 39 = .ok (.ifCond .le 18, 3) := by decide +kernel
theorem dX12_spelt_42 : decode cX12_spelt 42 = .ok (.ldc2_w 54, 3) := by decide +kernel
theorem dX12_spelt_45 : decode cX12_spelt 45 = .ok (.lload 7, 2) := by decide +kernel
theorem dX12_spelt_47 : decode cX12_spelt 47 = .ok (.lmul, 1) := by decide +kernel
theorem dX12_spelt_48 : decode cX12_spelt 48 = .ok (.iload_n 3, 1) := by decide +kernel
theorem dX12_spelt_49 : decode cX12_spelt 49 = .ok (.i2l, 1) := by decide +kernel
theorem dX12_spelt_50 : decode cX12_spelt 50 = .ok (.ladd, 1) := by decide +kernel
theorem dX12_spelt_51 : decode cX12_spelt 51 = .ok (.ldc2_w 56, 3) := by decide +kernel
theorem dX12_spelt_54 : decode cX12_spelt 54 = .ok (.lsub, 1) := by decide +kernel
theorem dX12_spelt_55 : decode cX12_spelt 55 = .ok (.lstore 7, 2) := by decide +kernel
theorem dX12_spelt_57 : decode cX12_spelt 57 = .ok (.iload 4, 2) := by decide +kernel
theorem dX12_spelt_59 : decode cX12_spelt 59 = .ok (.ifCond .le 19, 3) := by decide +kernel
theorem dX12_spelt_62 : decode cX12_spelt 62 = .ok (.ldc2_w 54, 3) := by decide +kernel
theorem dX12_spelt_65 : decode cX12_spelt 65 = .ok (.lload 7, 2) := by decide +kernel
theorem dX12_spelt_67 : decode cX12_spelt 67 = .ok (.lmul, 1) := by decide +kernel
theorem dX12_spelt_68 : decode cX12_spelt 68 = .ok (.iload 4, 2) := by decide +kernel
theorem dX12_spelt_70 : decode cX12_spelt 70 = .ok (.i2l, 1) := by decide +kernel
theorem dX12_spelt_71 : decode cX12_spelt 71 = .ok (.ladd, 1) := by decide +kernel
theorem dX12_spelt_72 : decode cX12_spelt 72 = .ok (.ldc2_w 56, 3) := by decide +kernel
theorem dX12_spelt_75 : decode cX12_spelt 75 = .ok (.lsub, 1) := by decide +kernel
theorem dX12_spelt_76 : decode cX12_spelt 76 = .ok (.lstore 7, 2) := by decide +kernel
theorem dX12_spelt_78 : decode cX12_spelt 78 = .ok (.iload 5, 2) := by decide +kernel
theorem dX12_spelt_80 : decode cX12_spelt 80 = .ok (.ifCond .le 19, 3) := by decide +kernel
theorem dX12_spelt_83 : decode cX12_spelt 83 = .ok (.ldc2_w 54, 3) := by decide +kernel
theorem dX12_spelt_86 : decode cX12_spelt 86 = .ok (.lload 7, 2) := by decide +kernel
theorem dX12_spelt_88 : decode cX12_spelt 88 = .ok (.lmul, 1) := by decide +kernel
theorem dX12_spelt_89 : decode cX12_spelt 89 = .ok (.iload 5, 2) := by decide +kernel
theorem dX12_spelt_91 : decode cX12_spelt 91 = .ok (.i2l, 1) := by decide +kernel
theorem dX12_spelt_92 : decode cX12_spelt 92 = .ok (.ladd, 1) := by decide +kernel
theorem dX12_spelt_93 : decode cX12_spelt 93 = .ok (.ldc2_w 56, 3) := by decide +kernel
theorem dX12_spelt_96 : decode cX12_spelt 96 = .ok (.lsub, 1) := by decide +kernel
theorem dX12_spelt_97 : decode cX12_spelt 97 = .ok (.lstore 7, 2) := by decide +kernel
theorem dX12_spelt_99 : decode cX12_spelt 99 = .ok (.iload 6, 2) := by decide +kernel
theorem dX12_spelt_101 : decode cX12_spelt 101 = .ok (.ifCond .le 19, 3) := by decide +kernel
theorem dX12_spelt_104 : decode cX12_spelt 104 = .ok (.ldc2_w 54, 3) := by decide +kernel
theorem dX12_spelt_107 : decode cX12_spelt 107 = .ok (.lload 7, 2) := by decide +kernel
theorem dX12_spelt_109 : decode cX12_spelt 109 = .ok (.lmul, 1) := by decide +kernel
theorem dX12_spelt_110 : decode cX12_spelt 110 = .ok (.iload 6, 2) := by decide +kernel
theorem dX12_spelt_112 : decode cX12_spelt 112 = .ok (.i2l, 1) := by decide +kernel
theorem dX12_spelt_113 : decode cX12_spelt 113 = .ok (.ladd, 1) := by decide +kernel
theorem dX12_spelt_114 : decode cX12_spelt 114 = .ok (.ldc2_w 56, 3) := by decide +kernel
theorem dX12_spelt_117 : decode cX12_spelt 117 = .ok (.lsub, 1) := by decide +kernel
theorem dX12_spelt_118 : decode cX12_spelt 118 = .ok (.lstore 7, 2) := by decide +kernel
theorem dX12_spelt_120 : decode cX12_spelt 120 = .ok (.lload 7, 2) := by decide +kernel
theorem dX12_spelt_122 : decode cX12_spelt 122 = .ok (.lreturn, 1) := by decide +kernel
def tX12_spelt (kn : sKn) : List (Nat × sA) := [(0, a_stk (q_long (27)) 3), (3, a_iload 0 4), (4, a_stk q_i2l 5), (5, a_stk (q_long (96)) 8), (8, a_stk q_lsub 9), (9, a_stk q_lmul 10), (10, a_iload 1 11), (11, a_stk q_i2l 12), (12, a_stk q_ladd 13), (13, a_stk (q_long (96)) 16), (16, a_stk q_lsub 17), (17, a_lstore 7 19), (19, a_iload 2 20), (20, a_if kn b_le 5 38 23), (23, a_stk (q_long (27)) 26), (26, a_lload 7 28), (28, a_stk q_lmul 29), (29, a_iload 2 30), (30, a_stk q_i2l 31), (31, a_stk q_ladd 32), (32, a_stk (q_long (96)) 35), (35, a_stk q_lsub 36), (36, a_lstore 7 38), (38, a_iload 3 39), (39, a_if kn b_le 5 57 42), (42, a_stk (q_long (27)) 45), (45, a_lload 7 47), (47, a_stk q_lmul 48), (48, a_iload 3 49), (49, a_stk q_i2l 50), (50, a_stk q_ladd 51), (51, a_stk (q_long (96)) 54), (54, a_stk q_lsub 55), (55, a_lstore 7 57), (57, a_iload 4 59), (59, a_if kn b_le 5 78 62), (62, a_stk (q_long (27)) 65), (65, a_lload 7 67), (67, a_stk q_lmul 68), (68, a_iload 4 70), (70, a_stk q_i2l 71), (71, a_stk q_ladd 72), (72, a_stk (q_long (96)) 75), (75, a_stk q_lsub 76), (76, a_lstore 7 78), (78, a_iload 5 80), (80, a_if kn b_le 5 99 83), (83, a_stk (q_long (27)) 86), (86, a_lload 7 88), (88, a_stk q_lmul 89), (89, a_iload 5 91), (91, a_stk q_i2l 92), (92, a_stk q_ladd 93), (93, a_stk (q_long (96)) 96), (96, a_stk q_lsub 97), (97, a_lstore 7 99), (99, a_iload 6 101), (101, a_if kn b_le 5 120 104), (104, a_stk (q_long (27)) 107), (107, a_lload 7 109), (109, a_stk q_lmul 110), (110, a_iload 6 112), (112, a_stk q_i2l 113), (113, a_stk q_ladd 114), (114, a_stk (q_long (96)) 117), (117, a_stk q_lsub 118), (118, a_lstore 7 120), (120, a_lload 7 122), (122, a_lret)]
def fX12_spelt (kn : sKn) : List Value → sW → Option sR := fW (tX12_spelt kn) 9
set_option maxRecDepth 100000 in
set_option maxHeartbeats 4000000 in
theorem mX12_spelt (kn : sKn) : mM kn yX12_spelt (Cond.code yX12_spelt cX12_spelt 9 (some .long) :: wsL_law) 1 false (fX12_spelt kn) := mM_W (fun n => mM_of (own := RX12) (ini := false) rfl (by decide +kernel) (by decide +kernel) (all_c (ok_ldc2 kw1169 dX12_spelt_0) (all_c (ok_iload_n dX12_spelt_3 rfl) (all_c (ok_stk (s_i2l dX12_spelt_4)) (all_c (ok_ldc2 kw1170 dX12_spelt_5) (all_c (ok_stk (s_lsub dX12_spelt_8)) (all_c (ok_stk (s_lmul dX12_spelt_9)) (all_c (ok_iload_n dX12_spelt_10 rfl) (all_c (ok_stk (s_i2l dX12_spelt_11)) (all_c (ok_stk (s_ladd dX12_spelt_12)) (all_c (ok_ldc2 kw1170 dX12_spelt_13) (all_c (ok_stk (s_lsub dX12_spelt_16)) (all_c (ok_lstore dX12_spelt_17 (by decide)) (all_c (ok_iload_n dX12_spelt_19 rfl) (all_c (ok_if_le dX12_spelt_20 (by decide)) (all_c (ok_ldc2 kw1169 dX12_spelt_23) (all_c (ok_lload dX12_spelt_26) (all_c (ok_stk (s_lmul dX12_spelt_28)) (all_c (ok_iload_n dX12_spelt_29 rfl) (all_c (ok_stk (s_i2l dX12_spelt_30)) (all_c (ok_stk (s_ladd dX12_spelt_31)) (all_c (ok_ldc2 kw1170 dX12_spelt_32) (all_c (ok_stk (s_lsub dX12_spelt_35)) (all_c (ok_lstore dX12_spelt_36 (by decide)) (all_c (ok_iload_n dX12_spelt_38 rfl) (all_c (ok_if_le dX12_spelt_39 (by decide)) (all_c (ok_ldc2 kw1169 dX12_spelt_42) (all_c (ok_lload dX12_spelt_45) (all_c (ok_stk (s_lmul dX12_spelt_47)) (all_c (ok_iload_n dX12_spelt_48 rfl) (all_c (ok_stk (s_i2l dX12_spelt_49)) (all_c (ok_stk (s_ladd dX12_spelt_50)) (all_c (ok_ldc2 kw1170 dX12_spelt_51) (all_c (ok_stk (s_lsub dX12_spelt_54)) (all_c (ok_lstore dX12_spelt_55 (by decide)) (all_c (ok_iload dX12_spelt_57) (all_c (ok_if_le dX12_spelt_59 (by decide)) (all_c (ok_ldc2 kw1169 dX12_spelt_62) (all_c (ok_lload dX12_spelt_65) (all_c (ok_stk (s_lmul dX12_spelt_67)) (all_c (ok_iload dX12_spelt_68) (all_c (ok_stk (s_i2l dX12_spelt_70)) (all_c (ok_stk (s_ladd dX12_spelt_71)) (all_c (ok_ldc2 kw1170 dX12_spelt_72) (all_c (ok_stk (s_lsub dX12_spelt_75)) (all_c (ok_lstore dX12_spelt_76 (by decide)) (all_c (ok_iload dX12_spelt_78) (all_c (ok_if_le dX12_spelt_80 (by decide)) (all_c (ok_ldc2 kw1169 dX12_spelt_83) (all_c (ok_lload dX12_spelt_86) (all_c (ok_stk (s_lmul dX12_spelt_88)) (all_c (ok_iload dX12_spelt_89) (all_c (ok_stk (s_i2l dX12_spelt_91)) (all_c (ok_stk (s_ladd dX12_spelt_92)) (all_c (ok_ldc2 kw1170 dX12_spelt_93) (all_c (ok_stk (s_lsub dX12_spelt_96)) (all_c (ok_lstore dX12_spelt_97 (by decide)) (all_c (ok_iload dX12_spelt_99) (all_c (ok_if_le dX12_spelt_101 (by decide)) (all_c (ok_ldc2 kw1169 dX12_spelt_104) (all_c (ok_lload dX12_spelt_107) (all_c (ok_stk (s_lmul dX12_spelt_109)) (all_c (ok_iload dX12_spelt_110) (all_c (ok_stk (s_i2l dX12_spelt_112)) (all_c (ok_stk (s_ladd dX12_spelt_113)) (all_c (ok_ldc2 kw1170 dX12_spelt_114) (all_c (ok_stk (s_lsub dX12_spelt_117)) (all_c (ok_lstore dX12_spelt_118 (by decide)) (all_c (ok_lload dX12_spelt_120) (all_c (ok_lret dX12_spelt_122) all_n))))))))))))))))))))))))))))))))))))))))))))))))))))))))))))))))))))) n (fun h => by first | rfl | cases h))
theorem dX12_wordOf_0 : decode cX12_wordOf 0 = .ok (.iload_n 0, 1) := by decide +kernel
theorem dX12_wordOf_1 : decode cX12_wordOf 1 = .ok (.tableswitch 530 0 25 #[119, 134, 151, 168, 183, 200, 216, 231, 247, 263, 280, 296, 311, 327, 345, 359, 372, 386, 400, 415, 432, 448, 466, 479, 497, 514], 119) := by decide +kernel
theorem dX12_wordOf_120 : decode cX12_wordOf 120 = .ok (.bipush 114, 2) := by decide +kernel
theorem dX12_wordOf_122 : decode cX12_wordOf 122 = .ok (.bipush 111, 2) := by decide +kernel
theorem dX12_wordOf_124 : decode cX12_wordOf 124 = .ok (.bipush 119, 2) := by decide +kernel
theorem dX12_wordOf_126 : decode cX12_wordOf 126 = .ok (.bipush 115, 2) := by decide +kernel
theorem dX12_wordOf_128 : decode cX12_wordOf 128 = .ok (.iconst 0, 1) := by decide +kernel
theorem dX12_wordOf_129 : decode cX12_wordOf 129 = .ok (.iconst 0, 1) := by decide +kernel
theorem dX12_wordOf_130 : decode cX12_wordOf 130 = .ok (.iconst 0, 1) := by decide +kernel
theorem dX12_wordOf_131 : decode cX12_wordOf 131 = .ok (.invokestatic 58, 3) := by decide +kernel
theorem dX12_wordOf_134 : decode cX12_wordOf 134 = .ok (.lreturn, 1) := by decide +kernel
theorem dX12_wordOf_135 : decode cX12_wordOf 135 = .ok (.bipush 115, 2) := by decide +kernel
theorem dX12_wordOf_137 : decode cX12_wordOf 137 = .ok (.bipush 105, 2) := by decide +kernel
theorem dX12_wordOf_139 : decode cX12_wordOf 139 = .ok (.bipush 103, 2) := by decide +kernel
theorem dX12_wordOf_141 : decode cX12_wordOf 141 = .ok (.bipush 110, 2) := by decide +kernel
theorem dX12_wordOf_143 : decode cX12_wordOf 143 = .ok (.bipush 101, 2) := by decide +kernel
theorem dX12_wordOf_145 : decode cX12_wordOf 145 = .ok (.bipush 114, 2) := by decide +kernel
theorem dX12_wordOf_147 : decode cX12_wordOf 147 = .ok (.iconst 0, 1) := by decide +kernel
theorem dX12_wordOf_148 : decode cX12_wordOf 148 = .ok (.invokestatic 58, 3) := by decide +kernel
theorem dX12_wordOf_151 : decode cX12_wordOf 151 = .ok (.lreturn, 1) := by decide +kernel
theorem dX12_wordOf_152 : decode cX12_wordOf 152 = .ok (.bipush 102, 2) := by decide +kernel
theorem dX12_wordOf_154 : decode cX12_wordOf 154 = .ok (.bipush 111, 2) := by decide +kernel
theorem dX12_wordOf_156 : decode cX12_wordOf 156 = .ok (.bipush 114, 2) := by decide +kernel
theorem dX12_wordOf_158 : decode cX12_wordOf 158 = .ok (.bipush 103, 2) := by decide +kernel
theorem dX12_wordOf_160 : decode cX12_wordOf 160 = .ok (.bipush 101, 2) := by decide +kernel
theorem dX12_wordOf_162 : decode cX12_wordOf 162 = .ok (.bipush 114, 2) := by decide +kernel
theorem dX12_wordOf_164 : decode cX12_wordOf 164 = .ok (.iconst 0, 1) := by decide +kernel
theorem dX12_wordOf_165 : decode cX12_wordOf 165 = .ok (.invokestatic 58, 3) := by decide +kernel
theorem dX12_wordOf_168 : decode cX12_wordOf 168 = .ok (.lreturn, 1) := by decide +kernel
theorem dX12_wordOf_169 : decode cX12_wordOf 169 = .ok (.bipush 104, 2) := by decide +kernel
theorem dX12_wordOf_171 : decode cX12_wordOf 171 = .ok (.bipush 101, 2) := by decide +kernel
theorem dX12_wordOf_173 : decode cX12_wordOf 173 = .ok (.bipush 105, 2) := by decide +kernel
theorem dX12_wordOf_175 : decode cX12_wordOf 175 = .ok (.bipush 114, 2) := by decide +kernel
theorem dX12_wordOf_177 : decode cX12_wordOf 177 = .ok (.iconst 0, 1) := by decide +kernel
theorem dX12_wordOf_178 : decode cX12_wordOf 178 = .ok (.iconst 0, 1) := by decide +kernel
theorem dX12_wordOf_179 : decode cX12_wordOf 179 = .ok (.iconst 0, 1) := by decide +kernel
theorem dX12_wordOf_180 : decode cX12_wordOf 180 = .ok (.invokestatic 58, 3) := by decide +kernel
theorem dX12_wordOf_183 : decode cX12_wordOf 183 = .ok (.lreturn, 1) := by decide +kernel
theorem dX12_wordOf_184 : decode cX12_wordOf 184 = .ok (.bipush 108, 2) := by decide +kernel
theorem dX12_wordOf_186 : decode cX12_wordOf 186 = .ok (.bipush 111, 2) := by decide +kernel
theorem dX12_wordOf_188 : decode cX12_wordOf 188 = .ok (.bipush 118, 2) := by decide +kernel
theorem dX12_wordOf_190 : decode cX12_wordOf 190 = .ok (.bipush 101, 2) := by decide +kernel
theorem dX12_wordOf_192 : decode cX12_wordOf 192 = .ok (.bipush 114, 2) := by decide +kernel
theorem dX12_wordOf_194 : decode cX12_wordOf 194 = .ok (.bipush 115, 2) := by decide +kernel
theorem dX12_wordOf_196 : decode cX12_wordOf 196 = .ok (.iconst 0, 1) := by decide +kernel
theorem dX12_wordOf_197 : decode cX12_wordOf 197 = .ok (.invokestatic 58, 3) := by decide +kernel
theorem dX12_wordOf_200 : decode cX12_wordOf 200 = .ok (.lreturn, 1) := by decide +kernel
theorem dX12_wordOf_201 : decode cX12_wordOf 201 = .ok (.bipush 112, 2) := by decide +kernel
theorem dX12_wordOf_203 : decode cX12_wordOf 203 = .ok (.bipush 108, 2) := by decide +kernel
theorem dX12_wordOf_205 : decode cX12_wordOf 205 = .ok (.bipush 97, 2) := by decide +kernel
theorem dX12_wordOf_207 : decode cX12_wordOf 207 = .ok (.bipush 110, 2) := by decide +kernel
theorem dX12_wordOf_209 : decode cX12_wordOf 209 = .ok (.bipush 107, 2) := by decide +kernel
theorem dX12_wordOf_211 : decode cX12_wordOf 211 = .ok (.iconst 0, 1) := by decide +kernel
theorem dX12_wordOf_212 : decode cX12_wordOf 212 = .ok (.iconst 0, 1) := by decide +kernel
theorem dX12_wordOf_213 : decode cX12_wordOf 213 = .ok (.invokestatic 58, 3) := by decide +kernel
theorem dX12_wordOf_216 : decode cX12_wordOf 216 = .ok (.lreturn, 1) := by decide +kernel
theorem dX12_wordOf_217 : decode cX12_wordOf 217 = .ok (.bipush 108, 2) := by decide +kernel
theorem dX12_wordOf_219 : decode cX12_wordOf 219 = .ok (.bipush 111, 2) := by decide +kernel
theorem dX12_wordOf_221 : decode cX12_wordOf 221 = .ok (.bipush 97, 2) := by decide +kernel
theorem dX12_wordOf_223 : decode cX12_wordOf 223 = .ok (.bipush 100, 2) := by decide +kernel
theorem dX12_wordOf_225 : decode cX12_wordOf 225 = .ok (.iconst 0, 1) := by decide +kernel
theorem dX12_wordOf_226 : decode cX12_wordOf 226 = .ok (.iconst 0, 1) := by decide +kernel
theorem dX12_wordOf_227 : decode cX12_wordOf 227 = .ok (.iconst 0, 1) := by decide +kernel
theorem dX12_wordOf_228 : decode cX12_wordOf 228 = .ok (.invokestatic 58, 3) := by decide +kernel
theorem dX12_wordOf_231 : decode cX12_wordOf 231 = .ok (.lreturn, 1) := by decide +kernel
theorem dX12_wordOf_232 : decode cX12_wordOf 232 = .ok (.bipush 107, 2) := by decide +kernel
theorem dX12_wordOf_234 : decode cX12_wordOf 234 = .ok (.bipush 101, 2) := by decide +kernel
theorem dX12_wordOf_236 : decode cX12_wordOf 236 = .ok (.bipush 101, 2) := by decide +kernel
theorem dX12_wordOf_238 : decode cX12_wordOf 238 = .ok (.bipush 112, 2) := by decide +kernel
theorem dX12_wordOf_240 : decode cX12_wordOf 240 = .ok (.bipush 115, 2) := by decide +kernel
theorem dX12_wordOf_242 : decode cX12_wordOf 242 = .ok (.iconst 0, 1) := by decide +kernel
theorem dX12_wordOf_243 : decode cX12_wordOf 243 = .ok (.iconst 0, 1) := by decide +kernel
theorem dX12_wordOf_244 : decode cX12_wordOf 244 = .ok (.invokestatic 58, 3) := by decide +kernel
theorem dX12_wordOf_247 : decode cX12_wordOf 247 = .ok (.lreturn, 1) := by decide +kernel
theorem dX12_wordOf_248 : decode cX12_wordOf 248 = .ok (.bipush 115, 2) := by decide +kernel
theorem dX12_wordOf_250 : decode cX12_wordOf 250 = .ok (.bipush 105, 2) := by decide +kernel
theorem dX12_wordOf_252 : decode cX12_wordOf 252 = .ok (.bipush 103, 2) := by decide +kernel
theorem dX12_wordOf_254 : decode cX12_wordOf 254 = .ok (.bipush 110, 2) := by decide +kernel
theorem dX12_wordOf_256 : decode cX12_wordOf 256 = .ok (.bipush 115, 2) := by decide +kernel
theorem dX12_wordOf_258 : decode cX12_wordOf 258 = .ok (.iconst 0, 1) := by decide +kernel
theorem dX12_wordOf_259 : decode cX12_wordOf 259 = .ok (.iconst 0, 1) := by decide +kernel
theorem dX12_wordOf_260 : decode cX12_wordOf 260 = .ok (.invokestatic 58, 3) := by decide +kernel
theorem dX12_wordOf_263 : decode cX12_wordOf 263 = .ok (.lreturn, 1) := by decide +kernel
theorem dX12_wordOf_264 : decode cX12_wordOf 264 = .ok (.bipush 98, 2) := by decide +kernel
theorem dX12_wordOf_266 : decode cX12_wordOf 266 = .ok (.bipush 114, 2) := by decide +kernel
theorem dX12_wordOf_268 : decode cX12_wordOf 268 = .ok (.bipush 101, 2) := by decide +kernel
theorem dX12_wordOf_270 : decode cX12_wordOf 270 = .ok (.bipush 97, 2) := by decide +kernel
theorem dX12_wordOf_272 : decode cX12_wordOf 272 = .ok (.bipush 107, 2) := by decide +kernel
theorem dX12_wordOf_274 : decode cX12_wordOf 274 = .ok (.bipush 115, 2) := by decide +kernel
theorem dX12_wordOf_276 : decode cX12_wordOf 276 = .ok (.iconst 0, 1) := by decide +kernel
theorem dX12_wordOf_277 : decode cX12_wordOf 277 = .ok (.invokestatic 58, 3) := by decide +kernel
theorem dX12_wordOf_280 : decode cX12_wordOf 280 = .ok (.lreturn, 1) := by decide +kernel
theorem dX12_wordOf_281 : decode cX12_wordOf 281 = .ok (.bipush 104, 2) := by decide +kernel
theorem dX12_wordOf_283 : decode cX12_wordOf 283 = .ok (.bipush 111, 2) := by decide +kernel
theorem dX12_wordOf_285 : decode cX12_wordOf 285 = .ok (.bipush 108, 2) := by decide +kernel
theorem dX12_wordOf_287 : decode cX12_wordOf 287 = .ok (.bipush 100, 2) := by decide +kernel
theorem dX12_wordOf_289 : decode cX12_wordOf 289 = .ok (.bipush 115, 2) := by decide +kernel
theorem dX12_wordOf_291 : decode cX12_wordOf 291 = .ok (.iconst 0, 1) := by decide +kernel
theorem dX12_wordOf_292 : decode cX12_wordOf 292 = .ok (.iconst 0, 1) := by decide +kernel
theorem dX12_wordOf_293 : decode cX12_wordOf 293 = .ok (.invokestatic 58, 3) := by decide +kernel
theorem dX12_wordOf_296 : decode cX12_wordOf 296 = .ok (.lreturn, 1) := by decide +kernel
theorem dX12_wordOf_297 : decode cX12_wordOf 297 = .ok (.bipush 100, 2) := by decide +kernel
theorem dX12_wordOf_299 : decode cX12_wordOf 299 = .ok (.bipush 105, 2) := by decide +kernel
theorem dX12_wordOf_301 : decode cX12_wordOf 301 = .ok (.bipush 101, 2) := by decide +kernel
theorem dX12_wordOf_303 : decode cX12_wordOf 303 = .ok (.bipush 115, 2) := by decide +kernel
theorem dX12_wordOf_305 : decode cX12_wordOf 305 = .ok (.iconst 0, 1) := by decide +kernel
theorem dX12_wordOf_306 : decode cX12_wordOf 306 = .ok (.iconst 0, 1) := by decide +kernel
theorem dX12_wordOf_307 : decode cX12_wordOf 307 = .ok (.iconst 0, 1) := by decide +kernel
theorem dX12_wordOf_308 : decode cX12_wordOf 308 = .ok (.invokestatic 58, 3) := by decide +kernel
theorem dX12_wordOf_311 : decode cX12_wordOf 311 = .ok (.lreturn, 1) := by decide +kernel
theorem dX12_wordOf_312 : decode cX12_wordOf 312 = .ok (.bipush 98, 2) := by decide +kernel
theorem dX12_wordOf_314 : decode cX12_wordOf 314 = .ok (.bipush 117, 2) := by decide +kernel
theorem dX12_wordOf_316 : decode cX12_wordOf 316 = .ok (.bipush 114, 2) := by decide +kernel
theorem dX12_wordOf_318 : decode cX12_wordOf 318 = .ok (.bipush 110, 2) := by decide +kernel
theorem dX12_wordOf_320 : decode cX12_wordOf 320 = .ok (.bipush 115, 2) := by decide +kernel
theorem dX12_wordOf_322 : decode cX12_wordOf 322 = .ok (.iconst 0, 1) := by decide +kernel
theorem dX12_wordOf_323 : decode cX12_wordOf 323 = .ok (.iconst 0, 1) := by decide +kernel
theorem dX12_wordOf_324 : decode cX12_wordOf 324 = .ok (.invokestatic 58, 3) := by decide +kernel
theorem dX12_wordOf_327 : decode cX12_wordOf 327 = .ok (.lreturn, 1) := by decide +kernel
theorem dX12_wordOf_328 : decode cX12_wordOf 328 = .ok (.bipush 99, 2) := by decide +kernel
theorem dX12_wordOf_330 : decode cX12_wordOf 330 = .ok (.bipush 114, 2) := by decide +kernel
theorem dX12_wordOf_332 : decode cX12_wordOf 332 = .ok (.bipush 111, 2) := by decide +kernel
theorem dX12_wordOf_334 : decode cX12_wordOf 334 = .ok (.bipush 115, 2) := by decide +kernel
theorem dX12_wordOf_336 : decode cX12_wordOf 336 = .ok (.bipush 115, 2) := by decide +kernel
theorem dX12_wordOf_338 : decode cX12_wordOf 338 = .ok (.bipush 101, 2) := by decide +kernel
theorem dX12_wordOf_340 : decode cX12_wordOf 340 = .ok (.bipush 115, 2) := by decide +kernel
theorem dX12_wordOf_342 : decode cX12_wordOf 342 = .ok (.invokestatic 58, 3) := by decide +kernel
theorem dX12_wordOf_345 : decode cX12_wordOf 345 = .ok (.lreturn, 1) := by decide +kernel
theorem dX12_wordOf_346 : decode cX12_wordOf 346 = .ok (.bipush 100, 2) := by decide +kernel
theorem dX12_wordOf_348 : decode cX12_wordOf 348 = .ok (.bipush 97, 2) := by decide +kernel
theorem dX12_wordOf_350 : decode cX12_wordOf 350 = .ok (.bipush 121, 2) := by decide +kernel
theorem dX12_wordOf_352 : decode cX12_wordOf 352 = .ok (.iconst 0, 1) := by decide +kernel
theorem dX12_wordOf_353 : decode cX12_wordOf 353 = .ok (.iconst 0, 1) := by decide +kernel
theorem dX12_wordOf_354 : decode cX12_wordOf 354 = .ok (.iconst 0, 1) := by decide +kernel
theorem dX12_wordOf_355 : decode cX12_wordOf 355 = .ok (.iconst 0, 1) := by decide +kernel
theorem dX12_wordOf_356 : decode cX12_wordOf 356 = .ok (.invokestatic 58, 3) := by decide +kernel
theorem dX12_wordOf_359 : decode cX12_wordOf 359 = .ok (.lreturn, 1) := by decide +kernel
theorem dX12_wordOf_360 : decode cX12_wordOf 360 = .ok (.bipush 111, 2) := by decide +kernel
theorem dX12_wordOf_362 : decode cX12_wordOf 362 = .ok (.bipush 114, 2) := by decide +kernel
theorem dX12_wordOf_364 : decode cX12_wordOf 364 = .ok (.iconst 0, 1) := by decide +kernel
theorem dX12_wordOf_365 : decode cX12_wordOf 365 = .ok (.iconst 0, 1) := by decide +kernel
theorem dX12_wordOf_366 : decode cX12_wordOf 366 = .ok (.iconst 0, 1) := by decide +kernel
theorem dX12_wordOf_367 : decode cX12_wordOf 367 = .ok (.iconst 0, 1) := by decide +kernel
theorem dX12_wordOf_368 : decode cX12_wordOf 368 = .ok (.iconst 0, 1) := by decide +kernel
theorem dX12_wordOf_369 : decode cX12_wordOf 369 = .ok (.invokestatic 58, 3) := by decide +kernel
theorem dX12_wordOf_372 : decode cX12_wordOf 372 = .ok (.lreturn, 1) := by decide +kernel
theorem dX12_wordOf_373 : decode cX12_wordOf 373 = .ok (.bipush 97, 2) := by decide +kernel
theorem dX12_wordOf_375 : decode cX12_wordOf 375 = .ok (.bipush 110, 2) := by decide +kernel
theorem dX12_wordOf_377 : decode cX12_wordOf 377 = .ok (.bipush 100, 2) := by decide +kernel
theorem dX12_wordOf_379 : decode cX12_wordOf 379 = .ok (.iconst 0, 1) := by decide +kernel
theorem dX12_wordOf_380 : decode cX12_wordOf 380 = .ok (.iconst 0, 1) := by decide +kernel
theorem dX12_wordOf_381 : decode cX12_wordOf 381 = .ok (.iconst 0, 1) := by decide +kernel
theorem dX12_wordOf_382 : decode cX12_wordOf 382 = .ok (.iconst 0, 1) := by decide +kernel
theorem dX12_wordOf_383 : decode cX12_wordOf 383 = .ok (.invokestatic 58, 3) := by decide +kernel
theorem dX12_wordOf_386 : decode cX12_wordOf 386 = .ok (.lreturn, 1) := by decide +kernel
theorem dX12_wordOf_387 : decode cX12_wordOf 387 = .ok (.bipush 110, 2) := by decide +kernel
theorem dX12_wordOf_389 : decode cX12_wordOf 389 = .ok (.bipush 111, 2) := by decide +kernel
theorem dX12_wordOf_391 : decode cX12_wordOf 391 = .ok (.bipush 116, 2) := by decide +kernel
theorem dX12_wordOf_393 : decode cX12_wordOf 393 = .ok (.iconst 0, 1) := by decide +kernel
theorem dX12_wordOf_394 : decode cX12_wordOf 394 = .ok (.iconst 0, 1) := by decide +kernel
theorem dX12_wordOf_395 : decode cX12_wordOf 395 = .ok (.iconst 0, 1) := by decide +kernel
theorem dX12_wordOf_396 : decode cX12_wordOf 396 = .ok (.iconst 0, 1) := by decide +kernel
theorem dX12_wordOf_397 : decode cX12_wordOf 397 = .ok (.invokestatic 58, 3) := by decide +kernel
theorem dX12_wordOf_400 : decode cX12_wordOf 400 = .ok (.lreturn, 1) := by decide +kernel
theorem dX12_wordOf_401 : decode cX12_wordOf 401 = .ok (.bipush 100, 2) := by decide +kernel
theorem dX12_wordOf_403 : decode cX12_wordOf 403 = .ok (.bipush 101, 2) := by decide +kernel
theorem dX12_wordOf_405 : decode cX12_wordOf 405 = .ok (.bipush 97, 2) := by decide +kernel
theorem dX12_wordOf_407 : decode cX12_wordOf 407 = .ok (.bipush 100, 2) := by decide +kernel
theorem dX12_wordOf_409 : decode cX12_wordOf 409 = .ok (.iconst 0, 1) := by decide +kernel
theorem dX12_wordOf_410 : decode cX12_wordOf 410 = .ok (.iconst 0, 1) := by decide +kernel
theorem dX12_wordOf_411 : decode cX12_wordOf 411 = .ok (.iconst 0, 1) := by decide +kernel
theorem dX12_wordOf_412 : decode cX12_wordOf 412 = .ok (.invokestatic 58, 3) := by decide +kernel
theorem dX12_wordOf_415 : decode cX12_wordOf 415 = .ok (.lreturn, 1) := by decide +kernel
theorem dX12_wordOf_416 : decode cX12_wordOf 416 = .ok (.bipush 102, 2) := by decide +kernel
theorem dX12_wordOf_418 : decode cX12_wordOf 418 = .ok (.bipush 111, 2) := by decide +kernel
theorem dX12_wordOf_420 : decode cX12_wordOf 420 = .ok (.bipush 114, 2) := by decide +kernel
theorem dX12_wordOf_422 : decode cX12_wordOf 422 = .ok (.bipush 103, 2) := by decide +kernel
theorem dX12_wordOf_424 : decode cX12_wordOf 424 = .ok (.bipush 101, 2) := by decide +kernel
theorem dX12_wordOf_426 : decode cX12_wordOf 426 = .ok (.bipush 100, 2) := by decide +kernel
theorem dX12_wordOf_428 : decode cX12_wordOf 428 = .ok (.iconst 0, 1) := by decide +kernel
theorem dX12_wordOf_429 : decode cX12_wordOf 429 = .ok (.invokestatic 58, 3) := by decide +kernel
theorem dX12_wordOf_432 : decode cX12_wordOf 432 = .ok (.lreturn, 1) := by decide +kernel
theorem dX12_wordOf_433 : decode cX12_wordOf 433 = .ok (.bipush 108, 2) := by decide +kernel
theorem dX12_wordOf_435 : decode cX12_wordOf 435 = .ok (.bipush 111, 2) := by decide +kernel
theorem dX12_wordOf_437 : decode cX12_wordOf 437 = .ok (.bipush 118, 2) := by decide +kernel
theorem dX12_wordOf_439 : decode cX12_wordOf 439 = .ok (.bipush 101, 2) := by decide +kernel
theorem dX12_wordOf_441 : decode cX12_wordOf 441 = .ok (.bipush 115, 2) := by decide +kernel
theorem dX12_wordOf_443 : decode cX12_wordOf 443 = .ok (.iconst 0, 1) := by decide +kernel
theorem dX12_wordOf_444 : decode cX12_wordOf 444 = .ok (.iconst 0, 1) := by decide +kernel
theorem dX12_wordOf_445 : decode cX12_wordOf 445 = .ok (.invokestatic 58, 3) := by decide +kernel
theorem dX12_wordOf_448 : decode cX12_wordOf 448 = .ok (.lreturn, 1) := by decide +kernel
theorem dX12_wordOf_449 : decode cX12_wordOf 449 = .ok (.bipush 102, 2) := by decide +kernel
theorem dX12_wordOf_451 : decode cX12_wordOf 451 = .ok (.bipush 111, 2) := by decide +kernel
theorem dX12_wordOf_453 : decode cX12_wordOf 453 = .ok (.bipush 108, 2) := by decide +kernel
theorem dX12_wordOf_455 : decode cX12_wordOf 455 = .ok (.bipush 108, 2) := by decide +kernel
theorem dX12_wordOf_457 : decode cX12_wordOf 457 = .ok (.bipush 111, 2) := by decide +kernel
theorem dX12_wordOf_459 : decode cX12_wordOf 459 = .ok (.bipush 119, 2) := by decide +kernel
theorem dX12_wordOf_461 : decode cX12_wordOf 461 = .ok (.bipush 115, 2) := by decide +kernel
theorem dX12_wordOf_463 : decode cX12_wordOf 463 = .ok (.invokestatic 58, 3) := by decide +kernel
theorem dX12_wordOf_466 : decode cX12_wordOf 466 = .ok (.lreturn, 1) := by decide +kernel
theorem dX12_wordOf_467 : decode cX12_wordOf 467 = .ok (.bipush 111, 2) := by decide +kernel
theorem dX12_wordOf_469 : decode cX12_wordOf 469 = .ok (.bipush 110, 2) := by decide +kernel
theorem dX12_wordOf_471 : decode cX12_wordOf 471 = .ok (.iconst 0, 1) := by decide +kernel
theorem dX12_wordOf_472 : decode cX12_wordOf 472 = .ok (.iconst 0, 1) := by decide +kernel
theorem dX12_wordOf_473 : decode cX12_wordOf 473 = .ok (.iconst 0, 1) := by decide +kernel
theorem dX12_wordOf_474 : decode cX12_wordOf 474 = .ok (.iconst 0, 1) := by decide +kernel
theorem dX12_wordOf_475 : decode cX12_wordOf 475 = .ok (.iconst 0, 1) := by decide +kernel
theorem dX12_wordOf_476 : decode cX12_wordOf 476 = .ok (.invokestatic 58, 3) := by decide +kernel
theorem dX12_wordOf_479 : decode cX12_wordOf 479 = .ok (.lreturn, 1) := by decide +kernel
theorem dX12_wordOf_480 : decode cX12_wordOf 480 = .ok (.bipush 101, 2) := by decide +kernel
theorem dX12_wordOf_482 : decode cX12_wordOf 482 = .ok (.bipush 97, 2) := by decide +kernel
theorem dX12_wordOf_484 : decode cX12_wordOf 484 = .ok (.bipush 114, 2) := by decide +kernel
theorem dX12_wordOf_486 : decode cX12_wordOf 486 = .ok (.bipush 110, 2) := by decide +kernel
theorem dX12_wordOf_488 : decode cX12_wordOf 488 = .ok (.bipush 101, 2) := by decide +kernel
theorem dX12_wordOf_490 : decode cX12_wordOf 490 = .ok (.bipush 115, 2) := by decide +kernel
theorem dX12_wordOf_492 : decode cX12_wordOf 492 = .ok (.bipush 116, 2) := by decide +kernel
theorem dX12_wordOf_494 : decode cX12_wordOf 494 = .ok (.invokestatic 58, 3) := by decide +kernel
theorem dX12_wordOf_497 : decode cX12_wordOf 497 = .ok (.lreturn, 1) := by decide +kernel
theorem dX12_wordOf_498 : decode cX12_wordOf 498 = .ok (.bipush 112, 2) := by decide +kernel
theorem dX12_wordOf_500 : decode cX12_wordOf 500 = .ok (.bipush 108, 2) := by decide +kernel
theorem dX12_wordOf_502 : decode cX12_wordOf 502 = .ok (.bipush 97, 2) := by decide +kernel
theorem dX12_wordOf_504 : decode cX12_wordOf 504 = .ok (.bipush 110, 2) := by decide +kernel
theorem dX12_wordOf_506 : decode cX12_wordOf 506 = .ok (.bipush 107, 2) := by decide +kernel
theorem dX12_wordOf_508 : decode cX12_wordOf 508 = .ok (.bipush 115, 2) := by decide +kernel
theorem dX12_wordOf_510 : decode cX12_wordOf 510 = .ok (.iconst 0, 1) := by decide +kernel
theorem dX12_wordOf_511 : decode cX12_wordOf 511 = .ok (.invokestatic 58, 3) := by decide +kernel
theorem dX12_wordOf_514 : decode cX12_wordOf 514 = .ok (.lreturn, 1) := by decide +kernel
theorem dX12_wordOf_515 : decode cX12_wordOf 515 = .ok (.bipush 109, 2) := by decide +kernel
theorem dX12_wordOf_517 : decode cX12_wordOf 517 = .ok (.bipush 105, 2) := by decide +kernel
theorem dX12_wordOf_519 : decode cX12_wordOf 519 = .ok (.bipush 108, 2) := by decide +kernel
theorem dX12_wordOf_521 : decode cX12_wordOf 521 = .ok (.bipush 101, 2) := by decide +kernel
theorem dX12_wordOf_523 : decode cX12_wordOf 523 = .ok (.bipush 115, 2) := by decide +kernel
theorem dX12_wordOf_525 : decode cX12_wordOf 525 = .ok (.iconst 0, 1) := by decide +kernel
theorem dX12_wordOf_526 : decode cX12_wordOf 526 = .ok (.iconst 0, 1) := by decide +kernel
theorem dX12_wordOf_527 : decode cX12_wordOf 527 = .ok (.invokestatic 58, 3) := by decide +kernel
theorem dX12_wordOf_530 : decode cX12_wordOf 530 = .ok (.lreturn, 1) := by decide +kernel
theorem dX12_wordOf_531 : decode cX12_wordOf 531 = .ok (.bipush 110, 2) := by decide +kernel
theorem dX12_wordOf_533 : decode cX12_wordOf 533 = .ok (.bipush 117, 2) := by decide +kernel
theorem dX12_wordOf_535 : decode cX12_wordOf 535 = .ok (.bipush 109, 2) := by decide +kernel
theorem dX12_wordOf_537 : decode cX12_wordOf 537 = .ok (.bipush 98, 2) := by decide +kernel
theorem dX12_wordOf_539 : decode cX12_wordOf 539 = .ok (.bipush 101, 2) := by decide +kernel
theorem dX12_wordOf_541 : decode cX12_wordOf 541 = .ok (.bipush 114, 2) := by decide +kernel
theorem dX12_wordOf_543 : decode cX12_wordOf 543 = .ok (.iconst 0, 1) := by decide +kernel
theorem dX12_wordOf_544 : decode cX12_wordOf 544 = .ok (.invokestatic 58, 3) := by decide +kernel
theorem dX12_wordOf_547 : decode cX12_wordOf 547 = .ok (.lreturn, 1) := by decide +kernel
theorem okc_X12_spelt {kn : sKn} {cc : ByteArray} {own : String} {nL : Nat} {D : Nat} {ret : Option FieldType} {ini : Bool} {pc index : Nat} (hD : 1 + 1 ≤ D) (hl : Cond.methodLink own index yX12_spelt ∈ wsL_law) (hd : decode cc pc = .ok (.invokestatic index, 3)) : mOk kn cc own nL wsL_law D ret ini pc (a_callS false (fX12_spelt kn) 7 (pc + 3)) := ok_callS (mX12_spelt kn) (good_ws ws_good (fun _ h => h) kw1234) hD (by decide) hl kw1235 kw1072 ⟨by decide +kernel, by decide +kernel, by decide +kernel⟩ hd
def tX12_wordOf (kn : sKn) : List (Nat × sA) := [(0, a_iload 0 1), (1, a_table kn 0 25 [120, 135, 152, 169, 184, 201, 217, 232, 248, 264, 281, 297, 312, 328, 346, 360, 373, 387, 401, 416, 433, 449, 467, 480, 498, 515] 531), (120, a_stk (q_int 114) 122), (122, a_stk (q_int 111) 124), (124, a_stk (q_int 119) 126), (126, a_stk (q_int 115) 128), (128, a_stk (q_int 0) 129), (129, a_stk (q_int 0) 130), (130, a_stk (q_int 0) 131), (131, a_callS false (fX12_spelt kn) 7 134), (134, a_lret), (135, a_stk (q_int 115) 137), (137, a_stk (q_int 105) 139), (139, a_stk (q_int 103) 141), (141, a_stk (q_int 110) 143), (143, a_stk (q_int 101) 145), (145, a_stk (q_int 114) 147), (147, a_stk (q_int 0) 148), (148, a_callS false (fX12_spelt kn) 7 151), (151, a_lret), (152, a_stk (q_int 102) 154), (154, a_stk (q_int 111) 156), (156, a_stk (q_int 114) 158), (158, a_stk (q_int 103) 160), (160, a_stk (q_int 101) 162), (162, a_stk (q_int 114) 164), (164, a_stk (q_int 0) 165), (165, a_callS false (fX12_spelt kn) 7 168), (168, a_lret), (169, a_stk (q_int 104) 171), (171, a_stk (q_int 101) 173), (173, a_stk (q_int 105) 175), (175, a_stk (q_int 114) 177), (177, a_stk (q_int 0) 178), (178, a_stk (q_int 0) 179), (179, a_stk (q_int 0) 180), (180, a_callS false (fX12_spelt kn) 7 183), (183, a_lret), (184, a_stk (q_int 108) 186), (186, a_stk (q_int 111) 188), (188, a_stk (q_int 118) 190), (190, a_stk (q_int 101) 192), (192, a_stk (q_int 114) 194), (194, a_stk (q_int 115) 196), (196, a_stk (q_int 0) 197), (197, a_callS false (fX12_spelt kn) 7 200), (200, a_lret), (201, a_stk (q_int 112) 203), (203, a_stk (q_int 108) 205), (205, a_stk (q_int 97) 207), (207, a_stk (q_int 110) 209), (209, a_stk (q_int 107) 211), (211, a_stk (q_int 0) 212), (212, a_stk (q_int 0) 213), (213, a_callS false (fX12_spelt kn) 7 216), (216, a_lret), (217, a_stk (q_int 108) 219), (219, a_stk (q_int 111) 221), (221, a_stk (q_int 97) 223), (223, a_stk (q_int 100) 225), (225, a_stk (q_int 0) 226), (226, a_stk (q_int 0) 227), (227, a_stk (q_int 0) 228), (228, a_callS false (fX12_spelt kn) 7 231), (231, a_lret), (232, a_stk (q_int 107) 234), (234, a_stk (q_int 101) 236), (236, a_stk (q_int 101) 238), (238, a_stk (q_int 112) 240), (240, a_stk (q_int 115) 242), (242, a_stk (q_int 0) 243), (243, a_stk (q_int 0) 244), (244, a_callS false (fX12_spelt kn) 7 247), (247, a_lret), (248, a_stk (q_int 115) 250), (250, a_stk (q_int 105) 252), (252, a_stk (q_int 103) 254), (254, a_stk (q_int 110) 256), (256, a_stk (q_int 115) 258), (258, a_stk (q_int 0) 259), (259, a_stk (q_int 0) 260), (260, a_callS false (fX12_spelt kn) 7 263), (263, a_lret), (264, a_stk (q_int 98) 266), (266, a_stk (q_int 114) 268), (268, a_stk (q_int 101) 270), (270, a_stk (q_int 97) 272), (272, a_stk (q_int 107) 274), (274, a_stk (q_int 115) 276), (276, a_stk (q_int 0) 277), (277, a_callS false (fX12_spelt kn) 7 280), (280, a_lret), (281, a_stk (q_int 104) 283), (283, a_stk (q_int 111) 285), (285, a_stk (q_int 108) 287), (287, a_stk (q_int 100) 289), (289, a_stk (q_int 115) 291), (291, a_stk (q_int 0) 292), (292, a_stk (q_int 0) 293), (293, a_callS false (fX12_spelt kn) 7 296), (296, a_lret), (297, a_stk (q_int 100) 299), (299, a_stk (q_int 105) 301), (301, a_stk (q_int 101) 303), (303, a_stk (q_int 115) 305), (305, a_stk (q_int 0) 306), (306, a_stk (q_int 0) 307), (307, a_stk (q_int 0) 308), (308, a_callS false (fX12_spelt kn) 7 311), (311, a_lret), (312, a_stk (q_int 98) 314), (314, a_stk (q_int 117) 316), (316, a_stk (q_int 114) 318), (318, a_stk (q_int 110) 320), (320, a_stk (q_int 115) 322), (322, a_stk (q_int 0) 323), (323, a_stk (q_int 0) 324), (324, a_callS false (fX12_spelt kn) 7 327), (327, a_lret), (328, a_stk (q_int 99) 330), (330, a_stk (q_int 114) 332), (332, a_stk (q_int 111) 334), (334, a_stk (q_int 115) 336), (336, a_stk (q_int 115) 338), (338, a_stk (q_int 101) 340), (340, a_stk (q_int 115) 342), (342, a_callS false (fX12_spelt kn) 7 345), (345, a_lret), (346, a_stk (q_int 100) 348), (348, a_stk (q_int 97) 350), (350, a_stk (q_int 121) 352), (352, a_stk (q_int 0) 353), (353, a_stk (q_int 0) 354), (354, a_stk (q_int 0) 355), (355, a_stk (q_int 0) 356), (356, a_callS false (fX12_spelt kn) 7 359), (359, a_lret), (360, a_stk (q_int 111) 362), (362, a_stk (q_int 114) 364), (364, a_stk (q_int 0) 365), (365, a_stk (q_int 0) 366), (366, a_stk (q_int 0) 367), (367, a_stk (q_int 0) 368), (368, a_stk (q_int 0) 369), (369, a_callS false (fX12_spelt kn) 7 372), (372, a_lret), (373, a_stk (q_int 97) 375), (375, a_stk (q_int 110) 377), (377, a_stk (q_int 100) 379), (379, a_stk (q_int 0) 380), (380, a_stk (q_int 0) 381), (381, a_stk (q_int 0) 382), (382, a_stk (q_int 0) 383), (383, a_callS false (fX12_spelt kn) 7 386), (386, a_lret), (387, a_stk (q_int 110) 389), (389, a_stk (q_int 111) 391), (391, a_stk (q_int 116) 393), (393, a_stk (q_int 0) 394), (394, a_stk (q_int 0) 395), (395, a_stk (q_int 0) 396), (396, a_stk (q_int 0) 397), (397, a_callS false (fX12_spelt kn) 7 400), (400, a_lret), (401, a_stk (q_int 100) 403), (403, a_stk (q_int 101) 405), (405, a_stk (q_int 97) 407), (407, a_stk (q_int 100) 409), (409, a_stk (q_int 0) 410), (410, a_stk (q_int 0) 411), (411, a_stk (q_int 0) 412), (412, a_callS false (fX12_spelt kn) 7 415), (415, a_lret), (416, a_stk (q_int 102) 418), (418, a_stk (q_int 111) 420), (420, a_stk (q_int 114) 422), (422, a_stk (q_int 103) 424), (424, a_stk (q_int 101) 426), (426, a_stk (q_int 100) 428), (428, a_stk (q_int 0) 429), (429, a_callS false (fX12_spelt kn) 7 432), (432, a_lret), (433, a_stk (q_int 108) 435), (435, a_stk (q_int 111) 437), (437, a_stk (q_int 118) 439), (439, a_stk (q_int 101) 441), (441, a_stk (q_int 115) 443), (443, a_stk (q_int 0) 444), (444, a_stk (q_int 0) 445), (445, a_callS false (fX12_spelt kn) 7 448), (448, a_lret), (449, a_stk (q_int 102) 451), (451, a_stk (q_int 111) 453), (453, a_stk (q_int 108) 455), (455, a_stk (q_int 108) 457), (457, a_stk (q_int 111) 459), (459, a_stk (q_int 119) 461), (461, a_stk (q_int 115) 463), (463, a_callS false (fX12_spelt kn) 7 466), (466, a_lret), (467, a_stk (q_int 111) 469), (469, a_stk (q_int 110) 471), (471, a_stk (q_int 0) 472), (472, a_stk (q_int 0) 473), (473, a_stk (q_int 0) 474), (474, a_stk (q_int 0) 475), (475, a_stk (q_int 0) 476), (476, a_callS false (fX12_spelt kn) 7 479), (479, a_lret), (480, a_stk (q_int 101) 482), (482, a_stk (q_int 97) 484), (484, a_stk (q_int 114) 486), (486, a_stk (q_int 110) 488), (488, a_stk (q_int 101) 490), (490, a_stk (q_int 115) 492), (492, a_stk (q_int 116) 494), (494, a_callS false (fX12_spelt kn) 7 497), (497, a_lret), (498, a_stk (q_int 112) 500), (500, a_stk (q_int 108) 502), (502, a_stk (q_int 97) 504), (504, a_stk (q_int 110) 506), (506, a_stk (q_int 107) 508), (508, a_stk (q_int 115) 510), (510, a_stk (q_int 0) 511), (511, a_callS false (fX12_spelt kn) 7 514), (514, a_lret), (515, a_stk (q_int 109) 517), (517, a_stk (q_int 105) 519), (519, a_stk (q_int 108) 521), (521, a_stk (q_int 101) 523), (523, a_stk (q_int 115) 525), (525, a_stk (q_int 0) 526), (526, a_stk (q_int 0) 527), (527, a_callS false (fX12_spelt kn) 7 530), (530, a_lret), (531, a_stk (q_int 110) 533), (533, a_stk (q_int 117) 535), (535, a_stk (q_int 109) 537), (537, a_stk (q_int 98) 539), (539, a_stk (q_int 101) 541), (541, a_stk (q_int 114) 543), (543, a_stk (q_int 0) 544), (544, a_callS false (fX12_spelt kn) 7 547), (547, a_lret)]
def fX12_wordOf (kn : sKn) : List Value → sW → Option sR := fW (tX12_wordOf kn) 1
set_option maxRecDepth 100000 in
set_option maxHeartbeats 4000000 in
theorem mX12_wordOf (kn : sKn) : mM kn yX12_wordOf (Cond.code yX12_wordOf cX12_wordOf 1 (some .long) :: wsL_law) 2 false (fX12_wordOf kn) := mM_W (fun n => mM_of (own := RX12) (ini := false) rfl (by decide +kernel) (by decide +kernel) (all_c (ok_iload_n dX12_wordOf_0 rfl) (all_c (ok_table dX12_wordOf_1 (by decide) (by decide) (by decide) (by decide)) (all_c (ok_stk (s_bipush dX12_wordOf_120 (by decide))) (all_c (ok_stk (s_bipush dX12_wordOf_122 (by decide))) (all_c (ok_stk (s_bipush dX12_wordOf_124 (by decide))) (all_c (ok_stk (s_bipush dX12_wordOf_126 (by decide))) (all_c (ok_stk (s_iconst dX12_wordOf_128 (by decide))) (all_c (ok_stk (s_iconst dX12_wordOf_129 (by decide))) (all_c (ok_stk (s_iconst dX12_wordOf_130 (by decide))) (all_c (okc_X12_spelt (by decide) kw1236 dX12_wordOf_131) (all_c (ok_lret dX12_wordOf_134) (all_c (ok_stk (s_bipush dX12_wordOf_135 (by decide))) (all_c (ok_stk (s_bipush dX12_wordOf_137 (by decide))) (all_c (ok_stk (s_bipush dX12_wordOf_139 (by decide))) (all_c (ok_stk (s_bipush dX12_wordOf_141 (by decide))) (all_c (ok_stk (s_bipush dX12_wordOf_143 (by decide))) (all_c (ok_stk (s_bipush dX12_wordOf_145 (by decide))) (all_c (ok_stk (s_iconst dX12_wordOf_147 (by decide))) (all_c (okc_X12_spelt (by decide) kw1236 dX12_wordOf_148) (all_c (ok_lret dX12_wordOf_151) (all_c (ok_stk (s_bipush dX12_wordOf_152 (by decide))) (all_c (ok_stk (s_bipush dX12_wordOf_154 (by decide))) (all_c (ok_stk (s_bipush dX12_wordOf_156 (by decide))) (all_c (ok_stk (s_bipush dX12_wordOf_158 (by decide))) (all_c (ok_stk (s_bipush dX12_wordOf_160 (by decide))) (all_c (ok_stk (s_bipush dX12_wordOf_162 (by decide))) (all_c (ok_stk (s_iconst dX12_wordOf_164 (by decide))) (all_c (okc_X12_spelt (by decide) kw1236 dX12_wordOf_165) (all_c (ok_lret dX12_wordOf_168) (all_c (ok_stk (s_bipush dX12_wordOf_169 (by decide))) (all_c (ok_stk (s_bipush dX12_wordOf_171 (by decide))) (all_c (ok_stk (s_bipush dX12_wordOf_173 (by decide))) (all_c (ok_stk (s_bipush dX12_wordOf_175 (by decide))) (all_c (ok_stk (s_iconst dX12_wordOf_177 (by decide))) (all_c (ok_stk (s_iconst dX12_wordOf_178 (by decide))) (all_c (ok_stk (s_iconst dX12_wordOf_179 (by decide))) (all_c (okc_X12_spelt (by decide) kw1236 dX12_wordOf_180) (all_c (ok_lret dX12_wordOf_183) (all_c (ok_stk (s_bipush dX12_wordOf_184 (by decide))) (all_c (ok_stk (s_bipush dX12_wordOf_186 (by decide))) (all_c (ok_stk (s_bipush dX12_wordOf_188 (by decide))) (all_c (ok_stk (s_bipush dX12_wordOf_190 (by decide))) (all_c (ok_stk (s_bipush dX12_wordOf_192 (by decide))) (all_c (ok_stk (s_bipush dX12_wordOf_194 (by decide))) (all_c (ok_stk (s_iconst dX12_wordOf_196 (by decide))) (all_c (okc_X12_spelt (by decide) kw1236 dX12_wordOf_197) (all_c (ok_lret dX12_wordOf_200) (all_c (ok_stk (s_bipush dX12_wordOf_201 (by decide))) (all_c (ok_stk (s_bipush dX12_wordOf_203 (by decide))) (all_c (ok_stk (s_bipush dX12_wordOf_205 (by decide))) (all_c (ok_stk (s_bipush dX12_wordOf_207 (by decide))) (all_c (ok_stk (s_bipush dX12_wordOf_209 (by decide))) (all_c (ok_stk (s_iconst dX12_wordOf_211 (by decide))) (all_c (ok_stk (s_iconst dX12_wordOf_212 (by decide))) (all_c (okc_X12_spelt (by decide) kw1236 dX12_wordOf_213) (all_c (ok_lret dX12_wordOf_216) (all_c (ok_stk (s_bipush dX12_wordOf_217 (by decide))) (all_c (ok_stk (s_bipush dX12_wordOf_219 (by decide))) (all_c (ok_stk (s_bipush dX12_wordOf_221 (by decide))) (all_c (ok_stk (s_bipush dX12_wordOf_223 (by decide))) (all_c (ok_stk (s_iconst dX12_wordOf_225 (by decide))) (all_c (ok_stk (s_iconst dX12_wordOf_226 (by decide))) (all_c (ok_stk (s_iconst dX12_wordOf_227 (by decide))) (all_c (okc_X12_spelt (by decide) kw1236 dX12_wordOf_228) (all_c (ok_lret dX12_wordOf_231) (all_c (ok_stk (s_bipush dX12_wordOf_232 (by decide))) (all_c (ok_stk (s_bipush dX12_wordOf_234 (by decide))) (all_c (ok_stk (s_bipush dX12_wordOf_236 (by decide))) (all_c (ok_stk (s_bipush dX12_wordOf_238 (by decide))) (all_c (ok_stk (s_bipush dX12_wordOf_240 (by decide))) (all_c (ok_stk (s_iconst dX12_wordOf_242 (by decide))) (all_c (ok_stk (s_iconst dX12_wordOf_243 (by decide))) (all_c (okc_X12_spelt (by decide) kw1236 dX12_wordOf_244) (all_c (ok_lret dX12_wordOf_247) (all_c (ok_stk (s_bipush dX12_wordOf_248 (by decide))) (all_c (ok_stk (s_bipush dX12_wordOf_250 (by decide))) (all_c (ok_stk (s_bipush dX12_wordOf_252 (by decide))) (all_c (ok_stk (s_bipush dX12_wordOf_254 (by decide))) (all_c (ok_stk (s_bipush dX12_wordOf_256 (by decide))) (all_c (ok_stk (s_iconst dX12_wordOf_258 (by decide))) (all_c (ok_stk (s_iconst dX12_wordOf_259 (by decide))) (all_c (okc_X12_spelt (by decide) kw1236 dX12_wordOf_260) (all_c (ok_lret dX12_wordOf_263) (all_c (ok_stk (s_bipush dX12_wordOf_264 (by decide))) (all_c (ok_stk (s_bipush dX12_wordOf_266 (by decide))) (all_c (ok_stk (s_bipush dX12_wordOf_268 (by decide))) (all_c (ok_stk (s_bipush dX12_wordOf_270 (by decide))) (all_c (ok_stk (s_bipush dX12_wordOf_272 (by decide))) (all_c (ok_stk (s_bipush dX12_wordOf_274 (by decide))) (all_c (ok_stk (s_iconst dX12_wordOf_276 (by decide))) (all_c (okc_X12_spelt (by decide) kw1236 dX12_wordOf_277) (all_c (ok_lret dX12_wordOf_280) (all_c (ok_stk (s_bipush dX12_wordOf_281 (by decide))) (all_c (ok_stk (s_bipush dX12_wordOf_283 (by decide))) (all_c (ok_stk (s_bipush dX12_wordOf_285 (by decide))) (all_c (ok_stk (s_bipush dX12_wordOf_287 (by decide))) (all_c (ok_stk (s_bipush dX12_wordOf_289 (by decide))) (all_c (ok_stk (s_iconst dX12_wordOf_291 (by decide))) (all_c (ok_stk (s_iconst dX12_wordOf_292 (by decide))) (all_c (okc_X12_spelt (by decide) kw1236 dX12_wordOf_293) (all_c (ok_lret dX12_wordOf_296) (all_c (ok_stk (s_bipush dX12_wordOf_297 (by decide))) (all_c (ok_stk (s_bipush dX12_wordOf_299 (by decide))) (all_c (ok_stk (s_bipush dX12_wordOf_301 (by decide))) (all_c (ok_stk (s_bipush dX12_wordOf_303 (by decide))) (all_c (ok_stk (s_iconst dX12_wordOf_305 (by decide))) (all_c (ok_stk (s_iconst dX12_wordOf_306 (by decide))) (all_c (ok_stk (s_iconst dX12_wordOf_307 (by decide))) (all_c (okc_X12_spelt (by decide) kw1236 dX12_wordOf_308) (all_c (ok_lret dX12_wordOf_311) (all_c (ok_stk (s_bipush dX12_wordOf_312 (by decide))) (all_c (ok_stk (s_bipush dX12_wordOf_314 (by decide))) (all_c (ok_stk (s_bipush dX12_wordOf_316 (by decide))) (all_c (ok_stk (s_bipush dX12_wordOf_318 (by decide))) (all_c (ok_stk (s_bipush dX12_wordOf_320 (by decide))) (all_c (ok_stk (s_iconst dX12_wordOf_322 (by decide))) (all_c (ok_stk (s_iconst dX12_wordOf_323 (by decide))) (all_c (okc_X12_spelt (by decide) kw1236 dX12_wordOf_324) (all_c (ok_lret dX12_wordOf_327) (all_c (ok_stk (s_bipush dX12_wordOf_328 (by decide))) (all_c (ok_stk (s_bipush dX12_wordOf_330 (by decide))) (all_c (ok_stk (s_bipush dX12_wordOf_332 (by decide))) (all_c (ok_stk (s_bipush dX12_wordOf_334 (by decide))) (all_c (ok_stk (s_bipush dX12_wordOf_336 (by decide))) (all_c (ok_stk (s_bipush dX12_wordOf_338 (by decide))) (all_c (ok_stk (s_bipush dX12_wordOf_340 (by decide))) (all_c (okc_X12_spelt (by decide) kw1236 dX12_wordOf_342) (all_c (ok_lret dX12_wordOf_345) (all_c (ok_stk (s_bipush dX12_wordOf_346 (by decide))) (all_c (ok_stk (s_bipush dX12_wordOf_348 (by decide))) (all_c (ok_stk (s_bipush dX12_wordOf_350 (by decide))) (all_c (ok_stk (s_iconst dX12_wordOf_352 (by decide))) (all_c (ok_stk (s_iconst dX12_wordOf_353 (by decide))) (all_c (ok_stk (s_iconst dX12_wordOf_354 (by decide))) (all_c (ok_stk (s_iconst dX12_wordOf_355 (by decide))) (all_c (okc_X12_spelt (by decide) kw1236 dX12_wordOf_356) (all_c (ok_lret dX12_wordOf_359) (all_c (ok_stk (s_bipush dX12_wordOf_360 (by decide))) (all_c (ok_stk (s_bipush dX12_wordOf_362 (by decide))) (all_c (ok_stk (s_iconst dX12_wordOf_364 (by decide))) (all_c (ok_stk (s_iconst dX12_wordOf_365 (by decide))) (all_c (ok_stk (s_iconst dX12_wordOf_366 (by decide))) (all_c (ok_stk (s_iconst dX12_wordOf_367 (by decide))) (all_c (ok_stk (s_iconst dX12_wordOf_368 (by decide))) (all_c (okc_X12_spelt (by decide) kw1236 dX12_wordOf_369) (all_c (ok_lret dX12_wordOf_372) (all_c (ok_stk (s_bipush dX12_wordOf_373 (by decide))) (all_c (ok_stk (s_bipush dX12_wordOf_375 (by decide))) (all_c (ok_stk (s_bipush dX12_wordOf_377 (by decide))) (all_c (ok_stk (s_iconst dX12_wordOf_379 (by decide))) (all_c (ok_stk (s_iconst dX12_wordOf_380 (by decide))) (all_c (ok_stk (s_iconst dX12_wordOf_381 (by decide))) (all_c (ok_stk (s_iconst dX12_wordOf_382 (by decide))) (all_c (okc_X12_spelt (by decide) kw1236 dX12_wordOf_383) (all_c (ok_lret dX12_wordOf_386) (all_c (ok_stk (s_bipush dX12_wordOf_387 (by decide))) (all_c (ok_stk (s_bipush dX12_wordOf_389 (by decide))) (all_c (ok_stk (s_bipush dX12_wordOf_391 (by decide))) (all_c (ok_stk (s_iconst dX12_wordOf_393 (by decide))) (all_c (ok_stk (s_iconst dX12_wordOf_394 (by decide))) (all_c (ok_stk (s_iconst dX12_wordOf_395 (by decide))) (all_c (ok_stk (s_iconst dX12_wordOf_396 (by decide))) (all_c (okc_X12_spelt (by decide) kw1236 dX12_wordOf_397) (all_c (ok_lret dX12_wordOf_400) (all_c (ok_stk (s_bipush dX12_wordOf_401 (by decide))) (all_c (ok_stk (s_bipush dX12_wordOf_403 (by decide))) (all_c (ok_stk (s_bipush dX12_wordOf_405 (by decide))) (all_c (ok_stk (s_bipush dX12_wordOf_407 (by decide))) (all_c (ok_stk (s_iconst dX12_wordOf_409 (by decide))) (all_c (ok_stk (s_iconst dX12_wordOf_410 (by decide))) (all_c (ok_stk (s_iconst dX12_wordOf_411 (by decide))) (all_c (okc_X12_spelt (by decide) kw1236 dX12_wordOf_412) (all_c (ok_lret dX12_wordOf_415) (all_c (ok_stk (s_bipush dX12_wordOf_416 (by decide))) (all_c (ok_stk (s_bipush dX12_wordOf_418 (by decide))) (all_c (ok_stk (s_bipush dX12_wordOf_420 (by decide))) (all_c (ok_stk (s_bipush dX12_wordOf_422 (by decide))) (all_c (ok_stk (s_bipush dX12_wordOf_424 (by decide))) (all_c (ok_stk (s_bipush dX12_wordOf_426 (by decide))) (all_c (ok_stk (s_iconst dX12_wordOf_428 (by decide))) (all_c (okc_X12_spelt (by decide) kw1236 dX12_wordOf_429) (all_c (ok_lret dX12_wordOf_432) (all_c (ok_stk (s_bipush dX12_wordOf_433 (by decide))) (all_c (ok_stk (s_bipush dX12_wordOf_435 (by decide))) (all_c (ok_stk (s_bipush dX12_wordOf_437 (by decide))) (all_c (ok_stk (s_bipush dX12_wordOf_439 (by decide))) (all_c (ok_stk (s_bipush dX12_wordOf_441 (by decide))) (all_c (ok_stk (s_iconst dX12_wordOf_443 (by decide))) (all_c (ok_stk (s_iconst dX12_wordOf_444 (by decide))) (all_c (okc_X12_spelt (by decide) kw1236 dX12_wordOf_445) (all_c (ok_lret dX12_wordOf_448) (all_c (ok_stk (s_bipush dX12_wordOf_449 (by decide))) (all_c (ok_stk (s_bipush dX12_wordOf_451 (by decide))) (all_c (ok_stk (s_bipush dX12_wordOf_453 (by decide))) (all_c (ok_stk (s_bipush dX12_wordOf_455 (by decide))) (all_c (ok_stk (s_bipush dX12_wordOf_457 (by decide))) (all_c (ok_stk (s_bipush dX12_wordOf_459 (by decide))) (all_c (ok_stk (s_bipush dX12_wordOf_461 (by decide))) (all_c (okc_X12_spelt (by decide) kw1236 dX12_wordOf_463) (all_c (ok_lret dX12_wordOf_466) (all_c (ok_stk (s_bipush dX12_wordOf_467 (by decide))) (all_c (ok_stk (s_bipush dX12_wordOf_469 (by decide))) (all_c (ok_stk (s_iconst dX12_wordOf_471 (by decide))) (all_c (ok_stk (s_iconst dX12_wordOf_472 (by decide))) (all_c (ok_stk (s_iconst dX12_wordOf_473 (by decide))) (all_c (ok_stk (s_iconst dX12_wordOf_474 (by decide))) (all_c (ok_stk (s_iconst dX12_wordOf_475 (by decide))) (all_c (okc_X12_spelt (by decide) kw1236 dX12_wordOf_476) (all_c (ok_lret dX12_wordOf_479) (all_c (ok_stk (s_bipush dX12_wordOf_480 (by decide))) (all_c (ok_stk (s_bipush dX12_wordOf_482 (by decide))) (all_c (ok_stk (s_bipush dX12_wordOf_484 (by decide))) (all_c (ok_stk (s_bipush dX12_wordOf_486 (by decide))) (all_c (ok_stk (s_bipush dX12_wordOf_488 (by decide))) (all_c (ok_stk (s_bipush dX12_wordOf_490 (by decide))) (all_c (ok_stk (s_bipush dX12_wordOf_492 (by decide))) (all_c (okc_X12_spelt (by decide) kw1236 dX12_wordOf_494) (all_c (ok_lret dX12_wordOf_497) (all_c (ok_stk (s_bipush dX12_wordOf_498 (by decide))) (all_c (ok_stk (s_bipush dX12_wordOf_500 (by decide))) (all_c (ok_stk (s_bipush dX12_wordOf_502 (by decide))) (all_c (ok_stk (s_bipush dX12_wordOf_504 (by decide))) (all_c (ok_stk (s_bipush dX12_wordOf_506 (by decide))) (all_c (ok_stk (s_bipush dX12_wordOf_508 (by decide))) (all_c (ok_stk (s_iconst dX12_wordOf_510 (by decide))) (all_c (okc_X12_spelt (by decide) kw1236 dX12_wordOf_511) (all_c (ok_lret dX12_wordOf_514) (all_c (ok_stk (s_bipush dX12_wordOf_515 (by decide))) (all_c (ok_stk (s_bipush dX12_wordOf_517 (by decide))) (all_c (ok_stk (s_bipush dX12_wordOf_519 (by decide))) (all_c (ok_stk (s_bipush dX12_wordOf_521 (by decide))) (all_c (ok_stk (s_bipush dX12_wordOf_523 (by decide))) (all_c (ok_stk (s_iconst dX12_wordOf_525 (by decide))) (all_c (ok_stk (s_iconst dX12_wordOf_526 (by decide))) (all_c (okc_X12_spelt (by decide) kw1236 dX12_wordOf_527) (all_c (ok_lret dX12_wordOf_530) (all_c (ok_stk (s_bipush dX12_wordOf_531 (by decide))) (all_c (ok_stk (s_bipush dX12_wordOf_533 (by decide))) (all_c (ok_stk (s_bipush dX12_wordOf_535 (by decide))) (all_c (ok_stk (s_bipush dX12_wordOf_537 (by decide))) (all_c (ok_stk (s_bipush dX12_wordOf_539 (by decide))) (all_c (ok_stk (s_bipush dX12_wordOf_541 (by decide))) (all_c (ok_stk (s_iconst dX12_wordOf_543 (by decide))) (all_c (okc_X12_spelt (by decide) kw1236 dX12_wordOf_544) (all_c (ok_lret dX12_wordOf_547) all_n))))))))))))))))))))))))))))))))))))))))))))))))))))))))))))))))))))))))))))))))))))))))))))))))))))))))))))))))))))))))))))))))))))))))))))))))))))))))))))))))))))))))))))))))))))))))))))))))))))))))))))))))))))))))))))))))))))))))))))))))))))) n (fun h => by first | rfl | cases h))
theorem dX12_isName_0 : decode cX12_isName 0 = .ok (.aload_n 0, 1) := by decide +kernel
theorem dX12_isName_1 : decode cX12_isName 1 = .ok (.getfield 30, 3) := by decide +kernel
theorem dX12_isName_4 : decode cX12_isName 4 = .ok (.iconst 2, 1) := by decide +kernel
theorem dX12_isName_5 : decode cX12_isName 5 = .ok (.if_icmp .eq 5, 3) := by decide +kernel
theorem dX12_isName_8 : decode cX12_isName 8 = .ok (.iconst 0, 1) := by decide +kernel
theorem dX12_isName_9 : decode cX12_isName 9 = .ok (.ireturn, 1) := by decide +kernel
theorem dX12_isName_10 : decode cX12_isName 10 = .ok (.iconst 0, 1) := by decide +kernel
theorem dX12_isName_11 : decode cX12_isName 11 = .ok (.istore_n 1, 1) := by decide +kernel
theorem dX12_isName_12 : decode cX12_isName 12 = .ok (.iload_n 1, 1) := by decide +kernel
theorem dX12_isName_13 : decode cX12_isName 13 = .ok (.bipush 26, 2) := by decide +kernel
theorem dX12_isName_15 : decode cX12_isName 15 = .ok (.if_icmp .gt 23, 3) := by decide +kernel
theorem dX12_isName_18 : decode cX12_isName 18 = .ok (.aload_n 0, 1) := by decide +kernel
theorem dX12_isName_19 : decode cX12_isName 19 = .ok (.getfield 43, 3) := by decide +kernel
theorem dX12_isName_22 : decode cX12_isName 22 = .ok (.iload_n 1, 1) := by decide +kernel
theorem dX12_isName_23 : decode cX12_isName 23 = .ok (.invokestatic 62, 3) := by decide +kernel
theorem dX12_isName_26 : decode cX12_isName 26 = .ok (.lcmp, 1) := by decide +kernel
theorem dX12_isName_27 : decode cX12_isName 27 = .ok (.ifCond .ne 5, 3) := by decide +kernel
theorem dX12_isName_30 : decode cX12_isName 30 = .ok (.iconst 0, 1) := by decide +kernel
theorem dX12_isName_31 : decode cX12_isName 31 = .ok (.ireturn, 1) := by decide +kernel
theorem dX12_isName_32 : decode cX12_isName 32 = .ok (.iinc 1 1, 3) := by decide +kernel
theorem dX12_isName_35 : decode cX12_isName 35 = .ok (.goto (-23), 3) := by decide +kernel
theorem dX12_isName_38 : decode cX12_isName 38 = .ok (.iconst 1, 1) := by decide +kernel
theorem dX12_isName_39 : decode cX12_isName 39 = .ok (.ireturn, 1) := by decide +kernel
theorem okc_X12_wordOf {kn : sKn} {cc : ByteArray} {own : String} {nL : Nat} {D : Nat} {ret : Option FieldType} {ini : Bool} {pc index : Nat} (hD : 2 + 1 ≤ D) (hl : Cond.methodLink own index yX12_wordOf ∈ wsL_law) (hd : decode cc pc = .ok (.invokestatic index, 3)) : mOk kn cc own nL wsL_law D ret ini pc (a_callS false (fX12_wordOf kn) 1 (pc + 3)) := ok_callS (mX12_wordOf kn) (good_ws ws_good (fun _ h => h) kw1237) hD (by decide) hl kw1238 kw1072 ⟨by decide +kernel, by decide +kernel, by decide +kernel⟩ hd
def tX12_isName (kn : sKn) : List (Nat × sA) := [(0, a_aload 0 1), (1, a_get 13 7 4), (4, a_stk (q_int 2) 5), (5, a_icmp kn b_eq 0 10 8), (8, a_stk (q_int 0) 9), (9, a_zret), (10, a_stk (q_int 0) 11), (11, a_istore 1 12), (12, a_iload 1 13), (13, a_stk (q_int 26) 15), (15, a_icmp kn b_gt 4 38 18), (18, a_aload 0 19), (19, a_get 13 12 22), (22, a_iload 1 23), (23, a_callS false (fX12_wordOf kn) 1 26), (26, a_stk q_lcmp 27), (27, a_if kn b_ne 1 32 30), (30, a_stk (q_int 0) 31), (31, a_zret), (32, a_iinc 1 1 35), (35, a_goto 12), (38, a_stk (q_int 1) 39), (39, a_zret)]
def fX12_isName (kn : sKn) : List Value → sW → Option sR := fW (tX12_isName kn) 2
set_option maxRecDepth 100000 in
set_option maxHeartbeats 4000000 in
theorem mX12_isName (kn : sKn) : mM kn yX12_isName (Cond.code yX12_isName cX12_isName 2 (some .boolean) :: wsL_law) 3 false (fX12_isName kn) := mM_W (fun n => mM_of (own := RX12) (ini := false) rfl (by decide +kernel) (by decide +kernel) (all_c (ok_aload_n dX12_isName_0 rfl) (all_c (okg_X12_7 kw1148 dX12_isName_1) (all_c (ok_stk (s_iconst dX12_isName_4 (by decide))) (all_c (ok_icmp_eq dX12_isName_5 (by decide)) (all_c (ok_stk (s_iconst dX12_isName_8 (by decide))) (all_c (ok_zret dX12_isName_9) (all_c (ok_stk (s_iconst dX12_isName_10 (by decide))) (all_c (ok_istore_n dX12_isName_11 rfl (by decide)) (all_c (ok_iload_n dX12_isName_12 rfl) (all_c (ok_stk (s_bipush dX12_isName_13 (by decide))) (all_c (ok_icmp_gt dX12_isName_15 (by decide)) (all_c (ok_aload_n dX12_isName_18 rfl) (all_c (okg_X12_12 kw1163 dX12_isName_19) (all_c (ok_iload_n dX12_isName_22 rfl) (all_c (okc_X12_wordOf (by decide) kw1239 dX12_isName_23) (all_c (ok_stk (s_lcmp dX12_isName_26)) (all_c (ok_if_ne dX12_isName_27 (by decide)) (all_c (ok_stk (s_iconst dX12_isName_30 (by decide))) (all_c (ok_zret dX12_isName_31) (all_c (ok_iinc dX12_isName_32 (by decide) (by decide)) (all_c (ok_goto dX12_isName_35 (by decide)) (all_c (ok_stk (s_iconst dX12_isName_38 (by decide))) (all_c (ok_zret dX12_isName_39) all_n))))))))))))))))))))))) n (fun h => by first | rfl | cases h))
theorem dX12_isWord_0 : decode cX12_isWord 0 = .ok (.aload_n 0, 1) := by decide +kernel
theorem dX12_isWord_1 : decode cX12_isWord 1 = .ok (.getfield 30, 3) := by decide +kernel
theorem dX12_isWord_4 : decode cX12_isWord 4 = .ok (.iconst 2, 1) := by decide +kernel
theorem dX12_isWord_5 : decode cX12_isWord 5 = .ok (.if_icmp .ne 19, 3) := by decide +kernel
theorem dX12_isWord_8 : decode cX12_isWord 8 = .ok (.aload_n 0, 1) := by decide +kernel
theorem dX12_isWord_9 : decode cX12_isWord 9 = .ok (.getfield 43, 3) := by decide +kernel
theorem dX12_isWord_12 : decode cX12_isWord 12 = .ok (.iload_n 1, 1) := by decide +kernel
theorem dX12_isWord_13 : decode cX12_isWord 13 = .ok (.invokestatic 62, 3) := by decide +kernel
theorem dX12_isWord_16 : decode cX12_isWord 16 = .ok (.lcmp, 1) := by decide +kernel
theorem dX12_isWord_17 : decode cX12_isWord 17 = .ok (.ifCond .ne 7, 3) := by decide +kernel
theorem dX12_isWord_20 : decode cX12_isWord 20 = .ok (.iconst 1, 1) := by decide +kernel
theorem dX12_isWord_21 : decode cX12_isWord 21 = .ok (.goto 4, 3) := by decide +kernel
theorem dX12_isWord_24 : decode cX12_isWord 24 = .ok (.iconst 0, 1) := by decide +kernel
theorem dX12_isWord_25 : decode cX12_isWord 25 = .ok (.ireturn, 1) := by decide +kernel
def tX12_isWord (kn : sKn) : List (Nat × sA) := [(0, a_aload 0 1), (1, a_get 13 7 4), (4, a_stk (q_int 2) 5), (5, a_icmp kn b_ne 1 24 8), (8, a_aload 0 9), (9, a_get 13 12 12), (12, a_iload 1 13), (13, a_callS false (fX12_wordOf kn) 1 16), (16, a_stk q_lcmp 17), (17, a_if kn b_ne 1 24 20), (20, a_stk (q_int 1) 21), (21, a_goto 25), (24, a_stk (q_int 0) 25), (25, a_zret)]
def fX12_isWord (kn : sKn) : List Value → sW → Option sR := fW (tX12_isWord kn) 2
set_option maxRecDepth 100000 in
set_option maxHeartbeats 4000000 in
theorem mX12_isWord (kn : sKn) : mM kn yX12_isWord (Cond.code yX12_isWord cX12_isWord 2 (some .boolean) :: wsL_law) 3 false (fX12_isWord kn) := mM_W (fun n => mM_of (own := RX12) (ini := false) rfl (by decide +kernel) (by decide +kernel) (all_c (ok_aload_n dX12_isWord_0 rfl) (all_c (okg_X12_7 kw1148 dX12_isWord_1) (all_c (ok_stk (s_iconst dX12_isWord_4 (by decide))) (all_c (ok_icmp_ne dX12_isWord_5 (by decide)) (all_c (ok_aload_n dX12_isWord_8 rfl) (all_c (okg_X12_12 kw1163 dX12_isWord_9) (all_c (ok_iload_n dX12_isWord_12 rfl) (all_c (okc_X12_wordOf (by decide) kw1239 dX12_isWord_13) (all_c (ok_stk (s_lcmp dX12_isWord_16)) (all_c (ok_if_ne dX12_isWord_17 (by decide)) (all_c (ok_stk (s_iconst dX12_isWord_20 (by decide))) (all_c (ok_goto dX12_isWord_21 (by decide)) (all_c (ok_stk (s_iconst dX12_isWord_24 (by decide))) (all_c (ok_zret dX12_isWord_25) all_n)))))))))))))) n (fun h => by first | rfl | cases h))
theorem dX12_readNumber_0 : decode cX12_readNumber 0 = .ok (.aload_n 0, 1) := by decide +kernel
theorem dX12_readNumber_1 : decode cX12_readNumber 1 = .ok (.getfield 30, 3) := by decide +kernel
theorem dX12_readNumber_4 : decode cX12_readNumber 4 = .ok (.iconst 3, 1) := by decide +kernel
theorem dX12_readNumber_5 : decode cX12_readNumber 5 = .ok (.if_icmp .eq 9, 3) := by decide +kernel
theorem dX12_readNumber_8 : decode cX12_readNumber 8 = .ok (.aload_n 0, 1) := by decide +kernel
theorem dX12_readNumber_9 : decode cX12_readNumber 9 = .ok (.iconst 1, 1) := by decide +kernel
theorem dX12_readNumber_10 : decode cX12_readNumber 10 = .ok (.invokevirtual 72, 3) := by decide +kernel
theorem dX12_readNumber_13 : decode cX12_readNumber 13 = .ok (.ireturn, 1) := by decide +kernel
theorem dX12_readNumber_14 : decode cX12_readNumber 14 = .ok (.aload_n 0, 1) := by decide +kernel
theorem dX12_readNumber_15 : decode cX12_readNumber 15 = .ok (.getfield 47, 3) := by decide +kernel
theorem dX12_readNumber_18 : decode cX12_readNumber 18 = .ok (.iload_n 1, 1) := by decide +kernel
theorem dX12_readNumber_19 : decode cX12_readNumber 19 = .ok (.iload_n 2, 1) := by decide +kernel
theorem dX12_readNumber_20 : decode cX12_readNumber 20 = .ok (.invokestatic 75, 3) := by decide +kernel
theorem dX12_readNumber_23 : decode cX12_readNumber 23 = .ok (.ifCond .ne 9, 3) := by decide +kernel
theorem dX12_readNumber_26 : decode cX12_readNumber 26 = .ok (.aload_n 0, 1) := by decide +kernel
theorem dX12_readNumber_27 : decode cX12_readNumber 27 = .ok (.iconst 2, 1) := by decide +kernel
theorem dX12_readNumber_28 : decode cX12_readNumber 28 = .ok (.invokevirtual 72, 3) := by decide +kernel
theorem dX12_readNumber_31 : decode cX12_readNumber 31 = .ok (.ireturn, 1) := by decide +kernel
theorem dX12_readNumber_32 : decode cX12_readNumber 32 = .ok (.aload_n 0, 1) := by decide +kernel
theorem dX12_readNumber_33 : decode cX12_readNumber 33 = .ok (.aload_n 0, 1) := by decide +kernel
theorem dX12_readNumber_34 : decode cX12_readNumber 34 = .ok (.getfield 47, 3) := by decide +kernel
theorem dX12_readNumber_37 : decode cX12_readNumber 37 = .ok (.putfield 79, 3) := by decide +kernel
theorem dX12_readNumber_40 : decode cX12_readNumber 40 = .ok (.aload_n 0, 1) := by decide +kernel
theorem dX12_readNumber_41 : decode cX12_readNumber 41 = .ok (.invokevirtual 82, 3) := by decide +kernel
theorem dX12_readNumber_44 : decode cX12_readNumber 44 = .ok (.iconst 1, 1) := by decide +kernel
theorem dX12_readNumber_45 : decode cX12_readNumber 45 = .ok (.ireturn, 1) := by decide +kernel
theorem okc_X12_bad {kn : sKn} {cc : ByteArray} {own : String} {nL : Nat} {D : Nat} {ret : Option FieldType} {ini : Bool} {pc index : Nat} (hD : 1 + 1 ≤ D) (hl : Cond.methodLink own index yX12_bad ∈ wsL_law) (hd : decode cc pc = .ok (.invokevirtual index, 3)) : mOk kn cc own nL wsL_law D ret ini pc (a_callV false (fX12_bad kn) 13 (1 + 1) (pc + 3)) := ok_callV (mX12_bad kn) (good_ws ws_good (fun _ h => h) kw1240) hD (by decide) hl kw1241 kw1242 kw1072 ⟨by decide +kernel, by decide +kernel, by decide +kernel⟩ rfl hd
def tX12_readNumber (kn : sKn) : List (Nat × sA) := [(0, a_aload 0 1), (1, a_get 13 7 4), (4, a_stk (q_int 3) 5), (5, a_icmp kn b_eq 0 14 8), (8, a_aload 0 9), (9, a_stk (q_int 1) 10), (10, a_callV false (fX12_bad kn) 13 2 13), (13, a_zret), (14, a_aload 0 15), (15, a_get 13 8 18), (18, a_iload 1 19), (19, a_iload 2 20), (20, a_callS false (fX12_isIn kn) 3 23), (23, a_if kn b_ne 1 32 26), (26, a_aload 0 27), (27, a_stk (q_int 2) 28), (28, a_callV false (fX12_bad kn) 13 2 31), (31, a_zret), (32, a_aload 0 33), (33, a_aload 0 34), (34, a_get 13 8 37), (37, a_put 13 13 ckI 40), (40, a_aload 0 41), (41, a_callV true (fX12_go kn) 13 1 44), (44, a_stk (q_int 1) 45), (45, a_zret)]
def fX12_readNumber (kn : sKn) : List Value → sW → Option sR := fW (tX12_readNumber kn) 3
set_option maxRecDepth 100000 in
set_option maxHeartbeats 4000000 in
theorem mX12_readNumber (kn : sKn) : mM kn yX12_readNumber (Cond.code yX12_readNumber cX12_readNumber 3 (some .boolean) :: wsL_law) 3 false (fX12_readNumber kn) := mM_W (fun n => mM_of (own := RX12) (ini := false) rfl (by decide +kernel) (by decide +kernel) (all_c (ok_aload_n dX12_readNumber_0 rfl) (all_c (okg_X12_7 kw1148 dX12_readNumber_1) (all_c (ok_stk (s_iconst dX12_readNumber_4 (by decide))) (all_c (ok_icmp_eq dX12_readNumber_5 (by decide)) (all_c (ok_aload_n dX12_readNumber_8 rfl) (all_c (ok_stk (s_iconst dX12_readNumber_9 (by decide))) (all_c (okc_X12_bad (by decide) kw1243 dX12_readNumber_10) (all_c (ok_zret dX12_readNumber_13) (all_c (ok_aload_n dX12_readNumber_14 rfl) (all_c (okg_X12_8 kw1164 dX12_readNumber_15) (all_c (ok_iload_n dX12_readNumber_18 rfl) (all_c (ok_iload_n dX12_readNumber_19 rfl) (all_c (okc_X12_isIn (by decide) kw1126 dX12_readNumber_20) (all_c (ok_if_ne dX12_readNumber_23 (by decide)) (all_c (ok_aload_n dX12_readNumber_26 rfl) (all_c (ok_stk (s_iconst dX12_readNumber_27 (by decide))) (all_c (okc_X12_bad (by decide) kw1243 dX12_readNumber_28) (all_c (ok_zret dX12_readNumber_31) (all_c (ok_aload_n dX12_readNumber_32 rfl) (all_c (ok_aload_n dX12_readNumber_33 rfl) (all_c (okg_X12_8 kw1164 dX12_readNumber_34) (all_c (okp_X12_13 kw1244 dX12_readNumber_37) (all_c (ok_aload_n dX12_readNumber_40 rfl) (all_c (okc_X12_go (by decide) kw1179 dX12_readNumber_41) (all_c (ok_stk (s_iconst dX12_readNumber_44 (by decide))) (all_c (ok_zret dX12_readNumber_45) all_n)))))))))))))))))))))))))) n (fun h => by first | rfl | cases h))
theorem dX12_readPlace_0 : decode cX12_readPlace 0 = .ok (.aload_n 0, 1) := by decide +kernel
theorem dX12_readPlace_1 : decode cX12_readPlace 1 = .ok (.iconst 0, 1) := by decide +kernel
theorem dX12_readPlace_2 : decode cX12_readPlace 2 = .ok (.bipush 11, 2) := by decide +kernel
theorem dX12_readPlace_4 : decode cX12_readPlace 4 = .ok (.invokevirtual 205, 3) := by decide +kernel
theorem dX12_readPlace_7 : decode cX12_readPlace 7 = .ok (.ifCond .ne 5, 3) := by decide +kernel
theorem dX12_readPlace_10 : decode cX12_readPlace 10 = .ok (.iconst 0, 1) := by decide +kernel
theorem dX12_readPlace_11 : decode cX12_readPlace 11 = .ok (.ireturn, 1) := by decide +kernel
theorem dX12_readPlace_12 : decode cX12_readPlace 12 = .ok (.aload_n 0, 1) := by decide +kernel
theorem dX12_readPlace_13 : decode cX12_readPlace 13 = .ok (.getfield 175, 3) := by decide +kernel
theorem dX12_readPlace_16 : decode cX12_readPlace 16 = .ok (.iload_n 1, 1) := by decide +kernel
theorem dX12_readPlace_17 : decode cX12_readPlace 17 = .ok (.iconst 2, 1) := by decide +kernel
theorem dX12_readPlace_18 : decode cX12_readPlace 18 = .ok (.iadd, 1) := by decide +kernel
theorem dX12_readPlace_19 : decode cX12_readPlace 19 = .ok (.aload_n 0, 1) := by decide +kernel
theorem dX12_readPlace_20 : decode cX12_readPlace 20 = .ok (.getfield 79, 3) := by decide +kernel
theorem dX12_readPlace_23 : decode cX12_readPlace 23 = .ok (.iastore, 1) := by decide +kernel
theorem dX12_readPlace_24 : decode cX12_readPlace 24 = .ok (.aload_n 0, 1) := by decide +kernel
theorem dX12_readPlace_25 : decode cX12_readPlace 25 = .ok (.iconst 0, 1) := by decide +kernel
theorem dX12_readPlace_26 : decode cX12_readPlace 26 = .ok (.iconst 2, 1) := by decide +kernel
theorem dX12_readPlace_27 : decode cX12_readPlace 27 = .ok (.invokevirtual 205, 3) := by decide +kernel
theorem dX12_readPlace_30 : decode cX12_readPlace 30 = .ok (.ifCond .ne 5, 3) := by decide +kernel
theorem dX12_readPlace_33 : decode cX12_readPlace 33 = .ok (.iconst 0, 1) := by decide +kernel
theorem dX12_readPlace_34 : decode cX12_readPlace 34 = .ok (.ireturn, 1) := by decide +kernel
theorem dX12_readPlace_35 : decode cX12_readPlace 35 = .ok (.aload_n 0, 1) := by decide +kernel
theorem dX12_readPlace_36 : decode cX12_readPlace 36 = .ok (.getfield 175, 3) := by decide +kernel
theorem dX12_readPlace_39 : decode cX12_readPlace 39 = .ok (.iload_n 1, 1) := by decide +kernel
theorem dX12_readPlace_40 : decode cX12_readPlace 40 = .ok (.iconst 3, 1) := by decide +kernel
theorem dX12_readPlace_41 : decode cX12_readPlace 41 = .ok (.iadd, 1) := by decide +kernel
theorem dX12_readPlace_42 : decode cX12_readPlace 42 = .ok (.aload_n 0, 1) := by decide +kernel
theorem dX12_readPlace_43 : decode cX12_readPlace 43 = .ok (.getfield 79, 3) := by decide +kernel
theorem dX12_readPlace_46 : decode cX12_readPlace 46 = .ok (.iastore, 1) := by decide +kernel
theorem dX12_readPlace_47 : decode cX12_readPlace 47 = .ok (.iconst 1, 1) := by decide +kernel
theorem dX12_readPlace_48 : decode cX12_readPlace 48 = .ok (.ireturn, 1) := by decide +kernel
theorem okc_X12_readNumber {kn : sKn} {cc : ByteArray} {own : String} {nL : Nat} {D : Nat} {ret : Option FieldType} {ini : Bool} {pc index : Nat} (hD : 3 + 1 ≤ D) (hl : Cond.methodLink own index yX12_readNumber ∈ wsL_law) (hd : decode cc pc = .ok (.invokevirtual index, 3)) : mOk kn cc own nL wsL_law D ret ini pc (a_callV false (fX12_readNumber kn) 13 (2 + 1) (pc + 3)) := ok_callV (mX12_readNumber kn) (good_ws ws_good (fun _ h => h) kw1245) hD (by decide) hl kw1246 kw1247 kw1072 ⟨by decide +kernel, by decide +kernel, by decide +kernel⟩ rfl hd
def tX12_readPlace (kn : sKn) : List (Nat × sA) := [(0, a_aload 0 1), (1, a_stk (q_int 0) 2), (2, a_stk (q_int 11) 4), (4, a_callV false (fX12_readNumber kn) 13 3 7), (7, a_if kn b_ne 1 12 10), (10, a_stk (q_int 0) 11), (11, a_zret), (12, a_aload 0 13), (13, a_get 13 51 16), (16, a_iload 1 17), (17, a_stk (q_int 2) 18), (18, a_stk q_iadd 19), (19, a_aload 0 20), (20, a_get 13 13 23), (23, a_iast 24), (24, a_aload 0 25), (25, a_stk (q_int 0) 26), (26, a_stk (q_int 2) 27), (27, a_callV false (fX12_readNumber kn) 13 3 30), (30, a_if kn b_ne 1 35 33), (33, a_stk (q_int 0) 34), (34, a_zret), (35, a_aload 0 36), (36, a_get 13 51 39), (39, a_iload 1 40), (40, a_stk (q_int 3) 41), (41, a_stk q_iadd 42), (42, a_aload 0 43), (43, a_get 13 13 46), (46, a_iast 47), (47, a_stk (q_int 1) 48), (48, a_zret)]
def fX12_readPlace (kn : sKn) : List Value → sW → Option sR := fW (tX12_readPlace kn) 2
set_option maxRecDepth 100000 in
set_option maxHeartbeats 4000000 in
theorem mX12_readPlace (kn : sKn) : mM kn yX12_readPlace (Cond.code yX12_readPlace cX12_readPlace 2 (some .boolean) :: wsL_law) 4 false (fX12_readPlace kn) := mM_W (fun n => mM_of (own := RX12) (ini := false) rfl (by decide +kernel) (by decide +kernel) (all_c (ok_aload_n dX12_readPlace_0 rfl) (all_c (ok_stk (s_iconst dX12_readPlace_1 (by decide))) (all_c (ok_stk (s_bipush dX12_readPlace_2 (by decide))) (all_c (okc_X12_readNumber (by decide) kw1248 dX12_readPlace_4) (all_c (ok_if_ne dX12_readPlace_7 (by decide)) (all_c (ok_stk (s_iconst dX12_readPlace_10 (by decide))) (all_c (ok_zret dX12_readPlace_11) (all_c (ok_aload_n dX12_readPlace_12 rfl) (all_c (okg_X12_51 kw1213 dX12_readPlace_13) (all_c (ok_iload_n dX12_readPlace_16 rfl) (all_c (ok_stk (s_iconst dX12_readPlace_17 (by decide))) (all_c (ok_stk (s_iadd dX12_readPlace_18)) (all_c (ok_aload_n dX12_readPlace_19 rfl) (all_c (okg_X12_13 kw1244 dX12_readPlace_20) (all_c (ok_iast dX12_readPlace_23) (all_c (ok_aload_n dX12_readPlace_24 rfl) (all_c (ok_stk (s_iconst dX12_readPlace_25 (by decide))) (all_c (ok_stk (s_iconst dX12_readPlace_26 (by decide))) (all_c (okc_X12_readNumber (by decide) kw1248 dX12_readPlace_27) (all_c (ok_if_ne dX12_readPlace_30 (by decide)) (all_c (ok_stk (s_iconst dX12_readPlace_33 (by decide))) (all_c (ok_zret dX12_readPlace_34) (all_c (ok_aload_n dX12_readPlace_35 rfl) (all_c (okg_X12_51 kw1213 dX12_readPlace_36) (all_c (ok_iload_n dX12_readPlace_39 rfl) (all_c (ok_stk (s_iconst dX12_readPlace_40 (by decide))) (all_c (ok_stk (s_iadd dX12_readPlace_41)) (all_c (ok_aload_n dX12_readPlace_42 rfl) (all_c (okg_X12_13 kw1244 dX12_readPlace_43) (all_c (ok_iast dX12_readPlace_46) (all_c (ok_stk (s_iconst dX12_readPlace_47 (by decide))) (all_c (ok_zret dX12_readPlace_48) all_n)))))))))))))))))))))))))))))))) n (fun h => by first | rfl | cases h))
theorem dX12_readSet_0 : decode cX12_readSet 0 = .ok (.aload_n 0, 1) := by decide +kernel
theorem dX12_readSet_1 : decode cX12_readSet 1 = .ok (.getfield 175, 3) := by decide +kernel
theorem dX12_readSet_4 : decode cX12_readSet 4 = .ok (.iload_n 1, 1) := by decide +kernel
theorem dX12_readSet_5 : decode cX12_readSet 5 = .ok (.iload_n 2, 1) := by decide +kernel
theorem dX12_readSet_6 : decode cX12_readSet 6 = .ok (.iastore, 1) := by decide +kernel
theorem dX12_readSet_7 : decode cX12_readSet 7 = .ok (.aload_n 0, 1) := by decide +kernel
theorem dX12_readSet_8 : decode cX12_readSet 8 = .ok (.getfield 175, 3) := by decide +kernel
theorem dX12_readSet_11 : decode cX12_readSet 11 = .ok (.iload_n 1, 1) := by decide +kernel
theorem dX12_readSet_12 : decode cX12_readSet 12 = .ok (.iconst 1, 1) := by decide +kernel
theorem dX12_readSet_13 : decode cX12_readSet 13 = .ok (.iadd, 1) := by decide +kernel
theorem dX12_readSet_14 : decode cX12_readSet 14 = .ok (.iload_n 3, 1) := by decide +kernel
theorem dX12_readSet_15 : decode cX12_readSet 15 = .ok (.iastore, 1) := by decide +kernel
theorem dX12_readSet_16 : decode cX12_readSet 16 = .ok (.aload_n 0, 1) := by decide +kernel
theorem dX12_readSet_17 : decode cX12_readSet 17 = .ok (.invokevirtual 82, 3) := by decide +kernel
theorem dX12_readSet_20 : decode cX12_readSet 20 = .ok (.iconst 1, 1) := by decide +kernel
theorem dX12_readSet_21 : decode cX12_readSet 21 = .ok (.ireturn, 1) := by decide +kernel
def tX12_readSet (kn : sKn) : List (Nat × sA) := [(0, a_aload 0 1), (1, a_get 13 51 4), (4, a_iload 1 5), (5, a_iload 2 6), (6, a_iast 7), (7, a_aload 0 8), (8, a_get 13 51 11), (11, a_iload 1 12), (12, a_stk (q_int 1) 13), (13, a_stk q_iadd 14), (14, a_iload 3 15), (15, a_iast 16), (16, a_aload 0 17), (17, a_callV true (fX12_go kn) 13 1 20), (20, a_stk (q_int 1) 21), (21, a_zret)]
def fX12_readSet (kn : sKn) : List Value → sW → Option sR := fW (tX12_readSet kn) 4
set_option maxRecDepth 100000 in
set_option maxHeartbeats 4000000 in
theorem mX12_readSet (kn : sKn) : mM kn yX12_readSet (Cond.code yX12_readSet cX12_readSet 4 (some .boolean) :: wsL_law) 3 false (fX12_readSet kn) := mM_W (fun n => mM_of (own := RX12) (ini := false) rfl (by decide +kernel) (by decide +kernel) (all_c (ok_aload_n dX12_readSet_0 rfl) (all_c (okg_X12_51 kw1213 dX12_readSet_1) (all_c (ok_iload_n dX12_readSet_4 rfl) (all_c (ok_iload_n dX12_readSet_5 rfl) (all_c (ok_iast dX12_readSet_6) (all_c (ok_aload_n dX12_readSet_7 rfl) (all_c (okg_X12_51 kw1213 dX12_readSet_8) (all_c (ok_iload_n dX12_readSet_11 rfl) (all_c (ok_stk (s_iconst dX12_readSet_12 (by decide))) (all_c (ok_stk (s_iadd dX12_readSet_13)) (all_c (ok_iload_n dX12_readSet_14 rfl) (all_c (ok_iast dX12_readSet_15) (all_c (ok_aload_n dX12_readSet_16 rfl) (all_c (okc_X12_go (by decide) kw1179 dX12_readSet_17) (all_c (ok_stk (s_iconst dX12_readSet_20 (by decide))) (all_c (ok_zret dX12_readSet_21) all_n)))))))))))))))) n (fun h => by first | rfl | cases h))
end
