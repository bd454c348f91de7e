noncomputable section
theorem dX12_readSignerDoes_0 : decode cX12_readSignerDoes 0 = .ok (.aload_n 0, 1) := by decide +kernel
theorem dX12_readSignerDoes_1 : decode cX12_readSignerDoes 1 = .ok (.bipush 8, 2) := by decide +kernel
theorem dX12_readSignerDoes_3 : decode cX12_readSignerDoes 3 = .ok (.invokevirtual 219, 3) := by decide +kernel
theorem dX12_readSignerDoes_6 : decode cX12_readSignerDoes 6 = .ok (.ifCond .eq 27, 3) := by decide +kernel
theorem dX12_readSignerDoes_9 : decode cX12_readSignerDoes 9 = .ok (.aload_n 0, 1) := by decide +kernel
theorem dX12_readSignerDoes_10 : decode cX12_readSignerDoes 10 = .ok (.iload_n 1, 1) := by decide +kernel
theorem dX12_readSignerDoes_11 : decode cX12_readSignerDoes 11 = .ok (.iconst 0, 1) := by decide +kernel
theorem dX12_readSignerDoes_12 : decode cX12_readSignerDoes 12 = .ok (.iload_n 2, 1) := by decide +kernel
theorem dX12_readSignerDoes_13 : decode cX12_readSignerDoes 13 = .ok (.invokevirtual 441, 3) := by decide +kernel
theorem dX12_readSignerDoes_16 : decode cX12_readSignerDoes 16 = .ok (.ifCond .eq 15, 3) := by decide +kernel
theorem dX12_readSignerDoes_19 : decode cX12_readSignerDoes 19 = .ok (.aload_n 0, 1) := by decide +kernel
theorem dX12_readSignerDoes_20 : decode cX12_readSignerDoes 20 = .ok (.iload_n 1, 1) := by decide +kernel
theorem dX12_readSignerDoes_21 : decode cX12_readSignerDoes 21 = .ok (.invokevirtual 444, 3) := by decide +kernel
theorem dX12_readSignerDoes_24 : decode cX12_readSignerDoes 24 = .ok (.ifCond .eq 7, 3) := by decide +kernel
theorem dX12_readSignerDoes_27 : decode cX12_readSignerDoes 27 = .ok (.iconst 1, 1) := by decide +kernel
theorem dX12_readSignerDoes_28 : decode cX12_readSignerDoes 28 = .ok (.goto 4, 3) := by decide +kernel
theorem dX12_readSignerDoes_31 : decode cX12_readSignerDoes 31 = .ok (.iconst 0, 1) := by decide +kernel
theorem dX12_readSignerDoes_32 : decode cX12_readSignerDoes 32 = .ok (.ireturn, 1) := by decide +kernel
theorem dX12_readSignerDoes_33 : decode cX12_readSignerDoes 33 = .ok (.aload_n 0, 1) := by decide +kernel
theorem dX12_readSignerDoes_34 : decode cX12_readSignerDoes 34 = .ok (.bipush 9, 2) := by decide +kernel
theorem dX12_readSignerDoes_36 : decode cX12_readSignerDoes 36 = .ok (.invokevirtual 219, 3) := by decide +kernel
theorem dX12_readSignerDoes_39 : decode cX12_readSignerDoes 39 = .ok (.ifCond .eq 11, 3) := by decide +kernel
theorem dX12_readSignerDoes_42 : decode cX12_readSignerDoes 42 = .ok (.aload_n 0, 1) := by decide +kernel
theorem dX12_readSignerDoes_43 : decode cX12_readSignerDoes 43 = .ok (.iload_n 1, 1) := by decide +kernel
theorem dX12_readSignerDoes_44 : decode cX12_readSignerDoes 44 = .ok (.iconst 2, 1) := by decide +kernel
theorem dX12_readSignerDoes_45 : decode cX12_readSignerDoes 45 = .ok (.iload_n 2, 1) := by decide +kernel
theorem dX12_readSignerDoes_46 : decode cX12_readSignerDoes 46 = .ok (.invokevirtual 441, 3) := by decide +kernel
theorem dX12_readSignerDoes_49 : decode cX12_readSignerDoes 49 = .ok (.ireturn, 1) := by decide +kernel
theorem dX12_readSignerDoes_50 : decode cX12_readSignerDoes 50 = .ok (.aload_n 0, 1) := by decide +kernel
theorem dX12_readSignerDoes_51 : decode cX12_readSignerDoes 51 = .ok (.bipush 10, 2) := by decide +kernel
theorem dX12_readSignerDoes_53 : decode cX12_readSignerDoes 53 = .ok (.invokevirtual 219, 3) := by decide +kernel
theorem dX12_readSignerDoes_56 : decode cX12_readSignerDoes 56 = .ok (.ifCond .eq 11, 3) := by decide +kernel
theorem dX12_readSignerDoes_59 : decode cX12_readSignerDoes 59 = .ok (.aload_n 0, 1) := by decide +kernel
theorem dX12_readSignerDoes_60 : decode cX12_readSignerDoes 60 = .ok (.iload_n 1, 1) := by decide +kernel
theorem dX12_readSignerDoes_61 : decode cX12_readSignerDoes 61 = .ok (.iconst 3, 1) := by decide +kernel
theorem dX12_readSignerDoes_62 : decode cX12_readSignerDoes 62 = .ok (.iload_n 2, 1) := by decide +kernel
theorem dX12_readSignerDoes_63 : decode cX12_readSignerDoes 63 = .ok (.invokevirtual 441, 3) := by decide +kernel
theorem dX12_readSignerDoes_66 : decode cX12_readSignerDoes 66 = .ok (.ireturn, 1) := by decide +kernel
theorem dX12_readSignerDoes_67 : decode cX12_readSignerDoes 67 = .ok (.aload_n 0, 1) := by decide +kernel
theorem dX12_readSignerDoes_68 : decode cX12_readSignerDoes 68 = .ok (.bipush 11, 2) := by decide +kernel
theorem dX12_readSignerDoes_70 : decode cX12_readSignerDoes 70 = .ok (.invokevirtual 219, 3) := by decide +kernel
theorem dX12_readSignerDoes_73 : decode cX12_readSignerDoes 73 = .ok (.ifCond .eq 13, 3) := by decide +kernel
theorem dX12_readSignerDoes_76 : decode cX12_readSignerDoes 76 = .ok (.aload_n 0, 1) := by decide +kernel
theorem dX12_readSignerDoes_77 : decode cX12_readSignerDoes 77 = .ok (.iload_n 1, 1) := by decide +kernel
theorem dX12_readSignerDoes_78 : decode cX12_readSignerDoes 78 = .ok (.iconst 4, 1) := by decide +kernel
theorem dX12_readSignerDoes_79 : decode cX12_readSignerDoes 79 = .ok (.iload_n 2, 1) := by decide +kernel
theorem dX12_readSignerDoes_80 : decode cX12_readSignerDoes 80 = .ok (.invokevirtual 441, 3) := by decide +kernel
theorem dX12_readSignerDoes_83 : decode cX12_readSignerDoes 83 = .ok (.goto 8, 3) := by decide +kernel
theorem dX12_readSignerDoes_86 : decode cX12_readSignerDoes 86 = .ok (.aload_n 0, 1) := by decide +kernel
theorem dX12_readSignerDoes_87 : decode cX12_readSignerDoes 87 = .ok (.iconst 1, 1) := by decide +kernel
theorem dX12_readSignerDoes_88 : decode cX12_readSignerDoes 88 = .ok (.invokevirtual 72, 3) := by decide +kernel
theorem dX12_readSignerDoes_91 : decode cX12_readSignerDoes 91 = .ok (.ireturn, 1) := by decide +kernel
theorem okc_X12_isWord {kn : sKn} {cc : ByteArray} {own : String} {nL : Nat} {D : Nat} {ret : Option FieldType} {ini : Bool} {pc index : Nat} (hD : 3 + 1 ≤ D) (hl : Cond.methodLink own index yX12_isWord ∈ wsL_law) (hd : decode cc pc = .ok (.invokevirtual index, 3)) : mOk kn cc own nL wsL_law D ret ini pc (a_callV false (fX12_isWord kn) 13 (1 + 1) (pc + 3)) := ok_callV (mX12_isWord kn) (good_ws ws_good (fun _ h => h) kw1249) hD (by decide) hl kw1250 kw1251 kw1072 ⟨by decide +kernel, by decide +kernel, by decide +kernel⟩ rfl hd
theorem okc_X12_readSet {kn : sKn} {cc : ByteArray} {own : String} {nL : Nat} {D : Nat} {ret : Option FieldType} {ini : Bool} {pc index : Nat} (hD : 3 + 1 ≤ D) (hl : Cond.methodLink own index yX12_readSet ∈ wsL_law) (hd : decode cc pc = .ok (.invokevirtual index, 3)) : mOk kn cc own nL wsL_law D ret ini pc (a_callV false (fX12_readSet kn) 13 (3 + 1) (pc + 3)) := ok_callV (mX12_readSet kn) (good_ws ws_good (fun _ h => h) kw1253) hD (by decide) hl kw1254 kw1255 kw1072 ⟨by decide +kernel, by decide +kernel, by decide +kernel⟩ rfl hd
theorem okc_X12_readPlace {kn : sKn} {cc : ByteArray} {own : String} {nL : Nat} {D : Nat} {ret : Option FieldType} {ini : Bool} {pc index : Nat} (hD : 4 + 1 ≤ D) (hl : Cond.methodLink own index yX12_readPlace ∈ wsL_law) (hd : decode cc pc = .ok (.invokevirtual index, 3)) : mOk kn cc own nL wsL_law D ret ini pc (a_callV false (fX12_readPlace kn) 13 (1 + 1) (pc + 3)) := ok_callV (mX12_readPlace kn) (good_ws ws_good (fun _ h => h) kw1257) hD (by decide) hl kw1258 kw1259 kw1072 ⟨by decide +kernel, by decide +kernel, by decide +kernel⟩ rfl hd
def tX12_readSignerDoes (kn : sKn) : List (Nat × sA) := [(0, a_aload 0 1), (1, a_stk (q_int 8) 3), (3, a_callV false (fX12_isWord kn) 13 2 6), (6, a_if kn b_eq 0 33 9), (9, a_aload 0 10), (10, a_iload 1 11), (11, a_stk (q_int 0) 12), (12, a_iload 2 13), (13, a_callV false (fX12_readSet kn) 13 4 16), (16, a_if kn b_eq 0 31 19), (19, a_aload 0 20), (20, a_iload 1 21), (21, a_callV false (fX12_readPlace kn) 13 2 24), (24, a_if kn b_eq 0 31 27), (27, a_stk (q_int 1) 28), (28, a_goto 32), (31, a_stk (q_int 0) 32), (32, a_zret), (33, a_aload 0 34), (34, a_stk (q_int 9) 36), (36, a_callV false (fX12_isWord kn) 13 2 39), (39, a_if kn b_eq 0 50 42), (42, a_aload 0 43), (43, a_iload 1 44), (44, a_stk (q_int 2) 45), (45, a_iload 2 46), (46, a_callV false (fX12_readSet kn) 13 4 49), (49, a_zret), (50, a_aload 0 51), (51, a_stk (q_int 10) 53), (53, a_callV false (fX12_isWord kn) 13 2 56), (56, a_if kn b_eq 0 67 59), (59, a_aload 0 60), (60, a_iload 1 61), (61, a_stk (q_int 3) 62), (62, a_iload 2 63), (63, a_callV false (fX12_readSet kn) 13 4 66), (66, a_zret), (67, a_aload 0 68), (68, a_stk (q_int 11) 70), (70, a_callV false (fX12_isWord kn) 13 2 73), (73, a_if kn b_eq 0 86 76), (76, a_aload 0 77), (77, a_iload 1 78), (78, a_stk (q_int 4) 79), (79, a_iload 2 80), (80, a_callV false (fX12_readSet kn) 13 4 83), (83, a_goto 91), (86, a_aload 0 87), (87, a_stk (q_int 1) 88), (88, a_callV false (fX12_bad kn) 13 2 91), (91, a_zret)]
def fX12_readSignerDoes (kn : sKn) : List Value → sW → Option sR := fW (tX12_readSignerDoes kn) 3
set_option maxRecDepth 100000 in
set_option maxHeartbeats 4000000 in
theorem mX12_readSignerDoes (kn : sKn) : mM kn yX12_readSignerDoes (Cond.code yX12_readSignerDoes cX12_readSignerDoes 3 (some .boolean) :: wsL_law) 5 false (fX12_readSignerDoes kn) := mM_W (fun n => mM_of (own := RX12) (ini := false) rfl (by decide +kernel) (by decide +kernel) (all_c (ok_aload_n dX12_readSignerDoes_0 rfl) (all_c (ok_stk (s_bipush dX12_readSignerDoes_1 (by decide))) (all_c (okc_X12_isWord (by decide) kw1252 dX12_readSignerDoes_3) (all_c (ok_if_eq dX12_readSignerDoes_6 (by decide)) (all_c (ok_aload_n dX12_readSignerDoes_9 rfl) (all_c (ok_iload_n dX12_readSignerDoes_10 rfl) (all_c (ok_stk (s_iconst dX12_readSignerDoes_11 (by decide))) (all_c (ok_iload_n dX12_readSignerDoes_12 rfl) (all_c (okc_X12_readSet (by decide) kw1256 dX12_readSignerDoes_13) (all_c (ok_if_eq dX12_readSignerDoes_16 (by decide)) (all_c (ok_aload_n dX12_readSignerDoes_19 rfl) (all_c (ok_iload_n dX12_readSignerDoes_20 rfl) (all_c (okc_X12_readPlace (by decide) kw1260 dX12_readSignerDoes_21) (all_c (ok_if_eq dX12_readSignerDoes_24 (by decide)) (all_c (ok_stk (s_iconst dX12_readSignerDoes_27 (by decide))) (all_c (ok_goto dX12_readSignerDoes_28 (by decide)) (all_c (ok_stk (s_iconst dX12_readSignerDoes_31 (by decide))) (all_c (ok_zret dX12_readSignerDoes_32) (all_c (ok_aload_n dX12_readSignerDoes_33 rfl) (all_c (ok_stk (s_bipush dX12_readSignerDoes_34 (by decide))) (all_c (okc_X12_isWord (by decide) kw1252 dX12_readSignerDoes_36) (all_c (ok_if_eq dX12_readSignerDoes_39 (by decide)) (all_c (ok_aload_n dX12_readSignerDoes_42 rfl) (all_c (ok_iload_n dX12_readSignerDoes_43 rfl) (all_c (ok_stk (s_iconst dX12_readSignerDoes_44 (by decide))) (all_c (ok_iload_n dX12_readSignerDoes_45 rfl) (all_c (okc_X12_readSet (by decide) kw1256 dX12_readSignerDoes_46) (all_c (ok_zret dX12_readSignerDoes_49) (all_c (ok_aload_n dX12_readSignerDoes_50 rfl) (all_c (ok_stk (s_bipush dX12_readSignerDoes_51 (by decide))) (all_c (okc_X12_isWord (by decide) kw1252 dX12_readSignerDoes_53) (all_c (ok_if_eq dX12_readSignerDoes_56 (by decide)) (all_c (ok_aload_n dX12_readSignerDoes_59 rfl) (all_c (ok_iload_n dX12_readSignerDoes_60 rfl) (all_c (ok_stk (s_iconst dX12_readSignerDoes_61 (by decide))) (all_c (ok_iload_n dX12_readSignerDoes_62 rfl) (all_c (okc_X12_readSet (by decide) kw1256 dX12_readSignerDoes_63) (all_c (ok_zret dX12_readSignerDoes_66) (all_c (ok_aload_n dX12_readSignerDoes_67 rfl) (all_c (ok_stk (s_bipush dX12_readSignerDoes_68 (by decide))) (all_c (okc_X12_isWord (by decide) kw1252 dX12_readSignerDoes_70) (all_c (ok_if_eq dX12_readSignerDoes_73 (by decide)) (all_c (ok_aload_n dX12_readSignerDoes_76 rfl) (all_c (ok_iload_n dX12_readSignerDoes_77 rfl) (all_c (ok_stk (s_iconst dX12_readSignerDoes_78 (by decide))) (all_c (ok_iload_n dX12_readSignerDoes_79 rfl) (all_c (okc_X12_readSet (by decide) kw1256 dX12_readSignerDoes_80) (all_c (ok_goto dX12_readSignerDoes_83 (by decide)) (all_c (ok_aload_n dX12_readSignerDoes_86 rfl) (all_c (ok_stk (s_iconst dX12_readSignerDoes_87 (by decide))) (all_c (okc_X12_bad (by decide) kw1243 dX12_readSignerDoes_88) (all_c (ok_zret dX12_readSignerDoes_91) all_n)))))))))))))))))))))))))))))))))))))))))))))))))))) n (fun h => by first | rfl | cases h))
theorem dX12_readDoes_0 : decode cX12_readDoes 0 = .ok (.aload_n 0, 1) := by decide +kernel
theorem dX12_readDoes_1 : decode cX12_readDoes 1 = .ok (.bipush 12, 2) := by decide +kernel
theorem dX12_readDoes_3 : decode cX12_readDoes 3 = .ok (.invokevirtual 219, 3) := by decide +kernel
theorem dX12_readDoes_6 : decode cX12_readDoes 6 = .ok (.ifCond .eq 27, 3) := by decide +kernel
theorem dX12_readDoes_9 : decode cX12_readDoes 9 = .ok (.aload_n 0, 1) := by decide +kernel
theorem dX12_readDoes_10 : decode cX12_readDoes 10 = .ok (.iload_n 1, 1) := by decide +kernel
theorem dX12_readDoes_11 : decode cX12_readDoes 11 = .ok (.iconst 1, 1) := by decide +kernel
theorem dX12_readDoes_12 : decode cX12_readDoes 12 = .ok (.iconst (-1), 1) := by decide +kernel
theorem dX12_readDoes_13 : decode cX12_readDoes 13 = .ok (.invokevirtual 441, 3) := by decide +kernel
theorem dX12_readDoes_16 : decode cX12_readDoes 16 = .ok (.ifCond .eq 15, 3) := by decide +kernel
theorem dX12_readDoes_19 : decode cX12_readDoes 19 = .ok (.aload_n 0, 1) := by decide +kernel
theorem dX12_readDoes_20 : decode cX12_readDoes 20 = .ok (.iload_n 1, 1) := by decide +kernel
theorem dX12_readDoes_21 : decode cX12_readDoes 21 = .ok (.invokevirtual 444, 3) := by decide +kernel
theorem dX12_readDoes_24 : decode cX12_readDoes 24 = .ok (.ifCond .eq 7, 3) := by decide +kernel
theorem dX12_readDoes_27 : decode cX12_readDoes 27 = .ok (.iconst 1, 1) := by decide +kernel
theorem dX12_readDoes_28 : decode cX12_readDoes 28 = .ok (.goto 4, 3) := by decide +kernel
theorem dX12_readDoes_31 : decode cX12_readDoes 31 = .ok (.iconst 0, 1) := by decide +kernel
theorem dX12_readDoes_32 : decode cX12_readDoes 32 = .ok (.ireturn, 1) := by decide +kernel
theorem dX12_readDoes_33 : decode cX12_readDoes 33 = .ok (.aload_n 0, 1) := by decide +kernel
theorem dX12_readDoes_34 : decode cX12_readDoes 34 = .ok (.bipush 14, 2) := by decide +kernel
theorem dX12_readDoes_36 : decode cX12_readDoes 36 = .ok (.invokevirtual 219, 3) := by decide +kernel
theorem dX12_readDoes_39 : decode cX12_readDoes 39 = .ok (.ifCond .eq 38, 3) := by decide +kernel
theorem dX12_readDoes_42 : decode cX12_readDoes 42 = .ok (.aload_n 0, 1) := by decide +kernel
theorem dX12_readDoes_43 : decode cX12_readDoes 43 = .ok (.iload_n 1, 1) := by decide +kernel
theorem dX12_readDoes_44 : decode cX12_readDoes 44 = .ok (.bipush 6, 2) := by decide +kernel
theorem dX12_readDoes_46 : decode cX12_readDoes 46 = .ok (.iconst (-1), 1) := by decide +kernel
theorem dX12_readDoes_47 : decode cX12_readDoes 47 = .ok (.invokevirtual 441, 3) := by decide +kernel
theorem dX12_readDoes_50 : decode cX12_readDoes 50 = .ok (.pop, 1) := by decide +kernel
theorem dX12_readDoes_51 : decode cX12_readDoes 51 = .ok (.aload_n 0, 1) := by decide +kernel
theorem dX12_readDoes_52 : decode cX12_readDoes 52 = .ok (.iconst 1, 1) := by decide +kernel
theorem dX12_readDoes_53 : decode cX12_readDoes 53 = .ok (.bipush 60, 2) := by decide +kernel
theorem dX12_readDoes_55 : decode cX12_readDoes 55 = .ok (.invokevirtual 205, 3) := by decide +kernel
theorem dX12_readDoes_58 : decode cX12_readDoes 58 = .ok (.ifCond .ne 5, 3) := by decide +kernel
theorem dX12_readDoes_61 : decode cX12_readDoes 61 = .ok (.iconst 0, 1) := by decide +kernel
theorem dX12_readDoes_62 : decode cX12_readDoes 62 = .ok (.ireturn, 1) := by decide +kernel
theorem dX12_readDoes_63 : decode cX12_readDoes 63 = .ok (.aload_n 0, 1) := by decide +kernel
theorem dX12_readDoes_64 : decode cX12_readDoes 64 = .ok (.getfield 175, 3) := by decide +kernel
theorem dX12_readDoes_67 : decode cX12_readDoes 67 = .ok (.iload_n 1, 1) := by decide +kernel
theorem dX12_readDoes_68 : decode cX12_readDoes 68 = .ok (.iconst 2, 1) := by decide +kernel
theorem dX12_readDoes_69 : decode cX12_readDoes 69 = .ok (.iadd, 1) := by decide +kernel
theorem dX12_readDoes_70 : decode cX12_readDoes 70 = .ok (.aload_n 0, 1) := by decide +kernel
theorem dX12_readDoes_71 : decode cX12_readDoes 71 = .ok (.getfield 79, 3) := by decide +kernel
theorem dX12_readDoes_74 : decode cX12_readDoes 74 = .ok (.iastore, 1) := by decide +kernel
theorem dX12_readDoes_75 : decode cX12_readDoes 75 = .ok (.iconst 1, 1) := by decide +kernel
theorem dX12_readDoes_76 : decode cX12_readDoes 76 = .ok (.ireturn, 1) := by decide +kernel
theorem dX12_readDoes_77 : decode cX12_readDoes 77 = .ok (.aload_n 0, 1) := by decide +kernel
theorem dX12_readDoes_78 : decode cX12_readDoes 78 = .ok (.getfield 113, 3) := by decide +kernel
theorem dX12_readDoes_81 : decode cX12_readDoes 81 = .ok (.iconst 0, 1) := by decide +kernel
theorem dX12_readDoes_82 : decode cX12_readDoes 82 = .ok (.aload_n 0, 1) := by decide +kernel
theorem dX12_readDoes_83 : decode cX12_readDoes 83 = .ok (.getfield 98, 3) := by decide +kernel
theorem dX12_readDoes_86 : decode cX12_readDoes 86 = .ok (.iconst 1, 1) := by decide +kernel
theorem dX12_readDoes_87 : decode cX12_readDoes 87 = .ok (.iaload, 1) := by decide +kernel
theorem dX12_readDoes_88 : decode cX12_readDoes 88 = .ok (.aload_n 0, 1) := by decide +kernel
theorem dX12_readDoes_89 : decode cX12_readDoes 89 = .ok (.getfield 43, 3) := by decide +kernel
theorem dX12_readDoes_92 : decode cX12_readDoes 92 = .ok (.invokestatic 194, 3) := by decide +kernel
theorem dX12_readDoes_95 : decode cX12_readDoes 95 = .ok (.istore_n 2, 1) := by decide +kernel
theorem dX12_readDoes_96 : decode cX12_readDoes 96 = .ok (.aload_n 0, 1) := by decide +kernel
theorem dX12_readDoes_97 : decode cX12_readDoes 97 = .ok (.getfield 113, 3) := by decide +kernel
theorem dX12_readDoes_100 : decode cX12_readDoes 100 = .ok (.bipush 10, 2) := by decide +kernel
theorem dX12_readDoes_102 : decode cX12_readDoes 102 = .ok (.aload_n 0, 1) := by decide +kernel
theorem dX12_readDoes_103 : decode cX12_readDoes 103 = .ok (.getfield 98, 3) := by decide +kernel
theorem dX12_readDoes_106 : decode cX12_readDoes 106 = .ok (.iconst 2, 1) := by decide +kernel
theorem dX12_readDoes_107 : decode cX12_readDoes 107 = .ok (.iaload, 1) := by decide +kernel
theorem dX12_readDoes_108 : decode cX12_readDoes 108 = .ok (.aload_n 0, 1) := by decide +kernel
theorem dX12_readDoes_109 : decode cX12_readDoes 109 = .ok (.getfield 43, 3) := by decide +kernel
theorem dX12_readDoes_112 : decode cX12_readDoes 112 = .ok (.invokestatic 194, 3) := by decide +kernel
theorem dX12_readDoes_115 : decode cX12_readDoes 115 = .ok (.istore_n 3, 1) := by decide +kernel
theorem dX12_readDoes_116 : decode cX12_readDoes 116 = .ok (.aload_n 0, 1) := by decide +kernel
theorem dX12_readDoes_117 : decode cX12_readDoes 117 = .ok (.invokevirtual 82, 3) := by decide +kernel
theorem dX12_readDoes_120 : decode cX12_readDoes 120 = .ok (.iload_n 2, 1) := by decide +kernel
theorem dX12_readDoes_121 : decode cX12_readDoes 121 = .ok (.iconst (-1), 1) := by decide +kernel
theorem dX12_readDoes_122 : decode cX12_readDoes 122 = .ok (.if_icmp .eq 10, 3) := by decide +kernel
theorem dX12_readDoes_125 : decode cX12_readDoes 125 = .ok (.aload_n 0, 1) := by decide +kernel
theorem dX12_readDoes_126 : decode cX12_readDoes 126 = .ok (.iload_n 1, 1) := by decide +kernel
theorem dX12_readDoes_127 : decode cX12_readDoes 127 = .ok (.iload_n 2, 1) := by decide +kernel
theorem dX12_readDoes_128 : decode cX12_readDoes 128 = .ok (.invokevirtual 447, 3) := by decide +kernel
theorem dX12_readDoes_131 : decode cX12_readDoes 131 = .ok (.ireturn, 1) := by decide +kernel
theorem dX12_readDoes_132 : decode cX12_readDoes 132 = .ok (.aload_n 0, 1) := by decide +kernel
theorem dX12_readDoes_133 : decode cX12_readDoes 133 = .ok (.bipush 13, 2) := by decide +kernel
theorem dX12_readDoes_135 : decode cX12_readDoes 135 = .ok (.invokevirtual 219, 3) := by decide +kernel
theorem dX12_readDoes_138 : decode cX12_readDoes 138 = .ok (.ifCond .eq 13, 3) := by decide +kernel
theorem dX12_readDoes_141 : decode cX12_readDoes 141 = .ok (.aload_n 0, 1) := by decide +kernel
theorem dX12_readDoes_142 : decode cX12_readDoes 142 = .ok (.iload_n 1, 1) := by decide +kernel
theorem dX12_readDoes_143 : decode cX12_readDoes 143 = .ok (.iconst 5, 1) := by decide +kernel
theorem dX12_readDoes_144 : decode cX12_readDoes 144 = .ok (.iload_n 3, 1) := by decide +kernel
theorem dX12_readDoes_145 : decode cX12_readDoes 145 = .ok (.invokevirtual 441, 3) := by decide +kernel
theorem dX12_readDoes_148 : decode cX12_readDoes 148 = .ok (.goto 8, 3) := by decide +kernel
theorem dX12_readDoes_151 : decode cX12_readDoes 151 = .ok (.aload_n 0, 1) := by decide +kernel
theorem dX12_readDoes_152 : decode cX12_readDoes 152 = .ok (.iconst 1, 1) := by decide +kernel
theorem dX12_readDoes_153 : decode cX12_readDoes 153 = .ok (.invokevirtual 72, 3) := by decide +kernel
theorem dX12_readDoes_156 : decode cX12_readDoes 156 = .ok (.ireturn, 1) := by decide +kernel
theorem okc_X12_findIn {kn : sKn} {cc : ByteArray} {own : String} {nL : Nat} {D : Nat} {ret : Option FieldType} {ini : Bool} {pc index : Nat} (hD : 1 + 1 ≤ D) (hl : Cond.methodLink own index yX12_findIn ∈ wsL_law) (hd : decode cc pc = .ok (.invokestatic index, 3)) : mOk kn cc own nL wsL_law D ret ini pc (a_callS false (fX12_findIn kn) 4 (pc + 3)) := ok_callS (mX12_findIn kn) (good_ws ws_good (fun _ h => h) kw1262) hD (by decide) hl kw1263 kw1072 ⟨by decide +kernel, by decide +kernel, by decide +kernel⟩ hd
theorem okc_X12_readSignerDoes {kn : sKn} {cc : ByteArray} {own : String} {nL : Nat} {D : Nat} {ret : Option FieldType} {ini : Bool} {pc index : Nat} (hD : 5 + 1 ≤ D) (hl : Cond.methodLink own index yX12_readSignerDoes ∈ wsL_law) (hd : decode cc pc = .ok (.invokevirtual index, 3)) : mOk kn cc own nL wsL_law D ret ini pc (a_callV false (fX12_readSignerDoes kn) 13 (2 + 1) (pc + 3)) := ok_callV (mX12_readSignerDoes kn) (good_ws ws_good (fun _ h => h) kw1265) hD (by decide) hl kw1266 kw1267 kw1072 ⟨by decide +kernel, by decide +kernel, by decide +kernel⟩ rfl hd
def tX12_readDoes (kn : sKn) : List (Nat × sA) := [(0, a_aload 0 1), (1, a_stk (q_int 12) 3), (3, a_callV false (fX12_isWord kn) 13 2 6), (6, a_if kn b_eq 0 33 9), (9, a_aload 0 10), (10, a_iload 1 11), (11, a_stk (q_int 1) 12), (12, a_stk (q_int (-1)) 13), (13, a_callV false (fX12_readSet kn) 13 4 16), (16, a_if kn b_eq 0 31 19), (19, a_aload 0 20), (20, a_iload 1 21), (21, a_callV false (fX12_readPlace kn) 13 2 24), (24, a_if kn b_eq 0 31 27), (27, a_stk (q_int 1) 28), (28, a_goto 32), (31, a_stk (q_int 0) 32), (32, a_zret), (33, a_aload 0 34), (34, a_stk (q_int 14) 36), (36, a_callV false (fX12_isWord kn) 13 2 39), (39, a_if kn b_eq 0 77 42), (42, a_aload 0 43), (43, a_iload 1 44), (44, a_stk (q_int 6) 46), (46, a_stk (q_int (-1)) 47), (47, a_callV false (fX12_readSet kn) 13 4 50), (50, a_stk q_pop 51), (51, a_aload 0 52), (52, a_stk (q_int 1) 53), (53, a_stk (q_int 60) 55), (55, a_callV false (fX12_readNumber kn) 13 3 58), (58, a_if kn b_ne 1 63 61), (61, a_stk (q_int 0) 62), (62, a_zret), (63, a_aload 0 64), (64, a_get 13 51 67), (67, a_iload 1 68), (68, a_stk (q_int 2) 69), (69, a_stk q_iadd 70), (70, a_aload 0 71), (71, a_get 13 13 74), (74, a_iast 75), (75, a_stk (q_int 1) 76), (76, a_zret), (77, a_aload 0 78), (78, a_get 13 19 81), (81, a_stk (q_int 0) 82), (82, a_aload 0 83), (83, a_get 13 14 86), (86, a_stk (q_int 1) 87), (87, a_iald 88), (88, a_aload 0 89), (89, a_get 13 12 92), (92, a_callS false (fX12_findIn kn) 4 95), (95, a_istore 2 96), (96, a_aload 0 97), (97, a_get 13 19 100), (100, a_stk (q_int 10) 102), (102, a_aload 0 103), (103, a_get 13 14 106), (106, a_stk (q_int 2) 107), (107, a_iald 108), (108, a_aload 0 109), (109, a_get 13 12 112), (112, a_callS false (fX12_findIn kn) 4 115), (115, a_istore 3 116), (116, a_aload 0 117), (117, a_callV true (fX12_go kn) 13 1 120), (120, a_iload 2 121), (121, a_stk (q_int (-1)) 122), (122, a_icmp kn b_eq 0 132 125), (125, a_aload 0 126), (126, a_iload 1 127), (127, a_iload 2 128), (128, a_callV false (fX12_readSignerDoes kn) 13 3 131), (131, a_zret), (132, a_aload 0 133), (133, a_stk (q_int 13) 135), (135, a_callV false (fX12_isWord kn) 13 2 138), (138, a_if kn b_eq 0 151 141), (141, a_aload 0 142), (142, a_iload 1 143), (143, a_stk (q_int 5) 144), (144, a_iload 3 145), (145, a_callV false (fX12_readSet kn) 13 4 148), (148, a_goto 156), (151, a_aload 0 152), (152, a_stk (q_int 1) 153), (153, a_callV false (fX12_bad kn) 13 2 156), (156, a_zret)]
def fX12_readDoes (kn : sKn) : List Value → sW → Option sR := fW (tX12_readDoes kn) 4
set_option maxRecDepth 100000 in
set_option maxHeartbeats 4000000 in
theorem mX12_readDoes (kn : sKn) : mM kn yX12_readDoes (Cond.code yX12_readDoes cX12_readDoes 4 (some .boolean) :: wsL_law) 6 false (fX12_readDoes kn) := mM_W (fun n => mM_of (own := RX12) (ini := false) rfl (by decide +kernel) (by decide +kernel) (all_c (ok_aload_n dX12_readDoes_0 rfl) (all_c (ok_stk (s_bipush dX12_readDoes_1 (by decide))) (all_c (okc_X12_isWord (by decide) kw1252 dX12_readDoes_3) (all_c (ok_if_eq dX12_readDoes_6 (by decide)) (all_c (ok_aload_n dX12_readDoes_9 rfl) (all_c (ok_iload_n dX12_readDoes_10 rfl) (all_c (ok_stk (s_iconst dX12_readDoes_11 (by decide))) (all_c (ok_stk (s_iconst dX12_readDoes_12 (by decide))) (all_c (okc_X12_readSet (by decide) kw1256 dX12_readDoes_13) (all_c (ok_if_eq dX12_readDoes_16 (by decide)) (all_c (ok_aload_n dX12_readDoes_19 rfl) (all_c (ok_iload_n dX12_readDoes_20 rfl) (all_c (okc_X12_readPlace (by decide) kw1260 dX12_readDoes_21) (all_c (ok_if_eq dX12_readDoes_24 (by decide)) (all_c (ok_stk (s_iconst dX12_readDoes_27 (by decide))) (all_c (ok_goto dX12_readDoes_28 (by decide)) (all_c (ok_stk (s_iconst dX12_readDoes_31 (by decide))) (all_c (ok_zret dX12_readDoes_32) (all_c (ok_aload_n dX12_readDoes_33 rfl) (all_c (ok_stk (s_bipush dX12_readDoes_34 (by decide))) (all_c (okc_X12_isWord (by decide) kw1252 dX12_readDoes_36) (all_c (ok_if_eq dX12_readDoes_39 (by decide)) (all_c (ok_aload_n dX12_readDoes_42 rfl) (all_c (ok_iload_n dX12_readDoes_43 rfl) (all_c (ok_stk (s_bipush dX12_readDoes_44 (by decide))) (all_c (ok_stk (s_iconst dX12_readDoes_46 (by decide))) (all_c (okc_X12_readSet (by decide) kw1256 dX12_readDoes_47) (all_c (ok_stk (s_pop dX12_readDoes_50)) (all_c (ok_aload_n dX12_readDoes_51 rfl) (all_c (ok_stk (s_iconst dX12_readDoes_52 (by decide))) (all_c (ok_stk (s_bipush dX12_readDoes_53 (by decide))) (all_c (okc_X12_readNumber (by decide) kw1248 dX12_readDoes_55) (all_c (ok_if_ne dX12_readDoes_58 (by decide)) (all_c (ok_stk (s_iconst dX12_readDoes_61 (by decide))) (all_c (ok_zret dX12_readDoes_62) (all_c (ok_aload_n dX12_readDoes_63 rfl) (all_c (okg_X12_51 kw1213 dX12_readDoes_64) (all_c (ok_iload_n dX12_readDoes_67 rfl) (all_c (ok_stk (s_iconst dX12_readDoes_68 (by decide))) (all_c (ok_stk (s_iadd dX12_readDoes_69)) (all_c (ok_aload_n dX12_readDoes_70 rfl) (all_c (okg_X12_13 kw1244 dX12_readDoes_71) (all_c (ok_iast dX12_readDoes_74) (all_c (ok_stk (s_iconst dX12_readDoes_75 (by decide))) (all_c (ok_zret dX12_readDoes_76) (all_c (ok_aload_n dX12_readDoes_77 rfl) (all_c (okg_X12_19 kw1261 dX12_readDoes_78) (all_c (ok_stk (s_iconst dX12_readDoes_81 (by decide))) (all_c (ok_aload_n dX12_readDoes_82 rfl) (all_c (okg_X12_14 kw1069 dX12_readDoes_83) (all_c (ok_stk (s_iconst dX12_readDoes_86 (by decide))) (all_c (ok_iald dX12_readDoes_87) (all_c (ok_aload_n dX12_readDoes_88 rfl) (all_c (okg_X12_12 kw1163 dX12_readDoes_89) (all_c (okc_X12_findIn (by decide) kw1264 dX12_readDoes_92) (all_c (ok_istore_n dX12_readDoes_95 rfl (by decide)) (all_c (ok_aload_n dX12_readDoes_96 rfl) (all_c (okg_X12_19 kw1261 dX12_readDoes_97) (all_c (ok_stk (s_bipush dX12_readDoes_100 (by decide))) (all_c (ok_aload_n dX12_readDoes_102 rfl) (all_c (okg_X12_14 kw1069 dX12_readDoes_103) (all_c (ok_stk (s_iconst dX12_readDoes_106 (by decide))) (all_c (ok_iald dX12_readDoes_107) (all_c (ok_aload_n dX12_readDoes_108 rfl) (all_c (okg_X12_12 kw1163 dX12_readDoes_109) (all_c (okc_X12_findIn (by decide) kw1264 dX12_readDoes_112) (all_c (ok_istore_n dX12_readDoes_115 rfl (by decide)) (all_c (ok_aload_n dX12_readDoes_116 rfl) (all_c (okc_X12_go (by decide) kw1179 dX12_readDoes_117) (all_c (ok_iload_n dX12_readDoes_120 rfl) (all_c (ok_stk (s_iconst dX12_readDoes_121 (by decide))) (all_c (ok_icmp_eq dX12_readDoes_122 (by decide)) (all_c (ok_aload_n dX12_readDoes_125 rfl) (all_c (ok_iload_n dX12_readDoes_126 rfl) (all_c (ok_iload_n dX12_readDoes_127 rfl) (all_c (okc_X12_readSignerDoes (by decide) kw1268 dX12_readDoes_128) (all_c (ok_zret dX12_readDoes_131) (all_c (ok_aload_n dX12_readDoes_132 rfl) (all_c (ok_stk (s_bipush dX12_readDoes_133 (by decide))) (all_c (okc_X12_isWord (by decide) kw1252 dX12_readDoes_135) (all_c (ok_if_eq dX12_readDoes_138 (by decide)) (all_c (ok_aload_n dX12_readDoes_141 rfl) (all_c (ok_iload_n dX12_readDoes_142 rfl) (all_c (ok_stk (s_iconst dX12_readDoes_143 (by decide))) (all_c (ok_iload_n dX12_readDoes_144 rfl) (all_c (okc_X12_readSet (by decide) kw1256 dX12_readDoes_145) (all_c (ok_goto dX12_readDoes_148 (by decide)) (all_c (ok_aload_n dX12_readDoes_151 rfl) (all_c (ok_stk (s_iconst dX12_readDoes_152 (by decide))) (all_c (okc_X12_bad (by decide) kw1243 dX12_readDoes_153) (all_c (ok_zret dX12_readDoes_156) all_n))))))))))))))))))))))))))))))))))))))))))))))))))))))))))))))))))))))))))))))))))))))))))) n (fun h => by first | rfl | cases h))
theorem dX12_isSign_0 : decode cX12_isSign 0 = .ok (.aload_n 0, 1) := by decide +kernel
theorem dX12_isSign_1 : decode cX12_isSign 1 = .ok (.getfield 30, 3) := by decide +kernel
theorem dX12_isSign_4 : decode cX12_isSign 4 = .ok (.iconst 4, 1) := by decide +kernel
theorem dX12_isSign_5 : decode cX12_isSign 5 = .ok (.if_icmp .ne 15, 3) := by decide +kernel
theorem dX12_isSign_8 : decode cX12_isSign 8 = .ok (.aload_n 0, 1) := by decide +kernel
theorem dX12_isSign_9 : decode cX12_isSign 9 = .ok (.getfield 40, 3) := by decide +kernel
theorem dX12_isSign_12 : decode cX12_isSign 12 = .ok (.iload_n 1, 1) := by decide +kernel
theorem dX12_isSign_13 : decode cX12_isSign 13 = .ok (.if_icmp .ne 7, 3) := by decide +kernel
theorem dX12_isSign_16 : decode cX12_isSign 16 = .ok (.iconst 1, 1) := by decide +kernel
theorem dX12_isSign_17 : decode cX12_isSign 17 = .ok (.goto 4, 3) := by decide +kernel
theorem dX12_isSign_20 : decode cX12_isSign 20 = .ok (.iconst 0, 1) := by decide +kernel
theorem dX12_isSign_21 : decode cX12_isSign 21 = .ok (.ireturn, 1) := by decide +kernel
def tX12_isSign (kn : sKn) : List (Nat × sA) := [(0, a_aload 0 1), (1, a_get 13 7 4), (4, a_stk (q_int 4) 5), (5, a_icmp kn b_ne 1 20 8), (8, a_aload 0 9), (9, a_get 13 9 12), (12, a_iload 1 13), (13, a_icmp kn b_ne 1 20 16), (16, a_stk (q_int 1) 17), (17, a_goto 21), (20, a_stk (q_int 0) 21), (21, a_zret)]
def fX12_isSign (kn : sKn) : List Value → sW → Option sR := fW (tX12_isSign kn) 2
set_option maxRecDepth 100000 in
set_option maxHeartbeats 4000000 in
theorem mX12_isSign (kn : sKn) : mM kn yX12_isSign (Cond.code yX12_isSign cX12_isSign 2 (some .boolean) :: wsL_law) 1 false (fX12_isSign kn) := mM_W (fun n => mM_of (own := RX12) (ini := false) rfl (by decide +kernel) (by decide +kernel) (all_c (ok_aload_n dX12_isSign_0 rfl) (all_c (okg_X12_7 kw1148 dX12_isSign_1) (all_c (ok_stk (s_iconst dX12_isSign_4 (by decide))) (all_c (ok_icmp_ne dX12_isSign_5 (by decide)) (all_c (ok_aload_n dX12_isSign_8 rfl) (all_c (okg_X12_9 kw1162 dX12_isSign_9) (all_c (ok_iload_n dX12_isSign_12 rfl) (all_c (ok_icmp_ne dX12_isSign_13 (by decide)) (all_c (ok_stk (s_iconst dX12_isSign_16 (by decide))) (all_c (ok_goto dX12_isSign_17 (by decide)) (all_c (ok_stk (s_iconst dX12_isSign_20 (by decide))) (all_c (ok_zret dX12_isSign_21) all_n)))))))))))) n (fun h => by first | rfl | cases h))
theorem dX12_readEnd_0 : decode cX12_readEnd 0 = .ok (.aload_n 0, 1) := by decide +kernel
theorem dX12_readEnd_1 : decode cX12_readEnd 1 = .ok (.bipush 59, 2) := by decide +kernel
theorem dX12_readEnd_3 : decode cX12_readEnd 3 = .ok (.invokevirtual 86, 3) := by decide +kernel
theorem dX12_readEnd_6 : decode cX12_readEnd 6 = .ok (.ifCond .ne 9, 3) := by decide +kernel
theorem dX12_readEnd_9 : decode cX12_readEnd 9 = .ok (.aload_n 0, 1) := by decide +kernel
theorem dX12_readEnd_10 : decode cX12_readEnd 10 = .ok (.iconst 1, 1) := by decide +kernel
theorem dX12_readEnd_11 : decode cX12_readEnd 11 = .ok (.invokevirtual 72, 3) := by decide +kernel
theorem dX12_readEnd_14 : decode cX12_readEnd 14 = .ok (.ireturn, 1) := by decide +kernel
theorem dX12_readEnd_15 : decode cX12_readEnd 15 = .ok (.aload_n 0, 1) := by decide +kernel
theorem dX12_readEnd_16 : decode cX12_readEnd 16 = .ok (.invokevirtual 82, 3) := by decide +kernel
theorem dX12_readEnd_19 : decode cX12_readEnd 19 = .ok (.iconst 1, 1) := by decide +kernel
theorem dX12_readEnd_20 : decode cX12_readEnd 20 = .ok (.ireturn, 1) := by decide +kernel
theorem okc_X12_isSign {kn : sKn} {cc : ByteArray} {own : String} {nL : Nat} {D : Nat} {ret : Option FieldType} {ini : Bool} {pc index : Nat} (hD : 1 + 1 ≤ D) (hl : Cond.methodLink own index yX12_isSign ∈ wsL_law) (hd : decode cc pc = .ok (.invokevirtual index, 3)) : mOk kn cc own nL wsL_law D ret ini pc (a_callV false (fX12_isSign kn) 13 (1 + 1) (pc + 3)) := ok_callV (mX12_isSign kn) (good_ws ws_good (fun _ h => h) kw1269) hD (by decide) hl kw1270 kw1271 kw1072 ⟨by decide +kernel, by decide +kernel, by decide +kernel⟩ rfl hd
def tX12_readEnd (kn : sKn) : List (Nat × sA) := [(0, a_aload 0 1), (1, a_stk (q_int 59) 3), (3, a_callV false (fX12_isSign kn) 13 2 6), (6, a_if kn b_ne 1 15 9), (9, a_aload 0 10), (10, a_stk (q_int 1) 11), (11, a_callV false (fX12_bad kn) 13 2 14), (14, a_zret), (15, a_aload 0 16), (16, a_callV true (fX12_go kn) 13 1 19), (19, a_stk (q_int 1) 20), (20, a_zret)]
def fX12_readEnd (kn : sKn) : List Value → sW → Option sR := fW (tX12_readEnd kn) 1
set_option maxRecDepth 100000 in
set_option maxHeartbeats 4000000 in
theorem mX12_readEnd (kn : sKn) : mM kn yX12_readEnd (Cond.code yX12_readEnd cX12_readEnd 1 (some .boolean) :: wsL_law) 3 false (fX12_readEnd kn) := mM_W (fun n => mM_of (own := RX12) (ini := false) rfl (by decide +kernel) (by decide +kernel) (all_c (ok_aload_n dX12_readEnd_0 rfl) (all_c (ok_stk (s_bipush dX12_readEnd_1 (by decide))) (all_c (okc_X12_isSign (by decide) kw1272 dX12_readEnd_3) (all_c (ok_if_ne dX12_readEnd_6 (by decide)) (all_c (ok_aload_n dX12_readEnd_9 rfl) (all_c (ok_stk (s_iconst dX12_readEnd_10 (by decide))) (all_c (okc_X12_bad (by decide) kw1243 dX12_readEnd_11) (all_c (ok_zret dX12_readEnd_14) (all_c (ok_aload_n dX12_readEnd_15 rfl) (all_c (okc_X12_go (by decide) kw1179 dX12_readEnd_16) (all_c (ok_stk (s_iconst dX12_readEnd_19 (by decide))) (all_c (ok_zret dX12_readEnd_20) all_n)))))))))))) n (fun h => by first | rfl | cases h))
theorem dX12_readBookLine_0 : decode cX12_readBookLine 0 = .ok (.aload_n 0, 1) := by decide +kernel
theorem dX12_readBookLine_1 : decode cX12_readBookLine 1 = .ok (.bipush 12, 2) := by decide +kernel
theorem dX12_readBookLine_3 : decode cX12_readBookLine 3 = .ok (.invokevirtual 219, 3) := by decide +kernel
theorem dX12_readBookLine_6 : decode cX12_readBookLine 6 = .ok (.ifCond .ne 76, 3) := by decide +kernel
theorem dX12_readBookLine_9 : decode cX12_readBookLine 9 = .ok (.aload_n 0, 1) := by decide +kernel
theorem dX12_readBookLine_10 : decode cX12_readBookLine 10 = .ok (.bipush 14, 2) := by decide +kernel
theorem dX12_readBookLine_12 : decode cX12_readBookLine 12 = .ok (.invokevirtual 219, 3) := by decide +kernel
theorem dX12_readBookLine_15 : decode cX12_readBookLine 15 = .ok (.ifCond .ne 67, 3) := by decide +kernel
theorem dX12_readBookLine_18 : decode cX12_readBookLine 18 = .ok (.aload_n 0, 1) := by decide +kernel
theorem dX12_readBookLine_19 : decode cX12_readBookLine 19 = .ok (.invokevirtual 190, 3) := by decide +kernel
theorem dX12_readBookLine_22 : decode cX12_readBookLine 22 = .ok (.ifCond .ne 9, 3) := by decide +kernel
theorem dX12_readBookLine_25 : decode cX12_readBookLine 25 = .ok (.aload_n 0, 1) := by decide +kernel
theorem dX12_readBookLine_26 : decode cX12_readBookLine 26 = .ok (.iconst 1, 1) := by decide +kernel
theorem dX12_readBookLine_27 : decode cX12_readBookLine 27 = .ok (.invokevirtual 72, 3) := by decide +kernel
theorem dX12_readBookLine_30 : decode cX12_readBookLine 30 = .ok (.ireturn, 1) := by decide +kernel
theorem dX12_readBookLine_31 : decode cX12_readBookLine 31 = .ok (.aload_n 0, 1) := by decide +kernel
theorem dX12_readBookLine_32 : decode cX12_readBookLine 32 = .ok (.getfield 113, 3) := by decide +kernel
theorem dX12_readBookLine_35 : decode cX12_readBookLine 35 = .ok (.iconst 0, 1) := by decide +kernel
theorem dX12_readBookLine_36 : decode cX12_readBookLine 36 = .ok (.aload_n 0, 1) := by decide +kernel
theorem dX12_readBookLine_37 : decode cX12_readBookLine 37 = .ok (.getfield 98, 3) := by decide +kernel
theorem dX12_readBookLine_40 : decode cX12_readBookLine 40 = .ok (.iconst 1, 1) := by decide +kernel
theorem dX12_readBookLine_41 : decode cX12_readBookLine 41 = .ok (.iaload, 1) := by decide +kernel
theorem dX12_readBookLine_42 : decode cX12_readBookLine 42 = .ok (.aload_n 0, 1) := by decide +kernel
theorem dX12_readBookLine_43 : decode cX12_readBookLine 43 = .ok (.getfield 43, 3) := by decide +kernel
theorem dX12_readBookLine_46 : decode cX12_readBookLine 46 = .ok (.invokestatic 194, 3) := by decide +kernel
theorem dX12_readBookLine_49 : decode cX12_readBookLine 49 = .ok (.iconst (-1), 1) := by decide +kernel
theorem dX12_readBookLine_50 : decode cX12_readBookLine 50 = .ok (.if_icmp .ne 32, 3) := by decide +kernel
theorem dX12_readBookLine_53 : decode cX12_readBookLine 53 = .ok (.aload_n 0, 1) := by decide +kernel
theorem dX12_readBookLine_54 : decode cX12_readBookLine 54 = .ok (.getfield 113, 3) := by decide +kernel
theorem dX12_readBookLine_57 : decode cX12_readBookLine 57 = .ok (.bipush 10, 2) := by decide +kernel
theorem dX12_readBookLine_59 : decode cX12_readBookLine 59 = .ok (.aload_n 0, 1) := by decide +kernel
theorem dX12_readBookLine_60 : decode cX12_readBookLine 60 = .ok (.getfield 98, 3) := by decide +kernel
theorem dX12_readBookLine_63 : decode cX12_readBookLine 63 = .ok (.iconst 2, 1) := by decide +kernel
theorem dX12_readBookLine_64 : decode cX12_readBookLine 64 = .ok (.iaload, 1) := by decide +kernel
theorem dX12_readBookLine_65 : decode cX12_readBookLine 65 = .ok (.aload_n 0, 1) := by decide +kernel
theorem dX12_readBookLine_66 : decode cX12_readBookLine 66 = .ok (.getfield 43, 3) := by decide +kernel
theorem dX12_readBookLine_69 : decode cX12_readBookLine 69 = .ok (.invokestatic 194, 3) := by decide +kernel
theorem dX12_readBookLine_72 : decode cX12_readBookLine 72 = .ok (.iconst (-1), 1) := by decide +kernel
theorem dX12_readBookLine_73 : decode cX12_readBookLine 73 = .ok (.if_icmp .ne 9, 3) := by decide +kernel
theorem dX12_readBookLine_76 : decode cX12_readBookLine 76 = .ok (.aload_n 0, 1) := by decide +kernel
theorem dX12_readBookLine_77 : decode cX12_readBookLine 77 = .ok (.iconst 3, 1) := by decide +kernel
theorem dX12_readBookLine_78 : decode cX12_readBookLine 78 = .ok (.invokevirtual 72, 3) := by decide +kernel
theorem dX12_readBookLine_81 : decode cX12_readBookLine 81 = .ok (.ireturn, 1) := by decide +kernel
theorem dX12_readBookLine_82 : decode cX12_readBookLine 82 = .ok (.aload_n 0, 1) := by decide +kernel
theorem dX12_readBookLine_83 : decode cX12_readBookLine 83 = .ok (.getfield 450, 3) := by decide +kernel
theorem dX12_readBookLine_86 : decode cX12_readBookLine 86 = .ok (.bipush 40, 2) := by decide +kernel
theorem dX12_readBookLine_88 : decode cX12_readBookLine 88 = .ok (.if_icmp .ne 9, 3) := by decide +kernel
theorem dX12_readBookLine_91 : decode cX12_readBookLine 91 = .ok (.aload_n 0, 1) := by decide +kernel
theorem dX12_readBookLine_92 : decode cX12_readBookLine 92 = .ok (.iconst 4, 1) := by decide +kernel
theorem dX12_readBookLine_93 : decode cX12_readBookLine 93 = .ok (.invokevirtual 72, 3) := by decide +kernel
theorem dX12_readBookLine_96 : decode cX12_readBookLine 96 = .ok (.ireturn, 1) := by decide +kernel
theorem dX12_readBookLine_97 : decode cX12_readBookLine 97 = .ok (.aload_n 0, 1) := by decide +kernel
theorem dX12_readBookLine_98 : decode cX12_readBookLine 98 = .ok (.iconst 4, 1) := by decide +kernel
theorem dX12_readBookLine_99 : decode cX12_readBookLine 99 = .ok (.aload_n 0, 1) := by decide +kernel
theorem dX12_readBookLine_100 : decode cX12_readBookLine 100 = .ok (.getfield 450, 3) := by decide +kernel
theorem dX12_readBookLine_103 : decode cX12_readBookLine 103 = .ok (.imul, 1) := by decide +kernel
theorem dX12_readBookLine_104 : decode cX12_readBookLine 104 = .ok (.invokevirtual 453, 3) := by decide +kernel
theorem dX12_readBookLine_107 : decode cX12_readBookLine 107 = .ok (.ifCond .eq 14, 3) := by decide +kernel
theorem dX12_readBookLine_110 : decode cX12_readBookLine 110 = .ok (.aload_n 0, 1) := by decide +kernel
theorem dX12_readBookLine_111 : decode cX12_readBookLine 111 = .ok (.invokevirtual 255, 3) := by decide +kernel
theorem dX12_readBookLine_114 : decode cX12_readBookLine 114 = .ok (.ifCond .eq 7, 3) := by decide +kernel
theorem dX12_readBookLine_117 : decode cX12_readBookLine 117 = .ok (.iconst 1, 1) := by decide +kernel
theorem dX12_readBookLine_118 : decode cX12_readBookLine 118 = .ok (.goto 4, 3) := by decide +kernel
theorem dX12_readBookLine_121 : decode cX12_readBookLine 121 = .ok (.iconst 0, 1) := by decide +kernel
theorem dX12_readBookLine_122 : decode cX12_readBookLine 122 = .ok (.ireturn, 1) := by decide +kernel
theorem okc_X12_isName {kn : sKn} {cc : ByteArray} {own : String} {nL : Nat} {D : Nat} {ret : Option FieldType} {ini : Bool} {pc index : Nat} (hD : 3 + 1 ≤ D) (hl : Cond.methodLink own index yX12_isName ∈ wsL_law) (hd : decode cc pc = .ok (.invokevirtual index, 3)) : mOk kn cc own nL wsL_law D ret ini pc (a_callV false (fX12_isName kn) 13 (0 + 1) (pc + 3)) := ok_callV (mX12_isName kn) (good_ws ws_good (fun _ h => h) kw1273) hD (by decide) hl kw1274 kw1275 kw1072 ⟨by decide +kernel, by decide +kernel, by decide +kernel⟩ rfl hd
theorem okc_X12_readDoes {kn : sKn} {cc : ByteArray} {own : String} {nL : Nat} {D : Nat} {ret : Option FieldType} {ini : Bool} {pc index : Nat} (hD : 6 + 1 ≤ D) (hl : Cond.methodLink own index yX12_readDoes ∈ wsL_law) (hd : decode cc pc = .ok (.invokevirtual index, 3)) : mOk kn cc own nL wsL_law D ret ini pc (a_callV false (fX12_readDoes kn) 13 (1 + 1) (pc + 3)) := ok_callV (mX12_readDoes kn) (good_ws ws_good (fun _ h => h) kw1278) hD (by decide) hl kw1279 kw1280 kw1072 ⟨by decide +kernel, by decide +kernel, by decide +kernel⟩ rfl hd
theorem okc_X12_readEnd {kn : sKn} {cc : ByteArray} {own : String} {nL : Nat} {D : Nat} {ret : Option FieldType} {ini : Bool} {pc index : Nat} (hD : 3 + 1 ≤ D) (hl : Cond.methodLink own index yX12_readEnd ∈ wsL_law) (hd : decode cc pc = .ok (.invokevirtual index, 3)) : mOk kn cc own nL wsL_law D ret ini pc (a_callV false (fX12_readEnd kn) 13 (0 + 1) (pc + 3)) := ok_callV (mX12_readEnd kn) (good_ws ws_good (fun _ h => h) kw1282) hD (by decide) hl kw1283 kw1284 kw1072 ⟨by decide +kernel, by decide +kernel, by decide +kernel⟩ rfl hd
def tX12_readBookLine (kn : sKn) : List (Nat × sA) := [(0, a_aload 0 1), (1, a_stk (q_int 12) 3), (3, a_callV false (fX12_isWord kn) 13 2 6), (6, a_if kn b_ne 1 82 9), (9, a_aload 0 10), (10, a_stk (q_int 14) 12), (12, a_callV false (fX12_isWord kn) 13 2 15), (15, a_if kn b_ne 1 82 18), (18, a_aload 0 19), (19, a_callV false (fX12_isName kn) 13 1 22), (22, a_if kn b_ne 1 31 25), (25, a_aload 0 26), (26, a_stk (q_int 1) 27), (27, a_callV false (fX12_bad kn) 13 2 30), (30, a_zret), (31, a_aload 0 32), (32, a_get 13 19 35), (35, a_stk (q_int 0) 36), (36, a_aload 0 37), (37, a_get 13 14 40), (40, a_stk (q_int 1) 41), (41, a_iald 42), (42, a_aload 0 43), (43, a_get 13 12 46), (46, a_callS false (fX12_findIn kn) 4 49), (49, a_stk (q_int (-1)) 50), (50, a_icmp kn b_ne 1 82 53), (53, a_aload 0 54), (54, a_get 13 19 57), (57, a_stk (q_int 10) 59), (59, a_aload 0 60), (60, a_get 13 14 63), (63, a_stk (q_int 2) 64), (64, a_iald 65), (65, a_aload 0 66), (66, a_get 13 12 69), (69, a_callS false (fX12_findIn kn) 4 72), (72, a_stk (q_int (-1)) 73), (73, a_icmp kn b_ne 1 82 76), (76, a_aload 0 77), (77, a_stk (q_int 3) 78), (78, a_callV false (fX12_bad kn) 13 2 81), (81, a_zret), (82, a_aload 0 83), (83, a_get 13 53 86), (86, a_stk (q_int 40) 88), (88, a_icmp kn b_ne 1 97 91), (91, a_aload 0 92), (92, a_stk (q_int 4) 93), (93, a_callV false (fX12_bad kn) 13 2 96), (96, a_zret), (97, a_aload 0 98), (98, a_stk (q_int 4) 99), (99, a_aload 0 100), (100, a_get 13 53 103), (103, a_stk q_imul 104), (104, a_callV false (fX12_readDoes kn) 13 2 107), (107, a_if kn b_eq 0 121 110), (110, a_aload 0 111), (111, a_callV false (fX12_readEnd kn) 13 1 114), (114, a_if kn b_eq 0 121 117), (117, a_stk (q_int 1) 118), (118, a_goto 122), (121, a_stk (q_int 0) 122), (122, a_zret)]
def fX12_readBookLine (kn : sKn) : List Value → sW → Option sR := fW (tX12_readBookLine kn) 1
set_option maxRecDepth 100000 in
set_option maxHeartbeats 4000000 in
theorem mX12_readBookLine (kn : sKn) : mM kn yX12_readBookLine (Cond.code yX12_readBookLine cX12_readBookLine 1 (some .boolean) :: wsL_law) 7 false (fX12_readBookLine kn) := mM_W (fun n => mM_of (own := RX12) (ini := false) rfl (by decide +kernel) (by decide +kernel) (all_c (ok_aload_n dX12_readBookLine_0 rfl) (all_c (ok_stk (s_bipush dX12_readBookLine_1 (by decide))) (all_c (okc_X12_isWord (by decide) kw1252 dX12_readBookLine_3) (all_c (ok_if_ne dX12_readBookLine_6 (by decide)) (all_c (ok_aload_n dX12_readBookLine_9 rfl) (all_c (ok_stk (s_bipush dX12_readBookLine_10 (by decide))) (all_c (okc_X12_isWord (by decide) kw1252 dX12_readBookLine_12) (all_c (ok_if_ne dX12_readBookLine_15 (by decide)) (all_c (ok_aload_n dX12_readBookLine_18 rfl) (all_c (okc_X12_isName (by decide) kw1276 dX12_readBookLine_19) (all_c (ok_if_ne dX12_readBookLine_22 (by decide)) (all_c (ok_aload_n dX12_readBookLine_25 rfl) (all_c (ok_stk (s_iconst dX12_readBookLine_26 (by decide))) (all_c (okc_X12_bad (by decide) kw1243 dX12_readBookLine_27) (all_c (ok_zret dX12_readBookLine_30) (all_c (ok_aload_n dX12_readBookLine_31 rfl) (all_c (okg_X12_19 kw1261 dX12_readBookLine_32) (all_c (ok_stk (s_iconst dX12_readBookLine_35 (by decide))) (all_c (ok_aload_n dX12_readBookLine_36 rfl) (all_c (okg_X12_14 kw1069 dX12_readBookLine_37) (all_c (ok_stk (s_iconst dX12_readBookLine_40 (by decide))) (all_c (ok_iald dX12_readBookLine_41) (all_c (ok_aload_n dX12_readBookLine_42 rfl) (all_c (okg_X12_12 kw1163 dX12_readBookLine_43) (all_c (okc_X12_findIn (by decide) kw1264 dX12_readBookLine_46) (all_c (ok_stk (s_iconst dX12_readBookLine_49 (by decide))) (all_c (ok_icmp_ne dX12_readBookLine_50 (by decide)) (all_c (ok_aload_n dX12_readBookLine_53 rfl) (all_c (okg_X12_19 kw1261 dX12_readBookLine_54) (all_c (ok_stk (s_bipush dX12_readBookLine_57 (by decide))) (all_c (ok_aload_n dX12_readBookLine_59 rfl) (all_c (okg_X12_14 kw1069 dX12_readBookLine_60) (all_c (ok_stk (s_iconst dX12_readBookLine_63 (by decide))) (all_c (ok_iald dX12_readBookLine_64) (all_c (ok_aload_n dX12_readBookLine_65 rfl) (all_c (okg_X12_12 kw1163 dX12_readBookLine_66) (all_c (okc_X12_findIn (by decide) kw1264 dX12_readBookLine_69) (all_c (ok_stk (s_iconst dX12_readBookLine_72 (by decide))) (all_c (ok_icmp_ne dX12_readBookLine_73 (by decide)) (all_c (ok_aload_n dX12_readBookLine_76 rfl) (all_c (ok_stk (s_iconst dX12_readBookLine_77 (by decide))) (all_c (okc_X12_bad (by decide) kw1243 dX12_readBookLine_78) (all_c (ok_zret dX12_readBookLine_81) (all_c (ok_aload_n dX12_readBookLine_82 rfl) (all_c (okg_X12_53 kw1277 dX12_readBookLine_83) (all_c (ok_stk (s_bipush dX12_readBookLine_86 (by decide))) (all_c (ok_icmp_ne dX12_readBookLine_88 (by decide)) (all_c (ok_aload_n dX12_readBookLine_91 rfl) (all_c (ok_stk (s_iconst dX12_readBookLine_92 (by decide))) (all_c (okc_X12_bad (by decide) kw1243 dX12_readBookLine_93) (all_c (ok_zret dX12_readBookLine_96) (all_c (ok_aload_n dX12_readBookLine_97 rfl) (all_c (ok_stk (s_iconst dX12_readBookLine_98 (by decide))) (all_c (ok_aload_n dX12_readBookLine_99 rfl) (all_c (okg_X12_53 kw1277 dX12_readBookLine_100) (all_c (ok_stk (s_imul dX12_readBookLine_103)) (all_c (okc_X12_readDoes (by decide) kw1281 dX12_readBookLine_104) (all_c (ok_if_eq dX12_readBookLine_107 (by decide)) (all_c (ok_aload_n dX12_readBookLine_110 rfl) (all_c (okc_X12_readEnd (by decide) kw1285 dX12_readBookLine_111) (all_c (ok_if_eq dX12_readBookLine_114 (by decide)) (all_c (ok_stk (s_iconst dX12_readBookLine_117 (by decide))) (all_c (ok_goto dX12_readBookLine_118 (by decide)) (all_c (ok_stk (s_iconst dX12_readBookLine_121 (by decide))) (all_c (ok_zret dX12_readBookLine_122) all_n))))))))))))))))))))))))))))))))))))))))))))))))))))))))))))))))) n (fun h => by first | rfl | cases h))
theorem dX12_snap_0 : decode cX12_snap 0 = .ok (.aload_n 0, 1) := by decide +kernel
theorem dX12_snap_1 : decode cX12_snap 1 = .ok (.getfield 258, 3) := by decide +kernel
theorem dX12_snap_4 : decode cX12_snap 4 = .ok (.bipush 8, 2) := by decide +kernel
theorem dX12_snap_6 : decode cX12_snap 6 = .ok (.if_icmp .ne 43, 3) := by decide +kernel
theorem dX12_snap_9 : decode cX12_snap 9 = .ok (.iconst 0, 1) := by decide +kernel
theorem dX12_snap_10 : decode cX12_snap 10 = .ok (.istore_n 1, 1) := by decide +kernel
theorem dX12_snap_11 : decode cX12_snap 11 = .ok (.iload_n 1, 1) := by decide +kernel
theorem dX12_snap_12 : decode cX12_snap 12 = .ok (.sipush 714, 3) := by decide +kernel
theorem dX12_snap_15 : decode cX12_snap 15 = .ok (.if_icmp .ge 24, 3) := by decide +kernel
theorem dX12_snap_18 : decode cX12_snap 18 = .ok (.aload_n 0, 1) := by decide +kernel
theorem dX12_snap_19 : decode cX12_snap 19 = .ok (.getfield 107, 3) := by decide +kernel
theorem dX12_snap_22 : decode cX12_snap 22 = .ok (.iload_n 1, 1) := by decide +kernel
theorem dX12_snap_23 : decode cX12_snap 23 = .ok (.aload_n 0, 1) := by decide +kernel
theorem dX12_snap_24 : decode cX12_snap 24 = .ok (.getfield 107, 3) := by decide +kernel
theorem dX12_snap_27 : decode cX12_snap 27 = .ok (.iload_n 1, 1) := by decide +kernel
theorem dX12_snap_28 : decode cX12_snap 28 = .ok (.bipush 102, 2) := by decide +kernel
theorem dX12_snap_30 : decode cX12_snap 30 = .ok (.iadd, 1) := by decide +kernel
theorem dX12_snap_31 : decode cX12_snap 31 = .ok (.iaload, 1) := by decide +kernel
theorem dX12_snap_32 : decode cX12_snap 32 = .ok (.iastore, 1) := by decide +kernel
theorem dX12_snap_33 : decode cX12_snap 33 = .ok (.iinc 1 1, 3) := by decide +kernel
theorem dX12_snap_36 : decode cX12_snap 36 = .ok (.goto (-25), 3) := by decide +kernel
theorem dX12_snap_39 : decode cX12_snap 39 = .ok (.aload_n 0, 1) := by decide +kernel
theorem dX12_snap_40 : decode cX12_snap 40 = .ok (.dup, 1) := by decide +kernel
theorem dX12_snap_41 : decode cX12_snap 41 = .ok (.getfield 258, 3) := by decide +kernel
theorem dX12_snap_44 : decode cX12_snap 44 = .ok (.iconst 1, 1) := by decide +kernel
theorem dX12_snap_45 : decode cX12_snap 45 = .ok (.isub, 1) := by decide +kernel
theorem dX12_snap_46 : decode cX12_snap 46 = .ok (.putfield 258, 3) := by decide +kernel
theorem dX12_snap_49 : decode cX12_snap 49 = .ok (.iconst 0, 1) := by decide +kernel
theorem dX12_snap_50 : decode cX12_snap 50 = .ok (.istore_n 1, 1) := by decide +kernel
theorem dX12_snap_51 : decode cX12_snap 51 = .ok (.iload_n 1, 1) := by decide +kernel
theorem dX12_snap_52 : decode cX12_snap 52 = .ok (.bipush 102, 2) := by decide +kernel
theorem dX12_snap_54 : decode cX12_snap 54 = .ok (.if_icmp .ge 32, 3) := by decide +kernel
theorem dX12_snap_57 : decode cX12_snap 57 = .ok (.aload_n 0, 1) := by decide +kernel
theorem dX12_snap_58 : decode cX12_snap 58 = .ok (.getfield 107, 3) := by decide +kernel
theorem dX12_snap_61 : decode cX12_snap 61 = .ok (.bipush 102, 2) := by decide +kernel
theorem dX12_snap_63 : decode cX12_snap 63 = .ok (.aload_n 0, 1) := by decide +kernel
theorem dX12_snap_64 : decode cX12_snap 64 = .ok (.getfield 258, 3) := by decide +kernel
theorem dX12_snap_67 : decode cX12_snap 67 = .ok (.imul, 1) := by decide +kernel
theorem dX12_snap_68 : decode cX12_snap 68 = .ok (.iload_n 1, 1) := by decide +kernel
theorem dX12_snap_69 : decode cX12_snap 69 = .ok (.iadd, 1) := by decide +kernel
theorem dX12_snap_70 : decode cX12_snap 70 = .ok (.aload_n 0, 1) := by decide +kernel
theorem dX12_snap_71 : decode cX12_snap 71 = .ok (.getfield 98, 3) := by decide +kernel
theorem dX12_snap_74 : decode cX12_snap 74 = .ok (.bipush 94, 2) := by decide +kernel
theorem dX12_snap_76 : decode cX12_snap 76 = .ok (.iload_n 1, 1) := by decide +kernel
theorem dX12_snap_77 : decode cX12_snap 77 = .ok (.iadd, 1) := by decide +kernel
theorem dX12_snap_78 : decode cX12_snap 78 = .ok (.iaload, 1) := by decide +kernel
theorem dX12_snap_79 : decode cX12_snap 79 = .ok (.iastore, 1) := by decide +kernel
theorem dX12_snap_80 : decode cX12_snap 80 = .ok (.iinc 1 1, 3) := by decide +kernel
theorem dX12_snap_83 : decode cX12_snap 83 = .ok (.goto (-32), 3) := by decide +kernel
theorem dX12_snap_86 : decode cX12_snap 86 = .ok (.aload_n 0, 1) := by decide +kernel
theorem dX12_snap_87 : decode cX12_snap 87 = .ok (.dup, 1) := by decide +kernel
theorem dX12_snap_88 : decode cX12_snap 88 = .ok (.getfield 258, 3) := by decide +kernel
theorem dX12_snap_91 : decode cX12_snap 91 = .ok (.iconst 1, 1) := by decide +kernel
theorem dX12_snap_92 : decode cX12_snap 92 = .ok (.iadd, 1) := by decide +kernel
theorem dX12_snap_93 : decode cX12_snap 93 = .ok (.putfield 258, 3) := by decide +kernel
theorem dX12_snap_96 : decode cX12_snap 96 = .ok (.return_, 1) := by decide +kernel
def tX12_snap (kn : sKn) : List (Nat × sA) := [(0, a_aload 0 1), (1, a_get 13 23 4), (4, a_stk (q_int 8) 6), (6, a_icmp kn b_ne 1 49 9), (9, a_stk (q_int 0) 10), (10, a_istore 1 11), (11, a_iload 1 12), (12, a_stk (q_int 714) 15), (15, a_icmp kn b_ge 3 39 18), (18, a_aload 0 19), (19, a_get 13 17 22), (22, a_iload 1 23), (23, a_aload 0 24), (24, a_get 13 17 27), (27, a_iload 1 28), (28, a_stk (q_int 102) 30), (30, a_stk q_iadd 31), (31, a_iald 32), (32, a_iast 33), (33, a_iinc 1 1 36), (36, a_goto 11), (39, a_aload 0 40), (40, a_stk q_dup 41), (41, a_get 13 23 44), (44, a_stk (q_int 1) 45), (45, a_stk q_isub 46), (46, a_put 13 23 ckI 49), (49, a_stk (q_int 0) 50), (50, a_istore 1 51), (51, a_iload 1 52), (52, a_stk (q_int 102) 54), (54, a_icmp kn b_ge 3 86 57), (57, a_aload 0 58), (58, a_get 13 17 61), (61, a_stk (q_int 102) 63), (63, a_aload 0 64), (64, a_get 13 23 67), (67, a_stk q_imul 68), (68, a_iload 1 69), (69, a_stk q_iadd 70), (70, a_aload 0 71), (71, a_get 13 14 74), (74, a_stk (q_int 94) 76), (76, a_iload 1 77), (77, a_stk q_iadd 78), (78, a_iald 79), (79, a_iast 80), (80, a_iinc 1 1 83), (83, a_goto 51), (86, a_aload 0 87), (87, a_stk q_dup 88), (88, a_get 13 23 91), (91, a_stk (q_int 1) 92), (92, a_stk q_iadd 93), (93, a_put 13 23 ckI 96), (96, a_vret)]
def fX12_snap (kn : sKn) : List Value → sW → Option sR := fW (tX12_snap kn) 2
set_option maxRecDepth 100000 in
set_option maxHeartbeats 4000000 in
theorem mX12_snap (kn : sKn) : mM kn yX12_snap (Cond.code yX12_snap cX12_snap 2 none :: wsL_law) 1 true (fX12_snap kn) := mM_W (fun n => mM_of (own := RX12) (ini := false) rfl (by decide +kernel) (by decide +kernel) (all_c (ok_aload_n dX12_snap_0 rfl) (all_c (okg_X12_23 kw1286 dX12_snap_1) (all_c (ok_stk (s_bipush dX12_snap_4 (by decide))) (all_c (ok_icmp_ne dX12_snap_6 (by decide)) (all_c (ok_stk (s_iconst dX12_snap_9 (by decide))) (all_c (ok_istore_n dX12_snap_10 rfl (by decide)) (all_c (ok_iload_n dX12_snap_11 rfl) (all_c (ok_stk (s_sipush dX12_snap_12 (by decide))) (all_c (ok_icmp_ge dX12_snap_15 (by decide)) (all_c (ok_aload_n dX12_snap_18 rfl) (all_c (okg_X12_17 kw1287 dX12_snap_19) (all_c (ok_iload_n dX12_snap_22 rfl) (all_c (ok_aload_n dX12_snap_23 rfl) (all_c (okg_X12_17 kw1287 dX12_snap_24) (all_c (ok_iload_n dX12_snap_27 rfl) (all_c (ok_stk (s_bipush dX12_snap_28 (by decide))) (all_c (ok_stk (s_iadd dX12_snap_30)) (all_c (ok_iald dX12_snap_31) (all_c (ok_iast dX12_snap_32) (all_c (ok_iinc dX12_snap_33 (by decide) (by decide)) (all_c (ok_goto dX12_snap_36 (by decide)) (all_c (ok_aload_n dX12_snap_39 rfl) (all_c (ok_stk (s_dup dX12_snap_40)) (all_c (okg_X12_23 kw1286 dX12_snap_41) (all_c (ok_stk (s_iconst dX12_snap_44 (by decide))) (all_c (ok_stk (s_isub dX12_snap_45)) (all_c (okp_X12_23 kw1286 dX12_snap_46) (all_c (ok_stk (s_iconst dX12_snap_49 (by decide))) (all_c (ok_istore_n dX12_snap_50 rfl (by decide)) (all_c (ok_iload_n dX12_snap_51 rfl) (all_c (ok_stk (s_bipush dX12_snap_52 (by decide))) (all_c (ok_icmp_ge dX12_snap_54 (by decide)) (all_c (ok_aload_n dX12_snap_57 rfl) (all_c (okg_X12_17 kw1287 dX12_snap_58) (all_c (ok_stk (s_bipush dX12_snap_61 (by decide))) (all_c (ok_aload_n dX12_snap_63 rfl) (all_c (okg_X12_23 kw1286 dX12_snap_64) (all_c (ok_stk (s_imul dX12_snap_67)) (all_c (ok_iload_n dX12_snap_68 rfl) (all_c (ok_stk (s_iadd dX12_snap_69)) (all_c (ok_aload_n dX12_snap_70 rfl) (all_c (okg_X12_14 kw1069 dX12_snap_71) (all_c (ok_stk (s_bipush dX12_snap_74 (by decide))) (all_c (ok_iload_n dX12_snap_76 rfl) (all_c (ok_stk (s_iadd dX12_snap_77)) (all_c (ok_iald dX12_snap_78) (all_c (ok_iast dX12_snap_79) (all_c (ok_iinc dX12_snap_80 (by decide) (by decide)) (all_c (ok_goto dX12_snap_83 (by decide)) (all_c (ok_aload_n dX12_snap_86 rfl) (all_c (ok_stk (s_dup dX12_snap_87)) (all_c (okg_X12_23 kw1286 dX12_snap_88) (all_c (ok_stk (s_iconst dX12_snap_91 (by decide))) (all_c (ok_stk (s_iadd dX12_snap_92)) (all_c (okp_X12_23 kw1286 dX12_snap_93) (all_c (ok_vret dX12_snap_96) all_n)))))))))))))))))))))))))))))))))))))))))))))))))))))))) n (fun h => by first | rfl | cases h))
theorem dX12_takeBack_0 : decode cX12_takeBack 0 = .ok (.iconst 0, 1) := by decide +kernel
theorem dX12_takeBack_1 : decode cX12_takeBack 1 = .ok (.istore_n 1, 1) := by decide +kernel
theorem dX12_takeBack_2 : decode cX12_takeBack 2 = .ok (.iload_n 1, 1) := by decide +kernel
theorem dX12_takeBack_3 : decode cX12_takeBack 3 = .ok (.bipush 102, 2) := by decide +kernel
theorem dX12_takeBack_5 : decode cX12_takeBack 5 = .ok (.if_icmp .ge 24, 3) := by decide +kernel
theorem dX12_takeBack_8 : decode cX12_takeBack 8 = .ok (.aload_n 0, 1) := by decide +kernel
theorem dX12_takeBack_9 : decode cX12_takeBack 9 = .ok (.getfield 98, 3) := by decide +kernel
theorem dX12_takeBack_12 : decode cX12_takeBack 12 = .ok (.bipush 94, 2) := by decide +kernel
theorem dX12_takeBack_14 : decode cX12_takeBack 14 = .ok (.iload_n 1, 1) := by decide +kernel
theorem dX12_takeBack_15 : decode cX12_takeBack 15 = .ok (.iadd, 1) := by decide +kernel
theorem dX12_takeBack_16 : decode cX12_takeBack 16 = .ok (.aload_n 0, 1) := by decide +kernel
theorem dX12_takeBack_17 : decode cX12_takeBack 17 = .ok (.getfield 110, 3) := by decide +kernel
theorem dX12_takeBack_20 : decode cX12_takeBack 20 = .ok (.iload_n 1, 1) := by decide +kernel
theorem dX12_takeBack_21 : decode cX12_takeBack 21 = .ok (.iaload, 1) := by decide +kernel
theorem dX12_takeBack_22 : decode cX12_takeBack 22 = .ok (.iastore, 1) := by decide +kernel
theorem dX12_takeBack_23 : decode cX12_takeBack 23 = .ok (.iinc 1 1, 3) := by decide +kernel
theorem dX12_takeBack_26 : decode cX12_takeBack 26 = .ok (.goto (-24), 3) := by decide +kernel
theorem dX12_takeBack_29 : decode cX12_takeBack 29 = .ok (.return_, 1) := by decide +kernel
def tX12_takeBack (kn : sKn) : List (Nat × sA) := [(0, a_stk (q_int 0) 1), (1, a_istore 1 2), (2, a_iload 1 3), (3, a_stk (q_int 102) 5), (5, a_icmp kn b_ge 3 29 8), (8, a_aload 0 9), (9, a_get 13 14 12), (12, a_stk (q_int 94) 14), (14, a_iload 1 15), (15, a_stk q_iadd 16), (16, a_aload 0 17), (17, a_get 13 18 20), (20, a_iload 1 21), (21, a_iald 22), (22, a_iast 23), (23, a_iinc 1 1 26), (26, a_goto 2), (29, a_vret)]
def fX12_takeBack (kn : sKn) : List Value → sW → Option sR := fW (tX12_takeBack kn) 2
set_option maxRecDepth 100000 in
set_option maxHeartbeats 4000000 in
theorem mX12_takeBack (kn : sKn) : mM kn yX12_takeBack (Cond.code yX12_takeBack cX12_takeBack 2 none :: wsL_law) 1 true (fX12_takeBack kn) := mM_W (fun n => mM_of (own := RX12) (ini := false) rfl (by decide +kernel) (by decide +kernel) (all_c (ok_stk (s_iconst dX12_takeBack_0 (by decide))) (all_c (ok_istore_n dX12_takeBack_1 rfl (by decide)) (all_c (ok_iload_n dX12_takeBack_2 rfl) (all_c (ok_stk (s_bipush dX12_takeBack_3 (by decide))) (all_c (ok_icmp_ge dX12_takeBack_5 (by decide)) (all_c (ok_aload_n dX12_takeBack_8 rfl) (all_c (okg_X12_14 kw1069 dX12_takeBack_9) (all_c (ok_stk (s_bipush dX12_takeBack_12 (by decide))) (all_c (ok_iload_n dX12_takeBack_14 rfl) (all_c (ok_stk (s_iadd dX12_takeBack_15)) (all_c (ok_aload_n dX12_takeBack_16 rfl) (all_c (okg_X12_18 kw1180 dX12_takeBack_17) (all_c (ok_iload_n dX12_takeBack_20 rfl) (all_c (ok_iald dX12_takeBack_21) (all_c (ok_iast dX12_takeBack_22) (all_c (ok_iinc dX12_takeBack_23 (by decide) (by decide)) (all_c (ok_goto dX12_takeBack_26 (by decide)) (all_c (ok_vret dX12_takeBack_29) all_n)))))))))))))))))) n (fun h => by first | rfl | cases h))
theorem dX12_stay_0 : decode cX12_stay 0 = .ok (.iconst 0, 1) := by decide +kernel
theorem dX12_stay_1 : decode cX12_stay 1 = .ok (.istore_n 2, 1) := by decide +kernel
theorem dX12_stay_2 : decode cX12_stay 2 = .ok (.iload_n 2, 1) := by decide +kernel
theorem dX12_stay_3 : decode cX12_stay 3 = .ok (.bipush 102, 2) := by decide +kernel
theorem dX12_stay_5 : decode cX12_stay 5 = .ok (.if_icmp .ge 41, 3) := by decide +kernel
theorem dX12_stay_8 : decode cX12_stay 8 = .ok (.aload_n 0, 1) := by decide +kernel
theorem dX12_stay_9 : decode cX12_stay 9 = .ok (.getfield 98, 3) := by decide +kernel
theorem dX12_stay_12 : decode cX12_stay 12 = .ok (.bipush 94, 2) := by decide +kernel
theorem dX12_stay_14 : decode cX12_stay 14 = .ok (.iload_n 2, 1) := by decide +kernel
theorem dX12_stay_15 : decode cX12_stay 15 = .ok (.iadd, 1) := by decide +kernel
theorem dX12_stay_16 : decode cX12_stay 16 = .ok (.iaload, 1) := by decide +kernel
theorem dX12_stay_17 : decode cX12_stay 17 = .ok (.istore_n 3, 1) := by decide +kernel
theorem dX12_stay_18 : decode cX12_stay 18 = .ok (.aload_n 0, 1) := by decide +kernel
theorem dX12_stay_19 : decode cX12_stay 19 = .ok (.getfield 98, 3) := by decide +kernel
theorem dX12_stay_22 : decode cX12_stay 22 = .ok (.bipush 94, 2) := by decide +kernel
theorem dX12_stay_24 : decode cX12_stay 24 = .ok (.iload_n 2, 1) := by decide +kernel
theorem dX12_stay_25 : decode cX12_stay 25 = .ok (.iadd, 1) := by decide +kernel
theorem dX12_stay_26 : decode cX12_stay 26 = .ok (.aload_n 0, 1) := by decide +kernel
theorem dX12_stay_27 : decode cX12_stay 27 = .ok (.getfield 110, 3) := by decide +kernel
theorem dX12_stay_30 : decode cX12_stay 30 = .ok (.iload_n 2, 1) := by decide +kernel
theorem dX12_stay_31 : decode cX12_stay 31 = .ok (.iaload, 1) := by decide +kernel
theorem dX12_stay_32 : decode cX12_stay 32 = .ok (.iastore, 1) := by decide +kernel
theorem dX12_stay_33 : decode cX12_stay 33 = .ok (.aload_n 0, 1) := by decide +kernel
theorem dX12_stay_34 : decode cX12_stay 34 = .ok (.getfield 110, 3) := by decide +kernel
theorem dX12_stay_37 : decode cX12_stay 37 = .ok (.iload_n 2, 1) := by decide +kernel
theorem dX12_stay_38 : decode cX12_stay 38 = .ok (.iload_n 3, 1) := by decide +kernel
theorem dX12_stay_39 : decode cX12_stay 39 = .ok (.iastore, 1) := by decide +kernel
theorem dX12_stay_40 : decode cX12_stay 40 = .ok (.iinc 2 1, 3) := by decide +kernel
theorem dX12_stay_43 : decode cX12_stay 43 = .ok (.goto (-41), 3) := by decide +kernel
theorem dX12_stay_46 : decode cX12_stay 46 = .ok (.iload_n 1, 1) := by decide +kernel
theorem dX12_stay_47 : decode cX12_stay 47 = .ok (.ifCond .ne 4, 3) := by decide +kernel
theorem dX12_stay_50 : decode cX12_stay 50 = .ok (.return_, 1) := by decide +kernel
theorem dX12_stay_51 : decode cX12_stay 51 = .ok (.aload_n 0, 1) := by decide +kernel
theorem dX12_stay_52 : decode cX12_stay 52 = .ok (.invokevirtual 343, 3) := by decide +kernel
theorem dX12_stay_55 : decode cX12_stay 55 = .ok (.aload_n 0, 1) := by decide +kernel
theorem dX12_stay_56 : decode cX12_stay 56 = .ok (.invokevirtual 415, 3) := by decide +kernel
theorem dX12_stay_59 : decode cX12_stay 59 = .ok (.return_, 1) := by decide +kernel
theorem okc_X12_snap {kn : sKn} {cc : ByteArray} {own : String} {nL : Nat} {D : Nat} {ret : Option FieldType} {ini : Bool} {pc index : Nat} (hD : 1 + 1 ≤ D) (hl : Cond.methodLink own index yX12_snap ∈ wsL_law) (hd : decode cc pc = .ok (.invokevirtual index, 3)) : mOk kn cc own nL wsL_law D ret ini pc (a_callV true (fX12_snap kn) 13 (0 + 1) (pc + 3)) := ok_callV (mX12_snap kn) (good_ws ws_good (fun _ h => h) kw1288) hD (by decide) hl kw1289 kw1290 kw1072 ⟨by decide +kernel, by decide +kernel, by decide +kernel⟩ rfl hd
theorem okc_X12_takeBack {kn : sKn} {cc : ByteArray} {own : String} {nL : Nat} {D : Nat} {ret : Option FieldType} {ini : Bool} {pc index : Nat} (hD : 1 + 1 ≤ D) (hl : Cond.methodLink own index yX12_takeBack ∈ wsL_law) (hd : decode cc pc = .ok (.invokevirtual index, 3)) : mOk kn cc own nL wsL_law D ret ini pc (a_callV true (fX12_takeBack kn) 13 (0 + 1) (pc + 3)) := ok_callV (mX12_takeBack kn) (good_ws ws_good (fun _ h => h) kw1292) hD (by decide) hl kw1293 kw1294 kw1072 ⟨by decide +kernel, by decide +kernel, by decide +kernel⟩ rfl hd
def tX12_stay (kn : sKn) : List (Nat × sA) := [(0, a_stk (q_int 0) 1), (1, a_istore 2 2), (2, a_iload 2 3), (3, a_stk (q_int 102) 5), (5, a_icmp kn b_ge 3 46 8), (8, a_aload 0 9), (9, a_get 13 14 12), (12, a_stk (q_int 94) 14), (14, a_iload 2 15), (15, a_stk q_iadd 16), (16, a_iald 17), (17, a_istore 3 18), (18, a_aload 0 19), (19, a_get 13 14 22), (22, a_stk (q_int 94) 24), (24, a_iload 2 25), (25, a_stk q_iadd 26), (26, a_aload 0 27), (27, a_get 13 18 30), (30, a_iload 2 31), (31, a_iald 32), (32, a_iast 33), (33, a_aload 0 34), (34, a_get 13 18 37), (37, a_iload 2 38), (38, a_iload 3 39), (39, a_iast 40), (40, a_iinc 2 1 43), (43, a_goto 2), (46, a_iload 1 47), (47, a_if kn b_ne 1 51 50), (50, a_vret), (51, a_aload 0 52), (52, a_callV true (fX12_snap kn) 13 1 55), (55, a_aload 0 56), (56, a_callV true (fX12_takeBack kn) 13 1 59), (59, a_vret)]
def fX12_stay (kn : sKn) : List Value → sW → Option sR := fW (tX12_stay kn) 4
set_option maxRecDepth 100000 in
set_option maxHeartbeats 4000000 in
theorem mX12_stay (kn : sKn) : mM kn yX12_stay (Cond.code yX12_stay cX12_stay 4 none :: wsL_law) 2 true (fX12_stay kn) := mM_W (fun n => mM_of (own := RX12) (ini := false) rfl (by decide +kernel) (by decide +kernel) (all_c (ok_stk (s_iconst dX12_stay_0 (by decide))) (all_c (ok_istore_n dX12_stay_1 rfl (by decide)) (all_c (ok_iload_n dX12_stay_2 rfl) (all_c (ok_stk (s_bipush dX12_stay_3 (by decide))) (all_c (ok_icmp_ge dX12_stay_5 (by decide)) (all_c (ok_aload_n dX12_stay_8 rfl) (all_c (okg_X12_14 kw1069 dX12_stay_9) (all_c (ok_stk (s_bipush dX12_stay_12 (by decide))) (all_c (ok_iload_n dX12_stay_14 rfl) (all_c (ok_stk (s_iadd dX12_stay_15)) (all_c (ok_iald dX12_stay_16) (all_c (ok_istore_n dX12_stay_17 rfl (by decide)) (all_c (ok_aload_n dX12_stay_18 rfl) (all_c (okg_X12_14 kw1069 dX12_stay_19) (all_c (ok_stk (s_bipush dX12_stay_22 (by decide))) (all_c (ok_iload_n dX12_stay_24 rfl) (all_c (ok_stk (s_iadd dX12_stay_25)) (all_c (ok_aload_n dX12_stay_26 rfl) (all_c (okg_X12_18 kw1180 dX12_stay_27) (all_c (ok_iload_n dX12_stay_30 rfl) (all_c (ok_iald dX12_stay_31) (all_c (ok_iast dX12_stay_32) (all_c (ok_aload_n dX12_stay_33 rfl) (all_c (okg_X12_18 kw1180 dX12_stay_34) (all_c (ok_iload_n dX12_stay_37 rfl) (all_c (ok_iload_n dX12_stay_38 rfl) (all_c (ok_iast dX12_stay_39) (all_c (ok_iinc dX12_stay_40 (by decide) (by decide)) (all_c (ok_goto dX12_stay_43 (by decide)) (all_c (ok_iload_n dX12_stay_46 rfl) (all_c (ok_if_ne dX12_stay_47 (by decide)) (all_c (ok_vret dX12_stay_50) (all_c (ok_aload_n dX12_stay_51 rfl) (all_c (okc_X12_snap (by decide) kw1291 dX12_stay_52) (all_c (ok_aload_n dX12_stay_55 rfl) (all_c (okc_X12_takeBack (by decide) kw1295 dX12_stay_56) (all_c (ok_vret dX12_stay_59) all_n))))))))))))))))))))))))))))))))))))) n (fun h => by first | rfl | cases h))
theorem dX12_isRow_0 : decode cX12_isRow 0 = .ok (.iload_n 1, 1) := by decide +kernel
theorem dX12_isRow_1 : decode cX12_isRow 1 = .ok (.iconst 0, 1) := by decide +kernel
theorem dX12_isRow_2 : decode cX12_isRow 2 = .ok (.aload_n 0, 1) := by decide +kernel
theorem dX12_isRow_3 : decode cX12_isRow 3 = .ok (.getfield 98, 3) := by decide +kernel
theorem dX12_isRow_6 : decode cX12_isRow 6 = .ok (.iconst 0, 1) := by decide +kernel
theorem dX12_isRow_7 : decode cX12_isRow 7 = .ok (.iaload, 1) := by decide +kernel
theorem dX12_isRow_8 : decode cX12_isRow 8 = .ok (.iconst 1, 1) := by decide +kernel
theorem dX12_isRow_9 : decode cX12_isRow 9 = .ok (.isub, 1) := by decide +kernel
theorem dX12_isRow_10 : decode cX12_isRow 10 = .ok (.invokestatic 75, 3) := by decide +kernel
theorem dX12_isRow_13 : decode cX12_isRow 13 = .ok (.ireturn, 1) := by decide +kernel
def tX12_isRow (kn : sKn) : List (Nat × sA) := [(0, a_iload 1 1), (1, a_stk (q_int 0) 2), (2, a_aload 0 3), (3, a_get 13 14 6), (6, a_stk (q_int 0) 7), (7, a_iald 8), (8, a_stk (q_int 1) 9), (9, a_stk q_isub 10), (10, a_callS false (fX12_isIn kn) 3 13), (13, a_zret)]
def fX12_isRow (kn : sKn) : List Value → sW → Option sR := fW (tX12_isRow kn) 2
set_option maxRecDepth 100000 in
set_option maxHeartbeats 4000000 in
theorem mX12_isRow (kn : sKn) : mM kn yX12_isRow (Cond.code yX12_isRow cX12_isRow 2 (some .boolean) :: wsL_law) 2 false (fX12_isRow kn) := mM_W (fun n => mM_of (own := RX12) (ini := false) rfl (by decide +kernel) (by decide +kernel) (all_c (ok_iload_n dX12_isRow_0 rfl) (all_c (ok_stk (s_iconst dX12_isRow_1 (by decide))) (all_c (ok_aload_n dX12_isRow_2 rfl) (all_c (okg_X12_14 kw1069 dX12_isRow_3) (all_c (ok_stk (s_iconst dX12_isRow_6 (by decide))) (all_c (ok_iald dX12_isRow_7) (all_c (ok_stk (s_iconst dX12_isRow_8 (by decide))) (all_c (ok_stk (s_isub dX12_isRow_9)) (all_c (okc_X12_isIn (by decide) kw1126 dX12_isRow_10) (all_c (ok_zret dX12_isRow_13) all_n)))))))))) n (fun h => by first | rfl | cases h))
theorem dX12_whyHold_0 : decode cX12_whyHold 0 = .ok (.aload_n 0, 1) := by decide +kernel
theorem dX12_whyHold_1 : decode cX12_whyHold 1 = .ok (.iload_n 1, 1) := by decide +kernel
theorem dX12_whyHold_2 : decode cX12_whyHold 2 = .ok (.invokevirtual 283, 3) := by decide +kernel
theorem dX12_whyHold_5 : decode cX12_whyHold 5 = .ok (.ifCond .eq 7, 3) := by decide +kernel
theorem dX12_whyHold_8 : decode cX12_whyHold 8 = .ok (.iconst 1, 1) := by decide +kernel
theorem dX12_whyHold_9 : decode cX12_whyHold 9 = .ok (.goto 22, 3) := by decide +kernel
theorem dX12_whyHold_12 : decode cX12_whyHold 12 = .ok (.aload_n 0, 1) := by decide +kernel
theorem dX12_whyHold_13 : decode cX12_whyHold 13 = .ok (.getfield 98, 3) := by decide +kernel
theorem dX12_whyHold_16 : decode cX12_whyHold 16 = .ok (.bipush 98, 2) := by decide +kernel
theorem dX12_whyHold_18 : decode cX12_whyHold 18 = .ok (.iload_n 1, 1) := by decide +kernel
theorem dX12_whyHold_19 : decode cX12_whyHold 19 = .ok (.iadd, 1) := by decide +kernel
theorem dX12_whyHold_20 : decode cX12_whyHold 20 = .ok (.iaload, 1) := by decide +kernel
theorem dX12_whyHold_21 : decode cX12_whyHold 21 = .ok (.bipush 9, 2) := by decide +kernel
theorem dX12_whyHold_23 : decode cX12_whyHold 23 = .ok (.if_icmp .ne 7, 3) := by decide +kernel
theorem dX12_whyHold_26 : decode cX12_whyHold 26 = .ok (.iconst 2, 1) := by decide +kernel
theorem dX12_whyHold_27 : decode cX12_whyHold 27 = .ok (.goto 4, 3) := by decide +kernel
theorem dX12_whyHold_30 : decode cX12_whyHold 30 = .ok (.iconst 0, 1) := by decide +kernel
theorem dX12_whyHold_31 : decode cX12_whyHold 31 = .ok (.ireturn, 1) := by decide +kernel
def tX12_whyHold (kn : sKn) : List (Nat × sA) := [(0, a_aload 0 1), (1, a_iload 1 2), (2, a_callV false (fX12_isDead kn) 13 2 5), (5, a_if kn b_eq 0 12 8), (8, a_stk (q_int 1) 9), (9, a_goto 31), (12, a_aload 0 13), (13, a_get 13 14 16), (16, a_stk (q_int 98) 18), (18, a_iload 1 19), (19, a_stk q_iadd 20), (20, a_iald 21), (21, a_stk (q_int 9) 23), (23, a_icmp kn b_ne 1 30 26), (26, a_stk (q_int 2) 27), (27, a_goto 31), (30, a_stk (q_int 0) 31), (31, a_iret)]
def fX12_whyHold (kn : sKn) : List Value → sW → Option sR := fW (tX12_whyHold kn) 2
set_option maxRecDepth 100000 in
set_option maxHeartbeats 4000000 in
theorem mX12_whyHold (kn : sKn) : mM kn yX12_whyHold (Cond.code yX12_whyHold cX12_whyHold 2 (some .int) :: wsL_law) 3 false (fX12_whyHold kn) := mM_W (fun n => mM_of (own := RX12) (ini := false) rfl (by decide +kernel) (by decide +kernel) (all_c (ok_aload_n dX12_whyHold_0 rfl) (all_c (ok_iload_n dX12_whyHold_1 rfl) (all_c (okc_X12_isDead (by decide) kw1138 dX12_whyHold_2) (all_c (ok_if_eq dX12_whyHold_5 (by decide)) (all_c (ok_stk (s_iconst dX12_whyHold_8 (by decide))) (all_c (ok_goto dX12_whyHold_9 (by decide)) (all_c (ok_aload_n dX12_whyHold_12 rfl) (all_c (okg_X12_14 kw1069 dX12_whyHold_13) (all_c (ok_stk (s_bipush dX12_whyHold_16 (by decide))) (all_c (ok_iload_n dX12_whyHold_18 rfl) (all_c (ok_stk (s_iadd dX12_whyHold_19)) (all_c (ok_iald dX12_whyHold_20) (all_c (ok_stk (s_bipush dX12_whyHold_21 (by decide))) (all_c (ok_icmp_ne dX12_whyHold_23 (by decide)) (all_c (ok_stk (s_iconst dX12_whyHold_26 (by decide))) (all_c (ok_goto dX12_whyHold_27 (by decide)) (all_c (ok_stk (s_iconst dX12_whyHold_30 (by decide))) (all_c (ok_iret dX12_whyHold_31) all_n)))))))))))))))))) n (fun h => by first | rfl | cases h))
theorem dX12_whySign_0 : decode cX12_whySign 0 = .ok (.aload_n 0, 1) := by decide +kernel
theorem dX12_whySign_1 : decode cX12_whySign 1 = .ok (.iload_n 1, 1) := by decide +kernel
theorem dX12_whySign_2 : decode cX12_whySign 2 = .ok (.invokevirtual 283, 3) := by decide +kernel
theorem dX12_whySign_5 : decode cX12_whySign 5 = .ok (.ifCond .eq 7, 3) := by decide +kernel
theorem dX12_whySign_8 : decode cX12_whySign 8 = .ok (.iconst 1, 1) := by decide +kernel
theorem dX12_whySign_9 : decode cX12_whySign 9 = .ok (.goto 35, 3) := by decide +kernel
theorem dX12_whySign_12 : decode cX12_whySign 12 = .ok (.aload_n 0, 1) := by decide +kernel
theorem dX12_whySign_13 : decode cX12_whySign 13 = .ok (.getfield 98, 3) := by decide +kernel
theorem dX12_whySign_16 : decode cX12_whySign 16 = .ok (.bipush 118, 2) := by decide +kernel
theorem dX12_whySign_18 : decode cX12_whySign 18 = .ok (.iload_n 2, 1) := by decide +kernel
theorem dX12_whySign_19 : decode cX12_whySign 19 = .ok (.iadd, 1) := by decide +kernel
theorem dX12_whySign_20 : decode cX12_whySign 20 = .ok (.iaload, 1) := by decide +kernel
theorem dX12_whySign_21 : decode cX12_whySign 21 = .ok (.iconst (-1), 1) := by decide +kernel
theorem dX12_whySign_22 : decode cX12_whySign 22 = .ok (.if_icmp .eq 7, 3) := by decide +kernel
theorem dX12_whySign_25 : decode cX12_whySign 25 = .ok (.iconst 2, 1) := by decide +kernel
theorem dX12_whySign_26 : decode cX12_whySign 26 = .ok (.goto 18, 3) := by decide +kernel
theorem dX12_whySign_29 : decode cX12_whySign 29 = .ok (.aload_n 0, 1) := by decide +kernel
theorem dX12_whySign_30 : decode cX12_whySign 30 = .ok (.iload_n 1, 1) := by decide +kernel
theorem dX12_whySign_31 : decode cX12_whySign 31 = .ok (.invokevirtual 286, 3) := by decide +kernel
theorem dX12_whySign_34 : decode cX12_whySign 34 = .ok (.bipush 6, 2) := by decide +kernel
theorem dX12_whySign_36 : decode cX12_whySign 36 = .ok (.if_icmp .ne 7, 3) := by decide +kernel
theorem dX12_whySign_39 : decode cX12_whySign 39 = .ok (.iconst 3, 1) := by decide +kernel
theorem dX12_whySign_40 : decode cX12_whySign 40 = .ok (.goto 4, 3) := by decide +kernel
theorem dX12_whySign_43 : decode cX12_whySign 43 = .ok (.iconst 0, 1) := by decide +kernel
theorem dX12_whySign_44 : decode cX12_whySign 44 = .ok (.ireturn, 1) := by decide +kernel
def tX12_whySign (kn : sKn) : List (Nat × sA) := [(0, a_aload 0 1), (1, a_iload 1 2), (2, a_callV false (fX12_isDead kn) 13 2 5), (5, a_if kn b_eq 0 12 8), (8, a_stk (q_int 1) 9), (9, a_goto 44), (12, a_aload 0 13), (13, a_get 13 14 16), (16, a_stk (q_int 118) 18), (18, a_iload 2 19), (19, a_stk q_iadd 20), (20, a_iald 21), (21, a_stk (q_int (-1)) 22), (22, a_icmp kn b_eq 0 29 25), (25, a_stk (q_int 2) 26), (26, a_goto 44), (29, a_aload 0 30), (30, a_iload 1 31), (31, a_callV false (fX12_planksOf kn) 13 2 34), (34, a_stk (q_int 6) 36), (36, a_icmp kn b_ne 1 43 39), (39, a_stk (q_int 3) 40), (40, a_goto 44), (43, a_stk (q_int 0) 44), (44, a_iret)]
def fX12_whySign (kn : sKn) : List Value → sW → Option sR := fW (tX12_whySign kn) 3
set_option maxRecDepth 100000 in
set_option maxHeartbeats 4000000 in
theorem mX12_whySign (kn : sKn) : mM kn yX12_whySign (Cond.code yX12_whySign cX12_whySign 3 (some .int) :: wsL_law) 3 false (fX12_whySign kn) := mM_W (fun n => mM_of (own := RX12) (ini := false) rfl (by decide +kernel) (by decide +kernel) (all_c (ok_aload_n dX12_whySign_0 rfl) (all_c (ok_iload_n dX12_whySign_1 rfl) (all_c (okc_X12_isDead (by decide) kw1138 dX12_whySign_2) (all_c (ok_if_eq dX12_whySign_5 (by decide)) (all_c (ok_stk (s_iconst dX12_whySign_8 (by decide))) (all_c (ok_goto dX12_whySign_9 (by decide)) (all_c (ok_aload_n dX12_whySign_12 rfl) (all_c (okg_X12_14 kw1069 dX12_whySign_13) (all_c (ok_stk (s_bipush dX12_whySign_16 (by decide))) (all_c (ok_iload_n dX12_whySign_18 rfl) (all_c (ok_stk (s_iadd dX12_whySign_19)) (all_c (ok_iald dX12_whySign_20) (all_c (ok_stk (s_iconst dX12_whySign_21 (by decide))) (all_c (ok_icmp_eq dX12_whySign_22 (by decide)) (all_c (ok_stk (s_iconst dX12_whySign_25 (by decide))) (all_c (ok_goto dX12_whySign_26 (by decide)) (all_c (ok_aload_n dX12_whySign_29 rfl) (all_c (ok_iload_n dX12_whySign_30 rfl) (all_c (okc_X12_planksOf (by decide) kw1204 dX12_whySign_31) (all_c (ok_stk (s_bipush dX12_whySign_34 (by decide))) (all_c (ok_icmp_ne dX12_whySign_36 (by decide)) (all_c (ok_stk (s_iconst dX12_whySign_39 (by decide))) (all_c (ok_goto dX12_whySign_40 (by decide)) (all_c (ok_stk (s_iconst dX12_whySign_43 (by decide))) (all_c (ok_iret dX12_whySign_44) all_n))))))))))))))))))))))))) n (fun h => by first | rfl | cases h))
theorem dX12_whyLine_0 : decode cX12_whyLine 0 = .ok (.aload_n 0, 1) := by decide +kernel
theorem dX12_whyLine_1 : decode cX12_whyLine 1 = .ok (.getfield 175, 3) := by decide +kernel
theorem dX12_whyLine_4 : decode cX12_whyLine 4 = .ok (.iload_n 1, 1) := by decide +kernel
theorem dX12_whyLine_5 : decode cX12_whyLine 5 = .ok (.iconst 1, 1) := by decide +kernel
theorem dX12_whyLine_6 : decode cX12_whyLine 6 = .ok (.iadd, 1) := by decide +kernel
theorem dX12_whyLine_7 : decode cX12_whyLine 7 = .ok (.iaload, 1) := by decide +kernel
theorem dX12_whyLine_8 : decode cX12_whyLine 8 = .ok (.istore_n 2, 1) := by decide +kernel
theorem dX12_whyLine_9 : decode cX12_whyLine 9 = .ok (.iconst 3, 1) := by decide +kernel
theorem dX12_whyLine_10 : decode cX12_whyLine 10 = .ok (.aload_n 0, 1) := by decide +kernel
theorem dX12_whyLine_11 : decode cX12_whyLine 11 = .ok (.getfield 175, 3) := by decide +kernel
theorem dX12_whyLine_14 : decode cX12_whyLine 14 = .ok (.iload_n 1, 1) := by decide +kernel
theorem dX12_whyLine_15 : decode cX12_whyLine 15 = .ok (.iconst 2, 1) := by decide +kernel
theorem dX12_whyLine_16 : decode cX12_whyLine 16 = .ok (.iadd, 1) := by decide +kernel
theorem dX12_whyLine_17 : decode cX12_whyLine 17 = .ok (.iaload, 1) := by decide +kernel
theorem dX12_whyLine_18 : decode cX12_whyLine 18 = .ok (.imul, 1) := by decide +kernel
theorem dX12_whyLine_19 : decode cX12_whyLine 19 = .ok (.aload_n 0, 1) := by decide +kernel
theorem dX12_whyLine_20 : decode cX12_whyLine 20 = .ok (.getfield 175, 3) := by decide +kernel
theorem dX12_whyLine_23 : decode cX12_whyLine 23 = .ok (.iload_n 1, 1) := by decide +kernel
theorem dX12_whyLine_24 : decode cX12_whyLine 24 = .ok (.iconst 3, 1) := by decide +kernel
theorem dX12_whyLine_25 : decode cX12_whyLine 25 = .ok (.iadd, 1) := by decide +kernel
theorem dX12_whyLine_26 : decode cX12_whyLine 26 = .ok (.iaload, 1) := by decide +kernel
theorem dX12_whyLine_27 : decode cX12_whyLine 27 = .ok (.iadd, 1) := by decide +kernel
theorem dX12_whyLine_28 : decode cX12_whyLine 28 = .ok (.istore_n 3, 1) := by decide +kernel
theorem dX12_whyLine_29 : decode cX12_whyLine 29 = .ok (.aload_n 0, 1) := by decide +kernel
theorem dX12_whyLine_30 : decode cX12_whyLine 30 = .ok (.getfield 175, 3) := by decide +kernel
theorem dX12_whyLine_33 : decode cX12_whyLine 33 = .ok (.iload_n 1, 1) := by decide +kernel
theorem dX12_whyLine_34 : decode cX12_whyLine 34 = .ok (.iaload, 1) := by decide +kernel
theorem dX12_whyLine_35 : decode cX12_whyLine 35 = .ok (.tableswitch 143 0 5 #[37, 64, 103, 117, 103, 123], 37) := by decide +kernel
theorem dX12_whyLine_72 : decode cX12_whyLine 72 = .ok (.aload_n 0, 1) := by decide +kernel
theorem dX12_whyLine_73 : decode cX12_whyLine 73 = .ok (.aload_n 0, 1) := by decide +kernel
theorem dX12_whyLine_74 : decode cX12_whyLine 74 = .ok (.getfield 175, 3) := by decide +kernel
theorem dX12_whyLine_77 : decode cX12_whyLine 77 = .ok (.iload_n 1, 1) := by decide +kernel
theorem dX12_whyLine_78 : decode cX12_whyLine 78 = .ok (.iconst 2, 1) := by decide +kernel
theorem dX12_whyLine_79 : decode cX12_whyLine 79 = .ok (.iadd, 1) := by decide +kernel
theorem dX12_whyLine_80 : decode cX12_whyLine 80 = .ok (.iaload, 1) := by decide +kernel
theorem dX12_whyLine_81 : decode cX12_whyLine 81 = .ok (.invokevirtual 261, 3) := by decide +kernel
theorem dX12_whyLine_84 : decode cX12_whyLine 84 = .ok (.ifCond .ne 8, 3) := by decide +kernel
theorem dX12_whyLine_87 : decode cX12_whyLine 87 = .ok (.bipush 9, 2) := by decide +kernel
theorem dX12_whyLine_89 : decode cX12_whyLine 89 = .ok (.goto 9, 3) := by decide +kernel
theorem dX12_whyLine_92 : decode cX12_whyLine 92 = .ok (.aload_n 0, 1) := by decide +kernel
theorem dX12_whyLine_93 : decode cX12_whyLine 93 = .ok (.iload_n 2, 1) := by decide +kernel
theorem dX12_whyLine_94 : decode cX12_whyLine 94 = .ok (.iload_n 3, 1) := by decide +kernel
theorem dX12_whyLine_95 : decode cX12_whyLine 95 = .ok (.invokevirtual 340, 3) := by decide +kernel
theorem dX12_whyLine_98 : decode cX12_whyLine 98 = .ok (.ireturn, 1) := by decide +kernel
theorem dX12_whyLine_99 : decode cX12_whyLine 99 = .ok (.aload_n 0, 1) := by decide +kernel
theorem dX12_whyLine_100 : decode cX12_whyLine 100 = .ok (.aload_n 0, 1) := by decide +kernel
theorem dX12_whyLine_101 : decode cX12_whyLine 101 = .ok (.getfield 175, 3) := by decide +kernel
theorem dX12_whyLine_104 : decode cX12_whyLine 104 = .ok (.iload_n 1, 1) := by decide +kernel
theorem dX12_whyLine_105 : decode cX12_whyLine 105 = .ok (.iconst 2, 1) := by decide +kernel
theorem dX12_whyLine_106 : decode cX12_whyLine 106 = .ok (.iadd, 1) := by decide +kernel
theorem dX12_whyLine_107 : decode cX12_whyLine 107 = .ok (.iaload, 1) := by decide +kernel
theorem dX12_whyLine_108 : decode cX12_whyLine 108 = .ok (.invokevirtual 261, 3) := by decide +kernel
theorem dX12_whyLine_111 : decode cX12_whyLine 111 = .ok (.ifCond .ne 8, 3) := by decide +kernel
theorem dX12_whyLine_114 : decode cX12_whyLine 114 = .ok (.bipush 9, 2) := by decide +kernel
theorem dX12_whyLine_116 : decode cX12_whyLine 116 = .ok (.goto 21, 3) := by decide +kernel
theorem dX12_whyLine_119 : decode cX12_whyLine 119 = .ok (.aload_n 0, 1) := by decide +kernel
theorem dX12_whyLine_120 : decode cX12_whyLine 120 = .ok (.getfield 98, 3) := by decide +kernel
theorem dX12_whyLine_123 : decode cX12_whyLine 123 = .ok (.bipush 118, 2) := by decide +kernel
theorem dX12_whyLine_125 : decode cX12_whyLine 125 = .ok (.iload_n 3, 1) := by decide +kernel
theorem dX12_whyLine_126 : decode cX12_whyLine 126 = .ok (.iadd, 1) := by decide +kernel
theorem dX12_whyLine_127 : decode cX12_whyLine 127 = .ok (.iaload, 1) := by decide +kernel
theorem dX12_whyLine_128 : decode cX12_whyLine 128 = .ok (.iconst (-1), 1) := by decide +kernel
theorem dX12_whyLine_129 : decode cX12_whyLine 129 = .ok (.if_icmp .ne 7, 3) := by decide +kernel
theorem dX12_whyLine_132 : decode cX12_whyLine 132 = .ok (.iconst 1, 1) := by decide +kernel
theorem dX12_whyLine_133 : decode cX12_whyLine 133 = .ok (.goto 4, 3) := by decide +kernel
theorem dX12_whyLine_136 : decode cX12_whyLine 136 = .ok (.iconst 0, 1) := by decide +kernel
theorem dX12_whyLine_137 : decode cX12_whyLine 137 = .ok (.ireturn, 1) := by decide +kernel
theorem dX12_whyLine_138 : decode cX12_whyLine 138 = .ok (.aload_n 0, 1) := by decide +kernel
theorem dX12_whyLine_139 : decode cX12_whyLine 139 = .ok (.iload_n 2, 1) := by decide +kernel
theorem dX12_whyLine_140 : decode cX12_whyLine 140 = .ok (.invokevirtual 283, 3) := by decide +kernel
theorem dX12_whyLine_143 : decode cX12_whyLine 143 = .ok (.ifCond .eq 7, 3) := by decide +kernel
theorem dX12_whyLine_146 : decode cX12_whyLine 146 = .ok (.iconst 1, 1) := by decide +kernel
theorem dX12_whyLine_147 : decode cX12_whyLine 147 = .ok (.goto 4, 3) := by decide +kernel
theorem dX12_whyLine_150 : decode cX12_whyLine 150 = .ok (.iconst 0, 1) := by decide +kernel
theorem dX12_whyLine_151 : decode cX12_whyLine 151 = .ok (.ireturn, 1) := by decide +kernel
theorem dX12_whyLine_152 : decode cX12_whyLine 152 = .ok (.aload_n 0, 1) := by decide +kernel
theorem dX12_whyLine_153 : decode cX12_whyLine 153 = .ok (.iload_n 2, 1) := by decide +kernel
theorem dX12_whyLine_154 : decode cX12_whyLine 154 = .ok (.invokevirtual 352, 3) := by decide +kernel
theorem dX12_whyLine_157 : decode cX12_whyLine 157 = .ok (.ireturn, 1) := by decide +kernel
theorem dX12_whyLine_158 : decode cX12_whyLine 158 = .ok (.aload_n 0, 1) := by decide +kernel
theorem dX12_whyLine_159 : decode cX12_whyLine 159 = .ok (.getfield 98, 3) := by decide +kernel
theorem dX12_whyLine_162 : decode cX12_whyLine 162 = .ok (.bipush 96, 2) := by decide +kernel
theorem dX12_whyLine_164 : decode cX12_whyLine 164 = .ok (.iaload, 1) := by decide +kernel
theorem dX12_whyLine_165 : decode cX12_whyLine 165 = .ok (.iload_n 2, 1) := by decide +kernel
theorem dX12_whyLine_166 : decode cX12_whyLine 166 = .ok (.invokestatic 225, 3) := by decide +kernel
theorem dX12_whyLine_169 : decode cX12_whyLine 169 = .ok (.ifCond .eq 7, 3) := by decide +kernel
theorem dX12_whyLine_172 : decode cX12_whyLine 172 = .ok (.iconst 1, 1) := by decide +kernel
theorem dX12_whyLine_173 : decode cX12_whyLine 173 = .ok (.goto 4, 3) := by decide +kernel
theorem dX12_whyLine_176 : decode cX12_whyLine 176 = .ok (.iconst 0, 1) := by decide +kernel
theorem dX12_whyLine_177 : decode cX12_whyLine 177 = .ok (.ireturn, 1) := by decide +kernel
theorem dX12_whyLine_178 : decode cX12_whyLine 178 = .ok (.aload_n 0, 1) := by decide +kernel
theorem dX12_whyLine_179 : decode cX12_whyLine 179 = .ok (.getfield 98, 3) := by decide +kernel
theorem dX12_whyLine_182 : decode cX12_whyLine 182 = .ok (.bipush 94, 2) := by decide +kernel
theorem dX12_whyLine_184 : decode cX12_whyLine 184 = .ok (.iaload, 1) := by decide +kernel
theorem dX12_whyLine_185 : decode cX12_whyLine 185 = .ok (.aload_n 0, 1) := by decide +kernel
theorem dX12_whyLine_186 : decode cX12_whyLine 186 = .ok (.getfield 175, 3) := by decide +kernel
theorem dX12_whyLine_189 : decode cX12_whyLine 189 = .ok (.iload_n 1, 1) := by decide +kernel
theorem dX12_whyLine_190 : decode cX12_whyLine 190 = .ok (.iconst 2, 1) := by decide +kernel
theorem dX12_whyLine_191 : decode cX12_whyLine 191 = .ok (.iadd, 1) := by decide +kernel
theorem dX12_whyLine_192 : decode cX12_whyLine 192 = .ok (.iaload, 1) := by decide +kernel
theorem dX12_whyLine_193 : decode cX12_whyLine 193 = .ok (.iadd, 1) := by decide +kernel
theorem dX12_whyLine_194 : decode cX12_whyLine 194 = .ok (.sipush 400, 3) := by decide +kernel
theorem dX12_whyLine_197 : decode cX12_whyLine 197 = .ok (.if_icmp .le 7, 3) := by decide +kernel
theorem dX12_whyLine_200 : decode cX12_whyLine 200 = .ok (.iconst 1, 1) := by decide +kernel
theorem dX12_whyLine_201 : decode cX12_whyLine 201 = .ok (.goto 4, 3) := by decide +kernel
theorem dX12_whyLine_204 : decode cX12_whyLine 204 = .ok (.iconst 0, 1) := by decide +kernel
theorem dX12_whyLine_205 : decode cX12_whyLine 205 = .ok (.ireturn, 1) := by decide +kernel
theorem okc_X12_isRow {kn : sKn} {cc : ByteArray} {own : String} {nL : Nat} {D : Nat} {ret : Option FieldType} {ini : Bool} {pc index : Nat} (hD : 2 + 1 ≤ D) (hl : Cond.methodLink own index yX12_isRow ∈ wsL_law) (hd : decode cc pc = .ok (.invokevirtual index, 3)) : mOk kn cc own nL wsL_law D ret ini pc (a_callV false (fX12_isRow kn) 13 (1 + 1) (pc + 3)) := ok_callV (mX12_isRow kn) (good_ws ws_good (fun _ h => h) kw1296) hD (by decide) hl kw1297 kw1298 kw1072 ⟨by decide +kernel, by decide +kernel, by decide +kernel⟩ rfl hd
theorem okc_X12_whySign {kn : sKn} {cc : ByteArray} {own : String} {nL : Nat} {D : Nat} {ret : Option FieldType} {ini : Bool} {pc index : Nat} (hD : 3 + 1 ≤ D) (hl : Cond.methodLink own index yX12_whySign ∈ wsL_law) (hd : decode cc pc = .ok (.invokevirtual index, 3)) : mOk kn cc own nL wsL_law D ret ini pc (a_callV false (fX12_whySign kn) 13 (2 + 1) (pc + 3)) := ok_callV (mX12_whySign kn) (good_ws ws_good (fun _ h => h) kw1300) hD (by decide) hl kw1301 kw1302 kw1072 ⟨by decide +kernel, by decide +kernel, by decide +kernel⟩ rfl hd
theorem okc_X12_whyHold {kn : sKn} {cc : ByteArray} {own : String} {nL : Nat} {D : Nat} {ret : Option FieldType} {ini : Bool} {pc index : Nat} (hD : 3 + 1 ≤ D) (hl : Cond.methodLink own index yX12_whyHold ∈ wsL_law) (hd : decode cc pc = .ok (.invokevirtual index, 3)) : mOk kn cc own nL wsL_law D ret ini pc (a_callV false (fX12_whyHold kn) 13 (1 + 1) (pc + 3)) := ok_callV (mX12_whyHold kn) (good_ws ws_good (fun _ h => h) kw1304) hD (by decide) hl kw1305 kw1306 kw1072 ⟨by decide +kernel, by decide +kernel, by decide +kernel⟩ rfl hd
def tX12_whyLine (kn : sKn) : List (Nat × sA) := [(0, a_aload 0 1), (1, a_get 13 51 4), (4, a_iload 1 5), (5, a_stk (q_int 1) 6), (6, a_stk q_iadd 7), (7, a_iald 8), (8, a_istore 2 9), (9, a_stk (q_int 3) 10), (10, a_aload 0 11), (11, a_get 13 51 14), (14, a_iload 1 15), (15, a_stk (q_int 2) 16), (16, a_stk q_iadd 17), (17, a_iald 18), (18, a_stk q_imul 19), (19, a_aload 0 20), (20, a_get 13 51 23), (23, a_iload 1 24), (24, a_stk (q_int 3) 25), (25, a_stk q_iadd 26), (26, a_iald 27), (27, a_stk q_iadd 28), (28, a_istore 3 29), (29, a_aload 0 30), (30, a_get 13 51 33), (33, a_iload 1 34), (34, a_iald 35), (35, a_table kn 0 5 [72, 99, 138, 152, 138, 158] 178), (72, a_aload 0 73), (73, a_aload 0 74), (74, a_get 13 51 77), (77, a_iload 1 78), (78, a_stk (q_int 2) 79), (79, a_stk q_iadd 80), (80, a_iald 81), (81, a_callV false (fX12_isRow kn) 13 2 84), (84, a_if kn b_ne 1 92 87), (87, a_stk (q_int 9) 89), (89, a_goto 98), (92, a_aload 0 93), (93, a_iload 2 94), (94, a_iload 3 95), (95, a_callV false (fX12_whySign kn) 13 3 98), (98, a_iret), (99, a_aload 0 100), (100, a_aload 0 101), (101, a_get 13 51 104), (104, a_iload 1 105), (105, a_stk (q_int 2) 106), (106, a_stk q_iadd 107), (107, a_iald 108), (108, a_callV false (fX12_isRow kn) 13 2 111), (111, a_if kn b_ne 1 119 114), (114, a_stk (q_int 9) 116), (116, a_goto 137), (119, a_aload 0 120), (120, a_get 13 14 123), (123, a_stk (q_int 118) 125), (125, a_iload 3 126), (126, a_stk q_iadd 127), (127, a_iald 128), (128, a_stk (q_int (-1)) 129), (129, a_icmp kn b_ne 1 136 132), (132, a_stk (q_int 1) 133), (133, a_goto 137), (136, a_stk (q_int 0) 137), (137, a_iret), (138, a_aload 0 139), (139, a_iload 2 140), (140, a_callV false (fX12_isDead kn) 13 2 143), (143, a_if kn b_eq 0 150 146), (146, a_stk (q_int 1) 147), (147, a_goto 151), (150, a_stk (q_int 0) 151), (151, a_iret), (152, a_aload 0 153), (153, a_iload 2 154), (154, a_callV false (fX12_whyHold kn) 13 2 157), (157, a_iret), (158, a_aload 0 159), (159, a_get 13 14 162), (162, a_stk (q_int 96) 164), (164, a_iald 165), (165, a_iload 2 166), (166, a_callS false (fX12_has kn) 2 169), (169, a_if kn b_eq 0 176 172), (172, a_stk (q_int 1) 173), (173, a_goto 177), (176, a_stk (q_int 0) 177), (177, a_iret), (178, a_aload 0 179), (179, a_get 13 14 182), (182, a_stk (q_int 94) 184), (184, a_iald 185), (185, a_aload 0 186), (186, a_get 13 51 189), (189, a_iload 1 190), (190, a_stk (q_int 2) 191), (191, a_stk q_iadd 192), (192, a_iald 193), (193, a_stk q_iadd 194), (194, a_stk (q_int 400) 197), (197, a_icmp kn b_le 5 204 200), (200, a_stk (q_int 1) 201), (201, a_goto 205), (204, a_stk (q_int 0) 205), (205, a_iret)]
def fX12_whyLine (kn : sKn) : List Value → sW → Option sR := fW (tX12_whyLine kn) 4
set_option maxRecDepth 100000 in
set_option maxHeartbeats 4000000 in
theorem mX12_whyLine (kn : sKn) : mM kn yX12_whyLine (Cond.code yX12_whyLine cX12_whyLine 4 (some .int) :: wsL_law) 4 false (fX12_whyLine kn) := mM_W (fun n => mM_of (own := RX12) (ini := false) rfl (by decide +kernel) (by decide +kernel) (all_c (ok_aload_n dX12_whyLine_0 rfl) (all_c (okg_X12_51 kw1213 dX12_whyLine_1) (all_c (ok_iload_n dX12_whyLine_4 rfl) (all_c (ok_stk (s_iconst dX12_whyLine_5 (by decide))) (all_c (ok_stk (s_iadd dX12_whyLine_6)) (all_c (ok_iald dX12_whyLine_7) (all_c (ok_istore_n dX12_whyLine_8 rfl (by decide)) (all_c (ok_stk (s_iconst dX12_whyLine_9 (by decide))) (all_c (ok_aload_n dX12_whyLine_10 rfl) (all_c (okg_X12_51 kw1213 dX12_whyLine_11) (all_c (ok_iload_n dX12_whyLine_14 rfl) (all_c (ok_stk (s_iconst dX12_whyLine_15 (by decide))) (all_c (ok_stk (s_iadd dX12_whyLine_16)) (all_c (ok_iald dX12_whyLine_17) (all_c (ok_stk (s_imul dX12_whyLine_18)) (all_c (ok_aload_n dX12_whyLine_19 rfl) (all_c (okg_X12_51 kw1213 dX12_whyLine_20) (all_c (ok_iload_n dX12_whyLine_23 rfl) (all_c (ok_stk (s_iconst dX12_whyLine_24 (by decide))) (all_c (ok_stk (s_iadd dX12_whyLine_25)) (all_c (ok_iald dX12_whyLine_26) (all_c (ok_stk (s_iadd dX12_whyLine_27)) (all_c (ok_istore_n dX12_whyLine_28 rfl (by decide)) (all_c (ok_aload_n dX12_whyLine_29 rfl) (all_c (okg_X12_51 kw1213 dX12_whyLine_30) (all_c (ok_iload_n dX12_whyLine_33 rfl) (all_c (ok_iald dX12_whyLine_34) (all_c (ok_table dX12_whyLine_35 (by decide) (by decide) (by decide) (by decide)) (all_c (ok_aload_n dX12_whyLine_72 rfl) (all_c (ok_aload_n dX12_whyLine_73 rfl) (all_c (okg_X12_51 kw1213 dX12_whyLine_74) (all_c (ok_iload_n dX12_whyLine_77 rfl) (all_c (ok_stk (s_iconst dX12_whyLine_78 (by decide))) (all_c (ok_stk (s_iadd dX12_whyLine_79)) (all_c (ok_iald dX12_whyLine_80) (all_c (okc_X12_isRow (by decide) kw1299 dX12_whyLine_81) (all_c (ok_if_ne dX12_whyLine_84 (by decide)) (all_c (ok_stk (s_bipush dX12_whyLine_87 (by decide))) (all_c (ok_goto dX12_whyLine_89 (by decide)) (all_c (ok_aload_n dX12_whyLine_92 rfl) (all_c (ok_iload_n dX12_whyLine_93 rfl) (all_c (ok_iload_n dX12_whyLine_94 rfl) (all_c (okc_X12_whySign (by decide) kw1303 dX12_whyLine_95) (all_c (ok_iret dX12_whyLine_98) (all_c (ok_aload_n dX12_whyLine_99 rfl) (all_c (ok_aload_n dX12_whyLine_100 rfl) (all_c (okg_X12_51 kw1213 dX12_whyLine_101) (all_c (ok_iload_n dX12_whyLine_104 rfl) (all_c (ok_stk (s_iconst dX12_whyLine_105 (by decide))) (all_c (ok_stk (s_iadd dX12_whyLine_106)) (all_c (ok_iald dX12_whyLine_107) (all_c (okc_X12_isRow (by decide) kw1299 dX12_whyLine_108) (all_c (ok_if_ne dX12_whyLine_111 (by decide)) (all_c (ok_stk (s_bipush dX12_whyLine_114 (by decide))) (all_c (ok_goto dX12_whyLine_116 (by decide)) (all_c (ok_aload_n dX12_whyLine_119 rfl) (all_c (okg_X12_14 kw1069 dX12_whyLine_120) (all_c (ok_stk (s_bipush dX12_whyLine_123 (by decide))) (all_c (ok_iload_n dX12_whyLine_125 rfl) (all_c (ok_stk (s_iadd dX12_whyLine_126)) (all_c (ok_iald dX12_whyLine_127) (all_c (ok_stk (s_iconst dX12_whyLine_128 (by decide))) (all_c (ok_icmp_ne dX12_whyLine_129 (by decide)) (all_c (ok_stk (s_iconst dX12_whyLine_132 (by decide))) (all_c (ok_goto dX12_whyLine_133 (by decide)) (all_c (ok_stk (s_iconst dX12_whyLine_136 (by decide))) (all_c (ok_iret dX12_whyLine_137) (all_c (ok_aload_n dX12_whyLine_138 rfl) (all_c (ok_iload_n dX12_whyLine_139 rfl) (all_c (okc_X12_isDead (by decide) kw1138 dX12_whyLine_140) (all_c (ok_if_eq dX12_whyLine_143 (by decide)) (all_c (ok_stk (s_iconst dX12_whyLine_146 (by decide))) (all_c (ok_goto dX12_whyLine_147 (by decide)) (all_c (ok_stk (s_iconst dX12_whyLine_150 (by decide))) (all_c (ok_iret dX12_whyLine_151) (all_c (ok_aload_n dX12_whyLine_152 rfl) (all_c (ok_iload_n dX12_whyLine_153 rfl) (all_c (okc_X12_whyHold (by decide) kw1307 dX12_whyLine_154) (all_c (ok_iret dX12_whyLine_157) (all_c (ok_aload_n dX12_whyLine_158 rfl) (all_c (okg_X12_14 kw1069 dX12_whyLine_159) (all_c (ok_stk (s_bipush dX12_whyLine_162 (by decide))) (all_c (ok_iald dX12_whyLine_164) (all_c (ok_iload_n dX12_whyLine_165 rfl) (all_c (okc_X12_has (by decide) kw1077 dX12_whyLine_166) (all_c (ok_if_eq dX12_whyLine_169 (by decide)) (all_c (ok_stk (s_iconst dX12_whyLine_172 (by decide))) (all_c (ok_goto dX12_whyLine_173 (by decide)) (all_c (ok_stk (s_iconst dX12_whyLine_176 (by decide))) (all_c (ok_iret dX12_whyLine_177) (all_c (ok_aload_n dX12_whyLine_178 rfl) (all_c (okg_X12_14 kw1069 dX12_whyLine_179) (all_c (ok_stk (s_bipush dX12_whyLine_182 (by decide))) (all_c (ok_iald dX12_whyLine_184) (all_c (ok_aload_n dX12_whyLine_185 rfl) (all_c (okg_X12_51 kw1213 dX12_whyLine_186) (all_c (ok_iload_n dX12_whyLine_189 rfl) (all_c (ok_stk (s_iconst dX12_whyLine_190 (by decide))) (all_c (ok_stk (s_iadd dX12_whyLine_191)) (all_c (ok_iald dX12_whyLine_192) (all_c (ok_stk (s_iadd dX12_whyLine_193)) (all_c (ok_stk (s_sipush dX12_whyLine_194 (by decide))) (all_c (ok_icmp_le dX12_whyLine_197 (by decide)) (all_c (ok_stk (s_iconst dX12_whyLine_200 (by decide))) (all_c (ok_goto dX12_whyLine_201 (by decide)) (all_c (ok_stk (s_iconst dX12_whyLine_204 (by decide))) (all_c (ok_iret dX12_whyLine_205) all_n))))))))))))))))))))))))))))))))))))))))))))))))))))))))))))))))))))))))))))))))))))))))))))))))))))))))))) n (fun h => by first | rfl | cases h))
theorem dX12_book_0 : decode cX12_book 0 = .ok (.aload_n 0, 1) := by decide +kernel
theorem dX12_book_1 : decode cX12_book 1 = .ok (.iconst 0, 1) := by decide +kernel
theorem dX12_book_2 : decode cX12_book 2 = .ok (.putfield 1, 3) := by decide +kernel
theorem dX12_book_5 : decode cX12_book 5 = .ok (.iload_n 1, 1) := by decide +kernel
theorem dX12_book_6 : decode cX12_book 6 = .ok (.iconst 0, 1) := by decide +kernel
theorem dX12_book_7 : decode cX12_book 7 = .ok (.iconst 1, 1) := by decide +kernel
theorem dX12_book_8 : decode cX12_book 8 = .ok (.invokestatic 75, 3) := by decide +kernel
theorem dX12_book_11 : decode cX12_book 11 = .ok (.ifCond .ne 7, 3) := by decide +kernel
theorem dX12_book_14 : decode cX12_book 14 = .ok (.sipush (-1000), 3) := by decide +kernel
theorem dX12_book_17 : decode cX12_book 17 = .ok (.ireturn, 1) := by decide +kernel
theorem dX12_book_18 : decode cX12_book 18 = .ok (.aload_n 0, 1) := by decide +kernel
theorem dX12_book_19 : decode cX12_book 19 = .ok (.sipush 400, 3) := by decide +kernel
theorem dX12_book_22 : decode cX12_book 22 = .ok (.invokevirtual 249, 3) := by decide +kernel
theorem dX12_book_25 : decode cX12_book 25 = .ok (.aload_n 0, 1) := by decide +kernel
theorem dX12_book_26 : decode cX12_book 26 = .ok (.iconst 0, 1) := by decide +kernel
theorem dX12_book_27 : decode cX12_book 27 = .ok (.putfield 450, 3) := by decide +kernel
theorem dX12_book_30 : decode cX12_book 30 = .ok (.aload_n 0, 1) := by decide +kernel
theorem dX12_book_31 : decode cX12_book 31 = .ok (.getfield 30, 3) := by decide +kernel
theorem dX12_book_34 : decode cX12_book 34 = .ok (.ifCond .eq 31, 3) := by decide +kernel
theorem dX12_book_37 : decode cX12_book 37 = .ok (.aload_n 0, 1) := by decide +kernel
theorem dX12_book_38 : decode cX12_book 38 = .ok (.invokevirtual 456, 3) := by decide +kernel
theorem dX12_book_41 : decode cX12_book 41 = .ok (.ifCond .ne 11, 3) := by decide +kernel
theorem dX12_book_44 : decode cX12_book 44 = .ok (.bipush (-2), 2) := by decide +kernel
theorem dX12_book_46 : decode cX12_book 46 = .ok (.aload_n 0, 1) := by decide +kernel
theorem dX12_book_47 : decode cX12_book 47 = .ok (.getfield 69, 3) := by decide +kernel
theorem dX12_book_50 : decode cX12_book 50 = .ok (.isub, 1) := by decide +kernel
theorem dX12_book_51 : decode cX12_book 51 = .ok (.ireturn, 1) := by decide +kernel
theorem dX12_book_52 : decode cX12_book 52 = .ok (.aload_n 0, 1) := by decide +kernel
theorem dX12_book_53 : decode cX12_book 53 = .ok (.dup, 1) := by decide +kernel
theorem dX12_book_54 : decode cX12_book 54 = .ok (.getfield 450, 3) := by decide +kernel
theorem dX12_book_57 : decode cX12_book 57 = .ok (.iconst 1, 1) := by decide +kernel
theorem dX12_book_58 : decode cX12_book 58 = .ok (.iadd, 1) := by decide +kernel
theorem dX12_book_59 : decode cX12_book 59 = .ok (.putfield 450, 3) := by decide +kernel
theorem dX12_book_62 : decode cX12_book 62 = .ok (.goto (-32), 3) := by decide +kernel
theorem dX12_book_65 : decode cX12_book 65 = .ok (.aload_n 0, 1) := by decide +kernel
theorem dX12_book_66 : decode cX12_book 66 = .ok (.invokevirtual 409, 3) := by decide +kernel
theorem dX12_book_69 : decode cX12_book 69 = .ok (.iconst 0, 1) := by decide +kernel
theorem dX12_book_70 : decode cX12_book 70 = .ok (.istore_n 2, 1) := by decide +kernel
theorem dX12_book_71 : decode cX12_book 71 = .ok (.iconst 0, 1) := by decide +kernel
theorem dX12_book_72 : decode cX12_book 72 = .ok (.istore_n 3, 1) := by decide +kernel
theorem dX12_book_73 : decode cX12_book 73 = .ok (.iload_n 2, 1) := by decide +kernel
theorem dX12_book_74 : decode cX12_book 74 = .ok (.aload_n 0, 1) := by decide +kernel
theorem dX12_book_75 : decode cX12_book 75 = .ok (.getfield 450, 3) := by decide +kernel
theorem dX12_book_78 : decode cX12_book 78 = .ok (.if_icmp .ge 49, 3) := by decide +kernel
theorem dX12_book_81 : decode cX12_book 81 = .ok (.iload_n 3, 1) := by decide +kernel
theorem dX12_book_82 : decode cX12_book 82 = .ok (.ifCond .ne 45, 3) := by decide +kernel
theorem dX12_book_85 : decode cX12_book 85 = .ok (.aload_n 0, 1) := by decide +kernel
theorem dX12_book_86 : decode cX12_book 86 = .ok (.iconst 4, 1) := by decide +kernel
theorem dX12_book_87 : decode cX12_book 87 = .ok (.iload_n 2, 1) := by decide +kernel
theorem dX12_book_88 : decode cX12_book 88 = .ok (.imul, 1) := by decide +kernel
theorem dX12_book_89 : decode cX12_book 89 = .ok (.invokevirtual 459, 3) := by decide +kernel
theorem dX12_book_92 : decode cX12_book 92 = .ok (.istore_n 3, 1) := by decide +kernel
theorem dX12_book_93 : decode cX12_book 93 = .ok (.iload_n 3, 1) := by decide +kernel
theorem dX12_book_94 : decode cX12_book 94 = .ok (.ifCond .eq 20, 3) := by decide +kernel
theorem dX12_book_97 : decode cX12_book 97 = .ok (.iload_n 3, 1) := by decide +kernel
theorem dX12_book_98 : decode cX12_book 98 = .ok (.bipush 10, 2) := by decide +kernel
theorem dX12_book_100 : decode cX12_book 100 = .ok (.aload_n 0, 1) := by decide +kernel
theorem dX12_book_101 : decode cX12_book 101 = .ok (.getfield 175, 3) := by decide +kernel
theorem dX12_book_104 : decode cX12_book 104 = .ok (.iconst 4, 1) := by decide +kernel
theorem dX12_book_105 : decode cX12_book 105 = .ok (.iload_n 2, 1) := by decide +kernel
theorem dX12_book_106 : decode cX12_book 106 = .ok (.imul, 1) := by decide +kernel
theorem dX12_book_107 : decode cX12_book 107 = .ok (.iaload, 1) := by decide +kernel
theorem dX12_book_108 : decode cX12_book 108 = .ok (.imul, 1) := by decide +kernel
theorem dX12_book_109 : decode cX12_book 109 = .ok (.iadd, 1) := by decide +kernel
theorem dX12_book_110 : decode cX12_book 110 = .ok (.istore_n 3, 1) := by decide +kernel
theorem dX12_book_111 : decode cX12_book 111 = .ok (.goto (-38), 3) := by decide +kernel
theorem dX12_book_114 : decode cX12_book 114 = .ok (.aload_n 0, 1) := by decide +kernel
theorem dX12_book_115 : decode cX12_book 115 = .ok (.iconst 4, 1) := by decide +kernel
theorem dX12_book_116 : decode cX12_book 116 = .ok (.iload_n 2, 1) := by decide +kernel
theorem dX12_book_117 : decode cX12_book 117 = .ok (.imul, 1) := by decide +kernel
theorem dX12_book_118 : decode cX12_book 118 = .ok (.invokevirtual 462, 3) := by decide +kernel
theorem dX12_book_121 : decode cX12_book 121 = .ok (.iinc 2 1, 3) := by decide +kernel
theorem dX12_book_124 : decode cX12_book 124 = .ok (.goto (-51), 3) := by decide +kernel
theorem dX12_book_127 : decode cX12_book 127 = .ok (.aload_n 0, 1) := by decide +kernel
theorem dX12_book_128 : decode cX12_book 128 = .ok (.getfield 178, 3) := by decide +kernel
theorem dX12_book_131 : decode cX12_book 131 = .ok (.iconst 0, 1) := by decide +kernel
theorem dX12_book_132 : decode cX12_book 132 = .ok (.iload_n 3, 1) := by decide +kernel
theorem dX12_book_133 : decode cX12_book 133 = .ok (.iastore, 1) := by decide +kernel
theorem dX12_book_134 : decode cX12_book 134 = .ok (.aload_n 0, 1) := by decide +kernel
theorem dX12_book_135 : decode cX12_book 135 = .ok (.getfield 178, 3) := by decide +kernel
theorem dX12_book_138 : decode cX12_book 138 = .ok (.iconst 1, 1) := by decide +kernel
theorem dX12_book_139 : decode cX12_book 139 = .ok (.iload_n 2, 1) := by decide +kernel
theorem dX12_book_140 : decode cX12_book 140 = .ok (.iastore, 1) := by decide +kernel
theorem dX12_book_141 : decode cX12_book 141 = .ok (.aload_n 0, 1) := by decide +kernel
theorem dX12_book_142 : decode cX12_book 142 = .ok (.getfield 178, 3) := by decide +kernel
theorem dX12_book_145 : decode cX12_book 145 = .ok (.iconst 2, 1) := by decide +kernel
theorem dX12_book_146 : decode cX12_book 146 = .ok (.aload_n 0, 1) := by decide +kernel
theorem dX12_book_147 : decode cX12_book 147 = .ok (.getfield 98, 3) := by decide +kernel
theorem dX12_book_150 : decode cX12_book 150 = .ok (.bipush 94, 2) := by decide +kernel
theorem dX12_book_152 : decode cX12_book 152 = .ok (.iaload, 1) := by decide +kernel
theorem dX12_book_153 : decode cX12_book 153 = .ok (.iastore, 1) := by decide +kernel
theorem dX12_book_154 : decode cX12_book 154 = .ok (.aload_n 0, 1) := by decide +kernel
theorem dX12_book_155 : decode cX12_book 155 = .ok (.getfield 178, 3) := by decide +kernel
theorem dX12_book_158 : decode cX12_book 158 = .ok (.iconst 3, 1) := by decide +kernel
theorem dX12_book_159 : decode cX12_book 159 = .ok (.aload_n 0, 1) := by decide +kernel
theorem dX12_book_160 : decode cX12_book 160 = .ok (.getfield 98, 3) := by decide +kernel
theorem dX12_book_163 : decode cX12_book 163 = .ok (.bipush 96, 2) := by decide +kernel
theorem dX12_book_165 : decode cX12_book 165 = .ok (.iaload, 1) := by decide +kernel
theorem dX12_book_166 : decode cX12_book 166 = .ok (.iastore, 1) := by decide +kernel
theorem dX12_book_167 : decode cX12_book 167 = .ok (.aload_n 0, 1) := by decide +kernel
theorem dX12_book_168 : decode cX12_book 168 = .ok (.iconst 1, 1) := by decide +kernel
theorem dX12_book_169 : decode cX12_book 169 = .ok (.putfield 465, 3) := by decide +kernel
theorem dX12_book_172 : decode cX12_book 172 = .ok (.aload_n 0, 1) := by decide +kernel
theorem dX12_book_173 : decode cX12_book 173 = .ok (.iload_n 1, 1) := by decide +kernel
theorem dX12_book_174 : decode cX12_book 174 = .ok (.iconst 1, 1) := by decide +kernel
theorem dX12_book_175 : decode cX12_book 175 = .ok (.if_icmp .ne 11, 3) := by decide +kernel
theorem dX12_book_178 : decode cX12_book 178 = .ok (.iload_n 2, 1) := by decide +kernel
theorem dX12_book_179 : decode cX12_book 179 = .ok (.ifCond .le 7, 3) := by decide +kernel
theorem dX12_book_182 : decode cX12_book 182 = .ok (.iconst 1, 1) := by decide +kernel
theorem dX12_book_183 : decode cX12_book 183 = .ok (.goto 4, 3) := by decide +kernel
theorem dX12_book_186 : decode cX12_book 186 = .ok (.iconst 0, 1) := by decide +kernel
theorem dX12_book_187 : decode cX12_book 187 = .ok (.invokevirtual 468, 3) := by decide +kernel
theorem dX12_book_190 : decode cX12_book 190 = .ok (.iload_n 3, 1) := by decide +kernel
theorem dX12_book_191 : decode cX12_book 191 = .ok (.ifCond .ne 7, 3) := by decide +kernel
theorem dX12_book_194 : decode cX12_book 194 = .ok (.iconst (-1), 1) := by decide +kernel
theorem dX12_book_195 : decode cX12_book 195 = .ok (.goto 4, 3) := by decide +kernel
theorem dX12_book_198 : decode cX12_book 198 = .ok (.iload_n 2, 1) := by decide +kernel
theorem dX12_book_199 : decode cX12_book 199 = .ok (.ireturn, 1) := by decide +kernel
theorem okc_X12_begin {kn : sKn} {cc : ByteArray} {own : String} {nL : Nat} {D : Nat} {ret : Option FieldType} {ini : Bool} {pc index : Nat} (hD : 3 + 1 ≤ D) (hl : Cond.methodLink own index yX12_begin ∈ wsL_law) (hd : decode cc pc = .ok (.invokevirtual index, 3)) : mOk kn cc own nL wsL_law D ret ini pc (a_callV true (fX12_begin kn) 13 (1 + 1) (pc + 3)) := ok_callV (mX12_begin kn) (good_ws ws_good (fun _ h => h) kw1308) hD (by decide) hl kw1309 kw1310 kw1072 ⟨by decide +kernel, by decide +kernel, by decide +kernel⟩ rfl hd
theorem okc_X12_readBookLine {kn : sKn} {cc : ByteArray} {own : String} {nL : Nat} {D : Nat} {ret : Option FieldType} {ini : Bool} {pc index : Nat} (hD : 7 + 1 ≤ D) (hl : Cond.methodLink own index yX12_readBookLine ∈ wsL_law) (hd : decode cc pc = .ok (.invokevirtual index, 3)) : mOk kn cc own nL wsL_law D ret ini pc (a_callV false (fX12_readBookLine kn) 13 (0 + 1) (pc + 3)) := ok_callV (mX12_readBookLine kn) (good_ws ws_good (fun _ h => h) kw1312) hD (by decide) hl kw1313 kw1314 kw1072 ⟨by decide +kernel, by decide +kernel, by decide +kernel⟩ rfl hd
theorem okc_X12_layAside {kn : sKn} {cc : ByteArray} {own : String} {nL : Nat} {D : Nat} {ret : Option FieldType} {ini : Bool} {pc index : Nat} (hD : 1 + 1 ≤ D) (hl : Cond.methodLink own index yX12_layAside ∈ wsL_law) (hd : decode cc pc = .ok (.invokevirtual index, 3)) : mOk kn cc own nL wsL_law D ret ini pc (a_callV true (fX12_layAside kn) 13 (0 + 1) (pc + 3)) := ok_callV (mX12_layAside kn) (good_ws ws_good (fun _ h => h) kw1316) hD (by decide) hl kw1317 kw1318 kw1072 ⟨by decide +kernel, by decide +kernel, by decide +kernel⟩ rfl hd
theorem okc_X12_whyLine {kn : sKn} {cc : ByteArray} {own : String} {nL : Nat} {D : Nat} {ret : Option FieldType} {ini : Bool} {pc index : Nat} (hD : 4 + 1 ≤ D) (hl : Cond.methodLink own index yX12_whyLine ∈ wsL_law) (hd : decode cc pc = .ok (.invokevirtual index, 3)) : mOk kn cc own nL wsL_law D ret ini pc (a_callV false (fX12_whyLine kn) 13 (1 + 1) (pc + 3)) := ok_callV (mX12_whyLine kn) (good_ws ws_good (fun _ h => h) kw1320) hD (by decide) hl kw1321 kw1322 kw1072 ⟨by decide +kernel, by decide +kernel, by decide +kernel⟩ rfl hd
theorem okc_X12_live {kn : sKn} {cc : ByteArray} {own : String} {nL : Nat} {D : Nat} {ret : Option FieldType} {ini : Bool} {pc index : Nat} (hD : 10 + 1 ≤ D) (hl : Cond.methodLink own index yX12_live ∈ wsL_law) (hd : decode cc pc = .ok (.invokevirtual index, 3)) : mOk kn cc own nL wsL_law D ret ini pc (a_callV true (fX12_live kn) 13 (1 + 1) (pc + 3)) := ok_callV (mX12_live kn) (good_ws ws_good (fun _ h => h) kw1324) hD (by decide) hl kw1325 kw1326 kw1072 ⟨by decide +kernel, by decide +kernel, by decide +kernel⟩ rfl hd
theorem okc_X12_stay {kn : sKn} {cc : ByteArray} {own : String} {nL : Nat} {D : Nat} {ret : Option FieldType} {ini : Bool} {pc index : Nat} (hD : 2 + 1 ≤ D) (hl : Cond.methodLink own index yX12_stay ∈ wsL_law) (hd : decode cc pc = .ok (.invokevirtual index, 3)) : mOk kn cc own nL wsL_law D ret ini pc (a_callV true (fX12_stay kn) 13 (1 + 1) (pc + 3)) := ok_callV (mX12_stay kn) (good_ws ws_good (fun _ h => h) kw1330) hD (by decide) hl kw1331 kw1332 kw1072 ⟨by decide +kernel, by decide +kernel, by decide +kernel⟩ rfl hd
def tX12_book (kn : sKn) : List (Nat × sA) := [(0, a_aload 0 1), (1, a_stk (q_int 0) 2), (2, a_put 13 0 ckI 5), (5, a_iload 1 6), (6, a_stk (q_int 0) 7), (7, a_stk (q_int 1) 8), (8, a_callS false (fX12_isIn kn) 3 11), (11, a_if kn b_ne 1 18 14), (14, a_stk (q_int (-1000)) 17), (17, a_iret), (18, a_aload 0 19), (19, a_stk (q_int 400) 22), (22, a_callV true (fX12_begin kn) 13 2 25), (25, a_aload 0 26), (26, a_stk (q_int 0) 27), (27, a_put 13 53 ckI 30), (30, a_aload 0 31), (31, a_get 13 7 34), (34, a_if kn b_eq 0 65 37), (37, a_aload 0 38), (38, a_callV false (fX12_readBookLine kn) 13 1 41), (41, a_if kn b_ne 1 52 44), (44, a_stk (q_int (-2)) 46), (46, a_aload 0 47), (47, a_get 13 11 50), (50, a_stk q_isub 51), (51, a_iret), (52, a_aload 0 53), (53, a_stk q_dup 54), (54, a_get 13 53 57), (57, a_stk (q_int 1) 58), (58, a_stk q_iadd 59), (59, a_put 13 53 ckI 62), (62, a_goto 30), (65, a_aload 0 66), (66, a_callV true (fX12_layAside kn) 13 1 69), (69, a_stk (q_int 0) 70), (70, a_istore 2 71), (71, a_stk (q_int 0) 72), (72, a_istore 3 73), (73, a_iload 2 74), (74, a_aload 0 75), (75, a_get 13 53 78), (78, a_icmp kn b_ge 3 127 81), (81, a_iload 3 82), (82, a_if kn b_ne 1 127 85), (85, a_aload 0 86), (86, a_stk (q_int 4) 87), (87, a_iload 2 88), (88, a_stk q_imul 89), (89, a_callV false (fX12_whyLine kn) 13 2 92), (92, a_istore 3 93), (93, a_iload 3 94), (94, a_if kn b_eq 0 114 97), (97, a_iload 3 98), (98, a_stk (q_int 10) 100), (100, a_aload 0 101), (101, a_get 13 51 104), (104, a_stk (q_int 4) 105), (105, a_iload 2 106), (106, a_stk q_imul 107), (107, a_iald 108), (108, a_stk q_imul 109), (109, a_stk q_iadd 110), (110, a_istore 3 111), (111, a_goto 73), (114, a_aload 0 115), (115, a_stk (q_int 4) 116), (116, a_iload 2 117), (117, a_stk q_imul 118), (118, a_callV true (fX12_live kn) 13 2 121), (121, a_iinc 2 1 124), (124, a_goto 73), (127, a_aload 0 128), (128, a_get 13 52 131), (131, a_stk (q_int 0) 132), (132, a_iload 3 133), (133, a_iast 134), (134, a_aload 0 135), (135, a_get 13 52 138), (138, a_stk (q_int 1) 139), (139, a_iload 2 140), (140, a_iast 141), (141, a_aload 0 142), (142, a_get 13 52 145), (145, a_stk (q_int 2) 146), (146, a_aload 0 147), (147, a_get 13 14 150), (150, a_stk (q_int 94) 152), (152, a_iald 153), (153, a_iast 154), (154, a_aload 0 155), (155, a_get 13 52 158), (158, a_stk (q_int 3) 159), (159, a_aload 0 160), (160, a_get 13 14 163), (163, a_stk (q_int 96) 165), (165, a_iald 166), (166, a_iast 167), (167, a_aload 0 168), (168, a_stk (q_int 1) 169), (169, a_put 13 54 ckZ 172), (172, a_aload 0 173), (173, a_iload 1 174), (174, a_stk (q_int 1) 175), (175, a_icmp kn b_ne 1 186 178), (178, a_iload 2 179), (179, a_if kn b_le 5 186 182), (182, a_stk (q_int 1) 183), (183, a_goto 187), (186, a_stk (q_int 0) 187), (187, a_callV true (fX12_stay kn) 13 2 190), (190, a_iload 3 191), (191, a_if kn b_ne 1 198 194), (194, a_stk (q_int (-1)) 195), (195, a_goto 199), (198, a_iload 2 199), (199, a_iret)]
def fX12_book (kn : sKn) : List Value → sW → Option sR := fW (tX12_book kn) 4
set_option maxRecDepth 100000 in
set_option maxHeartbeats 4000000 in
theorem mX12_book (kn : sKn) : mM kn yX12_book (Cond.code yX12_book cX12_book 4 (some .int) :: wsL_law) 11 false (fX12_book kn) := mM_W (fun n => mM_of (own := RX12) (ini := false) rfl (by decide +kernel) (by decide +kernel) (all_c (ok_aload_n dX12_book_0 rfl) (all_c (ok_stk (s_iconst dX12_book_1 (by decide))) (all_c (okp_X12_0 kw1114 dX12_book_2) (all_c (ok_iload_n dX12_book_5 rfl) (all_c (ok_stk (s_iconst dX12_book_6 (by decide))) (all_c (ok_stk (s_iconst dX12_book_7 (by decide))) (all_c (okc_X12_isIn (by decide) kw1126 dX12_book_8) (all_c (ok_if_ne dX12_book_11 (by decide)) (all_c (ok_stk (s_sipush dX12_book_14 (by decide))) (all_c (ok_iret dX12_book_17) (all_c (ok_aload_n dX12_book_18 rfl) (all_c (ok_stk (s_sipush dX12_book_19 (by decide))) (all_c (okc_X12_begin (by decide) kw1311 dX12_book_22) (all_c (ok_aload_n dX12_book_25 rfl) (all_c (ok_stk (s_iconst dX12_book_26 (by decide))) (all_c (okp_X12_53 kw1277 dX12_book_27) (all_c (ok_aload_n dX12_book_30 rfl) (all_c (okg_X12_7 kw1148 dX12_book_31) (all_c (ok_if_eq dX12_book_34 (by decide)) (all_c (ok_aload_n dX12_book_37 rfl) (all_c (okc_X12_readBookLine (by decide) kw1315 dX12_book_38) (all_c (ok_if_ne dX12_book_41 (by decide)) (all_c (ok_stk (s_bipush dX12_book_44 (by decide))) (all_c (ok_aload_n dX12_book_46 rfl) (all_c (okg_X12_11 kw1151 dX12_book_47) (all_c (ok_stk (s_isub dX12_book_50)) (all_c (ok_iret dX12_book_51) (all_c (ok_aload_n dX12_book_52 rfl) (all_c (ok_stk (s_dup dX12_book_53)) (all_c (okg_X12_53 kw1277 dX12_book_54) (all_c (ok_stk (s_iconst dX12_book_57 (by decide))) (all_c (ok_stk (s_iadd dX12_book_58)) (all_c (okp_X12_53 kw1277 dX12_book_59) (all_c (ok_goto dX12_book_62 (by decide)) (all_c (ok_aload_n dX12_book_65 rfl) (all_c (okc_X12_layAside (by decide) kw1319 dX12_book_66) (all_c (ok_stk (s_iconst dX12_book_69 (by decide))) (all_c (ok_istore_n dX12_book_70 rfl (by decide)) (all_c (ok_stk (s_iconst dX12_book_71 (by decide))) (all_c (ok_istore_n dX12_book_72 rfl (by decide)) (all_c (ok_iload_n dX12_book_73 rfl) (all_c (ok_aload_n dX12_book_74 rfl) (all_c (okg_X12_53 kw1277 dX12_book_75) (all_c (ok_icmp_ge dX12_book_78 (by decide)) (all_c (ok_iload_n dX12_book_81 rfl) (all_c (ok_if_ne dX12_book_82 (by decide)) (all_c (ok_aload_n dX12_book_85 rfl) (all_c (ok_stk (s_iconst dX12_book_86 (by decide))) (all_c (ok_iload_n dX12_book_87 rfl) (all_c (ok_stk (s_imul dX12_book_88)) (all_c (okc_X12_whyLine (by decide) kw1323 dX12_book_89) (all_c (ok_istore_n dX12_book_92 rfl (by decide)) (all_c (ok_iload_n dX12_book_93 rfl) (all_c (ok_if_eq dX12_book_94 (by decide)) (all_c (ok_iload_n dX12_book_97 rfl) (all_c (ok_stk (s_bipush dX12_book_98 (by decide))) (all_c (ok_aload_n dX12_book_100 rfl) (all_c (okg_X12_51 kw1213 dX12_book_101) (all_c (ok_stk (s_iconst dX12_book_104 (by decide))) (all_c (ok_iload_n dX12_book_105 rfl) (all_c (ok_stk (s_imul dX12_book_106)) (all_c (ok_iald dX12_book_107) (all_c (ok_stk (s_imul dX12_book_108)) (all_c (ok_stk (s_iadd dX12_book_109)) (all_c (ok_istore_n dX12_book_110 rfl (by decide)) (all_c (ok_goto dX12_book_111 (by decide)) (all_c (ok_aload_n dX12_book_114 rfl) (all_c (ok_stk (s_iconst dX12_book_115 (by decide))) (all_c (ok_iload_n dX12_book_116 rfl) (all_c (ok_stk (s_imul dX12_book_117)) (all_c (okc_X12_live (by decide) kw1327 dX12_book_118) (all_c (ok_iinc dX12_book_121 (by decide) (by decide)) (all_c (ok_goto dX12_book_124 (by decide)) (all_c (ok_aload_n dX12_book_127 rfl) (all_c (okg_X12_52 kw1328 dX12_book_128) (all_c (ok_stk (s_iconst dX12_book_131 (by decide))) (all_c (ok_iload_n dX12_book_132 rfl) (all_c (ok_iast dX12_book_133) (all_c (ok_aload_n dX12_book_134 rfl) (all_c (okg_X12_52 kw1328 dX12_book_135) (all_c (ok_stk (s_iconst dX12_book_138 (by decide))) (all_c (ok_iload_n dX12_book_139 rfl) (all_c (ok_iast dX12_book_140) (all_c (ok_aload_n dX12_book_141 rfl) (all_c (okg_X12_52 kw1328 dX12_book_142) (all_c (ok_stk (s_iconst dX12_book_145 (by decide))) (all_c (ok_aload_n dX12_book_146 rfl) (all_c (okg_X12_14 kw1069 dX12_book_147) (all_c (ok_stk (s_bipush dX12_book_150 (by decide))) (all_c (ok_iald dX12_book_152) (all_c (ok_iast dX12_book_153) (all_c (ok_aload_n dX12_book_154 rfl) (all_c (okg_X12_52 kw1328 dX12_book_155) (all_c (ok_stk (s_iconst dX12_book_158 (by decide))) (all_c (ok_aload_n dX12_book_159 rfl) (all_c (okg_X12_14 kw1069 dX12_book_160) (all_c (ok_stk (s_bipush dX12_book_163 (by decide))) (all_c (ok_iald dX12_book_165) (all_c (ok_iast dX12_book_166) (all_c (ok_aload_n dX12_book_167 rfl) (all_c (ok_stk (s_iconst dX12_book_168 (by decide))) (all_c (okp_X12_54 kw1329 dX12_book_169) (all_c (ok_aload_n dX12_book_172 rfl) (all_c (ok_iload_n dX12_book_173 rfl) (all_c (ok_stk (s_iconst dX12_book_174 (by decide))) (all_c (ok_icmp_ne dX12_book_175 (by decide)) (all_c (ok_iload_n dX12_book_178 rfl) (all_c (ok_if_le dX12_book_179 (by decide)) (all_c (ok_stk (s_iconst dX12_book_182 (by decide))) (all_c (ok_goto dX12_book_183 (by decide)) (all_c (ok_stk (s_iconst dX12_book_186 (by decide))) (all_c (okc_X12_stay (by decide) kw1333 dX12_book_187) (all_c (ok_iload_n dX12_book_190 rfl) (all_c (ok_if_ne dX12_book_191 (by decide)) (all_c (ok_stk (s_iconst dX12_book_194 (by decide))) (all_c (ok_goto dX12_book_195 (by decide)) (all_c (ok_iload_n dX12_book_198 rfl) (all_c (ok_iret dX12_book_199) all_n)))))))))))))))))))))))))))))))))))))))))))))))))))))))))))))))))))))))))))))))))))))))))))))))))))))))))))))))))))))) n (fun h => by first | rfl | cases h))
theorem dX12_isSigner_0 : decode cX12_isSigner 0 = .ok (.iload_n 1, 1) := by decide +kernel
theorem dX12_isSigner_1 : decode cX12_isSigner 1 = .ok (.iconst 0, 1) := by decide +kernel
theorem dX12_isSigner_2 : decode cX12_isSigner 2 = .ok (.aload_n 0, 1) := by decide +kernel
theorem dX12_isSigner_3 : decode cX12_isSigner 3 = .ok (.getfield 98, 3) := by decide +kernel
theorem dX12_isSigner_6 : decode cX12_isSigner 6 = .ok (.iconst 1, 1) := by decide +kernel
theorem dX12_isSigner_7 : decode cX12_isSigner 7 = .ok (.iaload, 1) := by decide +kernel
theorem dX12_isSigner_8 : decode cX12_isSigner 8 = .ok (.iconst 1, 1) := by decide +kernel
theorem dX12_isSigner_9 : decode cX12_isSigner 9 = .ok (.isub, 1) := by decide +kernel
theorem dX12_isSigner_10 : decode cX12_isSigner 10 = .ok (.invokestatic 75, 3) := by decide +kernel
theorem dX12_isSigner_13 : decode cX12_isSigner 13 = .ok (.ireturn, 1) := by decide +kernel
def tX12_isSigner (kn : sKn) : List (Nat × sA) := [(0, a_iload 1 1), (1, a_stk (q_int 0) 2), (2, a_aload 0 3), (3, a_get 13 14 6), (6, a_stk (q_int 1) 7), (7, a_iald 8), (8, a_stk (q_int 1) 9), (9, a_stk q_isub 10), (10, a_callS false (fX12_isIn kn) 3 13), (13, a_zret)]
def fX12_isSigner (kn : sKn) : List Value → sW → Option sR := fW (tX12_isSigner kn) 2
set_option maxRecDepth 100000 in
set_option maxHeartbeats 4000000 in
theorem mX12_isSigner (kn : sKn) : mM kn yX12_isSigner (Cond.code yX12_isSigner cX12_isSigner 2 (some .boolean) :: wsL_law) 2 false (fX12_isSigner kn) := mM_W (fun n => mM_of (own := RX12) (ini := false) rfl (by decide +kernel) (by decide +kernel) (all_c (ok_iload_n dX12_isSigner_0 rfl) (all_c (ok_stk (s_iconst dX12_isSigner_1 (by decide))) (all_c (ok_aload_n dX12_isSigner_2 rfl) (all_c (okg_X12_14 kw1069 dX12_isSigner_3) (all_c (ok_stk (s_iconst dX12_isSigner_6 (by decide))) (all_c (ok_iald dX12_isSigner_7) (all_c (ok_stk (s_iconst dX12_isSigner_8 (by decide))) (all_c (ok_stk (s_isub dX12_isSigner_9)) (all_c (okc_X12_isIn (by decide) kw1126 dX12_isSigner_10) (all_c (ok_zret dX12_isSigner_13) all_n)))))))))) n (fun h => by first | rfl | cases h))
theorem dX12_breaks_0 : decode cX12_breaks 0 = .ok (.aload_n 0, 1) := by decide +kernel
theorem dX12_breaks_1 : decode cX12_breaks 1 = .ok (.iconst 0, 1) := by decide +kernel
theorem dX12_breaks_2 : decode cX12_breaks 2 = .ok (.putfield 1, 3) := by decide +kernel
theorem dX12_breaks_5 : decode cX12_breaks 5 = .ok (.aload_n 0, 1) := by decide +kernel
theorem dX12_breaks_6 : decode cX12_breaks 6 = .ok (.iload_n 1, 1) := by decide +kernel
theorem dX12_breaks_7 : decode cX12_breaks 7 = .ok (.invokevirtual 277, 3) := by decide +kernel
theorem dX12_breaks_10 : decode cX12_breaks 10 = .ok (.ifCond .ne 5, 3) := by decide +kernel
theorem dX12_breaks_13 : decode cX12_breaks 13 = .ok (.iconst (-1), 1) := by decide +kernel
theorem dX12_breaks_14 : decode cX12_breaks 14 = .ok (.ireturn, 1) := by decide +kernel
theorem dX12_breaks_15 : decode cX12_breaks 15 = .ok (.aload_n 0, 1) := by decide +kernel
theorem dX12_breaks_16 : decode cX12_breaks 16 = .ok (.iload_n 1, 1) := by decide +kernel
theorem dX12_breaks_17 : decode cX12_breaks 17 = .ok (.invokevirtual 283, 3) := by decide +kernel
theorem dX12_breaks_20 : decode cX12_breaks 20 = .ok (.ifCond .eq 5, 3) := by decide +kernel
theorem dX12_breaks_23 : decode cX12_breaks 23 = .ok (.iconst 1, 1) := by decide +kernel
theorem dX12_breaks_24 : decode cX12_breaks 24 = .ok (.ireturn, 1) := by decide +kernel
theorem dX12_breaks_25 : decode cX12_breaks 25 = .ok (.aload_n 0, 1) := by decide +kernel
theorem dX12_breaks_26 : decode cX12_breaks 26 = .ok (.invokevirtual 343, 3) := by decide +kernel
theorem dX12_breaks_29 : decode cX12_breaks 29 = .ok (.aload_n 0, 1) := by decide +kernel
theorem dX12_breaks_30 : decode cX12_breaks 30 = .ok (.getfield 98, 3) := by decide +kernel
theorem dX12_breaks_33 : decode cX12_breaks 33 = .ok (.bipush 98, 2) := by decide +kernel
theorem dX12_breaks_35 : decode cX12_breaks 35 = .ok (.iload_n 1, 1) := by decide +kernel
theorem dX12_breaks_36 : decode cX12_breaks 36 = .ok (.iadd, 1) := by decide +kernel
theorem dX12_breaks_37 : decode cX12_breaks 37 = .ok (.dup2, 1) := by decide +kernel
theorem dX12_breaks_38 : decode cX12_breaks 38 = .ok (.iaload, 1) := by decide +kernel
theorem dX12_breaks_39 : decode cX12_breaks 39 = .ok (.iconst 2, 1) := by decide +kernel
theorem dX12_breaks_40 : decode cX12_breaks 40 = .ok (.idiv, 1) := by decide +kernel
theorem dX12_breaks_41 : decode cX12_breaks 41 = .ok (.iastore, 1) := by decide +kernel
theorem dX12_breaks_42 : decode cX12_breaks 42 = .ok (.iconst 0, 1) := by decide +kernel
theorem dX12_breaks_43 : decode cX12_breaks 43 = .ok (.ireturn, 1) := by decide +kernel
theorem okc_X12_isSigner {kn : sKn} {cc : ByteArray} {own : String} {nL : Nat} {D : Nat} {ret : Option FieldType} {ini : Bool} {pc index : Nat} (hD : 2 + 1 ≤ D) (hl : Cond.methodLink own index yX12_isSigner ∈ wsL_law) (hd : decode cc pc = .ok (.invokevirtual index, 3)) : mOk kn cc own nL wsL_law D ret ini pc (a_callV false (fX12_isSigner kn) 13 (1 + 1) (pc + 3)) := ok_callV (mX12_isSigner kn) (good_ws ws_good (fun _ h => h) kw1334) hD (by decide) hl kw1335 kw1336 kw1072 ⟨by decide +kernel, by decide +kernel, by decide +kernel⟩ rfl hd
def tX12_breaks (kn : sKn) : List (Nat × sA) := [(0, a_aload 0 1), (1, a_stk (q_int 0) 2), (2, a_put 13 0 ckI 5), (5, a_aload 0 6), (6, a_iload 1 7), (7, a_callV false (fX12_isSigner kn) 13 2 10), (10, a_if kn b_ne 1 15 13), (13, a_stk (q_int (-1)) 14), (14, a_iret), (15, a_aload 0 16), (16, a_iload 1 17), (17, a_callV false (fX12_isDead kn) 13 2 20), (20, a_if kn b_eq 0 25 23), (23, a_stk (q_int 1) 24), (24, a_iret), (25, a_aload 0 26), (26, a_callV true (fX12_snap kn) 13 1 29), (29, a_aload 0 30), (30, a_get 13 14 33), (33, a_stk (q_int 98) 35), (35, a_iload 1 36), (36, a_stk q_iadd 37), (37, a_stk q_dup2 38), (38, a_iald 39), (39, a_stk (q_int 2) 40), (40, a_stk q_idiv 41), (41, a_iast 42), (42, a_stk (q_int 0) 43), (43, a_iret)]
def fX12_breaks (kn : sKn) : List Value → sW → Option sR := fW (tX12_breaks kn) 2
set_option maxRecDepth 100000 in
set_option maxHeartbeats 4000000 in
theorem mX12_breaks (kn : sKn) : mM kn yX12_breaks (Cond.code yX12_breaks cX12_breaks 2 (some .int) :: wsL_law) 3 false (fX12_breaks kn) := mM_W (fun n => mM_of (own := RX12) (ini := false) rfl (by decide +kernel) (by decide +kernel) (all_c (ok_aload_n dX12_breaks_0 rfl) (all_c (ok_stk (s_iconst dX12_breaks_1 (by decide))) (all_c (okp_X12_0 kw1114 dX12_breaks_2) (all_c (ok_aload_n dX12_breaks_5 rfl) (all_c (ok_iload_n dX12_breaks_6 rfl) (all_c (okc_X12_isSigner (by decide) kw1337 dX12_breaks_7) (all_c (ok_if_ne dX12_breaks_10 (by decide)) (all_c (ok_stk (s_iconst dX12_breaks_13 (by decide))) (all_c (ok_iret dX12_breaks_14) (all_c (ok_aload_n dX12_breaks_15 rfl) (all_c (ok_iload_n dX12_breaks_16 rfl) (all_c (okc_X12_isDead (by decide) kw1138 dX12_breaks_17) (all_c (ok_if_eq dX12_breaks_20 (by decide)) (all_c (ok_stk (s_iconst dX12_breaks_23 (by decide))) (all_c (ok_iret dX12_breaks_24) (all_c (ok_aload_n dX12_breaks_25 rfl) (all_c (okc_X12_snap (by decide) kw1291 dX12_breaks_26) (all_c (ok_aload_n dX12_breaks_29 rfl) (all_c (okg_X12_14 kw1069 dX12_breaks_30) (all_c (ok_stk (s_bipush dX12_breaks_33 (by decide))) (all_c (ok_iload_n dX12_breaks_35 rfl) (all_c (ok_stk (s_iadd dX12_breaks_36)) (all_c (ok_stk (s_dup2 dX12_breaks_37)) (all_c (ok_iald dX12_breaks_38) (all_c (ok_stk (s_iconst dX12_breaks_39 (by decide))) (all_c (ok_stk (s_idiv dX12_breaks_40)) (all_c (ok_iast dX12_breaks_41) (all_c (ok_stk (s_iconst dX12_breaks_42 (by decide))) (all_c (ok_iret dX12_breaks_43) all_n))))))))))))))))))))))))))))) n (fun h => by first | rfl | cases h))
theorem dX12_put_0 : decode cX12_put 0 = .ok (.iload_n 2, 1) := by decide +kernel
theorem dX12_put_1 : decode cX12_put 1 = .ok (.ifCond .eq 13, 3) := by decide +kernel
theorem dX12_put_4 : decode cX12_put 4 = .ok (.aload_n 0, 1) := by decide +kernel
theorem dX12_put_5 : decode cX12_put 5 = .ok (.getfield 101, 3) := by decide +kernel
theorem dX12_put_8 : decode cX12_put 8 = .ok (.iload_n 1, 1) := by decide +kernel
theorem dX12_put_9 : decode cX12_put 9 = .ok (.aload_n 0, 1) := by decide +kernel
theorem dX12_put_10 : decode cX12_put 10 = .ok (.getfield 79, 3) := by decide +kernel
theorem dX12_put_13 : decode cX12_put 13 = .ok (.iastore, 1) := by decide +kernel
theorem dX12_put_14 : decode cX12_put 14 = .ok (.iload_n 2, 1) := by decide +kernel
theorem dX12_put_15 : decode cX12_put 15 = .ok (.ireturn, 1) := by decide +kernel
def tX12_put (kn : sKn) : List (Nat × sA) := [(0, a_iload 2 1), (1, a_if kn b_eq 0 14 4), (4, a_aload 0 5), (5, a_get 13 15 8), (8, a_iload 1 9), (9, a_aload 0 10), (10, a_get 13 13 13), (13, a_iast 14), (14, a_iload 2 15), (15, a_zret)]
def fX12_put (kn : sKn) : List Value → sW → Option sR := fW (tX12_put kn) 3
set_option maxRecDepth 100000 in
set_option maxHeartbeats 4000000 in
theorem mX12_put (kn : sKn) : mM kn yX12_put (Cond.code yX12_put cX12_put 3 (some .boolean) :: wsL_law) 1 false (fX12_put kn) := mM_W (fun n => mM_of (own := RX12) (ini := false) rfl (by decide +kernel) (by decide +kernel) (all_c (ok_iload_n dX12_put_0 rfl) (all_c (ok_if_eq dX12_put_1 (by decide)) (all_c (ok_aload_n dX12_put_4 rfl) (all_c (okg_X12_15 kw1338 dX12_put_5) (all_c (ok_iload_n dX12_put_8 rfl) (all_c (ok_aload_n dX12_put_9 rfl) (all_c (okg_X12_13 kw1244 dX12_put_10) (all_c (ok_iast dX12_put_13) (all_c (ok_iload_n dX12_put_14 rfl) (all_c (ok_zret dX12_put_15) all_n)))))))))) n (fun h => by first | rfl | cases h))
theorem dX12_isSignerTold_0 : decode cX12_isSignerTold 0 = .ok (.aload_n 0, 1) := by decide +kernel
theorem dX12_isSignerTold_1 : decode cX12_isSignerTold 1 = .ok (.invokevirtual 190, 3) := by decide +kernel
theorem dX12_isSignerTold_4 : decode cX12_isSignerTold 4 = .ok (.ifCond .ne 9, 3) := by decide +kernel
theorem dX12_isSignerTold_7 : decode cX12_isSignerTold 7 = .ok (.aload_n 0, 1) := by decide +kernel
theorem dX12_isSignerTold_8 : decode cX12_isSignerTold 8 = .ok (.iconst 1, 1) := by decide +kernel
theorem dX12_isSignerTold_9 : decode cX12_isSignerTold 9 = .ok (.invokevirtual 72, 3) := by decide +kernel
theorem dX12_isSignerTold_12 : decode cX12_isSignerTold 12 = .ok (.ireturn, 1) := by decide +kernel
theorem dX12_isSignerTold_13 : decode cX12_isSignerTold 13 = .ok (.aload_n 0, 1) := by decide +kernel
theorem dX12_isSignerTold_14 : decode cX12_isSignerTold 14 = .ok (.aload_n 0, 1) := by decide +kernel
theorem dX12_isSignerTold_15 : decode cX12_isSignerTold 15 = .ok (.getfield 117, 3) := by decide +kernel
theorem dX12_isSignerTold_18 : decode cX12_isSignerTold 18 = .ok (.iconst 0, 1) := by decide +kernel
theorem dX12_isSignerTold_19 : decode cX12_isSignerTold 19 = .ok (.aload_n 0, 1) := by decide +kernel
theorem dX12_isSignerTold_20 : decode cX12_isSignerTold 20 = .ok (.getfield 101, 3) := by decide +kernel
theorem dX12_isSignerTold_23 : decode cX12_isSignerTold 23 = .ok (.iconst 1, 1) := by decide +kernel
theorem dX12_isSignerTold_24 : decode cX12_isSignerTold 24 = .ok (.iaload, 1) := by decide +kernel
theorem dX12_isSignerTold_25 : decode cX12_isSignerTold 25 = .ok (.aload_n 0, 1) := by decide +kernel
theorem dX12_isSignerTold_26 : decode cX12_isSignerTold 26 = .ok (.getfield 43, 3) := by decide +kernel
theorem dX12_isSignerTold_29 : decode cX12_isSignerTold 29 = .ok (.invokestatic 194, 3) := by decide +kernel
theorem dX12_isSignerTold_32 : decode cX12_isSignerTold 32 = .ok (.putfield 79, 3) := by decide +kernel
theorem dX12_isSignerTold_35 : decode cX12_isSignerTold 35 = .ok (.aload_n 0, 1) := by decide +kernel
theorem dX12_isSignerTold_36 : decode cX12_isSignerTold 36 = .ok (.getfield 79, 3) := by decide +kernel
theorem dX12_isSignerTold_39 : decode cX12_isSignerTold 39 = .ok (.iconst (-1), 1) := by decide +kernel
theorem dX12_isSignerTold_40 : decode cX12_isSignerTold 40 = .ok (.if_icmp .ne 11, 3) := by decide +kernel
theorem dX12_isSignerTold_43 : decode cX12_isSignerTold 43 = .ok (.aload_n 0, 1) := by decide +kernel
theorem dX12_isSignerTold_44 : decode cX12_isSignerTold 44 = .ok (.iconst 3, 1) := by decide +kernel
theorem dX12_isSignerTold_45 : decode cX12_isSignerTold 45 = .ok (.invokevirtual 72, 3) := by decide +kernel
theorem dX12_isSignerTold_48 : decode cX12_isSignerTold 48 = .ok (.ifCond .eq 7, 3) := by decide +kernel
theorem dX12_isSignerTold_51 : decode cX12_isSignerTold 51 = .ok (.iconst 1, 1) := by decide +kernel
theorem dX12_isSignerTold_52 : decode cX12_isSignerTold 52 = .ok (.goto 4, 3) := by decide +kernel
theorem dX12_isSignerTold_55 : decode cX12_isSignerTold 55 = .ok (.iconst 0, 1) := by decide +kernel
theorem dX12_isSignerTold_56 : decode cX12_isSignerTold 56 = .ok (.ireturn, 1) := by decide +kernel
def tX12_isSignerTold (kn : sKn) : List (Nat × sA) := [(0, a_aload 0 1), (1, a_callV false (fX12_isName kn) 13 1 4), (4, a_if kn b_ne 1 13 7), (7, a_aload 0 8), (8, a_stk (q_int 1) 9), (9, a_callV false (fX12_bad kn) 13 2 12), (12, a_zret), (13, a_aload 0 14), (14, a_aload 0 15), (15, a_get 13 20 18), (18, a_stk (q_int 0) 19), (19, a_aload 0 20), (20, a_get 13 15 23), (23, a_stk (q_int 1) 24), (24, a_iald 25), (25, a_aload 0 26), (26, a_get 13 12 29), (29, a_callS false (fX12_findIn kn) 4 32), (32, a_put 13 13 ckI 35), (35, a_aload 0 36), (36, a_get 13 13 39), (39, a_stk (q_int (-1)) 40), (40, a_icmp kn b_ne 1 51 43), (43, a_aload 0 44), (44, a_stk (q_int 3) 45), (45, a_callV false (fX12_bad kn) 13 2 48), (48, a_if kn b_eq 0 55 51), (51, a_stk (q_int 1) 52), (52, a_goto 56), (55, a_stk (q_int 0) 56), (56, a_zret)]
def fX12_isSignerTold (kn : sKn) : List Value → sW → Option sR := fW (tX12_isSignerTold kn) 1
set_option maxRecDepth 100000 in
set_option maxHeartbeats 4000000 in
theorem mX12_isSignerTold (kn : sKn) : mM kn yX12_isSignerTold (Cond.code yX12_isSignerTold cX12_isSignerTold 1 (some .boolean) :: wsL_law) 4 false (fX12_isSignerTold kn) := mM_W (fun n => mM_of (own := RX12) (ini := false) rfl (by decide +kernel) (by decide +kernel) (all_c (ok_aload_n dX12_isSignerTold_0 rfl) (all_c (okc_X12_isName (by decide) kw1276 dX12_isSignerTold_1) (all_c (ok_if_ne dX12_isSignerTold_4 (by decide)) (all_c (ok_aload_n dX12_isSignerTold_7 rfl) (all_c (ok_stk (s_iconst dX12_isSignerTold_8 (by decide))) (all_c (okc_X12_bad (by decide) kw1243 dX12_isSignerTold_9) (all_c (ok_zret dX12_isSignerTold_12) (all_c (ok_aload_n dX12_isSignerTold_13 rfl) (all_c (ok_aload_n dX12_isSignerTold_14 rfl) (all_c (okg_X12_20 kw1339 dX12_isSignerTold_15) (all_c (ok_stk (s_iconst dX12_isSignerTold_18 (by decide))) (all_c (ok_aload_n dX12_isSignerTold_19 rfl) (all_c (okg_X12_15 kw1338 dX12_isSignerTold_20) (all_c (ok_stk (s_iconst dX12_isSignerTold_23 (by decide))) (all_c (ok_iald dX12_isSignerTold_24) (all_c (ok_aload_n dX12_isSignerTold_25 rfl) (all_c (okg_X12_12 kw1163 dX12_isSignerTold_26) (all_c (okc_X12_findIn (by decide) kw1264 dX12_isSignerTold_29) (all_c (okp_X12_13 kw1244 dX12_isSignerTold_32) (all_c (ok_aload_n dX12_isSignerTold_35 rfl) (all_c (okg_X12_13 kw1244 dX12_isSignerTold_36) (all_c (ok_stk (s_iconst dX12_isSignerTold_39 (by decide))) (all_c (ok_icmp_ne dX12_isSignerTold_40 (by decide)) (all_c (ok_aload_n dX12_isSignerTold_43 rfl) (all_c (ok_stk (s_iconst dX12_isSignerTold_44 (by decide))) (all_c (okc_X12_bad (by decide) kw1243 dX12_isSignerTold_45) (all_c (ok_if_eq dX12_isSignerTold_48 (by decide)) (all_c (ok_stk (s_iconst dX12_isSignerTold_51 (by decide))) (all_c (ok_goto dX12_isSignerTold_52 (by decide)) (all_c (ok_stk (s_iconst dX12_isSignerTold_55 (by decide))) (all_c (ok_zret dX12_isSignerTold_56) all_n))))))))))))))))))))))))))))))) n (fun h => by first | rfl | cases h))
theorem dX12_readHeir_0 : decode cX12_readHeir 0 = .ok (.aload_n 0, 1) := by decide +kernel
theorem dX12_readHeir_1 : decode cX12_readHeir 1 = .ok (.invokevirtual 82, 3) := by decide +kernel
theorem dX12_readHeir_4 : decode cX12_readHeir 4 = .ok (.aload_n 0, 1) := by decide +kernel
theorem dX12_readHeir_5 : decode cX12_readHeir 5 = .ok (.invokevirtual 222, 3) := by decide +kernel
theorem dX12_readHeir_8 : decode cX12_readHeir 8 = .ok (.ifCond .ne 5, 3) := by decide +kernel
theorem dX12_readHeir_11 : decode cX12_readHeir 11 = .ok (.iconst 0, 1) := by decide +kernel
theorem dX12_readHeir_12 : decode cX12_readHeir 12 = .ok (.ireturn, 1) := by decide +kernel
theorem dX12_readHeir_13 : decode cX12_readHeir 13 = .ok (.aload_n 0, 1) := by decide +kernel
theorem dX12_readHeir_14 : decode cX12_readHeir 14 = .ok (.getfield 79, 3) := by decide +kernel
theorem dX12_readHeir_17 : decode cX12_readHeir 17 = .ok (.istore_n 1, 1) := by decide +kernel
theorem dX12_readHeir_18 : decode cX12_readHeir 18 = .ok (.aload_n 0, 1) := by decide +kernel
theorem dX12_readHeir_19 : decode cX12_readHeir 19 = .ok (.getfield 101, 3) := by decide +kernel
theorem dX12_readHeir_22 : decode cX12_readHeir 22 = .ok (.bipush 26, 2) := by decide +kernel
theorem dX12_readHeir_24 : decode cX12_readHeir 24 = .ok (.iload_n 1, 1) := by decide +kernel
theorem dX12_readHeir_25 : decode cX12_readHeir 25 = .ok (.iadd, 1) := by decide +kernel
theorem dX12_readHeir_26 : decode cX12_readHeir 26 = .ok (.iaload, 1) := by decide +kernel
theorem dX12_readHeir_27 : decode cX12_readHeir 27 = .ok (.iconst (-1), 1) := by decide +kernel
theorem dX12_readHeir_28 : decode cX12_readHeir 28 = .ok (.if_icmp .eq 9, 3) := by decide +kernel
theorem dX12_readHeir_31 : decode cX12_readHeir 31 = .ok (.aload_n 0, 1) := by decide +kernel
theorem dX12_readHeir_32 : decode cX12_readHeir 32 = .ok (.iconst 3, 1) := by decide +kernel
theorem dX12_readHeir_33 : decode cX12_readHeir 33 = .ok (.invokevirtual 72, 3) := by decide +kernel
theorem dX12_readHeir_36 : decode cX12_readHeir 36 = .ok (.ireturn, 1) := by decide +kernel
theorem dX12_readHeir_37 : decode cX12_readHeir 37 = .ok (.aload_n 0, 1) := by decide +kernel
theorem dX12_readHeir_38 : decode cX12_readHeir 38 = .ok (.invokevirtual 82, 3) := by decide +kernel
theorem dX12_readHeir_41 : decode cX12_readHeir 41 = .ok (.aload_n 0, 1) := by decide +kernel
theorem dX12_readHeir_42 : decode cX12_readHeir 42 = .ok (.invokevirtual 222, 3) := by decide +kernel
theorem dX12_readHeir_45 : decode cX12_readHeir 45 = .ok (.ifCond .ne 5, 3) := by decide +kernel
theorem dX12_readHeir_48 : decode cX12_readHeir 48 = .ok (.iconst 0, 1) := by decide +kernel
theorem dX12_readHeir_49 : decode cX12_readHeir 49 = .ok (.ireturn, 1) := by decide +kernel
theorem dX12_readHeir_50 : decode cX12_readHeir 50 = .ok (.aload_n 0, 1) := by decide +kernel
theorem dX12_readHeir_51 : decode cX12_readHeir 51 = .ok (.getfield 79, 3) := by decide +kernel
theorem dX12_readHeir_54 : decode cX12_readHeir 54 = .ok (.iload_n 1, 1) := by decide +kernel
theorem dX12_readHeir_55 : decode cX12_readHeir 55 = .ok (.if_icmp .ne 9, 3) := by decide +kernel
theorem dX12_readHeir_58 : decode cX12_readHeir 58 = .ok (.aload_n 0, 1) := by decide +kernel
theorem dX12_readHeir_59 : decode cX12_readHeir 59 = .ok (.iconst 3, 1) := by decide +kernel
theorem dX12_readHeir_60 : decode cX12_readHeir 60 = .ok (.invokevirtual 72, 3) := by decide +kernel
theorem dX12_readHeir_63 : decode cX12_readHeir 63 = .ok (.ireturn, 1) := by decide +kernel
theorem dX12_readHeir_64 : decode cX12_readHeir 64 = .ok (.aload_n 0, 1) := by decide +kernel
theorem dX12_readHeir_65 : decode cX12_readHeir 65 = .ok (.getfield 101, 3) := by decide +kernel
theorem dX12_readHeir_68 : decode cX12_readHeir 68 = .ok (.bipush 26, 2) := by decide +kernel
theorem dX12_readHeir_70 : decode cX12_readHeir 70 = .ok (.iload_n 1, 1) := by decide +kernel
theorem dX12_readHeir_71 : decode cX12_readHeir 71 = .ok (.iadd, 1) := by decide +kernel
theorem dX12_readHeir_72 : decode cX12_readHeir 72 = .ok (.aload_n 0, 1) := by decide +kernel
theorem dX12_readHeir_73 : decode cX12_readHeir 73 = .ok (.getfield 79, 3) := by decide +kernel
theorem dX12_readHeir_76 : decode cX12_readHeir 76 = .ok (.iastore, 1) := by decide +kernel
theorem dX12_readHeir_77 : decode cX12_readHeir 77 = .ok (.aload_n 0, 1) := by decide +kernel
theorem dX12_readHeir_78 : decode cX12_readHeir 78 = .ok (.invokevirtual 82, 3) := by decide +kernel
theorem dX12_readHeir_81 : decode cX12_readHeir 81 = .ok (.iconst 1, 1) := by decide +kernel
theorem dX12_readHeir_82 : decode cX12_readHeir 82 = .ok (.ireturn, 1) := by decide +kernel
theorem okc_X12_isSignerTold {kn : sKn} {cc : ByteArray} {own : String} {nL : Nat} {D : Nat} {ret : Option FieldType} {ini : Bool} {pc index : Nat} (hD : 4 + 1 ≤ D) (hl : Cond.methodLink own index yX12_isSignerTold ∈ wsL_law) (hd : decode cc pc = .ok (.invokevirtual index, 3)) : mOk kn cc own nL wsL_law D ret ini pc (a_callV false (fX12_isSignerTold kn) 13 (0 + 1) (pc + 3)) := ok_callV (mX12_isSignerTold kn) (good_ws ws_good (fun _ h => h) kw1340) hD (by decide) hl kw1341 kw1342 kw1072 ⟨by decide +kernel, by decide +kernel, by decide +kernel⟩ rfl hd
def tX12_readHeir (kn : sKn) : List (Nat × sA) := [(0, a_aload 0 1), (1, a_callV true (fX12_go kn) 13 1 4), (4, a_aload 0 5), (5, a_callV false (fX12_isSignerTold kn) 13 1 8), (8, a_if kn b_ne 1 13 11), (11, a_stk (q_int 0) 12), (12, a_zret), (13, a_aload 0 14), (14, a_get 13 13 17), (17, a_istore 1 18), (18, a_aload 0 19), (19, a_get 13 15 22), (22, a_stk (q_int 26) 24), (24, a_iload 1 25), (25, a_stk q_iadd 26), (26, a_iald 27), (27, a_stk (q_int (-1)) 28), (28, a_icmp kn b_eq 0 37 31), (31, a_aload 0 32), (32, a_stk (q_int 3) 33), (33, a_callV false (fX12_bad kn) 13 2 36), (36, a_zret), (37, a_aload 0 38), (38, a_callV true (fX12_go kn) 13 1 41), (41, a_aload 0 42), (42, a_callV false (fX12_isSignerTold kn) 13 1 45), (45, a_if kn b_ne 1 50 48), (48, a_stk (q_int 0) 49), (49, a_zret), (50, a_aload 0 51), (51, a_get 13 13 54), (54, a_iload 1 55), (55, a_icmp kn b_ne 1 64 58), (58, a_aload 0 59), (59, a_stk (q_int 3) 60), (60, a_callV false (fX12_bad kn) 13 2 63), (63, a_zret), (64, a_aload 0 65), (65, a_get 13 15 68), (68, a_stk (q_int 26) 70), (70, a_iload 1 71), (71, a_stk q_iadd 72), (72, a_aload 0 73), (73, a_get 13 13 76), (76, a_iast 77), (77, a_aload 0 78), (78, a_callV true (fX12_go kn) 13 1 81), (81, a_stk (q_int 1) 82), (82, a_zret)]
def fX12_readHeir (kn : sKn) : List Value → sW → Option sR := fW (tX12_readHeir kn) 2
set_option maxRecDepth 100000 in
set_option maxHeartbeats 4000000 in
theorem mX12_readHeir (kn : sKn) : mM kn yX12_readHeir (Cond.code yX12_readHeir cX12_readHeir 2 (some .boolean) :: wsL_law) 5 false (fX12_readHeir kn) := mM_W (fun n => mM_of (own := RX12) (ini := false) rfl (by decide +kernel) (by decide +kernel) (all_c (ok_aload_n dX12_readHeir_0 rfl) (all_c (okc_X12_go (by decide) kw1179 dX12_readHeir_1) (all_c (ok_aload_n dX12_readHeir_4 rfl) (all_c (okc_X12_isSignerTold (by decide) kw1343 dX12_readHeir_5) (all_c (ok_if_ne dX12_readHeir_8 (by decide)) (all_c (ok_stk (s_iconst dX12_readHeir_11 (by decide))) (all_c (ok_zret dX12_readHeir_12) (all_c (ok_aload_n dX12_readHeir_13 rfl) (all_c (okg_X12_13 kw1244 dX12_readHeir_14) (all_c (ok_istore_n dX12_readHeir_17 rfl (by decide)) (all_c (ok_aload_n dX12_readHeir_18 rfl) (all_c (okg_X12_15 kw1338 dX12_readHeir_19) (all_c (ok_stk (s_bipush dX12_readHeir_22 (by decide))) (all_c (ok_iload_n dX12_readHeir_24 rfl) (all_c (ok_stk (s_iadd dX12_readHeir_25)) (all_c (ok_iald dX12_readHeir_26) (all_c (ok_stk (s_iconst dX12_readHeir_27 (by decide))) (all_c (ok_icmp_eq dX12_readHeir_28 (by decide)) (all_c (ok_aload_n dX12_readHeir_31 rfl) (all_c (ok_stk (s_iconst dX12_readHeir_32 (by decide))) (all_c (okc_X12_bad (by decide) kw1243 dX12_readHeir_33) (all_c (ok_zret dX12_readHeir_36) (all_c (ok_aload_n dX12_readHeir_37 rfl) (all_c (okc_X12_go (by decide) kw1179 dX12_readHeir_38) (all_c (ok_aload_n dX12_readHeir_41 rfl) (all_c (okc_X12_isSignerTold (by decide) kw1343 dX12_readHeir_42) (all_c (ok_if_ne dX12_readHeir_45 (by decide)) (all_c (ok_stk (s_iconst dX12_readHeir_48 (by decide))) (all_c (ok_zret dX12_readHeir_49) (all_c (ok_aload_n dX12_readHeir_50 rfl) (all_c (okg_X12_13 kw1244 dX12_readHeir_51) (all_c (ok_iload_n dX12_readHeir_54 rfl) (all_c (ok_icmp_ne dX12_readHeir_55 (by decide)) (all_c (ok_aload_n dX12_readHeir_58 rfl) (all_c (ok_stk (s_iconst dX12_readHeir_59 (by decide))) (all_c (okc_X12_bad (by decide) kw1243 dX12_readHeir_60) (all_c (ok_zret dX12_readHeir_63) (all_c (ok_aload_n dX12_readHeir_64 rfl) (all_c (okg_X12_15 kw1338 dX12_readHeir_65) (all_c (ok_stk (s_bipush dX12_readHeir_68 (by decide))) (all_c (ok_iload_n dX12_readHeir_70 rfl) (all_c (ok_stk (s_iadd dX12_readHeir_71)) (all_c (ok_aload_n dX12_readHeir_72 rfl) (all_c (okg_X12_13 kw1244 dX12_readHeir_73) (all_c (ok_iast dX12_readHeir_76) (all_c (ok_aload_n dX12_readHeir_77 rfl) (all_c (okc_X12_go (by decide) kw1179 dX12_readHeir_78) (all_c (ok_stk (s_iconst dX12_readHeir_81 (by decide))) (all_c (ok_zret dX12_readHeir_82) all_n))))))))))))))))))))))))))))))))))))))))))))))))) n (fun h => by first | rfl | cases h))
theorem dX12_readFirst_0 : decode cX12_readFirst 0 = .ok (.aload_n 0, 1) := by decide +kernel
theorem dX12_readFirst_1 : decode cX12_readFirst 1 = .ok (.getfield 101, 3) := by decide +kernel
theorem dX12_readFirst_4 : decode cX12_readFirst 4 = .ok (.iload_n 1, 1) := by decide +kernel
theorem dX12_readFirst_5 : decode cX12_readFirst 5 = .ok (.iaload, 1) := by decide +kernel
theorem dX12_readFirst_6 : decode cX12_readFirst 6 = .ok (.iload_n 2, 1) := by decide +kernel
theorem dX12_readFirst_7 : decode cX12_readFirst 7 = .ok (.if_icmp .ne 9, 3) := by decide +kernel
theorem dX12_readFirst_10 : decode cX12_readFirst 10 = .ok (.aload_n 0, 1) := by decide +kernel
theorem dX12_readFirst_11 : decode cX12_readFirst 11 = .ok (.iconst 4, 1) := by decide +kernel
theorem dX12_readFirst_12 : decode cX12_readFirst 12 = .ok (.invokevirtual 72, 3) := by decide +kernel
theorem dX12_readFirst_15 : decode cX12_readFirst 15 = .ok (.ireturn, 1) := by decide +kernel
theorem dX12_readFirst_16 : decode cX12_readFirst 16 = .ok (.aload_n 0, 1) := by decide +kernel
theorem dX12_readFirst_17 : decode cX12_readFirst 17 = .ok (.invokevirtual 82, 3) := by decide +kernel
theorem dX12_readFirst_20 : decode cX12_readFirst 20 = .ok (.iconst 1, 1) := by decide +kernel
theorem dX12_readFirst_21 : decode cX12_readFirst 21 = .ok (.ireturn, 1) := by decide +kernel
def tX12_readFirst (kn : sKn) : List (Nat × sA) := [(0, a_aload 0 1), (1, a_get 13 15 4), (4, a_iload 1 5), (5, a_iald 6), (6, a_iload 2 7), (7, a_icmp kn b_ne 1 16 10), (10, a_aload 0 11), (11, a_stk (q_int 4) 12), (12, a_callV false (fX12_bad kn) 13 2 15), (15, a_zret), (16, a_aload 0 17), (17, a_callV true (fX12_go kn) 13 1 20), (20, a_stk (q_int 1) 21), (21, a_zret)]
def fX12_readFirst (kn : sKn) : List Value → sW → Option sR := fW (tX12_readFirst kn) 3
set_option maxRecDepth 100000 in
set_option maxHeartbeats 4000000 in
theorem mX12_readFirst (kn : sKn) : mM kn yX12_readFirst (Cond.code yX12_readFirst cX12_readFirst 3 (some .boolean) :: wsL_law) 3 false (fX12_readFirst kn) := mM_W (fun n => mM_of (own := RX12) (ini := false) rfl (by decide +kernel) (by decide +kernel) (all_c (ok_aload_n dX12_readFirst_0 rfl) (all_c (okg_X12_15 kw1338 dX12_readFirst_1) (all_c (ok_iload_n dX12_readFirst_4 rfl) (all_c (ok_iald dX12_readFirst_5) (all_c (ok_iload_n dX12_readFirst_6 rfl) (all_c (ok_icmp_ne dX12_readFirst_7 (by decide)) (all_c (ok_aload_n dX12_readFirst_10 rfl) (all_c (ok_stk (s_iconst dX12_readFirst_11 (by decide))) (all_c (okc_X12_bad (by decide) kw1243 dX12_readFirst_12) (all_c (ok_zret dX12_readFirst_15) (all_c (ok_aload_n dX12_readFirst_16 rfl) (all_c (okc_X12_go (by decide) kw1179 dX12_readFirst_17) (all_c (ok_stk (s_iconst dX12_readFirst_20 (by decide))) (all_c (ok_zret dX12_readFirst_21) all_n)))))))))))))) n (fun h => by first | rfl | cases h))
theorem dX12_readNew_0 : decode cX12_readNew 0 = .ok (.aload_n 0, 1) := by decide +kernel
theorem dX12_readNew_1 : decode cX12_readNew 1 = .ok (.invokevirtual 190, 3) := by decide +kernel
theorem dX12_readNew_4 : decode cX12_readNew 4 = .ok (.ifCond .ne 9, 3) := by decide +kernel
theorem dX12_readNew_7 : decode cX12_readNew 7 = .ok (.aload_n 0, 1) := by decide +kernel
theorem dX12_readNew_8 : decode cX12_readNew 8 = .ok (.iconst 1, 1) := by decide +kernel
theorem dX12_readNew_9 : decode cX12_readNew 9 = .ok (.invokevirtual 72, 3) := by decide +kernel
theorem dX12_readNew_12 : decode cX12_readNew 12 = .ok (.ireturn, 1) := by decide +kernel
theorem dX12_readNew_13 : decode cX12_readNew 13 = .ok (.aload_n 0, 1) := by decide +kernel
theorem dX12_readNew_14 : decode cX12_readNew 14 = .ok (.getfield 117, 3) := by decide +kernel
theorem dX12_readNew_17 : decode cX12_readNew 17 = .ok (.iconst 0, 1) := by decide +kernel
theorem dX12_readNew_18 : decode cX12_readNew 18 = .ok (.aload_n 0, 1) := by decide +kernel
theorem dX12_readNew_19 : decode cX12_readNew 19 = .ok (.getfield 101, 3) := by decide +kernel
theorem dX12_readNew_22 : decode cX12_readNew 22 = .ok (.iconst 1, 1) := by decide +kernel
theorem dX12_readNew_23 : decode cX12_readNew 23 = .ok (.iaload, 1) := by decide +kernel
theorem dX12_readNew_24 : decode cX12_readNew 24 = .ok (.aload_n 0, 1) := by decide +kernel
theorem dX12_readNew_25 : decode cX12_readNew 25 = .ok (.getfield 43, 3) := by decide +kernel
theorem dX12_readNew_28 : decode cX12_readNew 28 = .ok (.invokestatic 194, 3) := by decide +kernel
theorem dX12_readNew_31 : decode cX12_readNew 31 = .ok (.iconst (-1), 1) := by decide +kernel
theorem dX12_readNew_32 : decode cX12_readNew 32 = .ok (.if_icmp .ne 26, 3) := by decide +kernel
theorem dX12_readNew_35 : decode cX12_readNew 35 = .ok (.aload_n 0, 1) := by decide +kernel
theorem dX12_readNew_36 : decode cX12_readNew 36 = .ok (.getfield 117, 3) := by decide +kernel
theorem dX12_readNew_39 : decode cX12_readNew 39 = .ok (.bipush 10, 2) := by decide +kernel
theorem dX12_readNew_41 : decode cX12_readNew 41 = .ok (.aload_n 0, 1) := by decide +kernel
theorem dX12_readNew_42 : decode cX12_readNew 42 = .ok (.getfield 101, 3) := by decide +kernel
theorem dX12_readNew_45 : decode cX12_readNew 45 = .ok (.iconst 2, 1) := by decide +kernel
theorem dX12_readNew_46 : decode cX12_readNew 46 = .ok (.iaload, 1) := by decide +kernel
theorem dX12_readNew_47 : decode cX12_readNew 47 = .ok (.aload_n 0, 1) := by decide +kernel
theorem dX12_readNew_48 : decode cX12_readNew 48 = .ok (.getfield 43, 3) := by decide +kernel
theorem dX12_readNew_51 : decode cX12_readNew 51 = .ok (.invokestatic 194, 3) := by decide +kernel
theorem dX12_readNew_54 : decode cX12_readNew 54 = .ok (.iconst (-1), 1) := by decide +kernel
theorem dX12_readNew_55 : decode cX12_readNew 55 = .ok (.if_icmp .eq 9, 3) := by decide +kernel
theorem dX12_readNew_58 : decode cX12_readNew 58 = .ok (.aload_n 0, 1) := by decide +kernel
theorem dX12_readNew_59 : decode cX12_readNew 59 = .ok (.iconst 3, 1) := by decide +kernel
theorem dX12_readNew_60 : decode cX12_readNew 60 = .ok (.invokevirtual 72, 3) := by decide +kernel
theorem dX12_readNew_63 : decode cX12_readNew 63 = .ok (.ireturn, 1) := by decide +kernel
theorem dX12_readNew_64 : decode cX12_readNew 64 = .ok (.aload_n 0, 1) := by decide +kernel
theorem dX12_readNew_65 : decode cX12_readNew 65 = .ok (.getfield 117, 3) := by decide +kernel
theorem dX12_readNew_68 : decode cX12_readNew 68 = .ok (.iload_n 1, 1) := by decide +kernel
theorem dX12_readNew_69 : decode cX12_readNew 69 = .ok (.aload_n 0, 1) := by decide +kernel
theorem dX12_readNew_70 : decode cX12_readNew 70 = .ok (.getfield 43, 3) := by decide +kernel
theorem dX12_readNew_73 : decode cX12_readNew 73 = .ok (.lastore, 1) := by decide +kernel
theorem dX12_readNew_74 : decode cX12_readNew 74 = .ok (.aload_n 0, 1) := by decide +kernel
theorem dX12_readNew_75 : decode cX12_readNew 75 = .ok (.invokevirtual 82, 3) := by decide +kernel
theorem dX12_readNew_78 : decode cX12_readNew 78 = .ok (.iconst 1, 1) := by decide +kernel
theorem dX12_readNew_79 : decode cX12_readNew 79 = .ok (.ireturn, 1) := by decide +kernel
def tX12_readNew (kn : sKn) : List (Nat × sA) := [(0, a_aload 0 1), (1, a_callV false (fX12_isName kn) 13 1 4), (4, a_if kn b_ne 1 13 7), (7, a_aload 0 8), (8, a_stk (q_int 1) 9), (9, a_callV false (fX12_bad kn) 13 2 12), (12, a_zret), (13, a_aload 0 14), (14, a_get 13 20 17), (17, a_stk (q_int 0) 18), (18, a_aload 0 19), (19, a_get 13 15 22), (22, a_stk (q_int 1) 23), (23, a_iald 24), (24, a_aload 0 25), (25, a_get 13 12 28), (28, a_callS false (fX12_findIn kn) 4 31), (31, a_stk (q_int (-1)) 32), (32, a_icmp kn b_ne 1 58 35), (35, a_aload 0 36), (36, a_get 13 20 39), (39, a_stk (q_int 10) 41), (41, a_aload 0 42), (42, a_get 13 15 45), (45, a_stk (q_int 2) 46), (46, a_iald 47), (47, a_aload 0 48), (48, a_get 13 12 51), (51, a_callS false (fX12_findIn kn) 4 54), (54, a_stk (q_int (-1)) 55), (55, a_icmp kn b_eq 0 64 58), (58, a_aload 0 59), (59, a_stk (q_int 3) 60), (60, a_callV false (fX12_bad kn) 13 2 63), (63, a_zret), (64, a_aload 0 65), (65, a_get 13 20 68), (68, a_iload 1 69), (69, a_aload 0 70), (70, a_get 13 12 73), (73, a_last 74), (74, a_aload 0 75), (75, a_callV true (fX12_go kn) 13 1 78), (78, a_stk (q_int 1) 79), (79, a_zret)]
def fX12_readNew (kn : sKn) : List Value → sW → Option sR := fW (tX12_readNew kn) 2
set_option maxRecDepth 100000 in
set_option maxHeartbeats 4000000 in
theorem mX12_readNew (kn : sKn) : mM kn yX12_readNew (Cond.code yX12_readNew cX12_readNew 2 (some .boolean) :: wsL_law) 4 false (fX12_readNew kn) := mM_W (fun n => mM_of (own := RX12) (ini := false) rfl (by decide +kernel) (by decide +kernel) (all_c (ok_aload_n dX12_readNew_0 rfl) (all_c (okc_X12_isName (by decide) kw1276 dX12_readNew_1) (all_c (ok_if_ne dX12_readNew_4 (by decide)) (all_c (ok_aload_n dX12_readNew_7 rfl) (all_c (ok_stk (s_iconst dX12_readNew_8 (by decide))) (all_c (okc_X12_bad (by decide) kw1243 dX12_readNew_9) (all_c (ok_zret dX12_readNew_12) (all_c (ok_aload_n dX12_readNew_13 rfl) (all_c (okg_X12_20 kw1339 dX12_readNew_14) (all_c (ok_stk (s_iconst dX12_readNew_17 (by decide))) (all_c (ok_aload_n dX12_readNew_18 rfl) (all_c (okg_X12_15 kw1338 dX12_readNew_19) (all_c (ok_stk (s_iconst dX12_readNew_22 (by decide))) (all_c (ok_iald dX12_readNew_23) (all_c (ok_aload_n dX12_readNew_24 rfl) (all_c (okg_X12_12 kw1163 dX12_readNew_25) (all_c (okc_X12_findIn (by decide) kw1264 dX12_readNew_28) (all_c (ok_stk (s_iconst dX12_readNew_31 (by decide))) (all_c (ok_icmp_ne dX12_readNew_32 (by decide)) (all_c (ok_aload_n dX12_readNew_35 rfl) (all_c (okg_X12_20 kw1339 dX12_readNew_36) (all_c (ok_stk (s_bipush dX12_readNew_39 (by decide))) (all_c (ok_aload_n dX12_readNew_41 rfl) (all_c (okg_X12_15 kw1338 dX12_readNew_42) (all_c (ok_stk (s_iconst dX12_readNew_45 (by decide))) (all_c (ok_iald dX12_readNew_46) (all_c (ok_aload_n dX12_readNew_47 rfl) (all_c (okg_X12_12 kw1163 dX12_readNew_48) (all_c (okc_X12_findIn (by decide) kw1264 dX12_readNew_51) (all_c (ok_stk (s_iconst dX12_readNew_54 (by decide))) (all_c (ok_icmp_eq dX12_readNew_55 (by decide)) (all_c (ok_aload_n dX12_readNew_58 rfl) (all_c (ok_stk (s_iconst dX12_readNew_59 (by decide))) (all_c (okc_X12_bad (by decide) kw1243 dX12_readNew_60) (all_c (ok_zret dX12_readNew_63) (all_c (ok_aload_n dX12_readNew_64 rfl) (all_c (okg_X12_20 kw1339 dX12_readNew_65) (all_c (ok_iload_n dX12_readNew_68 rfl) (all_c (ok_aload_n dX12_readNew_69 rfl) (all_c (okg_X12_12 kw1163 dX12_readNew_70) (all_c (ok_last dX12_readNew_73) (all_c (ok_aload_n dX12_readNew_74 rfl) (all_c (okc_X12_go (by decide) kw1179 dX12_readNew_75) (all_c (ok_stk (s_iconst dX12_readNew_78 (by decide))) (all_c (ok_zret dX12_readNew_79) all_n))))))))))))))))))))))))))))))))))))))))))))) n (fun h => by first | rfl | cases h))
theorem dX12_readLoad_0 : decode cX12_readLoad 0 = .ok (.aload_n 0, 1) := by decide +kernel
theorem dX12_readLoad_1 : decode cX12_readLoad 1 = .ok (.iconst 2, 1) := by decide +kernel
theorem dX12_readLoad_2 : decode cX12_readLoad 2 = .ok (.bipush 6, 2) := by decide +kernel
theorem dX12_readLoad_4 : decode cX12_readLoad 4 = .ok (.invokevirtual 213, 3) := by decide +kernel
theorem dX12_readLoad_7 : decode cX12_readLoad 7 = .ok (.ifCond .ne 5, 3) := by decide +kernel
theorem dX12_readLoad_10 : decode cX12_readLoad 10 = .ok (.iconst 0, 1) := by decide +kernel
theorem dX12_readLoad_11 : decode cX12_readLoad 11 = .ok (.ireturn, 1) := by decide +kernel
theorem dX12_readLoad_12 : decode cX12_readLoad 12 = .ok (.aload_n 0, 1) := by decide +kernel
theorem dX12_readLoad_13 : decode cX12_readLoad 13 = .ok (.getfield 101, 3) := by decide +kernel
theorem dX12_readLoad_16 : decode cX12_readLoad 16 = .ok (.iconst 2, 1) := by decide +kernel
theorem dX12_readLoad_17 : decode cX12_readLoad 17 = .ok (.iaload, 1) := by decide +kernel
theorem dX12_readLoad_18 : decode cX12_readLoad 18 = .ok (.istore_n 1, 1) := by decide +kernel
theorem dX12_readLoad_19 : decode cX12_readLoad 19 = .ok (.aload_n 0, 1) := by decide +kernel
theorem dX12_readLoad_20 : decode cX12_readLoad 20 = .ok (.bipush 10, 2) := by decide +kernel
theorem dX12_readLoad_22 : decode cX12_readLoad 22 = .ok (.iload_n 1, 1) := by decide +kernel
theorem dX12_readLoad_23 : decode cX12_readLoad 23 = .ok (.iadd, 1) := by decide +kernel
theorem dX12_readLoad_24 : decode cX12_readLoad 24 = .ok (.invokevirtual 216, 3) := by decide +kernel
theorem dX12_readLoad_27 : decode cX12_readLoad 27 = .ok (.ifCond .eq 39, 3) := by decide +kernel
theorem dX12_readLoad_30 : decode cX12_readLoad 30 = .ok (.aload_n 0, 1) := by decide +kernel
theorem dX12_readLoad_31 : decode cX12_readLoad 31 = .ok (.bipush 82, 2) := by decide +kernel
theorem dX12_readLoad_33 : decode cX12_readLoad 33 = .ok (.iload_n 1, 1) := by decide +kernel
theorem dX12_readLoad_34 : decode cX12_readLoad 34 = .ok (.iadd, 1) := by decide +kernel
theorem dX12_readLoad_35 : decode cX12_readLoad 35 = .ok (.aload_n 0, 1) := by decide +kernel
theorem dX12_readLoad_36 : decode cX12_readLoad 36 = .ok (.iconst 1, 1) := by decide +kernel
theorem dX12_readLoad_37 : decode cX12_readLoad 37 = .ok (.sipush 300, 3) := by decide +kernel
theorem dX12_readLoad_40 : decode cX12_readLoad 40 = .ok (.invokevirtual 205, 3) := by decide +kernel
theorem dX12_readLoad_43 : decode cX12_readLoad 43 = .ok (.invokevirtual 209, 3) := by decide +kernel
theorem dX12_readLoad_46 : decode cX12_readLoad 46 = .ok (.ifCond .eq 20, 3) := by decide +kernel
theorem dX12_readLoad_49 : decode cX12_readLoad 49 = .ok (.aload_n 0, 1) := by decide +kernel
theorem dX12_readLoad_50 : decode cX12_readLoad 50 = .ok (.bipush 88, 2) := by decide +kernel
theorem dX12_readLoad_52 : decode cX12_readLoad 52 = .ok (.iload_n 1, 1) := by decide +kernel
theorem dX12_readLoad_53 : decode cX12_readLoad 53 = .ok (.iadd, 1) := by decide +kernel
theorem dX12_readLoad_54 : decode cX12_readLoad 54 = .ok (.aload_n 0, 1) := by decide +kernel
theorem dX12_readLoad_55 : decode cX12_readLoad 55 = .ok (.iconst 1, 1) := by decide +kernel
theorem dX12_readLoad_56 : decode cX12_readLoad 56 = .ok (.iconst 3, 1) := by decide +kernel
theorem dX12_readLoad_57 : decode cX12_readLoad 57 = .ok (.invokevirtual 205, 3) := by decide +kernel
theorem dX12_readLoad_60 : decode cX12_readLoad 60 = .ok (.invokevirtual 209, 3) := by decide +kernel
theorem dX12_readLoad_63 : decode cX12_readLoad 63 = .ok (.ifCond .ne 5, 3) := by decide +kernel
theorem dX12_readLoad_66 : decode cX12_readLoad 66 = .ok (.iconst 0, 1) := by decide +kernel
theorem dX12_readLoad_67 : decode cX12_readLoad 67 = .ok (.ireturn, 1) := by decide +kernel
theorem dX12_readLoad_68 : decode cX12_readLoad 68 = .ok (.aload_n 0, 1) := by decide +kernel
theorem dX12_readLoad_69 : decode cX12_readLoad 69 = .ok (.getfield 101, 3) := by decide +kernel
theorem dX12_readLoad_72 : decode cX12_readLoad 72 = .ok (.iconst 2, 1) := by decide +kernel
theorem dX12_readLoad_73 : decode cX12_readLoad 73 = .ok (.dup2, 1) := by decide +kernel
theorem dX12_readLoad_74 : decode cX12_readLoad 74 = .ok (.iaload, 1) := by decide +kernel
theorem dX12_readLoad_75 : decode cX12_readLoad 75 = .ok (.iconst 1, 1) := by decide +kernel
theorem dX12_readLoad_76 : decode cX12_readLoad 76 = .ok (.iadd, 1) := by decide +kernel
theorem dX12_readLoad_77 : decode cX12_readLoad 77 = .ok (.iastore, 1) := by decide +kernel
theorem dX12_readLoad_78 : decode cX12_readLoad 78 = .ok (.iconst 1, 1) := by decide +kernel
theorem dX12_readLoad_79 : decode cX12_readLoad 79 = .ok (.ireturn, 1) := by decide +kernel
theorem okc_X12_readFirst {kn : sKn} {cc : ByteArray} {own : String} {nL : Nat} {D : Nat} {ret : Option FieldType} {ini : Bool} {pc index : Nat} (hD : 3 + 1 ≤ D) (hl : Cond.methodLink own index yX12_readFirst ∈ wsL_law) (hd : decode cc pc = .ok (.invokevirtual index, 3)) : mOk kn cc own nL wsL_law D ret ini pc (a_callV false (fX12_readFirst kn) 13 (2 + 1) (pc + 3)) := ok_callV (mX12_readFirst kn) (good_ws ws_good (fun _ h => h) kw1344) hD (by decide) hl kw1345 kw1346 kw1072 ⟨by decide +kernel, by decide +kernel, by decide +kernel⟩ rfl hd
theorem okc_X12_readNew {kn : sKn} {cc : ByteArray} {own : String} {nL : Nat} {D : Nat} {ret : Option FieldType} {ini : Bool} {pc index : Nat} (hD : 4 + 1 ≤ D) (hl : Cond.methodLink own index yX12_readNew ∈ wsL_law) (hd : decode cc pc = .ok (.invokevirtual index, 3)) : mOk kn cc own nL wsL_law D ret ini pc (a_callV false (fX12_readNew kn) 13 (1 + 1) (pc + 3)) := ok_callV (mX12_readNew kn) (good_ws ws_good (fun _ h => h) kw1348) hD (by decide) hl kw1349 kw1350 kw1072 ⟨by decide +kernel, by decide +kernel, by decide +kernel⟩ rfl hd
theorem okc_X12_put {kn : sKn} {cc : ByteArray} {own : String} {nL : Nat} {D : Nat} {ret : Option FieldType} {ini : Bool} {pc index : Nat} (hD : 1 + 1 ≤ D) (hl : Cond.methodLink own index yX12_put ∈ wsL_law) (hd : decode cc pc = .ok (.invokevirtual index, 3)) : mOk kn cc own nL wsL_law D ret ini pc (a_callV false (fX12_put kn) 13 (2 + 1) (pc + 3)) := ok_callV (mX12_put kn) (good_ws ws_good (fun _ h => h) kw1352) hD (by decide) hl kw1353 kw1354 kw1072 ⟨by decide +kernel, by decide +kernel, by decide +kernel⟩ rfl hd
def tX12_readLoad (kn : sKn) : List (Nat × sA) := [(0, a_aload 0 1), (1, a_stk (q_int 2) 2), (2, a_stk (q_int 6) 4), (4, a_callV false (fX12_readFirst kn) 13 3 7), (7, a_if kn b_ne 1 12 10), (10, a_stk (q_int 0) 11), (11, a_zret), (12, a_aload 0 13), (13, a_get 13 15 16), (16, a_stk (q_int 2) 17), (17, a_iald 18), (18, a_istore 1 19), (19, a_aload 0 20), (20, a_stk (q_int 10) 22), (22, a_iload 1 23), (23, a_stk q_iadd 24), (24, a_callV false (fX12_readNew kn) 13 2 27), (27, a_if kn b_eq 0 66 30), (30, a_aload 0 31), (31, a_stk (q_int 82) 33), (33, a_iload 1 34), (34, a_stk q_iadd 35), (35, a_aload 0 36), (36, a_stk (q_int 1) 37), (37, a_stk (q_int 300) 40), (40, a_callV false (fX12_readNumber kn) 13 3 43), (43, a_callV false (fX12_put kn) 13 3 46), (46, a_if kn b_eq 0 66 49), (49, a_aload 0 50), (50, a_stk (q_int 88) 52), (52, a_iload 1 53), (53, a_stk q_iadd 54), (54, a_aload 0 55), (55, a_stk (q_int 1) 56), (56, a_stk (q_int 3) 57), (57, a_callV false (fX12_readNumber kn) 13 3 60), (60, a_callV false (fX12_put kn) 13 3 63), (63, a_if kn b_ne 1 68 66), (66, a_stk (q_int 0) 67), (67, a_zret), (68, a_aload 0 69), (69, a_get 13 15 72), (72, a_stk (q_int 2) 73), (73, a_stk q_dup2 74), (74, a_iald 75), (75, a_stk (q_int 1) 76), (76, a_stk q_iadd 77), (77, a_iast 78), (78, a_stk (q_int 1) 79), (79, a_zret)]
def fX12_readLoad (kn : sKn) : List Value → sW → Option sR := fW (tX12_readLoad kn) 2
set_option maxRecDepth 100000 in
set_option maxHeartbeats 4000000 in
theorem mX12_readLoad (kn : sKn) : mM kn yX12_readLoad (Cond.code yX12_readLoad cX12_readLoad 2 (some .boolean) :: wsL_law) 5 false (fX12_readLoad kn) := mM_W (fun n => mM_of (own := RX12) (ini := false) rfl (by decide +kernel) (by decide +kernel) (all_c (ok_aload_n dX12_readLoad_0 rfl) (all_c (ok_stk (s_iconst dX12_readLoad_1 (by decide))) (all_c (ok_stk (s_bipush dX12_readLoad_2 (by decide))) (all_c (okc_X12_readFirst (by decide) kw1347 dX12_readLoad_4) (all_c (ok_if_ne dX12_readLoad_7 (by decide)) (all_c (ok_stk (s_iconst dX12_readLoad_10 (by decide))) (all_c (ok_zret dX12_readLoad_11) (all_c (ok_aload_n dX12_readLoad_12 rfl) (all_c (okg_X12_15 kw1338 dX12_readLoad_13) (all_c (ok_stk (s_iconst dX12_readLoad_16 (by decide))) (all_c (ok_iald dX12_readLoad_17) (all_c (ok_istore_n dX12_readLoad_18 rfl (by decide)) (all_c (ok_aload_n dX12_readLoad_19 rfl) (all_c (ok_stk (s_bipush dX12_readLoad_20 (by decide))) (all_c (ok_iload_n dX12_readLoad_22 rfl) (all_c (ok_stk (s_iadd dX12_readLoad_23)) (all_c (okc_X12_readNew (by decide) kw1351 dX12_readLoad_24) (all_c (ok_if_eq dX12_readLoad_27 (by decide)) (all_c (ok_aload_n dX12_readLoad_30 rfl) (all_c (ok_stk (s_bipush dX12_readLoad_31 (by decide))) (all_c (ok_iload_n dX12_readLoad_33 rfl) (all_c (ok_stk (s_iadd dX12_readLoad_34)) (all_c (ok_aload_n dX12_readLoad_35 rfl) (all_c (ok_stk (s_iconst dX12_readLoad_36 (by decide))) (all_c (ok_stk (s_sipush dX12_readLoad_37 (by decide))) (all_c (okc_X12_readNumber (by decide) kw1248 dX12_readLoad_40) (all_c (okc_X12_put (by decide) kw1355 dX12_readLoad_43) (all_c (ok_if_eq dX12_readLoad_46 (by decide)) (all_c (ok_aload_n dX12_readLoad_49 rfl) (all_c (ok_stk (s_bipush dX12_readLoad_50 (by decide))) (all_c (ok_iload_n dX12_readLoad_52 rfl) (all_c (ok_stk (s_iadd dX12_readLoad_53)) (all_c (ok_aload_n dX12_readLoad_54 rfl) (all_c (ok_stk (s_iconst dX12_readLoad_55 (by decide))) (all_c (ok_stk (s_iconst dX12_readLoad_56 (by decide))) (all_c (okc_X12_readNumber (by decide) kw1248 dX12_readLoad_57) (all_c (okc_X12_put (by decide) kw1355 dX12_readLoad_60) (all_c (ok_if_ne dX12_readLoad_63 (by decide)) (all_c (ok_stk (s_iconst dX12_readLoad_66 (by decide))) (all_c (ok_zret dX12_readLoad_67) (all_c (ok_aload_n dX12_readLoad_68 rfl) (all_c (okg_X12_15 kw1338 dX12_readLoad_69) (all_c (ok_stk (s_iconst dX12_readLoad_72 (by decide))) (all_c (ok_stk (s_dup2 dX12_readLoad_73)) (all_c (ok_iald dX12_readLoad_74) (all_c (ok_stk (s_iconst dX12_readLoad_75 (by decide))) (all_c (ok_stk (s_iadd dX12_readLoad_76)) (all_c (ok_iast dX12_readLoad_77) (all_c (ok_stk (s_iconst dX12_readLoad_78 (by decide))) (all_c (ok_zret dX12_readLoad_79) all_n)))))))))))))))))))))))))))))))))))))))))))))))))) n (fun h => by first | rfl | cases h))
theorem dX12_readLovers_0 : decode cX12_readLovers 0 = .ok (.aload_n 0, 1) := by decide +kernel
theorem dX12_readLovers_1 : decode cX12_readLovers 1 = .ok (.iconst 3, 1) := by decide +kernel
theorem dX12_readLovers_2 : decode cX12_readLovers 2 = .ok (.bipush 8, 2) := by decide +kernel
theorem dX12_readLovers_4 : decode cX12_readLovers 4 = .ok (.invokevirtual 213, 3) := by decide +kernel
theorem dX12_readLovers_7 : decode cX12_readLovers 7 = .ok (.ifCond .eq 10, 3) := by decide +kernel
theorem dX12_readLovers_10 : decode cX12_readLovers 10 = .ok (.aload_n 0, 1) := by decide +kernel
theorem dX12_readLovers_11 : decode cX12_readLovers 11 = .ok (.invokevirtual 222, 3) := by decide +kernel
theorem dX12_readLovers_14 : decode cX12_readLovers 14 = .ok (.ifCond .ne 5, 3) := by decide +kernel
theorem dX12_readLovers_17 : decode cX12_readLovers 17 = .ok (.iconst 0, 1) := by decide +kernel
theorem dX12_readLovers_18 : decode cX12_readLovers 18 = .ok (.ireturn, 1) := by decide +kernel
theorem dX12_readLovers_19 : decode cX12_readLovers 19 = .ok (.aload_n 0, 1) := by decide +kernel
theorem dX12_readLovers_20 : decode cX12_readLovers 20 = .ok (.getfield 79, 3) := by decide +kernel
theorem dX12_readLovers_23 : decode cX12_readLovers 23 = .ok (.istore_n 1, 1) := by decide +kernel
theorem dX12_readLovers_24 : decode cX12_readLovers 24 = .ok (.aload_n 0, 1) := by decide +kernel
theorem dX12_readLovers_25 : decode cX12_readLovers 25 = .ok (.invokevirtual 82, 3) := by decide +kernel
theorem dX12_readLovers_28 : decode cX12_readLovers 28 = .ok (.aload_n 0, 1) := by decide +kernel
theorem dX12_readLovers_29 : decode cX12_readLovers 29 = .ok (.invokevirtual 222, 3) := by decide +kernel
theorem dX12_readLovers_32 : decode cX12_readLovers 32 = .ok (.ifCond .ne 5, 3) := by decide +kernel
theorem dX12_readLovers_35 : decode cX12_readLovers 35 = .ok (.iconst 0, 1) := by decide +kernel
theorem dX12_readLovers_36 : decode cX12_readLovers 36 = .ok (.ireturn, 1) := by decide +kernel
theorem dX12_readLovers_37 : decode cX12_readLovers 37 = .ok (.aload_n 0, 1) := by decide +kernel
theorem dX12_readLovers_38 : decode cX12_readLovers 38 = .ok (.getfield 79, 3) := by decide +kernel
theorem dX12_readLovers_41 : decode cX12_readLovers 41 = .ok (.iload_n 1, 1) := by decide +kernel
theorem dX12_readLovers_42 : decode cX12_readLovers 42 = .ok (.if_icmp .eq 22, 3) := by decide +kernel
theorem dX12_readLovers_45 : decode cX12_readLovers 45 = .ok (.aload_n 0, 1) := by decide +kernel
theorem dX12_readLovers_46 : decode cX12_readLovers 46 = .ok (.getfield 101, 3) := by decide +kernel
theorem dX12_readLovers_49 : decode cX12_readLovers 49 = .ok (.bipush 36, 2) := by decide +kernel
theorem dX12_readLovers_51 : decode cX12_readLovers 51 = .ok (.iload_n 1, 1) := by decide +kernel
theorem dX12_readLovers_52 : decode cX12_readLovers 52 = .ok (.iadd, 1) := by decide +kernel
theorem dX12_readLovers_53 : decode cX12_readLovers 53 = .ok (.iaload, 1) := by decide +kernel
theorem dX12_readLovers_54 : decode cX12_readLovers 54 = .ok (.aload_n 0, 1) := by decide +kernel
theorem dX12_readLovers_55 : decode cX12_readLovers 55 = .ok (.getfield 79, 3) := by decide +kernel
theorem dX12_readLovers_58 : decode cX12_readLovers 58 = .ok (.invokestatic 225, 3) := by decide +kernel
theorem dX12_readLovers_61 : decode cX12_readLovers 61 = .ok (.ifCond .eq 9, 3) := by decide +kernel
theorem dX12_readLovers_64 : decode cX12_readLovers 64 = .ok (.aload_n 0, 1) := by decide +kernel
theorem dX12_readLovers_65 : decode cX12_readLovers 65 = .ok (.iconst 3, 1) := by decide +kernel
theorem dX12_readLovers_66 : decode cX12_readLovers 66 = .ok (.invokevirtual 72, 3) := by decide +kernel
theorem dX12_readLovers_69 : decode cX12_readLovers 69 = .ok (.ireturn, 1) := by decide +kernel
theorem dX12_readLovers_70 : decode cX12_readLovers 70 = .ok (.aload_n 0, 1) := by decide +kernel
theorem dX12_readLovers_71 : decode cX12_readLovers 71 = .ok (.getfield 101, 3) := by decide +kernel
theorem dX12_readLovers_74 : decode cX12_readLovers 74 = .ok (.bipush 36, 2) := by decide +kernel
theorem dX12_readLovers_76 : decode cX12_readLovers 76 = .ok (.iload_n 1, 1) := by decide +kernel
theorem dX12_readLovers_77 : decode cX12_readLovers 77 = .ok (.iadd, 1) := by decide +kernel
theorem dX12_readLovers_78 : decode cX12_readLovers 78 = .ok (.dup2, 1) := by decide +kernel
theorem dX12_readLovers_79 : decode cX12_readLovers 79 = .ok (.iaload, 1) := by decide +kernel
theorem dX12_readLovers_80 : decode cX12_readLovers 80 = .ok (.iconst 1, 1) := by decide +kernel
theorem dX12_readLovers_81 : decode cX12_readLovers 81 = .ok (.aload_n 0, 1) := by decide +kernel
theorem dX12_readLovers_82 : decode cX12_readLovers 82 = .ok (.getfield 79, 3) := by decide +kernel
theorem dX12_readLovers_85 : decode cX12_readLovers 85 = .ok (.ishl, 1) := by decide +kernel
theorem dX12_readLovers_86 : decode cX12_readLovers 86 = .ok (.ior, 1) := by decide +kernel
theorem dX12_readLovers_87 : decode cX12_readLovers 87 = .ok (.iastore, 1) := by decide +kernel
theorem dX12_readLovers_88 : decode cX12_readLovers 88 = .ok (.aload_n 0, 1) := by decide +kernel
theorem dX12_readLovers_89 : decode cX12_readLovers 89 = .ok (.getfield 101, 3) := by decide +kernel
theorem dX12_readLovers_92 : decode cX12_readLovers 92 = .ok (.bipush 36, 2) := by decide +kernel
theorem dX12_readLovers_94 : decode cX12_readLovers 94 = .ok (.aload_n 0, 1) := by decide +kernel
theorem dX12_readLovers_95 : decode cX12_readLovers 95 = .ok (.getfield 79, 3) := by decide +kernel
theorem dX12_readLovers_98 : decode cX12_readLovers 98 = .ok (.iadd, 1) := by decide +kernel
theorem dX12_readLovers_99 : decode cX12_readLovers 99 = .ok (.dup2, 1) := by decide +kernel
theorem dX12_readLovers_100 : decode cX12_readLovers 100 = .ok (.iaload, 1) := by decide +kernel
theorem dX12_readLovers_101 : decode cX12_readLovers 101 = .ok (.iconst 1, 1) := by decide +kernel
theorem dX12_readLovers_102 : decode cX12_readLovers 102 = .ok (.iload_n 1, 1) := by decide +kernel
theorem dX12_readLovers_103 : decode cX12_readLovers 103 = .ok (.ishl, 1) := by decide +kernel
theorem dX12_readLovers_104 : decode cX12_readLovers 104 = .ok (.ior, 1) := by decide +kernel
theorem dX12_readLovers_105 : decode cX12_readLovers 105 = .ok (.iastore, 1) := by decide +kernel
theorem dX12_readLovers_106 : decode cX12_readLovers 106 = .ok (.aload_n 0, 1) := by decide +kernel
theorem dX12_readLovers_107 : decode cX12_readLovers 107 = .ok (.getfield 101, 3) := by decide +kernel
theorem dX12_readLovers_110 : decode cX12_readLovers 110 = .ok (.iconst 3, 1) := by decide +kernel
theorem dX12_readLovers_111 : decode cX12_readLovers 111 = .ok (.dup2, 1) := by decide +kernel
theorem dX12_readLovers_112 : decode cX12_readLovers 112 = .ok (.iaload, 1) := by decide +kernel
theorem dX12_readLovers_113 : decode cX12_readLovers 113 = .ok (.iconst 1, 1) := by decide +kernel
theorem dX12_readLovers_114 : decode cX12_readLovers 114 = .ok (.iadd, 1) := by decide +kernel
theorem dX12_readLovers_115 : decode cX12_readLovers 115 = .ok (.iastore, 1) := by decide +kernel
theorem dX12_readLovers_116 : decode cX12_readLovers 116 = .ok (.aload_n 0, 1) := by decide +kernel
theorem dX12_readLovers_117 : decode cX12_readLovers 117 = .ok (.invokevirtual 82, 3) := by decide +kernel
theorem dX12_readLovers_120 : decode cX12_readLovers 120 = .ok (.iconst 1, 1) := by decide +kernel
theorem dX12_readLovers_121 : decode cX12_readLovers 121 = .ok (.ireturn, 1) := by decide +kernel
def tX12_readLovers (kn : sKn) : List (Nat × sA) := [(0, a_aload 0 1), (1, a_stk (q_int 3) 2), (2, a_stk (q_int 8) 4), (4, a_callV false (fX12_readFirst kn) 13 3 7), (7, a_if kn b_eq 0 17 10), (10, a_aload 0 11), (11, a_callV false (fX12_isSignerTold kn) 13 1 14), (14, a_if kn b_ne 1 19 17), (17, a_stk (q_int 0) 18), (18, a_zret), (19, a_aload 0 20), (20, a_get 13 13 23), (23, a_istore 1 24), (24, a_aload 0 25), (25, a_callV true (fX12_go kn) 13 1 28), (28, a_aload 0 29), (29, a_callV false (fX12_isSignerTold kn) 13 1 32), (32, a_if kn b_ne 1 37 35), (35, a_stk (q_int 0) 36), (36, a_zret), (37, a_aload 0 38), (38, a_get 13 13 41), (41, a_iload 1 42), (42, a_icmp kn b_eq 0 64 45), (45, a_aload 0 46), (46, a_get 13 15 49), (49, a_stk (q_int 36) 51), (51, a_iload 1 52), (52, a_stk q_iadd 53), (53, a_iald 54), (54, a_aload 0 55), (55, a_get 13 13 58), (58, a_callS false (fX12_has kn) 2 61), (61, a_if kn b_eq 0 70 64), (64, a_aload 0 65), (65, a_stk (q_int 3) 66), (66, a_callV false (fX12_bad kn) 13 2 69), (69, a_zret), (70, a_aload 0 71), (71, a_get 13 15 74), (74, a_stk (q_int 36) 76), (76, a_iload 1 77), (77, a_stk q_iadd 78), (78, a_stk q_dup2 79), (79, a_iald 80), (80, a_stk (q_int 1) 81), (81, a_aload 0 82), (82, a_get 13 13 85), (85, a_stk q_ishl 86), (86, a_stk q_ior 87), (87, a_iast 88), (88, a_aload 0 89), (89, a_get 13 15 92), (92, a_stk (q_int 36) 94), (94, a_aload 0 95), (95, a_get 13 13 98), (98, a_stk q_iadd 99), (99, a_stk q_dup2 100), (100, a_iald 101), (101, a_stk (q_int 1) 102), (102, a_iload 1 103), (103, a_stk q_ishl 104), (104, a_stk q_ior 105), (105, a_iast 106), (106, a_aload 0 107), (107, a_get 13 15 110), (110, a_stk (q_int 3) 111), (111, a_stk q_dup2 112), (112, a_iald 113), (113, a_stk (q_int 1) 114), (114, a_stk q_iadd 115), (115, a_iast 116), (116, a_aload 0 117), (117, a_callV true (fX12_go kn) 13 1 120), (120, a_stk (q_int 1) 121), (121, a_zret)]
def fX12_readLovers (kn : sKn) : List Value → sW → Option sR := fW (tX12_readLovers kn) 2
set_option maxRecDepth 100000 in
set_option maxHeartbeats 4000000 in
theorem mX12_readLovers (kn : sKn) : mM kn yX12_readLovers (Cond.code yX12_readLovers cX12_readLovers 2 (some .boolean) :: wsL_law) 5 false (fX12_readLovers kn) := mM_W (fun n => mM_of (own := RX12) (ini := false) rfl (by decide +kernel) (by decide +kernel) (all_c (ok_aload_n dX12_readLovers_0 rfl) (all_c (ok_stk (s_iconst dX12_readLovers_1 (by decide))) (all_c (ok_stk (s_bipush dX12_readLovers_2 (by decide))) (all_c (okc_X12_readFirst (by decide) kw1347 dX12_readLovers_4) (all_c (ok_if_eq dX12_readLovers_7 (by decide)) (all_c (ok_aload_n dX12_readLovers_10 rfl) (all_c (okc_X12_isSignerTold (by decide) kw1343 dX12_readLovers_11) (all_c (ok_if_ne dX12_readLovers_14 (by decide)) (all_c (ok_stk (s_iconst dX12_readLovers_17 (by decide))) (all_c (ok_zret dX12_readLovers_18) (all_c (ok_aload_n dX12_readLovers_19 rfl) (all_c (okg_X12_13 kw1244 dX12_readLovers_20) (all_c (ok_istore_n dX12_readLovers_23 rfl (by decide)) (all_c (ok_aload_n dX12_readLovers_24 rfl) (all_c (okc_X12_go (by decide) kw1179 dX12_readLovers_25) (all_c (ok_aload_n dX12_readLovers_28 rfl) (all_c (okc_X12_isSignerTold (by decide) kw1343 dX12_readLovers_29) (all_c (ok_if_ne dX12_readLovers_32 (by decide)) (all_c (ok_stk (s_iconst dX12_readLovers_35 (by decide))) (all_c (ok_zret dX12_readLovers_36) (all_c (ok_aload_n dX12_readLovers_37 rfl) (all_c (okg_X12_13 kw1244 dX12_readLovers_38) (all_c (ok_iload_n dX12_readLovers_41 rfl) (all_c (ok_icmp_eq dX12_readLovers_42 (by decide)) (all_c (ok_aload_n dX12_readLovers_45 rfl) (all_c (okg_X12_15 kw1338 dX12_readLovers_46) (all_c (ok_stk (s_bipush dX12_readLovers_49 (by decide))) (all_c (ok_iload_n dX12_readLovers_51 rfl) (all_c (ok_stk (s_iadd dX12_readLovers_52)) (all_c (ok_iald dX12_readLovers_53) (all_c (ok_aload_n dX12_readLovers_54 rfl) (all_c (okg_X12_13 kw1244 dX12_readLovers_55) (all_c (okc_X12_has (by decide) kw1077 dX12_readLovers_58) (all_c (ok_if_eq dX12_readLovers_61 (by decide)) (all_c (ok_aload_n dX12_readLovers_64 rfl) (all_c (ok_stk (s_iconst dX12_readLovers_65 (by decide))) (all_c (okc_X12_bad (by decide) kw1243 dX12_readLovers_66) (all_c (ok_zret dX12_readLovers_69) (all_c (ok_aload_n dX12_readLovers_70 rfl) (all_c (okg_X12_15 kw1338 dX12_readLovers_71) (all_c (ok_stk (s_bipush dX12_readLovers_74 (by decide))) (all_c (ok_iload_n dX12_readLovers_76 rfl) (all_c (ok_stk (s_iadd dX12_readLovers_77)) (all_c (ok_stk (s_dup2 dX12_readLovers_78)) (all_c (ok_iald dX12_readLovers_79) (all_c (ok_stk (s_iconst dX12_readLovers_80 (by decide))) (all_c (ok_aload_n dX12_readLovers_81 rfl) (all_c (okg_X12_13 kw1244 dX12_readLovers_82) (all_c (ok_stk (s_ishl dX12_readLovers_85)) (all_c (ok_stk (s_ior dX12_readLovers_86)) (all_c (ok_iast dX12_readLovers_87) (all_c (ok_aload_n dX12_readLovers_88 rfl) (all_c (okg_X12_15 kw1338 dX12_readLovers_89) (all_c (ok_stk (s_bipush dX12_readLovers_92 (by decide))) (all_c (ok_aload_n dX12_readLovers_94 rfl) (all_c (okg_X12_13 kw1244 dX12_readLovers_95) (all_c (ok_stk (s_iadd dX12_readLovers_98)) (all_c (ok_stk (s_dup2 dX12_readLovers_99)) (all_c (ok_iald dX12_readLovers_100) (all_c (ok_stk (s_iconst dX12_readLovers_101 (by decide))) (all_c (ok_iload_n dX12_readLovers_102 rfl) (all_c (ok_stk (s_ishl dX12_readLovers_103)) (all_c (ok_stk (s_ior dX12_readLovers_104)) (all_c (ok_iast dX12_readLovers_105) (all_c (ok_aload_n dX12_readLovers_106 rfl) (all_c (okg_X12_15 kw1338 dX12_readLovers_107) (all_c (ok_stk (s_iconst dX12_readLovers_110 (by decide))) (all_c (ok_stk (s_dup2 dX12_readLovers_111)) (all_c (ok_iald dX12_readLovers_112) (all_c (ok_stk (s_iconst dX12_readLovers_113 (by decide))) (all_c (ok_stk (s_iadd dX12_readLovers_114)) (all_c (ok_iast dX12_readLovers_115) (all_c (ok_aload_n dX12_readLovers_116 rfl) (all_c (okc_X12_go (by decide) kw1179 dX12_readLovers_117) (all_c (ok_stk (s_iconst dX12_readLovers_120 (by decide))) (all_c (ok_zret dX12_readLovers_121) all_n)))))))))))))))))))))))))))))))))))))))))))))))))))))))))))))))))))))))))))) n (fun h => by first | rfl | cases h))
theorem dX12_readPlank_0 : decode cX12_readPlank 0 = .ok (.aload_n 0, 1) := by decide +kernel
theorem dX12_readPlank_1 : decode cX12_readPlank 1 = .ok (.invokevirtual 82, 3) := by decide +kernel
theorem dX12_readPlank_4 : decode cX12_readPlank 4 = .ok (.aload_n 0, 1) := by decide +kernel
theorem dX12_readPlank_5 : decode cX12_readPlank 5 = .ok (.invokevirtual 222, 3) := by decide +kernel
theorem dX12_readPlank_8 : decode cX12_readPlank 8 = .ok (.ifCond .ne 5, 3) := by decide +kernel
theorem dX12_readPlank_11 : decode cX12_readPlank 11 = .ok (.iconst 0, 1) := by decide +kernel
theorem dX12_readPlank_12 : decode cX12_readPlank 12 = .ok (.ireturn, 1) := by decide +kernel
theorem dX12_readPlank_13 : decode cX12_readPlank 13 = .ok (.aload_n 0, 1) := by decide +kernel
theorem dX12_readPlank_14 : decode cX12_readPlank 14 = .ok (.getfield 79, 3) := by decide +kernel
theorem dX12_readPlank_17 : decode cX12_readPlank 17 = .ok (.istore_n 1, 1) := by decide +kernel
theorem dX12_readPlank_18 : decode cX12_readPlank 18 = .ok (.iconst 0, 1) := by decide +kernel
theorem dX12_readPlank_19 : decode cX12_readPlank 19 = .ok (.istore_n 2, 1) := by decide +kernel
theorem dX12_readPlank_20 : decode cX12_readPlank 20 = .ok (.iconst 0, 1) := by decide +kernel
theorem dX12_readPlank_21 : decode cX12_readPlank 21 = .ok (.istore_n 3, 1) := by decide +kernel
theorem dX12_readPlank_22 : decode cX12_readPlank 22 = .ok (.iload_n 3, 1) := by decide +kernel
theorem dX12_readPlank_23 : decode cX12_readPlank 23 = .ok (.bipush 36, 2) := by decide +kernel
theorem dX12_readPlank_25 : decode cX12_readPlank 25 = .ok (.if_icmp .ge 25, 3) := by decide +kernel
theorem dX12_readPlank_28 : decode cX12_readPlank 28 = .ok (.aload_n 0, 1) := by decide +kernel
theorem dX12_readPlank_29 : decode cX12_readPlank 29 = .ok (.getfield 101, 3) := by decide +kernel
theorem dX12_readPlank_32 : decode cX12_readPlank 32 = .ok (.bipush 46, 2) := by decide +kernel
theorem dX12_readPlank_34 : decode cX12_readPlank 34 = .ok (.iload_n 3, 1) := by decide +kernel
theorem dX12_readPlank_35 : decode cX12_readPlank 35 = .ok (.iadd, 1) := by decide +kernel
theorem dX12_readPlank_36 : decode cX12_readPlank 36 = .ok (.iaload, 1) := by decide +kernel
theorem dX12_readPlank_37 : decode cX12_readPlank 37 = .ok (.iload_n 1, 1) := by decide +kernel
theorem dX12_readPlank_38 : decode cX12_readPlank 38 = .ok (.if_icmp .ne 6, 3) := by decide +kernel
theorem dX12_readPlank_41 : decode cX12_readPlank 41 = .ok (.iinc 2 1, 3) := by decide +kernel
theorem dX12_readPlank_44 : decode cX12_readPlank 44 = .ok (.iinc 3 1, 3) := by decide +kernel
theorem dX12_readPlank_47 : decode cX12_readPlank 47 = .ok (.goto (-25), 3) := by decide +kernel
theorem dX12_readPlank_50 : decode cX12_readPlank 50 = .ok (.iload_n 2, 1) := by decide +kernel
theorem dX12_readPlank_51 : decode cX12_readPlank 51 = .ok (.bipush 6, 2) := by decide +kernel
theorem dX12_readPlank_53 : decode cX12_readPlank 53 = .ok (.if_icmp .ne 9, 3) := by decide +kernel
theorem dX12_readPlank_56 : decode cX12_readPlank 56 = .ok (.aload_n 0, 1) := by decide +kernel
theorem dX12_readPlank_57 : decode cX12_readPlank 57 = .ok (.iconst 3, 1) := by decide +kernel
theorem dX12_readPlank_58 : decode cX12_readPlank 58 = .ok (.invokevirtual 72, 3) := by decide +kernel
theorem dX12_readPlank_61 : decode cX12_readPlank 61 = .ok (.ireturn, 1) := by decide +kernel
theorem dX12_readPlank_62 : decode cX12_readPlank 62 = .ok (.aload_n 0, 1) := by decide +kernel
theorem dX12_readPlank_63 : decode cX12_readPlank 63 = .ok (.invokevirtual 82, 3) := by decide +kernel
theorem dX12_readPlank_66 : decode cX12_readPlank 66 = .ok (.aload_n 0, 1) := by decide +kernel
theorem dX12_readPlank_67 : decode cX12_readPlank 67 = .ok (.iconst 0, 1) := by decide +kernel
theorem dX12_readPlank_68 : decode cX12_readPlank 68 = .ok (.aload_n 0, 1) := by decide +kernel
theorem dX12_readPlank_69 : decode cX12_readPlank 69 = .ok (.getfield 101, 3) := by decide +kernel
theorem dX12_readPlank_72 : decode cX12_readPlank 72 = .ok (.iconst 0, 1) := by decide +kernel
theorem dX12_readPlank_73 : decode cX12_readPlank 73 = .ok (.iaload, 1) := by decide +kernel
theorem dX12_readPlank_74 : decode cX12_readPlank 74 = .ok (.iconst 1, 1) := by decide +kernel
theorem dX12_readPlank_75 : decode cX12_readPlank 75 = .ok (.isub, 1) := by decide +kernel
theorem dX12_readPlank_76 : decode cX12_readPlank 76 = .ok (.invokevirtual 205, 3) := by decide +kernel
theorem dX12_readPlank_79 : decode cX12_readPlank 79 = .ok (.ifCond .ne 5, 3) := by decide +kernel
theorem dX12_readPlank_82 : decode cX12_readPlank 82 = .ok (.iconst 0, 1) := by decide +kernel
theorem dX12_readPlank_83 : decode cX12_readPlank 83 = .ok (.ireturn, 1) := by decide +kernel
theorem dX12_readPlank_84 : decode cX12_readPlank 84 = .ok (.aload_n 0, 1) := by decide +kernel
theorem dX12_readPlank_85 : decode cX12_readPlank 85 = .ok (.getfield 79, 3) := by decide +kernel
theorem dX12_readPlank_88 : decode cX12_readPlank 88 = .ok (.istore_n 3, 1) := by decide +kernel
theorem dX12_readPlank_89 : decode cX12_readPlank 89 = .ok (.aload_n 0, 1) := by decide +kernel
theorem dX12_readPlank_90 : decode cX12_readPlank 90 = .ok (.getfield 30, 3) := by decide +kernel
theorem dX12_readPlank_93 : decode cX12_readPlank 93 = .ok (.iconst 3, 1) := by decide +kernel
theorem dX12_readPlank_94 : decode cX12_readPlank 94 = .ok (.if_icmp .eq 9, 3) := by decide +kernel
theorem dX12_readPlank_97 : decode cX12_readPlank 97 = .ok (.aload_n 0, 1) := by decide +kernel
theorem dX12_readPlank_98 : decode cX12_readPlank 98 = .ok (.iconst 1, 1) := by decide +kernel
theorem dX12_readPlank_99 : decode cX12_readPlank 99 = .ok (.invokevirtual 72, 3) := by decide +kernel
theorem dX12_readPlank_102 : decode cX12_readPlank 102 = .ok (.ireturn, 1) := by decide +kernel
theorem dX12_readPlank_103 : decode cX12_readPlank 103 = .ok (.aload_n 0, 1) := by decide +kernel
theorem dX12_readPlank_104 : decode cX12_readPlank 104 = .ok (.getfield 47, 3) := by decide +kernel
theorem dX12_readPlank_107 : decode cX12_readPlank 107 = .ok (.iconst 0, 1) := by decide +kernel
theorem dX12_readPlank_108 : decode cX12_readPlank 108 = .ok (.iconst 2, 1) := by decide +kernel
theorem dX12_readPlank_109 : decode cX12_readPlank 109 = .ok (.invokestatic 75, 3) := by decide +kernel
theorem dX12_readPlank_112 : decode cX12_readPlank 112 = .ok (.ifCond .ne 9, 3) := by decide +kernel
theorem dX12_readPlank_115 : decode cX12_readPlank 115 = .ok (.aload_n 0, 1) := by decide +kernel
theorem dX12_readPlank_116 : decode cX12_readPlank 116 = .ok (.iconst 2, 1) := by decide +kernel
theorem dX12_readPlank_117 : decode cX12_readPlank 117 = .ok (.invokevirtual 72, 3) := by decide +kernel
theorem dX12_readPlank_120 : decode cX12_readPlank 120 = .ok (.ireturn, 1) := by decide +kernel
theorem dX12_readPlank_121 : decode cX12_readPlank 121 = .ok (.aload_n 0, 1) := by decide +kernel
theorem dX12_readPlank_122 : decode cX12_readPlank 122 = .ok (.getfield 101, 3) := by decide +kernel
theorem dX12_readPlank_125 : decode cX12_readPlank 125 = .ok (.bipush 46, 2) := by decide +kernel
theorem dX12_readPlank_127 : decode cX12_readPlank 127 = .ok (.iconst 3, 1) := by decide +kernel
theorem dX12_readPlank_128 : decode cX12_readPlank 128 = .ok (.iload_n 3, 1) := by decide +kernel
theorem dX12_readPlank_129 : decode cX12_readPlank 129 = .ok (.imul, 1) := by decide +kernel
theorem dX12_readPlank_130 : decode cX12_readPlank 130 = .ok (.iadd, 1) := by decide +kernel
theorem dX12_readPlank_131 : decode cX12_readPlank 131 = .ok (.aload_n 0, 1) := by decide +kernel
theorem dX12_readPlank_132 : decode cX12_readPlank 132 = .ok (.getfield 47, 3) := by decide +kernel
theorem dX12_readPlank_135 : decode cX12_readPlank 135 = .ok (.iadd, 1) := by decide +kernel
theorem dX12_readPlank_136 : decode cX12_readPlank 136 = .ok (.iaload, 1) := by decide +kernel
theorem dX12_readPlank_137 : decode cX12_readPlank 137 = .ok (.iconst (-1), 1) := by decide +kernel
theorem dX12_readPlank_138 : decode cX12_readPlank 138 = .ok (.if_icmp .eq 9, 3) := by decide +kernel
theorem dX12_readPlank_141 : decode cX12_readPlank 141 = .ok (.aload_n 0, 1) := by decide +kernel
theorem dX12_readPlank_142 : decode cX12_readPlank 142 = .ok (.iconst 3, 1) := by decide +kernel
theorem dX12_readPlank_143 : decode cX12_readPlank 143 = .ok (.invokevirtual 72, 3) := by decide +kernel
theorem dX12_readPlank_146 : decode cX12_readPlank 146 = .ok (.ireturn, 1) := by decide +kernel
theorem dX12_readPlank_147 : decode cX12_readPlank 147 = .ok (.aload_n 0, 1) := by decide +kernel
theorem dX12_readPlank_148 : decode cX12_readPlank 148 = .ok (.getfield 101, 3) := by decide +kernel
theorem dX12_readPlank_151 : decode cX12_readPlank 151 = .ok (.bipush 46, 2) := by decide +kernel
theorem dX12_readPlank_153 : decode cX12_readPlank 153 = .ok (.iconst 3, 1) := by decide +kernel
theorem dX12_readPlank_154 : decode cX12_readPlank 154 = .ok (.iload_n 3, 1) := by decide +kernel
theorem dX12_readPlank_155 : decode cX12_readPlank 155 = .ok (.imul, 1) := by decide +kernel
theorem dX12_readPlank_156 : decode cX12_readPlank 156 = .ok (.iadd, 1) := by decide +kernel
theorem dX12_readPlank_157 : decode cX12_readPlank 157 = .ok (.aload_n 0, 1) := by decide +kernel
theorem dX12_readPlank_158 : decode cX12_readPlank 158 = .ok (.getfield 47, 3) := by decide +kernel
theorem dX12_readPlank_161 : decode cX12_readPlank 161 = .ok (.iadd, 1) := by decide +kernel
theorem dX12_readPlank_162 : decode cX12_readPlank 162 = .ok (.iload_n 1, 1) := by decide +kernel
theorem dX12_readPlank_163 : decode cX12_readPlank 163 = .ok (.iastore, 1) := by decide +kernel
theorem dX12_readPlank_164 : decode cX12_readPlank 164 = .ok (.aload_n 0, 1) := by decide +kernel
theorem dX12_readPlank_165 : decode cX12_readPlank 165 = .ok (.iconst 1, 1) := by decide +kernel
theorem dX12_readPlank_166 : decode cX12_readPlank 166 = .ok (.putfield 202, 3) := by decide +kernel
theorem dX12_readPlank_169 : decode cX12_readPlank 169 = .ok (.aload_n 0, 1) := by decide +kernel
theorem dX12_readPlank_170 : decode cX12_readPlank 170 = .ok (.invokevirtual 82, 3) := by decide +kernel
theorem dX12_readPlank_173 : decode cX12_readPlank 173 = .ok (.iconst 1, 1) := by decide +kernel
theorem dX12_readPlank_174 : decode cX12_readPlank 174 = .ok (.ireturn, 1) := by decide +kernel
def tX12_readPlank (kn : sKn) : List (Nat × sA) := [(0, a_aload 0 1), (1, a_callV true (fX12_go kn) 13 1 4), (4, a_aload 0 5), (5, a_callV false (fX12_isSignerTold kn) 13 1 8), (8, a_if kn b_ne 1 13 11), (11, a_stk (q_int 0) 12), (12, a_zret), (13, a_aload 0 14), (14, a_get 13 13 17), (17, a_istore 1 18), (18, a_stk (q_int 0) 19), (19, a_istore 2 20), (20, a_stk (q_int 0) 21), (21, a_istore 3 22), (22, a_iload 3 23), (23, a_stk (q_int 36) 25), (25, a_icmp kn b_ge 3 50 28), (28, a_aload 0 29), (29, a_get 13 15 32), (32, a_stk (q_int 46) 34), (34, a_iload 3 35), (35, a_stk q_iadd 36), (36, a_iald 37), (37, a_iload 1 38), (38, a_icmp kn b_ne 1 44 41), (41, a_iinc 2 1 44), (44, a_iinc 3 1 47), (47, a_goto 22), (50, a_iload 2 51), (51, a_stk (q_int 6) 53), (53, a_icmp kn b_ne 1 62 56), (56, a_aload 0 57), (57, a_stk (q_int 3) 58), (58, a_callV false (fX12_bad kn) 13 2 61), (61, a_zret), (62, a_aload 0 63), (63, a_callV true (fX12_go kn) 13 1 66), (66, a_aload 0 67), (67, a_stk (q_int 0) 68), (68, a_aload 0 69), (69, a_get 13 15 72), (72, a_stk (q_int 0) 73), (73, a_iald 74), (74, a_stk (q_int 1) 75), (75, a_stk q_isub 76), (76, a_callV false (fX12_readNumber kn) 13 3 79), (79, a_if kn b_ne 1 84 82), (82, a_stk (q_int 0) 83), (83, a_zret), (84, a_aload 0 85), (85, a_get 13 13 88), (88, a_istore 3 89), (89, a_aload 0 90), (90, a_get 13 7 93), (93, a_stk (q_int 3) 94), (94, a_icmp kn b_eq 0 103 97), (97, a_aload 0 98), (98, a_stk (q_int 1) 99), (99, a_callV false (fX12_bad kn) 13 2 102), (102, a_zret), (103, a_aload 0 104), (104, a_get 13 8 107), (107, a_stk (q_int 0) 108), (108, a_stk (q_int 2) 109), (109, a_callS false (fX12_isIn kn) 3 112), (112, a_if kn b_ne 1 121 115), (115, a_aload 0 116), (116, a_stk (q_int 2) 117), (117, a_callV false (fX12_bad kn) 13 2 120), (120, a_zret), (121, a_aload 0 122), (122, a_get 13 15 125), (125, a_stk (q_int 46) 127), (127, a_stk (q_int 3) 128), (128, a_iload 3 129), (129, a_stk q_imul 130), (130, a_stk q_iadd 131), (131, a_aload 0 132), (132, a_get 13 8 135), (135, a_stk q_iadd 136), (136, a_iald 137), (137, a_stk (q_int (-1)) 138), (138, a_icmp kn b_eq 0 147 141), (141, a_aload 0 142), (142, a_stk (q_int 3) 143), (143, a_callV false (fX12_bad kn) 13 2 146), (146, a_zret), (147, a_aload 0 148), (148, a_get 13 15 151), (151, a_stk (q_int 46) 153), (153, a_stk (q_int 3) 154), (154, a_iload 3 155), (155, a_stk q_imul 156), (156, a_stk q_iadd 157), (157, a_aload 0 158), (158, a_get 13 8 161), (161, a_stk q_iadd 162), (162, a_iload 1 163), (163, a_iast 164), (164, a_aload 0 165), (165, a_stk (q_int 1) 166), (166, a_put 13 26 ckZ 169), (169, a_aload 0 170), (170, a_callV true (fX12_go kn) 13 1 173), (173, a_stk (q_int 1) 174), (174, a_zret)]
def fX12_readPlank (kn : sKn) : List Value → sW → Option sR := fW (tX12_readPlank kn) 4
set_option maxRecDepth 100000 in
set_option maxHeartbeats 4000000 in
theorem mX12_readPlank (kn : sKn) : mM kn yX12_readPlank (Cond.code yX12_readPlank cX12_readPlank 4 (some .boolean) :: wsL_law) 5 false (fX12_readPlank kn) := mM_W (fun n => mM_of (own := RX12) (ini := false) rfl (by decide +kernel) (by decide +kernel) (all_c (ok_aload_n dX12_readPlank_0 rfl) (all_c (okc_X12_go (by decide) kw1179 dX12_readPlank_1) (all_c (ok_aload_n dX12_readPlank_4 rfl) (all_c (okc_X12_isSignerTold (by decide) kw1343 dX12_readPlank_5) (all_c (ok_if_ne dX12_readPlank_8 (by decide)) (all_c (ok_stk (s_iconst dX12_readPlank_11 (by decide))) (all_c (ok_zret dX12_readPlank_12) (all_c (ok_aload_n dX12_readPlank_13 rfl) (all_c (okg_X12_13 kw1244 dX12_readPlank_14) (all_c (ok_istore_n dX12_readPlank_17 rfl (by decide)) (all_c (ok_stk (s_iconst dX12_readPlank_18 (by decide))) (all_c (ok_istore_n dX12_readPlank_19 rfl (by decide)) (all_c (ok_stk (s_iconst dX12_readPlank_20 (by decide))) (all_c (ok_istore_n dX12_readPlank_21 rfl (by decide)) (all_c (ok_iload_n dX12_readPlank_22 rfl) (all_c (ok_stk (s_bipush dX12_readPlank_23 (by decide))) (all_c (ok_icmp_ge dX12_readPlank_25 (by decide)) (all_c (ok_aload_n dX12_readPlank_28 rfl) (all_c (okg_X12_15 kw1338 dX12_readPlank_29) (all_c (ok_stk (s_bipush dX12_readPlank_32 (by decide))) (all_c (ok_iload_n dX12_readPlank_34 rfl) (all_c (ok_stk (s_iadd dX12_readPlank_35)) (all_c (ok_iald dX12_readPlank_36) (all_c (ok_iload_n dX12_readPlank_37 rfl) (all_c (ok_icmp_ne dX12_readPlank_38 (by decide)) (all_c (ok_iinc dX12_readPlank_41 (by decide) (by decide)) (all_c (ok_iinc dX12_readPlank_44 (by decide) (by decide)) (all_c (ok_goto dX12_readPlank_47 (by decide)) (all_c (ok_iload_n dX12_readPlank_50 rfl) (all_c (ok_stk (s_bipush dX12_readPlank_51 (by decide))) (all_c (ok_icmp_ne dX12_readPlank_53 (by decide)) (all_c (ok_aload_n dX12_readPlank_56 rfl) (all_c (ok_stk (s_iconst dX12_readPlank_57 (by decide))) (all_c (okc_X12_bad (by decide) kw1243 dX12_readPlank_58) (all_c (ok_zret dX12_readPlank_61) (all_c (ok_aload_n dX12_readPlank_62 rfl) (all_c (okc_X12_go (by decide) kw1179 dX12_readPlank_63) (all_c (ok_aload_n dX12_readPlank_66 rfl) (all_c (ok_stk (s_iconst dX12_readPlank_67 (by decide))) (all_c (ok_aload_n dX12_readPlank_68 rfl) (all_c (okg_X12_15 kw1338 dX12_readPlank_69) (all_c (ok_stk (s_iconst dX12_readPlank_72 (by decide))) (all_c (ok_iald dX12_readPlank_73) (all_c (ok_stk (s_iconst dX12_readPlank_74 (by decide))) (all_c (ok_stk (s_isub dX12_readPlank_75)) (all_c (okc_X12_readNumber (by decide) kw1248 dX12_readPlank_76) (all_c (ok_if_ne dX12_readPlank_79 (by decide)) (all_c (ok_stk (s_iconst dX12_readPlank_82 (by decide))) (all_c (ok_zret dX12_readPlank_83) (all_c (ok_aload_n dX12_readPlank_84 rfl) (all_c (okg_X12_13 kw1244 dX12_readPlank_85) (all_c (ok_istore_n dX12_readPlank_88 rfl (by decide)) (all_c (ok_aload_n dX12_readPlank_89 rfl) (all_c (okg_X12_7 kw1148 dX12_readPlank_90) (all_c (ok_stk (s_iconst dX12_readPlank_93 (by decide))) (all_c (ok_icmp_eq dX12_readPlank_94 (by decide)) (all_c (ok_aload_n dX12_readPlank_97 rfl) (all_c (ok_stk (s_iconst dX12_readPlank_98 (by decide))) (all_c (okc_X12_bad (by decide) kw1243 dX12_readPlank_99) (all_c (ok_zret dX12_readPlank_102) (all_c (ok_aload_n dX12_readPlank_103 rfl) (all_c (okg_X12_8 kw1164 dX12_readPlank_104) (all_c (ok_stk (s_iconst dX12_readPlank_107 (by decide))) (all_c (ok_stk (s_iconst dX12_readPlank_108 (by decide))) (all_c (okc_X12_isIn (by decide) kw1126 dX12_readPlank_109) (all_c (ok_if_ne dX12_readPlank_112 (by decide)) (all_c (ok_aload_n dX12_readPlank_115 rfl) (all_c (ok_stk (s_iconst dX12_readPlank_116 (by decide))) (all_c (okc_X12_bad (by decide) kw1243 dX12_readPlank_117) (all_c (ok_zret dX12_readPlank_120) (all_c (ok_aload_n dX12_readPlank_121 rfl) (all_c (okg_X12_15 kw1338 dX12_readPlank_122) (all_c (ok_stk (s_bipush dX12_readPlank_125 (by decide))) (all_c (ok_stk (s_iconst dX12_readPlank_127 (by decide))) (all_c (ok_iload_n dX12_readPlank_128 rfl) (all_c (ok_stk (s_imul dX12_readPlank_129)) (all_c (ok_stk (s_iadd dX12_readPlank_130)) (all_c (ok_aload_n dX12_readPlank_131 rfl) (all_c (okg_X12_8 kw1164 dX12_readPlank_132) (all_c (ok_stk (s_iadd dX12_readPlank_135)) (all_c (ok_iald dX12_readPlank_136) (all_c (ok_stk (s_iconst dX12_readPlank_137 (by decide))) (all_c (ok_icmp_eq dX12_readPlank_138 (by decide)) (all_c (ok_aload_n dX12_readPlank_141 rfl) (all_c (ok_stk (s_iconst dX12_readPlank_142 (by decide))) (all_c (okc_X12_bad (by decide) kw1243 dX12_readPlank_143) (all_c (ok_zret dX12_readPlank_146) (all_c (ok_aload_n dX12_readPlank_147 rfl) (all_c (okg_X12_15 kw1338 dX12_readPlank_148) (all_c (ok_stk (s_bipush dX12_readPlank_151 (by decide))) (all_c (ok_stk (s_iconst dX12_readPlank_153 (by decide))) (all_c (ok_iload_n dX12_readPlank_154 rfl) (all_c (ok_stk (s_imul dX12_readPlank_155)) (all_c (ok_stk (s_iadd dX12_readPlank_156)) (all_c (ok_aload_n dX12_readPlank_157 rfl) (all_c (okg_X12_8 kw1164 dX12_readPlank_158) (all_c (ok_stk (s_iadd dX12_readPlank_161)) (all_c (ok_iload_n dX12_readPlank_162 rfl) (all_c (ok_iast dX12_readPlank_163) (all_c (ok_aload_n dX12_readPlank_164 rfl) (all_c (ok_stk (s_iconst dX12_readPlank_165 (by decide))) (all_c (okp_X12_26 kw1356 dX12_readPlank_166) (all_c (ok_aload_n dX12_readPlank_169 rfl) (all_c (okc_X12_go (by decide) kw1179 dX12_readPlank_170) (all_c (ok_stk (s_iconst dX12_readPlank_173 (by decide))) (all_c (ok_zret dX12_readPlank_174) all_n)))))))))))))))))))))))))))))))))))))))))))))))))))))))))))))))))))))))))))))))))))))))))))))))))))))))))) n (fun h => by first | rfl | cases h))
theorem dX12_readRows_0 : decode cX12_readRows 0 = .ok (.aload_n 0, 1) := by decide +kernel
theorem dX12_readRows_1 : decode cX12_readRows 1 = .ok (.getfield 198, 3) := by decide +kernel
theorem dX12_readRows_4 : decode cX12_readRows 4 = .ok (.ifCond .ne 10, 3) := by decide +kernel
theorem dX12_readRows_7 : decode cX12_readRows 7 = .ok (.aload_n 0, 1) := by decide +kernel
theorem dX12_readRows_8 : decode cX12_readRows 8 = .ok (.getfield 202, 3) := by decide +kernel
theorem dX12_readRows_11 : decode cX12_readRows 11 = .ok (.ifCond .eq 9, 3) := by decide +kernel
theorem dX12_readRows_14 : decode cX12_readRows 14 = .ok (.aload_n 0, 1) := by decide +kernel
theorem dX12_readRows_15 : decode cX12_readRows 15 = .ok (.iconst 3, 1) := by decide +kernel
theorem dX12_readRows_16 : decode cX12_readRows 16 = .ok (.invokevirtual 72, 3) := by decide +kernel
theorem dX12_readRows_19 : decode cX12_readRows 19 = .ok (.ireturn, 1) := by decide +kernel
theorem dX12_readRows_20 : decode cX12_readRows 20 = .ok (.aload_n 0, 1) := by decide +kernel
theorem dX12_readRows_21 : decode cX12_readRows 21 = .ok (.iconst 1, 1) := by decide +kernel
theorem dX12_readRows_22 : decode cX12_readRows 22 = .ok (.putfield 198, 3) := by decide +kernel
theorem dX12_readRows_25 : decode cX12_readRows 25 = .ok (.aload_n 0, 1) := by decide +kernel
theorem dX12_readRows_26 : decode cX12_readRows 26 = .ok (.invokevirtual 82, 3) := by decide +kernel
theorem dX12_readRows_29 : decode cX12_readRows 29 = .ok (.aload_n 0, 1) := by decide +kernel
theorem dX12_readRows_30 : decode cX12_readRows 30 = .ok (.iconst 0, 1) := by decide +kernel
theorem dX12_readRows_31 : decode cX12_readRows 31 = .ok (.aload_n 0, 1) := by decide +kernel
theorem dX12_readRows_32 : decode cX12_readRows 32 = .ok (.iconst 1, 1) := by decide +kernel
theorem dX12_readRows_33 : decode cX12_readRows 33 = .ok (.bipush 12, 2) := by decide +kernel
theorem dX12_readRows_35 : decode cX12_readRows 35 = .ok (.invokevirtual 205, 3) := by decide +kernel
theorem dX12_readRows_38 : decode cX12_readRows 38 = .ok (.invokevirtual 209, 3) := by decide +kernel
theorem dX12_readRows_41 : decode cX12_readRows 41 = .ok (.ireturn, 1) := by decide +kernel
def tX12_readRows (kn : sKn) : List (Nat × sA) := [(0, a_aload 0 1), (1, a_get 13 24 4), (4, a_if kn b_ne 1 14 7), (7, a_aload 0 8), (8, a_get 13 26 11), (11, a_if kn b_eq 0 20 14), (14, a_aload 0 15), (15, a_stk (q_int 3) 16), (16, a_callV false (fX12_bad kn) 13 2 19), (19, a_zret), (20, a_aload 0 21), (21, a_stk (q_int 1) 22), (22, a_put 13 24 ckZ 25), (25, a_aload 0 26), (26, a_callV true (fX12_go kn) 13 1 29), (29, a_aload 0 30), (30, a_stk (q_int 0) 31), (31, a_aload 0 32), (32, a_stk (q_int 1) 33), (33, a_stk (q_int 12) 35), (35, a_callV false (fX12_readNumber kn) 13 3 38), (38, a_callV false (fX12_put kn) 13 3 41), (41, a_zret)]
def fX12_readRows (kn : sKn) : List Value → sW → Option sR := fW (tX12_readRows kn) 1
set_option maxRecDepth 100000 in
set_option maxHeartbeats 4000000 in
theorem mX12_readRows (kn : sKn) : mM kn yX12_readRows (Cond.code yX12_readRows cX12_readRows 1 (some .boolean) :: wsL_law) 4 false (fX12_readRows kn) := mM_W (fun n => mM_of (own := RX12) (ini := false) rfl (by decide +kernel) (by decide +kernel) (all_c (ok_aload_n dX12_readRows_0 rfl) (all_c (okg_X12_24 kw1357 dX12_readRows_1) (all_c (ok_if_ne dX12_readRows_4 (by decide)) (all_c (ok_aload_n dX12_readRows_7 rfl) (all_c (okg_X12_26 kw1356 dX12_readRows_8) (all_c (ok_if_eq dX12_readRows_11 (by decide)) (all_c (ok_aload_n dX12_readRows_14 rfl) (all_c (ok_stk (s_iconst dX12_readRows_15 (by decide))) (all_c (okc_X12_bad (by decide) kw1243 dX12_readRows_16) (all_c (ok_zret dX12_readRows_19) (all_c (ok_aload_n dX12_readRows_20 rfl) (all_c (ok_stk (s_iconst dX12_readRows_21 (by decide))) (all_c (okp_X12_24 kw1357 dX12_readRows_22) (all_c (ok_aload_n dX12_readRows_25 rfl) (all_c (okc_X12_go (by decide) kw1179 dX12_readRows_26) (all_c (ok_aload_n dX12_readRows_29 rfl) (all_c (ok_stk (s_iconst dX12_readRows_30 (by decide))) (all_c (ok_aload_n dX12_readRows_31 rfl) (all_c (ok_stk (s_iconst dX12_readRows_32 (by decide))) (all_c (ok_stk (s_bipush dX12_readRows_33 (by decide))) (all_c (okc_X12_readNumber (by decide) kw1248 dX12_readRows_35) (all_c (okc_X12_put (by decide) kw1355 dX12_readRows_38) (all_c (ok_zret dX12_readRows_41) all_n))))))))))))))))))))))) n (fun h => by first | rfl | cases h))
theorem dX12_readSigner_0 : decode cX12_readSigner 0 = .ok (.aload_n 0, 1) := by decide +kernel
theorem dX12_readSigner_1 : decode cX12_readSigner 1 = .ok (.iconst 1, 1) := by decide +kernel
theorem dX12_readSigner_2 : decode cX12_readSigner 2 = .ok (.bipush 10, 2) := by decide +kernel
theorem dX12_readSigner_4 : decode cX12_readSigner 4 = .ok (.invokevirtual 213, 3) := by decide +kernel
theorem dX12_readSigner_7 : decode cX12_readSigner 7 = .ok (.ifCond .ne 5, 3) := by decide +kernel
theorem dX12_readSigner_10 : decode cX12_readSigner 10 = .ok (.iconst 0, 1) := by decide +kernel
theorem dX12_readSigner_11 : decode cX12_readSigner 11 = .ok (.ireturn, 1) := by decide +kernel
theorem dX12_readSigner_12 : decode cX12_readSigner 12 = .ok (.aload_n 0, 1) := by decide +kernel
theorem dX12_readSigner_13 : decode cX12_readSigner 13 = .ok (.getfield 101, 3) := by decide +kernel
theorem dX12_readSigner_16 : decode cX12_readSigner 16 = .ok (.iconst 1, 1) := by decide +kernel
theorem dX12_readSigner_17 : decode cX12_readSigner 17 = .ok (.iaload, 1) := by decide +kernel
theorem dX12_readSigner_18 : decode cX12_readSigner 18 = .ok (.istore_n 1, 1) := by decide +kernel
theorem dX12_readSigner_19 : decode cX12_readSigner 19 = .ok (.aload_n 0, 1) := by decide +kernel
theorem dX12_readSigner_20 : decode cX12_readSigner 20 = .ok (.iload_n 1, 1) := by decide +kernel
theorem dX12_readSigner_21 : decode cX12_readSigner 21 = .ok (.invokevirtual 216, 3) := by decide +kernel
theorem dX12_readSigner_24 : decode cX12_readSigner 24 = .ok (.ifCond .eq 38, 3) := by decide +kernel
theorem dX12_readSigner_27 : decode cX12_readSigner 27 = .ok (.aload_n 0, 1) := by decide +kernel
theorem dX12_readSigner_28 : decode cX12_readSigner 28 = .ok (.iconst 5, 1) := by decide +kernel
theorem dX12_readSigner_29 : decode cX12_readSigner 29 = .ok (.iload_n 1, 1) := by decide +kernel
theorem dX12_readSigner_30 : decode cX12_readSigner 30 = .ok (.iadd, 1) := by decide +kernel
theorem dX12_readSigner_31 : decode cX12_readSigner 31 = .ok (.aload_n 0, 1) := by decide +kernel
theorem dX12_readSigner_32 : decode cX12_readSigner 32 = .ok (.iconst 0, 1) := by decide +kernel
theorem dX12_readSigner_33 : decode cX12_readSigner 33 = .ok (.bipush 9, 2) := by decide +kernel
theorem dX12_readSigner_35 : decode cX12_readSigner 35 = .ok (.invokevirtual 205, 3) := by decide +kernel
theorem dX12_readSigner_38 : decode cX12_readSigner 38 = .ok (.invokevirtual 209, 3) := by decide +kernel
theorem dX12_readSigner_41 : decode cX12_readSigner 41 = .ok (.ifCond .eq 21, 3) := by decide +kernel
theorem dX12_readSigner_44 : decode cX12_readSigner 44 = .ok (.aload_n 0, 1) := by decide +kernel
theorem dX12_readSigner_45 : decode cX12_readSigner 45 = .ok (.bipush 15, 2) := by decide +kernel
theorem dX12_readSigner_47 : decode cX12_readSigner 47 = .ok (.iload_n 1, 1) := by decide +kernel
theorem dX12_readSigner_48 : decode cX12_readSigner 48 = .ok (.iadd, 1) := by decide +kernel
theorem dX12_readSigner_49 : decode cX12_readSigner 49 = .ok (.aload_n 0, 1) := by decide +kernel
theorem dX12_readSigner_50 : decode cX12_readSigner 50 = .ok (.iconst 1, 1) := by decide +kernel
theorem dX12_readSigner_51 : decode cX12_readSigner 51 = .ok (.bipush 9, 2) := by decide +kernel
theorem dX12_readSigner_53 : decode cX12_readSigner 53 = .ok (.invokevirtual 205, 3) := by decide +kernel
theorem dX12_readSigner_56 : decode cX12_readSigner 56 = .ok (.invokevirtual 209, 3) := by decide +kernel
theorem dX12_readSigner_59 : decode cX12_readSigner 59 = .ok (.ifCond .ne 5, 3) := by decide +kernel
theorem dX12_readSigner_62 : decode cX12_readSigner 62 = .ok (.iconst 0, 1) := by decide +kernel
theorem dX12_readSigner_63 : decode cX12_readSigner 63 = .ok (.ireturn, 1) := by decide +kernel
theorem dX12_readSigner_64 : decode cX12_readSigner 64 = .ok (.aload_n 0, 1) := by decide +kernel
theorem dX12_readSigner_65 : decode cX12_readSigner 65 = .ok (.iconst 2, 1) := by decide +kernel
theorem dX12_readSigner_66 : decode cX12_readSigner 66 = .ok (.invokevirtual 219, 3) := by decide +kernel
theorem dX12_readSigner_69 : decode cX12_readSigner 69 = .ok (.ifCond .eq 20, 3) := by decide +kernel
theorem dX12_readSigner_72 : decode cX12_readSigner 72 = .ok (.aload_n 0, 1) := by decide +kernel
theorem dX12_readSigner_73 : decode cX12_readSigner 73 = .ok (.getfield 101, 3) := by decide +kernel
theorem dX12_readSigner_76 : decode cX12_readSigner 76 = .ok (.bipush 25, 2) := by decide +kernel
theorem dX12_readSigner_78 : decode cX12_readSigner 78 = .ok (.dup2, 1) := by decide +kernel
theorem dX12_readSigner_79 : decode cX12_readSigner 79 = .ok (.iaload, 1) := by decide +kernel
theorem dX12_readSigner_80 : decode cX12_readSigner 80 = .ok (.iconst 1, 1) := by decide +kernel
theorem dX12_readSigner_81 : decode cX12_readSigner 81 = .ok (.iload_n 1, 1) := by decide +kernel
theorem dX12_readSigner_82 : decode cX12_readSigner 82 = .ok (.ishl, 1) := by decide +kernel
theorem dX12_readSigner_83 : decode cX12_readSigner 83 = .ok (.ior, 1) := by decide +kernel
theorem dX12_readSigner_84 : decode cX12_readSigner 84 = .ok (.iastore, 1) := by decide +kernel
theorem dX12_readSigner_85 : decode cX12_readSigner 85 = .ok (.aload_n 0, 1) := by decide +kernel
theorem dX12_readSigner_86 : decode cX12_readSigner 86 = .ok (.invokevirtual 82, 3) := by decide +kernel
theorem dX12_readSigner_89 : decode cX12_readSigner 89 = .ok (.aload_n 0, 1) := by decide +kernel
theorem dX12_readSigner_90 : decode cX12_readSigner 90 = .ok (.getfield 101, 3) := by decide +kernel
theorem dX12_readSigner_93 : decode cX12_readSigner 93 = .ok (.iconst 1, 1) := by decide +kernel
theorem dX12_readSigner_94 : decode cX12_readSigner 94 = .ok (.dup2, 1) := by decide +kernel
theorem dX12_readSigner_95 : decode cX12_readSigner 95 = .ok (.iaload, 1) := by decide +kernel
theorem dX12_readSigner_96 : decode cX12_readSigner 96 = .ok (.iconst 1, 1) := by decide +kernel
theorem dX12_readSigner_97 : decode cX12_readSigner 97 = .ok (.iadd, 1) := by decide +kernel
theorem dX12_readSigner_98 : decode cX12_readSigner 98 = .ok (.iastore, 1) := by decide +kernel
theorem dX12_readSigner_99 : decode cX12_readSigner 99 = .ok (.iconst 1, 1) := by decide +kernel
theorem dX12_readSigner_100 : decode cX12_readSigner 100 = .ok (.ireturn, 1) := by decide +kernel
def tX12_readSigner (kn : sKn) : List (Nat × sA) := [(0, a_aload 0 1), (1, a_stk (q_int 1) 2), (2, a_stk (q_int 10) 4), (4, a_callV false (fX12_readFirst kn) 13 3 7), (7, a_if kn b_ne 1 12 10), (10, a_stk (q_int 0) 11), (11, a_zret), (12, a_aload 0 13), (13, a_get 13 15 16), (16, a_stk (q_int 1) 17), (17, a_iald 18), (18, a_istore 1 19), (19, a_aload 0 20), (20, a_iload 1 21), (21, a_callV false (fX12_readNew kn) 13 2 24), (24, a_if kn b_eq 0 62 27), (27, a_aload 0 28), (28, a_stk (q_int 5) 29), (29, a_iload 1 30), (30, a_stk q_iadd 31), (31, a_aload 0 32), (32, a_stk (q_int 0) 33), (33, a_stk (q_int 9) 35), (35, a_callV false (fX12_readNumber kn) 13 3 38), (38, a_callV false (fX12_put kn) 13 3 41), (41, a_if kn b_eq 0 62 44), (44, a_aload 0 45), (45, a_stk (q_int 15) 47), (47, a_iload 1 48), (48, a_stk q_iadd 49), (49, a_aload 0 50), (50, a_stk (q_int 1) 51), (51, a_stk (q_int 9) 53), (53, a_callV false (fX12_readNumber kn) 13 3 56), (56, a_callV false (fX12_put kn) 13 3 59), (59, a_if kn b_ne 1 64 62), (62, a_stk (q_int 0) 63), (63, a_zret), (64, a_aload 0 65), (65, a_stk (q_int 2) 66), (66, a_callV false (fX12_isWord kn) 13 2 69), (69, a_if kn b_eq 0 89 72), (72, a_aload 0 73), (73, a_get 13 15 76), (76, a_stk (q_int 25) 78), (78, a_stk q_dup2 79), (79, a_iald 80), (80, a_stk (q_int 1) 81), (81, a_iload 1 82), (82, a_stk q_ishl 83), (83, a_stk q_ior 84), (84, a_iast 85), (85, a_aload 0 86), (86, a_callV true (fX12_go kn) 13 1 89), (89, a_aload 0 90), (90, a_get 13 15 93), (93, a_stk (q_int 1) 94), (94, a_stk q_dup2 95), (95, a_iald 96), (96, a_stk (q_int 1) 97), (97, a_stk q_iadd 98), (98, a_iast 99), (99, a_stk (q_int 1) 100), (100, a_zret)]
def fX12_readSigner (kn : sKn) : List Value → sW → Option sR := fW (tX12_readSigner kn) 2
set_option maxRecDepth 100000 in
set_option maxHeartbeats 4000000 in
theorem mX12_readSigner (kn : sKn) : mM kn yX12_readSigner (Cond.code yX12_readSigner cX12_readSigner 2 (some .boolean) :: wsL_law) 5 false (fX12_readSigner kn) := mM_W (fun n => mM_of (own := RX12) (ini := false) rfl (by decide +kernel) (by decide +kernel) (all_c (ok_aload_n dX12_readSigner_0 rfl) (all_c (ok_stk (s_iconst dX12_readSigner_1 (by decide))) (all_c (ok_stk (s_bipush dX12_readSigner_2 (by decide))) (all_c (okc_X12_readFirst (by decide) kw1347 dX12_readSigner_4) (all_c (ok_if_ne dX12_readSigner_7 (by decide)) (all_c (ok_stk (s_iconst dX12_readSigner_10 (by decide))) (all_c (ok_zret dX12_readSigner_11) (all_c (ok_aload_n dX12_readSigner_12 rfl) (all_c (okg_X12_15 kw1338 dX12_readSigner_13) (all_c (ok_stk (s_iconst dX12_readSigner_16 (by decide))) (all_c (ok_iald dX12_readSigner_17) (all_c (ok_istore_n dX12_readSigner_18 rfl (by decide)) (all_c (ok_aload_n dX12_readSigner_19 rfl) (all_c (ok_iload_n dX12_readSigner_20 rfl) (all_c (okc_X12_readNew (by decide) kw1351 dX12_readSigner_21) (all_c (ok_if_eq dX12_readSigner_24 (by decide)) (all_c (ok_aload_n dX12_readSigner_27 rfl) (all_c (ok_stk (s_iconst dX12_readSigner_28 (by decide))) (all_c (ok_iload_n dX12_readSigner_29 rfl) (all_c (ok_stk (s_iadd dX12_readSigner_30)) (all_c (ok_aload_n dX12_readSigner_31 rfl) (all_c (ok_stk (s_iconst dX12_readSigner_32 (by decide))) (all_c (ok_stk (s_bipush dX12_readSigner_33 (by decide))) (all_c (okc_X12_readNumber (by decide) kw1248 dX12_readSigner_35) (all_c (okc_X12_put (by decide) kw1355 dX12_readSigner_38) (all_c (ok_if_eq dX12_readSigner_41 (by decide)) (all_c (ok_aload_n dX12_readSigner_44 rfl) (all_c (ok_stk (s_bipush dX12_readSigner_45 (by decide))) (all_c (ok_iload_n dX12_readSigner_47 rfl) (all_c (ok_stk (s_iadd dX12_readSigner_48)) (all_c (ok_aload_n dX12_readSigner_49 rfl) (all_c (ok_stk (s_iconst dX12_readSigner_50 (by decide))) (all_c (ok_stk (s_bipush dX12_readSigner_51 (by decide))) (all_c (okc_X12_readNumber (by decide) kw1248 dX12_readSigner_53) (all_c (okc_X12_put (by decide) kw1355 dX12_readSigner_56) (all_c (ok_if_ne dX12_readSigner_59 (by decide)) (all_c (ok_stk (s_iconst dX12_readSigner_62 (by decide))) (all_c (ok_zret dX12_readSigner_63) (all_c (ok_aload_n dX12_readSigner_64 rfl) (all_c (ok_stk (s_iconst dX12_readSigner_65 (by decide))) (all_c (okc_X12_isWord (by decide) kw1252 dX12_readSigner_66) (all_c (ok_if_eq dX12_readSigner_69 (by decide)) (all_c (ok_aload_n dX12_readSigner_72 rfl) (all_c (okg_X12_15 kw1338 dX12_readSigner_73) (all_c (ok_stk (s_bipush dX12_readSigner_76 (by decide))) (all_c (ok_stk (s_dup2 dX12_readSigner_78)) (all_c (ok_iald dX12_readSigner_79) (all_c (ok_stk (s_iconst dX12_readSigner_80 (by decide))) (all_c (ok_iload_n dX12_readSigner_81 rfl) (all_c (ok_stk (s_ishl dX12_readSigner_82)) (all_c (ok_stk (s_ior dX12_readSigner_83)) (all_c (ok_iast dX12_readSigner_84) (all_c (ok_aload_n dX12_readSigner_85 rfl) (all_c (okc_X12_go (by decide) kw1179 dX12_readSigner_86) (all_c (ok_aload_n dX12_readSigner_89 rfl) (all_c (okg_X12_15 kw1338 dX12_readSigner_90) (all_c (ok_stk (s_iconst dX12_readSigner_93 (by decide))) (all_c (ok_stk (s_dup2 dX12_readSigner_94)) (all_c (ok_iald dX12_readSigner_95) (all_c (ok_stk (s_iconst dX12_readSigner_96 (by decide))) (all_c (ok_stk (s_iadd dX12_readSigner_97)) (all_c (ok_iast dX12_readSigner_98) (all_c (ok_stk (s_iconst dX12_readSigner_99 (by decide))) (all_c (ok_zret dX12_readSigner_100) all_n)))))))))))))))))))))))))))))))))))))))))))))))))))))))))))))))) n (fun h => by first | rfl | cases h))
theorem dX12_readLine_0 : decode cX12_readLine 0 = .ok (.aload_n 0, 1) := by decide +kernel
theorem dX12_readLine_1 : decode cX12_readLine 1 = .ok (.iconst 0, 1) := by decide +kernel
theorem dX12_readLine_2 : decode cX12_readLine 2 = .ok (.invokevirtual 219, 3) := by decide +kernel
theorem dX12_readLine_5 : decode cX12_readLine 5 = .ok (.ifCond .eq 8, 3) := by decide +kernel
theorem dX12_readLine_8 : decode cX12_readLine 8 = .ok (.aload_n 0, 1) := by decide +kernel
theorem dX12_readLine_9 : decode cX12_readLine 9 = .ok (.invokevirtual 228, 3) := by decide +kernel
theorem dX12_readLine_12 : decode cX12_readLine 12 = .ok (.ireturn, 1) := by decide +kernel
theorem dX12_readLine_13 : decode cX12_readLine 13 = .ok (.aload_n 0, 1) := by decide +kernel
theorem dX12_readLine_14 : decode cX12_readLine 14 = .ok (.iconst 1, 1) := by decide +kernel
theorem dX12_readLine_15 : decode cX12_readLine 15 = .ok (.invokevirtual 219, 3) := by decide +kernel
theorem dX12_readLine_18 : decode cX12_readLine 18 = .ok (.ifCond .eq 8, 3) := by decide +kernel
theorem dX12_readLine_21 : decode cX12_readLine 21 = .ok (.aload_n 0, 1) := by decide +kernel
theorem dX12_readLine_22 : decode cX12_readLine 22 = .ok (.invokevirtual 231, 3) := by decide +kernel
theorem dX12_readLine_25 : decode cX12_readLine 25 = .ok (.ireturn, 1) := by decide +kernel
theorem dX12_readLine_26 : decode cX12_readLine 26 = .ok (.aload_n 0, 1) := by decide +kernel
theorem dX12_readLine_27 : decode cX12_readLine 27 = .ok (.iconst 3, 1) := by decide +kernel
theorem dX12_readLine_28 : decode cX12_readLine 28 = .ok (.invokevirtual 219, 3) := by decide +kernel
theorem dX12_readLine_31 : decode cX12_readLine 31 = .ok (.ifCond .eq 8, 3) := by decide +kernel
theorem dX12_readLine_34 : decode cX12_readLine 34 = .ok (.aload_n 0, 1) := by decide +kernel
theorem dX12_readLine_35 : decode cX12_readLine 35 = .ok (.invokevirtual 234, 3) := by decide +kernel
theorem dX12_readLine_38 : decode cX12_readLine 38 = .ok (.ireturn, 1) := by decide +kernel
theorem dX12_readLine_39 : decode cX12_readLine 39 = .ok (.aload_n 0, 1) := by decide +kernel
theorem dX12_readLine_40 : decode cX12_readLine 40 = .ok (.iconst 4, 1) := by decide +kernel
theorem dX12_readLine_41 : decode cX12_readLine 41 = .ok (.invokevirtual 219, 3) := by decide +kernel
theorem dX12_readLine_44 : decode cX12_readLine 44 = .ok (.ifCond .eq 8, 3) := by decide +kernel
theorem dX12_readLine_47 : decode cX12_readLine 47 = .ok (.aload_n 0, 1) := by decide +kernel
theorem dX12_readLine_48 : decode cX12_readLine 48 = .ok (.invokevirtual 237, 3) := by decide +kernel
theorem dX12_readLine_51 : decode cX12_readLine 51 = .ok (.ireturn, 1) := by decide +kernel
theorem dX12_readLine_52 : decode cX12_readLine 52 = .ok (.aload_n 0, 1) := by decide +kernel
theorem dX12_readLine_53 : decode cX12_readLine 53 = .ok (.iconst 5, 1) := by decide +kernel
theorem dX12_readLine_54 : decode cX12_readLine 54 = .ok (.invokevirtual 219, 3) := by decide +kernel
theorem dX12_readLine_57 : decode cX12_readLine 57 = .ok (.ifCond .eq 8, 3) := by decide +kernel
theorem dX12_readLine_60 : decode cX12_readLine 60 = .ok (.aload_n 0, 1) := by decide +kernel
theorem dX12_readLine_61 : decode cX12_readLine 61 = .ok (.invokevirtual 240, 3) := by decide +kernel
theorem dX12_readLine_64 : decode cX12_readLine 64 = .ok (.ireturn, 1) := by decide +kernel
theorem dX12_readLine_65 : decode cX12_readLine 65 = .ok (.aload_n 0, 1) := by decide +kernel
theorem dX12_readLine_66 : decode cX12_readLine 66 = .ok (.bipush 6, 2) := by decide +kernel
theorem dX12_readLine_68 : decode cX12_readLine 68 = .ok (.invokevirtual 219, 3) := by decide +kernel
theorem dX12_readLine_71 : decode cX12_readLine 71 = .ok (.ifCond .eq 8, 3) := by decide +kernel
theorem dX12_readLine_74 : decode cX12_readLine 74 = .ok (.aload_n 0, 1) := by decide +kernel
theorem dX12_readLine_75 : decode cX12_readLine 75 = .ok (.invokevirtual 243, 3) := by decide +kernel
theorem dX12_readLine_78 : decode cX12_readLine 78 = .ok (.ireturn, 1) := by decide +kernel
theorem dX12_readLine_79 : decode cX12_readLine 79 = .ok (.aload_n 0, 1) := by decide +kernel
theorem dX12_readLine_80 : decode cX12_readLine 80 = .ok (.bipush 7, 2) := by decide +kernel
theorem dX12_readLine_82 : decode cX12_readLine 82 = .ok (.invokevirtual 219, 3) := by decide +kernel
theorem dX12_readLine_85 : decode cX12_readLine 85 = .ok (.ifCond .ne 9, 3) := by decide +kernel
theorem dX12_readLine_88 : decode cX12_readLine 88 = .ok (.aload_n 0, 1) := by decide +kernel
theorem dX12_readLine_89 : decode cX12_readLine 89 = .ok (.iconst 1, 1) := by decide +kernel
theorem dX12_readLine_90 : decode cX12_readLine 90 = .ok (.invokevirtual 72, 3) := by decide +kernel
theorem dX12_readLine_93 : decode cX12_readLine 93 = .ok (.ireturn, 1) := by decide +kernel
theorem dX12_readLine_94 : decode cX12_readLine 94 = .ok (.aload_n 0, 1) := by decide +kernel
theorem dX12_readLine_95 : decode cX12_readLine 95 = .ok (.getfield 246, 3) := by decide +kernel
theorem dX12_readLine_98 : decode cX12_readLine 98 = .ok (.ifCond .eq 9, 3) := by decide +kernel
theorem dX12_readLine_101 : decode cX12_readLine 101 = .ok (.aload_n 0, 1) := by decide +kernel
theorem dX12_readLine_102 : decode cX12_readLine 102 = .ok (.iconst 3, 1) := by decide +kernel
theorem dX12_readLine_103 : decode cX12_readLine 103 = .ok (.invokevirtual 72, 3) := by decide +kernel
theorem dX12_readLine_106 : decode cX12_readLine 106 = .ok (.ireturn, 1) := by decide +kernel
theorem dX12_readLine_107 : decode cX12_readLine 107 = .ok (.aload_n 0, 1) := by decide +kernel
theorem dX12_readLine_108 : decode cX12_readLine 108 = .ok (.iconst 1, 1) := by decide +kernel
theorem dX12_readLine_109 : decode cX12_readLine 109 = .ok (.putfield 246, 3) := by decide +kernel
theorem dX12_readLine_112 : decode cX12_readLine 112 = .ok (.aload_n 0, 1) := by decide +kernel
theorem dX12_readLine_113 : decode cX12_readLine 113 = .ok (.invokevirtual 82, 3) := by decide +kernel
theorem dX12_readLine_116 : decode cX12_readLine 116 = .ok (.aload_n 0, 1) := by decide +kernel
theorem dX12_readLine_117 : decode cX12_readLine 117 = .ok (.iconst 4, 1) := by decide +kernel
theorem dX12_readLine_118 : decode cX12_readLine 118 = .ok (.aload_n 0, 1) := by decide +kernel
theorem dX12_readLine_119 : decode cX12_readLine 119 = .ok (.iconst 0, 1) := by decide +kernel
theorem dX12_readLine_120 : decode cX12_readLine 120 = .ok (.bipush 30, 2) := by decide +kernel
theorem dX12_readLine_122 : decode cX12_readLine 122 = .ok (.invokevirtual 205, 3) := by decide +kernel
theorem dX12_readLine_125 : decode cX12_readLine 125 = .ok (.invokevirtual 209, 3) := by decide +kernel
theorem dX12_readLine_128 : decode cX12_readLine 128 = .ok (.ireturn, 1) := by decide +kernel
theorem okc_X12_readRows {kn : sKn} {cc : ByteArray} {own : String} {nL : Nat} {D : Nat} {ret : Option FieldType} {ini : Bool} {pc index : Nat} (hD : 4 + 1 ≤ D) (hl : Cond.methodLink own index yX12_readRows ∈ wsL_law) (hd : decode cc pc = .ok (.invokevirtual index, 3)) : mOk kn cc own nL wsL_law D ret ini pc (a_callV false (fX12_readRows kn) 13 (0 + 1) (pc + 3)) := ok_callV (mX12_readRows kn) (good_ws ws_good (fun _ h => h) kw1358) hD (by decide) hl kw1359 kw1360 kw1072 ⟨by decide +kernel, by decide +kernel, by decide +kernel⟩ rfl hd
theorem okc_X12_readSigner {kn : sKn} {cc : ByteArray} {own : String} {nL : Nat} {D : Nat} {ret : Option FieldType} {ini : Bool} {pc index : Nat} (hD : 5 + 1 ≤ D) (hl : Cond.methodLink own index yX12_readSigner ∈ wsL_law) (hd : decode cc pc = .ok (.invokevirtual index, 3)) : mOk kn cc own nL wsL_law D ret ini pc (a_callV false (fX12_readSigner kn) 13 (0 + 1) (pc + 3)) := ok_callV (mX12_readSigner kn) (good_ws ws_good (fun _ h => h) kw1362) hD (by decide) hl kw1363 kw1364 kw1072 ⟨by decide +kernel, by decide +kernel, by decide +kernel⟩ rfl hd
theorem okc_X12_readHeir {kn : sKn} {cc : ByteArray} {own : String} {nL : Nat} {D : Nat} {ret : Option FieldType} {ini : Bool} {pc index : Nat} (hD : 5 + 1 ≤ D) (hl : Cond.methodLink own index yX12_readHeir ∈ wsL_law) (hd : decode cc pc = .ok (.invokevirtual index, 3)) : mOk kn cc own nL wsL_law D ret ini pc (a_callV false (fX12_readHeir kn) 13 (0 + 1) (pc + 3)) := ok_callV (mX12_readHeir kn) (good_ws ws_good (fun _ h => h) kw1366) hD (by decide) hl kw1367 kw1368 kw1072 ⟨by decide +kernel, by decide +kernel, by decide +kernel⟩ rfl hd
theorem okc_X12_readLovers {kn : sKn} {cc : ByteArray} {own : String} {nL : Nat} {D : Nat} {ret : Option FieldType} {ini : Bool} {pc index : Nat} (hD : 5 + 1 ≤ D) (hl : Cond.methodLink own index yX12_readLovers ∈ wsL_law) (hd : decode cc pc = .ok (.invokevirtual index, 3)) : mOk kn cc own nL wsL_law D ret ini pc (a_callV false (fX12_readLovers kn) 13 (0 + 1) (pc + 3)) := ok_callV (mX12_readLovers kn) (good_ws ws_good (fun _ h => h) kw1370) hD (by decide) hl kw1371 kw1372 kw1072 ⟨by decide +kernel, by decide +kernel, by decide +kernel⟩ rfl hd
theorem okc_X12_readPlank {kn : sKn} {cc : ByteArray} {own : String} {nL : Nat} {D : Nat} {ret : Option FieldType} {ini : Bool} {pc index : Nat} (hD : 5 + 1 ≤ D) (hl : Cond.methodLink own index yX12_readPlank ∈ wsL_law) (hd : decode cc pc = .ok (.invokevirtual index, 3)) : mOk kn cc own nL wsL_law D ret ini pc (a_callV false (fX12_readPlank kn) 13 (0 + 1) (pc + 3)) := ok_callV (mX12_readPlank kn) (good_ws ws_good (fun _ h => h) kw1374) hD (by decide) hl kw1375 kw1376 kw1072 ⟨by decide +kernel, by decide +kernel, by decide +kernel⟩ rfl hd
theorem okc_X12_readLoad {kn : sKn} {cc : ByteArray} {own : String} {nL : Nat} {D : Nat} {ret : Option FieldType} {ini : Bool} {pc index : Nat} (hD : 5 + 1 ≤ D) (hl : Cond.methodLink own index yX12_readLoad ∈ wsL_law) (hd : decode cc pc = .ok (.invokevirtual index, 3)) : mOk kn cc own nL wsL_law D ret ini pc (a_callV false (fX12_readLoad kn) 13 (0 + 1) (pc + 3)) := ok_callV (mX12_readLoad kn) (good_ws ws_good (fun _ h => h) kw1378) hD (by decide) hl kw1379 kw1380 kw1072 ⟨by decide +kernel, by decide +kernel, by decide +kernel⟩ rfl hd
def tX12_readLine (kn : sKn) : List (Nat × sA) := [(0, a_aload 0 1), (1, a_stk (q_int 0) 2), (2, a_callV false (fX12_isWord kn) 13 2 5), (5, a_if kn b_eq 0 13 8), (8, a_aload 0 9), (9, a_callV false (fX12_readRows kn) 13 1 12), (12, a_zret), (13, a_aload 0 14), (14, a_stk (q_int 1) 15), (15, a_callV false (fX12_isWord kn) 13 2 18), (18, a_if kn b_eq 0 26 21), (21, a_aload 0 22), (22, a_callV false (fX12_readSigner kn) 13 1 25), (25, a_zret), (26, a_aload 0 27), (27, a_stk (q_int 3) 28), (28, a_callV false (fX12_isWord kn) 13 2 31), (31, a_if kn b_eq 0 39 34), (34, a_aload 0 35), (35, a_callV false (fX12_readHeir kn) 13 1 38), (38, a_zret), (39, a_aload 0 40), (40, a_stk (q_int 4) 41), (41, a_callV false (fX12_isWord kn) 13 2 44), (44, a_if kn b_eq 0 52 47), (47, a_aload 0 48), (48, a_callV false (fX12_readLovers kn) 13 1 51), (51, a_zret), (52, a_aload 0 53), (53, a_stk (q_int 5) 54), (54, a_callV false (fX12_isWord kn) 13 2 57), (57, a_if kn b_eq 0 65 60), (60, a_aload 0 61), (61, a_callV false (fX12_readPlank kn) 13 1 64), (64, a_zret), (65, a_aload 0 66), (66, a_stk (q_int 6) 68), (68, a_callV false (fX12_isWord kn) 13 2 71), (71, a_if kn b_eq 0 79 74), (74, a_aload 0 75), (75, a_callV false (fX12_readLoad kn) 13 1 78), (78, a_zret), (79, a_aload 0 80), (80, a_stk (q_int 7) 82), (82, a_callV false (fX12_isWord kn) 13 2 85), (85, a_if kn b_ne 1 94 88), (88, a_aload 0 89), (89, a_stk (q_int 1) 90), (90, a_callV false (fX12_bad kn) 13 2 93), (93, a_zret), (94, a_aload 0 95), (95, a_get 13 25 98), (98, a_if kn b_eq 0 107 101), (101, a_aload 0 102), (102, a_stk (q_int 3) 103), (103, a_callV false (fX12_bad kn) 13 2 106), (106, a_zret), (107, a_aload 0 108), (108, a_stk (q_int 1) 109), (109, a_put 13 25 ckZ 112), (112, a_aload 0 113), (113, a_callV true (fX12_go kn) 13 1 116), (116, a_aload 0 117), (117, a_stk (q_int 4) 118), (118, a_aload 0 119), (119, a_stk (q_int 0) 120), (120, a_stk (q_int 30) 122), (122, a_callV false (fX12_readNumber kn) 13 3 125), (125, a_callV false (fX12_put kn) 13 3 128), (128, a_zret)]
def fX12_readLine (kn : sKn) : List Value → sW → Option sR := fW (tX12_readLine kn) 1
set_option maxRecDepth 100000 in
set_option maxHeartbeats 4000000 in
theorem mX12_readLine (kn : sKn) : mM kn yX12_readLine (Cond.code yX12_readLine cX12_readLine 1 (some .boolean) :: wsL_law) 6 false (fX12_readLine kn) := mM_W (fun n => mM_of (own := RX12) (ini := false) rfl (by decide +kernel) (by decide +kernel) (all_c (ok_aload_n dX12_readLine_0 rfl) (all_c (ok_stk (s_iconst dX12_readLine_1 (by decide))) (all_c (okc_X12_isWord (by decide) kw1252 dX12_readLine_2) (all_c (ok_if_eq dX12_readLine_5 (by decide)) (all_c (ok_aload_n dX12_readLine_8 rfl) (all_c (okc_X12_readRows (by decide) kw1361 dX12_readLine_9) (all_c (ok_zret dX12_readLine_12) (all_c (ok_aload_n dX12_readLine_13 rfl) (all_c (ok_stk (s_iconst dX12_readLine_14 (by decide))) (all_c (okc_X12_isWord (by decide) kw1252 dX12_readLine_15) (all_c (ok_if_eq dX12_readLine_18 (by decide)) (all_c (ok_aload_n dX12_readLine_21 rfl) (all_c (okc_X12_readSigner (by decide) kw1365 dX12_readLine_22) (all_c (ok_zret dX12_readLine_25) (all_c (ok_aload_n dX12_readLine_26 rfl) (all_c (ok_stk (s_iconst dX12_readLine_27 (by decide))) (all_c (okc_X12_isWord (by decide) kw1252 dX12_readLine_28) (all_c (ok_if_eq dX12_readLine_31 (by decide)) (all_c (ok_aload_n dX12_readLine_34 rfl) (all_c (okc_X12_readHeir (by decide) kw1369 dX12_readLine_35) (all_c (ok_zret dX12_readLine_38) (all_c (ok_aload_n dX12_readLine_39 rfl) (all_c (ok_stk (s_iconst dX12_readLine_40 (by decide))) (all_c (okc_X12_isWord (by decide) kw1252 dX12_readLine_41) (all_c (ok_if_eq dX12_readLine_44 (by decide)) (all_c (ok_aload_n dX12_readLine_47 rfl) (all_c (okc_X12_readLovers (by decide) kw1373 dX12_readLine_48) (all_c (ok_zret dX12_readLine_51) (all_c (ok_aload_n dX12_readLine_52 rfl) (all_c (ok_stk (s_iconst dX12_readLine_53 (by decide))) (all_c (okc_X12_isWord (by decide) kw1252 dX12_readLine_54) (all_c (ok_if_eq dX12_readLine_57 (by decide)) (all_c (ok_aload_n dX12_readLine_60 rfl) (all_c (okc_X12_readPlank (by decide) kw1377 dX12_readLine_61) (all_c (ok_zret dX12_readLine_64) (all_c (ok_aload_n dX12_readLine_65 rfl) (all_c (ok_stk (s_bipush dX12_readLine_66 (by decide))) (all_c (okc_X12_isWord (by decide) kw1252 dX12_readLine_68) (all_c (ok_if_eq dX12_readLine_71 (by decide)) (all_c (ok_aload_n dX12_readLine_74 rfl) (all_c (okc_X12_readLoad (by decide) kw1381 dX12_readLine_75) (all_c (ok_zret dX12_readLine_78) (all_c (ok_aload_n dX12_readLine_79 rfl) (all_c (ok_stk (s_bipush dX12_readLine_80 (by decide))) (all_c (okc_X12_isWord (by decide) kw1252 dX12_readLine_82) (all_c (ok_if_ne dX12_readLine_85 (by decide)) (all_c (ok_aload_n dX12_readLine_88 rfl) (all_c (ok_stk (s_iconst dX12_readLine_89 (by decide))) (all_c (okc_X12_bad (by decide) kw1243 dX12_readLine_90) (all_c (ok_zret dX12_readLine_93) (all_c (ok_aload_n dX12_readLine_94 rfl) (all_c (okg_X12_25 kw1382 dX12_readLine_95) (all_c (ok_if_eq dX12_readLine_98 (by decide)) (all_c (ok_aload_n dX12_readLine_101 rfl) (all_c (ok_stk (s_iconst dX12_readLine_102 (by decide))) (all_c (okc_X12_bad (by decide) kw1243 dX12_readLine_103) (all_c (ok_zret dX12_readLine_106) (all_c (ok_aload_n dX12_readLine_107 rfl) (all_c (ok_stk (s_iconst dX12_readLine_108 (by decide))) (all_c (okp_X12_25 kw1382 dX12_readLine_109) (all_c (ok_aload_n dX12_readLine_112 rfl) (all_c (okc_X12_go (by decide) kw1179 dX12_readLine_113) (all_c (ok_aload_n dX12_readLine_116 rfl) (all_c (ok_stk (s_iconst dX12_readLine_117 (by decide))) (all_c (ok_aload_n dX12_readLine_118 rfl) (all_c (ok_stk (s_iconst dX12_readLine_119 (by decide))) (all_c (ok_stk (s_bipush dX12_readLine_120 (by decide))) (all_c (okc_X12_readNumber (by decide) kw1248 dX12_readLine_122) (all_c (okc_X12_put (by decide) kw1355 dX12_readLine_125) (all_c (ok_zret dX12_readLine_128) all_n)))))))))))))))))))))))))))))))))))))))))))))))))))))))))))))))))))))) n (fun h => by first | rfl | cases h))
theorem dX12_startRead_0 : decode cX12_startRead 0 = .ok (.iconst 0, 1) := by decide +kernel
theorem dX12_startRead_1 : decode cX12_startRead 1 = .ok (.istore_n 1, 1) := by decide +kernel
theorem dX12_startRead_2 : decode cX12_startRead 2 = .ok (.iload_n 1, 1) := by decide +kernel
theorem dX12_startRead_3 : decode cX12_startRead 3 = .ok (.bipush 94, 2) := by decide +kernel
theorem dX12_startRead_5 : decode cX12_startRead 5 = .ok (.if_icmp .ge 16, 3) := by decide +kernel
theorem dX12_startRead_8 : decode cX12_startRead 8 = .ok (.aload_n 0, 1) := by decide +kernel
theorem dX12_startRead_9 : decode cX12_startRead 9 = .ok (.getfield 101, 3) := by decide +kernel
theorem dX12_startRead_12 : decode cX12_startRead 12 = .ok (.iload_n 1, 1) := by decide +kernel
theorem dX12_startRead_13 : decode cX12_startRead 13 = .ok (.iconst 0, 1) := by decide +kernel
theorem dX12_startRead_14 : decode cX12_startRead 14 = .ok (.iastore, 1) := by decide +kernel
theorem dX12_startRead_15 : decode cX12_startRead 15 = .ok (.iinc 1 1, 3) := by decide +kernel
theorem dX12_startRead_18 : decode cX12_startRead 18 = .ok (.goto (-16), 3) := by decide +kernel
theorem dX12_startRead_21 : decode cX12_startRead 21 = .ok (.iconst 0, 1) := by decide +kernel
theorem dX12_startRead_22 : decode cX12_startRead 22 = .ok (.istore_n 1, 1) := by decide +kernel
theorem dX12_startRead_23 : decode cX12_startRead 23 = .ok (.iload_n 1, 1) := by decide +kernel
theorem dX12_startRead_24 : decode cX12_startRead 24 = .ok (.bipush 10, 2) := by decide +kernel
theorem dX12_startRead_26 : decode cX12_startRead 26 = .ok (.if_icmp .ge 19, 3) := by decide +kernel
theorem dX12_startRead_29 : decode cX12_startRead 29 = .ok (.aload_n 0, 1) := by decide +kernel
theorem dX12_startRead_30 : decode cX12_startRead 30 = .ok (.getfield 101, 3) := by decide +kernel
theorem dX12_startRead_33 : decode cX12_startRead 33 = .ok (.bipush 26, 2) := by decide +kernel
theorem dX12_startRead_35 : decode cX12_startRead 35 = .ok (.iload_n 1, 1) := by decide +kernel
theorem dX12_startRead_36 : decode cX12_startRead 36 = .ok (.iadd, 1) := by decide +kernel
theorem dX12_startRead_37 : decode cX12_startRead 37 = .ok (.iconst (-1), 1) := by decide +kernel
theorem dX12_startRead_38 : decode cX12_startRead 38 = .ok (.iastore, 1) := by decide +kernel
theorem dX12_startRead_39 : decode cX12_startRead 39 = .ok (.iinc 1 1, 3) := by decide +kernel
theorem dX12_startRead_42 : decode cX12_startRead 42 = .ok (.goto (-19), 3) := by decide +kernel
theorem dX12_startRead_45 : decode cX12_startRead 45 = .ok (.iconst 0, 1) := by decide +kernel
theorem dX12_startRead_46 : decode cX12_startRead 46 = .ok (.istore_n 1, 1) := by decide +kernel
theorem dX12_startRead_47 : decode cX12_startRead 47 = .ok (.iload_n 1, 1) := by decide +kernel
theorem dX12_startRead_48 : decode cX12_startRead 48 = .ok (.bipush 36, 2) := by decide +kernel
theorem dX12_startRead_50 : decode cX12_startRead 50 = .ok (.if_icmp .ge 19, 3) := by decide +kernel
theorem dX12_startRead_53 : decode cX12_startRead 53 = .ok (.aload_n 0, 1) := by decide +kernel
theorem dX12_startRead_54 : decode cX12_startRead 54 = .ok (.getfield 101, 3) := by decide +kernel
theorem dX12_startRead_57 : decode cX12_startRead 57 = .ok (.bipush 46, 2) := by decide +kernel
theorem dX12_startRead_59 : decode cX12_startRead 59 = .ok (.iload_n 1, 1) := by decide +kernel
theorem dX12_startRead_60 : decode cX12_startRead 60 = .ok (.iadd, 1) := by decide +kernel
theorem dX12_startRead_61 : decode cX12_startRead 61 = .ok (.iconst (-1), 1) := by decide +kernel
theorem dX12_startRead_62 : decode cX12_startRead 62 = .ok (.iastore, 1) := by decide +kernel
theorem dX12_startRead_63 : decode cX12_startRead 63 = .ok (.iinc 1 1, 3) := by decide +kernel
theorem dX12_startRead_66 : decode cX12_startRead 66 = .ok (.goto (-19), 3) := by decide +kernel
theorem dX12_startRead_69 : decode cX12_startRead 69 = .ok (.aload_n 0, 1) := by decide +kernel
theorem dX12_startRead_70 : decode cX12_startRead 70 = .ok (.getfield 101, 3) := by decide +kernel
theorem dX12_startRead_73 : decode cX12_startRead 73 = .ok (.iconst 0, 1) := by decide +kernel
theorem dX12_startRead_74 : decode cX12_startRead 74 = .ok (.iconst 4, 1) := by decide +kernel
theorem dX12_startRead_75 : decode cX12_startRead 75 = .ok (.iastore, 1) := by decide +kernel
theorem dX12_startRead_76 : decode cX12_startRead 76 = .ok (.aload_n 0, 1) := by decide +kernel
theorem dX12_startRead_77 : decode cX12_startRead 77 = .ok (.getfield 101, 3) := by decide +kernel
theorem dX12_startRead_80 : decode cX12_startRead 80 = .ok (.iconst 4, 1) := by decide +kernel
theorem dX12_startRead_81 : decode cX12_startRead 81 = .ok (.iconst 5, 1) := by decide +kernel
theorem dX12_startRead_82 : decode cX12_startRead 82 = .ok (.iastore, 1) := by decide +kernel
theorem dX12_startRead_83 : decode cX12_startRead 83 = .ok (.return_, 1) := by decide +kernel
def tX12_startRead (kn : sKn) : List (Nat × sA) := [(0, a_stk (q_int 0) 1), (1, a_istore 1 2), (2, a_iload 1 3), (3, a_stk (q_int 94) 5), (5, a_icmp kn b_ge 3 21 8), (8, a_aload 0 9), (9, a_get 13 15 12), (12, a_iload 1 13), (13, a_stk (q_int 0) 14), (14, a_iast 15), (15, a_iinc 1 1 18), (18, a_goto 2), (21, a_stk (q_int 0) 22), (22, a_istore 1 23), (23, a_iload 1 24), (24, a_stk (q_int 10) 26), (26, a_icmp kn b_ge 3 45 29), (29, a_aload 0 30), (30, a_get 13 15 33), (33, a_stk (q_int 26) 35), (35, a_iload 1 36), (36, a_stk q_iadd 37), (37, a_stk (q_int (-1)) 38), (38, a_iast 39), (39, a_iinc 1 1 42), (42, a_goto 23), (45, a_stk (q_int 0) 46), (46, a_istore 1 47), (47, a_iload 1 48), (48, a_stk (q_int 36) 50), (50, a_icmp kn b_ge 3 69 53), (53, a_aload 0 54), (54, a_get 13 15 57), (57, a_stk (q_int 46) 59), (59, a_iload 1 60), (60, a_stk q_iadd 61), (61, a_stk (q_int (-1)) 62), (62, a_iast 63), (63, a_iinc 1 1 66), (66, a_goto 47), (69, a_aload 0 70), (70, a_get 13 15 73), (73, a_stk (q_int 0) 74), (74, a_stk (q_int 4) 75), (75, a_iast 76), (76, a_aload 0 77), (77, a_get 13 15 80), (80, a_stk (q_int 4) 81), (81, a_stk (q_int 5) 82), (82, a_iast 83), (83, a_vret)]
def fX12_startRead (kn : sKn) : List Value → sW → Option sR := fW (tX12_startRead kn) 2
set_option maxRecDepth 100000 in
set_option maxHeartbeats 4000000 in
theorem mX12_startRead (kn : sKn) : mM kn yX12_startRead (Cond.code yX12_startRead cX12_startRead 2 none :: wsL_law) 1 true (fX12_startRead kn) := mM_W (fun n => mM_of (own := RX12) (ini := false) rfl (by decide +kernel) (by decide +kernel) (all_c (ok_stk (s_iconst dX12_startRead_0 (by decide))) (all_c (ok_istore_n dX12_startRead_1 rfl (by decide)) (all_c (ok_iload_n dX12_startRead_2 rfl) (all_c (ok_stk (s_bipush dX12_startRead_3 (by decide))) (all_c (ok_icmp_ge dX12_startRead_5 (by decide)) (all_c (ok_aload_n dX12_startRead_8 rfl) (all_c (okg_X12_15 kw1338 dX12_startRead_9) (all_c (ok_iload_n dX12_startRead_12 rfl) (all_c (ok_stk (s_iconst dX12_startRead_13 (by decide))) (all_c (ok_iast dX12_startRead_14) (all_c (ok_iinc dX12_startRead_15 (by decide) (by decide)) (all_c (ok_goto dX12_startRead_18 (by decide)) (all_c (ok_stk (s_iconst dX12_startRead_21 (by decide))) (all_c (ok_istore_n dX12_startRead_22 rfl (by decide)) (all_c (ok_iload_n dX12_startRead_23 rfl) (all_c (ok_stk (s_bipush dX12_startRead_24 (by decide))) (all_c (ok_icmp_ge dX12_startRead_26 (by decide)) (all_c (ok_aload_n dX12_startRead_29 rfl) (all_c (okg_X12_15 kw1338 dX12_startRead_30) (all_c (ok_stk (s_bipush dX12_startRead_33 (by decide))) (all_c (ok_iload_n dX12_startRead_35 rfl) (all_c (ok_stk (s_iadd dX12_startRead_36)) (all_c (ok_stk (s_iconst dX12_startRead_37 (by decide))) (all_c (ok_iast dX12_startRead_38) (all_c (ok_iinc dX12_startRead_39 (by decide) (by decide)) (all_c (ok_goto dX12_startRead_42 (by decide)) (all_c (ok_stk (s_iconst dX12_startRead_45 (by decide))) (all_c (ok_istore_n dX12_startRead_46 rfl (by decide)) (all_c (ok_iload_n dX12_startRead_47 rfl) (all_c (ok_stk (s_bipush dX12_startRead_48 (by decide))) (all_c (ok_icmp_ge dX12_startRead_50 (by decide)) (all_c (ok_aload_n dX12_startRead_53 rfl) (all_c (okg_X12_15 kw1338 dX12_startRead_54) (all_c (ok_stk (s_bipush dX12_startRead_57 (by decide))) (all_c (ok_iload_n dX12_startRead_59 rfl) (all_c (ok_stk (s_iadd dX12_startRead_60)) (all_c (ok_stk (s_iconst dX12_startRead_61 (by decide))) (all_c (ok_iast dX12_startRead_62) (all_c (ok_iinc dX12_startRead_63 (by decide) (by decide)) (all_c (ok_goto dX12_startRead_66 (by decide)) (all_c (ok_aload_n dX12_startRead_69 rfl) (all_c (okg_X12_15 kw1338 dX12_startRead_70) (all_c (ok_stk (s_iconst dX12_startRead_73 (by decide))) (all_c (ok_stk (s_iconst dX12_startRead_74 (by decide))) (all_c (ok_iast dX12_startRead_75) (all_c (ok_aload_n dX12_startRead_76 rfl) (all_c (okg_X12_15 kw1338 dX12_startRead_77) (all_c (ok_stk (s_iconst dX12_startRead_80 (by decide))) (all_c (ok_stk (s_iconst dX12_startRead_81 (by decide))) (all_c (ok_iast dX12_startRead_82) (all_c (ok_vret dX12_startRead_83) all_n))))))))))))))))))))))))))))))))))))))))))))))))))) n (fun h => by first | rfl | cases h))
theorem dX12_startSo_0 : decode cX12_startSo 0 = .ok (.bipush 94, 2) := by decide +kernel
theorem dX12_startSo_2 : decode cX12_startSo 2 = .ok (.istore_n 1, 1) := by decide +kernel
theorem dX12_startSo_3 : decode cX12_startSo 3 = .ok (.iload_n 1, 1) := by decide +kernel
theorem dX12_startSo_4 : decode cX12_startSo 4 = .ok (.sipush 438, 3) := by decide +kernel
theorem dX12_startSo_7 : decode cX12_startSo 7 = .ok (.if_icmp .ge 16, 3) := by decide +kernel
theorem dX12_startSo_10 : decode cX12_startSo 10 = .ok (.aload_n 0, 1) := by decide +kernel
theorem dX12_startSo_11 : decode cX12_startSo 11 = .ok (.getfield 98, 3) := by decide +kernel
theorem dX12_startSo_14 : decode cX12_startSo 14 = .ok (.iload_n 1, 1) := by decide +kernel
theorem dX12_startSo_15 : decode cX12_startSo 15 = .ok (.iconst 0, 1) := by decide +kernel
theorem dX12_startSo_16 : decode cX12_startSo 16 = .ok (.iastore, 1) := by decide +kernel
theorem dX12_startSo_17 : decode cX12_startSo 17 = .ok (.iinc 1 1, 3) := by decide +kernel
theorem dX12_startSo_20 : decode cX12_startSo 20 = .ok (.goto (-17), 3) := by decide +kernel
theorem dX12_startSo_23 : decode cX12_startSo 23 = .ok (.iconst 0, 1) := by decide +kernel
theorem dX12_startSo_24 : decode cX12_startSo 24 = .ok (.istore_n 1, 1) := by decide +kernel
theorem dX12_startSo_25 : decode cX12_startSo 25 = .ok (.iload_n 1, 1) := by decide +kernel
theorem dX12_startSo_26 : decode cX12_startSo 26 = .ok (.bipush 10, 2) := by decide +kernel
theorem dX12_startSo_28 : decode cX12_startSo 28 = .ok (.if_icmp .ge 36, 3) := by decide +kernel
theorem dX12_startSo_31 : decode cX12_startSo 31 = .ok (.aload_n 0, 1) := by decide +kernel
theorem dX12_startSo_32 : decode cX12_startSo 32 = .ok (.getfield 98, 3) := by decide +kernel
theorem dX12_startSo_35 : decode cX12_startSo 35 = .ok (.bipush 98, 2) := by decide +kernel
theorem dX12_startSo_37 : decode cX12_startSo 37 = .ok (.iload_n 1, 1) := by decide +kernel
theorem dX12_startSo_38 : decode cX12_startSo 38 = .ok (.iadd, 1) := by decide +kernel
theorem dX12_startSo_39 : decode cX12_startSo 39 = .ok (.aload_n 0, 1) := by decide +kernel
theorem dX12_startSo_40 : decode cX12_startSo 40 = .ok (.getfield 98, 3) := by decide +kernel
theorem dX12_startSo_43 : decode cX12_startSo 43 = .ok (.iconst 5, 1) := by decide +kernel
theorem dX12_startSo_44 : decode cX12_startSo 44 = .ok (.iload_n 1, 1) := by decide +kernel
theorem dX12_startSo_45 : decode cX12_startSo 45 = .ok (.iadd, 1) := by decide +kernel
theorem dX12_startSo_46 : decode cX12_startSo 46 = .ok (.iaload, 1) := by decide +kernel
theorem dX12_startSo_47 : decode cX12_startSo 47 = .ok (.iastore, 1) := by decide +kernel
theorem dX12_startSo_48 : decode cX12_startSo 48 = .ok (.aload_n 0, 1) := by decide +kernel
theorem dX12_startSo_49 : decode cX12_startSo 49 = .ok (.getfield 98, 3) := by decide +kernel
theorem dX12_startSo_52 : decode cX12_startSo 52 = .ok (.bipush 108, 2) := by decide +kernel
theorem dX12_startSo_54 : decode cX12_startSo 54 = .ok (.iload_n 1, 1) := by decide +kernel
theorem dX12_startSo_55 : decode cX12_startSo 55 = .ok (.iadd, 1) := by decide +kernel
theorem dX12_startSo_56 : decode cX12_startSo 56 = .ok (.iconst (-1), 1) := by decide +kernel
theorem dX12_startSo_57 : decode cX12_startSo 57 = .ok (.iastore, 1) := by decide +kernel
theorem dX12_startSo_58 : decode cX12_startSo 58 = .ok (.iinc 1 1, 3) := by decide +kernel
theorem dX12_startSo_61 : decode cX12_startSo 61 = .ok (.goto (-36), 3) := by decide +kernel
theorem dX12_startSo_64 : decode cX12_startSo 64 = .ok (.iconst 0, 1) := by decide +kernel
theorem dX12_startSo_65 : decode cX12_startSo 65 = .ok (.istore_n 1, 1) := by decide +kernel
theorem dX12_startSo_66 : decode cX12_startSo 66 = .ok (.iload_n 1, 1) := by decide +kernel
theorem dX12_startSo_67 : decode cX12_startSo 67 = .ok (.bipush 36, 2) := by decide +kernel
theorem dX12_startSo_69 : decode cX12_startSo 69 = .ok (.if_icmp .ge 27, 3) := by decide +kernel
theorem dX12_startSo_72 : decode cX12_startSo 72 = .ok (.aload_n 0, 1) := by decide +kernel
theorem dX12_startSo_73 : decode cX12_startSo 73 = .ok (.getfield 98, 3) := by decide +kernel
theorem dX12_startSo_76 : decode cX12_startSo 76 = .ok (.bipush 118, 2) := by decide +kernel
theorem dX12_startSo_78 : decode cX12_startSo 78 = .ok (.iload_n 1, 1) := by decide +kernel
theorem dX12_startSo_79 : decode cX12_startSo 79 = .ok (.iadd, 1) := by decide +kernel
theorem dX12_startSo_80 : decode cX12_startSo 80 = .ok (.aload_n 0, 1) := by decide +kernel
theorem dX12_startSo_81 : decode cX12_startSo 81 = .ok (.getfield 98, 3) := by decide +kernel
theorem dX12_startSo_84 : decode cX12_startSo 84 = .ok (.bipush 46, 2) := by decide +kernel
theorem dX12_startSo_86 : decode cX12_startSo 86 = .ok (.iload_n 1, 1) := by decide +kernel
theorem dX12_startSo_87 : decode cX12_startSo 87 = .ok (.iadd, 1) := by decide +kernel
theorem dX12_startSo_88 : decode cX12_startSo 88 = .ok (.iaload, 1) := by decide +kernel
theorem dX12_startSo_89 : decode cX12_startSo 89 = .ok (.iastore, 1) := by decide +kernel
theorem dX12_startSo_90 : decode cX12_startSo 90 = .ok (.iinc 1 1, 3) := by decide +kernel
theorem dX12_startSo_93 : decode cX12_startSo 93 = .ok (.goto (-27), 3) := by decide +kernel
theorem dX12_startSo_96 : decode cX12_startSo 96 = .ok (.return_, 1) := by decide +kernel
def tX12_startSo (kn : sKn) : List (Nat × sA) := [(0, a_stk (q_int 94) 2), (2, a_istore 1 3), (3, a_iload 1 4), (4, a_stk (q_int 438) 7), (7, a_icmp kn b_ge 3 23 10), (10, a_aload 0 11), (11, a_get 13 14 14), (14, a_iload 1 15), (15, a_stk (q_int 0) 16), (16, a_iast 17), (17, a_iinc 1 1 20), (20, a_goto 3), (23, a_stk (q_int 0) 24), (24, a_istore 1 25), (25, a_iload 1 26), (26, a_stk (q_int 10) 28), (28, a_icmp kn b_ge 3 64 31), (31, a_aload 0 32), (32, a_get 13 14 35), (35, a_stk (q_int 98) 37), (37, a_iload 1 38), (38, a_stk q_iadd 39), (39, a_aload 0 40), (40, a_get 13 14 43), (43, a_stk (q_int 5) 44), (44, a_iload 1 45), (45, a_stk q_iadd 46), (46, a_iald 47), (47, a_iast 48), (48, a_aload 0 49), (49, a_get 13 14 52), (52, a_stk (q_int 108) 54), (54, a_iload 1 55), (55, a_stk q_iadd 56), (56, a_stk (q_int (-1)) 57), (57, a_iast 58), (58, a_iinc 1 1 61), (61, a_goto 25), (64, a_stk (q_int 0) 65), (65, a_istore 1 66), (66, a_iload 1 67), (67, a_stk (q_int 36) 69), (69, a_icmp kn b_ge 3 96 72), (72, a_aload 0 73), (73, a_get 13 14 76), (76, a_stk (q_int 118) 78), (78, a_iload 1 79), (79, a_stk q_iadd 80), (80, a_aload 0 81), (81, a_get 13 14 84), (84, a_stk (q_int 46) 86), (86, a_iload 1 87), (87, a_stk q_iadd 88), (88, a_iald 89), (89, a_iast 90), (90, a_iinc 1 1 93), (93, a_goto 66), (96, a_vret)]
def fX12_startSo (kn : sKn) : List Value → sW → Option sR := fW (tX12_startSo kn) 2
set_option maxRecDepth 100000 in
set_option maxHeartbeats 4000000 in
theorem mX12_startSo (kn : sKn) : mM kn yX12_startSo (Cond.code yX12_startSo cX12_startSo 2 none :: wsL_law) 1 true (fX12_startSo kn) := mM_W (fun n => mM_of (own := RX12) (ini := false) rfl (by decide +kernel) (by decide +kernel) (all_c (ok_stk (s_bipush dX12_startSo_0 (by decide))) (all_c (ok_istore_n dX12_startSo_2 rfl (by decide)) (all_c (ok_iload_n dX12_startSo_3 rfl) (all_c (ok_stk (s_sipush dX12_startSo_4 (by decide))) (all_c (ok_icmp_ge dX12_startSo_7 (by decide)) (all_c (ok_aload_n dX12_startSo_10 rfl) (all_c (okg_X12_14 kw1069 dX12_startSo_11) (all_c (ok_iload_n dX12_startSo_14 rfl) (all_c (ok_stk (s_iconst dX12_startSo_15 (by decide))) (all_c (ok_iast dX12_startSo_16) (all_c (ok_iinc dX12_startSo_17 (by decide) (by decide)) (all_c (ok_goto dX12_startSo_20 (by decide)) (all_c (ok_stk (s_iconst dX12_startSo_23 (by decide))) (all_c (ok_istore_n dX12_startSo_24 rfl (by decide)) (all_c (ok_iload_n dX12_startSo_25 rfl) (all_c (ok_stk (s_bipush dX12_startSo_26 (by decide))) (all_c (ok_icmp_ge dX12_startSo_28 (by decide)) (all_c (ok_aload_n dX12_startSo_31 rfl) (all_c (okg_X12_14 kw1069 dX12_startSo_32) (all_c (ok_stk (s_bipush dX12_startSo_35 (by decide))) (all_c (ok_iload_n dX12_startSo_37 rfl) (all_c (ok_stk (s_iadd dX12_startSo_38)) (all_c (ok_aload_n dX12_startSo_39 rfl) (all_c (okg_X12_14 kw1069 dX12_startSo_40) (all_c (ok_stk (s_iconst dX12_startSo_43 (by decide))) (all_c (ok_iload_n dX12_startSo_44 rfl) (all_c (ok_stk (s_iadd dX12_startSo_45)) (all_c (ok_iald dX12_startSo_46) (all_c (ok_iast dX12_startSo_47) (all_c (ok_aload_n dX12_startSo_48 rfl) (all_c (okg_X12_14 kw1069 dX12_startSo_49) (all_c (ok_stk (s_bipush dX12_startSo_52 (by decide))) (all_c (ok_iload_n dX12_startSo_54 rfl) (all_c (ok_stk (s_iadd dX12_startSo_55)) (all_c (ok_stk (s_iconst dX12_startSo_56 (by decide))) (all_c (ok_iast dX12_startSo_57) (all_c (ok_iinc dX12_startSo_58 (by decide) (by decide)) (all_c (ok_goto dX12_startSo_61 (by decide)) (all_c (ok_stk (s_iconst dX12_startSo_64 (by decide))) (all_c (ok_istore_n dX12_startSo_65 rfl (by decide)) (all_c (ok_iload_n dX12_startSo_66 rfl) (all_c (ok_stk (s_bipush dX12_startSo_67 (by decide))) (all_c (ok_icmp_ge dX12_startSo_69 (by decide)) (all_c (ok_aload_n dX12_startSo_72 rfl) (all_c (okg_X12_14 kw1069 dX12_startSo_73) (all_c (ok_stk (s_bipush dX12_startSo_76 (by decide))) (all_c (ok_iload_n dX12_startSo_78 rfl) (all_c (ok_stk (s_iadd dX12_startSo_79)) (all_c (ok_aload_n dX12_startSo_80 rfl) (all_c (okg_X12_14 kw1069 dX12_startSo_81) (all_c (ok_stk (s_bipush dX12_startSo_84 (by decide))) (all_c (ok_iload_n dX12_startSo_86 rfl) (all_c (ok_stk (s_iadd dX12_startSo_87)) (all_c (ok_iald dX12_startSo_88) (all_c (ok_iast dX12_startSo_89) (all_c (ok_iinc dX12_startSo_90 (by decide) (by decide)) (all_c (ok_goto dX12_startSo_93 (by decide)) (all_c (ok_vret dX12_startSo_96) all_n)))))))))))))))))))))))))))))))))))))))))))))))))))))))))) n (fun h => by first | rfl | cases h))
theorem dX12_bridge_0 : decode cX12_bridge 0 = .ok (.aload_n 0, 1) := by decide +kernel
theorem dX12_bridge_1 : decode cX12_bridge 1 = .ok (.sipush 900, 3) := by decide +kernel
theorem dX12_bridge_4 : decode cX12_bridge 4 = .ok (.invokevirtual 249, 3) := by decide +kernel
theorem dX12_bridge_7 : decode cX12_bridge 7 = .ok (.aload_n 0, 1) := by decide +kernel
theorem dX12_bridge_8 : decode cX12_bridge 8 = .ok (.invokevirtual 184, 3) := by decide +kernel
theorem dX12_bridge_11 : decode cX12_bridge 11 = .ok (.aload_n 0, 1) := by decide +kernel
theorem dX12_bridge_12 : decode cX12_bridge 12 = .ok (.iconst 0, 1) := by decide +kernel
theorem dX12_bridge_13 : decode cX12_bridge 13 = .ok (.putfield 198, 3) := by decide +kernel
theorem dX12_bridge_16 : decode cX12_bridge 16 = .ok (.aload_n 0, 1) := by decide +kernel
theorem dX12_bridge_17 : decode cX12_bridge 17 = .ok (.iconst 0, 1) := by decide +kernel
theorem dX12_bridge_18 : decode cX12_bridge 18 = .ok (.putfield 246, 3) := by decide +kernel
theorem dX12_bridge_21 : decode cX12_bridge 21 = .ok (.aload_n 0, 1) := by decide +kernel
theorem dX12_bridge_22 : decode cX12_bridge 22 = .ok (.iconst 0, 1) := by decide +kernel
theorem dX12_bridge_23 : decode cX12_bridge 23 = .ok (.putfield 202, 3) := by decide +kernel
theorem dX12_bridge_26 : decode cX12_bridge 26 = .ok (.iconst 0, 1) := by decide +kernel
theorem dX12_bridge_27 : decode cX12_bridge 27 = .ok (.istore_n 1, 1) := by decide +kernel
theorem dX12_bridge_28 : decode cX12_bridge 28 = .ok (.aload_n 0, 1) := by decide +kernel
theorem dX12_bridge_29 : decode cX12_bridge 29 = .ok (.getfield 30, 3) := by decide +kernel
theorem dX12_bridge_32 : decode cX12_bridge 32 = .ok (.ifCond .eq 30, 3) := by decide +kernel
theorem dX12_bridge_35 : decode cX12_bridge 35 = .ok (.aload_n 0, 1) := by decide +kernel
theorem dX12_bridge_36 : decode cX12_bridge 36 = .ok (.invokevirtual 252, 3) := by decide +kernel
theorem dX12_bridge_39 : decode cX12_bridge 39 = .ok (.ifCond .eq 10, 3) := by decide +kernel
theorem dX12_bridge_42 : decode cX12_bridge 42 = .ok (.aload_n 0, 1) := by decide +kernel
theorem dX12_bridge_43 : decode cX12_bridge 43 = .ok (.invokevirtual 255, 3) := by decide +kernel
theorem dX12_bridge_46 : decode cX12_bridge 46 = .ok (.ifCond .ne 10, 3) := by decide +kernel
theorem dX12_bridge_49 : decode cX12_bridge 49 = .ok (.iconst (-1), 1) := by decide +kernel
theorem dX12_bridge_50 : decode cX12_bridge 50 = .ok (.aload_n 0, 1) := by decide +kernel
theorem dX12_bridge_51 : decode cX12_bridge 51 = .ok (.getfield 69, 3) := by decide +kernel
theorem dX12_bridge_54 : decode cX12_bridge 54 = .ok (.isub, 1) := by decide +kernel
theorem dX12_bridge_55 : decode cX12_bridge 55 = .ok (.ireturn, 1) := by decide +kernel
theorem dX12_bridge_56 : decode cX12_bridge 56 = .ok (.iinc 1 1, 3) := by decide +kernel
theorem dX12_bridge_59 : decode cX12_bridge 59 = .ok (.goto (-31), 3) := by decide +kernel
theorem dX12_bridge_62 : decode cX12_bridge 62 = .ok (.iconst 0, 1) := by decide +kernel
theorem dX12_bridge_63 : decode cX12_bridge 63 = .ok (.istore_n 2, 1) := by decide +kernel
theorem dX12_bridge_64 : decode cX12_bridge 64 = .ok (.iload_n 2, 1) := by decide +kernel
theorem dX12_bridge_65 : decode cX12_bridge 65 = .ok (.bipush 94, 2) := by decide +kernel
theorem dX12_bridge_67 : decode cX12_bridge 67 = .ok (.if_icmp .ge 21, 3) := by decide +kernel
theorem dX12_bridge_70 : decode cX12_bridge 70 = .ok (.aload_n 0, 1) := by decide +kernel
theorem dX12_bridge_71 : decode cX12_bridge 71 = .ok (.getfield 98, 3) := by decide +kernel
theorem dX12_bridge_74 : decode cX12_bridge 74 = .ok (.iload_n 2, 1) := by decide +kernel
theorem dX12_bridge_75 : decode cX12_bridge 75 = .ok (.aload_n 0, 1) := by decide +kernel
theorem dX12_bridge_76 : decode cX12_bridge 76 = .ok (.getfield 101, 3) := by decide +kernel
theorem dX12_bridge_79 : decode cX12_bridge 79 = .ok (.iload_n 2, 1) := by decide +kernel
theorem dX12_bridge_80 : decode cX12_bridge 80 = .ok (.iaload, 1) := by decide +kernel
theorem dX12_bridge_81 : decode cX12_bridge 81 = .ok (.iastore, 1) := by decide +kernel
theorem dX12_bridge_82 : decode cX12_bridge 82 = .ok (.iinc 2 1, 3) := by decide +kernel
theorem dX12_bridge_85 : decode cX12_bridge 85 = .ok (.goto (-21), 3) := by decide +kernel
theorem dX12_bridge_88 : decode cX12_bridge 88 = .ok (.iconst 0, 1) := by decide +kernel
theorem dX12_bridge_89 : decode cX12_bridge 89 = .ok (.istore_n 2, 1) := by decide +kernel
theorem dX12_bridge_90 : decode cX12_bridge 90 = .ok (.iload_n 2, 1) := by decide +kernel
theorem dX12_bridge_91 : decode cX12_bridge 91 = .ok (.bipush 16, 2) := by decide +kernel
theorem dX12_bridge_93 : decode cX12_bridge 93 = .ok (.if_icmp .ge 21, 3) := by decide +kernel
theorem dX12_bridge_96 : decode cX12_bridge 96 = .ok (.aload_n 0, 1) := by decide +kernel
theorem dX12_bridge_97 : decode cX12_bridge 97 = .ok (.getfield 113, 3) := by decide +kernel
theorem dX12_bridge_100 : decode cX12_bridge 100 = .ok (.iload_n 2, 1) := by decide +kernel
theorem dX12_bridge_101 : decode cX12_bridge 101 = .ok (.aload_n 0, 1) := by decide +kernel
theorem dX12_bridge_102 : decode cX12_bridge 102 = .ok (.getfield 117, 3) := by decide +kernel
theorem dX12_bridge_105 : decode cX12_bridge 105 = .ok (.iload_n 2, 1) := by decide +kernel
theorem dX12_bridge_106 : decode cX12_bridge 106 = .ok (.laload, 1) := by decide +kernel
theorem dX12_bridge_107 : decode cX12_bridge 107 = .ok (.lastore, 1) := by decide +kernel
theorem dX12_bridge_108 : decode cX12_bridge 108 = .ok (.iinc 2 1, 3) := by decide +kernel
theorem dX12_bridge_111 : decode cX12_bridge 111 = .ok (.goto (-21), 3) := by decide +kernel
theorem dX12_bridge_114 : decode cX12_bridge 114 = .ok (.aload_n 0, 1) := by decide +kernel
theorem dX12_bridge_115 : decode cX12_bridge 115 = .ok (.invokevirtual 187, 3) := by decide +kernel
theorem dX12_bridge_118 : decode cX12_bridge 118 = .ok (.aload_n 0, 1) := by decide +kernel
theorem dX12_bridge_119 : decode cX12_bridge 119 = .ok (.iconst 0, 1) := by decide +kernel
theorem dX12_bridge_120 : decode cX12_bridge 120 = .ok (.putfield 258, 3) := by decide +kernel
theorem dX12_bridge_123 : decode cX12_bridge 123 = .ok (.iload_n 1, 1) := by decide +kernel
theorem dX12_bridge_124 : decode cX12_bridge 124 = .ok (.ireturn, 1) := by decide +kernel
theorem okc_X12_startRead {kn : sKn} {cc : ByteArray} {own : String} {nL : Nat} {D : Nat} {ret : Option FieldType} {ini : Bool} {pc index : Nat} (hD : 1 + 1 ≤ D) (hl : Cond.methodLink own index yX12_startRead ∈ wsL_law) (hd : decode cc pc = .ok (.invokevirtual index, 3)) : mOk kn cc own nL wsL_law D ret ini pc (a_callV true (fX12_startRead kn) 13 (0 + 1) (pc + 3)) := ok_callV (mX12_startRead kn) (good_ws ws_good (fun _ h => h) kw1383) hD (by decide) hl kw1384 kw1385 kw1072 ⟨by decide +kernel, by decide +kernel, by decide +kernel⟩ rfl hd
theorem okc_X12_readLine {kn : sKn} {cc : ByteArray} {own : String} {nL : Nat} {D : Nat} {ret : Option FieldType} {ini : Bool} {pc index : Nat} (hD : 6 + 1 ≤ D) (hl : Cond.methodLink own index yX12_readLine ∈ wsL_law) (hd : decode cc pc = .ok (.invokevirtual index, 3)) : mOk kn cc own nL wsL_law D ret ini pc (a_callV false (fX12_readLine kn) 13 (0 + 1) (pc + 3)) := ok_callV (mX12_readLine kn) (good_ws ws_good (fun _ h => h) kw1387) hD (by decide) hl kw1388 kw1389 kw1072 ⟨by decide +kernel, by decide +kernel, by decide +kernel⟩ rfl hd
theorem okc_X12_startSo {kn : sKn} {cc : ByteArray} {own : String} {nL : Nat} {D : Nat} {ret : Option FieldType} {ini : Bool} {pc index : Nat} (hD : 1 + 1 ≤ D) (hl : Cond.methodLink own index yX12_startSo ∈ wsL_law) (hd : decode cc pc = .ok (.invokevirtual index, 3)) : mOk kn cc own nL wsL_law D ret ini pc (a_callV true (fX12_startSo kn) 13 (0 + 1) (pc + 3)) := ok_callV (mX12_startSo kn) (good_ws ws_good (fun _ h => h) kw1391) hD (by decide) hl kw1392 kw1393 kw1072 ⟨by decide +kernel, by decide +kernel, by decide +kernel⟩ rfl hd
def tX12_bridge (kn : sKn) : List (Nat × sA) := [(0, a_aload 0 1), (1, a_stk (q_int 900) 4), (4, a_callV true (fX12_begin kn) 13 2 7), (7, a_aload 0 8), (8, a_callV true (fX12_startRead kn) 13 1 11), (11, a_aload 0 12), (12, a_stk (q_int 0) 13), (13, a_put 13 24 ckZ 16), (16, a_aload 0 17), (17, a_stk (q_int 0) 18), (18, a_put 13 25 ckZ 21), (21, a_aload 0 22), (22, a_stk (q_int 0) 23), (23, a_put 13 26 ckZ 26), (26, a_stk (q_int 0) 27), (27, a_istore 1 28), (28, a_aload 0 29), (29, a_get 13 7 32), (32, a_if kn b_eq 0 62 35), (35, a_aload 0 36), (36, a_callV false (fX12_readLine kn) 13 1 39), (39, a_if kn b_eq 0 49 42), (42, a_aload 0 43), (43, a_callV false (fX12_readEnd kn) 13 1 46), (46, a_if kn b_ne 1 56 49), (49, a_stk (q_int (-1)) 50), (50, a_aload 0 51), (51, a_get 13 11 54), (54, a_stk q_isub 55), (55, a_iret), (56, a_iinc 1 1 59), (59, a_goto 28), (62, a_stk (q_int 0) 63), (63, a_istore 2 64), (64, a_iload 2 65), (65, a_stk (q_int 94) 67), (67, a_icmp kn b_ge 3 88 70), (70, a_aload 0 71), (71, a_get 13 14 74), (74, a_iload 2 75), (75, a_aload 0 76), (76, a_get 13 15 79), (79, a_iload 2 80), (80, a_iald 81), (81, a_iast 82), (82, a_iinc 2 1 85), (85, a_goto 64), (88, a_stk (q_int 0) 89), (89, a_istore 2 90), (90, a_iload 2 91), (91, a_stk (q_int 16) 93), (93, a_icmp kn b_ge 3 114 96), (96, a_aload 0 97), (97, a_get 13 19 100), (100, a_iload 2 101), (101, a_aload 0 102), (102, a_get 13 20 105), (105, a_iload 2 106), (106, a_lald 107), (107, a_last 108), (108, a_iinc 2 1 111), (111, a_goto 90), (114, a_aload 0 115), (115, a_callV true (fX12_startSo kn) 13 1 118), (118, a_aload 0 119), (119, a_stk (q_int 0) 120), (120, a_put 13 23 ckI 123), (123, a_iload 1 124), (124, a_iret)]
def fX12_bridge (kn : sKn) : List Value → sW → Option sR := fW (tX12_bridge kn) 3
set_option maxRecDepth 100000 in
set_option maxHeartbeats 4000000 in
theorem mX12_bridge (kn : sKn) : mM kn yX12_bridge (Cond.code yX12_bridge cX12_bridge 3 (some .int) :: wsL_law) 7 false (fX12_bridge kn) := mM_W (fun n => mM_of (own := RX12) (ini := false) rfl (by decide +kernel) (by decide +kernel) (all_c (ok_aload_n dX12_bridge_0 rfl) (all_c (ok_stk (s_sipush dX12_bridge_1 (by decide))) (all_c (okc_X12_begin (by decide) kw1311 dX12_bridge_4) (all_c (ok_aload_n dX12_bridge_7 rfl) (all_c (okc_X12_startRead (by decide) kw1386 dX12_bridge_8) (all_c (ok_aload_n dX12_bridge_11 rfl) (all_c (ok_stk (s_iconst dX12_bridge_12 (by decide))) (all_c (okp_X12_24 kw1357 dX12_bridge_13) (all_c (ok_aload_n dX12_bridge_16 rfl) (all_c (ok_stk (s_iconst dX12_bridge_17 (by decide))) (all_c (okp_X12_25 kw1382 dX12_bridge_18) (all_c (ok_aload_n dX12_bridge_21 rfl) (all_c (ok_stk (s_iconst dX12_bridge_22 (by decide))) (all_c (okp_X12_26 kw1356 dX12_bridge_23) (all_c (ok_stk (s_iconst dX12_bridge_26 (by decide))) (all_c (ok_istore_n dX12_bridge_27 rfl (by decide)) (all_c (ok_aload_n dX12_bridge_28 rfl) (all_c (okg_X12_7 kw1148 dX12_bridge_29) (all_c (ok_if_eq dX12_bridge_32 (by decide)) (all_c (ok_aload_n dX12_bridge_35 rfl) (all_c (okc_X12_readLine (by decide) kw1390 dX12_bridge_36) (all_c (ok_if_eq dX12_bridge_39 (by decide)) (all_c (ok_aload_n dX12_bridge_42 rfl) (all_c (okc_X12_readEnd (by decide) kw1285 dX12_bridge_43) (all_c (ok_if_ne dX12_bridge_46 (by decide)) (all_c (ok_stk (s_iconst dX12_bridge_49 (by decide))) (all_c (ok_aload_n dX12_bridge_50 rfl) (all_c (okg_X12_11 kw1151 dX12_bridge_51) (all_c (ok_stk (s_isub dX12_bridge_54)) (all_c (ok_iret dX12_bridge_55) (all_c (ok_iinc dX12_bridge_56 (by decide) (by decide)) (all_c (ok_goto dX12_bridge_59 (by decide)) (all_c (ok_stk (s_iconst dX12_bridge_62 (by decide))) (all_c (ok_istore_n dX12_bridge_63 rfl (by decide)) (all_c (ok_iload_n dX12_bridge_64 rfl) (all_c (ok_stk (s_bipush dX12_bridge_65 (by decide))) (all_c (ok_icmp_ge dX12_bridge_67 (by decide)) (all_c (ok_aload_n dX12_bridge_70 rfl) (all_c (okg_X12_14 kw1069 dX12_bridge_71) (all_c (ok_iload_n dX12_bridge_74 rfl) (all_c (ok_aload_n dX12_bridge_75 rfl) (all_c (okg_X12_15 kw1338 dX12_bridge_76) (all_c (ok_iload_n dX12_bridge_79 rfl) (all_c (ok_iald dX12_bridge_80) (all_c (ok_iast dX12_bridge_81) (all_c (ok_iinc dX12_bridge_82 (by decide) (by decide)) (all_c (ok_goto dX12_bridge_85 (by decide)) (all_c (ok_stk (s_iconst dX12_bridge_88 (by decide))) (all_c (ok_istore_n dX12_bridge_89 rfl (by decide)) (all_c (ok_iload_n dX12_bridge_90 rfl) (all_c (ok_stk (s_bipush dX12_bridge_91 (by decide))) (all_c (ok_icmp_ge dX12_bridge_93 (by decide)) (all_c (ok_aload_n dX12_bridge_96 rfl) (all_c (okg_X12_19 kw1261 dX12_bridge_97) (all_c (ok_iload_n dX12_bridge_100 rfl) (all_c (ok_aload_n dX12_bridge_101 rfl) (all_c (okg_X12_20 kw1339 dX12_bridge_102) (all_c (ok_iload_n dX12_bridge_105 rfl) (all_c (ok_lald dX12_bridge_106) (all_c (ok_last dX12_bridge_107) (all_c (ok_iinc dX12_bridge_108 (by decide) (by decide)) (all_c (ok_goto dX12_bridge_111 (by decide)) (all_c (ok_aload_n dX12_bridge_114 rfl) (all_c (okc_X12_startSo (by decide) kw1394 dX12_bridge_115) (all_c (ok_aload_n dX12_bridge_118 rfl) (all_c (ok_stk (s_iconst dX12_bridge_119 (by decide))) (all_c (okp_X12_23 kw1286 dX12_bridge_120) (all_c (ok_iload_n dX12_bridge_123 rfl) (all_c (ok_iret dX12_bridge_124) all_n))))))))))))))))))))))))))))))))))))))))))))))))))))))))))))))))))))) n (fun h => by first | rfl | cases h))
theorem dX12_isPlace_0 : decode cX12_isPlace 0 = .ok (.aload_n 0, 1) := by decide +kernel
theorem dX12_isPlace_1 : decode cX12_isPlace 1 = .ok (.iload_n 1, 1) := by decide +kernel
theorem dX12_isPlace_2 : decode cX12_isPlace 2 = .ok (.invokevirtual 261, 3) := by decide +kernel
theorem dX12_isPlace_5 : decode cX12_isPlace 5 = .ok (.ifCond .eq 16, 3) := by decide +kernel
theorem dX12_isPlace_8 : decode cX12_isPlace 8 = .ok (.iload_n 2, 1) := by decide +kernel
theorem dX12_isPlace_9 : decode cX12_isPlace 9 = .ok (.iconst 0, 1) := by decide +kernel
theorem dX12_isPlace_10 : decode cX12_isPlace 10 = .ok (.iconst 2, 1) := by decide +kernel
theorem dX12_isPlace_11 : decode cX12_isPlace 11 = .ok (.invokestatic 75, 3) := by decide +kernel
theorem dX12_isPlace_14 : decode cX12_isPlace 14 = .ok (.ifCond .eq 7, 3) := by decide +kernel
theorem dX12_isPlace_17 : decode cX12_isPlace 17 = .ok (.iconst 1, 1) := by decide +kernel
theorem dX12_isPlace_18 : decode cX12_isPlace 18 = .ok (.goto 4, 3) := by decide +kernel
theorem dX12_isPlace_21 : decode cX12_isPlace 21 = .ok (.iconst 0, 1) := by decide +kernel
theorem dX12_isPlace_22 : decode cX12_isPlace 22 = .ok (.ireturn, 1) := by decide +kernel
def tX12_isPlace (kn : sKn) : List (Nat × sA) := [(0, a_aload 0 1), (1, a_iload 1 2), (2, a_callV false (fX12_isRow kn) 13 2 5), (5, a_if kn b_eq 0 21 8), (8, a_iload 2 9), (9, a_stk (q_int 0) 10), (10, a_stk (q_int 2) 11), (11, a_callS false (fX12_isIn kn) 3 14), (14, a_if kn b_eq 0 21 17), (17, a_stk (q_int 1) 18), (18, a_goto 22), (21, a_stk (q_int 0) 22), (22, a_zret)]
def fX12_isPlace (kn : sKn) : List Value → sW → Option sR := fW (tX12_isPlace kn) 3
set_option maxRecDepth 100000 in
set_option maxHeartbeats 4000000 in
theorem mX12_isPlace (kn : sKn) : mM kn yX12_isPlace (Cond.code yX12_isPlace cX12_isPlace 3 (some .boolean) :: wsL_law) 3 false (fX12_isPlace kn) := mM_W (fun n => mM_of (own := RX12) (ini := false) rfl (by decide +kernel) (by decide +kernel) (all_c (ok_aload_n dX12_isPlace_0 rfl) (all_c (ok_iload_n dX12_isPlace_1 rfl) (all_c (okc_X12_isRow (by decide) kw1299 dX12_isPlace_2) (all_c (ok_if_eq dX12_isPlace_5 (by decide)) (all_c (ok_iload_n dX12_isPlace_8 rfl) (all_c (ok_stk (s_iconst dX12_isPlace_9 (by decide))) (all_c (ok_stk (s_iconst dX12_isPlace_10 (by decide))) (all_c (okc_X12_isIn (by decide) kw1126 dX12_isPlace_11) (all_c (ok_if_eq dX12_isPlace_14 (by decide)) (all_c (ok_stk (s_iconst dX12_isPlace_17 (by decide))) (all_c (ok_goto dX12_isPlace_18 (by decide)) (all_c (ok_stk (s_iconst dX12_isPlace_21 (by decide))) (all_c (ok_zret dX12_isPlace_22) all_n))))))))))))) n (fun h => by first | rfl | cases h))
theorem dX12_burn_0 : decode cX12_burn 0 = .ok (.aload_n 0, 1) := by decide +kernel
theorem dX12_burn_1 : decode cX12_burn 1 = .ok (.iconst 0, 1) := by decide +kernel
theorem dX12_burn_2 : decode cX12_burn 2 = .ok (.putfield 1, 3) := by decide +kernel
theorem dX12_burn_5 : decode cX12_burn 5 = .ok (.aload_n 0, 1) := by decide +kernel
theorem dX12_burn_6 : decode cX12_burn 6 = .ok (.iload_n 1, 1) := by decide +kernel
theorem dX12_burn_7 : decode cX12_burn 7 = .ok (.iload_n 2, 1) := by decide +kernel
theorem dX12_burn_8 : decode cX12_burn 8 = .ok (.invokevirtual 289, 3) := by decide +kernel
theorem dX12_burn_11 : decode cX12_burn 11 = .ok (.ifCond .ne 5, 3) := by decide +kernel
theorem dX12_burn_14 : decode cX12_burn 14 = .ok (.iconst (-1), 1) := by decide +kernel
theorem dX12_burn_15 : decode cX12_burn 15 = .ok (.ireturn, 1) := by decide +kernel
theorem dX12_burn_16 : decode cX12_burn 16 = .ok (.aload_n 0, 1) := by decide +kernel
theorem dX12_burn_17 : decode cX12_burn 17 = .ok (.getfield 98, 3) := by decide +kernel
theorem dX12_burn_20 : decode cX12_burn 20 = .ok (.bipush 118, 2) := by decide +kernel
theorem dX12_burn_22 : decode cX12_burn 22 = .ok (.iconst 3, 1) := by decide +kernel
theorem dX12_burn_23 : decode cX12_burn 23 = .ok (.iload_n 1, 1) := by decide +kernel
theorem dX12_burn_24 : decode cX12_burn 24 = .ok (.imul, 1) := by decide +kernel
theorem dX12_burn_25 : decode cX12_burn 25 = .ok (.iadd, 1) := by decide +kernel
theorem dX12_burn_26 : decode cX12_burn 26 = .ok (.iload_n 2, 1) := by decide +kernel
theorem dX12_burn_27 : decode cX12_burn 27 = .ok (.iadd, 1) := by decide +kernel
theorem dX12_burn_28 : decode cX12_burn 28 = .ok (.iaload, 1) := by decide +kernel
theorem dX12_burn_29 : decode cX12_burn 29 = .ok (.iconst (-1), 1) := by decide +kernel
theorem dX12_burn_30 : decode cX12_burn 30 = .ok (.if_icmp .ne 5, 3) := by decide +kernel
theorem dX12_burn_33 : decode cX12_burn 33 = .ok (.iconst 1, 1) := by decide +kernel
theorem dX12_burn_34 : decode cX12_burn 34 = .ok (.ireturn, 1) := by decide +kernel
theorem dX12_burn_35 : decode cX12_burn 35 = .ok (.aload_n 0, 1) := by decide +kernel
theorem dX12_burn_36 : decode cX12_burn 36 = .ok (.invokevirtual 343, 3) := by decide +kernel
theorem dX12_burn_39 : decode cX12_burn 39 = .ok (.aload_n 0, 1) := by decide +kernel
theorem dX12_burn_40 : decode cX12_burn 40 = .ok (.iconst 3, 1) := by decide +kernel
theorem dX12_burn_41 : decode cX12_burn 41 = .ok (.iload_n 1, 1) := by decide +kernel
theorem dX12_burn_42 : decode cX12_burn 42 = .ok (.imul, 1) := by decide +kernel
theorem dX12_burn_43 : decode cX12_burn 43 = .ok (.iload_n 2, 1) := by decide +kernel
theorem dX12_burn_44 : decode cX12_burn 44 = .ok (.iadd, 1) := by decide +kernel
theorem dX12_burn_45 : decode cX12_burn 45 = .ok (.invokevirtual 349, 3) := by decide +kernel
theorem dX12_burn_48 : decode cX12_burn 48 = .ok (.iconst 0, 1) := by decide +kernel
theorem dX12_burn_49 : decode cX12_burn 49 = .ok (.ireturn, 1) := by decide +kernel
theorem okc_X12_isPlace {kn : sKn} {cc : ByteArray} {own : String} {nL : Nat} {D : Nat} {ret : Option FieldType} {ini : Bool} {pc index : Nat} (hD : 3 + 1 ≤ D) (hl : Cond.methodLink own index yX12_isPlace ∈ wsL_law) (hd : decode cc pc = .ok (.invokevirtual index, 3)) : mOk kn cc own nL wsL_law D ret ini pc (a_callV false (fX12_isPlace kn) 13 (2 + 1) (pc + 3)) := ok_callV (mX12_isPlace kn) (good_ws ws_good (fun _ h => h) kw1395) hD (by decide) hl kw1396 kw1397 kw1072 ⟨by decide +kernel, by decide +kernel, by decide +kernel⟩ rfl hd
def tX12_burn (kn : sKn) : List (Nat × sA) := [(0, a_aload 0 1), (1, a_stk (q_int 0) 2), (2, a_put 13 0 ckI 5), (5, a_aload 0 6), (6, a_iload 1 7), (7, a_iload 2 8), (8, a_callV false (fX12_isPlace kn) 13 3 11), (11, a_if kn b_ne 1 16 14), (14, a_stk (q_int (-1)) 15), (15, a_iret), (16, a_aload 0 17), (17, a_get 13 14 20), (20, a_stk (q_int 118) 22), (22, a_stk (q_int 3) 23), (23, a_iload 1 24), (24, a_stk q_imul 25), (25, a_stk q_iadd 26), (26, a_iload 2 27), (27, a_stk q_iadd 28), (28, a_iald 29), (29, a_stk (q_int (-1)) 30), (30, a_icmp kn b_ne 1 35 33), (33, a_stk (q_int 1) 34), (34, a_iret), (35, a_aload 0 36), (36, a_callV true (fX12_snap kn) 13 1 39), (39, a_aload 0 40), (40, a_stk (q_int 3) 41), (41, a_iload 1 42), (42, a_stk q_imul 43), (43, a_iload 2 44), (44, a_stk q_iadd 45), (45, a_callV true (fX12_doBurn kn) 13 2 48), (48, a_stk (q_int 0) 49), (49, a_iret)]
def fX12_burn (kn : sKn) : List Value → sW → Option sR := fW (tX12_burn kn) 3
set_option maxRecDepth 100000 in
set_option maxHeartbeats 4000000 in
theorem mX12_burn (kn : sKn) : mM kn yX12_burn (Cond.code yX12_burn cX12_burn 3 (some .int) :: wsL_law) 4 false (fX12_burn kn) := mM_W (fun n => mM_of (own := RX12) (ini := false) rfl (by decide +kernel) (by decide +kernel) (all_c (ok_aload_n dX12_burn_0 rfl) (all_c (ok_stk (s_iconst dX12_burn_1 (by decide))) (all_c (okp_X12_0 kw1114 dX12_burn_2) (all_c (ok_aload_n dX12_burn_5 rfl) (all_c (ok_iload_n dX12_burn_6 rfl) (all_c (ok_iload_n dX12_burn_7 rfl) (all_c (okc_X12_isPlace (by decide) kw1398 dX12_burn_8) (all_c (ok_if_ne dX12_burn_11 (by decide)) (all_c (ok_stk (s_iconst dX12_burn_14 (by decide))) (all_c (ok_iret dX12_burn_15) (all_c (ok_aload_n dX12_burn_16 rfl) (all_c (okg_X12_14 kw1069 dX12_burn_17) (all_c (ok_stk (s_bipush dX12_burn_20 (by decide))) (all_c (ok_stk (s_iconst dX12_burn_22 (by decide))) (all_c (ok_iload_n dX12_burn_23 rfl) (all_c (ok_stk (s_imul dX12_burn_24)) (all_c (ok_stk (s_iadd dX12_burn_25)) (all_c (ok_iload_n dX12_burn_26 rfl) (all_c (ok_stk (s_iadd dX12_burn_27)) (all_c (ok_iald dX12_burn_28) (all_c (ok_stk (s_iconst dX12_burn_29 (by decide))) (all_c (ok_icmp_ne dX12_burn_30 (by decide)) (all_c (ok_stk (s_iconst dX12_burn_33 (by decide))) (all_c (ok_iret dX12_burn_34) (all_c (ok_aload_n dX12_burn_35 rfl) (all_c (okc_X12_snap (by decide) kw1291 dX12_burn_36) (all_c (ok_aload_n dX12_burn_39 rfl) (all_c (ok_stk (s_iconst dX12_burn_40 (by decide))) (all_c (ok_iload_n dX12_burn_41 rfl) (all_c (ok_stk (s_imul dX12_burn_42)) (all_c (ok_iload_n dX12_burn_43 rfl) (all_c (ok_stk (s_iadd dX12_burn_44)) (all_c (okc_X12_doBurn (by decide) kw1221 dX12_burn_45) (all_c (ok_stk (s_iconst dX12_burn_48 (by decide))) (all_c (ok_iret dX12_burn_49) all_n))))))))))))))))))))))))))))))))))) n (fun h => by first | rfl | cases h))
theorem dX12_byteAt_0 : decode cX12_byteAt 0 = .ok (.aload_n 0, 1) := by decide +kernel
theorem dX12_byteAt_1 : decode cX12_byteAt 1 = .ok (.iconst 0, 1) := by decide +kernel
theorem dX12_byteAt_2 : decode cX12_byteAt 2 = .ok (.putfield 1, 3) := by decide +kernel
theorem dX12_byteAt_5 : decode cX12_byteAt 5 = .ok (.iload_n 1, 1) := by decide +kernel
theorem dX12_byteAt_6 : decode cX12_byteAt 6 = .ok (.iconst 0, 1) := by decide +kernel
theorem dX12_byteAt_7 : decode cX12_byteAt 7 = .ok (.aload_n 0, 1) := by decide +kernel
theorem dX12_byteAt_8 : decode cX12_byteAt 8 = .ok (.getfield 418, 3) := by decide +kernel
theorem dX12_byteAt_11 : decode cX12_byteAt 11 = .ok (.iconst 1, 1) := by decide +kernel
theorem dX12_byteAt_12 : decode cX12_byteAt 12 = .ok (.isub, 1) := by decide +kernel
theorem dX12_byteAt_13 : decode cX12_byteAt 13 = .ok (.invokestatic 75, 3) := by decide +kernel
theorem dX12_byteAt_16 : decode cX12_byteAt 16 = .ok (.ifCond .eq 12, 3) := by decide +kernel
theorem dX12_byteAt_19 : decode cX12_byteAt 19 = .ok (.aload_n 0, 1) := by decide +kernel
theorem dX12_byteAt_20 : decode cX12_byteAt 20 = .ok (.getfield 172, 3) := by decide +kernel
theorem dX12_byteAt_23 : decode cX12_byteAt 23 = .ok (.iload_n 1, 1) := by decide +kernel
theorem dX12_byteAt_24 : decode cX12_byteAt 24 = .ok (.iaload, 1) := by decide +kernel
theorem dX12_byteAt_25 : decode cX12_byteAt 25 = .ok (.goto 4, 3) := by decide +kernel
theorem dX12_byteAt_28 : decode cX12_byteAt 28 = .ok (.iconst (-1), 1) := by decide +kernel
theorem dX12_byteAt_29 : decode cX12_byteAt 29 = .ok (.ireturn, 1) := by decide +kernel
def tX12_byteAt (kn : sKn) : List (Nat × sA) := [(0, a_aload 0 1), (1, a_stk (q_int 0) 2), (2, a_put 13 0 ckI 5), (5, a_iload 1 6), (6, a_stk (q_int 0) 7), (7, a_aload 0 8), (8, a_get 13 49 11), (11, a_stk (q_int 1) 12), (12, a_stk q_isub 13), (13, a_callS false (fX12_isIn kn) 3 16), (16, a_if kn b_eq 0 28 19), (19, a_aload 0 20), (20, a_get 13 48 23), (23, a_iload 1 24), (24, a_iald 25), (25, a_goto 29), (28, a_stk (q_int (-1)) 29), (29, a_iret)]
def fX12_byteAt (kn : sKn) : List Value → sW → Option sR := fW (tX12_byteAt kn) 2
set_option maxRecDepth 100000 in
set_option maxHeartbeats 4000000 in
theorem mX12_byteAt (kn : sKn) : mM kn yX12_byteAt (Cond.code yX12_byteAt cX12_byteAt 2 (some .int) :: wsL_law) 2 false (fX12_byteAt kn) := mM_W (fun n => mM_of (own := RX12) (ini := false) rfl (by decide +kernel) (by decide +kernel) (all_c (ok_aload_n dX12_byteAt_0 rfl) (all_c (ok_stk (s_iconst dX12_byteAt_1 (by decide))) (all_c (okp_X12_0 kw1114 dX12_byteAt_2) (all_c (ok_iload_n dX12_byteAt_5 rfl) (all_c (ok_stk (s_iconst dX12_byteAt_6 (by decide))) (all_c (ok_aload_n dX12_byteAt_7 rfl) (all_c (okg_X12_49 kw1399 dX12_byteAt_8) (all_c (ok_stk (s_iconst dX12_byteAt_11 (by decide))) (all_c (ok_stk (s_isub dX12_byteAt_12)) (all_c (okc_X12_isIn (by decide) kw1126 dX12_byteAt_13) (all_c (ok_if_eq dX12_byteAt_16 (by decide)) (all_c (ok_aload_n dX12_byteAt_19 rfl) (all_c (okg_X12_48 kw1400 dX12_byteAt_20) (all_c (ok_iload_n dX12_byteAt_23 rfl) (all_c (ok_iald dX12_byteAt_24) (all_c (ok_goto dX12_byteAt_25 (by decide)) (all_c (ok_stk (s_iconst dX12_byteAt_28 (by decide))) (all_c (ok_iret dX12_byteAt_29) all_n)))))))))))))))))) n (fun h => by first | rfl | cases h))
theorem dX12_canCut_0 : decode cX12_canCut 0 = .ok (.iload_n 2, 1) := by decide +kernel
theorem dX12_canCut_1 : decode cX12_canCut 1 = .ok (.iload_n 3, 1) := by decide +kernel
theorem dX12_canCut_2 : decode cX12_canCut 2 = .ok (.if_icmp .ne 17, 3) := by decide +kernel
theorem dX12_canCut_5 : decode cX12_canCut 5 = .ok (.aload_n 0, 1) := by decide +kernel
theorem dX12_canCut_6 : decode cX12_canCut 6 = .ok (.iload_n 1, 1) := by decide +kernel
theorem dX12_canCut_7 : decode cX12_canCut 7 = .ok (.invokevirtual 334, 3) := by decide +kernel
theorem dX12_canCut_10 : decode cX12_canCut 10 = .ok (.ifCond .ne 7, 3) := by decide +kernel
theorem dX12_canCut_13 : decode cX12_canCut 13 = .ok (.iconst 1, 1) := by decide +kernel
theorem dX12_canCut_14 : decode cX12_canCut 14 = .ok (.goto 4, 3) := by decide +kernel
theorem dX12_canCut_17 : decode cX12_canCut 17 = .ok (.iconst 0, 1) := by decide +kernel
theorem dX12_canCut_18 : decode cX12_canCut 18 = .ok (.ireturn, 1) := by decide +kernel
theorem dX12_canCut_19 : decode cX12_canCut 19 = .ok (.iload 4, 2) := by decide +kernel
theorem dX12_canCut_21 : decode cX12_canCut 21 = .ok (.istore 5, 2) := by decide +kernel
theorem dX12_canCut_23 : decode cX12_canCut 23 = .ok (.iload 5, 2) := by decide +kernel
theorem dX12_canCut_25 : decode cX12_canCut 25 = .ok (.aload_n 0, 1) := by decide +kernel
theorem dX12_canCut_26 : decode cX12_canCut 26 = .ok (.invokevirtual 264, 3) := by decide +kernel
theorem dX12_canCut_29 : decode cX12_canCut 29 = .ok (.if_icmp .ge 79, 3) := by decide +kernel
theorem dX12_canCut_32 : decode cX12_canCut 32 = .ok (.aload_n 0, 1) := by decide +kernel
theorem dX12_canCut_33 : decode cX12_canCut 33 = .ok (.getfield 127, 3) := by decide +kernel
theorem dX12_canCut_36 : decode cX12_canCut 36 = .ok (.iload 5, 2) := by decide +kernel
theorem dX12_canCut_38 : decode cX12_canCut 38 = .ok (.iaload, 1) := by decide +kernel
theorem dX12_canCut_39 : decode cX12_canCut 39 = .ok (.iconst (-1), 1) := by decide +kernel
theorem dX12_canCut_40 : decode cX12_canCut 40 = .ok (.if_icmp .ne 6, 3) := by decide +kernel
theorem dX12_canCut_43 : decode cX12_canCut 43 = .ok (.goto 59, 3) := by decide +kernel
theorem dX12_canCut_46 : decode cX12_canCut 46 = .ok (.aload_n 0, 1) := by decide +kernel
theorem dX12_canCut_47 : decode cX12_canCut 47 = .ok (.getfield 127, 3) := by decide +kernel
theorem dX12_canCut_50 : decode cX12_canCut 50 = .ok (.iload 5, 2) := by decide +kernel
theorem dX12_canCut_52 : decode cX12_canCut 52 = .ok (.iaload, 1) := by decide +kernel
theorem dX12_canCut_53 : decode cX12_canCut 53 = .ok (.istore 6, 2) := by decide +kernel
theorem dX12_canCut_55 : decode cX12_canCut 55 = .ok (.aload_n 0, 1) := by decide +kernel
theorem dX12_canCut_56 : decode cX12_canCut 56 = .ok (.getfield 127, 3) := by decide +kernel
theorem dX12_canCut_59 : decode cX12_canCut 59 = .ok (.iload 5, 2) := by decide +kernel
theorem dX12_canCut_61 : decode cX12_canCut 61 = .ok (.iconst (-1), 1) := by decide +kernel
theorem dX12_canCut_62 : decode cX12_canCut 62 = .ok (.iastore, 1) := by decide +kernel
theorem dX12_canCut_63 : decode cX12_canCut 63 = .ok (.aload_n 0, 1) := by decide +kernel
theorem dX12_canCut_64 : decode cX12_canCut 64 = .ok (.getfield 148, 3) := by decide +kernel
theorem dX12_canCut_67 : decode cX12_canCut 67 = .ok (.iload_n 2, 1) := by decide +kernel
theorem dX12_canCut_68 : decode cX12_canCut 68 = .ok (.iload 5, 2) := by decide +kernel
theorem dX12_canCut_70 : decode cX12_canCut 70 = .ok (.iastore, 1) := by decide +kernel
theorem dX12_canCut_71 : decode cX12_canCut 71 = .ok (.aload_n 0, 1) := by decide +kernel
theorem dX12_canCut_72 : decode cX12_canCut 72 = .ok (.iload_n 1, 1) := by decide +kernel
theorem dX12_canCut_73 : decode cX12_canCut 73 = .ok (.iload_n 2, 1) := by decide +kernel
theorem dX12_canCut_74 : decode cX12_canCut 74 = .ok (.iconst 1, 1) := by decide +kernel
theorem dX12_canCut_75 : decode cX12_canCut 75 = .ok (.iadd, 1) := by decide +kernel
theorem dX12_canCut_76 : decode cX12_canCut 76 = .ok (.iload_n 3, 1) := by decide +kernel
theorem dX12_canCut_77 : decode cX12_canCut 77 = .ok (.iload 5, 2) := by decide +kernel
theorem dX12_canCut_79 : decode cX12_canCut 79 = .ok (.iconst 1, 1) := by decide +kernel
theorem dX12_canCut_80 : decode cX12_canCut 80 = .ok (.iadd, 1) := by decide +kernel
theorem dX12_canCut_81 : decode cX12_canCut 81 = .ok (.invokevirtual 386, 3) := by decide +kernel
theorem dX12_canCut_84 : decode cX12_canCut 84 = .ok (.istore 7, 2) := by decide +kernel
theorem dX12_canCut_86 : decode cX12_canCut 86 = .ok (.aload_n 0, 1) := by decide +kernel
theorem dX12_canCut_87 : decode cX12_canCut 87 = .ok (.getfield 127, 3) := by decide +kernel
theorem dX12_canCut_90 : decode cX12_canCut 90 = .ok (.iload 5, 2) := by decide +kernel
theorem dX12_canCut_92 : decode cX12_canCut 92 = .ok (.iload 6, 2) := by decide +kernel
theorem dX12_canCut_94 : decode cX12_canCut 94 = .ok (.iastore, 1) := by decide +kernel
theorem dX12_canCut_95 : decode cX12_canCut 95 = .ok (.iload 7, 2) := by decide +kernel
theorem dX12_canCut_97 : decode cX12_canCut 97 = .ok (.ifCond .eq 5, 3) := by decide +kernel
theorem dX12_canCut_100 : decode cX12_canCut 100 = .ok (.iconst 1, 1) := by decide +kernel
theorem dX12_canCut_101 : decode cX12_canCut 101 = .ok (.ireturn, 1) := by decide +kernel
theorem dX12_canCut_102 : decode cX12_canCut 102 = .ok (.iinc 5 1, 3) := by decide +kernel
theorem dX12_canCut_105 : decode cX12_canCut 105 = .ok (.goto (-82), 3) := by decide +kernel
theorem dX12_canCut_108 : decode cX12_canCut 108 = .ok (.iconst 0, 1) := by decide +kernel
theorem dX12_canCut_109 : decode cX12_canCut 109 = .ok (.ireturn, 1) := by decide +kernel
def tX12_canCut_g (kn : sKn) (g : List Value → sW → Option sR) : List (Nat × sA) := [(0, a_iload 2 1), (1, a_iload 3 2), (2, a_icmp kn b_ne 1 19 5), (5, a_aload 0 6), (6, a_iload 1 7), (7, a_callV false (fX12_hasPath kn) 13 2 10), (10, a_if kn b_ne 1 17 13), (13, a_stk (q_int 1) 14), (14, a_goto 18), (17, a_stk (q_int 0) 18), (18, a_zret), (19, a_iload 4 21), (21, a_istore 5 23), (23, a_iload 5 25), (25, a_aload 0 26), (26, a_callV false (fX12_places kn) 13 1 29), (29, a_icmp kn b_ge 3 108 32), (32, a_aload 0 33), (33, a_get 13 27 36), (36, a_iload 5 38), (38, a_iald 39), (39, a_stk (q_int (-1)) 40), (40, a_icmp kn b_ne 1 46 43), (43, a_goto 102), (46, a_aload 0 47), (47, a_get 13 27 50), (50, a_iload 5 52), (52, a_iald 53), (53, a_istore 6 55), (55, a_aload 0 56), (56, a_get 13 27 59), (59, a_iload 5 61), (61, a_stk (q_int (-1)) 62), (62, a_iast 63), (63, a_aload 0 64), (64, a_get 13 37 67), (67, a_iload 2 68), (68, a_iload 5 70), (70, a_iast 71), (71, a_aload 0 72), (72, a_iload 1 73), (73, a_iload 2 74), (74, a_stk (q_int 1) 75), (75, a_stk q_iadd 76), (76, a_iload 3 77), (77, a_iload 5 79), (79, a_stk (q_int 1) 80), (80, a_stk q_iadd 81), (81, a_callV false g 13 5 84), (84, a_istore 7 86), (86, a_aload 0 87), (87, a_get 13 27 90), (90, a_iload 5 92), (92, a_iload 6 94), (94, a_iast 95), (95, a_iload 7 97), (97, a_if kn b_eq 0 102 100), (100, a_stk (q_int 1) 101), (101, a_zret), (102, a_iinc 5 1 105), (105, a_goto 23), (108, a_stk (q_int 0) 109), (109, a_zret)]
def fX12_canCut_g (kn : sKn) (g : List Value → sW → Option sR) : List Value → sW → Option sR := fW (tX12_canCut_g kn g) 8
set_option maxRecDepth 100000 in
set_option maxHeartbeats 4000000 in
theorem mX12_canCut_g (kn : sKn) {g : List Value → sW → Option sR} {Dg : Nat} (hg : mM kn yX12_canCut (Cond.code yX12_canCut cX12_canCut 8 (some .boolean) :: wsL_law) Dg false g) : mM kn yX12_canCut (Cond.code yX12_canCut cX12_canCut 8 (some .boolean) :: wsL_law) (Dg + 9) false (fX12_canCut_g kn g) := mM_W (fun n => mM_of (own := RX12) (ini := false) rfl (by decide +kernel) (by decide +kernel) (all_c (ok_iload_n dX12_canCut_0 rfl) (all_c (ok_iload_n dX12_canCut_1 rfl) (all_c (ok_icmp_ne dX12_canCut_2 (by first | decide | omega)) (all_c (ok_aload_n dX12_canCut_5 rfl) (all_c (ok_iload_n dX12_canCut_6 rfl) (all_c (okc_X12_hasPath (by first | decide | omega) kw1113 dX12_canCut_7) (all_c (ok_if_ne dX12_canCut_10 (by first | decide | omega)) (all_c (ok_stk (s_iconst dX12_canCut_13 (by first | decide | omega))) (all_c (ok_goto dX12_canCut_14 (by first | decide | omega)) (all_c (ok_stk (s_iconst dX12_canCut_17 (by first | decide | omega))) (all_c (ok_zret dX12_canCut_18) (all_c (ok_iload dX12_canCut_19) (all_c (ok_istore dX12_canCut_21 (by first | decide | omega)) (all_c (ok_iload dX12_canCut_23) (all_c (ok_aload_n dX12_canCut_25 rfl) (all_c (okc_X12_places (by first | decide | omega) kw1200 dX12_canCut_26) (all_c (ok_icmp_ge dX12_canCut_29 (by first | decide | omega)) (all_c (ok_aload_n dX12_canCut_32 rfl) (all_c (okg_X12_27 kw1068 dX12_canCut_33) (all_c (ok_iload dX12_canCut_36) (all_c (ok_iald dX12_canCut_38) (all_c (ok_stk (s_iconst dX12_canCut_39 (by first | decide | omega))) (all_c (ok_icmp_ne dX12_canCut_40 (by first | decide | omega)) (all_c (ok_goto dX12_canCut_43 (by first | decide | omega)) (all_c (ok_aload_n dX12_canCut_46 rfl) (all_c (okg_X12_27 kw1068 dX12_canCut_47) (all_c (ok_iload dX12_canCut_50) (all_c (ok_iald dX12_canCut_52) (all_c (ok_istore dX12_canCut_53 (by first | decide | omega)) (all_c (ok_aload_n dX12_canCut_55 rfl) (all_c (okg_X12_27 kw1068 dX12_canCut_56) (all_c (ok_iload dX12_canCut_59) (all_c (ok_stk (s_iconst dX12_canCut_61 (by first | decide | omega))) (all_c (ok_iast dX12_canCut_62) (all_c (ok_aload_n dX12_canCut_63 rfl) (all_c (okg_X12_37 kw1401 dX12_canCut_64) (all_c (ok_iload_n dX12_canCut_67 rfl) (all_c (ok_iload dX12_canCut_68) (all_c (ok_iast dX12_canCut_70) (all_c (ok_aload_n dX12_canCut_71 rfl) (all_c (ok_iload_n dX12_canCut_72 rfl) (all_c (ok_iload_n dX12_canCut_73 rfl) (all_c (ok_stk (s_iconst dX12_canCut_74 (by first | decide | omega))) (all_c (ok_stk (s_iadd dX12_canCut_75)) (all_c (ok_iload_n dX12_canCut_76 rfl) (all_c (ok_iload dX12_canCut_77) (all_c (ok_stk (s_iconst dX12_canCut_79 (by first | decide | omega))) (all_c (ok_stk (s_iadd dX12_canCut_80)) (all_c (ok_callV hg (good_ws ws_good (fun _ h => h) kw1404) (by first | decide | omega) (by first | decide | omega) kw1405 kw1402 kw1403 kw1072 ⟨by decide +kernel, by decide +kernel, by decide +kernel⟩ rfl dX12_canCut_81) (all_c (ok_istore dX12_canCut_84 (by first | decide | omega)) (all_c (ok_aload_n dX12_canCut_86 rfl) (all_c (okg_X12_27 kw1068 dX12_canCut_87) (all_c (ok_iload dX12_canCut_90) (all_c (ok_iload dX12_canCut_92) (all_c (ok_iast dX12_canCut_94) (all_c (ok_iload dX12_canCut_95) (all_c (ok_if_eq dX12_canCut_97 (by first | decide | omega)) (all_c (ok_stk (s_iconst dX12_canCut_100 (by first | decide | omega))) (all_c (ok_zret dX12_canCut_101) (all_c (ok_iinc dX12_canCut_102 (by first | decide | omega) (by first | decide | omega)) (all_c (ok_goto dX12_canCut_105 (by first | decide | omega)) (all_c (ok_stk (s_iconst dX12_canCut_108 (by first | decide | omega))) (all_c (ok_zret dX12_canCut_109) all_n))))))))))))))))))))))))))))))))))))))))))))))))))))))))))))))) n (fun h => by first | rfl | cases h))
def fX12_canCut_n (kn : sKn) (n : Nat) : List Value → sW → Option sR := Nat.rec (motive := fun _ => List Value → sW → Option sR) f_none (fun _ g => fX12_canCut_g kn g) n
theorem mX12_canCut_n (kn : sKn) : ∀ n, mM kn yX12_canCut (Cond.code yX12_canCut cX12_canCut 8 (some .boolean) :: wsL_law) (n * 9) false (fX12_canCut_n kn n) := by
  intro n
  induction n with
  | zero => exact m_none
  | succ n ih =>
    have h := mX12_canCut_g kn ih
    rw [Nat.succ_mul]
    exact h
def fX12_canCut (kn : sKn) : List Value → sW → Option sR := fX12_canCut_n kn 5
theorem mX12_canCut (kn : sKn) : mM kn yX12_canCut (Cond.code yX12_canCut cX12_canCut 8 (some .boolean) :: wsL_law) 45 false (fX12_canCut kn) := mX12_canCut_n kn 5
end
