noncomputable section
theorem dJ2_newBytesLength_0f7a4_0 : decode cJ2_newBytesLength_0f7a4 0 = .ok (.iload_n 0, 1) := by decide +kernel
theorem dJ2_newBytesLength_0f7a4_1 : decode cJ2_newBytesLength_0f7a4 1 = .ok (.ifCond .ge 11, 3) := by decide +kernel
theorem dJ2_newBytesLength_0f7a4_4 : decode cJ2_newBytesLength_0f7a4 4 = .ok (.new 17, 3) := by decide +kernel
theorem dJ2_newBytesLength_0f7a4_7 : decode cJ2_newBytesLength_0f7a4 7 = .ok (.dup, 1) := by decide +kernel
theorem dJ2_newBytesLength_0f7a4_8 : decode cJ2_newBytesLength_0f7a4 8 = .ok (.invokespecial 19, 3) := by decide +kernel
theorem dJ2_newBytesLength_0f7a4_11 : decode cJ2_newBytesLength_0f7a4 11 = .ok (.athrow, 1) := by decide +kernel
theorem dJ2_newBytesLength_0f7a4_12 : decode cJ2_newBytesLength_0f7a4 12 = .ok (.iload_n 0, 1) := by decide +kernel
theorem dJ2_newBytesLength_0f7a4_13 : decode cJ2_newBytesLength_0f7a4 13 = .ok (.ldc 20, 2) := by decide +kernel
theorem dJ2_newBytesLength_0f7a4_15 : decode cJ2_newBytesLength_0f7a4 15 = .ok (.if_icmp .lt 40, 3) := by decide +kernel
theorem dJ2_newBytesLength_0f7a4_18 : decode cJ2_newBytesLength_0f7a4 18 = .ok (.new 21, 3) := by decide +kernel
theorem dJ2_newBytesLength_0f7a4_21 : decode cJ2_newBytesLength_0f7a4 21 = .ok (.dup, 1) := by decide +kernel
theorem dJ2_newBytesLength_0f7a4_22 : decode cJ2_newBytesLength_0f7a4 22 = .ok (.new 23, 3) := by decide +kernel
theorem dJ2_newBytesLength_0f7a4_25 : decode cJ2_newBytesLength_0f7a4 25 = .ok (.dup, 1) := by decide +kernel
theorem dJ2_newBytesLength_0f7a4_26 : decode cJ2_newBytesLength_0f7a4 26 = .ok (.invokespecial 25, 3) := by decide +kernel
theorem dJ2_newBytesLength_0f7a4_29 : decode cJ2_newBytesLength_0f7a4 29 = .ok (.ldc 26, 2) := by decide +kernel
theorem dJ2_newBytesLength_0f7a4_31 : decode cJ2_newBytesLength_0f7a4 31 = .ok (.invokevirtual 28, 3) := by decide +kernel
theorem dJ2_newBytesLength_0f7a4_34 : decode cJ2_newBytesLength_0f7a4 34 = .ok (.iload_n 0, 1) := by decide +kernel
theorem dJ2_newBytesLength_0f7a4_35 : decode cJ2_newBytesLength_0f7a4 35 = .ok (.invokevirtual 32, 3) := by decide +kernel
theorem dJ2_newBytesLength_0f7a4_38 : decode cJ2_newBytesLength_0f7a4 38 = .ok (.ldc 35, 2) := by decide +kernel
theorem dJ2_newBytesLength_0f7a4_40 : decode cJ2_newBytesLength_0f7a4 40 = .ok (.invokevirtual 28, 3) := by decide +kernel
theorem dJ2_newBytesLength_0f7a4_43 : decode cJ2_newBytesLength_0f7a4 43 = .ok (.ldc 20, 2) := by decide +kernel
theorem dJ2_newBytesLength_0f7a4_45 : decode cJ2_newBytesLength_0f7a4 45 = .ok (.invokevirtual 32, 3) := by decide +kernel
theorem dJ2_newBytesLength_0f7a4_48 : decode cJ2_newBytesLength_0f7a4 48 = .ok (.invokevirtual 37, 3) := by decide +kernel
theorem dJ2_newBytesLength_0f7a4_51 : decode cJ2_newBytesLength_0f7a4 51 = .ok (.invokespecial 41, 3) := by decide +kernel
theorem dJ2_newBytesLength_0f7a4_54 : decode cJ2_newBytesLength_0f7a4 54 = .ok (.athrow, 1) := by decide +kernel
theorem dJ2_newBytesLength_0f7a4_55 : decode cJ2_newBytesLength_0f7a4 55 = .ok (.iload_n 0, 1) := by decide +kernel
theorem dJ2_newBytesLength_0f7a4_56 : decode cJ2_newBytesLength_0f7a4 56 = .ok (.iconst 1, 1) := by decide +kernel
theorem dJ2_newBytesLength_0f7a4_57 : decode cJ2_newBytesLength_0f7a4 57 = .ok (.ishl, 1) := by decide +kernel
theorem dJ2_newBytesLength_0f7a4_58 : decode cJ2_newBytesLength_0f7a4 58 = .ok (.ireturn, 1) := by decide +kernel
def tJ2_newBytesLength_0f7a4 (kn : sKn) : List (Nat × sA) := [(0, a_iload 0 1), (1, a_if kn b_ge 3 12 4), (4, a_none), (7, a_stk q_dup 8), (8, a_none), (11, a_none), (12, a_iload 0 13), (13, a_stk (q_int (1073741823)) 15), (15, a_icmp kn b_lt 2 55 18), (18, a_none), (21, a_stk q_dup 22), (22, a_none), (25, a_stk q_dup 26), (26, a_none), (29, a_none), (31, a_none), (34, a_iload 0 35), (35, a_none), (38, a_none), (40, a_none), (43, a_stk (q_int (1073741823)) 45), (45, a_none), (48, a_none), (51, a_none), (54, a_none), (55, a_iload 0 56), (56, a_stk (q_int 1) 57), (57, a_stk q_ishl 58), (58, a_iret)]
def fJ2_newBytesLength_0f7a4 (kn : sKn) : List Value → sW → Option sR := mF (tJ2_newBytesLength_0f7a4 kn) 1 1000000
set_option maxRecDepth 100000 in
set_option maxHeartbeats 4000000 in
theorem mJ2_newBytesLength_0f7a4 (kn : sKn) : mM kn yJ2_newBytesLength_0f7a4 (Cond.code yJ2_newBytesLength_0f7a4 cJ2_newBytesLength_0f7a4 1 (some .int) :: wsL_law0) 1 false (fJ2_newBytesLength_0f7a4 kn) := mM_of (own := RJ2) (ini := false) rfl (by decide +kernel) (by decide +kernel) (all_c (ok_iload_n dJ2_newBytesLength_0f7a4_0 rfl) (all_c (ok_if_ge dJ2_newBytesLength_0f7a4_1 (by decide)) (all_c (ok_none) (all_c (ok_stk (s_dup dJ2_newBytesLength_0f7a4_7)) (all_c (ok_none) (all_c (ok_none) (all_c (ok_iload_n dJ2_newBytesLength_0f7a4_12 rfl) (all_c (ok_ldc kw1 dJ2_newBytesLength_0f7a4_13) (all_c (ok_icmp_lt dJ2_newBytesLength_0f7a4_15 (by decide)) (all_c (ok_none) (all_c (ok_stk (s_dup dJ2_newBytesLength_0f7a4_21)) (all_c (ok_none) (all_c (ok_stk (s_dup dJ2_newBytesLength_0f7a4_25)) (all_c (ok_none) (all_c (ok_none) (all_c (ok_none) (all_c (ok_iload_n dJ2_newBytesLength_0f7a4_34 rfl) (all_c (ok_none) (all_c (ok_none) (all_c (ok_none) (all_c (ok_ldc kw1 dJ2_newBytesLength_0f7a4_43) (all_c (ok_none) (all_c (ok_none) (all_c (ok_none) (all_c (ok_none) (all_c (ok_iload_n dJ2_newBytesLength_0f7a4_55 rfl) (all_c (ok_stk (s_iconst dJ2_newBytesLength_0f7a4_56 (by decide))) (all_c (ok_stk (s_ishl dJ2_newBytesLength_0f7a4_57)) (all_c (ok_iret dJ2_newBytesLength_0f7a4_58) all_n))))))))))))))))))))))))))))) 1000000 (fun h => by first | rfl | cases h)
theorem dJ2_newBytesFor_77867_0 : decode cJ2_newBytesFor_77867 0 = .ok (.iload_n 0, 1) := by decide +kernel
theorem dJ2_newBytesFor_77867_1 : decode cJ2_newBytesFor_77867 1 = .ok (.invokestatic 11, 3) := by decide +kernel
theorem dJ2_newBytesFor_77867_4 : decode cJ2_newBytesFor_77867 4 = .ok (.newarray .byte, 2) := by decide +kernel
theorem dJ2_newBytesFor_77867_6 : decode cJ2_newBytesFor_77867 6 = .ok (.areturn, 1) := by decide +kernel
theorem okc_J2_newBytesLength_0f7a4 {kn : sKn} {cc : ByteArray} {own : String} {nL : Nat} {D : Nat} {ret : Option FieldType} {ini : Bool} {pc index : Nat} (hD : 1 + 1 ≤ D) (hl : Cond.methodLink own index yJ2_newBytesLength_0f7a4 ∈ wsL_law0) (hd : decode cc pc = .ok (.invokestatic index, 3)) : mOk kn cc own nL wsL_law0 D ret ini pc (a_callS false (fJ2_newBytesLength_0f7a4 kn) 1 (pc + 3)) := ok_callS (mJ2_newBytesLength_0f7a4 kn) (good_ws ws_good (fun _ h => h) kw2) hD (by decide) hl kw4 kw3 ⟨by decide +kernel, by decide +kernel, by decide +kernel⟩ hd
def tJ2_newBytesFor_77867 (kn : sKn) : List (Nat × sA) := [(0, a_iload 0 1), (1, a_callS false (fJ2_newBytesLength_0f7a4 kn) 1 4), (4, a_newa 0 6), (6, a_aret)]
def fJ2_newBytesFor_77867 (kn : sKn) : List Value → sW → Option sR := mF (tJ2_newBytesFor_77867 kn) 1 1000000
set_option maxRecDepth 100000 in
set_option maxHeartbeats 4000000 in
theorem mJ2_newBytesFor_77867 (kn : sKn) : mM kn yJ2_newBytesFor_77867 (Cond.code yJ2_newBytesFor_77867 cJ2_newBytesFor_77867 1 (some (.array .byte)) :: wsL_law0) 2 false (fJ2_newBytesFor_77867 kn) := mM_of (own := RJ2) (ini := false) rfl (by decide +kernel) (by decide +kernel) (all_c (ok_iload_n dJ2_newBytesFor_77867_0 rfl) (all_c (okc_J2_newBytesLength_0f7a4 (by decide) kw5 dJ2_newBytesFor_77867_1) (all_c (ok_newB kw6 dJ2_newBytesFor_77867_4) (all_c (ok_aret (by first | exact Or.inl ⟨_, rfl⟩ | exact Or.inr ⟨_, rfl⟩) dJ2_newBytesFor_77867_6) all_n)))) 1000000 (fun h => by first | rfl | cases h)
theorem dJ5_init_d00df_0 : decode cJ5_init_d00df 0 = .ok (.aload_n 0, 1) := by decide +kernel
theorem dJ5_init_d00df_1 : decode cJ5_init_d00df 1 = .ok (.invokespecial 3, 3) := by decide +kernel
theorem dJ5_init_d00df_4 : decode cJ5_init_d00df 4 = .ok (.getstatic 18, 3) := by decide +kernel
theorem dJ5_init_d00df_7 : decode cJ5_init_d00df 7 = .ok (.ifCond .eq 18, 3) := by decide +kernel
theorem dJ5_init_d00df_10 : decode cJ5_init_d00df 10 = .ok (.aload_n 0, 1) := by decide +kernel
theorem dJ5_init_d00df_11 : decode cJ5_init_d00df 11 = .ok (.iload_n 1, 1) := by decide +kernel
theorem dJ5_init_d00df_12 : decode cJ5_init_d00df 12 = .ok (.newarray .byte, 2) := by decide +kernel
theorem dJ5_init_d00df_14 : decode cJ5_init_d00df 14 = .ok (.putfield 15, 3) := by decide +kernel
theorem dJ5_init_d00df_17 : decode cJ5_init_d00df 17 = .ok (.aload_n 0, 1) := by decide +kernel
theorem dJ5_init_d00df_18 : decode cJ5_init_d00df 18 = .ok (.iconst 0, 1) := by decide +kernel
theorem dJ5_init_d00df_19 : decode cJ5_init_d00df 19 = .ok (.putfield 22, 3) := by decide +kernel
theorem dJ5_init_d00df_22 : decode cJ5_init_d00df 22 = .ok (.goto 16, 3) := by decide +kernel
theorem dJ5_init_d00df_25 : decode cJ5_init_d00df 25 = .ok (.aload_n 0, 1) := by decide +kernel
theorem dJ5_init_d00df_26 : decode cJ5_init_d00df 26 = .ok (.iload_n 1, 1) := by decide +kernel
theorem dJ5_init_d00df_27 : decode cJ5_init_d00df 27 = .ok (.invokestatic 26, 3) := by decide +kernel
theorem dJ5_init_d00df_30 : decode cJ5_init_d00df 30 = .ok (.putfield 15, 3) := by decide +kernel
theorem dJ5_init_d00df_33 : decode cJ5_init_d00df 33 = .ok (.aload_n 0, 1) := by decide +kernel
theorem dJ5_init_d00df_34 : decode cJ5_init_d00df 34 = .ok (.iconst 1, 1) := by decide +kernel
theorem dJ5_init_d00df_35 : decode cJ5_init_d00df 35 = .ok (.putfield 22, 3) := by decide +kernel
theorem dJ5_init_d00df_38 : decode cJ5_init_d00df 38 = .ok (.return_, 1) := by decide +kernel
theorem okc_J2_newBytesFor_77867 {kn : sKn} {cc : ByteArray} {own : String} {nL : Nat} {D : Nat} {ret : Option FieldType} {ini : Bool} {pc index : Nat} (hD : 2 + 1 ≤ D) (hl : Cond.methodLink own index yJ2_newBytesFor_77867 ∈ wsL_law0) (hd : decode cc pc = .ok (.invokestatic index, 3)) : mOk kn cc own nL wsL_law0 D ret ini pc (a_callS false (fJ2_newBytesFor_77867 kn) 1 (pc + 3)) := ok_callS (mJ2_newBytesFor_77867 kn) (good_ws ws_good (fun _ h => h) kw13) hD (by decide) hl kw14 kw3 ⟨by decide +kernel, by decide +kernel, by decide +kernel⟩ hd
def tJ5_init_d00df (kn : sKn) : List (Nat × sA) := [(0, a_aload 0 1), (1, a_obj 4), (4, a_getsI 1 7), (7, a_if kn b_eq 0 25 10), (10, a_aload 0 11), (11, a_iload 1 12), (12, a_newa 0 14), (14, a_put 0 0 ckR 17), (17, a_aload 0 18), (18, a_stk (q_int 0) 19), (19, a_put 0 1 ckB 22), (22, a_goto 38), (25, a_aload 0 26), (26, a_iload 1 27), (27, a_callS false (fJ2_newBytesFor_77867 kn) 1 30), (30, a_put 0 0 ckR 33), (33, a_aload 0 34), (34, a_stk (q_int 1) 35), (35, a_put 0 1 ckB 38), (38, a_vret)]
def fJ5_init_d00df (kn : sKn) : List Value → sW → Option sR := mF (tJ5_init_d00df kn) 2 1000000
set_option maxRecDepth 100000 in
set_option maxHeartbeats 4000000 in
theorem mJ5_init_d00df (kn : sKn) : mM kn yJ5_init_d00df (Cond.code yJ5_init_d00df cJ5_init_d00df 2 none :: wsL_law0) 3 true (fJ5_init_d00df kn) := mM_of (own := RJ5) (ini := true) rfl (by decide +kernel) (by decide +kernel) (all_c (ok_aload_n dJ5_init_d00df_0 rfl) (all_c (ok_obj (by decide) kw7 kw8 kw9 dJ5_init_d00df_1) (all_c (ok_compact kw10 dJ5_init_d00df_4) (all_c (ok_if_eq dJ5_init_d00df_7 (by decide)) (all_c (ok_aload_n dJ5_init_d00df_10 rfl) (all_c (ok_iload_n dJ5_init_d00df_11 rfl) (all_c (ok_newB kw6 dJ5_init_d00df_12) (all_c (okp_J4_0 kw11 dJ5_init_d00df_14) (all_c (ok_aload_n dJ5_init_d00df_17 rfl) (all_c (ok_stk (s_iconst dJ5_init_d00df_18 (by decide))) (all_c (okp_J4_1 kw12 dJ5_init_d00df_19) (all_c (ok_goto dJ5_init_d00df_22 (by decide)) (all_c (ok_aload_n dJ5_init_d00df_25 rfl) (all_c (ok_iload_n dJ5_init_d00df_26 rfl) (all_c (okc_J2_newBytesFor_77867 (by decide) kw15 dJ5_init_d00df_27) (all_c (okp_J4_0 kw11 dJ5_init_d00df_30) (all_c (ok_aload_n dJ5_init_d00df_33 rfl) (all_c (ok_stk (s_iconst dJ5_init_d00df_34 (by decide))) (all_c (okp_J4_1 kw12 dJ5_init_d00df_35) (all_c (ok_vret dJ5_init_d00df_38) all_n)))))))))))))))))))) 1000000 (fun h => by first | rfl | cases h)
theorem dJ4_init_da8c8_0 : decode cJ4_init_da8c8 0 = .ok (.aload_n 0, 1) := by decide +kernel
theorem dJ4_init_da8c8_1 : decode cJ4_init_da8c8 1 = .ok (.bipush 16, 2) := by decide +kernel
theorem dJ4_init_da8c8_3 : decode cJ4_init_da8c8 3 = .ok (.invokespecial 1, 3) := by decide +kernel
theorem dJ4_init_da8c8_6 : decode cJ4_init_da8c8 6 = .ok (.return_, 1) := by decide +kernel
theorem okc_J5_init_d00df {kn : sKn} {cc : ByteArray} {own : String} {nL : Nat} {D : Nat} {ret : Option FieldType} {ini : Bool} {pc index : Nat} (hD : 3 + 1 ≤ D) (hl : Cond.methodLink own index yJ5_init_d00df ∈ wsL_law0) (hd : decode cc pc = .ok (.invokespecial index, 3)) : mOk kn cc own nL wsL_law0 D ret ini pc (a_callI true (fJ5_init_d00df kn) (1 + 1) (pc + 3)) := ok_callI (mJ5_init_d00df kn) (good_ws ws_good (fun _ h => h) kw16) hD (by decide) hl kw18 rfl kw17 ⟨by decide +kernel, by decide +kernel, by decide +kernel⟩ hd
def tJ4_init_da8c8 (kn : sKn) : List (Nat × sA) := [(0, a_aload 0 1), (1, a_stk (q_int 16) 3), (3, a_callI true (fJ5_init_d00df kn) 2 6), (6, a_vret)]
def fJ4_init_da8c8 (kn : sKn) : List Value → sW → Option sR := mF (tJ4_init_da8c8 kn) 1 1000000
set_option maxRecDepth 100000 in
set_option maxHeartbeats 4000000 in
theorem mJ4_init_da8c8 (kn : sKn) : mM kn yJ4_init_da8c8 (Cond.code yJ4_init_da8c8 cJ4_init_da8c8 1 none :: wsL_law0) 4 true (fJ4_init_da8c8 kn) := mM_of (own := RJ4) (ini := true) rfl (by decide +kernel) (by decide +kernel) (all_c (ok_aload_n dJ4_init_da8c8_0 rfl) (all_c (ok_stk (s_bipush dJ4_init_da8c8_1 (by decide))) (all_c (okc_J5_init_d00df (by decide) kw19 dJ4_init_da8c8_3) (all_c (ok_vret dJ4_init_da8c8_6) all_n)))) 1000000 (fun h => by first | rfl | cases h)
theorem dJ7_fill_53178_0 : decode cJ7_fill_53178 0 = .ok (.iconst 0, 1) := by decide +kernel
theorem dJ7_fill_53178_1 : decode cJ7_fill_53178 1 = .ok (.istore_n 2, 1) := by decide +kernel
theorem dJ7_fill_53178_2 : decode cJ7_fill_53178 2 = .ok (.aload_n 0, 1) := by decide +kernel
theorem dJ7_fill_53178_3 : decode cJ7_fill_53178 3 = .ok (.arraylength, 1) := by decide +kernel
theorem dJ7_fill_53178_4 : decode cJ7_fill_53178 4 = .ok (.istore_n 3, 1) := by decide +kernel
theorem dJ7_fill_53178_5 : decode cJ7_fill_53178 5 = .ok (.iload_n 2, 1) := by decide +kernel
theorem dJ7_fill_53178_6 : decode cJ7_fill_53178 6 = .ok (.iload_n 3, 1) := by decide +kernel
theorem dJ7_fill_53178_7 : decode cJ7_fill_53178 7 = .ok (.if_icmp .ge 13, 3) := by decide +kernel
theorem dJ7_fill_53178_10 : decode cJ7_fill_53178 10 = .ok (.aload_n 0, 1) := by decide +kernel
theorem dJ7_fill_53178_11 : decode cJ7_fill_53178 11 = .ok (.iload_n 2, 1) := by decide +kernel
theorem dJ7_fill_53178_12 : decode cJ7_fill_53178 12 = .ok (.iload_n 1, 1) := by decide +kernel
theorem dJ7_fill_53178_13 : decode cJ7_fill_53178 13 = .ok (.iastore, 1) := by decide +kernel
theorem dJ7_fill_53178_14 : decode cJ7_fill_53178 14 = .ok (.iinc 2 1, 3) := by decide +kernel
theorem dJ7_fill_53178_17 : decode cJ7_fill_53178 17 = .ok (.goto (-12), 3) := by decide +kernel
theorem dJ7_fill_53178_20 : decode cJ7_fill_53178 20 = .ok (.return_, 1) := by decide +kernel
def tJ7_fill_53178 (kn : sKn) : List (Nat × sA) := [(0, a_stk (q_int 0) 1), (1, a_istore 2 2), (2, a_aload 0 3), (3, a_alen 4), (4, a_istore 3 5), (5, a_iload 2 6), (6, a_iload 3 7), (7, a_icmp kn b_ge 3 20 10), (10, a_aload 0 11), (11, a_iload 2 12), (12, a_iload 1 13), (13, a_iast 14), (14, a_iinc 2 1 17), (17, a_goto 5), (20, a_vret)]
def fJ7_fill_53178 (kn : sKn) : List Value → sW → Option sR := mF (tJ7_fill_53178 kn) 4 1000000
set_option maxRecDepth 100000 in
set_option maxHeartbeats 4000000 in
theorem mJ7_fill_53178 (kn : sKn) : mM kn yJ7_fill_53178 (Cond.code yJ7_fill_53178 cJ7_fill_53178 4 none :: wsL_law0) 1 true (fJ7_fill_53178 kn) := mM_of (own := RJ7) (ini := false) rfl (by decide +kernel) (by decide +kernel) (all_c (ok_stk (s_iconst dJ7_fill_53178_0 (by decide))) (all_c (ok_istore_n dJ7_fill_53178_1 rfl (by decide)) (all_c (ok_aload_n dJ7_fill_53178_2 rfl) (all_c (ok_alen dJ7_fill_53178_3) (all_c (ok_istore_n dJ7_fill_53178_4 rfl (by decide)) (all_c (ok_iload_n dJ7_fill_53178_5 rfl) (all_c (ok_iload_n dJ7_fill_53178_6 rfl) (all_c (ok_icmp_ge dJ7_fill_53178_7 (by decide)) (all_c (ok_aload_n dJ7_fill_53178_10 rfl) (all_c (ok_iload_n dJ7_fill_53178_11 rfl) (all_c (ok_iload_n dJ7_fill_53178_12 rfl) (all_c (ok_iast dJ7_fill_53178_13) (all_c (ok_iinc dJ7_fill_53178_14 (by decide) (by decide)) (all_c (ok_goto dJ7_fill_53178_17 (by decide)) (all_c (ok_vret dJ7_fill_53178_20) all_n))))))))))))))) 1000000 (fun h => by first | rfl | cases h)
theorem dX8_init_0 : decode cX8_init 0 = .ok (.aload_n 0, 1) := by decide +kernel
theorem dX8_init_1 : decode cX8_init 1 = .ok (.invokespecial 3, 3) := by decide +kernel
theorem dX8_init_4 : decode cX8_init 4 = .ok (.aload_n 0, 1) := by decide +kernel
theorem dX8_init_5 : decode cX8_init 5 = .ok (.bipush 10, 2) := by decide +kernel
theorem dX8_init_7 : decode cX8_init 7 = .ok (.newarray .int, 2) := by decide +kernel
theorem dX8_init_9 : decode cX8_init 9 = .ok (.putfield 9, 3) := by decide +kernel
theorem dX8_init_12 : decode cX8_init 12 = .ok (.aload_n 0, 1) := by decide +kernel
theorem dX8_init_13 : decode cX8_init 13 = .ok (.bipush 10, 2) := by decide +kernel
theorem dX8_init_15 : decode cX8_init 15 = .ok (.newarray .int, 2) := by decide +kernel
theorem dX8_init_17 : decode cX8_init 17 = .ok (.putfield 15, 3) := by decide +kernel
theorem dX8_init_20 : decode cX8_init 20 = .ok (.aload_n 0, 1) := by decide +kernel
theorem dX8_init_21 : decode cX8_init 21 = .ok (.bipush 10, 2) := by decide +kernel
theorem dX8_init_23 : decode cX8_init 23 = .ok (.newarray .int, 2) := by decide +kernel
theorem dX8_init_25 : decode cX8_init 25 = .ok (.putfield 18, 3) := by decide +kernel
theorem dX8_init_28 : decode cX8_init 28 = .ok (.aload_n 0, 1) := by decide +kernel
theorem dX8_init_29 : decode cX8_init 29 = .ok (.bipush 36, 2) := by decide +kernel
theorem dX8_init_31 : decode cX8_init 31 = .ok (.newarray .int, 2) := by decide +kernel
theorem dX8_init_33 : decode cX8_init 33 = .ok (.putfield 21, 3) := by decide +kernel
theorem dX8_init_36 : decode cX8_init 36 = .ok (.aload_n 0, 1) := by decide +kernel
theorem dX8_init_37 : decode cX8_init 37 = .ok (.bipush 36, 2) := by decide +kernel
theorem dX8_init_39 : decode cX8_init 39 = .ok (.newarray .int, 2) := by decide +kernel
theorem dX8_init_41 : decode cX8_init 41 = .ok (.putfield 24, 3) := by decide +kernel
theorem dX8_init_44 : decode cX8_init 44 = .ok (.aload_n 0, 1) := by decide +kernel
theorem dX8_init_45 : decode cX8_init 45 = .ok (.bipush 6, 2) := by decide +kernel
theorem dX8_init_47 : decode cX8_init 47 = .ok (.newarray .int, 2) := by decide +kernel
theorem dX8_init_49 : decode cX8_init 49 = .ok (.putfield 27, 3) := by decide +kernel
theorem dX8_init_52 : decode cX8_init 52 = .ok (.aload_n 0, 1) := by decide +kernel
theorem dX8_init_53 : decode cX8_init 53 = .ok (.getfield 15, 3) := by decide +kernel
theorem dX8_init_56 : decode cX8_init 56 = .ok (.iconst (-1), 1) := by decide +kernel
theorem dX8_init_57 : decode cX8_init 57 = .ok (.invokestatic 30, 3) := by decide +kernel
theorem dX8_init_60 : decode cX8_init 60 = .ok (.aload_n 0, 1) := by decide +kernel
theorem dX8_init_61 : decode cX8_init 61 = .ok (.getfield 21, 3) := by decide +kernel
theorem dX8_init_64 : decode cX8_init 64 = .ok (.iconst (-1), 1) := by decide +kernel
theorem dX8_init_65 : decode cX8_init 65 = .ok (.invokestatic 30, 3) := by decide +kernel
theorem dX8_init_68 : decode cX8_init 68 = .ok (.return_, 1) := by decide +kernel
theorem okc_J7_fill_53178 {kn : sKn} {cc : ByteArray} {own : String} {nL : Nat} {D : Nat} {ret : Option FieldType} {ini : Bool} {pc index : Nat} (hD : 1 + 1 ≤ D) (hl : Cond.methodLink own index yJ7_fill_53178 ∈ wsL_law0) (hd : decode cc pc = .ok (.invokestatic index, 3)) : mOk kn cc own nL wsL_law0 D ret ini pc (a_callS true (fJ7_fill_53178 kn) 2 (pc + 3)) := ok_callS (mJ7_fill_53178 kn) (good_ws ws_good (fun _ h => h) kw28) hD (by decide) hl kw30 kw29 ⟨by decide +kernel, by decide +kernel, by decide +kernel⟩ hd
def tX8_init (kn : sKn) : List (Nat × sA) := [(0, a_aload 0 1), (1, a_obj 4), (4, a_aload 0 5), (5, a_stk (q_int 10) 7), (7, a_newa 1 9), (9, a_put 9 3 ckR 12), (12, a_aload 0 13), (13, a_stk (q_int 10) 15), (15, a_newa 1 17), (17, a_put 9 4 ckR 20), (20, a_aload 0 21), (21, a_stk (q_int 10) 23), (23, a_newa 1 25), (25, a_put 9 5 ckR 28), (28, a_aload 0 29), (29, a_stk (q_int 36) 31), (31, a_newa 1 33), (33, a_put 9 6 ckR 36), (36, a_aload 0 37), (37, a_stk (q_int 36) 39), (39, a_newa 1 41), (41, a_put 9 7 ckR 44), (44, a_aload 0 45), (45, a_stk (q_int 6) 47), (47, a_newa 1 49), (49, a_put 9 8 ckR 52), (52, a_aload 0 53), (53, a_get 9 4 56), (56, a_stk (q_int (-1)) 57), (57, a_callS true (fJ7_fill_53178 kn) 2 60), (60, a_aload 0 61), (61, a_get 9 6 64), (64, a_stk (q_int (-1)) 65), (65, a_callS true (fJ7_fill_53178 kn) 2 68), (68, a_vret)]
def fX8_init (kn : sKn) : List Value → sW → Option sR := mF (tX8_init kn) 1 1000000
set_option maxRecDepth 100000 in
set_option maxHeartbeats 4000000 in
theorem mX8_init (kn : sKn) : mM kn yX8_init (Cond.code yX8_init cX8_init 1 none :: wsL_law0) 2 true (fX8_init kn) := mM_of (own := RX8) (ini := true) rfl (by decide +kernel) (by decide +kernel) (all_c (ok_aload_n dX8_init_0 rfl) (all_c (ok_obj (by decide) kw20 kw8 kw9 dX8_init_1) (all_c (ok_aload_n dX8_init_4 rfl) (all_c (ok_stk (s_bipush dX8_init_5 (by decide))) (all_c (ok_newI kw21 dX8_init_7) (all_c (okp_X8_3 kw22 dX8_init_9) (all_c (ok_aload_n dX8_init_12 rfl) (all_c (ok_stk (s_bipush dX8_init_13 (by decide))) (all_c (ok_newI kw21 dX8_init_15) (all_c (okp_X8_4 kw23 dX8_init_17) (all_c (ok_aload_n dX8_init_20 rfl) (all_c (ok_stk (s_bipush dX8_init_21 (by decide))) (all_c (ok_newI kw21 dX8_init_23) (all_c (okp_X8_5 kw24 dX8_init_25) (all_c (ok_aload_n dX8_init_28 rfl) (all_c (ok_stk (s_bipush dX8_init_29 (by decide))) (all_c (ok_newI kw21 dX8_init_31) (all_c (okp_X8_6 kw25 dX8_init_33) (all_c (ok_aload_n dX8_init_36 rfl) (all_c (ok_stk (s_bipush dX8_init_37 (by decide))) (all_c (ok_newI kw21 dX8_init_39) (all_c (okp_X8_7 kw26 dX8_init_41) (all_c (ok_aload_n dX8_init_44 rfl) (all_c (ok_stk (s_bipush dX8_init_45 (by decide))) (all_c (ok_newI kw21 dX8_init_47) (all_c (okp_X8_8 kw27 dX8_init_49) (all_c (ok_aload_n dX8_init_52 rfl) (all_c (okg_X8_4 kw23 dX8_init_53) (all_c (ok_stk (s_iconst dX8_init_56 (by decide))) (all_c (okc_J7_fill_53178 (by decide) kw31 dX8_init_57) (all_c (ok_aload_n dX8_init_60 rfl) (all_c (okg_X8_6 kw25 dX8_init_61) (all_c (ok_stk (s_iconst dX8_init_64 (by decide))) (all_c (okc_J7_fill_53178 (by decide) kw31 dX8_init_65) (all_c (ok_vret dX8_init_68) all_n))))))))))))))))))))))))))))))))))) 1000000 (fun h => by first | rfl | cases h)
theorem dX0_init_0 : decode cX0_init 0 = .ok (.aload_n 0, 1) := by decide +kernel
theorem dX0_init_1 : decode cX0_init 1 = .ok (.invokespecial 3, 3) := by decide +kernel
theorem dX0_init_4 : decode cX0_init 4 = .ok (.aload_n 0, 1) := by decide +kernel
theorem dX0_init_5 : decode cX0_init 5 = .ok (.new 9, 3) := by decide +kernel
theorem dX0_init_8 : decode cX0_init 8 = .ok (.dup, 1) := by decide +kernel
theorem dX0_init_9 : decode cX0_init 9 = .ok (.invokespecial 11, 3) := by decide +kernel
theorem dX0_init_12 : decode cX0_init 12 = .ok (.putfield 12, 3) := by decide +kernel
theorem dX0_init_15 : decode cX0_init 15 = .ok (.aload_n 0, 1) := by decide +kernel
theorem dX0_init_16 : decode cX0_init 16 = .ok (.bipush 48, 2) := by decide +kernel
theorem dX0_init_18 : decode cX0_init 18 = .ok (.newarray .int, 2) := by decide +kernel
theorem dX0_init_20 : decode cX0_init 20 = .ok (.putfield 18, 3) := by decide +kernel
theorem dX0_init_23 : decode cX0_init 23 = .ok (.aload_n 0, 1) := by decide +kernel
theorem dX0_init_24 : decode cX0_init 24 = .ok (.bipush 48, 2) := by decide +kernel
theorem dX0_init_26 : decode cX0_init 26 = .ok (.newarray .int, 2) := by decide +kernel
theorem dX0_init_28 : decode cX0_init 28 = .ok (.putfield 22, 3) := by decide +kernel
theorem dX0_init_31 : decode cX0_init 31 = .ok (.aload_n 0, 1) := by decide +kernel
theorem dX0_init_32 : decode cX0_init 32 = .ok (.sipush 144, 3) := by decide +kernel
theorem dX0_init_35 : decode cX0_init 35 = .ok (.newarray .int, 2) := by decide +kernel
theorem dX0_init_37 : decode cX0_init 37 = .ok (.putfield 25, 3) := by decide +kernel
theorem dX0_init_40 : decode cX0_init 40 = .ok (.aload_n 0, 1) := by decide +kernel
theorem dX0_init_41 : decode cX0_init 41 = .ok (.bipush 36, 2) := by decide +kernel
theorem dX0_init_43 : decode cX0_init 43 = .ok (.newarray .int, 2) := by decide +kernel
theorem dX0_init_45 : decode cX0_init 45 = .ok (.putfield 28, 3) := by decide +kernel
theorem dX0_init_48 : decode cX0_init 48 = .ok (.aload_n 0, 1) := by decide +kernel
theorem dX0_init_49 : decode cX0_init 49 = .ok (.getfield 28, 3) := by decide +kernel
theorem dX0_init_52 : decode cX0_init 52 = .ok (.iconst (-1), 1) := by decide +kernel
theorem dX0_init_53 : decode cX0_init 53 = .ok (.invokestatic 31, 3) := by decide +kernel
theorem dX0_init_56 : decode cX0_init 56 = .ok (.return_, 1) := by decide +kernel
theorem okc_X8_init {kn : sKn} {cc : ByteArray} {own : String} {nL : Nat} {D : Nat} {ret : Option FieldType} {ini : Bool} {pc index : Nat} (hD : 2 + 1 ≤ D) (hl : Cond.methodLink own index yX8_init ∈ wsL_law0) (hd : decode cc pc = .ok (.invokespecial index, 3)) : mOk kn cc own nL wsL_law0 D ret ini pc (a_callI true (fX8_init kn) (0 + 1) (pc + 3)) := ok_callI (mX8_init kn) (good_ws ws_good (fun _ h => h) kw34) hD (by decide) hl kw36 rfl kw35 ⟨by decide +kernel, by decide +kernel, by decide +kernel⟩ hd
def tX0_init (kn : sKn) : List (Nat × sA) := [(0, a_aload 0 1), (1, a_obj 4), (4, a_aload 0 5), (5, a_new 9 8 [.int 0, .int 0, .int 0, .null, .null, .null, .null, .null, .null]), (8, a_stk q_dup 9), (9, a_callI true (fX8_init kn) 1 12), (12, a_put 1 0 ckR 15), (15, a_aload 0 16), (16, a_stk (q_int 48) 18), (18, a_newa 1 20), (20, a_put 1 1 ckR 23), (23, a_aload 0 24), (24, a_stk (q_int 48) 26), (26, a_newa 1 28), (28, a_put 1 2 ckR 31), (31, a_aload 0 32), (32, a_stk (q_int 144) 35), (35, a_newa 1 37), (37, a_put 1 3 ckR 40), (40, a_aload 0 41), (41, a_stk (q_int 36) 43), (43, a_newa 1 45), (45, a_put 1 4 ckR 48), (48, a_aload 0 49), (49, a_get 1 4 52), (52, a_stk (q_int (-1)) 53), (53, a_callS true (fJ7_fill_53178 kn) 2 56), (56, a_vret)]
def fX0_init (kn : sKn) : List Value → sW → Option sR := mF (tX0_init kn) 1 1000000
set_option maxRecDepth 100000 in
set_option maxHeartbeats 4000000 in
theorem mX0_init (kn : sKn) : mM kn yX0_init (Cond.code yX0_init cX0_init 1 none :: wsL_law0) 3 true (fX0_init kn) := mM_of (own := RX0) (ini := true) rfl (by decide +kernel) (by decide +kernel) (all_c (ok_aload_n dX0_init_0 rfl) (all_c (ok_obj (by decide) kw32 kw8 kw9 dX0_init_1) (all_c (ok_aload_n dX0_init_4 rfl) (all_c (okn_X8 kw33 dX0_init_5) (all_c (ok_stk (s_dup dX0_init_8)) (all_c (okc_X8_init (by decide) kw37 dX0_init_9) (all_c (okp_X0_0 kw38 dX0_init_12) (all_c (ok_aload_n dX0_init_15 rfl) (all_c (ok_stk (s_bipush dX0_init_16 (by decide))) (all_c (ok_newI kw21 dX0_init_18) (all_c (okp_X0_1 kw39 dX0_init_20) (all_c (ok_aload_n dX0_init_23 rfl) (all_c (ok_stk (s_bipush dX0_init_24 (by decide))) (all_c (ok_newI kw21 dX0_init_26) (all_c (okp_X0_2 kw40 dX0_init_28) (all_c (ok_aload_n dX0_init_31 rfl) (all_c (ok_stk (s_sipush dX0_init_32 (by decide))) (all_c (ok_newI kw21 dX0_init_35) (all_c (okp_X0_3 kw41 dX0_init_37) (all_c (ok_aload_n dX0_init_40 rfl) (all_c (ok_stk (s_bipush dX0_init_41 (by decide))) (all_c (ok_newI kw21 dX0_init_43) (all_c (okp_X0_4 kw42 dX0_init_45) (all_c (ok_aload_n dX0_init_48 rfl) (all_c (okg_X0_4 kw42 dX0_init_49) (all_c (ok_stk (s_iconst dX0_init_52 (by decide))) (all_c (okc_J7_fill_53178 (by decide) kw43 dX0_init_53) (all_c (ok_vret dX0_init_56) all_n)))))))))))))))))))))))))))) 1000000 (fun h => by first | rfl | cases h)
theorem dX10_init_0 : decode cX10_init 0 = .ok (.aload_n 0, 1) := by decide +kernel
theorem dX10_init_1 : decode cX10_init 1 = .ok (.invokespecial 3, 3) := by decide +kernel
theorem dX10_init_4 : decode cX10_init 4 = .ok (.aload_n 0, 1) := by decide +kernel
theorem dX10_init_5 : decode cX10_init 5 = .ok (.bipush 36, 2) := by decide +kernel
theorem dX10_init_7 : decode cX10_init 7 = .ok (.newarray .int, 2) := by decide +kernel
theorem dX10_init_9 : decode cX10_init 9 = .ok (.putfield 9, 3) := by decide +kernel
theorem dX10_init_12 : decode cX10_init 12 = .ok (.aload_n 0, 1) := by decide +kernel
theorem dX10_init_13 : decode cX10_init 13 = .ok (.bipush 48, 2) := by decide +kernel
theorem dX10_init_15 : decode cX10_init 15 = .ok (.newarray .int, 2) := by decide +kernel
theorem dX10_init_17 : decode cX10_init 17 = .ok (.putfield 15, 3) := by decide +kernel
theorem dX10_init_20 : decode cX10_init 20 = .ok (.aload_n 0, 1) := by decide +kernel
theorem dX10_init_21 : decode cX10_init 21 = .ok (.bipush 48, 2) := by decide +kernel
theorem dX10_init_23 : decode cX10_init 23 = .ok (.newarray .int, 2) := by decide +kernel
theorem dX10_init_25 : decode cX10_init 25 = .ok (.putfield 18, 3) := by decide +kernel
theorem dX10_init_28 : decode cX10_init 28 = .ok (.aload_n 0, 1) := by decide +kernel
theorem dX10_init_29 : decode cX10_init 29 = .ok (.bipush 12, 2) := by decide +kernel
theorem dX10_init_31 : decode cX10_init 31 = .ok (.newarray .int, 2) := by decide +kernel
theorem dX10_init_33 : decode cX10_init 33 = .ok (.putfield 21, 3) := by decide +kernel
theorem dX10_init_36 : decode cX10_init 36 = .ok (.return_, 1) := by decide +kernel
def tX10_init (kn : sKn) : List (Nat × sA) := [(0, a_aload 0 1), (1, a_obj 4), (4, a_aload 0 5), (5, a_stk (q_int 36) 7), (7, a_newa 1 9), (9, a_put 11 0 ckR 12), (12, a_aload 0 13), (13, a_stk (q_int 48) 15), (15, a_newa 1 17), (17, a_put 11 1 ckR 20), (20, a_aload 0 21), (21, a_stk (q_int 48) 23), (23, a_newa 1 25), (25, a_put 11 2 ckR 28), (28, a_aload 0 29), (29, a_stk (q_int 12) 31), (31, a_newa 1 33), (33, a_put 11 3 ckR 36), (36, a_vret)]
def fX10_init (kn : sKn) : List Value → sW → Option sR := mF (tX10_init kn) 1 1000000
set_option maxRecDepth 100000 in
set_option maxHeartbeats 4000000 in
theorem mX10_init (kn : sKn) : mM kn yX10_init (Cond.code yX10_init cX10_init 1 none :: wsL_law0) 1 true (fX10_init kn) := mM_of (own := RX10) (ini := true) rfl (by decide +kernel) (by decide +kernel) (all_c (ok_aload_n dX10_init_0 rfl) (all_c (ok_obj (by decide) kw44 kw8 kw9 dX10_init_1) (all_c (ok_aload_n dX10_init_4 rfl) (all_c (ok_stk (s_bipush dX10_init_5 (by decide))) (all_c (ok_newI kw21 dX10_init_7) (all_c (okp_X10_0 kw45 dX10_init_9) (all_c (ok_aload_n dX10_init_12 rfl) (all_c (ok_stk (s_bipush dX10_init_13 (by decide))) (all_c (ok_newI kw21 dX10_init_15) (all_c (okp_X10_1 kw46 dX10_init_17) (all_c (ok_aload_n dX10_init_20 rfl) (all_c (ok_stk (s_bipush dX10_init_21 (by decide))) (all_c (ok_newI kw21 dX10_init_23) (all_c (okp_X10_2 kw47 dX10_init_25) (all_c (ok_aload_n dX10_init_28 rfl) (all_c (ok_stk (s_bipush dX10_init_29 (by decide))) (all_c (ok_newI kw21 dX10_init_31) (all_c (okp_X10_3 kw48 dX10_init_33) (all_c (ok_vret dX10_init_36) all_n))))))))))))))))))) 1000000 (fun h => by first | rfl | cases h)
theorem dX1_init_0 : decode cX1_init 0 = .ok (.aload_n 0, 1) := by decide +kernel
theorem dX1_init_1 : decode cX1_init 1 = .ok (.invokespecial 3, 3) := by decide +kernel
theorem dX1_init_4 : decode cX1_init 4 = .ok (.aload_n 0, 1) := by decide +kernel
theorem dX1_init_5 : decode cX1_init 5 = .ok (.bipush 40, 2) := by decide +kernel
theorem dX1_init_7 : decode cX1_init 7 = .ok (.newarray .int, 2) := by decide +kernel
theorem dX1_init_9 : decode cX1_init 9 = .ok (.putfield 11, 3) := by decide +kernel
theorem dX1_init_12 : decode cX1_init 12 = .ok (.aload_n 0, 1) := by decide +kernel
theorem dX1_init_13 : decode cX1_init 13 = .ok (.bipush 40, 2) := by decide +kernel
theorem dX1_init_15 : decode cX1_init 15 = .ok (.newarray .int, 2) := by decide +kernel
theorem dX1_init_17 : decode cX1_init 17 = .ok (.putfield 15, 3) := by decide +kernel
theorem dX1_init_20 : decode cX1_init 20 = .ok (.aload_n 0, 1) := by decide +kernel
theorem dX1_init_21 : decode cX1_init 21 = .ok (.bipush 40, 2) := by decide +kernel
theorem dX1_init_23 : decode cX1_init 23 = .ok (.newarray .int, 2) := by decide +kernel
theorem dX1_init_25 : decode cX1_init 25 = .ok (.putfield 18, 3) := by decide +kernel
theorem dX1_init_28 : decode cX1_init 28 = .ok (.aload_n 0, 1) := by decide +kernel
theorem dX1_init_29 : decode cX1_init 29 = .ok (.bipush 40, 2) := by decide +kernel
theorem dX1_init_31 : decode cX1_init 31 = .ok (.newarray .int, 2) := by decide +kernel
theorem dX1_init_33 : decode cX1_init 33 = .ok (.putfield 21, 3) := by decide +kernel
theorem dX1_init_36 : decode cX1_init 36 = .ok (.aload_n 0, 1) := by decide +kernel
theorem dX1_init_37 : decode cX1_init 37 = .ok (.iconst 4, 1) := by decide +kernel
theorem dX1_init_38 : decode cX1_init 38 = .ok (.newarray .int, 2) := by decide +kernel
theorem dX1_init_40 : decode cX1_init 40 = .ok (.dup, 1) := by decide +kernel
theorem dX1_init_41 : decode cX1_init 41 = .ok (.iconst 0, 1) := by decide +kernel
theorem dX1_init_42 : decode cX1_init 42 = .ok (.iconst (-1), 1) := by decide +kernel
theorem dX1_init_43 : decode cX1_init 43 = .ok (.iastore, 1) := by decide +kernel
theorem dX1_init_44 : decode cX1_init 44 = .ok (.dup, 1) := by decide +kernel
theorem dX1_init_45 : decode cX1_init 45 = .ok (.iconst 1, 1) := by decide +kernel
theorem dX1_init_46 : decode cX1_init 46 = .ok (.iconst (-1), 1) := by decide +kernel
theorem dX1_init_47 : decode cX1_init 47 = .ok (.iastore, 1) := by decide +kernel
theorem dX1_init_48 : decode cX1_init 48 = .ok (.dup, 1) := by decide +kernel
theorem dX1_init_49 : decode cX1_init 49 = .ok (.iconst 2, 1) := by decide +kernel
theorem dX1_init_50 : decode cX1_init 50 = .ok (.iconst (-1), 1) := by decide +kernel
theorem dX1_init_51 : decode cX1_init 51 = .ok (.iastore, 1) := by decide +kernel
theorem dX1_init_52 : decode cX1_init 52 = .ok (.dup, 1) := by decide +kernel
theorem dX1_init_53 : decode cX1_init 53 = .ok (.iconst 3, 1) := by decide +kernel
theorem dX1_init_54 : decode cX1_init 54 = .ok (.iconst (-1), 1) := by decide +kernel
theorem dX1_init_55 : decode cX1_init 55 = .ok (.iastore, 1) := by decide +kernel
theorem dX1_init_56 : decode cX1_init 56 = .ok (.putfield 24, 3) := by decide +kernel
theorem dX1_init_59 : decode cX1_init 59 = .ok (.return_, 1) := by decide +kernel
def tX1_init (kn : sKn) : List (Nat × sA) := [(0, a_aload 0 1), (1, a_obj 4), (4, a_aload 0 5), (5, a_stk (q_int 40) 7), (7, a_newa 1 9), (9, a_put 2 0 ckR 12), (12, a_aload 0 13), (13, a_stk (q_int 40) 15), (15, a_newa 1 17), (17, a_put 2 1 ckR 20), (20, a_aload 0 21), (21, a_stk (q_int 40) 23), (23, a_newa 1 25), (25, a_put 2 2 ckR 28), (28, a_aload 0 29), (29, a_stk (q_int 40) 31), (31, a_newa 1 33), (33, a_put 2 3 ckR 36), (36, a_aload 0 37), (37, a_stk (q_int 4) 38), (38, a_newa 1 40), (40, a_stk q_dup 41), (41, a_stk (q_int 0) 42), (42, a_stk (q_int (-1)) 43), (43, a_iast 44), (44, a_stk q_dup 45), (45, a_stk (q_int 1) 46), (46, a_stk (q_int (-1)) 47), (47, a_iast 48), (48, a_stk q_dup 49), (49, a_stk (q_int 2) 50), (50, a_stk (q_int (-1)) 51), (51, a_iast 52), (52, a_stk q_dup 53), (53, a_stk (q_int 3) 54), (54, a_stk (q_int (-1)) 55), (55, a_iast 56), (56, a_put 2 5 ckR 59), (59, a_vret)]
def fX1_init (kn : sKn) : List Value → sW → Option sR := mF (tX1_init kn) 1 1000000
set_option maxRecDepth 100000 in
set_option maxHeartbeats 4000000 in
theorem mX1_init (kn : sKn) : mM kn yX1_init (Cond.code yX1_init cX1_init 1 none :: wsL_law0) 1 true (fX1_init kn) := mM_of (own := RX1) (ini := true) rfl (by decide +kernel) (by decide +kernel) (all_c (ok_aload_n dX1_init_0 rfl) (all_c (ok_obj (by decide) kw49 kw8 kw9 dX1_init_1) (all_c (ok_aload_n dX1_init_4 rfl) (all_c (ok_stk (s_bipush dX1_init_5 (by decide))) (all_c (ok_newI kw21 dX1_init_7) (all_c (okp_X1_0 kw50 dX1_init_9) (all_c (ok_aload_n dX1_init_12 rfl) (all_c (ok_stk (s_bipush dX1_init_13 (by decide))) (all_c (ok_newI kw21 dX1_init_15) (all_c (okp_X1_1 kw51 dX1_init_17) (all_c (ok_aload_n dX1_init_20 rfl) (all_c (ok_stk (s_bipush dX1_init_21 (by decide))) (all_c (ok_newI kw21 dX1_init_23) (all_c (okp_X1_2 kw52 dX1_init_25) (all_c (ok_aload_n dX1_init_28 rfl) (all_c (ok_stk (s_bipush dX1_init_29 (by decide))) (all_c (ok_newI kw21 dX1_init_31) (all_c (okp_X1_3 kw53 dX1_init_33) (all_c (ok_aload_n dX1_init_36 rfl) (all_c (ok_stk (s_iconst dX1_init_37 (by decide))) (all_c (ok_newI kw21 dX1_init_38) (all_c (ok_stk (s_dup dX1_init_40)) (all_c (ok_stk (s_iconst dX1_init_41 (by decide))) (all_c (ok_stk (s_iconst dX1_init_42 (by decide))) (all_c (ok_iast dX1_init_43) (all_c (ok_stk (s_dup dX1_init_44)) (all_c (ok_stk (s_iconst dX1_init_45 (by decide))) (all_c (ok_stk (s_iconst dX1_init_46 (by decide))) (all_c (ok_iast dX1_init_47) (all_c (ok_stk (s_dup dX1_init_48)) (all_c (ok_stk (s_iconst dX1_init_49 (by decide))) (all_c (ok_stk (s_iconst dX1_init_50 (by decide))) (all_c (ok_iast dX1_init_51) (all_c (ok_stk (s_dup dX1_init_52)) (all_c (ok_stk (s_iconst dX1_init_53 (by decide))) (all_c (ok_stk (s_iconst dX1_init_54 (by decide))) (all_c (ok_iast dX1_init_55) (all_c (okp_X1_5 kw54 dX1_init_56) (all_c (ok_vret dX1_init_59) all_n))))))))))))))))))))))))))))))))))))))) 1000000 (fun h => by first | rfl | cases h)
theorem dX6_clear_0 : decode cX6_clear 0 = .ok (.aload_n 0, 1) := by decide +kernel
theorem dX6_clear_1 : decode cX6_clear 1 = .ok (.iconst 4, 1) := by decide +kernel
theorem dX6_clear_2 : decode cX6_clear 2 = .ok (.putfield 43, 3) := by decide +kernel
theorem dX6_clear_5 : decode cX6_clear 5 = .ok (.aload_n 0, 1) := by decide +kernel
theorem dX6_clear_6 : decode cX6_clear 6 = .ok (.iconst 5, 1) := by decide +kernel
theorem dX6_clear_7 : decode cX6_clear 7 = .ok (.putfield 47, 3) := by decide +kernel
theorem dX6_clear_10 : decode cX6_clear 10 = .ok (.aload_n 0, 1) := by decide +kernel
theorem dX6_clear_11 : decode cX6_clear 11 = .ok (.iconst 0, 1) := by decide +kernel
theorem dX6_clear_12 : decode cX6_clear 12 = .ok (.putfield 50, 3) := by decide +kernel
theorem dX6_clear_15 : decode cX6_clear 15 = .ok (.aload_n 0, 1) := by decide +kernel
theorem dX6_clear_16 : decode cX6_clear 16 = .ok (.iconst 0, 1) := by decide +kernel
theorem dX6_clear_17 : decode cX6_clear 17 = .ok (.putfield 53, 3) := by decide +kernel
theorem dX6_clear_20 : decode cX6_clear 20 = .ok (.aload_n 0, 1) := by decide +kernel
theorem dX6_clear_21 : decode cX6_clear 21 = .ok (.iconst 0, 1) := by decide +kernel
theorem dX6_clear_22 : decode cX6_clear 22 = .ok (.putfield 56, 3) := by decide +kernel
theorem dX6_clear_25 : decode cX6_clear 25 = .ok (.aload_n 0, 1) := by decide +kernel
theorem dX6_clear_26 : decode cX6_clear 26 = .ok (.iconst 0, 1) := by decide +kernel
theorem dX6_clear_27 : decode cX6_clear 27 = .ok (.putfield 59, 3) := by decide +kernel
theorem dX6_clear_30 : decode cX6_clear 30 = .ok (.aload_n 0, 1) := by decide +kernel
theorem dX6_clear_31 : decode cX6_clear 31 = .ok (.getfield 22, 3) := by decide +kernel
theorem dX6_clear_34 : decode cX6_clear 34 = .ok (.iconst (-1), 1) := by decide +kernel
theorem dX6_clear_35 : decode cX6_clear 35 = .ok (.invokestatic 62, 3) := by decide +kernel
theorem dX6_clear_38 : decode cX6_clear 38 = .ok (.aload_n 0, 1) := by decide +kernel
theorem dX6_clear_39 : decode cX6_clear 39 = .ok (.getfield 25, 3) := by decide +kernel
theorem dX6_clear_42 : decode cX6_clear 42 = .ok (.iconst 0, 1) := by decide +kernel
theorem dX6_clear_43 : decode cX6_clear 43 = .ok (.invokestatic 62, 3) := by decide +kernel
theorem dX6_clear_46 : decode cX6_clear 46 = .ok (.aload_n 0, 1) := by decide +kernel
theorem dX6_clear_47 : decode cX6_clear 47 = .ok (.getfield 28, 3) := by decide +kernel
theorem dX6_clear_50 : decode cX6_clear 50 = .ok (.iconst (-1), 1) := by decide +kernel
theorem dX6_clear_51 : decode cX6_clear 51 = .ok (.invokestatic 62, 3) := by decide +kernel
theorem dX6_clear_54 : decode cX6_clear 54 = .ok (.return_, 1) := by decide +kernel
def tX6_clear (kn : sKn) : List (Nat × sA) := [(0, a_aload 0 1), (1, a_stk (q_int 4) 2), (2, a_put 7 0 ckI 5), (5, a_aload 0 6), (6, a_stk (q_int 5) 7), (7, a_put 7 1 ckI 10), (10, a_aload 0 11), (11, a_stk (q_int 0) 12), (12, a_put 7 2 ckI 15), (15, a_aload 0 16), (16, a_stk (q_int 0) 17), (17, a_put 7 3 ckI 20), (20, a_aload 0 21), (21, a_stk (q_int 0) 22), (22, a_put 7 4 ckI 25), (25, a_aload 0 26), (26, a_stk (q_int 0) 27), (27, a_put 7 5 ckI 30), (30, a_aload 0 31), (31, a_get 7 9 34), (34, a_stk (q_int (-1)) 35), (35, a_callS true (fJ7_fill_53178 kn) 2 38), (38, a_aload 0 39), (39, a_get 7 10 42), (42, a_stk (q_int 0) 43), (43, a_callS true (fJ7_fill_53178 kn) 2 46), (46, a_aload 0 47), (47, a_get 7 11 50), (50, a_stk (q_int (-1)) 51), (51, a_callS true (fJ7_fill_53178 kn) 2 54), (54, a_vret)]
def fX6_clear (kn : sKn) : List Value → sW → Option sR := mF (tX6_clear kn) 1 1000000
set_option maxRecDepth 100000 in
set_option maxHeartbeats 4000000 in
theorem mX6_clear (kn : sKn) : mM kn yX6_clear (Cond.code yX6_clear cX6_clear 1 none :: wsL_law0) 2 true (fX6_clear kn) := mM_of (own := RX6) (ini := false) rfl (by decide +kernel) (by decide +kernel) (all_c (ok_aload_n dX6_clear_0 rfl) (all_c (ok_stk (s_iconst dX6_clear_1 (by decide))) (all_c (okp_X6_0 kw55 dX6_clear_2) (all_c (ok_aload_n dX6_clear_5 rfl) (all_c (ok_stk (s_iconst dX6_clear_6 (by decide))) (all_c (okp_X6_1 kw56 dX6_clear_7) (all_c (ok_aload_n dX6_clear_10 rfl) (all_c (ok_stk (s_iconst dX6_clear_11 (by decide))) (all_c (okp_X6_2 kw57 dX6_clear_12) (all_c (ok_aload_n dX6_clear_15 rfl) (all_c (ok_stk (s_iconst dX6_clear_16 (by decide))) (all_c (okp_X6_3 kw58 dX6_clear_17) (all_c (ok_aload_n dX6_clear_20 rfl) (all_c (ok_stk (s_iconst dX6_clear_21 (by decide))) (all_c (okp_X6_4 kw59 dX6_clear_22) (all_c (ok_aload_n dX6_clear_25 rfl) (all_c (ok_stk (s_iconst dX6_clear_26 (by decide))) (all_c (okp_X6_5 kw60 dX6_clear_27) (all_c (ok_aload_n dX6_clear_30 rfl) (all_c (okg_X6_9 kw61 dX6_clear_31) (all_c (ok_stk (s_iconst dX6_clear_34 (by decide))) (all_c (okc_J7_fill_53178 (by decide) kw62 dX6_clear_35) (all_c (ok_aload_n dX6_clear_38 rfl) (all_c (okg_X6_10 kw63 dX6_clear_39) (all_c (ok_stk (s_iconst dX6_clear_42 (by decide))) (all_c (okc_J7_fill_53178 (by decide) kw62 dX6_clear_43) (all_c (ok_aload_n dX6_clear_46 rfl) (all_c (okg_X6_11 kw64 dX6_clear_47) (all_c (ok_stk (s_iconst dX6_clear_50 (by decide))) (all_c (okc_J7_fill_53178 (by decide) kw62 dX6_clear_51) (all_c (ok_vret dX6_clear_54) all_n))))))))))))))))))))))))))))))) 1000000 (fun h => by first | rfl | cases h)
theorem dX6_init_0 : decode cX6_init 0 = .ok (.aload_n 0, 1) := by decide +kernel
theorem dX6_init_1 : decode cX6_init 1 = .ok (.invokespecial 3, 3) := by decide +kernel
theorem dX6_init_4 : decode cX6_init 4 = .ok (.aload_n 0, 1) := by decide +kernel
theorem dX6_init_5 : decode cX6_init 5 = .ok (.bipush 10, 2) := by decide +kernel
theorem dX6_init_7 : decode cX6_init 7 = .ok (.newarray .long, 2) := by decide +kernel
theorem dX6_init_9 : decode cX6_init 9 = .ok (.putfield 9, 3) := by decide +kernel
theorem dX6_init_12 : decode cX6_init 12 = .ok (.aload_n 0, 1) := by decide +kernel
theorem dX6_init_13 : decode cX6_init 13 = .ok (.bipush 10, 2) := by decide +kernel
theorem dX6_init_15 : decode cX6_init 15 = .ok (.newarray .int, 2) := by decide +kernel
theorem dX6_init_17 : decode cX6_init 17 = .ok (.putfield 15, 3) := by decide +kernel
theorem dX6_init_20 : decode cX6_init 20 = .ok (.aload_n 0, 1) := by decide +kernel
theorem dX6_init_21 : decode cX6_init 21 = .ok (.bipush 10, 2) := by decide +kernel
theorem dX6_init_23 : decode cX6_init 23 = .ok (.newarray .int, 2) := by decide +kernel
theorem dX6_init_25 : decode cX6_init 25 = .ok (.putfield 19, 3) := by decide +kernel
theorem dX6_init_28 : decode cX6_init 28 = .ok (.aload_n 0, 1) := by decide +kernel
theorem dX6_init_29 : decode cX6_init 29 = .ok (.bipush 10, 2) := by decide +kernel
theorem dX6_init_31 : decode cX6_init 31 = .ok (.newarray .int, 2) := by decide +kernel
theorem dX6_init_33 : decode cX6_init 33 = .ok (.putfield 22, 3) := by decide +kernel
theorem dX6_init_36 : decode cX6_init 36 = .ok (.aload_n 0, 1) := by decide +kernel
theorem dX6_init_37 : decode cX6_init 37 = .ok (.bipush 10, 2) := by decide +kernel
theorem dX6_init_39 : decode cX6_init 39 = .ok (.newarray .int, 2) := by decide +kernel
theorem dX6_init_41 : decode cX6_init 41 = .ok (.putfield 25, 3) := by decide +kernel
theorem dX6_init_44 : decode cX6_init 44 = .ok (.aload_n 0, 1) := by decide +kernel
theorem dX6_init_45 : decode cX6_init 45 = .ok (.bipush 36, 2) := by decide +kernel
theorem dX6_init_47 : decode cX6_init 47 = .ok (.newarray .int, 2) := by decide +kernel
theorem dX6_init_49 : decode cX6_init 49 = .ok (.putfield 28, 3) := by decide +kernel
theorem dX6_init_52 : decode cX6_init 52 = .ok (.aload_n 0, 1) := by decide +kernel
theorem dX6_init_53 : decode cX6_init 53 = .ok (.bipush 6, 2) := by decide +kernel
theorem dX6_init_55 : decode cX6_init 55 = .ok (.newarray .long, 2) := by decide +kernel
theorem dX6_init_57 : decode cX6_init 57 = .ok (.putfield 31, 3) := by decide +kernel
theorem dX6_init_60 : decode cX6_init 60 = .ok (.aload_n 0, 1) := by decide +kernel
theorem dX6_init_61 : decode cX6_init 61 = .ok (.bipush 6, 2) := by decide +kernel
theorem dX6_init_63 : decode cX6_init 63 = .ok (.newarray .int, 2) := by decide +kernel
theorem dX6_init_65 : decode cX6_init 65 = .ok (.putfield 34, 3) := by decide +kernel
theorem dX6_init_68 : decode cX6_init 68 = .ok (.aload_n 0, 1) := by decide +kernel
theorem dX6_init_69 : decode cX6_init 69 = .ok (.bipush 6, 2) := by decide +kernel
theorem dX6_init_71 : decode cX6_init 71 = .ok (.newarray .int, 2) := by decide +kernel
theorem dX6_init_73 : decode cX6_init 73 = .ok (.putfield 37, 3) := by decide +kernel
theorem dX6_init_76 : decode cX6_init 76 = .ok (.aload_n 0, 1) := by decide +kernel
theorem dX6_init_77 : decode cX6_init 77 = .ok (.invokevirtual 40, 3) := by decide +kernel
theorem dX6_init_80 : decode cX6_init 80 = .ok (.return_, 1) := by decide +kernel
theorem okc_X6_clear {kn : sKn} {cc : ByteArray} {own : String} {nL : Nat} {D : Nat} {ret : Option FieldType} {ini : Bool} {pc index : Nat} (hD : 2 + 1 ≤ D) (hl : Cond.methodLink own index yX6_clear ∈ wsL_law0) (hd : decode cc pc = .ok (.invokevirtual index, 3)) : mOk kn cc own nL wsL_law0 D ret ini pc (a_callV true (fX6_clear kn) 7 (0 + 1) (pc + 3)) := ok_callV (mX6_clear kn) (good_ws ws_good (fun _ h => h) kw73) hD (by decide) hl kw75 kw76 kw74 ⟨by decide +kernel, by decide +kernel, by decide +kernel⟩ rfl hd
def tX6_init (kn : sKn) : List (Nat × sA) := [(0, a_aload 0 1), (1, a_obj 4), (4, a_aload 0 5), (5, a_stk (q_int 10) 7), (7, a_newa 2 9), (9, a_put 7 6 ckR 12), (12, a_aload 0 13), (13, a_stk (q_int 10) 15), (15, a_newa 1 17), (17, a_put 7 7 ckR 20), (20, a_aload 0 21), (21, a_stk (q_int 10) 23), (23, a_newa 1 25), (25, a_put 7 8 ckR 28), (28, a_aload 0 29), (29, a_stk (q_int 10) 31), (31, a_newa 1 33), (33, a_put 7 9 ckR 36), (36, a_aload 0 37), (37, a_stk (q_int 10) 39), (39, a_newa 1 41), (41, a_put 7 10 ckR 44), (44, a_aload 0 45), (45, a_stk (q_int 36) 47), (47, a_newa 1 49), (49, a_put 7 11 ckR 52), (52, a_aload 0 53), (53, a_stk (q_int 6) 55), (55, a_newa 2 57), (57, a_put 7 12 ckR 60), (60, a_aload 0 61), (61, a_stk (q_int 6) 63), (63, a_newa 1 65), (65, a_put 7 13 ckR 68), (68, a_aload 0 69), (69, a_stk (q_int 6) 71), (71, a_newa 1 73), (73, a_put 7 14 ckR 76), (76, a_aload 0 77), (77, a_callV true (fX6_clear kn) 7 1 80), (80, a_vret)]
def fX6_init (kn : sKn) : List Value → sW → Option sR := mF (tX6_init kn) 1 1000000
set_option maxRecDepth 100000 in
set_option maxHeartbeats 4000000 in
theorem mX6_init (kn : sKn) : mM kn yX6_init (Cond.code yX6_init cX6_init 1 none :: wsL_law0) 3 true (fX6_init kn) := mM_of (own := RX6) (ini := true) rfl (by decide +kernel) (by decide +kernel) (all_c (ok_aload_n dX6_init_0 rfl) (all_c (ok_obj (by decide) kw65 kw8 kw9 dX6_init_1) (all_c (ok_aload_n dX6_init_4 rfl) (all_c (ok_stk (s_bipush dX6_init_5 (by decide))) (all_c (ok_newJ kw66 dX6_init_7) (all_c (okp_X6_6 kw67 dX6_init_9) (all_c (ok_aload_n dX6_init_12 rfl) (all_c (ok_stk (s_bipush dX6_init_13 (by decide))) (all_c (ok_newI kw21 dX6_init_15) (all_c (okp_X6_7 kw68 dX6_init_17) (all_c (ok_aload_n dX6_init_20 rfl) (all_c (ok_stk (s_bipush dX6_init_21 (by decide))) (all_c (ok_newI kw21 dX6_init_23) (all_c (okp_X6_8 kw69 dX6_init_25) (all_c (ok_aload_n dX6_init_28 rfl) (all_c (ok_stk (s_bipush dX6_init_29 (by decide))) (all_c (ok_newI kw21 dX6_init_31) (all_c (okp_X6_9 kw61 dX6_init_33) (all_c (ok_aload_n dX6_init_36 rfl) (all_c (ok_stk (s_bipush dX6_init_37 (by decide))) (all_c (ok_newI kw21 dX6_init_39) (all_c (okp_X6_10 kw63 dX6_init_41) (all_c (ok_aload_n dX6_init_44 rfl) (all_c (ok_stk (s_bipush dX6_init_45 (by decide))) (all_c (ok_newI kw21 dX6_init_47) (all_c (okp_X6_11 kw64 dX6_init_49) (all_c (ok_aload_n dX6_init_52 rfl) (all_c (ok_stk (s_bipush dX6_init_53 (by decide))) (all_c (ok_newJ kw66 dX6_init_55) (all_c (okp_X6_12 kw70 dX6_init_57) (all_c (ok_aload_n dX6_init_60 rfl) (all_c (ok_stk (s_bipush dX6_init_61 (by decide))) (all_c (ok_newI kw21 dX6_init_63) (all_c (okp_X6_13 kw71 dX6_init_65) (all_c (ok_aload_n dX6_init_68 rfl) (all_c (ok_stk (s_bipush dX6_init_69 (by decide))) (all_c (ok_newI kw21 dX6_init_71) (all_c (okp_X6_14 kw72 dX6_init_73) (all_c (ok_aload_n dX6_init_76 rfl) (all_c (okc_X6_clear (by decide) kw77 dX6_init_77) (all_c (ok_vret dX6_init_80) all_n))))))))))))))))))))))))))))))))))))))))) 1000000 (fun h => by first | rfl | cases h)
theorem dX2_init_0 : decode cX2_init 0 = .ok (.aload_n 0, 1) := by decide +kernel
theorem dX2_init_1 : decode cX2_init 1 = .ok (.invokespecial 3, 3) := by decide +kernel
theorem dX2_init_4 : decode cX2_init 4 = .ok (.aload_n 0, 1) := by decide +kernel
theorem dX2_init_5 : decode cX2_init 5 = .ok (.new 9, 3) := by decide +kernel
theorem dX2_init_8 : decode cX2_init 8 = .ok (.dup, 1) := by decide +kernel
theorem dX2_init_9 : decode cX2_init 9 = .ok (.invokespecial 11, 3) := by decide +kernel
theorem dX2_init_12 : decode cX2_init 12 = .ok (.putfield 12, 3) := by decide +kernel
theorem dX2_init_15 : decode cX2_init 15 = .ok (.return_, 1) := by decide +kernel
theorem okc_X6_init {kn : sKn} {cc : ByteArray} {own : String} {nL : Nat} {D : Nat} {ret : Option FieldType} {ini : Bool} {pc index : Nat} (hD : 3 + 1 ≤ D) (hl : Cond.methodLink own index yX6_init ∈ wsL_law0) (hd : decode cc pc = .ok (.invokespecial index, 3)) : mOk kn cc own nL wsL_law0 D ret ini pc (a_callI true (fX6_init kn) (0 + 1) (pc + 3)) := ok_callI (mX6_init kn) (good_ws ws_good (fun _ h => h) kw80) hD (by decide) hl kw81 rfl kw74 ⟨by decide +kernel, by decide +kernel, by decide +kernel⟩ hd
def tX2_init (kn : sKn) : List (Nat × sA) := [(0, a_aload 0 1), (1, a_obj 4), (4, a_aload 0 5), (5, a_new 7 8 [.int 0, .int 0, .int 0, .int 0, .int 0, .int 0, .null, .null, .null, .null, .null, .null, .null, .null, .null]), (8, a_stk q_dup 9), (9, a_callI true (fX6_init kn) 1 12), (12, a_put 3 0 ckR 15), (15, a_vret)]
def fX2_init (kn : sKn) : List Value → sW → Option sR := mF (tX2_init kn) 1 1000000
set_option maxRecDepth 100000 in
set_option maxHeartbeats 4000000 in
theorem mX2_init (kn : sKn) : mM kn yX2_init (Cond.code yX2_init cX2_init 1 none :: wsL_law0) 4 true (fX2_init kn) := mM_of (own := RX2) (ini := true) rfl (by decide +kernel) (by decide +kernel) (all_c (ok_aload_n dX2_init_0 rfl) (all_c (ok_obj (by decide) kw78 kw8 kw9 dX2_init_1) (all_c (ok_aload_n dX2_init_4 rfl) (all_c (okn_X6 kw79 dX2_init_5) (all_c (ok_stk (s_dup dX2_init_8)) (all_c (okc_X6_init (by decide) kw82 dX2_init_9) (all_c (okp_X2_0 kw83 dX2_init_12) (all_c (ok_vret dX2_init_15) all_n)))))))) 1000000 (fun h => by first | rfl | cases h)
theorem dX3_init_0 : decode cX3_init 0 = .ok (.aload_n 0, 1) := by decide +kernel
theorem dX3_init_1 : decode cX3_init 1 = .ok (.invokespecial 3, 3) := by decide +kernel
theorem dX3_init_4 : decode cX3_init 4 = .ok (.aload_n 0, 1) := by decide +kernel
theorem dX3_init_5 : decode cX3_init 5 = .ok (.new 9, 3) := by decide +kernel
theorem dX3_init_8 : decode cX3_init 8 = .ok (.dup, 1) := by decide +kernel
theorem dX3_init_9 : decode cX3_init 9 = .ok (.invokespecial 11, 3) := by decide +kernel
theorem dX3_init_12 : decode cX3_init 12 = .ok (.putfield 12, 3) := by decide +kernel
theorem dX3_init_15 : decode cX3_init 15 = .ok (.aload_n 0, 1) := by decide +kernel
theorem dX3_init_16 : decode cX3_init 16 = .ok (.bipush 96, 2) := by decide +kernel
theorem dX3_init_18 : decode cX3_init 18 = .ok (.newarray .int, 2) := by decide +kernel
theorem dX3_init_20 : decode cX3_init 20 = .ok (.putfield 18, 3) := by decide +kernel
theorem dX3_init_23 : decode cX3_init 23 = .ok (.aload_n 0, 1) := by decide +kernel
theorem dX3_init_24 : decode cX3_init 24 = .ok (.sipush 208, 3) := by decide +kernel
theorem dX3_init_27 : decode cX3_init 27 = .ok (.newarray .int, 2) := by decide +kernel
theorem dX3_init_29 : decode cX3_init 29 = .ok (.putfield 22, 3) := by decide +kernel
theorem dX3_init_32 : decode cX3_init 32 = .ok (.aload_n 0, 1) := by decide +kernel
theorem dX3_init_33 : decode cX3_init 33 = .ok (.iconst 3, 1) := by decide +kernel
theorem dX3_init_34 : decode cX3_init 34 = .ok (.newarray .int, 2) := by decide +kernel
theorem dX3_init_36 : decode cX3_init 36 = .ok (.putfield 25, 3) := by decide +kernel
theorem dX3_init_39 : decode cX3_init 39 = .ok (.return_, 1) := by decide +kernel
def tX3_init (kn : sKn) : List (Nat × sA) := [(0, a_aload 0 1), (1, a_obj 4), (4, a_aload 0 5), (5, a_new 9 8 [.int 0, .int 0, .int 0, .null, .null, .null, .null, .null, .null]), (8, a_stk q_dup 9), (9, a_callI true (fX8_init kn) 1 12), (12, a_put 4 0 ckR 15), (15, a_aload 0 16), (16, a_stk (q_int 96) 18), (18, a_newa 1 20), (20, a_put 4 1 ckR 23), (23, a_aload 0 24), (24, a_stk (q_int 208) 27), (27, a_newa 1 29), (29, a_put 4 2 ckR 32), (32, a_aload 0 33), (33, a_stk (q_int 3) 34), (34, a_newa 1 36), (36, a_put 4 3 ckR 39), (39, a_vret)]
def fX3_init (kn : sKn) : List Value → sW → Option sR := mF (tX3_init kn) 1 1000000
set_option maxRecDepth 100000 in
set_option maxHeartbeats 4000000 in
theorem mX3_init (kn : sKn) : mM kn yX3_init (Cond.code yX3_init cX3_init 1 none :: wsL_law0) 3 true (fX3_init kn) := mM_of (own := RX3) (ini := true) rfl (by decide +kernel) (by decide +kernel) (all_c (ok_aload_n dX3_init_0 rfl) (all_c (ok_obj (by decide) kw84 kw8 kw9 dX3_init_1) (all_c (ok_aload_n dX3_init_4 rfl) (all_c (okn_X8 kw85 dX3_init_5) (all_c (ok_stk (s_dup dX3_init_8)) (all_c (okc_X8_init (by decide) kw86 dX3_init_9) (all_c (okp_X3_0 kw87 dX3_init_12) (all_c (ok_aload_n dX3_init_15 rfl) (all_c (ok_stk (s_bipush dX3_init_16 (by decide))) (all_c (ok_newI kw21 dX3_init_18) (all_c (okp_X3_1 kw88 dX3_init_20) (all_c (ok_aload_n dX3_init_23 rfl) (all_c (ok_stk (s_sipush dX3_init_24 (by decide))) (all_c (ok_newI kw21 dX3_init_27) (all_c (okp_X3_2 kw89 dX3_init_29) (all_c (ok_aload_n dX3_init_32 rfl) (all_c (ok_stk (s_iconst dX3_init_33 (by decide))) (all_c (ok_newI kw21 dX3_init_34) (all_c (okp_X3_3 kw90 dX3_init_36) (all_c (ok_vret dX3_init_39) all_n)))))))))))))))))))) 1000000 (fun h => by first | rfl | cases h)
theorem dX4_init_0 : decode cX4_init 0 = .ok (.aload_n 0, 1) := by decide +kernel
theorem dX4_init_1 : decode cX4_init 1 = .ok (.invokespecial 3, 3) := by decide +kernel
theorem dX4_init_4 : decode cX4_init 4 = .ok (.aload_n 0, 1) := by decide +kernel
theorem dX4_init_5 : decode cX4_init 5 = .ok (.new 9, 3) := by decide +kernel
theorem dX4_init_8 : decode cX4_init 8 = .ok (.dup, 1) := by decide +kernel
theorem dX4_init_9 : decode cX4_init 9 = .ok (.invokespecial 11, 3) := by decide +kernel
theorem dX4_init_12 : decode cX4_init 12 = .ok (.putfield 12, 3) := by decide +kernel
theorem dX4_init_15 : decode cX4_init 15 = .ok (.aload_n 0, 1) := by decide +kernel
theorem dX4_init_16 : decode cX4_init 16 = .ok (.new 9, 3) := by decide +kernel
theorem dX4_init_19 : decode cX4_init 19 = .ok (.dup, 1) := by decide +kernel
theorem dX4_init_20 : decode cX4_init 20 = .ok (.invokespecial 11, 3) := by decide +kernel
theorem dX4_init_23 : decode cX4_init 23 = .ok (.putfield 18, 3) := by decide +kernel
theorem dX4_init_26 : decode cX4_init 26 = .ok (.aload_n 0, 1) := by decide +kernel
theorem dX4_init_27 : decode cX4_init 27 = .ok (.bipush 6, 2) := by decide +kernel
theorem dX4_init_29 : decode cX4_init 29 = .ok (.newarray .int, 2) := by decide +kernel
theorem dX4_init_31 : decode cX4_init 31 = .ok (.putfield 21, 3) := by decide +kernel
theorem dX4_init_34 : decode cX4_init 34 = .ok (.return_, 1) := by decide +kernel
def tX4_init (kn : sKn) : List (Nat × sA) := [(0, a_aload 0 1), (1, a_obj 4), (4, a_aload 0 5), (5, a_new 9 8 [.int 0, .int 0, .int 0, .null, .null, .null, .null, .null, .null]), (8, a_stk q_dup 9), (9, a_callI true (fX8_init kn) 1 12), (12, a_put 5 0 ckR 15), (15, a_aload 0 16), (16, a_new 9 19 [.int 0, .int 0, .int 0, .null, .null, .null, .null, .null, .null]), (19, a_stk q_dup 20), (20, a_callI true (fX8_init kn) 1 23), (23, a_put 5 1 ckR 26), (26, a_aload 0 27), (27, a_stk (q_int 6) 29), (29, a_newa 1 31), (31, a_put 5 3 ckR 34), (34, a_vret)]
def fX4_init (kn : sKn) : List Value → sW → Option sR := mF (tX4_init kn) 1 1000000
set_option maxRecDepth 100000 in
set_option maxHeartbeats 4000000 in
theorem mX4_init (kn : sKn) : mM kn yX4_init (Cond.code yX4_init cX4_init 1 none :: wsL_law0) 3 true (fX4_init kn) := mM_of (own := RX4) (ini := true) rfl (by decide +kernel) (by decide +kernel) (all_c (ok_aload_n dX4_init_0 rfl) (all_c (ok_obj (by decide) kw91 kw8 kw9 dX4_init_1) (all_c (ok_aload_n dX4_init_4 rfl) (all_c (okn_X8 kw92 dX4_init_5) (all_c (ok_stk (s_dup dX4_init_8)) (all_c (okc_X8_init (by decide) kw93 dX4_init_9) (all_c (okp_X4_0 kw94 dX4_init_12) (all_c (ok_aload_n dX4_init_15 rfl) (all_c (okn_X8 kw92 dX4_init_16) (all_c (ok_stk (s_dup dX4_init_19)) (all_c (okc_X8_init (by decide) kw93 dX4_init_20) (all_c (okp_X4_1 kw95 dX4_init_23) (all_c (ok_aload_n dX4_init_26 rfl) (all_c (ok_stk (s_bipush dX4_init_27 (by decide))) (all_c (ok_newI kw21 dX4_init_29) (all_c (okp_X4_3 kw96 dX4_init_31) (all_c (ok_vret dX4_init_34) all_n))))))))))))))))) 1000000 (fun h => by first | rfl | cases h)
theorem dX5_init_0 : decode cX5_init 0 = .ok (.aload_n 0, 1) := by decide +kernel
theorem dX5_init_1 : decode cX5_init 1 = .ok (.invokespecial 3, 3) := by decide +kernel
theorem dX5_init_4 : decode cX5_init 4 = .ok (.aload_n 0, 1) := by decide +kernel
theorem dX5_init_5 : decode cX5_init 5 = .ok (.sipush 576, 3) := by decide +kernel
theorem dX5_init_8 : decode cX5_init 8 = .ok (.newarray .int, 2) := by decide +kernel
theorem dX5_init_10 : decode cX5_init 10 = .ok (.putfield 9, 3) := by decide +kernel
theorem dX5_init_13 : decode cX5_init 13 = .ok (.aload_n 0, 1) := by decide +kernel
theorem dX5_init_14 : decode cX5_init 14 = .ok (.bipush 12, 2) := by decide +kernel
theorem dX5_init_16 : decode cX5_init 16 = .ok (.newarray .int, 2) := by decide +kernel
theorem dX5_init_18 : decode cX5_init 18 = .ok (.putfield 15, 3) := by decide +kernel
theorem dX5_init_21 : decode cX5_init 21 = .ok (.aload_n 0, 1) := by decide +kernel
theorem dX5_init_22 : decode cX5_init 22 = .ok (.bipush 6, 2) := by decide +kernel
theorem dX5_init_24 : decode cX5_init 24 = .ok (.newarray .int, 2) := by decide +kernel
theorem dX5_init_26 : decode cX5_init 26 = .ok (.putfield 18, 3) := by decide +kernel
theorem dX5_init_29 : decode cX5_init 29 = .ok (.aload_n 0, 1) := by decide +kernel
theorem dX5_init_30 : decode cX5_init 30 = .ok (.iconst (-1), 1) := by decide +kernel
theorem dX5_init_31 : decode cX5_init 31 = .ok (.putfield 21, 3) := by decide +kernel
theorem dX5_init_34 : decode cX5_init 34 = .ok (.aload_n 0, 1) := by decide +kernel
theorem dX5_init_35 : decode cX5_init 35 = .ok (.iconst (-1), 1) := by decide +kernel
theorem dX5_init_36 : decode cX5_init 36 = .ok (.putfield 25, 3) := by decide +kernel
theorem dX5_init_39 : decode cX5_init 39 = .ok (.return_, 1) := by decide +kernel
def tX5_init (kn : sKn) : List (Nat × sA) := [(0, a_aload 0 1), (1, a_obj 4), (4, a_aload 0 5), (5, a_stk (q_int 576) 8), (8, a_newa 1 10), (10, a_put 6 0 ckR 13), (13, a_aload 0 14), (14, a_stk (q_int 12) 16), (16, a_newa 1 18), (18, a_put 6 1 ckR 21), (21, a_aload 0 22), (22, a_stk (q_int 6) 24), (24, a_newa 1 26), (26, a_put 6 2 ckR 29), (29, a_aload 0 30), (30, a_stk (q_int (-1)) 31), (31, a_put 6 3 ckI 34), (34, a_aload 0 35), (35, a_stk (q_int (-1)) 36), (36, a_put 6 4 ckI 39), (39, a_vret)]
def fX5_init (kn : sKn) : List Value → sW → Option sR := mF (tX5_init kn) 1 1000000
set_option maxRecDepth 100000 in
set_option maxHeartbeats 4000000 in
theorem mX5_init (kn : sKn) : mM kn yX5_init (Cond.code yX5_init cX5_init 1 none :: wsL_law0) 1 true (fX5_init kn) := mM_of (own := RX5) (ini := true) rfl (by decide +kernel) (by decide +kernel) (all_c (ok_aload_n dX5_init_0 rfl) (all_c (ok_obj (by decide) kw97 kw8 kw9 dX5_init_1) (all_c (ok_aload_n dX5_init_4 rfl) (all_c (ok_stk (s_sipush dX5_init_5 (by decide))) (all_c (ok_newI kw21 dX5_init_8) (all_c (okp_X5_0 kw98 dX5_init_10) (all_c (ok_aload_n dX5_init_13 rfl) (all_c (ok_stk (s_bipush dX5_init_14 (by decide))) (all_c (ok_newI kw21 dX5_init_16) (all_c (okp_X5_1 kw99 dX5_init_18) (all_c (ok_aload_n dX5_init_21 rfl) (all_c (ok_stk (s_bipush dX5_init_22 (by decide))) (all_c (ok_newI kw21 dX5_init_24) (all_c (okp_X5_2 kw100 dX5_init_26) (all_c (ok_aload_n dX5_init_29 rfl) (all_c (ok_stk (s_iconst dX5_init_30 (by decide))) (all_c (okp_X5_3 kw101 dX5_init_31) (all_c (ok_aload_n dX5_init_34 rfl) (all_c (ok_stk (s_iconst dX5_init_35 (by decide))) (all_c (okp_X5_4 kw102 dX5_init_36) (all_c (ok_vret dX5_init_39) all_n))))))))))))))))))))) 1000000 (fun h => by first | rfl | cases h)
theorem dX7_init_0 : decode cX7_init 0 = .ok (.aload_n 0, 1) := by decide +kernel
theorem dX7_init_1 : decode cX7_init 1 = .ok (.invokespecial 3, 3) := by decide +kernel
theorem dX7_init_4 : decode cX7_init 4 = .ok (.aload_n 0, 1) := by decide +kernel
theorem dX7_init_5 : decode cX7_init 5 = .ok (.bipush 40, 2) := by decide +kernel
theorem dX7_init_7 : decode cX7_init 7 = .ok (.newarray .int, 2) := by decide +kernel
theorem dX7_init_9 : decode cX7_init 9 = .ok (.putfield 11, 3) := by decide +kernel
theorem dX7_init_12 : decode cX7_init 12 = .ok (.aload_n 0, 1) := by decide +kernel
theorem dX7_init_13 : decode cX7_init 13 = .ok (.bipush 40, 2) := by decide +kernel
theorem dX7_init_15 : decode cX7_init 15 = .ok (.newarray .int, 2) := by decide +kernel
theorem dX7_init_17 : decode cX7_init 17 = .ok (.putfield 15, 3) := by decide +kernel
theorem dX7_init_20 : decode cX7_init 20 = .ok (.aload_n 0, 1) := by decide +kernel
theorem dX7_init_21 : decode cX7_init 21 = .ok (.bipush 40, 2) := by decide +kernel
theorem dX7_init_23 : decode cX7_init 23 = .ok (.newarray .int, 2) := by decide +kernel
theorem dX7_init_25 : decode cX7_init 25 = .ok (.putfield 18, 3) := by decide +kernel
theorem dX7_init_28 : decode cX7_init 28 = .ok (.aload_n 0, 1) := by decide +kernel
theorem dX7_init_29 : decode cX7_init 29 = .ok (.bipush 40, 2) := by decide +kernel
theorem dX7_init_31 : decode cX7_init 31 = .ok (.newarray .int, 2) := by decide +kernel
theorem dX7_init_33 : decode cX7_init 33 = .ok (.putfield 21, 3) := by decide +kernel
theorem dX7_init_36 : decode cX7_init 36 = .ok (.aload_n 0, 1) := by decide +kernel
theorem dX7_init_37 : decode cX7_init 37 = .ok (.bipush 40, 2) := by decide +kernel
theorem dX7_init_39 : decode cX7_init 39 = .ok (.newarray .int, 2) := by decide +kernel
theorem dX7_init_41 : decode cX7_init 41 = .ok (.putfield 24, 3) := by decide +kernel
theorem dX7_init_44 : decode cX7_init 44 = .ok (.return_, 1) := by decide +kernel
def tX7_init (kn : sKn) : List (Nat × sA) := [(0, a_aload 0 1), (1, a_obj 4), (4, a_aload 0 5), (5, a_stk (q_int 40) 7), (7, a_newa 1 9), (9, a_put 8 0 ckR 12), (12, a_aload 0 13), (13, a_stk (q_int 40) 15), (15, a_newa 1 17), (17, a_put 8 1 ckR 20), (20, a_aload 0 21), (21, a_stk (q_int 40) 23), (23, a_newa 1 25), (25, a_put 8 2 ckR 28), (28, a_aload 0 29), (29, a_stk (q_int 40) 31), (31, a_newa 1 33), (33, a_put 8 4 ckR 36), (36, a_aload 0 37), (37, a_stk (q_int 40) 39), (39, a_newa 1 41), (41, a_put 8 7 ckR 44), (44, a_vret)]
def fX7_init (kn : sKn) : List Value → sW → Option sR := mF (tX7_init kn) 1 1000000
set_option maxRecDepth 100000 in
set_option maxHeartbeats 4000000 in
theorem mX7_init (kn : sKn) : mM kn yX7_init (Cond.code yX7_init cX7_init 1 none :: wsL_law0) 1 true (fX7_init kn) := mM_of (own := RX7) (ini := true) rfl (by decide +kernel) (by decide +kernel) (all_c (ok_aload_n dX7_init_0 rfl) (all_c (ok_obj (by decide) kw103 kw8 kw9 dX7_init_1) (all_c (ok_aload_n dX7_init_4 rfl) (all_c (ok_stk (s_bipush dX7_init_5 (by decide))) (all_c (ok_newI kw21 dX7_init_7) (all_c (okp_X7_0 kw104 dX7_init_9) (all_c (ok_aload_n dX7_init_12 rfl) (all_c (ok_stk (s_bipush dX7_init_13 (by decide))) (all_c (ok_newI kw21 dX7_init_15) (all_c (okp_X7_1 kw105 dX7_init_17) (all_c (ok_aload_n dX7_init_20 rfl) (all_c (ok_stk (s_bipush dX7_init_21 (by decide))) (all_c (ok_newI kw21 dX7_init_23) (all_c (okp_X7_2 kw106 dX7_init_25) (all_c (ok_aload_n dX7_init_28 rfl) (all_c (ok_stk (s_bipush dX7_init_29 (by decide))) (all_c (ok_newI kw21 dX7_init_31) (all_c (okp_X7_4 kw107 dX7_init_33) (all_c (ok_aload_n dX7_init_36 rfl) (all_c (ok_stk (s_bipush dX7_init_37 (by decide))) (all_c (ok_newI kw21 dX7_init_39) (all_c (okp_X7_7 kw108 dX7_init_41) (all_c (ok_vret dX7_init_44) all_n))))))))))))))))))))))) 1000000 (fun h => by first | rfl | cases h)
theorem dX9_init_0 : decode cX9_init 0 = .ok (.aload_n 0, 1) := by decide +kernel
theorem dX9_init_1 : decode cX9_init 1 = .ok (.invokespecial 3, 3) := by decide +kernel
theorem dX9_init_4 : decode cX9_init 4 = .ok (.aload_n 0, 1) := by decide +kernel
theorem dX9_init_5 : decode cX9_init 5 = .ok (.sipush 940, 3) := by decide +kernel
theorem dX9_init_8 : decode cX9_init 8 = .ok (.newarray .int, 2) := by decide +kernel
theorem dX9_init_10 : decode cX9_init 10 = .ok (.putfield 9, 3) := by decide +kernel
theorem dX9_init_13 : decode cX9_init 13 = .ok (.return_, 1) := by decide +kernel
def tX9_init (kn : sKn) : List (Nat × sA) := [(0, a_aload 0 1), (1, a_obj 4), (4, a_aload 0 5), (5, a_stk (q_int 940) 8), (8, a_newa 1 10), (10, a_put 10 0 ckR 13), (13, a_vret)]
def fX9_init (kn : sKn) : List Value → sW → Option sR := mF (tX9_init kn) 1 1000000
set_option maxRecDepth 100000 in
set_option maxHeartbeats 4000000 in
theorem mX9_init (kn : sKn) : mM kn yX9_init (Cond.code yX9_init cX9_init 1 none :: wsL_law0) 1 true (fX9_init kn) := mM_of (own := RX9) (ini := true) rfl (by decide +kernel) (by decide +kernel) (all_c (ok_aload_n dX9_init_0 rfl) (all_c (ok_obj (by decide) kw109 kw8 kw9 dX9_init_1) (all_c (ok_aload_n dX9_init_4 rfl) (all_c (ok_stk (s_sipush dX9_init_5 (by decide))) (all_c (ok_newI kw21 dX9_init_8) (all_c (okp_X9_0 kw110 dX9_init_10) (all_c (ok_vret dX9_init_13) all_n))))))) 1000000 (fun h => by first | rfl | cases h)
theorem dX11_init_0 : decode cX11_init 0 = .ok (.aload_n 0, 1) := by decide +kernel
theorem dX11_init_1 : decode cX11_init 1 = .ok (.invokespecial 1, 3) := by decide +kernel
theorem dX11_init_4 : decode cX11_init 4 = .ok (.aload_n 0, 1) := by decide +kernel
theorem dX11_init_5 : decode cX11_init 5 = .ok (.new 7, 3) := by decide +kernel
theorem dX11_init_8 : decode cX11_init 8 = .ok (.dup, 1) := by decide +kernel
theorem dX11_init_9 : decode cX11_init 9 = .ok (.invokespecial 9, 3) := by decide +kernel
theorem dX11_init_12 : decode cX11_init 12 = .ok (.putfield 10, 3) := by decide +kernel
theorem dX11_init_15 : decode cX11_init 15 = .ok (.aload_n 0, 1) := by decide +kernel
theorem dX11_init_16 : decode cX11_init 16 = .ok (.new 16, 3) := by decide +kernel
theorem dX11_init_19 : decode cX11_init 19 = .ok (.dup, 1) := by decide +kernel
theorem dX11_init_20 : decode cX11_init 20 = .ok (.invokespecial 18, 3) := by decide +kernel
theorem dX11_init_23 : decode cX11_init 23 = .ok (.putfield 19, 3) := by decide +kernel
theorem dX11_init_26 : decode cX11_init 26 = .ok (.aload_n 0, 1) := by decide +kernel
theorem dX11_init_27 : decode cX11_init 27 = .ok (.new 23, 3) := by decide +kernel
theorem dX11_init_30 : decode cX11_init 30 = .ok (.dup, 1) := by decide +kernel
theorem dX11_init_31 : decode cX11_init 31 = .ok (.invokespecial 25, 3) := by decide +kernel
theorem dX11_init_34 : decode cX11_init 34 = .ok (.putfield 26, 3) := by decide +kernel
theorem dX11_init_37 : decode cX11_init 37 = .ok (.aload_n 0, 1) := by decide +kernel
theorem dX11_init_38 : decode cX11_init 38 = .ok (.new 30, 3) := by decide +kernel
theorem dX11_init_41 : decode cX11_init 41 = .ok (.dup, 1) := by decide +kernel
theorem dX11_init_42 : decode cX11_init 42 = .ok (.invokespecial 32, 3) := by decide +kernel
theorem dX11_init_45 : decode cX11_init 45 = .ok (.putfield 33, 3) := by decide +kernel
theorem dX11_init_48 : decode cX11_init 48 = .ok (.aload_n 0, 1) := by decide +kernel
theorem dX11_init_49 : decode cX11_init 49 = .ok (.new 37, 3) := by decide +kernel
theorem dX11_init_52 : decode cX11_init 52 = .ok (.dup, 1) := by decide +kernel
theorem dX11_init_53 : decode cX11_init 53 = .ok (.invokespecial 39, 3) := by decide +kernel
theorem dX11_init_56 : decode cX11_init 56 = .ok (.putfield 40, 3) := by decide +kernel
theorem dX11_init_59 : decode cX11_init 59 = .ok (.aload_n 0, 1) := by decide +kernel
theorem dX11_init_60 : decode cX11_init 60 = .ok (.new 37, 3) := by decide +kernel
theorem dX11_init_63 : decode cX11_init 63 = .ok (.dup, 1) := by decide +kernel
theorem dX11_init_64 : decode cX11_init 64 = .ok (.invokespecial 39, 3) := by decide +kernel
theorem dX11_init_67 : decode cX11_init 67 = .ok (.putfield 44, 3) := by decide +kernel
theorem dX11_init_70 : decode cX11_init 70 = .ok (.aload_n 0, 1) := by decide +kernel
theorem dX11_init_71 : decode cX11_init 71 = .ok (.new 47, 3) := by decide +kernel
theorem dX11_init_74 : decode cX11_init 74 = .ok (.dup, 1) := by decide +kernel
theorem dX11_init_75 : decode cX11_init 75 = .ok (.invokespecial 49, 3) := by decide +kernel
theorem dX11_init_78 : decode cX11_init 78 = .ok (.putfield 50, 3) := by decide +kernel
theorem dX11_init_81 : decode cX11_init 81 = .ok (.aload_n 0, 1) := by decide +kernel
theorem dX11_init_82 : decode cX11_init 82 = .ok (.new 54, 3) := by decide +kernel
theorem dX11_init_85 : decode cX11_init 85 = .ok (.dup, 1) := by decide +kernel
theorem dX11_init_86 : decode cX11_init 86 = .ok (.invokespecial 56, 3) := by decide +kernel
theorem dX11_init_89 : decode cX11_init 89 = .ok (.putfield 57, 3) := by decide +kernel
theorem dX11_init_92 : decode cX11_init 92 = .ok (.aload_n 0, 1) := by decide +kernel
theorem dX11_init_93 : decode cX11_init 93 = .ok (.new 61, 3) := by decide +kernel
theorem dX11_init_96 : decode cX11_init 96 = .ok (.dup, 1) := by decide +kernel
theorem dX11_init_97 : decode cX11_init 97 = .ok (.invokespecial 63, 3) := by decide +kernel
theorem dX11_init_100 : decode cX11_init 100 = .ok (.putfield 64, 3) := by decide +kernel
theorem dX11_init_103 : decode cX11_init 103 = .ok (.aload_n 0, 1) := by decide +kernel
theorem dX11_init_104 : decode cX11_init 104 = .ok (.new 68, 3) := by decide +kernel
theorem dX11_init_107 : decode cX11_init 107 = .ok (.dup, 1) := by decide +kernel
theorem dX11_init_108 : decode cX11_init 108 = .ok (.invokespecial 70, 3) := by decide +kernel
theorem dX11_init_111 : decode cX11_init 111 = .ok (.putfield 71, 3) := by decide +kernel
theorem dX11_init_114 : decode cX11_init 114 = .ok (.aload_n 0, 1) := by decide +kernel
theorem dX11_init_115 : decode cX11_init 115 = .ok (.new 75, 3) := by decide +kernel
theorem dX11_init_118 : decode cX11_init 118 = .ok (.dup, 1) := by decide +kernel
theorem dX11_init_119 : decode cX11_init 119 = .ok (.invokespecial 77, 3) := by decide +kernel
theorem dX11_init_122 : decode cX11_init 122 = .ok (.putfield 78, 3) := by decide +kernel
theorem dX11_init_125 : decode cX11_init 125 = .ok (.aload_n 0, 1) := by decide +kernel
theorem dX11_init_126 : decode cX11_init 126 = .ok (.new 82, 3) := by decide +kernel
theorem dX11_init_129 : decode cX11_init 129 = .ok (.dup, 1) := by decide +kernel
theorem dX11_init_130 : decode cX11_init 130 = .ok (.invokespecial 84, 3) := by decide +kernel
theorem dX11_init_133 : decode cX11_init 133 = .ok (.putfield 85, 3) := by decide +kernel
theorem dX11_init_136 : decode cX11_init 136 = .ok (.aload_n 0, 1) := by decide +kernel
theorem dX11_init_137 : decode cX11_init 137 = .ok (.new 89, 3) := by decide +kernel
theorem dX11_init_140 : decode cX11_init 140 = .ok (.dup, 1) := by decide +kernel
theorem dX11_init_141 : decode cX11_init 141 = .ok (.invokespecial 91, 3) := by decide +kernel
theorem dX11_init_144 : decode cX11_init 144 = .ok (.putfield 92, 3) := by decide +kernel
theorem dX11_init_147 : decode cX11_init 147 = .ok (.aload_n 0, 1) := by decide +kernel
theorem dX11_init_148 : decode cX11_init 148 = .ok (.bipush 9, 2) := by decide +kernel
theorem dX11_init_150 : decode cX11_init 150 = .ok (.anewarray 30, 3) := by decide +kernel
theorem dX11_init_153 : decode cX11_init 153 = .ok (.putfield 96, 3) := by decide +kernel
theorem dX11_init_156 : decode cX11_init 156 = .ok (.aload_n 0, 1) := by decide +kernel
theorem dX11_init_157 : decode cX11_init 157 = .ok (.iconst 2, 1) := by decide +kernel
theorem dX11_init_158 : decode cX11_init 158 = .ok (.anewarray 23, 3) := by decide +kernel
theorem dX11_init_161 : decode cX11_init 161 = .ok (.putfield 100, 3) := by decide +kernel
theorem dX11_init_164 : decode cX11_init 164 = .ok (.aload_n 0, 1) := by decide +kernel
theorem dX11_init_165 : decode cX11_init 165 = .ok (.iconst 2, 1) := by decide +kernel
theorem dX11_init_166 : decode cX11_init 166 = .ok (.anewarray 30, 3) := by decide +kernel
theorem dX11_init_169 : decode cX11_init 169 = .ok (.putfield 104, 3) := by decide +kernel
theorem dX11_init_172 : decode cX11_init 172 = .ok (.aload_n 0, 1) := by decide +kernel
theorem dX11_init_173 : decode cX11_init 173 = .ok (.iconst 2, 1) := by decide +kernel
theorem dX11_init_174 : decode cX11_init 174 = .ok (.anewarray 37, 3) := by decide +kernel
theorem dX11_init_177 : decode cX11_init 177 = .ok (.putfield 107, 3) := by decide +kernel
theorem dX11_init_180 : decode cX11_init 180 = .ok (.aload_n 0, 1) := by decide +kernel
theorem dX11_init_181 : decode cX11_init 181 = .ok (.iconst 2, 1) := by decide +kernel
theorem dX11_init_182 : decode cX11_init 182 = .ok (.newarray .boolean, 2) := by decide +kernel
theorem dX11_init_184 : decode cX11_init 184 = .ok (.putfield 111, 3) := by decide +kernel
theorem dX11_init_187 : decode cX11_init 187 = .ok (.iconst 0, 1) := by decide +kernel
theorem dX11_init_188 : decode cX11_init 188 = .ok (.istore_n 1, 1) := by decide +kernel
theorem dX11_init_189 : decode cX11_init 189 = .ok (.iload_n 1, 1) := by decide +kernel
theorem dX11_init_190 : decode cX11_init 190 = .ok (.aload_n 0, 1) := by decide +kernel
theorem dX11_init_191 : decode cX11_init 191 = .ok (.getfield 96, 3) := by decide +kernel
theorem dX11_init_194 : decode cX11_init 194 = .ok (.arraylength, 1) := by decide +kernel
theorem dX11_init_195 : decode cX11_init 195 = .ok (.if_icmp .ge 22, 3) := by decide +kernel
theorem dX11_init_198 : decode cX11_init 198 = .ok (.aload_n 0, 1) := by decide +kernel
theorem dX11_init_199 : decode cX11_init 199 = .ok (.getfield 96, 3) := by decide +kernel
theorem dX11_init_202 : decode cX11_init 202 = .ok (.iload_n 1, 1) := by decide +kernel
theorem dX11_init_203 : decode cX11_init 203 = .ok (.new 30, 3) := by decide +kernel
theorem dX11_init_206 : decode cX11_init 206 = .ok (.dup, 1) := by decide +kernel
theorem dX11_init_207 : decode cX11_init 207 = .ok (.invokespecial 32, 3) := by decide +kernel
theorem dX11_init_210 : decode cX11_init 210 = .ok (.aastore, 1) := by decide +kernel
theorem dX11_init_211 : decode cX11_init 211 = .ok (.iinc 1 1, 3) := by decide +kernel
theorem dX11_init_214 : decode cX11_init 214 = .ok (.goto (-25), 3) := by decide +kernel
theorem dX11_init_217 : decode cX11_init 217 = .ok (.iconst 0, 1) := by decide +kernel
theorem dX11_init_218 : decode cX11_init 218 = .ok (.istore_n 1, 1) := by decide +kernel
theorem dX11_init_219 : decode cX11_init 219 = .ok (.iload_n 1, 1) := by decide +kernel
theorem dX11_init_220 : decode cX11_init 220 = .ok (.iconst 2, 1) := by decide +kernel
theorem dX11_init_221 : decode cX11_init 221 = .ok (.if_icmp .ge 48, 3) := by decide +kernel
theorem dX11_init_224 : decode cX11_init 224 = .ok (.aload_n 0, 1) := by decide +kernel
theorem dX11_init_225 : decode cX11_init 225 = .ok (.getfield 100, 3) := by decide +kernel
theorem dX11_init_228 : decode cX11_init 228 = .ok (.iload_n 1, 1) := by decide +kernel
theorem dX11_init_229 : decode cX11_init 229 = .ok (.new 23, 3) := by decide +kernel
theorem dX11_init_232 : decode cX11_init 232 = .ok (.dup, 1) := by decide +kernel
theorem dX11_init_233 : decode cX11_init 233 = .ok (.invokespecial 25, 3) := by decide +kernel
theorem dX11_init_236 : decode cX11_init 236 = .ok (.aastore, 1) := by decide +kernel
theorem dX11_init_237 : decode cX11_init 237 = .ok (.aload_n 0, 1) := by decide +kernel
theorem dX11_init_238 : decode cX11_init 238 = .ok (.getfield 104, 3) := by decide +kernel
theorem dX11_init_241 : decode cX11_init 241 = .ok (.iload_n 1, 1) := by decide +kernel
theorem dX11_init_242 : decode cX11_init 242 = .ok (.new 30, 3) := by decide +kernel
theorem dX11_init_245 : decode cX11_init 245 = .ok (.dup, 1) := by decide +kernel
theorem dX11_init_246 : decode cX11_init 246 = .ok (.invokespecial 32, 3) := by decide +kernel
theorem dX11_init_249 : decode cX11_init 249 = .ok (.aastore, 1) := by decide +kernel
theorem dX11_init_250 : decode cX11_init 250 = .ok (.aload_n 0, 1) := by decide +kernel
theorem dX11_init_251 : decode cX11_init 251 = .ok (.getfield 107, 3) := by decide +kernel
theorem dX11_init_254 : decode cX11_init 254 = .ok (.iload_n 1, 1) := by decide +kernel
theorem dX11_init_255 : decode cX11_init 255 = .ok (.new 37, 3) := by decide +kernel
theorem dX11_init_258 : decode cX11_init 258 = .ok (.dup, 1) := by decide +kernel
theorem dX11_init_259 : decode cX11_init 259 = .ok (.invokespecial 39, 3) := by decide +kernel
theorem dX11_init_262 : decode cX11_init 262 = .ok (.aastore, 1) := by decide +kernel
theorem dX11_init_263 : decode cX11_init 263 = .ok (.iinc 1 1, 3) := by decide +kernel
theorem dX11_init_266 : decode cX11_init 266 = .ok (.goto (-47), 3) := by decide +kernel
theorem dX11_init_269 : decode cX11_init 269 = .ok (.return_, 1) := by decide +kernel
theorem okc_X0_init {kn : sKn} {cc : ByteArray} {own : String} {nL : Nat} {D : Nat} {ret : Option FieldType} {ini : Bool} {pc index : Nat} (hD : 3 + 1 ≤ D) (hl : Cond.methodLink own index yX0_init ∈ wsL_law0) (hd : decode cc pc = .ok (.invokespecial index, 3)) : mOk kn cc own nL wsL_law0 D ret ini pc (a_callI true (fX0_init kn) (0 + 1) (pc + 3)) := ok_callI (mX0_init kn) (good_ws ws_good (fun _ h => h) kw145) hD (by decide) hl kw147 rfl kw146 ⟨by decide +kernel, by decide +kernel, by decide +kernel⟩ hd
theorem okc_J4_init_da8c8 {kn : sKn} {cc : ByteArray} {own : String} {nL : Nat} {D : Nat} {ret : Option FieldType} {ini : Bool} {pc index : Nat} (hD : 4 + 1 ≤ D) (hl : Cond.methodLink own index yJ4_init_da8c8 ∈ wsL_law0) (hd : decode cc pc = .ok (.invokespecial index, 3)) : mOk kn cc own nL wsL_law0 D ret ini pc (a_callI true (fJ4_init_da8c8 kn) (0 + 1) (pc + 3)) := ok_callI (mJ4_init_da8c8 kn) (good_ws ws_good (fun _ h => h) kw166) hD (by decide) hl kw168 rfl kw167 ⟨by decide +kernel, by decide +kernel, by decide +kernel⟩ hd
def tX11_init (kn : sKn) : List (Nat × sA) := [(0, a_aload 0 1), (1, a_obj 4), (4, a_aload 0 5), (5, a_new 10 8 [.null, .int 0, .int 0, .int 0, .int 0, .int 0, .int 0, .long 0, .int 0, .long 0, .int 0, .int 0, .int 0]), (8, a_stk q_dup 9), (9, a_callI true (fX9_init kn) 1 12), (12, a_put 12 0 ckR 15), (15, a_aload 0 16), (16, a_new 3 19 [.null, .int 0, .int 0, .int 0, .int 0]), (19, a_stk q_dup 20), (20, a_callI true (fX2_init kn) 1 23), (23, a_put 12 1 ckR 26), (26, a_aload 0 27), (27, a_new 7 30 [.int 0, .int 0, .int 0, .int 0, .int 0, .int 0, .null, .null, .null, .null, .null, .null, .null, .null, .null]), (30, a_stk q_dup 31), (31, a_callI true (fX6_init kn) 1 34), (34, a_put 12 2 ckR 37), (37, a_aload 0 38), (38, a_new 9 41 [.int 0, .int 0, .int 0, .null, .null, .null, .null, .null, .null]), (41, a_stk q_dup 42), (42, a_callI true (fX8_init kn) 1 45), (45, a_put 12 3 ckR 48), (48, a_aload 0 49), (49, a_new 8 52 [.null, .null, .null, .int 0, .null, .int 0, .int 0, .null, .int 0]), (52, a_stk q_dup 53), (53, a_callI true (fX7_init kn) 1 56), (56, a_put 12 4 ckR 59), (59, a_aload 0 60), (60, a_new 8 63 [.null, .null, .null, .int 0, .null, .int 0, .int 0, .null, .int 0]), (63, a_stk q_dup 64), (64, a_callI true (fX7_init kn) 1 67), (67, a_put 12 5 ckR 70), (70, a_aload 0 71), (71, a_new 2 74 [.null, .null, .null, .null, .int 0, .null]), (74, a_stk q_dup 75), (75, a_callI true (fX1_init kn) 1 78), (78, a_put 12 6 ckR 81), (81, a_aload 0 82), (82, a_new 11 85 [.null, .null, .null, .null]), (85, a_stk q_dup 86), (86, a_callI true (fX10_init kn) 1 89), (89, a_put 12 7 ckR 92), (92, a_aload 0 93), (93, a_new 1 96 [.null, .null, .null, .null, .null]), (96, a_stk q_dup 97), (97, a_callI true (fX0_init kn) 1 100), (100, a_put 12 8 ckR 103), (103, a_aload 0 104), (104, a_new 4 107 [.null, .null, .null, .null, .int 0]), (107, a_stk q_dup 108), (108, a_callI true (fX3_init kn) 1 111), (111, a_put 12 9 ckR 114), (114, a_aload 0 115), (115, a_new 6 118 [.null, .null, .null, .int 0, .int 0]), (118, a_stk q_dup 119), (119, a_callI true (fX5_init kn) 1 122), (122, a_put 12 10 ckR 125), (125, a_aload 0 126), (126, a_new 5 129 [.null, .null, .int 0, .null, .int 0]), (129, a_stk q_dup 130), (130, a_callI true (fX4_init kn) 1 133), (133, a_put 12 11 ckR 136), (136, a_aload 0 137), (137, a_new 0 140 [.null, .int 0, .int 0, .int 0]), (140, a_stk q_dup 141), (141, a_callI true (fJ4_init_da8c8 kn) 1 144), (144, a_put 12 12 ckR 147), (147, a_aload 0 148), (148, a_stk (q_int 9) 150), (150, a_newa 6 153), (153, a_put 12 13 ckR 156), (156, a_aload 0 157), (157, a_stk (q_int 2) 158), (158, a_newa 4 161), (161, a_put 12 16 ckR 164), (164, a_aload 0 165), (165, a_stk (q_int 2) 166), (166, a_newa 6 169), (169, a_put 12 17 ckR 172), (172, a_aload 0 173), (173, a_stk (q_int 2) 174), (174, a_newa 5 177), (177, a_put 12 18 ckR 180), (180, a_aload 0 181), (181, a_stk (q_int 2) 182), (182, a_newa 3 184), (184, a_put 12 19 ckR 187), (187, a_stk (q_int 0) 188), (188, a_istore 1 189), (189, a_iload 1 190), (190, a_aload 0 191), (191, a_get 12 13 194), (194, a_alen 195), (195, a_icmp kn b_ge 3 217 198), (198, a_aload 0 199), (199, a_get 12 13 202), (202, a_iload 1 203), (203, a_new 9 206 [.int 0, .int 0, .int 0, .null, .null, .null, .null, .null, .null]), (206, a_stk q_dup 207), (207, a_callI true (fX8_init kn) 1 210), (210, a_aast 211), (211, a_iinc 1 1 214), (214, a_goto 189), (217, a_stk (q_int 0) 218), (218, a_istore 1 219), (219, a_iload 1 220), (220, a_stk (q_int 2) 221), (221, a_icmp kn b_ge 3 269 224), (224, a_aload 0 225), (225, a_get 12 16 228), (228, a_iload 1 229), (229, a_new 7 232 [.int 0, .int 0, .int 0, .int 0, .int 0, .int 0, .null, .null, .null, .null, .null, .null, .null, .null, .null]), (232, a_stk q_dup 233), (233, a_callI true (fX6_init kn) 1 236), (236, a_aast 237), (237, a_aload 0 238), (238, a_get 12 17 241), (241, a_iload 1 242), (242, a_new 9 245 [.int 0, .int 0, .int 0, .null, .null, .null, .null, .null, .null]), (245, a_stk q_dup 246), (246, a_callI true (fX8_init kn) 1 249), (249, a_aast 250), (250, a_aload 0 251), (251, a_get 12 18 254), (254, a_iload 1 255), (255, a_new 8 258 [.null, .null, .null, .int 0, .null, .int 0, .int 0, .null, .int 0]), (258, a_stk q_dup 259), (259, a_callI true (fX7_init kn) 1 262), (262, a_aast 263), (263, a_iinc 1 1 266), (266, a_goto 219), (269, a_vret)]
def fX11_init (kn : sKn) : List Value → sW → Option sR := mF (tX11_init kn) 2 1000000
set_option maxRecDepth 100000 in
set_option maxHeartbeats 4000000 in
theorem mX11_init (kn : sKn) : mM kn yX11_init (Cond.code yX11_init cX11_init 2 none :: wsL_law0) 5 true (fX11_init kn) := mM_of (own := RX11) (ini := true) rfl (by decide +kernel) (by decide +kernel) (all_c (ok_aload_n dX11_init_0 rfl) (all_c (ok_obj (by decide) kw111 kw8 kw9 dX11_init_1) (all_c (ok_aload_n dX11_init_4 rfl) (all_c (okn_X9 kw112 dX11_init_5) (all_c (ok_stk (s_dup dX11_init_8)) (all_c (ok_callIN (mX9_init kn) (good_ws ws_good (fun _ h => h) kw113) (by decide) (by decide) (by decide +kernel) rfl kw115 rfl kw114 ⟨by decide +kernel, by decide +kernel, by decide +kernel⟩ dX11_init_9) (all_c (okp_X11_0 kw116 dX11_init_12) (all_c (ok_aload_n dX11_init_15 rfl) (all_c (okn_X2 kw117 dX11_init_16) (all_c (ok_stk (s_dup dX11_init_19)) (all_c (ok_callIN (mX2_init kn) (good_ws ws_good (fun _ h => h) kw118) (by decide) (by decide) (by decide +kernel) rfl kw120 rfl kw119 ⟨by decide +kernel, by decide +kernel, by decide +kernel⟩ dX11_init_20) (all_c (okp_X11_1 kw121 dX11_init_23) (all_c (ok_aload_n dX11_init_26 rfl) (all_c (okn_X6 kw122 dX11_init_27) (all_c (ok_stk (s_dup dX11_init_30)) (all_c (okc_X6_init (by decide) kw123 dX11_init_31) (all_c (okp_X11_2 kw124 dX11_init_34) (all_c (ok_aload_n dX11_init_37 rfl) (all_c (okn_X8 kw125 dX11_init_38) (all_c (ok_stk (s_dup dX11_init_41)) (all_c (okc_X8_init (by decide) kw126 dX11_init_42) (all_c (okp_X11_3 kw127 dX11_init_45) (all_c (ok_aload_n dX11_init_48 rfl) (all_c (okn_X7 kw128 dX11_init_49) (all_c (ok_stk (s_dup dX11_init_52)) (all_c (ok_callIN (mX7_init kn) (good_ws ws_good (fun _ h => h) kw129) (by decide) (by decide) (by decide +kernel) rfl kw131 rfl kw130 ⟨by decide +kernel, by decide +kernel, by decide +kernel⟩ dX11_init_53) (all_c (okp_X11_4 kw132 dX11_init_56) (all_c (ok_aload_n dX11_init_59 rfl) (all_c (okn_X7 kw128 dX11_init_60) (all_c (ok_stk (s_dup dX11_init_63)) (all_c (ok_callIN (mX7_init kn) (good_ws ws_good (fun _ h => h) kw129) (by decide) (by decide) (by decide +kernel) rfl kw131 rfl kw130 ⟨by decide +kernel, by decide +kernel, by decide +kernel⟩ dX11_init_64) (all_c (okp_X11_5 kw133 dX11_init_67) (all_c (ok_aload_n dX11_init_70 rfl) (all_c (okn_X1 kw134 dX11_init_71) (all_c (ok_stk (s_dup dX11_init_74)) (all_c (ok_callIN (mX1_init kn) (good_ws ws_good (fun _ h => h) kw135) (by decide) (by decide) (by decide +kernel) rfl kw137 rfl kw136 ⟨by decide +kernel, by decide +kernel, by decide +kernel⟩ dX11_init_75) (all_c (okp_X11_6 kw138 dX11_init_78) (all_c (ok_aload_n dX11_init_81 rfl) (all_c (okn_X10 kw139 dX11_init_82) (all_c (ok_stk (s_dup dX11_init_85)) (all_c (ok_callIN (mX10_init kn) (good_ws ws_good (fun _ h => h) kw140) (by decide) (by decide) (by decide +kernel) rfl kw142 rfl kw141 ⟨by decide +kernel, by decide +kernel, by decide +kernel⟩ dX11_init_86) (all_c (okp_X11_7 kw143 dX11_init_89) (all_c (ok_aload_n dX11_init_92 rfl) (all_c (okn_X0 kw144 dX11_init_93) (all_c (ok_stk (s_dup dX11_init_96)) (all_c (okc_X0_init (by decide) kw148 dX11_init_97) (all_c (okp_X11_8 kw149 dX11_init_100) (all_c (ok_aload_n dX11_init_103 rfl) (all_c (okn_X3 kw150 dX11_init_104) (all_c (ok_stk (s_dup dX11_init_107)) (all_c (ok_callIN (mX3_init kn) (good_ws ws_good (fun _ h => h) kw151) (by decide) (by decide) (by decide +kernel) rfl kw153 rfl kw152 ⟨by decide +kernel, by decide +kernel, by decide +kernel⟩ dX11_init_108) (all_c (okp_X11_9 kw154 dX11_init_111) (all_c (ok_aload_n dX11_init_114 rfl) (all_c (okn_X5 kw155 dX11_init_115) (all_c (ok_stk (s_dup dX11_init_118)) (all_c (ok_callIN (mX5_init kn) (good_ws ws_good (fun _ h => h) kw156) (by decide) (by decide) (by decide +kernel) rfl kw158 rfl kw157 ⟨by decide +kernel, by decide +kernel, by decide +kernel⟩ dX11_init_119) (all_c (okp_X11_10 kw159 dX11_init_122) (all_c (ok_aload_n dX11_init_125 rfl) (all_c (okn_X4 kw160 dX11_init_126) (all_c (ok_stk (s_dup dX11_init_129)) (all_c (ok_callIN (mX4_init kn) (good_ws ws_good (fun _ h => h) kw161) (by decide) (by decide) (by decide +kernel) rfl kw163 rfl kw162 ⟨by decide +kernel, by decide +kernel, by decide +kernel⟩ dX11_init_130) (all_c (okp_X11_11 kw164 dX11_init_133) (all_c (ok_aload_n dX11_init_136 rfl) (all_c (okn_J4 kw165 dX11_init_137) (all_c (ok_stk (s_dup dX11_init_140)) (all_c (okc_J4_init_da8c8 (by decide) kw169 dX11_init_141) (all_c (okp_X11_12 kw170 dX11_init_144) (all_c (ok_aload_n dX11_init_147 rfl) (all_c (ok_stk (s_bipush dX11_init_148 (by decide))) (all_c (ok_newq (by decide) (fun _ => rfl) (fun _ h => h.2.2) kw125 dX11_init_150) (all_c (okp_X11_13 kw171 dX11_init_153) (all_c (ok_aload_n dX11_init_156 rfl) (all_c (ok_stk (s_iconst dX11_init_157 (by decide))) (all_c (ok_newq (by decide) (fun _ => rfl) (fun _ h => h.1) kw122 dX11_init_158) (all_c (okp_X11_16 kw172 dX11_init_161) (all_c (ok_aload_n dX11_init_164 rfl) (all_c (ok_stk (s_iconst dX11_init_165 (by decide))) (all_c (ok_newq (by decide) (fun _ => rfl) (fun _ h => h.2.2) kw125 dX11_init_166) (all_c (okp_X11_17 kw173 dX11_init_169) (all_c (ok_aload_n dX11_init_172 rfl) (all_c (ok_stk (s_iconst dX11_init_173 (by decide))) (all_c (ok_newq (by decide) (fun _ => rfl) (fun _ h => h.2.1) kw128 dX11_init_174) (all_c (okp_X11_18 kw174 dX11_init_177) (all_c (ok_aload_n dX11_init_180 rfl) (all_c (ok_stk (s_iconst dX11_init_181 (by decide))) (all_c (ok_newZ kw175 dX11_init_182) (all_c (okp_X11_19 kw176 dX11_init_184) (all_c (ok_stk (s_iconst dX11_init_187 (by decide))) (all_c (ok_istore_n dX11_init_188 rfl (by decide)) (all_c (ok_iload_n dX11_init_189 rfl) (all_c (ok_aload_n dX11_init_190 rfl) (all_c (okg_X11_13 kw171 dX11_init_191) (all_c (ok_alen dX11_init_194) (all_c (ok_icmp_ge dX11_init_195 (by decide)) (all_c (ok_aload_n dX11_init_198 rfl) (all_c (okg_X11_13 kw171 dX11_init_199) (all_c (ok_iload_n dX11_init_202 rfl) (all_c (okn_X8 kw125 dX11_init_203) (all_c (ok_stk (s_dup dX11_init_206)) (all_c (okc_X8_init (by decide) kw126 dX11_init_207) (all_c (ok_aast dX11_init_210) (all_c (ok_iinc dX11_init_211 (by decide) (by decide)) (all_c (ok_goto dX11_init_214 (by decide)) (all_c (ok_stk (s_iconst dX11_init_217 (by decide))) (all_c (ok_istore_n dX11_init_218 rfl (by decide)) (all_c (ok_iload_n dX11_init_219 rfl) (all_c (ok_stk (s_iconst dX11_init_220 (by decide))) (all_c (ok_icmp_ge dX11_init_221 (by decide)) (all_c (ok_aload_n dX11_init_224 rfl) (all_c (okg_X11_16 kw172 dX11_init_225) (all_c (ok_iload_n dX11_init_228 rfl) (all_c (okn_X6 kw122 dX11_init_229) (all_c (ok_stk (s_dup dX11_init_232)) (all_c (okc_X6_init (by decide) kw123 dX11_init_233) (all_c (ok_aast dX11_init_236) (all_c (ok_aload_n dX11_init_237 rfl) (all_c (okg_X11_17 kw173 dX11_init_238) (all_c (ok_iload_n dX11_init_241 rfl) (all_c (okn_X8 kw125 dX11_init_242) (all_c (ok_stk (s_dup dX11_init_245)) (all_c (okc_X8_init (by decide) kw126 dX11_init_246) (all_c (ok_aast dX11_init_249) (all_c (ok_aload_n dX11_init_250 rfl) (all_c (okg_X11_18 kw174 dX11_init_251) (all_c (ok_iload_n dX11_init_254 rfl) (all_c (okn_X7 kw128 dX11_init_255) (all_c (ok_stk (s_dup dX11_init_258)) (all_c (ok_callIN (mX7_init kn) (good_ws ws_good (fun _ h => h) kw129) (by decide) (by decide) (by decide +kernel) rfl kw131 rfl kw130 ⟨by decide +kernel, by decide +kernel, by decide +kernel⟩ dX11_init_259) (all_c (ok_aast dX11_init_262) (all_c (ok_iinc dX11_init_263 (by decide) (by decide)) (all_c (ok_goto dX11_init_266 (by decide)) (all_c (ok_vret dX11_init_269) all_n)))))))))))))))))))))))))))))))))))))))))))))))))))))))))))))))))))))))))))))))))))))))))))))))))))))))))))))))))))))))))))))))))))) 1000000 (fun h => by first | rfl | cases h)
theorem dX12_startRead_0 : decode cX12_startRead 0 = .ok (.iconst 0, 1) := by decide +kernel
theorem dX12_startRead_1 : decode cX12_startRead 1 = .ok (.istore_n 1, 1) := by decide +kernel
theorem dX12_startRead_2 : decode cX12_startRead 2 = .ok (.iload_n 1, 1) := by decide +kernel
theorem dX12_startRead_3 : decode cX12_startRead 3 = .ok (.bipush 94, 2) := by decide +kernel
theorem dX12_startRead_5 : decode cX12_startRead 5 = .ok (.if_icmp .ge 16, 3) := by decide +kernel
theorem dX12_startRead_8 : decode cX12_startRead 8 = .ok (.aload_n 0, 1) := by decide +kernel
theorem dX12_startRead_9 : decode cX12_startRead 9 = .ok (.getfield 101, 3) := by decide +kernel
theorem dX12_startRead_12 : decode cX12_startRead 12 = .ok (.iload_n 1, 1) := by decide +kernel
theorem dX12_startRead_13 : decode cX12_startRead 13 = .ok (.iconst 0, 1) := by decide +kernel
theorem dX12_startRead_14 : decode cX12_startRead 14 = .ok (.iastore, 1) := by decide +kernel
theorem dX12_startRead_15 : decode cX12_startRead 15 = .ok (.iinc 1 1, 3) := by decide +kernel
theorem dX12_startRead_18 : decode cX12_startRead 18 = .ok (.goto (-16), 3) := by decide +kernel
theorem dX12_startRead_21 : decode cX12_startRead 21 = .ok (.iconst 0, 1) := by decide +kernel
theorem dX12_startRead_22 : decode cX12_startRead 22 = .ok (.istore_n 1, 1) := by decide +kernel
theorem dX12_startRead_23 : decode cX12_startRead 23 = .ok (.iload_n 1, 1) := by decide +kernel
theorem dX12_startRead_24 : decode cX12_startRead 24 = .ok (.bipush 10, 2) := by decide +kernel
theorem dX12_startRead_26 : decode cX12_startRead 26 = .ok (.if_icmp .ge 19, 3) := by decide +kernel
theorem dX12_startRead_29 : decode cX12_startRead 29 = .ok (.aload_n 0, 1) := by decide +kernel
theorem dX12_startRead_30 : decode cX12_startRead 30 = .ok (.getfield 101, 3) := by decide +kernel
theorem dX12_startRead_33 : decode cX12_startRead 33 = .ok (.bipush 26, 2) := by decide +kernel
theorem dX12_startRead_35 : decode cX12_startRead 35 = .ok (.iload_n 1, 1) := by decide +kernel
theorem dX12_startRead_36 : decode cX12_startRead 36 = .ok (.iadd, 1) := by decide +kernel
theorem dX12_startRead_37 : decode cX12_startRead 37 = .ok (.iconst (-1), 1) := by decide +kernel
theorem dX12_startRead_38 : decode cX12_startRead 38 = .ok (.iastore, 1) := by decide +kernel
theorem dX12_startRead_39 : decode cX12_startRead 39 = .ok (.iinc 1 1, 3) := by decide +kernel
theorem dX12_startRead_42 : decode cX12_startRead 42 = .ok (.goto (-19), 3) := by decide +kernel
theorem dX12_startRead_45 : decode cX12_startRead 45 = .ok (.iconst 0, 1) := by decide +kernel
theorem dX12_startRead_46 : decode cX12_startRead 46 = .ok (.istore_n 1, 1) := by decide +kernel
theorem dX12_startRead_47 : decode cX12_startRead 47 = .ok (.iload_n 1, 1) := by decide +kernel
theorem dX12_startRead_48 : decode cX12_startRead 48 = .ok (.bipush 36, 2) := by decide +kernel
theorem dX12_startRead_50 : decode cX12_startRead 50 = .ok (.if_icmp .ge 19, 3) := by decide +kernel
theorem dX12_startRead_53 : decode cX12_startRead 53 = .ok (.aload_n 0, 1) := by decide +kernel
theorem dX12_startRead_54 : decode cX12_startRead 54 = .ok (.getfield 101, 3) := by decide +kernel
theorem dX12_startRead_57 : decode cX12_startRead 57 = .ok (.bipush 46, 2) := by decide +kernel
theorem dX12_startRead_59 : decode cX12_startRead 59 = .ok (.iload_n 1, 1) := by decide +kernel
theorem dX12_startRead_60 : decode cX12_startRead 60 = .ok (.iadd, 1) := by decide +kernel
theorem dX12_startRead_61 : decode cX12_startRead 61 = .ok (.iconst (-1), 1) := by decide +kernel
theorem dX12_startRead_62 : decode cX12_startRead 62 = .ok (.iastore, 1) := by decide +kernel
theorem dX12_startRead_63 : decode cX12_startRead 63 = .ok (.iinc 1 1, 3) := by decide +kernel
theorem dX12_startRead_66 : decode cX12_startRead 66 = .ok (.goto (-19), 3) := by decide +kernel
theorem dX12_startRead_69 : decode cX12_startRead 69 = .ok (.aload_n 0, 1) := by decide +kernel
theorem dX12_startRead_70 : decode cX12_startRead 70 = .ok (.getfield 101, 3) := by decide +kernel
theorem dX12_startRead_73 : decode cX12_startRead 73 = .ok (.iconst 0, 1) := by decide +kernel
theorem dX12_startRead_74 : decode cX12_startRead 74 = .ok (.iconst 4, 1) := by decide +kernel
theorem dX12_startRead_75 : decode cX12_startRead 75 = .ok (.iastore, 1) := by decide +kernel
theorem dX12_startRead_76 : decode cX12_startRead 76 = .ok (.aload_n 0, 1) := by decide +kernel
theorem dX12_startRead_77 : decode cX12_startRead 77 = .ok (.getfield 101, 3) := by decide +kernel
theorem dX12_startRead_80 : decode cX12_startRead 80 = .ok (.iconst 4, 1) := by decide +kernel
theorem dX12_startRead_81 : decode cX12_startRead 81 = .ok (.iconst 5, 1) := by decide +kernel
theorem dX12_startRead_82 : decode cX12_startRead 82 = .ok (.iastore, 1) := by decide +kernel
theorem dX12_startRead_83 : decode cX12_startRead 83 = .ok (.return_, 1) := by decide +kernel
def tX12_startRead (kn : sKn) : List (Nat × sA) := [(0, a_stk (q_int 0) 1), (1, a_istore 1 2), (2, a_iload 1 3), (3, a_stk (q_int 94) 5), (5, a_icmp kn b_ge 3 21 8), (8, a_aload 0 9), (9, a_get 13 15 12), (12, a_iload 1 13), (13, a_stk (q_int 0) 14), (14, a_iast 15), (15, a_iinc 1 1 18), (18, a_goto 2), (21, a_stk (q_int 0) 22), (22, a_istore 1 23), (23, a_iload 1 24), (24, a_stk (q_int 10) 26), (26, a_icmp kn b_ge 3 45 29), (29, a_aload 0 30), (30, a_get 13 15 33), (33, a_stk (q_int 26) 35), (35, a_iload 1 36), (36, a_stk q_iadd 37), (37, a_stk (q_int (-1)) 38), (38, a_iast 39), (39, a_iinc 1 1 42), (42, a_goto 23), (45, a_stk (q_int 0) 46), (46, a_istore 1 47), (47, a_iload 1 48), (48, a_stk (q_int 36) 50), (50, a_icmp kn b_ge 3 69 53), (53, a_aload 0 54), (54, a_get 13 15 57), (57, a_stk (q_int 46) 59), (59, a_iload 1 60), (60, a_stk q_iadd 61), (61, a_stk (q_int (-1)) 62), (62, a_iast 63), (63, a_iinc 1 1 66), (66, a_goto 47), (69, a_aload 0 70), (70, a_get 13 15 73), (73, a_stk (q_int 0) 74), (74, a_stk (q_int 4) 75), (75, a_iast 76), (76, a_aload 0 77), (77, a_get 13 15 80), (80, a_stk (q_int 4) 81), (81, a_stk (q_int 5) 82), (82, a_iast 83), (83, a_vret)]
def fX12_startRead (kn : sKn) : List Value → sW → Option sR := mF (tX12_startRead kn) 2 1000000
set_option maxRecDepth 100000 in
set_option maxHeartbeats 4000000 in
theorem mX12_startRead (kn : sKn) : mM kn yX12_startRead (Cond.code yX12_startRead cX12_startRead 2 none :: wsL_law0) 1 true (fX12_startRead kn) := mM_of (own := RX12) (ini := false) rfl (by decide +kernel) (by decide +kernel) (all_c (ok_stk (s_iconst dX12_startRead_0 (by decide))) (all_c (ok_istore_n dX12_startRead_1 rfl (by decide)) (all_c (ok_iload_n dX12_startRead_2 rfl) (all_c (ok_stk (s_bipush dX12_startRead_3 (by decide))) (all_c (ok_icmp_ge dX12_startRead_5 (by decide)) (all_c (ok_aload_n dX12_startRead_8 rfl) (all_c (okg_X12_15 kw177 dX12_startRead_9) (all_c (ok_iload_n dX12_startRead_12 rfl) (all_c (ok_stk (s_iconst dX12_startRead_13 (by decide))) (all_c (ok_iast dX12_startRead_14) (all_c (ok_iinc dX12_startRead_15 (by decide) (by decide)) (all_c (ok_goto dX12_startRead_18 (by decide)) (all_c (ok_stk (s_iconst dX12_startRead_21 (by decide))) (all_c (ok_istore_n dX12_startRead_22 rfl (by decide)) (all_c (ok_iload_n dX12_startRead_23 rfl) (all_c (ok_stk (s_bipush dX12_startRead_24 (by decide))) (all_c (ok_icmp_ge dX12_startRead_26 (by decide)) (all_c (ok_aload_n dX12_startRead_29 rfl) (all_c (okg_X12_15 kw177 dX12_startRead_30) (all_c (ok_stk (s_bipush dX12_startRead_33 (by decide))) (all_c (ok_iload_n dX12_startRead_35 rfl) (all_c (ok_stk (s_iadd dX12_startRead_36)) (all_c (ok_stk (s_iconst dX12_startRead_37 (by decide))) (all_c (ok_iast dX12_startRead_38) (all_c (ok_iinc dX12_startRead_39 (by decide) (by decide)) (all_c (ok_goto dX12_startRead_42 (by decide)) (all_c (ok_stk (s_iconst dX12_startRead_45 (by decide))) (all_c (ok_istore_n dX12_startRead_46 rfl (by decide)) (all_c (ok_iload_n dX12_startRead_47 rfl) (all_c (ok_stk (s_bipush dX12_startRead_48 (by decide))) (all_c (ok_icmp_ge dX12_startRead_50 (by decide)) (all_c (ok_aload_n dX12_startRead_53 rfl) (all_c (okg_X12_15 kw177 dX12_startRead_54) (all_c (ok_stk (s_bipush dX12_startRead_57 (by decide))) (all_c (ok_iload_n dX12_startRead_59 rfl) (all_c (ok_stk (s_iadd dX12_startRead_60)) (all_c (ok_stk (s_iconst dX12_startRead_61 (by decide))) (all_c (ok_iast dX12_startRead_62) (all_c (ok_iinc dX12_startRead_63 (by decide) (by decide)) (all_c (ok_goto dX12_startRead_66 (by decide)) (all_c (ok_aload_n dX12_startRead_69 rfl) (all_c (okg_X12_15 kw177 dX12_startRead_70) (all_c (ok_stk (s_iconst dX12_startRead_73 (by decide))) (all_c (ok_stk (s_iconst dX12_startRead_74 (by decide))) (all_c (ok_iast dX12_startRead_75) (all_c (ok_aload_n dX12_startRead_76 rfl) (all_c (okg_X12_15 kw177 dX12_startRead_77) (all_c (ok_stk (s_iconst dX12_startRead_80 (by decide))) (all_c (ok_stk (s_iconst dX12_startRead_81 (by decide))) (all_c (ok_iast dX12_startRead_82) (all_c (ok_vret dX12_startRead_83) all_n))))))))))))))))))))))))))))))))))))))))))))))))))) 1000000 (fun h => by first | rfl | cases h)
theorem dX12_startSo_0 : decode cX12_startSo 0 = .ok (.bipush 94, 2) := by decide +kernel
theorem dX12_startSo_2 : decode cX12_startSo 2 = .ok (.istore_n 1, 1) := by decide +kernel
theorem dX12_startSo_3 : decode cX12_startSo 3 = .ok (.iload_n 1, 1) := by decide +kernel
theorem dX12_startSo_4 : decode cX12_startSo 4 = .ok (.sipush 438, 3) := by decide +kernel
theorem dX12_startSo_7 : decode cX12_startSo 7 = .ok (.if_icmp .ge 16, 3) := by decide +kernel
theorem dX12_startSo_10 : decode cX12_startSo 10 = .ok (.aload_n 0, 1) := by decide +kernel
theorem dX12_startSo_11 : decode cX12_startSo 11 = .ok (.getfield 98, 3) := by decide +kernel
theorem dX12_startSo_14 : decode cX12_startSo 14 = .ok (.iload_n 1, 1) := by decide +kernel
theorem dX12_startSo_15 : decode cX12_startSo 15 = .ok (.iconst 0, 1) := by decide +kernel
theorem dX12_startSo_16 : decode cX12_startSo 16 = .ok (.iastore, 1) := by decide +kernel
theorem dX12_startSo_17 : decode cX12_startSo 17 = .ok (.iinc 1 1, 3) := by decide +kernel
theorem dX12_startSo_20 : decode cX12_startSo 20 = .ok (.goto (-17), 3) := by decide +kernel
theorem dX12_startSo_23 : decode cX12_startSo 23 = .ok (.iconst 0, 1) := by decide +kernel
theorem dX12_startSo_24 : decode cX12_startSo 24 = .ok (.istore_n 1, 1) := by decide +kernel
theorem dX12_startSo_25 : decode cX12_startSo 25 = .ok (.iload_n 1, 1) := by decide +kernel
theorem dX12_startSo_26 : decode cX12_startSo 26 = .ok (.bipush 10, 2) := by decide +kernel
theorem dX12_startSo_28 : decode cX12_startSo 28 = .ok (.if_icmp .ge 36, 3) := by decide +kernel
theorem dX12_startSo_31 : decode cX12_startSo 31 = .ok (.aload_n 0, 1) := by decide +kernel
theorem dX12_startSo_32 : decode cX12_startSo 32 = .ok (.getfield 98, 3) := by decide +kernel
theorem dX12_startSo_35 : decode cX12_startSo 35 = .ok (.bipush 98, 2) := by decide +kernel
theorem dX12_startSo_37 : decode cX12_startSo 37 = .ok (.iload_n 1, 1) := by decide +kernel
theorem dX12_startSo_38 : decode cX12_startSo 38 = .ok (.iadd, 1) := by decide +kernel
theorem dX12_startSo_39 : decode cX12_startSo 39 = .ok (.aload_n 0, 1) := by decide +kernel
theorem dX12_startSo_40 : decode cX12_startSo 40 = .ok (.getfield 98, 3) := by decide +kernel
theorem dX12_startSo_43 : decode cX12_startSo 43 = .ok (.iconst 5, 1) := by decide +kernel
theorem dX12_startSo_44 : decode cX12_startSo 44 = .ok (.iload_n 1, 1) := by decide +kernel
theorem dX12_startSo_45 : decode cX12_startSo 45 = .ok (.iadd, 1) := by decide +kernel
theorem dX12_startSo_46 : decode cX12_startSo 46 = .ok (.iaload, 1) := by decide +kernel
theorem dX12_startSo_47 : decode cX12_startSo 47 = .ok (.iastore, 1) := by decide +kernel
theorem dX12_startSo_48 : decode cX12_startSo 48 = .ok (.aload_n 0, 1) := by decide +kernel
theorem dX12_startSo_49 : decode cX12_startSo 49 = .ok (.getfield 98, 3) := by decide +kernel
theorem dX12_startSo_52 : decode cX12_startSo 52 = .ok (.bipush 108, 2) := by decide +kernel
theorem dX12_startSo_54 : decode cX12_startSo 54 = .ok (.iload_n 1, 1) := by decide +kernel
theorem dX12_startSo_55 : decode cX12_startSo 55 = .ok (.iadd, 1) := by decide +kernel
theorem dX12_startSo_56 : decode cX12_startSo 56 = .ok (.iconst (-1), 1) := by decide +kernel
theorem dX12_startSo_57 : decode cX12_startSo 57 = .ok (.iastore, 1) := by decide +kernel
theorem dX12_startSo_58 : decode cX12_startSo 58 = .ok (.iinc 1 1, 3) := by decide +kernel
theorem dX12_startSo_61 : decode cX12_startSo 61 = .ok (.goto (-36), 3) := by decide +kernel
theorem dX12_startSo_64 : decode cX12_startSo 64 = .ok (.iconst 0, 1) := by decide +kernel
theorem dX12_startSo_65 : decode cX12_startSo 65 = .ok (.istore_n 1, 1) := by decide +kernel
theorem dX12_startSo_66 : decode cX12_startSo 66 = .ok (.iload_n 1, 1) := by decide +kernel
theorem dX12_startSo_67 : decode cX12_startSo 67 = .ok (.bipush 36, 2) := by decide +kernel
theorem dX12_startSo_69 : decode cX12_startSo 69 = .ok (.if_icmp .ge 27, 3) := by decide +kernel
theorem dX12_startSo_72 : decode cX12_startSo 72 = .ok (.aload_n 0, 1) := by decide +kernel
theorem dX12_startSo_73 : decode cX12_startSo 73 = .ok (.getfield 98, 3) := by decide +kernel
theorem dX12_startSo_76 : decode cX12_startSo 76 = .ok (.bipush 118, 2) := by decide +kernel
theorem dX12_startSo_78 : decode cX12_startSo 78 = .ok (.iload_n 1, 1) := by decide +kernel
theorem dX12_startSo_79 : decode cX12_startSo 79 = .ok (.iadd, 1) := by decide +kernel
theorem dX12_startSo_80 : decode cX12_startSo 80 = .ok (.aload_n 0, 1) := by decide +kernel
theorem dX12_startSo_81 : decode cX12_startSo 81 = .ok (.getfield 98, 3) := by decide +kernel
theorem dX12_startSo_84 : decode cX12_startSo 84 = .ok (.bipush 46, 2) := by decide +kernel
theorem dX12_startSo_86 : decode cX12_startSo 86 = .ok (.iload_n 1, 1) := by decide +kernel
theorem dX12_startSo_87 : decode cX12_startSo 87 = .ok (.iadd, 1) := by decide +kernel
theorem dX12_startSo_88 : decode cX12_startSo 88 = .ok (.iaload, 1) := by decide +kernel
theorem dX12_startSo_89 : decode cX12_startSo 89 = .ok (.iastore, 1) := by decide +kernel
theorem dX12_startSo_90 : decode cX12_startSo 90 = .ok (.iinc 1 1, 3) := by decide +kernel
theorem dX12_startSo_93 : decode cX12_startSo 93 = .ok (.goto (-27), 3) := by decide +kernel
theorem dX12_startSo_96 : decode cX12_startSo 96 = .ok (.return_, 1) := by decide +kernel
def tX12_startSo (kn : sKn) : List (Nat × sA) := [(0, a_stk (q_int 94) 2), (2, a_istore 1 3), (3, a_iload 1 4), (4, a_stk (q_int 438) 7), (7, a_icmp kn b_ge 3 23 10), (10, a_aload 0 11), (11, a_get 13 14 14), (14, a_iload 1 15), (15, a_stk (q_int 0) 16), (16, a_iast 17), (17, a_iinc 1 1 20), (20, a_goto 3), (23, a_stk (q_int 0) 24), (24, a_istore 1 25), (25, a_iload 1 26), (26, a_stk (q_int 10) 28), (28, a_icmp kn b_ge 3 64 31), (31, a_aload 0 32), (32, a_get 13 14 35), (35, a_stk (q_int 98) 37), (37, a_iload 1 38), (38, a_stk q_iadd 39), (39, a_aload 0 40), (40, a_get 13 14 43), (43, a_stk (q_int 5) 44), (44, a_iload 1 45), (45, a_stk q_iadd 46), (46, a_iald 47), (47, a_iast 48), (48, a_aload 0 49), (49, a_get 13 14 52), (52, a_stk (q_int 108) 54), (54, a_iload 1 55), (55, a_stk q_iadd 56), (56, a_stk (q_int (-1)) 57), (57, a_iast 58), (58, a_iinc 1 1 61), (61, a_goto 25), (64, a_stk (q_int 0) 65), (65, a_istore 1 66), (66, a_iload 1 67), (67, a_stk (q_int 36) 69), (69, a_icmp kn b_ge 3 96 72), (72, a_aload 0 73), (73, a_get 13 14 76), (76, a_stk (q_int 118) 78), (78, a_iload 1 79), (79, a_stk q_iadd 80), (80, a_aload 0 81), (81, a_get 13 14 84), (84, a_stk (q_int 46) 86), (86, a_iload 1 87), (87, a_stk q_iadd 88), (88, a_iald 89), (89, a_iast 90), (90, a_iinc 1 1 93), (93, a_goto 66), (96, a_vret)]
def fX12_startSo (kn : sKn) : List Value → sW → Option sR := mF (tX12_startSo kn) 2 1000000
set_option maxRecDepth 100000 in
set_option maxHeartbeats 4000000 in
theorem mX12_startSo (kn : sKn) : mM kn yX12_startSo (Cond.code yX12_startSo cX12_startSo 2 none :: wsL_law0) 1 true (fX12_startSo kn) := mM_of (own := RX12) (ini := false) rfl (by decide +kernel) (by decide +kernel) (all_c (ok_stk (s_bipush dX12_startSo_0 (by decide))) (all_c (ok_istore_n dX12_startSo_2 rfl (by decide)) (all_c (ok_iload_n dX12_startSo_3 rfl) (all_c (ok_stk (s_sipush dX12_startSo_4 (by decide))) (all_c (ok_icmp_ge dX12_startSo_7 (by decide)) (all_c (ok_aload_n dX12_startSo_10 rfl) (all_c (okg_X12_14 kw178 dX12_startSo_11) (all_c (ok_iload_n dX12_startSo_14 rfl) (all_c (ok_stk (s_iconst dX12_startSo_15 (by decide))) (all_c (ok_iast dX12_startSo_16) (all_c (ok_iinc dX12_startSo_17 (by decide) (by decide)) (all_c (ok_goto dX12_startSo_20 (by decide)) (all_c (ok_stk (s_iconst dX12_startSo_23 (by decide))) (all_c (ok_istore_n dX12_startSo_24 rfl (by decide)) (all_c (ok_iload_n dX12_startSo_25 rfl) (all_c (ok_stk (s_bipush dX12_startSo_26 (by decide))) (all_c (ok_icmp_ge dX12_startSo_28 (by decide)) (all_c (ok_aload_n dX12_startSo_31 rfl) (all_c (okg_X12_14 kw178 dX12_startSo_32) (all_c (ok_stk (s_bipush dX12_startSo_35 (by decide))) (all_c (ok_iload_n dX12_startSo_37 rfl) (all_c (ok_stk (s_iadd dX12_startSo_38)) (all_c (ok_aload_n dX12_startSo_39 rfl) (all_c (okg_X12_14 kw178 dX12_startSo_40) (all_c (ok_stk (s_iconst dX12_startSo_43 (by decide))) (all_c (ok_iload_n dX12_startSo_44 rfl) (all_c (ok_stk (s_iadd dX12_startSo_45)) (all_c (ok_iald dX12_startSo_46) (all_c (ok_iast dX12_startSo_47) (all_c (ok_aload_n dX12_startSo_48 rfl) (all_c (okg_X12_14 kw178 dX12_startSo_49) (all_c (ok_stk (s_bipush dX12_startSo_52 (by decide))) (all_c (ok_iload_n dX12_startSo_54 rfl) (all_c (ok_stk (s_iadd dX12_startSo_55)) (all_c (ok_stk (s_iconst dX12_startSo_56 (by decide))) (all_c (ok_iast dX12_startSo_57) (all_c (ok_iinc dX12_startSo_58 (by decide) (by decide)) (all_c (ok_goto dX12_startSo_61 (by decide)) (all_c (ok_stk (s_iconst dX12_startSo_64 (by decide))) (all_c (ok_istore_n dX12_startSo_65 rfl (by decide)) (all_c (ok_iload_n dX12_startSo_66 rfl) (all_c (ok_stk (s_bipush dX12_startSo_67 (by decide))) (all_c (ok_icmp_ge dX12_startSo_69 (by decide)) (all_c (ok_aload_n dX12_startSo_72 rfl) (all_c (okg_X12_14 kw178 dX12_startSo_73) (all_c (ok_stk (s_bipush dX12_startSo_76 (by decide))) (all_c (ok_iload_n dX12_startSo_78 rfl) (all_c (ok_stk (s_iadd dX12_startSo_79)) (all_c (ok_aload_n dX12_startSo_80 rfl) (all_c (okg_X12_14 kw178 dX12_startSo_81) (all_c (ok_stk (s_bipush dX12_startSo_84 (by decide))) (all_c (ok_iload_n dX12_startSo_86 rfl) (all_c (ok_stk (s_iadd dX12_startSo_87)) (all_c (ok_iald dX12_startSo_88) (all_c (ok_iast dX12_startSo_89) (all_c (ok_iinc dX12_startSo_90 (by decide) (by decide)) (all_c (ok_goto dX12_startSo_93 (by decide)) (all_c (ok_vret dX12_startSo_96) all_n)))))))))))))))))))))))))))))))))))))))))))))))))))))))))) 1000000 (fun h => by first | rfl | cases h)
theorem dX12_init_0 : decode cX12_init 0 = .ok (.aload_n 0, 1) := by decide +kernel
theorem dX12_init_1 : decode cX12_init 1 = .ok (.invokespecial 93, 3) := by decide +kernel
theorem dX12_init_4 : decode cX12_init 4 = .ok (.aload_n 0, 1) := by decide +kernel
theorem dX12_init_5 : decode cX12_init 5 = .ok (.sipush 940, 3) := by decide +kernel
theorem dX12_init_8 : decode cX12_init 8 = .ok (.newarray .int, 2) := by decide +kernel
theorem dX12_init_10 : decode cX12_init 10 = .ok (.putfield 7, 3) := by decide +kernel
theorem dX12_init_13 : decode cX12_init 13 = .ok (.aload_n 0, 1) := by decide +kernel
theorem dX12_init_14 : decode cX12_init 14 = .ok (.sipush 438, 3) := by decide +kernel
theorem dX12_init_17 : decode cX12_init 17 = .ok (.newarray .int, 2) := by decide +kernel
theorem dX12_init_19 : decode cX12_init 19 = .ok (.putfield 98, 3) := by decide +kernel
theorem dX12_init_22 : decode cX12_init 22 = .ok (.aload_n 0, 1) := by decide +kernel
theorem dX12_init_23 : decode cX12_init 23 = .ok (.bipush 94, 2) := by decide +kernel
theorem dX12_init_25 : decode cX12_init 25 = .ok (.newarray .int, 2) := by decide +kernel
theorem dX12_init_27 : decode cX12_init 27 = .ok (.putfield 101, 3) := by decide +kernel
theorem dX12_init_30 : decode cX12_init 30 = .ok (.aload_n 0, 1) := by decide +kernel
theorem dX12_init_31 : decode cX12_init 31 = .ok (.sipush 876, 3) := by decide +kernel
theorem dX12_init_34 : decode cX12_init 34 = .ok (.newarray .int, 2) := by decide +kernel
theorem dX12_init_36 : decode cX12_init 36 = .ok (.putfield 104, 3) := by decide +kernel
theorem dX12_init_39 : decode cX12_init 39 = .ok (.aload_n 0, 1) := by decide +kernel
theorem dX12_init_40 : decode cX12_init 40 = .ok (.sipush 816, 3) := by decide +kernel
theorem dX12_init_43 : decode cX12_init 43 = .ok (.newarray .int, 2) := by decide +kernel
theorem dX12_init_45 : decode cX12_init 45 = .ok (.putfield 107, 3) := by decide +kernel
theorem dX12_init_48 : decode cX12_init 48 = .ok (.aload_n 0, 1) := by decide +kernel
theorem dX12_init_49 : decode cX12_init 49 = .ok (.bipush 102, 2) := by decide +kernel
theorem dX12_init_51 : decode cX12_init 51 = .ok (.newarray .int, 2) := by decide +kernel
theorem dX12_init_53 : decode cX12_init 53 = .ok (.putfield 110, 3) := by decide +kernel
theorem dX12_init_56 : decode cX12_init 56 = .ok (.aload_n 0, 1) := by decide +kernel
theorem dX12_init_57 : decode cX12_init 57 = .ok (.bipush 16, 2) := by decide +kernel
theorem dX12_init_59 : decode cX12_init 59 = .ok (.newarray .long, 2) := by decide +kernel
theorem dX12_init_61 : decode cX12_init 61 = .ok (.putfield 113, 3) := by decide +kernel
theorem dX12_init_64 : decode cX12_init 64 = .ok (.aload_n 0, 1) := by decide +kernel
theorem dX12_init_65 : decode cX12_init 65 = .ok (.bipush 16, 2) := by decide +kernel
theorem dX12_init_67 : decode cX12_init 67 = .ok (.newarray .long, 2) := by decide +kernel
theorem dX12_init_69 : decode cX12_init 69 = .ok (.putfield 117, 3) := by decide +kernel
theorem dX12_init_72 : decode cX12_init 72 = .ok (.aload_n 0, 1) := by decide +kernel
theorem dX12_init_73 : decode cX12_init 73 = .ok (.bipush 32, 2) := by decide +kernel
theorem dX12_init_75 : decode cX12_init 75 = .ok (.newarray .long, 2) := by decide +kernel
theorem dX12_init_77 : decode cX12_init 77 = .ok (.putfield 120, 3) := by decide +kernel
theorem dX12_init_80 : decode cX12_init 80 = .ok (.aload_n 0, 1) := by decide +kernel
theorem dX12_init_81 : decode cX12_init 81 = .ok (.iconst 2, 1) := by decide +kernel
theorem dX12_init_82 : decode cX12_init 82 = .ok (.newarray .boolean, 2) := by decide +kernel
theorem dX12_init_84 : decode cX12_init 84 = .ok (.putfield 123, 3) := by decide +kernel
theorem dX12_init_87 : decode cX12_init 87 = .ok (.aload_n 0, 1) := by decide +kernel
theorem dX12_init_88 : decode cX12_init 88 = .ok (.bipush 36, 2) := by decide +kernel
theorem dX12_init_90 : decode cX12_init 90 = .ok (.newarray .int, 2) := by decide +kernel
theorem dX12_init_92 : decode cX12_init 92 = .ok (.putfield 127, 3) := by decide +kernel
theorem dX12_init_95 : decode cX12_init 95 = .ok (.aload_n 0, 1) := by decide +kernel
theorem dX12_init_96 : decode cX12_init 96 = .ok (.bipush 48, 2) := by decide +kernel
theorem dX12_init_98 : decode cX12_init 98 = .ok (.newarray .int, 2) := by decide +kernel
theorem dX12_init_100 : decode cX12_init 100 = .ok (.putfield 130, 3) := by decide +kernel
theorem dX12_init_103 : decode cX12_init 103 = .ok (.aload_n 0, 1) := by decide +kernel
theorem dX12_init_104 : decode cX12_init 104 = .ok (.bipush 12, 2) := by decide +kernel
theorem dX12_init_106 : decode cX12_init 106 = .ok (.newarray .int, 2) := by decide +kernel
theorem dX12_init_108 : decode cX12_init 108 = .ok (.putfield 133, 3) := by decide +kernel
theorem dX12_init_111 : decode cX12_init 111 = .ok (.aload_n 0, 1) := by decide +kernel
theorem dX12_init_112 : decode cX12_init 112 = .ok (.bipush 48, 2) := by decide +kernel
theorem dX12_init_114 : decode cX12_init 114 = .ok (.newarray .int, 2) := by decide +kernel
theorem dX12_init_116 : decode cX12_init 116 = .ok (.putfield 136, 3) := by decide +kernel
theorem dX12_init_119 : decode cX12_init 119 = .ok (.aload_n 0, 1) := by decide +kernel
theorem dX12_init_120 : decode cX12_init 120 = .ok (.bipush 36, 2) := by decide +kernel
theorem dX12_init_122 : decode cX12_init 122 = .ok (.newarray .int, 2) := by decide +kernel
theorem dX12_init_124 : decode cX12_init 124 = .ok (.putfield 139, 3) := by decide +kernel
theorem dX12_init_127 : decode cX12_init 127 = .ok (.aload_n 0, 1) := by decide +kernel
theorem dX12_init_128 : decode cX12_init 128 = .ok (.bipush 36, 2) := by decide +kernel
theorem dX12_init_130 : decode cX12_init 130 = .ok (.newarray .int, 2) := by decide +kernel
theorem dX12_init_132 : decode cX12_init 132 = .ok (.putfield 142, 3) := by decide +kernel
theorem dX12_init_135 : decode cX12_init 135 = .ok (.aload_n 0, 1) := by decide +kernel
theorem dX12_init_136 : decode cX12_init 136 = .ok (.iconst 3, 1) := by decide +kernel
theorem dX12_init_137 : decode cX12_init 137 = .ok (.newarray .int, 2) := by decide +kernel
theorem dX12_init_139 : decode cX12_init 139 = .ok (.putfield 145, 3) := by decide +kernel
theorem dX12_init_142 : decode cX12_init 142 = .ok (.aload_n 0, 1) := by decide +kernel
theorem dX12_init_143 : decode cX12_init 143 = .ok (.iconst 3, 1) := by decide +kernel
theorem dX12_init_144 : decode cX12_init 144 = .ok (.newarray .int, 2) := by decide +kernel
theorem dX12_init_146 : decode cX12_init 146 = .ok (.putfield 148, 3) := by decide +kernel
theorem dX12_init_149 : decode cX12_init 149 = .ok (.aload_n 0, 1) := by decide +kernel
theorem dX12_init_150 : decode cX12_init 150 = .ok (.iconst 3, 1) := by decide +kernel
theorem dX12_init_151 : decode cX12_init 151 = .ok (.newarray .int, 2) := by decide +kernel
theorem dX12_init_153 : decode cX12_init 153 = .ok (.putfield 151, 3) := by decide +kernel
theorem dX12_init_156 : decode cX12_init 156 = .ok (.aload_n 0, 1) := by decide +kernel
theorem dX12_init_157 : decode cX12_init 157 = .ok (.bipush 6, 2) := by decide +kernel
theorem dX12_init_159 : decode cX12_init 159 = .ok (.newarray .int, 2) := by decide +kernel
theorem dX12_init_161 : decode cX12_init 161 = .ok (.putfield 154, 3) := by decide +kernel
theorem dX12_init_164 : decode cX12_init 164 = .ok (.aload_n 0, 1) := by decide +kernel
theorem dX12_init_165 : decode cX12_init 165 = .ok (.bipush 6, 2) := by decide +kernel
theorem dX12_init_167 : decode cX12_init 167 = .ok (.newarray .int, 2) := by decide +kernel
theorem dX12_init_169 : decode cX12_init 169 = .ok (.putfield 157, 3) := by decide +kernel
theorem dX12_init_172 : decode cX12_init 172 = .ok (.aload_n 0, 1) := by decide +kernel
theorem dX12_init_173 : decode cX12_init 173 = .ok (.sipush 720, 3) := by decide +kernel
theorem dX12_init_176 : decode cX12_init 176 = .ok (.newarray .int, 2) := by decide +kernel
theorem dX12_init_178 : decode cX12_init 178 = .ok (.putfield 160, 3) := by decide +kernel
theorem dX12_init_181 : decode cX12_init 181 = .ok (.aload_n 0, 1) := by decide +kernel
theorem dX12_init_182 : decode cX12_init 182 = .ok (.bipush 6, 2) := by decide +kernel
theorem dX12_init_184 : decode cX12_init 184 = .ok (.newarray .int, 2) := by decide +kernel
theorem dX12_init_186 : decode cX12_init 186 = .ok (.putfield 163, 3) := by decide +kernel
theorem dX12_init_189 : decode cX12_init 189 = .ok (.aload_n 0, 1) := by decide +kernel
theorem dX12_init_190 : decode cX12_init 190 = .ok (.iconst (-1), 1) := by decide +kernel
theorem dX12_init_191 : decode cX12_init 191 = .ok (.putfield 166, 3) := by decide +kernel
theorem dX12_init_194 : decode cX12_init 194 = .ok (.aload_n 0, 1) := by decide +kernel
theorem dX12_init_195 : decode cX12_init 195 = .ok (.iconst (-1), 1) := by decide +kernel
theorem dX12_init_196 : decode cX12_init 196 = .ok (.putfield 169, 3) := by decide +kernel
theorem dX12_init_199 : decode cX12_init 199 = .ok (.aload_n 0, 1) := by decide +kernel
theorem dX12_init_200 : decode cX12_init 200 = .ok (.bipush 64, 2) := by decide +kernel
theorem dX12_init_202 : decode cX12_init 202 = .ok (.newarray .int, 2) := by decide +kernel
theorem dX12_init_204 : decode cX12_init 204 = .ok (.putfield 172, 3) := by decide +kernel
theorem dX12_init_207 : decode cX12_init 207 = .ok (.aload_n 0, 1) := by decide +kernel
theorem dX12_init_208 : decode cX12_init 208 = .ok (.sipush 160, 3) := by decide +kernel
theorem dX12_init_211 : decode cX12_init 211 = .ok (.newarray .int, 2) := by decide +kernel
theorem dX12_init_213 : decode cX12_init 213 = .ok (.putfield 175, 3) := by decide +kernel
theorem dX12_init_216 : decode cX12_init 216 = .ok (.aload_n 0, 1) := by decide +kernel
theorem dX12_init_217 : decode cX12_init 217 = .ok (.iconst 4, 1) := by decide +kernel
theorem dX12_init_218 : decode cX12_init 218 = .ok (.newarray .int, 2) := by decide +kernel
theorem dX12_init_220 : decode cX12_init 220 = .ok (.putfield 178, 3) := by decide +kernel
theorem dX12_init_223 : decode cX12_init 223 = .ok (.aload_n 0, 1) := by decide +kernel
theorem dX12_init_224 : decode cX12_init 224 = .ok (.sipush 240, 3) := by decide +kernel
theorem dX12_init_227 : decode cX12_init 227 = .ok (.newarray .int, 2) := by decide +kernel
theorem dX12_init_229 : decode cX12_init 229 = .ok (.putfield 181, 3) := by decide +kernel
theorem dX12_init_232 : decode cX12_init 232 = .ok (.aload_n 0, 1) := by decide +kernel
theorem dX12_init_233 : decode cX12_init 233 = .ok (.invokevirtual 184, 3) := by decide +kernel
theorem dX12_init_236 : decode cX12_init 236 = .ok (.iconst 0, 1) := by decide +kernel
theorem dX12_init_237 : decode cX12_init 237 = .ok (.istore_n 1, 1) := by decide +kernel
theorem dX12_init_238 : decode cX12_init 238 = .ok (.iload_n 1, 1) := by decide +kernel
theorem dX12_init_239 : decode cX12_init 239 = .ok (.bipush 94, 2) := by decide +kernel
theorem dX12_init_241 : decode cX12_init 241 = .ok (.if_icmp .ge 21, 3) := by decide +kernel
theorem dX12_init_244 : decode cX12_init 244 = .ok (.aload_n 0, 1) := by decide +kernel
theorem dX12_init_245 : decode cX12_init 245 = .ok (.getfield 98, 3) := by decide +kernel
theorem dX12_init_248 : decode cX12_init 248 = .ok (.iload_n 1, 1) := by decide +kernel
theorem dX12_init_249 : decode cX12_init 249 = .ok (.aload_n 0, 1) := by decide +kernel
theorem dX12_init_250 : decode cX12_init 250 = .ok (.getfield 101, 3) := by decide +kernel
theorem dX12_init_253 : decode cX12_init 253 = .ok (.iload_n 1, 1) := by decide +kernel
theorem dX12_init_254 : decode cX12_init 254 = .ok (.iaload, 1) := by decide +kernel
theorem dX12_init_255 : decode cX12_init 255 = .ok (.iastore, 1) := by decide +kernel
theorem dX12_init_256 : decode cX12_init 256 = .ok (.iinc 1 1, 3) := by decide +kernel
theorem dX12_init_259 : decode cX12_init 259 = .ok (.goto (-21), 3) := by decide +kernel
theorem dX12_init_262 : decode cX12_init 262 = .ok (.aload_n 0, 1) := by decide +kernel
theorem dX12_init_263 : decode cX12_init 263 = .ok (.invokevirtual 187, 3) := by decide +kernel
theorem dX12_init_266 : decode cX12_init 266 = .ok (.return_, 1) := by decide +kernel
theorem okc_X12_startRead {kn : sKn} {cc : ByteArray} {own : String} {nL : Nat} {D : Nat} {ret : Option FieldType} {ini : Bool} {pc index : Nat} (hD : 1 + 1 ≤ D) (hl : Cond.methodLink own index yX12_startRead ∈ wsL_law0) (hd : decode cc pc = .ok (.invokevirtual index, 3)) : mOk kn cc own nL wsL_law0 D ret ini pc (a_callV true (fX12_startRead kn) 13 (0 + 1) (pc + 3)) := ok_callV (mX12_startRead kn) (good_ws ws_good (fun _ h => h) kw207) hD (by decide) hl kw209 kw210 kw208 ⟨by decide +kernel, by decide +kernel, by decide +kernel⟩ rfl hd
theorem okc_X12_startSo {kn : sKn} {cc : ByteArray} {own : String} {nL : Nat} {D : Nat} {ret : Option FieldType} {ini : Bool} {pc index : Nat} (hD : 1 + 1 ≤ D) (hl : Cond.methodLink own index yX12_startSo ∈ wsL_law0) (hd : decode cc pc = .ok (.invokevirtual index, 3)) : mOk kn cc own nL wsL_law0 D ret ini pc (a_callV true (fX12_startSo kn) 13 (0 + 1) (pc + 3)) := ok_callV (mX12_startSo kn) (good_ws ws_good (fun _ h => h) kw212) hD (by decide) hl kw213 kw214 kw208 ⟨by decide +kernel, by decide +kernel, by decide +kernel⟩ rfl hd
def tX12_init (kn : sKn) : List (Nat × sA) := [(0, a_aload 0 1), (1, a_obj 4), (4, a_aload 0 5), (5, a_stk (q_int 940) 8), (8, a_newa 1 10), (10, a_put 13 1 ckR 13), (13, a_aload 0 14), (14, a_stk (q_int 438) 17), (17, a_newa 1 19), (19, a_put 13 14 ckR 22), (22, a_aload 0 23), (23, a_stk (q_int 94) 25), (25, a_newa 1 27), (27, a_put 13 15 ckR 30), (30, a_aload 0 31), (31, a_stk (q_int 876) 34), (34, a_newa 1 36), (36, a_put 13 16 ckR 39), (39, a_aload 0 40), (40, a_stk (q_int 816) 43), (43, a_newa 1 45), (45, a_put 13 17 ckR 48), (48, a_aload 0 49), (49, a_stk (q_int 102) 51), (51, a_newa 1 53), (53, a_put 13 18 ckR 56), (56, a_aload 0 57), (57, a_stk (q_int 16) 59), (59, a_newa 2 61), (61, a_put 13 19 ckR 64), (64, a_aload 0 65), (65, a_stk (q_int 16) 67), (67, a_newa 2 69), (69, a_put 13 20 ckR 72), (72, a_aload 0 73), (73, a_stk (q_int 32) 75), (75, a_newa 2 77), (77, a_put 13 21 ckR 80), (80, a_aload 0 81), (81, a_stk (q_int 2) 82), (82, a_newa 3 84), (84, a_put 13 22 ckR 87), (87, a_aload 0 88), (88, a_stk (q_int 36) 90), (90, a_newa 1 92), (92, a_put 13 27 ckR 95), (95, a_aload 0 96), (96, a_stk (q_int 48) 98), (98, a_newa 1 100), (100, a_put 13 29 ckR 103), (103, a_aload 0 104), (104, a_stk (q_int 12) 106), (106, a_newa 1 108), (108, a_put 13 30 ckR 111), (111, a_aload 0 112), (112, a_stk (q_int 48) 114), (114, a_newa 1 116), (116, a_put 13 31 ckR 119), (119, a_aload 0 120), (120, a_stk (q_int 36) 122), (122, a_newa 1 124), (124, a_put 13 32 ckR 127), (127, a_aload 0 128), (128, a_stk (q_int 36) 130), (130, a_newa 1 132), (132, a_put 13 33 ckR 135), (135, a_aload 0 136), (136, a_stk (q_int 3) 137), (137, a_newa 1 139), (139, a_put 13 34 ckR 142), (142, a_aload 0 143), (143, a_stk (q_int 3) 144), (144, a_newa 1 146), (146, a_put 13 37 ckR 149), (149, a_aload 0 150), (150, a_stk (q_int 3) 151), (151, a_newa 1 153), (153, a_put 13 38 ckR 156), (156, a_aload 0 157), (157, a_stk (q_int 6) 159), (159, a_newa 1 161), (161, a_put 13 40 ckR 164), (164, a_aload 0 165), (165, a_stk (q_int 6) 167), (167, a_newa 1 169), (169, a_put 13 41 ckR 172), (172, a_aload 0 173), (173, a_stk (q_int 720) 176), (176, a_newa 1 178), (178, a_put 13 42 ckR 181), (181, a_aload 0 182), (182, a_stk (q_int 6) 184), (184, a_newa 1 186), (186, a_put 13 45 ckR 189), (189, a_aload 0 190), (190, a_stk (q_int (-1)) 191), (191, a_put 13 46 ckI 194), (194, a_aload 0 195), (195, a_stk (q_int (-1)) 196), (196, a_put 13 47 ckI 199), (199, a_aload 0 200), (200, a_stk (q_int 64) 202), (202, a_newa 1 204), (204, a_put 13 48 ckR 207), (207, a_aload 0 208), (208, a_stk (q_int 160) 211), (211, a_newa 1 213), (213, a_put 13 51 ckR 216), (216, a_aload 0 217), (217, a_stk (q_int 4) 218), (218, a_newa 1 220), (220, a_put 13 52 ckR 223), (223, a_aload 0 224), (224, a_stk (q_int 240) 227), (227, a_newa 1 229), (229, a_put 13 55 ckR 232), (232, a_aload 0 233), (233, a_callV true (fX12_startRead kn) 13 1 236), (236, a_stk (q_int 0) 237), (237, a_istore 1 238), (238, a_iload 1 239), (239, a_stk (q_int 94) 241), (241, a_icmp kn b_ge 3 262 244), (244, a_aload 0 245), (245, a_get 13 14 248), (248, a_iload 1 249), (249, a_aload 0 250), (250, a_get 13 15 253), (253, a_iload 1 254), (254, a_iald 255), (255, a_iast 256), (256, a_iinc 1 1 259), (259, a_goto 238), (262, a_aload 0 263), (263, a_callV true (fX12_startSo kn) 13 1 266), (266, a_vret)]
def fX12_init (kn : sKn) : List Value → sW → Option sR := mF (tX12_init kn) 2 1000000
set_option maxRecDepth 100000 in
set_option maxHeartbeats 4000000 in
theorem mX12_init (kn : sKn) : mM kn yX12_init (Cond.code yX12_init cX12_init 2 none :: wsL_law0) 2 true (fX12_init kn) := mM_of (own := RX12) (ini := true) rfl (by decide +kernel) (by decide +kernel) (all_c (ok_aload_n dX12_init_0 rfl) (all_c (ok_obj (by decide) kw179 kw8 kw9 dX12_init_1) (all_c (ok_aload_n dX12_init_4 rfl) (all_c (ok_stk (s_sipush dX12_init_5 (by decide))) (all_c (ok_newI kw21 dX12_init_8) (all_c (okp_X12_1 kw180 dX12_init_10) (all_c (ok_aload_n dX12_init_13 rfl) (all_c (ok_stk (s_sipush dX12_init_14 (by decide))) (all_c (ok_newI kw21 dX12_init_17) (all_c (okp_X12_14 kw178 dX12_init_19) (all_c (ok_aload_n dX12_init_22 rfl) (all_c (ok_stk (s_bipush dX12_init_23 (by decide))) (all_c (ok_newI kw21 dX12_init_25) (all_c (okp_X12_15 kw177 dX12_init_27) (all_c (ok_aload_n dX12_init_30 rfl) (all_c (ok_stk (s_sipush dX12_init_31 (by decide))) (all_c (ok_newI kw21 dX12_init_34) (all_c (okp_X12_16 kw181 dX12_init_36) (all_c (ok_aload_n dX12_init_39 rfl) (all_c (ok_stk (s_sipush dX12_init_40 (by decide))) (all_c (ok_newI kw21 dX12_init_43) (all_c (okp_X12_17 kw182 dX12_init_45) (all_c (ok_aload_n dX12_init_48 rfl) (all_c (ok_stk (s_bipush dX12_init_49 (by decide))) (all_c (ok_newI kw21 dX12_init_51) (all_c (okp_X12_18 kw183 dX12_init_53) (all_c (ok_aload_n dX12_init_56 rfl) (all_c (ok_stk (s_bipush dX12_init_57 (by decide))) (all_c (ok_newJ kw66 dX12_init_59) (all_c (okp_X12_19 kw184 dX12_init_61) (all_c (ok_aload_n dX12_init_64 rfl) (all_c (ok_stk (s_bipush dX12_init_65 (by decide))) (all_c (ok_newJ kw66 dX12_init_67) (all_c (okp_X12_20 kw185 dX12_init_69) (all_c (ok_aload_n dX12_init_72 rfl) (all_c (ok_stk (s_bipush dX12_init_73 (by decide))) (all_c (ok_newJ kw66 dX12_init_75) (all_c (okp_X12_21 kw186 dX12_init_77) (all_c (ok_aload_n dX12_init_80 rfl) (all_c (ok_stk (s_iconst dX12_init_81 (by decide))) (all_c (ok_newZ kw175 dX12_init_82) (all_c (okp_X12_22 kw187 dX12_init_84) (all_c (ok_aload_n dX12_init_87 rfl) (all_c (ok_stk (s_bipush dX12_init_88 (by decide))) (all_c (ok_newI kw21 dX12_init_90) (all_c (okp_X12_27 kw188 dX12_init_92) (all_c (ok_aload_n dX12_init_95 rfl) (all_c (ok_stk (s_bipush dX12_init_96 (by decide))) (all_c (ok_newI kw21 dX12_init_98) (all_c (okp_X12_29 kw189 dX12_init_100) (all_c (ok_aload_n dX12_init_103 rfl) (all_c (ok_stk (s_bipush dX12_init_104 (by decide))) (all_c (ok_newI kw21 dX12_init_106) (all_c (okp_X12_30 kw190 dX12_init_108) (all_c (ok_aload_n dX12_init_111 rfl) (all_c (ok_stk (s_bipush dX12_init_112 (by decide))) (all_c (ok_newI kw21 dX12_init_114) (all_c (okp_X12_31 kw191 dX12_init_116) (all_c (ok_aload_n dX12_init_119 rfl) (all_c (ok_stk (s_bipush dX12_init_120 (by decide))) (all_c (ok_newI kw21 dX12_init_122) (all_c (okp_X12_32 kw192 dX12_init_124) (all_c (ok_aload_n dX12_init_127 rfl) (all_c (ok_stk (s_bipush dX12_init_128 (by decide))) (all_c (ok_newI kw21 dX12_init_130) (all_c (okp_X12_33 kw193 dX12_init_132) (all_c (ok_aload_n dX12_init_135 rfl) (all_c (ok_stk (s_iconst dX12_init_136 (by decide))) (all_c (ok_newI kw21 dX12_init_137) (all_c (okp_X12_34 kw194 dX12_init_139) (all_c (ok_aload_n dX12_init_142 rfl) (all_c (ok_stk (s_iconst dX12_init_143 (by decide))) (all_c (ok_newI kw21 dX12_init_144) (all_c (okp_X12_37 kw195 dX12_init_146) (all_c (ok_aload_n dX12_init_149 rfl) (all_c (ok_stk (s_iconst dX12_init_150 (by decide))) (all_c (ok_newI kw21 dX12_init_151) (all_c (okp_X12_38 kw196 dX12_init_153) (all_c (ok_aload_n dX12_init_156 rfl) (all_c (ok_stk (s_bipush dX12_init_157 (by decide))) (all_c (ok_newI kw21 dX12_init_159) (all_c (okp_X12_40 kw197 dX12_init_161) (all_c (ok_aload_n dX12_init_164 rfl) (all_c (ok_stk (s_bipush dX12_init_165 (by decide))) (all_c (ok_newI kw21 dX12_init_167) (all_c (okp_X12_41 kw198 dX12_init_169) (all_c (ok_aload_n dX12_init_172 rfl) (all_c (ok_stk (s_sipush dX12_init_173 (by decide))) (all_c (ok_newI kw21 dX12_init_176) (all_c (okp_X12_42 kw199 dX12_init_178) (all_c (ok_aload_n dX12_init_181 rfl) (all_c (ok_stk (s_bipush dX12_init_182 (by decide))) (all_c (ok_newI kw21 dX12_init_184) (all_c (okp_X12_45 kw200 dX12_init_186) (all_c (ok_aload_n dX12_init_189 rfl) (all_c (ok_stk (s_iconst dX12_init_190 (by decide))) (all_c (okp_X12_46 kw201 dX12_init_191) (all_c (ok_aload_n dX12_init_194 rfl) (all_c (ok_stk (s_iconst dX12_init_195 (by decide))) (all_c (okp_X12_47 kw202 dX12_init_196) (all_c (ok_aload_n dX12_init_199 rfl) (all_c (ok_stk (s_bipush dX12_init_200 (by decide))) (all_c (ok_newI kw21 dX12_init_202) (all_c (okp_X12_48 kw203 dX12_init_204) (all_c (ok_aload_n dX12_init_207 rfl) (all_c (ok_stk (s_sipush dX12_init_208 (by decide))) (all_c (ok_newI kw21 dX12_init_211) (all_c (okp_X12_51 kw204 dX12_init_213) (all_c (ok_aload_n dX12_init_216 rfl) (all_c (ok_stk (s_iconst dX12_init_217 (by decide))) (all_c (ok_newI kw21 dX12_init_218) (all_c (okp_X12_52 kw205 dX12_init_220) (all_c (ok_aload_n dX12_init_223 rfl) (all_c (ok_stk (s_sipush dX12_init_224 (by decide))) (all_c (ok_newI kw21 dX12_init_227) (all_c (okp_X12_55 kw206 dX12_init_229) (all_c (ok_aload_n dX12_init_232 rfl) (all_c (okc_X12_startRead (by decide) kw211 dX12_init_233) (all_c (ok_stk (s_iconst dX12_init_236 (by decide))) (all_c (ok_istore_n dX12_init_237 rfl (by decide)) (all_c (ok_iload_n dX12_init_238 rfl) (all_c (ok_stk (s_bipush dX12_init_239 (by decide))) (all_c (ok_icmp_ge dX12_init_241 (by decide)) (all_c (ok_aload_n dX12_init_244 rfl) (all_c (okg_X12_14 kw178 dX12_init_245) (all_c (ok_iload_n dX12_init_248 rfl) (all_c (ok_aload_n dX12_init_249 rfl) (all_c (okg_X12_15 kw177 dX12_init_250) (all_c (ok_iload_n dX12_init_253 rfl) (all_c (ok_iald dX12_init_254) (all_c (ok_iast dX12_init_255) (all_c (ok_iinc dX12_init_256 (by decide) (by decide)) (all_c (ok_goto dX12_init_259 (by decide)) (all_c (ok_aload_n dX12_init_262 rfl) (all_c (okc_X12_startSo (by decide) kw215 dX12_init_263) (all_c (ok_vret dX12_init_266) all_n)))))))))))))))))))))))))))))))))))))))))))))))))))))))))))))))))))))))))))))))))))))))))))))))))))))))))))))))))))))))))))))))))))))))) 1000000 (fun h => by first | rfl | cases h)
end
