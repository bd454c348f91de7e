noncomputable section
theorem dJ0_isLatin1_aae02_0 : decode cJ0_isLatin1_aae02 0 = .ok (.getstatic 38, 3) := by decide +kernel
theorem dJ0_isLatin1_aae02_3 : decode cJ0_isLatin1_aae02 3 = .ok (.ifCond .eq 14, 3) := by decide +kernel
theorem dJ0_isLatin1_aae02_6 : decode cJ0_isLatin1_aae02 6 = .ok (.aload_n 0, 1) := by decide +kernel
theorem dJ0_isLatin1_aae02_7 : decode cJ0_isLatin1_aae02 7 = .ok (.getfield 15, 3) := by decide +kernel
theorem dJ0_isLatin1_aae02_10 : decode cJ0_isLatin1_aae02 10 = .ok (.ifCond .ne 7, 3) := by decide +kernel
theorem dJ0_isLatin1_aae02_13 : decode cJ0_isLatin1_aae02 13 = .ok (.iconst 1, 1) := by decide +kernel
theorem dJ0_isLatin1_aae02_14 : decode cJ0_isLatin1_aae02 14 = .ok (.goto 4, 3) := by decide +kernel
theorem dJ0_isLatin1_aae02_17 : decode cJ0_isLatin1_aae02 17 = .ok (.iconst 0, 1) := by decide +kernel
theorem dJ0_isLatin1_aae02_18 : decode cJ0_isLatin1_aae02 18 = .ok (.ireturn, 1) := by decide +kernel
def tJ0_isLatin1_aae02 (kn : sKn) : List (Nat × sA) := [(0, a_getsI 1 3), (3, a_if kn b_eq 0 17 6), (6, a_aload 0 7), (7, a_strfK (.int 0) 10), (10, a_if kn b_ne 1 17 13), (13, a_stk (q_int 1) 14), (14, a_goto 18), (17, a_stk (q_int 0) 18), (18, a_zret)]
def fJ0_isLatin1_aae02 (kn : sKn) : List Value → sW → Option sR := fW (tJ0_isLatin1_aae02 kn) 1
set_option maxRecDepth 100000 in
set_option maxHeartbeats 4000000 in
theorem mJ0_isLatin1_aae02 (kn : sKn) : mM kn yJ0_isLatin1_aae02 (Cond.code yJ0_isLatin1_aae02 cJ0_isLatin1_aae02 1 (some .boolean) :: wsL_law) 1 false (fJ0_isLatin1_aae02 kn) := mM_W (fun n => mM_of (own := RJ0) (ini := false) rfl (by decide +kernel) (by decide +kernel) (all_c (ok_compact kw1 dJ0_isLatin1_aae02_0) (all_c (ok_if_eq dJ0_isLatin1_aae02_3 (by decide)) (all_c (ok_aload_n dJ0_isLatin1_aae02_6 rfl) (all_c (ok_strCK kw2 dJ0_isLatin1_aae02_7) (all_c (ok_if_ne dJ0_isLatin1_aae02_10 (by decide)) (all_c (ok_stk (s_iconst dJ0_isLatin1_aae02_13 (by decide))) (all_c (ok_goto dJ0_isLatin1_aae02_14 (by decide)) (all_c (ok_stk (s_iconst dJ0_isLatin1_aae02_17 (by decide))) (all_c (ok_zret dJ0_isLatin1_aae02_18) all_n))))))))) n (fun h => by first | rfl | cases h))
theorem dJ3_checkIndex_8e157_0 : decode cJ3_checkIndex_8e157 0 = .ok (.iload_n 0, 1) := by decide +kernel
theorem dJ3_checkIndex_8e157_1 : decode cJ3_checkIndex_8e157 1 = .ok (.ifCond .lt 8, 3) := by decide +kernel
theorem dJ3_checkIndex_8e157_4 : decode cJ3_checkIndex_8e157 4 = .ok (.iload_n 0, 1) := by decide +kernel
theorem dJ3_checkIndex_8e157_5 : decode cJ3_checkIndex_8e157 5 = .ok (.iload_n 1, 1) := by decide +kernel
theorem dJ3_checkIndex_8e157_6 : decode cJ3_checkIndex_8e157 6 = .ok (.if_icmp .lt 10, 3) := by decide +kernel
theorem dJ3_checkIndex_8e157_9 : decode cJ3_checkIndex_8e157 9 = .ok (.aload_n 2, 1) := by decide +kernel
theorem dJ3_checkIndex_8e157_10 : decode cJ3_checkIndex_8e157 10 = .ok (.iload_n 0, 1) := by decide +kernel
theorem dJ3_checkIndex_8e157_11 : decode cJ3_checkIndex_8e157 11 = .ok (.iload_n 1, 1) := by decide +kernel
theorem dJ3_checkIndex_8e157_12 : decode cJ3_checkIndex_8e157 12 = .ok (.invokestatic 95, 3) := by decide +kernel
theorem dJ3_checkIndex_8e157_15 : decode cJ3_checkIndex_8e157 15 = .ok (.athrow, 1) := by decide +kernel
theorem dJ3_checkIndex_8e157_16 : decode cJ3_checkIndex_8e157 16 = .ok (.iload_n 0, 1) := by decide +kernel
theorem dJ3_checkIndex_8e157_17 : decode cJ3_checkIndex_8e157 17 = .ok (.ireturn, 1) := by decide +kernel
def tJ3_checkIndex_8e157 (kn : sKn) : List (Nat × sA) := [(0, a_iload 0 1), (1, a_if kn b_lt 2 9 4), (4, a_iload 0 5), (5, a_iload 1 6), (6, a_icmp kn b_lt 2 16 9), (9, a_aload 2 10), (10, a_iload 0 11), (11, a_iload 1 12), (12, a_none), (15, a_none), (16, a_iload 0 17), (17, a_iret)]
def fJ3_checkIndex_8e157 (kn : sKn) : List Value → sW → Option sR := fW (tJ3_checkIndex_8e157 kn) 3
set_option maxRecDepth 100000 in
set_option maxHeartbeats 4000000 in
theorem mJ3_checkIndex_8e157 (kn : sKn) : mM kn yJ3_checkIndex_8e157 (Cond.code yJ3_checkIndex_8e157 cJ3_checkIndex_8e157 3 (some .int) :: wsL_law) 1 false (fJ3_checkIndex_8e157 kn) := mM_W (fun n => mM_of (own := RJ3) (ini := false) rfl (by decide +kernel) (by decide +kernel) (all_c (ok_iload_n dJ3_checkIndex_8e157_0 rfl) (all_c (ok_if_lt dJ3_checkIndex_8e157_1 (by decide)) (all_c (ok_iload_n dJ3_checkIndex_8e157_4 rfl) (all_c (ok_iload_n dJ3_checkIndex_8e157_5 rfl) (all_c (ok_icmp_lt dJ3_checkIndex_8e157_6 (by decide)) (all_c (ok_aload_n dJ3_checkIndex_8e157_9 rfl) (all_c (ok_iload_n dJ3_checkIndex_8e157_10 rfl) (all_c (ok_iload_n dJ3_checkIndex_8e157_11 rfl) (all_c (ok_none) (all_c (ok_none) (all_c (ok_iload_n dJ3_checkIndex_8e157_16 rfl) (all_c (ok_iret dJ3_checkIndex_8e157_17) all_n)))))))))))) n (fun h => by first | rfl | cases h))
theorem dJ0_checkIndex_df160_0 : decode cJ0_checkIndex_df160 0 = .ok (.iload_n 0, 1) := by decide +kernel
theorem dJ0_checkIndex_df160_1 : decode cJ0_checkIndex_df160 1 = .ok (.iload_n 1, 1) := by decide +kernel
theorem dJ0_checkIndex_df160_2 : decode cJ0_checkIndex_df160 2 = .ok (.getstatic 1053, 3) := by decide +kernel
theorem dJ0_checkIndex_df160_5 : decode cJ0_checkIndex_df160 5 = .ok (.invokestatic 1059, 3) := by decide +kernel
theorem dJ0_checkIndex_df160_8 : decode cJ0_checkIndex_df160 8 = .ok (.pop, 1) := by decide +kernel
theorem dJ0_checkIndex_df160_9 : decode cJ0_checkIndex_df160 9 = .ok (.return_, 1) := by decide +kernel
theorem okc_J3_checkIndex_8e157 {kn : sKn} {cc : ByteArray} {own : String} {nL : Nat} {D : Nat} {ret : Option FieldType} {ini : Bool} {pc index : Nat} (hD : 1 + 1 ≤ D) (hl : Cond.methodLink own index yJ3_checkIndex_8e157 ∈ wsL_law) (hd : decode cc pc = .ok (.invokestatic index, 3)) : mOk kn cc own nL wsL_law D ret ini pc (a_callS false (fJ3_checkIndex_8e157 kn) 3 (pc + 3)) := ok_callS (mJ3_checkIndex_8e157 kn) (good_ws ws_good (fun _ h => h) kw4) hD (by decide) hl kw6 kw5 ⟨by decide +kernel, by decide +kernel, by decide +kernel⟩ hd
def tJ0_checkIndex_df160 (kn : sKn) : List (Nat × sA) := [(0, a_iload 0 1), (1, a_iload 1 2), (2, a_sio kn 5), (5, a_callS false (fJ3_checkIndex_8e157 kn) 3 8), (8, a_stk q_pop 9), (9, a_vret)]
def fJ0_checkIndex_df160 (kn : sKn) : List Value → sW → Option sR := fW (tJ0_checkIndex_df160 kn) 2
set_option maxRecDepth 100000 in
set_option maxHeartbeats 4000000 in
theorem mJ0_checkIndex_df160 (kn : sKn) : mM kn yJ0_checkIndex_df160 (Cond.code yJ0_checkIndex_df160 cJ0_checkIndex_df160 2 none :: wsL_law) 2 true (fJ0_checkIndex_df160 kn) := mM_W (fun n => mM_of (own := RJ0) (ini := false) rfl (by decide +kernel) (by decide +kernel) (all_c (ok_iload_n dJ0_checkIndex_df160_0 rfl) (all_c (ok_iload_n dJ0_checkIndex_df160_1 rfl) (all_c (ok_sio kw3 dJ0_checkIndex_df160_2) (all_c (okc_J3_checkIndex_8e157 (by decide) kw7 dJ0_checkIndex_df160_5) (all_c (ok_stk (s_pop dJ0_checkIndex_df160_8)) (all_c (ok_vret dJ0_checkIndex_df160_9) all_n)))))) n (fun h => by first | rfl | cases h))
theorem dJ1_charAt_3b067_0 : decode cJ1_charAt_3b067 0 = .ok (.iload_n 1, 1) := by decide +kernel
theorem dJ1_charAt_3b067_1 : decode cJ1_charAt_3b067 1 = .ok (.aload_n 0, 1) := by decide +kernel
theorem dJ1_charAt_3b067_2 : decode cJ1_charAt_3b067 2 = .ok (.arraylength, 1) := by decide +kernel
theorem dJ1_charAt_3b067_3 : decode cJ1_charAt_3b067 3 = .ok (.invokestatic 9, 3) := by decide +kernel
theorem dJ1_charAt_3b067_6 : decode cJ1_charAt_3b067 6 = .ok (.aload_n 0, 1) := by decide +kernel
theorem dJ1_charAt_3b067_7 : decode cJ1_charAt_3b067 7 = .ok (.iload_n 1, 1) := by decide +kernel
theorem dJ1_charAt_3b067_8 : decode cJ1_charAt_3b067 8 = .ok (.baload, 1) := by decide +kernel
theorem dJ1_charAt_3b067_9 : decode cJ1_charAt_3b067 9 = .ok (.sipush 255, 3) := by decide +kernel
theorem dJ1_charAt_3b067_12 : decode cJ1_charAt_3b067 12 = .ok (.iand, 1) := by decide +kernel
theorem dJ1_charAt_3b067_13 : decode cJ1_charAt_3b067 13 = .ok (.i2c, 1) := by decide +kernel
theorem dJ1_charAt_3b067_14 : decode cJ1_charAt_3b067 14 = .ok (.ireturn, 1) := by decide +kernel
theorem okc_J0_checkIndex_df160 {kn : sKn} {cc : ByteArray} {own : String} {nL : Nat} {D : Nat} {ret : Option FieldType} {ini : Bool} {pc index : Nat} (hD : 2 + 1 ≤ D) (hl : Cond.methodLink own index yJ0_checkIndex_df160 ∈ wsL_law) (hd : decode cc pc = .ok (.invokestatic index, 3)) : mOk kn cc own nL wsL_law D ret ini pc (a_callS true (fJ0_checkIndex_df160 kn) 2 (pc + 3)) := ok_callS (mJ0_checkIndex_df160 kn) (good_ws ws_good (fun _ h => h) kw8) hD (by decide) hl kw10 kw9 ⟨by decide +kernel, by decide +kernel, by decide +kernel⟩ hd
def tJ1_charAt_3b067 (kn : sKn) : List (Nat × sA) := [(0, a_iload 1 1), (1, a_aload 0 2), (2, a_alenSK 3), (3, a_callS true (fJ0_checkIndex_df160 kn) 2 6), (6, a_aload 0 7), (7, a_iload 1 8), (8, a_baldK 9), (9, a_stk (q_int 255) 12), (12, a_stk q_iand 13), (13, a_stk q_i2c 14), (14, a_cret)]
def fJ1_charAt_3b067 (kn : sKn) : List Value → sW → Option sR := fW (tJ1_charAt_3b067 kn) 2
set_option maxRecDepth 100000 in
set_option maxHeartbeats 4000000 in
theorem mJ1_charAt_3b067 (kn : sKn) : mM kn yJ1_charAt_3b067 (Cond.code yJ1_charAt_3b067 cJ1_charAt_3b067 2 (some .char) :: wsL_law) 3 false (fJ1_charAt_3b067 kn) := mM_W (fun n => mM_of (own := RJ1) (ini := false) rfl (by decide +kernel) (by decide +kernel) (all_c (ok_iload_n dJ1_charAt_3b067_0 rfl) (all_c (ok_aload_n dJ1_charAt_3b067_1 rfl) (all_c (ok_alenSK dJ1_charAt_3b067_2) (all_c (okc_J0_checkIndex_df160 (by decide) kw11 dJ1_charAt_3b067_3) (all_c (ok_aload_n dJ1_charAt_3b067_6 rfl) (all_c (ok_iload_n dJ1_charAt_3b067_7 rfl) (all_c (ok_baldK dJ1_charAt_3b067_8) (all_c (ok_stk (s_sipush dJ1_charAt_3b067_9 (by decide))) (all_c (ok_stk (s_iand dJ1_charAt_3b067_12)) (all_c (ok_stk (s_i2c dJ1_charAt_3b067_13)) (all_c (ok_cret dJ1_charAt_3b067_14) all_n))))))))))) n (fun h => by first | rfl | cases h))
theorem dJ0_charAt_5068e_0 : decode cJ0_charAt_5068e 0 = .ok (.aload_n 0, 1) := by decide +kernel
theorem dJ0_charAt_5068e_1 : decode cJ0_charAt_5068e 1 = .ok (.invokevirtual 492, 3) := by decide +kernel
theorem dJ0_charAt_5068e_4 : decode cJ0_charAt_5068e 4 = .ok (.ifCond .eq 12, 3) := by decide +kernel
theorem dJ0_charAt_5068e_7 : decode cJ0_charAt_5068e 7 = .ok (.aload_n 0, 1) := by decide +kernel
theorem dJ0_charAt_5068e_8 : decode cJ0_charAt_5068e 8 = .ok (.getfield 9, 3) := by decide +kernel
theorem dJ0_charAt_5068e_11 : decode cJ0_charAt_5068e 11 = .ok (.iload_n 1, 1) := by decide +kernel
theorem dJ0_charAt_5068e_12 : decode cJ0_charAt_5068e 12 = .ok (.invokestatic 495, 3) := by decide +kernel
theorem dJ0_charAt_5068e_15 : decode cJ0_charAt_5068e 15 = .ok (.ireturn, 1) := by decide +kernel
theorem dJ0_charAt_5068e_16 : decode cJ0_charAt_5068e 16 = .ok (.aload_n 0, 1) := by decide +kernel
theorem dJ0_charAt_5068e_17 : decode cJ0_charAt_5068e 17 = .ok (.getfield 9, 3) := by decide +kernel
theorem dJ0_charAt_5068e_20 : decode cJ0_charAt_5068e 20 = .ok (.iload_n 1, 1) := by decide +kernel
theorem dJ0_charAt_5068e_21 : decode cJ0_charAt_5068e 21 = .ok (.invokestatic 498, 3) := by decide +kernel
theorem dJ0_charAt_5068e_24 : decode cJ0_charAt_5068e 24 = .ok (.ireturn, 1) := by decide +kernel
theorem okc_J1_charAt_3b067 {kn : sKn} {cc : ByteArray} {own : String} {nL : Nat} {D : Nat} {ret : Option FieldType} {ini : Bool} {pc index : Nat} (hD : 3 + 1 ≤ D) (hl : Cond.methodLink own index yJ1_charAt_3b067 ∈ wsL_law) (hd : decode cc pc = .ok (.invokestatic index, 3)) : mOk kn cc own nL wsL_law D ret ini pc (a_callS false (fJ1_charAt_3b067 kn) 2 (pc + 3)) := ok_callS (mJ1_charAt_3b067 kn) (good_ws ws_good (fun _ h => h) kw17) hD (by decide) hl kw19 kw18 ⟨by decide +kernel, by decide +kernel, by decide +kernel⟩ hd
theorem okc0_J2_charAt_3b067 {kn : sKn} {cc : ByteArray} {own : String} {nL : Nat} {D : Nat} {ret : Option FieldType} {ini : Bool} {pc index : Nat} (hD : 0 + 1 ≤ D) (hl : Cond.methodLink own index yJ2_charAt_3b067 ∈ wsL_law) (hd : decode cc pc = .ok (.invokestatic index, 3)) : mOk kn cc own nL wsL_law D ret ini pc (a_callS false f_none 2 (pc + 3)) := ok_callS (m_none (D := 0)) (good_ws ws_good (fun _ h => h) kw21) hD (by decide) hl kw23 kw22 ⟨by decide +kernel, by decide +kernel, by decide +kernel⟩ hd
def tJ0_charAt_5068e (kn : sKn) : List (Nat × sA) := [(0, a_aload 0 1), (1, a_callVSK false (fJ0_isLatin1_aae02 kn) 1 4), (4, a_if kn b_eq 0 16 7), (7, a_aload 0 8), (8, a_strfK (.ref 1000005) 11), (11, a_iload 1 12), (12, a_callS false (fJ1_charAt_3b067 kn) 2 15), (15, a_cret), (16, a_aload 0 17), (17, a_strfK (.ref 1000005) 20), (20, a_iload 1 21), (21, a_callS false f_none 2 24), (24, a_cret)]
def fJ0_charAt_5068e (kn : sKn) : List Value → sW → Option sR := fW (tJ0_charAt_5068e kn) 2
set_option maxRecDepth 100000 in
set_option maxHeartbeats 4000000 in
theorem mJ0_charAt_5068e (kn : sKn) : mM kn yJ0_charAt_5068e (Cond.code yJ0_charAt_5068e cJ0_charAt_5068e 2 (some .char) :: wsL_law) 4 false (fJ0_charAt_5068e kn) := mM_W (fun n => mM_of (own := RJ0) (ini := false) rfl (by decide +kernel) (by decide +kernel) (all_c (ok_aload_n dJ0_charAt_5068e_0 rfl) (all_c (ok_callVSK (mJ0_isLatin1_aae02 kn) (good_ws ws_good (fun _ h => h) kw12) (by decide) (by decide) kw15 kw13 kw14 kw9 ⟨by decide +kernel, by decide +kernel, by decide +kernel⟩ dJ0_charAt_5068e_1) (all_c (ok_if_eq dJ0_charAt_5068e_4 (by decide)) (all_c (ok_aload_n dJ0_charAt_5068e_7 rfl) (all_c (ok_strVK kw16 dJ0_charAt_5068e_8) (all_c (ok_iload_n dJ0_charAt_5068e_11 rfl) (all_c (okc_J1_charAt_3b067 (by decide) kw20 dJ0_charAt_5068e_12) (all_c (ok_cret dJ0_charAt_5068e_15) (all_c (ok_aload_n dJ0_charAt_5068e_16 rfl) (all_c (ok_strVK kw16 dJ0_charAt_5068e_17) (all_c (ok_iload_n dJ0_charAt_5068e_20 rfl) (all_c (okc0_J2_charAt_3b067 (by decide) kw24 dJ0_charAt_5068e_21) (all_c (ok_cret dJ0_charAt_5068e_24) all_n))))))))))))) n (fun h => by first | rfl | cases h))
theorem dJ0_coder_7d493_0 : decode cJ0_coder_7d493 0 = .ok (.getstatic 38, 3) := by decide +kernel
theorem dJ0_coder_7d493_3 : decode cJ0_coder_7d493 3 = .ok (.ifCond .eq 10, 3) := by decide +kernel
theorem dJ0_coder_7d493_6 : decode cJ0_coder_7d493 6 = .ok (.aload_n 0, 1) := by decide +kernel
theorem dJ0_coder_7d493_7 : decode cJ0_coder_7d493 7 = .ok (.getfield 15, 3) := by decide +kernel
theorem dJ0_coder_7d493_10 : decode cJ0_coder_7d493 10 = .ok (.goto 4, 3) := by decide +kernel
theorem dJ0_coder_7d493_13 : decode cJ0_coder_7d493 13 = .ok (.iconst 1, 1) := by decide +kernel
theorem dJ0_coder_7d493_14 : decode cJ0_coder_7d493 14 = .ok (.ireturn, 1) := by decide +kernel
def tJ0_coder_7d493 (kn : sKn) : List (Nat × sA) := [(0, a_getsI 1 3), (3, a_if kn b_eq 0 13 6), (6, a_aload 0 7), (7, a_strf (.int 0) 10), (10, a_goto 14), (13, a_stk (q_int 1) 14), (14, a_bret)]
def fJ0_coder_7d493 (kn : sKn) : List Value → sW → Option sR := fW (tJ0_coder_7d493 kn) 1
set_option maxRecDepth 100000 in
set_option maxHeartbeats 4000000 in
theorem mJ0_coder_7d493 (kn : sKn) : mM kn yJ0_coder_7d493 (Cond.code yJ0_coder_7d493 cJ0_coder_7d493 1 (some .byte) :: wsL_law) 1 false (fJ0_coder_7d493 kn) := mM_W (fun n => mM_of (own := RJ0) (ini := false) rfl (by decide +kernel) (by decide +kernel) (all_c (ok_compact kw1 dJ0_coder_7d493_0) (all_c (ok_if_eq dJ0_coder_7d493_3 (by decide)) (all_c (ok_aload_n dJ0_coder_7d493_6 rfl) (all_c (ok_strC kw2 dJ0_coder_7d493_7) (all_c (ok_goto dJ0_coder_7d493_10 (by decide)) (all_c (ok_stk (s_iconst dJ0_coder_7d493_13 (by decide))) (all_c (ok_bret dJ0_coder_7d493_14) all_n))))))) n (fun h => by first | rfl | cases h))
theorem dJ0_getBytes_840e7_0 : decode cJ0_getBytes_840e7 0 = .ok (.aload_n 0, 1) := by decide +kernel
theorem dJ0_getBytes_840e7_1 : decode cJ0_getBytes_840e7 1 = .ok (.invokevirtual 335, 3) := by decide +kernel
theorem dJ0_getBytes_840e7_4 : decode cJ0_getBytes_840e7 4 = .ok (.iload_n 3, 1) := by decide +kernel
theorem dJ0_getBytes_840e7_5 : decode cJ0_getBytes_840e7 5 = .ok (.if_icmp .ne 23, 3) := by decide +kernel
theorem dJ0_getBytes_840e7_8 : decode cJ0_getBytes_840e7 8 = .ok (.aload_n 0, 1) := by decide +kernel
theorem dJ0_getBytes_840e7_9 : decode cJ0_getBytes_840e7 9 = .ok (.getfield 9, 3) := by decide +kernel
theorem dJ0_getBytes_840e7_12 : decode cJ0_getBytes_840e7 12 = .ok (.iconst 0, 1) := by decide +kernel
theorem dJ0_getBytes_840e7_13 : decode cJ0_getBytes_840e7 13 = .ok (.aload_n 1, 1) := by decide +kernel
theorem dJ0_getBytes_840e7_14 : decode cJ0_getBytes_840e7 14 = .ok (.iload_n 2, 1) := by decide +kernel
theorem dJ0_getBytes_840e7_15 : decode cJ0_getBytes_840e7 15 = .ok (.iload_n 3, 1) := by decide +kernel
theorem dJ0_getBytes_840e7_16 : decode cJ0_getBytes_840e7 16 = .ok (.ishl, 1) := by decide +kernel
theorem dJ0_getBytes_840e7_17 : decode cJ0_getBytes_840e7 17 = .ok (.aload_n 0, 1) := by decide +kernel
theorem dJ0_getBytes_840e7_18 : decode cJ0_getBytes_840e7 18 = .ok (.getfield 9, 3) := by decide +kernel
theorem dJ0_getBytes_840e7_21 : decode cJ0_getBytes_840e7 21 = .ok (.arraylength, 1) := by decide +kernel
theorem dJ0_getBytes_840e7_22 : decode cJ0_getBytes_840e7 22 = .ok (.invokestatic 212, 3) := by decide +kernel
theorem dJ0_getBytes_840e7_25 : decode cJ0_getBytes_840e7 25 = .ok (.goto 18, 3) := by decide +kernel
theorem dJ0_getBytes_840e7_28 : decode cJ0_getBytes_840e7 28 = .ok (.aload_n 0, 1) := by decide +kernel
theorem dJ0_getBytes_840e7_29 : decode cJ0_getBytes_840e7 29 = .ok (.getfield 9, 3) := by decide +kernel
theorem dJ0_getBytes_840e7_32 : decode cJ0_getBytes_840e7 32 = .ok (.iconst 0, 1) := by decide +kernel
theorem dJ0_getBytes_840e7_33 : decode cJ0_getBytes_840e7 33 = .ok (.aload_n 1, 1) := by decide +kernel
theorem dJ0_getBytes_840e7_34 : decode cJ0_getBytes_840e7 34 = .ok (.iload_n 2, 1) := by decide +kernel
theorem dJ0_getBytes_840e7_35 : decode cJ0_getBytes_840e7 35 = .ok (.aload_n 0, 1) := by decide +kernel
theorem dJ0_getBytes_840e7_36 : decode cJ0_getBytes_840e7 36 = .ok (.getfield 9, 3) := by decide +kernel
theorem dJ0_getBytes_840e7_39 : decode cJ0_getBytes_840e7 39 = .ok (.arraylength, 1) := by decide +kernel
theorem dJ0_getBytes_840e7_40 : decode cJ0_getBytes_840e7 40 = .ok (.invokestatic 106, 3) := by decide +kernel
theorem dJ0_getBytes_840e7_43 : decode cJ0_getBytes_840e7 43 = .ok (.return_, 1) := by decide +kernel
theorem okc0_J1_inflate_0e8fd {kn : sKn} {cc : ByteArray} {own : String} {nL : Nat} {D : Nat} {ret : Option FieldType} {ini : Bool} {pc index : Nat} (hD : 0 + 1 ≤ D) (hl : Cond.methodLink own index yJ1_inflate_0e8fd ∈ wsL_law) (hd : decode cc pc = .ok (.invokestatic index, 3)) : mOk kn cc own nL wsL_law D ret ini pc (a_callS true f_none 5 (pc + 3)) := ok_callS (m_none (D := 0)) (good_ws ws_good (fun _ h => h) kw33) hD (by decide) hl kw34 kw18 ⟨by decide +kernel, by decide +kernel, by decide +kernel⟩ hd
def tJ0_getBytes_840e7 (kn : sKn) : List (Nat × sA) := [(0, a_aload 0 1), (1, a_callVS false (fJ0_coder_7d493 kn) 1 4), (4, a_iload 3 5), (5, a_icmp kn b_ne 1 28 8), (8, a_aload 0 9), (9, a_strf (.ref 1000003) 12), (12, a_stk (q_int 0) 13), (13, a_aload 1 14), (14, a_iload 2 15), (15, a_iload 3 16), (16, a_stk q_ishl 17), (17, a_aload 0 18), (18, a_strf (.ref 1000003) 21), (21, a_alenS 22), (22, a_copyS 25), (25, a_goto 43), (28, a_aload 0 29), (29, a_strf (.ref 1000003) 32), (32, a_stk (q_int 0) 33), (33, a_aload 1 34), (34, a_iload 2 35), (35, a_aload 0 36), (36, a_strf (.ref 1000003) 39), (39, a_alenS 40), (40, a_callS true f_none 5 43), (43, a_vret)]
def fJ0_getBytes_840e7 (kn : sKn) : List Value → sW → Option sR := fW (tJ0_getBytes_840e7 kn) 4
set_option maxRecDepth 100000 in
set_option maxHeartbeats 4000000 in
theorem mJ0_getBytes_840e7 (kn : sKn) : mM kn yJ0_getBytes_840e7 (Cond.code yJ0_getBytes_840e7 cJ0_getBytes_840e7 4 none :: wsL_law) 2 true (fJ0_getBytes_840e7 kn) := mM_W (fun n => mM_of (own := RJ0) (ini := false) rfl (by decide +kernel) (by decide +kernel) (all_c (ok_aload_n dJ0_getBytes_840e7_0 rfl) (all_c (ok_callVS (mJ0_coder_7d493 kn) (good_ws ws_good (fun _ h => h) kw25) (by decide) (by decide) kw28 kw26 kw27 kw9 ⟨by decide +kernel, by decide +kernel, by decide +kernel⟩ dJ0_getBytes_840e7_1) (all_c (ok_iload_n dJ0_getBytes_840e7_4 rfl) (all_c (ok_icmp_ne dJ0_getBytes_840e7_5 (by decide)) (all_c (ok_aload_n dJ0_getBytes_840e7_8 rfl) (all_c (ok_strV kw16 dJ0_getBytes_840e7_9) (all_c (ok_stk (s_iconst dJ0_getBytes_840e7_12 (by decide))) (all_c (ok_aload_n dJ0_getBytes_840e7_13 rfl) (all_c (ok_iload_n dJ0_getBytes_840e7_14 rfl) (all_c (ok_iload_n dJ0_getBytes_840e7_15 rfl) (all_c (ok_stk (s_ishl dJ0_getBytes_840e7_16)) (all_c (ok_aload_n dJ0_getBytes_840e7_17 rfl) (all_c (ok_strV kw16 dJ0_getBytes_840e7_18) (all_c (ok_alenS dJ0_getBytes_840e7_21) (all_c (ok_copyS (by decide) kw29 kw30 kw31 kw32 dJ0_getBytes_840e7_22) (all_c (ok_goto dJ0_getBytes_840e7_25 (by decide)) (all_c (ok_aload_n dJ0_getBytes_840e7_28 rfl) (all_c (ok_strV kw16 dJ0_getBytes_840e7_29) (all_c (ok_stk (s_iconst dJ0_getBytes_840e7_32 (by decide))) (all_c (ok_aload_n dJ0_getBytes_840e7_33 rfl) (all_c (ok_iload_n dJ0_getBytes_840e7_34 rfl) (all_c (ok_aload_n dJ0_getBytes_840e7_35 rfl) (all_c (ok_strV kw16 dJ0_getBytes_840e7_36) (all_c (ok_alenS dJ0_getBytes_840e7_39) (all_c (okc0_J1_inflate_0e8fd (by decide) kw35 dJ0_getBytes_840e7_40) (all_c (ok_vret dJ0_getBytes_840e7_43) all_n)))))))))))))))))))))))))) n (fun h => by first | rfl | cases h))
theorem dJ0_length_8abf5_0 : decode cJ0_length_8abf5 0 = .ok (.aload_n 0, 1) := by decide +kernel
theorem dJ0_length_8abf5_1 : decode cJ0_length_8abf5 1 = .ok (.getfield 9, 3) := by decide +kernel
theorem dJ0_length_8abf5_4 : decode cJ0_length_8abf5 4 = .ok (.arraylength, 1) := by decide +kernel
theorem dJ0_length_8abf5_5 : decode cJ0_length_8abf5 5 = .ok (.aload_n 0, 1) := by decide +kernel
theorem dJ0_length_8abf5_6 : decode cJ0_length_8abf5 6 = .ok (.invokevirtual 335, 3) := by decide +kernel
theorem dJ0_length_8abf5_9 : decode cJ0_length_8abf5 9 = .ok (.ishr, 1) := by decide +kernel
theorem dJ0_length_8abf5_10 : decode cJ0_length_8abf5 10 = .ok (.ireturn, 1) := by decide +kernel
def tJ0_length_8abf5 (kn : sKn) : List (Nat × sA) := [(0, a_aload 0 1), (1, a_strf (.ref 1000003) 4), (4, a_alenS 5), (5, a_aload 0 6), (6, a_callVS false (fJ0_coder_7d493 kn) 1 9), (9, a_stk q_ishr 10), (10, a_iret)]
def fJ0_length_8abf5 (kn : sKn) : List Value → sW → Option sR := fW (tJ0_length_8abf5 kn) 1
set_option maxRecDepth 100000 in
set_option maxHeartbeats 4000000 in
theorem mJ0_length_8abf5 (kn : sKn) : mM kn yJ0_length_8abf5 (Cond.code yJ0_length_8abf5 cJ0_length_8abf5 1 (some .int) :: wsL_law) 2 false (fJ0_length_8abf5 kn) := mM_W (fun n => mM_of (own := RJ0) (ini := false) rfl (by decide +kernel) (by decide +kernel) (all_c (ok_aload_n dJ0_length_8abf5_0 rfl) (all_c (ok_strV kw16 dJ0_length_8abf5_1) (all_c (ok_alenS dJ0_length_8abf5_4) (all_c (ok_aload_n dJ0_length_8abf5_5 rfl) (all_c (ok_callVS (mJ0_coder_7d493 kn) (good_ws ws_good (fun _ h => h) kw25) (by decide) (by decide) kw28 kw26 kw27 kw9 ⟨by decide +kernel, by decide +kernel, by decide +kernel⟩ dJ0_length_8abf5_6) (all_c (ok_stk (s_ishr dJ0_length_8abf5_9)) (all_c (ok_iret dJ0_length_8abf5_10) all_n))))))) n (fun h => by first | rfl | cases h))
theorem dJ1_canEncode_fc78d_0 : decode cJ1_canEncode_fc78d 0 = .ok (.iload_n 0, 1) := by decide +kernel
theorem dJ1_canEncode_fc78d_1 : decode cJ1_canEncode_fc78d 1 = .ok (.sipush 255, 3) := by decide +kernel
theorem dJ1_canEncode_fc78d_4 : decode cJ1_canEncode_fc78d 4 = .ok (.if_icmp .gt 7, 3) := by decide +kernel
theorem dJ1_canEncode_fc78d_7 : decode cJ1_canEncode_fc78d 7 = .ok (.iconst 1, 1) := by decide +kernel
theorem dJ1_canEncode_fc78d_8 : decode cJ1_canEncode_fc78d 8 = .ok (.goto 4, 3) := by decide +kernel
theorem dJ1_canEncode_fc78d_11 : decode cJ1_canEncode_fc78d 11 = .ok (.iconst 0, 1) := by decide +kernel
theorem dJ1_canEncode_fc78d_12 : decode cJ1_canEncode_fc78d 12 = .ok (.ireturn, 1) := by decide +kernel
def tJ1_canEncode_fc78d (kn : sKn) : List (Nat × sA) := [(0, a_iload 0 1), (1, a_stk (q_int 255) 4), (4, a_icmp kn b_gt 4 11 7), (7, a_stk (q_int 1) 8), (8, a_goto 12), (11, a_stk (q_int 0) 12), (12, a_zret)]
def fJ1_canEncode_fc78d (kn : sKn) : List Value → sW → Option sR := fW (tJ1_canEncode_fc78d kn) 1
set_option maxRecDepth 100000 in
set_option maxHeartbeats 4000000 in
theorem mJ1_canEncode_fc78d (kn : sKn) : mM kn yJ1_canEncode_fc78d (Cond.code yJ1_canEncode_fc78d cJ1_canEncode_fc78d 1 (some .boolean) :: wsL_law) 1 false (fJ1_canEncode_fc78d kn) := mM_W (fun n => mM_of (own := RJ1) (ini := false) rfl (by decide +kernel) (by decide +kernel) (all_c (ok_iload_n dJ1_canEncode_fc78d_0 rfl) (all_c (ok_stk (s_sipush dJ1_canEncode_fc78d_1 (by decide))) (all_c (ok_icmp_gt dJ1_canEncode_fc78d_4 (by decide)) (all_c (ok_stk (s_iconst dJ1_canEncode_fc78d_7 (by decide))) (all_c (ok_goto dJ1_canEncode_fc78d_8 (by decide)) (all_c (ok_stk (s_iconst dJ1_canEncode_fc78d_11 (by decide))) (all_c (ok_zret dJ1_canEncode_fc78d_12) all_n))))))) n (fun h => by first | rfl | cases h))
theorem dJ8_newLength_cabcc_0 : decode cJ8_newLength_cabcc 0 = .ok (.iload_n 0, 1) := by decide +kernel
theorem dJ8_newLength_cabcc_1 : decode cJ8_newLength_cabcc 1 = .ok (.iload_n 1, 1) := by decide +kernel
theorem dJ8_newLength_cabcc_2 : decode cJ8_newLength_cabcc 2 = .ok (.iload_n 2, 1) := by decide +kernel
theorem dJ8_newLength_cabcc_3 : decode cJ8_newLength_cabcc 3 = .ok (.invokestatic 194, 3) := by decide +kernel
theorem dJ8_newLength_cabcc_6 : decode cJ8_newLength_cabcc 6 = .ok (.iadd, 1) := by decide +kernel
theorem dJ8_newLength_cabcc_7 : decode cJ8_newLength_cabcc 7 = .ok (.istore_n 3, 1) := by decide +kernel
theorem dJ8_newLength_cabcc_8 : decode cJ8_newLength_cabcc 8 = .ok (.iconst 0, 1) := by decide +kernel
theorem dJ8_newLength_cabcc_9 : decode cJ8_newLength_cabcc 9 = .ok (.iload_n 3, 1) := by decide +kernel
theorem dJ8_newLength_cabcc_10 : decode cJ8_newLength_cabcc 10 = .ok (.if_icmp .ge 11, 3) := by decide +kernel
theorem dJ8_newLength_cabcc_13 : decode cJ8_newLength_cabcc 13 = .ok (.iload_n 3, 1) := by decide +kernel
theorem dJ8_newLength_cabcc_14 : decode cJ8_newLength_cabcc 14 = .ok (.ldc 200, 2) := by decide +kernel
theorem dJ8_newLength_cabcc_16 : decode cJ8_newLength_cabcc 16 = .ok (.if_icmp .gt 5, 3) := by decide +kernel
theorem dJ8_newLength_cabcc_19 : decode cJ8_newLength_cabcc 19 = .ok (.iload_n 3, 1) := by decide +kernel
theorem dJ8_newLength_cabcc_20 : decode cJ8_newLength_cabcc 20 = .ok (.ireturn, 1) := by decide +kernel
theorem dJ8_newLength_cabcc_21 : decode cJ8_newLength_cabcc 21 = .ok (.iload_n 0, 1) := by decide +kernel
theorem dJ8_newLength_cabcc_22 : decode cJ8_newLength_cabcc 22 = .ok (.iload_n 1, 1) := by decide +kernel
theorem dJ8_newLength_cabcc_23 : decode cJ8_newLength_cabcc 23 = .ok (.invokestatic 201, 3) := by decide +kernel
theorem dJ8_newLength_cabcc_26 : decode cJ8_newLength_cabcc 26 = .ok (.ireturn, 1) := by decide +kernel
theorem okc0_J8_hugeLength_7cf53 {kn : sKn} {cc : ByteArray} {own : String} {nL : Nat} {D : Nat} {ret : Option FieldType} {ini : Bool} {pc index : Nat} (hD : 0 + 1 ≤ D) (hl : Cond.methodLink own index yJ8_hugeLength_7cf53 ∈ wsL_law) (hd : decode cc pc = .ok (.invokestatic index, 3)) : mOk kn cc own nL wsL_law D ret ini pc (a_callS false f_none 2 (pc + 3)) := ok_callS (m_none (D := 0)) (good_ws ws_good (fun _ h => h) kw41) hD (by decide) hl kw43 kw42 ⟨by decide +kernel, by decide +kernel, by decide +kernel⟩ hd
def tJ8_newLength_cabcc (kn : sKn) : List (Nat × sA) := [(0, a_iload 0 1), (1, a_iload 1 2), (2, a_iload 2 3), (3, a_mmax 6), (6, a_stk q_iadd 7), (7, a_istore 3 8), (8, a_stk (q_int 0) 9), (9, a_iload 3 10), (10, a_icmp kn b_ge 3 21 13), (13, a_iload 3 14), (14, a_stk (q_int (2147483639)) 16), (16, a_icmp kn b_gt 4 21 19), (19, a_iload 3 20), (20, a_iret), (21, a_iload 0 22), (22, a_iload 1 23), (23, a_callS false f_none 2 26), (26, a_iret)]
def fJ8_newLength_cabcc (kn : sKn) : List Value → sW → Option sR := fW (tJ8_newLength_cabcc kn) 4
set_option maxRecDepth 100000 in
set_option maxHeartbeats 4000000 in
theorem mJ8_newLength_cabcc (kn : sKn) : mM kn yJ8_newLength_cabcc (Cond.code yJ8_newLength_cabcc cJ8_newLength_cabcc 4 (some .int) :: wsL_law) 1 false (fJ8_newLength_cabcc kn) := mM_W (fun n => mM_of (own := RJ8) (ini := false) rfl (by decide +kernel) (by decide +kernel) (all_c (ok_iload_n dJ8_newLength_cabcc_0 rfl) (all_c (ok_iload_n dJ8_newLength_cabcc_1 rfl) (all_c (ok_iload_n dJ8_newLength_cabcc_2 rfl) (all_c (ok_mmax (by decide) kw36 kw37 kw38 kw39 dJ8_newLength_cabcc_3) (all_c (ok_stk (s_iadd dJ8_newLength_cabcc_6)) (all_c (ok_istore_n dJ8_newLength_cabcc_7 rfl (by decide)) (all_c (ok_stk (s_iconst dJ8_newLength_cabcc_8 (by decide))) (all_c (ok_iload_n dJ8_newLength_cabcc_9 rfl) (all_c (ok_icmp_ge dJ8_newLength_cabcc_10 (by decide)) (all_c (ok_iload_n dJ8_newLength_cabcc_13 rfl) (all_c (ok_ldc kw40 dJ8_newLength_cabcc_14) (all_c (ok_icmp_gt dJ8_newLength_cabcc_16 (by decide)) (all_c (ok_iload_n dJ8_newLength_cabcc_19 rfl) (all_c (ok_iret dJ8_newLength_cabcc_20) (all_c (ok_iload_n dJ8_newLength_cabcc_21 rfl) (all_c (ok_iload_n dJ8_newLength_cabcc_22 rfl) (all_c (okc0_J8_hugeLength_7cf53 (by decide) kw44 dJ8_newLength_cabcc_23) (all_c (ok_iret dJ8_newLength_cabcc_26) all_n)))))))))))))))))) n (fun h => by first | rfl | cases h))
theorem dJ5_newCapacity_0f7a4_0 : decode cJ5_newCapacity_0f7a4 0 = .ok (.aload_n 0, 1) := by decide +kernel
theorem dJ5_newCapacity_0f7a4_1 : decode cJ5_newCapacity_0f7a4 1 = .ok (.getfield 15, 3) := by decide +kernel
theorem dJ5_newCapacity_0f7a4_4 : decode cJ5_newCapacity_0f7a4 4 = .ok (.arraylength, 1) := by decide +kernel
theorem dJ5_newCapacity_0f7a4_5 : decode cJ5_newCapacity_0f7a4 5 = .ok (.istore_n 2, 1) := by decide +kernel
theorem dJ5_newCapacity_0f7a4_6 : decode cJ5_newCapacity_0f7a4 6 = .ok (.iload_n 1, 1) := by decide +kernel
theorem dJ5_newCapacity_0f7a4_7 : decode cJ5_newCapacity_0f7a4 7 = .ok (.aload_n 0, 1) := by decide +kernel
theorem dJ5_newCapacity_0f7a4_8 : decode cJ5_newCapacity_0f7a4 8 = .ok (.getfield 22, 3) := by decide +kernel
theorem dJ5_newCapacity_0f7a4_11 : decode cJ5_newCapacity_0f7a4 11 = .ok (.ishl, 1) := by decide +kernel
theorem dJ5_newCapacity_0f7a4_12 : decode cJ5_newCapacity_0f7a4 12 = .ok (.istore_n 3, 1) := by decide +kernel
theorem dJ5_newCapacity_0f7a4_13 : decode cJ5_newCapacity_0f7a4 13 = .ok (.iload_n 3, 1) := by decide +kernel
theorem dJ5_newCapacity_0f7a4_14 : decode cJ5_newCapacity_0f7a4 14 = .ok (.iload_n 2, 1) := by decide +kernel
theorem dJ5_newCapacity_0f7a4_15 : decode cJ5_newCapacity_0f7a4 15 = .ok (.isub, 1) := by decide +kernel
theorem dJ5_newCapacity_0f7a4_16 : decode cJ5_newCapacity_0f7a4 16 = .ok (.istore 4, 2) := by decide +kernel
theorem dJ5_newCapacity_0f7a4_18 : decode cJ5_newCapacity_0f7a4 18 = .ok (.iload_n 2, 1) := by decide +kernel
theorem dJ5_newCapacity_0f7a4_19 : decode cJ5_newCapacity_0f7a4 19 = .ok (.iload 4, 2) := by decide +kernel
theorem dJ5_newCapacity_0f7a4_21 : decode cJ5_newCapacity_0f7a4 21 = .ok (.iload_n 2, 1) := by decide +kernel
theorem dJ5_newCapacity_0f7a4_22 : decode cJ5_newCapacity_0f7a4 22 = .ok (.iconst 2, 1) := by decide +kernel
theorem dJ5_newCapacity_0f7a4_23 : decode cJ5_newCapacity_0f7a4 23 = .ok (.aload_n 0, 1) := by decide +kernel
theorem dJ5_newCapacity_0f7a4_24 : decode cJ5_newCapacity_0f7a4 24 = .ok (.getfield 22, 3) := by decide +kernel
theorem dJ5_newCapacity_0f7a4_27 : decode cJ5_newCapacity_0f7a4 27 = .ok (.ishl, 1) := by decide +kernel
theorem dJ5_newCapacity_0f7a4_28 : decode cJ5_newCapacity_0f7a4 28 = .ok (.iadd, 1) := by decide +kernel
theorem dJ5_newCapacity_0f7a4_29 : decode cJ5_newCapacity_0f7a4 29 = .ok (.invokestatic 114, 3) := by decide +kernel
theorem dJ5_newCapacity_0f7a4_32 : decode cJ5_newCapacity_0f7a4 32 = .ok (.istore 5, 2) := by decide +kernel
theorem dJ5_newCapacity_0f7a4_34 : decode cJ5_newCapacity_0f7a4 34 = .ok (.iload 5, 2) := by decide +kernel
theorem dJ5_newCapacity_0f7a4_36 : decode cJ5_newCapacity_0f7a4 36 = .ok (.ldc 39, 2) := by decide +kernel
theorem dJ5_newCapacity_0f7a4_38 : decode cJ5_newCapacity_0f7a4 38 = .ok (.if_icmp .ne 13, 3) := by decide +kernel
theorem dJ5_newCapacity_0f7a4_41 : decode cJ5_newCapacity_0f7a4 41 = .ok (.new 120, 3) := by decide +kernel
theorem dJ5_newCapacity_0f7a4_44 : decode cJ5_newCapacity_0f7a4 44 = .ok (.dup, 1) := by decide +kernel
theorem dJ5_newCapacity_0f7a4_45 : decode cJ5_newCapacity_0f7a4 45 = .ok (.ldc 122, 2) := by decide +kernel
theorem dJ5_newCapacity_0f7a4_47 : decode cJ5_newCapacity_0f7a4 47 = .ok (.invokespecial 124, 3) := by decide +kernel
theorem dJ5_newCapacity_0f7a4_50 : decode cJ5_newCapacity_0f7a4 50 = .ok (.athrow, 1) := by decide +kernel
theorem dJ5_newCapacity_0f7a4_51 : decode cJ5_newCapacity_0f7a4 51 = .ok (.iload 5, 2) := by decide +kernel
theorem dJ5_newCapacity_0f7a4_53 : decode cJ5_newCapacity_0f7a4 53 = .ok (.aload_n 0, 1) := by decide +kernel
theorem dJ5_newCapacity_0f7a4_54 : decode cJ5_newCapacity_0f7a4 54 = .ok (.getfield 22, 3) := by decide +kernel
theorem dJ5_newCapacity_0f7a4_57 : decode cJ5_newCapacity_0f7a4 57 = .ok (.ishr, 1) := by decide +kernel
theorem dJ5_newCapacity_0f7a4_58 : decode cJ5_newCapacity_0f7a4 58 = .ok (.ireturn, 1) := by decide +kernel
theorem okc_J8_newLength_cabcc {kn : sKn} {cc : ByteArray} {own : String} {nL : Nat} {D : Nat} {ret : Option FieldType} {ini : Bool} {pc index : Nat} (hD : 1 + 1 ≤ D) (hl : Cond.methodLink own index yJ8_newLength_cabcc ∈ wsL_law) (hd : decode cc pc = .ok (.invokestatic index, 3)) : mOk kn cc own nL wsL_law D ret ini pc (a_callS false (fJ8_newLength_cabcc kn) 3 (pc + 3)) := ok_callS (mJ8_newLength_cabcc kn) (good_ws ws_good (fun _ h => h) kw47) hD (by decide) hl kw48 kw42 ⟨by decide +kernel, by decide +kernel, by decide +kernel⟩ hd
def tJ5_newCapacity_0f7a4 (kn : sKn) : List (Nat × sA) := [(0, a_aload 0 1), (1, a_get 0 0 4), (4, a_alen 5), (5, a_istore 2 6), (6, a_iload 1 7), (7, a_aload 0 8), (8, a_get 0 1 11), (11, a_stk q_ishl 12), (12, a_istore 3 13), (13, a_iload 3 14), (14, a_iload 2 15), (15, a_stk q_isub 16), (16, a_istore 4 18), (18, a_iload 2 19), (19, a_iload 4 21), (21, a_iload 2 22), (22, a_stk (q_int 2) 23), (23, a_aload 0 24), (24, a_get 0 1 27), (27, a_stk q_ishl 28), (28, a_stk q_iadd 29), (29, a_callS false (fJ8_newLength_cabcc kn) 3 32), (32, a_istore 5 34), (34, a_iload 5 36), (36, a_stk (q_int (2147483647)) 38), (38, a_icmp kn b_ne 1 51 41), (41, a_none), (44, a_stk q_dup 45), (45, a_none), (47, a_none), (50, a_none), (51, a_iload 5 53), (53, a_aload 0 54), (54, a_get 0 1 57), (57, a_stk q_ishr 58), (58, a_iret)]
def fJ5_newCapacity_0f7a4 (kn : sKn) : List Value → sW → Option sR := fW (tJ5_newCapacity_0f7a4 kn) 6
set_option maxRecDepth 100000 in
set_option maxHeartbeats 4000000 in
theorem mJ5_newCapacity_0f7a4 (kn : sKn) : mM kn yJ5_newCapacity_0f7a4 (Cond.code yJ5_newCapacity_0f7a4 cJ5_newCapacity_0f7a4 6 (some .int) :: wsL_law) 2 false (fJ5_newCapacity_0f7a4 kn) := mM_W (fun n => mM_of (own := RJ5) (ini := false) rfl (by decide +kernel) (by decide +kernel) (all_c (ok_aload_n dJ5_newCapacity_0f7a4_0 rfl) (all_c (okg_J4_0 kw45 dJ5_newCapacity_0f7a4_1) (all_c (ok_alen dJ5_newCapacity_0f7a4_4) (all_c (ok_istore_n dJ5_newCapacity_0f7a4_5 rfl (by decide)) (all_c (ok_iload_n dJ5_newCapacity_0f7a4_6 rfl) (all_c (ok_aload_n dJ5_newCapacity_0f7a4_7 rfl) (all_c (okg_J4_1 kw46 dJ5_newCapacity_0f7a4_8) (all_c (ok_stk (s_ishl dJ5_newCapacity_0f7a4_11)) (all_c (ok_istore_n dJ5_newCapacity_0f7a4_12 rfl (by decide)) (all_c (ok_iload_n dJ5_newCapacity_0f7a4_13 rfl) (all_c (ok_iload_n dJ5_newCapacity_0f7a4_14 rfl) (all_c (ok_stk (s_isub dJ5_newCapacity_0f7a4_15)) (all_c (ok_istore dJ5_newCapacity_0f7a4_16 (by decide)) (all_c (ok_iload_n dJ5_newCapacity_0f7a4_18 rfl) (all_c (ok_iload dJ5_newCapacity_0f7a4_19) (all_c (ok_iload_n dJ5_newCapacity_0f7a4_21 rfl) (all_c (ok_stk (s_iconst dJ5_newCapacity_0f7a4_22 (by decide))) (all_c (ok_aload_n dJ5_newCapacity_0f7a4_23 rfl) (all_c (okg_J4_1 kw46 dJ5_newCapacity_0f7a4_24) (all_c (ok_stk (s_ishl dJ5_newCapacity_0f7a4_27)) (all_c (ok_stk (s_iadd dJ5_newCapacity_0f7a4_28)) (all_c (okc_J8_newLength_cabcc (by decide) kw49 dJ5_newCapacity_0f7a4_29) (all_c (ok_istore dJ5_newCapacity_0f7a4_32 (by decide)) (all_c (ok_iload dJ5_newCapacity_0f7a4_34) (all_c (ok_ldc kw50 dJ5_newCapacity_0f7a4_36) (all_c (ok_icmp_ne dJ5_newCapacity_0f7a4_38 (by decide)) (all_c (ok_none) (all_c (ok_stk (s_dup dJ5_newCapacity_0f7a4_44)) (all_c (ok_none) (all_c (ok_none) (all_c (ok_none) (all_c (ok_iload dJ5_newCapacity_0f7a4_51) (all_c (ok_aload_n dJ5_newCapacity_0f7a4_53 rfl) (all_c (okg_J4_1 kw46 dJ5_newCapacity_0f7a4_54) (all_c (ok_stk (s_ishr dJ5_newCapacity_0f7a4_57)) (all_c (ok_iret dJ5_newCapacity_0f7a4_58) all_n)))))))))))))))))))))))))))))))))))) n (fun h => by first | rfl | cases h))
theorem dJ7_copyOf_9075b_0 : decode cJ7_copyOf_9075b 0 = .ok (.iload_n 1, 1) := by decide +kernel
theorem dJ7_copyOf_9075b_1 : decode cJ7_copyOf_9075b 1 = .ok (.aload_n 0, 1) := by decide +kernel
theorem dJ7_copyOf_9075b_2 : decode cJ7_copyOf_9075b 2 = .ok (.arraylength, 1) := by decide +kernel
theorem dJ7_copyOf_9075b_3 : decode cJ7_copyOf_9075b 3 = .ok (.if_icmp .ne 11, 3) := by decide +kernel
theorem dJ7_copyOf_9075b_6 : decode cJ7_copyOf_9075b 6 = .ok (.aload_n 0, 1) := by decide +kernel
theorem dJ7_copyOf_9075b_7 : decode cJ7_copyOf_9075b 7 = .ok (.invokevirtual 310, 3) := by decide +kernel
theorem dJ7_copyOf_9075b_10 : decode cJ7_copyOf_9075b 10 = .ok (.checkcast 311, 3) := by decide +kernel
theorem dJ7_copyOf_9075b_13 : decode cJ7_copyOf_9075b 13 = .ok (.areturn, 1) := by decide +kernel
theorem dJ7_copyOf_9075b_14 : decode cJ7_copyOf_9075b 14 = .ok (.iload_n 1, 1) := by decide +kernel
theorem dJ7_copyOf_9075b_15 : decode cJ7_copyOf_9075b 15 = .ok (.newarray .byte, 2) := by decide +kernel
theorem dJ7_copyOf_9075b_17 : decode cJ7_copyOf_9075b 17 = .ok (.astore_n 2, 1) := by decide +kernel
theorem dJ7_copyOf_9075b_18 : decode cJ7_copyOf_9075b 18 = .ok (.aload_n 0, 1) := by decide +kernel
theorem dJ7_copyOf_9075b_19 : decode cJ7_copyOf_9075b 19 = .ok (.iconst 0, 1) := by decide +kernel
theorem dJ7_copyOf_9075b_20 : decode cJ7_copyOf_9075b 20 = .ok (.aload_n 2, 1) := by decide +kernel
theorem dJ7_copyOf_9075b_21 : decode cJ7_copyOf_9075b 21 = .ok (.iconst 0, 1) := by decide +kernel
theorem dJ7_copyOf_9075b_22 : decode cJ7_copyOf_9075b 22 = .ok (.aload_n 0, 1) := by decide +kernel
theorem dJ7_copyOf_9075b_23 : decode cJ7_copyOf_9075b 23 = .ok (.arraylength, 1) := by decide +kernel
theorem dJ7_copyOf_9075b_24 : decode cJ7_copyOf_9075b 24 = .ok (.iload_n 1, 1) := by decide +kernel
theorem dJ7_copyOf_9075b_25 : decode cJ7_copyOf_9075b 25 = .ok (.invokestatic 304, 3) := by decide +kernel
theorem dJ7_copyOf_9075b_28 : decode cJ7_copyOf_9075b 28 = .ok (.invokestatic 150, 3) := by decide +kernel
theorem dJ7_copyOf_9075b_31 : decode cJ7_copyOf_9075b 31 = .ok (.aload_n 2, 1) := by decide +kernel
theorem dJ7_copyOf_9075b_32 : decode cJ7_copyOf_9075b 32 = .ok (.areturn, 1) := by decide +kernel
def tJ7_copyOf_9075b (kn : sKn) : List (Nat × sA) := [(0, a_iload 1 1), (1, a_aload 0 2), (2, a_alen 3), (3, a_icmp kn b_ne 1 14 6), (6, a_aload 0 7), (7, a_none), (10, a_none), (13, a_aret), (14, a_iload 1 15), (15, a_newa 0 17), (17, a_astore 2 18), (18, a_aload 0 19), (19, a_stk (q_int 0) 20), (20, a_aload 2 21), (21, a_stk (q_int 0) 22), (22, a_aload 0 23), (23, a_alen 24), (24, a_iload 1 25), (25, a_mmin 28), (28, a_copy 31), (31, a_aload 2 32), (32, a_aret)]
def fJ7_copyOf_9075b (kn : sKn) : List Value → sW → Option sR := fW (tJ7_copyOf_9075b kn) 3
set_option maxRecDepth 100000 in
set_option maxHeartbeats 4000000 in
theorem mJ7_copyOf_9075b (kn : sKn) : mM kn yJ7_copyOf_9075b (Cond.code yJ7_copyOf_9075b cJ7_copyOf_9075b 3 (some (.array .byte)) :: wsL_law) 1 false (fJ7_copyOf_9075b kn) := mM_W (fun n => mM_of (own := RJ7) (ini := false) rfl (by decide +kernel) (by decide +kernel) (all_c (ok_iload_n dJ7_copyOf_9075b_0 rfl) (all_c (ok_aload_n dJ7_copyOf_9075b_1 rfl) (all_c (ok_alen dJ7_copyOf_9075b_2) (all_c (ok_icmp_ne dJ7_copyOf_9075b_3 (by decide)) (all_c (ok_aload_n dJ7_copyOf_9075b_6 rfl) (all_c (ok_none) (all_c (ok_none) (all_c (ok_aret (by first | exact Or.inl ⟨_, rfl⟩ | exact Or.inr ⟨_, rfl⟩) dJ7_copyOf_9075b_13) (all_c (ok_iload_n dJ7_copyOf_9075b_14 rfl) (all_c (ok_newB kw51 dJ7_copyOf_9075b_15) (all_c (ok_astore_n dJ7_copyOf_9075b_17 rfl (by decide)) (all_c (ok_aload_n dJ7_copyOf_9075b_18 rfl) (all_c (ok_stk (s_iconst dJ7_copyOf_9075b_19 (by decide))) (all_c (ok_aload_n dJ7_copyOf_9075b_20 rfl) (all_c (ok_stk (s_iconst dJ7_copyOf_9075b_21 (by decide))) (all_c (ok_aload_n dJ7_copyOf_9075b_22 rfl) (all_c (ok_alen dJ7_copyOf_9075b_23) (all_c (ok_iload_n dJ7_copyOf_9075b_24 rfl) (all_c (ok_mmin (by decide) kw52 kw53 kw38 kw54 dJ7_copyOf_9075b_25) (all_c (ok_copy (by decide) kw55 kw30 kw31 kw32 dJ7_copyOf_9075b_28) (all_c (ok_aload_n dJ7_copyOf_9075b_31 rfl) (all_c (ok_aret (by first | exact Or.inl ⟨_, rfl⟩ | exact Or.inr ⟨_, rfl⟩) dJ7_copyOf_9075b_32) all_n)))))))))))))))))))))) n (fun h => by first | rfl | cases h))
theorem dJ5_ensureCapacityInternal_d00df_0 : decode cJ5_ensureCapacityInternal_d00df 0 = .ok (.aload_n 0, 1) := by decide +kernel
theorem dJ5_ensureCapacityInternal_d00df_1 : decode cJ5_ensureCapacityInternal_d00df 1 = .ok (.getfield 15, 3) := by decide +kernel
theorem dJ5_ensureCapacityInternal_d00df_4 : decode cJ5_ensureCapacityInternal_d00df 4 = .ok (.arraylength, 1) := by decide +kernel
theorem dJ5_ensureCapacityInternal_d00df_5 : decode cJ5_ensureCapacityInternal_d00df 5 = .ok (.aload_n 0, 1) := by decide +kernel
theorem dJ5_ensureCapacityInternal_d00df_6 : decode cJ5_ensureCapacityInternal_d00df 6 = .ok (.getfield 22, 3) := by decide +kernel
theorem dJ5_ensureCapacityInternal_d00df_9 : decode cJ5_ensureCapacityInternal_d00df 9 = .ok (.ishr, 1) := by decide +kernel
theorem dJ5_ensureCapacityInternal_d00df_10 : decode cJ5_ensureCapacityInternal_d00df 10 = .ok (.istore_n 2, 1) := by decide +kernel
theorem dJ5_ensureCapacityInternal_d00df_11 : decode cJ5_ensureCapacityInternal_d00df 11 = .ok (.iload_n 1, 1) := by decide +kernel
theorem dJ5_ensureCapacityInternal_d00df_12 : decode cJ5_ensureCapacityInternal_d00df 12 = .ok (.iload_n 2, 1) := by decide +kernel
theorem dJ5_ensureCapacityInternal_d00df_13 : decode cJ5_ensureCapacityInternal_d00df 13 = .ok (.isub, 1) := by decide +kernel
theorem dJ5_ensureCapacityInternal_d00df_14 : decode cJ5_ensureCapacityInternal_d00df 14 = .ok (.ifCond .le 24, 3) := by decide +kernel
theorem dJ5_ensureCapacityInternal_d00df_17 : decode cJ5_ensureCapacityInternal_d00df 17 = .ok (.aload_n 0, 1) := by decide +kernel
theorem dJ5_ensureCapacityInternal_d00df_18 : decode cJ5_ensureCapacityInternal_d00df 18 = .ok (.aload_n 0, 1) := by decide +kernel
theorem dJ5_ensureCapacityInternal_d00df_19 : decode cJ5_ensureCapacityInternal_d00df 19 = .ok (.getfield 15, 3) := by decide +kernel
theorem dJ5_ensureCapacityInternal_d00df_22 : decode cJ5_ensureCapacityInternal_d00df 22 = .ok (.aload_n 0, 1) := by decide +kernel
theorem dJ5_ensureCapacityInternal_d00df_23 : decode cJ5_ensureCapacityInternal_d00df 23 = .ok (.iload_n 1, 1) := by decide +kernel
theorem dJ5_ensureCapacityInternal_d00df_24 : decode cJ5_ensureCapacityInternal_d00df 24 = .ok (.invokevirtual 104, 3) := by decide +kernel
theorem dJ5_ensureCapacityInternal_d00df_27 : decode cJ5_ensureCapacityInternal_d00df 27 = .ok (.aload_n 0, 1) := by decide +kernel
theorem dJ5_ensureCapacityInternal_d00df_28 : decode cJ5_ensureCapacityInternal_d00df 28 = .ok (.getfield 22, 3) := by decide +kernel
theorem dJ5_ensureCapacityInternal_d00df_31 : decode cJ5_ensureCapacityInternal_d00df 31 = .ok (.ishl, 1) := by decide +kernel
theorem dJ5_ensureCapacityInternal_d00df_32 : decode cJ5_ensureCapacityInternal_d00df 32 = .ok (.invokestatic 108, 3) := by decide +kernel
theorem dJ5_ensureCapacityInternal_d00df_35 : decode cJ5_ensureCapacityInternal_d00df 35 = .ok (.putfield 15, 3) := by decide +kernel
theorem dJ5_ensureCapacityInternal_d00df_38 : decode cJ5_ensureCapacityInternal_d00df 38 = .ok (.return_, 1) := by decide +kernel
theorem okc_J7_copyOf_9075b {kn : sKn} {cc : ByteArray} {own : String} {nL : Nat} {D : Nat} {ret : Option FieldType} {ini : Bool} {pc index : Nat} (hD : 1 + 1 ≤ D) (hl : Cond.methodLink own index yJ7_copyOf_9075b ∈ wsL_law) (hd : decode cc pc = .ok (.invokestatic index, 3)) : mOk kn cc own nL wsL_law D ret ini pc (a_callS false (fJ7_copyOf_9075b kn) 2 (pc + 3)) := ok_callS (mJ7_copyOf_9075b kn) (good_ws ws_good (fun _ h => h) kw61) hD (by decide) hl kw63 kw62 ⟨by decide +kernel, by decide +kernel, by decide +kernel⟩ hd
def tJ5_ensureCapacityInternal_d00df (kn : sKn) : List (Nat × sA) := [(0, a_aload 0 1), (1, a_get 0 0 4), (4, a_alen 5), (5, a_aload 0 6), (6, a_get 0 1 9), (9, a_stk q_ishr 10), (10, a_istore 2 11), (11, a_iload 1 12), (12, a_iload 2 13), (13, a_stk q_isub 14), (14, a_if kn b_le 5 38 17), (17, a_aload 0 18), (18, a_aload 0 19), (19, a_get 0 0 22), (22, a_aload 0 23), (23, a_iload 1 24), (24, a_callV false (fJ5_newCapacity_0f7a4 kn) 0 2 27), (27, a_aload 0 28), (28, a_get 0 1 31), (31, a_stk q_ishl 32), (32, a_callS false (fJ7_copyOf_9075b kn) 2 35), (35, a_put 0 0 ckR 38), (38, a_vret)]
def fJ5_ensureCapacityInternal_d00df (kn : sKn) : List Value → sW → Option sR := fW (tJ5_ensureCapacityInternal_d00df kn) 3
set_option maxRecDepth 100000 in
set_option maxHeartbeats 4000000 in
theorem mJ5_ensureCapacityInternal_d00df (kn : sKn) : mM kn yJ5_ensureCapacityInternal_d00df (Cond.code yJ5_ensureCapacityInternal_d00df cJ5_ensureCapacityInternal_d00df 3 none :: wsL_law) 3 true (fJ5_ensureCapacityInternal_d00df kn) := mM_W (fun n => mM_of (own := RJ5) (ini := false) rfl (by decide +kernel) (by decide +kernel) (all_c (ok_aload_n dJ5_ensureCapacityInternal_d00df_0 rfl) (all_c (okg_J4_0 kw45 dJ5_ensureCapacityInternal_d00df_1) (all_c (ok_alen dJ5_ensureCapacityInternal_d00df_4) (all_c (ok_aload_n dJ5_ensureCapacityInternal_d00df_5 rfl) (all_c (okg_J4_1 kw46 dJ5_ensureCapacityInternal_d00df_6) (all_c (ok_stk (s_ishr dJ5_ensureCapacityInternal_d00df_9)) (all_c (ok_istore_n dJ5_ensureCapacityInternal_d00df_10 rfl (by decide)) (all_c (ok_iload_n dJ5_ensureCapacityInternal_d00df_11 rfl) (all_c (ok_iload_n dJ5_ensureCapacityInternal_d00df_12 rfl) (all_c (ok_stk (s_isub dJ5_ensureCapacityInternal_d00df_13)) (all_c (ok_if_le dJ5_ensureCapacityInternal_d00df_14 (by decide)) (all_c (ok_aload_n dJ5_ensureCapacityInternal_d00df_17 rfl) (all_c (ok_aload_n dJ5_ensureCapacityInternal_d00df_18 rfl) (all_c (okg_J4_0 kw45 dJ5_ensureCapacityInternal_d00df_19) (all_c (ok_aload_n dJ5_ensureCapacityInternal_d00df_22 rfl) (all_c (ok_iload_n dJ5_ensureCapacityInternal_d00df_23 rfl) (all_c (ok_callV (mJ5_newCapacity_0f7a4 kn) (good_ws ws_good (fun _ h => h) kw56) (by decide) (by decide) kw60 kw58 kw59 kw57 ⟨by decide +kernel, by decide +kernel, by decide +kernel⟩ rfl dJ5_ensureCapacityInternal_d00df_24) (all_c (ok_aload_n dJ5_ensureCapacityInternal_d00df_27 rfl) (all_c (okg_J4_1 kw46 dJ5_ensureCapacityInternal_d00df_28) (all_c (ok_stk (s_ishl dJ5_ensureCapacityInternal_d00df_31)) (all_c (okc_J7_copyOf_9075b (by decide) kw64 dJ5_ensureCapacityInternal_d00df_32) (all_c (okp_J4_0 kw45 dJ5_ensureCapacityInternal_d00df_35) (all_c (ok_vret dJ5_ensureCapacityInternal_d00df_38) all_n))))))))))))))))))))))) n (fun h => by first | rfl | cases h))
theorem dJ5_inflateIfNeededFor_a7421_0 : decode cJ5_inflateIfNeededFor_a7421 0 = .ok (.getstatic 18, 3) := by decide +kernel
theorem dJ5_inflateIfNeededFor_a7421_3 : decode cJ5_inflateIfNeededFor_a7421 3 = .ok (.ifCond .eq 18, 3) := by decide +kernel
theorem dJ5_inflateIfNeededFor_a7421_6 : decode cJ5_inflateIfNeededFor_a7421 6 = .ok (.aload_n 0, 1) := by decide +kernel
theorem dJ5_inflateIfNeededFor_a7421_7 : decode cJ5_inflateIfNeededFor_a7421 7 = .ok (.getfield 22, 3) := by decide +kernel
theorem dJ5_inflateIfNeededFor_a7421_10 : decode cJ5_inflateIfNeededFor_a7421 10 = .ok (.aload_n 1, 1) := by decide +kernel
theorem dJ5_inflateIfNeededFor_a7421_11 : decode cJ5_inflateIfNeededFor_a7421 11 = .ok (.invokevirtual 40, 3) := by decide +kernel
theorem dJ5_inflateIfNeededFor_a7421_14 : decode cJ5_inflateIfNeededFor_a7421 14 = .ok (.if_icmp .eq 7, 3) := by decide +kernel
theorem dJ5_inflateIfNeededFor_a7421_17 : decode cJ5_inflateIfNeededFor_a7421 17 = .ok (.aload_n 0, 1) := by decide +kernel
theorem dJ5_inflateIfNeededFor_a7421_18 : decode cJ5_inflateIfNeededFor_a7421 18 = .ok (.invokevirtual 195, 3) := by decide +kernel
theorem dJ5_inflateIfNeededFor_a7421_21 : decode cJ5_inflateIfNeededFor_a7421 21 = .ok (.return_, 1) := by decide +kernel
def tJ5_inflateIfNeededFor_a7421 (kn : sKn) : List (Nat × sA) := [(0, a_getsI 1 3), (3, a_if kn b_eq 0 21 6), (6, a_aload 0 7), (7, a_get 0 1 10), (10, a_aload 1 11), (11, a_callVS false (fJ0_coder_7d493 kn) 1 14), (14, a_icmp kn b_eq 0 21 17), (17, a_aload 0 18), (18, a_callV true f_none 0 1 21), (21, a_vret)]
def fJ5_inflateIfNeededFor_a7421 (kn : sKn) : List Value → sW → Option sR := fW (tJ5_inflateIfNeededFor_a7421 kn) 2
set_option maxRecDepth 100000 in
set_option maxHeartbeats 4000000 in
theorem mJ5_inflateIfNeededFor_a7421 (kn : sKn) : mM kn yJ5_inflateIfNeededFor_a7421 (Cond.code yJ5_inflateIfNeededFor_a7421 cJ5_inflateIfNeededFor_a7421 2 none :: wsL_law) 2 true (fJ5_inflateIfNeededFor_a7421 kn) := mM_W (fun n => mM_of (own := RJ5) (ini := false) rfl (by decide +kernel) (by decide +kernel) (all_c (ok_compact kw65 dJ5_inflateIfNeededFor_a7421_0) (all_c (ok_if_eq dJ5_inflateIfNeededFor_a7421_3 (by decide)) (all_c (ok_aload_n dJ5_inflateIfNeededFor_a7421_6 rfl) (all_c (okg_J4_1 kw46 dJ5_inflateIfNeededFor_a7421_7) (all_c (ok_aload_n dJ5_inflateIfNeededFor_a7421_10 rfl) (all_c (ok_callVS (mJ0_coder_7d493 kn) (good_ws ws_good (fun _ h => h) kw25) (by decide) (by decide) kw66 kw26 kw27 kw9 ⟨by decide +kernel, by decide +kernel, by decide +kernel⟩ dJ5_inflateIfNeededFor_a7421_11) (all_c (ok_icmp_eq dJ5_inflateIfNeededFor_a7421_14 (by decide)) (all_c (ok_aload_n dJ5_inflateIfNeededFor_a7421_17 rfl) (all_c (ok_callV (m_none (D := 0)) (good_ws ws_good (fun _ h => h) kw67) (by decide) (by decide) kw70 kw68 kw69 kw57 ⟨by decide +kernel, by decide +kernel, by decide +kernel⟩ rfl dJ5_inflateIfNeededFor_a7421_18) (all_c (ok_vret dJ5_inflateIfNeededFor_a7421_21) all_n)))))))))) n (fun h => by first | rfl | cases h))
theorem dJ5_putStringAt_47b60_0 : decode cJ5_putStringAt_47b60 0 = .ok (.aload_n 0, 1) := by decide +kernel
theorem dJ5_putStringAt_47b60_1 : decode cJ5_putStringAt_47b60 1 = .ok (.aload_n 2, 1) := by decide +kernel
theorem dJ5_putStringAt_47b60_2 : decode cJ5_putStringAt_47b60 2 = .ok (.invokevirtual 397, 3) := by decide +kernel
theorem dJ5_putStringAt_47b60_5 : decode cJ5_putStringAt_47b60 5 = .ok (.aload_n 2, 1) := by decide +kernel
theorem dJ5_putStringAt_47b60_6 : decode cJ5_putStringAt_47b60 6 = .ok (.aload_n 0, 1) := by decide +kernel
theorem dJ5_putStringAt_47b60_7 : decode cJ5_putStringAt_47b60 7 = .ok (.getfield 15, 3) := by decide +kernel
theorem dJ5_putStringAt_47b60_10 : decode cJ5_putStringAt_47b60 10 = .ok (.iload_n 1, 1) := by decide +kernel
theorem dJ5_putStringAt_47b60_11 : decode cJ5_putStringAt_47b60 11 = .ok (.aload_n 0, 1) := by decide +kernel
theorem dJ5_putStringAt_47b60_12 : decode cJ5_putStringAt_47b60 12 = .ok (.getfield 22, 3) := by decide +kernel
theorem dJ5_putStringAt_47b60_15 : decode cJ5_putStringAt_47b60 15 = .ok (.invokevirtual 399, 3) := by decide +kernel
theorem dJ5_putStringAt_47b60_18 : decode cJ5_putStringAt_47b60 18 = .ok (.return_, 1) := by decide +kernel
def tJ5_putStringAt_47b60 (kn : sKn) : List (Nat × sA) := [(0, a_aload 0 1), (1, a_aload 2 2), (2, a_callV true (fJ5_inflateIfNeededFor_a7421 kn) 0 2 5), (5, a_aload 2 6), (6, a_aload 0 7), (7, a_get 0 0 10), (10, a_iload 1 11), (11, a_aload 0 12), (12, a_get 0 1 15), (15, a_callVS true (fJ0_getBytes_840e7 kn) 4 18), (18, a_vret)]
def fJ5_putStringAt_47b60 (kn : sKn) : List Value → sW → Option sR := fW (tJ5_putStringAt_47b60 kn) 3
set_option maxRecDepth 100000 in
set_option maxHeartbeats 4000000 in
theorem mJ5_putStringAt_47b60 (kn : sKn) : mM kn yJ5_putStringAt_47b60 (Cond.code yJ5_putStringAt_47b60 cJ5_putStringAt_47b60 3 none :: wsL_law) 3 true (fJ5_putStringAt_47b60 kn) := mM_W (fun n => mM_of (own := RJ5) (ini := false) rfl (by decide +kernel) (by decide +kernel) (all_c (ok_aload_n dJ5_putStringAt_47b60_0 rfl) (all_c (ok_aload_n dJ5_putStringAt_47b60_1 rfl) (all_c (ok_callVP (mJ5_inflateIfNeededFor_a7421 kn) (good_ws ws_good (fun _ h => h) kw71) (by decide) (by decide) kw73 kw72 (by decide +kernel) kw57 ⟨by decide +kernel, by decide +kernel, by decide +kernel⟩ rfl dJ5_putStringAt_47b60_2) (all_c (ok_aload_n dJ5_putStringAt_47b60_5 rfl) (all_c (ok_aload_n dJ5_putStringAt_47b60_6 rfl) (all_c (okg_J4_0 kw45 dJ5_putStringAt_47b60_7) (all_c (ok_iload_n dJ5_putStringAt_47b60_10 rfl) (all_c (ok_aload_n dJ5_putStringAt_47b60_11 rfl) (all_c (okg_J4_1 kw46 dJ5_putStringAt_47b60_12) (all_c (ok_callVS (mJ0_getBytes_840e7 kn) (good_ws ws_good (fun _ h => h) kw74) (by decide) (by decide) kw77 kw75 kw76 kw9 ⟨by decide +kernel, by decide +kernel, by decide +kernel⟩ dJ5_putStringAt_47b60_15) (all_c (ok_vret dJ5_putStringAt_47b60_18) all_n))))))))))) n (fun h => by first | rfl | cases h))
theorem dJ5_append_cf1ce_0 : decode cJ5_append_cf1ce 0 = .ok (.aload_n 1, 1) := by decide +kernel
theorem dJ5_append_cf1ce_1 : decode cJ5_append_cf1ce 1 = .ok (.ifnonnull 8, 3) := by decide +kernel
theorem dJ5_append_cf1ce_4 : decode cJ5_append_cf1ce 4 = .ok (.aload_n 0, 1) := by decide +kernel
theorem dJ5_append_cf1ce_5 : decode cJ5_append_cf1ce 5 = .ok (.invokevirtual 204, 3) := by decide +kernel
theorem dJ5_append_cf1ce_8 : decode cJ5_append_cf1ce 8 = .ok (.areturn, 1) := by decide +kernel
theorem dJ5_append_cf1ce_9 : decode cJ5_append_cf1ce 9 = .ok (.aload_n 1, 1) := by decide +kernel
theorem dJ5_append_cf1ce_10 : decode cJ5_append_cf1ce 10 = .ok (.invokevirtual 32, 3) := by decide +kernel
theorem dJ5_append_cf1ce_13 : decode cJ5_append_cf1ce 13 = .ok (.istore_n 2, 1) := by decide +kernel
theorem dJ5_append_cf1ce_14 : decode cJ5_append_cf1ce 14 = .ok (.aload_n 0, 1) := by decide +kernel
theorem dJ5_append_cf1ce_15 : decode cJ5_append_cf1ce 15 = .ok (.aload_n 0, 1) := by decide +kernel
theorem dJ5_append_cf1ce_16 : decode cJ5_append_cf1ce 16 = .ok (.getfield 79, 3) := by decide +kernel
theorem dJ5_append_cf1ce_19 : decode cJ5_append_cf1ce 19 = .ok (.iload_n 2, 1) := by decide +kernel
theorem dJ5_append_cf1ce_20 : decode cJ5_append_cf1ce 20 = .ok (.iadd, 1) := by decide +kernel
theorem dJ5_append_cf1ce_21 : decode cJ5_append_cf1ce 21 = .ok (.invokevirtual 100, 3) := by decide +kernel
theorem dJ5_append_cf1ce_24 : decode cJ5_append_cf1ce 24 = .ok (.aload_n 0, 1) := by decide +kernel
theorem dJ5_append_cf1ce_25 : decode cJ5_append_cf1ce 25 = .ok (.aload_n 0, 1) := by decide +kernel
theorem dJ5_append_cf1ce_26 : decode cJ5_append_cf1ce 26 = .ok (.getfield 79, 3) := by decide +kernel
theorem dJ5_append_cf1ce_29 : decode cJ5_append_cf1ce 29 = .ok (.aload_n 1, 1) := by decide +kernel
theorem dJ5_append_cf1ce_30 : decode cJ5_append_cf1ce 30 = .ok (.invokevirtual 208, 3) := by decide +kernel
theorem dJ5_append_cf1ce_33 : decode cJ5_append_cf1ce 33 = .ok (.aload_n 0, 1) := by decide +kernel
theorem dJ5_append_cf1ce_34 : decode cJ5_append_cf1ce 34 = .ok (.dup, 1) := by decide +kernel
theorem dJ5_append_cf1ce_35 : decode cJ5_append_cf1ce 35 = .ok (.getfield 79, 3) := by decide +kernel
theorem dJ5_append_cf1ce_38 : decode cJ5_append_cf1ce 38 = .ok (.iload_n 2, 1) := by decide +kernel
theorem dJ5_append_cf1ce_39 : decode cJ5_append_cf1ce 39 = .ok (.iadd, 1) := by decide +kernel
theorem dJ5_append_cf1ce_40 : decode cJ5_append_cf1ce 40 = .ok (.putfield 79, 3) := by decide +kernel
theorem dJ5_append_cf1ce_43 : decode cJ5_append_cf1ce 43 = .ok (.aload_n 0, 1) := by decide +kernel
theorem dJ5_append_cf1ce_44 : decode cJ5_append_cf1ce 44 = .ok (.areturn, 1) := by decide +kernel
def tJ5_append_cf1ce (kn : sKn) : List (Nat × sA) := [(0, a_aload 1 1), (1, a_ifnn 9 4), (4, a_aload 0 5), (5, a_callV false f_none 0 1 8), (8, a_aret), (9, a_aload 1 10), (10, a_callVS false (fJ0_length_8abf5 kn) 1 13), (13, a_istore 2 14), (14, a_aload 0 15), (15, a_aload 0 16), (16, a_get 0 3 19), (19, a_iload 2 20), (20, a_stk q_iadd 21), (21, a_callV true (fJ5_ensureCapacityInternal_d00df kn) 0 2 24), (24, a_aload 0 25), (25, a_aload 0 26), (26, a_get 0 3 29), (29, a_aload 1 30), (30, a_callV true (fJ5_putStringAt_47b60 kn) 0 3 33), (33, a_aload 0 34), (34, a_stk q_dup 35), (35, a_get 0 3 38), (38, a_iload 2 39), (39, a_stk q_iadd 40), (40, a_put 0 3 ckI 43), (43, a_aload 0 44), (44, a_aret)]
def fJ5_append_cf1ce (kn : sKn) : List Value → sW → Option sR := fW (tJ5_append_cf1ce kn) 3
set_option maxRecDepth 100000 in
set_option maxHeartbeats 4000000 in
theorem mJ5_append_cf1ce (kn : sKn) : mM kn yJ5_append_cf1ce (Cond.code yJ5_append_cf1ce cJ5_append_cf1ce 3 (some (.object "java/lang/AbstractStringBuilder")) :: wsL_law) 4 false (fJ5_append_cf1ce kn) := mM_W (fun n => mM_of (own := RJ5) (ini := false) rfl (by decide +kernel) (by decide +kernel) (all_c (ok_aload_n dJ5_append_cf1ce_0 rfl) (all_c (ok_ifnn dJ5_append_cf1ce_1 (by decide)) (all_c (ok_aload_n dJ5_append_cf1ce_4 rfl) (all_c (ok_callV (m_none (D := 0)) (good_ws ws_good (fun _ h => h) kw78) (by decide) (by decide) kw81 kw79 kw80 kw57 ⟨by decide +kernel, by decide +kernel, by decide +kernel⟩ rfl dJ5_append_cf1ce_5) (all_c (ok_aret (by first | exact Or.inl ⟨_, rfl⟩ | exact Or.inr ⟨_, rfl⟩) dJ5_append_cf1ce_8) (all_c (ok_aload_n dJ5_append_cf1ce_9 rfl) (all_c (ok_callVS (mJ0_length_8abf5 kn) (good_ws ws_good (fun _ h => h) kw82) (by decide) (by decide) kw85 kw83 kw84 kw9 ⟨by decide +kernel, by decide +kernel, by decide +kernel⟩ dJ5_append_cf1ce_10) (all_c (ok_istore_n dJ5_append_cf1ce_13 rfl (by decide)) (all_c (ok_aload_n dJ5_append_cf1ce_14 rfl) (all_c (ok_aload_n dJ5_append_cf1ce_15 rfl) (all_c (okg_J4_3 kw86 dJ5_append_cf1ce_16) (all_c (ok_iload_n dJ5_append_cf1ce_19 rfl) (all_c (ok_stk (s_iadd dJ5_append_cf1ce_20)) (all_c (ok_callVP (mJ5_ensureCapacityInternal_d00df kn) (good_ws ws_good (fun _ h => h) kw87) (by decide) (by decide) kw89 kw88 (by decide +kernel) kw57 ⟨by decide +kernel, by decide +kernel, by decide +kernel⟩ rfl dJ5_append_cf1ce_21) (all_c (ok_aload_n dJ5_append_cf1ce_24 rfl) (all_c (ok_aload_n dJ5_append_cf1ce_25 rfl) (all_c (okg_J4_3 kw86 dJ5_append_cf1ce_26) (all_c (ok_aload_n dJ5_append_cf1ce_29 rfl) (all_c (ok_callVP (mJ5_putStringAt_47b60 kn) (good_ws ws_good (fun _ h => h) kw90) (by decide) (by decide) kw92 kw91 (by decide +kernel) kw57 ⟨by decide +kernel, by decide +kernel, by decide +kernel⟩ rfl dJ5_append_cf1ce_30) (all_c (ok_aload_n dJ5_append_cf1ce_33 rfl) (all_c (ok_stk (s_dup dJ5_append_cf1ce_34)) (all_c (okg_J4_3 kw86 dJ5_append_cf1ce_35) (all_c (ok_iload_n dJ5_append_cf1ce_38 rfl) (all_c (ok_stk (s_iadd dJ5_append_cf1ce_39)) (all_c (okp_J4_3 kw86 dJ5_append_cf1ce_40) (all_c (ok_aload_n dJ5_append_cf1ce_43 rfl) (all_c (ok_aret (by first | exact Or.inl ⟨_, rfl⟩ | exact Or.inr ⟨_, rfl⟩) dJ5_append_cf1ce_44) all_n))))))))))))))))))))))))))) n (fun h => by first | rfl | cases h))
theorem dJ4_append_15ec4_0 : decode cJ4_append_15ec4 0 = .ok (.aload_n 0, 1) := by decide +kernel
theorem dJ4_append_15ec4_1 : decode cJ4_append_15ec4 1 = .ok (.aload_n 1, 1) := by decide +kernel
theorem dJ4_append_15ec4_2 : decode cJ4_append_15ec4 2 = .ok (.invokespecial 29, 3) := by decide +kernel
theorem dJ4_append_15ec4_5 : decode cJ4_append_15ec4 5 = .ok (.pop, 1) := by decide +kernel
theorem dJ4_append_15ec4_6 : decode cJ4_append_15ec4 6 = .ok (.aload_n 0, 1) := by decide +kernel
theorem dJ4_append_15ec4_7 : decode cJ4_append_15ec4 7 = .ok (.areturn, 1) := by decide +kernel
def tJ4_append_15ec4 (kn : sKn) : List (Nat × sA) := [(0, a_aload 0 1), (1, a_aload 1 2), (2, a_callV false (fJ5_append_cf1ce kn) 0 2 5), (5, a_stk q_pop 6), (6, a_aload 0 7), (7, a_aret)]
def fJ4_append_15ec4 (kn : sKn) : List Value → sW → Option sR := fW (tJ4_append_15ec4 kn) 2
set_option maxRecDepth 100000 in
set_option maxHeartbeats 4000000 in
theorem mJ4_append_15ec4 (kn : sKn) : mM kn yJ4_append_15ec4 (Cond.code yJ4_append_15ec4 cJ4_append_15ec4 2 (some (.object "java/lang/StringBuilder")) :: wsL_law) 5 false (fJ4_append_15ec4 kn) := mM_W (fun n => mM_of (own := RJ4) (ini := false) rfl (by decide +kernel) (by decide +kernel) (all_c (ok_aload_n dJ4_append_15ec4_0 rfl) (all_c (ok_aload_n dJ4_append_15ec4_1 rfl) (all_c (ok_callSup (mJ5_append_cf1ce kn) (good_ws ws_good (fun _ h => h) kw93) (by decide) (by decide) kw97 kw94 kw95 kw96 (by decide) kw57 ⟨by decide +kernel, by decide +kernel, by decide +kernel⟩ rfl dJ4_append_15ec4_2) (all_c (ok_stk (s_pop dJ4_append_15ec4_5)) (all_c (ok_aload_n dJ4_append_15ec4_6 rfl) (all_c (ok_aret (by first | exact Or.inl ⟨_, rfl⟩ | exact Or.inr ⟨_, rfl⟩) dJ4_append_15ec4_7) all_n)))))) n (fun h => by first | rfl | cases h))
theorem dJ5_isLatin1_aae02_0 : decode cJ5_isLatin1_aae02 0 = .ok (.getstatic 18, 3) := by decide +kernel
theorem dJ5_isLatin1_aae02_3 : decode cJ5_isLatin1_aae02 3 = .ok (.ifCond .eq 14, 3) := by decide +kernel
theorem dJ5_isLatin1_aae02_6 : decode cJ5_isLatin1_aae02 6 = .ok (.aload_n 0, 1) := by decide +kernel
theorem dJ5_isLatin1_aae02_7 : decode cJ5_isLatin1_aae02 7 = .ok (.getfield 22, 3) := by decide +kernel
theorem dJ5_isLatin1_aae02_10 : decode cJ5_isLatin1_aae02 10 = .ok (.ifCond .ne 7, 3) := by decide +kernel
theorem dJ5_isLatin1_aae02_13 : decode cJ5_isLatin1_aae02 13 = .ok (.iconst 1, 1) := by decide +kernel
theorem dJ5_isLatin1_aae02_14 : decode cJ5_isLatin1_aae02 14 = .ok (.goto 4, 3) := by decide +kernel
theorem dJ5_isLatin1_aae02_17 : decode cJ5_isLatin1_aae02 17 = .ok (.iconst 0, 1) := by decide +kernel
theorem dJ5_isLatin1_aae02_18 : decode cJ5_isLatin1_aae02 18 = .ok (.ireturn, 1) := by decide +kernel
def tJ5_isLatin1_aae02 (kn : sKn) : List (Nat × sA) := [(0, a_getsI 1 3), (3, a_if kn b_eq 0 17 6), (6, a_aload 0 7), (7, a_get 0 1 10), (10, a_if kn b_ne 1 17 13), (13, a_stk (q_int 1) 14), (14, a_goto 18), (17, a_stk (q_int 0) 18), (18, a_zret)]
def fJ5_isLatin1_aae02 (kn : sKn) : List Value → sW → Option sR := fW (tJ5_isLatin1_aae02 kn) 1
set_option maxRecDepth 100000 in
set_option maxHeartbeats 4000000 in
theorem mJ5_isLatin1_aae02 (kn : sKn) : mM kn yJ5_isLatin1_aae02 (Cond.code yJ5_isLatin1_aae02 cJ5_isLatin1_aae02 1 (some .boolean) :: wsL_law) 1 false (fJ5_isLatin1_aae02 kn) := mM_W (fun n => mM_of (own := RJ5) (ini := false) rfl (by decide +kernel) (by decide +kernel) (all_c (ok_compact kw65 dJ5_isLatin1_aae02_0) (all_c (ok_if_eq dJ5_isLatin1_aae02_3 (by decide)) (all_c (ok_aload_n dJ5_isLatin1_aae02_6 rfl) (all_c (okg_J4_1 kw46 dJ5_isLatin1_aae02_7) (all_c (ok_if_ne dJ5_isLatin1_aae02_10 (by decide)) (all_c (ok_stk (s_iconst dJ5_isLatin1_aae02_13 (by decide))) (all_c (ok_goto dJ5_isLatin1_aae02_14 (by decide)) (all_c (ok_stk (s_iconst dJ5_isLatin1_aae02_17 (by decide))) (all_c (ok_zret dJ5_isLatin1_aae02_18) all_n))))))))) n (fun h => by first | rfl | cases h))
theorem dJ5_append_3fe6f_0 : decode cJ5_append_3fe6f 0 = .ok (.aload_n 0, 1) := by decide +kernel
theorem dJ5_append_3fe6f_1 : decode cJ5_append_3fe6f 1 = .ok (.aload_n 0, 1) := by decide +kernel
theorem dJ5_append_3fe6f_2 : decode cJ5_append_3fe6f 2 = .ok (.getfield 79, 3) := by decide +kernel
theorem dJ5_append_3fe6f_5 : decode cJ5_append_3fe6f 5 = .ok (.iconst 1, 1) := by decide +kernel
theorem dJ5_append_3fe6f_6 : decode cJ5_append_3fe6f 6 = .ok (.iadd, 1) := by decide +kernel
theorem dJ5_append_3fe6f_7 : decode cJ5_append_3fe6f 7 = .ok (.invokevirtual 100, 3) := by decide +kernel
theorem dJ5_append_3fe6f_10 : decode cJ5_append_3fe6f 10 = .ok (.aload_n 0, 1) := by decide +kernel
theorem dJ5_append_3fe6f_11 : decode cJ5_append_3fe6f 11 = .ok (.invokevirtual 83, 3) := by decide +kernel
theorem dJ5_append_3fe6f_14 : decode cJ5_append_3fe6f 14 = .ok (.ifCond .eq 31, 3) := by decide +kernel
theorem dJ5_append_3fe6f_17 : decode cJ5_append_3fe6f 17 = .ok (.iload_n 1, 1) := by decide +kernel
theorem dJ5_append_3fe6f_18 : decode cJ5_append_3fe6f 18 = .ok (.invokestatic 191, 3) := by decide +kernel
theorem dJ5_append_3fe6f_21 : decode cJ5_append_3fe6f 21 = .ok (.ifCond .eq 24, 3) := by decide +kernel
theorem dJ5_append_3fe6f_24 : decode cJ5_append_3fe6f 24 = .ok (.aload_n 0, 1) := by decide +kernel
theorem dJ5_append_3fe6f_25 : decode cJ5_append_3fe6f 25 = .ok (.getfield 15, 3) := by decide +kernel
theorem dJ5_append_3fe6f_28 : decode cJ5_append_3fe6f 28 = .ok (.aload_n 0, 1) := by decide +kernel
theorem dJ5_append_3fe6f_29 : decode cJ5_append_3fe6f 29 = .ok (.dup, 1) := by decide +kernel
theorem dJ5_append_3fe6f_30 : decode cJ5_append_3fe6f 30 = .ok (.getfield 79, 3) := by decide +kernel
theorem dJ5_append_3fe6f_33 : decode cJ5_append_3fe6f 33 = .ok (.dup_x1, 1) := by decide +kernel
theorem dJ5_append_3fe6f_34 : decode cJ5_append_3fe6f 34 = .ok (.iconst 1, 1) := by decide +kernel
theorem dJ5_append_3fe6f_35 : decode cJ5_append_3fe6f 35 = .ok (.iadd, 1) := by decide +kernel
theorem dJ5_append_3fe6f_36 : decode cJ5_append_3fe6f 36 = .ok (.putfield 79, 3) := by decide +kernel
theorem dJ5_append_3fe6f_39 : decode cJ5_append_3fe6f 39 = .ok (.iload_n 1, 1) := by decide +kernel
theorem dJ5_append_3fe6f_40 : decode cJ5_append_3fe6f 40 = .ok (.i2b, 1) := by decide +kernel
theorem dJ5_append_3fe6f_41 : decode cJ5_append_3fe6f 41 = .ok (.bastore, 1) := by decide +kernel
theorem dJ5_append_3fe6f_42 : decode cJ5_append_3fe6f 42 = .ok (.goto 33, 3) := by decide +kernel
theorem dJ5_append_3fe6f_45 : decode cJ5_append_3fe6f 45 = .ok (.aload_n 0, 1) := by decide +kernel
theorem dJ5_append_3fe6f_46 : decode cJ5_append_3fe6f 46 = .ok (.invokevirtual 83, 3) := by decide +kernel
theorem dJ5_append_3fe6f_49 : decode cJ5_append_3fe6f 49 = .ok (.ifCond .eq 7, 3) := by decide +kernel
theorem dJ5_append_3fe6f_52 : decode cJ5_append_3fe6f 52 = .ok (.aload_n 0, 1) := by decide +kernel
theorem dJ5_append_3fe6f_53 : decode cJ5_append_3fe6f 53 = .ok (.invokevirtual 195, 3) := by decide +kernel
theorem dJ5_append_3fe6f_56 : decode cJ5_append_3fe6f 56 = .ok (.aload_n 0, 1) := by decide +kernel
theorem dJ5_append_3fe6f_57 : decode cJ5_append_3fe6f 57 = .ok (.getfield 15, 3) := by decide +kernel
theorem dJ5_append_3fe6f_60 : decode cJ5_append_3fe6f 60 = .ok (.aload_n 0, 1) := by decide +kernel
theorem dJ5_append_3fe6f_61 : decode cJ5_append_3fe6f 61 = .ok (.dup, 1) := by decide +kernel
theorem dJ5_append_3fe6f_62 : decode cJ5_append_3fe6f 62 = .ok (.getfield 79, 3) := by decide +kernel
theorem dJ5_append_3fe6f_65 : decode cJ5_append_3fe6f 65 = .ok (.dup_x1, 1) := by decide +kernel
theorem dJ5_append_3fe6f_66 : decode cJ5_append_3fe6f 66 = .ok (.iconst 1, 1) := by decide +kernel
theorem dJ5_append_3fe6f_67 : decode cJ5_append_3fe6f 67 = .ok (.iadd, 1) := by decide +kernel
theorem dJ5_append_3fe6f_68 : decode cJ5_append_3fe6f 68 = .ok (.putfield 79, 3) := by decide +kernel
theorem dJ5_append_3fe6f_71 : decode cJ5_append_3fe6f 71 = .ok (.iload_n 1, 1) := by decide +kernel
theorem dJ5_append_3fe6f_72 : decode cJ5_append_3fe6f 72 = .ok (.invokestatic 197, 3) := by decide +kernel
theorem dJ5_append_3fe6f_75 : decode cJ5_append_3fe6f 75 = .ok (.aload_n 0, 1) := by decide +kernel
theorem dJ5_append_3fe6f_76 : decode cJ5_append_3fe6f 76 = .ok (.areturn, 1) := by decide +kernel
theorem okc_J1_canEncode_fc78d {kn : sKn} {cc : ByteArray} {own : String} {nL : Nat} {D : Nat} {ret : Option FieldType} {ini : Bool} {pc index : Nat} (hD : 1 + 1 ≤ D) (hl : Cond.methodLink own index yJ1_canEncode_fc78d ∈ wsL_law) (hd : decode cc pc = .ok (.invokestatic index, 3)) : mOk kn cc own nL wsL_law D ret ini pc (a_callS false (fJ1_canEncode_fc78d kn) 1 (pc + 3)) := ok_callS (mJ1_canEncode_fc78d kn) (good_ws ws_good (fun _ h => h) kw102) hD (by decide) hl kw103 kw18 ⟨by decide +kernel, by decide +kernel, by decide +kernel⟩ hd
theorem okc0_J2_putCharSB_b72d1 {kn : sKn} {cc : ByteArray} {own : String} {nL : Nat} {D : Nat} {ret : Option FieldType} {ini : Bool} {pc index : Nat} (hD : 0 + 1 ≤ D) (hl : Cond.methodLink own index yJ2_putCharSB_b72d1 ∈ wsL_law) (hd : decode cc pc = .ok (.invokestatic index, 3)) : mOk kn cc own nL wsL_law D ret ini pc (a_callS true f_none 3 (pc + 3)) := ok_callS (m_none (D := 0)) (good_ws ws_good (fun _ h => h) kw105) hD (by decide) hl kw106 kw22 ⟨by decide +kernel, by decide +kernel, by decide +kernel⟩ hd
def tJ5_append_3fe6f (kn : sKn) : List (Nat × sA) := [(0, a_aload 0 1), (1, a_aload 0 2), (2, a_get 0 3 5), (5, a_stk (q_int 1) 6), (6, a_stk q_iadd 7), (7, a_callV true (fJ5_ensureCapacityInternal_d00df kn) 0 2 10), (10, a_aload 0 11), (11, a_callV false (fJ5_isLatin1_aae02 kn) 0 1 14), (14, a_if kn b_eq 0 45 17), (17, a_iload 1 18), (18, a_callS false (fJ1_canEncode_fc78d kn) 1 21), (21, a_if kn b_eq 0 45 24), (24, a_aload 0 25), (25, a_get 0 0 28), (28, a_aload 0 29), (29, a_stk q_dup 30), (30, a_get 0 3 33), (33, a_stk q_dup_x1 34), (34, a_stk (q_int 1) 35), (35, a_stk q_iadd 36), (36, a_put 0 3 ckI 39), (39, a_iload 1 40), (40, a_stk q_i2b 41), (41, a_bast 42), (42, a_goto 75), (45, a_aload 0 46), (46, a_callV false (fJ5_isLatin1_aae02 kn) 0 1 49), (49, a_if kn b_eq 0 56 52), (52, a_aload 0 53), (53, a_callV true f_none 0 1 56), (56, a_aload 0 57), (57, a_get 0 0 60), (60, a_aload 0 61), (61, a_stk q_dup 62), (62, a_get 0 3 65), (65, a_stk q_dup_x1 66), (66, a_stk (q_int 1) 67), (67, a_stk q_iadd 68), (68, a_put 0 3 ckI 71), (71, a_iload 1 72), (72, a_callS true f_none 3 75), (75, a_aload 0 76), (76, a_aret)]
def fJ5_append_3fe6f (kn : sKn) : List Value → sW → Option sR := fW (tJ5_append_3fe6f kn) 2
set_option maxRecDepth 100000 in
set_option maxHeartbeats 4000000 in
theorem mJ5_append_3fe6f (kn : sKn) : mM kn yJ5_append_3fe6f (Cond.code yJ5_append_3fe6f cJ5_append_3fe6f 2 (some (.object "java/lang/AbstractStringBuilder")) :: wsL_law) 4 false (fJ5_append_3fe6f kn) := mM_W (fun n => mM_of (own := RJ5) (ini := false) rfl (by decide +kernel) (by decide +kernel) (all_c (ok_aload_n dJ5_append_3fe6f_0 rfl) (all_c (ok_aload_n dJ5_append_3fe6f_1 rfl) (all_c (okg_J4_3 kw86 dJ5_append_3fe6f_2) (all_c (ok_stk (s_iconst dJ5_append_3fe6f_5 (by decide))) (all_c (ok_stk (s_iadd dJ5_append_3fe6f_6)) (all_c (ok_callVP (mJ5_ensureCapacityInternal_d00df kn) (good_ws ws_good (fun _ h => h) kw87) (by decide) (by decide) kw89 kw88 (by decide +kernel) kw57 ⟨by decide +kernel, by decide +kernel, by decide +kernel⟩ rfl dJ5_append_3fe6f_7) (all_c (ok_aload_n dJ5_append_3fe6f_10 rfl) (all_c (ok_callV (mJ5_isLatin1_aae02 kn) (good_ws ws_good (fun _ h => h) kw98) (by decide) (by decide) kw101 kw99 kw100 kw57 ⟨by decide +kernel, by decide +kernel, by decide +kernel⟩ rfl dJ5_append_3fe6f_11) (all_c (ok_if_eq dJ5_append_3fe6f_14 (by decide)) (all_c (ok_iload_n dJ5_append_3fe6f_17 rfl) (all_c (okc_J1_canEncode_fc78d (by decide) kw104 dJ5_append_3fe6f_18) (all_c (ok_if_eq dJ5_append_3fe6f_21 (by decide)) (all_c (ok_aload_n dJ5_append_3fe6f_24 rfl) (all_c (okg_J4_0 kw45 dJ5_append_3fe6f_25) (all_c (ok_aload_n dJ5_append_3fe6f_28 rfl) (all_c (ok_stk (s_dup dJ5_append_3fe6f_29)) (all_c (okg_J4_3 kw86 dJ5_append_3fe6f_30) (all_c (ok_stk (s_dup_x1 dJ5_append_3fe6f_33)) (all_c (ok_stk (s_iconst dJ5_append_3fe6f_34 (by decide))) (all_c (ok_stk (s_iadd dJ5_append_3fe6f_35)) (all_c (okp_J4_3 kw86 dJ5_append_3fe6f_36) (all_c (ok_iload_n dJ5_append_3fe6f_39 rfl) (all_c (ok_stk (s_i2b dJ5_append_3fe6f_40)) (all_c (ok_bast dJ5_append_3fe6f_41) (all_c (ok_goto dJ5_append_3fe6f_42 (by decide)) (all_c (ok_aload_n dJ5_append_3fe6f_45 rfl) (all_c (ok_callV (mJ5_isLatin1_aae02 kn) (good_ws ws_good (fun _ h => h) kw98) (by decide) (by decide) kw101 kw99 kw100 kw57 ⟨by decide +kernel, by decide +kernel, by decide +kernel⟩ rfl dJ5_append_3fe6f_46) (all_c (ok_if_eq dJ5_append_3fe6f_49 (by decide)) (all_c (ok_aload_n dJ5_append_3fe6f_52 rfl) (all_c (ok_callV (m_none (D := 0)) (good_ws ws_good (fun _ h => h) kw67) (by decide) (by decide) kw70 kw68 kw69 kw57 ⟨by decide +kernel, by decide +kernel, by decide +kernel⟩ rfl dJ5_append_3fe6f_53) (all_c (ok_aload_n dJ5_append_3fe6f_56 rfl) (all_c (okg_J4_0 kw45 dJ5_append_3fe6f_57) (all_c (ok_aload_n dJ5_append_3fe6f_60 rfl) (all_c (ok_stk (s_dup dJ5_append_3fe6f_61)) (all_c (okg_J4_3 kw86 dJ5_append_3fe6f_62) (all_c (ok_stk (s_dup_x1 dJ5_append_3fe6f_65)) (all_c (ok_stk (s_iconst dJ5_append_3fe6f_66 (by decide))) (all_c (ok_stk (s_iadd dJ5_append_3fe6f_67)) (all_c (okp_J4_3 kw86 dJ5_append_3fe6f_68) (all_c (ok_iload_n dJ5_append_3fe6f_71 rfl) (all_c (okc0_J2_putCharSB_b72d1 (by decide) kw107 dJ5_append_3fe6f_72) (all_c (ok_aload_n dJ5_append_3fe6f_75 rfl) (all_c (ok_aret (by first | exact Or.inl ⟨_, rfl⟩ | exact Or.inr ⟨_, rfl⟩) dJ5_append_3fe6f_76) all_n))))))))))))))))))))))))))))))))))))))))))) n (fun h => by first | rfl | cases h))
theorem dJ4_append_cf468_0 : decode cJ4_append_cf468 0 = .ok (.aload_n 0, 1) := by decide +kernel
theorem dJ4_append_cf468_1 : decode cJ4_append_cf468 1 = .ok (.iload_n 1, 1) := by decide +kernel
theorem dJ4_append_cf468_2 : decode cJ4_append_cf468 2 = .ok (.invokespecial 50, 3) := by decide +kernel
theorem dJ4_append_cf468_5 : decode cJ4_append_cf468 5 = .ok (.pop, 1) := by decide +kernel
theorem dJ4_append_cf468_6 : decode cJ4_append_cf468 6 = .ok (.aload_n 0, 1) := by decide +kernel
theorem dJ4_append_cf468_7 : decode cJ4_append_cf468 7 = .ok (.areturn, 1) := by decide +kernel
def tJ4_append_cf468 (kn : sKn) : List (Nat × sA) := [(0, a_aload 0 1), (1, a_iload 1 2), (2, a_callV false (fJ5_append_3fe6f kn) 0 2 5), (5, a_stk q_pop 6), (6, a_aload 0 7), (7, a_aret)]
def fJ4_append_cf468 (kn : sKn) : List Value → sW → Option sR := fW (tJ4_append_cf468 kn) 2
set_option maxRecDepth 100000 in
set_option maxHeartbeats 4000000 in
theorem mJ4_append_cf468 (kn : sKn) : mM kn yJ4_append_cf468 (Cond.code yJ4_append_cf468 cJ4_append_cf468 2 (some (.object "java/lang/StringBuilder")) :: wsL_law) 5 false (fJ4_append_cf468 kn) := mM_W (fun n => mM_of (own := RJ4) (ini := false) rfl (by decide +kernel) (by decide +kernel) (all_c (ok_aload_n dJ4_append_cf468_0 rfl) (all_c (ok_iload_n dJ4_append_cf468_1 rfl) (all_c (ok_callSup (mJ5_append_3fe6f kn) (good_ws ws_good (fun _ h => h) kw108) (by decide) (by decide) kw111 kw109 kw110 kw96 (by decide) kw57 ⟨by decide +kernel, by decide +kernel, by decide +kernel⟩ rfl dJ4_append_cf468_2) (all_c (ok_stk (s_pop dJ4_append_cf468_5)) (all_c (ok_aload_n dJ4_append_cf468_6 rfl) (all_c (ok_aret (by first | exact Or.inl ⟨_, rfl⟩ | exact Or.inr ⟨_, rfl⟩) dJ4_append_cf468_7) all_n)))))) n (fun h => by first | rfl | cases h))
theorem dJ5_charAt_5068e_0 : decode cJ5_charAt_5068e 0 = .ok (.aload_n 0, 1) := by decide +kernel
theorem dJ5_charAt_5068e_1 : decode cJ5_charAt_5068e 1 = .ok (.getfield 22, 3) := by decide +kernel
theorem dJ5_charAt_5068e_4 : decode cJ5_charAt_5068e 4 = .ok (.istore_n 2, 1) := by decide +kernel
theorem dJ5_charAt_5068e_5 : decode cJ5_charAt_5068e 5 = .ok (.aload_n 0, 1) := by decide +kernel
theorem dJ5_charAt_5068e_6 : decode cJ5_charAt_5068e 6 = .ok (.getfield 15, 3) := by decide +kernel
theorem dJ5_charAt_5068e_9 : decode cJ5_charAt_5068e 9 = .ok (.astore_n 3, 1) := by decide +kernel
theorem dJ5_charAt_5068e_10 : decode cJ5_charAt_5068e 10 = .ok (.aload_n 0, 1) := by decide +kernel
theorem dJ5_charAt_5068e_11 : decode cJ5_charAt_5068e 11 = .ok (.getfield 79, 3) := by decide +kernel
theorem dJ5_charAt_5068e_14 : decode cJ5_charAt_5068e 14 = .ok (.aload_n 3, 1) := by decide +kernel
theorem dJ5_charAt_5068e_15 : decode cJ5_charAt_5068e 15 = .ok (.arraylength, 1) := by decide +kernel
theorem dJ5_charAt_5068e_16 : decode cJ5_charAt_5068e 16 = .ok (.iload_n 2, 1) := by decide +kernel
theorem dJ5_charAt_5068e_17 : decode cJ5_charAt_5068e 17 = .ok (.ishr, 1) := by decide +kernel
theorem dJ5_charAt_5068e_18 : decode cJ5_charAt_5068e 18 = .ok (.invokestatic 138, 3) := by decide +kernel
theorem dJ5_charAt_5068e_21 : decode cJ5_charAt_5068e 21 = .ok (.istore 4, 2) := by decide +kernel
theorem dJ5_charAt_5068e_23 : decode cJ5_charAt_5068e 23 = .ok (.iload_n 1, 1) := by decide +kernel
theorem dJ5_charAt_5068e_24 : decode cJ5_charAt_5068e 24 = .ok (.iload 4, 2) := by decide +kernel
theorem dJ5_charAt_5068e_26 : decode cJ5_charAt_5068e 26 = .ok (.invokestatic 144, 3) := by decide +kernel
theorem dJ5_charAt_5068e_29 : decode cJ5_charAt_5068e 29 = .ok (.iload_n 2, 1) := by decide +kernel
theorem dJ5_charAt_5068e_30 : decode cJ5_charAt_5068e 30 = .ok (.ifCond .ne 12, 3) := by decide +kernel
theorem dJ5_charAt_5068e_33 : decode cJ5_charAt_5068e 33 = .ok (.aload_n 3, 1) := by decide +kernel
theorem dJ5_charAt_5068e_34 : decode cJ5_charAt_5068e 34 = .ok (.iload_n 1, 1) := by decide +kernel
theorem dJ5_charAt_5068e_35 : decode cJ5_charAt_5068e 35 = .ok (.baload, 1) := by decide +kernel
theorem dJ5_charAt_5068e_36 : decode cJ5_charAt_5068e 36 = .ok (.sipush 255, 3) := by decide +kernel
theorem dJ5_charAt_5068e_39 : decode cJ5_charAt_5068e 39 = .ok (.iand, 1) := by decide +kernel
theorem dJ5_charAt_5068e_40 : decode cJ5_charAt_5068e 40 = .ok (.i2c, 1) := by decide +kernel
theorem dJ5_charAt_5068e_41 : decode cJ5_charAt_5068e 41 = .ok (.ireturn, 1) := by decide +kernel
theorem dJ5_charAt_5068e_42 : decode cJ5_charAt_5068e 42 = .ok (.aload_n 3, 1) := by decide +kernel
theorem dJ5_charAt_5068e_43 : decode cJ5_charAt_5068e 43 = .ok (.iload_n 1, 1) := by decide +kernel
theorem dJ5_charAt_5068e_44 : decode cJ5_charAt_5068e 44 = .ok (.invokestatic 148, 3) := by decide +kernel
theorem dJ5_charAt_5068e_47 : decode cJ5_charAt_5068e 47 = .ok (.ireturn, 1) := by decide +kernel
theorem okc0_J2_getChar_3b067 {kn : sKn} {cc : ByteArray} {own : String} {nL : Nat} {D : Nat} {ret : Option FieldType} {ini : Bool} {pc index : Nat} (hD : 0 + 1 ≤ D) (hl : Cond.methodLink own index yJ2_getChar_3b067 ∈ wsL_law) (hd : decode cc pc = .ok (.invokestatic index, 3)) : mOk kn cc own nL wsL_law D ret ini pc (a_callS false f_none 2 (pc + 3)) := ok_callS (m_none (D := 0)) (good_ws ws_good (fun _ h => h) kw114) hD (by decide) hl kw115 kw22 ⟨by decide +kernel, by decide +kernel, by decide +kernel⟩ hd
def tJ5_charAt_5068e (kn : sKn) : List (Nat × sA) := [(0, a_aload 0 1), (1, a_get 0 1 4), (4, a_istore 2 5), (5, a_aload 0 6), (6, a_get 0 0 9), (9, a_astore 3 10), (10, a_aload 0 11), (11, a_get 0 3 14), (14, a_aload 3 15), (15, a_alen 16), (16, a_iload 2 17), (17, a_stk q_ishr 18), (18, a_mmin 21), (21, a_istore 4 23), (23, a_iload 1 24), (24, a_iload 4 26), (26, a_callS true (fJ0_checkIndex_df160 kn) 2 29), (29, a_iload 2 30), (30, a_if kn b_ne 1 42 33), (33, a_aload 3 34), (34, a_iload 1 35), (35, a_bald 36), (36, a_stk (q_int 255) 39), (39, a_stk q_iand 40), (40, a_stk q_i2c 41), (41, a_cret), (42, a_aload 3 43), (43, a_iload 1 44), (44, a_callS false f_none 2 47), (47, a_cret)]
def fJ5_charAt_5068e (kn : sKn) : List Value → sW → Option sR := fW (tJ5_charAt_5068e kn) 5
set_option maxRecDepth 100000 in
set_option maxHeartbeats 4000000 in
theorem mJ5_charAt_5068e (kn : sKn) : mM kn yJ5_charAt_5068e (Cond.code yJ5_charAt_5068e cJ5_charAt_5068e 5 (some .char) :: wsL_law) 3 false (fJ5_charAt_5068e kn) := mM_W (fun n => mM_of (own := RJ5) (ini := false) rfl (by decide +kernel) (by decide +kernel) (all_c (ok_aload_n dJ5_charAt_5068e_0 rfl) (all_c (okg_J4_1 kw46 dJ5_charAt_5068e_1) (all_c (ok_istore_n dJ5_charAt_5068e_4 rfl (by decide)) (all_c (ok_aload_n dJ5_charAt_5068e_5 rfl) (all_c (okg_J4_0 kw45 dJ5_charAt_5068e_6) (all_c (ok_astore_n dJ5_charAt_5068e_9 rfl (by decide)) (all_c (ok_aload_n dJ5_charAt_5068e_10 rfl) (all_c (okg_J4_3 kw86 dJ5_charAt_5068e_11) (all_c (ok_aload_n dJ5_charAt_5068e_14 rfl) (all_c (ok_alen dJ5_charAt_5068e_15) (all_c (ok_iload_n dJ5_charAt_5068e_16 rfl) (all_c (ok_stk (s_ishr dJ5_charAt_5068e_17)) (all_c (ok_mmin (by decide) kw112 kw53 kw38 kw54 dJ5_charAt_5068e_18) (all_c (ok_istore dJ5_charAt_5068e_21 (by decide)) (all_c (ok_iload_n dJ5_charAt_5068e_23 rfl) (all_c (ok_iload dJ5_charAt_5068e_24) (all_c (okc_J0_checkIndex_df160 (by decide) kw113 dJ5_charAt_5068e_26) (all_c (ok_iload_n dJ5_charAt_5068e_29 rfl) (all_c (ok_if_ne dJ5_charAt_5068e_30 (by decide)) (all_c (ok_aload_n dJ5_charAt_5068e_33 rfl) (all_c (ok_iload_n dJ5_charAt_5068e_34 rfl) (all_c (ok_bald dJ5_charAt_5068e_35) (all_c (ok_stk (s_sipush dJ5_charAt_5068e_36 (by decide))) (all_c (ok_stk (s_iand dJ5_charAt_5068e_39)) (all_c (ok_stk (s_i2c dJ5_charAt_5068e_40)) (all_c (ok_cret dJ5_charAt_5068e_41) (all_c (ok_aload_n dJ5_charAt_5068e_42 rfl) (all_c (ok_iload_n dJ5_charAt_5068e_43 rfl) (all_c (okc0_J2_getChar_3b067 (by decide) kw116 dJ5_charAt_5068e_44) (all_c (ok_cret dJ5_charAt_5068e_47) all_n)))))))))))))))))))))))))))))) n (fun h => by first | rfl | cases h))
theorem dJ4_charAt_5068e_0 : decode cJ4_charAt_5068e 0 = .ok (.aload_n 0, 1) := by decide +kernel
theorem dJ4_charAt_5068e_1 : decode cJ4_charAt_5068e 1 = .ok (.iload_n 1, 1) := by decide +kernel
theorem dJ4_charAt_5068e_2 : decode cJ4_charAt_5068e 2 = .ok (.invokespecial 329, 3) := by decide +kernel
theorem dJ4_charAt_5068e_5 : decode cJ4_charAt_5068e 5 = .ok (.ireturn, 1) := by decide +kernel
def tJ4_charAt_5068e (kn : sKn) : List (Nat × sA) := [(0, a_aload 0 1), (1, a_iload 1 2), (2, a_callV false (fJ5_charAt_5068e kn) 0 2 5), (5, a_cret)]
def fJ4_charAt_5068e (kn : sKn) : List Value → sW → Option sR := fW (tJ4_charAt_5068e kn) 2
set_option maxRecDepth 100000 in
set_option maxHeartbeats 4000000 in
theorem mJ4_charAt_5068e (kn : sKn) : mM kn yJ4_charAt_5068e (Cond.code yJ4_charAt_5068e cJ4_charAt_5068e 2 (some .char) :: wsL_law) 4 false (fJ4_charAt_5068e kn) := mM_W (fun n => mM_of (own := RJ4) (ini := false) rfl (by decide +kernel) (by decide +kernel) (all_c (ok_aload_n dJ4_charAt_5068e_0 rfl) (all_c (ok_iload_n dJ4_charAt_5068e_1 rfl) (all_c (ok_callSup (mJ5_charAt_5068e kn) (good_ws ws_good (fun _ h => h) kw117) (by decide) (by decide) kw120 kw118 kw119 kw96 (by decide) kw57 ⟨by decide +kernel, by decide +kernel, by decide +kernel⟩ rfl dJ4_charAt_5068e_2) (all_c (ok_cret dJ4_charAt_5068e_5) all_n)))) n (fun h => by first | rfl | cases h))
theorem dJ5_init_d00df_0 : decode cJ5_init_d00df 0 = .ok (.aload_n 0, 1) := by decide +kernel
theorem dJ5_init_d00df_1 : decode cJ5_init_d00df 1 = .ok (.invokespecial 3, 3) := by decide +kernel
theorem dJ5_init_d00df_4 : decode cJ5_init_d00df 4 = .ok (.getstatic 18, 3) := by decide +kernel
theorem dJ5_init_d00df_7 : decode cJ5_init_d00df 7 = .ok (.ifCond .eq 18, 3) := by decide +kernel
theorem dJ5_init_d00df_10 : decode cJ5_init_d00df 10 = .ok (.aload_n 0, 1) := by decide +kernel
theorem dJ5_init_d00df_11 : decode cJ5_init_d00df 11 = .ok (.iload_n 1, 1) := by decide +kernel
theorem dJ5_init_d00df_12 : decode cJ5_init_d00df 12 = .ok (.newarray .byte, 2) := by decide +kernel
theorem dJ5_init_d00df_14 : decode cJ5_init_d00df 14 = .ok (.putfield 15, 3) := by decide +kernel
theorem dJ5_init_d00df_17 : decode cJ5_init_d00df 17 = .ok (.aload_n 0, 1) := by decide +kernel
theorem dJ5_init_d00df_18 : decode cJ5_init_d00df 18 = .ok (.iconst 0, 1) := by decide +kernel
theorem dJ5_init_d00df_19 : decode cJ5_init_d00df 19 = .ok (.putfield 22, 3) := by decide +kernel
theorem dJ5_init_d00df_22 : decode cJ5_init_d00df 22 = .ok (.goto 16, 3) := by decide +kernel
theorem dJ5_init_d00df_25 : decode cJ5_init_d00df 25 = .ok (.aload_n 0, 1) := by decide +kernel
theorem dJ5_init_d00df_26 : decode cJ5_init_d00df 26 = .ok (.iload_n 1, 1) := by decide +kernel
theorem dJ5_init_d00df_27 : decode cJ5_init_d00df 27 = .ok (.invokestatic 26, 3) := by decide +kernel
theorem dJ5_init_d00df_30 : decode cJ5_init_d00df 30 = .ok (.putfield 15, 3) := by decide +kernel
theorem dJ5_init_d00df_33 : decode cJ5_init_d00df 33 = .ok (.aload_n 0, 1) := by decide +kernel
theorem dJ5_init_d00df_34 : decode cJ5_init_d00df 34 = .ok (.iconst 1, 1) := by decide +kernel
theorem dJ5_init_d00df_35 : decode cJ5_init_d00df 35 = .ok (.putfield 22, 3) := by decide +kernel
theorem dJ5_init_d00df_38 : decode cJ5_init_d00df 38 = .ok (.return_, 1) := by decide +kernel
theorem okc0_J2_newBytesFor_77867 {kn : sKn} {cc : ByteArray} {own : String} {nL : Nat} {D : Nat} {ret : Option FieldType} {ini : Bool} {pc index : Nat} (hD : 0 + 1 ≤ D) (hl : Cond.methodLink own index yJ2_newBytesFor_77867 ∈ wsL_law) (hd : decode cc pc = .ok (.invokestatic index, 3)) : mOk kn cc own nL wsL_law D ret ini pc (a_callS false f_none 1 (pc + 3)) := ok_callS (m_none (D := 0)) (good_ws ws_good (fun _ h => h) kw124) hD (by decide) hl kw125 kw22 ⟨by decide +kernel, by decide +kernel, by decide +kernel⟩ hd
def tJ5_init_d00df (kn : sKn) : List (Nat × sA) := [(0, a_aload 0 1), (1, a_obj 4), (4, a_getsI 1 7), (7, a_if kn b_eq 0 25 10), (10, a_aload 0 11), (11, a_iload 1 12), (12, a_newa 0 14), (14, a_put 0 0 ckR 17), (17, a_aload 0 18), (18, a_stk (q_int 0) 19), (19, a_put 0 1 ckB 22), (22, a_goto 38), (25, a_aload 0 26), (26, a_iload 1 27), (27, a_callS false f_none 1 30), (30, a_put 0 0 ckR 33), (33, a_aload 0 34), (34, a_stk (q_int 1) 35), (35, a_put 0 1 ckB 38), (38, a_vret)]
def fJ5_init_d00df (kn : sKn) : List Value → sW → Option sR := fW (tJ5_init_d00df kn) 2
set_option maxRecDepth 100000 in
set_option maxHeartbeats 4000000 in
theorem mJ5_init_d00df (kn : sKn) : mM kn yJ5_init_d00df (Cond.code yJ5_init_d00df cJ5_init_d00df 2 none :: wsL_law) 1 true (fJ5_init_d00df kn) := mM_W (fun n => mM_of (own := RJ5) (ini := true) rfl (by decide +kernel) (by decide +kernel) (all_c (ok_aload_n dJ5_init_d00df_0 rfl) (all_c (ok_obj (by decide) kw121 kw122 kw123 dJ5_init_d00df_1) (all_c (ok_compact kw65 dJ5_init_d00df_4) (all_c (ok_if_eq dJ5_init_d00df_7 (by decide)) (all_c (ok_aload_n dJ5_init_d00df_10 rfl) (all_c (ok_iload_n dJ5_init_d00df_11 rfl) (all_c (ok_newB kw51 dJ5_init_d00df_12) (all_c (okp_J4_0 kw45 dJ5_init_d00df_14) (all_c (ok_aload_n dJ5_init_d00df_17 rfl) (all_c (ok_stk (s_iconst dJ5_init_d00df_18 (by decide))) (all_c (okp_J4_1 kw46 dJ5_init_d00df_19) (all_c (ok_goto dJ5_init_d00df_22 (by decide)) (all_c (ok_aload_n dJ5_init_d00df_25 rfl) (all_c (ok_iload_n dJ5_init_d00df_26 rfl) (all_c (okc0_J2_newBytesFor_77867 (by decide) kw126 dJ5_init_d00df_27) (all_c (okp_J4_0 kw45 dJ5_init_d00df_30) (all_c (ok_aload_n dJ5_init_d00df_33 rfl) (all_c (ok_stk (s_iconst dJ5_init_d00df_34 (by decide))) (all_c (okp_J4_1 kw46 dJ5_init_d00df_35) (all_c (ok_vret dJ5_init_d00df_38) all_n)))))))))))))))))))) n (fun h => by first | rfl | cases h))
theorem dJ4_init_da8c8_0 : decode cJ4_init_da8c8 0 = .ok (.aload_n 0, 1) := by decide +kernel
theorem dJ4_init_da8c8_1 : decode cJ4_init_da8c8 1 = .ok (.bipush 16, 2) := by decide +kernel
theorem dJ4_init_da8c8_3 : decode cJ4_init_da8c8 3 = .ok (.invokespecial 1, 3) := by decide +kernel
theorem dJ4_init_da8c8_6 : decode cJ4_init_da8c8 6 = .ok (.return_, 1) := by decide +kernel
theorem okc_J5_init_d00df {kn : sKn} {cc : ByteArray} {own : String} {nL : Nat} {D : Nat} {ret : Option FieldType} {ini : Bool} {pc index : Nat} (hD : 1 + 1 ≤ D) (hl : Cond.methodLink own index yJ5_init_d00df ∈ wsL_law) (hd : decode cc pc = .ok (.invokespecial index, 3)) : mOk kn cc own nL wsL_law D ret ini pc (a_callI true (fJ5_init_d00df kn) (1 + 1) (pc + 3)) := ok_callI (mJ5_init_d00df kn) (good_ws ws_good (fun _ h => h) kw127) hD (by decide) hl kw128 rfl kw57 ⟨by decide +kernel, by decide +kernel, by decide +kernel⟩ hd
def tJ4_init_da8c8 (kn : sKn) : List (Nat × sA) := [(0, a_aload 0 1), (1, a_stk (q_int 16) 3), (3, a_callI true (fJ5_init_d00df kn) 2 6), (6, a_vret)]
def fJ4_init_da8c8 (kn : sKn) : List Value → sW → Option sR := fW (tJ4_init_da8c8 kn) 1
set_option maxRecDepth 100000 in
set_option maxHeartbeats 4000000 in
theorem mJ4_init_da8c8 (kn : sKn) : mM kn yJ4_init_da8c8 (Cond.code yJ4_init_da8c8 cJ4_init_da8c8 1 none :: wsL_law) 2 true (fJ4_init_da8c8 kn) := mM_W (fun n => mM_of (own := RJ4) (ini := true) rfl (by decide +kernel) (by decide +kernel) (all_c (ok_aload_n dJ4_init_da8c8_0 rfl) (all_c (ok_stk (s_bipush dJ4_init_da8c8_1 (by decide))) (all_c (okc_J5_init_d00df (by decide) kw129 dJ4_init_da8c8_3) (all_c (ok_vret dJ4_init_da8c8_6) all_n)))) n (fun h => by first | rfl | cases h))
theorem dJ5_length_8abf5_0 : decode cJ5_length_8abf5 0 = .ok (.aload_n 0, 1) := by decide +kernel
theorem dJ5_length_8abf5_1 : decode cJ5_length_8abf5 1 = .ok (.getfield 79, 3) := by decide +kernel
theorem dJ5_length_8abf5_4 : decode cJ5_length_8abf5 4 = .ok (.ireturn, 1) := by decide +kernel
def tJ5_length_8abf5 (kn : sKn) : List (Nat × sA) := [(0, a_aload 0 1), (1, a_get 0 3 4), (4, a_iret)]
def fJ5_length_8abf5 (kn : sKn) : List Value → sW → Option sR := fW (tJ5_length_8abf5 kn) 1
set_option maxRecDepth 100000 in
set_option maxHeartbeats 4000000 in
theorem mJ5_length_8abf5 (kn : sKn) : mM kn yJ5_length_8abf5 (Cond.code yJ5_length_8abf5 cJ5_length_8abf5 1 (some .int) :: wsL_law) 1 false (fJ5_length_8abf5 kn) := mM_W (fun n => mM_of (own := RJ5) (ini := false) rfl (by decide +kernel) (by decide +kernel) (all_c (ok_aload_n dJ5_length_8abf5_0 rfl) (all_c (okg_J4_3 kw86 dJ5_length_8abf5_1) (all_c (ok_iret dJ5_length_8abf5_4) all_n))) n (fun h => by first | rfl | cases h))
theorem dJ4_length_8abf5_0 : decode cJ4_length_8abf5 0 = .ok (.aload_n 0, 1) := by decide +kernel
theorem dJ4_length_8abf5_1 : decode cJ4_length_8abf5 1 = .ok (.invokespecial 343, 3) := by decide +kernel
theorem dJ4_length_8abf5_4 : decode cJ4_length_8abf5 4 = .ok (.ireturn, 1) := by decide +kernel
def tJ4_length_8abf5 (kn : sKn) : List (Nat × sA) := [(0, a_aload 0 1), (1, a_callV false (fJ5_length_8abf5 kn) 0 1 4), (4, a_iret)]
def fJ4_length_8abf5 (kn : sKn) : List Value → sW → Option sR := fW (tJ4_length_8abf5 kn) 1
set_option maxRecDepth 100000 in
set_option maxHeartbeats 4000000 in
theorem mJ4_length_8abf5 (kn : sKn) : mM kn yJ4_length_8abf5 (Cond.code yJ4_length_8abf5 cJ4_length_8abf5 1 (some .int) :: wsL_law) 2 false (fJ4_length_8abf5 kn) := mM_W (fun n => mM_of (own := RJ4) (ini := false) rfl (by decide +kernel) (by decide +kernel) (all_c (ok_aload_n dJ4_length_8abf5_0 rfl) (all_c (ok_callSup (mJ5_length_8abf5 kn) (good_ws ws_good (fun _ h => h) kw130) (by decide) (by decide) kw133 kw131 kw132 kw96 (by decide) kw57 ⟨by decide +kernel, by decide +kernel, by decide +kernel⟩ rfl dJ4_length_8abf5_1) (all_c (ok_iret dJ4_length_8abf5_4) all_n))) n (fun h => by first | rfl | cases h))
theorem dJ5_setLength_d00df_0 : decode cJ5_setLength_d00df 0 = .ok (.iload_n 1, 1) := by decide +kernel
theorem dJ5_setLength_d00df_1 : decode cJ5_setLength_d00df 1 = .ok (.ifCond .ge 12, 3) := by decide +kernel
theorem dJ5_setLength_d00df_4 : decode cJ5_setLength_d00df 4 = .ok (.new 129, 3) := by decide +kernel
theorem dJ5_setLength_d00df_7 : decode cJ5_setLength_d00df 7 = .ok (.dup, 1) := by decide +kernel
theorem dJ5_setLength_d00df_8 : decode cJ5_setLength_d00df 8 = .ok (.iload_n 1, 1) := by decide +kernel
theorem dJ5_setLength_d00df_9 : decode cJ5_setLength_d00df 9 = .ok (.invokespecial 131, 3) := by decide +kernel
theorem dJ5_setLength_d00df_12 : decode cJ5_setLength_d00df 12 = .ok (.athrow, 1) := by decide +kernel
theorem dJ5_setLength_d00df_13 : decode cJ5_setLength_d00df 13 = .ok (.aload_n 0, 1) := by decide +kernel
theorem dJ5_setLength_d00df_14 : decode cJ5_setLength_d00df 14 = .ok (.iload_n 1, 1) := by decide +kernel
theorem dJ5_setLength_d00df_15 : decode cJ5_setLength_d00df 15 = .ok (.invokevirtual 100, 3) := by decide +kernel
theorem dJ5_setLength_d00df_18 : decode cJ5_setLength_d00df 18 = .ok (.aload_n 0, 1) := by decide +kernel
theorem dJ5_setLength_d00df_19 : decode cJ5_setLength_d00df 19 = .ok (.getfield 79, 3) := by decide +kernel
theorem dJ5_setLength_d00df_22 : decode cJ5_setLength_d00df 22 = .ok (.iload_n 1, 1) := by decide +kernel
theorem dJ5_setLength_d00df_23 : decode cJ5_setLength_d00df 23 = .ok (.if_icmp .ge 40, 3) := by decide +kernel
theorem dJ5_setLength_d00df_26 : decode cJ5_setLength_d00df 26 = .ok (.aload_n 0, 1) := by decide +kernel
theorem dJ5_setLength_d00df_27 : decode cJ5_setLength_d00df 27 = .ok (.invokevirtual 83, 3) := by decide +kernel
theorem dJ5_setLength_d00df_30 : decode cJ5_setLength_d00df 30 = .ok (.ifCond .eq 18, 3) := by decide +kernel
theorem dJ5_setLength_d00df_33 : decode cJ5_setLength_d00df 33 = .ok (.aload_n 0, 1) := by decide +kernel
theorem dJ5_setLength_d00df_34 : decode cJ5_setLength_d00df 34 = .ok (.getfield 15, 3) := by decide +kernel
theorem dJ5_setLength_d00df_37 : decode cJ5_setLength_d00df 37 = .ok (.aload_n 0, 1) := by decide +kernel
theorem dJ5_setLength_d00df_38 : decode cJ5_setLength_d00df 38 = .ok (.getfield 79, 3) := by decide +kernel
theorem dJ5_setLength_d00df_41 : decode cJ5_setLength_d00df 41 = .ok (.iload_n 1, 1) := by decide +kernel
theorem dJ5_setLength_d00df_42 : decode cJ5_setLength_d00df 42 = .ok (.invokestatic 133, 3) := by decide +kernel
theorem dJ5_setLength_d00df_45 : decode cJ5_setLength_d00df 45 = .ok (.goto 31, 3) := by decide +kernel
theorem dJ5_setLength_d00df_48 : decode cJ5_setLength_d00df 48 = .ok (.aload_n 0, 1) := by decide +kernel
theorem dJ5_setLength_d00df_49 : decode cJ5_setLength_d00df 49 = .ok (.getfield 15, 3) := by decide +kernel
theorem dJ5_setLength_d00df_52 : decode cJ5_setLength_d00df 52 = .ok (.aload_n 0, 1) := by decide +kernel
theorem dJ5_setLength_d00df_53 : decode cJ5_setLength_d00df 53 = .ok (.getfield 79, 3) := by decide +kernel
theorem dJ5_setLength_d00df_56 : decode cJ5_setLength_d00df 56 = .ok (.iload_n 1, 1) := by decide +kernel
theorem dJ5_setLength_d00df_57 : decode cJ5_setLength_d00df 57 = .ok (.invokestatic 137, 3) := by decide +kernel
theorem dJ5_setLength_d00df_60 : decode cJ5_setLength_d00df 60 = .ok (.goto 16, 3) := by decide +kernel
theorem dJ5_setLength_d00df_63 : decode cJ5_setLength_d00df 63 = .ok (.aload_n 0, 1) := by decide +kernel
theorem dJ5_setLength_d00df_64 : decode cJ5_setLength_d00df 64 = .ok (.getfield 79, 3) := by decide +kernel
theorem dJ5_setLength_d00df_67 : decode cJ5_setLength_d00df 67 = .ok (.iload_n 1, 1) := by decide +kernel
theorem dJ5_setLength_d00df_68 : decode cJ5_setLength_d00df 68 = .ok (.if_icmp .le 8, 3) := by decide +kernel
theorem dJ5_setLength_d00df_71 : decode cJ5_setLength_d00df 71 = .ok (.aload_n 0, 1) := by decide +kernel
theorem dJ5_setLength_d00df_72 : decode cJ5_setLength_d00df 72 = .ok (.iconst 1, 1) := by decide +kernel
theorem dJ5_setLength_d00df_73 : decode cJ5_setLength_d00df 73 = .ok (.putfield 73, 3) := by decide +kernel
theorem dJ5_setLength_d00df_76 : decode cJ5_setLength_d00df 76 = .ok (.aload_n 0, 1) := by decide +kernel
theorem dJ5_setLength_d00df_77 : decode cJ5_setLength_d00df 77 = .ok (.iload_n 1, 1) := by decide +kernel
theorem dJ5_setLength_d00df_78 : decode cJ5_setLength_d00df 78 = .ok (.putfield 79, 3) := by decide +kernel
theorem dJ5_setLength_d00df_81 : decode cJ5_setLength_d00df 81 = .ok (.return_, 1) := by decide +kernel
theorem okc0_J1_fillNull_b72d1 {kn : sKn} {cc : ByteArray} {own : String} {nL : Nat} {D : Nat} {ret : Option FieldType} {ini : Bool} {pc index : Nat} (hD : 0 + 1 ≤ D) (hl : Cond.methodLink own index yJ1_fillNull_b72d1 ∈ wsL_law) (hd : decode cc pc = .ok (.invokestatic index, 3)) : mOk kn cc own nL wsL_law D ret ini pc (a_callS true f_none 3 (pc + 3)) := ok_callS (m_none (D := 0)) (good_ws ws_good (fun _ h => h) kw134) hD (by decide) hl kw135 kw18 ⟨by decide +kernel, by decide +kernel, by decide +kernel⟩ hd
theorem okc0_J2_fillNull_b72d1 {kn : sKn} {cc : ByteArray} {own : String} {nL : Nat} {D : Nat} {ret : Option FieldType} {ini : Bool} {pc index : Nat} (hD : 0 + 1 ≤ D) (hl : Cond.methodLink own index yJ2_fillNull_b72d1 ∈ wsL_law) (hd : decode cc pc = .ok (.invokestatic index, 3)) : mOk kn cc own nL wsL_law D ret ini pc (a_callS true f_none 3 (pc + 3)) := ok_callS (m_none (D := 0)) (good_ws ws_good (fun _ h => h) kw137) hD (by decide) hl kw138 kw22 ⟨by decide +kernel, by decide +kernel, by decide +kernel⟩ hd
def tJ5_setLength_d00df (kn : sKn) : List (Nat × sA) := [(0, a_iload 1 1), (1, a_if kn b_ge 3 13 4), (4, a_none), (7, a_stk q_dup 8), (8, a_iload 1 9), (9, a_none), (12, a_none), (13, a_aload 0 14), (14, a_iload 1 15), (15, a_callV true (fJ5_ensureCapacityInternal_d00df kn) 0 2 18), (18, a_aload 0 19), (19, a_get 0 3 22), (22, a_iload 1 23), (23, a_icmp kn b_ge 3 63 26), (26, a_aload 0 27), (27, a_callV false (fJ5_isLatin1_aae02 kn) 0 1 30), (30, a_if kn b_eq 0 48 33), (33, a_aload 0 34), (34, a_get 0 0 37), (37, a_aload 0 38), (38, a_get 0 3 41), (41, a_iload 1 42), (42, a_callS true f_none 3 45), (45, a_goto 76), (48, a_aload 0 49), (49, a_get 0 0 52), (52, a_aload 0 53), (53, a_get 0 3 56), (56, a_iload 1 57), (57, a_callS true f_none 3 60), (60, a_goto 76), (63, a_aload 0 64), (64, a_get 0 3 67), (67, a_iload 1 68), (68, a_icmp kn b_le 5 76 71), (71, a_aload 0 72), (72, a_stk (q_int 1) 73), (73, a_put 0 2 ckZ 76), (76, a_aload 0 77), (77, a_iload 1 78), (78, a_put 0 3 ckI 81), (81, a_vret)]
def fJ5_setLength_d00df (kn : sKn) : List Value → sW → Option sR := fW (tJ5_setLength_d00df kn) 2
set_option maxRecDepth 100000 in
set_option maxHeartbeats 4000000 in
theorem mJ5_setLength_d00df (kn : sKn) : mM kn yJ5_setLength_d00df (Cond.code yJ5_setLength_d00df cJ5_setLength_d00df 2 none :: wsL_law) 4 true (fJ5_setLength_d00df kn) := mM_W (fun n => mM_of (own := RJ5) (ini := false) rfl (by decide +kernel) (by decide +kernel) (all_c (ok_iload_n dJ5_setLength_d00df_0 rfl) (all_c (ok_if_ge dJ5_setLength_d00df_1 (by decide)) (all_c (ok_none) (all_c (ok_stk (s_dup dJ5_setLength_d00df_7)) (all_c (ok_iload_n dJ5_setLength_d00df_8 rfl) (all_c (ok_none) (all_c (ok_none) (all_c (ok_aload_n dJ5_setLength_d00df_13 rfl) (all_c (ok_iload_n dJ5_setLength_d00df_14 rfl) (all_c (ok_callVP (mJ5_ensureCapacityInternal_d00df kn) (good_ws ws_good (fun _ h => h) kw87) (by decide) (by decide) kw89 kw88 (by decide +kernel) kw57 ⟨by decide +kernel, by decide +kernel, by decide +kernel⟩ rfl dJ5_setLength_d00df_15) (all_c (ok_aload_n dJ5_setLength_d00df_18 rfl) (all_c (okg_J4_3 kw86 dJ5_setLength_d00df_19) (all_c (ok_iload_n dJ5_setLength_d00df_22 rfl) (all_c (ok_icmp_ge dJ5_setLength_d00df_23 (by decide)) (all_c (ok_aload_n dJ5_setLength_d00df_26 rfl) (all_c (ok_callV (mJ5_isLatin1_aae02 kn) (good_ws ws_good (fun _ h => h) kw98) (by decide) (by decide) kw101 kw99 kw100 kw57 ⟨by decide +kernel, by decide +kernel, by decide +kernel⟩ rfl dJ5_setLength_d00df_27) (all_c (ok_if_eq dJ5_setLength_d00df_30 (by decide)) (all_c (ok_aload_n dJ5_setLength_d00df_33 rfl) (all_c (okg_J4_0 kw45 dJ5_setLength_d00df_34) (all_c (ok_aload_n dJ5_setLength_d00df_37 rfl) (all_c (okg_J4_3 kw86 dJ5_setLength_d00df_38) (all_c (ok_iload_n dJ5_setLength_d00df_41 rfl) (all_c (okc0_J1_fillNull_b72d1 (by decide) kw136 dJ5_setLength_d00df_42) (all_c (ok_goto dJ5_setLength_d00df_45 (by decide)) (all_c (ok_aload_n dJ5_setLength_d00df_48 rfl) (all_c (okg_J4_0 kw45 dJ5_setLength_d00df_49) (all_c (ok_aload_n dJ5_setLength_d00df_52 rfl) (all_c (okg_J4_3 kw86 dJ5_setLength_d00df_53) (all_c (ok_iload_n dJ5_setLength_d00df_56 rfl) (all_c (okc0_J2_fillNull_b72d1 (by decide) kw139 dJ5_setLength_d00df_57) (all_c (ok_goto dJ5_setLength_d00df_60 (by decide)) (all_c (ok_aload_n dJ5_setLength_d00df_63 rfl) (all_c (okg_J4_3 kw86 dJ5_setLength_d00df_64) (all_c (ok_iload_n dJ5_setLength_d00df_67 rfl) (all_c (ok_icmp_le dJ5_setLength_d00df_68 (by decide)) (all_c (ok_aload_n dJ5_setLength_d00df_71 rfl) (all_c (ok_stk (s_iconst dJ5_setLength_d00df_72 (by decide))) (all_c (okp_J4_2 kw140 dJ5_setLength_d00df_73) (all_c (ok_aload_n dJ5_setLength_d00df_76 rfl) (all_c (ok_iload_n dJ5_setLength_d00df_77 rfl) (all_c (okp_J4_3 kw86 dJ5_setLength_d00df_78) (all_c (ok_vret dJ5_setLength_d00df_81) all_n)))))))))))))))))))))))))))))))))))))))))) n (fun h => by first | rfl | cases h))
theorem dJ4_setLength_d00df_0 : decode cJ4_setLength_d00df 0 = .ok (.aload_n 0, 1) := by decide +kernel
theorem dJ4_setLength_d00df_1 : decode cJ4_setLength_d00df 1 = .ok (.iload_n 1, 1) := by decide +kernel
theorem dJ4_setLength_d00df_2 : decode cJ4_setLength_d00df 2 = .ok (.invokespecial 333, 3) := by decide +kernel
theorem dJ4_setLength_d00df_5 : decode cJ4_setLength_d00df 5 = .ok (.return_, 1) := by decide +kernel
def tJ4_setLength_d00df (kn : sKn) : List (Nat × sA) := [(0, a_aload 0 1), (1, a_iload 1 2), (2, a_callV true (fJ5_setLength_d00df kn) 0 2 5), (5, a_vret)]
def fJ4_setLength_d00df (kn : sKn) : List Value → sW → Option sR := fW (tJ4_setLength_d00df kn) 2
set_option maxRecDepth 100000 in
set_option maxHeartbeats 4000000 in
theorem mJ4_setLength_d00df (kn : sKn) : mM kn yJ4_setLength_d00df (Cond.code yJ4_setLength_d00df cJ4_setLength_d00df 2 none :: wsL_law) 5 true (fJ4_setLength_d00df kn) := mM_W (fun n => mM_of (own := RJ4) (ini := false) rfl (by decide +kernel) (by decide +kernel) (all_c (ok_aload_n dJ4_setLength_d00df_0 rfl) (all_c (ok_iload_n dJ4_setLength_d00df_1 rfl) (all_c (ok_callSup (mJ5_setLength_d00df kn) (good_ws ws_good (fun _ h => h) kw141) (by decide) (by decide) kw144 kw142 kw143 kw96 (by decide) kw57 ⟨by decide +kernel, by decide +kernel, by decide +kernel⟩ rfl dJ4_setLength_d00df_2) (all_c (ok_vret dJ4_setLength_d00df_5) all_n)))) n (fun h => by first | rfl | cases h))
theorem dJ6_bitCount_0f7a4_0 : decode cJ6_bitCount_0f7a4 0 = .ok (.iload_n 0, 1) := by decide +kernel
theorem dJ6_bitCount_0f7a4_1 : decode cJ6_bitCount_0f7a4 1 = .ok (.iload_n 0, 1) := by decide +kernel
theorem dJ6_bitCount_0f7a4_2 : decode cJ6_bitCount_0f7a4 2 = .ok (.iconst 1, 1) := by decide +kernel
theorem dJ6_bitCount_0f7a4_3 : decode cJ6_bitCount_0f7a4 3 = .ok (.iushr, 1) := by decide +kernel
theorem dJ6_bitCount_0f7a4_4 : decode cJ6_bitCount_0f7a4 4 = .ok (.ldc_w 265, 3) := by decide +kernel
theorem dJ6_bitCount_0f7a4_7 : decode cJ6_bitCount_0f7a4 7 = .ok (.iand, 1) := by decide +kernel
theorem dJ6_bitCount_0f7a4_8 : decode cJ6_bitCount_0f7a4 8 = .ok (.isub, 1) := by decide +kernel
theorem dJ6_bitCount_0f7a4_9 : decode cJ6_bitCount_0f7a4 9 = .ok (.istore_n 0, 1) := by decide +kernel
theorem dJ6_bitCount_0f7a4_10 : decode cJ6_bitCount_0f7a4 10 = .ok (.iload_n 0, 1) := by decide +kernel
theorem dJ6_bitCount_0f7a4_11 : decode cJ6_bitCount_0f7a4 11 = .ok (.ldc_w 266, 3) := by decide +kernel
theorem dJ6_bitCount_0f7a4_14 : decode cJ6_bitCount_0f7a4 14 = .ok (.iand, 1) := by decide +kernel
theorem dJ6_bitCount_0f7a4_15 : decode cJ6_bitCount_0f7a4 15 = .ok (.iload_n 0, 1) := by decide +kernel
theorem dJ6_bitCount_0f7a4_16 : decode cJ6_bitCount_0f7a4 16 = .ok (.iconst 2, 1) := by decide +kernel
theorem dJ6_bitCount_0f7a4_17 : decode cJ6_bitCount_0f7a4 17 = .ok (.iushr, 1) := by decide +kernel
theorem dJ6_bitCount_0f7a4_18 : decode cJ6_bitCount_0f7a4 18 = .ok (.ldc_w 266, 3) := by decide +kernel
theorem dJ6_bitCount_0f7a4_21 : decode cJ6_bitCount_0f7a4 21 = .ok (.iand, 1) := by decide +kernel
theorem dJ6_bitCount_0f7a4_22 : decode cJ6_bitCount_0f7a4 22 = .ok (.iadd, 1) := by decide +kernel
theorem dJ6_bitCount_0f7a4_23 : decode cJ6_bitCount_0f7a4 23 = .ok (.istore_n 0, 1) := by decide +kernel
theorem dJ6_bitCount_0f7a4_24 : decode cJ6_bitCount_0f7a4 24 = .ok (.iload_n 0, 1) := by decide +kernel
theorem dJ6_bitCount_0f7a4_25 : decode cJ6_bitCount_0f7a4 25 = .ok (.iload_n 0, 1) := by decide +kernel
theorem dJ6_bitCount_0f7a4_26 : decode cJ6_bitCount_0f7a4 26 = .ok (.iconst 4, 1) := by decide +kernel
theorem dJ6_bitCount_0f7a4_27 : decode cJ6_bitCount_0f7a4 27 = .ok (.iushr, 1) := by decide +kernel
theorem dJ6_bitCount_0f7a4_28 : decode cJ6_bitCount_0f7a4 28 = .ok (.iadd, 1) := by decide +kernel
theorem dJ6_bitCount_0f7a4_29 : decode cJ6_bitCount_0f7a4 29 = .ok (.ldc_w 267, 3) := by decide +kernel
theorem dJ6_bitCount_0f7a4_32 : decode cJ6_bitCount_0f7a4 32 = .ok (.iand, 1) := by decide +kernel
theorem dJ6_bitCount_0f7a4_33 : decode cJ6_bitCount_0f7a4 33 = .ok (.istore_n 0, 1) := by decide +kernel
theorem dJ6_bitCount_0f7a4_34 : decode cJ6_bitCount_0f7a4 34 = .ok (.iload_n 0, 1) := by decide +kernel
theorem dJ6_bitCount_0f7a4_35 : decode cJ6_bitCount_0f7a4 35 = .ok (.iload_n 0, 1) := by decide +kernel
theorem dJ6_bitCount_0f7a4_36 : decode cJ6_bitCount_0f7a4 36 = .ok (.bipush 8, 2) := by decide +kernel
theorem dJ6_bitCount_0f7a4_38 : decode cJ6_bitCount_0f7a4 38 = .ok (.iushr, 1) := by decide +kernel
theorem dJ6_bitCount_0f7a4_39 : decode cJ6_bitCount_0f7a4 39 = .ok (.iadd, 1) := by decide +kernel
theorem dJ6_bitCount_0f7a4_40 : decode cJ6_bitCount_0f7a4 40 = .ok (.istore_n 0, 1) := by decide +kernel
theorem dJ6_bitCount_0f7a4_41 : decode cJ6_bitCount_0f7a4 41 = .ok (.iload_n 0, 1) := by decide +kernel
theorem dJ6_bitCount_0f7a4_42 : decode cJ6_bitCount_0f7a4 42 = .ok (.iload_n 0, 1) := by decide +kernel
theorem dJ6_bitCount_0f7a4_43 : decode cJ6_bitCount_0f7a4 43 = .ok (.bipush 16, 2) := by decide +kernel
theorem dJ6_bitCount_0f7a4_45 : decode cJ6_bitCount_0f7a4 45 = .ok (.iushr, 1) := by decide +kernel
theorem dJ6_bitCount_0f7a4_46 : decode cJ6_bitCount_0f7a4 46 = .ok (.iadd, 1) := by decide +kernel
theorem dJ6_bitCount_0f7a4_47 : decode cJ6_bitCount_0f7a4 47 = .ok (.istore_n 0, 1) := by decide +kernel
theorem dJ6_bitCount_0f7a4_48 : decode cJ6_bitCount_0f7a4 48 = .ok (.iload_n 0, 1) := by decide +kernel
theorem dJ6_bitCount_0f7a4_49 : decode cJ6_bitCount_0f7a4 49 = .ok (.bipush 63, 2) := by decide +kernel
theorem dJ6_bitCount_0f7a4_51 : decode cJ6_bitCount_0f7a4 51 = .ok (.iand, 1) := by decide +kernel
theorem dJ6_bitCount_0f7a4_52 : decode cJ6_bitCount_0f7a4 52 = .ok (.ireturn, 1) := by decide +kernel
def tJ6_bitCount_0f7a4 (kn : sKn) : List (Nat × sA) := [(0, a_iload 0 1), (1, a_iload 0 2), (2, a_stk (q_int 1) 3), (3, a_stk q_iushr 4), (4, a_stk (q_int (1431655765)) 7), (7, a_stk q_iand 8), (8, a_stk q_isub 9), (9, a_istore 0 10), (10, a_iload 0 11), (11, a_stk (q_int (858993459)) 14), (14, a_stk q_iand 15), (15, a_iload 0 16), (16, a_stk (q_int 2) 17), (17, a_stk q_iushr 18), (18, a_stk (q_int (858993459)) 21), (21, a_stk q_iand 22), (22, a_stk q_iadd 23), (23, a_istore 0 24), (24, a_iload 0 25), (25, a_iload 0 26), (26, a_stk (q_int 4) 27), (27, a_stk q_iushr 28), (28, a_stk q_iadd 29), (29, a_stk (q_int (252645135)) 32), (32, a_stk q_iand 33), (33, a_istore 0 34), (34, a_iload 0 35), (35, a_iload 0 36), (36, a_stk (q_int 8) 38), (38, a_stk q_iushr 39), (39, a_stk q_iadd 40), (40, a_istore 0 41), (41, a_iload 0 42), (42, a_iload 0 43), (43, a_stk (q_int 16) 45), (45, a_stk q_iushr 46), (46, a_stk q_iadd 47), (47, a_istore 0 48), (48, a_iload 0 49), (49, a_stk (q_int 63) 51), (51, a_stk q_iand 52), (52, a_iret)]
def fJ6_bitCount_0f7a4 (kn : sKn) : List Value → sW → Option sR := fW (tJ6_bitCount_0f7a4 kn) 1
set_option maxRecDepth 100000 in
set_option maxHeartbeats 4000000 in
theorem mJ6_bitCount_0f7a4 (kn : sKn) : mM kn yJ6_bitCount_0f7a4 (Cond.code yJ6_bitCount_0f7a4 cJ6_bitCount_0f7a4 1 (some .int) :: wsL_law) 1 false (fJ6_bitCount_0f7a4 kn) := mM_W (fun n => mM_of (own := RJ6) (ini := false) rfl (by decide +kernel) (by decide +kernel) (all_c (ok_iload_n dJ6_bitCount_0f7a4_0 rfl) (all_c (ok_iload_n dJ6_bitCount_0f7a4_1 rfl) (all_c (ok_stk (s_iconst dJ6_bitCount_0f7a4_2 (by decide))) (all_c (ok_stk (s_iushr dJ6_bitCount_0f7a4_3)) (all_c (ok_ldcw kw145 dJ6_bitCount_0f7a4_4) (all_c (ok_stk (s_iand dJ6_bitCount_0f7a4_7)) (all_c (ok_stk (s_isub dJ6_bitCount_0f7a4_8)) (all_c (ok_istore_n dJ6_bitCount_0f7a4_9 rfl (by decide)) (all_c (ok_iload_n dJ6_bitCount_0f7a4_10 rfl) (all_c (ok_ldcw kw146 dJ6_bitCount_0f7a4_11) (all_c (ok_stk (s_iand dJ6_bitCount_0f7a4_14)) (all_c (ok_iload_n dJ6_bitCount_0f7a4_15 rfl) (all_c (ok_stk (s_iconst dJ6_bitCount_0f7a4_16 (by decide))) (all_c (ok_stk (s_iushr dJ6_bitCount_0f7a4_17)) (all_c (ok_ldcw kw146 dJ6_bitCount_0f7a4_18) (all_c (ok_stk (s_iand dJ6_bitCount_0f7a4_21)) (all_c (ok_stk (s_iadd dJ6_bitCount_0f7a4_22)) (all_c (ok_istore_n dJ6_bitCount_0f7a4_23 rfl (by decide)) (all_c (ok_iload_n dJ6_bitCount_0f7a4_24 rfl) (all_c (ok_iload_n dJ6_bitCount_0f7a4_25 rfl) (all_c (ok_stk (s_iconst dJ6_bitCount_0f7a4_26 (by decide))) (all_c (ok_stk (s_iushr dJ6_bitCount_0f7a4_27)) (all_c (ok_stk (s_iadd dJ6_bitCount_0f7a4_28)) (all_c (ok_ldcw kw147 dJ6_bitCount_0f7a4_29) (all_c (ok_stk (s_iand dJ6_bitCount_0f7a4_32)) (all_c (ok_istore_n dJ6_bitCount_0f7a4_33 rfl (by decide)) (all_c (ok_iload_n dJ6_bitCount_0f7a4_34 rfl) (all_c (ok_iload_n dJ6_bitCount_0f7a4_35 rfl) (all_c (ok_stk (s_bipush dJ6_bitCount_0f7a4_36 (by decide))) (all_c (ok_stk (s_iushr dJ6_bitCount_0f7a4_38)) (all_c (ok_stk (s_iadd dJ6_bitCount_0f7a4_39)) (all_c (ok_istore_n dJ6_bitCount_0f7a4_40 rfl (by decide)) (all_c (ok_iload_n dJ6_bitCount_0f7a4_41 rfl) (all_c (ok_iload_n dJ6_bitCount_0f7a4_42 rfl) (all_c (ok_stk (s_bipush dJ6_bitCount_0f7a4_43 (by decide))) (all_c (ok_stk (s_iushr dJ6_bitCount_0f7a4_45)) (all_c (ok_stk (s_iadd dJ6_bitCount_0f7a4_46)) (all_c (ok_istore_n dJ6_bitCount_0f7a4_47 rfl (by decide)) (all_c (ok_iload_n dJ6_bitCount_0f7a4_48 rfl) (all_c (ok_stk (s_bipush dJ6_bitCount_0f7a4_49 (by decide))) (all_c (ok_stk (s_iand dJ6_bitCount_0f7a4_51)) (all_c (ok_iret dJ6_bitCount_0f7a4_52) all_n)))))))))))))))))))))))))))))))))))))))))) n (fun h => by first | rfl | cases h))
theorem dJ7_fill_53178_0 : decode cJ7_fill_53178 0 = .ok (.iconst 0, 1) := by decide +kernel
theorem dJ7_fill_53178_1 : decode cJ7_fill_53178 1 = .ok (.istore_n 2, 1) := by decide +kernel
theorem dJ7_fill_53178_2 : decode cJ7_fill_53178 2 = .ok (.aload_n 0, 1) := by decide +kernel
theorem dJ7_fill_53178_3 : decode cJ7_fill_53178 3 = .ok (.arraylength, 1) := by decide +kernel
theorem dJ7_fill_53178_4 : decode cJ7_fill_53178 4 = .ok (.istore_n 3, 1) := by decide +kernel
theorem dJ7_fill_53178_5 : decode cJ7_fill_53178 5 = .ok (.iload_n 2, 1) := by decide +kernel
theorem dJ7_fill_53178_6 : decode cJ7_fill_53178 6 = .ok (.iload_n 3, 1) := by decide +kernel
theorem dJ7_fill_53178_7 : decode cJ7_fill_53178 7 = .ok (.if_icmp .ge 13, 3) := by decide +kernel
theorem dJ7_fill_53178_10 : decode cJ7_fill_53178 10 = .ok (.aload_n 0, 1) := by decide +kernel
theorem dJ7_fill_53178_11 : decode cJ7_fill_53178 11 = .ok (.iload_n 2, 1) := by decide +kernel
theorem dJ7_fill_53178_12 : decode cJ7_fill_53178 12 = .ok (.iload_n 1, 1) := by decide +kernel
theorem dJ7_fill_53178_13 : decode cJ7_fill_53178 13 = .ok (.iastore, 1) := by decide +kernel
theorem dJ7_fill_53178_14 : decode cJ7_fill_53178 14 = .ok (.iinc 2 1, 3) := by decide +kernel
theorem dJ7_fill_53178_17 : decode cJ7_fill_53178 17 = .ok (.goto (-12), 3) := by decide +kernel
theorem dJ7_fill_53178_20 : decode cJ7_fill_53178 20 = .ok (.return_, 1) := by decide +kernel
def tJ7_fill_53178 (kn : sKn) : List (Nat × sA) := [(0, a_stk (q_int 0) 1), (1, a_istore 2 2), (2, a_aload 0 3), (3, a_alen 4), (4, a_istore 3 5), (5, a_iload 2 6), (6, a_iload 3 7), (7, a_icmp kn b_ge 3 20 10), (10, a_aload 0 11), (11, a_iload 2 12), (12, a_iload 1 13), (13, a_iast 14), (14, a_iinc 2 1 17), (17, a_goto 5), (20, a_vret)]
def fJ7_fill_53178 (kn : sKn) : List Value → sW → Option sR := fW (tJ7_fill_53178 kn) 4
set_option maxRecDepth 100000 in
set_option maxHeartbeats 4000000 in
theorem mJ7_fill_53178 (kn : sKn) : mM kn yJ7_fill_53178 (Cond.code yJ7_fill_53178 cJ7_fill_53178 4 none :: wsL_law) 1 true (fJ7_fill_53178 kn) := mM_W (fun n => mM_of (own := RJ7) (ini := false) rfl (by decide +kernel) (by decide +kernel) (all_c (ok_stk (s_iconst dJ7_fill_53178_0 (by decide))) (all_c (ok_istore_n dJ7_fill_53178_1 rfl (by decide)) (all_c (ok_aload_n dJ7_fill_53178_2 rfl) (all_c (ok_alen dJ7_fill_53178_3) (all_c (ok_istore_n dJ7_fill_53178_4 rfl (by decide)) (all_c (ok_iload_n dJ7_fill_53178_5 rfl) (all_c (ok_iload_n dJ7_fill_53178_6 rfl) (all_c (ok_icmp_ge dJ7_fill_53178_7 (by decide)) (all_c (ok_aload_n dJ7_fill_53178_10 rfl) (all_c (ok_iload_n dJ7_fill_53178_11 rfl) (all_c (ok_iload_n dJ7_fill_53178_12 rfl) (all_c (ok_iast dJ7_fill_53178_13) (all_c (ok_iinc dJ7_fill_53178_14 (by decide) (by decide)) (all_c (ok_goto dJ7_fill_53178_17 (by decide)) (all_c (ok_vret dJ7_fill_53178_20) all_n))))))))))))))) n (fun h => by first | rfl | cases h))
theorem dX0_leastOpen_0 : decode cX0_leastOpen 0 = .ok (.ldc 54, 2) := by decide +kernel
theorem dX0_leastOpen_2 : decode cX0_leastOpen 2 = .ok (.istore_n 3, 1) := by decide +kernel
theorem dX0_leastOpen_3 : decode cX0_leastOpen 3 = .ok (.iconst 0, 1) := by decide +kernel
theorem dX0_leastOpen_4 : decode cX0_leastOpen 4 = .ok (.istore 4, 2) := by decide +kernel
theorem dX0_leastOpen_6 : decode cX0_leastOpen 6 = .ok (.iload 4, 2) := by decide +kernel
theorem dX0_leastOpen_8 : decode cX0_leastOpen 8 = .ok (.iconst 4, 1) := by decide +kernel
theorem dX0_leastOpen_9 : decode cX0_leastOpen 9 = .ok (.if_icmp .ge 34, 3) := by decide +kernel
theorem dX0_leastOpen_12 : decode cX0_leastOpen 12 = .ok (.iload_n 2, 1) := by decide +kernel
theorem dX0_leastOpen_13 : decode cX0_leastOpen 13 = .ok (.iload 4, 2) := by decide +kernel
theorem dX0_leastOpen_15 : decode cX0_leastOpen 15 = .ok (.ishr, 1) := by decide +kernel
theorem dX0_leastOpen_16 : decode cX0_leastOpen 16 = .ok (.iconst 1, 1) := by decide +kernel
theorem dX0_leastOpen_17 : decode cX0_leastOpen 17 = .ok (.iand, 1) := by decide +kernel
theorem dX0_leastOpen_18 : decode cX0_leastOpen 18 = .ok (.ifCond .eq 19, 3) := by decide +kernel
theorem dX0_leastOpen_21 : decode cX0_leastOpen 21 = .ok (.iload_n 3, 1) := by decide +kernel
theorem dX0_leastOpen_22 : decode cX0_leastOpen 22 = .ok (.aload_n 0, 1) := by decide +kernel
theorem dX0_leastOpen_23 : decode cX0_leastOpen 23 = .ok (.getfield 22, 3) := by decide +kernel
theorem dX0_leastOpen_26 : decode cX0_leastOpen 26 = .ok (.iconst 4, 1) := by decide +kernel
theorem dX0_leastOpen_27 : decode cX0_leastOpen 27 = .ok (.iload_n 1, 1) := by decide +kernel
theorem dX0_leastOpen_28 : decode cX0_leastOpen 28 = .ok (.imul, 1) := by decide +kernel
theorem dX0_leastOpen_29 : decode cX0_leastOpen 29 = .ok (.iload 4, 2) := by decide +kernel
theorem dX0_leastOpen_31 : decode cX0_leastOpen 31 = .ok (.iadd, 1) := by decide +kernel
theorem dX0_leastOpen_32 : decode cX0_leastOpen 32 = .ok (.iaload, 1) := by decide +kernel
theorem dX0_leastOpen_33 : decode cX0_leastOpen 33 = .ok (.invokestatic 111, 3) := by decide +kernel
theorem dX0_leastOpen_36 : decode cX0_leastOpen 36 = .ok (.istore_n 3, 1) := by decide +kernel
theorem dX0_leastOpen_37 : decode cX0_leastOpen 37 = .ok (.iinc 4 1, 3) := by decide +kernel
theorem dX0_leastOpen_40 : decode cX0_leastOpen 40 = .ok (.goto (-34), 3) := by decide +kernel
theorem dX0_leastOpen_43 : decode cX0_leastOpen 43 = .ok (.iload_n 3, 1) := by decide +kernel
theorem dX0_leastOpen_44 : decode cX0_leastOpen 44 = .ok (.ireturn, 1) := by decide +kernel
def tX0_leastOpen (kn : sKn) : List (Nat × sA) := [(0, a_stk (q_int (1000000)) 2), (2, a_istore 3 3), (3, a_stk (q_int 0) 4), (4, a_istore 4 6), (6, a_iload 4 8), (8, a_stk (q_int 4) 9), (9, a_icmp kn b_ge 3 43 12), (12, a_iload 2 13), (13, a_iload 4 15), (15, a_stk q_ishr 16), (16, a_stk (q_int 1) 17), (17, a_stk q_iand 18), (18, a_if kn b_eq 0 37 21), (21, a_iload 3 22), (22, a_aload 0 23), (23, a_get 1 2 26), (26, a_stk (q_int 4) 27), (27, a_iload 1 28), (28, a_stk q_imul 29), (29, a_iload 4 31), (31, a_stk q_iadd 32), (32, a_iald 33), (33, a_mmin 36), (36, a_istore 3 37), (37, a_iinc 4 1 40), (40, a_goto 6), (43, a_iload 3 44), (44, a_iret)]
def fX0_leastOpen (kn : sKn) : List Value → sW → Option sR := fW (tX0_leastOpen kn) 5
set_option maxRecDepth 100000 in
set_option maxHeartbeats 4000000 in
theorem mX0_leastOpen (kn : sKn) : mM kn yX0_leastOpen (Cond.code yX0_leastOpen cX0_leastOpen 5 (some .int) :: wsL_law) 1 false (fX0_leastOpen kn) := mM_W (fun n => mM_of (own := RX0) (ini := false) rfl (by decide +kernel) (by decide +kernel) (all_c (ok_ldc kw148 dX0_leastOpen_0) (all_c (ok_istore_n dX0_leastOpen_2 rfl (by decide)) (all_c (ok_stk (s_iconst dX0_leastOpen_3 (by decide))) (all_c (ok_istore dX0_leastOpen_4 (by decide)) (all_c (ok_iload dX0_leastOpen_6) (all_c (ok_stk (s_iconst dX0_leastOpen_8 (by decide))) (all_c (ok_icmp_ge dX0_leastOpen_9 (by decide)) (all_c (ok_iload_n dX0_leastOpen_12 rfl) (all_c (ok_iload dX0_leastOpen_13) (all_c (ok_stk (s_ishr dX0_leastOpen_15)) (all_c (ok_stk (s_iconst dX0_leastOpen_16 (by decide))) (all_c (ok_stk (s_iand dX0_leastOpen_17)) (all_c (ok_if_eq dX0_leastOpen_18 (by decide)) (all_c (ok_iload_n dX0_leastOpen_21 rfl) (all_c (ok_aload_n dX0_leastOpen_22 rfl) (all_c (okg_X0_2 kw149 dX0_leastOpen_23) (all_c (ok_stk (s_iconst dX0_leastOpen_26 (by decide))) (all_c (ok_iload_n dX0_leastOpen_27 rfl) (all_c (ok_stk (s_imul dX0_leastOpen_28)) (all_c (ok_iload dX0_leastOpen_29) (all_c (ok_stk (s_iadd dX0_leastOpen_31)) (all_c (ok_iald dX0_leastOpen_32) (all_c (ok_mmin (by decide) kw150 kw53 kw38 kw54 dX0_leastOpen_33) (all_c (ok_istore_n dX0_leastOpen_36 rfl (by decide)) (all_c (ok_iinc dX0_leastOpen_37 (by decide) (by decide)) (all_c (ok_goto dX0_leastOpen_40 (by decide)) (all_c (ok_iload_n dX0_leastOpen_43 rfl) (all_c (ok_iret dX0_leastOpen_44) all_n)))))))))))))))))))))))))))) n (fun h => by first | rfl | cases h))
theorem dX0_addUp_0 : decode cX0_addUp 0 = .ok (.iload_n 1, 1) := by decide +kernel
theorem dX0_addUp_1 : decode cX0_addUp 1 = .ok (.iconst 1, 1) := by decide +kernel
theorem dX0_addUp_2 : decode cX0_addUp 2 = .ok (.isub, 1) := by decide +kernel
theorem dX0_addUp_3 : decode cX0_addUp 3 = .ok (.istore_n 2, 1) := by decide +kernel
theorem dX0_addUp_4 : decode cX0_addUp 4 = .ok (.iload_n 2, 1) := by decide +kernel
theorem dX0_addUp_5 : decode cX0_addUp 5 = .ok (.ifCond .lt 78, 3) := by decide +kernel
theorem dX0_addUp_8 : decode cX0_addUp 8 = .ok (.iconst 0, 1) := by decide +kernel
theorem dX0_addUp_9 : decode cX0_addUp 9 = .ok (.istore_n 3, 1) := by decide +kernel
theorem dX0_addUp_10 : decode cX0_addUp 10 = .ok (.iload_n 3, 1) := by decide +kernel
theorem dX0_addUp_11 : decode cX0_addUp 11 = .ok (.iconst 4, 1) := by decide +kernel
theorem dX0_addUp_12 : decode cX0_addUp 12 = .ok (.if_icmp .ge 65, 3) := by decide +kernel
theorem dX0_addUp_15 : decode cX0_addUp 15 = .ok (.iconst 4, 1) := by decide +kernel
theorem dX0_addUp_16 : decode cX0_addUp 16 = .ok (.iload_n 2, 1) := by decide +kernel
theorem dX0_addUp_17 : decode cX0_addUp 17 = .ok (.imul, 1) := by decide +kernel
theorem dX0_addUp_18 : decode cX0_addUp 18 = .ok (.iload_n 3, 1) := by decide +kernel
theorem dX0_addUp_19 : decode cX0_addUp 19 = .ok (.iadd, 1) := by decide +kernel
theorem dX0_addUp_20 : decode cX0_addUp 20 = .ok (.istore 4, 2) := by decide +kernel
theorem dX0_addUp_22 : decode cX0_addUp 22 = .ok (.iload_n 2, 1) := by decide +kernel
theorem dX0_addUp_23 : decode cX0_addUp 23 = .ok (.iload_n 1, 1) := by decide +kernel
theorem dX0_addUp_24 : decode cX0_addUp 24 = .ok (.iconst 1, 1) := by decide +kernel
theorem dX0_addUp_25 : decode cX0_addUp 25 = .ok (.isub, 1) := by decide +kernel
theorem dX0_addUp_26 : decode cX0_addUp 26 = .ok (.if_icmp .ge 20, 3) := by decide +kernel
theorem dX0_addUp_29 : decode cX0_addUp 29 = .ok (.aload_n 0, 1) := by decide +kernel
theorem dX0_addUp_30 : decode cX0_addUp 30 = .ok (.iload_n 2, 1) := by decide +kernel
theorem dX0_addUp_31 : decode cX0_addUp 31 = .ok (.iconst 1, 1) := by decide +kernel
theorem dX0_addUp_32 : decode cX0_addUp 32 = .ok (.iadd, 1) := by decide +kernel
theorem dX0_addUp_33 : decode cX0_addUp 33 = .ok (.getstatic 104, 3) := by decide +kernel
theorem dX0_addUp_36 : decode cX0_addUp 36 = .ok (.iconst 1, 1) := by decide +kernel
theorem dX0_addUp_37 : decode cX0_addUp 37 = .ok (.iload_n 3, 1) := by decide +kernel
theorem dX0_addUp_38 : decode cX0_addUp 38 = .ok (.ishl, 1) := by decide +kernel
theorem dX0_addUp_39 : decode cX0_addUp 39 = .ok (.iaload, 1) := by decide +kernel
theorem dX0_addUp_40 : decode cX0_addUp 40 = .ok (.invokevirtual 107, 3) := by decide +kernel
theorem dX0_addUp_43 : decode cX0_addUp 43 = .ok (.goto 4, 3) := by decide +kernel
theorem dX0_addUp_46 : decode cX0_addUp 46 = .ok (.iconst 0, 1) := by decide +kernel
theorem dX0_addUp_47 : decode cX0_addUp 47 = .ok (.istore 5, 2) := by decide +kernel
theorem dX0_addUp_49 : decode cX0_addUp 49 = .ok (.aload_n 0, 1) := by decide +kernel
theorem dX0_addUp_50 : decode cX0_addUp 50 = .ok (.getfield 22, 3) := by decide +kernel
theorem dX0_addUp_53 : decode cX0_addUp 53 = .ok (.iload 4, 2) := by decide +kernel
theorem dX0_addUp_55 : decode cX0_addUp 55 = .ok (.ldc 54, 2) := by decide +kernel
theorem dX0_addUp_57 : decode cX0_addUp 57 = .ok (.aload_n 0, 1) := by decide +kernel
theorem dX0_addUp_58 : decode cX0_addUp 58 = .ok (.getfield 18, 3) := by decide +kernel
theorem dX0_addUp_61 : decode cX0_addUp 61 = .ok (.iload 4, 2) := by decide +kernel
theorem dX0_addUp_63 : decode cX0_addUp 63 = .ok (.iaload, 1) := by decide +kernel
theorem dX0_addUp_64 : decode cX0_addUp 64 = .ok (.iload 5, 2) := by decide +kernel
theorem dX0_addUp_66 : decode cX0_addUp 66 = .ok (.iadd, 1) := by decide +kernel
theorem dX0_addUp_67 : decode cX0_addUp 67 = .ok (.invokestatic 111, 3) := by decide +kernel
theorem dX0_addUp_70 : decode cX0_addUp 70 = .ok (.iastore, 1) := by decide +kernel
theorem dX0_addUp_71 : decode cX0_addUp 71 = .ok (.iinc 3 1, 3) := by decide +kernel
theorem dX0_addUp_74 : decode cX0_addUp 74 = .ok (.goto (-64), 3) := by decide +kernel
theorem dX0_addUp_77 : decode cX0_addUp 77 = .ok (.iinc 2 (-1), 3) := by decide +kernel
theorem dX0_addUp_80 : decode cX0_addUp 80 = .ok (.goto (-76), 3) := by decide +kernel
theorem dX0_addUp_83 : decode cX0_addUp 83 = .ok (.aload_n 0, 1) := by decide +kernel
theorem dX0_addUp_84 : decode cX0_addUp 84 = .ok (.iconst 0, 1) := by decide +kernel
theorem dX0_addUp_85 : decode cX0_addUp 85 = .ok (.bipush 15, 2) := by decide +kernel
theorem dX0_addUp_87 : decode cX0_addUp 87 = .ok (.invokevirtual 107, 3) := by decide +kernel
theorem dX0_addUp_90 : decode cX0_addUp 90 = .ok (.ireturn, 1) := by decide +kernel
theorem okc_X0_leastOpen {kn : sKn} {cc : ByteArray} {own : String} {nL : Nat} {D : Nat} {ret : Option FieldType} {ini : Bool} {pc index : Nat} (hD : 1 + 1 ≤ D) (hl : Cond.methodLink own index yX0_leastOpen ∈ wsL_law) (hd : decode cc pc = .ok (.invokevirtual index, 3)) : mOk kn cc own nL wsL_law D ret ini pc (a_callV false (fX0_leastOpen kn) 1 (2 + 1) (pc + 3)) := ok_callV (mX0_leastOpen kn) (good_ws ws_good (fun _ h => h) kw151) hD (by decide) hl kw153 kw154 kw152 ⟨by decide +kernel, by decide +kernel, by decide +kernel⟩ rfl hd
def tX0_addUp (kn : sKn) : List (Nat × sA) := [(0, a_iload 1 1), (1, a_stk (q_int 1) 2), (2, a_stk q_isub 3), (3, a_istore 2 4), (4, a_iload 2 5), (5, a_if kn b_lt 2 83 8), (8, a_stk (q_int 0) 9), (9, a_istore 3 10), (10, a_iload 3 11), (11, a_stk (q_int 4) 12), (12, a_icmp kn b_ge 3 77 15), (15, a_stk (q_int 4) 16), (16, a_iload 2 17), (17, a_stk q_imul 18), (18, a_iload 3 19), (19, a_stk q_iadd 20), (20, a_istore 4 22), (22, a_iload 2 23), (23, a_iload 1 24), (24, a_stk (q_int 1) 25), (25, a_stk q_isub 26), (26, a_icmp kn b_ge 3 46 29), (29, a_aload 0 30), (30, a_iload 2 31), (31, a_stk (q_int 1) 32), (32, a_stk q_iadd 33), (33, a_gets 1000000 36), (36, a_stk (q_int 1) 37), (37, a_iload 3 38), (38, a_stk q_ishl 39), (39, a_iald 40), (40, a_callV false (fX0_leastOpen kn) 1 3 43), (43, a_goto 47), (46, a_stk (q_int 0) 47), (47, a_istore 5 49), (49, a_aload 0 50), (50, a_get 1 2 53), (53, a_iload 4 55), (55, a_stk (q_int (1000000)) 57), (57, a_aload 0 58), (58, a_get 1 1 61), (61, a_iload 4 63), (63, a_iald 64), (64, a_iload 5 66), (66, a_stk q_iadd 67), (67, a_mmin 70), (70, a_iast 71), (71, a_iinc 3 1 74), (74, a_goto 10), (77, a_iinc 2 (-1) 80), (80, a_goto 4), (83, a_aload 0 84), (84, a_stk (q_int 0) 85), (85, a_stk (q_int 15) 87), (87, a_callV false (fX0_leastOpen kn) 1 3 90), (90, a_iret)]
def fX0_addUp (kn : sKn) : List Value → sW → Option sR := fW (tX0_addUp kn) 6
set_option maxRecDepth 100000 in
set_option maxHeartbeats 4000000 in
theorem mX0_addUp (kn : sKn) : mM kn yX0_addUp (Cond.code yX0_addUp cX0_addUp 6 (some .int) :: wsL_law) 2 false (fX0_addUp kn) := mM_W (fun n => mM_of (own := RX0) (ini := false) rfl (by decide +kernel) (by decide +kernel) (all_c (ok_iload_n dX0_addUp_0 rfl) (all_c (ok_stk (s_iconst dX0_addUp_1 (by decide))) (all_c (ok_stk (s_isub dX0_addUp_2)) (all_c (ok_istore_n dX0_addUp_3 rfl (by decide)) (all_c (ok_iload_n dX0_addUp_4 rfl) (all_c (ok_if_lt dX0_addUp_5 (by decide)) (all_c (ok_stk (s_iconst dX0_addUp_8 (by decide))) (all_c (ok_istore_n dX0_addUp_9 rfl (by decide)) (all_c (ok_iload_n dX0_addUp_10 rfl) (all_c (ok_stk (s_iconst dX0_addUp_11 (by decide))) (all_c (ok_icmp_ge dX0_addUp_12 (by decide)) (all_c (ok_stk (s_iconst dX0_addUp_15 (by decide))) (all_c (ok_iload_n dX0_addUp_16 rfl) (all_c (ok_stk (s_imul dX0_addUp_17)) (all_c (ok_iload_n dX0_addUp_18 rfl) (all_c (ok_stk (s_iadd dX0_addUp_19)) (all_c (ok_istore dX0_addUp_20 (by decide)) (all_c (ok_iload_n dX0_addUp_22 rfl) (all_c (ok_iload_n dX0_addUp_23 rfl) (all_c (ok_stk (s_iconst dX0_addUp_24 (by decide))) (all_c (ok_stk (s_isub dX0_addUp_25)) (all_c (ok_icmp_ge dX0_addUp_26 (by decide)) (all_c (ok_aload_n dX0_addUp_29 rfl) (all_c (ok_iload_n dX0_addUp_30 rfl) (all_c (ok_stk (s_iconst dX0_addUp_31 (by decide))) (all_c (ok_stk (s_iadd dX0_addUp_32)) (all_c (ok_openN (by decide +kernel) dX0_addUp_33) (all_c (ok_stk (s_iconst dX0_addUp_36 (by decide))) (all_c (ok_iload_n dX0_addUp_37 rfl) (all_c (ok_stk (s_ishl dX0_addUp_38)) (all_c (ok_iald dX0_addUp_39) (all_c (okc_X0_leastOpen (by decide) kw155 dX0_addUp_40) (all_c (ok_goto dX0_addUp_43 (by decide)) (all_c (ok_stk (s_iconst dX0_addUp_46 (by decide))) (all_c (ok_istore dX0_addUp_47 (by decide)) (all_c (ok_aload_n dX0_addUp_49 rfl) (all_c (okg_X0_2 kw149 dX0_addUp_50) (all_c (ok_iload dX0_addUp_53) (all_c (ok_ldc kw148 dX0_addUp_55) (all_c (ok_aload_n dX0_addUp_57 rfl) (all_c (okg_X0_1 kw156 dX0_addUp_58) (all_c (ok_iload dX0_addUp_61) (all_c (ok_iald dX0_addUp_63) (all_c (ok_iload dX0_addUp_64) (all_c (ok_stk (s_iadd dX0_addUp_66)) (all_c (ok_mmin (by decide) kw150 kw53 kw38 kw54 dX0_addUp_67) (all_c (ok_iast dX0_addUp_70) (all_c (ok_iinc dX0_addUp_71 (by decide) (by decide)) (all_c (ok_goto dX0_addUp_74 (by decide)) (all_c (ok_iinc dX0_addUp_77 (by decide) (by decide)) (all_c (ok_goto dX0_addUp_80 (by decide)) (all_c (ok_aload_n dX0_addUp_83 rfl) (all_c (ok_stk (s_iconst dX0_addUp_84 (by decide))) (all_c (ok_stk (s_bipush dX0_addUp_85 (by decide))) (all_c (okc_X0_leastOpen (by decide) kw155 dX0_addUp_87) (all_c (ok_iret dX0_addUp_90) all_n)))))))))))))))))))))))))))))))))))))))))))))))))))))))) n (fun h => by first | rfl | cases h))
theorem dX6_areLovers_0 : decode cX6_areLovers 0 = .ok (.iload_n 1, 1) := by decide +kernel
theorem dX6_areLovers_1 : decode cX6_areLovers 1 = .ok (.iconst (-1), 1) := by decide +kernel
theorem dX6_areLovers_2 : decode cX6_areLovers 2 = .ok (.if_icmp .eq 25, 3) := by decide +kernel
theorem dX6_areLovers_5 : decode cX6_areLovers 5 = .ok (.iload_n 2, 1) := by decide +kernel
theorem dX6_areLovers_6 : decode cX6_areLovers 6 = .ok (.iconst (-1), 1) := by decide +kernel
theorem dX6_areLovers_7 : decode cX6_areLovers 7 = .ok (.if_icmp .eq 20, 3) := by decide +kernel
theorem dX6_areLovers_10 : decode cX6_areLovers 10 = .ok (.aload_n 0, 1) := by decide +kernel
theorem dX6_areLovers_11 : decode cX6_areLovers 11 = .ok (.getfield 25, 3) := by decide +kernel
theorem dX6_areLovers_14 : decode cX6_areLovers 14 = .ok (.iload_n 1, 1) := by decide +kernel
theorem dX6_areLovers_15 : decode cX6_areLovers 15 = .ok (.iaload, 1) := by decide +kernel
theorem dX6_areLovers_16 : decode cX6_areLovers 16 = .ok (.iload_n 2, 1) := by decide +kernel
theorem dX6_areLovers_17 : decode cX6_areLovers 17 = .ok (.ishr, 1) := by decide +kernel
theorem dX6_areLovers_18 : decode cX6_areLovers 18 = .ok (.iconst 1, 1) := by decide +kernel
theorem dX6_areLovers_19 : decode cX6_areLovers 19 = .ok (.iand, 1) := by decide +kernel
theorem dX6_areLovers_20 : decode cX6_areLovers 20 = .ok (.ifCond .eq 7, 3) := by decide +kernel
theorem dX6_areLovers_23 : decode cX6_areLovers 23 = .ok (.iconst 1, 1) := by decide +kernel
theorem dX6_areLovers_24 : decode cX6_areLovers 24 = .ok (.goto 4, 3) := by decide +kernel
theorem dX6_areLovers_27 : decode cX6_areLovers 27 = .ok (.iconst 0, 1) := by decide +kernel
theorem dX6_areLovers_28 : decode cX6_areLovers 28 = .ok (.ireturn, 1) := by decide +kernel
def tX6_areLovers (kn : sKn) : List (Nat × sA) := [(0, a_iload 1 1), (1, a_stk (q_int (-1)) 2), (2, a_icmp kn b_eq 0 27 5), (5, a_iload 2 6), (6, a_stk (q_int (-1)) 7), (7, a_icmp kn b_eq 0 27 10), (10, a_aload 0 11), (11, a_get 7 10 14), (14, a_iload 1 15), (15, a_iald 16), (16, a_iload 2 17), (17, a_stk q_ishr 18), (18, a_stk (q_int 1) 19), (19, a_stk q_iand 20), (20, a_if kn b_eq 0 27 23), (23, a_stk (q_int 1) 24), (24, a_goto 28), (27, a_stk (q_int 0) 28), (28, a_zret)]
def fX6_areLovers (kn : sKn) : List Value → sW → Option sR := fW (tX6_areLovers kn) 3
set_option maxRecDepth 100000 in
set_option maxHeartbeats 4000000 in
theorem mX6_areLovers (kn : sKn) : mM kn yX6_areLovers (Cond.code yX6_areLovers cX6_areLovers 3 (some .boolean) :: wsL_law) 1 false (fX6_areLovers kn) := mM_W (fun n => mM_of (own := RX6) (ini := false) rfl (by decide +kernel) (by decide +kernel) (all_c (ok_iload_n dX6_areLovers_0 rfl) (all_c (ok_stk (s_iconst dX6_areLovers_1 (by decide))) (all_c (ok_icmp_eq dX6_areLovers_2 (by decide)) (all_c (ok_iload_n dX6_areLovers_5 rfl) (all_c (ok_stk (s_iconst dX6_areLovers_6 (by decide))) (all_c (ok_icmp_eq dX6_areLovers_7 (by decide)) (all_c (ok_aload_n dX6_areLovers_10 rfl) (all_c (okg_X6_10 kw157 dX6_areLovers_11) (all_c (ok_iload_n dX6_areLovers_14 rfl) (all_c (ok_iald dX6_areLovers_15) (all_c (ok_iload_n dX6_areLovers_16 rfl) (all_c (ok_stk (s_ishr dX6_areLovers_17)) (all_c (ok_stk (s_iconst dX6_areLovers_18 (by decide))) (all_c (ok_stk (s_iand dX6_areLovers_19)) (all_c (ok_if_eq dX6_areLovers_20 (by decide)) (all_c (ok_stk (s_iconst dX6_areLovers_23 (by decide))) (all_c (ok_goto dX6_areLovers_24 (by decide)) (all_c (ok_stk (s_iconst dX6_areLovers_27 (by decide))) (all_c (ok_zret dX6_areLovers_28) all_n))))))))))))))))))) n (fun h => by first | rfl | cases h))
theorem dX10_bearing_0 : decode cX10_bearing 0 = .ok (.aload_n 1, 1) := by decide +kernel
theorem dX10_bearing_1 : decode cX10_bearing 1 = .ok (.getfield 24, 3) := by decide +kernel
theorem dX10_bearing_4 : decode cX10_bearing 4 = .ok (.iload_n 3, 1) := by decide +kernel
theorem dX10_bearing_5 : decode cX10_bearing 5 = .ok (.iaload, 1) := by decide +kernel
theorem dX10_bearing_6 : decode cX10_bearing 6 = .ok (.istore 4, 2) := by decide +kernel
theorem dX10_bearing_8 : decode cX10_bearing 8 = .ok (.iload 4, 2) := by decide +kernel
theorem dX10_bearing_10 : decode cX10_bearing 10 = .ok (.iconst (-1), 1) := by decide +kernel
theorem dX10_bearing_11 : decode cX10_bearing 11 = .ok (.if_icmp .ne 5, 3) := by decide +kernel
theorem dX10_bearing_14 : decode cX10_bearing 14 = .ok (.iconst (-1), 1) := by decide +kernel
theorem dX10_bearing_15 : decode cX10_bearing 15 = .ok (.ireturn, 1) := by decide +kernel
theorem dX10_bearing_16 : decode cX10_bearing 16 = .ok (.iload_n 2, 1) := by decide +kernel
theorem dX10_bearing_17 : decode cX10_bearing 17 = .ok (.iload 4, 2) := by decide +kernel
theorem dX10_bearing_19 : decode cX10_bearing 19 = .ok (.ishr, 1) := by decide +kernel
theorem dX10_bearing_20 : decode cX10_bearing 20 = .ok (.iconst 1, 1) := by decide +kernel
theorem dX10_bearing_21 : decode cX10_bearing 21 = .ok (.iand, 1) := by decide +kernel
theorem dX10_bearing_22 : decode cX10_bearing 22 = .ok (.ifCond .eq 5, 3) := by decide +kernel
theorem dX10_bearing_25 : decode cX10_bearing 25 = .ok (.iconst 0, 1) := by decide +kernel
theorem dX10_bearing_26 : decode cX10_bearing 26 = .ok (.ireturn, 1) := by decide +kernel
theorem dX10_bearing_27 : decode cX10_bearing 27 = .ok (.iload_n 3, 1) := by decide +kernel
theorem dX10_bearing_28 : decode cX10_bearing 28 = .ok (.iconst 3, 1) := by decide +kernel
theorem dX10_bearing_29 : decode cX10_bearing 29 = .ok (.irem, 1) := by decide +kernel
theorem dX10_bearing_30 : decode cX10_bearing 30 = .ok (.istore 5, 2) := by decide +kernel
theorem dX10_bearing_32 : decode cX10_bearing 32 = .ok (.bipush 10, 2) := by decide +kernel
theorem dX10_bearing_34 : decode cX10_bearing 34 = .ok (.aload_n 1, 1) := by decide +kernel
theorem dX10_bearing_35 : decode cX10_bearing 35 = .ok (.getfield 29, 3) := by decide +kernel
theorem dX10_bearing_38 : decode cX10_bearing 38 = .ok (.iload 4, 2) := by decide +kernel
theorem dX10_bearing_40 : decode cX10_bearing 40 = .ok (.iaload, 1) := by decide +kernel
theorem dX10_bearing_41 : decode cX10_bearing 41 = .ok (.imul, 1) := by decide +kernel
theorem dX10_bearing_42 : decode cX10_bearing 42 = .ok (.iconst 5, 1) := by decide +kernel
theorem dX10_bearing_43 : decode cX10_bearing 43 = .ok (.aload_n 1, 1) := by decide +kernel
theorem dX10_bearing_44 : decode cX10_bearing 44 = .ok (.getfield 32, 3) := by decide +kernel
theorem dX10_bearing_47 : decode cX10_bearing 47 = .ok (.iload_n 3, 1) := by decide +kernel
theorem dX10_bearing_48 : decode cX10_bearing 48 = .ok (.iaload, 1) := by decide +kernel
theorem dX10_bearing_49 : decode cX10_bearing 49 = .ok (.imul, 1) := by decide +kernel
theorem dX10_bearing_50 : decode cX10_bearing 50 = .ok (.isub, 1) := by decide +kernel
theorem dX10_bearing_51 : decode cX10_bearing 51 = .ok (.istore 6, 2) := by decide +kernel
theorem dX10_bearing_53 : decode cX10_bearing 53 = .ok (.iload 5, 2) := by decide +kernel
theorem dX10_bearing_55 : decode cX10_bearing 55 = .ok (.ifCond .le 23, 3) := by decide +kernel
theorem dX10_bearing_58 : decode cX10_bearing 58 = .ok (.aload_n 0, 1) := by decide +kernel
theorem dX10_bearing_59 : decode cX10_bearing 59 = .ok (.iload 4, 2) := by decide +kernel
theorem dX10_bearing_61 : decode cX10_bearing 61 = .ok (.aload_n 1, 1) := by decide +kernel
theorem dX10_bearing_62 : decode cX10_bearing 62 = .ok (.getfield 24, 3) := by decide +kernel
theorem dX10_bearing_65 : decode cX10_bearing 65 = .ok (.iload_n 3, 1) := by decide +kernel
theorem dX10_bearing_66 : decode cX10_bearing 66 = .ok (.iconst 1, 1) := by decide +kernel
theorem dX10_bearing_67 : decode cX10_bearing 67 = .ok (.isub, 1) := by decide +kernel
theorem dX10_bearing_68 : decode cX10_bearing 68 = .ok (.iaload, 1) := by decide +kernel
theorem dX10_bearing_69 : decode cX10_bearing 69 = .ok (.invokevirtual 35, 3) := by decide +kernel
theorem dX10_bearing_72 : decode cX10_bearing 72 = .ok (.ifCond .eq 6, 3) := by decide +kernel
theorem dX10_bearing_75 : decode cX10_bearing 75 = .ok (.iinc 6 5, 3) := by decide +kernel
theorem dX10_bearing_78 : decode cX10_bearing 78 = .ok (.iload 5, 2) := by decide +kernel
theorem dX10_bearing_80 : decode cX10_bearing 80 = .ok (.iconst 2, 1) := by decide +kernel
theorem dX10_bearing_81 : decode cX10_bearing 81 = .ok (.if_icmp .ge 23, 3) := by decide +kernel
theorem dX10_bearing_84 : decode cX10_bearing 84 = .ok (.aload_n 0, 1) := by decide +kernel
theorem dX10_bearing_85 : decode cX10_bearing 85 = .ok (.iload 4, 2) := by decide +kernel
theorem dX10_bearing_87 : decode cX10_bearing 87 = .ok (.aload_n 1, 1) := by decide +kernel
theorem dX10_bearing_88 : decode cX10_bearing 88 = .ok (.getfield 24, 3) := by decide +kernel
theorem dX10_bearing_91 : decode cX10_bearing 91 = .ok (.iload_n 3, 1) := by decide +kernel
theorem dX10_bearing_92 : decode cX10_bearing 92 = .ok (.iconst 1, 1) := by decide +kernel
theorem dX10_bearing_93 : decode cX10_bearing 93 = .ok (.iadd, 1) := by decide +kernel
theorem dX10_bearing_94 : decode cX10_bearing 94 = .ok (.iaload, 1) := by decide +kernel
theorem dX10_bearing_95 : decode cX10_bearing 95 = .ok (.invokevirtual 35, 3) := by decide +kernel
theorem dX10_bearing_98 : decode cX10_bearing 98 = .ok (.ifCond .eq 6, 3) := by decide +kernel
theorem dX10_bearing_101 : decode cX10_bearing 101 = .ok (.iinc 6 5, 3) := by decide +kernel
theorem dX10_bearing_104 : decode cX10_bearing 104 = .ok (.iconst 0, 1) := by decide +kernel
theorem dX10_bearing_105 : decode cX10_bearing 105 = .ok (.iload 6, 2) := by decide +kernel
theorem dX10_bearing_107 : decode cX10_bearing 107 = .ok (.invokestatic 41, 3) := by decide +kernel
theorem dX10_bearing_110 : decode cX10_bearing 110 = .ok (.ireturn, 1) := by decide +kernel
theorem okc_X6_areLovers {kn : sKn} {cc : ByteArray} {own : String} {nL : Nat} {D : Nat} {ret : Option FieldType} {ini : Bool} {pc index : Nat} (hD : 1 + 1 ≤ D) (hl : Cond.methodLink own index yX6_areLovers ∈ wsL_law) (hd : decode cc pc = .ok (.invokevirtual index, 3)) : mOk kn cc own nL wsL_law D ret ini pc (a_callV false (fX6_areLovers kn) 7 (2 + 1) (pc + 3)) := ok_callV (mX6_areLovers kn) (good_ws ws_good (fun _ h => h) kw161) hD (by decide) hl kw163 kw164 kw162 ⟨by decide +kernel, by decide +kernel, by decide +kernel⟩ rfl hd
def tX10_bearing (kn : sKn) : List (Nat × sA) := [(0, a_aload 1 1), (1, a_get 9 6 4), (4, a_iload 3 5), (5, a_iald 6), (6, a_istore 4 8), (8, a_iload 4 10), (10, a_stk (q_int (-1)) 11), (11, a_icmp kn b_ne 1 16 14), (14, a_stk (q_int (-1)) 15), (15, a_iret), (16, a_iload 2 17), (17, a_iload 4 19), (19, a_stk q_ishr 20), (20, a_stk (q_int 1) 21), (21, a_stk q_iand 22), (22, a_if kn b_eq 0 27 25), (25, a_stk (q_int 0) 26), (26, a_iret), (27, a_iload 3 28), (28, a_stk (q_int 3) 29), (29, a_stk q_irem 30), (30, a_istore 5 32), (32, a_stk (q_int 10) 34), (34, a_aload 1 35), (35, a_get 9 3 38), (38, a_iload 4 40), (40, a_iald 41), (41, a_stk q_imul 42), (42, a_stk (q_int 5) 43), (43, a_aload 1 44), (44, a_get 9 7 47), (47, a_iload 3 48), (48, a_iald 49), (49, a_stk q_imul 50), (50, a_stk q_isub 51), (51, a_istore 6 53), (53, a_iload 5 55), (55, a_if kn b_le 5 78 58), (58, a_aload 0 59), (59, a_iload 4 61), (61, a_aload 1 62), (62, a_get 9 6 65), (65, a_iload 3 66), (66, a_stk (q_int 1) 67), (67, a_stk q_isub 68), (68, a_iald 69), (69, a_callV false (fX6_areLovers kn) 7 3 72), (72, a_if kn b_eq 0 78 75), (75, a_iinc 6 5 78), (78, a_iload 5 80), (80, a_stk (q_int 2) 81), (81, a_icmp kn b_ge 3 104 84), (84, a_aload 0 85), (85, a_iload 4 87), (87, a_aload 1 88), (88, a_get 9 6 91), (91, a_iload 3 92), (92, a_stk (q_int 1) 93), (93, a_stk q_iadd 94), (94, a_iald 95), (95, a_callV false (fX6_areLovers kn) 7 3 98), (98, a_if kn b_eq 0 104 101), (101, a_iinc 6 5 104), (104, a_stk (q_int 0) 105), (105, a_iload 6 107), (107, a_mmax 110), (110, a_iret)]
def fX10_bearing (kn : sKn) : List Value → sW → Option sR := fW (tX10_bearing kn) 7
set_option maxRecDepth 100000 in
set_option maxHeartbeats 4000000 in
theorem mX10_bearing (kn : sKn) : mM kn yX10_bearing (Cond.code yX10_bearing cX10_bearing 7 (some .int) :: wsL_law) 2 false (fX10_bearing kn) := mM_W (fun n => mM_of (own := RX10) (ini := false) rfl (by decide +kernel) (by decide +kernel) (all_c (ok_aload_n dX10_bearing_0 rfl) (all_c (okg_X8_6 kw158 dX10_bearing_1) (all_c (ok_iload_n dX10_bearing_4 rfl) (all_c (ok_iald dX10_bearing_5) (all_c (ok_istore dX10_bearing_6 (by decide)) (all_c (ok_iload dX10_bearing_8) (all_c (ok_stk (s_iconst dX10_bearing_10 (by decide))) (all_c (ok_icmp_ne dX10_bearing_11 (by decide)) (all_c (ok_stk (s_iconst dX10_bearing_14 (by decide))) (all_c (ok_iret dX10_bearing_15) (all_c (ok_iload_n dX10_bearing_16 rfl) (all_c (ok_iload dX10_bearing_17) (all_c (ok_stk (s_ishr dX10_bearing_19)) (all_c (ok_stk (s_iconst dX10_bearing_20 (by decide))) (all_c (ok_stk (s_iand dX10_bearing_21)) (all_c (ok_if_eq dX10_bearing_22 (by decide)) (all_c (ok_stk (s_iconst dX10_bearing_25 (by decide))) (all_c (ok_iret dX10_bearing_26) (all_c (ok_iload_n dX10_bearing_27 rfl) (all_c (ok_stk (s_iconst dX10_bearing_28 (by decide))) (all_c (ok_stk (s_irem dX10_bearing_29)) (all_c (ok_istore dX10_bearing_30 (by decide)) (all_c (ok_stk (s_bipush dX10_bearing_32 (by decide))) (all_c (ok_aload_n dX10_bearing_34 rfl) (all_c (okg_X8_3 kw159 dX10_bearing_35) (all_c (ok_iload dX10_bearing_38) (all_c (ok_iald dX10_bearing_40) (all_c (ok_stk (s_imul dX10_bearing_41)) (all_c (ok_stk (s_iconst dX10_bearing_42 (by decide))) (all_c (ok_aload_n dX10_bearing_43 rfl) (all_c (okg_X8_7 kw160 dX10_bearing_44) (all_c (ok_iload_n dX10_bearing_47 rfl) (all_c (ok_iald dX10_bearing_48) (all_c (ok_stk (s_imul dX10_bearing_49)) (all_c (ok_stk (s_isub dX10_bearing_50)) (all_c (ok_istore dX10_bearing_51 (by decide)) (all_c (ok_iload dX10_bearing_53) (all_c (ok_if_le dX10_bearing_55 (by decide)) (all_c (ok_aload_n dX10_bearing_58 rfl) (all_c (ok_iload dX10_bearing_59) (all_c (ok_aload_n dX10_bearing_61 rfl) (all_c (okg_X8_6 kw158 dX10_bearing_62) (all_c (ok_iload_n dX10_bearing_65 rfl) (all_c (ok_stk (s_iconst dX10_bearing_66 (by decide))) (all_c (ok_stk (s_isub dX10_bearing_67)) (all_c (ok_iald dX10_bearing_68) (all_c (okc_X6_areLovers (by decide) kw165 dX10_bearing_69) (all_c (ok_if_eq dX10_bearing_72 (by decide)) (all_c (ok_iinc dX10_bearing_75 (by decide) (by decide)) (all_c (ok_iload dX10_bearing_78) (all_c (ok_stk (s_iconst dX10_bearing_80 (by decide))) (all_c (ok_icmp_ge dX10_bearing_81 (by decide)) (all_c (ok_aload_n dX10_bearing_84 rfl) (all_c (ok_iload dX10_bearing_85) (all_c (ok_aload_n dX10_bearing_87 rfl) (all_c (okg_X8_6 kw158 dX10_bearing_88) (all_c (ok_iload_n dX10_bearing_91 rfl) (all_c (ok_stk (s_iconst dX10_bearing_92 (by decide))) (all_c (ok_stk (s_iadd dX10_bearing_93)) (all_c (ok_iald dX10_bearing_94) (all_c (okc_X6_areLovers (by decide) kw165 dX10_bearing_95) (all_c (ok_if_eq dX10_bearing_98 (by decide)) (all_c (ok_iinc dX10_bearing_101 (by decide) (by decide)) (all_c (ok_stk (s_iconst dX10_bearing_104 (by decide))) (all_c (ok_iload dX10_bearing_105) (all_c (ok_mmax (by decide) kw166 kw37 kw38 kw39 dX10_bearing_107) (all_c (ok_iret dX10_bearing_110) all_n))))))))))))))))))))))))))))))))))))))))))))))))))))))))))))))))))) n (fun h => by first | rfl | cases h))
theorem dX0_bearTogether_0 : decode cX0_bearTogether 0 = .ok (.iconst 0, 1) := by decide +kernel
theorem dX0_bearTogether_1 : decode cX0_bearTogether 1 = .ok (.istore 4, 2) := by decide +kernel
theorem dX0_bearTogether_3 : decode cX0_bearTogether 3 = .ok (.iload_n 2, 1) := by decide +kernel
theorem dX0_bearTogether_4 : decode cX0_bearTogether 4 = .ok (.istore 5, 2) := by decide +kernel
theorem dX0_bearTogether_6 : decode cX0_bearTogether 6 = .ok (.iload 5, 2) := by decide +kernel
theorem dX0_bearTogether_8 : decode cX0_bearTogether 8 = .ok (.iload_n 3, 1) := by decide +kernel
theorem dX0_bearTogether_9 : decode cX0_bearTogether 9 = .ok (.if_icmp .ge 28, 3) := by decide +kernel
theorem dX0_bearTogether_12 : decode cX0_bearTogether 12 = .ok (.iload 4, 2) := by decide +kernel
theorem dX0_bearTogether_14 : decode cX0_bearTogether 14 = .ok (.aload_n 1, 1) := by decide +kernel
theorem dX0_bearTogether_15 : decode cX0_bearTogether 15 = .ok (.aload_n 0, 1) := by decide +kernel
theorem dX0_bearTogether_16 : decode cX0_bearTogether 16 = .ok (.getfield 12, 3) := by decide +kernel
theorem dX0_bearTogether_19 : decode cX0_bearTogether 19 = .ok (.aload_n 1, 1) := by decide +kernel
theorem dX0_bearTogether_20 : decode cX0_bearTogether 20 = .ok (.getfield 96, 3) := by decide +kernel
theorem dX0_bearTogether_23 : decode cX0_bearTogether 23 = .ok (.iload 5, 2) := by decide +kernel
theorem dX0_bearTogether_25 : decode cX0_bearTogether 25 = .ok (.invokestatic 99, 3) := by decide +kernel
theorem dX0_bearTogether_28 : decode cX0_bearTogether 28 = .ok (.iadd, 1) := by decide +kernel
theorem dX0_bearTogether_29 : decode cX0_bearTogether 29 = .ok (.istore 4, 2) := by decide +kernel
theorem dX0_bearTogether_31 : decode cX0_bearTogether 31 = .ok (.iinc 5 1, 3) := by decide +kernel
theorem dX0_bearTogether_34 : decode cX0_bearTogether 34 = .ok (.goto (-28), 3) := by decide +kernel
theorem dX0_bearTogether_37 : decode cX0_bearTogether 37 = .ok (.iload 4, 2) := by decide +kernel
theorem dX0_bearTogether_39 : decode cX0_bearTogether 39 = .ok (.ireturn, 1) := by decide +kernel
theorem okc_X10_bearing {kn : sKn} {cc : ByteArray} {own : String} {nL : Nat} {D : Nat} {ret : Option FieldType} {ini : Bool} {pc index : Nat} (hD : 2 + 1 ≤ D) (hl : Cond.methodLink own index yX10_bearing ∈ wsL_law) (hd : decode cc pc = .ok (.invokestatic index, 3)) : mOk kn cc own nL wsL_law D ret ini pc (a_callS false (fX10_bearing kn) 4 (pc + 3)) := ok_callS (mX10_bearing kn) (good_ws ws_good (fun _ h => h) kw169) hD (by decide) hl kw171 kw170 ⟨by decide +kernel, by decide +kernel, by decide +kernel⟩ hd
def tX0_bearTogether (kn : sKn) : List (Nat × sA) := [(0, a_stk (q_int 0) 1), (1, a_istore 4 3), (3, a_iload 2 4), (4, a_istore 5 6), (6, a_iload 5 8), (8, a_iload 3 9), (9, a_icmp kn b_ge 3 37 12), (12, a_iload 4 14), (14, a_aload 1 15), (15, a_aload 0 16), (16, a_get 1 0 19), (19, a_aload 1 20), (20, a_get 7 5 23), (23, a_iload 5 25), (25, a_callS false (fX10_bearing kn) 4 28), (28, a_stk q_iadd 29), (29, a_istore 4 31), (31, a_iinc 5 1 34), (34, a_goto 6), (37, a_iload 4 39), (39, a_iret)]
def fX0_bearTogether (kn : sKn) : List Value → sW → Option sR := fW (tX0_bearTogether kn) 6
set_option maxRecDepth 100000 in
set_option maxHeartbeats 4000000 in
theorem mX0_bearTogether (kn : sKn) : mM kn yX0_bearTogether (Cond.code yX0_bearTogether cX0_bearTogether 6 (some .int) :: wsL_law) 3 false (fX0_bearTogether kn) := mM_W (fun n => mM_of (own := RX0) (ini := false) rfl (by decide +kernel) (by decide +kernel) (all_c (ok_stk (s_iconst dX0_bearTogether_0 (by decide))) (all_c (ok_istore dX0_bearTogether_1 (by decide)) (all_c (ok_iload_n dX0_bearTogether_3 rfl) (all_c (ok_istore dX0_bearTogether_4 (by decide)) (all_c (ok_iload dX0_bearTogether_6) (all_c (ok_iload_n dX0_bearTogether_8 rfl) (all_c (ok_icmp_ge dX0_bearTogether_9 (by decide)) (all_c (ok_iload dX0_bearTogether_12) (all_c (ok_aload_n dX0_bearTogether_14 rfl) (all_c (ok_aload_n dX0_bearTogether_15 rfl) (all_c (okg_X0_0 kw167 dX0_bearTogether_16) (all_c (ok_aload_n dX0_bearTogether_19 rfl) (all_c (okg_X6_5 kw168 dX0_bearTogether_20) (all_c (ok_iload dX0_bearTogether_23) (all_c (okc_X10_bearing (by decide) kw172 dX0_bearTogether_25) (all_c (ok_stk (s_iadd dX0_bearTogether_28)) (all_c (ok_istore dX0_bearTogether_29 (by decide)) (all_c (ok_iinc dX0_bearTogether_31 (by decide) (by decide)) (all_c (ok_goto dX0_bearTogether_34 (by decide)) (all_c (ok_iload dX0_bearTogether_37) (all_c (ok_iret dX0_bearTogether_39) all_n))))))))))))))))))))) n (fun h => by first | rfl | cases h))
theorem dX0_countWays_0 : decode cX0_countWays 0 = .ok (.iconst 1, 1) := by decide +kernel
theorem dX0_countWays_1 : decode cX0_countWays 1 = .ok (.istore 5, 2) := by decide +kernel
theorem dX0_countWays_3 : decode cX0_countWays 3 = .ok (.iload_n 3, 1) := by decide +kernel
theorem dX0_countWays_4 : decode cX0_countWays 4 = .ok (.istore 6, 2) := by decide +kernel
theorem dX0_countWays_6 : decode cX0_countWays 6 = .ok (.iload 6, 2) := by decide +kernel
theorem dX0_countWays_8 : decode cX0_countWays 8 = .ok (.iload 4, 2) := by decide +kernel
theorem dX0_countWays_10 : decode cX0_countWays 10 = .ok (.if_icmp .ge 29, 3) := by decide +kernel
theorem dX0_countWays_13 : decode cX0_countWays 13 = .ok (.aload_n 2, 1) := by decide +kernel
theorem dX0_countWays_14 : decode cX0_countWays 14 = .ok (.getfield 77, 3) := by decide +kernel
theorem dX0_countWays_17 : decode cX0_countWays 17 = .ok (.iload 6, 2) := by decide +kernel
theorem dX0_countWays_19 : decode cX0_countWays 19 = .ok (.iaload, 1) := by decide +kernel
theorem dX0_countWays_20 : decode cX0_countWays 20 = .ok (.iconst (-1), 1) := by decide +kernel
theorem dX0_countWays_21 : decode cX0_countWays 21 = .ok (.if_icmp .ne 12, 3) := by decide +kernel
theorem dX0_countWays_24 : decode cX0_countWays 24 = .ok (.iload 5, 2) := by decide +kernel
theorem dX0_countWays_26 : decode cX0_countWays 26 = .ok (.aload_n 1, 1) := by decide +kernel
theorem dX0_countWays_27 : decode cX0_countWays 27 = .ok (.getfield 86, 3) := by decide +kernel
theorem dX0_countWays_30 : decode cX0_countWays 30 = .ok (.imul, 1) := by decide +kernel
theorem dX0_countWays_31 : decode cX0_countWays 31 = .ok (.istore 5, 2) := by decide +kernel
theorem dX0_countWays_33 : decode cX0_countWays 33 = .ok (.iinc 6 1, 3) := by decide +kernel
theorem dX0_countWays_36 : decode cX0_countWays 36 = .ok (.goto (-30), 3) := by decide +kernel
theorem dX0_countWays_39 : decode cX0_countWays 39 = .ok (.iload 5, 2) := by decide +kernel
theorem dX0_countWays_41 : decode cX0_countWays 41 = .ok (.ireturn, 1) := by decide +kernel
def tX0_countWays (kn : sKn) : List (Nat × sA) := [(0, a_stk (q_int 1) 1), (1, a_istore 5 3), (3, a_iload 3 4), (4, a_istore 6 6), (6, a_iload 6 8), (8, a_iload 4 10), (10, a_icmp kn b_ge 3 39 13), (13, a_aload 2 14), (14, a_get 9 6 17), (17, a_iload 6 19), (19, a_iald 20), (20, a_stk (q_int (-1)) 21), (21, a_icmp kn b_ne 1 33 24), (24, a_iload 5 26), (26, a_aload 1 27), (27, a_get 7 2 30), (30, a_stk q_imul 31), (31, a_istore 5 33), (33, a_iinc 6 1 36), (36, a_goto 6), (39, a_iload 5 41), (41, a_iret)]
def fX0_countWays (kn : sKn) : List Value → sW → Option sR := fW (tX0_countWays kn) 7
set_option maxRecDepth 100000 in
set_option maxHeartbeats 4000000 in
theorem mX0_countWays (kn : sKn) : mM kn yX0_countWays (Cond.code yX0_countWays cX0_countWays 7 (some .int) :: wsL_law) 1 false (fX0_countWays kn) := mM_W (fun n => mM_of (own := RX0) (ini := false) rfl (by decide +kernel) (by decide +kernel) (all_c (ok_stk (s_iconst dX0_countWays_0 (by decide))) (all_c (ok_istore dX0_countWays_1 (by decide)) (all_c (ok_iload_n dX0_countWays_3 rfl) (all_c (ok_istore dX0_countWays_4 (by decide)) (all_c (ok_iload dX0_countWays_6) (all_c (ok_iload dX0_countWays_8) (all_c (ok_icmp_ge dX0_countWays_10 (by decide)) (all_c (ok_aload_n dX0_countWays_13 rfl) (all_c (okg_X8_6 kw173 dX0_countWays_14) (all_c (ok_iload dX0_countWays_17) (all_c (ok_iald dX0_countWays_19) (all_c (ok_stk (s_iconst dX0_countWays_20 (by decide))) (all_c (ok_icmp_ne dX0_countWays_21 (by decide)) (all_c (ok_iload dX0_countWays_24) (all_c (ok_aload_n dX0_countWays_26 rfl) (all_c (okg_X6_2 kw174 dX0_countWays_27) (all_c (ok_stk (s_imul dX0_countWays_30)) (all_c (ok_istore dX0_countWays_31 (by decide)) (all_c (ok_iinc dX0_countWays_33 (by decide) (by decide)) (all_c (ok_goto dX0_countWays_36 (by decide)) (all_c (ok_iload dX0_countWays_39) (all_c (ok_iret dX0_countWays_41) all_n)))))))))))))))))))))) n (fun h => by first | rfl | cases h))
theorem dX0_followFirst_0 : decode cX0_followFirst 0 = .ok (.aload_n 0, 1) := by decide +kernel
theorem dX0_followFirst_1 : decode cX0_followFirst 1 = .ok (.getfield 28, 3) := by decide +kernel
theorem dX0_followFirst_4 : decode cX0_followFirst 4 = .ok (.iconst (-1), 1) := by decide +kernel
theorem dX0_followFirst_5 : decode cX0_followFirst 5 = .ok (.invokestatic 31, 3) := by decide +kernel
theorem dX0_followFirst_8 : decode cX0_followFirst 8 = .ok (.bipush 15, 2) := by decide +kernel
theorem dX0_followFirst_10 : decode cX0_followFirst 10 = .ok (.istore 4, 2) := by decide +kernel
theorem dX0_followFirst_12 : decode cX0_followFirst 12 = .ok (.iconst 0, 1) := by decide +kernel
theorem dX0_followFirst_13 : decode cX0_followFirst 13 = .ok (.istore 5, 2) := by decide +kernel
theorem dX0_followFirst_15 : decode cX0_followFirst 15 = .ok (.iload 5, 2) := by decide +kernel
theorem dX0_followFirst_17 : decode cX0_followFirst 17 = .ok (.aload_n 1, 1) := by decide +kernel
theorem dX0_followFirst_18 : decode cX0_followFirst 18 = .ok (.getfield 41, 3) := by decide +kernel
theorem dX0_followFirst_21 : decode cX0_followFirst 21 = .ok (.if_icmp .ge 151, 3) := by decide +kernel
theorem dX0_followFirst_24 : decode cX0_followFirst 24 = .ok (.aload_n 0, 1) := by decide +kernel
theorem dX0_followFirst_25 : decode cX0_followFirst 25 = .ok (.iload 5, 2) := by decide +kernel
theorem dX0_followFirst_27 : decode cX0_followFirst 27 = .ok (.iload 4, 2) := by decide +kernel
theorem dX0_followFirst_29 : decode cX0_followFirst 29 = .ok (.invokevirtual 107, 3) := by decide +kernel
theorem dX0_followFirst_32 : decode cX0_followFirst 32 = .ok (.istore 6, 2) := by decide +kernel
theorem dX0_followFirst_34 : decode cX0_followFirst 34 = .ok (.iconst 0, 1) := by decide +kernel
theorem dX0_followFirst_35 : decode cX0_followFirst 35 = .ok (.istore 7, 2) := by decide +kernel
theorem dX0_followFirst_37 : decode cX0_followFirst 37 = .ok (.iload 7, 2) := by decide +kernel
theorem dX0_followFirst_39 : decode cX0_followFirst 39 = .ok (.iconst 3, 1) := by decide +kernel
theorem dX0_followFirst_40 : decode cX0_followFirst 40 = .ok (.if_icmp .ge 36, 3) := by decide +kernel
theorem dX0_followFirst_43 : decode cX0_followFirst 43 = .ok (.iload 4, 2) := by decide +kernel
theorem dX0_followFirst_45 : decode cX0_followFirst 45 = .ok (.iload 7, 2) := by decide +kernel
theorem dX0_followFirst_47 : decode cX0_followFirst 47 = .ok (.ishr, 1) := by decide +kernel
theorem dX0_followFirst_48 : decode cX0_followFirst 48 = .ok (.iconst 1, 1) := by decide +kernel
theorem dX0_followFirst_49 : decode cX0_followFirst 49 = .ok (.iand, 1) := by decide +kernel
theorem dX0_followFirst_50 : decode cX0_followFirst 50 = .ok (.ifCond .eq 20, 3) := by decide +kernel
theorem dX0_followFirst_53 : decode cX0_followFirst 53 = .ok (.aload_n 0, 1) := by decide +kernel
theorem dX0_followFirst_54 : decode cX0_followFirst 54 = .ok (.getfield 22, 3) := by decide +kernel
theorem dX0_followFirst_57 : decode cX0_followFirst 57 = .ok (.iconst 4, 1) := by decide +kernel
theorem dX0_followFirst_58 : decode cX0_followFirst 58 = .ok (.iload 5, 2) := by decide +kernel
theorem dX0_followFirst_60 : decode cX0_followFirst 60 = .ok (.imul, 1) := by decide +kernel
theorem dX0_followFirst_61 : decode cX0_followFirst 61 = .ok (.iload 7, 2) := by decide +kernel
theorem dX0_followFirst_63 : decode cX0_followFirst 63 = .ok (.iadd, 1) := by decide +kernel
theorem dX0_followFirst_64 : decode cX0_followFirst 64 = .ok (.iaload, 1) := by decide +kernel
theorem dX0_followFirst_65 : decode cX0_followFirst 65 = .ok (.iload 6, 2) := by decide +kernel
theorem dX0_followFirst_67 : decode cX0_followFirst 67 = .ok (.if_icmp .eq 9, 3) := by decide +kernel
theorem dX0_followFirst_70 : decode cX0_followFirst 70 = .ok (.iinc 7 1, 3) := by decide +kernel
theorem dX0_followFirst_73 : decode cX0_followFirst 73 = .ok (.goto (-36), 3) := by decide +kernel
theorem dX0_followFirst_76 : decode cX0_followFirst 76 = .ok (.iconst 0, 1) := by decide +kernel
theorem dX0_followFirst_77 : decode cX0_followFirst 77 = .ok (.istore 8, 2) := by decide +kernel
theorem dX0_followFirst_79 : decode cX0_followFirst 79 = .ok (.iload 8, 2) := by decide +kernel
theorem dX0_followFirst_81 : decode cX0_followFirst 81 = .ok (.aload_n 1, 1) := by decide +kernel
theorem dX0_followFirst_82 : decode cX0_followFirst 82 = .ok (.getfield 63, 3) := by decide +kernel
theorem dX0_followFirst_85 : decode cX0_followFirst 85 = .ok (.iload_n 3, 1) := by decide +kernel
theorem dX0_followFirst_86 : decode cX0_followFirst 86 = .ok (.iaload, 1) := by decide +kernel
theorem dX0_followFirst_87 : decode cX0_followFirst 87 = .ok (.if_icmp .ge 69, 3) := by decide +kernel
theorem dX0_followFirst_90 : decode cX0_followFirst 90 = .ok (.iload 7, 2) := by decide +kernel
theorem dX0_followFirst_92 : decode cX0_followFirst 92 = .ok (.iconst 3, 1) := by decide +kernel
theorem dX0_followFirst_93 : decode cX0_followFirst 93 = .ok (.if_icmp .eq 63, 3) := by decide +kernel
theorem dX0_followFirst_96 : decode cX0_followFirst 96 = .ok (.iconst 3, 1) := by decide +kernel
theorem dX0_followFirst_97 : decode cX0_followFirst 97 = .ok (.iload 5, 2) := by decide +kernel
theorem dX0_followFirst_99 : decode cX0_followFirst 99 = .ok (.imul, 1) := by decide +kernel
theorem dX0_followFirst_100 : decode cX0_followFirst 100 = .ok (.iload 7, 2) := by decide +kernel
theorem dX0_followFirst_102 : decode cX0_followFirst 102 = .ok (.iadd, 1) := by decide +kernel
theorem dX0_followFirst_103 : decode cX0_followFirst 103 = .ok (.iload 8, 2) := by decide +kernel
theorem dX0_followFirst_105 : decode cX0_followFirst 105 = .ok (.iadd, 1) := by decide +kernel
theorem dX0_followFirst_106 : decode cX0_followFirst 106 = .ok (.istore 9, 2) := by decide +kernel
theorem dX0_followFirst_108 : decode cX0_followFirst 108 = .ok (.iload 9, 2) := by decide +kernel
theorem dX0_followFirst_110 : decode cX0_followFirst 110 = .ok (.bipush 36, 2) := by decide +kernel
theorem dX0_followFirst_112 : decode cX0_followFirst 112 = .ok (.if_icmp .ge 38, 3) := by decide +kernel
theorem dX0_followFirst_115 : decode cX0_followFirst 115 = .ok (.aload_n 2, 1) := by decide +kernel
theorem dX0_followFirst_116 : decode cX0_followFirst 116 = .ok (.getfield 77, 3) := by decide +kernel
theorem dX0_followFirst_119 : decode cX0_followFirst 119 = .ok (.iload 9, 2) := by decide +kernel
theorem dX0_followFirst_121 : decode cX0_followFirst 121 = .ok (.iaload, 1) := by decide +kernel
theorem dX0_followFirst_122 : decode cX0_followFirst 122 = .ok (.iconst (-1), 1) := by decide +kernel
theorem dX0_followFirst_123 : decode cX0_followFirst 123 = .ok (.if_icmp .ne 27, 3) := by decide +kernel
theorem dX0_followFirst_126 : decode cX0_followFirst 126 = .ok (.aload_n 0, 1) := by decide +kernel
theorem dX0_followFirst_127 : decode cX0_followFirst 127 = .ok (.getfield 28, 3) := by decide +kernel
theorem dX0_followFirst_130 : decode cX0_followFirst 130 = .ok (.iload 9, 2) := by decide +kernel
theorem dX0_followFirst_132 : decode cX0_followFirst 132 = .ok (.aload_n 0, 1) := by decide +kernel
theorem dX0_followFirst_133 : decode cX0_followFirst 133 = .ok (.getfield 25, 3) := by decide +kernel
theorem dX0_followFirst_136 : decode cX0_followFirst 136 = .ok (.iconst 3, 1) := by decide +kernel
theorem dX0_followFirst_137 : decode cX0_followFirst 137 = .ok (.iconst 4, 1) := by decide +kernel
theorem dX0_followFirst_138 : decode cX0_followFirst 138 = .ok (.iload 5, 2) := by decide +kernel
theorem dX0_followFirst_140 : decode cX0_followFirst 140 = .ok (.imul, 1) := by decide +kernel
theorem dX0_followFirst_141 : decode cX0_followFirst 141 = .ok (.iload 7, 2) := by decide +kernel
theorem dX0_followFirst_143 : decode cX0_followFirst 143 = .ok (.iadd, 1) := by decide +kernel
theorem dX0_followFirst_144 : decode cX0_followFirst 144 = .ok (.imul, 1) := by decide +kernel
theorem dX0_followFirst_145 : decode cX0_followFirst 145 = .ok (.iload 8, 2) := by decide +kernel
theorem dX0_followFirst_147 : decode cX0_followFirst 147 = .ok (.iadd, 1) := by decide +kernel
theorem dX0_followFirst_148 : decode cX0_followFirst 148 = .ok (.iaload, 1) := by decide +kernel
theorem dX0_followFirst_149 : decode cX0_followFirst 149 = .ok (.iastore, 1) := by decide +kernel
theorem dX0_followFirst_150 : decode cX0_followFirst 150 = .ok (.iinc 8 1, 3) := by decide +kernel
theorem dX0_followFirst_153 : decode cX0_followFirst 153 = .ok (.goto (-74), 3) := by decide +kernel
theorem dX0_followFirst_156 : decode cX0_followFirst 156 = .ok (.getstatic 104, 3) := by decide +kernel
theorem dX0_followFirst_159 : decode cX0_followFirst 159 = .ok (.iconst 1, 1) := by decide +kernel
theorem dX0_followFirst_160 : decode cX0_followFirst 160 = .ok (.iload 7, 2) := by decide +kernel
theorem dX0_followFirst_162 : decode cX0_followFirst 162 = .ok (.ishl, 1) := by decide +kernel
theorem dX0_followFirst_163 : decode cX0_followFirst 163 = .ok (.iaload, 1) := by decide +kernel
theorem dX0_followFirst_164 : decode cX0_followFirst 164 = .ok (.istore 4, 2) := by decide +kernel
theorem dX0_followFirst_166 : decode cX0_followFirst 166 = .ok (.iinc 5 1, 3) := by decide +kernel
theorem dX0_followFirst_169 : decode cX0_followFirst 169 = .ok (.goto (-154), 3) := by decide +kernel
theorem dX0_followFirst_172 : decode cX0_followFirst 172 = .ok (.return_, 1) := by decide +kernel
theorem okc_J7_fill_53178 {kn : sKn} {cc : ByteArray} {own : String} {nL : Nat} {D : Nat} {ret : Option FieldType} {ini : Bool} {pc index : Nat} (hD : 1 + 1 ≤ D) (hl : Cond.methodLink own index yJ7_fill_53178 ∈ wsL_law) (hd : decode cc pc = .ok (.invokestatic index, 3)) : mOk kn cc own nL wsL_law D ret ini pc (a_callS true (fJ7_fill_53178 kn) 2 (pc + 3)) := ok_callS (mJ7_fill_53178 kn) (good_ws ws_good (fun _ h => h) kw176) hD (by decide) hl kw177 kw62 ⟨by decide +kernel, by decide +kernel, by decide +kernel⟩ hd
def tX0_followFirst (kn : sKn) : List (Nat × sA) := [(0, a_aload 0 1), (1, a_get 1 4 4), (4, a_stk (q_int (-1)) 5), (5, a_callS true (fJ7_fill_53178 kn) 2 8), (8, a_stk (q_int 15) 10), (10, a_istore 4 12), (12, a_stk (q_int 0) 13), (13, a_istore 5 15), (15, a_iload 5 17), (17, a_aload 1 18), (18, a_get 7 0 21), (21, a_icmp kn b_ge 3 172 24), (24, a_aload 0 25), (25, a_iload 5 27), (27, a_iload 4 29), (29, a_callV false (fX0_leastOpen kn) 1 3 32), (32, a_istore 6 34), (34, a_stk (q_int 0) 35), (35, a_istore 7 37), (37, a_iload 7 39), (39, a_stk (q_int 3) 40), (40, a_icmp kn b_ge 3 76 43), (43, a_iload 4 45), (45, a_iload 7 47), (47, a_stk q_ishr 48), (48, a_stk (q_int 1) 49), (49, a_stk q_iand 50), (50, a_if kn b_eq 0 70 53), (53, a_aload 0 54), (54, a_get 1 2 57), (57, a_stk (q_int 4) 58), (58, a_iload 5 60), (60, a_stk q_imul 61), (61, a_iload 7 63), (63, a_stk q_iadd 64), (64, a_iald 65), (65, a_iload 6 67), (67, a_icmp kn b_eq 0 76 70), (70, a_iinc 7 1 73), (73, a_goto 37), (76, a_stk (q_int 0) 77), (77, a_istore 8 79), (79, a_iload 8 81), (81, a_aload 1 82), (82, a_get 7 14 85), (85, a_iload 3 86), (86, a_iald 87), (87, a_icmp kn b_ge 3 156 90), (90, a_iload 7 92), (92, a_stk (q_int 3) 93), (93, a_icmp kn b_eq 0 156 96), (96, a_stk (q_int 3) 97), (97, a_iload 5 99), (99, a_stk q_imul 100), (100, a_iload 7 102), (102, a_stk q_iadd 103), (103, a_iload 8 105), (105, a_stk q_iadd 106), (106, a_istore 9 108), (108, a_iload 9 110), (110, a_stk (q_int 36) 112), (112, a_icmp kn b_ge 3 150 115), (115, a_aload 2 116), (116, a_get 9 6 119), (119, a_iload 9 121), (121, a_iald 122), (122, a_stk (q_int (-1)) 123), (123, a_icmp kn b_ne 1 150 126), (126, a_aload 0 127), (127, a_get 1 4 130), (130, a_iload 9 132), (132, a_aload 0 133), (133, a_get 1 3 136), (136, a_stk (q_int 3) 137), (137, a_stk (q_int 4) 138), (138, a_iload 5 140), (140, a_stk q_imul 141), (141, a_iload 7 143), (143, a_stk q_iadd 144), (144, a_stk q_imul 145), (145, a_iload 8 147), (147, a_stk q_iadd 148), (148, a_iald 149), (149, a_iast 150), (150, a_iinc 8 1 153), (153, a_goto 79), (156, a_gets 1000000 159), (159, a_stk (q_int 1) 160), (160, a_iload 7 162), (162, a_stk q_ishl 163), (163, a_iald 164), (164, a_istore 4 166), (166, a_iinc 5 1 169), (169, a_goto 15), (172, a_vret)]
def fX0_followFirst (kn : sKn) : List Value → sW → Option sR := fW (tX0_followFirst kn) 10
set_option maxRecDepth 100000 in
set_option maxHeartbeats 4000000 in
theorem mX0_followFirst (kn : sKn) : mM kn yX0_followFirst (Cond.code yX0_followFirst cX0_followFirst 10 none :: wsL_law) 2 true (fX0_followFirst kn) := mM_W (fun n => mM_of (own := RX0) (ini := false) rfl (by decide +kernel) (by decide +kernel) (all_c (ok_aload_n dX0_followFirst_0 rfl) (all_c (okg_X0_4 kw175 dX0_followFirst_1) (all_c (ok_stk (s_iconst dX0_followFirst_4 (by decide))) (all_c (okc_J7_fill_53178 (by decide) kw178 dX0_followFirst_5) (all_c (ok_stk (s_bipush dX0_followFirst_8 (by decide))) (all_c (ok_istore dX0_followFirst_10 (by decide)) (all_c (ok_stk (s_iconst dX0_followFirst_12 (by decide))) (all_c (ok_istore dX0_followFirst_13 (by decide)) (all_c (ok_iload dX0_followFirst_15) (all_c (ok_aload_n dX0_followFirst_17 rfl) (all_c (okg_X6_0 kw179 dX0_followFirst_18) (all_c (ok_icmp_ge dX0_followFirst_21 (by decide)) (all_c (ok_aload_n dX0_followFirst_24 rfl) (all_c (ok_iload dX0_followFirst_25) (all_c (ok_iload dX0_followFirst_27) (all_c (okc_X0_leastOpen (by decide) kw155 dX0_followFirst_29) (all_c (ok_istore dX0_followFirst_32 (by decide)) (all_c (ok_stk (s_iconst dX0_followFirst_34 (by decide))) (all_c (ok_istore dX0_followFirst_35 (by decide)) (all_c (ok_iload dX0_followFirst_37) (all_c (ok_stk (s_iconst dX0_followFirst_39 (by decide))) (all_c (ok_icmp_ge dX0_followFirst_40 (by decide)) (all_c (ok_iload dX0_followFirst_43) (all_c (ok_iload dX0_followFirst_45) (all_c (ok_stk (s_ishr dX0_followFirst_47)) (all_c (ok_stk (s_iconst dX0_followFirst_48 (by decide))) (all_c (ok_stk (s_iand dX0_followFirst_49)) (all_c (ok_if_eq dX0_followFirst_50 (by decide)) (all_c (ok_aload_n dX0_followFirst_53 rfl) (all_c (okg_X0_2 kw149 dX0_followFirst_54) (all_c (ok_stk (s_iconst dX0_followFirst_57 (by decide))) (all_c (ok_iload dX0_followFirst_58) (all_c (ok_stk (s_imul dX0_followFirst_60)) (all_c (ok_iload dX0_followFirst_61) (all_c (ok_stk (s_iadd dX0_followFirst_63)) (all_c (ok_iald dX0_followFirst_64) (all_c (ok_iload dX0_followFirst_65) (all_c (ok_icmp_eq dX0_followFirst_67 (by decide)) (all_c (ok_iinc dX0_followFirst_70 (by decide) (by decide)) (all_c (ok_goto dX0_followFirst_73 (by decide)) (all_c (ok_stk (s_iconst dX0_followFirst_76 (by decide))) (all_c (ok_istore dX0_followFirst_77 (by decide)) (all_c (ok_iload dX0_followFirst_79) (all_c (ok_aload_n dX0_followFirst_81 rfl) (all_c (okg_X6_14 kw180 dX0_followFirst_82) (all_c (ok_iload_n dX0_followFirst_85 rfl) (all_c (ok_iald dX0_followFirst_86) (all_c (ok_icmp_ge dX0_followFirst_87 (by decide)) (all_c (ok_iload dX0_followFirst_90) (all_c (ok_stk (s_iconst dX0_followFirst_92 (by decide))) (all_c (ok_icmp_eq dX0_followFirst_93 (by decide)) (all_c (ok_stk (s_iconst dX0_followFirst_96 (by decide))) (all_c (ok_iload dX0_followFirst_97) (all_c (ok_stk (s_imul dX0_followFirst_99)) (all_c (ok_iload dX0_followFirst_100) (all_c (ok_stk (s_iadd dX0_followFirst_102)) (all_c (ok_iload dX0_followFirst_103) (all_c (ok_stk (s_iadd dX0_followFirst_105)) (all_c (ok_istore dX0_followFirst_106 (by decide)) (all_c (ok_iload dX0_followFirst_108) (all_c (ok_stk (s_bipush dX0_followFirst_110 (by decide))) (all_c (ok_icmp_ge dX0_followFirst_112 (by decide)) (all_c (ok_aload_n dX0_followFirst_115 rfl) (all_c (okg_X8_6 kw173 dX0_followFirst_116) (all_c (ok_iload dX0_followFirst_119) (all_c (ok_iald dX0_followFirst_121) (all_c (ok_stk (s_iconst dX0_followFirst_122 (by decide))) (all_c (ok_icmp_ne dX0_followFirst_123 (by decide)) (all_c (ok_aload_n dX0_followFirst_126 rfl) (all_c (okg_X0_4 kw175 dX0_followFirst_127) (all_c (ok_iload dX0_followFirst_130) (all_c (ok_aload_n dX0_followFirst_132 rfl) (all_c (okg_X0_3 kw181 dX0_followFirst_133) (all_c (ok_stk (s_iconst dX0_followFirst_136 (by decide))) (all_c (ok_stk (s_iconst dX0_followFirst_137 (by decide))) (all_c (ok_iload dX0_followFirst_138) (all_c (ok_stk (s_imul dX0_followFirst_140)) (all_c (ok_iload dX0_followFirst_141) (all_c (ok_stk (s_iadd dX0_followFirst_143)) (all_c (ok_stk (s_imul dX0_followFirst_144)) (all_c (ok_iload dX0_followFirst_145) (all_c (ok_stk (s_iadd dX0_followFirst_147)) (all_c (ok_iald dX0_followFirst_148) (all_c (ok_iast dX0_followFirst_149) (all_c (ok_iinc dX0_followFirst_150 (by decide) (by decide)) (all_c (ok_goto dX0_followFirst_153 (by decide)) (all_c (ok_openN (by decide +kernel) dX0_followFirst_156) (all_c (ok_stk (s_iconst dX0_followFirst_159 (by decide))) (all_c (ok_iload dX0_followFirst_160) (all_c (ok_stk (s_ishl dX0_followFirst_162)) (all_c (ok_iald dX0_followFirst_163) (all_c (ok_istore dX0_followFirst_164 (by decide)) (all_c (ok_iinc dX0_followFirst_166 (by decide) (by decide)) (all_c (ok_goto dX0_followFirst_169 (by decide)) (all_c (ok_vret dX0_followFirst_172) all_n))))))))))))))))))))))))))))))))))))))))))))))))))))))))))))))))))))))))))))))))))))))))))))))) n (fun h => by first | rfl | cases h))
theorem dX8_lives_0 : decode cX8_lives 0 = .ok (.aload_n 0, 1) := by decide +kernel
theorem dX8_lives_1 : decode cX8_lives 1 = .ok (.getfield 15, 3) := by decide +kernel
theorem dX8_lives_4 : decode cX8_lives 4 = .ok (.iload_n 1, 1) := by decide +kernel
theorem dX8_lives_5 : decode cX8_lives 5 = .ok (.iaload, 1) := by decide +kernel
theorem dX8_lives_6 : decode cX8_lives 6 = .ok (.iconst (-1), 1) := by decide +kernel
theorem dX8_lives_7 : decode cX8_lives 7 = .ok (.if_icmp .ne 7, 3) := by decide +kernel
theorem dX8_lives_10 : decode cX8_lives 10 = .ok (.iconst 1, 1) := by decide +kernel
theorem dX8_lives_11 : decode cX8_lives 11 = .ok (.goto 4, 3) := by decide +kernel
theorem dX8_lives_14 : decode cX8_lives 14 = .ok (.iconst 0, 1) := by decide +kernel
theorem dX8_lives_15 : decode cX8_lives 15 = .ok (.ireturn, 1) := by decide +kernel
def tX8_lives (kn : sKn) : List (Nat × sA) := [(0, a_aload 0 1), (1, a_get 9 4 4), (4, a_iload 1 5), (5, a_iald 6), (6, a_stk (q_int (-1)) 7), (7, a_icmp kn b_ne 1 14 10), (10, a_stk (q_int 1) 11), (11, a_goto 15), (14, a_stk (q_int 0) 15), (15, a_zret)]
def fX8_lives (kn : sKn) : List Value → sW → Option sR := fW (tX8_lives kn) 2
set_option maxRecDepth 100000 in
set_option maxHeartbeats 4000000 in
theorem mX8_lives (kn : sKn) : mM kn yX8_lives (Cond.code yX8_lives cX8_lives 2 (some .boolean) :: wsL_law) 1 false (fX8_lives kn) := mM_W (fun n => mM_of (own := RX8) (ini := false) rfl (by decide +kernel) (by decide +kernel) (all_c (ok_aload_n dX8_lives_0 rfl) (all_c (okg_X8_4 kw182 dX8_lives_1) (all_c (ok_iload_n dX8_lives_4 rfl) (all_c (ok_iald dX8_lives_5) (all_c (ok_stk (s_iconst dX8_lives_6 (by decide))) (all_c (ok_icmp_ne dX8_lives_7 (by decide)) (all_c (ok_stk (s_iconst dX8_lives_10 (by decide))) (all_c (ok_goto dX8_lives_11 (by decide)) (all_c (ok_stk (s_iconst dX8_lives_14 (by decide))) (all_c (ok_zret dX8_lives_15) all_n)))))))))) n (fun h => by first | rfl | cases h))
theorem dX0_tryWay_0 : decode cX0_tryWay 0 = .ok (.iload_n 3, 1) := by decide +kernel
theorem dX0_tryWay_1 : decode cX0_tryWay 1 = .ok (.istore 6, 2) := by decide +kernel
theorem dX0_tryWay_3 : decode cX0_tryWay 3 = .ok (.iconst 0, 1) := by decide +kernel
theorem dX0_tryWay_4 : decode cX0_tryWay 4 = .ok (.istore 7, 2) := by decide +kernel
theorem dX0_tryWay_6 : decode cX0_tryWay 6 = .ok (.iload 5, 2) := by decide +kernel
theorem dX0_tryWay_8 : decode cX0_tryWay 8 = .ok (.iconst 1, 1) := by decide +kernel
theorem dX0_tryWay_9 : decode cX0_tryWay 9 = .ok (.isub, 1) := by decide +kernel
theorem dX0_tryWay_10 : decode cX0_tryWay 10 = .ok (.istore 8, 2) := by decide +kernel
theorem dX0_tryWay_12 : decode cX0_tryWay 12 = .ok (.iload 8, 2) := by decide +kernel
theorem dX0_tryWay_14 : decode cX0_tryWay 14 = .ok (.iload 4, 2) := by decide +kernel
theorem dX0_tryWay_16 : decode cX0_tryWay 16 = .ok (.if_icmp .lt 83, 3) := by decide +kernel
theorem dX0_tryWay_19 : decode cX0_tryWay 19 = .ok (.aload_n 1, 1) := by decide +kernel
theorem dX0_tryWay_20 : decode cX0_tryWay 20 = .ok (.getfield 86, 3) := by decide +kernel
theorem dX0_tryWay_23 : decode cX0_tryWay 23 = .ok (.ifCond .le 76, 3) := by decide +kernel
theorem dX0_tryWay_26 : decode cX0_tryWay 26 = .ok (.aload_n 2, 1) := by decide +kernel
theorem dX0_tryWay_27 : decode cX0_tryWay 27 = .ok (.getfield 77, 3) := by decide +kernel
theorem dX0_tryWay_30 : decode cX0_tryWay 30 = .ok (.iload 8, 2) := by decide +kernel
theorem dX0_tryWay_32 : decode cX0_tryWay 32 = .ok (.iaload, 1) := by decide +kernel
theorem dX0_tryWay_33 : decode cX0_tryWay 33 = .ok (.iconst (-1), 1) := by decide +kernel
theorem dX0_tryWay_34 : decode cX0_tryWay 34 = .ok (.if_icmp .ne 59, 3) := by decide +kernel
theorem dX0_tryWay_37 : decode cX0_tryWay 37 = .ok (.iload 6, 2) := by decide +kernel
theorem dX0_tryWay_39 : decode cX0_tryWay 39 = .ok (.aload_n 1, 1) := by decide +kernel
theorem dX0_tryWay_40 : decode cX0_tryWay 40 = .ok (.getfield 86, 3) := by decide +kernel
theorem dX0_tryWay_43 : decode cX0_tryWay 43 = .ok (.irem, 1) := by decide +kernel
theorem dX0_tryWay_44 : decode cX0_tryWay 44 = .ok (.istore 9, 2) := by decide +kernel
theorem dX0_tryWay_46 : decode cX0_tryWay 46 = .ok (.iload 6, 2) := by decide +kernel
theorem dX0_tryWay_48 : decode cX0_tryWay 48 = .ok (.aload_n 1, 1) := by decide +kernel
theorem dX0_tryWay_49 : decode cX0_tryWay 49 = .ok (.getfield 86, 3) := by decide +kernel
theorem dX0_tryWay_52 : decode cX0_tryWay 52 = .ok (.idiv, 1) := by decide +kernel
theorem dX0_tryWay_53 : decode cX0_tryWay 53 = .ok (.istore 6, 2) := by decide +kernel
theorem dX0_tryWay_55 : decode cX0_tryWay 55 = .ok (.aload_n 0, 1) := by decide +kernel
theorem dX0_tryWay_56 : decode cX0_tryWay 56 = .ok (.getfield 12, 3) := by decide +kernel
theorem dX0_tryWay_59 : decode cX0_tryWay 59 = .ok (.getfield 77, 3) := by decide +kernel
theorem dX0_tryWay_62 : decode cX0_tryWay 62 = .ok (.iload 8, 2) := by decide +kernel
theorem dX0_tryWay_64 : decode cX0_tryWay 64 = .ok (.iload 9, 2) := by decide +kernel
theorem dX0_tryWay_66 : decode cX0_tryWay 66 = .ok (.iastore, 1) := by decide +kernel
theorem dX0_tryWay_67 : decode cX0_tryWay 67 = .ok (.iload 7, 2) := by decide +kernel
theorem dX0_tryWay_69 : decode cX0_tryWay 69 = .ok (.aload_n 2, 1) := by decide +kernel
theorem dX0_tryWay_70 : decode cX0_tryWay 70 = .ok (.iload 9, 2) := by decide +kernel
theorem dX0_tryWay_72 : decode cX0_tryWay 72 = .ok (.invokevirtual 89, 3) := by decide +kernel
theorem dX0_tryWay_75 : decode cX0_tryWay 75 = .ok (.ifCond .eq 13, 3) := by decide +kernel
theorem dX0_tryWay_78 : decode cX0_tryWay 78 = .ok (.aload_n 1, 1) := by decide +kernel
theorem dX0_tryWay_79 : decode cX0_tryWay 79 = .ok (.getfield 93, 3) := by decide +kernel
theorem dX0_tryWay_82 : decode cX0_tryWay 82 = .ok (.iload 9, 2) := by decide +kernel
theorem dX0_tryWay_84 : decode cX0_tryWay 84 = .ok (.iaload, 1) := by decide +kernel
theorem dX0_tryWay_85 : decode cX0_tryWay 85 = .ok (.goto 5, 3) := by decide +kernel
theorem dX0_tryWay_88 : decode cX0_tryWay 88 = .ok (.ldc 54, 2) := by decide +kernel
theorem dX0_tryWay_90 : decode cX0_tryWay 90 = .ok (.iadd, 1) := by decide +kernel
theorem dX0_tryWay_91 : decode cX0_tryWay 91 = .ok (.istore 7, 2) := by decide +kernel
theorem dX0_tryWay_93 : decode cX0_tryWay 93 = .ok (.iinc 8 (-1), 3) := by decide +kernel
theorem dX0_tryWay_96 : decode cX0_tryWay 96 = .ok (.goto (-84), 3) := by decide +kernel
theorem dX0_tryWay_99 : decode cX0_tryWay 99 = .ok (.iload 7, 2) := by decide +kernel
theorem dX0_tryWay_101 : decode cX0_tryWay 101 = .ok (.ireturn, 1) := by decide +kernel
theorem okc_X8_lives {kn : sKn} {cc : ByteArray} {own : String} {nL : Nat} {D : Nat} {ret : Option FieldType} {ini : Bool} {pc index : Nat} (hD : 1 + 1 ≤ D) (hl : Cond.methodLink own index yX8_lives ∈ wsL_law) (hd : decode cc pc = .ok (.invokevirtual index, 3)) : mOk kn cc own nL wsL_law D ret ini pc (a_callV false (fX8_lives kn) 9 (1 + 1) (pc + 3)) := ok_callV (mX8_lives kn) (good_ws ws_good (fun _ h => h) kw183) hD (by decide) hl kw185 kw186 kw184 ⟨by decide +kernel, by decide +kernel, by decide +kernel⟩ rfl hd
def tX0_tryWay (kn : sKn) : List (Nat × sA) := [(0, a_iload 3 1), (1, a_istore 6 3), (3, a_stk (q_int 0) 4), (4, a_istore 7 6), (6, a_iload 5 8), (8, a_stk (q_int 1) 9), (9, a_stk q_isub 10), (10, a_istore 8 12), (12, a_iload 8 14), (14, a_iload 4 16), (16, a_icmp kn b_lt 2 99 19), (19, a_aload 1 20), (20, a_get 7 2 23), (23, a_if kn b_le 5 99 26), (26, a_aload 2 27), (27, a_get 9 6 30), (30, a_iload 8 32), (32, a_iald 33), (33, a_stk (q_int (-1)) 34), (34, a_icmp kn b_ne 1 93 37), (37, a_iload 6 39), (39, a_aload 1 40), (40, a_get 7 2 43), (43, a_stk q_irem 44), (44, a_istore 9 46), (46, a_iload 6 48), (48, a_aload 1 49), (49, a_get 7 2 52), (52, a_stk q_idiv 53), (53, a_istore 6 55), (55, a_aload 0 56), (56, a_get 1 0 59), (59, a_get 9 6 62), (62, a_iload 8 64), (64, a_iload 9 66), (66, a_iast 67), (67, a_iload 7 69), (69, a_aload 2 70), (70, a_iload 9 72), (72, a_callV false (fX8_lives kn) 9 2 75), (75, a_if kn b_eq 0 88 78), (78, a_aload 1 79), (79, a_get 7 8 82), (82, a_iload 9 84), (84, a_iald 85), (85, a_goto 90), (88, a_stk (q_int (1000000)) 90), (90, a_stk q_iadd 91), (91, a_istore 7 93), (93, a_iinc 8 (-1) 96), (96, a_goto 12), (99, a_iload 7 101), (101, a_iret)]
def fX0_tryWay (kn : sKn) : List Value → sW → Option sR := fW (tX0_tryWay kn) 10
set_option maxRecDepth 100000 in
set_option maxHeartbeats 4000000 in
theorem mX0_tryWay (kn : sKn) : mM kn yX0_tryWay (Cond.code yX0_tryWay cX0_tryWay 10 (some .int) :: wsL_law) 2 false (fX0_tryWay kn) := mM_W (fun n => mM_of (own := RX0) (ini := false) rfl (by decide +kernel) (by decide +kernel) (all_c (ok_iload_n dX0_tryWay_0 rfl) (all_c (ok_istore dX0_tryWay_1 (by decide)) (all_c (ok_stk (s_iconst dX0_tryWay_3 (by decide))) (all_c (ok_istore dX0_tryWay_4 (by decide)) (all_c (ok_iload dX0_tryWay_6) (all_c (ok_stk (s_iconst dX0_tryWay_8 (by decide))) (all_c (ok_stk (s_isub dX0_tryWay_9)) (all_c (ok_istore dX0_tryWay_10 (by decide)) (all_c (ok_iload dX0_tryWay_12) (all_c (ok_iload dX0_tryWay_14) (all_c (ok_icmp_lt dX0_tryWay_16 (by decide)) (all_c (ok_aload_n dX0_tryWay_19 rfl) (all_c (okg_X6_2 kw174 dX0_tryWay_20) (all_c (ok_if_le dX0_tryWay_23 (by decide)) (all_c (ok_aload_n dX0_tryWay_26 rfl) (all_c (okg_X8_6 kw173 dX0_tryWay_27) (all_c (ok_iload dX0_tryWay_30) (all_c (ok_iald dX0_tryWay_32) (all_c (ok_stk (s_iconst dX0_tryWay_33 (by decide))) (all_c (ok_icmp_ne dX0_tryWay_34 (by decide)) (all_c (ok_iload dX0_tryWay_37) (all_c (ok_aload_n dX0_tryWay_39 rfl) (all_c (okg_X6_2 kw174 dX0_tryWay_40) (all_c (ok_stk (s_irem dX0_tryWay_43)) (all_c (ok_istore dX0_tryWay_44 (by decide)) (all_c (ok_iload dX0_tryWay_46) (all_c (ok_aload_n dX0_tryWay_48 rfl) (all_c (okg_X6_2 kw174 dX0_tryWay_49) (all_c (ok_stk (s_idiv dX0_tryWay_52)) (all_c (ok_istore dX0_tryWay_53 (by decide)) (all_c (ok_aload_n dX0_tryWay_55 rfl) (all_c (okg_X0_0 kw167 dX0_tryWay_56) (all_c (okg_X8_6 kw173 dX0_tryWay_59) (all_c (ok_iload dX0_tryWay_62) (all_c (ok_iload dX0_tryWay_64) (all_c (ok_iast dX0_tryWay_66) (all_c (ok_iload dX0_tryWay_67) (all_c (ok_aload_n dX0_tryWay_69 rfl) (all_c (ok_iload dX0_tryWay_70) (all_c (okc_X8_lives (by decide) kw187 dX0_tryWay_72) (all_c (ok_if_eq dX0_tryWay_75 (by decide)) (all_c (ok_aload_n dX0_tryWay_78 rfl) (all_c (okg_X6_8 kw188 dX0_tryWay_79) (all_c (ok_iload dX0_tryWay_82) (all_c (ok_iald dX0_tryWay_84) (all_c (ok_goto dX0_tryWay_85 (by decide)) (all_c (ok_ldc kw148 dX0_tryWay_88) (all_c (ok_stk (s_iadd dX0_tryWay_90)) (all_c (ok_istore dX0_tryWay_91 (by decide)) (all_c (ok_iinc dX0_tryWay_93 (by decide) (by decide)) (all_c (ok_goto dX0_tryWay_96 (by decide)) (all_c (ok_iload dX0_tryWay_99) (all_c (ok_iret dX0_tryWay_101) all_n))))))))))))))))))))))))))))))))))))))))))))))))))))) n (fun h => by first | rfl | cases h))
theorem dX0_price_0 : decode cX0_price 0 = .ok (.iload 5, 2) := by decide +kernel
theorem dX0_price_2 : decode cX0_price 2 = .ok (.aload_n 1, 1) := by decide +kernel
theorem dX0_price_3 : decode cX0_price 3 = .ok (.getfield 63, 3) := by decide +kernel
theorem dX0_price_6 : decode cX0_price 6 = .ok (.iload_n 3, 1) := by decide +kernel
theorem dX0_price_7 : decode cX0_price 7 = .ok (.iaload, 1) := by decide +kernel
theorem dX0_price_8 : decode cX0_price 8 = .ok (.iadd, 1) := by decide +kernel
theorem dX0_price_9 : decode cX0_price 9 = .ok (.iconst 3, 1) := by decide +kernel
theorem dX0_price_10 : decode cX0_price 10 = .ok (.if_icmp .le 6, 3) := by decide +kernel
theorem dX0_price_13 : decode cX0_price 13 = .ok (.ldc 54, 2) := by decide +kernel
theorem dX0_price_15 : decode cX0_price 15 = .ok (.ireturn, 1) := by decide +kernel
theorem dX0_price_16 : decode cX0_price 16 = .ok (.iconst 3, 1) := by decide +kernel
theorem dX0_price_17 : decode cX0_price 17 = .ok (.iload 4, 2) := by decide +kernel
theorem dX0_price_19 : decode cX0_price 19 = .ok (.imul, 1) := by decide +kernel
theorem dX0_price_20 : decode cX0_price 20 = .ok (.iload 5, 2) := by decide +kernel
theorem dX0_price_22 : decode cX0_price 22 = .ok (.iadd, 1) := by decide +kernel
theorem dX0_price_23 : decode cX0_price 23 = .ok (.istore 6, 2) := by decide +kernel
theorem dX0_price_25 : decode cX0_price 25 = .ok (.iload 6, 2) := by decide +kernel
theorem dX0_price_27 : decode cX0_price 27 = .ok (.aload_n 1, 1) := by decide +kernel
theorem dX0_price_28 : decode cX0_price 28 = .ok (.getfield 63, 3) := by decide +kernel
theorem dX0_price_31 : decode cX0_price 31 = .ok (.iload_n 3, 1) := by decide +kernel
theorem dX0_price_32 : decode cX0_price 32 = .ok (.iaload, 1) := by decide +kernel
theorem dX0_price_33 : decode cX0_price 33 = .ok (.iadd, 1) := by decide +kernel
theorem dX0_price_34 : decode cX0_price 34 = .ok (.istore 7, 2) := by decide +kernel
theorem dX0_price_36 : decode cX0_price 36 = .ok (.aload_n 0, 1) := by decide +kernel
theorem dX0_price_37 : decode cX0_price 37 = .ok (.aload_n 1, 1) := by decide +kernel
theorem dX0_price_38 : decode cX0_price 38 = .ok (.aload_n 2, 1) := by decide +kernel
theorem dX0_price_39 : decode cX0_price 39 = .ok (.iload 6, 2) := by decide +kernel
theorem dX0_price_41 : decode cX0_price 41 = .ok (.iload 7, 2) := by decide +kernel
theorem dX0_price_43 : decode cX0_price 43 = .ok (.invokevirtual 66, 3) := by decide +kernel
theorem dX0_price_46 : decode cX0_price 46 = .ok (.istore 8, 2) := by decide +kernel
theorem dX0_price_48 : decode cX0_price 48 = .ok (.ldc 54, 2) := by decide +kernel
theorem dX0_price_50 : decode cX0_price 50 = .ok (.istore 9, 2) := by decide +kernel
theorem dX0_price_52 : decode cX0_price 52 = .ok (.iconst 0, 1) := by decide +kernel
theorem dX0_price_53 : decode cX0_price 53 = .ok (.istore 10, 2) := by decide +kernel
theorem dX0_price_55 : decode cX0_price 55 = .ok (.iload 10, 2) := by decide +kernel
theorem dX0_price_57 : decode cX0_price 57 = .ok (.iload 8, 2) := by decide +kernel
theorem dX0_price_59 : decode cX0_price 59 = .ok (.if_icmp .ge 99, 3) := by decide +kernel
theorem dX0_price_62 : decode cX0_price 62 = .ok (.aload_n 0, 1) := by decide +kernel
theorem dX0_price_63 : decode cX0_price 63 = .ok (.aload_n 1, 1) := by decide +kernel
theorem dX0_price_64 : decode cX0_price 64 = .ok (.aload_n 2, 1) := by decide +kernel
theorem dX0_price_65 : decode cX0_price 65 = .ok (.iload 10, 2) := by decide +kernel
theorem dX0_price_67 : decode cX0_price 67 = .ok (.iload 6, 2) := by decide +kernel
theorem dX0_price_69 : decode cX0_price 69 = .ok (.iload 7, 2) := by decide +kernel
theorem dX0_price_71 : decode cX0_price 71 = .ok (.invokevirtual 70, 3) := by decide +kernel
theorem dX0_price_74 : decode cX0_price 74 = .ok (.istore 11, 2) := by decide +kernel
theorem dX0_price_76 : decode cX0_price 76 = .ok (.iload 11, 2) := by decide +kernel
theorem dX0_price_78 : decode cX0_price 78 = .ok (.iload 9, 2) := by decide +kernel
theorem dX0_price_80 : decode cX0_price 80 = .ok (.if_icmp .ge 72, 3) := by decide +kernel
theorem dX0_price_83 : decode cX0_price 83 = .ok (.aload_n 0, 1) := by decide +kernel
theorem dX0_price_84 : decode cX0_price 84 = .ok (.aload_n 1, 1) := by decide +kernel
theorem dX0_price_85 : decode cX0_price 85 = .ok (.iload 6, 2) := by decide +kernel
theorem dX0_price_87 : decode cX0_price 87 = .ok (.iload 7, 2) := by decide +kernel
theorem dX0_price_89 : decode cX0_price 89 = .ok (.invokevirtual 73, 3) := by decide +kernel
theorem dX0_price_92 : decode cX0_price 92 = .ok (.aload_n 1, 1) := by decide +kernel
theorem dX0_price_93 : decode cX0_price 93 = .ok (.getfield 51, 3) := by decide +kernel
theorem dX0_price_96 : decode cX0_price 96 = .ok (.iload_n 3, 1) := by decide +kernel
theorem dX0_price_97 : decode cX0_price 97 = .ok (.iaload, 1) := by decide +kernel
theorem dX0_price_98 : decode cX0_price 98 = .ok (.if_icmp .lt 54, 3) := by decide +kernel
theorem dX0_price_101 : decode cX0_price 101 = .ok (.iload 11, 2) := by decide +kernel
theorem dX0_price_103 : decode cX0_price 103 = .ok (.istore 9, 2) := by decide +kernel
theorem dX0_price_105 : decode cX0_price 105 = .ok (.iload 6, 2) := by decide +kernel
theorem dX0_price_107 : decode cX0_price 107 = .ok (.istore 12, 2) := by decide +kernel
theorem dX0_price_109 : decode cX0_price 109 = .ok (.iload 12, 2) := by decide +kernel
theorem dX0_price_111 : decode cX0_price 111 = .ok (.iload 7, 2) := by decide +kernel
theorem dX0_price_113 : decode cX0_price 113 = .ok (.if_icmp .ge 39, 3) := by decide +kernel
theorem dX0_price_116 : decode cX0_price 116 = .ok (.aload_n 0, 1) := by decide +kernel
theorem dX0_price_117 : decode cX0_price 117 = .ok (.getfield 25, 3) := by decide +kernel
theorem dX0_price_120 : decode cX0_price 120 = .ok (.iconst 3, 1) := by decide +kernel
theorem dX0_price_121 : decode cX0_price 121 = .ok (.iconst 4, 1) := by decide +kernel
theorem dX0_price_122 : decode cX0_price 122 = .ok (.iload 4, 2) := by decide +kernel
theorem dX0_price_124 : decode cX0_price 124 = .ok (.imul, 1) := by decide +kernel
theorem dX0_price_125 : decode cX0_price 125 = .ok (.iload 5, 2) := by decide +kernel
theorem dX0_price_127 : decode cX0_price 127 = .ok (.iadd, 1) := by decide +kernel
theorem dX0_price_128 : decode cX0_price 128 = .ok (.imul, 1) := by decide +kernel
theorem dX0_price_129 : decode cX0_price 129 = .ok (.iload 12, 2) := by decide +kernel
theorem dX0_price_131 : decode cX0_price 131 = .ok (.iadd, 1) := by decide +kernel
theorem dX0_price_132 : decode cX0_price 132 = .ok (.iload 6, 2) := by decide +kernel
theorem dX0_price_134 : decode cX0_price 134 = .ok (.isub, 1) := by decide +kernel
theorem dX0_price_135 : decode cX0_price 135 = .ok (.aload_n 0, 1) := by decide +kernel
theorem dX0_price_136 : decode cX0_price 136 = .ok (.getfield 12, 3) := by decide +kernel
theorem dX0_price_139 : decode cX0_price 139 = .ok (.getfield 77, 3) := by decide +kernel
theorem dX0_price_142 : decode cX0_price 142 = .ok (.iload 12, 2) := by decide +kernel
theorem dX0_price_144 : decode cX0_price 144 = .ok (.iaload, 1) := by decide +kernel
theorem dX0_price_145 : decode cX0_price 145 = .ok (.iastore, 1) := by decide +kernel
theorem dX0_price_146 : decode cX0_price 146 = .ok (.iinc 12 1, 3) := by decide +kernel
theorem dX0_price_149 : decode cX0_price 149 = .ok (.goto (-40), 3) := by decide +kernel
theorem dX0_price_152 : decode cX0_price 152 = .ok (.iinc 10 1, 3) := by decide +kernel
theorem dX0_price_155 : decode cX0_price 155 = .ok (.goto (-100), 3) := by decide +kernel
theorem dX0_price_158 : decode cX0_price 158 = .ok (.aload_n 2, 1) := by decide +kernel
theorem dX0_price_159 : decode cX0_price 159 = .ok (.getfield 77, 3) := by decide +kernel
theorem dX0_price_162 : decode cX0_price 162 = .ok (.iload 6, 2) := by decide +kernel
theorem dX0_price_164 : decode cX0_price 164 = .ok (.aload_n 0, 1) := by decide +kernel
theorem dX0_price_165 : decode cX0_price 165 = .ok (.getfield 12, 3) := by decide +kernel
theorem dX0_price_168 : decode cX0_price 168 = .ok (.getfield 77, 3) := by decide +kernel
theorem dX0_price_171 : decode cX0_price 171 = .ok (.iload 6, 2) := by decide +kernel
theorem dX0_price_173 : decode cX0_price 173 = .ok (.iload 7, 2) := by decide +kernel
theorem dX0_price_175 : decode cX0_price 175 = .ok (.iload 6, 2) := by decide +kernel
theorem dX0_price_177 : decode cX0_price 177 = .ok (.isub, 1) := by decide +kernel
theorem dX0_price_178 : decode cX0_price 178 = .ok (.invokestatic 80, 3) := by decide +kernel
theorem dX0_price_181 : decode cX0_price 181 = .ok (.iload 9, 2) := by decide +kernel
theorem dX0_price_183 : decode cX0_price 183 = .ok (.ireturn, 1) := by decide +kernel
theorem okc_X0_countWays {kn : sKn} {cc : ByteArray} {own : String} {nL : Nat} {D : Nat} {ret : Option FieldType} {ini : Bool} {pc index : Nat} (hD : 1 + 1 ≤ D) (hl : Cond.methodLink own index yX0_countWays ∈ wsL_law) (hd : decode cc pc = .ok (.invokevirtual index, 3)) : mOk kn cc own nL wsL_law D ret ini pc (a_callV false (fX0_countWays kn) 1 (4 + 1) (pc + 3)) := ok_callV (mX0_countWays kn) (good_ws ws_good (fun _ h => h) kw189) hD (by decide) hl kw190 kw191 kw152 ⟨by decide +kernel, by decide +kernel, by decide +kernel⟩ rfl hd
theorem okc_X0_tryWay {kn : sKn} {cc : ByteArray} {own : String} {nL : Nat} {D : Nat} {ret : Option FieldType} {ini : Bool} {pc index : Nat} (hD : 2 + 1 ≤ D) (hl : Cond.methodLink own index yX0_tryWay ∈ wsL_law) (hd : decode cc pc = .ok (.invokevirtual index, 3)) : mOk kn cc own nL wsL_law D ret ini pc (a_callV false (fX0_tryWay kn) 1 (5 + 1) (pc + 3)) := ok_callV (mX0_tryWay kn) (good_ws ws_good (fun _ h => h) kw193) hD (by decide) hl kw194 kw195 kw152 ⟨by decide +kernel, by decide +kernel, by decide +kernel⟩ rfl hd
theorem okc_X0_bearTogether {kn : sKn} {cc : ByteArray} {own : String} {nL : Nat} {D : Nat} {ret : Option FieldType} {ini : Bool} {pc index : Nat} (hD : 3 + 1 ≤ D) (hl : Cond.methodLink own index yX0_bearTogether ∈ wsL_law) (hd : decode cc pc = .ok (.invokevirtual index, 3)) : mOk kn cc own nL wsL_law D ret ini pc (a_callV false (fX0_bearTogether kn) 1 (3 + 1) (pc + 3)) := ok_callV (mX0_bearTogether kn) (good_ws ws_good (fun _ h => h) kw197) hD (by decide) hl kw198 kw199 kw152 ⟨by decide +kernel, by decide +kernel, by decide +kernel⟩ rfl hd
def tX0_price (kn : sKn) : List (Nat × sA) := [(0, a_iload 5 2), (2, a_aload 1 3), (3, a_get 7 14 6), (6, a_iload 3 7), (7, a_iald 8), (8, a_stk q_iadd 9), (9, a_stk (q_int 3) 10), (10, a_icmp kn b_le 5 16 13), (13, a_stk (q_int (1000000)) 15), (15, a_iret), (16, a_stk (q_int 3) 17), (17, a_iload 4 19), (19, a_stk q_imul 20), (20, a_iload 5 22), (22, a_stk q_iadd 23), (23, a_istore 6 25), (25, a_iload 6 27), (27, a_aload 1 28), (28, a_get 7 14 31), (31, a_iload 3 32), (32, a_iald 33), (33, a_stk q_iadd 34), (34, a_istore 7 36), (36, a_aload 0 37), (37, a_aload 1 38), (38, a_aload 2 39), (39, a_iload 6 41), (41, a_iload 7 43), (43, a_callV false (fX0_countWays kn) 1 5 46), (46, a_istore 8 48), (48, a_stk (q_int (1000000)) 50), (50, a_istore 9 52), (52, a_stk (q_int 0) 53), (53, a_istore 10 55), (55, a_iload 10 57), (57, a_iload 8 59), (59, a_icmp kn b_ge 3 158 62), (62, a_aload 0 63), (63, a_aload 1 64), (64, a_aload 2 65), (65, a_iload 10 67), (67, a_iload 6 69), (69, a_iload 7 71), (71, a_callV false (fX0_tryWay kn) 1 6 74), (74, a_istore 11 76), (76, a_iload 11 78), (78, a_iload 9 80), (80, a_icmp kn b_ge 3 152 83), (83, a_aload 0 84), (84, a_aload 1 85), (85, a_iload 6 87), (87, a_iload 7 89), (89, a_callV false (fX0_bearTogether kn) 1 4 92), (92, a_aload 1 93), (93, a_get 7 13 96), (96, a_iload 3 97), (97, a_iald 98), (98, a_icmp kn b_lt 2 152 101), (101, a_iload 11 103), (103, a_istore 9 105), (105, a_iload 6 107), (107, a_istore 12 109), (109, a_iload 12 111), (111, a_iload 7 113), (113, a_icmp kn b_ge 3 152 116), (116, a_aload 0 117), (117, a_get 1 3 120), (120, a_stk (q_int 3) 121), (121, a_stk (q_int 4) 122), (122, a_iload 4 124), (124, a_stk q_imul 125), (125, a_iload 5 127), (127, a_stk q_iadd 128), (128, a_stk q_imul 129), (129, a_iload 12 131), (131, a_stk q_iadd 132), (132, a_iload 6 134), (134, a_stk q_isub 135), (135, a_aload 0 136), (136, a_get 1 0 139), (139, a_get 9 6 142), (142, a_iload 12 144), (144, a_iald 145), (145, a_iast 146), (146, a_iinc 12 1 149), (149, a_goto 109), (152, a_iinc 10 1 155), (155, a_goto 55), (158, a_aload 2 159), (159, a_get 9 6 162), (162, a_iload 6 164), (164, a_aload 0 165), (165, a_get 1 0 168), (168, a_get 9 6 171), (171, a_iload 6 173), (173, a_iload 7 175), (175, a_iload 6 177), (177, a_stk q_isub 178), (178, a_copy 181), (181, a_iload 9 183), (183, a_iret)]
def fX0_price (kn : sKn) : List Value → sW → Option sR := fW (tX0_price kn) 13
set_option maxRecDepth 100000 in
set_option maxHeartbeats 4000000 in
theorem mX0_price (kn : sKn) : mM kn yX0_price (Cond.code yX0_price cX0_price 13 (some .int) :: wsL_law) 4 false (fX0_price kn) := mM_W (fun n => mM_of (own := RX0) (ini := false) rfl (by decide +kernel) (by decide +kernel) (all_c (ok_iload dX0_price_0) (all_c (ok_aload_n dX0_price_2 rfl) (all_c (okg_X6_14 kw180 dX0_price_3) (all_c (ok_iload_n dX0_price_6 rfl) (all_c (ok_iald dX0_price_7) (all_c (ok_stk (s_iadd dX0_price_8)) (all_c (ok_stk (s_iconst dX0_price_9 (by decide))) (all_c (ok_icmp_le dX0_price_10 (by decide)) (all_c (ok_ldc kw148 dX0_price_13) (all_c (ok_iret dX0_price_15) (all_c (ok_stk (s_iconst dX0_price_16 (by decide))) (all_c (ok_iload dX0_price_17) (all_c (ok_stk (s_imul dX0_price_19)) (all_c (ok_iload dX0_price_20) (all_c (ok_stk (s_iadd dX0_price_22)) (all_c (ok_istore dX0_price_23 (by decide)) (all_c (ok_iload dX0_price_25) (all_c (ok_aload_n dX0_price_27 rfl) (all_c (okg_X6_14 kw180 dX0_price_28) (all_c (ok_iload_n dX0_price_31 rfl) (all_c (ok_iald dX0_price_32) (all_c (ok_stk (s_iadd dX0_price_33)) (all_c (ok_istore dX0_price_34 (by decide)) (all_c (ok_aload_n dX0_price_36 rfl) (all_c (ok_aload_n dX0_price_37 rfl) (all_c (ok_aload_n dX0_price_38 rfl) (all_c (ok_iload dX0_price_39) (all_c (ok_iload dX0_price_41) (all_c (okc_X0_countWays (by decide) kw192 dX0_price_43) (all_c (ok_istore dX0_price_46 (by decide)) (all_c (ok_ldc kw148 dX0_price_48) (all_c (ok_istore dX0_price_50 (by decide)) (all_c (ok_stk (s_iconst dX0_price_52 (by decide))) (all_c (ok_istore dX0_price_53 (by decide)) (all_c (ok_iload dX0_price_55) (all_c (ok_iload dX0_price_57) (all_c (ok_icmp_ge dX0_price_59 (by decide)) (all_c (ok_aload_n dX0_price_62 rfl) (all_c (ok_aload_n dX0_price_63 rfl) (all_c (ok_aload_n dX0_price_64 rfl) (all_c (ok_iload dX0_price_65) (all_c (ok_iload dX0_price_67) (all_c (ok_iload dX0_price_69) (all_c (okc_X0_tryWay (by decide) kw196 dX0_price_71) (all_c (ok_istore dX0_price_74 (by decide)) (all_c (ok_iload dX0_price_76) (all_c (ok_iload dX0_price_78) (all_c (ok_icmp_ge dX0_price_80 (by decide)) (all_c (ok_aload_n dX0_price_83 rfl) (all_c (ok_aload_n dX0_price_84 rfl) (all_c (ok_iload dX0_price_85) (all_c (ok_iload dX0_price_87) (all_c (okc_X0_bearTogether (by decide) kw200 dX0_price_89) (all_c (ok_aload_n dX0_price_92 rfl) (all_c (okg_X6_13 kw201 dX0_price_93) (all_c (ok_iload_n dX0_price_96 rfl) (all_c (ok_iald dX0_price_97) (all_c (ok_icmp_lt dX0_price_98 (by decide)) (all_c (ok_iload dX0_price_101) (all_c (ok_istore dX0_price_103 (by decide)) (all_c (ok_iload dX0_price_105) (all_c (ok_istore dX0_price_107 (by decide)) (all_c (ok_iload dX0_price_109) (all_c (ok_iload dX0_price_111) (all_c (ok_icmp_ge dX0_price_113 (by decide)) (all_c (ok_aload_n dX0_price_116 rfl) (all_c (okg_X0_3 kw181 dX0_price_117) (all_c (ok_stk (s_iconst dX0_price_120 (by decide))) (all_c (ok_stk (s_iconst dX0_price_121 (by decide))) (all_c (ok_iload dX0_price_122) (all_c (ok_stk (s_imul dX0_price_124)) (all_c (ok_iload dX0_price_125) (all_c (ok_stk (s_iadd dX0_price_127)) (all_c (ok_stk (s_imul dX0_price_128)) (all_c (ok_iload dX0_price_129) (all_c (ok_stk (s_iadd dX0_price_131)) (all_c (ok_iload dX0_price_132) (all_c (ok_stk (s_isub dX0_price_134)) (all_c (ok_aload_n dX0_price_135 rfl) (all_c (okg_X0_0 kw167 dX0_price_136) (all_c (okg_X8_6 kw173 dX0_price_139) (all_c (ok_iload dX0_price_142) (all_c (ok_iald dX0_price_144) (all_c (ok_iast dX0_price_145) (all_c (ok_iinc dX0_price_146 (by decide) (by decide)) (all_c (ok_goto dX0_price_149 (by decide)) (all_c (ok_iinc dX0_price_152 (by decide) (by decide)) (all_c (ok_goto dX0_price_155 (by decide)) (all_c (ok_aload_n dX0_price_158 rfl) (all_c (okg_X8_6 kw173 dX0_price_159) (all_c (ok_iload dX0_price_162) (all_c (ok_aload_n dX0_price_164 rfl) (all_c (okg_X0_0 kw167 dX0_price_165) (all_c (okg_X8_6 kw173 dX0_price_168) (all_c (ok_iload dX0_price_171) (all_c (ok_iload dX0_price_173) (all_c (ok_iload dX0_price_175) (all_c (ok_stk (s_isub dX0_price_177)) (all_c (ok_copy (by decide) kw202 kw30 kw31 kw32 dX0_price_178) (all_c (ok_iload dX0_price_181) (all_c (ok_iret dX0_price_183) all_n))))))))))))))))))))))))))))))))))))))))))))))))))))))))))))))))))))))))))))))))))))))))))))))))))))) n (fun h => by first | rfl | cases h))
theorem dX8_copyOf_0 : decode cX8_copyOf 0 = .ok (.aload_n 0, 1) := by decide +kernel
theorem dX8_copyOf_1 : decode cX8_copyOf 1 = .ok (.aload_n 1, 1) := by decide +kernel
theorem dX8_copyOf_2 : decode cX8_copyOf 2 = .ok (.getfield 36, 3) := by decide +kernel
theorem dX8_copyOf_5 : decode cX8_copyOf 5 = .ok (.putfield 36, 3) := by decide +kernel
theorem dX8_copyOf_8 : decode cX8_copyOf 8 = .ok (.aload_n 0, 1) := by decide +kernel
theorem dX8_copyOf_9 : decode cX8_copyOf 9 = .ok (.aload_n 1, 1) := by decide +kernel
theorem dX8_copyOf_10 : decode cX8_copyOf 10 = .ok (.getfield 40, 3) := by decide +kernel
theorem dX8_copyOf_13 : decode cX8_copyOf 13 = .ok (.putfield 40, 3) := by decide +kernel
theorem dX8_copyOf_16 : decode cX8_copyOf 16 = .ok (.aload_n 0, 1) := by decide +kernel
theorem dX8_copyOf_17 : decode cX8_copyOf 17 = .ok (.aload_n 1, 1) := by decide +kernel
theorem dX8_copyOf_18 : decode cX8_copyOf 18 = .ok (.getfield 43, 3) := by decide +kernel
theorem dX8_copyOf_21 : decode cX8_copyOf 21 = .ok (.putfield 43, 3) := by decide +kernel
theorem dX8_copyOf_24 : decode cX8_copyOf 24 = .ok (.aload_n 1, 1) := by decide +kernel
theorem dX8_copyOf_25 : decode cX8_copyOf 25 = .ok (.getfield 9, 3) := by decide +kernel
theorem dX8_copyOf_28 : decode cX8_copyOf 28 = .ok (.iconst 0, 1) := by decide +kernel
theorem dX8_copyOf_29 : decode cX8_copyOf 29 = .ok (.aload_n 0, 1) := by decide +kernel
theorem dX8_copyOf_30 : decode cX8_copyOf 30 = .ok (.getfield 9, 3) := by decide +kernel
theorem dX8_copyOf_33 : decode cX8_copyOf 33 = .ok (.iconst 0, 1) := by decide +kernel
theorem dX8_copyOf_34 : decode cX8_copyOf 34 = .ok (.bipush 10, 2) := by decide +kernel
theorem dX8_copyOf_36 : decode cX8_copyOf 36 = .ok (.invokestatic 49, 3) := by decide +kernel
theorem dX8_copyOf_39 : decode cX8_copyOf 39 = .ok (.aload_n 1, 1) := by decide +kernel
theorem dX8_copyOf_40 : decode cX8_copyOf 40 = .ok (.getfield 15, 3) := by decide +kernel
theorem dX8_copyOf_43 : decode cX8_copyOf 43 = .ok (.iconst 0, 1) := by decide +kernel
theorem dX8_copyOf_44 : decode cX8_copyOf 44 = .ok (.aload_n 0, 1) := by decide +kernel
theorem dX8_copyOf_45 : decode cX8_copyOf 45 = .ok (.getfield 15, 3) := by decide +kernel
theorem dX8_copyOf_48 : decode cX8_copyOf 48 = .ok (.iconst 0, 1) := by decide +kernel
theorem dX8_copyOf_49 : decode cX8_copyOf 49 = .ok (.bipush 10, 2) := by decide +kernel
theorem dX8_copyOf_51 : decode cX8_copyOf 51 = .ok (.invokestatic 49, 3) := by decide +kernel
theorem dX8_copyOf_54 : decode cX8_copyOf 54 = .ok (.aload_n 1, 1) := by decide +kernel
theorem dX8_copyOf_55 : decode cX8_copyOf 55 = .ok (.getfield 18, 3) := by decide +kernel
theorem dX8_copyOf_58 : decode cX8_copyOf 58 = .ok (.iconst 0, 1) := by decide +kernel
theorem dX8_copyOf_59 : decode cX8_copyOf 59 = .ok (.aload_n 0, 1) := by decide +kernel
theorem dX8_copyOf_60 : decode cX8_copyOf 60 = .ok (.getfield 18, 3) := by decide +kernel
theorem dX8_copyOf_63 : decode cX8_copyOf 63 = .ok (.iconst 0, 1) := by decide +kernel
theorem dX8_copyOf_64 : decode cX8_copyOf 64 = .ok (.bipush 10, 2) := by decide +kernel
theorem dX8_copyOf_66 : decode cX8_copyOf 66 = .ok (.invokestatic 49, 3) := by decide +kernel
theorem dX8_copyOf_69 : decode cX8_copyOf 69 = .ok (.aload_n 1, 1) := by decide +kernel
theorem dX8_copyOf_70 : decode cX8_copyOf 70 = .ok (.getfield 21, 3) := by decide +kernel
theorem dX8_copyOf_73 : decode cX8_copyOf 73 = .ok (.iconst 0, 1) := by decide +kernel
theorem dX8_copyOf_74 : decode cX8_copyOf 74 = .ok (.aload_n 0, 1) := by decide +kernel
theorem dX8_copyOf_75 : decode cX8_copyOf 75 = .ok (.getfield 21, 3) := by decide +kernel
theorem dX8_copyOf_78 : decode cX8_copyOf 78 = .ok (.iconst 0, 1) := by decide +kernel
theorem dX8_copyOf_79 : decode cX8_copyOf 79 = .ok (.bipush 36, 2) := by decide +kernel
theorem dX8_copyOf_81 : decode cX8_copyOf 81 = .ok (.invokestatic 49, 3) := by decide +kernel
theorem dX8_copyOf_84 : decode cX8_copyOf 84 = .ok (.aload_n 1, 1) := by decide +kernel
theorem dX8_copyOf_85 : decode cX8_copyOf 85 = .ok (.getfield 24, 3) := by decide +kernel
theorem dX8_copyOf_88 : decode cX8_copyOf 88 = .ok (.iconst 0, 1) := by decide +kernel
theorem dX8_copyOf_89 : decode cX8_copyOf 89 = .ok (.aload_n 0, 1) := by decide +kernel
theorem dX8_copyOf_90 : decode cX8_copyOf 90 = .ok (.getfield 24, 3) := by decide +kernel
theorem dX8_copyOf_93 : decode cX8_copyOf 93 = .ok (.iconst 0, 1) := by decide +kernel
theorem dX8_copyOf_94 : decode cX8_copyOf 94 = .ok (.bipush 36, 2) := by decide +kernel
theorem dX8_copyOf_96 : decode cX8_copyOf 96 = .ok (.invokestatic 49, 3) := by decide +kernel
theorem dX8_copyOf_99 : decode cX8_copyOf 99 = .ok (.aload_n 1, 1) := by decide +kernel
theorem dX8_copyOf_100 : decode cX8_copyOf 100 = .ok (.getfield 27, 3) := by decide +kernel
theorem dX8_copyOf_103 : decode cX8_copyOf 103 = .ok (.iconst 0, 1) := by decide +kernel
theorem dX8_copyOf_104 : decode cX8_copyOf 104 = .ok (.aload_n 0, 1) := by decide +kernel
theorem dX8_copyOf_105 : decode cX8_copyOf 105 = .ok (.getfield 27, 3) := by decide +kernel
theorem dX8_copyOf_108 : decode cX8_copyOf 108 = .ok (.iconst 0, 1) := by decide +kernel
theorem dX8_copyOf_109 : decode cX8_copyOf 109 = .ok (.bipush 6, 2) := by decide +kernel
theorem dX8_copyOf_111 : decode cX8_copyOf 111 = .ok (.invokestatic 49, 3) := by decide +kernel
theorem dX8_copyOf_114 : decode cX8_copyOf 114 = .ok (.return_, 1) := by decide +kernel
def tX8_copyOf (kn : sKn) : List (Nat × sA) := [(0, a_aload 0 1), (1, a_aload 1 2), (2, a_get 9 0 5), (5, a_put 9 0 ckI 8), (8, a_aload 0 9), (9, a_aload 1 10), (10, a_get 9 1 13), (13, a_put 9 1 ckI 16), (16, a_aload 0 17), (17, a_aload 1 18), (18, a_get 9 2 21), (21, a_put 9 2 ckI 24), (24, a_aload 1 25), (25, a_get 9 3 28), (28, a_stk (q_int 0) 29), (29, a_aload 0 30), (30, a_get 9 3 33), (33, a_stk (q_int 0) 34), (34, a_stk (q_int 10) 36), (36, a_copy 39), (39, a_aload 1 40), (40, a_get 9 4 43), (43, a_stk (q_int 0) 44), (44, a_aload 0 45), (45, a_get 9 4 48), (48, a_stk (q_int 0) 49), (49, a_stk (q_int 10) 51), (51, a_copy 54), (54, a_aload 1 55), (55, a_get 9 5 58), (58, a_stk (q_int 0) 59), (59, a_aload 0 60), (60, a_get 9 5 63), (63, a_stk (q_int 0) 64), (64, a_stk (q_int 10) 66), (66, a_copy 69), (69, a_aload 1 70), (70, a_get 9 6 73), (73, a_stk (q_int 0) 74), (74, a_aload 0 75), (75, a_get 9 6 78), (78, a_stk (q_int 0) 79), (79, a_stk (q_int 36) 81), (81, a_copy 84), (84, a_aload 1 85), (85, a_get 9 7 88), (88, a_stk (q_int 0) 89), (89, a_aload 0 90), (90, a_get 9 7 93), (93, a_stk (q_int 0) 94), (94, a_stk (q_int 36) 96), (96, a_copy 99), (99, a_aload 1 100), (100, a_get 9 8 103), (103, a_stk (q_int 0) 104), (104, a_aload 0 105), (105, a_get 9 8 108), (108, a_stk (q_int 0) 109), (109, a_stk (q_int 6) 111), (111, a_copy 114), (114, a_vret)]
def fX8_copyOf (kn : sKn) : List Value → sW → Option sR := fW (tX8_copyOf kn) 2
set_option maxRecDepth 100000 in
set_option maxHeartbeats 4000000 in
theorem mX8_copyOf (kn : sKn) : mM kn yX8_copyOf (Cond.code yX8_copyOf cX8_copyOf 2 none :: wsL_law) 1 true (fX8_copyOf kn) := mM_W (fun n => mM_of (own := RX8) (ini := false) rfl (by decide +kernel) (by decide +kernel) (all_c (ok_aload_n dX8_copyOf_0 rfl) (all_c (ok_aload_n dX8_copyOf_1 rfl) (all_c (okg_X8_0 kw203 dX8_copyOf_2) (all_c (okp_X8_0 kw203 dX8_copyOf_5) (all_c (ok_aload_n dX8_copyOf_8 rfl) (all_c (ok_aload_n dX8_copyOf_9 rfl) (all_c (okg_X8_1 kw204 dX8_copyOf_10) (all_c (okp_X8_1 kw204 dX8_copyOf_13) (all_c (ok_aload_n dX8_copyOf_16 rfl) (all_c (ok_aload_n dX8_copyOf_17 rfl) (all_c (okg_X8_2 kw205 dX8_copyOf_18) (all_c (okp_X8_2 kw205 dX8_copyOf_21) (all_c (ok_aload_n dX8_copyOf_24 rfl) (all_c (okg_X8_3 kw206 dX8_copyOf_25) (all_c (ok_stk (s_iconst dX8_copyOf_28 (by decide))) (all_c (ok_aload_n dX8_copyOf_29 rfl) (all_c (okg_X8_3 kw206 dX8_copyOf_30) (all_c (ok_stk (s_iconst dX8_copyOf_33 (by decide))) (all_c (ok_stk (s_bipush dX8_copyOf_34 (by decide))) (all_c (ok_copy (by decide) kw207 kw30 kw31 kw32 dX8_copyOf_36) (all_c (ok_aload_n dX8_copyOf_39 rfl) (all_c (okg_X8_4 kw182 dX8_copyOf_40) (all_c (ok_stk (s_iconst dX8_copyOf_43 (by decide))) (all_c (ok_aload_n dX8_copyOf_44 rfl) (all_c (okg_X8_4 kw182 dX8_copyOf_45) (all_c (ok_stk (s_iconst dX8_copyOf_48 (by decide))) (all_c (ok_stk (s_bipush dX8_copyOf_49 (by decide))) (all_c (ok_copy (by decide) kw207 kw30 kw31 kw32 dX8_copyOf_51) (all_c (ok_aload_n dX8_copyOf_54 rfl) (all_c (okg_X8_5 kw208 dX8_copyOf_55) (all_c (ok_stk (s_iconst dX8_copyOf_58 (by decide))) (all_c (ok_aload_n dX8_copyOf_59 rfl) (all_c (okg_X8_5 kw208 dX8_copyOf_60) (all_c (ok_stk (s_iconst dX8_copyOf_63 (by decide))) (all_c (ok_stk (s_bipush dX8_copyOf_64 (by decide))) (all_c (ok_copy (by decide) kw207 kw30 kw31 kw32 dX8_copyOf_66) (all_c (ok_aload_n dX8_copyOf_69 rfl) (all_c (okg_X8_6 kw209 dX8_copyOf_70) (all_c (ok_stk (s_iconst dX8_copyOf_73 (by decide))) (all_c (ok_aload_n dX8_copyOf_74 rfl) (all_c (okg_X8_6 kw209 dX8_copyOf_75) (all_c (ok_stk (s_iconst dX8_copyOf_78 (by decide))) (all_c (ok_stk (s_bipush dX8_copyOf_79 (by decide))) (all_c (ok_copy (by decide) kw207 kw30 kw31 kw32 dX8_copyOf_81) (all_c (ok_aload_n dX8_copyOf_84 rfl) (all_c (okg_X8_7 kw210 dX8_copyOf_85) (all_c (ok_stk (s_iconst dX8_copyOf_88 (by decide))) (all_c (ok_aload_n dX8_copyOf_89 rfl) (all_c (okg_X8_7 kw210 dX8_copyOf_90) (all_c (ok_stk (s_iconst dX8_copyOf_93 (by decide))) (all_c (ok_stk (s_bipush dX8_copyOf_94 (by decide))) (all_c (ok_copy (by decide) kw207 kw30 kw31 kw32 dX8_copyOf_96) (all_c (ok_aload_n dX8_copyOf_99 rfl) (all_c (okg_X8_8 kw211 dX8_copyOf_100) (all_c (ok_stk (s_iconst dX8_copyOf_103 (by decide))) (all_c (ok_aload_n dX8_copyOf_104 rfl) (all_c (okg_X8_8 kw211 dX8_copyOf_105) (all_c (ok_stk (s_iconst dX8_copyOf_108 (by decide))) (all_c (ok_stk (s_bipush dX8_copyOf_109 (by decide))) (all_c (ok_copy (by decide) kw207 kw30 kw31 kw32 dX8_copyOf_111) (all_c (ok_vret dX8_copyOf_114) all_n))))))))))))))))))))))))))))))))))))))))))))))))))))))))))))) n (fun h => by first | rfl | cases h))
theorem dX0_find_0 : decode cX0_find 0 = .ok (.aload_n 0, 1) := by decide +kernel
theorem dX0_find_1 : decode cX0_find 1 = .ok (.getfield 12, 3) := by decide +kernel
theorem dX0_find_4 : decode cX0_find 4 = .ok (.aload_n 2, 1) := by decide +kernel
theorem dX0_find_5 : decode cX0_find 5 = .ok (.invokevirtual 37, 3) := by decide +kernel
theorem dX0_find_8 : decode cX0_find 8 = .ok (.iconst 0, 1) := by decide +kernel
theorem dX0_find_9 : decode cX0_find 9 = .ok (.istore 4, 2) := by decide +kernel
theorem dX0_find_11 : decode cX0_find 11 = .ok (.iload 4, 2) := by decide +kernel
theorem dX0_find_13 : decode cX0_find 13 = .ok (.aload_n 1, 1) := by decide +kernel
theorem dX0_find_14 : decode cX0_find 14 = .ok (.getfield 41, 3) := by decide +kernel
theorem dX0_find_17 : decode cX0_find 17 = .ok (.if_icmp .ge 75, 3) := by decide +kernel
theorem dX0_find_20 : decode cX0_find 20 = .ok (.iconst 0, 1) := by decide +kernel
theorem dX0_find_21 : decode cX0_find 21 = .ok (.istore 5, 2) := by decide +kernel
theorem dX0_find_23 : decode cX0_find 23 = .ok (.iload 5, 2) := by decide +kernel
theorem dX0_find_25 : decode cX0_find 25 = .ok (.iconst 3, 1) := by decide +kernel
theorem dX0_find_26 : decode cX0_find 26 = .ok (.if_icmp .ge 32, 3) := by decide +kernel
theorem dX0_find_29 : decode cX0_find 29 = .ok (.aload_n 0, 1) := by decide +kernel
theorem dX0_find_30 : decode cX0_find 30 = .ok (.getfield 18, 3) := by decide +kernel
theorem dX0_find_33 : decode cX0_find 33 = .ok (.iconst 4, 1) := by decide +kernel
theorem dX0_find_34 : decode cX0_find 34 = .ok (.iload 4, 2) := by decide +kernel
theorem dX0_find_36 : decode cX0_find 36 = .ok (.imul, 1) := by decide +kernel
theorem dX0_find_37 : decode cX0_find 37 = .ok (.iload 5, 2) := by decide +kernel
theorem dX0_find_39 : decode cX0_find 39 = .ok (.iadd, 1) := by decide +kernel
theorem dX0_find_40 : decode cX0_find 40 = .ok (.aload_n 0, 1) := by decide +kernel
theorem dX0_find_41 : decode cX0_find 41 = .ok (.aload_n 1, 1) := by decide +kernel
theorem dX0_find_42 : decode cX0_find 42 = .ok (.aload_n 2, 1) := by decide +kernel
theorem dX0_find_43 : decode cX0_find 43 = .ok (.iload_n 3, 1) := by decide +kernel
theorem dX0_find_44 : decode cX0_find 44 = .ok (.iload 4, 2) := by decide +kernel
theorem dX0_find_46 : decode cX0_find 46 = .ok (.iload 5, 2) := by decide +kernel
theorem dX0_find_48 : decode cX0_find 48 = .ok (.invokevirtual 47, 3) := by decide +kernel
theorem dX0_find_51 : decode cX0_find 51 = .ok (.iastore, 1) := by decide +kernel
theorem dX0_find_52 : decode cX0_find 52 = .ok (.iinc 5 1, 3) := by decide +kernel
theorem dX0_find_55 : decode cX0_find 55 = .ok (.goto (-32), 3) := by decide +kernel
theorem dX0_find_58 : decode cX0_find 58 = .ok (.aload_n 0, 1) := by decide +kernel
theorem dX0_find_59 : decode cX0_find 59 = .ok (.getfield 18, 3) := by decide +kernel
theorem dX0_find_62 : decode cX0_find 62 = .ok (.iconst 4, 1) := by decide +kernel
theorem dX0_find_63 : decode cX0_find 63 = .ok (.iload 4, 2) := by decide +kernel
theorem dX0_find_65 : decode cX0_find 65 = .ok (.imul, 1) := by decide +kernel
theorem dX0_find_66 : decode cX0_find 66 = .ok (.iconst 3, 1) := by decide +kernel
theorem dX0_find_67 : decode cX0_find 67 = .ok (.iadd, 1) := by decide +kernel
theorem dX0_find_68 : decode cX0_find 68 = .ok (.aload_n 1, 1) := by decide +kernel
theorem dX0_find_69 : decode cX0_find 69 = .ok (.getfield 51, 3) := by decide +kernel
theorem dX0_find_72 : decode cX0_find 72 = .ok (.iload_n 3, 1) := by decide +kernel
theorem dX0_find_73 : decode cX0_find 73 = .ok (.iaload, 1) := by decide +kernel
theorem dX0_find_74 : decode cX0_find 74 = .ok (.bipush 9, 2) := by decide +kernel
theorem dX0_find_76 : decode cX0_find 76 = .ok (.if_icmp .gt 7, 3) := by decide +kernel
theorem dX0_find_79 : decode cX0_find 79 = .ok (.iconst 0, 1) := by decide +kernel
theorem dX0_find_80 : decode cX0_find 80 = .ok (.goto 5, 3) := by decide +kernel
theorem dX0_find_83 : decode cX0_find 83 = .ok (.ldc 54, 2) := by decide +kernel
theorem dX0_find_85 : decode cX0_find 85 = .ok (.iastore, 1) := by decide +kernel
theorem dX0_find_86 : decode cX0_find 86 = .ok (.iinc 4 1, 3) := by decide +kernel
theorem dX0_find_89 : decode cX0_find 89 = .ok (.goto (-78), 3) := by decide +kernel
theorem dX0_find_92 : decode cX0_find 92 = .ok (.aload_n 0, 1) := by decide +kernel
theorem dX0_find_93 : decode cX0_find 93 = .ok (.aload_n 1, 1) := by decide +kernel
theorem dX0_find_94 : decode cX0_find 94 = .ok (.getfield 41, 3) := by decide +kernel
theorem dX0_find_97 : decode cX0_find 97 = .ok (.invokevirtual 55, 3) := by decide +kernel
theorem dX0_find_100 : decode cX0_find 100 = .ok (.istore 4, 2) := by decide +kernel
theorem dX0_find_102 : decode cX0_find 102 = .ok (.iload 4, 2) := by decide +kernel
theorem dX0_find_104 : decode cX0_find 104 = .ok (.ldc 54, 2) := by decide +kernel
theorem dX0_find_106 : decode cX0_find 106 = .ok (.if_icmp .lt 5, 3) := by decide +kernel
theorem dX0_find_109 : decode cX0_find 109 = .ok (.iconst (-1), 1) := by decide +kernel
theorem dX0_find_110 : decode cX0_find 110 = .ok (.ireturn, 1) := by decide +kernel
theorem dX0_find_111 : decode cX0_find 111 = .ok (.aload_n 0, 1) := by decide +kernel
theorem dX0_find_112 : decode cX0_find 112 = .ok (.aload_n 1, 1) := by decide +kernel
theorem dX0_find_113 : decode cX0_find 113 = .ok (.aload_n 2, 1) := by decide +kernel
theorem dX0_find_114 : decode cX0_find 114 = .ok (.iload_n 3, 1) := by decide +kernel
theorem dX0_find_115 : decode cX0_find 115 = .ok (.invokevirtual 59, 3) := by decide +kernel
theorem dX0_find_118 : decode cX0_find 118 = .ok (.iload 4, 2) := by decide +kernel
theorem dX0_find_120 : decode cX0_find 120 = .ok (.ireturn, 1) := by decide +kernel
theorem okc_X8_copyOf {kn : sKn} {cc : ByteArray} {own : String} {nL : Nat} {D : Nat} {ret : Option FieldType} {ini : Bool} {pc index : Nat} (hD : 1 + 1 ≤ D) (hl : Cond.methodLink own index yX8_copyOf ∈ wsL_law) (hd : decode cc pc = .ok (.invokevirtual index, 3)) : mOk kn cc own nL wsL_law D ret ini pc (a_callV true (fX8_copyOf kn) 9 (1 + 1) (pc + 3)) := ok_callV (mX8_copyOf kn) (good_ws ws_good (fun _ h => h) kw212) hD (by decide) hl kw213 kw214 kw184 ⟨by decide +kernel, by decide +kernel, by decide +kernel⟩ rfl hd
theorem okc_X0_price {kn : sKn} {cc : ByteArray} {own : String} {nL : Nat} {D : Nat} {ret : Option FieldType} {ini : Bool} {pc index : Nat} (hD : 4 + 1 ≤ D) (hl : Cond.methodLink own index yX0_price ∈ wsL_law) (hd : decode cc pc = .ok (.invokevirtual index, 3)) : mOk kn cc own nL wsL_law D ret ini pc (a_callV false (fX0_price kn) 1 (5 + 1) (pc + 3)) := ok_callV (mX0_price kn) (good_ws ws_good (fun _ h => h) kw216) hD (by decide) hl kw217 kw218 kw152 ⟨by decide +kernel, by decide +kernel, by decide +kernel⟩ rfl hd
theorem okc_X0_addUp {kn : sKn} {cc : ByteArray} {own : String} {nL : Nat} {D : Nat} {ret : Option FieldType} {ini : Bool} {pc index : Nat} (hD : 2 + 1 ≤ D) (hl : Cond.methodLink own index yX0_addUp ∈ wsL_law) (hd : decode cc pc = .ok (.invokevirtual index, 3)) : mOk kn cc own nL wsL_law D ret ini pc (a_callV false (fX0_addUp kn) 1 (1 + 1) (pc + 3)) := ok_callV (mX0_addUp kn) (good_ws ws_good (fun _ h => h) kw220) hD (by decide) hl kw221 kw222 kw152 ⟨by decide +kernel, by decide +kernel, by decide +kernel⟩ rfl hd
theorem okc_X0_followFirst {kn : sKn} {cc : ByteArray} {own : String} {nL : Nat} {D : Nat} {ret : Option FieldType} {ini : Bool} {pc index : Nat} (hD : 2 + 1 ≤ D) (hl : Cond.methodLink own index yX0_followFirst ∈ wsL_law) (hd : decode cc pc = .ok (.invokevirtual index, 3)) : mOk kn cc own nL wsL_law D ret ini pc (a_callV true (fX0_followFirst kn) 1 (3 + 1) (pc + 3)) := ok_callV (mX0_followFirst kn) (good_ws ws_good (fun _ h => h) kw224) hD (by decide) hl kw225 kw226 kw152 ⟨by decide +kernel, by decide +kernel, by decide +kernel⟩ rfl hd
def tX0_find (kn : sKn) : List (Nat × sA) := [(0, a_aload 0 1), (1, a_get 1 0 4), (4, a_aload 2 5), (5, a_callV true (fX8_copyOf kn) 9 2 8), (8, a_stk (q_int 0) 9), (9, a_istore 4 11), (11, a_iload 4 13), (13, a_aload 1 14), (14, a_get 7 0 17), (17, a_icmp kn b_ge 3 92 20), (20, a_stk (q_int 0) 21), (21, a_istore 5 23), (23, a_iload 5 25), (25, a_stk (q_int 3) 26), (26, a_icmp kn b_ge 3 58 29), (29, a_aload 0 30), (30, a_get 1 1 33), (33, a_stk (q_int 4) 34), (34, a_iload 4 36), (36, a_stk q_imul 37), (37, a_iload 5 39), (39, a_stk q_iadd 40), (40, a_aload 0 41), (41, a_aload 1 42), (42, a_aload 2 43), (43, a_iload 3 44), (44, a_iload 4 46), (46, a_iload 5 48), (48, a_callV false (fX0_price kn) 1 6 51), (51, a_iast 52), (52, a_iinc 5 1 55), (55, a_goto 23), (58, a_aload 0 59), (59, a_get 1 1 62), (62, a_stk (q_int 4) 63), (63, a_iload 4 65), (65, a_stk q_imul 66), (66, a_stk (q_int 3) 67), (67, a_stk q_iadd 68), (68, a_aload 1 69), (69, a_get 7 13 72), (72, a_iload 3 73), (73, a_iald 74), (74, a_stk (q_int 9) 76), (76, a_icmp kn b_gt 4 83 79), (79, a_stk (q_int 0) 80), (80, a_goto 85), (83, a_stk (q_int (1000000)) 85), (85, a_iast 86), (86, a_iinc 4 1 89), (89, a_goto 11), (92, a_aload 0 93), (93, a_aload 1 94), (94, a_get 7 0 97), (97, a_callV false (fX0_addUp kn) 1 2 100), (100, a_istore 4 102), (102, a_iload 4 104), (104, a_stk (q_int (1000000)) 106), (106, a_icmp kn b_lt 2 111 109), (109, a_stk (q_int (-1)) 110), (110, a_iret), (111, a_aload 0 112), (112, a_aload 1 113), (113, a_aload 2 114), (114, a_iload 3 115), (115, a_callV true (fX0_followFirst kn) 1 4 118), (118, a_iload 4 120), (120, a_iret)]
def fX0_find (kn : sKn) : List Value → sW → Option sR := fW (tX0_find kn) 6
set_option maxRecDepth 100000 in
set_option maxHeartbeats 4000000 in
theorem mX0_find (kn : sKn) : mM kn yX0_find (Cond.code yX0_find cX0_find 6 (some .int) :: wsL_law) 5 false (fX0_find kn) := mM_W (fun n => mM_of (own := RX0) (ini := false) rfl (by decide +kernel) (by decide +kernel) (all_c (ok_aload_n dX0_find_0 rfl) (all_c (okg_X0_0 kw167 dX0_find_1) (all_c (ok_aload_n dX0_find_4 rfl) (all_c (okc_X8_copyOf (by decide) kw215 dX0_find_5) (all_c (ok_stk (s_iconst dX0_find_8 (by decide))) (all_c (ok_istore dX0_find_9 (by decide)) (all_c (ok_iload dX0_find_11) (all_c (ok_aload_n dX0_find_13 rfl) (all_c (okg_X6_0 kw179 dX0_find_14) (all_c (ok_icmp_ge dX0_find_17 (by decide)) (all_c (ok_stk (s_iconst dX0_find_20 (by decide))) (all_c (ok_istore dX0_find_21 (by decide)) (all_c (ok_iload dX0_find_23) (all_c (ok_stk (s_iconst dX0_find_25 (by decide))) (all_c (ok_icmp_ge dX0_find_26 (by decide)) (all_c (ok_aload_n dX0_find_29 rfl) (all_c (okg_X0_1 kw156 dX0_find_30) (all_c (ok_stk (s_iconst dX0_find_33 (by decide))) (all_c (ok_iload dX0_find_34) (all_c (ok_stk (s_imul dX0_find_36)) (all_c (ok_iload dX0_find_37) (all_c (ok_stk (s_iadd dX0_find_39)) (all_c (ok_aload_n dX0_find_40 rfl) (all_c (ok_aload_n dX0_find_41 rfl) (all_c (ok_aload_n dX0_find_42 rfl) (all_c (ok_iload_n dX0_find_43 rfl) (all_c (ok_iload dX0_find_44) (all_c (ok_iload dX0_find_46) (all_c (okc_X0_price (by decide) kw219 dX0_find_48) (all_c (ok_iast dX0_find_51) (all_c (ok_iinc dX0_find_52 (by decide) (by decide)) (all_c (ok_goto dX0_find_55 (by decide)) (all_c (ok_aload_n dX0_find_58 rfl) (all_c (okg_X0_1 kw156 dX0_find_59) (all_c (ok_stk (s_iconst dX0_find_62 (by decide))) (all_c (ok_iload dX0_find_63) (all_c (ok_stk (s_imul dX0_find_65)) (all_c (ok_stk (s_iconst dX0_find_66 (by decide))) (all_c (ok_stk (s_iadd dX0_find_67)) (all_c (ok_aload_n dX0_find_68 rfl) (all_c (okg_X6_13 kw201 dX0_find_69) (all_c (ok_iload_n dX0_find_72 rfl) (all_c (ok_iald dX0_find_73) (all_c (ok_stk (s_bipush dX0_find_74 (by decide))) (all_c (ok_icmp_gt dX0_find_76 (by decide)) (all_c (ok_stk (s_iconst dX0_find_79 (by decide))) (all_c (ok_goto dX0_find_80 (by decide)) (all_c (ok_ldc kw148 dX0_find_83) (all_c (ok_iast dX0_find_85) (all_c (ok_iinc dX0_find_86 (by decide) (by decide)) (all_c (ok_goto dX0_find_89 (by decide)) (all_c (ok_aload_n dX0_find_92 rfl) (all_c (ok_aload_n dX0_find_93 rfl) (all_c (okg_X6_0 kw179 dX0_find_94) (all_c (okc_X0_addUp (by decide) kw223 dX0_find_97) (all_c (ok_istore dX0_find_100 (by decide)) (all_c (ok_iload dX0_find_102) (all_c (ok_ldc kw148 dX0_find_104) (all_c (ok_icmp_lt dX0_find_106 (by decide)) (all_c (ok_stk (s_iconst dX0_find_109 (by decide))) (all_c (ok_iret dX0_find_110) (all_c (ok_aload_n dX0_find_111 rfl) (all_c (ok_aload_n dX0_find_112 rfl) (all_c (ok_aload_n dX0_find_113 rfl) (all_c (ok_iload_n dX0_find_114 rfl) (all_c (okc_X0_followFirst (by decide) kw227 dX0_find_115) (all_c (ok_iload dX0_find_118) (all_c (ok_iret dX0_find_120) all_n)))))))))))))))))))))))))))))))))))))))))))))))))))))))))))))))))))) n (fun h => by first | rfl | cases h))
theorem dX8_init_0 : decode cX8_init 0 = .ok (.aload_n 0, 1) := by decide +kernel
theorem dX8_init_1 : decode cX8_init 1 = .ok (.invokespecial 3, 3) := by decide +kernel
theorem dX8_init_4 : decode cX8_init 4 = .ok (.aload_n 0, 1) := by decide +kernel
theorem dX8_init_5 : decode cX8_init 5 = .ok (.bipush 10, 2) := by decide +kernel
theorem dX8_init_7 : decode cX8_init 7 = .ok (.newarray .int, 2) := by decide +kernel
theorem dX8_init_9 : decode cX8_init 9 = .ok (.putfield 9, 3) := by decide +kernel
theorem dX8_init_12 : decode cX8_init 12 = .ok (.aload_n 0, 1) := by decide +kernel
theorem dX8_init_13 : decode cX8_init 13 = .ok (.bipush 10, 2) := by decide +kernel
theorem dX8_init_15 : decode cX8_init 15 = .ok (.newarray .int, 2) := by decide +kernel
theorem dX8_init_17 : decode cX8_init 17 = .ok (.putfield 15, 3) := by decide +kernel
theorem dX8_init_20 : decode cX8_init 20 = .ok (.aload_n 0, 1) := by decide +kernel
theorem dX8_init_21 : decode cX8_init 21 = .ok (.bipush 10, 2) := by decide +kernel
theorem dX8_init_23 : decode cX8_init 23 = .ok (.newarray .int, 2) := by decide +kernel
theorem dX8_init_25 : decode cX8_init 25 = .ok (.putfield 18, 3) := by decide +kernel
theorem dX8_init_28 : decode cX8_init 28 = .ok (.aload_n 0, 1) := by decide +kernel
theorem dX8_init_29 : decode cX8_init 29 = .ok (.bipush 36, 2) := by decide +kernel
theorem dX8_init_31 : decode cX8_init 31 = .ok (.newarray .int, 2) := by decide +kernel
theorem dX8_init_33 : decode cX8_init 33 = .ok (.putfield 21, 3) := by decide +kernel
theorem dX8_init_36 : decode cX8_init 36 = .ok (.aload_n 0, 1) := by decide +kernel
theorem dX8_init_37 : decode cX8_init 37 = .ok (.bipush 36, 2) := by decide +kernel
theorem dX8_init_39 : decode cX8_init 39 = .ok (.newarray .int, 2) := by decide +kernel
theorem dX8_init_41 : decode cX8_init 41 = .ok (.putfield 24, 3) := by decide +kernel
theorem dX8_init_44 : decode cX8_init 44 = .ok (.aload_n 0, 1) := by decide +kernel
theorem dX8_init_45 : decode cX8_init 45 = .ok (.bipush 6, 2) := by decide +kernel
theorem dX8_init_47 : decode cX8_init 47 = .ok (.newarray .int, 2) := by decide +kernel
theorem dX8_init_49 : decode cX8_init 49 = .ok (.putfield 27, 3) := by decide +kernel
theorem dX8_init_52 : decode cX8_init 52 = .ok (.aload_n 0, 1) := by decide +kernel
theorem dX8_init_53 : decode cX8_init 53 = .ok (.getfield 15, 3) := by decide +kernel
theorem dX8_init_56 : decode cX8_init 56 = .ok (.iconst (-1), 1) := by decide +kernel
theorem dX8_init_57 : decode cX8_init 57 = .ok (.invokestatic 30, 3) := by decide +kernel
theorem dX8_init_60 : decode cX8_init 60 = .ok (.aload_n 0, 1) := by decide +kernel
theorem dX8_init_61 : decode cX8_init 61 = .ok (.getfield 21, 3) := by decide +kernel
theorem dX8_init_64 : decode cX8_init 64 = .ok (.iconst (-1), 1) := by decide +kernel
theorem dX8_init_65 : decode cX8_init 65 = .ok (.invokestatic 30, 3) := by decide +kernel
theorem dX8_init_68 : decode cX8_init 68 = .ok (.return_, 1) := by decide +kernel
def tX8_init (kn : sKn) : List (Nat × sA) := [(0, a_aload 0 1), (1, a_obj 4), (4, a_aload 0 5), (5, a_stk (q_int 10) 7), (7, a_newa 1 9), (9, a_put 9 3 ckR 12), (12, a_aload 0 13), (13, a_stk (q_int 10) 15), (15, a_newa 1 17), (17, a_put 9 4 ckR 20), (20, a_aload 0 21), (21, a_stk (q_int 10) 23), (23, a_newa 1 25), (25, a_put 9 5 ckR 28), (28, a_aload 0 29), (29, a_stk (q_int 36) 31), (31, a_newa 1 33), (33, a_put 9 6 ckR 36), (36, a_aload 0 37), (37, a_stk (q_int 36) 39), (39, a_newa 1 41), (41, a_put 9 7 ckR 44), (44, a_aload 0 45), (45, a_stk (q_int 6) 47), (47, a_newa 1 49), (49, a_put 9 8 ckR 52), (52, a_aload 0 53), (53, a_get 9 4 56), (56, a_stk (q_int (-1)) 57), (57, a_callS true (fJ7_fill_53178 kn) 2 60), (60, a_aload 0 61), (61, a_get 9 6 64), (64, a_stk (q_int (-1)) 65), (65, a_callS true (fJ7_fill_53178 kn) 2 68), (68, a_vret)]
def fX8_init (kn : sKn) : List Value → sW → Option sR := fW (tX8_init kn) 1
set_option maxRecDepth 100000 in
set_option maxHeartbeats 4000000 in
theorem mX8_init (kn : sKn) : mM kn yX8_init (Cond.code yX8_init cX8_init 1 none :: wsL_law) 2 true (fX8_init kn) := mM_W (fun n => mM_of (own := RX8) (ini := true) rfl (by decide +kernel) (by decide +kernel) (all_c (ok_aload_n dX8_init_0 rfl) (all_c (ok_obj (by decide) kw228 kw122 kw123 dX8_init_1) (all_c (ok_aload_n dX8_init_4 rfl) (all_c (ok_stk (s_bipush dX8_init_5 (by decide))) (all_c (ok_newI kw229 dX8_init_7) (all_c (okp_X8_3 kw206 dX8_init_9) (all_c (ok_aload_n dX8_init_12 rfl) (all_c (ok_stk (s_bipush dX8_init_13 (by decide))) (all_c (ok_newI kw229 dX8_init_15) (all_c (okp_X8_4 kw182 dX8_init_17) (all_c (ok_aload_n dX8_init_20 rfl) (all_c (ok_stk (s_bipush dX8_init_21 (by decide))) (all_c (ok_newI kw229 dX8_init_23) (all_c (okp_X8_5 kw208 dX8_init_25) (all_c (ok_aload_n dX8_init_28 rfl) (all_c (ok_stk (s_bipush dX8_init_29 (by decide))) (all_c (ok_newI kw229 dX8_init_31) (all_c (okp_X8_6 kw209 dX8_init_33) (all_c (ok_aload_n dX8_init_36 rfl) (all_c (ok_stk (s_bipush dX8_init_37 (by decide))) (all_c (ok_newI kw229 dX8_init_39) (all_c (okp_X8_7 kw210 dX8_init_41) (all_c (ok_aload_n dX8_init_44 rfl) (all_c (ok_stk (s_bipush dX8_init_45 (by decide))) (all_c (ok_newI kw229 dX8_init_47) (all_c (okp_X8_8 kw211 dX8_init_49) (all_c (ok_aload_n dX8_init_52 rfl) (all_c (okg_X8_4 kw182 dX8_init_53) (all_c (ok_stk (s_iconst dX8_init_56 (by decide))) (all_c (okc_J7_fill_53178 (by decide) kw230 dX8_init_57) (all_c (ok_aload_n dX8_init_60 rfl) (all_c (okg_X8_6 kw209 dX8_init_61) (all_c (ok_stk (s_iconst dX8_init_64 (by decide))) (all_c (okc_J7_fill_53178 (by decide) kw230 dX8_init_65) (all_c (ok_vret dX8_init_68) all_n))))))))))))))))))))))))))))))))))) n (fun h => by first | rfl | cases h))
theorem dX0_init_0 : decode cX0_init 0 = .ok (.aload_n 0, 1) := by decide +kernel
theorem dX0_init_1 : decode cX0_init 1 = .ok (.invokespecial 3, 3) := by decide +kernel
theorem dX0_init_4 : decode cX0_init 4 = .ok (.aload_n 0, 1) := by decide +kernel
theorem dX0_init_5 : decode cX0_init 5 = .ok (.new 9, 3) := by decide +kernel
theorem dX0_init_8 : decode cX0_init 8 = .ok (.dup, 1) := by decide +kernel
theorem dX0_init_9 : decode cX0_init 9 = .ok (.invokespecial 11, 3) := by decide +kernel
theorem dX0_init_12 : decode cX0_init 12 = .ok (.putfield 12, 3) := by decide +kernel
theorem dX0_init_15 : decode cX0_init 15 = .ok (.aload_n 0, 1) := by decide +kernel
theorem dX0_init_16 : decode cX0_init 16 = .ok (.bipush 48, 2) := by decide +kernel
theorem dX0_init_18 : decode cX0_init 18 = .ok (.newarray .int, 2) := by decide +kernel
theorem dX0_init_20 : decode cX0_init 20 = .ok (.putfield 18, 3) := by decide +kernel
theorem dX0_init_23 : decode cX0_init 23 = .ok (.aload_n 0, 1) := by decide +kernel
theorem dX0_init_24 : decode cX0_init 24 = .ok (.bipush 48, 2) := by decide +kernel
theorem dX0_init_26 : decode cX0_init 26 = .ok (.newarray .int, 2) := by decide +kernel
theorem dX0_init_28 : decode cX0_init 28 = .ok (.putfield 22, 3) := by decide +kernel
theorem dX0_init_31 : decode cX0_init 31 = .ok (.aload_n 0, 1) := by decide +kernel
theorem dX0_init_32 : decode cX0_init 32 = .ok (.sipush 144, 3) := by decide +kernel
theorem dX0_init_35 : decode cX0_init 35 = .ok (.newarray .int, 2) := by decide +kernel
theorem dX0_init_37 : decode cX0_init 37 = .ok (.putfield 25, 3) := by decide +kernel
theorem dX0_init_40 : decode cX0_init 40 = .ok (.aload_n 0, 1) := by decide +kernel
theorem dX0_init_41 : decode cX0_init 41 = .ok (.bipush 36, 2) := by decide +kernel
theorem dX0_init_43 : decode cX0_init 43 = .ok (.newarray .int, 2) := by decide +kernel
theorem dX0_init_45 : decode cX0_init 45 = .ok (.putfield 28, 3) := by decide +kernel
theorem dX0_init_48 : decode cX0_init 48 = .ok (.aload_n 0, 1) := by decide +kernel
theorem dX0_init_49 : decode cX0_init 49 = .ok (.getfield 28, 3) := by decide +kernel
theorem dX0_init_52 : decode cX0_init 52 = .ok (.iconst (-1), 1) := by decide +kernel
theorem dX0_init_53 : decode cX0_init 53 = .ok (.invokestatic 31, 3) := by decide +kernel
theorem dX0_init_56 : decode cX0_init 56 = .ok (.return_, 1) := by decide +kernel
theorem okc_X8_init {kn : sKn} {cc : ByteArray} {own : String} {nL : Nat} {D : Nat} {ret : Option FieldType} {ini : Bool} {pc index : Nat} (hD : 2 + 1 ≤ D) (hl : Cond.methodLink own index yX8_init ∈ wsL_law) (hd : decode cc pc = .ok (.invokespecial index, 3)) : mOk kn cc own nL wsL_law D ret ini pc (a_callI true (fX8_init kn) (0 + 1) (pc + 3)) := ok_callI (mX8_init kn) (good_ws ws_good (fun _ h => h) kw233) hD (by decide) hl kw234 rfl kw184 ⟨by decide +kernel, by decide +kernel, by decide +kernel⟩ hd
def tX0_init (kn : sKn) : List (Nat × sA) := [(0, a_aload 0 1), (1, a_obj 4), (4, a_aload 0 5), (5, a_new 9 8 [.int 0, .int 0, .int 0, .null, .null, .null, .null, .null, .null]), (8, a_stk q_dup 9), (9, a_callI true (fX8_init kn) 1 12), (12, a_put 1 0 ckR 15), (15, a_aload 0 16), (16, a_stk (q_int 48) 18), (18, a_newa 1 20), (20, a_put 1 1 ckR 23), (23, a_aload 0 24), (24, a_stk (q_int 48) 26), (26, a_newa 1 28), (28, a_put 1 2 ckR 31), (31, a_aload 0 32), (32, a_stk (q_int 144) 35), (35, a_newa 1 37), (37, a_put 1 3 ckR 40), (40, a_aload 0 41), (41, a_stk (q_int 36) 43), (43, a_newa 1 45), (45, a_put 1 4 ckR 48), (48, a_aload 0 49), (49, a_get 1 4 52), (52, a_stk (q_int (-1)) 53), (53, a_callS true (fJ7_fill_53178 kn) 2 56), (56, a_vret)]
def fX0_init (kn : sKn) : List Value → sW → Option sR := fW (tX0_init kn) 1
set_option maxRecDepth 100000 in
set_option maxHeartbeats 4000000 in
theorem mX0_init (kn : sKn) : mM kn yX0_init (Cond.code yX0_init cX0_init 1 none :: wsL_law) 3 true (fX0_init kn) := mM_W (fun n => mM_of (own := RX0) (ini := true) rfl (by decide +kernel) (by decide +kernel) (all_c (ok_aload_n dX0_init_0 rfl) (all_c (ok_obj (by decide) kw231 kw122 kw123 dX0_init_1) (all_c (ok_aload_n dX0_init_4 rfl) (all_c (okn_X8 kw232 dX0_init_5) (all_c (ok_stk (s_dup dX0_init_8)) (all_c (okc_X8_init (by decide) kw235 dX0_init_9) (all_c (okp_X0_0 kw167 dX0_init_12) (all_c (ok_aload_n dX0_init_15 rfl) (all_c (ok_stk (s_bipush dX0_init_16 (by decide))) (all_c (ok_newI kw229 dX0_init_18) (all_c (okp_X0_1 kw156 dX0_init_20) (all_c (ok_aload_n dX0_init_23 rfl) (all_c (ok_stk (s_bipush dX0_init_24 (by decide))) (all_c (ok_newI kw229 dX0_init_26) (all_c (okp_X0_2 kw149 dX0_init_28) (all_c (ok_aload_n dX0_init_31 rfl) (all_c (ok_stk (s_sipush dX0_init_32 (by decide))) (all_c (ok_newI kw229 dX0_init_35) (all_c (okp_X0_3 kw181 dX0_init_37) (all_c (ok_aload_n dX0_init_40 rfl) (all_c (ok_stk (s_bipush dX0_init_41 (by decide))) (all_c (ok_newI kw229 dX0_init_43) (all_c (okp_X0_4 kw175 dX0_init_45) (all_c (ok_aload_n dX0_init_48 rfl) (all_c (okg_X0_4 kw175 dX0_init_49) (all_c (ok_stk (s_iconst dX0_init_52 (by decide))) (all_c (okc_J7_fill_53178 (by decide) kw178 dX0_init_53) (all_c (ok_vret dX0_init_56) all_n)))))))))))))))))))))))))))) n (fun h => by first | rfl | cases h))
theorem dX10_bearTogether_0 : decode cX10_bearTogether 0 = .ok (.iload_n 2, 1) := by decide +kernel
theorem dX10_bearTogether_1 : decode cX10_bearTogether 1 = .ok (.iload_n 3, 1) := by decide +kernel
theorem dX10_bearTogether_2 : decode cX10_bearTogether 2 = .ok (.iadd, 1) := by decide +kernel
theorem dX10_bearTogether_3 : decode cX10_bearTogether 3 = .ok (.iconst 3, 1) := by decide +kernel
theorem dX10_bearTogether_4 : decode cX10_bearTogether 4 = .ok (.if_icmp .le 5, 3) := by decide +kernel
theorem dX10_bearTogether_7 : decode cX10_bearTogether 7 = .ok (.iconst (-1), 1) := by decide +kernel
theorem dX10_bearTogether_8 : decode cX10_bearTogether 8 = .ok (.ireturn, 1) := by decide +kernel
theorem dX10_bearTogether_9 : decode cX10_bearTogether 9 = .ok (.iconst 0, 1) := by decide +kernel
theorem dX10_bearTogether_10 : decode cX10_bearTogether 10 = .ok (.istore 4, 2) := by decide +kernel
theorem dX10_bearTogether_12 : decode cX10_bearTogether 12 = .ok (.iconst 0, 1) := by decide +kernel
theorem dX10_bearTogether_13 : decode cX10_bearTogether 13 = .ok (.istore 5, 2) := by decide +kernel
theorem dX10_bearTogether_15 : decode cX10_bearTogether 15 = .ok (.iload 5, 2) := by decide +kernel
theorem dX10_bearTogether_17 : decode cX10_bearTogether 17 = .ok (.iload_n 3, 1) := by decide +kernel
theorem dX10_bearTogether_18 : decode cX10_bearTogether 18 = .ok (.if_icmp .ge 39, 3) := by decide +kernel
theorem dX10_bearTogether_21 : decode cX10_bearTogether 21 = .ok (.aload_n 0, 1) := by decide +kernel
theorem dX10_bearTogether_22 : decode cX10_bearTogether 22 = .ok (.getfield 9, 3) := by decide +kernel
theorem dX10_bearTogether_25 : decode cX10_bearTogether 25 = .ok (.iconst 3, 1) := by decide +kernel
theorem dX10_bearTogether_26 : decode cX10_bearTogether 26 = .ok (.iload_n 1, 1) := by decide +kernel
theorem dX10_bearTogether_27 : decode cX10_bearTogether 27 = .ok (.imul, 1) := by decide +kernel
theorem dX10_bearTogether_28 : decode cX10_bearTogether 28 = .ok (.iload_n 2, 1) := by decide +kernel
theorem dX10_bearTogether_29 : decode cX10_bearTogether 29 = .ok (.iadd, 1) := by decide +kernel
theorem dX10_bearTogether_30 : decode cX10_bearTogether 30 = .ok (.iload 5, 2) := by decide +kernel
theorem dX10_bearTogether_32 : decode cX10_bearTogether 32 = .ok (.iadd, 1) := by decide +kernel
theorem dX10_bearTogether_33 : decode cX10_bearTogether 33 = .ok (.iaload, 1) := by decide +kernel
theorem dX10_bearTogether_34 : decode cX10_bearTogether 34 = .ok (.istore 6, 2) := by decide +kernel
theorem dX10_bearTogether_36 : decode cX10_bearTogether 36 = .ok (.iload 6, 2) := by decide +kernel
theorem dX10_bearTogether_38 : decode cX10_bearTogether 38 = .ok (.iconst (-1), 1) := by decide +kernel
theorem dX10_bearTogether_39 : decode cX10_bearTogether 39 = .ok (.if_icmp .ne 5, 3) := by decide +kernel
theorem dX10_bearTogether_42 : decode cX10_bearTogether 42 = .ok (.iconst (-1), 1) := by decide +kernel
theorem dX10_bearTogether_43 : decode cX10_bearTogether 43 = .ok (.ireturn, 1) := by decide +kernel
theorem dX10_bearTogether_44 : decode cX10_bearTogether 44 = .ok (.iload 4, 2) := by decide +kernel
theorem dX10_bearTogether_46 : decode cX10_bearTogether 46 = .ok (.iload 6, 2) := by decide +kernel
theorem dX10_bearTogether_48 : decode cX10_bearTogether 48 = .ok (.iadd, 1) := by decide +kernel
theorem dX10_bearTogether_49 : decode cX10_bearTogether 49 = .ok (.istore 4, 2) := by decide +kernel
theorem dX10_bearTogether_51 : decode cX10_bearTogether 51 = .ok (.iinc 5 1, 3) := by decide +kernel
theorem dX10_bearTogether_54 : decode cX10_bearTogether 54 = .ok (.goto (-39), 3) := by decide +kernel
theorem dX10_bearTogether_57 : decode cX10_bearTogether 57 = .ok (.iload 4, 2) := by decide +kernel
theorem dX10_bearTogether_59 : decode cX10_bearTogether 59 = .ok (.ireturn, 1) := by decide +kernel
def tX10_bearTogether (kn : sKn) : List (Nat × sA) := [(0, a_iload 2 1), (1, a_iload 3 2), (2, a_stk q_iadd 3), (3, a_stk (q_int 3) 4), (4, a_icmp kn b_le 5 9 7), (7, a_stk (q_int (-1)) 8), (8, a_iret), (9, a_stk (q_int 0) 10), (10, a_istore 4 12), (12, a_stk (q_int 0) 13), (13, a_istore 5 15), (15, a_iload 5 17), (17, a_iload 3 18), (18, a_icmp kn b_ge 3 57 21), (21, a_aload 0 22), (22, a_get 11 0 25), (25, a_stk (q_int 3) 26), (26, a_iload 1 27), (27, a_stk q_imul 28), (28, a_iload 2 29), (29, a_stk q_iadd 30), (30, a_iload 5 32), (32, a_stk q_iadd 33), (33, a_iald 34), (34, a_istore 6 36), (36, a_iload 6 38), (38, a_stk (q_int (-1)) 39), (39, a_icmp kn b_ne 1 44 42), (42, a_stk (q_int (-1)) 43), (43, a_iret), (44, a_iload 4 46), (46, a_iload 6 48), (48, a_stk q_iadd 49), (49, a_istore 4 51), (51, a_iinc 5 1 54), (54, a_goto 15), (57, a_iload 4 59), (59, a_iret)]
def fX10_bearTogether (kn : sKn) : List Value → sW → Option sR := fW (tX10_bearTogether kn) 7
set_option maxRecDepth 100000 in
set_option maxHeartbeats 4000000 in
theorem mX10_bearTogether (kn : sKn) : mM kn yX10_bearTogether (Cond.code yX10_bearTogether cX10_bearTogether 7 (some .int) :: wsL_law) 1 false (fX10_bearTogether kn) := mM_W (fun n => mM_of (own := RX10) (ini := false) rfl (by decide +kernel) (by decide +kernel) (all_c (ok_iload_n dX10_bearTogether_0 rfl) (all_c (ok_iload_n dX10_bearTogether_1 rfl) (all_c (ok_stk (s_iadd dX10_bearTogether_2)) (all_c (ok_stk (s_iconst dX10_bearTogether_3 (by decide))) (all_c (ok_icmp_le dX10_bearTogether_4 (by decide)) (all_c (ok_stk (s_iconst dX10_bearTogether_7 (by decide))) (all_c (ok_iret dX10_bearTogether_8) (all_c (ok_stk (s_iconst dX10_bearTogether_9 (by decide))) (all_c (ok_istore dX10_bearTogether_10 (by decide)) (all_c (ok_stk (s_iconst dX10_bearTogether_12 (by decide))) (all_c (ok_istore dX10_bearTogether_13 (by decide)) (all_c (ok_iload dX10_bearTogether_15) (all_c (ok_iload_n dX10_bearTogether_17 rfl) (all_c (ok_icmp_ge dX10_bearTogether_18 (by decide)) (all_c (ok_aload_n dX10_bearTogether_21 rfl) (all_c (okg_X10_0 kw236 dX10_bearTogether_22) (all_c (ok_stk (s_iconst dX10_bearTogether_25 (by decide))) (all_c (ok_iload_n dX10_bearTogether_26 rfl) (all_c (ok_stk (s_imul dX10_bearTogether_27)) (all_c (ok_iload_n dX10_bearTogether_28 rfl) (all_c (ok_stk (s_iadd dX10_bearTogether_29)) (all_c (ok_iload dX10_bearTogether_30) (all_c (ok_stk (s_iadd dX10_bearTogether_32)) (all_c (ok_iald dX10_bearTogether_33) (all_c (ok_istore dX10_bearTogether_34 (by decide)) (all_c (ok_iload dX10_bearTogether_36) (all_c (ok_stk (s_iconst dX10_bearTogether_38 (by decide))) (all_c (ok_icmp_ne dX10_bearTogether_39 (by decide)) (all_c (ok_stk (s_iconst dX10_bearTogether_42 (by decide))) (all_c (ok_iret dX10_bearTogether_43) (all_c (ok_iload dX10_bearTogether_44) (all_c (ok_iload dX10_bearTogether_46) (all_c (ok_stk (s_iadd dX10_bearTogether_48)) (all_c (ok_istore dX10_bearTogether_49 (by decide)) (all_c (ok_iinc dX10_bearTogether_51 (by decide) (by decide)) (all_c (ok_goto dX10_bearTogether_54 (by decide)) (all_c (ok_iload dX10_bearTogether_57) (all_c (ok_iret dX10_bearTogether_59) all_n)))))))))))))))))))))))))))))))))))))) n (fun h => by first | rfl | cases h))
theorem dX10_possibleSteps_0 : decode cX10_possibleSteps 0 = .ok (.iload_n 2, 1) := by decide +kernel
theorem dX10_possibleSteps_1 : decode cX10_possibleSteps 1 = .ok (.bipush 9, 2) := by decide +kernel
theorem dX10_possibleSteps_3 : decode cX10_possibleSteps 3 = .ok (.if_icmp .gt 8, 3) := by decide +kernel
theorem dX10_possibleSteps_6 : decode cX10_possibleSteps 6 = .ok (.bipush 8, 2) := by decide +kernel
theorem dX10_possibleSteps_8 : decode cX10_possibleSteps 8 = .ok (.goto 4, 3) := by decide +kernel
theorem dX10_possibleSteps_11 : decode cX10_possibleSteps 11 = .ok (.iconst 0, 1) := by decide +kernel
theorem dX10_possibleSteps_12 : decode cX10_possibleSteps 12 = .ok (.istore 4, 2) := by decide +kernel
theorem dX10_possibleSteps_14 : decode cX10_possibleSteps 14 = .ok (.iconst 0, 1) := by decide +kernel
theorem dX10_possibleSteps_15 : decode cX10_possibleSteps 15 = .ok (.istore 5, 2) := by decide +kernel
theorem dX10_possibleSteps_17 : decode cX10_possibleSteps 17 = .ok (.iload 5, 2) := by decide +kernel
theorem dX10_possibleSteps_19 : decode cX10_possibleSteps 19 = .ok (.iload_n 3, 1) := by decide +kernel
theorem dX10_possibleSteps_20 : decode cX10_possibleSteps 20 = .ok (.iadd, 1) := by decide +kernel
theorem dX10_possibleSteps_21 : decode cX10_possibleSteps 21 = .ok (.iconst 3, 1) := by decide +kernel
theorem dX10_possibleSteps_22 : decode cX10_possibleSteps 22 = .ok (.if_icmp .gt 40, 3) := by decide +kernel
theorem dX10_possibleSteps_25 : decode cX10_possibleSteps 25 = .ok (.aload_n 0, 1) := by decide +kernel
theorem dX10_possibleSteps_26 : decode cX10_possibleSteps 26 = .ok (.iload_n 1, 1) := by decide +kernel
theorem dX10_possibleSteps_27 : decode cX10_possibleSteps 27 = .ok (.iload 5, 2) := by decide +kernel
theorem dX10_possibleSteps_29 : decode cX10_possibleSteps 29 = .ok (.iload_n 3, 1) := by decide +kernel
theorem dX10_possibleSteps_30 : decode cX10_possibleSteps 30 = .ok (.invokevirtual 62, 3) := by decide +kernel
theorem dX10_possibleSteps_33 : decode cX10_possibleSteps 33 = .ok (.istore 6, 2) := by decide +kernel
theorem dX10_possibleSteps_35 : decode cX10_possibleSteps 35 = .ok (.iload 6, 2) := by decide +kernel
theorem dX10_possibleSteps_37 : decode cX10_possibleSteps 37 = .ok (.iconst (-1), 1) := by decide +kernel
theorem dX10_possibleSteps_38 : decode cX10_possibleSteps 38 = .ok (.if_icmp .eq 18, 3) := by decide +kernel
theorem dX10_possibleSteps_41 : decode cX10_possibleSteps 41 = .ok (.iload 6, 2) := by decide +kernel
theorem dX10_possibleSteps_43 : decode cX10_possibleSteps 43 = .ok (.iload_n 2, 1) := by decide +kernel
theorem dX10_possibleSteps_44 : decode cX10_possibleSteps 44 = .ok (.if_icmp .lt 12, 3) := by decide +kernel
theorem dX10_possibleSteps_47 : decode cX10_possibleSteps 47 = .ok (.iload 4, 2) := by decide +kernel
theorem dX10_possibleSteps_49 : decode cX10_possibleSteps 49 = .ok (.iconst 1, 1) := by decide +kernel
theorem dX10_possibleSteps_50 : decode cX10_possibleSteps 50 = .ok (.iload 5, 2) := by decide +kernel
theorem dX10_possibleSteps_52 : decode cX10_possibleSteps 52 = .ok (.ishl, 1) := by decide +kernel
theorem dX10_possibleSteps_53 : decode cX10_possibleSteps 53 = .ok (.ior, 1) := by decide +kernel
theorem dX10_possibleSteps_54 : decode cX10_possibleSteps 54 = .ok (.istore 4, 2) := by decide +kernel
theorem dX10_possibleSteps_56 : decode cX10_possibleSteps 56 = .ok (.iinc 5 1, 3) := by decide +kernel
theorem dX10_possibleSteps_59 : decode cX10_possibleSteps 59 = .ok (.goto (-42), 3) := by decide +kernel
theorem dX10_possibleSteps_62 : decode cX10_possibleSteps 62 = .ok (.iload 4, 2) := by decide +kernel
theorem dX10_possibleSteps_64 : decode cX10_possibleSteps 64 = .ok (.ireturn, 1) := by decide +kernel
theorem okc_X10_bearTogether {kn : sKn} {cc : ByteArray} {own : String} {nL : Nat} {D : Nat} {ret : Option FieldType} {ini : Bool} {pc index : Nat} (hD : 1 + 1 ≤ D) (hl : Cond.methodLink own index yX10_bearTogether ∈ wsL_law) (hd : decode cc pc = .ok (.invokevirtual index, 3)) : mOk kn cc own nL wsL_law D ret ini pc (a_callV false (fX10_bearTogether kn) 11 (3 + 1) (pc + 3)) := ok_callV (mX10_bearTogether kn) (good_ws ws_good (fun _ h => h) kw237) hD (by decide) hl kw238 kw239 kw170 ⟨by decide +kernel, by decide +kernel, by decide +kernel⟩ rfl hd
def tX10_possibleSteps (kn : sKn) : List (Nat × sA) := [(0, a_iload 2 1), (1, a_stk (q_int 9) 3), (3, a_icmp kn b_gt 4 11 6), (6, a_stk (q_int 8) 8), (8, a_goto 12), (11, a_stk (q_int 0) 12), (12, a_istore 4 14), (14, a_stk (q_int 0) 15), (15, a_istore 5 17), (17, a_iload 5 19), (19, a_iload 3 20), (20, a_stk q_iadd 21), (21, a_stk (q_int 3) 22), (22, a_icmp kn b_gt 4 62 25), (25, a_aload 0 26), (26, a_iload 1 27), (27, a_iload 5 29), (29, a_iload 3 30), (30, a_callV false (fX10_bearTogether kn) 11 4 33), (33, a_istore 6 35), (35, a_iload 6 37), (37, a_stk (q_int (-1)) 38), (38, a_icmp kn b_eq 0 56 41), (41, a_iload 6 43), (43, a_iload 2 44), (44, a_icmp kn b_lt 2 56 47), (47, a_iload 4 49), (49, a_stk (q_int 1) 50), (50, a_iload 5 52), (52, a_stk q_ishl 53), (53, a_stk q_ior 54), (54, a_istore 4 56), (56, a_iinc 5 1 59), (59, a_goto 17), (62, a_iload 4 64), (64, a_iret)]
def fX10_possibleSteps (kn : sKn) : List Value → sW → Option sR := fW (tX10_possibleSteps kn) 7
set_option maxRecDepth 100000 in
set_option maxHeartbeats 4000000 in
theorem mX10_possibleSteps (kn : sKn) : mM kn yX10_possibleSteps (Cond.code yX10_possibleSteps cX10_possibleSteps 7 (some .int) :: wsL_law) 2 false (fX10_possibleSteps kn) := mM_W (fun n => mM_of (own := RX10) (ini := false) rfl (by decide +kernel) (by decide +kernel) (all_c (ok_iload_n dX10_possibleSteps_0 rfl) (all_c (ok_stk (s_bipush dX10_possibleSteps_1 (by decide))) (all_c (ok_icmp_gt dX10_possibleSteps_3 (by decide)) (all_c (ok_stk (s_bipush dX10_possibleSteps_6 (by decide))) (all_c (ok_goto dX10_possibleSteps_8 (by decide)) (all_c (ok_stk (s_iconst dX10_possibleSteps_11 (by decide))) (all_c (ok_istore dX10_possibleSteps_12 (by decide)) (all_c (ok_stk (s_iconst dX10_possibleSteps_14 (by decide))) (all_c (ok_istore dX10_possibleSteps_15 (by decide)) (all_c (ok_iload dX10_possibleSteps_17) (all_c (ok_iload_n dX10_possibleSteps_19 rfl) (all_c (ok_stk (s_iadd dX10_possibleSteps_20)) (all_c (ok_stk (s_iconst dX10_possibleSteps_21 (by decide))) (all_c (ok_icmp_gt dX10_possibleSteps_22 (by decide)) (all_c (ok_aload_n dX10_possibleSteps_25 rfl) (all_c (ok_iload_n dX10_possibleSteps_26 rfl) (all_c (ok_iload dX10_possibleSteps_27) (all_c (ok_iload_n dX10_possibleSteps_29 rfl) (all_c (okc_X10_bearTogether (by decide) kw240 dX10_possibleSteps_30) (all_c (ok_istore dX10_possibleSteps_33 (by decide)) (all_c (ok_iload dX10_possibleSteps_35) (all_c (ok_stk (s_iconst dX10_possibleSteps_37 (by decide))) (all_c (ok_icmp_eq dX10_possibleSteps_38 (by decide)) (all_c (ok_iload dX10_possibleSteps_41) (all_c (ok_iload_n dX10_possibleSteps_43 rfl) (all_c (ok_icmp_lt dX10_possibleSteps_44 (by decide)) (all_c (ok_iload dX10_possibleSteps_47) (all_c (ok_stk (s_iconst dX10_possibleSteps_49 (by decide))) (all_c (ok_iload dX10_possibleSteps_50) (all_c (ok_stk (s_ishl dX10_possibleSteps_52)) (all_c (ok_stk (s_ior dX10_possibleSteps_53)) (all_c (ok_istore dX10_possibleSteps_54 (by decide)) (all_c (ok_iinc dX10_possibleSteps_56 (by decide) (by decide)) (all_c (ok_goto dX10_possibleSteps_59 (by decide)) (all_c (ok_iload dX10_possibleSteps_62) (all_c (ok_iret dX10_possibleSteps_64) all_n)))))))))))))))))))))))))))))))))))) n (fun h => by first | rfl | cases h))
theorem dX10_lostRow_0 : decode cX10_lostRow 0 = .ok (.bipush 15, 2) := by decide +kernel
theorem dX10_lostRow_2 : decode cX10_lostRow 2 = .ok (.istore_n 3, 1) := by decide +kernel
theorem dX10_lostRow_3 : decode cX10_lostRow 3 = .ok (.iconst 0, 1) := by decide +kernel
theorem dX10_lostRow_4 : decode cX10_lostRow 4 = .ok (.istore 4, 2) := by decide +kernel
theorem dX10_lostRow_6 : decode cX10_lostRow 6 = .ok (.iload 4, 2) := by decide +kernel
theorem dX10_lostRow_8 : decode cX10_lostRow 8 = .ok (.aload_n 1, 1) := by decide +kernel
theorem dX10_lostRow_9 : decode cX10_lostRow 9 = .ok (.getfield 51, 3) := by decide +kernel
theorem dX10_lostRow_12 : decode cX10_lostRow 12 = .ok (.if_icmp .ge 46, 3) := by decide +kernel
theorem dX10_lostRow_15 : decode cX10_lostRow 15 = .ok (.iload_n 3, 1) := by decide +kernel
theorem dX10_lostRow_16 : decode cX10_lostRow 16 = .ok (.aload_n 0, 1) := by decide +kernel
theorem dX10_lostRow_17 : decode cX10_lostRow 17 = .ok (.iload 4, 2) := by decide +kernel
theorem dX10_lostRow_19 : decode cX10_lostRow 19 = .ok (.aload_n 1, 1) := by decide +kernel
theorem dX10_lostRow_20 : decode cX10_lostRow 20 = .ok (.getfield 66, 3) := by decide +kernel
theorem dX10_lostRow_23 : decode cX10_lostRow 23 = .ok (.iload_n 2, 1) := by decide +kernel
theorem dX10_lostRow_24 : decode cX10_lostRow 24 = .ok (.iaload, 1) := by decide +kernel
theorem dX10_lostRow_25 : decode cX10_lostRow 25 = .ok (.aload_n 1, 1) := by decide +kernel
theorem dX10_lostRow_26 : decode cX10_lostRow 26 = .ok (.getfield 69, 3) := by decide +kernel
theorem dX10_lostRow_29 : decode cX10_lostRow 29 = .ok (.iload_n 2, 1) := by decide +kernel
theorem dX10_lostRow_30 : decode cX10_lostRow 30 = .ok (.iaload, 1) := by decide +kernel
theorem dX10_lostRow_31 : decode cX10_lostRow 31 = .ok (.invokevirtual 72, 3) := by decide +kernel
theorem dX10_lostRow_34 : decode cX10_lostRow 34 = .ok (.iand, 1) := by decide +kernel
theorem dX10_lostRow_35 : decode cX10_lostRow 35 = .ok (.istore 5, 2) := by decide +kernel
theorem dX10_lostRow_37 : decode cX10_lostRow 37 = .ok (.iload 5, 2) := by decide +kernel
theorem dX10_lostRow_39 : decode cX10_lostRow 39 = .ok (.ifCond .ne 6, 3) := by decide +kernel
theorem dX10_lostRow_42 : decode cX10_lostRow 42 = .ok (.iload 4, 2) := by decide +kernel
theorem dX10_lostRow_44 : decode cX10_lostRow 44 = .ok (.ireturn, 1) := by decide +kernel
theorem dX10_lostRow_45 : decode cX10_lostRow 45 = .ok (.getstatic 75, 3) := by decide +kernel
theorem dX10_lostRow_48 : decode cX10_lostRow 48 = .ok (.iload 5, 2) := by decide +kernel
theorem dX10_lostRow_50 : decode cX10_lostRow 50 = .ok (.iaload, 1) := by decide +kernel
theorem dX10_lostRow_51 : decode cX10_lostRow 51 = .ok (.istore_n 3, 1) := by decide +kernel
theorem dX10_lostRow_52 : decode cX10_lostRow 52 = .ok (.iinc 4 1, 3) := by decide +kernel
theorem dX10_lostRow_55 : decode cX10_lostRow 55 = .ok (.goto (-49), 3) := by decide +kernel
theorem dX10_lostRow_58 : decode cX10_lostRow 58 = .ok (.iconst (-1), 1) := by decide +kernel
theorem dX10_lostRow_59 : decode cX10_lostRow 59 = .ok (.ireturn, 1) := by decide +kernel
theorem okc_X10_possibleSteps {kn : sKn} {cc : ByteArray} {own : String} {nL : Nat} {D : Nat} {ret : Option FieldType} {ini : Bool} {pc index : Nat} (hD : 2 + 1 ≤ D) (hl : Cond.methodLink own index yX10_possibleSteps ∈ wsL_law) (hd : decode cc pc = .ok (.invokevirtual index, 3)) : mOk kn cc own nL wsL_law D ret ini pc (a_callV false (fX10_possibleSteps kn) 11 (3 + 1) (pc + 3)) := ok_callV (mX10_possibleSteps kn) (good_ws ws_good (fun _ h => h) kw244) hD (by decide) hl kw245 kw246 kw170 ⟨by decide +kernel, by decide +kernel, by decide +kernel⟩ rfl hd
def tX10_lostRow (kn : sKn) : List (Nat × sA) := [(0, a_stk (q_int 15) 2), (2, a_istore 3 3), (3, a_stk (q_int 0) 4), (4, a_istore 4 6), (6, a_iload 4 8), (8, a_aload 1 9), (9, a_get 7 0 12), (12, a_icmp kn b_ge 3 58 15), (15, a_iload 3 16), (16, a_aload 0 17), (17, a_iload 4 19), (19, a_aload 1 20), (20, a_get 7 13 23), (23, a_iload 2 24), (24, a_iald 25), (25, a_aload 1 26), (26, a_get 7 14 29), (29, a_iload 2 30), (30, a_iald 31), (31, a_callV false (fX10_possibleSteps kn) 11 4 34), (34, a_stk q_iand 35), (35, a_istore 5 37), (37, a_iload 5 39), (39, a_if kn b_ne 1 45 42), (42, a_iload 4 44), (44, a_iret), (45, a_gets 1000000 48), (48, a_iload 5 50), (50, a_iald 51), (51, a_istore 3 52), (52, a_iinc 4 1 55), (55, a_goto 6), (58, a_stk (q_int (-1)) 59), (59, a_iret)]
def fX10_lostRow (kn : sKn) : List Value → sW → Option sR := fW (tX10_lostRow kn) 6
set_option maxRecDepth 100000 in
set_option maxHeartbeats 4000000 in
theorem mX10_lostRow (kn : sKn) : mM kn yX10_lostRow (Cond.code yX10_lostRow cX10_lostRow 6 (some .int) :: wsL_law) 3 false (fX10_lostRow kn) := mM_W (fun n => mM_of (own := RX10) (ini := false) rfl (by decide +kernel) (by decide +kernel) (all_c (ok_stk (s_bipush dX10_lostRow_0 (by decide))) (all_c (ok_istore_n dX10_lostRow_2 rfl (by decide)) (all_c (ok_stk (s_iconst dX10_lostRow_3 (by decide))) (all_c (ok_istore dX10_lostRow_4 (by decide)) (all_c (ok_iload dX10_lostRow_6) (all_c (ok_aload_n dX10_lostRow_8 rfl) (all_c (okg_X6_0 kw241 dX10_lostRow_9) (all_c (ok_icmp_ge dX10_lostRow_12 (by decide)) (all_c (ok_iload_n dX10_lostRow_15 rfl) (all_c (ok_aload_n dX10_lostRow_16 rfl) (all_c (ok_iload dX10_lostRow_17) (all_c (ok_aload_n dX10_lostRow_19 rfl) (all_c (okg_X6_13 kw242 dX10_lostRow_20) (all_c (ok_iload_n dX10_lostRow_23 rfl) (all_c (ok_iald dX10_lostRow_24) (all_c (ok_aload_n dX10_lostRow_25 rfl) (all_c (okg_X6_14 kw243 dX10_lostRow_26) (all_c (ok_iload_n dX10_lostRow_29 rfl) (all_c (ok_iald dX10_lostRow_30) (all_c (okc_X10_possibleSteps (by decide) kw247 dX10_lostRow_31) (all_c (ok_stk (s_iand dX10_lostRow_34)) (all_c (ok_istore dX10_lostRow_35 (by decide)) (all_c (ok_iload dX10_lostRow_37) (all_c (ok_if_ne dX10_lostRow_39 (by decide)) (all_c (ok_iload dX10_lostRow_42) (all_c (ok_iret dX10_lostRow_44) (all_c (ok_openN (by decide +kernel) dX10_lostRow_45) (all_c (ok_iload dX10_lostRow_48) (all_c (ok_iald dX10_lostRow_50) (all_c (ok_istore_n dX10_lostRow_51 rfl (by decide)) (all_c (ok_iinc dX10_lostRow_52 (by decide) (by decide)) (all_c (ok_goto dX10_lostRow_55 (by decide)) (all_c (ok_stk (s_iconst dX10_lostRow_58 (by decide))) (all_c (ok_iret dX10_lostRow_59) all_n)))))))))))))))))))))))))))))))))) n (fun h => by first | rfl | cases h))
theorem dX10_weigh_0 : decode cX10_weigh 0 = .ok (.iconst 0, 1) := by decide +kernel
theorem dX10_weigh_1 : decode cX10_weigh 1 = .ok (.istore_n 3, 1) := by decide +kernel
theorem dX10_weigh_2 : decode cX10_weigh 2 = .ok (.iload_n 3, 1) := by decide +kernel
theorem dX10_weigh_3 : decode cX10_weigh 3 = .ok (.iconst 3, 1) := by decide +kernel
theorem dX10_weigh_4 : decode cX10_weigh 4 = .ok (.aload_n 1, 1) := by decide +kernel
theorem dX10_weigh_5 : decode cX10_weigh 5 = .ok (.getfield 51, 3) := by decide +kernel
theorem dX10_weigh_8 : decode cX10_weigh 8 = .ok (.imul, 1) := by decide +kernel
theorem dX10_weigh_9 : decode cX10_weigh 9 = .ok (.if_icmp .ge 25, 3) := by decide +kernel
theorem dX10_weigh_12 : decode cX10_weigh 12 = .ok (.aload_n 0, 1) := by decide +kernel
theorem dX10_weigh_13 : decode cX10_weigh 13 = .ok (.getfield 9, 3) := by decide +kernel
theorem dX10_weigh_16 : decode cX10_weigh 16 = .ok (.iload_n 3, 1) := by decide +kernel
theorem dX10_weigh_17 : decode cX10_weigh 17 = .ok (.aload_n 1, 1) := by decide +kernel
theorem dX10_weigh_18 : decode cX10_weigh 18 = .ok (.aload_n 2, 1) := by decide +kernel
theorem dX10_weigh_19 : decode cX10_weigh 19 = .ok (.aload_n 1, 1) := by decide +kernel
theorem dX10_weigh_20 : decode cX10_weigh 20 = .ok (.getfield 55, 3) := by decide +kernel
theorem dX10_weigh_23 : decode cX10_weigh 23 = .ok (.iload_n 3, 1) := by decide +kernel
theorem dX10_weigh_24 : decode cX10_weigh 24 = .ok (.invokestatic 47, 3) := by decide +kernel
theorem dX10_weigh_27 : decode cX10_weigh 27 = .ok (.iastore, 1) := by decide +kernel
theorem dX10_weigh_28 : decode cX10_weigh 28 = .ok (.iinc 3 1, 3) := by decide +kernel
theorem dX10_weigh_31 : decode cX10_weigh 31 = .ok (.goto (-29), 3) := by decide +kernel
theorem dX10_weigh_34 : decode cX10_weigh 34 = .ok (.return_, 1) := by decide +kernel
def tX10_weigh (kn : sKn) : List (Nat × sA) := [(0, a_stk (q_int 0) 1), (1, a_istore 3 2), (2, a_iload 3 3), (3, a_stk (q_int 3) 4), (4, a_aload 1 5), (5, a_get 7 0 8), (8, a_stk q_imul 9), (9, a_icmp kn b_ge 3 34 12), (12, a_aload 0 13), (13, a_get 11 0 16), (16, a_iload 3 17), (17, a_aload 1 18), (18, a_aload 2 19), (19, a_aload 1 20), (20, a_get 7 5 23), (23, a_iload 3 24), (24, a_callS false (fX10_bearing kn) 4 27), (27, a_iast 28), (28, a_iinc 3 1 31), (31, a_goto 2), (34, a_vret)]
def fX10_weigh (kn : sKn) : List Value → sW → Option sR := fW (tX10_weigh kn) 4
set_option maxRecDepth 100000 in
set_option maxHeartbeats 4000000 in
theorem mX10_weigh (kn : sKn) : mM kn yX10_weigh (Cond.code yX10_weigh cX10_weigh 4 none :: wsL_law) 3 true (fX10_weigh kn) := mM_W (fun n => mM_of (own := RX10) (ini := false) rfl (by decide +kernel) (by decide +kernel) (all_c (ok_stk (s_iconst dX10_weigh_0 (by decide))) (all_c (ok_istore_n dX10_weigh_1 rfl (by decide)) (all_c (ok_iload_n dX10_weigh_2 rfl) (all_c (ok_stk (s_iconst dX10_weigh_3 (by decide))) (all_c (ok_aload_n dX10_weigh_4 rfl) (all_c (okg_X6_0 kw241 dX10_weigh_5) (all_c (ok_stk (s_imul dX10_weigh_8)) (all_c (ok_icmp_ge dX10_weigh_9 (by decide)) (all_c (ok_aload_n dX10_weigh_12 rfl) (all_c (okg_X10_0 kw236 dX10_weigh_13) (all_c (ok_iload_n dX10_weigh_16 rfl) (all_c (ok_aload_n dX10_weigh_17 rfl) (all_c (ok_aload_n dX10_weigh_18 rfl) (all_c (ok_aload_n dX10_weigh_19 rfl) (all_c (okg_X6_5 kw248 dX10_weigh_20) (all_c (ok_iload_n dX10_weigh_23 rfl) (all_c (okc_X10_bearing (by decide) kw249 dX10_weigh_24) (all_c (ok_iast dX10_weigh_27) (all_c (ok_iinc dX10_weigh_28 (by decide) (by decide)) (all_c (ok_goto dX10_weigh_31 (by decide)) (all_c (ok_vret dX10_weigh_34) all_n))))))))))))))))))))) n (fun h => by first | rfl | cases h))
theorem dX10_ableLoads_0 : decode cX10_ableLoads 0 = .ok (.aload_n 0, 1) := by decide +kernel
theorem dX10_ableLoads_1 : decode cX10_ableLoads 1 = .ok (.aload_n 1, 1) := by decide +kernel
theorem dX10_ableLoads_2 : decode cX10_ableLoads 2 = .ok (.aload_n 2, 1) := by decide +kernel
theorem dX10_ableLoads_3 : decode cX10_ableLoads 3 = .ok (.invokevirtual 58, 3) := by decide +kernel
theorem dX10_ableLoads_6 : decode cX10_ableLoads 6 = .ok (.iconst 0, 1) := by decide +kernel
theorem dX10_ableLoads_7 : decode cX10_ableLoads 7 = .ok (.istore_n 3, 1) := by decide +kernel
theorem dX10_ableLoads_8 : decode cX10_ableLoads 8 = .ok (.iconst 0, 1) := by decide +kernel
theorem dX10_ableLoads_9 : decode cX10_ableLoads 9 = .ok (.istore 4, 2) := by decide +kernel
theorem dX10_ableLoads_11 : decode cX10_ableLoads 11 = .ok (.iload 4, 2) := by decide +kernel
theorem dX10_ableLoads_13 : decode cX10_ableLoads 13 = .ok (.aload_n 1, 1) := by decide +kernel
theorem dX10_ableLoads_14 : decode cX10_ableLoads 14 = .ok (.getfield 82, 3) := by decide +kernel
theorem dX10_ableLoads_17 : decode cX10_ableLoads 17 = .ok (.if_icmp .ge 39, 3) := by decide +kernel
theorem dX10_ableLoads_20 : decode cX10_ableLoads 20 = .ok (.aload_n 2, 1) := by decide +kernel
theorem dX10_ableLoads_21 : decode cX10_ableLoads 21 = .ok (.getfield 85, 3) := by decide +kernel
theorem dX10_ableLoads_24 : decode cX10_ableLoads 24 = .ok (.iload 4, 2) := by decide +kernel
theorem dX10_ableLoads_26 : decode cX10_ableLoads 26 = .ok (.ishr, 1) := by decide +kernel
theorem dX10_ableLoads_27 : decode cX10_ableLoads 27 = .ok (.iconst 1, 1) := by decide +kernel
theorem dX10_ableLoads_28 : decode cX10_ableLoads 28 = .ok (.iand, 1) := by decide +kernel
theorem dX10_ableLoads_29 : decode cX10_ableLoads 29 = .ok (.ifCond .ne 21, 3) := by decide +kernel
theorem dX10_ableLoads_32 : decode cX10_ableLoads 32 = .ok (.aload_n 0, 1) := by decide +kernel
theorem dX10_ableLoads_33 : decode cX10_ableLoads 33 = .ok (.aload_n 1, 1) := by decide +kernel
theorem dX10_ableLoads_34 : decode cX10_ableLoads 34 = .ok (.iload 4, 2) := by decide +kernel
theorem dX10_ableLoads_36 : decode cX10_ableLoads 36 = .ok (.invokevirtual 78, 3) := by decide +kernel
theorem dX10_ableLoads_39 : decode cX10_ableLoads 39 = .ok (.iconst (-1), 1) := by decide +kernel
theorem dX10_ableLoads_40 : decode cX10_ableLoads 40 = .ok (.if_icmp .ne 10, 3) := by decide +kernel
theorem dX10_ableLoads_43 : decode cX10_ableLoads 43 = .ok (.iload_n 3, 1) := by decide +kernel
theorem dX10_ableLoads_44 : decode cX10_ableLoads 44 = .ok (.iconst 1, 1) := by decide +kernel
theorem dX10_ableLoads_45 : decode cX10_ableLoads 45 = .ok (.iload 4, 2) := by decide +kernel
theorem dX10_ableLoads_47 : decode cX10_ableLoads 47 = .ok (.ishl, 1) := by decide +kernel
theorem dX10_ableLoads_48 : decode cX10_ableLoads 48 = .ok (.ior, 1) := by decide +kernel
theorem dX10_ableLoads_49 : decode cX10_ableLoads 49 = .ok (.istore_n 3, 1) := by decide +kernel
theorem dX10_ableLoads_50 : decode cX10_ableLoads 50 = .ok (.iinc 4 1, 3) := by decide +kernel
theorem dX10_ableLoads_53 : decode cX10_ableLoads 53 = .ok (.goto (-42), 3) := by decide +kernel
theorem dX10_ableLoads_56 : decode cX10_ableLoads 56 = .ok (.iload_n 3, 1) := by decide +kernel
theorem dX10_ableLoads_57 : decode cX10_ableLoads 57 = .ok (.ireturn, 1) := by decide +kernel
theorem okc_X10_weigh {kn : sKn} {cc : ByteArray} {own : String} {nL : Nat} {D : Nat} {ret : Option FieldType} {ini : Bool} {pc index : Nat} (hD : 3 + 1 ≤ D) (hl : Cond.methodLink own index yX10_weigh ∈ wsL_law) (hd : decode cc pc = .ok (.invokevirtual index, 3)) : mOk kn cc own nL wsL_law D ret ini pc (a_callV true (fX10_weigh kn) 11 (2 + 1) (pc + 3)) := ok_callV (mX10_weigh kn) (good_ws ws_good (fun _ h => h) kw250) hD (by decide) hl kw251 kw252 kw170 ⟨by decide +kernel, by decide +kernel, by decide +kernel⟩ rfl hd
theorem okc_X10_lostRow {kn : sKn} {cc : ByteArray} {own : String} {nL : Nat} {D : Nat} {ret : Option FieldType} {ini : Bool} {pc index : Nat} (hD : 3 + 1 ≤ D) (hl : Cond.methodLink own index yX10_lostRow ∈ wsL_law) (hd : decode cc pc = .ok (.invokevirtual index, 3)) : mOk kn cc own nL wsL_law D ret ini pc (a_callV false (fX10_lostRow kn) 11 (2 + 1) (pc + 3)) := ok_callV (mX10_lostRow kn) (good_ws ws_good (fun _ h => h) kw256) hD (by decide) hl kw257 kw258 kw170 ⟨by decide +kernel, by decide +kernel, by decide +kernel⟩ rfl hd
def tX10_ableLoads (kn : sKn) : List (Nat × sA) := [(0, a_aload 0 1), (1, a_aload 1 2), (2, a_aload 2 3), (3, a_callV true (fX10_weigh kn) 11 3 6), (6, a_stk (q_int 0) 7), (7, a_istore 3 8), (8, a_stk (q_int 0) 9), (9, a_istore 4 11), (11, a_iload 4 13), (13, a_aload 1 14), (14, a_get 7 3 17), (17, a_icmp kn b_ge 3 56 20), (20, a_aload 2 21), (21, a_get 9 2 24), (24, a_iload 4 26), (26, a_stk q_ishr 27), (27, a_stk (q_int 1) 28), (28, a_stk q_iand 29), (29, a_if kn b_ne 1 50 32), (32, a_aload 0 33), (33, a_aload 1 34), (34, a_iload 4 36), (36, a_callV false (fX10_lostRow kn) 11 3 39), (39, a_stk (q_int (-1)) 40), (40, a_icmp kn b_ne 1 50 43), (43, a_iload 3 44), (44, a_stk (q_int 1) 45), (45, a_iload 4 47), (47, a_stk q_ishl 48), (48, a_stk q_ior 49), (49, a_istore 3 50), (50, a_iinc 4 1 53), (53, a_goto 11), (56, a_iload 3 57), (57, a_iret)]
def fX10_ableLoads (kn : sKn) : List Value → sW → Option sR := fW (tX10_ableLoads kn) 5
set_option maxRecDepth 100000 in
set_option maxHeartbeats 4000000 in
theorem mX10_ableLoads (kn : sKn) : mM kn yX10_ableLoads (Cond.code yX10_ableLoads cX10_ableLoads 5 (some .int) :: wsL_law) 4 false (fX10_ableLoads kn) := mM_W (fun n => mM_of (own := RX10) (ini := false) rfl (by decide +kernel) (by decide +kernel) (all_c (ok_aload_n dX10_ableLoads_0 rfl) (all_c (ok_aload_n dX10_ableLoads_1 rfl) (all_c (ok_aload_n dX10_ableLoads_2 rfl) (all_c (okc_X10_weigh (by decide) kw253 dX10_ableLoads_3) (all_c (ok_stk (s_iconst dX10_ableLoads_6 (by decide))) (all_c (ok_istore_n dX10_ableLoads_7 rfl (by decide)) (all_c (ok_stk (s_iconst dX10_ableLoads_8 (by decide))) (all_c (ok_istore dX10_ableLoads_9 (by decide)) (all_c (ok_iload dX10_ableLoads_11) (all_c (ok_aload_n dX10_ableLoads_13 rfl) (all_c (okg_X6_3 kw254 dX10_ableLoads_14) (all_c (ok_icmp_ge dX10_ableLoads_17 (by decide)) (all_c (ok_aload_n dX10_ableLoads_20 rfl) (all_c (okg_X8_2 kw255 dX10_ableLoads_21) (all_c (ok_iload dX10_ableLoads_24) (all_c (ok_stk (s_ishr dX10_ableLoads_26)) (all_c (ok_stk (s_iconst dX10_ableLoads_27 (by decide))) (all_c (ok_stk (s_iand dX10_ableLoads_28)) (all_c (ok_if_ne dX10_ableLoads_29 (by decide)) (all_c (ok_aload_n dX10_ableLoads_32 rfl) (all_c (ok_aload_n dX10_ableLoads_33 rfl) (all_c (ok_iload dX10_ableLoads_34) (all_c (okc_X10_lostRow (by decide) kw259 dX10_ableLoads_36) (all_c (ok_stk (s_iconst dX10_ableLoads_39 (by decide))) (all_c (ok_icmp_ne dX10_ableLoads_40 (by decide)) (all_c (ok_iload_n dX10_ableLoads_43 rfl) (all_c (ok_stk (s_iconst dX10_ableLoads_44 (by decide))) (all_c (ok_iload dX10_ableLoads_45) (all_c (ok_stk (s_ishl dX10_ableLoads_47)) (all_c (ok_stk (s_ior dX10_ableLoads_48)) (all_c (ok_istore_n dX10_ableLoads_49 rfl (by decide)) (all_c (ok_iinc dX10_ableLoads_50 (by decide) (by decide)) (all_c (ok_goto dX10_ableLoads_53 (by decide)) (all_c (ok_iload_n dX10_ableLoads_56 rfl) (all_c (ok_iret dX10_ableLoads_57) all_n))))))))))))))))))))))))))))))))))) n (fun h => by first | rfl | cases h))
theorem dX10_bearInAll_0 : decode cX10_bearInAll 0 = .ok (.aload_n 0, 1) := by decide +kernel
theorem dX10_bearInAll_1 : decode cX10_bearInAll 1 = .ok (.aload_n 1, 1) := by decide +kernel
theorem dX10_bearInAll_2 : decode cX10_bearInAll 2 = .ok (.aload_n 2, 1) := by decide +kernel
theorem dX10_bearInAll_3 : decode cX10_bearInAll 3 = .ok (.invokevirtual 58, 3) := by decide +kernel
theorem dX10_bearInAll_6 : decode cX10_bearInAll 6 = .ok (.iconst 0, 1) := by decide +kernel
theorem dX10_bearInAll_7 : decode cX10_bearInAll 7 = .ok (.istore_n 3, 1) := by decide +kernel
theorem dX10_bearInAll_8 : decode cX10_bearInAll 8 = .ok (.iconst 0, 1) := by decide +kernel
theorem dX10_bearInAll_9 : decode cX10_bearInAll 9 = .ok (.istore 4, 2) := by decide +kernel
theorem dX10_bearInAll_11 : decode cX10_bearInAll 11 = .ok (.iload 4, 2) := by decide +kernel
theorem dX10_bearInAll_13 : decode cX10_bearInAll 13 = .ok (.iconst 3, 1) := by decide +kernel
theorem dX10_bearInAll_14 : decode cX10_bearInAll 14 = .ok (.aload_n 1, 1) := by decide +kernel
theorem dX10_bearInAll_15 : decode cX10_bearInAll 15 = .ok (.getfield 51, 3) := by decide +kernel
theorem dX10_bearInAll_18 : decode cX10_bearInAll 18 = .ok (.imul, 1) := by decide +kernel
theorem dX10_bearInAll_19 : decode cX10_bearInAll 19 = .ok (.if_icmp .ge 23, 3) := by decide +kernel
theorem dX10_bearInAll_22 : decode cX10_bearInAll 22 = .ok (.iload_n 3, 1) := by decide +kernel
theorem dX10_bearInAll_23 : decode cX10_bearInAll 23 = .ok (.iconst 0, 1) := by decide +kernel
theorem dX10_bearInAll_24 : decode cX10_bearInAll 24 = .ok (.aload_n 0, 1) := by decide +kernel
theorem dX10_bearInAll_25 : decode cX10_bearInAll 25 = .ok (.getfield 9, 3) := by decide +kernel
theorem dX10_bearInAll_28 : decode cX10_bearInAll 28 = .ok (.iload 4, 2) := by decide +kernel
theorem dX10_bearInAll_30 : decode cX10_bearInAll 30 = .ok (.iaload, 1) := by decide +kernel
theorem dX10_bearInAll_31 : decode cX10_bearInAll 31 = .ok (.invokestatic 41, 3) := by decide +kernel
theorem dX10_bearInAll_34 : decode cX10_bearInAll 34 = .ok (.iadd, 1) := by decide +kernel
theorem dX10_bearInAll_35 : decode cX10_bearInAll 35 = .ok (.istore_n 3, 1) := by decide +kernel
theorem dX10_bearInAll_36 : decode cX10_bearInAll 36 = .ok (.iinc 4 1, 3) := by decide +kernel
theorem dX10_bearInAll_39 : decode cX10_bearInAll 39 = .ok (.goto (-28), 3) := by decide +kernel
theorem dX10_bearInAll_42 : decode cX10_bearInAll 42 = .ok (.iload_n 3, 1) := by decide +kernel
theorem dX10_bearInAll_43 : decode cX10_bearInAll 43 = .ok (.ireturn, 1) := by decide +kernel
def tX10_bearInAll (kn : sKn) : List (Nat × sA) := [(0, a_aload 0 1), (1, a_aload 1 2), (2, a_aload 2 3), (3, a_callV true (fX10_weigh kn) 11 3 6), (6, a_stk (q_int 0) 7), (7, a_istore 3 8), (8, a_stk (q_int 0) 9), (9, a_istore 4 11), (11, a_iload 4 13), (13, a_stk (q_int 3) 14), (14, a_aload 1 15), (15, a_get 7 0 18), (18, a_stk q_imul 19), (19, a_icmp kn b_ge 3 42 22), (22, a_iload 3 23), (23, a_stk (q_int 0) 24), (24, a_aload 0 25), (25, a_get 11 0 28), (28, a_iload 4 30), (30, a_iald 31), (31, a_mmax 34), (34, a_stk q_iadd 35), (35, a_istore 3 36), (36, a_iinc 4 1 39), (39, a_goto 11), (42, a_iload 3 43), (43, a_iret)]
def fX10_bearInAll (kn : sKn) : List Value → sW → Option sR := fW (tX10_bearInAll kn) 5
set_option maxRecDepth 100000 in
set_option maxHeartbeats 4000000 in
theorem mX10_bearInAll (kn : sKn) : mM kn yX10_bearInAll (Cond.code yX10_bearInAll cX10_bearInAll 5 (some .int) :: wsL_law) 4 false (fX10_bearInAll kn) := mM_W (fun n => mM_of (own := RX10) (ini := false) rfl (by decide +kernel) (by decide +kernel) (all_c (ok_aload_n dX10_bearInAll_0 rfl) (all_c (ok_aload_n dX10_bearInAll_1 rfl) (all_c (ok_aload_n dX10_bearInAll_2 rfl) (all_c (okc_X10_weigh (by decide) kw253 dX10_bearInAll_3) (all_c (ok_stk (s_iconst dX10_bearInAll_6 (by decide))) (all_c (ok_istore_n dX10_bearInAll_7 rfl (by decide)) (all_c (ok_stk (s_iconst dX10_bearInAll_8 (by decide))) (all_c (ok_istore dX10_bearInAll_9 (by decide)) (all_c (ok_iload dX10_bearInAll_11) (all_c (ok_stk (s_iconst dX10_bearInAll_13 (by decide))) (all_c (ok_aload_n dX10_bearInAll_14 rfl) (all_c (okg_X6_0 kw241 dX10_bearInAll_15) (all_c (ok_stk (s_imul dX10_bearInAll_18)) (all_c (ok_icmp_ge dX10_bearInAll_19 (by decide)) (all_c (ok_iload_n dX10_bearInAll_22 rfl) (all_c (ok_stk (s_iconst dX10_bearInAll_23 (by decide))) (all_c (ok_aload_n dX10_bearInAll_24 rfl) (all_c (okg_X10_0 kw236 dX10_bearInAll_25) (all_c (ok_iload dX10_bearInAll_28) (all_c (ok_iald dX10_bearInAll_30) (all_c (ok_mmax (by decide) kw166 kw37 kw38 kw39 dX10_bearInAll_31) (all_c (ok_stk (s_iadd dX10_bearInAll_34)) (all_c (ok_istore_n dX10_bearInAll_35 rfl (by decide)) (all_c (ok_iinc dX10_bearInAll_36 (by decide) (by decide)) (all_c (ok_goto dX10_bearInAll_39 (by decide)) (all_c (ok_iload_n dX10_bearInAll_42 rfl) (all_c (ok_iret dX10_bearInAll_43) all_n))))))))))))))))))))))))))) n (fun h => by first | rfl | cases h))
theorem dX10_bestOpen_0 : decode cX10_bestOpen 0 = .ok (.iconst (-1), 1) := by decide +kernel
theorem dX10_bestOpen_1 : decode cX10_bestOpen 1 = .ok (.istore_n 3, 1) := by decide +kernel
theorem dX10_bestOpen_2 : decode cX10_bestOpen 2 = .ok (.iconst 0, 1) := by decide +kernel
theorem dX10_bestOpen_3 : decode cX10_bestOpen 3 = .ok (.istore 4, 2) := by decide +kernel
theorem dX10_bestOpen_5 : decode cX10_bestOpen 5 = .ok (.iload 4, 2) := by decide +kernel
theorem dX10_bestOpen_7 : decode cX10_bestOpen 7 = .ok (.iconst 4, 1) := by decide +kernel
theorem dX10_bestOpen_8 : decode cX10_bestOpen 8 = .ok (.if_icmp .ge 34, 3) := by decide +kernel
theorem dX10_bestOpen_11 : decode cX10_bestOpen 11 = .ok (.iload_n 2, 1) := by decide +kernel
theorem dX10_bestOpen_12 : decode cX10_bestOpen 12 = .ok (.iload 4, 2) := by decide +kernel
theorem dX10_bestOpen_14 : decode cX10_bestOpen 14 = .ok (.ishr, 1) := by decide +kernel
theorem dX10_bestOpen_15 : decode cX10_bestOpen 15 = .ok (.iconst 1, 1) := by decide +kernel
theorem dX10_bestOpen_16 : decode cX10_bestOpen 16 = .ok (.iand, 1) := by decide +kernel
theorem dX10_bestOpen_17 : decode cX10_bestOpen 17 = .ok (.ifCond .eq 19, 3) := by decide +kernel
theorem dX10_bestOpen_20 : decode cX10_bestOpen 20 = .ok (.iload_n 3, 1) := by decide +kernel
theorem dX10_bestOpen_21 : decode cX10_bestOpen 21 = .ok (.aload_n 0, 1) := by decide +kernel
theorem dX10_bestOpen_22 : decode cX10_bestOpen 22 = .ok (.getfield 18, 3) := by decide +kernel
theorem dX10_bestOpen_25 : decode cX10_bestOpen 25 = .ok (.iconst 4, 1) := by decide +kernel
theorem dX10_bestOpen_26 : decode cX10_bestOpen 26 = .ok (.iload_n 1, 1) := by decide +kernel
theorem dX10_bestOpen_27 : decode cX10_bestOpen 27 = .ok (.imul, 1) := by decide +kernel
theorem dX10_bestOpen_28 : decode cX10_bestOpen 28 = .ok (.iload 4, 2) := by decide +kernel
theorem dX10_bestOpen_30 : decode cX10_bestOpen 30 = .ok (.iadd, 1) := by decide +kernel
theorem dX10_bestOpen_31 : decode cX10_bestOpen 31 = .ok (.iaload, 1) := by decide +kernel
theorem dX10_bestOpen_32 : decode cX10_bestOpen 32 = .ok (.invokestatic 41, 3) := by decide +kernel
theorem dX10_bestOpen_35 : decode cX10_bestOpen 35 = .ok (.istore_n 3, 1) := by decide +kernel
theorem dX10_bestOpen_36 : decode cX10_bestOpen 36 = .ok (.iinc 4 1, 3) := by decide +kernel
theorem dX10_bestOpen_39 : decode cX10_bestOpen 39 = .ok (.goto (-34), 3) := by decide +kernel
theorem dX10_bestOpen_42 : decode cX10_bestOpen 42 = .ok (.iload_n 3, 1) := by decide +kernel
theorem dX10_bestOpen_43 : decode cX10_bestOpen 43 = .ok (.ireturn, 1) := by decide +kernel
def tX10_bestOpen (kn : sKn) : List (Nat × sA) := [(0, a_stk (q_int (-1)) 1), (1, a_istore 3 2), (2, a_stk (q_int 0) 3), (3, a_istore 4 5), (5, a_iload 4 7), (7, a_stk (q_int 4) 8), (8, a_icmp kn b_ge 3 42 11), (11, a_iload 2 12), (12, a_iload 4 14), (14, a_stk q_ishr 15), (15, a_stk (q_int 1) 16), (16, a_stk q_iand 17), (17, a_if kn b_eq 0 36 20), (20, a_iload 3 21), (21, a_aload 0 22), (22, a_get 11 2 25), (25, a_stk (q_int 4) 26), (26, a_iload 1 27), (27, a_stk q_imul 28), (28, a_iload 4 30), (30, a_stk q_iadd 31), (31, a_iald 32), (32, a_mmax 35), (35, a_istore 3 36), (36, a_iinc 4 1 39), (39, a_goto 5), (42, a_iload 3 43), (43, a_iret)]
def fX10_bestOpen (kn : sKn) : List Value → sW → Option sR := fW (tX10_bestOpen kn) 5
set_option maxRecDepth 100000 in
set_option maxHeartbeats 4000000 in
theorem mX10_bestOpen (kn : sKn) : mM kn yX10_bestOpen (Cond.code yX10_bestOpen cX10_bestOpen 5 (some .int) :: wsL_law) 1 false (fX10_bestOpen kn) := mM_W (fun n => mM_of (own := RX10) (ini := false) rfl (by decide +kernel) (by decide +kernel) (all_c (ok_stk (s_iconst dX10_bestOpen_0 (by decide))) (all_c (ok_istore_n dX10_bestOpen_1 rfl (by decide)) (all_c (ok_stk (s_iconst dX10_bestOpen_2 (by decide))) (all_c (ok_istore dX10_bestOpen_3 (by decide)) (all_c (ok_iload dX10_bestOpen_5) (all_c (ok_stk (s_iconst dX10_bestOpen_7 (by decide))) (all_c (ok_icmp_ge dX10_bestOpen_8 (by decide)) (all_c (ok_iload_n dX10_bestOpen_11 rfl) (all_c (ok_iload dX10_bestOpen_12) (all_c (ok_stk (s_ishr dX10_bestOpen_14)) (all_c (ok_stk (s_iconst dX10_bestOpen_15 (by decide))) (all_c (ok_stk (s_iand dX10_bestOpen_16)) (all_c (ok_if_eq dX10_bestOpen_17 (by decide)) (all_c (ok_iload_n dX10_bestOpen_20 rfl) (all_c (ok_aload_n dX10_bestOpen_21 rfl) (all_c (okg_X10_2 kw260 dX10_bestOpen_22) (all_c (ok_stk (s_iconst dX10_bestOpen_25 (by decide))) (all_c (ok_iload_n dX10_bestOpen_26 rfl) (all_c (ok_stk (s_imul dX10_bestOpen_27)) (all_c (ok_iload dX10_bestOpen_28) (all_c (ok_stk (s_iadd dX10_bestOpen_30)) (all_c (ok_iald dX10_bestOpen_31) (all_c (ok_mmax (by decide) kw166 kw37 kw38 kw39 dX10_bestOpen_32) (all_c (ok_istore_n dX10_bestOpen_35 rfl (by decide)) (all_c (ok_iinc dX10_bestOpen_36 (by decide) (by decide)) (all_c (ok_goto dX10_bestOpen_39 (by decide)) (all_c (ok_iload_n dX10_bestOpen_42 rfl) (all_c (ok_iret dX10_bestOpen_43) all_n)))))))))))))))))))))))))))) n (fun h => by first | rfl | cases h))
theorem dX10_countOnPath_0 : decode cX10_countOnPath 0 = .ok (.iconst 0, 1) := by decide +kernel
theorem dX10_countOnPath_1 : decode cX10_countOnPath 1 = .ok (.istore 5, 2) := by decide +kernel
theorem dX10_countOnPath_3 : decode cX10_countOnPath 3 = .ok (.iconst 0, 1) := by decide +kernel
theorem dX10_countOnPath_4 : decode cX10_countOnPath 4 = .ok (.istore 6, 2) := by decide +kernel
theorem dX10_countOnPath_6 : decode cX10_countOnPath 6 = .ok (.iload 6, 2) := by decide +kernel
theorem dX10_countOnPath_8 : decode cX10_countOnPath 8 = .ok (.aload_n 1, 1) := by decide +kernel
theorem dX10_countOnPath_9 : decode cX10_countOnPath 9 = .ok (.getfield 51, 3) := by decide +kernel
theorem dX10_countOnPath_12 : decode cX10_countOnPath 12 = .ok (.if_icmp .ge 78, 3) := by decide +kernel
theorem dX10_countOnPath_15 : decode cX10_countOnPath 15 = .ok (.iconst 0, 1) := by decide +kernel
theorem dX10_countOnPath_16 : decode cX10_countOnPath 16 = .ok (.istore 7, 2) := by decide +kernel
theorem dX10_countOnPath_18 : decode cX10_countOnPath 18 = .ok (.iload 7, 2) := by decide +kernel
theorem dX10_countOnPath_20 : decode cX10_countOnPath 20 = .ok (.aload_n 1, 1) := by decide +kernel
theorem dX10_countOnPath_21 : decode cX10_countOnPath 21 = .ok (.getfield 69, 3) := by decide +kernel
theorem dX10_countOnPath_24 : decode cX10_countOnPath 24 = .ok (.iload 4, 2) := by decide +kernel
theorem dX10_countOnPath_26 : decode cX10_countOnPath 26 = .ok (.iaload, 1) := by decide +kernel
theorem dX10_countOnPath_27 : decode cX10_countOnPath 27 = .ok (.if_icmp .ge 57, 3) := by decide +kernel
theorem dX10_countOnPath_30 : decode cX10_countOnPath 30 = .ok (.aload_n 0, 1) := by decide +kernel
theorem dX10_countOnPath_31 : decode cX10_countOnPath 31 = .ok (.getfield 21, 3) := by decide +kernel
theorem dX10_countOnPath_34 : decode cX10_countOnPath 34 = .ok (.iload 6, 2) := by decide +kernel
theorem dX10_countOnPath_36 : decode cX10_countOnPath 36 = .ok (.iaload, 1) := by decide +kernel
theorem dX10_countOnPath_37 : decode cX10_countOnPath 37 = .ok (.iconst 3, 1) := by decide +kernel
theorem dX10_countOnPath_38 : decode cX10_countOnPath 38 = .ok (.if_icmp .eq 46, 3) := by decide +kernel
theorem dX10_countOnPath_41 : decode cX10_countOnPath 41 = .ok (.aload_n 0, 1) := by decide +kernel
theorem dX10_countOnPath_42 : decode cX10_countOnPath 42 = .ok (.getfield 21, 3) := by decide +kernel
theorem dX10_countOnPath_45 : decode cX10_countOnPath 45 = .ok (.iload 6, 2) := by decide +kernel
theorem dX10_countOnPath_47 : decode cX10_countOnPath 47 = .ok (.iaload, 1) := by decide +kernel
theorem dX10_countOnPath_48 : decode cX10_countOnPath 48 = .ok (.iload 7, 2) := by decide +kernel
theorem dX10_countOnPath_50 : decode cX10_countOnPath 50 = .ok (.iadd, 1) := by decide +kernel
theorem dX10_countOnPath_51 : decode cX10_countOnPath 51 = .ok (.istore 8, 2) := by decide +kernel
theorem dX10_countOnPath_53 : decode cX10_countOnPath 53 = .ok (.iload 8, 2) := by decide +kernel
theorem dX10_countOnPath_55 : decode cX10_countOnPath 55 = .ok (.iconst 3, 1) := by decide +kernel
theorem dX10_countOnPath_56 : decode cX10_countOnPath 56 = .ok (.if_icmp .ge 22, 3) := by decide +kernel
theorem dX10_countOnPath_59 : decode cX10_countOnPath 59 = .ok (.aload_n 2, 1) := by decide +kernel
theorem dX10_countOnPath_60 : decode cX10_countOnPath 60 = .ok (.getfield 24, 3) := by decide +kernel
theorem dX10_countOnPath_63 : decode cX10_countOnPath 63 = .ok (.iconst 3, 1) := by decide +kernel
theorem dX10_countOnPath_64 : decode cX10_countOnPath 64 = .ok (.iload 6, 2) := by decide +kernel
theorem dX10_countOnPath_66 : decode cX10_countOnPath 66 = .ok (.imul, 1) := by decide +kernel
theorem dX10_countOnPath_67 : decode cX10_countOnPath 67 = .ok (.iload 8, 2) := by decide +kernel
theorem dX10_countOnPath_69 : decode cX10_countOnPath 69 = .ok (.iadd, 1) := by decide +kernel
theorem dX10_countOnPath_70 : decode cX10_countOnPath 70 = .ok (.iaload, 1) := by decide +kernel
theorem dX10_countOnPath_71 : decode cX10_countOnPath 71 = .ok (.iload_n 3, 1) := by decide +kernel
theorem dX10_countOnPath_72 : decode cX10_countOnPath 72 = .ok (.if_icmp .ne 6, 3) := by decide +kernel
theorem dX10_countOnPath_75 : decode cX10_countOnPath 75 = .ok (.iinc 5 1, 3) := by decide +kernel
theorem dX10_countOnPath_78 : decode cX10_countOnPath 78 = .ok (.iinc 7 1, 3) := by decide +kernel
theorem dX10_countOnPath_81 : decode cX10_countOnPath 81 = .ok (.goto (-63), 3) := by decide +kernel
theorem dX10_countOnPath_84 : decode cX10_countOnPath 84 = .ok (.iinc 6 1, 3) := by decide +kernel
theorem dX10_countOnPath_87 : decode cX10_countOnPath 87 = .ok (.goto (-81), 3) := by decide +kernel
theorem dX10_countOnPath_90 : decode cX10_countOnPath 90 = .ok (.iload 5, 2) := by decide +kernel
theorem dX10_countOnPath_92 : decode cX10_countOnPath 92 = .ok (.ireturn, 1) := by decide +kernel
def tX10_countOnPath (kn : sKn) : List (Nat × sA) := [(0, a_stk (q_int 0) 1), (1, a_istore 5 3), (3, a_stk (q_int 0) 4), (4, a_istore 6 6), (6, a_iload 6 8), (8, a_aload 1 9), (9, a_get 7 0 12), (12, a_icmp kn b_ge 3 90 15), (15, a_stk (q_int 0) 16), (16, a_istore 7 18), (18, a_iload 7 20), (20, a_aload 1 21), (21, a_get 7 14 24), (24, a_iload 4 26), (26, a_iald 27), (27, a_icmp kn b_ge 3 84 30), (30, a_aload 0 31), (31, a_get 11 3 34), (34, a_iload 6 36), (36, a_iald 37), (37, a_stk (q_int 3) 38), (38, a_icmp kn b_eq 0 84 41), (41, a_aload 0 42), (42, a_get 11 3 45), (45, a_iload 6 47), (47, a_iald 48), (48, a_iload 7 50), (50, a_stk q_iadd 51), (51, a_istore 8 53), (53, a_iload 8 55), (55, a_stk (q_int 3) 56), (56, a_icmp kn b_ge 3 78 59), (59, a_aload 2 60), (60, a_get 9 6 63), (63, a_stk (q_int 3) 64), (64, a_iload 6 66), (66, a_stk q_imul 67), (67, a_iload 8 69), (69, a_stk q_iadd 70), (70, a_iald 71), (71, a_iload 3 72), (72, a_icmp kn b_ne 1 78 75), (75, a_iinc 5 1 78), (78, a_iinc 7 1 81), (81, a_goto 18), (84, a_iinc 6 1 87), (87, a_goto 6), (90, a_iload 5 92), (92, a_iret)]
def fX10_countOnPath (kn : sKn) : List Value → sW → Option sR := fW (tX10_countOnPath kn) 9
set_option maxRecDepth 100000 in
set_option maxHeartbeats 4000000 in
theorem mX10_countOnPath (kn : sKn) : mM kn yX10_countOnPath (Cond.code yX10_countOnPath cX10_countOnPath 9 (some .int) :: wsL_law) 1 false (fX10_countOnPath kn) := mM_W (fun n => mM_of (own := RX10) (ini := false) rfl (by decide +kernel) (by decide +kernel) (all_c (ok_stk (s_iconst dX10_countOnPath_0 (by decide))) (all_c (ok_istore dX10_countOnPath_1 (by decide)) (all_c (ok_stk (s_iconst dX10_countOnPath_3 (by decide))) (all_c (ok_istore dX10_countOnPath_4 (by decide)) (all_c (ok_iload dX10_countOnPath_6) (all_c (ok_aload_n dX10_countOnPath_8 rfl) (all_c (okg_X6_0 kw241 dX10_countOnPath_9) (all_c (ok_icmp_ge dX10_countOnPath_12 (by decide)) (all_c (ok_stk (s_iconst dX10_countOnPath_15 (by decide))) (all_c (ok_istore dX10_countOnPath_16 (by decide)) (all_c (ok_iload dX10_countOnPath_18) (all_c (ok_aload_n dX10_countOnPath_20 rfl) (all_c (okg_X6_14 kw243 dX10_countOnPath_21) (all_c (ok_iload dX10_countOnPath_24) (all_c (ok_iald dX10_countOnPath_26) (all_c (ok_icmp_ge dX10_countOnPath_27 (by decide)) (all_c (ok_aload_n dX10_countOnPath_30 rfl) (all_c (okg_X10_3 kw261 dX10_countOnPath_31) (all_c (ok_iload dX10_countOnPath_34) (all_c (ok_iald dX10_countOnPath_36) (all_c (ok_stk (s_iconst dX10_countOnPath_37 (by decide))) (all_c (ok_icmp_eq dX10_countOnPath_38 (by decide)) (all_c (ok_aload_n dX10_countOnPath_41 rfl) (all_c (okg_X10_3 kw261 dX10_countOnPath_42) (all_c (ok_iload dX10_countOnPath_45) (all_c (ok_iald dX10_countOnPath_47) (all_c (ok_iload dX10_countOnPath_48) (all_c (ok_stk (s_iadd dX10_countOnPath_50)) (all_c (ok_istore dX10_countOnPath_51 (by decide)) (all_c (ok_iload dX10_countOnPath_53) (all_c (ok_stk (s_iconst dX10_countOnPath_55 (by decide))) (all_c (ok_icmp_ge dX10_countOnPath_56 (by decide)) (all_c (ok_aload_n dX10_countOnPath_59 rfl) (all_c (okg_X8_6 kw158 dX10_countOnPath_60) (all_c (ok_stk (s_iconst dX10_countOnPath_63 (by decide))) (all_c (ok_iload dX10_countOnPath_64) (all_c (ok_stk (s_imul dX10_countOnPath_66)) (all_c (ok_iload dX10_countOnPath_67) (all_c (ok_stk (s_iadd dX10_countOnPath_69)) (all_c (ok_iald dX10_countOnPath_70) (all_c (ok_iload_n dX10_countOnPath_71 rfl) (all_c (ok_icmp_ne dX10_countOnPath_72 (by decide)) (all_c (ok_iinc dX10_countOnPath_75 (by decide) (by decide)) (all_c (ok_iinc dX10_countOnPath_78 (by decide) (by decide)) (all_c (ok_goto dX10_countOnPath_81 (by decide)) (all_c (ok_iinc dX10_countOnPath_84 (by decide) (by decide)) (all_c (ok_goto dX10_countOnPath_87 (by decide)) (all_c (ok_iload dX10_countOnPath_90) (all_c (ok_iret dX10_countOnPath_92) all_n))))))))))))))))))))))))))))))))))))))))))))))))) n (fun h => by first | rfl | cases h))
theorem dX8_makeGap_0 : decode cX8_makeGap 0 = .ok (.aload_n 0, 1) := by decide +kernel
theorem dX8_makeGap_1 : decode cX8_makeGap 1 = .ok (.getfield 21, 3) := by decide +kernel
theorem dX8_makeGap_4 : decode cX8_makeGap 4 = .ok (.iload_n 1, 1) := by decide +kernel
theorem dX8_makeGap_5 : decode cX8_makeGap 5 = .ok (.iaload, 1) := by decide +kernel
theorem dX8_makeGap_6 : decode cX8_makeGap 6 = .ok (.iconst (-1), 1) := by decide +kernel
theorem dX8_makeGap_7 : decode cX8_makeGap 7 = .ok (.if_icmp .eq 18, 3) := by decide +kernel
theorem dX8_makeGap_10 : decode cX8_makeGap 10 = .ok (.aload_n 0, 1) := by decide +kernel
theorem dX8_makeGap_11 : decode cX8_makeGap 11 = .ok (.getfield 18, 3) := by decide +kernel
theorem dX8_makeGap_14 : decode cX8_makeGap 14 = .ok (.aload_n 0, 1) := by decide +kernel
theorem dX8_makeGap_15 : decode cX8_makeGap 15 = .ok (.getfield 21, 3) := by decide +kernel
theorem dX8_makeGap_18 : decode cX8_makeGap 18 = .ok (.iload_n 1, 1) := by decide +kernel
theorem dX8_makeGap_19 : decode cX8_makeGap 19 = .ok (.iaload, 1) := by decide +kernel
theorem dX8_makeGap_20 : decode cX8_makeGap 20 = .ok (.dup2, 1) := by decide +kernel
theorem dX8_makeGap_21 : decode cX8_makeGap 21 = .ok (.iaload, 1) := by decide +kernel
theorem dX8_makeGap_22 : decode cX8_makeGap 22 = .ok (.iconst 1, 1) := by decide +kernel
theorem dX8_makeGap_23 : decode cX8_makeGap 23 = .ok (.isub, 1) := by decide +kernel
theorem dX8_makeGap_24 : decode cX8_makeGap 24 = .ok (.iastore, 1) := by decide +kernel
theorem dX8_makeGap_25 : decode cX8_makeGap 25 = .ok (.aload_n 0, 1) := by decide +kernel
theorem dX8_makeGap_26 : decode cX8_makeGap 26 = .ok (.getfield 21, 3) := by decide +kernel
theorem dX8_makeGap_29 : decode cX8_makeGap 29 = .ok (.iload_n 1, 1) := by decide +kernel
theorem dX8_makeGap_30 : decode cX8_makeGap 30 = .ok (.iconst (-1), 1) := by decide +kernel
theorem dX8_makeGap_31 : decode cX8_makeGap 31 = .ok (.iastore, 1) := by decide +kernel
theorem dX8_makeGap_32 : decode cX8_makeGap 32 = .ok (.aload_n 0, 1) := by decide +kernel
theorem dX8_makeGap_33 : decode cX8_makeGap 33 = .ok (.getfield 24, 3) := by decide +kernel
theorem dX8_makeGap_36 : decode cX8_makeGap 36 = .ok (.iload_n 1, 1) := by decide +kernel
theorem dX8_makeGap_37 : decode cX8_makeGap 37 = .ok (.iconst 0, 1) := by decide +kernel
theorem dX8_makeGap_38 : decode cX8_makeGap 38 = .ok (.iastore, 1) := by decide +kernel
theorem dX8_makeGap_39 : decode cX8_makeGap 39 = .ok (.return_, 1) := by decide +kernel
def tX8_makeGap (kn : sKn) : List (Nat × sA) := [(0, a_aload 0 1), (1, a_get 9 6 4), (4, a_iload 1 5), (5, a_iald 6), (6, a_stk (q_int (-1)) 7), (7, a_icmp kn b_eq 0 25 10), (10, a_aload 0 11), (11, a_get 9 5 14), (14, a_aload 0 15), (15, a_get 9 6 18), (18, a_iload 1 19), (19, a_iald 20), (20, a_stk q_dup2 21), (21, a_iald 22), (22, a_stk (q_int 1) 23), (23, a_stk q_isub 24), (24, a_iast 25), (25, a_aload 0 26), (26, a_get 9 6 29), (29, a_iload 1 30), (30, a_stk (q_int (-1)) 31), (31, a_iast 32), (32, a_aload 0 33), (33, a_get 9 7 36), (36, a_iload 1 37), (37, a_stk (q_int 0) 38), (38, a_iast 39), (39, a_vret)]
def fX8_makeGap (kn : sKn) : List Value → sW → Option sR := fW (tX8_makeGap kn) 2
set_option maxRecDepth 100000 in
set_option maxHeartbeats 4000000 in
theorem mX8_makeGap (kn : sKn) : mM kn yX8_makeGap (Cond.code yX8_makeGap cX8_makeGap 2 none :: wsL_law) 1 true (fX8_makeGap kn) := mM_W (fun n => mM_of (own := RX8) (ini := false) rfl (by decide +kernel) (by decide +kernel) (all_c (ok_aload_n dX8_makeGap_0 rfl) (all_c (okg_X8_6 kw209 dX8_makeGap_1) (all_c (ok_iload_n dX8_makeGap_4 rfl) (all_c (ok_iald dX8_makeGap_5) (all_c (ok_stk (s_iconst dX8_makeGap_6 (by decide))) (all_c (ok_icmp_eq dX8_makeGap_7 (by decide)) (all_c (ok_aload_n dX8_makeGap_10 rfl) (all_c (okg_X8_5 kw208 dX8_makeGap_11) (all_c (ok_aload_n dX8_makeGap_14 rfl) (all_c (okg_X8_6 kw209 dX8_makeGap_15) (all_c (ok_iload_n dX8_makeGap_18 rfl) (all_c (ok_iald dX8_makeGap_19) (all_c (ok_stk (s_dup2 dX8_makeGap_20)) (all_c (ok_iald dX8_makeGap_21) (all_c (ok_stk (s_iconst dX8_makeGap_22 (by decide))) (all_c (ok_stk (s_isub dX8_makeGap_23)) (all_c (ok_iast dX8_makeGap_24) (all_c (ok_aload_n dX8_makeGap_25 rfl) (all_c (okg_X8_6 kw209 dX8_makeGap_26) (all_c (ok_iload_n dX8_makeGap_29 rfl) (all_c (ok_stk (s_iconst dX8_makeGap_30 (by decide))) (all_c (ok_iast dX8_makeGap_31) (all_c (ok_aload_n dX8_makeGap_32 rfl) (all_c (okg_X8_7 kw210 dX8_makeGap_33) (all_c (ok_iload_n dX8_makeGap_36 rfl) (all_c (ok_stk (s_iconst dX8_makeGap_37 (by decide))) (all_c (ok_iast dX8_makeGap_38) (all_c (ok_vret dX8_makeGap_39) all_n)))))))))))))))))))))))))))) n (fun h => by first | rfl | cases h))
theorem dX10_dropPlanks_0 : decode cX10_dropPlanks 0 = .ok (.iconst (-1), 1) := by decide +kernel
theorem dX10_dropPlanks_1 : decode cX10_dropPlanks 1 = .ok (.istore 4, 2) := by decide +kernel
theorem dX10_dropPlanks_3 : decode cX10_dropPlanks 3 = .ok (.iconst (-1), 1) := by decide +kernel
theorem dX10_dropPlanks_4 : decode cX10_dropPlanks 4 = .ok (.istore 5, 2) := by decide +kernel
theorem dX10_dropPlanks_6 : decode cX10_dropPlanks 6 = .ok (.iconst 0, 1) := by decide +kernel
theorem dX10_dropPlanks_7 : decode cX10_dropPlanks 7 = .ok (.istore 6, 2) := by decide +kernel
theorem dX10_dropPlanks_9 : decode cX10_dropPlanks 9 = .ok (.iload 6, 2) := by decide +kernel
theorem dX10_dropPlanks_11 : decode cX10_dropPlanks 11 = .ok (.iload_n 3, 1) := by decide +kernel
theorem dX10_dropPlanks_12 : decode cX10_dropPlanks 12 = .ok (.iadd, 1) := by decide +kernel
theorem dX10_dropPlanks_13 : decode cX10_dropPlanks 13 = .ok (.iconst 3, 1) := by decide +kernel
theorem dX10_dropPlanks_14 : decode cX10_dropPlanks 14 = .ok (.if_icmp .gt 34, 3) := by decide +kernel
theorem dX10_dropPlanks_17 : decode cX10_dropPlanks 17 = .ok (.aload_n 0, 1) := by decide +kernel
theorem dX10_dropPlanks_18 : decode cX10_dropPlanks 18 = .ok (.iload_n 2, 1) := by decide +kernel
theorem dX10_dropPlanks_19 : decode cX10_dropPlanks 19 = .ok (.iload 6, 2) := by decide +kernel
theorem dX10_dropPlanks_21 : decode cX10_dropPlanks 21 = .ok (.iload_n 3, 1) := by decide +kernel
theorem dX10_dropPlanks_22 : decode cX10_dropPlanks 22 = .ok (.invokevirtual 62, 3) := by decide +kernel
theorem dX10_dropPlanks_25 : decode cX10_dropPlanks 25 = .ok (.istore 7, 2) := by decide +kernel
theorem dX10_dropPlanks_27 : decode cX10_dropPlanks 27 = .ok (.iload 7, 2) := by decide +kernel
theorem dX10_dropPlanks_29 : decode cX10_dropPlanks 29 = .ok (.iload 4, 2) := by decide +kernel
theorem dX10_dropPlanks_31 : decode cX10_dropPlanks 31 = .ok (.if_icmp .le 11, 3) := by decide +kernel
theorem dX10_dropPlanks_34 : decode cX10_dropPlanks 34 = .ok (.iload 7, 2) := by decide +kernel
theorem dX10_dropPlanks_36 : decode cX10_dropPlanks 36 = .ok (.istore 4, 2) := by decide +kernel
theorem dX10_dropPlanks_38 : decode cX10_dropPlanks 38 = .ok (.iload 6, 2) := by decide +kernel
theorem dX10_dropPlanks_40 : decode cX10_dropPlanks 40 = .ok (.istore 5, 2) := by decide +kernel
theorem dX10_dropPlanks_42 : decode cX10_dropPlanks 42 = .ok (.iinc 6 1, 3) := by decide +kernel
theorem dX10_dropPlanks_45 : decode cX10_dropPlanks 45 = .ok (.goto (-36), 3) := by decide +kernel
theorem dX10_dropPlanks_48 : decode cX10_dropPlanks 48 = .ok (.iload 5, 2) := by decide +kernel
theorem dX10_dropPlanks_50 : decode cX10_dropPlanks 50 = .ok (.iconst (-1), 1) := by decide +kernel
theorem dX10_dropPlanks_51 : decode cX10_dropPlanks 51 = .ok (.if_icmp .ne 4, 3) := by decide +kernel
theorem dX10_dropPlanks_54 : decode cX10_dropPlanks 54 = .ok (.return_, 1) := by decide +kernel
theorem dX10_dropPlanks_55 : decode cX10_dropPlanks 55 = .ok (.iconst 0, 1) := by decide +kernel
theorem dX10_dropPlanks_56 : decode cX10_dropPlanks 56 = .ok (.istore 6, 2) := by decide +kernel
theorem dX10_dropPlanks_58 : decode cX10_dropPlanks 58 = .ok (.iload 6, 2) := by decide +kernel
theorem dX10_dropPlanks_60 : decode cX10_dropPlanks 60 = .ok (.iload_n 3, 1) := by decide +kernel
theorem dX10_dropPlanks_61 : decode cX10_dropPlanks 61 = .ok (.if_icmp .ge 22, 3) := by decide +kernel
theorem dX10_dropPlanks_64 : decode cX10_dropPlanks 64 = .ok (.aload_n 1, 1) := by decide +kernel
theorem dX10_dropPlanks_65 : decode cX10_dropPlanks 65 = .ok (.iconst 3, 1) := by decide +kernel
theorem dX10_dropPlanks_66 : decode cX10_dropPlanks 66 = .ok (.iload_n 2, 1) := by decide +kernel
theorem dX10_dropPlanks_67 : decode cX10_dropPlanks 67 = .ok (.imul, 1) := by decide +kernel
theorem dX10_dropPlanks_68 : decode cX10_dropPlanks 68 = .ok (.iload 5, 2) := by decide +kernel
theorem dX10_dropPlanks_70 : decode cX10_dropPlanks 70 = .ok (.iadd, 1) := by decide +kernel
theorem dX10_dropPlanks_71 : decode cX10_dropPlanks 71 = .ok (.iload 6, 2) := by decide +kernel
theorem dX10_dropPlanks_73 : decode cX10_dropPlanks 73 = .ok (.iadd, 1) := by decide +kernel
theorem dX10_dropPlanks_74 : decode cX10_dropPlanks 74 = .ok (.invokevirtual 95, 3) := by decide +kernel
theorem dX10_dropPlanks_77 : decode cX10_dropPlanks 77 = .ok (.iinc 6 1, 3) := by decide +kernel
theorem dX10_dropPlanks_80 : decode cX10_dropPlanks 80 = .ok (.goto (-22), 3) := by decide +kernel
theorem dX10_dropPlanks_83 : decode cX10_dropPlanks 83 = .ok (.return_, 1) := by decide +kernel
theorem okc_X8_makeGap {kn : sKn} {cc : ByteArray} {own : String} {nL : Nat} {D : Nat} {ret : Option FieldType} {ini : Bool} {pc index : Nat} (hD : 1 + 1 ≤ D) (hl : Cond.methodLink own index yX8_makeGap ∈ wsL_law) (hd : decode cc pc = .ok (.invokevirtual index, 3)) : mOk kn cc own nL wsL_law D ret ini pc (a_callV true (fX8_makeGap kn) 9 (1 + 1) (pc + 3)) := ok_callV (mX8_makeGap kn) (good_ws ws_good (fun _ h => h) kw262) hD (by decide) hl kw263 kw264 kw184 ⟨by decide +kernel, by decide +kernel, by decide +kernel⟩ rfl hd
def tX10_dropPlanks (kn : sKn) : List (Nat × sA) := [(0, a_stk (q_int (-1)) 1), (1, a_istore 4 3), (3, a_stk (q_int (-1)) 4), (4, a_istore 5 6), (6, a_stk (q_int 0) 7), (7, a_istore 6 9), (9, a_iload 6 11), (11, a_iload 3 12), (12, a_stk q_iadd 13), (13, a_stk (q_int 3) 14), (14, a_icmp kn b_gt 4 48 17), (17, a_aload 0 18), (18, a_iload 2 19), (19, a_iload 6 21), (21, a_iload 3 22), (22, a_callV false (fX10_bearTogether kn) 11 4 25), (25, a_istore 7 27), (27, a_iload 7 29), (29, a_iload 4 31), (31, a_icmp kn b_le 5 42 34), (34, a_iload 7 36), (36, a_istore 4 38), (38, a_iload 6 40), (40, a_istore 5 42), (42, a_iinc 6 1 45), (45, a_goto 9), (48, a_iload 5 50), (50, a_stk (q_int (-1)) 51), (51, a_icmp kn b_ne 1 55 54), (54, a_vret), (55, a_stk (q_int 0) 56), (56, a_istore 6 58), (58, a_iload 6 60), (60, a_iload 3 61), (61, a_icmp kn b_ge 3 83 64), (64, a_aload 1 65), (65, a_stk (q_int 3) 66), (66, a_iload 2 67), (67, a_stk q_imul 68), (68, a_iload 5 70), (70, a_stk q_iadd 71), (71, a_iload 6 73), (73, a_stk q_iadd 74), (74, a_callV true (fX8_makeGap kn) 9 2 77), (77, a_iinc 6 1 80), (80, a_goto 58), (83, a_vret)]
def fX10_dropPlanks (kn : sKn) : List Value → sW → Option sR := fW (tX10_dropPlanks kn) 8
set_option maxRecDepth 100000 in
set_option maxHeartbeats 4000000 in
theorem mX10_dropPlanks (kn : sKn) : mM kn yX10_dropPlanks (Cond.code yX10_dropPlanks cX10_dropPlanks 8 none :: wsL_law) 2 true (fX10_dropPlanks kn) := mM_W (fun n => mM_of (own := RX10) (ini := false) rfl (by decide +kernel) (by decide +kernel) (all_c (ok_stk (s_iconst dX10_dropPlanks_0 (by decide))) (all_c (ok_istore dX10_dropPlanks_1 (by decide)) (all_c (ok_stk (s_iconst dX10_dropPlanks_3 (by decide))) (all_c (ok_istore dX10_dropPlanks_4 (by decide)) (all_c (ok_stk (s_iconst dX10_dropPlanks_6 (by decide))) (all_c (ok_istore dX10_dropPlanks_7 (by decide)) (all_c (ok_iload dX10_dropPlanks_9) (all_c (ok_iload_n dX10_dropPlanks_11 rfl) (all_c (ok_stk (s_iadd dX10_dropPlanks_12)) (all_c (ok_stk (s_iconst dX10_dropPlanks_13 (by decide))) (all_c (ok_icmp_gt dX10_dropPlanks_14 (by decide)) (all_c (ok_aload_n dX10_dropPlanks_17 rfl) (all_c (ok_iload_n dX10_dropPlanks_18 rfl) (all_c (ok_iload dX10_dropPlanks_19) (all_c (ok_iload_n dX10_dropPlanks_21 rfl) (all_c (okc_X10_bearTogether (by decide) kw240 dX10_dropPlanks_22) (all_c (ok_istore dX10_dropPlanks_25 (by decide)) (all_c (ok_iload dX10_dropPlanks_27) (all_c (ok_iload dX10_dropPlanks_29) (all_c (ok_icmp_le dX10_dropPlanks_31 (by decide)) (all_c (ok_iload dX10_dropPlanks_34) (all_c (ok_istore dX10_dropPlanks_36 (by decide)) (all_c (ok_iload dX10_dropPlanks_38) (all_c (ok_istore dX10_dropPlanks_40 (by decide)) (all_c (ok_iinc dX10_dropPlanks_42 (by decide) (by decide)) (all_c (ok_goto dX10_dropPlanks_45 (by decide)) (all_c (ok_iload dX10_dropPlanks_48) (all_c (ok_stk (s_iconst dX10_dropPlanks_50 (by decide))) (all_c (ok_icmp_ne dX10_dropPlanks_51 (by decide)) (all_c (ok_vret dX10_dropPlanks_54) (all_c (ok_stk (s_iconst dX10_dropPlanks_55 (by decide))) (all_c (ok_istore dX10_dropPlanks_56 (by decide)) (all_c (ok_iload dX10_dropPlanks_58) (all_c (ok_iload_n dX10_dropPlanks_60 rfl) (all_c (ok_icmp_ge dX10_dropPlanks_61 (by decide)) (all_c (ok_aload_n dX10_dropPlanks_64 rfl) (all_c (ok_stk (s_iconst dX10_dropPlanks_65 (by decide))) (all_c (ok_iload_n dX10_dropPlanks_66 rfl) (all_c (ok_stk (s_imul dX10_dropPlanks_67)) (all_c (ok_iload dX10_dropPlanks_68) (all_c (ok_stk (s_iadd dX10_dropPlanks_70)) (all_c (ok_iload dX10_dropPlanks_71) (all_c (ok_stk (s_iadd dX10_dropPlanks_73)) (all_c (okc_X8_makeGap (by decide) kw265 dX10_dropPlanks_74) (all_c (ok_iinc dX10_dropPlanks_77 (by decide) (by decide)) (all_c (ok_goto dX10_dropPlanks_80 (by decide)) (all_c (ok_vret dX10_dropPlanks_83) all_n))))))))))))))))))))))))))))))))))))))))))))))) n (fun h => by first | rfl | cases h))
theorem dX10_followFirst_0 : decode cX10_followFirst 0 = .ok (.bipush 15, 2) := by decide +kernel
theorem dX10_followFirst_2 : decode cX10_followFirst 2 = .ok (.istore_n 3, 1) := by decide +kernel
theorem dX10_followFirst_3 : decode cX10_followFirst 3 = .ok (.iconst 0, 1) := by decide +kernel
theorem dX10_followFirst_4 : decode cX10_followFirst 4 = .ok (.istore 4, 2) := by decide +kernel
theorem dX10_followFirst_6 : decode cX10_followFirst 6 = .ok (.iload 4, 2) := by decide +kernel
theorem dX10_followFirst_8 : decode cX10_followFirst 8 = .ok (.iload_n 1, 1) := by decide +kernel
theorem dX10_followFirst_9 : decode cX10_followFirst 9 = .ok (.if_icmp .ge 67, 3) := by decide +kernel
theorem dX10_followFirst_12 : decode cX10_followFirst 12 = .ok (.iconst 0, 1) := by decide +kernel
theorem dX10_followFirst_13 : decode cX10_followFirst 13 = .ok (.istore 5, 2) := by decide +kernel
theorem dX10_followFirst_15 : decode cX10_followFirst 15 = .ok (.iload 5, 2) := by decide +kernel
theorem dX10_followFirst_17 : decode cX10_followFirst 17 = .ok (.iconst 3, 1) := by decide +kernel
theorem dX10_followFirst_18 : decode cX10_followFirst 18 = .ok (.if_icmp .ge 34, 3) := by decide +kernel
theorem dX10_followFirst_21 : decode cX10_followFirst 21 = .ok (.iload_n 3, 1) := by decide +kernel
theorem dX10_followFirst_22 : decode cX10_followFirst 22 = .ok (.iload 5, 2) := by decide +kernel
theorem dX10_followFirst_24 : decode cX10_followFirst 24 = .ok (.ishr, 1) := by decide +kernel
theorem dX10_followFirst_25 : decode cX10_followFirst 25 = .ok (.iconst 1, 1) := by decide +kernel
theorem dX10_followFirst_26 : decode cX10_followFirst 26 = .ok (.iand, 1) := by decide +kernel
theorem dX10_followFirst_27 : decode cX10_followFirst 27 = .ok (.ifCond .eq 19, 3) := by decide +kernel
theorem dX10_followFirst_30 : decode cX10_followFirst 30 = .ok (.aload_n 0, 1) := by decide +kernel
theorem dX10_followFirst_31 : decode cX10_followFirst 31 = .ok (.getfield 18, 3) := by decide +kernel
theorem dX10_followFirst_34 : decode cX10_followFirst 34 = .ok (.iconst 4, 1) := by decide +kernel
theorem dX10_followFirst_35 : decode cX10_followFirst 35 = .ok (.iload 4, 2) := by decide +kernel
theorem dX10_followFirst_37 : decode cX10_followFirst 37 = .ok (.imul, 1) := by decide +kernel
theorem dX10_followFirst_38 : decode cX10_followFirst 38 = .ok (.iload 5, 2) := by decide +kernel
theorem dX10_followFirst_40 : decode cX10_followFirst 40 = .ok (.iadd, 1) := by decide +kernel
theorem dX10_followFirst_41 : decode cX10_followFirst 41 = .ok (.iaload, 1) := by decide +kernel
theorem dX10_followFirst_42 : decode cX10_followFirst 42 = .ok (.iload_n 2, 1) := by decide +kernel
theorem dX10_followFirst_43 : decode cX10_followFirst 43 = .ok (.if_icmp .ge 9, 3) := by decide +kernel
theorem dX10_followFirst_46 : decode cX10_followFirst 46 = .ok (.iinc 5 1, 3) := by decide +kernel
theorem dX10_followFirst_49 : decode cX10_followFirst 49 = .ok (.goto (-34), 3) := by decide +kernel
theorem dX10_followFirst_52 : decode cX10_followFirst 52 = .ok (.aload_n 0, 1) := by decide +kernel
theorem dX10_followFirst_53 : decode cX10_followFirst 53 = .ok (.getfield 21, 3) := by decide +kernel
theorem dX10_followFirst_56 : decode cX10_followFirst 56 = .ok (.iload 4, 2) := by decide +kernel
theorem dX10_followFirst_58 : decode cX10_followFirst 58 = .ok (.iload 5, 2) := by decide +kernel
theorem dX10_followFirst_60 : decode cX10_followFirst 60 = .ok (.iastore, 1) := by decide +kernel
theorem dX10_followFirst_61 : decode cX10_followFirst 61 = .ok (.getstatic 75, 3) := by decide +kernel
theorem dX10_followFirst_64 : decode cX10_followFirst 64 = .ok (.iconst 1, 1) := by decide +kernel
theorem dX10_followFirst_65 : decode cX10_followFirst 65 = .ok (.iload 5, 2) := by decide +kernel
theorem dX10_followFirst_67 : decode cX10_followFirst 67 = .ok (.ishl, 1) := by decide +kernel
theorem dX10_followFirst_68 : decode cX10_followFirst 68 = .ok (.iaload, 1) := by decide +kernel
theorem dX10_followFirst_69 : decode cX10_followFirst 69 = .ok (.istore_n 3, 1) := by decide +kernel
theorem dX10_followFirst_70 : decode cX10_followFirst 70 = .ok (.iinc 4 1, 3) := by decide +kernel
theorem dX10_followFirst_73 : decode cX10_followFirst 73 = .ok (.goto (-67), 3) := by decide +kernel
theorem dX10_followFirst_76 : decode cX10_followFirst 76 = .ok (.return_, 1) := by decide +kernel
def tX10_followFirst (kn : sKn) : List (Nat × sA) := [(0, a_stk (q_int 15) 2), (2, a_istore 3 3), (3, a_stk (q_int 0) 4), (4, a_istore 4 6), (6, a_iload 4 8), (8, a_iload 1 9), (9, a_icmp kn b_ge 3 76 12), (12, a_stk (q_int 0) 13), (13, a_istore 5 15), (15, a_iload 5 17), (17, a_stk (q_int 3) 18), (18, a_icmp kn b_ge 3 52 21), (21, a_iload 3 22), (22, a_iload 5 24), (24, a_stk q_ishr 25), (25, a_stk (q_int 1) 26), (26, a_stk q_iand 27), (27, a_if kn b_eq 0 46 30), (30, a_aload 0 31), (31, a_get 11 2 34), (34, a_stk (q_int 4) 35), (35, a_iload 4 37), (37, a_stk q_imul 38), (38, a_iload 5 40), (40, a_stk q_iadd 41), (41, a_iald 42), (42, a_iload 2 43), (43, a_icmp kn b_ge 3 52 46), (46, a_iinc 5 1 49), (49, a_goto 15), (52, a_aload 0 53), (53, a_get 11 3 56), (56, a_iload 4 58), (58, a_iload 5 60), (60, a_iast 61), (61, a_gets 1000000 64), (64, a_stk (q_int 1) 65), (65, a_iload 5 67), (67, a_stk q_ishl 68), (68, a_iald 69), (69, a_istore 3 70), (70, a_iinc 4 1 73), (73, a_goto 6), (76, a_vret)]
def fX10_followFirst (kn : sKn) : List Value → sW → Option sR := fW (tX10_followFirst kn) 6
set_option maxRecDepth 100000 in
set_option maxHeartbeats 4000000 in
theorem mX10_followFirst (kn : sKn) : mM kn yX10_followFirst (Cond.code yX10_followFirst cX10_followFirst 6 none :: wsL_law) 1 true (fX10_followFirst kn) := mM_W (fun n => mM_of (own := RX10) (ini := false) rfl (by decide +kernel) (by decide +kernel) (all_c (ok_stk (s_bipush dX10_followFirst_0 (by decide))) (all_c (ok_istore_n dX10_followFirst_2 rfl (by decide)) (all_c (ok_stk (s_iconst dX10_followFirst_3 (by decide))) (all_c (ok_istore dX10_followFirst_4 (by decide)) (all_c (ok_iload dX10_followFirst_6) (all_c (ok_iload_n dX10_followFirst_8 rfl) (all_c (ok_icmp_ge dX10_followFirst_9 (by decide)) (all_c (ok_stk (s_iconst dX10_followFirst_12 (by decide))) (all_c (ok_istore dX10_followFirst_13 (by decide)) (all_c (ok_iload dX10_followFirst_15) (all_c (ok_stk (s_iconst dX10_followFirst_17 (by decide))) (all_c (ok_icmp_ge dX10_followFirst_18 (by decide)) (all_c (ok_iload_n dX10_followFirst_21 rfl) (all_c (ok_iload dX10_followFirst_22) (all_c (ok_stk (s_ishr dX10_followFirst_24)) (all_c (ok_stk (s_iconst dX10_followFirst_25 (by decide))) (all_c (ok_stk (s_iand dX10_followFirst_26)) (all_c (ok_if_eq dX10_followFirst_27 (by decide)) (all_c (ok_aload_n dX10_followFirst_30 rfl) (all_c (okg_X10_2 kw260 dX10_followFirst_31) (all_c (ok_stk (s_iconst dX10_followFirst_34 (by decide))) (all_c (ok_iload dX10_followFirst_35) (all_c (ok_stk (s_imul dX10_followFirst_37)) (all_c (ok_iload dX10_followFirst_38) (all_c (ok_stk (s_iadd dX10_followFirst_40)) (all_c (ok_iald dX10_followFirst_41) (all_c (ok_iload_n dX10_followFirst_42 rfl) (all_c (ok_icmp_ge dX10_followFirst_43 (by decide)) (all_c (ok_iinc dX10_followFirst_46 (by decide) (by decide)) (all_c (ok_goto dX10_followFirst_49 (by decide)) (all_c (ok_aload_n dX10_followFirst_52 rfl) (all_c (okg_X10_3 kw261 dX10_followFirst_53) (all_c (ok_iload dX10_followFirst_56) (all_c (ok_iload dX10_followFirst_58) (all_c (ok_iast dX10_followFirst_60) (all_c (ok_openN (by decide +kernel) dX10_followFirst_61) (all_c (ok_stk (s_iconst dX10_followFirst_64 (by decide))) (all_c (ok_iload dX10_followFirst_65) (all_c (ok_stk (s_ishl dX10_followFirst_67)) (all_c (ok_iald dX10_followFirst_68) (all_c (ok_istore_n dX10_followFirst_69 rfl (by decide)) (all_c (ok_iinc dX10_followFirst_70 (by decide) (by decide)) (all_c (ok_goto dX10_followFirst_73 (by decide)) (all_c (ok_vret dX10_followFirst_76) all_n)))))))))))))))))))))))))))))))))))))))))))) n (fun h => by first | rfl | cases h))
end
