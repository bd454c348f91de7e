noncomputable section
theorem dJ0_coder_7d493_0 : decode cJ0_coder_7d493 0 = .ok (.getstatic 38, 3) := by decide +kernel
theorem dJ0_coder_7d493_3 : decode cJ0_coder_7d493 3 = .ok (.ifCond .eq 10, 3) := by decide +kernel
theorem dJ0_coder_7d493_6 : decode cJ0_coder_7d493 6 = .ok (.aload_n 0, 1) := by decide +kernel
theorem dJ0_coder_7d493_7 : decode cJ0_coder_7d493 7 = .ok (.getfield 15, 3) := by decide +kernel
theorem dJ0_coder_7d493_10 : decode cJ0_coder_7d493 10 = .ok (.goto 4, 3) := by decide +kernel
theorem dJ0_coder_7d493_13 : decode cJ0_coder_7d493 13 = .ok (.iconst 1, 1) := by decide +kernel
theorem dJ0_coder_7d493_14 : decode cJ0_coder_7d493 14 = .ok (.ireturn, 1) := by decide +kernel
def tJ0_coder_7d493 (kn : sKn) : List (Nat × sA) := [(0, a_getsI 1 3), (3, a_if kn b_eq 0 13 6), (6, a_aload 0 7), (7, a_strf (.int 0) 10), (10, a_goto 14), (13, a_stk (q_int 1) 14), (14, a_bret)]
def fJ0_coder_7d493 (kn : sKn) : List Value → sW → Option sR := mF (tJ0_coder_7d493 kn) 1 1000000
set_option maxRecDepth 100000 in
set_option maxHeartbeats 4000000 in
theorem mJ0_coder_7d493 (kn : sKn) : mM kn yJ0_coder_7d493 (Cond.code yJ0_coder_7d493 cJ0_coder_7d493 1 (some .byte) :: wsL_law) 1 false (fJ0_coder_7d493 kn) := mM_of (own := RJ0) (ini := false) rfl (by decide +kernel) (by decide +kernel) (all_c (ok_compact kw1407 dJ0_coder_7d493_0) (all_c (ok_if_eq dJ0_coder_7d493_3 (by decide)) (all_c (ok_aload_n dJ0_coder_7d493_6 rfl) (all_c (ok_strC kw1408 dJ0_coder_7d493_7) (all_c (ok_goto dJ0_coder_7d493_10 (by decide)) (all_c (ok_stk (s_iconst dJ0_coder_7d493_13 (by decide))) (all_c (ok_bret dJ0_coder_7d493_14) all_n))))))) 1000000 (fun h => by first | rfl | cases h)
theorem dJ0_getBytes_840e7_0 : decode cJ0_getBytes_840e7 0 = .ok (.aload_n 0, 1) := by decide +kernel
theorem dJ0_getBytes_840e7_1 : decode cJ0_getBytes_840e7 1 = .ok (.invokevirtual 335, 3) := by decide +kernel
theorem dJ0_getBytes_840e7_4 : decode cJ0_getBytes_840e7 4 = .ok (.iload_n 3, 1) := by decide +kernel
theorem dJ0_getBytes_840e7_5 : decode cJ0_getBytes_840e7 5 = .ok (.if_icmp .ne 23, 3) := by decide +kernel
theorem dJ0_getBytes_840e7_8 : decode cJ0_getBytes_840e7 8 = .ok (.aload_n 0, 1) := by decide +kernel
theorem dJ0_getBytes_840e7_9 : decode cJ0_getBytes_840e7 9 = .ok (.getfield 9, 3) := by decide +kernel
theorem dJ0_getBytes_840e7_12 : decode cJ0_getBytes_840e7 12 = .ok (.iconst 0, 1) := by decide +kernel
theorem dJ0_getBytes_840e7_13 : decode cJ0_getBytes_840e7 13 = .ok (.aload_n 1, 1) := by decide +kernel
theorem dJ0_getBytes_840e7_14 : decode cJ0_getBytes_840e7 14 = .ok (.iload_n 2, 1) := by decide +kernel
theorem dJ0_getBytes_840e7_15 : decode cJ0_getBytes_840e7 15 = .ok (.iload_n 3, 1) := by decide +kernel
theorem dJ0_getBytes_840e7_16 : decode cJ0_getBytes_840e7 16 = .ok (.ishl, 1) := by decide +kernel
theorem dJ0_getBytes_840e7_17 : decode cJ0_getBytes_840e7 17 = .ok (.aload_n 0, 1) := by decide +kernel
theorem dJ0_getBytes_840e7_18 : decode cJ0_getBytes_840e7 18 = .ok (.getfield 9, 3) := by decide +kernel
theorem dJ0_getBytes_840e7_21 : decode cJ0_getBytes_840e7 21 = .ok (.arraylength, 1) := by decide +kernel
theorem dJ0_getBytes_840e7_22 : decode cJ0_getBytes_840e7 22 = .ok (.invokestatic 212, 3) := by decide +kernel
theorem dJ0_getBytes_840e7_25 : decode cJ0_getBytes_840e7 25 = .ok (.goto 18, 3) := by decide +kernel
theorem dJ0_getBytes_840e7_28 : decode cJ0_getBytes_840e7 28 = .ok (.aload_n 0, 1) := by decide +kernel
theorem dJ0_getBytes_840e7_29 : decode cJ0_getBytes_840e7 29 = .ok (.getfield 9, 3) := by decide +kernel
theorem dJ0_getBytes_840e7_32 : decode cJ0_getBytes_840e7 32 = .ok (.iconst 0, 1) := by decide +kernel
theorem dJ0_getBytes_840e7_33 : decode cJ0_getBytes_840e7 33 = .ok (.aload_n 1, 1) := by decide +kernel
theorem dJ0_getBytes_840e7_34 : decode cJ0_getBytes_840e7 34 = .ok (.iload_n 2, 1) := by decide +kernel
theorem dJ0_getBytes_840e7_35 : decode cJ0_getBytes_840e7 35 = .ok (.aload_n 0, 1) := by decide +kernel
theorem dJ0_getBytes_840e7_36 : decode cJ0_getBytes_840e7 36 = .ok (.getfield 9, 3) := by decide +kernel
theorem dJ0_getBytes_840e7_39 : decode cJ0_getBytes_840e7 39 = .ok (.arraylength, 1) := by decide +kernel
theorem dJ0_getBytes_840e7_40 : decode cJ0_getBytes_840e7 40 = .ok (.invokestatic 106, 3) := by decide +kernel
theorem dJ0_getBytes_840e7_43 : decode cJ0_getBytes_840e7 43 = .ok (.return_, 1) := by decide +kernel
theorem okc0_J1_inflate_0e8fd {kn : sKn} {cc : ByteArray} {own : String} {nL : Nat} {D : Nat} {ret : Option FieldType} {ini : Bool} {pc index : Nat} (hD : 0 + 1 ≤ D) (hl : Cond.methodLink own index yJ1_inflate_0e8fd ∈ wsL_law) (hd : decode cc pc = .ok (.invokestatic index, 3)) : mOk kn cc own nL wsL_law D ret ini pc (a_callS true f_none 5 (pc + 3)) := ok_callS (m_none (D := 0)) (good_ws ws_good (fun _ h => h) kw1416) hD (by decide) hl kw1417 kw19 ⟨by decide +kernel, by decide +kernel, by decide +kernel⟩ hd
def tJ0_getBytes_840e7 (kn : sKn) : List (Nat × sA) := [(0, a_aload 0 1), (1, a_callVS false (fJ0_coder_7d493 kn) 1 4), (4, a_iload 3 5), (5, a_icmp kn b_ne 1 28 8), (8, a_aload 0 9), (9, a_strf (.ref 1000003) 12), (12, a_stk (q_int 0) 13), (13, a_aload 1 14), (14, a_iload 2 15), (15, a_iload 3 16), (16, a_stk q_ishl 17), (17, a_aload 0 18), (18, a_strf (.ref 1000003) 21), (21, a_alenS 22), (22, a_copyS 25), (25, a_goto 43), (28, a_aload 0 29), (29, a_strf (.ref 1000003) 32), (32, a_stk (q_int 0) 33), (33, a_aload 1 34), (34, a_iload 2 35), (35, a_aload 0 36), (36, a_strf (.ref 1000003) 39), (39, a_alenS 40), (40, a_callS true f_none 5 43), (43, a_vret)]
def fJ0_getBytes_840e7 (kn : sKn) : List Value → sW → Option sR := mF (tJ0_getBytes_840e7 kn) 4 1000000
set_option maxRecDepth 100000 in
set_option maxHeartbeats 4000000 in
theorem mJ0_getBytes_840e7 (kn : sKn) : mM kn yJ0_getBytes_840e7 (Cond.code yJ0_getBytes_840e7 cJ0_getBytes_840e7 4 none :: wsL_law) 2 true (fJ0_getBytes_840e7 kn) := mM_of (own := RJ0) (ini := false) rfl (by decide +kernel) (by decide +kernel) (all_c (ok_aload_n dJ0_getBytes_840e7_0 rfl) (all_c (ok_callVS (mJ0_coder_7d493 kn) (good_ws ws_good (fun _ h => h) kw1409) (by decide) (by decide) kw1413 kw1411 kw1412 kw1410 ⟨by decide +kernel, by decide +kernel, by decide +kernel⟩ dJ0_getBytes_840e7_1) (all_c (ok_iload_n dJ0_getBytes_840e7_4 rfl) (all_c (ok_icmp_ne dJ0_getBytes_840e7_5 (by decide)) (all_c (ok_aload_n dJ0_getBytes_840e7_8 rfl) (all_c (ok_strV kw1414 dJ0_getBytes_840e7_9) (all_c (ok_stk (s_iconst dJ0_getBytes_840e7_12 (by decide))) (all_c (ok_aload_n dJ0_getBytes_840e7_13 rfl) (all_c (ok_iload_n dJ0_getBytes_840e7_14 rfl) (all_c (ok_iload_n dJ0_getBytes_840e7_15 rfl) (all_c (ok_stk (s_ishl dJ0_getBytes_840e7_16)) (all_c (ok_aload_n dJ0_getBytes_840e7_17 rfl) (all_c (ok_strV kw1414 dJ0_getBytes_840e7_18) (all_c (ok_alenS dJ0_getBytes_840e7_21) (all_c (ok_copyS (by decide) kw1415 kw146 kw147 kw148 dJ0_getBytes_840e7_22) (all_c (ok_goto dJ0_getBytes_840e7_25 (by decide)) (all_c (ok_aload_n dJ0_getBytes_840e7_28 rfl) (all_c (ok_strV kw1414 dJ0_getBytes_840e7_29) (all_c (ok_stk (s_iconst dJ0_getBytes_840e7_32 (by decide))) (all_c (ok_aload_n dJ0_getBytes_840e7_33 rfl) (all_c (ok_iload_n dJ0_getBytes_840e7_34 rfl) (all_c (ok_aload_n dJ0_getBytes_840e7_35 rfl) (all_c (ok_strV kw1414 dJ0_getBytes_840e7_36) (all_c (ok_alenS dJ0_getBytes_840e7_39) (all_c (okc0_J1_inflate_0e8fd (by decide) kw1418 dJ0_getBytes_840e7_40) (all_c (ok_vret dJ0_getBytes_840e7_43) all_n)))))))))))))))))))))))))) 1000000 (fun h => by first | rfl | cases h)
theorem dJ0_length_8abf5_0 : decode cJ0_length_8abf5 0 = .ok (.aload_n 0, 1) := by decide +kernel
theorem dJ0_length_8abf5_1 : decode cJ0_length_8abf5 1 = .ok (.getfield 9, 3) := by decide +kernel
theorem dJ0_length_8abf5_4 : decode cJ0_length_8abf5 4 = .ok (.arraylength, 1) := by decide +kernel
theorem dJ0_length_8abf5_5 : decode cJ0_length_8abf5 5 = .ok (.aload_n 0, 1) := by decide +kernel
theorem dJ0_length_8abf5_6 : decode cJ0_length_8abf5 6 = .ok (.invokevirtual 335, 3) := by decide +kernel
theorem dJ0_length_8abf5_9 : decode cJ0_length_8abf5 9 = .ok (.ishr, 1) := by decide +kernel
theorem dJ0_length_8abf5_10 : decode cJ0_length_8abf5 10 = .ok (.ireturn, 1) := by decide +kernel
def tJ0_length_8abf5 (kn : sKn) : List (Nat × sA) := [(0, a_aload 0 1), (1, a_strf (.ref 1000003) 4), (4, a_alenS 5), (5, a_aload 0 6), (6, a_callVS false (fJ0_coder_7d493 kn) 1 9), (9, a_stk q_ishr 10), (10, a_iret)]
def fJ0_length_8abf5 (kn : sKn) : List Value → sW → Option sR := mF (tJ0_length_8abf5 kn) 1 1000000
set_option maxRecDepth 100000 in
set_option maxHeartbeats 4000000 in
theorem mJ0_length_8abf5 (kn : sKn) : mM kn yJ0_length_8abf5 (Cond.code yJ0_length_8abf5 cJ0_length_8abf5 1 (some .int) :: wsL_law) 2 false (fJ0_length_8abf5 kn) := mM_of (own := RJ0) (ini := false) rfl (by decide +kernel) (by decide +kernel) (all_c (ok_aload_n dJ0_length_8abf5_0 rfl) (all_c (ok_strV kw1414 dJ0_length_8abf5_1) (all_c (ok_alenS dJ0_length_8abf5_4) (all_c (ok_aload_n dJ0_length_8abf5_5 rfl) (all_c (ok_callVS (mJ0_coder_7d493 kn) (good_ws ws_good (fun _ h => h) kw1409) (by decide) (by decide) kw1413 kw1411 kw1412 kw1410 ⟨by decide +kernel, by decide +kernel, by decide +kernel⟩ dJ0_length_8abf5_6) (all_c (ok_stk (s_ishr dJ0_length_8abf5_9)) (all_c (ok_iret dJ0_length_8abf5_10) all_n))))))) 1000000 (fun h => by first | rfl | cases h)
theorem dJ1_canEncode_fc78d_0 : decode cJ1_canEncode_fc78d 0 = .ok (.iload_n 0, 1) := by decide +kernel
theorem dJ1_canEncode_fc78d_1 : decode cJ1_canEncode_fc78d 1 = .ok (.sipush 255, 3) := by decide +kernel
theorem dJ1_canEncode_fc78d_4 : decode cJ1_canEncode_fc78d 4 = .ok (.if_icmp .gt 7, 3) := by decide +kernel
theorem dJ1_canEncode_fc78d_7 : decode cJ1_canEncode_fc78d 7 = .ok (.iconst 1, 1) := by decide +kernel
theorem dJ1_canEncode_fc78d_8 : decode cJ1_canEncode_fc78d 8 = .ok (.goto 4, 3) := by decide +kernel
theorem dJ1_canEncode_fc78d_11 : decode cJ1_canEncode_fc78d 11 = .ok (.iconst 0, 1) := by decide +kernel
theorem dJ1_canEncode_fc78d_12 : decode cJ1_canEncode_fc78d 12 = .ok (.ireturn, 1) := by decide +kernel
def tJ1_canEncode_fc78d (kn : sKn) : List (Nat × sA) := [(0, a_iload 0 1), (1, a_stk (q_int 255) 4), (4, a_icmp kn b_gt 4 11 7), (7, a_stk (q_int 1) 8), (8, a_goto 12), (11, a_stk (q_int 0) 12), (12, a_zret)]
def fJ1_canEncode_fc78d (kn : sKn) : List Value → sW → Option sR := mF (tJ1_canEncode_fc78d kn) 1 1000000
set_option maxRecDepth 100000 in
set_option maxHeartbeats 4000000 in
theorem mJ1_canEncode_fc78d (kn : sKn) : mM kn yJ1_canEncode_fc78d (Cond.code yJ1_canEncode_fc78d cJ1_canEncode_fc78d 1 (some .boolean) :: wsL_law) 1 false (fJ1_canEncode_fc78d kn) := mM_of (own := RJ1) (ini := false) rfl (by decide +kernel) (by decide +kernel) (all_c (ok_iload_n dJ1_canEncode_fc78d_0 rfl) (all_c (ok_stk (s_sipush dJ1_canEncode_fc78d_1 (by decide))) (all_c (ok_icmp_gt dJ1_canEncode_fc78d_4 (by decide)) (all_c (ok_stk (s_iconst dJ1_canEncode_fc78d_7 (by decide))) (all_c (ok_goto dJ1_canEncode_fc78d_8 (by decide)) (all_c (ok_stk (s_iconst dJ1_canEncode_fc78d_11 (by decide))) (all_c (ok_zret dJ1_canEncode_fc78d_12) all_n))))))) 1000000 (fun h => by first | rfl | cases h)
theorem dJ5_ensureCapacityInternal_d00df_0 : decode cJ5_ensureCapacityInternal_d00df 0 = .ok (.aload_n 0, 1) := by decide +kernel
theorem dJ5_ensureCapacityInternal_d00df_1 : decode cJ5_ensureCapacityInternal_d00df 1 = .ok (.getfield 15, 3) := by decide +kernel
theorem dJ5_ensureCapacityInternal_d00df_4 : decode cJ5_ensureCapacityInternal_d00df 4 = .ok (.arraylength, 1) := by decide +kernel
theorem dJ5_ensureCapacityInternal_d00df_5 : decode cJ5_ensureCapacityInternal_d00df 5 = .ok (.aload_n 0, 1) := by decide +kernel
theorem dJ5_ensureCapacityInternal_d00df_6 : decode cJ5_ensureCapacityInternal_d00df 6 = .ok (.getfield 22, 3) := by decide +kernel
theorem dJ5_ensureCapacityInternal_d00df_9 : decode cJ5_ensureCapacityInternal_d00df 9 = .ok (.ishr, 1) := by decide +kernel
theorem dJ5_ensureCapacityInternal_d00df_10 : decode cJ5_ensureCapacityInternal_d00df 10 = .ok (.istore_n 2, 1) := by decide +kernel
theorem dJ5_ensureCapacityInternal_d00df_11 : decode cJ5_ensureCapacityInternal_d00df 11 = .ok (.iload_n 1, 1) := by decide +kernel
theorem dJ5_ensureCapacityInternal_d00df_12 : decode cJ5_ensureCapacityInternal_d00df 12 = .ok (.iload_n 2, 1) := by decide +kernel
theorem dJ5_ensureCapacityInternal_d00df_13 : decode cJ5_ensureCapacityInternal_d00df 13 = .ok (.isub, 1) := by decide +kernel
theorem dJ5_ensureCapacityInternal_d00df_14 : decode cJ5_ensureCapacityInternal_d00df 14 = .ok (.ifCond .le 24, 3) := by decide +kernel
theorem dJ5_ensureCapacityInternal_d00df_17 : decode cJ5_ensureCapacityInternal_d00df 17 = .ok (.aload_n 0, 1) := by decide +kernel
theorem dJ5_ensureCapacityInternal_d00df_18 : decode cJ5_ensureCapacityInternal_d00df 18 = .ok (.aload_n 0, 1) := by decide +kernel
theorem dJ5_ensureCapacityInternal_d00df_19 : decode cJ5_ensureCapacityInternal_d00df 19 = .ok (.getfield 15, 3) := by decide +kernel
theorem dJ5_ensureCapacityInternal_d00df_22 : decode cJ5_ensureCapacityInternal_d00df 22 = .ok (.aload_n 0, 1) := by decide +kernel
theorem dJ5_ensureCapacityInternal_d00df_23 : decode cJ5_ensureCapacityInternal_d00df 23 = .ok (.iload_n 1, 1) := by decide +kernel
theorem dJ5_ensureCapacityInternal_d00df_24 : decode cJ5_ensureCapacityInternal_d00df 24 = .ok (.invokevirtual 104, 3) := by decide +kernel
theorem dJ5_ensureCapacityInternal_d00df_27 : decode cJ5_ensureCapacityInternal_d00df 27 = .ok (.aload_n 0, 1) := by decide +kernel
theorem dJ5_ensureCapacityInternal_d00df_28 : decode cJ5_ensureCapacityInternal_d00df 28 = .ok (.getfield 22, 3) := by decide +kernel
theorem dJ5_ensureCapacityInternal_d00df_31 : decode cJ5_ensureCapacityInternal_d00df 31 = .ok (.ishl, 1) := by decide +kernel
theorem dJ5_ensureCapacityInternal_d00df_32 : decode cJ5_ensureCapacityInternal_d00df 32 = .ok (.invokestatic 108, 3) := by decide +kernel
theorem dJ5_ensureCapacityInternal_d00df_35 : decode cJ5_ensureCapacityInternal_d00df 35 = .ok (.putfield 15, 3) := by decide +kernel
theorem dJ5_ensureCapacityInternal_d00df_38 : decode cJ5_ensureCapacityInternal_d00df 38 = .ok (.return_, 1) := by decide +kernel
theorem okc0_J7_copyOf_9075b {kn : sKn} {cc : ByteArray} {own : String} {nL : Nat} {D : Nat} {ret : Option FieldType} {ini : Bool} {pc index : Nat} (hD : 0 + 1 ≤ D) (hl : Cond.methodLink own index yJ7_copyOf_9075b ∈ wsL_law) (hd : decode cc pc = .ok (.invokestatic index, 3)) : mOk kn cc own nL wsL_law D ret ini pc (a_callS false f_none 2 (pc + 3)) := ok_callS (m_none (D := 0)) (good_ws ws_good (fun _ h => h) kw1421) hD (by decide) hl kw1422 kw39 ⟨by decide +kernel, by decide +kernel, by decide +kernel⟩ hd
def tJ5_ensureCapacityInternal_d00df (kn : sKn) : List (Nat × sA) := [(0, a_aload 0 1), (1, a_get 0 0 4), (4, a_alen 5), (5, a_aload 0 6), (6, a_get 0 1 9), (9, a_stk q_ishr 10), (10, a_istore 2 11), (11, a_iload 1 12), (12, a_iload 2 13), (13, a_stk q_isub 14), (14, a_if kn b_le 5 38 17), (17, a_aload 0 18), (18, a_aload 0 19), (19, a_get 0 0 22), (22, a_aload 0 23), (23, a_iload 1 24), (24, a_none), (27, a_aload 0 28), (28, a_get 0 1 31), (31, a_stk q_ishl 32), (32, a_callS false f_none 2 35), (35, a_put 0 0 ckR 38), (38, a_vret)]
def fJ5_ensureCapacityInternal_d00df (kn : sKn) : List Value → sW → Option sR := mF (tJ5_ensureCapacityInternal_d00df kn) 3 1000000
set_option maxRecDepth 100000 in
set_option maxHeartbeats 4000000 in
theorem mJ5_ensureCapacityInternal_d00df (kn : sKn) : mM kn yJ5_ensureCapacityInternal_d00df (Cond.code yJ5_ensureCapacityInternal_d00df cJ5_ensureCapacityInternal_d00df 3 none :: wsL_law) 1 true (fJ5_ensureCapacityInternal_d00df kn) := mM_of (own := RJ5) (ini := false) rfl (by decide +kernel) (by decide +kernel) (all_c (ok_aload_n dJ5_ensureCapacityInternal_d00df_0 rfl) (all_c (okg_J4_0 kw6 dJ5_ensureCapacityInternal_d00df_1) (all_c (ok_alen dJ5_ensureCapacityInternal_d00df_4) (all_c (ok_aload_n dJ5_ensureCapacityInternal_d00df_5 rfl) (all_c (okg_J4_1 kw7 dJ5_ensureCapacityInternal_d00df_6) (all_c (ok_stk (s_ishr dJ5_ensureCapacityInternal_d00df_9)) (all_c (ok_istore_n dJ5_ensureCapacityInternal_d00df_10 rfl (by decide)) (all_c (ok_iload_n dJ5_ensureCapacityInternal_d00df_11 rfl) (all_c (ok_iload_n dJ5_ensureCapacityInternal_d00df_12 rfl) (all_c (ok_stk (s_isub dJ5_ensureCapacityInternal_d00df_13)) (all_c (ok_if_le dJ5_ensureCapacityInternal_d00df_14 (by decide)) (all_c (ok_aload_n dJ5_ensureCapacityInternal_d00df_17 rfl) (all_c (ok_aload_n dJ5_ensureCapacityInternal_d00df_18 rfl) (all_c (okg_J4_0 kw6 dJ5_ensureCapacityInternal_d00df_19) (all_c (ok_aload_n dJ5_ensureCapacityInternal_d00df_22 rfl) (all_c (ok_iload_n dJ5_ensureCapacityInternal_d00df_23 rfl) (all_c (ok_none) (all_c (ok_aload_n dJ5_ensureCapacityInternal_d00df_27 rfl) (all_c (okg_J4_1 kw7 dJ5_ensureCapacityInternal_d00df_28) (all_c (ok_stk (s_ishl dJ5_ensureCapacityInternal_d00df_31)) (all_c (okc0_J7_copyOf_9075b (by decide) kw1423 dJ5_ensureCapacityInternal_d00df_32) (all_c (okp_J4_0 kw6 dJ5_ensureCapacityInternal_d00df_35) (all_c (ok_vret dJ5_ensureCapacityInternal_d00df_38) all_n))))))))))))))))))))))) 1000000 (fun h => by first | rfl | cases h)
theorem dJ5_inflateIfNeededFor_a7421_0 : decode cJ5_inflateIfNeededFor_a7421 0 = .ok (.getstatic 18, 3) := by decide +kernel
theorem dJ5_inflateIfNeededFor_a7421_3 : decode cJ5_inflateIfNeededFor_a7421 3 = .ok (.ifCond .eq 18, 3) := by decide +kernel
theorem dJ5_inflateIfNeededFor_a7421_6 : decode cJ5_inflateIfNeededFor_a7421 6 = .ok (.aload_n 0, 1) := by decide +kernel
theorem dJ5_inflateIfNeededFor_a7421_7 : decode cJ5_inflateIfNeededFor_a7421 7 = .ok (.getfield 22, 3) := by decide +kernel
theorem dJ5_inflateIfNeededFor_a7421_10 : decode cJ5_inflateIfNeededFor_a7421 10 = .ok (.aload_n 1, 1) := by decide +kernel
theorem dJ5_inflateIfNeededFor_a7421_11 : decode cJ5_inflateIfNeededFor_a7421 11 = .ok (.invokevirtual 40, 3) := by decide +kernel
theorem dJ5_inflateIfNeededFor_a7421_14 : decode cJ5_inflateIfNeededFor_a7421 14 = .ok (.if_icmp .eq 7, 3) := by decide +kernel
theorem dJ5_inflateIfNeededFor_a7421_17 : decode cJ5_inflateIfNeededFor_a7421 17 = .ok (.aload_n 0, 1) := by decide +kernel
theorem dJ5_inflateIfNeededFor_a7421_18 : decode cJ5_inflateIfNeededFor_a7421 18 = .ok (.invokevirtual 195, 3) := by decide +kernel
theorem dJ5_inflateIfNeededFor_a7421_21 : decode cJ5_inflateIfNeededFor_a7421 21 = .ok (.return_, 1) := by decide +kernel
def tJ5_inflateIfNeededFor_a7421 (kn : sKn) : List (Nat × sA) := [(0, a_getsI 1 3), (3, a_if kn b_eq 0 21 6), (6, a_aload 0 7), (7, a_get 0 1 10), (10, a_aload 1 11), (11, a_callVS false (fJ0_coder_7d493 kn) 1 14), (14, a_icmp kn b_eq 0 21 17), (17, a_aload 0 18), (18, a_none), (21, a_vret)]
def fJ5_inflateIfNeededFor_a7421 (kn : sKn) : List Value → sW → Option sR := mF (tJ5_inflateIfNeededFor_a7421 kn) 2 1000000
set_option maxRecDepth 100000 in
set_option maxHeartbeats 4000000 in
theorem mJ5_inflateIfNeededFor_a7421 (kn : sKn) : mM kn yJ5_inflateIfNeededFor_a7421 (Cond.code yJ5_inflateIfNeededFor_a7421 cJ5_inflateIfNeededFor_a7421 2 none :: wsL_law) 2 true (fJ5_inflateIfNeededFor_a7421 kn) := mM_of (own := RJ5) (ini := false) rfl (by decide +kernel) (by decide +kernel) (all_c (ok_compact kw4 dJ5_inflateIfNeededFor_a7421_0) (all_c (ok_if_eq dJ5_inflateIfNeededFor_a7421_3 (by decide)) (all_c (ok_aload_n dJ5_inflateIfNeededFor_a7421_6 rfl) (all_c (okg_J4_1 kw7 dJ5_inflateIfNeededFor_a7421_7) (all_c (ok_aload_n dJ5_inflateIfNeededFor_a7421_10 rfl) (all_c (ok_callVS (mJ0_coder_7d493 kn) (good_ws ws_good (fun _ h => h) kw1409) (by decide) (by decide) kw1424 kw1411 kw1412 kw1410 ⟨by decide +kernel, by decide +kernel, by decide +kernel⟩ dJ5_inflateIfNeededFor_a7421_11) (all_c (ok_icmp_eq dJ5_inflateIfNeededFor_a7421_14 (by decide)) (all_c (ok_aload_n dJ5_inflateIfNeededFor_a7421_17 rfl) (all_c (ok_none) (all_c (ok_vret dJ5_inflateIfNeededFor_a7421_21) all_n)))))))))) 1000000 (fun h => by first | rfl | cases h)
theorem dJ5_putStringAt_47b60_0 : decode cJ5_putStringAt_47b60 0 = .ok (.aload_n 0, 1) := by decide +kernel
theorem dJ5_putStringAt_47b60_1 : decode cJ5_putStringAt_47b60 1 = .ok (.aload_n 2, 1) := by decide +kernel
theorem dJ5_putStringAt_47b60_2 : decode cJ5_putStringAt_47b60 2 = .ok (.invokevirtual 397, 3) := by decide +kernel
theorem dJ5_putStringAt_47b60_5 : decode cJ5_putStringAt_47b60 5 = .ok (.aload_n 2, 1) := by decide +kernel
theorem dJ5_putStringAt_47b60_6 : decode cJ5_putStringAt_47b60 6 = .ok (.aload_n 0, 1) := by decide +kernel
theorem dJ5_putStringAt_47b60_7 : decode cJ5_putStringAt_47b60 7 = .ok (.getfield 15, 3) := by decide +kernel
theorem dJ5_putStringAt_47b60_10 : decode cJ5_putStringAt_47b60 10 = .ok (.iload_n 1, 1) := by decide +kernel
theorem dJ5_putStringAt_47b60_11 : decode cJ5_putStringAt_47b60 11 = .ok (.aload_n 0, 1) := by decide +kernel
theorem dJ5_putStringAt_47b60_12 : decode cJ5_putStringAt_47b60 12 = .ok (.getfield 22, 3) := by decide +kernel
theorem dJ5_putStringAt_47b60_15 : decode cJ5_putStringAt_47b60 15 = .ok (.invokevirtual 399, 3) := by decide +kernel
theorem dJ5_putStringAt_47b60_18 : decode cJ5_putStringAt_47b60 18 = .ok (.return_, 1) := by decide +kernel
def tJ5_putStringAt_47b60 (kn : sKn) : List (Nat × sA) := [(0, a_aload 0 1), (1, a_aload 2 2), (2, a_callV true (fJ5_inflateIfNeededFor_a7421 kn) 0 2 5), (5, a_aload 2 6), (6, a_aload 0 7), (7, a_get 0 0 10), (10, a_iload 1 11), (11, a_aload 0 12), (12, a_get 0 1 15), (15, a_callVS true (fJ0_getBytes_840e7 kn) 4 18), (18, a_vret)]
def fJ5_putStringAt_47b60 (kn : sKn) : List Value → sW → Option sR := mF (tJ5_putStringAt_47b60 kn) 3 1000000
set_option maxRecDepth 100000 in
set_option maxHeartbeats 4000000 in
theorem mJ5_putStringAt_47b60 (kn : sKn) : mM kn yJ5_putStringAt_47b60 (Cond.code yJ5_putStringAt_47b60 cJ5_putStringAt_47b60 3 none :: wsL_law) 3 true (fJ5_putStringAt_47b60 kn) := mM_of (own := RJ5) (ini := false) rfl (by decide +kernel) (by decide +kernel) (all_c (ok_aload_n dJ5_putStringAt_47b60_0 rfl) (all_c (ok_aload_n dJ5_putStringAt_47b60_1 rfl) (all_c (ok_callVP (mJ5_inflateIfNeededFor_a7421 kn) (good_ws ws_good (fun _ h => h) kw1427) (by decide) (by decide) kw1429 kw1428 (by decide +kernel) kw13 ⟨by decide +kernel, by decide +kernel, by decide +kernel⟩ rfl dJ5_putStringAt_47b60_2) (all_c (ok_aload_n dJ5_putStringAt_47b60_5 rfl) (all_c (ok_aload_n dJ5_putStringAt_47b60_6 rfl) (all_c (okg_J4_0 kw6 dJ5_putStringAt_47b60_7) (all_c (ok_iload_n dJ5_putStringAt_47b60_10 rfl) (all_c (ok_aload_n dJ5_putStringAt_47b60_11 rfl) (all_c (okg_J4_1 kw7 dJ5_putStringAt_47b60_12) (all_c (ok_callVS (mJ0_getBytes_840e7 kn) (good_ws ws_good (fun _ h => h) kw1430) (by decide) (by decide) kw1433 kw1431 kw1432 kw1410 ⟨by decide +kernel, by decide +kernel, by decide +kernel⟩ dJ5_putStringAt_47b60_15) (all_c (ok_vret dJ5_putStringAt_47b60_18) all_n))))))))))) 1000000 (fun h => by first | rfl | cases h)
theorem dJ5_append_cf1ce_0 : decode cJ5_append_cf1ce 0 = .ok (.aload_n 1, 1) := by decide +kernel
theorem dJ5_append_cf1ce_1 : decode cJ5_append_cf1ce 1 = .ok (.ifnonnull 8, 3) := by decide +kernel
theorem dJ5_append_cf1ce_4 : decode cJ5_append_cf1ce 4 = .ok (.aload_n 0, 1) := by decide +kernel
theorem dJ5_append_cf1ce_5 : decode cJ5_append_cf1ce 5 = .ok (.invokevirtual 204, 3) := by decide +kernel
theorem dJ5_append_cf1ce_8 : decode cJ5_append_cf1ce 8 = .ok (.areturn, 1) := by decide +kernel
theorem dJ5_append_cf1ce_9 : decode cJ5_append_cf1ce 9 = .ok (.aload_n 1, 1) := by decide +kernel
theorem dJ5_append_cf1ce_10 : decode cJ5_append_cf1ce 10 = .ok (.invokevirtual 32, 3) := by decide +kernel
theorem dJ5_append_cf1ce_13 : decode cJ5_append_cf1ce 13 = .ok (.istore_n 2, 1) := by decide +kernel
theorem dJ5_append_cf1ce_14 : decode cJ5_append_cf1ce 14 = .ok (.aload_n 0, 1) := by decide +kernel
theorem dJ5_append_cf1ce_15 : decode cJ5_append_cf1ce 15 = .ok (.aload_n 0, 1) := by decide +kernel
theorem dJ5_append_cf1ce_16 : decode cJ5_append_cf1ce 16 = .ok (.getfield 79, 3) := by decide +kernel
theorem dJ5_append_cf1ce_19 : decode cJ5_append_cf1ce 19 = .ok (.iload_n 2, 1) := by decide +kernel
theorem dJ5_append_cf1ce_20 : decode cJ5_append_cf1ce 20 = .ok (.iadd, 1) := by decide +kernel
theorem dJ5_append_cf1ce_21 : decode cJ5_append_cf1ce 21 = .ok (.invokevirtual 100, 3) := by decide +kernel
theorem dJ5_append_cf1ce_24 : decode cJ5_append_cf1ce 24 = .ok (.aload_n 0, 1) := by decide +kernel
theorem dJ5_append_cf1ce_25 : decode cJ5_append_cf1ce 25 = .ok (.aload_n 0, 1) := by decide +kernel
theorem dJ5_append_cf1ce_26 : decode cJ5_append_cf1ce 26 = .ok (.getfield 79, 3) := by decide +kernel
theorem dJ5_append_cf1ce_29 : decode cJ5_append_cf1ce 29 = .ok (.aload_n 1, 1) := by decide +kernel
theorem dJ5_append_cf1ce_30 : decode cJ5_append_cf1ce 30 = .ok (.invokevirtual 208, 3) := by decide +kernel
theorem dJ5_append_cf1ce_33 : decode cJ5_append_cf1ce 33 = .ok (.aload_n 0, 1) := by decide +kernel
theorem dJ5_append_cf1ce_34 : decode cJ5_append_cf1ce 34 = .ok (.dup, 1) := by decide +kernel
theorem dJ5_append_cf1ce_35 : decode cJ5_append_cf1ce 35 = .ok (.getfield 79, 3) := by decide +kernel
theorem dJ5_append_cf1ce_38 : decode cJ5_append_cf1ce 38 = .ok (.iload_n 2, 1) := by decide +kernel
theorem dJ5_append_cf1ce_39 : decode cJ5_append_cf1ce 39 = .ok (.iadd, 1) := by decide +kernel
theorem dJ5_append_cf1ce_40 : decode cJ5_append_cf1ce 40 = .ok (.putfield 79, 3) := by decide +kernel
theorem dJ5_append_cf1ce_43 : decode cJ5_append_cf1ce 43 = .ok (.aload_n 0, 1) := by decide +kernel
theorem dJ5_append_cf1ce_44 : decode cJ5_append_cf1ce 44 = .ok (.areturn, 1) := by decide +kernel
def tJ5_append_cf1ce (kn : sKn) : List (Nat × sA) := [(0, a_aload 1 1), (1, a_ifnn 9 4), (4, a_aload 0 5), (5, a_none), (8, a_aret), (9, a_aload 1 10), (10, a_callVS false (fJ0_length_8abf5 kn) 1 13), (13, a_istore 2 14), (14, a_aload 0 15), (15, a_aload 0 16), (16, a_get 0 3 19), (19, a_iload 2 20), (20, a_stk q_iadd 21), (21, a_callV true (fJ5_ensureCapacityInternal_d00df kn) 0 2 24), (24, a_aload 0 25), (25, a_aload 0 26), (26, a_get 0 3 29), (29, a_aload 1 30), (30, a_callV true (fJ5_putStringAt_47b60 kn) 0 3 33), (33, a_aload 0 34), (34, a_stk q_dup 35), (35, a_get 0 3 38), (38, a_iload 2 39), (39, a_stk q_iadd 40), (40, a_put 0 3 ckI 43), (43, a_aload 0 44), (44, a_aret)]
def fJ5_append_cf1ce (kn : sKn) : List Value → sW → Option sR := mF (tJ5_append_cf1ce kn) 3 1000000
set_option maxRecDepth 100000 in
set_option maxHeartbeats 4000000 in
theorem mJ5_append_cf1ce (kn : sKn) : mM kn yJ5_append_cf1ce (Cond.code yJ5_append_cf1ce cJ5_append_cf1ce 3 (some (.object "java/lang/AbstractStringBuilder")) :: wsL_law) 4 false (fJ5_append_cf1ce kn) := mM_of (own := RJ5) (ini := false) rfl (by decide +kernel) (by decide +kernel) (all_c (ok_aload_n dJ5_append_cf1ce_0 rfl) (all_c (ok_ifnn dJ5_append_cf1ce_1 (by decide)) (all_c (ok_aload_n dJ5_append_cf1ce_4 rfl) (all_c (ok_none) (all_c (ok_aret (by first | exact Or.inl ⟨_, rfl⟩ | exact Or.inr ⟨_, rfl⟩) dJ5_append_cf1ce_8) (all_c (ok_aload_n dJ5_append_cf1ce_9 rfl) (all_c (ok_callVS (mJ0_length_8abf5 kn) (good_ws ws_good (fun _ h => h) kw1436) (by decide) (by decide) kw1439 kw1437 kw1438 kw1410 ⟨by decide +kernel, by decide +kernel, by decide +kernel⟩ dJ5_append_cf1ce_10) (all_c (ok_istore_n dJ5_append_cf1ce_13 rfl (by decide)) (all_c (ok_aload_n dJ5_append_cf1ce_14 rfl) (all_c (ok_aload_n dJ5_append_cf1ce_15 rfl) (all_c (okg_J4_3 kw16 dJ5_append_cf1ce_16) (all_c (ok_iload_n dJ5_append_cf1ce_19 rfl) (all_c (ok_stk (s_iadd dJ5_append_cf1ce_20)) (all_c (ok_callVP (mJ5_ensureCapacityInternal_d00df kn) (good_ws ws_good (fun _ h => h) kw1440) (by decide) (by decide) kw1442 kw1441 (by decide +kernel) kw13 ⟨by decide +kernel, by decide +kernel, by decide +kernel⟩ rfl dJ5_append_cf1ce_21) (all_c (ok_aload_n dJ5_append_cf1ce_24 rfl) (all_c (ok_aload_n dJ5_append_cf1ce_25 rfl) (all_c (okg_J4_3 kw16 dJ5_append_cf1ce_26) (all_c (ok_aload_n dJ5_append_cf1ce_29 rfl) (all_c (ok_callVP (mJ5_putStringAt_47b60 kn) (good_ws ws_good (fun _ h => h) kw1443) (by decide) (by decide) kw1445 kw1444 (by decide +kernel) kw13 ⟨by decide +kernel, by decide +kernel, by decide +kernel⟩ rfl dJ5_append_cf1ce_30) (all_c (ok_aload_n dJ5_append_cf1ce_33 rfl) (all_c (ok_stk (s_dup dJ5_append_cf1ce_34)) (all_c (okg_J4_3 kw16 dJ5_append_cf1ce_35) (all_c (ok_iload_n dJ5_append_cf1ce_38 rfl) (all_c (ok_stk (s_iadd dJ5_append_cf1ce_39)) (all_c (okp_J4_3 kw16 dJ5_append_cf1ce_40) (all_c (ok_aload_n dJ5_append_cf1ce_43 rfl) (all_c (ok_aret (by first | exact Or.inl ⟨_, rfl⟩ | exact Or.inr ⟨_, rfl⟩) dJ5_append_cf1ce_44) all_n))))))))))))))))))))))))))) 1000000 (fun h => by first | rfl | cases h)
theorem dJ4_append_15ec4_0 : decode cJ4_append_15ec4 0 = .ok (.aload_n 0, 1) := by decide +kernel
theorem dJ4_append_15ec4_1 : decode cJ4_append_15ec4 1 = .ok (.aload_n 1, 1) := by decide +kernel
theorem dJ4_append_15ec4_2 : decode cJ4_append_15ec4 2 = .ok (.invokespecial 29, 3) := by decide +kernel
theorem dJ4_append_15ec4_5 : decode cJ4_append_15ec4 5 = .ok (.pop, 1) := by decide +kernel
theorem dJ4_append_15ec4_6 : decode cJ4_append_15ec4 6 = .ok (.aload_n 0, 1) := by decide +kernel
theorem dJ4_append_15ec4_7 : decode cJ4_append_15ec4 7 = .ok (.areturn, 1) := by decide +kernel
def tJ4_append_15ec4 (kn : sKn) : List (Nat × sA) := [(0, a_aload 0 1), (1, a_aload 1 2), (2, a_callV false (fJ5_append_cf1ce kn) 0 2 5), (5, a_stk q_pop 6), (6, a_aload 0 7), (7, a_aret)]
def fJ4_append_15ec4 (kn : sKn) : List Value → sW → Option sR := mF (tJ4_append_15ec4 kn) 2 1000000
set_option maxRecDepth 100000 in
set_option maxHeartbeats 4000000 in
theorem mJ4_append_15ec4 (kn : sKn) : mM kn yJ4_append_15ec4 (Cond.code yJ4_append_15ec4 cJ4_append_15ec4 2 (some (.object "java/lang/StringBuilder")) :: wsL_law) 5 false (fJ4_append_15ec4 kn) := mM_of (own := RJ4) (ini := false) rfl (by decide +kernel) (by decide +kernel) (all_c (ok_aload_n dJ4_append_15ec4_0 rfl) (all_c (ok_aload_n dJ4_append_15ec4_1 rfl) (all_c (ok_callSup (mJ5_append_cf1ce kn) (good_ws ws_good (fun _ h => h) kw1446) (by decide) (by decide) kw1450 kw1447 kw1448 kw1449 (by decide) kw13 ⟨by decide +kernel, by decide +kernel, by decide +kernel⟩ rfl dJ4_append_15ec4_2) (all_c (ok_stk (s_pop dJ4_append_15ec4_5)) (all_c (ok_aload_n dJ4_append_15ec4_6 rfl) (all_c (ok_aret (by first | exact Or.inl ⟨_, rfl⟩ | exact Or.inr ⟨_, rfl⟩) dJ4_append_15ec4_7) all_n)))))) 1000000 (fun h => by first | rfl | cases h)
theorem dJ5_isLatin1_aae02_0 : decode cJ5_isLatin1_aae02 0 = .ok (.getstatic 18, 3) := by decide +kernel
theorem dJ5_isLatin1_aae02_3 : decode cJ5_isLatin1_aae02 3 = .ok (.ifCond .eq 14, 3) := by decide +kernel
theorem dJ5_isLatin1_aae02_6 : decode cJ5_isLatin1_aae02 6 = .ok (.aload_n 0, 1) := by decide +kernel
theorem dJ5_isLatin1_aae02_7 : decode cJ5_isLatin1_aae02 7 = .ok (.getfield 22, 3) := by decide +kernel
theorem dJ5_isLatin1_aae02_10 : decode cJ5_isLatin1_aae02 10 = .ok (.ifCond .ne 7, 3) := by decide +kernel
theorem dJ5_isLatin1_aae02_13 : decode cJ5_isLatin1_aae02 13 = .ok (.iconst 1, 1) := by decide +kernel
theorem dJ5_isLatin1_aae02_14 : decode cJ5_isLatin1_aae02 14 = .ok (.goto 4, 3) := by decide +kernel
theorem dJ5_isLatin1_aae02_17 : decode cJ5_isLatin1_aae02 17 = .ok (.iconst 0, 1) := by decide +kernel
theorem dJ5_isLatin1_aae02_18 : decode cJ5_isLatin1_aae02 18 = .ok (.ireturn, 1) := by decide +kernel
def tJ5_isLatin1_aae02 (kn : sKn) : List (Nat × sA) := [(0, a_getsI 1 3), (3, a_if kn b_eq 0 17 6), (6, a_aload 0 7), (7, a_get 0 1 10), (10, a_if kn b_ne 1 17 13), (13, a_stk (q_int 1) 14), (14, a_goto 18), (17, a_stk (q_int 0) 18), (18, a_zret)]
def fJ5_isLatin1_aae02 (kn : sKn) : List Value → sW → Option sR := mF (tJ5_isLatin1_aae02 kn) 1 1000000
set_option maxRecDepth 100000 in
set_option maxHeartbeats 4000000 in
theorem mJ5_isLatin1_aae02 (kn : sKn) : mM kn yJ5_isLatin1_aae02 (Cond.code yJ5_isLatin1_aae02 cJ5_isLatin1_aae02 1 (some .boolean) :: wsL_law) 1 false (fJ5_isLatin1_aae02 kn) := mM_of (own := RJ5) (ini := false) rfl (by decide +kernel) (by decide +kernel) (all_c (ok_compact kw4 dJ5_isLatin1_aae02_0) (all_c (ok_if_eq dJ5_isLatin1_aae02_3 (by decide)) (all_c (ok_aload_n dJ5_isLatin1_aae02_6 rfl) (all_c (okg_J4_1 kw7 dJ5_isLatin1_aae02_7) (all_c (ok_if_ne dJ5_isLatin1_aae02_10 (by decide)) (all_c (ok_stk (s_iconst dJ5_isLatin1_aae02_13 (by decide))) (all_c (ok_goto dJ5_isLatin1_aae02_14 (by decide)) (all_c (ok_stk (s_iconst dJ5_isLatin1_aae02_17 (by decide))) (all_c (ok_zret dJ5_isLatin1_aae02_18) all_n))))))))) 1000000 (fun h => by first | rfl | cases h)
theorem dJ5_append_3fe6f_0 : decode cJ5_append_3fe6f 0 = .ok (.aload_n 0, 1) := by decide +kernel
theorem dJ5_append_3fe6f_1 : decode cJ5_append_3fe6f 1 = .ok (.aload_n 0, 1) := by decide +kernel
theorem dJ5_append_3fe6f_2 : decode cJ5_append_3fe6f 2 = .ok (.getfield 79, 3) := by decide +kernel
theorem dJ5_append_3fe6f_5 : decode cJ5_append_3fe6f 5 = .ok (.iconst 1, 1) := by decide +kernel
theorem dJ5_append_3fe6f_6 : decode cJ5_append_3fe6f 6 = .ok (.iadd, 1) := by decide +kernel
theorem dJ5_append_3fe6f_7 : decode cJ5_append_3fe6f 7 = .ok (.invokevirtual 100, 3) := by decide +kernel
theorem dJ5_append_3fe6f_10 : decode cJ5_append_3fe6f 10 = .ok (.aload_n 0, 1) := by decide +kernel
theorem dJ5_append_3fe6f_11 : decode cJ5_append_3fe6f 11 = .ok (.invokevirtual 83, 3) := by decide +kernel
theorem dJ5_append_3fe6f_14 : decode cJ5_append_3fe6f 14 = .ok (.ifCond .eq 31, 3) := by decide +kernel
theorem dJ5_append_3fe6f_17 : decode cJ5_append_3fe6f 17 = .ok (.iload_n 1, 1) := by decide +kernel
theorem dJ5_append_3fe6f_18 : decode cJ5_append_3fe6f 18 = .ok (.invokestatic 191, 3) := by decide +kernel
theorem dJ5_append_3fe6f_21 : decode cJ5_append_3fe6f 21 = .ok (.ifCond .eq 24, 3) := by decide +kernel
theorem dJ5_append_3fe6f_24 : decode cJ5_append_3fe6f 24 = .ok (.aload_n 0, 1) := by decide +kernel
theorem dJ5_append_3fe6f_25 : decode cJ5_append_3fe6f 25 = .ok (.getfield 15, 3) := by decide +kernel
theorem dJ5_append_3fe6f_28 : decode cJ5_append_3fe6f 28 = .ok (.aload_n 0, 1) := by decide +kernel
theorem dJ5_append_3fe6f_29 : decode cJ5_append_3fe6f 29 = .ok (.dup, 1) := by decide +kernel
theorem dJ5_append_3fe6f_30 : decode cJ5_append_3fe6f 30 = .ok (.getfield 79, 3) := by decide +kernel
theorem dJ5_append_3fe6f_33 : decode cJ5_append_3fe6f 33 = .ok (.dup_x1, 1) := by decide +kernel
theorem dJ5_append_3fe6f_34 : decode cJ5_append_3fe6f 34 = .ok (.iconst 1, 1) := by decide +kernel
theorem dJ5_append_3fe6f_35 : decode cJ5_append_3fe6f 35 = .ok (.iadd, 1) := by decide +kernel
theorem dJ5_append_3fe6f_36 : decode cJ5_append_3fe6f 36 = .ok (.putfield 79, 3) := by decide +kernel
theorem dJ5_append_3fe6f_39 : decode cJ5_append_3fe6f 39 = .ok (.iload_n 1, 1) := by decide +kernel
theorem dJ5_append_3fe6f_40 : decode cJ5_append_3fe6f 40 = .ok (.i2b, 1) := by decide +kernel
theorem dJ5_append_3fe6f_41 : decode cJ5_append_3fe6f 41 = .ok (.bastore, 1) := by decide +kernel
theorem dJ5_append_3fe6f_42 : decode cJ5_append_3fe6f 42 = .ok (.goto 33, 3) := by decide +kernel
theorem dJ5_append_3fe6f_45 : decode cJ5_append_3fe6f 45 = .ok (.aload_n 0, 1) := by decide +kernel
theorem dJ5_append_3fe6f_46 : decode cJ5_append_3fe6f 46 = .ok (.invokevirtual 83, 3) := by decide +kernel
theorem dJ5_append_3fe6f_49 : decode cJ5_append_3fe6f 49 = .ok (.ifCond .eq 7, 3) := by decide +kernel
theorem dJ5_append_3fe6f_52 : decode cJ5_append_3fe6f 52 = .ok (.aload_n 0, 1) := by decide +kernel
theorem dJ5_append_3fe6f_53 : decode cJ5_append_3fe6f 53 = .ok (.invokevirtual 195, 3) := by decide +kernel
theorem dJ5_append_3fe6f_56 : decode cJ5_append_3fe6f 56 = .ok (.aload_n 0, 1) := by decide +kernel
theorem dJ5_append_3fe6f_57 : decode cJ5_append_3fe6f 57 = .ok (.getfield 15, 3) := by decide +kernel
theorem dJ5_append_3fe6f_60 : decode cJ5_append_3fe6f 60 = .ok (.aload_n 0, 1) := by decide +kernel
theorem dJ5_append_3fe6f_61 : decode cJ5_append_3fe6f 61 = .ok (.dup, 1) := by decide +kernel
theorem dJ5_append_3fe6f_62 : decode cJ5_append_3fe6f 62 = .ok (.getfield 79, 3) := by decide +kernel
theorem dJ5_append_3fe6f_65 : decode cJ5_append_3fe6f 65 = .ok (.dup_x1, 1) := by decide +kernel
theorem dJ5_append_3fe6f_66 : decode cJ5_append_3fe6f 66 = .ok (.iconst 1, 1) := by decide +kernel
theorem dJ5_append_3fe6f_67 : decode cJ5_append_3fe6f 67 = .ok (.iadd, 1) := by decide +kernel
theorem dJ5_append_3fe6f_68 : decode cJ5_append_3fe6f 68 = .ok (.putfield 79, 3) := by decide +kernel
theorem dJ5_append_3fe6f_71 : decode cJ5_append_3fe6f 71 = .ok (.iload_n 1, 1) := by decide +kernel
theorem dJ5_append_3fe6f_72 : decode cJ5_append_3fe6f 72 = .ok (.invokestatic 197, 3) := by decide +kernel
theorem dJ5_append_3fe6f_75 : decode cJ5_append_3fe6f 75 = .ok (.aload_n 0, 1) := by decide +kernel
theorem dJ5_append_3fe6f_76 : decode cJ5_append_3fe6f 76 = .ok (.areturn, 1) := by decide +kernel
theorem okc_J1_canEncode_fc78d {kn : sKn} {cc : ByteArray} {own : String} {nL : Nat} {D : Nat} {ret : Option FieldType} {ini : Bool} {pc index : Nat} (hD : 1 + 1 ≤ D) (hl : Cond.methodLink own index yJ1_canEncode_fc78d ∈ wsL_law) (hd : decode cc pc = .ok (.invokestatic index, 3)) : mOk kn cc own nL wsL_law D ret ini pc (a_callS false (fJ1_canEncode_fc78d kn) 1 (pc + 3)) := ok_callS (mJ1_canEncode_fc78d kn) (good_ws ws_good (fun _ h => h) kw1455) hD (by decide) hl kw1456 kw19 ⟨by decide +kernel, by decide +kernel, by decide +kernel⟩ hd
theorem okc0_J2_putCharSB_b72d1 {kn : sKn} {cc : ByteArray} {own : String} {nL : Nat} {D : Nat} {ret : Option FieldType} {ini : Bool} {pc index : Nat} (hD : 0 + 1 ≤ D) (hl : Cond.methodLink own index yJ2_putCharSB_b72d1 ∈ wsL_law) (hd : decode cc pc = .ok (.invokestatic index, 3)) : mOk kn cc own nL wsL_law D ret ini pc (a_callS true f_none 3 (pc + 3)) := ok_callS (m_none (D := 0)) (good_ws ws_good (fun _ h => h) kw1458) hD (by decide) hl kw1459 kw9 ⟨by decide +kernel, by decide +kernel, by decide +kernel⟩ hd
def tJ5_append_3fe6f (kn : sKn) : List (Nat × sA) := [(0, a_aload 0 1), (1, a_aload 0 2), (2, a_get 0 3 5), (5, a_stk (q_int 1) 6), (6, a_stk q_iadd 7), (7, a_callV true (fJ5_ensureCapacityInternal_d00df kn) 0 2 10), (10, a_aload 0 11), (11, a_callV false (fJ5_isLatin1_aae02 kn) 0 1 14), (14, a_if kn b_eq 0 45 17), (17, a_iload 1 18), (18, a_callS false (fJ1_canEncode_fc78d kn) 1 21), (21, a_if kn b_eq 0 45 24), (24, a_aload 0 25), (25, a_get 0 0 28), (28, a_aload 0 29), (29, a_stk q_dup 30), (30, a_get 0 3 33), (33, a_stk q_dup_x1 34), (34, a_stk (q_int 1) 35), (35, a_stk q_iadd 36), (36, a_put 0 3 ckI 39), (39, a_iload 1 40), (40, a_stk q_i2b 41), (41, a_bast 42), (42, a_goto 75), (45, a_aload 0 46), (46, a_callV false (fJ5_isLatin1_aae02 kn) 0 1 49), (49, a_if kn b_eq 0 56 52), (52, a_aload 0 53), (53, a_none), (56, a_aload 0 57), (57, a_get 0 0 60), (60, a_aload 0 61), (61, a_stk q_dup 62), (62, a_get 0 3 65), (65, a_stk q_dup_x1 66), (66, a_stk (q_int 1) 67), (67, a_stk q_iadd 68), (68, a_put 0 3 ckI 71), (71, a_iload 1 72), (72, a_callS true f_none 3 75), (75, a_aload 0 76), (76, a_aret)]
def fJ5_append_3fe6f (kn : sKn) : List Value → sW → Option sR := mF (tJ5_append_3fe6f kn) 2 1000000
set_option maxRecDepth 100000 in
set_option maxHeartbeats 4000000 in
theorem mJ5_append_3fe6f (kn : sKn) : mM kn yJ5_append_3fe6f (Cond.code yJ5_append_3fe6f cJ5_append_3fe6f 2 (some (.object "java/lang/AbstractStringBuilder")) :: wsL_law) 2 false (fJ5_append_3fe6f kn) := mM_of (own := RJ5) (ini := false) rfl (by decide +kernel) (by decide +kernel) (all_c (ok_aload_n dJ5_append_3fe6f_0 rfl) (all_c (ok_aload_n dJ5_append_3fe6f_1 rfl) (all_c (okg_J4_3 kw16 dJ5_append_3fe6f_2) (all_c (ok_stk (s_iconst dJ5_append_3fe6f_5 (by decide))) (all_c (ok_stk (s_iadd dJ5_append_3fe6f_6)) (all_c (ok_callVP (mJ5_ensureCapacityInternal_d00df kn) (good_ws ws_good (fun _ h => h) kw1440) (by decide) (by decide) kw1442 kw1441 (by decide +kernel) kw13 ⟨by decide +kernel, by decide +kernel, by decide +kernel⟩ rfl dJ5_append_3fe6f_7) (all_c (ok_aload_n dJ5_append_3fe6f_10 rfl) (all_c (ok_callV (mJ5_isLatin1_aae02 kn) (good_ws ws_good (fun _ h => h) kw1451) (by decide) (by decide) kw1454 kw1452 kw1453 kw13 ⟨by decide +kernel, by decide +kernel, by decide +kernel⟩ rfl dJ5_append_3fe6f_11) (all_c (ok_if_eq dJ5_append_3fe6f_14 (by decide)) (all_c (ok_iload_n dJ5_append_3fe6f_17 rfl) (all_c (okc_J1_canEncode_fc78d (by decide) kw1457 dJ5_append_3fe6f_18) (all_c (ok_if_eq dJ5_append_3fe6f_21 (by decide)) (all_c (ok_aload_n dJ5_append_3fe6f_24 rfl) (all_c (okg_J4_0 kw6 dJ5_append_3fe6f_25) (all_c (ok_aload_n dJ5_append_3fe6f_28 rfl) (all_c (ok_stk (s_dup dJ5_append_3fe6f_29)) (all_c (okg_J4_3 kw16 dJ5_append_3fe6f_30) (all_c (ok_stk (s_dup_x1 dJ5_append_3fe6f_33)) (all_c (ok_stk (s_iconst dJ5_append_3fe6f_34 (by decide))) (all_c (ok_stk (s_iadd dJ5_append_3fe6f_35)) (all_c (okp_J4_3 kw16 dJ5_append_3fe6f_36) (all_c (ok_iload_n dJ5_append_3fe6f_39 rfl) (all_c (ok_stk (s_i2b dJ5_append_3fe6f_40)) (all_c (ok_bast dJ5_append_3fe6f_41) (all_c (ok_goto dJ5_append_3fe6f_42 (by decide)) (all_c (ok_aload_n dJ5_append_3fe6f_45 rfl) (all_c (ok_callV (mJ5_isLatin1_aae02 kn) (good_ws ws_good (fun _ h => h) kw1451) (by decide) (by decide) kw1454 kw1452 kw1453 kw13 ⟨by decide +kernel, by decide +kernel, by decide +kernel⟩ rfl dJ5_append_3fe6f_46) (all_c (ok_if_eq dJ5_append_3fe6f_49 (by decide)) (all_c (ok_aload_n dJ5_append_3fe6f_52 rfl) (all_c (ok_none) (all_c (ok_aload_n dJ5_append_3fe6f_56 rfl) (all_c (okg_J4_0 kw6 dJ5_append_3fe6f_57) (all_c (ok_aload_n dJ5_append_3fe6f_60 rfl) (all_c (ok_stk (s_dup dJ5_append_3fe6f_61)) (all_c (okg_J4_3 kw16 dJ5_append_3fe6f_62) (all_c (ok_stk (s_dup_x1 dJ5_append_3fe6f_65)) (all_c (ok_stk (s_iconst dJ5_append_3fe6f_66 (by decide))) (all_c (ok_stk (s_iadd dJ5_append_3fe6f_67)) (all_c (okp_J4_3 kw16 dJ5_append_3fe6f_68) (all_c (ok_iload_n dJ5_append_3fe6f_71 rfl) (all_c (okc0_J2_putCharSB_b72d1 (by decide) kw1460 dJ5_append_3fe6f_72) (all_c (ok_aload_n dJ5_append_3fe6f_75 rfl) (all_c (ok_aret (by first | exact Or.inl ⟨_, rfl⟩ | exact Or.inr ⟨_, rfl⟩) dJ5_append_3fe6f_76) all_n))))))))))))))))))))))))))))))))))))))))))) 1000000 (fun h => by first | rfl | cases h)
theorem dJ4_append_cf468_0 : decode cJ4_append_cf468 0 = .ok (.aload_n 0, 1) := by decide +kernel
theorem dJ4_append_cf468_1 : decode cJ4_append_cf468 1 = .ok (.iload_n 1, 1) := by decide +kernel
theorem dJ4_append_cf468_2 : decode cJ4_append_cf468 2 = .ok (.invokespecial 50, 3) := by decide +kernel
theorem dJ4_append_cf468_5 : decode cJ4_append_cf468 5 = .ok (.pop, 1) := by decide +kernel
theorem dJ4_append_cf468_6 : decode cJ4_append_cf468 6 = .ok (.aload_n 0, 1) := by decide +kernel
theorem dJ4_append_cf468_7 : decode cJ4_append_cf468 7 = .ok (.areturn, 1) := by decide +kernel
def tJ4_append_cf468 (kn : sKn) : List (Nat × sA) := [(0, a_aload 0 1), (1, a_iload 1 2), (2, a_callV false (fJ5_append_3fe6f kn) 0 2 5), (5, a_stk q_pop 6), (6, a_aload 0 7), (7, a_aret)]
def fJ4_append_cf468 (kn : sKn) : List Value → sW → Option sR := mF (tJ4_append_cf468 kn) 2 1000000
set_option maxRecDepth 100000 in
set_option maxHeartbeats 4000000 in
theorem mJ4_append_cf468 (kn : sKn) : mM kn yJ4_append_cf468 (Cond.code yJ4_append_cf468 cJ4_append_cf468 2 (some (.object "java/lang/StringBuilder")) :: wsL_law) 3 false (fJ4_append_cf468 kn) := mM_of (own := RJ4) (ini := false) rfl (by decide +kernel) (by decide +kernel) (all_c (ok_aload_n dJ4_append_cf468_0 rfl) (all_c (ok_iload_n dJ4_append_cf468_1 rfl) (all_c (ok_callSup (mJ5_append_3fe6f kn) (good_ws ws_good (fun _ h => h) kw1461) (by decide) (by decide) kw1464 kw1462 kw1463 kw1449 (by decide) kw13 ⟨by decide +kernel, by decide +kernel, by decide +kernel⟩ rfl dJ4_append_cf468_2) (all_c (ok_stk (s_pop dJ4_append_cf468_5)) (all_c (ok_aload_n dJ4_append_cf468_6 rfl) (all_c (ok_aret (by first | exact Or.inl ⟨_, rfl⟩ | exact Or.inr ⟨_, rfl⟩) dJ4_append_cf468_7) all_n)))))) 1000000 (fun h => by first | rfl | cases h)
theorem dJ5_init_d00df_0 : decode cJ5_init_d00df 0 = .ok (.aload_n 0, 1) := by decide +kernel
theorem dJ5_init_d00df_1 : decode cJ5_init_d00df 1 = .ok (.invokespecial 3, 3) := by decide +kernel
theorem dJ5_init_d00df_4 : decode cJ5_init_d00df 4 = .ok (.getstatic 18, 3) := by decide +kernel
theorem dJ5_init_d00df_7 : decode cJ5_init_d00df 7 = .ok (.ifCond .eq 18, 3) := by decide +kernel
theorem dJ5_init_d00df_10 : decode cJ5_init_d00df 10 = .ok (.aload_n 0, 1) := by decide +kernel
theorem dJ5_init_d00df_11 : decode cJ5_init_d00df 11 = .ok (.iload_n 1, 1) := by decide +kernel
theorem dJ5_init_d00df_12 : decode cJ5_init_d00df 12 = .ok (.newarray .byte, 2) := by decide +kernel
theorem dJ5_init_d00df_14 : decode cJ5_init_d00df 14 = .ok (.putfield 15, 3) := by decide +kernel
theorem dJ5_init_d00df_17 : decode cJ5_init_d00df 17 = .ok (.aload_n 0, 1) := by decide +kernel
theorem dJ5_init_d00df_18 : decode cJ5_init_d00df 18 = .ok (.iconst 0, 1) := by decide +kernel
theorem dJ5_init_d00df_19 : decode cJ5_init_d00df 19 = .ok (.putfield 22, 3) := by decide +kernel
theorem dJ5_init_d00df_22 : decode cJ5_init_d00df 22 = .ok (.goto 16, 3) := by decide +kernel
theorem dJ5_init_d00df_25 : decode cJ5_init_d00df 25 = .ok (.aload_n 0, 1) := by decide +kernel
theorem dJ5_init_d00df_26 : decode cJ5_init_d00df 26 = .ok (.iload_n 1, 1) := by decide +kernel
theorem dJ5_init_d00df_27 : decode cJ5_init_d00df 27 = .ok (.invokestatic 26, 3) := by decide +kernel
theorem dJ5_init_d00df_30 : decode cJ5_init_d00df 30 = .ok (.putfield 15, 3) := by decide +kernel
theorem dJ5_init_d00df_33 : decode cJ5_init_d00df 33 = .ok (.aload_n 0, 1) := by decide +kernel
theorem dJ5_init_d00df_34 : decode cJ5_init_d00df 34 = .ok (.iconst 1, 1) := by decide +kernel
theorem dJ5_init_d00df_35 : decode cJ5_init_d00df 35 = .ok (.putfield 22, 3) := by decide +kernel
theorem dJ5_init_d00df_38 : decode cJ5_init_d00df 38 = .ok (.return_, 1) := by decide +kernel
theorem okc0_J2_newBytesFor_77867 {kn : sKn} {cc : ByteArray} {own : String} {nL : Nat} {D : Nat} {ret : Option FieldType} {ini : Bool} {pc index : Nat} (hD : 0 + 1 ≤ D) (hl : Cond.methodLink own index yJ2_newBytesFor_77867 ∈ wsL_law) (hd : decode cc pc = .ok (.invokestatic index, 3)) : mOk kn cc own nL wsL_law D ret ini pc (a_callS false f_none 1 (pc + 3)) := ok_callS (m_none (D := 0)) (good_ws ws_good (fun _ h => h) kw8) hD (by decide) hl kw10 kw9 ⟨by decide +kernel, by decide +kernel, by decide +kernel⟩ hd
def tJ5_init_d00df (kn : sKn) : List (Nat × sA) := [(0, a_aload 0 1), (1, a_obj 4), (4, a_getsI 1 7), (7, a_if kn b_eq 0 25 10), (10, a_aload 0 11), (11, a_iload 1 12), (12, a_newa 0 14), (14, a_put 0 0 ckR 17), (17, a_aload 0 18), (18, a_stk (q_int 0) 19), (19, a_put 0 1 ckB 22), (22, a_goto 38), (25, a_aload 0 26), (26, a_iload 1 27), (27, a_callS false f_none 1 30), (30, a_put 0 0 ckR 33), (33, a_aload 0 34), (34, a_stk (q_int 1) 35), (35, a_put 0 1 ckB 38), (38, a_vret)]
def fJ5_init_d00df (kn : sKn) : List Value → sW → Option sR := mF (tJ5_init_d00df kn) 2 1000000
set_option maxRecDepth 100000 in
set_option maxHeartbeats 4000000 in
theorem mJ5_init_d00df (kn : sKn) : mM kn yJ5_init_d00df (Cond.code yJ5_init_d00df cJ5_init_d00df 2 none :: wsL_law) 1 true (fJ5_init_d00df kn) := mM_of (own := RJ5) (ini := true) rfl (by decide +kernel) (by decide +kernel) (all_c (ok_aload_n dJ5_init_d00df_0 rfl) (all_c (ok_obj (by decide) kw1 kw2 kw3 dJ5_init_d00df_1) (all_c (ok_compact kw4 dJ5_init_d00df_4) (all_c (ok_if_eq dJ5_init_d00df_7 (by decide)) (all_c (ok_aload_n dJ5_init_d00df_10 rfl) (all_c (ok_iload_n dJ5_init_d00df_11 rfl) (all_c (ok_newB kw5 dJ5_init_d00df_12) (all_c (okp_J4_0 kw6 dJ5_init_d00df_14) (all_c (ok_aload_n dJ5_init_d00df_17 rfl) (all_c (ok_stk (s_iconst dJ5_init_d00df_18 (by decide))) (all_c (okp_J4_1 kw7 dJ5_init_d00df_19) (all_c (ok_goto dJ5_init_d00df_22 (by decide)) (all_c (ok_aload_n dJ5_init_d00df_25 rfl) (all_c (ok_iload_n dJ5_init_d00df_26 rfl) (all_c (okc0_J2_newBytesFor_77867 (by decide) kw11 dJ5_init_d00df_27) (all_c (okp_J4_0 kw6 dJ5_init_d00df_30) (all_c (ok_aload_n dJ5_init_d00df_33 rfl) (all_c (ok_stk (s_iconst dJ5_init_d00df_34 (by decide))) (all_c (okp_J4_1 kw7 dJ5_init_d00df_35) (all_c (ok_vret dJ5_init_d00df_38) all_n)))))))))))))))))))) 1000000 (fun h => by first | rfl | cases h)
theorem dJ4_init_da8c8_0 : decode cJ4_init_da8c8 0 = .ok (.aload_n 0, 1) := by decide +kernel
theorem dJ4_init_da8c8_1 : decode cJ4_init_da8c8 1 = .ok (.bipush 16, 2) := by decide +kernel
theorem dJ4_init_da8c8_3 : decode cJ4_init_da8c8 3 = .ok (.invokespecial 1, 3) := by decide +kernel
theorem dJ4_init_da8c8_6 : decode cJ4_init_da8c8 6 = .ok (.return_, 1) := by decide +kernel
theorem okc_J5_init_d00df {kn : sKn} {cc : ByteArray} {own : String} {nL : Nat} {D : Nat} {ret : Option FieldType} {ini : Bool} {pc index : Nat} (hD : 1 + 1 ≤ D) (hl : Cond.methodLink own index yJ5_init_d00df ∈ wsL_law) (hd : decode cc pc = .ok (.invokespecial index, 3)) : mOk kn cc own nL wsL_law D ret ini pc (a_callI true (fJ5_init_d00df kn) (1 + 1) (pc + 3)) := ok_callI (mJ5_init_d00df kn) (good_ws ws_good (fun _ h => h) kw12) hD (by decide) hl kw14 rfl kw13 ⟨by decide +kernel, by decide +kernel, by decide +kernel⟩ hd
def tJ4_init_da8c8 (kn : sKn) : List (Nat × sA) := [(0, a_aload 0 1), (1, a_stk (q_int 16) 3), (3, a_callI true (fJ5_init_d00df kn) 2 6), (6, a_vret)]
def fJ4_init_da8c8 (kn : sKn) : List Value → sW → Option sR := mF (tJ4_init_da8c8 kn) 1 1000000
set_option maxRecDepth 100000 in
set_option maxHeartbeats 4000000 in
theorem mJ4_init_da8c8 (kn : sKn) : mM kn yJ4_init_da8c8 (Cond.code yJ4_init_da8c8 cJ4_init_da8c8 1 none :: wsL_law) 2 true (fJ4_init_da8c8 kn) := mM_of (own := RJ4) (ini := true) rfl (by decide +kernel) (by decide +kernel) (all_c (ok_aload_n dJ4_init_da8c8_0 rfl) (all_c (ok_stk (s_bipush dJ4_init_da8c8_1 (by decide))) (all_c (okc_J5_init_d00df (by decide) kw15 dJ4_init_da8c8_3) (all_c (ok_vret dJ4_init_da8c8_6) all_n)))) 1000000 (fun h => by first | rfl | cases h)
theorem dJ5_length_8abf5_0 : decode cJ5_length_8abf5 0 = .ok (.aload_n 0, 1) := by decide +kernel
theorem dJ5_length_8abf5_1 : decode cJ5_length_8abf5 1 = .ok (.getfield 79, 3) := by decide +kernel
theorem dJ5_length_8abf5_4 : decode cJ5_length_8abf5 4 = .ok (.ireturn, 1) := by decide +kernel
def tJ5_length_8abf5 (kn : sKn) : List (Nat × sA) := [(0, a_aload 0 1), (1, a_get 0 3 4), (4, a_iret)]
def fJ5_length_8abf5 (kn : sKn) : List Value → sW → Option sR := mF (tJ5_length_8abf5 kn) 1 1000000
set_option maxRecDepth 100000 in
set_option maxHeartbeats 4000000 in
theorem mJ5_length_8abf5 (kn : sKn) : mM kn yJ5_length_8abf5 (Cond.code yJ5_length_8abf5 cJ5_length_8abf5 1 (some .int) :: wsL_law) 1 false (fJ5_length_8abf5 kn) := mM_of (own := RJ5) (ini := false) rfl (by decide +kernel) (by decide +kernel) (all_c (ok_aload_n dJ5_length_8abf5_0 rfl) (all_c (okg_J4_3 kw16 dJ5_length_8abf5_1) (all_c (ok_iret dJ5_length_8abf5_4) all_n))) 1000000 (fun h => by first | rfl | cases h)
theorem dJ4_length_8abf5_0 : decode cJ4_length_8abf5 0 = .ok (.aload_n 0, 1) := by decide +kernel
theorem dJ4_length_8abf5_1 : decode cJ4_length_8abf5 1 = .ok (.invokespecial 343, 3) := by decide +kernel
theorem dJ4_length_8abf5_4 : decode cJ4_length_8abf5 4 = .ok (.ireturn, 1) := by decide +kernel
def tJ4_length_8abf5 (kn : sKn) : List (Nat × sA) := [(0, a_aload 0 1), (1, a_callV false (fJ5_length_8abf5 kn) 0 1 4), (4, a_iret)]
def fJ4_length_8abf5 (kn : sKn) : List Value → sW → Option sR := mF (tJ4_length_8abf5 kn) 1 1000000
set_option maxRecDepth 100000 in
set_option maxHeartbeats 4000000 in
theorem mJ4_length_8abf5 (kn : sKn) : mM kn yJ4_length_8abf5 (Cond.code yJ4_length_8abf5 cJ4_length_8abf5 1 (some .int) :: wsL_law) 2 false (fJ4_length_8abf5 kn) := mM_of (own := RJ4) (ini := false) rfl (by decide +kernel) (by decide +kernel) (all_c (ok_aload_n dJ4_length_8abf5_0 rfl) (all_c (ok_callSup (mJ5_length_8abf5 kn) (good_ws ws_good (fun _ h => h) kw17) (by decide) (by decide) kw1467 kw1465 kw1466 kw1449 (by decide) kw13 ⟨by decide +kernel, by decide +kernel, by decide +kernel⟩ rfl dJ4_length_8abf5_1) (all_c (ok_iret dJ4_length_8abf5_4) all_n))) 1000000 (fun h => by first | rfl | cases h)
theorem dJ5_setLength_d00df_0 : decode cJ5_setLength_d00df 0 = .ok (.iload_n 1, 1) := by decide +kernel
theorem dJ5_setLength_d00df_1 : decode cJ5_setLength_d00df 1 = .ok (.ifCond .ge 12, 3) := by decide +kernel
theorem dJ5_setLength_d00df_4 : decode cJ5_setLength_d00df 4 = .ok (.new 129, 3) := by decide +kernel
theorem dJ5_setLength_d00df_7 : decode cJ5_setLength_d00df 7 = .ok (.dup, 1) := by decide +kernel
theorem dJ5_setLength_d00df_8 : decode cJ5_setLength_d00df 8 = .ok (.iload_n 1, 1) := by decide +kernel
theorem dJ5_setLength_d00df_9 : decode cJ5_setLength_d00df 9 = .ok (.invokespecial 131, 3) := by decide +kernel
theorem dJ5_setLength_d00df_12 : decode cJ5_setLength_d00df 12 = .ok (.athrow, 1) := by decide +kernel
theorem dJ5_setLength_d00df_13 : decode cJ5_setLength_d00df 13 = .ok (.aload_n 0, 1) := by decide +kernel
theorem dJ5_setLength_d00df_14 : decode cJ5_setLength_d00df 14 = .ok (.iload_n 1, 1) := by decide +kernel
theorem dJ5_setLength_d00df_15 : decode cJ5_setLength_d00df 15 = .ok (.invokevirtual 100, 3) := by decide +kernel
theorem dJ5_setLength_d00df_18 : decode cJ5_setLength_d00df 18 = .ok (.aload_n 0, 1) := by decide +kernel
theorem dJ5_setLength_d00df_19 : decode cJ5_setLength_d00df 19 = .ok (.getfield 79, 3) := by decide +kernel
theorem dJ5_setLength_d00df_22 : decode cJ5_setLength_d00df 22 = .ok (.iload_n 1, 1) := by decide +kernel
theorem dJ5_setLength_d00df_23 : decode cJ5_setLength_d00df 23 = .ok (.if_icmp .ge 40, 3) := by decide +kernel
theorem dJ5_setLength_d00df_26 : decode cJ5_setLength_d00df 26 = .ok (.aload_n 0, 1) := by decide +kernel
theorem dJ5_setLength_d00df_27 : decode cJ5_setLength_d00df 27 = .ok (.invokevirtual 83, 3) := by decide +kernel
theorem dJ5_setLength_d00df_30 : decode cJ5_setLength_d00df 30 = .ok (.ifCond .eq 18, 3) := by decide +kernel
theorem dJ5_setLength_d00df_33 : decode cJ5_setLength_d00df 33 = .ok (.aload_n 0, 1) := by decide +kernel
theorem dJ5_setLength_d00df_34 : decode cJ5_setLength_d00df 34 = .ok (.getfield 15, 3) := by decide +kernel
theorem dJ5_setLength_d00df_37 : decode cJ5_setLength_d00df 37 = .ok (.aload_n 0, 1) := by decide +kernel
theorem dJ5_setLength_d00df_38 : decode cJ5_setLength_d00df 38 = .ok (.getfield 79, 3) := by decide +kernel
theorem dJ5_setLength_d00df_41 : decode cJ5_setLength_d00df 41 = .ok (.iload_n 1, 1) := by decide +kernel
theorem dJ5_setLength_d00df_42 : decode cJ5_setLength_d00df 42 = .ok (.invokestatic 133, 3) := by decide +kernel
theorem dJ5_setLength_d00df_45 : decode cJ5_setLength_d00df 45 = .ok (.goto 31, 3) := by decide +kernel
theorem dJ5_setLength_d00df_48 : decode cJ5_setLength_d00df 48 = .ok (.aload_n 0, 1) := by decide +kernel
theorem dJ5_setLength_d00df_49 : decode cJ5_setLength_d00df 49 = .ok (.getfield 15, 3) := by decide +kernel
theorem dJ5_setLength_d00df_52 : decode cJ5_setLength_d00df 52 = .ok (.aload_n 0, 1) := by decide +kernel
theorem dJ5_setLength_d00df_53 : decode cJ5_setLength_d00df 53 = .ok (.getfield 79, 3) := by decide +kernel
theorem dJ5_setLength_d00df_56 : decode cJ5_setLength_d00df 56 = .ok (.iload_n 1, 1) := by decide +kernel
theorem dJ5_setLength_d00df_57 : decode cJ5_setLength_d00df 57 = .ok (.invokestatic 137, 3) := by decide +kernel
theorem dJ5_setLength_d00df_60 : decode cJ5_setLength_d00df 60 = .ok (.goto 16, 3) := by decide +kernel
theorem dJ5_setLength_d00df_63 : decode cJ5_setLength_d00df 63 = .ok (.aload_n 0, 1) := by decide +kernel
theorem dJ5_setLength_d00df_64 : decode cJ5_setLength_d00df 64 = .ok (.getfield 79, 3) := by decide +kernel
theorem dJ5_setLength_d00df_67 : decode cJ5_setLength_d00df 67 = .ok (.iload_n 1, 1) := by decide +kernel
theorem dJ5_setLength_d00df_68 : decode cJ5_setLength_d00df 68 = .ok (.if_icmp .le 8, 3) := by decide +kernel
theorem dJ5_setLength_d00df_71 : decode cJ5_setLength_d00df 71 = .ok (.aload_n 0, 1) := by decide +kernel
theorem dJ5_setLength_d00df_72 : decode cJ5_setLength_d00df 72 = .ok (.iconst 1, 1) := by decide +kernel
theorem dJ5_setLength_d00df_73 : decode cJ5_setLength_d00df 73 = .ok (.putfield 73, 3) := by decide +kernel
theorem dJ5_setLength_d00df_76 : decode cJ5_setLength_d00df 76 = .ok (.aload_n 0, 1) := by decide +kernel
theorem dJ5_setLength_d00df_77 : decode cJ5_setLength_d00df 77 = .ok (.iload_n 1, 1) := by decide +kernel
theorem dJ5_setLength_d00df_78 : decode cJ5_setLength_d00df 78 = .ok (.putfield 79, 3) := by decide +kernel
theorem dJ5_setLength_d00df_81 : decode cJ5_setLength_d00df 81 = .ok (.return_, 1) := by decide +kernel
theorem okc0_J1_fillNull_b72d1 {kn : sKn} {cc : ByteArray} {own : String} {nL : Nat} {D : Nat} {ret : Option FieldType} {ini : Bool} {pc index : Nat} (hD : 0 + 1 ≤ D) (hl : Cond.methodLink own index yJ1_fillNull_b72d1 ∈ wsL_law) (hd : decode cc pc = .ok (.invokestatic index, 3)) : mOk kn cc own nL wsL_law D ret ini pc (a_callS true f_none 3 (pc + 3)) := ok_callS (m_none (D := 0)) (good_ws ws_good (fun _ h => h) kw18) hD (by decide) hl kw20 kw19 ⟨by decide +kernel, by decide +kernel, by decide +kernel⟩ hd
theorem okc0_J2_fillNull_b72d1 {kn : sKn} {cc : ByteArray} {own : String} {nL : Nat} {D : Nat} {ret : Option FieldType} {ini : Bool} {pc index : Nat} (hD : 0 + 1 ≤ D) (hl : Cond.methodLink own index yJ2_fillNull_b72d1 ∈ wsL_law) (hd : decode cc pc = .ok (.invokestatic index, 3)) : mOk kn cc own nL wsL_law D ret ini pc (a_callS true f_none 3 (pc + 3)) := ok_callS (m_none (D := 0)) (good_ws ws_good (fun _ h => h) kw22) hD (by decide) hl kw23 kw9 ⟨by decide +kernel, by decide +kernel, by decide +kernel⟩ hd
def tJ5_setLength_d00df (kn : sKn) : List (Nat × sA) := [(0, a_iload 1 1), (1, a_if kn b_ge 3 13 4), (4, a_none), (7, a_stk q_dup 8), (8, a_iload 1 9), (9, a_none), (12, a_none), (13, a_aload 0 14), (14, a_iload 1 15), (15, a_callV true (fJ5_ensureCapacityInternal_d00df kn) 0 2 18), (18, a_aload 0 19), (19, a_get 0 3 22), (22, a_iload 1 23), (23, a_icmp kn b_ge 3 63 26), (26, a_aload 0 27), (27, a_callV false (fJ5_isLatin1_aae02 kn) 0 1 30), (30, a_if kn b_eq 0 48 33), (33, a_aload 0 34), (34, a_get 0 0 37), (37, a_aload 0 38), (38, a_get 0 3 41), (41, a_iload 1 42), (42, a_callS true f_none 3 45), (45, a_goto 76), (48, a_aload 0 49), (49, a_get 0 0 52), (52, a_aload 0 53), (53, a_get 0 3 56), (56, a_iload 1 57), (57, a_callS true f_none 3 60), (60, a_goto 76), (63, a_aload 0 64), (64, a_get 0 3 67), (67, a_iload 1 68), (68, a_icmp kn b_le 5 76 71), (71, a_aload 0 72), (72, a_stk (q_int 1) 73), (73, a_put 0 2 ckZ 76), (76, a_aload 0 77), (77, a_iload 1 78), (78, a_put 0 3 ckI 81), (81, a_vret)]
def fJ5_setLength_d00df (kn : sKn) : List Value → sW → Option sR := mF (tJ5_setLength_d00df kn) 2 1000000
set_option maxRecDepth 100000 in
set_option maxHeartbeats 4000000 in
theorem mJ5_setLength_d00df (kn : sKn) : mM kn yJ5_setLength_d00df (Cond.code yJ5_setLength_d00df cJ5_setLength_d00df 2 none :: wsL_law) 2 true (fJ5_setLength_d00df kn) := mM_of (own := RJ5) (ini := false) rfl (by decide +kernel) (by decide +kernel) (all_c (ok_iload_n dJ5_setLength_d00df_0 rfl) (all_c (ok_if_ge dJ5_setLength_d00df_1 (by decide)) (all_c (ok_none) (all_c (ok_stk (s_dup dJ5_setLength_d00df_7)) (all_c (ok_iload_n dJ5_setLength_d00df_8 rfl) (all_c (ok_none) (all_c (ok_none) (all_c (ok_aload_n dJ5_setLength_d00df_13 rfl) (all_c (ok_iload_n dJ5_setLength_d00df_14 rfl) (all_c (ok_callVP (mJ5_ensureCapacityInternal_d00df kn) (good_ws ws_good (fun _ h => h) kw1440) (by decide) (by decide) kw1442 kw1441 (by decide +kernel) kw13 ⟨by decide +kernel, by decide +kernel, by decide +kernel⟩ rfl dJ5_setLength_d00df_15) (all_c (ok_aload_n dJ5_setLength_d00df_18 rfl) (all_c (okg_J4_3 kw16 dJ5_setLength_d00df_19) (all_c (ok_iload_n dJ5_setLength_d00df_22 rfl) (all_c (ok_icmp_ge dJ5_setLength_d00df_23 (by decide)) (all_c (ok_aload_n dJ5_setLength_d00df_26 rfl) (all_c (ok_callV (mJ5_isLatin1_aae02 kn) (good_ws ws_good (fun _ h => h) kw1451) (by decide) (by decide) kw1454 kw1452 kw1453 kw13 ⟨by decide +kernel, by decide +kernel, by decide +kernel⟩ rfl dJ5_setLength_d00df_27) (all_c (ok_if_eq dJ5_setLength_d00df_30 (by decide)) (all_c (ok_aload_n dJ5_setLength_d00df_33 rfl) (all_c (okg_J4_0 kw6 dJ5_setLength_d00df_34) (all_c (ok_aload_n dJ5_setLength_d00df_37 rfl) (all_c (okg_J4_3 kw16 dJ5_setLength_d00df_38) (all_c (ok_iload_n dJ5_setLength_d00df_41 rfl) (all_c (okc0_J1_fillNull_b72d1 (by decide) kw21 dJ5_setLength_d00df_42) (all_c (ok_goto dJ5_setLength_d00df_45 (by decide)) (all_c (ok_aload_n dJ5_setLength_d00df_48 rfl) (all_c (okg_J4_0 kw6 dJ5_setLength_d00df_49) (all_c (ok_aload_n dJ5_setLength_d00df_52 rfl) (all_c (okg_J4_3 kw16 dJ5_setLength_d00df_53) (all_c (ok_iload_n dJ5_setLength_d00df_56 rfl) (all_c (okc0_J2_fillNull_b72d1 (by decide) kw24 dJ5_setLength_d00df_57) (all_c (ok_goto dJ5_setLength_d00df_60 (by decide)) (all_c (ok_aload_n dJ5_setLength_d00df_63 rfl) (all_c (okg_J4_3 kw16 dJ5_setLength_d00df_64) (all_c (ok_iload_n dJ5_setLength_d00df_67 rfl) (all_c (ok_icmp_le dJ5_setLength_d00df_68 (by decide)) (all_c (ok_aload_n dJ5_setLength_d00df_71 rfl) (all_c (ok_stk (s_iconst dJ5_setLength_d00df_72 (by decide))) (all_c (okp_J4_2 kw25 dJ5_setLength_d00df_73) (all_c (ok_aload_n dJ5_setLength_d00df_76 rfl) (all_c (ok_iload_n dJ5_setLength_d00df_77 rfl) (all_c (okp_J4_3 kw16 dJ5_setLength_d00df_78) (all_c (ok_vret dJ5_setLength_d00df_81) all_n)))))))))))))))))))))))))))))))))))))))))) 1000000 (fun h => by first | rfl | cases h)
theorem dJ4_setLength_d00df_0 : decode cJ4_setLength_d00df 0 = .ok (.aload_n 0, 1) := by decide +kernel
theorem dJ4_setLength_d00df_1 : decode cJ4_setLength_d00df 1 = .ok (.iload_n 1, 1) := by decide +kernel
theorem dJ4_setLength_d00df_2 : decode cJ4_setLength_d00df 2 = .ok (.invokespecial 333, 3) := by decide +kernel
theorem dJ4_setLength_d00df_5 : decode cJ4_setLength_d00df 5 = .ok (.return_, 1) := by decide +kernel
def tJ4_setLength_d00df (kn : sKn) : List (Nat × sA) := [(0, a_aload 0 1), (1, a_iload 1 2), (2, a_callV true (fJ5_setLength_d00df kn) 0 2 5), (5, a_vret)]
def fJ4_setLength_d00df (kn : sKn) : List Value → sW → Option sR := mF (tJ4_setLength_d00df kn) 2 1000000
set_option maxRecDepth 100000 in
set_option maxHeartbeats 4000000 in
theorem mJ4_setLength_d00df (kn : sKn) : mM kn yJ4_setLength_d00df (Cond.code yJ4_setLength_d00df cJ4_setLength_d00df 2 none :: wsL_law) 3 true (fJ4_setLength_d00df kn) := mM_of (own := RJ4) (ini := false) rfl (by decide +kernel) (by decide +kernel) (all_c (ok_aload_n dJ4_setLength_d00df_0 rfl) (all_c (ok_iload_n dJ4_setLength_d00df_1 rfl) (all_c (ok_callSup (mJ5_setLength_d00df kn) (good_ws ws_good (fun _ h => h) kw26) (by decide) (by decide) kw1470 kw1468 kw1469 kw1449 (by decide) kw13 ⟨by decide +kernel, by decide +kernel, by decide +kernel⟩ rfl dJ4_setLength_d00df_2) (all_c (ok_vret dJ4_setLength_d00df_5) all_n)))) 1000000 (fun h => by first | rfl | cases h)
theorem dJ6_bitCount_0f7a4_0 : decode cJ6_bitCount_0f7a4 0 = .ok (.iload_n 0, 1) := by decide +kernel
theorem dJ6_bitCount_0f7a4_1 : decode cJ6_bitCount_0f7a4 1 = .ok (.iload_n 0, 1) := by decide +kernel
theorem dJ6_bitCount_0f7a4_2 : decode cJ6_bitCount_0f7a4 2 = .ok (.iconst 1, 1) := by decide +kernel
theorem dJ6_bitCount_0f7a4_3 : decode cJ6_bitCount_0f7a4 3 = .ok (.iushr, 1) := by decide +kernel
theorem dJ6_bitCount_0f7a4_4 : decode cJ6_bitCount_0f7a4 4 = .ok (.ldc_w 265, 3) := by decide +kernel
theorem dJ6_bitCount_0f7a4_7 : decode cJ6_bitCount_0f7a4 7 = .ok (.iand, 1) := by decide +kernel
theorem dJ6_bitCount_0f7a4_8 : decode cJ6_bitCount_0f7a4 8 = .ok (.isub, 1) := by decide +kernel
theorem dJ6_bitCount_0f7a4_9 : decode cJ6_bitCount_0f7a4 9 = .ok (.istore_n 0, 1) := by decide +kernel
theorem dJ6_bitCount_0f7a4_10 : decode cJ6_bitCount_0f7a4 10 = .ok (.iload_n 0, 1) := by decide +kernel
theorem dJ6_bitCount_0f7a4_11 : decode cJ6_bitCount_0f7a4 11 = .ok (.ldc_w 266, 3) := by decide +kernel
theorem dJ6_bitCount_0f7a4_14 : decode cJ6_bitCount_0f7a4 14 = .ok (.iand, 1) := by decide +kernel
theorem dJ6_bitCount_0f7a4_15 : decode cJ6_bitCount_0f7a4 15 = .ok (.iload_n 0, 1) := by decide +kernel
theorem dJ6_bitCount_0f7a4_16 : decode cJ6_bitCount_0f7a4 16 = .ok (.iconst 2, 1) := by decide +kernel
theorem dJ6_bitCount_0f7a4_17 : decode cJ6_bitCount_0f7a4 17 = .ok (.iushr, 1) := by decide +kernel
theorem dJ6_bitCount_0f7a4_18 : decode cJ6_bitCount_0f7a4 18 = .ok (.ldc_w 266, 3) := by decide +kernel
theorem dJ6_bitCount_0f7a4_21 : decode cJ6_bitCount_0f7a4 21 = .ok (.iand, 1) := by decide +kernel
theorem dJ6_bitCount_0f7a4_22 : decode cJ6_bitCount_0f7a4 22 = .ok (.iadd, 1) := by decide +kernel
theorem dJ6_bitCount_0f7a4_23 : decode cJ6_bitCount_0f7a4 23 = .ok (.istore_n 0, 1) := by decide +kernel
theorem dJ6_bitCount_0f7a4_24 : decode cJ6_bitCount_0f7a4 24 = .ok (.iload_n 0, 1) := by decide +kernel
theorem dJ6_bitCount_0f7a4_25 : decode cJ6_bitCount_0f7a4 25 = .ok (.iload_n 0, 1) := by decide +kernel
theorem dJ6_bitCount_0f7a4_26 : decode cJ6_bitCount_0f7a4 26 = .ok (.iconst 4, 1) := by decide +kernel
theorem dJ6_bitCount_0f7a4_27 : decode cJ6_bitCount_0f7a4 27 = .ok (.iushr, 1) := by decide +kernel
theorem dJ6_bitCount_0f7a4_28 : decode cJ6_bitCount_0f7a4 28 = .ok (.iadd, 1) := by decide +kernel
theorem dJ6_bitCount_0f7a4_29 : decode cJ6_bitCount_0f7a4 29 = .ok (.ldc_w 267, 3) := by decide +kernel
theorem dJ6_bitCount_0f7a4_32 : decode cJ6_bitCount_0f7a4 32 = .ok (.iand, 1) := by decide +kernel
theorem dJ6_bitCount_0f7a4_33 : decode cJ6_bitCount_0f7a4 33 = .ok (.istore_n 0, 1) := by decide +kernel
theorem dJ6_bitCount_0f7a4_34 : decode cJ6_bitCount_0f7a4 34 = .ok (.iload_n 0, 1) := by decide +kernel
theorem dJ6_bitCount_0f7a4_35 : decode cJ6_bitCount_0f7a4 35 = .ok (.iload_n 0, 1) := by decide +kernel
theorem dJ6_bitCount_0f7a4_36 : decode cJ6_bitCount_0f7a4 36 = .ok (.bipush 8, 2) := by decide +kernel
theorem dJ6_bitCount_0f7a4_38 : decode cJ6_bitCount_0f7a4 38 = .ok (.iushr, 1) := by decide +kernel
theorem dJ6_bitCount_0f7a4_39 : decode cJ6_bitCount_0f7a4 39 = .ok (.iadd, 1) := by decide +kernel
theorem dJ6_bitCount_0f7a4_40 : decode cJ6_bitCount_0f7a4 40 = .ok (.istore_n 0, 1) := by decide +kernel
theorem dJ6_bitCount_0f7a4_41 : decode cJ6_bitCount_0f7a4 41 = .ok (.iload_n 0, 1) := by decide +kernel
theorem dJ6_bitCount_0f7a4_42 : decode cJ6_bitCount_0f7a4 42 = .ok (.iload_n 0, 1) := by decide +kernel
theorem dJ6_bitCount_0f7a4_43 : decode cJ6_bitCount_0f7a4 43 = .ok (.bipush 16, 2) := by decide +kernel
theorem dJ6_bitCount_0f7a4_45 : decode cJ6_bitCount_0f7a4 45 = .ok (.iushr, 1) := by decide +kernel
theorem dJ6_bitCount_0f7a4_46 : decode cJ6_bitCount_0f7a4 46 = .ok (.iadd, 1) := by decide +kernel
theorem dJ6_bitCount_0f7a4_47 : decode cJ6_bitCount_0f7a4 47 = .ok (.istore_n 0, 1) := by decide +kernel
theorem dJ6_bitCount_0f7a4_48 : decode cJ6_bitCount_0f7a4 48 = .ok (.iload_n 0, 1) := by decide +kernel
theorem dJ6_bitCount_0f7a4_49 : decode cJ6_bitCount_0f7a4 49 = .ok (.bipush 63, 2) := by decide +kernel
theorem dJ6_bitCount_0f7a4_51 : decode cJ6_bitCount_0f7a4 51 = .ok (.iand, 1) := by decide +kernel
theorem dJ6_bitCount_0f7a4_52 : decode cJ6_bitCount_0f7a4 52 = .ok (.ireturn, 1) := by decide +kernel
def tJ6_bitCount_0f7a4 (kn : sKn) : List (Nat × sA) := [(0, a_iload 0 1), (1, a_iload 0 2), (2, a_stk (q_int 1) 3), (3, a_stk q_iushr 4), (4, a_stk (q_int (1431655765)) 7), (7, a_stk q_iand 8), (8, a_stk q_isub 9), (9, a_istore 0 10), (10, a_iload 0 11), (11, a_stk (q_int (858993459)) 14), (14, a_stk q_iand 15), (15, a_iload 0 16), (16, a_stk (q_int 2) 17), (17, a_stk q_iushr 18), (18, a_stk (q_int (858993459)) 21), (21, a_stk q_iand 22), (22, a_stk q_iadd 23), (23, a_istore 0 24), (24, a_iload 0 25), (25, a_iload 0 26), (26, a_stk (q_int 4) 27), (27, a_stk q_iushr 28), (28, a_stk q_iadd 29), (29, a_stk (q_int (252645135)) 32), (32, a_stk q_iand 33), (33, a_istore 0 34), (34, a_iload 0 35), (35, a_iload 0 36), (36, a_stk (q_int 8) 38), (38, a_stk q_iushr 39), (39, a_stk q_iadd 40), (40, a_istore 0 41), (41, a_iload 0 42), (42, a_iload 0 43), (43, a_stk (q_int 16) 45), (45, a_stk q_iushr 46), (46, a_stk q_iadd 47), (47, a_istore 0 48), (48, a_iload 0 49), (49, a_stk (q_int 63) 51), (51, a_stk q_iand 52), (52, a_iret)]
def fJ6_bitCount_0f7a4 (kn : sKn) : List Value → sW → Option sR := mF (tJ6_bitCount_0f7a4 kn) 1 1000000
set_option maxRecDepth 100000 in
set_option maxHeartbeats 4000000 in
theorem mJ6_bitCount_0f7a4 (kn : sKn) : mM kn yJ6_bitCount_0f7a4 (Cond.code yJ6_bitCount_0f7a4 cJ6_bitCount_0f7a4 1 (some .int) :: wsL_law) 1 false (fJ6_bitCount_0f7a4 kn) := mM_of (own := RJ6) (ini := false) rfl (by decide +kernel) (by decide +kernel) (all_c (ok_iload_n dJ6_bitCount_0f7a4_0 rfl) (all_c (ok_iload_n dJ6_bitCount_0f7a4_1 rfl) (all_c (ok_stk (s_iconst dJ6_bitCount_0f7a4_2 (by decide))) (all_c (ok_stk (s_iushr dJ6_bitCount_0f7a4_3)) (all_c (ok_ldcw kw27 dJ6_bitCount_0f7a4_4) (all_c (ok_stk (s_iand dJ6_bitCount_0f7a4_7)) (all_c (ok_stk (s_isub dJ6_bitCount_0f7a4_8)) (all_c (ok_istore_n dJ6_bitCount_0f7a4_9 rfl (by decide)) (all_c (ok_iload_n dJ6_bitCount_0f7a4_10 rfl) (all_c (ok_ldcw kw28 dJ6_bitCount_0f7a4_11) (all_c (ok_stk (s_iand dJ6_bitCount_0f7a4_14)) (all_c (ok_iload_n dJ6_bitCount_0f7a4_15 rfl) (all_c (ok_stk (s_iconst dJ6_bitCount_0f7a4_16 (by decide))) (all_c (ok_stk (s_iushr dJ6_bitCount_0f7a4_17)) (all_c (ok_ldcw kw28 dJ6_bitCount_0f7a4_18) (all_c (ok_stk (s_iand dJ6_bitCount_0f7a4_21)) (all_c (ok_stk (s_iadd dJ6_bitCount_0f7a4_22)) (all_c (ok_istore_n dJ6_bitCount_0f7a4_23 rfl (by decide)) (all_c (ok_iload_n dJ6_bitCount_0f7a4_24 rfl) (all_c (ok_iload_n dJ6_bitCount_0f7a4_25 rfl) (all_c (ok_stk (s_iconst dJ6_bitCount_0f7a4_26 (by decide))) (all_c (ok_stk (s_iushr dJ6_bitCount_0f7a4_27)) (all_c (ok_stk (s_iadd dJ6_bitCount_0f7a4_28)) (all_c (ok_ldcw kw29 dJ6_bitCount_0f7a4_29) (all_c (ok_stk (s_iand dJ6_bitCount_0f7a4_32)) (all_c (ok_istore_n dJ6_bitCount_0f7a4_33 rfl (by decide)) (all_c (ok_iload_n dJ6_bitCount_0f7a4_34 rfl) (all_c (ok_iload_n dJ6_bitCount_0f7a4_35 rfl) (all_c (ok_stk (s_bipush dJ6_bitCount_0f7a4_36 (by decide))) (all_c (ok_stk (s_iushr dJ6_bitCount_0f7a4_38)) (all_c (ok_stk (s_iadd dJ6_bitCount_0f7a4_39)) (all_c (ok_istore_n dJ6_bitCount_0f7a4_40 rfl (by decide)) (all_c (ok_iload_n dJ6_bitCount_0f7a4_41 rfl) (all_c (ok_iload_n dJ6_bitCount_0f7a4_42 rfl) (all_c (ok_stk (s_bipush dJ6_bitCount_0f7a4_43 (by decide))) (all_c (ok_stk (s_iushr dJ6_bitCount_0f7a4_45)) (all_c (ok_stk (s_iadd dJ6_bitCount_0f7a4_46)) (all_c (ok_istore_n dJ6_bitCount_0f7a4_47 rfl (by decide)) (all_c (ok_iload_n dJ6_bitCount_0f7a4_48 rfl) (all_c (ok_stk (s_bipush dJ6_bitCount_0f7a4_49 (by decide))) (all_c (ok_stk (s_iand dJ6_bitCount_0f7a4_51)) (all_c (ok_iret dJ6_bitCount_0f7a4_52) all_n)))))))))))))))))))))))))))))))))))))))))) 1000000 (fun h => by first | rfl | cases h)
theorem dJ7_fill_53178_0 : decode cJ7_fill_53178 0 = .ok (.iconst 0, 1) := by decide +kernel
theorem dJ7_fill_53178_1 : decode cJ7_fill_53178 1 = .ok (.istore_n 2, 1) := by decide +kernel
theorem dJ7_fill_53178_2 : decode cJ7_fill_53178 2 = .ok (.aload_n 0, 1) := by decide +kernel
theorem dJ7_fill_53178_3 : decode cJ7_fill_53178 3 = .ok (.arraylength, 1) := by decide +kernel
theorem dJ7_fill_53178_4 : decode cJ7_fill_53178 4 = .ok (.istore_n 3, 1) := by decide +kernel
theorem dJ7_fill_53178_5 : decode cJ7_fill_53178 5 = .ok (.iload_n 2, 1) := by decide +kernel
theorem dJ7_fill_53178_6 : decode cJ7_fill_53178 6 = .ok (.iload_n 3, 1) := by decide +kernel
theorem dJ7_fill_53178_7 : decode cJ7_fill_53178 7 = .ok (.if_icmp .ge 13, 3) := by decide +kernel
theorem dJ7_fill_53178_10 : decode cJ7_fill_53178 10 = .ok (.aload_n 0, 1) := by decide +kernel
theorem dJ7_fill_53178_11 : decode cJ7_fill_53178 11 = .ok (.iload_n 2, 1) := by decide +kernel
theorem dJ7_fill_53178_12 : decode cJ7_fill_53178 12 = .ok (.iload_n 1, 1) := by decide +kernel
theorem dJ7_fill_53178_13 : decode cJ7_fill_53178 13 = .ok (.iastore, 1) := by decide +kernel
theorem dJ7_fill_53178_14 : decode cJ7_fill_53178 14 = .ok (.iinc 2 1, 3) := by decide +kernel
theorem dJ7_fill_53178_17 : decode cJ7_fill_53178 17 = .ok (.goto (-12), 3) := by decide +kernel
theorem dJ7_fill_53178_20 : decode cJ7_fill_53178 20 = .ok (.return_, 1) := by decide +kernel
def tJ7_fill_53178 (kn : sKn) : List (Nat × sA) := [(0, a_stk (q_int 0) 1), (1, a_istore 2 2), (2, a_aload 0 3), (3, a_alen 4), (4, a_istore 3 5), (5, a_iload 2 6), (6, a_iload 3 7), (7, a_icmp kn b_ge 3 20 10), (10, a_aload 0 11), (11, a_iload 2 12), (12, a_iload 1 13), (13, a_iast 14), (14, a_iinc 2 1 17), (17, a_goto 5), (20, a_vret)]
def fJ7_fill_53178 (kn : sKn) : List Value → sW → Option sR := mF (tJ7_fill_53178 kn) 4 1000000
set_option maxRecDepth 100000 in
set_option maxHeartbeats 4000000 in
theorem mJ7_fill_53178 (kn : sKn) : mM kn yJ7_fill_53178 (Cond.code yJ7_fill_53178 cJ7_fill_53178 4 none :: wsL_law) 1 true (fJ7_fill_53178 kn) := mM_of (own := RJ7) (ini := false) rfl (by decide +kernel) (by decide +kernel) (all_c (ok_stk (s_iconst dJ7_fill_53178_0 (by decide))) (all_c (ok_istore_n dJ7_fill_53178_1 rfl (by decide)) (all_c (ok_aload_n dJ7_fill_53178_2 rfl) (all_c (ok_alen dJ7_fill_53178_3) (all_c (ok_istore_n dJ7_fill_53178_4 rfl (by decide)) (all_c (ok_iload_n dJ7_fill_53178_5 rfl) (all_c (ok_iload_n dJ7_fill_53178_6 rfl) (all_c (ok_icmp_ge dJ7_fill_53178_7 (by decide)) (all_c (ok_aload_n dJ7_fill_53178_10 rfl) (all_c (ok_iload_n dJ7_fill_53178_11 rfl) (all_c (ok_iload_n dJ7_fill_53178_12 rfl) (all_c (ok_iast dJ7_fill_53178_13) (all_c (ok_iinc dJ7_fill_53178_14 (by decide) (by decide)) (all_c (ok_goto dJ7_fill_53178_17 (by decide)) (all_c (ok_vret dJ7_fill_53178_20) all_n))))))))))))))) 1000000 (fun h => by first | rfl | cases h)
theorem dX8_init_0 : decode cX8_init 0 = .ok (.aload_n 0, 1) := by decide +kernel
theorem dX8_init_1 : decode cX8_init 1 = .ok (.invokespecial 3, 3) := by decide +kernel
theorem dX8_init_4 : decode cX8_init 4 = .ok (.aload_n 0, 1) := by decide +kernel
theorem dX8_init_5 : decode cX8_init 5 = .ok (.bipush 10, 2) := by decide +kernel
theorem dX8_init_7 : decode cX8_init 7 = .ok (.newarray .int, 2) := by decide +kernel
theorem dX8_init_9 : decode cX8_init 9 = .ok (.putfield 9, 3) := by decide +kernel
theorem dX8_init_12 : decode cX8_init 12 = .ok (.aload_n 0, 1) := by decide +kernel
theorem dX8_init_13 : decode cX8_init 13 = .ok (.bipush 10, 2) := by decide +kernel
theorem dX8_init_15 : decode cX8_init 15 = .ok (.newarray .int, 2) := by decide +kernel
theorem dX8_init_17 : decode cX8_init 17 = .ok (.putfield 15, 3) := by decide +kernel
theorem dX8_init_20 : decode cX8_init 20 = .ok (.aload_n 0, 1) := by decide +kernel
theorem dX8_init_21 : decode cX8_init 21 = .ok (.bipush 10, 2) := by decide +kernel
theorem dX8_init_23 : decode cX8_init 23 = .ok (.newarray .int, 2) := by decide +kernel
theorem dX8_init_25 : decode cX8_init 25 = .ok (.putfield 18, 3) := by decide +kernel
theorem dX8_init_28 : decode cX8_init 28 = .ok (.aload_n 0, 1) := by decide +kernel
theorem dX8_init_29 : decode cX8_init 29 = .ok (.bipush 36, 2) := by decide +kernel
theorem dX8_init_31 : decode cX8_init 31 = .ok (.newarray .int, 2) := by decide +kernel
theorem dX8_init_33 : decode cX8_init 33 = .ok (.putfield 21, 3) := by decide +kernel
theorem dX8_init_36 : decode cX8_init 36 = .ok (.aload_n 0, 1) := by decide +kernel
theorem dX8_init_37 : decode cX8_init 37 = .ok (.bipush 36, 2) := by decide +kernel
theorem dX8_init_39 : decode cX8_init 39 = .ok (.newarray .int, 2) := by decide +kernel
theorem dX8_init_41 : decode cX8_init 41 = .ok (.putfield 24, 3) := by decide +kernel
theorem dX8_init_44 : decode cX8_init 44 = .ok (.aload_n 0, 1) := by decide +kernel
theorem dX8_init_45 : decode cX8_init 45 = .ok (.bipush 6, 2) := by decide +kernel
theorem dX8_init_47 : decode cX8_init 47 = .ok (.newarray .int, 2) := by decide +kernel
theorem dX8_init_49 : decode cX8_init 49 = .ok (.putfield 27, 3) := by decide +kernel
theorem dX8_init_52 : decode cX8_init 52 = .ok (.aload_n 0, 1) := by decide +kernel
theorem dX8_init_53 : decode cX8_init 53 = .ok (.getfield 15, 3) := by decide +kernel
theorem dX8_init_56 : decode cX8_init 56 = .ok (.iconst (-1), 1) := by decide +kernel
theorem dX8_init_57 : decode cX8_init 57 = .ok (.invokestatic 30, 3) := by decide +kernel
theorem dX8_init_60 : decode cX8_init 60 = .ok (.aload_n 0, 1) := by decide +kernel
theorem dX8_init_61 : decode cX8_init 61 = .ok (.getfield 21, 3) := by decide +kernel
theorem dX8_init_64 : decode cX8_init 64 = .ok (.iconst (-1), 1) := by decide +kernel
theorem dX8_init_65 : decode cX8_init 65 = .ok (.invokestatic 30, 3) := by decide +kernel
theorem dX8_init_68 : decode cX8_init 68 = .ok (.return_, 1) := by decide +kernel
theorem okc_J7_fill_53178 {kn : sKn} {cc : ByteArray} {own : String} {nL : Nat} {D : Nat} {ret : Option FieldType} {ini : Bool} {pc index : Nat} (hD : 1 + 1 ≤ D) (hl : Cond.methodLink own index yJ7_fill_53178 ∈ wsL_law) (hd : decode cc pc = .ok (.invokestatic index, 3)) : mOk kn cc own nL wsL_law D ret ini pc (a_callS true (fJ7_fill_53178 kn) 2 (pc + 3)) := ok_callS (mJ7_fill_53178 kn) (good_ws ws_good (fun _ h => h) kw38) hD (by decide) hl kw40 kw39 ⟨by decide +kernel, by decide +kernel, by decide +kernel⟩ hd
def tX8_init (kn : sKn) : List (Nat × sA) := [(0, a_aload 0 1), (1, a_obj 4), (4, a_aload 0 5), (5, a_stk (q_int 10) 7), (7, a_newa 1 9), (9, a_put 9 3 ckR 12), (12, a_aload 0 13), (13, a_stk (q_int 10) 15), (15, a_newa 1 17), (17, a_put 9 4 ckR 20), (20, a_aload 0 21), (21, a_stk (q_int 10) 23), (23, a_newa 1 25), (25, a_put 9 5 ckR 28), (28, a_aload 0 29), (29, a_stk (q_int 36) 31), (31, a_newa 1 33), (33, a_put 9 6 ckR 36), (36, a_aload 0 37), (37, a_stk (q_int 36) 39), (39, a_newa 1 41), (41, a_put 9 7 ckR 44), (44, a_aload 0 45), (45, a_stk (q_int 6) 47), (47, a_newa 1 49), (49, a_put 9 8 ckR 52), (52, a_aload 0 53), (53, a_get 9 4 56), (56, a_stk (q_int (-1)) 57), (57, a_callS true (fJ7_fill_53178 kn) 2 60), (60, a_aload 0 61), (61, a_get 9 6 64), (64, a_stk (q_int (-1)) 65), (65, a_callS true (fJ7_fill_53178 kn) 2 68), (68, a_vret)]
def fX8_init (kn : sKn) : List Value → sW → Option sR := mF (tX8_init kn) 1 1000000
set_option maxRecDepth 100000 in
set_option maxHeartbeats 4000000 in
theorem mX8_init (kn : sKn) : mM kn yX8_init (Cond.code yX8_init cX8_init 1 none :: wsL_law) 2 true (fX8_init kn) := mM_of (own := RX8) (ini := true) rfl (by decide +kernel) (by decide +kernel) (all_c (ok_aload_n dX8_init_0 rfl) (all_c (ok_obj (by decide) kw30 kw2 kw3 dX8_init_1) (all_c (ok_aload_n dX8_init_4 rfl) (all_c (ok_stk (s_bipush dX8_init_5 (by decide))) (all_c (ok_newI kw31 dX8_init_7) (all_c (okp_X8_3 kw32 dX8_init_9) (all_c (ok_aload_n dX8_init_12 rfl) (all_c (ok_stk (s_bipush dX8_init_13 (by decide))) (all_c (ok_newI kw31 dX8_init_15) (all_c (okp_X8_4 kw33 dX8_init_17) (all_c (ok_aload_n dX8_init_20 rfl) (all_c (ok_stk (s_bipush dX8_init_21 (by decide))) (all_c (ok_newI kw31 dX8_init_23) (all_c (okp_X8_5 kw34 dX8_init_25) (all_c (ok_aload_n dX8_init_28 rfl) (all_c (ok_stk (s_bipush dX8_init_29 (by decide))) (all_c (ok_newI kw31 dX8_init_31) (all_c (okp_X8_6 kw35 dX8_init_33) (all_c (ok_aload_n dX8_init_36 rfl) (all_c (ok_stk (s_bipush dX8_init_37 (by decide))) (all_c (ok_newI kw31 dX8_init_39) (all_c (okp_X8_7 kw36 dX8_init_41) (all_c (ok_aload_n dX8_init_44 rfl) (all_c (ok_stk (s_bipush dX8_init_45 (by decide))) (all_c (ok_newI kw31 dX8_init_47) (all_c (okp_X8_8 kw37 dX8_init_49) (all_c (ok_aload_n dX8_init_52 rfl) (all_c (okg_X8_4 kw33 dX8_init_53) (all_c (ok_stk (s_iconst dX8_init_56 (by decide))) (all_c (okc_J7_fill_53178 (by decide) kw41 dX8_init_57) (all_c (ok_aload_n dX8_init_60 rfl) (all_c (okg_X8_6 kw35 dX8_init_61) (all_c (ok_stk (s_iconst dX8_init_64 (by decide))) (all_c (okc_J7_fill_53178 (by decide) kw41 dX8_init_65) (all_c (ok_vret dX8_init_68) all_n))))))))))))))))))))))))))))))))))) 1000000 (fun h => by first | rfl | cases h)
theorem dX0_init_0 : decode cX0_init 0 = .ok (.aload_n 0, 1) := by decide +kernel
theorem dX0_init_1 : decode cX0_init 1 = .ok (.invokespecial 3, 3) := by decide +kernel
theorem dX0_init_4 : decode cX0_init 4 = .ok (.aload_n 0, 1) := by decide +kernel
theorem dX0_init_5 : decode cX0_init 5 = .ok (.new 9, 3) := by decide +kernel
theorem dX0_init_8 : decode cX0_init 8 = .ok (.dup, 1) := by decide +kernel
theorem dX0_init_9 : decode cX0_init 9 = .ok (.invokespecial 11, 3) := by decide +kernel
theorem dX0_init_12 : decode cX0_init 12 = .ok (.putfield 12, 3) := by decide +kernel
theorem dX0_init_15 : decode cX0_init 15 = .ok (.aload_n 0, 1) := by decide +kernel
theorem dX0_init_16 : decode cX0_init 16 = .ok (.bipush 48, 2) := by decide +kernel
theorem dX0_init_18 : decode cX0_init 18 = .ok (.newarray .int, 2) := by decide +kernel
theorem dX0_init_20 : decode cX0_init 20 = .ok (.putfield 18, 3) := by decide +kernel
theorem dX0_init_23 : decode cX0_init 23 = .ok (.aload_n 0, 1) := by decide +kernel
theorem dX0_init_24 : decode cX0_init 24 = .ok (.bipush 48, 2) := by decide +kernel
theorem dX0_init_26 : decode cX0_init 26 = .ok (.newarray .int, 2) := by decide +kernel
theorem dX0_init_28 : decode cX0_init 28 = .ok (.putfield 22, 3) := by decide +kernel
theorem dX0_init_31 : decode cX0_init 31 = .ok (.aload_n 0, 1) := by decide +kernel
theorem dX0_init_32 : decode cX0_init 32 = .ok (.sipush 144, 3) := by decide +kernel
theorem dX0_init_35 : decode cX0_init 35 = .ok (.newarray .int, 2) := by decide +kernel
theorem dX0_init_37 : decode cX0_init 37 = .ok (.putfield 25, 3) := by decide +kernel
theorem dX0_init_40 : decode cX0_init 40 = .ok (.aload_n 0, 1) := by decide +kernel
theorem dX0_init_41 : decode cX0_init 41 = .ok (.bipush 36, 2) := by decide +kernel
theorem dX0_init_43 : decode cX0_init 43 = .ok (.newarray .int, 2) := by decide +kernel
theorem dX0_init_45 : decode cX0_init 45 = .ok (.putfield 28, 3) := by decide +kernel
theorem dX0_init_48 : decode cX0_init 48 = .ok (.aload_n 0, 1) := by decide +kernel
theorem dX0_init_49 : decode cX0_init 49 = .ok (.getfield 28, 3) := by decide +kernel
theorem dX0_init_52 : decode cX0_init 52 = .ok (.iconst (-1), 1) := by decide +kernel
theorem dX0_init_53 : decode cX0_init 53 = .ok (.invokestatic 31, 3) := by decide +kernel
theorem dX0_init_56 : decode cX0_init 56 = .ok (.return_, 1) := by decide +kernel
theorem okc_X8_init {kn : sKn} {cc : ByteArray} {own : String} {nL : Nat} {D : Nat} {ret : Option FieldType} {ini : Bool} {pc index : Nat} (hD : 2 + 1 ≤ D) (hl : Cond.methodLink own index yX8_init ∈ wsL_law) (hd : decode cc pc = .ok (.invokespecial index, 3)) : mOk kn cc own nL wsL_law D ret ini pc (a_callI true (fX8_init kn) (0 + 1) (pc + 3)) := ok_callI (mX8_init kn) (good_ws ws_good (fun _ h => h) kw44) hD (by decide) hl kw46 rfl kw45 ⟨by decide +kernel, by decide +kernel, by decide +kernel⟩ hd
def tX0_init (kn : sKn) : List (Nat × sA) := [(0, a_aload 0 1), (1, a_obj 4), (4, a_aload 0 5), (5, a_new 9 8 [.int 0, .int 0, .int 0, .null, .null, .null, .null, .null, .null]), (8, a_stk q_dup 9), (9, a_callI true (fX8_init kn) 1 12), (12, a_put 1 0 ckR 15), (15, a_aload 0 16), (16, a_stk (q_int 48) 18), (18, a_newa 1 20), (20, a_put 1 1 ckR 23), (23, a_aload 0 24), (24, a_stk (q_int 48) 26), (26, a_newa 1 28), (28, a_put 1 2 ckR 31), (31, a_aload 0 32), (32, a_stk (q_int 144) 35), (35, a_newa 1 37), (37, a_put 1 3 ckR 40), (40, a_aload 0 41), (41, a_stk (q_int 36) 43), (43, a_newa 1 45), (45, a_put 1 4 ckR 48), (48, a_aload 0 49), (49, a_get 1 4 52), (52, a_stk (q_int (-1)) 53), (53, a_callS true (fJ7_fill_53178 kn) 2 56), (56, a_vret)]
def fX0_init (kn : sKn) : List Value → sW → Option sR := mF (tX0_init kn) 1 1000000
set_option maxRecDepth 100000 in
set_option maxHeartbeats 4000000 in
theorem mX0_init (kn : sKn) : mM kn yX0_init (Cond.code yX0_init cX0_init 1 none :: wsL_law) 3 true (fX0_init kn) := mM_of (own := RX0) (ini := true) rfl (by decide +kernel) (by decide +kernel) (all_c (ok_aload_n dX0_init_0 rfl) (all_c (ok_obj (by decide) kw42 kw2 kw3 dX0_init_1) (all_c (ok_aload_n dX0_init_4 rfl) (all_c (okn_X8 kw43 dX0_init_5) (all_c (ok_stk (s_dup dX0_init_8)) (all_c (okc_X8_init (by decide) kw47 dX0_init_9) (all_c (okp_X0_0 kw48 dX0_init_12) (all_c (ok_aload_n dX0_init_15 rfl) (all_c (ok_stk (s_bipush dX0_init_16 (by decide))) (all_c (ok_newI kw31 dX0_init_18) (all_c (okp_X0_1 kw49 dX0_init_20) (all_c (ok_aload_n dX0_init_23 rfl) (all_c (ok_stk (s_bipush dX0_init_24 (by decide))) (all_c (ok_newI kw31 dX0_init_26) (all_c (okp_X0_2 kw50 dX0_init_28) (all_c (ok_aload_n dX0_init_31 rfl) (all_c (ok_stk (s_sipush dX0_init_32 (by decide))) (all_c (ok_newI kw31 dX0_init_35) (all_c (okp_X0_3 kw51 dX0_init_37) (all_c (ok_aload_n dX0_init_40 rfl) (all_c (ok_stk (s_bipush dX0_init_41 (by decide))) (all_c (ok_newI kw31 dX0_init_43) (all_c (okp_X0_4 kw52 dX0_init_45) (all_c (ok_aload_n dX0_init_48 rfl) (all_c (okg_X0_4 kw52 dX0_init_49) (all_c (ok_stk (s_iconst dX0_init_52 (by decide))) (all_c (okc_J7_fill_53178 (by decide) kw53 dX0_init_53) (all_c (ok_vret dX0_init_56) all_n)))))))))))))))))))))))))))) 1000000 (fun h => by first | rfl | cases h)
theorem dX10_bearing_0 : decode cX10_bearing 0 = .ok (.aload_n 1, 1) := by decide +kernel
theorem dX10_bearing_1 : decode cX10_bearing 1 = .ok (.getfield 24, 3) := by decide +kernel
theorem dX10_bearing_4 : decode cX10_bearing 4 = .ok (.iload_n 3, 1) := by decide +kernel
theorem dX10_bearing_5 : decode cX10_bearing 5 = .ok (.iaload, 1) := by decide +kernel
theorem dX10_bearing_6 : decode cX10_bearing 6 = .ok (.istore 4, 2) := by decide +kernel
theorem dX10_bearing_8 : decode cX10_bearing 8 = .ok (.iload 4, 2) := by decide +kernel
theorem dX10_bearing_10 : decode cX10_bearing 10 = .ok (.iconst (-1), 1) := by decide +kernel
theorem dX10_bearing_11 : decode cX10_bearing 11 = .ok (.if_icmp .ne 5, 3) := by decide +kernel
theorem dX10_bearing_14 : decode cX10_bearing 14 = .ok (.iconst (-1), 1) := by decide +kernel
theorem dX10_bearing_15 : decode cX10_bearing 15 = .ok (.ireturn, 1) := by decide +kernel
theorem dX10_bearing_16 : decode cX10_bearing 16 = .ok (.iload_n 2, 1) := by decide +kernel
theorem dX10_bearing_17 : decode cX10_bearing 17 = .ok (.iload 4, 2) := by decide +kernel
theorem dX10_bearing_19 : decode cX10_bearing 19 = .ok (.ishr, 1) := by decide +kernel
theorem dX10_bearing_20 : decode cX10_bearing 20 = .ok (.iconst 1, 1) := by decide +kernel
theorem dX10_bearing_21 : decode cX10_bearing 21 = .ok (.iand, 1) := by decide +kernel
theorem dX10_bearing_22 : decode cX10_bearing 22 = .ok (.ifCond .eq 5, 3) := by decide +kernel
theorem dX10_bearing_25 : decode cX10_bearing 25 = .ok (.iconst 0, 1) := by decide +kernel
theorem dX10_bearing_26 : decode cX10_bearing 26 = .ok (.ireturn, 1) := by decide +kernel
theorem dX10_bearing_27 : decode cX10_bearing 27 = .ok (.iload_n 3, 1) := by decide +kernel
theorem dX10_bearing_28 : decode cX10_bearing 28 = .ok (.iconst 3, 1) := by decide +kernel
theorem dX10_bearing_29 : decode cX10_bearing 29 = .ok (.irem, 1) := by decide +kernel
theorem dX10_bearing_30 : decode cX10_bearing 30 = .ok (.istore 5, 2) := by decide +kernel
theorem dX10_bearing_32 : decode cX10_bearing 32 = .ok (.bipush 10, 2) := by decide +kernel
theorem dX10_bearing_34 : decode cX10_bearing 34 = .ok (.aload_n 1, 1) := by decide +kernel
theorem dX10_bearing_35 : decode cX10_bearing 35 = .ok (.getfield 29, 3) := by decide +kernel
theorem dX10_bearing_38 : decode cX10_bearing 38 = .ok (.iload 4, 2) := by decide +kernel
theorem dX10_bearing_40 : decode cX10_bearing 40 = .ok (.iaload, 1) := by decide +kernel
theorem dX10_bearing_41 : decode cX10_bearing 41 = .ok (.imul, 1) := by decide +kernel
theorem dX10_bearing_42 : decode cX10_bearing 42 = .ok (.iconst 5, 1) := by decide +kernel
theorem dX10_bearing_43 : decode cX10_bearing 43 = .ok (.aload_n 1, 1) := by decide +kernel
theorem dX10_bearing_44 : decode cX10_bearing 44 = .ok (.getfield 32, 3) := by decide +kernel
theorem dX10_bearing_47 : decode cX10_bearing 47 = .ok (.iload_n 3, 1) := by decide +kernel
theorem dX10_bearing_48 : decode cX10_bearing 48 = .ok (.iaload, 1) := by decide +kernel
theorem dX10_bearing_49 : decode cX10_bearing 49 = .ok (.imul, 1) := by decide +kernel
theorem dX10_bearing_50 : decode cX10_bearing 50 = .ok (.isub, 1) := by decide +kernel
theorem dX10_bearing_51 : decode cX10_bearing 51 = .ok (.istore 6, 2) := by decide +kernel
theorem dX10_bearing_53 : decode cX10_bearing 53 = .ok (.iload 5, 2) := by decide +kernel
theorem dX10_bearing_55 : decode cX10_bearing 55 = .ok (.ifCond .le 23, 3) := by decide +kernel
theorem dX10_bearing_58 : decode cX10_bearing 58 = .ok (.aload_n 0, 1) := by decide +kernel
theorem dX10_bearing_59 : decode cX10_bearing 59 = .ok (.iload 4, 2) := by decide +kernel
theorem dX10_bearing_61 : decode cX10_bearing 61 = .ok (.aload_n 1, 1) := by decide +kernel
theorem dX10_bearing_62 : decode cX10_bearing 62 = .ok (.getfield 24, 3) := by decide +kernel
theorem dX10_bearing_65 : decode cX10_bearing 65 = .ok (.iload_n 3, 1) := by decide +kernel
theorem dX10_bearing_66 : decode cX10_bearing 66 = .ok (.iconst 1, 1) := by decide +kernel
theorem dX10_bearing_67 : decode cX10_bearing 67 = .ok (.isub, 1) := by decide +kernel
theorem dX10_bearing_68 : decode cX10_bearing 68 = .ok (.iaload, 1) := by decide +kernel
theorem dX10_bearing_69 : decode cX10_bearing 69 = .ok (.invokevirtual 35, 3) := by decide +kernel
theorem dX10_bearing_72 : decode cX10_bearing 72 = .ok (.ifCond .eq 6, 3) := by decide +kernel
theorem dX10_bearing_75 : decode cX10_bearing 75 = .ok (.iinc 6 5, 3) := by decide +kernel
theorem dX10_bearing_78 : decode cX10_bearing 78 = .ok (.iload 5, 2) := by decide +kernel
theorem dX10_bearing_80 : decode cX10_bearing 80 = .ok (.iconst 2, 1) := by decide +kernel
theorem dX10_bearing_81 : decode cX10_bearing 81 = .ok (.if_icmp .ge 23, 3) := by decide +kernel
theorem dX10_bearing_84 : decode cX10_bearing 84 = .ok (.aload_n 0, 1) := by decide +kernel
theorem dX10_bearing_85 : decode cX10_bearing 85 = .ok (.iload 4, 2) := by decide +kernel
theorem dX10_bearing_87 : decode cX10_bearing 87 = .ok (.aload_n 1, 1) := by decide +kernel
theorem dX10_bearing_88 : decode cX10_bearing 88 = .ok (.getfield 24, 3) := by decide +kernel
theorem dX10_bearing_91 : decode cX10_bearing 91 = .ok (.iload_n 3, 1) := by decide +kernel
theorem dX10_bearing_92 : decode cX10_bearing 92 = .ok (.iconst 1, 1) := by decide +kernel
theorem dX10_bearing_93 : decode cX10_bearing 93 = .ok (.iadd, 1) := by decide +kernel
theorem dX10_bearing_94 : decode cX10_bearing 94 = .ok (.iaload, 1) := by decide +kernel
theorem dX10_bearing_95 : decode cX10_bearing 95 = .ok (.invokevirtual 35, 3) := by decide +kernel
theorem dX10_bearing_98 : decode cX10_bearing 98 = .ok (.ifCond .eq 6, 3) := by decide +kernel
theorem dX10_bearing_101 : decode cX10_bearing 101 = .ok (.iinc 6 5, 3) := by decide +kernel
theorem dX10_bearing_104 : decode cX10_bearing 104 = .ok (.iconst 0, 1) := by decide +kernel
theorem dX10_bearing_105 : decode cX10_bearing 105 = .ok (.iload 6, 2) := by decide +kernel
theorem dX10_bearing_107 : decode cX10_bearing 107 = .ok (.invokestatic 41, 3) := by decide +kernel
theorem dX10_bearing_110 : decode cX10_bearing 110 = .ok (.ireturn, 1) := by decide +kernel
theorem okc0_X6_areLovers {kn : sKn} {cc : ByteArray} {own : String} {nL : Nat} {D : Nat} {ret : Option FieldType} {ini : Bool} {pc index : Nat} (hD : 0 + 1 ≤ D) (hl : Cond.methodLink own index yX6_areLovers ∈ wsL_law) (hd : decode cc pc = .ok (.invokevirtual index, 3)) : mOk kn cc own nL wsL_law D ret ini pc (a_callV false f_none 7 (2 + 1) (pc + 3)) := ok_callV (m_none (D := 0)) (good_ws ws_good (fun _ h => h) kw57) hD (by decide) hl kw59 kw60 kw58 ⟨by decide +kernel, by decide +kernel, by decide +kernel⟩ rfl hd
def tX10_bearing (kn : sKn) : List (Nat × sA) := [(0, a_aload 1 1), (1, a_get 9 6 4), (4, a_iload 3 5), (5, a_iald 6), (6, a_istore 4 8), (8, a_iload 4 10), (10, a_stk (q_int (-1)) 11), (11, a_icmp kn b_ne 1 16 14), (14, a_stk (q_int (-1)) 15), (15, a_iret), (16, a_iload 2 17), (17, a_iload 4 19), (19, a_stk q_ishr 20), (20, a_stk (q_int 1) 21), (21, a_stk q_iand 22), (22, a_if kn b_eq 0 27 25), (25, a_stk (q_int 0) 26), (26, a_iret), (27, a_iload 3 28), (28, a_stk (q_int 3) 29), (29, a_stk q_irem 30), (30, a_istore 5 32), (32, a_stk (q_int 10) 34), (34, a_aload 1 35), (35, a_get 9 3 38), (38, a_iload 4 40), (40, a_iald 41), (41, a_stk q_imul 42), (42, a_stk (q_int 5) 43), (43, a_aload 1 44), (44, a_get 9 7 47), (47, a_iload 3 48), (48, a_iald 49), (49, a_stk q_imul 50), (50, a_stk q_isub 51), (51, a_istore 6 53), (53, a_iload 5 55), (55, a_if kn b_le 5 78 58), (58, a_aload 0 59), (59, a_iload 4 61), (61, a_aload 1 62), (62, a_get 9 6 65), (65, a_iload 3 66), (66, a_stk (q_int 1) 67), (67, a_stk q_isub 68), (68, a_iald 69), (69, a_callV false f_none 7 3 72), (72, a_if kn b_eq 0 78 75), (75, a_iinc 6 5 78), (78, a_iload 5 80), (80, a_stk (q_int 2) 81), (81, a_icmp kn b_ge 3 104 84), (84, a_aload 0 85), (85, a_iload 4 87), (87, a_aload 1 88), (88, a_get 9 6 91), (91, a_iload 3 92), (92, a_stk (q_int 1) 93), (93, a_stk q_iadd 94), (94, a_iald 95), (95, a_callV false f_none 7 3 98), (98, a_if kn b_eq 0 104 101), (101, a_iinc 6 5 104), (104, a_stk (q_int 0) 105), (105, a_iload 6 107), (107, a_mmax 110), (110, a_iret)]
def fX10_bearing (kn : sKn) : List Value → sW → Option sR := mF (tX10_bearing kn) 7 1000000
set_option maxRecDepth 100000 in
set_option maxHeartbeats 4000000 in
theorem mX10_bearing (kn : sKn) : mM kn yX10_bearing (Cond.code yX10_bearing cX10_bearing 7 (some .int) :: wsL_law) 1 false (fX10_bearing kn) := mM_of (own := RX10) (ini := false) rfl (by decide +kernel) (by decide +kernel) (all_c (ok_aload_n dX10_bearing_0 rfl) (all_c (okg_X8_6 kw54 dX10_bearing_1) (all_c (ok_iload_n dX10_bearing_4 rfl) (all_c (ok_iald dX10_bearing_5) (all_c (ok_istore dX10_bearing_6 (by decide)) (all_c (ok_iload dX10_bearing_8) (all_c (ok_stk (s_iconst dX10_bearing_10 (by decide))) (all_c (ok_icmp_ne dX10_bearing_11 (by decide)) (all_c (ok_stk (s_iconst dX10_bearing_14 (by decide))) (all_c (ok_iret dX10_bearing_15) (all_c (ok_iload_n dX10_bearing_16 rfl) (all_c (ok_iload dX10_bearing_17) (all_c (ok_stk (s_ishr dX10_bearing_19)) (all_c (ok_stk (s_iconst dX10_bearing_20 (by decide))) (all_c (ok_stk (s_iand dX10_bearing_21)) (all_c (ok_if_eq dX10_bearing_22 (by decide)) (all_c (ok_stk (s_iconst dX10_bearing_25 (by decide))) (all_c (ok_iret dX10_bearing_26) (all_c (ok_iload_n dX10_bearing_27 rfl) (all_c (ok_stk (s_iconst dX10_bearing_28 (by decide))) (all_c (ok_stk (s_irem dX10_bearing_29)) (all_c (ok_istore dX10_bearing_30 (by decide)) (all_c (ok_stk (s_bipush dX10_bearing_32 (by decide))) (all_c (ok_aload_n dX10_bearing_34 rfl) (all_c (okg_X8_3 kw55 dX10_bearing_35) (all_c (ok_iload dX10_bearing_38) (all_c (ok_iald dX10_bearing_40) (all_c (ok_stk (s_imul dX10_bearing_41)) (all_c (ok_stk (s_iconst dX10_bearing_42 (by decide))) (all_c (ok_aload_n dX10_bearing_43 rfl) (all_c (okg_X8_7 kw56 dX10_bearing_44) (all_c (ok_iload_n dX10_bearing_47 rfl) (all_c (ok_iald dX10_bearing_48) (all_c (ok_stk (s_imul dX10_bearing_49)) (all_c (ok_stk (s_isub dX10_bearing_50)) (all_c (ok_istore dX10_bearing_51 (by decide)) (all_c (ok_iload dX10_bearing_53) (all_c (ok_if_le dX10_bearing_55 (by decide)) (all_c (ok_aload_n dX10_bearing_58 rfl) (all_c (ok_iload dX10_bearing_59) (all_c (ok_aload_n dX10_bearing_61 rfl) (all_c (okg_X8_6 kw54 dX10_bearing_62) (all_c (ok_iload_n dX10_bearing_65 rfl) (all_c (ok_stk (s_iconst dX10_bearing_66 (by decide))) (all_c (ok_stk (s_isub dX10_bearing_67)) (all_c (ok_iald dX10_bearing_68) (all_c (okc0_X6_areLovers (by decide) kw61 dX10_bearing_69) (all_c (ok_if_eq dX10_bearing_72 (by decide)) (all_c (ok_iinc dX10_bearing_75 (by decide) (by decide)) (all_c (ok_iload dX10_bearing_78) (all_c (ok_stk (s_iconst dX10_bearing_80 (by decide))) (all_c (ok_icmp_ge dX10_bearing_81 (by decide)) (all_c (ok_aload_n dX10_bearing_84 rfl) (all_c (ok_iload dX10_bearing_85) (all_c (ok_aload_n dX10_bearing_87 rfl) (all_c (okg_X8_6 kw54 dX10_bearing_88) (all_c (ok_iload_n dX10_bearing_91 rfl) (all_c (ok_stk (s_iconst dX10_bearing_92 (by decide))) (all_c (ok_stk (s_iadd dX10_bearing_93)) (all_c (ok_iald dX10_bearing_94) (all_c (okc0_X6_areLovers (by decide) kw61 dX10_bearing_95) (all_c (ok_if_eq dX10_bearing_98 (by decide)) (all_c (ok_iinc dX10_bearing_101 (by decide) (by decide)) (all_c (ok_stk (s_iconst dX10_bearing_104 (by decide))) (all_c (ok_iload dX10_bearing_105) (all_c (ok_mmax (by decide) kw62 kw63 kw64 kw65 dX10_bearing_107) (all_c (ok_iret dX10_bearing_110) all_n))))))))))))))))))))))))))))))))))))))))))))))))))))))))))))))))))) 1000000 (fun h => by first | rfl | cases h)
theorem dX10_weigh_0 : decode cX10_weigh 0 = .ok (.iconst 0, 1) := by decide +kernel
theorem dX10_weigh_1 : decode cX10_weigh 1 = .ok (.istore_n 3, 1) := by decide +kernel
theorem dX10_weigh_2 : decode cX10_weigh 2 = .ok (.iload_n 3, 1) := by decide +kernel
theorem dX10_weigh_3 : decode cX10_weigh 3 = .ok (.iconst 3, 1) := by decide +kernel
theorem dX10_weigh_4 : decode cX10_weigh 4 = .ok (.aload_n 1, 1) := by decide +kernel
theorem dX10_weigh_5 : decode cX10_weigh 5 = .ok (.getfield 51, 3) := by decide +kernel
theorem dX10_weigh_8 : decode cX10_weigh 8 = .ok (.imul, 1) := by decide +kernel
theorem dX10_weigh_9 : decode cX10_weigh 9 = .ok (.if_icmp .ge 25, 3) := by decide +kernel
theorem dX10_weigh_12 : decode cX10_weigh 12 = .ok (.aload_n 0, 1) := by decide +kernel
theorem dX10_weigh_13 : decode cX10_weigh 13 = .ok (.getfield 9, 3) := by decide +kernel
theorem dX10_weigh_16 : decode cX10_weigh 16 = .ok (.iload_n 3, 1) := by decide +kernel
theorem dX10_weigh_17 : decode cX10_weigh 17 = .ok (.aload_n 1, 1) := by decide +kernel
theorem dX10_weigh_18 : decode cX10_weigh 18 = .ok (.aload_n 2, 1) := by decide +kernel
theorem dX10_weigh_19 : decode cX10_weigh 19 = .ok (.aload_n 1, 1) := by decide +kernel
theorem dX10_weigh_20 : decode cX10_weigh 20 = .ok (.getfield 55, 3) := by decide +kernel
theorem dX10_weigh_23 : decode cX10_weigh 23 = .ok (.iload_n 3, 1) := by decide +kernel
theorem dX10_weigh_24 : decode cX10_weigh 24 = .ok (.invokestatic 47, 3) := by decide +kernel
theorem dX10_weigh_27 : decode cX10_weigh 27 = .ok (.iastore, 1) := by decide +kernel
theorem dX10_weigh_28 : decode cX10_weigh 28 = .ok (.iinc 3 1, 3) := by decide +kernel
theorem dX10_weigh_31 : decode cX10_weigh 31 = .ok (.goto (-29), 3) := by decide +kernel
theorem dX10_weigh_34 : decode cX10_weigh 34 = .ok (.return_, 1) := by decide +kernel
theorem okc_X10_bearing {kn : sKn} {cc : ByteArray} {own : String} {nL : Nat} {D : Nat} {ret : Option FieldType} {ini : Bool} {pc index : Nat} (hD : 1 + 1 ≤ D) (hl : Cond.methodLink own index yX10_bearing ∈ wsL_law) (hd : decode cc pc = .ok (.invokestatic index, 3)) : mOk kn cc own nL wsL_law D ret ini pc (a_callS false (fX10_bearing kn) 4 (pc + 3)) := ok_callS (mX10_bearing kn) (good_ws ws_good (fun _ h => h) kw69) hD (by decide) hl kw71 kw70 ⟨by decide +kernel, by decide +kernel, by decide +kernel⟩ hd
def tX10_weigh (kn : sKn) : List (Nat × sA) := [(0, a_stk (q_int 0) 1), (1, a_istore 3 2), (2, a_iload 3 3), (3, a_stk (q_int 3) 4), (4, a_aload 1 5), (5, a_get 7 0 8), (8, a_stk q_imul 9), (9, a_icmp kn b_ge 3 34 12), (12, a_aload 0 13), (13, a_get 11 0 16), (16, a_iload 3 17), (17, a_aload 1 18), (18, a_aload 2 19), (19, a_aload 1 20), (20, a_get 7 5 23), (23, a_iload 3 24), (24, a_callS false (fX10_bearing kn) 4 27), (27, a_iast 28), (28, a_iinc 3 1 31), (31, a_goto 2), (34, a_vret)]
def fX10_weigh (kn : sKn) : List Value → sW → Option sR := mF (tX10_weigh kn) 4 1000000
set_option maxRecDepth 100000 in
set_option maxHeartbeats 4000000 in
theorem mX10_weigh (kn : sKn) : mM kn yX10_weigh (Cond.code yX10_weigh cX10_weigh 4 none :: wsL_law) 2 true (fX10_weigh kn) := mM_of (own := RX10) (ini := false) rfl (by decide +kernel) (by decide +kernel) (all_c (ok_stk (s_iconst dX10_weigh_0 (by decide))) (all_c (ok_istore_n dX10_weigh_1 rfl (by decide)) (all_c (ok_iload_n dX10_weigh_2 rfl) (all_c (ok_stk (s_iconst dX10_weigh_3 (by decide))) (all_c (ok_aload_n dX10_weigh_4 rfl) (all_c (okg_X6_0 kw66 dX10_weigh_5) (all_c (ok_stk (s_imul dX10_weigh_8)) (all_c (ok_icmp_ge dX10_weigh_9 (by decide)) (all_c (ok_aload_n dX10_weigh_12 rfl) (all_c (okg_X10_0 kw67 dX10_weigh_13) (all_c (ok_iload_n dX10_weigh_16 rfl) (all_c (ok_aload_n dX10_weigh_17 rfl) (all_c (ok_aload_n dX10_weigh_18 rfl) (all_c (ok_aload_n dX10_weigh_19 rfl) (all_c (okg_X6_5 kw68 dX10_weigh_20) (all_c (ok_iload_n dX10_weigh_23 rfl) (all_c (okc_X10_bearing (by decide) kw72 dX10_weigh_24) (all_c (ok_iast dX10_weigh_27) (all_c (ok_iinc dX10_weigh_28 (by decide) (by decide)) (all_c (ok_goto dX10_weigh_31 (by decide)) (all_c (ok_vret dX10_weigh_34) all_n))))))))))))))))))))) 1000000 (fun h => by first | rfl | cases h)
theorem dX10_ableLoads_0 : decode cX10_ableLoads 0 = .ok (.aload_n 0, 1) := by decide +kernel
theorem dX10_ableLoads_1 : decode cX10_ableLoads 1 = .ok (.aload_n 1, 1) := by decide +kernel
theorem dX10_ableLoads_2 : decode cX10_ableLoads 2 = .ok (.aload_n 2, 1) := by decide +kernel
theorem dX10_ableLoads_3 : decode cX10_ableLoads 3 = .ok (.invokevirtual 58, 3) := by decide +kernel
theorem dX10_ableLoads_6 : decode cX10_ableLoads 6 = .ok (.iconst 0, 1) := by decide +kernel
theorem dX10_ableLoads_7 : decode cX10_ableLoads 7 = .ok (.istore_n 3, 1) := by decide +kernel
theorem dX10_ableLoads_8 : decode cX10_ableLoads 8 = .ok (.iconst 0, 1) := by decide +kernel
theorem dX10_ableLoads_9 : decode cX10_ableLoads 9 = .ok (.istore 4, 2) := by decide +kernel
theorem dX10_ableLoads_11 : decode cX10_ableLoads 11 = .ok (.iload 4, 2) := by decide +kernel
theorem dX10_ableLoads_13 : decode cX10_ableLoads 13 = .ok (.aload_n 1, 1) := by decide +kernel
theorem dX10_ableLoads_14 : decode cX10_ableLoads 14 = .ok (.getfield 82, 3) := by decide +kernel
theorem dX10_ableLoads_17 : decode cX10_ableLoads 17 = .ok (.if_icmp .ge 39, 3) := by decide +kernel
theorem dX10_ableLoads_20 : decode cX10_ableLoads 20 = .ok (.aload_n 2, 1) := by decide +kernel
theorem dX10_ableLoads_21 : decode cX10_ableLoads 21 = .ok (.getfield 85, 3) := by decide +kernel
theorem dX10_ableLoads_24 : decode cX10_ableLoads 24 = .ok (.iload 4, 2) := by decide +kernel
theorem dX10_ableLoads_26 : decode cX10_ableLoads 26 = .ok (.ishr, 1) := by decide +kernel
theorem dX10_ableLoads_27 : decode cX10_ableLoads 27 = .ok (.iconst 1, 1) := by decide +kernel
theorem dX10_ableLoads_28 : decode cX10_ableLoads 28 = .ok (.iand, 1) := by decide +kernel
theorem dX10_ableLoads_29 : decode cX10_ableLoads 29 = .ok (.ifCond .ne 21, 3) := by decide +kernel
theorem dX10_ableLoads_32 : decode cX10_ableLoads 32 = .ok (.aload_n 0, 1) := by decide +kernel
theorem dX10_ableLoads_33 : decode cX10_ableLoads 33 = .ok (.aload_n 1, 1) := by decide +kernel
theorem dX10_ableLoads_34 : decode cX10_ableLoads 34 = .ok (.iload 4, 2) := by decide +kernel
theorem dX10_ableLoads_36 : decode cX10_ableLoads 36 = .ok (.invokevirtual 78, 3) := by decide +kernel
theorem dX10_ableLoads_39 : decode cX10_ableLoads 39 = .ok (.iconst (-1), 1) := by decide +kernel
theorem dX10_ableLoads_40 : decode cX10_ableLoads 40 = .ok (.if_icmp .ne 10, 3) := by decide +kernel
theorem dX10_ableLoads_43 : decode cX10_ableLoads 43 = .ok (.iload_n 3, 1) := by decide +kernel
theorem dX10_ableLoads_44 : decode cX10_ableLoads 44 = .ok (.iconst 1, 1) := by decide +kernel
theorem dX10_ableLoads_45 : decode cX10_ableLoads 45 = .ok (.iload 4, 2) := by decide +kernel
theorem dX10_ableLoads_47 : decode cX10_ableLoads 47 = .ok (.ishl, 1) := by decide +kernel
theorem dX10_ableLoads_48 : decode cX10_ableLoads 48 = .ok (.ior, 1) := by decide +kernel
theorem dX10_ableLoads_49 : decode cX10_ableLoads 49 = .ok (.istore_n 3, 1) := by decide +kernel
theorem dX10_ableLoads_50 : decode cX10_ableLoads 50 = .ok (.iinc 4 1, 3) := by decide +kernel
theorem dX10_ableLoads_53 : decode cX10_ableLoads 53 = .ok (.goto (-42), 3) := by decide +kernel
theorem dX10_ableLoads_56 : decode cX10_ableLoads 56 = .ok (.iload_n 3, 1) := by decide +kernel
theorem dX10_ableLoads_57 : decode cX10_ableLoads 57 = .ok (.ireturn, 1) := by decide +kernel
theorem okc_X10_weigh {kn : sKn} {cc : ByteArray} {own : String} {nL : Nat} {D : Nat} {ret : Option FieldType} {ini : Bool} {pc index : Nat} (hD : 2 + 1 ≤ D) (hl : Cond.methodLink own index yX10_weigh ∈ wsL_law) (hd : decode cc pc = .ok (.invokevirtual index, 3)) : mOk kn cc own nL wsL_law D ret ini pc (a_callV true (fX10_weigh kn) 11 (2 + 1) (pc + 3)) := ok_callV (mX10_weigh kn) (good_ws ws_good (fun _ h => h) kw73) hD (by decide) hl kw74 kw75 kw70 ⟨by decide +kernel, by decide +kernel, by decide +kernel⟩ rfl hd
theorem okc0_X10_lostRow {kn : sKn} {cc : ByteArray} {own : String} {nL : Nat} {D : Nat} {ret : Option FieldType} {ini : Bool} {pc index : Nat} (hD : 0 + 1 ≤ D) (hl : Cond.methodLink own index yX10_lostRow ∈ wsL_law) (hd : decode cc pc = .ok (.invokevirtual index, 3)) : mOk kn cc own nL wsL_law D ret ini pc (a_callV false f_none 11 (2 + 1) (pc + 3)) := ok_callV (m_none (D := 0)) (good_ws ws_good (fun _ h => h) kw79) hD (by decide) hl kw80 kw81 kw70 ⟨by decide +kernel, by decide +kernel, by decide +kernel⟩ rfl hd
def tX10_ableLoads (kn : sKn) : List (Nat × sA) := [(0, a_aload 0 1), (1, a_aload 1 2), (2, a_aload 2 3), (3, a_callV true (fX10_weigh kn) 11 3 6), (6, a_stk (q_int 0) 7), (7, a_istore 3 8), (8, a_stk (q_int 0) 9), (9, a_istore 4 11), (11, a_iload 4 13), (13, a_aload 1 14), (14, a_get 7 3 17), (17, a_icmp kn b_ge 3 56 20), (20, a_aload 2 21), (21, a_get 9 2 24), (24, a_iload 4 26), (26, a_stk q_ishr 27), (27, a_stk (q_int 1) 28), (28, a_stk q_iand 29), (29, a_if kn b_ne 1 50 32), (32, a_aload 0 33), (33, a_aload 1 34), (34, a_iload 4 36), (36, a_callV false f_none 11 3 39), (39, a_stk (q_int (-1)) 40), (40, a_icmp kn b_ne 1 50 43), (43, a_iload 3 44), (44, a_stk (q_int 1) 45), (45, a_iload 4 47), (47, a_stk q_ishl 48), (48, a_stk q_ior 49), (49, a_istore 3 50), (50, a_iinc 4 1 53), (53, a_goto 11), (56, a_iload 3 57), (57, a_iret)]
def fX10_ableLoads (kn : sKn) : List Value → sW → Option sR := mF (tX10_ableLoads kn) 5 1000000
set_option maxRecDepth 100000 in
set_option maxHeartbeats 4000000 in
theorem mX10_ableLoads (kn : sKn) : mM kn yX10_ableLoads (Cond.code yX10_ableLoads cX10_ableLoads 5 (some .int) :: wsL_law) 3 false (fX10_ableLoads kn) := mM_of (own := RX10) (ini := false) rfl (by decide +kernel) (by decide +kernel) (all_c (ok_aload_n dX10_ableLoads_0 rfl) (all_c (ok_aload_n dX10_ableLoads_1 rfl) (all_c (ok_aload_n dX10_ableLoads_2 rfl) (all_c (okc_X10_weigh (by decide) kw76 dX10_ableLoads_3) (all_c (ok_stk (s_iconst dX10_ableLoads_6 (by decide))) (all_c (ok_istore_n dX10_ableLoads_7 rfl (by decide)) (all_c (ok_stk (s_iconst dX10_ableLoads_8 (by decide))) (all_c (ok_istore dX10_ableLoads_9 (by decide)) (all_c (ok_iload dX10_ableLoads_11) (all_c (ok_aload_n dX10_ableLoads_13 rfl) (all_c (okg_X6_3 kw77 dX10_ableLoads_14) (all_c (ok_icmp_ge dX10_ableLoads_17 (by decide)) (all_c (ok_aload_n dX10_ableLoads_20 rfl) (all_c (okg_X8_2 kw78 dX10_ableLoads_21) (all_c (ok_iload dX10_ableLoads_24) (all_c (ok_stk (s_ishr dX10_ableLoads_26)) (all_c (ok_stk (s_iconst dX10_ableLoads_27 (by decide))) (all_c (ok_stk (s_iand dX10_ableLoads_28)) (all_c (ok_if_ne dX10_ableLoads_29 (by decide)) (all_c (ok_aload_n dX10_ableLoads_32 rfl) (all_c (ok_aload_n dX10_ableLoads_33 rfl) (all_c (ok_iload dX10_ableLoads_34) (all_c (okc0_X10_lostRow (by decide) kw82 dX10_ableLoads_36) (all_c (ok_stk (s_iconst dX10_ableLoads_39 (by decide))) (all_c (ok_icmp_ne dX10_ableLoads_40 (by decide)) (all_c (ok_iload_n dX10_ableLoads_43 rfl) (all_c (ok_stk (s_iconst dX10_ableLoads_44 (by decide))) (all_c (ok_iload dX10_ableLoads_45) (all_c (ok_stk (s_ishl dX10_ableLoads_47)) (all_c (ok_stk (s_ior dX10_ableLoads_48)) (all_c (ok_istore_n dX10_ableLoads_49 rfl (by decide)) (all_c (ok_iinc dX10_ableLoads_50 (by decide) (by decide)) (all_c (ok_goto dX10_ableLoads_53 (by decide)) (all_c (ok_iload_n dX10_ableLoads_56 rfl) (all_c (ok_iret dX10_ableLoads_57) all_n))))))))))))))))))))))))))))))))))) 1000000 (fun h => by first | rfl | cases h)
theorem dX10_bearInAll_0 : decode cX10_bearInAll 0 = .ok (.aload_n 0, 1) := by decide +kernel
theorem dX10_bearInAll_1 : decode cX10_bearInAll 1 = .ok (.aload_n 1, 1) := by decide +kernel
theorem dX10_bearInAll_2 : decode cX10_bearInAll 2 = .ok (.aload_n 2, 1) := by decide +kernel
theorem dX10_bearInAll_3 : decode cX10_bearInAll 3 = .ok (.invokevirtual 58, 3) := by decide +kernel
theorem dX10_bearInAll_6 : decode cX10_bearInAll 6 = .ok (.iconst 0, 1) := by decide +kernel
theorem dX10_bearInAll_7 : decode cX10_bearInAll 7 = .ok (.istore_n 3, 1) := by decide +kernel
theorem dX10_bearInAll_8 : decode cX10_bearInAll 8 = .ok (.iconst 0, 1) := by decide +kernel
theorem dX10_bearInAll_9 : decode cX10_bearInAll 9 = .ok (.istore 4, 2) := by decide +kernel
theorem dX10_bearInAll_11 : decode cX10_bearInAll 11 = .ok (.iload 4, 2) := by decide +kernel
theorem dX10_bearInAll_13 : decode cX10_bearInAll 13 = .ok (.iconst 3, 1) := by decide +kernel
theorem dX10_bearInAll_14 : decode cX10_bearInAll 14 = .ok (.aload_n 1, 1) := by decide +kernel
theorem dX10_bearInAll_15 : decode cX10_bearInAll 15 = .ok (.getfield 51, 3) := by decide +kernel
theorem dX10_bearInAll_18 : decode cX10_bearInAll 18 = .ok (.imul, 1) := by decide +kernel
theorem dX10_bearInAll_19 : decode cX10_bearInAll 19 = .ok (.if_icmp .ge 23, 3) := by decide +kernel
theorem dX10_bearInAll_22 : decode cX10_bearInAll 22 = .ok (.iload_n 3, 1) := by decide +kernel
theorem dX10_bearInAll_23 : decode cX10_bearInAll 23 = .ok (.iconst 0, 1) := by decide +kernel
theorem dX10_bearInAll_24 : decode cX10_bearInAll 24 = .ok (.aload_n 0, 1) := by decide +kernel
theorem dX10_bearInAll_25 : decode cX10_bearInAll 25 = .ok (.getfield 9, 3) := by decide +kernel
theorem dX10_bearInAll_28 : decode cX10_bearInAll 28 = .ok (.iload 4, 2) := by decide +kernel
theorem dX10_bearInAll_30 : decode cX10_bearInAll 30 = .ok (.iaload, 1) := by decide +kernel
theorem dX10_bearInAll_31 : decode cX10_bearInAll 31 = .ok (.invokestatic 41, 3) := by decide +kernel
theorem dX10_bearInAll_34 : decode cX10_bearInAll 34 = .ok (.iadd, 1) := by decide +kernel
theorem dX10_bearInAll_35 : decode cX10_bearInAll 35 = .ok (.istore_n 3, 1) := by decide +kernel
theorem dX10_bearInAll_36 : decode cX10_bearInAll 36 = .ok (.iinc 4 1, 3) := by decide +kernel
theorem dX10_bearInAll_39 : decode cX10_bearInAll 39 = .ok (.goto (-28), 3) := by decide +kernel
theorem dX10_bearInAll_42 : decode cX10_bearInAll 42 = .ok (.iload_n 3, 1) := by decide +kernel
theorem dX10_bearInAll_43 : decode cX10_bearInAll 43 = .ok (.ireturn, 1) := by decide +kernel
def tX10_bearInAll (kn : sKn) : List (Nat × sA) := [(0, a_aload 0 1), (1, a_aload 1 2), (2, a_aload 2 3), (3, a_callV true (fX10_weigh kn) 11 3 6), (6, a_stk (q_int 0) 7), (7, a_istore 3 8), (8, a_stk (q_int 0) 9), (9, a_istore 4 11), (11, a_iload 4 13), (13, a_stk (q_int 3) 14), (14, a_aload 1 15), (15, a_get 7 0 18), (18, a_stk q_imul 19), (19, a_icmp kn b_ge 3 42 22), (22, a_iload 3 23), (23, a_stk (q_int 0) 24), (24, a_aload 0 25), (25, a_get 11 0 28), (28, a_iload 4 30), (30, a_iald 31), (31, a_mmax 34), (34, a_stk q_iadd 35), (35, a_istore 3 36), (36, a_iinc 4 1 39), (39, a_goto 11), (42, a_iload 3 43), (43, a_iret)]
def fX10_bearInAll (kn : sKn) : List Value → sW → Option sR := mF (tX10_bearInAll kn) 5 1000000
set_option maxRecDepth 100000 in
set_option maxHeartbeats 4000000 in
theorem mX10_bearInAll (kn : sKn) : mM kn yX10_bearInAll (Cond.code yX10_bearInAll cX10_bearInAll 5 (some .int) :: wsL_law) 3 false (fX10_bearInAll kn) := mM_of (own := RX10) (ini := false) rfl (by decide +kernel) (by decide +kernel) (all_c (ok_aload_n dX10_bearInAll_0 rfl) (all_c (ok_aload_n dX10_bearInAll_1 rfl) (all_c (ok_aload_n dX10_bearInAll_2 rfl) (all_c (okc_X10_weigh (by decide) kw76 dX10_bearInAll_3) (all_c (ok_stk (s_iconst dX10_bearInAll_6 (by decide))) (all_c (ok_istore_n dX10_bearInAll_7 rfl (by decide)) (all_c (ok_stk (s_iconst dX10_bearInAll_8 (by decide))) (all_c (ok_istore dX10_bearInAll_9 (by decide)) (all_c (ok_iload dX10_bearInAll_11) (all_c (ok_stk (s_iconst dX10_bearInAll_13 (by decide))) (all_c (ok_aload_n dX10_bearInAll_14 rfl) (all_c (okg_X6_0 kw66 dX10_bearInAll_15) (all_c (ok_stk (s_imul dX10_bearInAll_18)) (all_c (ok_icmp_ge dX10_bearInAll_19 (by decide)) (all_c (ok_iload_n dX10_bearInAll_22 rfl) (all_c (ok_stk (s_iconst dX10_bearInAll_23 (by decide))) (all_c (ok_aload_n dX10_bearInAll_24 rfl) (all_c (okg_X10_0 kw67 dX10_bearInAll_25) (all_c (ok_iload dX10_bearInAll_28) (all_c (ok_iald dX10_bearInAll_30) (all_c (ok_mmax (by decide) kw62 kw63 kw64 kw65 dX10_bearInAll_31) (all_c (ok_stk (s_iadd dX10_bearInAll_34)) (all_c (ok_istore_n dX10_bearInAll_35 rfl (by decide)) (all_c (ok_iinc dX10_bearInAll_36 (by decide) (by decide)) (all_c (ok_goto dX10_bearInAll_39 (by decide)) (all_c (ok_iload_n dX10_bearInAll_42 rfl) (all_c (ok_iret dX10_bearInAll_43) all_n))))))))))))))))))))))))))) 1000000 (fun h => by first | rfl | cases h)
theorem dX10_bearTogether_0 : decode cX10_bearTogether 0 = .ok (.iload_n 2, 1) := by decide +kernel
theorem dX10_bearTogether_1 : decode cX10_bearTogether 1 = .ok (.iload_n 3, 1) := by decide +kernel
theorem dX10_bearTogether_2 : decode cX10_bearTogether 2 = .ok (.iadd, 1) := by decide +kernel
theorem dX10_bearTogether_3 : decode cX10_bearTogether 3 = .ok (.iconst 3, 1) := by decide +kernel
theorem dX10_bearTogether_4 : decode cX10_bearTogether 4 = .ok (.if_icmp .le 5, 3) := by decide +kernel
theorem dX10_bearTogether_7 : decode cX10_bearTogether 7 = .ok (.iconst (-1), 1) := by decide +kernel
theorem dX10_bearTogether_8 : decode cX10_bearTogether 8 = .ok (.ireturn, 1) := by decide +kernel
theorem dX10_bearTogether_9 : decode cX10_bearTogether 9 = .ok (.iconst 0, 1) := by decide +kernel
theorem dX10_bearTogether_10 : decode cX10_bearTogether 10 = .ok (.istore 4, 2) := by decide +kernel
theorem dX10_bearTogether_12 : decode cX10_bearTogether 12 = .ok (.iconst 0, 1) := by decide +kernel
theorem dX10_bearTogether_13 : decode cX10_bearTogether 13 = .ok (.istore 5, 2) := by decide +kernel
theorem dX10_bearTogether_15 : decode cX10_bearTogether 15 = .ok (.iload 5, 2) := by decide +kernel
theorem dX10_bearTogether_17 : decode cX10_bearTogether 17 = .ok (.iload_n 3, 1) := by decide +kernel
theorem dX10_bearTogether_18 : decode cX10_bearTogether 18 = .ok (.if_icmp .ge 39, 3) := by decide +kernel
theorem dX10_bearTogether_21 : decode cX10_bearTogether 21 = .ok (.aload_n 0, 1) := by decide +kernel
theorem dX10_bearTogether_22 : decode cX10_bearTogether 22 = .ok (.getfield 9, 3) := by decide +kernel
theorem dX10_bearTogether_25 : decode cX10_bearTogether 25 = .ok (.iconst 3, 1) := by decide +kernel
theorem dX10_bearTogether_26 : decode cX10_bearTogether 26 = .ok (.iload_n 1, 1) := by decide +kernel
theorem dX10_bearTogether_27 : decode cX10_bearTogether 27 = .ok (.imul, 1) := by decide +kernel
theorem dX10_bearTogether_28 : decode cX10_bearTogether 28 = .ok (.iload_n 2, 1) := by decide +kernel
theorem dX10_bearTogether_29 : decode cX10_bearTogether 29 = .ok (.iadd, 1) := by decide +kernel
theorem dX10_bearTogether_30 : decode cX10_bearTogether 30 = .ok (.iload 5, 2) := by decide +kernel
theorem dX10_bearTogether_32 : decode cX10_bearTogether 32 = .ok (.iadd, 1) := by decide +kernel
theorem dX10_bearTogether_33 : decode cX10_bearTogether 33 = .ok (.iaload, 1) := by decide +kernel
theorem dX10_bearTogether_34 : decode cX10_bearTogether 34 = .ok (.istore 6, 2) := by decide +kernel
theorem dX10_bearTogether_36 : decode cX10_bearTogether 36 = .ok (.iload 6, 2) := by decide +kernel
theorem dX10_bearTogether_38 : decode cX10_bearTogether 38 = .ok (.iconst (-1), 1) := by decide +kernel
theorem dX10_bearTogether_39 : decode cX10_bearTogether 39 = .ok (.if_icmp .ne 5, 3) := by decide +kernel
theorem dX10_bearTogether_42 : decode cX10_bearTogether 42 = .ok (.iconst (-1), 1) := by decide +kernel
theorem dX10_bearTogether_43 : decode cX10_bearTogether 43 = .ok (.ireturn, 1) := by decide +kernel
theorem dX10_bearTogether_44 : decode cX10_bearTogether 44 = .ok (.iload 4, 2) := by decide +kernel
theorem dX10_bearTogether_46 : decode cX10_bearTogether 46 = .ok (.iload 6, 2) := by decide +kernel
theorem dX10_bearTogether_48 : decode cX10_bearTogether 48 = .ok (.iadd, 1) := by decide +kernel
theorem dX10_bearTogether_49 : decode cX10_bearTogether 49 = .ok (.istore 4, 2) := by decide +kernel
theorem dX10_bearTogether_51 : decode cX10_bearTogether 51 = .ok (.iinc 5 1, 3) := by decide +kernel
theorem dX10_bearTogether_54 : decode cX10_bearTogether 54 = .ok (.goto (-39), 3) := by decide +kernel
theorem dX10_bearTogether_57 : decode cX10_bearTogether 57 = .ok (.iload 4, 2) := by decide +kernel
theorem dX10_bearTogether_59 : decode cX10_bearTogether 59 = .ok (.ireturn, 1) := by decide +kernel
def tX10_bearTogether (kn : sKn) : List (Nat × sA) := [(0, a_iload 2 1), (1, a_iload 3 2), (2, a_stk q_iadd 3), (3, a_stk (q_int 3) 4), (4, a_icmp kn b_le 5 9 7), (7, a_stk (q_int (-1)) 8), (8, a_iret), (9, a_stk (q_int 0) 10), (10, a_istore 4 12), (12, a_stk (q_int 0) 13), (13, a_istore 5 15), (15, a_iload 5 17), (17, a_iload 3 18), (18, a_icmp kn b_ge 3 57 21), (21, a_aload 0 22), (22, a_get 11 0 25), (25, a_stk (q_int 3) 26), (26, a_iload 1 27), (27, a_stk q_imul 28), (28, a_iload 2 29), (29, a_stk q_iadd 30), (30, a_iload 5 32), (32, a_stk q_iadd 33), (33, a_iald 34), (34, a_istore 6 36), (36, a_iload 6 38), (38, a_stk (q_int (-1)) 39), (39, a_icmp kn b_ne 1 44 42), (42, a_stk (q_int (-1)) 43), (43, a_iret), (44, a_iload 4 46), (46, a_iload 6 48), (48, a_stk q_iadd 49), (49, a_istore 4 51), (51, a_iinc 5 1 54), (54, a_goto 15), (57, a_iload 4 59), (59, a_iret)]
def fX10_bearTogether (kn : sKn) : List Value → sW → Option sR := mF (tX10_bearTogether kn) 7 1000000
set_option maxRecDepth 100000 in
set_option maxHeartbeats 4000000 in
theorem mX10_bearTogether (kn : sKn) : mM kn yX10_bearTogether (Cond.code yX10_bearTogether cX10_bearTogether 7 (some .int) :: wsL_law) 1 false (fX10_bearTogether kn) := mM_of (own := RX10) (ini := false) rfl (by decide +kernel) (by decide +kernel) (all_c (ok_iload_n dX10_bearTogether_0 rfl) (all_c (ok_iload_n dX10_bearTogether_1 rfl) (all_c (ok_stk (s_iadd dX10_bearTogether_2)) (all_c (ok_stk (s_iconst dX10_bearTogether_3 (by decide))) (all_c (ok_icmp_le dX10_bearTogether_4 (by decide)) (all_c (ok_stk (s_iconst dX10_bearTogether_7 (by decide))) (all_c (ok_iret dX10_bearTogether_8) (all_c (ok_stk (s_iconst dX10_bearTogether_9 (by decide))) (all_c (ok_istore dX10_bearTogether_10 (by decide)) (all_c (ok_stk (s_iconst dX10_bearTogether_12 (by decide))) (all_c (ok_istore dX10_bearTogether_13 (by decide)) (all_c (ok_iload dX10_bearTogether_15) (all_c (ok_iload_n dX10_bearTogether_17 rfl) (all_c (ok_icmp_ge dX10_bearTogether_18 (by decide)) (all_c (ok_aload_n dX10_bearTogether_21 rfl) (all_c (okg_X10_0 kw67 dX10_bearTogether_22) (all_c (ok_stk (s_iconst dX10_bearTogether_25 (by decide))) (all_c (ok_iload_n dX10_bearTogether_26 rfl) (all_c (ok_stk (s_imul dX10_bearTogether_27)) (all_c (ok_iload_n dX10_bearTogether_28 rfl) (all_c (ok_stk (s_iadd dX10_bearTogether_29)) (all_c (ok_iload dX10_bearTogether_30) (all_c (ok_stk (s_iadd dX10_bearTogether_32)) (all_c (ok_iald dX10_bearTogether_33) (all_c (ok_istore dX10_bearTogether_34 (by decide)) (all_c (ok_iload dX10_bearTogether_36) (all_c (ok_stk (s_iconst dX10_bearTogether_38 (by decide))) (all_c (ok_icmp_ne dX10_bearTogether_39 (by decide)) (all_c (ok_stk (s_iconst dX10_bearTogether_42 (by decide))) (all_c (ok_iret dX10_bearTogether_43) (all_c (ok_iload dX10_bearTogether_44) (all_c (ok_iload dX10_bearTogether_46) (all_c (ok_stk (s_iadd dX10_bearTogether_48)) (all_c (ok_istore dX10_bearTogether_49 (by decide)) (all_c (ok_iinc dX10_bearTogether_51 (by decide) (by decide)) (all_c (ok_goto dX10_bearTogether_54 (by decide)) (all_c (ok_iload dX10_bearTogether_57) (all_c (ok_iret dX10_bearTogether_59) all_n)))))))))))))))))))))))))))))))))))))) 1000000 (fun h => by first | rfl | cases h)
theorem dX10_bestOpen_0 : decode cX10_bestOpen 0 = .ok (.iconst (-1), 1) := by decide +kernel
theorem dX10_bestOpen_1 : decode cX10_bestOpen 1 = .ok (.istore_n 3, 1) := by decide +kernel
theorem dX10_bestOpen_2 : decode cX10_bestOpen 2 = .ok (.iconst 0, 1) := by decide +kernel
theorem dX10_bestOpen_3 : decode cX10_bestOpen 3 = .ok (.istore 4, 2) := by decide +kernel
theorem dX10_bestOpen_5 : decode cX10_bestOpen 5 = .ok (.iload 4, 2) := by decide +kernel
theorem dX10_bestOpen_7 : decode cX10_bestOpen 7 = .ok (.iconst 4, 1) := by decide +kernel
theorem dX10_bestOpen_8 : decode cX10_bestOpen 8 = .ok (.if_icmp .ge 34, 3) := by decide +kernel
theorem dX10_bestOpen_11 : decode cX10_bestOpen 11 = .ok (.iload_n 2, 1) := by decide +kernel
theorem dX10_bestOpen_12 : decode cX10_bestOpen 12 = .ok (.iload 4, 2) := by decide +kernel
theorem dX10_bestOpen_14 : decode cX10_bestOpen 14 = .ok (.ishr, 1) := by decide +kernel
theorem dX10_bestOpen_15 : decode cX10_bestOpen 15 = .ok (.iconst 1, 1) := by decide +kernel
theorem dX10_bestOpen_16 : decode cX10_bestOpen 16 = .ok (.iand, 1) := by decide +kernel
theorem dX10_bestOpen_17 : decode cX10_bestOpen 17 = .ok (.ifCond .eq 19, 3) := by decide +kernel
theorem dX10_bestOpen_20 : decode cX10_bestOpen 20 = .ok (.iload_n 3, 1) := by decide +kernel
theorem dX10_bestOpen_21 : decode cX10_bestOpen 21 = .ok (.aload_n 0, 1) := by decide +kernel
theorem dX10_bestOpen_22 : decode cX10_bestOpen 22 = .ok (.getfield 18, 3) := by decide +kernel
theorem dX10_bestOpen_25 : decode cX10_bestOpen 25 = .ok (.iconst 4, 1) := by decide +kernel
theorem dX10_bestOpen_26 : decode cX10_bestOpen 26 = .ok (.iload_n 1, 1) := by decide +kernel
theorem dX10_bestOpen_27 : decode cX10_bestOpen 27 = .ok (.imul, 1) := by decide +kernel
theorem dX10_bestOpen_28 : decode cX10_bestOpen 28 = .ok (.iload 4, 2) := by decide +kernel
theorem dX10_bestOpen_30 : decode cX10_bestOpen 30 = .ok (.iadd, 1) := by decide +kernel
theorem dX10_bestOpen_31 : decode cX10_bestOpen 31 = .ok (.iaload, 1) := by decide +kernel
theorem dX10_bestOpen_32 : decode cX10_bestOpen 32 = .ok (.invokestatic 41, 3) := by decide +kernel
theorem dX10_bestOpen_35 : decode cX10_bestOpen 35 = .ok (.istore_n 3, 1) := by decide +kernel
theorem dX10_bestOpen_36 : decode cX10_bestOpen 36 = .ok (.iinc 4 1, 3) := by decide +kernel
theorem dX10_bestOpen_39 : decode cX10_bestOpen 39 = .ok (.goto (-34), 3) := by decide +kernel
theorem dX10_bestOpen_42 : decode cX10_bestOpen 42 = .ok (.iload_n 3, 1) := by decide +kernel
theorem dX10_bestOpen_43 : decode cX10_bestOpen 43 = .ok (.ireturn, 1) := by decide +kernel
def tX10_bestOpen (kn : sKn) : List (Nat × sA) := [(0, a_stk (q_int (-1)) 1), (1, a_istore 3 2), (2, a_stk (q_int 0) 3), (3, a_istore 4 5), (5, a_iload 4 7), (7, a_stk (q_int 4) 8), (8, a_icmp kn b_ge 3 42 11), (11, a_iload 2 12), (12, a_iload 4 14), (14, a_stk q_ishr 15), (15, a_stk (q_int 1) 16), (16, a_stk q_iand 17), (17, a_if kn b_eq 0 36 20), (20, a_iload 3 21), (21, a_aload 0 22), (22, a_get 11 2 25), (25, a_stk (q_int 4) 26), (26, a_iload 1 27), (27, a_stk q_imul 28), (28, a_iload 4 30), (30, a_stk q_iadd 31), (31, a_iald 32), (32, a_mmax 35), (35, a_istore 3 36), (36, a_iinc 4 1 39), (39, a_goto 5), (42, a_iload 3 43), (43, a_iret)]
def fX10_bestOpen (kn : sKn) : List Value → sW → Option sR := mF (tX10_bestOpen kn) 5 1000000
set_option maxRecDepth 100000 in
set_option maxHeartbeats 4000000 in
theorem mX10_bestOpen (kn : sKn) : mM kn yX10_bestOpen (Cond.code yX10_bestOpen cX10_bestOpen 5 (some .int) :: wsL_law) 1 false (fX10_bestOpen kn) := mM_of (own := RX10) (ini := false) rfl (by decide +kernel) (by decide +kernel) (all_c (ok_stk (s_iconst dX10_bestOpen_0 (by decide))) (all_c (ok_istore_n dX10_bestOpen_1 rfl (by decide)) (all_c (ok_stk (s_iconst dX10_bestOpen_2 (by decide))) (all_c (ok_istore dX10_bestOpen_3 (by decide)) (all_c (ok_iload dX10_bestOpen_5) (all_c (ok_stk (s_iconst dX10_bestOpen_7 (by decide))) (all_c (ok_icmp_ge dX10_bestOpen_8 (by decide)) (all_c (ok_iload_n dX10_bestOpen_11 rfl) (all_c (ok_iload dX10_bestOpen_12) (all_c (ok_stk (s_ishr dX10_bestOpen_14)) (all_c (ok_stk (s_iconst dX10_bestOpen_15 (by decide))) (all_c (ok_stk (s_iand dX10_bestOpen_16)) (all_c (ok_if_eq dX10_bestOpen_17 (by decide)) (all_c (ok_iload_n dX10_bestOpen_20 rfl) (all_c (ok_aload_n dX10_bestOpen_21 rfl) (all_c (okg_X10_2 kw83 dX10_bestOpen_22) (all_c (ok_stk (s_iconst dX10_bestOpen_25 (by decide))) (all_c (ok_iload_n dX10_bestOpen_26 rfl) (all_c (ok_stk (s_imul dX10_bestOpen_27)) (all_c (ok_iload dX10_bestOpen_28) (all_c (ok_stk (s_iadd dX10_bestOpen_30)) (all_c (ok_iald dX10_bestOpen_31) (all_c (ok_mmax (by decide) kw62 kw63 kw64 kw65 dX10_bestOpen_32) (all_c (ok_istore_n dX10_bestOpen_35 rfl (by decide)) (all_c (ok_iinc dX10_bestOpen_36 (by decide) (by decide)) (all_c (ok_goto dX10_bestOpen_39 (by decide)) (all_c (ok_iload_n dX10_bestOpen_42 rfl) (all_c (ok_iret dX10_bestOpen_43) all_n)))))))))))))))))))))))))))) 1000000 (fun h => by first | rfl | cases h)
theorem dX10_greatestLeast_0 : decode cX10_greatestLeast 0 = .ok (.iload_n 1, 1) := by decide +kernel
theorem dX10_greatestLeast_1 : decode cX10_greatestLeast 1 = .ok (.iconst 1, 1) := by decide +kernel
theorem dX10_greatestLeast_2 : decode cX10_greatestLeast 2 = .ok (.isub, 1) := by decide +kernel
theorem dX10_greatestLeast_3 : decode cX10_greatestLeast 3 = .ok (.istore_n 2, 1) := by decide +kernel
theorem dX10_greatestLeast_4 : decode cX10_greatestLeast 4 = .ok (.iload_n 2, 1) := by decide +kernel
theorem dX10_greatestLeast_5 : decode cX10_greatestLeast 5 = .ok (.ifCond .lt 81, 3) := by decide +kernel
theorem dX10_greatestLeast_8 : decode cX10_greatestLeast 8 = .ok (.iconst 0, 1) := by decide +kernel
theorem dX10_greatestLeast_9 : decode cX10_greatestLeast 9 = .ok (.istore_n 3, 1) := by decide +kernel
theorem dX10_greatestLeast_10 : decode cX10_greatestLeast 10 = .ok (.iload_n 3, 1) := by decide +kernel
theorem dX10_greatestLeast_11 : decode cX10_greatestLeast 11 = .ok (.iconst 4, 1) := by decide +kernel
theorem dX10_greatestLeast_12 : decode cX10_greatestLeast 12 = .ok (.if_icmp .ge 68, 3) := by decide +kernel
theorem dX10_greatestLeast_15 : decode cX10_greatestLeast 15 = .ok (.iconst 4, 1) := by decide +kernel
theorem dX10_greatestLeast_16 : decode cX10_greatestLeast 16 = .ok (.iload_n 2, 1) := by decide +kernel
theorem dX10_greatestLeast_17 : decode cX10_greatestLeast 17 = .ok (.imul, 1) := by decide +kernel
theorem dX10_greatestLeast_18 : decode cX10_greatestLeast 18 = .ok (.iload_n 3, 1) := by decide +kernel
theorem dX10_greatestLeast_19 : decode cX10_greatestLeast 19 = .ok (.iadd, 1) := by decide +kernel
theorem dX10_greatestLeast_20 : decode cX10_greatestLeast 20 = .ok (.istore 4, 2) := by decide +kernel
theorem dX10_greatestLeast_22 : decode cX10_greatestLeast 22 = .ok (.aload_n 0, 1) := by decide +kernel
theorem dX10_greatestLeast_23 : decode cX10_greatestLeast 23 = .ok (.getfield 18, 3) := by decide +kernel
theorem dX10_greatestLeast_26 : decode cX10_greatestLeast 26 = .ok (.iload 4, 2) := by decide +kernel
theorem dX10_greatestLeast_28 : decode cX10_greatestLeast 28 = .ok (.aload_n 0, 1) := by decide +kernel
theorem dX10_greatestLeast_29 : decode cX10_greatestLeast 29 = .ok (.getfield 15, 3) := by decide +kernel
theorem dX10_greatestLeast_32 : decode cX10_greatestLeast 32 = .ok (.iload 4, 2) := by decide +kernel
theorem dX10_greatestLeast_34 : decode cX10_greatestLeast 34 = .ok (.iaload, 1) := by decide +kernel
theorem dX10_greatestLeast_35 : decode cX10_greatestLeast 35 = .ok (.iastore, 1) := by decide +kernel
theorem dX10_greatestLeast_36 : decode cX10_greatestLeast 36 = .ok (.iload_n 2, 1) := by decide +kernel
theorem dX10_greatestLeast_37 : decode cX10_greatestLeast 37 = .ok (.iload_n 1, 1) := by decide +kernel
theorem dX10_greatestLeast_38 : decode cX10_greatestLeast 38 = .ok (.iconst 1, 1) := by decide +kernel
theorem dX10_greatestLeast_39 : decode cX10_greatestLeast 39 = .ok (.isub, 1) := by decide +kernel
theorem dX10_greatestLeast_40 : decode cX10_greatestLeast 40 = .ok (.if_icmp .ge 34, 3) := by decide +kernel
theorem dX10_greatestLeast_43 : decode cX10_greatestLeast 43 = .ok (.aload_n 0, 1) := by decide +kernel
theorem dX10_greatestLeast_44 : decode cX10_greatestLeast 44 = .ok (.getfield 18, 3) := by decide +kernel
theorem dX10_greatestLeast_47 : decode cX10_greatestLeast 47 = .ok (.iload 4, 2) := by decide +kernel
theorem dX10_greatestLeast_49 : decode cX10_greatestLeast 49 = .ok (.aload_n 0, 1) := by decide +kernel
theorem dX10_greatestLeast_50 : decode cX10_greatestLeast 50 = .ok (.getfield 15, 3) := by decide +kernel
theorem dX10_greatestLeast_53 : decode cX10_greatestLeast 53 = .ok (.iload 4, 2) := by decide +kernel
theorem dX10_greatestLeast_55 : decode cX10_greatestLeast 55 = .ok (.iaload, 1) := by decide +kernel
theorem dX10_greatestLeast_56 : decode cX10_greatestLeast 56 = .ok (.aload_n 0, 1) := by decide +kernel
theorem dX10_greatestLeast_57 : decode cX10_greatestLeast 57 = .ok (.iload_n 2, 1) := by decide +kernel
theorem dX10_greatestLeast_58 : decode cX10_greatestLeast 58 = .ok (.iconst 1, 1) := by decide +kernel
theorem dX10_greatestLeast_59 : decode cX10_greatestLeast 59 = .ok (.iadd, 1) := by decide +kernel
theorem dX10_greatestLeast_60 : decode cX10_greatestLeast 60 = .ok (.getstatic 75, 3) := by decide +kernel
theorem dX10_greatestLeast_63 : decode cX10_greatestLeast 63 = .ok (.iconst 1, 1) := by decide +kernel
theorem dX10_greatestLeast_64 : decode cX10_greatestLeast 64 = .ok (.iload_n 3, 1) := by decide +kernel
theorem dX10_greatestLeast_65 : decode cX10_greatestLeast 65 = .ok (.ishl, 1) := by decide +kernel
theorem dX10_greatestLeast_66 : decode cX10_greatestLeast 66 = .ok (.iaload, 1) := by decide +kernel
theorem dX10_greatestLeast_67 : decode cX10_greatestLeast 67 = .ok (.invokevirtual 111, 3) := by decide +kernel
theorem dX10_greatestLeast_70 : decode cX10_greatestLeast 70 = .ok (.invokestatic 114, 3) := by decide +kernel
theorem dX10_greatestLeast_73 : decode cX10_greatestLeast 73 = .ok (.iastore, 1) := by decide +kernel
theorem dX10_greatestLeast_74 : decode cX10_greatestLeast 74 = .ok (.iinc 3 1, 3) := by decide +kernel
theorem dX10_greatestLeast_77 : decode cX10_greatestLeast 77 = .ok (.goto (-67), 3) := by decide +kernel
theorem dX10_greatestLeast_80 : decode cX10_greatestLeast 80 = .ok (.iinc 2 (-1), 3) := by decide +kernel
theorem dX10_greatestLeast_83 : decode cX10_greatestLeast 83 = .ok (.goto (-79), 3) := by decide +kernel
theorem dX10_greatestLeast_86 : decode cX10_greatestLeast 86 = .ok (.aload_n 0, 1) := by decide +kernel
theorem dX10_greatestLeast_87 : decode cX10_greatestLeast 87 = .ok (.iconst 0, 1) := by decide +kernel
theorem dX10_greatestLeast_88 : decode cX10_greatestLeast 88 = .ok (.bipush 15, 2) := by decide +kernel
theorem dX10_greatestLeast_90 : decode cX10_greatestLeast 90 = .ok (.invokevirtual 111, 3) := by decide +kernel
theorem dX10_greatestLeast_93 : decode cX10_greatestLeast 93 = .ok (.ireturn, 1) := by decide +kernel
theorem okc_X10_bestOpen {kn : sKn} {cc : ByteArray} {own : String} {nL : Nat} {D : Nat} {ret : Option FieldType} {ini : Bool} {pc index : Nat} (hD : 1 + 1 ≤ D) (hl : Cond.methodLink own index yX10_bestOpen ∈ wsL_law) (hd : decode cc pc = .ok (.invokevirtual index, 3)) : mOk kn cc own nL wsL_law D ret ini pc (a_callV false (fX10_bestOpen kn) 11 (2 + 1) (pc + 3)) := ok_callV (mX10_bestOpen kn) (good_ws ws_good (fun _ h => h) kw85) hD (by decide) hl kw86 kw87 kw70 ⟨by decide +kernel, by decide +kernel, by decide +kernel⟩ rfl hd
def tX10_greatestLeast (kn : sKn) : List (Nat × sA) := [(0, a_iload 1 1), (1, a_stk (q_int 1) 2), (2, a_stk q_isub 3), (3, a_istore 2 4), (4, a_iload 2 5), (5, a_if kn b_lt 2 86 8), (8, a_stk (q_int 0) 9), (9, a_istore 3 10), (10, a_iload 3 11), (11, a_stk (q_int 4) 12), (12, a_icmp kn b_ge 3 80 15), (15, a_stk (q_int 4) 16), (16, a_iload 2 17), (17, a_stk q_imul 18), (18, a_iload 3 19), (19, a_stk q_iadd 20), (20, a_istore 4 22), (22, a_aload 0 23), (23, a_get 11 2 26), (26, a_iload 4 28), (28, a_aload 0 29), (29, a_get 11 1 32), (32, a_iload 4 34), (34, a_iald 35), (35, a_iast 36), (36, a_iload 2 37), (37, a_iload 1 38), (38, a_stk (q_int 1) 39), (39, a_stk q_isub 40), (40, a_icmp kn b_ge 3 74 43), (43, a_aload 0 44), (44, a_get 11 2 47), (47, a_iload 4 49), (49, a_aload 0 50), (50, a_get 11 1 53), (53, a_iload 4 55), (55, a_iald 56), (56, a_aload 0 57), (57, a_iload 2 58), (58, a_stk (q_int 1) 59), (59, a_stk q_iadd 60), (60, a_gets 1000000 63), (63, a_stk (q_int 1) 64), (64, a_iload 3 65), (65, a_stk q_ishl 66), (66, a_iald 67), (67, a_callV false (fX10_bestOpen kn) 11 3 70), (70, a_mmin 73), (73, a_iast 74), (74, a_iinc 3 1 77), (77, a_goto 10), (80, a_iinc 2 (-1) 83), (83, a_goto 4), (86, a_aload 0 87), (87, a_stk (q_int 0) 88), (88, a_stk (q_int 15) 90), (90, a_callV false (fX10_bestOpen kn) 11 3 93), (93, a_iret)]
def fX10_greatestLeast (kn : sKn) : List Value → sW → Option sR := mF (tX10_greatestLeast kn) 5 1000000
set_option maxRecDepth 100000 in
set_option maxHeartbeats 4000000 in
theorem mX10_greatestLeast (kn : sKn) : mM kn yX10_greatestLeast (Cond.code yX10_greatestLeast cX10_greatestLeast 5 (some .int) :: wsL_law) 2 false (fX10_greatestLeast kn) := mM_of (own := RX10) (ini := false) rfl (by decide +kernel) (by decide +kernel) (all_c (ok_iload_n dX10_greatestLeast_0 rfl) (all_c (ok_stk (s_iconst dX10_greatestLeast_1 (by decide))) (all_c (ok_stk (s_isub dX10_greatestLeast_2)) (all_c (ok_istore_n dX10_greatestLeast_3 rfl (by decide)) (all_c (ok_iload_n dX10_greatestLeast_4 rfl) (all_c (ok_if_lt dX10_greatestLeast_5 (by decide)) (all_c (ok_stk (s_iconst dX10_greatestLeast_8 (by decide))) (all_c (ok_istore_n dX10_greatestLeast_9 rfl (by decide)) (all_c (ok_iload_n dX10_greatestLeast_10 rfl) (all_c (ok_stk (s_iconst dX10_greatestLeast_11 (by decide))) (all_c (ok_icmp_ge dX10_greatestLeast_12 (by decide)) (all_c (ok_stk (s_iconst dX10_greatestLeast_15 (by decide))) (all_c (ok_iload_n dX10_greatestLeast_16 rfl) (all_c (ok_stk (s_imul dX10_greatestLeast_17)) (all_c (ok_iload_n dX10_greatestLeast_18 rfl) (all_c (ok_stk (s_iadd dX10_greatestLeast_19)) (all_c (ok_istore dX10_greatestLeast_20 (by decide)) (all_c (ok_aload_n dX10_greatestLeast_22 rfl) (all_c (okg_X10_2 kw83 dX10_greatestLeast_23) (all_c (ok_iload dX10_greatestLeast_26) (all_c (ok_aload_n dX10_greatestLeast_28 rfl) (all_c (okg_X10_1 kw84 dX10_greatestLeast_29) (all_c (ok_iload dX10_greatestLeast_32) (all_c (ok_iald dX10_greatestLeast_34) (all_c (ok_iast dX10_greatestLeast_35) (all_c (ok_iload_n dX10_greatestLeast_36 rfl) (all_c (ok_iload_n dX10_greatestLeast_37 rfl) (all_c (ok_stk (s_iconst dX10_greatestLeast_38 (by decide))) (all_c (ok_stk (s_isub dX10_greatestLeast_39)) (all_c (ok_icmp_ge dX10_greatestLeast_40 (by decide)) (all_c (ok_aload_n dX10_greatestLeast_43 rfl) (all_c (okg_X10_2 kw83 dX10_greatestLeast_44) (all_c (ok_iload dX10_greatestLeast_47) (all_c (ok_aload_n dX10_greatestLeast_49 rfl) (all_c (okg_X10_1 kw84 dX10_greatestLeast_50) (all_c (ok_iload dX10_greatestLeast_53) (all_c (ok_iald dX10_greatestLeast_55) (all_c (ok_aload_n dX10_greatestLeast_56 rfl) (all_c (ok_iload_n dX10_greatestLeast_57 rfl) (all_c (ok_stk (s_iconst dX10_greatestLeast_58 (by decide))) (all_c (ok_stk (s_iadd dX10_greatestLeast_59)) (all_c (ok_openN (by decide +kernel) dX10_greatestLeast_60) (all_c (ok_stk (s_iconst dX10_greatestLeast_63 (by decide))) (all_c (ok_iload_n dX10_greatestLeast_64 rfl) (all_c (ok_stk (s_ishl dX10_greatestLeast_65)) (all_c (ok_iald dX10_greatestLeast_66) (all_c (okc_X10_bestOpen (by decide) kw88 dX10_greatestLeast_67) (all_c (ok_mmin (by decide) kw89 kw90 kw64 kw91 dX10_greatestLeast_70) (all_c (ok_iast dX10_greatestLeast_73) (all_c (ok_iinc dX10_greatestLeast_74 (by decide) (by decide)) (all_c (ok_goto dX10_greatestLeast_77 (by decide)) (all_c (ok_iinc dX10_greatestLeast_80 (by decide) (by decide)) (all_c (ok_goto dX10_greatestLeast_83 (by decide)) (all_c (ok_aload_n dX10_greatestLeast_86 rfl) (all_c (ok_stk (s_iconst dX10_greatestLeast_87 (by decide))) (all_c (ok_stk (s_bipush dX10_greatestLeast_88 (by decide))) (all_c (okc_X10_bestOpen (by decide) kw88 dX10_greatestLeast_90) (all_c (ok_iret dX10_greatestLeast_93) all_n)))))))))))))))))))))))))))))))))))))))))))))))))))))))))) 1000000 (fun h => by first | rfl | cases h)
theorem dX10_init_0 : decode cX10_init 0 = .ok (.aload_n 0, 1) := by decide +kernel
theorem dX10_init_1 : decode cX10_init 1 = .ok (.invokespecial 3, 3) := by decide +kernel
theorem dX10_init_4 : decode cX10_init 4 = .ok (.aload_n 0, 1) := by decide +kernel
theorem dX10_init_5 : decode cX10_init 5 = .ok (.bipush 36, 2) := by decide +kernel
theorem dX10_init_7 : decode cX10_init 7 = .ok (.newarray .int, 2) := by decide +kernel
theorem dX10_init_9 : decode cX10_init 9 = .ok (.putfield 9, 3) := by decide +kernel
theorem dX10_init_12 : decode cX10_init 12 = .ok (.aload_n 0, 1) := by decide +kernel
theorem dX10_init_13 : decode cX10_init 13 = .ok (.bipush 48, 2) := by decide +kernel
theorem dX10_init_15 : decode cX10_init 15 = .ok (.newarray .int, 2) := by decide +kernel
theorem dX10_init_17 : decode cX10_init 17 = .ok (.putfield 15, 3) := by decide +kernel
theorem dX10_init_20 : decode cX10_init 20 = .ok (.aload_n 0, 1) := by decide +kernel
theorem dX10_init_21 : decode cX10_init 21 = .ok (.bipush 48, 2) := by decide +kernel
theorem dX10_init_23 : decode cX10_init 23 = .ok (.newarray .int, 2) := by decide +kernel
theorem dX10_init_25 : decode cX10_init 25 = .ok (.putfield 18, 3) := by decide +kernel
theorem dX10_init_28 : decode cX10_init 28 = .ok (.aload_n 0, 1) := by decide +kernel
theorem dX10_init_29 : decode cX10_init 29 = .ok (.bipush 12, 2) := by decide +kernel
theorem dX10_init_31 : decode cX10_init 31 = .ok (.newarray .int, 2) := by decide +kernel
theorem dX10_init_33 : decode cX10_init 33 = .ok (.putfield 21, 3) := by decide +kernel
theorem dX10_init_36 : decode cX10_init 36 = .ok (.return_, 1) := by decide +kernel
def tX10_init (kn : sKn) : List (Nat × sA) := [(0, a_aload 0 1), (1, a_obj 4), (4, a_aload 0 5), (5, a_stk (q_int 36) 7), (7, a_newa 1 9), (9, a_put 11 0 ckR 12), (12, a_aload 0 13), (13, a_stk (q_int 48) 15), (15, a_newa 1 17), (17, a_put 11 1 ckR 20), (20, a_aload 0 21), (21, a_stk (q_int 48) 23), (23, a_newa 1 25), (25, a_put 11 2 ckR 28), (28, a_aload 0 29), (29, a_stk (q_int 12) 31), (31, a_newa 1 33), (33, a_put 11 3 ckR 36), (36, a_vret)]
def fX10_init (kn : sKn) : List Value → sW → Option sR := mF (tX10_init kn) 1 1000000
set_option maxRecDepth 100000 in
set_option maxHeartbeats 4000000 in
theorem mX10_init (kn : sKn) : mM kn yX10_init (Cond.code yX10_init cX10_init 1 none :: wsL_law) 1 true (fX10_init kn) := mM_of (own := RX10) (ini := true) rfl (by decide +kernel) (by decide +kernel) (all_c (ok_aload_n dX10_init_0 rfl) (all_c (ok_obj (by decide) kw92 kw2 kw3 dX10_init_1) (all_c (ok_aload_n dX10_init_4 rfl) (all_c (ok_stk (s_bipush dX10_init_5 (by decide))) (all_c (ok_newI kw31 dX10_init_7) (all_c (okp_X10_0 kw67 dX10_init_9) (all_c (ok_aload_n dX10_init_12 rfl) (all_c (ok_stk (s_bipush dX10_init_13 (by decide))) (all_c (ok_newI kw31 dX10_init_15) (all_c (okp_X10_1 kw84 dX10_init_17) (all_c (ok_aload_n dX10_init_20 rfl) (all_c (ok_stk (s_bipush dX10_init_21 (by decide))) (all_c (ok_newI kw31 dX10_init_23) (all_c (okp_X10_2 kw83 dX10_init_25) (all_c (ok_aload_n dX10_init_28 rfl) (all_c (ok_stk (s_bipush dX10_init_29 (by decide))) (all_c (ok_newI kw31 dX10_init_31) (all_c (okp_X10_3 kw93 dX10_init_33) (all_c (ok_vret dX10_init_36) all_n))))))))))))))))))) 1000000 (fun h => by first | rfl | cases h)
theorem dX10_spareSteps_0 : decode cX10_spareSteps 0 = .ok (.iconst 0, 1) := by decide +kernel
theorem dX10_spareSteps_1 : decode cX10_spareSteps 1 = .ok (.istore 5, 2) := by decide +kernel
theorem dX10_spareSteps_3 : decode cX10_spareSteps 3 = .ok (.iload 5, 2) := by decide +kernel
theorem dX10_spareSteps_5 : decode cX10_spareSteps 5 = .ok (.iload_n 1, 1) := by decide +kernel
theorem dX10_spareSteps_6 : decode cX10_spareSteps 6 = .ok (.if_icmp .ge 90, 3) := by decide +kernel
theorem dX10_spareSteps_9 : decode cX10_spareSteps 9 = .ok (.iconst 0, 1) := by decide +kernel
theorem dX10_spareSteps_10 : decode cX10_spareSteps 10 = .ok (.istore 6, 2) := by decide +kernel
theorem dX10_spareSteps_12 : decode cX10_spareSteps 12 = .ok (.iload 6, 2) := by decide +kernel
theorem dX10_spareSteps_14 : decode cX10_spareSteps 14 = .ok (.iconst 3, 1) := by decide +kernel
theorem dX10_spareSteps_15 : decode cX10_spareSteps 15 = .ok (.if_icmp .ge 52, 3) := by decide +kernel
theorem dX10_spareSteps_18 : decode cX10_spareSteps 18 = .ok (.aload_n 0, 1) := by decide +kernel
theorem dX10_spareSteps_19 : decode cX10_spareSteps 19 = .ok (.iload 5, 2) := by decide +kernel
theorem dX10_spareSteps_21 : decode cX10_spareSteps 21 = .ok (.iload 6, 2) := by decide +kernel
theorem dX10_spareSteps_23 : decode cX10_spareSteps 23 = .ok (.iload_n 3, 1) := by decide +kernel
theorem dX10_spareSteps_24 : decode cX10_spareSteps 24 = .ok (.invokevirtual 62, 3) := by decide +kernel
theorem dX10_spareSteps_27 : decode cX10_spareSteps 27 = .ok (.istore 7, 2) := by decide +kernel
theorem dX10_spareSteps_29 : decode cX10_spareSteps 29 = .ok (.aload_n 0, 1) := by decide +kernel
theorem dX10_spareSteps_30 : decode cX10_spareSteps 30 = .ok (.getfield 15, 3) := by decide +kernel
theorem dX10_spareSteps_33 : decode cX10_spareSteps 33 = .ok (.iconst 4, 1) := by decide +kernel
theorem dX10_spareSteps_34 : decode cX10_spareSteps 34 = .ok (.iload 5, 2) := by decide +kernel
theorem dX10_spareSteps_36 : decode cX10_spareSteps 36 = .ok (.imul, 1) := by decide +kernel
theorem dX10_spareSteps_37 : decode cX10_spareSteps 37 = .ok (.iload 6, 2) := by decide +kernel
theorem dX10_spareSteps_39 : decode cX10_spareSteps 39 = .ok (.iadd, 1) := by decide +kernel
theorem dX10_spareSteps_40 : decode cX10_spareSteps 40 = .ok (.iload 7, 2) := by decide +kernel
theorem dX10_spareSteps_42 : decode cX10_spareSteps 42 = .ok (.iconst (-1), 1) := by decide +kernel
theorem dX10_spareSteps_43 : decode cX10_spareSteps 43 = .ok (.if_icmp .eq 9, 3) := by decide +kernel
theorem dX10_spareSteps_46 : decode cX10_spareSteps 46 = .ok (.iload 7, 2) := by decide +kernel
theorem dX10_spareSteps_48 : decode cX10_spareSteps 48 = .ok (.iload_n 2, 1) := by decide +kernel
theorem dX10_spareSteps_49 : decode cX10_spareSteps 49 = .ok (.if_icmp .ge 7, 3) := by decide +kernel
theorem dX10_spareSteps_52 : decode cX10_spareSteps 52 = .ok (.iconst (-1), 1) := by decide +kernel
theorem dX10_spareSteps_53 : decode cX10_spareSteps 53 = .ok (.goto 7, 3) := by decide +kernel
theorem dX10_spareSteps_56 : decode cX10_spareSteps 56 = .ok (.iload 7, 2) := by decide +kernel
theorem dX10_spareSteps_58 : decode cX10_spareSteps 58 = .ok (.iload_n 2, 1) := by decide +kernel
theorem dX10_spareSteps_59 : decode cX10_spareSteps 59 = .ok (.isub, 1) := by decide +kernel
theorem dX10_spareSteps_60 : decode cX10_spareSteps 60 = .ok (.iastore, 1) := by decide +kernel
theorem dX10_spareSteps_61 : decode cX10_spareSteps 61 = .ok (.iinc 6 1, 3) := by decide +kernel
theorem dX10_spareSteps_64 : decode cX10_spareSteps 64 = .ok (.goto (-52), 3) := by decide +kernel
theorem dX10_spareSteps_67 : decode cX10_spareSteps 67 = .ok (.aload_n 0, 1) := by decide +kernel
theorem dX10_spareSteps_68 : decode cX10_spareSteps 68 = .ok (.getfield 15, 3) := by decide +kernel
theorem dX10_spareSteps_71 : decode cX10_spareSteps 71 = .ok (.iconst 4, 1) := by decide +kernel
theorem dX10_spareSteps_72 : decode cX10_spareSteps 72 = .ok (.iload 5, 2) := by decide +kernel
theorem dX10_spareSteps_74 : decode cX10_spareSteps 74 = .ok (.imul, 1) := by decide +kernel
theorem dX10_spareSteps_75 : decode cX10_spareSteps 75 = .ok (.iconst 3, 1) := by decide +kernel
theorem dX10_spareSteps_76 : decode cX10_spareSteps 76 = .ok (.iadd, 1) := by decide +kernel
theorem dX10_spareSteps_77 : decode cX10_spareSteps 77 = .ok (.iload 4, 2) := by decide +kernel
theorem dX10_spareSteps_79 : decode cX10_spareSteps 79 = .ok (.ifCond .eq 9, 3) := by decide +kernel
theorem dX10_spareSteps_82 : decode cX10_spareSteps 82 = .ok (.sipush 999, 3) := by decide +kernel
theorem dX10_spareSteps_85 : decode cX10_spareSteps 85 = .ok (.goto 4, 3) := by decide +kernel
theorem dX10_spareSteps_88 : decode cX10_spareSteps 88 = .ok (.iconst (-1), 1) := by decide +kernel
theorem dX10_spareSteps_89 : decode cX10_spareSteps 89 = .ok (.iastore, 1) := by decide +kernel
theorem dX10_spareSteps_90 : decode cX10_spareSteps 90 = .ok (.iinc 5 1, 3) := by decide +kernel
theorem dX10_spareSteps_93 : decode cX10_spareSteps 93 = .ok (.goto (-90), 3) := by decide +kernel
theorem dX10_spareSteps_96 : decode cX10_spareSteps 96 = .ok (.return_, 1) := by decide +kernel
theorem okc_X10_bearTogether {kn : sKn} {cc : ByteArray} {own : String} {nL : Nat} {D : Nat} {ret : Option FieldType} {ini : Bool} {pc index : Nat} (hD : 1 + 1 ≤ D) (hl : Cond.methodLink own index yX10_bearTogether ∈ wsL_law) (hd : decode cc pc = .ok (.invokevirtual index, 3)) : mOk kn cc own nL wsL_law D ret ini pc (a_callV false (fX10_bearTogether kn) 11 (3 + 1) (pc + 3)) := ok_callV (mX10_bearTogether kn) (good_ws ws_good (fun _ h => h) kw94) hD (by decide) hl kw95 kw96 kw70 ⟨by decide +kernel, by decide +kernel, by decide +kernel⟩ rfl hd
def tX10_spareSteps (kn : sKn) : List (Nat × sA) := [(0, a_stk (q_int 0) 1), (1, a_istore 5 3), (3, a_iload 5 5), (5, a_iload 1 6), (6, a_icmp kn b_ge 3 96 9), (9, a_stk (q_int 0) 10), (10, a_istore 6 12), (12, a_iload 6 14), (14, a_stk (q_int 3) 15), (15, a_icmp kn b_ge 3 67 18), (18, a_aload 0 19), (19, a_iload 5 21), (21, a_iload 6 23), (23, a_iload 3 24), (24, a_callV false (fX10_bearTogether kn) 11 4 27), (27, a_istore 7 29), (29, a_aload 0 30), (30, a_get 11 1 33), (33, a_stk (q_int 4) 34), (34, a_iload 5 36), (36, a_stk q_imul 37), (37, a_iload 6 39), (39, a_stk q_iadd 40), (40, a_iload 7 42), (42, a_stk (q_int (-1)) 43), (43, a_icmp kn b_eq 0 52 46), (46, a_iload 7 48), (48, a_iload 2 49), (49, a_icmp kn b_ge 3 56 52), (52, a_stk (q_int (-1)) 53), (53, a_goto 60), (56, a_iload 7 58), (58, a_iload 2 59), (59, a_stk q_isub 60), (60, a_iast 61), (61, a_iinc 6 1 64), (64, a_goto 12), (67, a_aload 0 68), (68, a_get 11 1 71), (71, a_stk (q_int 4) 72), (72, a_iload 5 74), (74, a_stk q_imul 75), (75, a_stk (q_int 3) 76), (76, a_stk q_iadd 77), (77, a_iload 4 79), (79, a_if kn b_eq 0 88 82), (82, a_stk (q_int 999) 85), (85, a_goto 89), (88, a_stk (q_int (-1)) 89), (89, a_iast 90), (90, a_iinc 5 1 93), (93, a_goto 3), (96, a_vret)]
def fX10_spareSteps (kn : sKn) : List Value → sW → Option sR := mF (tX10_spareSteps kn) 8 1000000
set_option maxRecDepth 100000 in
set_option maxHeartbeats 4000000 in
theorem mX10_spareSteps (kn : sKn) : mM kn yX10_spareSteps (Cond.code yX10_spareSteps cX10_spareSteps 8 none :: wsL_law) 2 true (fX10_spareSteps kn) := mM_of (own := RX10) (ini := false) rfl (by decide +kernel) (by decide +kernel) (all_c (ok_stk (s_iconst dX10_spareSteps_0 (by decide))) (all_c (ok_istore dX10_spareSteps_1 (by decide)) (all_c (ok_iload dX10_spareSteps_3) (all_c (ok_iload_n dX10_spareSteps_5 rfl) (all_c (ok_icmp_ge dX10_spareSteps_6 (by decide)) (all_c (ok_stk (s_iconst dX10_spareSteps_9 (by decide))) (all_c (ok_istore dX10_spareSteps_10 (by decide)) (all_c (ok_iload dX10_spareSteps_12) (all_c (ok_stk (s_iconst dX10_spareSteps_14 (by decide))) (all_c (ok_icmp_ge dX10_spareSteps_15 (by decide)) (all_c (ok_aload_n dX10_spareSteps_18 rfl) (all_c (ok_iload dX10_spareSteps_19) (all_c (ok_iload dX10_spareSteps_21) (all_c (ok_iload_n dX10_spareSteps_23 rfl) (all_c (okc_X10_bearTogether (by decide) kw97 dX10_spareSteps_24) (all_c (ok_istore dX10_spareSteps_27 (by decide)) (all_c (ok_aload_n dX10_spareSteps_29 rfl) (all_c (okg_X10_1 kw84 dX10_spareSteps_30) (all_c (ok_stk (s_iconst dX10_spareSteps_33 (by decide))) (all_c (ok_iload dX10_spareSteps_34) (all_c (ok_stk (s_imul dX10_spareSteps_36)) (all_c (ok_iload dX10_spareSteps_37) (all_c (ok_stk (s_iadd dX10_spareSteps_39)) (all_c (ok_iload dX10_spareSteps_40) (all_c (ok_stk (s_iconst dX10_spareSteps_42 (by decide))) (all_c (ok_icmp_eq dX10_spareSteps_43 (by decide)) (all_c (ok_iload dX10_spareSteps_46) (all_c (ok_iload_n dX10_spareSteps_48 rfl) (all_c (ok_icmp_ge dX10_spareSteps_49 (by decide)) (all_c (ok_stk (s_iconst dX10_spareSteps_52 (by decide))) (all_c (ok_goto dX10_spareSteps_53 (by decide)) (all_c (ok_iload dX10_spareSteps_56) (all_c (ok_iload_n dX10_spareSteps_58 rfl) (all_c (ok_stk (s_isub dX10_spareSteps_59)) (all_c (ok_iast dX10_spareSteps_60) (all_c (ok_iinc dX10_spareSteps_61 (by decide) (by decide)) (all_c (ok_goto dX10_spareSteps_64 (by decide)) (all_c (ok_aload_n dX10_spareSteps_67 rfl) (all_c (okg_X10_1 kw84 dX10_spareSteps_68) (all_c (ok_stk (s_iconst dX10_spareSteps_71 (by decide))) (all_c (ok_iload dX10_spareSteps_72) (all_c (ok_stk (s_imul dX10_spareSteps_74)) (all_c (ok_stk (s_iconst dX10_spareSteps_75 (by decide))) (all_c (ok_stk (s_iadd dX10_spareSteps_76)) (all_c (ok_iload dX10_spareSteps_77) (all_c (ok_if_eq dX10_spareSteps_79 (by decide)) (all_c (ok_stk (s_sipush dX10_spareSteps_82 (by decide))) (all_c (ok_goto dX10_spareSteps_85 (by decide)) (all_c (ok_stk (s_iconst dX10_spareSteps_88 (by decide))) (all_c (ok_iast dX10_spareSteps_89) (all_c (ok_iinc dX10_spareSteps_90 (by decide) (by decide)) (all_c (ok_goto dX10_spareSteps_93 (by decide)) (all_c (ok_vret dX10_spareSteps_96) all_n))))))))))))))))))))))))))))))))))))))))))))))))))))) 1000000 (fun h => by first | rfl | cases h)
theorem dX10_mostWeight_0 : decode cX10_mostWeight 0 = .ok (.aload_n 0, 1) := by decide +kernel
theorem dX10_mostWeight_1 : decode cX10_mostWeight 1 = .ok (.aload_n 1, 1) := by decide +kernel
theorem dX10_mostWeight_2 : decode cX10_mostWeight 2 = .ok (.aload_n 2, 1) := by decide +kernel
theorem dX10_mostWeight_3 : decode cX10_mostWeight 3 = .ok (.invokevirtual 58, 3) := by decide +kernel
theorem dX10_mostWeight_6 : decode cX10_mostWeight 6 = .ok (.aload_n 0, 1) := by decide +kernel
theorem dX10_mostWeight_7 : decode cX10_mostWeight 7 = .ok (.aload_n 1, 1) := by decide +kernel
theorem dX10_mostWeight_8 : decode cX10_mostWeight 8 = .ok (.getfield 51, 3) := by decide +kernel
theorem dX10_mostWeight_11 : decode cX10_mostWeight 11 = .ok (.iconst 0, 1) := by decide +kernel
theorem dX10_mostWeight_12 : decode cX10_mostWeight 12 = .ok (.iload_n 3, 1) := by decide +kernel
theorem dX10_mostWeight_13 : decode cX10_mostWeight 13 = .ok (.iconst 0, 1) := by decide +kernel
theorem dX10_mostWeight_14 : decode cX10_mostWeight 14 = .ok (.invokevirtual 99, 3) := by decide +kernel
theorem dX10_mostWeight_17 : decode cX10_mostWeight 17 = .ok (.iconst 0, 1) := by decide +kernel
theorem dX10_mostWeight_18 : decode cX10_mostWeight 18 = .ok (.aload_n 0, 1) := by decide +kernel
theorem dX10_mostWeight_19 : decode cX10_mostWeight 19 = .ok (.aload_n 1, 1) := by decide +kernel
theorem dX10_mostWeight_20 : decode cX10_mostWeight 20 = .ok (.getfield 51, 3) := by decide +kernel
theorem dX10_mostWeight_23 : decode cX10_mostWeight 23 = .ok (.invokevirtual 103, 3) := by decide +kernel
theorem dX10_mostWeight_26 : decode cX10_mostWeight 26 = .ok (.invokestatic 41, 3) := by decide +kernel
theorem dX10_mostWeight_29 : decode cX10_mostWeight 29 = .ok (.ireturn, 1) := by decide +kernel
theorem okc_X10_spareSteps {kn : sKn} {cc : ByteArray} {own : String} {nL : Nat} {D : Nat} {ret : Option FieldType} {ini : Bool} {pc index : Nat} (hD : 2 + 1 ≤ D) (hl : Cond.methodLink own index yX10_spareSteps ∈ wsL_law) (hd : decode cc pc = .ok (.invokevirtual index, 3)) : mOk kn cc own nL wsL_law D ret ini pc (a_callV true (fX10_spareSteps kn) 11 (4 + 1) (pc + 3)) := ok_callV (mX10_spareSteps kn) (good_ws ws_good (fun _ h => h) kw98) hD (by decide) hl kw99 kw100 kw70 ⟨by decide +kernel, by decide +kernel, by decide +kernel⟩ rfl hd
theorem okc_X10_greatestLeast {kn : sKn} {cc : ByteArray} {own : String} {nL : Nat} {D : Nat} {ret : Option FieldType} {ini : Bool} {pc index : Nat} (hD : 2 + 1 ≤ D) (hl : Cond.methodLink own index yX10_greatestLeast ∈ wsL_law) (hd : decode cc pc = .ok (.invokevirtual index, 3)) : mOk kn cc own nL wsL_law D ret ini pc (a_callV false (fX10_greatestLeast kn) 11 (1 + 1) (pc + 3)) := ok_callV (mX10_greatestLeast kn) (good_ws ws_good (fun _ h => h) kw102) hD (by decide) hl kw103 kw104 kw70 ⟨by decide +kernel, by decide +kernel, by decide +kernel⟩ rfl hd
def tX10_mostWeight (kn : sKn) : List (Nat × sA) := [(0, a_aload 0 1), (1, a_aload 1 2), (2, a_aload 2 3), (3, a_callV true (fX10_weigh kn) 11 3 6), (6, a_aload 0 7), (7, a_aload 1 8), (8, a_get 7 0 11), (11, a_stk (q_int 0) 12), (12, a_iload 3 13), (13, a_stk (q_int 0) 14), (14, a_callV true (fX10_spareSteps kn) 11 5 17), (17, a_stk (q_int 0) 18), (18, a_aload 0 19), (19, a_aload 1 20), (20, a_get 7 0 23), (23, a_callV false (fX10_greatestLeast kn) 11 2 26), (26, a_mmax 29), (29, a_iret)]
def fX10_mostWeight (kn : sKn) : List Value → sW → Option sR := mF (tX10_mostWeight kn) 4 1000000
set_option maxRecDepth 100000 in
set_option maxHeartbeats 4000000 in
theorem mX10_mostWeight (kn : sKn) : mM kn yX10_mostWeight (Cond.code yX10_mostWeight cX10_mostWeight 4 (some .int) :: wsL_law) 3 false (fX10_mostWeight kn) := mM_of (own := RX10) (ini := false) rfl (by decide +kernel) (by decide +kernel) (all_c (ok_aload_n dX10_mostWeight_0 rfl) (all_c (ok_aload_n dX10_mostWeight_1 rfl) (all_c (ok_aload_n dX10_mostWeight_2 rfl) (all_c (okc_X10_weigh (by decide) kw76 dX10_mostWeight_3) (all_c (ok_aload_n dX10_mostWeight_6 rfl) (all_c (ok_aload_n dX10_mostWeight_7 rfl) (all_c (okg_X6_0 kw66 dX10_mostWeight_8) (all_c (ok_stk (s_iconst dX10_mostWeight_11 (by decide))) (all_c (ok_iload_n dX10_mostWeight_12 rfl) (all_c (ok_stk (s_iconst dX10_mostWeight_13 (by decide))) (all_c (okc_X10_spareSteps (by decide) kw101 dX10_mostWeight_14) (all_c (ok_stk (s_iconst dX10_mostWeight_17 (by decide))) (all_c (ok_aload_n dX10_mostWeight_18 rfl) (all_c (ok_aload_n dX10_mostWeight_19 rfl) (all_c (okg_X6_0 kw66 dX10_mostWeight_20) (all_c (okc_X10_greatestLeast (by decide) kw105 dX10_mostWeight_23) (all_c (ok_mmax (by decide) kw62 kw63 kw64 kw65 dX10_mostWeight_26) (all_c (ok_iret dX10_mostWeight_29) all_n)))))))))))))))))) 1000000 (fun h => by first | rfl | cases h)
theorem dX11_able_0 : decode cX11_able 0 = .ok (.aload_n 0, 1) := by decide +kernel
theorem dX11_able_1 : decode cX11_able 1 = .ok (.getfield 57, 3) := by decide +kernel
theorem dX11_able_4 : decode cX11_able 4 = .ok (.aload_n 0, 1) := by decide +kernel
theorem dX11_able_5 : decode cX11_able 5 = .ok (.getfield 26, 3) := by decide +kernel
theorem dX11_able_8 : decode cX11_able 8 = .ok (.aload_n 0, 1) := by decide +kernel
theorem dX11_able_9 : decode cX11_able 9 = .ok (.getfield 33, 3) := by decide +kernel
theorem dX11_able_12 : decode cX11_able 12 = .ok (.invokevirtual 298, 3) := by decide +kernel
theorem dX11_able_15 : decode cX11_able 15 = .ok (.invokestatic 301, 3) := by decide +kernel
theorem dX11_able_18 : decode cX11_able 18 = .ok (.ireturn, 1) := by decide +kernel
theorem okc_X10_ableLoads {kn : sKn} {cc : ByteArray} {own : String} {nL : Nat} {D : Nat} {ret : Option FieldType} {ini : Bool} {pc index : Nat} (hD : 3 + 1 ≤ D) (hl : Cond.methodLink own index yX10_ableLoads ∈ wsL_law) (hd : decode cc pc = .ok (.invokevirtual index, 3)) : mOk kn cc own nL wsL_law D ret ini pc (a_callV false (fX10_ableLoads kn) 11 (2 + 1) (pc + 3)) := ok_callV (mX10_ableLoads kn) (good_ws ws_good (fun _ h => h) kw109) hD (by decide) hl kw110 kw111 kw70 ⟨by decide +kernel, by decide +kernel, by decide +kernel⟩ rfl hd
theorem okc_J6_bitCount_0f7a4 {kn : sKn} {cc : ByteArray} {own : String} {nL : Nat} {D : Nat} {ret : Option FieldType} {ini : Bool} {pc index : Nat} (hD : 1 + 1 ≤ D) (hl : Cond.methodLink own index yJ6_bitCount_0f7a4 ∈ wsL_law) (hd : decode cc pc = .ok (.invokestatic index, 3)) : mOk kn cc own nL wsL_law D ret ini pc (a_callS false (fJ6_bitCount_0f7a4 kn) 1 (pc + 3)) := ok_callS (mJ6_bitCount_0f7a4 kn) (good_ws ws_good (fun _ h => h) kw113) hD (by decide) hl kw115 kw114 ⟨by decide +kernel, by decide +kernel, by decide +kernel⟩ hd
def tX11_able (kn : sKn) : List (Nat × sA) := [(0, a_aload 0 1), (1, a_get 12 7 4), (4, a_aload 0 5), (5, a_get 12 2 8), (8, a_aload 0 9), (9, a_get 12 3 12), (12, a_callV false (fX10_ableLoads kn) 11 3 15), (15, a_callS false (fJ6_bitCount_0f7a4 kn) 1 18), (18, a_iret)]
def fX11_able (kn : sKn) : List Value → sW → Option sR := mF (tX11_able kn) 1 1000000
set_option maxRecDepth 100000 in
set_option maxHeartbeats 4000000 in
theorem mX11_able (kn : sKn) : mM kn yX11_able (Cond.code yX11_able cX11_able 1 (some .int) :: wsL_law) 4 false (fX11_able kn) := mM_of (own := RX11) (ini := false) rfl (by decide +kernel) (by decide +kernel) (all_c (ok_aload_n dX11_able_0 rfl) (all_c (okg_X11_7 kw106 dX11_able_1) (all_c (ok_aload_n dX11_able_4 rfl) (all_c (okg_X11_2 kw107 dX11_able_5) (all_c (ok_aload_n dX11_able_8 rfl) (all_c (okg_X11_3 kw108 dX11_able_9) (all_c (okc_X10_ableLoads (by decide) kw112 dX11_able_12) (all_c (okc_J6_bitCount_0f7a4 (by decide) kw116 dX11_able_15) (all_c (ok_iret dX11_able_18) all_n))))))))) 1000000 (fun h => by first | rfl | cases h)
theorem dX11_isRow_0 : decode cX11_isRow 0 = .ok (.iload_n 1, 1) := by decide +kernel
theorem dX11_isRow_1 : decode cX11_isRow 1 = .ok (.ifCond .lt 18, 3) := by decide +kernel
theorem dX11_isRow_4 : decode cX11_isRow 4 = .ok (.iload_n 1, 1) := by decide +kernel
theorem dX11_isRow_5 : decode cX11_isRow 5 = .ok (.aload_n 0, 1) := by decide +kernel
theorem dX11_isRow_6 : decode cX11_isRow 6 = .ok (.getfield 26, 3) := by decide +kernel
theorem dX11_isRow_9 : decode cX11_isRow 9 = .ok (.getfield 398, 3) := by decide +kernel
theorem dX11_isRow_12 : decode cX11_isRow 12 = .ok (.if_icmp .ge 7, 3) := by decide +kernel
theorem dX11_isRow_15 : decode cX11_isRow 15 = .ok (.iconst 1, 1) := by decide +kernel
theorem dX11_isRow_16 : decode cX11_isRow 16 = .ok (.goto 4, 3) := by decide +kernel
theorem dX11_isRow_19 : decode cX11_isRow 19 = .ok (.iconst 0, 1) := by decide +kernel
theorem dX11_isRow_20 : decode cX11_isRow 20 = .ok (.ireturn, 1) := by decide +kernel
def tX11_isRow (kn : sKn) : List (Nat × sA) := [(0, a_iload 1 1), (1, a_if kn b_lt 2 19 4), (4, a_iload 1 5), (5, a_aload 0 6), (6, a_get 12 2 9), (9, a_get 7 0 12), (12, a_icmp kn b_ge 3 19 15), (15, a_stk (q_int 1) 16), (16, a_goto 20), (19, a_stk (q_int 0) 20), (20, a_zret)]
def fX11_isRow (kn : sKn) : List Value → sW → Option sR := mF (tX11_isRow kn) 2 1000000
set_option maxRecDepth 100000 in
set_option maxHeartbeats 4000000 in
theorem mX11_isRow (kn : sKn) : mM kn yX11_isRow (Cond.code yX11_isRow cX11_isRow 2 (some .boolean) :: wsL_law) 1 false (fX11_isRow kn) := mM_of (own := RX11) (ini := false) rfl (by decide +kernel) (by decide +kernel) (all_c (ok_iload_n dX11_isRow_0 rfl) (all_c (ok_if_lt dX11_isRow_1 (by decide)) (all_c (ok_iload_n dX11_isRow_4 rfl) (all_c (ok_aload_n dX11_isRow_5 rfl) (all_c (okg_X11_2 kw107 dX11_isRow_6) (all_c (okg_X6_0 kw117 dX11_isRow_9) (all_c (ok_icmp_ge dX11_isRow_12 (by decide)) (all_c (ok_stk (s_iconst dX11_isRow_15 (by decide))) (all_c (ok_goto dX11_isRow_16 (by decide)) (all_c (ok_stk (s_iconst dX11_isRow_19 (by decide))) (all_c (ok_zret dX11_isRow_20) all_n))))))))))) 1000000 (fun h => by first | rfl | cases h)
theorem dX11_isPlace_0 : decode cX11_isPlace 0 = .ok (.aload_n 0, 1) := by decide +kernel
theorem dX11_isPlace_1 : decode cX11_isPlace 1 = .ok (.iload_n 1, 1) := by decide +kernel
theorem dX11_isPlace_2 : decode cX11_isPlace 2 = .ok (.invokevirtual 279, 3) := by decide +kernel
theorem dX11_isPlace_5 : decode cX11_isPlace 5 = .ok (.ifCond .eq 16, 3) := by decide +kernel
theorem dX11_isPlace_8 : decode cX11_isPlace 8 = .ok (.iload_n 2, 1) := by decide +kernel
theorem dX11_isPlace_9 : decode cX11_isPlace 9 = .ok (.ifCond .lt 12, 3) := by decide +kernel
theorem dX11_isPlace_12 : decode cX11_isPlace 12 = .ok (.iload_n 2, 1) := by decide +kernel
theorem dX11_isPlace_13 : decode cX11_isPlace 13 = .ok (.iconst 3, 1) := by decide +kernel
theorem dX11_isPlace_14 : decode cX11_isPlace 14 = .ok (.if_icmp .ge 7, 3) := by decide +kernel
theorem dX11_isPlace_17 : decode cX11_isPlace 17 = .ok (.iconst 1, 1) := by decide +kernel
theorem dX11_isPlace_18 : decode cX11_isPlace 18 = .ok (.goto 4, 3) := by decide +kernel
theorem dX11_isPlace_21 : decode cX11_isPlace 21 = .ok (.iconst 0, 1) := by decide +kernel
theorem dX11_isPlace_22 : decode cX11_isPlace 22 = .ok (.ireturn, 1) := by decide +kernel
theorem okc_X11_isRow {kn : sKn} {cc : ByteArray} {own : String} {nL : Nat} {D : Nat} {ret : Option FieldType} {ini : Bool} {pc index : Nat} (hD : 1 + 1 ≤ D) (hl : Cond.methodLink own index yX11_isRow ∈ wsL_law) (hd : decode cc pc = .ok (.invokevirtual index, 3)) : mOk kn cc own nL wsL_law D ret ini pc (a_callV false (fX11_isRow kn) 12 (1 + 1) (pc + 3)) := ok_callV (mX11_isRow kn) (good_ws ws_good (fun _ h => h) kw118) hD (by decide) hl kw120 kw121 kw119 ⟨by decide +kernel, by decide +kernel, by decide +kernel⟩ rfl hd
def tX11_isPlace (kn : sKn) : List (Nat × sA) := [(0, a_aload 0 1), (1, a_iload 1 2), (2, a_callV false (fX11_isRow kn) 12 2 5), (5, a_if kn b_eq 0 21 8), (8, a_iload 2 9), (9, a_if kn b_lt 2 21 12), (12, a_iload 2 13), (13, a_stk (q_int 3) 14), (14, a_icmp kn b_ge 3 21 17), (17, a_stk (q_int 1) 18), (18, a_goto 22), (21, a_stk (q_int 0) 22), (22, a_zret)]
def fX11_isPlace (kn : sKn) : List Value → sW → Option sR := mF (tX11_isPlace kn) 3 1000000
set_option maxRecDepth 100000 in
set_option maxHeartbeats 4000000 in
theorem mX11_isPlace (kn : sKn) : mM kn yX11_isPlace (Cond.code yX11_isPlace cX11_isPlace 3 (some .boolean) :: wsL_law) 2 false (fX11_isPlace kn) := mM_of (own := RX11) (ini := false) rfl (by decide +kernel) (by decide +kernel) (all_c (ok_aload_n dX11_isPlace_0 rfl) (all_c (ok_iload_n dX11_isPlace_1 rfl) (all_c (okc_X11_isRow (by decide) kw122 dX11_isPlace_2) (all_c (ok_if_eq dX11_isPlace_5 (by decide)) (all_c (ok_iload_n dX11_isPlace_8 rfl) (all_c (ok_if_lt dX11_isPlace_9 (by decide)) (all_c (ok_iload_n dX11_isPlace_12 rfl) (all_c (ok_stk (s_iconst dX11_isPlace_13 (by decide))) (all_c (ok_icmp_ge dX11_isPlace_14 (by decide)) (all_c (ok_stk (s_iconst dX11_isPlace_17 (by decide))) (all_c (ok_goto dX11_isPlace_18 (by decide)) (all_c (ok_stk (s_iconst dX11_isPlace_21 (by decide))) (all_c (ok_zret dX11_isPlace_22) all_n))))))))))))) 1000000 (fun h => by first | rfl | cases h)
theorem dX11_asked_0 : decode cX11_asked 0 = .ok (.aload_n 0, 1) := by decide +kernel
theorem dX11_asked_1 : decode cX11_asked 1 = .ok (.iload_n 1, 1) := by decide +kernel
theorem dX11_asked_2 : decode cX11_asked 2 = .ok (.iload_n 2, 1) := by decide +kernel
theorem dX11_asked_3 : decode cX11_asked 3 = .ok (.invokevirtual 181, 3) := by decide +kernel
theorem dX11_asked_6 : decode cX11_asked 6 = .ok (.ifCond .ne 5, 3) := by decide +kernel
theorem dX11_asked_9 : decode cX11_asked 9 = .ok (.iconst (-1), 1) := by decide +kernel
theorem dX11_asked_10 : decode cX11_asked 10 = .ok (.ireturn, 1) := by decide +kernel
theorem dX11_asked_11 : decode cX11_asked 11 = .ok (.aload_n 0, 1) := by decide +kernel
theorem dX11_asked_12 : decode cX11_asked 12 = .ok (.getfield 64, 3) := by decide +kernel
theorem dX11_asked_15 : decode cX11_asked 15 = .ok (.getfield 291, 3) := by decide +kernel
theorem dX11_asked_18 : decode cX11_asked 18 = .ok (.iconst 3, 1) := by decide +kernel
theorem dX11_asked_19 : decode cX11_asked 19 = .ok (.iload_n 1, 1) := by decide +kernel
theorem dX11_asked_20 : decode cX11_asked 20 = .ok (.imul, 1) := by decide +kernel
theorem dX11_asked_21 : decode cX11_asked 21 = .ok (.iload_n 2, 1) := by decide +kernel
theorem dX11_asked_22 : decode cX11_asked 22 = .ok (.iadd, 1) := by decide +kernel
theorem dX11_asked_23 : decode cX11_asked 23 = .ok (.iaload, 1) := by decide +kernel
theorem dX11_asked_24 : decode cX11_asked 24 = .ok (.ireturn, 1) := by decide +kernel
theorem okc_X11_isPlace {kn : sKn} {cc : ByteArray} {own : String} {nL : Nat} {D : Nat} {ret : Option FieldType} {ini : Bool} {pc index : Nat} (hD : 2 + 1 ≤ D) (hl : Cond.methodLink own index yX11_isPlace ∈ wsL_law) (hd : decode cc pc = .ok (.invokevirtual index, 3)) : mOk kn cc own nL wsL_law D ret ini pc (a_callV false (fX11_isPlace kn) 12 (2 + 1) (pc + 3)) := ok_callV (mX11_isPlace kn) (good_ws ws_good (fun _ h => h) kw123) hD (by decide) hl kw124 kw125 kw119 ⟨by decide +kernel, by decide +kernel, by decide +kernel⟩ rfl hd
def tX11_asked (kn : sKn) : List (Nat × sA) := [(0, a_aload 0 1), (1, a_iload 1 2), (2, a_iload 2 3), (3, a_callV false (fX11_isPlace kn) 12 3 6), (6, a_if kn b_ne 1 11 9), (9, a_stk (q_int (-1)) 10), (10, a_iret), (11, a_aload 0 12), (12, a_get 12 8 15), (15, a_get 1 4 18), (18, a_stk (q_int 3) 19), (19, a_iload 1 20), (20, a_stk q_imul 21), (21, a_iload 2 22), (22, a_stk q_iadd 23), (23, a_iald 24), (24, a_iret)]
def fX11_asked (kn : sKn) : List Value → sW → Option sR := mF (tX11_asked kn) 3 1000000
set_option maxRecDepth 100000 in
set_option maxHeartbeats 4000000 in
theorem mX11_asked (kn : sKn) : mM kn yX11_asked (Cond.code yX11_asked cX11_asked 3 (some .int) :: wsL_law) 3 false (fX11_asked kn) := mM_of (own := RX11) (ini := false) rfl (by decide +kernel) (by decide +kernel) (all_c (ok_aload_n dX11_asked_0 rfl) (all_c (ok_iload_n dX11_asked_1 rfl) (all_c (ok_iload_n dX11_asked_2 rfl) (all_c (okc_X11_isPlace (by decide) kw126 dX11_asked_3) (all_c (ok_if_ne dX11_asked_6 (by decide)) (all_c (ok_stk (s_iconst dX11_asked_9 (by decide))) (all_c (ok_iret dX11_asked_10) (all_c (ok_aload_n dX11_asked_11 rfl) (all_c (okg_X11_8 kw127 dX11_asked_12) (all_c (okg_X0_4 kw128 dX11_asked_15) (all_c (ok_stk (s_iconst dX11_asked_18 (by decide))) (all_c (ok_iload_n dX11_asked_19 rfl) (all_c (ok_stk (s_imul dX11_asked_20)) (all_c (ok_iload_n dX11_asked_21 rfl) (all_c (ok_stk (s_iadd dX11_asked_22)) (all_c (ok_iald dX11_asked_23) (all_c (ok_iret dX11_asked_24) all_n))))))))))))))))) 1000000 (fun h => by first | rfl | cases h)
theorem dX11_isLoad_0 : decode cX11_isLoad 0 = .ok (.iload_n 1, 1) := by decide +kernel
theorem dX11_isLoad_1 : decode cX11_isLoad 1 = .ok (.ifCond .lt 18, 3) := by decide +kernel
theorem dX11_isLoad_4 : decode cX11_isLoad 4 = .ok (.iload_n 1, 1) := by decide +kernel
theorem dX11_isLoad_5 : decode cX11_isLoad 5 = .ok (.aload_n 0, 1) := by decide +kernel
theorem dX11_isLoad_6 : decode cX11_isLoad 6 = .ok (.getfield 26, 3) := by decide +kernel
theorem dX11_isLoad_9 : decode cX11_isLoad 9 = .ok (.getfield 401, 3) := by decide +kernel
theorem dX11_isLoad_12 : decode cX11_isLoad 12 = .ok (.if_icmp .ge 7, 3) := by decide +kernel
theorem dX11_isLoad_15 : decode cX11_isLoad 15 = .ok (.iconst 1, 1) := by decide +kernel
theorem dX11_isLoad_16 : decode cX11_isLoad 16 = .ok (.goto 4, 3) := by decide +kernel
theorem dX11_isLoad_19 : decode cX11_isLoad 19 = .ok (.iconst 0, 1) := by decide +kernel
theorem dX11_isLoad_20 : decode cX11_isLoad 20 = .ok (.ireturn, 1) := by decide +kernel
def tX11_isLoad (kn : sKn) : List (Nat × sA) := [(0, a_iload 1 1), (1, a_if kn b_lt 2 19 4), (4, a_iload 1 5), (5, a_aload 0 6), (6, a_get 12 2 9), (9, a_get 7 3 12), (12, a_icmp kn b_ge 3 19 15), (15, a_stk (q_int 1) 16), (16, a_goto 20), (19, a_stk (q_int 0) 20), (20, a_zret)]
def fX11_isLoad (kn : sKn) : List Value → sW → Option sR := mF (tX11_isLoad kn) 2 1000000
set_option maxRecDepth 100000 in
set_option maxHeartbeats 4000000 in
theorem mX11_isLoad (kn : sKn) : mM kn yX11_isLoad (Cond.code yX11_isLoad cX11_isLoad 2 (some .boolean) :: wsL_law) 1 false (fX11_isLoad kn) := mM_of (own := RX11) (ini := false) rfl (by decide +kernel) (by decide +kernel) (all_c (ok_iload_n dX11_isLoad_0 rfl) (all_c (ok_if_lt dX11_isLoad_1 (by decide)) (all_c (ok_iload_n dX11_isLoad_4 rfl) (all_c (ok_aload_n dX11_isLoad_5 rfl) (all_c (okg_X11_2 kw107 dX11_isLoad_6) (all_c (okg_X6_3 kw129 dX11_isLoad_9) (all_c (ok_icmp_ge dX11_isLoad_12 (by decide)) (all_c (ok_stk (s_iconst dX11_isLoad_15 (by decide))) (all_c (ok_goto dX11_isLoad_16 (by decide)) (all_c (ok_stk (s_iconst dX11_isLoad_19 (by decide))) (all_c (ok_zret dX11_isLoad_20) all_n))))))))))) 1000000 (fun h => by first | rfl | cases h)
theorem dX11_asks_0 : decode cX11_asks 0 = .ok (.aload_n 0, 1) := by decide +kernel
theorem dX11_asks_1 : decode cX11_asks 1 = .ok (.iload_n 1, 1) := by decide +kernel
theorem dX11_asks_2 : decode cX11_asks 2 = .ok (.invokevirtual 201, 3) := by decide +kernel
theorem dX11_asks_5 : decode cX11_asks 5 = .ok (.ifCond .ne 5, 3) := by decide +kernel
theorem dX11_asks_8 : decode cX11_asks 8 = .ok (.iconst (-1), 1) := by decide +kernel
theorem dX11_asks_9 : decode cX11_asks 9 = .ok (.ireturn, 1) := by decide +kernel
theorem dX11_asks_10 : decode cX11_asks 10 = .ok (.aload_n 0, 1) := by decide +kernel
theorem dX11_asks_11 : decode cX11_asks 11 = .ok (.getfield 64, 3) := by decide +kernel
theorem dX11_asks_14 : decode cX11_asks 14 = .ok (.aload_n 0, 1) := by decide +kernel
theorem dX11_asks_15 : decode cX11_asks 15 = .ok (.getfield 26, 3) := by decide +kernel
theorem dX11_asks_18 : decode cX11_asks 18 = .ok (.aload_n 0, 1) := by decide +kernel
theorem dX11_asks_19 : decode cX11_asks 19 = .ok (.getfield 33, 3) := by decide +kernel
theorem dX11_asks_22 : decode cX11_asks 22 = .ok (.iload_n 1, 1) := by decide +kernel
theorem dX11_asks_23 : decode cX11_asks 23 = .ok (.invokevirtual 288, 3) := by decide +kernel
theorem dX11_asks_26 : decode cX11_asks 26 = .ok (.ireturn, 1) := by decide +kernel
theorem okc_X11_isLoad {kn : sKn} {cc : ByteArray} {own : String} {nL : Nat} {D : Nat} {ret : Option FieldType} {ini : Bool} {pc index : Nat} (hD : 1 + 1 ≤ D) (hl : Cond.methodLink own index yX11_isLoad ∈ wsL_law) (hd : decode cc pc = .ok (.invokevirtual index, 3)) : mOk kn cc own nL wsL_law D ret ini pc (a_callV false (fX11_isLoad kn) 12 (1 + 1) (pc + 3)) := ok_callV (mX11_isLoad kn) (good_ws ws_good (fun _ h => h) kw130) hD (by decide) hl kw131 kw132 kw119 ⟨by decide +kernel, by decide +kernel, by decide +kernel⟩ rfl hd
theorem okc0_X0_find {kn : sKn} {cc : ByteArray} {own : String} {nL : Nat} {D : Nat} {ret : Option FieldType} {ini : Bool} {pc index : Nat} (hD : 0 + 1 ≤ D) (hl : Cond.methodLink own index yX0_find ∈ wsL_law) (hd : decode cc pc = .ok (.invokevirtual index, 3)) : mOk kn cc own nL wsL_law D ret ini pc (a_callV false f_none 1 (3 + 1) (pc + 3)) := ok_callV (m_none (D := 0)) (good_ws ws_good (fun _ h => h) kw134) hD (by decide) hl kw136 kw137 kw135 ⟨by decide +kernel, by decide +kernel, by decide +kernel⟩ rfl hd
def tX11_asks (kn : sKn) : List (Nat × sA) := [(0, a_aload 0 1), (1, a_iload 1 2), (2, a_callV false (fX11_isLoad kn) 12 2 5), (5, a_if kn b_ne 1 10 8), (8, a_stk (q_int (-1)) 9), (9, a_iret), (10, a_aload 0 11), (11, a_get 12 8 14), (14, a_aload 0 15), (15, a_get 12 2 18), (18, a_aload 0 19), (19, a_get 12 3 22), (22, a_iload 1 23), (23, a_callV false f_none 1 4 26), (26, a_iret)]
def fX11_asks (kn : sKn) : List Value → sW → Option sR := mF (tX11_asks kn) 2 1000000
set_option maxRecDepth 100000 in
set_option maxHeartbeats 4000000 in
theorem mX11_asks (kn : sKn) : mM kn yX11_asks (Cond.code yX11_asks cX11_asks 2 (some .int) :: wsL_law) 2 false (fX11_asks kn) := mM_of (own := RX11) (ini := false) rfl (by decide +kernel) (by decide +kernel) (all_c (ok_aload_n dX11_asks_0 rfl) (all_c (ok_iload_n dX11_asks_1 rfl) (all_c (okc_X11_isLoad (by decide) kw133 dX11_asks_2) (all_c (ok_if_ne dX11_asks_5 (by decide)) (all_c (ok_stk (s_iconst dX11_asks_8 (by decide))) (all_c (ok_iret dX11_asks_9) (all_c (ok_aload_n dX11_asks_10 rfl) (all_c (okg_X11_8 kw127 dX11_asks_11) (all_c (ok_aload_n dX11_asks_14 rfl) (all_c (okg_X11_2 kw107 dX11_asks_15) (all_c (ok_aload_n dX11_asks_18 rfl) (all_c (okg_X11_3 kw108 dX11_asks_19) (all_c (ok_iload_n dX11_asks_22 rfl) (all_c (okc0_X0_find (by decide) kw138 dX11_asks_23) (all_c (ok_iret dX11_asks_26) all_n))))))))))))))) 1000000 (fun h => by first | rfl | cases h)
theorem dX11_keepRemembered_0 : decode cX11_keepRemembered 0 = .ok (.aload_n 0, 1) := by decide +kernel
theorem dX11_keepRemembered_1 : decode cX11_keepRemembered 1 = .ok (.aload_n 0, 1) := by decide +kernel
theorem dX11_keepRemembered_2 : decode cX11_keepRemembered 2 = .ok (.getfield 270, 3) := by decide +kernel
theorem dX11_keepRemembered_5 : decode cX11_keepRemembered 5 = .ok (.bipush 8, 2) := by decide +kernel
theorem dX11_keepRemembered_7 : decode cX11_keepRemembered 7 = .ok (.if_icmp .ne 7, 3) := by decide +kernel
theorem dX11_keepRemembered_10 : decode cX11_keepRemembered 10 = .ok (.iconst 0, 1) := by decide +kernel
theorem dX11_keepRemembered_11 : decode cX11_keepRemembered 11 = .ok (.goto 9, 3) := by decide +kernel
theorem dX11_keepRemembered_14 : decode cX11_keepRemembered 14 = .ok (.aload_n 0, 1) := by decide +kernel
theorem dX11_keepRemembered_15 : decode cX11_keepRemembered 15 = .ok (.getfield 270, 3) := by decide +kernel
theorem dX11_keepRemembered_18 : decode cX11_keepRemembered 18 = .ok (.iconst 1, 1) := by decide +kernel
theorem dX11_keepRemembered_19 : decode cX11_keepRemembered 19 = .ok (.iadd, 1) := by decide +kernel
theorem dX11_keepRemembered_20 : decode cX11_keepRemembered 20 = .ok (.putfield 270, 3) := by decide +kernel
theorem dX11_keepRemembered_23 : decode cX11_keepRemembered 23 = .ok (.aload_n 0, 1) := by decide +kernel
theorem dX11_keepRemembered_24 : decode cX11_keepRemembered 24 = .ok (.bipush 8, 2) := by decide +kernel
theorem dX11_keepRemembered_26 : decode cX11_keepRemembered 26 = .ok (.aload_n 0, 1) := by decide +kernel
theorem dX11_keepRemembered_27 : decode cX11_keepRemembered 27 = .ok (.getfield 141, 3) := by decide +kernel
theorem dX11_keepRemembered_30 : decode cX11_keepRemembered 30 = .ok (.iconst 1, 1) := by decide +kernel
theorem dX11_keepRemembered_31 : decode cX11_keepRemembered 31 = .ok (.iadd, 1) := by decide +kernel
theorem dX11_keepRemembered_32 : decode cX11_keepRemembered 32 = .ok (.invokestatic 412, 3) := by decide +kernel
theorem dX11_keepRemembered_35 : decode cX11_keepRemembered 35 = .ok (.putfield 141, 3) := by decide +kernel
theorem dX11_keepRemembered_38 : decode cX11_keepRemembered 38 = .ok (.return_, 1) := by decide +kernel
def tX11_keepRemembered (kn : sKn) : List (Nat × sA) := [(0, a_aload 0 1), (1, a_aload 0 2), (2, a_get 12 14 5), (5, a_stk (q_int 8) 7), (7, a_icmp kn b_ne 1 14 10), (10, a_stk (q_int 0) 11), (11, a_goto 20), (14, a_aload 0 15), (15, a_get 12 14 18), (18, a_stk (q_int 1) 19), (19, a_stk q_iadd 20), (20, a_put 12 14 ckI 23), (23, a_aload 0 24), (24, a_stk (q_int 8) 26), (26, a_aload 0 27), (27, a_get 12 15 30), (30, a_stk (q_int 1) 31), (31, a_stk q_iadd 32), (32, a_mmin 35), (35, a_put 12 15 ckI 38), (38, a_vret)]
def fX11_keepRemembered (kn : sKn) : List Value → sW → Option sR := mF (tX11_keepRemembered kn) 1 1000000
set_option maxRecDepth 100000 in
set_option maxHeartbeats 4000000 in
theorem mX11_keepRemembered (kn : sKn) : mM kn yX11_keepRemembered (Cond.code yX11_keepRemembered cX11_keepRemembered 1 none :: wsL_law) 1 true (fX11_keepRemembered kn) := mM_of (own := RX11) (ini := false) rfl (by decide +kernel) (by decide +kernel) (all_c (ok_aload_n dX11_keepRemembered_0 rfl) (all_c (ok_aload_n dX11_keepRemembered_1 rfl) (all_c (okg_X11_14 kw139 dX11_keepRemembered_2) (all_c (ok_stk (s_bipush dX11_keepRemembered_5 (by decide))) (all_c (ok_icmp_ne dX11_keepRemembered_7 (by decide)) (all_c (ok_stk (s_iconst dX11_keepRemembered_10 (by decide))) (all_c (ok_goto dX11_keepRemembered_11 (by decide)) (all_c (ok_aload_n dX11_keepRemembered_14 rfl) (all_c (okg_X11_14 kw139 dX11_keepRemembered_15) (all_c (ok_stk (s_iconst dX11_keepRemembered_18 (by decide))) (all_c (ok_stk (s_iadd dX11_keepRemembered_19)) (all_c (okp_X11_14 kw139 dX11_keepRemembered_20) (all_c (ok_aload_n dX11_keepRemembered_23 rfl) (all_c (ok_stk (s_bipush dX11_keepRemembered_24 (by decide))) (all_c (ok_aload_n dX11_keepRemembered_26 rfl) (all_c (okg_X11_15 kw140 dX11_keepRemembered_27) (all_c (ok_stk (s_iconst dX11_keepRemembered_30 (by decide))) (all_c (ok_stk (s_iadd dX11_keepRemembered_31)) (all_c (ok_mmin (by decide) kw141 kw90 kw64 kw91 dX11_keepRemembered_32) (all_c (okp_X11_15 kw140 dX11_keepRemembered_35) (all_c (ok_vret dX11_keepRemembered_38) all_n))))))))))))))))))))) 1000000 (fun h => by first | rfl | cases h)
theorem dX8_copyOf_0 : decode cX8_copyOf 0 = .ok (.aload_n 0, 1) := by decide +kernel
theorem dX8_copyOf_1 : decode cX8_copyOf 1 = .ok (.aload_n 1, 1) := by decide +kernel
theorem dX8_copyOf_2 : decode cX8_copyOf 2 = .ok (.getfield 36, 3) := by decide +kernel
theorem dX8_copyOf_5 : decode cX8_copyOf 5 = .ok (.putfield 36, 3) := by decide +kernel
theorem dX8_copyOf_8 : decode cX8_copyOf 8 = .ok (.aload_n 0, 1) := by decide +kernel
theorem dX8_copyOf_9 : decode cX8_copyOf 9 = .ok (.aload_n 1, 1) := by decide +kernel
theorem dX8_copyOf_10 : decode cX8_copyOf 10 = .ok (.getfield 40, 3) := by decide +kernel
theorem dX8_copyOf_13 : decode cX8_copyOf 13 = .ok (.putfield 40, 3) := by decide +kernel
theorem dX8_copyOf_16 : decode cX8_copyOf 16 = .ok (.aload_n 0, 1) := by decide +kernel
theorem dX8_copyOf_17 : decode cX8_copyOf 17 = .ok (.aload_n 1, 1) := by decide +kernel
theorem dX8_copyOf_18 : decode cX8_copyOf 18 = .ok (.getfield 43, 3) := by decide +kernel
theorem dX8_copyOf_21 : decode cX8_copyOf 21 = .ok (.putfield 43, 3) := by decide +kernel
theorem dX8_copyOf_24 : decode cX8_copyOf 24 = .ok (.aload_n 1, 1) := by decide +kernel
theorem dX8_copyOf_25 : decode cX8_copyOf 25 = .ok (.getfield 9, 3) := by decide +kernel
theorem dX8_copyOf_28 : decode cX8_copyOf 28 = .ok (.iconst 0, 1) := by decide +kernel
theorem dX8_copyOf_29 : decode cX8_copyOf 29 = .ok (.aload_n 0, 1) := by decide +kernel
theorem dX8_copyOf_30 : decode cX8_copyOf 30 = .ok (.getfield 9, 3) := by decide +kernel
theorem dX8_copyOf_33 : decode cX8_copyOf 33 = .ok (.iconst 0, 1) := by decide +kernel
theorem dX8_copyOf_34 : decode cX8_copyOf 34 = .ok (.bipush 10, 2) := by decide +kernel
theorem dX8_copyOf_36 : decode cX8_copyOf 36 = .ok (.invokestatic 49, 3) := by decide +kernel
theorem dX8_copyOf_39 : decode cX8_copyOf 39 = .ok (.aload_n 1, 1) := by decide +kernel
theorem dX8_copyOf_40 : decode cX8_copyOf 40 = .ok (.getfield 15, 3) := by decide +kernel
theorem dX8_copyOf_43 : decode cX8_copyOf 43 = .ok (.iconst 0, 1) := by decide +kernel
theorem dX8_copyOf_44 : decode cX8_copyOf 44 = .ok (.aload_n 0, 1) := by decide +kernel
theorem dX8_copyOf_45 : decode cX8_copyOf 45 = .ok (.getfield 15, 3) := by decide +kernel
theorem dX8_copyOf_48 : decode cX8_copyOf 48 = .ok (.iconst 0, 1) := by decide +kernel
theorem dX8_copyOf_49 : decode cX8_copyOf 49 = .ok (.bipush 10, 2) := by decide +kernel
theorem dX8_copyOf_51 : decode cX8_copyOf 51 = .ok (.invokestatic 49, 3) := by decide +kernel
theorem dX8_copyOf_54 : decode cX8_copyOf 54 = .ok (.aload_n 1, 1) := by decide +kernel
theorem dX8_copyOf_55 : decode cX8_copyOf 55 = .ok (.getfield 18, 3) := by decide +kernel
theorem dX8_copyOf_58 : decode cX8_copyOf 58 = .ok (.iconst 0, 1) := by decide +kernel
theorem dX8_copyOf_59 : decode cX8_copyOf 59 = .ok (.aload_n 0, 1) := by decide +kernel
theorem dX8_copyOf_60 : decode cX8_copyOf 60 = .ok (.getfield 18, 3) := by decide +kernel
theorem dX8_copyOf_63 : decode cX8_copyOf 63 = .ok (.iconst 0, 1) := by decide +kernel
theorem dX8_copyOf_64 : decode cX8_copyOf 64 = .ok (.bipush 10, 2) := by decide +kernel
theorem dX8_copyOf_66 : decode cX8_copyOf 66 = .ok (.invokestatic 49, 3) := by decide +kernel
theorem dX8_copyOf_69 : decode cX8_copyOf 69 = .ok (.aload_n 1, 1) := by decide +kernel
theorem dX8_copyOf_70 : decode cX8_copyOf 70 = .ok (.getfield 21, 3) := by decide +kernel
theorem dX8_copyOf_73 : decode cX8_copyOf 73 = .ok (.iconst 0, 1) := by decide +kernel
theorem dX8_copyOf_74 : decode cX8_copyOf 74 = .ok (.aload_n 0, 1) := by decide +kernel
theorem dX8_copyOf_75 : decode cX8_copyOf 75 = .ok (.getfield 21, 3) := by decide +kernel
theorem dX8_copyOf_78 : decode cX8_copyOf 78 = .ok (.iconst 0, 1) := by decide +kernel
theorem dX8_copyOf_79 : decode cX8_copyOf 79 = .ok (.bipush 36, 2) := by decide +kernel
theorem dX8_copyOf_81 : decode cX8_copyOf 81 = .ok (.invokestatic 49, 3) := by decide +kernel
theorem dX8_copyOf_84 : decode cX8_copyOf 84 = .ok (.aload_n 1, 1) := by decide +kernel
theorem dX8_copyOf_85 : decode cX8_copyOf 85 = .ok (.getfield 24, 3) := by decide +kernel
theorem dX8_copyOf_88 : decode cX8_copyOf 88 = .ok (.iconst 0, 1) := by decide +kernel
theorem dX8_copyOf_89 : decode cX8_copyOf 89 = .ok (.aload_n 0, 1) := by decide +kernel
theorem dX8_copyOf_90 : decode cX8_copyOf 90 = .ok (.getfield 24, 3) := by decide +kernel
theorem dX8_copyOf_93 : decode cX8_copyOf 93 = .ok (.iconst 0, 1) := by decide +kernel
theorem dX8_copyOf_94 : decode cX8_copyOf 94 = .ok (.bipush 36, 2) := by decide +kernel
theorem dX8_copyOf_96 : decode cX8_copyOf 96 = .ok (.invokestatic 49, 3) := by decide +kernel
theorem dX8_copyOf_99 : decode cX8_copyOf 99 = .ok (.aload_n 1, 1) := by decide +kernel
theorem dX8_copyOf_100 : decode cX8_copyOf 100 = .ok (.getfield 27, 3) := by decide +kernel
theorem dX8_copyOf_103 : decode cX8_copyOf 103 = .ok (.iconst 0, 1) := by decide +kernel
theorem dX8_copyOf_104 : decode cX8_copyOf 104 = .ok (.aload_n 0, 1) := by decide +kernel
theorem dX8_copyOf_105 : decode cX8_copyOf 105 = .ok (.getfield 27, 3) := by decide +kernel
theorem dX8_copyOf_108 : decode cX8_copyOf 108 = .ok (.iconst 0, 1) := by decide +kernel
theorem dX8_copyOf_109 : decode cX8_copyOf 109 = .ok (.bipush 6, 2) := by decide +kernel
theorem dX8_copyOf_111 : decode cX8_copyOf 111 = .ok (.invokestatic 49, 3) := by decide +kernel
theorem dX8_copyOf_114 : decode cX8_copyOf 114 = .ok (.return_, 1) := by decide +kernel
def tX8_copyOf (kn : sKn) : List (Nat × sA) := [(0, a_aload 0 1), (1, a_aload 1 2), (2, a_get 9 0 5), (5, a_put 9 0 ckI 8), (8, a_aload 0 9), (9, a_aload 1 10), (10, a_get 9 1 13), (13, a_put 9 1 ckI 16), (16, a_aload 0 17), (17, a_aload 1 18), (18, a_get 9 2 21), (21, a_put 9 2 ckI 24), (24, a_aload 1 25), (25, a_get 9 3 28), (28, a_stk (q_int 0) 29), (29, a_aload 0 30), (30, a_get 9 3 33), (33, a_stk (q_int 0) 34), (34, a_stk (q_int 10) 36), (36, a_copy 39), (39, a_aload 1 40), (40, a_get 9 4 43), (43, a_stk (q_int 0) 44), (44, a_aload 0 45), (45, a_get 9 4 48), (48, a_stk (q_int 0) 49), (49, a_stk (q_int 10) 51), (51, a_copy 54), (54, a_aload 1 55), (55, a_get 9 5 58), (58, a_stk (q_int 0) 59), (59, a_aload 0 60), (60, a_get 9 5 63), (63, a_stk (q_int 0) 64), (64, a_stk (q_int 10) 66), (66, a_copy 69), (69, a_aload 1 70), (70, a_get 9 6 73), (73, a_stk (q_int 0) 74), (74, a_aload 0 75), (75, a_get 9 6 78), (78, a_stk (q_int 0) 79), (79, a_stk (q_int 36) 81), (81, a_copy 84), (84, a_aload 1 85), (85, a_get 9 7 88), (88, a_stk (q_int 0) 89), (89, a_aload 0 90), (90, a_get 9 7 93), (93, a_stk (q_int 0) 94), (94, a_stk (q_int 36) 96), (96, a_copy 99), (99, a_aload 1 100), (100, a_get 9 8 103), (103, a_stk (q_int 0) 104), (104, a_aload 0 105), (105, a_get 9 8 108), (108, a_stk (q_int 0) 109), (109, a_stk (q_int 6) 111), (111, a_copy 114), (114, a_vret)]
def fX8_copyOf (kn : sKn) : List Value → sW → Option sR := mF (tX8_copyOf kn) 2 1000000
set_option maxRecDepth 100000 in
set_option maxHeartbeats 4000000 in
theorem mX8_copyOf (kn : sKn) : mM kn yX8_copyOf (Cond.code yX8_copyOf cX8_copyOf 2 none :: wsL_law) 1 true (fX8_copyOf kn) := mM_of (own := RX8) (ini := false) rfl (by decide +kernel) (by decide +kernel) (all_c (ok_aload_n dX8_copyOf_0 rfl) (all_c (ok_aload_n dX8_copyOf_1 rfl) (all_c (okg_X8_0 kw142 dX8_copyOf_2) (all_c (okp_X8_0 kw142 dX8_copyOf_5) (all_c (ok_aload_n dX8_copyOf_8 rfl) (all_c (ok_aload_n dX8_copyOf_9 rfl) (all_c (okg_X8_1 kw143 dX8_copyOf_10) (all_c (okp_X8_1 kw143 dX8_copyOf_13) (all_c (ok_aload_n dX8_copyOf_16 rfl) (all_c (ok_aload_n dX8_copyOf_17 rfl) (all_c (okg_X8_2 kw144 dX8_copyOf_18) (all_c (okp_X8_2 kw144 dX8_copyOf_21) (all_c (ok_aload_n dX8_copyOf_24 rfl) (all_c (okg_X8_3 kw32 dX8_copyOf_25) (all_c (ok_stk (s_iconst dX8_copyOf_28 (by decide))) (all_c (ok_aload_n dX8_copyOf_29 rfl) (all_c (okg_X8_3 kw32 dX8_copyOf_30) (all_c (ok_stk (s_iconst dX8_copyOf_33 (by decide))) (all_c (ok_stk (s_bipush dX8_copyOf_34 (by decide))) (all_c (ok_copy (by decide) kw145 kw146 kw147 kw148 dX8_copyOf_36) (all_c (ok_aload_n dX8_copyOf_39 rfl) (all_c (okg_X8_4 kw33 dX8_copyOf_40) (all_c (ok_stk (s_iconst dX8_copyOf_43 (by decide))) (all_c (ok_aload_n dX8_copyOf_44 rfl) (all_c (okg_X8_4 kw33 dX8_copyOf_45) (all_c (ok_stk (s_iconst dX8_copyOf_48 (by decide))) (all_c (ok_stk (s_bipush dX8_copyOf_49 (by decide))) (all_c (ok_copy (by decide) kw145 kw146 kw147 kw148 dX8_copyOf_51) (all_c (ok_aload_n dX8_copyOf_54 rfl) (all_c (okg_X8_5 kw34 dX8_copyOf_55) (all_c (ok_stk (s_iconst dX8_copyOf_58 (by decide))) (all_c (ok_aload_n dX8_copyOf_59 rfl) (all_c (okg_X8_5 kw34 dX8_copyOf_60) (all_c (ok_stk (s_iconst dX8_copyOf_63 (by decide))) (all_c (ok_stk (s_bipush dX8_copyOf_64 (by decide))) (all_c (ok_copy (by decide) kw145 kw146 kw147 kw148 dX8_copyOf_66) (all_c (ok_aload_n dX8_copyOf_69 rfl) (all_c (okg_X8_6 kw35 dX8_copyOf_70) (all_c (ok_stk (s_iconst dX8_copyOf_73 (by decide))) (all_c (ok_aload_n dX8_copyOf_74 rfl) (all_c (okg_X8_6 kw35 dX8_copyOf_75) (all_c (ok_stk (s_iconst dX8_copyOf_78 (by decide))) (all_c (ok_stk (s_bipush dX8_copyOf_79 (by decide))) (all_c (ok_copy (by decide) kw145 kw146 kw147 kw148 dX8_copyOf_81) (all_c (ok_aload_n dX8_copyOf_84 rfl) (all_c (okg_X8_7 kw36 dX8_copyOf_85) (all_c (ok_stk (s_iconst dX8_copyOf_88 (by decide))) (all_c (ok_aload_n dX8_copyOf_89 rfl) (all_c (okg_X8_7 kw36 dX8_copyOf_90) (all_c (ok_stk (s_iconst dX8_copyOf_93 (by decide))) (all_c (ok_stk (s_bipush dX8_copyOf_94 (by decide))) (all_c (ok_copy (by decide) kw145 kw146 kw147 kw148 dX8_copyOf_96) (all_c (ok_aload_n dX8_copyOf_99 rfl) (all_c (okg_X8_8 kw37 dX8_copyOf_100) (all_c (ok_stk (s_iconst dX8_copyOf_103 (by decide))) (all_c (ok_aload_n dX8_copyOf_104 rfl) (all_c (okg_X8_8 kw37 dX8_copyOf_105) (all_c (ok_stk (s_iconst dX8_copyOf_108 (by decide))) (all_c (ok_stk (s_bipush dX8_copyOf_109 (by decide))) (all_c (ok_copy (by decide) kw145 kw146 kw147 kw148 dX8_copyOf_111) (all_c (ok_vret dX8_copyOf_114) all_n))))))))))))))))))))))))))))))))))))))))))))))))))))))))))))) 1000000 (fun h => by first | rfl | cases h)
theorem dX11_rememberState_0 : decode cX11_rememberState 0 = .ok (.aload_n 0, 1) := by decide +kernel
theorem dX11_rememberState_1 : decode cX11_rememberState 1 = .ok (.getfield 96, 3) := by decide +kernel
theorem dX11_rememberState_4 : decode cX11_rememberState 4 = .ok (.aload_n 0, 1) := by decide +kernel
theorem dX11_rememberState_5 : decode cX11_rememberState 5 = .ok (.getfield 270, 3) := by decide +kernel
theorem dX11_rememberState_8 : decode cX11_rememberState 8 = .ok (.aaload, 1) := by decide +kernel
theorem dX11_rememberState_9 : decode cX11_rememberState 9 = .ok (.aload_n 0, 1) := by decide +kernel
theorem dX11_rememberState_10 : decode cX11_rememberState 10 = .ok (.getfield 33, 3) := by decide +kernel
theorem dX11_rememberState_13 : decode cX11_rememberState 13 = .ok (.invokevirtual 273, 3) := by decide +kernel
theorem dX11_rememberState_16 : decode cX11_rememberState 16 = .ok (.return_, 1) := by decide +kernel
theorem okc_X8_copyOf {kn : sKn} {cc : ByteArray} {own : String} {nL : Nat} {D : Nat} {ret : Option FieldType} {ini : Bool} {pc index : Nat} (hD : 1 + 1 ≤ D) (hl : Cond.methodLink own index yX8_copyOf ∈ wsL_law) (hd : decode cc pc = .ok (.invokevirtual index, 3)) : mOk kn cc own nL wsL_law D ret ini pc (a_callV true (fX8_copyOf kn) 9 (1 + 1) (pc + 3)) := ok_callV (mX8_copyOf kn) (good_ws ws_good (fun _ h => h) kw150) hD (by decide) hl kw151 kw152 kw45 ⟨by decide +kernel, by decide +kernel, by decide +kernel⟩ rfl hd
def tX11_rememberState (kn : sKn) : List (Nat × sA) := [(0, a_aload 0 1), (1, a_get 12 13 4), (4, a_aload 0 5), (5, a_get 12 14 8), (8, a_aald 9), (9, a_aload 0 10), (10, a_get 12 3 13), (13, a_callV true (fX8_copyOf kn) 9 2 16), (16, a_vret)]
def fX11_rememberState (kn : sKn) : List Value → sW → Option sR := mF (tX11_rememberState kn) 1 1000000
set_option maxRecDepth 100000 in
set_option maxHeartbeats 4000000 in
theorem mX11_rememberState (kn : sKn) : mM kn yX11_rememberState (Cond.code yX11_rememberState cX11_rememberState 1 none :: wsL_law) 2 true (fX11_rememberState kn) := mM_of (own := RX11) (ini := false) rfl (by decide +kernel) (by decide +kernel) (all_c (ok_aload_n dX11_rememberState_0 rfl) (all_c (okg_X11_13 kw149 dX11_rememberState_1) (all_c (ok_aload_n dX11_rememberState_4 rfl) (all_c (okg_X11_14 kw139 dX11_rememberState_5) (all_c (ok_aald dX11_rememberState_8) (all_c (ok_aload_n dX11_rememberState_9 rfl) (all_c (okg_X11_3 kw108 dX11_rememberState_10) (all_c (okc_X8_copyOf (by decide) kw153 dX11_rememberState_13) (all_c (ok_vret dX11_rememberState_16) all_n))))))))) 1000000 (fun h => by first | rfl | cases h)
theorem dX1_live_0 : decode cX1_live 0 = .ok (.iconst 0, 1) := by decide +kernel
theorem dX1_live_1 : decode cX1_live 1 = .ok (.istore 4, 2) := by decide +kernel
theorem dX1_live_3 : decode cX1_live 3 = .ok (.iconst 0, 1) := by decide +kernel
theorem dX1_live_4 : decode cX1_live 4 = .ok (.istore 5, 2) := by decide +kernel
theorem dX1_live_6 : decode cX1_live 6 = .ok (.iload 4, 2) := by decide +kernel
theorem dX1_live_8 : decode cX1_live 8 = .ok (.aload_n 0, 1) := by decide +kernel
theorem dX1_live_9 : decode cX1_live 9 = .ok (.getfield 33, 3) := by decide +kernel
theorem dX1_live_12 : decode cX1_live 12 = .ok (.if_icmp .ge 30, 3) := by decide +kernel
theorem dX1_live_15 : decode cX1_live 15 = .ok (.iload 5, 2) := by decide +kernel
theorem dX1_live_17 : decode cX1_live 17 = .ok (.ifCond .ne 25, 3) := by decide +kernel
theorem dX1_live_20 : decode cX1_live 20 = .ok (.aload_n 0, 1) := by decide +kernel
theorem dX1_live_21 : decode cX1_live 21 = .ok (.aload_n 1, 1) := by decide +kernel
theorem dX1_live_22 : decode cX1_live 22 = .ok (.aload_n 2, 1) := by decide +kernel
theorem dX1_live_23 : decode cX1_live 23 = .ok (.aload_n 3, 1) := by decide +kernel
theorem dX1_live_24 : decode cX1_live 24 = .ok (.iload 4, 2) := by decide +kernel
theorem dX1_live_26 : decode cX1_live 26 = .ok (.invokevirtual 94, 3) := by decide +kernel
theorem dX1_live_29 : decode cX1_live 29 = .ok (.istore 5, 2) := by decide +kernel
theorem dX1_live_31 : decode cX1_live 31 = .ok (.iload 5, 2) := by decide +kernel
theorem dX1_live_33 : decode cX1_live 33 = .ok (.ifCond .ne (-27), 3) := by decide +kernel
theorem dX1_live_36 : decode cX1_live 36 = .ok (.iinc 4 1, 3) := by decide +kernel
theorem dX1_live_39 : decode cX1_live 39 = .ok (.goto (-33), 3) := by decide +kernel
theorem dX1_live_42 : decode cX1_live 42 = .ok (.aload_n 0, 1) := by decide +kernel
theorem dX1_live_43 : decode cX1_live 43 = .ok (.getfield 24, 3) := by decide +kernel
theorem dX1_live_46 : decode cX1_live 46 = .ok (.iconst 0, 1) := by decide +kernel
theorem dX1_live_47 : decode cX1_live 47 = .ok (.iload 5, 2) := by decide +kernel
theorem dX1_live_49 : decode cX1_live 49 = .ok (.iastore, 1) := by decide +kernel
theorem dX1_live_50 : decode cX1_live 50 = .ok (.aload_n 0, 1) := by decide +kernel
theorem dX1_live_51 : decode cX1_live 51 = .ok (.getfield 24, 3) := by decide +kernel
theorem dX1_live_54 : decode cX1_live 54 = .ok (.iconst 1, 1) := by decide +kernel
theorem dX1_live_55 : decode cX1_live 55 = .ok (.iload 4, 2) := by decide +kernel
theorem dX1_live_57 : decode cX1_live 57 = .ok (.iastore, 1) := by decide +kernel
theorem dX1_live_58 : decode cX1_live 58 = .ok (.aload_n 0, 1) := by decide +kernel
theorem dX1_live_59 : decode cX1_live 59 = .ok (.getfield 24, 3) := by decide +kernel
theorem dX1_live_62 : decode cX1_live 62 = .ok (.iconst 2, 1) := by decide +kernel
theorem dX1_live_63 : decode cX1_live 63 = .ok (.aload_n 2, 1) := by decide +kernel
theorem dX1_live_64 : decode cX1_live 64 = .ok (.getfield 98, 3) := by decide +kernel
theorem dX1_live_67 : decode cX1_live 67 = .ok (.iastore, 1) := by decide +kernel
theorem dX1_live_68 : decode cX1_live 68 = .ok (.aload_n 0, 1) := by decide +kernel
theorem dX1_live_69 : decode cX1_live 69 = .ok (.getfield 24, 3) := by decide +kernel
theorem dX1_live_72 : decode cX1_live 72 = .ok (.iconst 3, 1) := by decide +kernel
theorem dX1_live_73 : decode cX1_live 73 = .ok (.aload_n 2, 1) := by decide +kernel
theorem dX1_live_74 : decode cX1_live 74 = .ok (.getfield 103, 3) := by decide +kernel
theorem dX1_live_77 : decode cX1_live 77 = .ok (.iastore, 1) := by decide +kernel
theorem dX1_live_78 : decode cX1_live 78 = .ok (.iload 5, 2) := by decide +kernel
theorem dX1_live_80 : decode cX1_live 80 = .ok (.ifCond .ne 7, 3) := by decide +kernel
theorem dX1_live_83 : decode cX1_live 83 = .ok (.iconst (-1), 1) := by decide +kernel
theorem dX1_live_84 : decode cX1_live 84 = .ok (.goto 5, 3) := by decide +kernel
theorem dX1_live_87 : decode cX1_live 87 = .ok (.iload 4, 2) := by decide +kernel
theorem dX1_live_89 : decode cX1_live 89 = .ok (.ireturn, 1) := by decide +kernel
theorem okc0_X1_liveLine {kn : sKn} {cc : ByteArray} {own : String} {nL : Nat} {D : Nat} {ret : Option FieldType} {ini : Bool} {pc index : Nat} (hD : 0 + 1 ≤ D) (hl : Cond.methodLink own index yX1_liveLine ∈ wsL_law) (hd : decode cc pc = .ok (.invokevirtual index, 3)) : mOk kn cc own nL wsL_law D ret ini pc (a_callV false f_none 2 (4 + 1) (pc + 3)) := ok_callV (m_none (D := 0)) (good_ws ws_good (fun _ h => h) kw155) hD (by decide) hl kw157 kw158 kw156 ⟨by decide +kernel, by decide +kernel, by decide +kernel⟩ rfl hd
def tX1_live (kn : sKn) : List (Nat × sA) := [(0, a_stk (q_int 0) 1), (1, a_istore 4 3), (3, a_stk (q_int 0) 4), (4, a_istore 5 6), (6, a_iload 4 8), (8, a_aload 0 9), (9, a_get 2 4 12), (12, a_icmp kn b_ge 3 42 15), (15, a_iload 5 17), (17, a_if kn b_ne 1 42 20), (20, a_aload 0 21), (21, a_aload 1 22), (22, a_aload 2 23), (23, a_aload 3 24), (24, a_iload 4 26), (26, a_callV false f_none 2 5 29), (29, a_istore 5 31), (31, a_iload 5 33), (33, a_if kn b_ne 1 6 36), (36, a_iinc 4 1 39), (39, a_goto 6), (42, a_aload 0 43), (43, a_get 2 5 46), (46, a_stk (q_int 0) 47), (47, a_iload 5 49), (49, a_iast 50), (50, a_aload 0 51), (51, a_get 2 5 54), (54, a_stk (q_int 1) 55), (55, a_iload 4 57), (57, a_iast 58), (58, a_aload 0 59), (59, a_get 2 5 62), (62, a_stk (q_int 2) 63), (63, a_aload 2 64), (64, a_get 9 0 67), (67, a_iast 68), (68, a_aload 0 69), (69, a_get 2 5 72), (72, a_stk (q_int 3) 73), (73, a_aload 2 74), (74, a_get 9 2 77), (77, a_iast 78), (78, a_iload 5 80), (80, a_if kn b_ne 1 87 83), (83, a_stk (q_int (-1)) 84), (84, a_goto 89), (87, a_iload 4 89), (89, a_iret)]
def fX1_live (kn : sKn) : List Value → sW → Option sR := mF (tX1_live kn) 6 1000000
set_option maxRecDepth 100000 in
set_option maxHeartbeats 4000000 in
theorem mX1_live (kn : sKn) : mM kn yX1_live (Cond.code yX1_live cX1_live 6 (some .int) :: wsL_law) 1 false (fX1_live kn) := mM_of (own := RX1) (ini := false) rfl (by decide +kernel) (by decide +kernel) (all_c (ok_stk (s_iconst dX1_live_0 (by decide))) (all_c (ok_istore dX1_live_1 (by decide)) (all_c (ok_stk (s_iconst dX1_live_3 (by decide))) (all_c (ok_istore dX1_live_4 (by decide)) (all_c (ok_iload dX1_live_6) (all_c (ok_aload_n dX1_live_8 rfl) (all_c (okg_X1_4 kw154 dX1_live_9) (all_c (ok_icmp_ge dX1_live_12 (by decide)) (all_c (ok_iload dX1_live_15) (all_c (ok_if_ne dX1_live_17 (by decide)) (all_c (ok_aload_n dX1_live_20 rfl) (all_c (ok_aload_n dX1_live_21 rfl) (all_c (ok_aload_n dX1_live_22 rfl) (all_c (ok_aload_n dX1_live_23 rfl) (all_c (ok_iload dX1_live_24) (all_c (okc0_X1_liveLine (by decide) kw159 dX1_live_26) (all_c (ok_istore dX1_live_29 (by decide)) (all_c (ok_iload dX1_live_31) (all_c (ok_if_ne dX1_live_33 (by decide)) (all_c (ok_iinc dX1_live_36 (by decide) (by decide)) (all_c (ok_goto dX1_live_39 (by decide)) (all_c (ok_aload_n dX1_live_42 rfl) (all_c (okg_X1_5 kw160 dX1_live_43) (all_c (ok_stk (s_iconst dX1_live_46 (by decide))) (all_c (ok_iload dX1_live_47) (all_c (ok_iast dX1_live_49) (all_c (ok_aload_n dX1_live_50 rfl) (all_c (okg_X1_5 kw160 dX1_live_51) (all_c (ok_stk (s_iconst dX1_live_54 (by decide))) (all_c (ok_iload dX1_live_55) (all_c (ok_iast dX1_live_57) (all_c (ok_aload_n dX1_live_58 rfl) (all_c (okg_X1_5 kw160 dX1_live_59) (all_c (ok_stk (s_iconst dX1_live_62 (by decide))) (all_c (ok_aload_n dX1_live_63 rfl) (all_c (okg_X8_0 kw161 dX1_live_64) (all_c (ok_iast dX1_live_67) (all_c (ok_aload_n dX1_live_68 rfl) (all_c (okg_X1_5 kw160 dX1_live_69) (all_c (ok_stk (s_iconst dX1_live_72 (by decide))) (all_c (ok_aload_n dX1_live_73 rfl) (all_c (okg_X8_2 kw162 dX1_live_74) (all_c (ok_iast dX1_live_77) (all_c (ok_iload dX1_live_78) (all_c (ok_if_ne dX1_live_80 (by decide)) (all_c (ok_stk (s_iconst dX1_live_83 (by decide))) (all_c (ok_goto dX1_live_84 (by decide)) (all_c (ok_iload dX1_live_87) (all_c (ok_iret dX1_live_89) all_n))))))))))))))))))))))))))))))))))))))))))))))))) 1000000 (fun h => by first | rfl | cases h)
theorem dX9_advance_0 : decode cX9_advance 0 = .ok (.aload_n 0, 1) := by decide +kernel
theorem dX9_advance_1 : decode cX9_advance 1 = .ok (.getfield 15, 3) := by decide +kernel
theorem dX9_advance_4 : decode cX9_advance 4 = .ok (.aload_n 0, 1) := by decide +kernel
theorem dX9_advance_5 : decode cX9_advance 5 = .ok (.getfield 19, 3) := by decide +kernel
theorem dX9_advance_8 : decode cX9_advance 8 = .ok (.invokestatic 31, 3) := by decide +kernel
theorem dX9_advance_11 : decode cX9_advance 11 = .ok (.istore_n 1, 1) := by decide +kernel
theorem dX9_advance_12 : decode cX9_advance 12 = .ok (.aload_n 0, 1) := by decide +kernel
theorem dX9_advance_13 : decode cX9_advance 13 = .ok (.getfield 22, 3) := by decide +kernel
theorem dX9_advance_16 : decode cX9_advance 16 = .ok (.iload_n 1, 1) := by decide +kernel
theorem dX9_advance_17 : decode cX9_advance 17 = .ok (.if_icmp .ge 44, 3) := by decide +kernel
theorem dX9_advance_20 : decode cX9_advance 20 = .ok (.aload_n 0, 1) := by decide +kernel
theorem dX9_advance_21 : decode cX9_advance 21 = .ok (.getfield 9, 3) := by decide +kernel
theorem dX9_advance_24 : decode cX9_advance 24 = .ok (.aload_n 0, 1) := by decide +kernel
theorem dX9_advance_25 : decode cX9_advance 25 = .ok (.getfield 22, 3) := by decide +kernel
theorem dX9_advance_28 : decode cX9_advance 28 = .ok (.iaload, 1) := by decide +kernel
theorem dX9_advance_29 : decode cX9_advance 29 = .ok (.bipush 32, 2) := by decide +kernel
theorem dX9_advance_31 : decode cX9_advance 31 = .ok (.if_icmp .eq 17, 3) := by decide +kernel
theorem dX9_advance_34 : decode cX9_advance 34 = .ok (.aload_n 0, 1) := by decide +kernel
theorem dX9_advance_35 : decode cX9_advance 35 = .ok (.getfield 9, 3) := by decide +kernel
theorem dX9_advance_38 : decode cX9_advance 38 = .ok (.aload_n 0, 1) := by decide +kernel
theorem dX9_advance_39 : decode cX9_advance 39 = .ok (.getfield 22, 3) := by decide +kernel
theorem dX9_advance_42 : decode cX9_advance 42 = .ok (.iaload, 1) := by decide +kernel
theorem dX9_advance_43 : decode cX9_advance 43 = .ok (.bipush 10, 2) := by decide +kernel
theorem dX9_advance_45 : decode cX9_advance 45 = .ok (.if_icmp .ne 16, 3) := by decide +kernel
theorem dX9_advance_48 : decode cX9_advance 48 = .ok (.aload_n 0, 1) := by decide +kernel
theorem dX9_advance_49 : decode cX9_advance 49 = .ok (.dup, 1) := by decide +kernel
theorem dX9_advance_50 : decode cX9_advance 50 = .ok (.getfield 22, 3) := by decide +kernel
theorem dX9_advance_53 : decode cX9_advance 53 = .ok (.iconst 1, 1) := by decide +kernel
theorem dX9_advance_54 : decode cX9_advance 54 = .ok (.iadd, 1) := by decide +kernel
theorem dX9_advance_55 : decode cX9_advance 55 = .ok (.putfield 22, 3) := by decide +kernel
theorem dX9_advance_58 : decode cX9_advance 58 = .ok (.goto (-46), 3) := by decide +kernel
theorem dX9_advance_61 : decode cX9_advance 61 = .ok (.aload_n 0, 1) := by decide +kernel
theorem dX9_advance_62 : decode cX9_advance 62 = .ok (.aload_n 0, 1) := by decide +kernel
theorem dX9_advance_63 : decode cX9_advance 63 = .ok (.getfield 22, 3) := by decide +kernel
theorem dX9_advance_66 : decode cX9_advance 66 = .ok (.iload_n 1, 1) := by decide +kernel
theorem dX9_advance_67 : decode cX9_advance 67 = .ok (.invokestatic 31, 3) := by decide +kernel
theorem dX9_advance_70 : decode cX9_advance 70 = .ok (.putfield 37, 3) := by decide +kernel
theorem dX9_advance_73 : decode cX9_advance 73 = .ok (.aload_n 0, 1) := by decide +kernel
theorem dX9_advance_74 : decode cX9_advance 74 = .ok (.getfield 22, 3) := by decide +kernel
theorem dX9_advance_77 : decode cX9_advance 77 = .ok (.iload_n 1, 1) := by decide +kernel
theorem dX9_advance_78 : decode cX9_advance 78 = .ok (.if_icmp .lt 9, 3) := by decide +kernel
theorem dX9_advance_81 : decode cX9_advance 81 = .ok (.aload_n 0, 1) := by decide +kernel
theorem dX9_advance_82 : decode cX9_advance 82 = .ok (.iconst 0, 1) := by decide +kernel
theorem dX9_advance_83 : decode cX9_advance 83 = .ok (.putfield 40, 3) := by decide +kernel
theorem dX9_advance_86 : decode cX9_advance 86 = .ok (.return_, 1) := by decide +kernel
theorem dX9_advance_87 : decode cX9_advance 87 = .ok (.aload_n 0, 1) := by decide +kernel
theorem dX9_advance_88 : decode cX9_advance 88 = .ok (.aload_n 0, 1) := by decide +kernel
theorem dX9_advance_89 : decode cX9_advance 89 = .ok (.getfield 9, 3) := by decide +kernel
theorem dX9_advance_92 : decode cX9_advance 92 = .ok (.aload_n 0, 1) := by decide +kernel
theorem dX9_advance_93 : decode cX9_advance 93 = .ok (.getfield 22, 3) := by decide +kernel
theorem dX9_advance_96 : decode cX9_advance 96 = .ok (.iaload, 1) := by decide +kernel
theorem dX9_advance_97 : decode cX9_advance 97 = .ok (.putfield 43, 3) := by decide +kernel
theorem dX9_advance_100 : decode cX9_advance 100 = .ok (.aload_n 0, 1) := by decide +kernel
theorem dX9_advance_101 : decode cX9_advance 101 = .ok (.dup, 1) := by decide +kernel
theorem dX9_advance_102 : decode cX9_advance 102 = .ok (.getfield 22, 3) := by decide +kernel
theorem dX9_advance_105 : decode cX9_advance 105 = .ok (.iconst 1, 1) := by decide +kernel
theorem dX9_advance_106 : decode cX9_advance 106 = .ok (.iadd, 1) := by decide +kernel
theorem dX9_advance_107 : decode cX9_advance 107 = .ok (.putfield 22, 3) := by decide +kernel
theorem dX9_advance_110 : decode cX9_advance 110 = .ok (.aload_n 0, 1) := by decide +kernel
theorem dX9_advance_111 : decode cX9_advance 111 = .ok (.getfield 43, 3) := by decide +kernel
theorem dX9_advance_114 : decode cX9_advance 114 = .ok (.invokestatic 46, 3) := by decide +kernel
theorem dX9_advance_117 : decode cX9_advance 117 = .ok (.ifCond .ne 33, 3) := by decide +kernel
theorem dX9_advance_120 : decode cX9_advance 120 = .ok (.aload_n 0, 1) := by decide +kernel
theorem dX9_advance_121 : decode cX9_advance 121 = .ok (.getfield 43, 3) := by decide +kernel
theorem dX9_advance_124 : decode cX9_advance 124 = .ok (.invokestatic 50, 3) := by decide +kernel
theorem dX9_advance_127 : decode cX9_advance 127 = .ok (.ifCond .ne 23, 3) := by decide +kernel
theorem dX9_advance_130 : decode cX9_advance 130 = .ok (.aload_n 0, 1) := by decide +kernel
theorem dX9_advance_131 : decode cX9_advance 131 = .ok (.aload_n 0, 1) := by decide +kernel
theorem dX9_advance_132 : decode cX9_advance 132 = .ok (.getfield 43, 3) := by decide +kernel
theorem dX9_advance_135 : decode cX9_advance 135 = .ok (.invokestatic 53, 3) := by decide +kernel
theorem dX9_advance_138 : decode cX9_advance 138 = .ok (.ifCond .eq 7, 3) := by decide +kernel
theorem dX9_advance_141 : decode cX9_advance 141 = .ok (.iconst 2, 1) := by decide +kernel
theorem dX9_advance_142 : decode cX9_advance 142 = .ok (.goto 4, 3) := by decide +kernel
theorem dX9_advance_145 : decode cX9_advance 145 = .ok (.iconst 1, 1) := by decide +kernel
theorem dX9_advance_146 : decode cX9_advance 146 = .ok (.putfield 40, 3) := by decide +kernel
theorem dX9_advance_149 : decode cX9_advance 149 = .ok (.return_, 1) := by decide +kernel
theorem dX9_advance_150 : decode cX9_advance 150 = .ok (.aload_n 0, 1) := by decide +kernel
theorem dX9_advance_151 : decode cX9_advance 151 = .ok (.getfield 43, 3) := by decide +kernel
theorem dX9_advance_154 : decode cX9_advance 154 = .ok (.invokestatic 46, 3) := by decide +kernel
theorem dX9_advance_157 : decode cX9_advance 157 = .ok (.ifCond .eq 7, 3) := by decide +kernel
theorem dX9_advance_160 : decode cX9_advance 160 = .ok (.iconst 1, 1) := by decide +kernel
theorem dX9_advance_161 : decode cX9_advance 161 = .ok (.goto 4, 3) := by decide +kernel
theorem dX9_advance_164 : decode cX9_advance 164 = .ok (.iconst 0, 1) := by decide +kernel
theorem dX9_advance_165 : decode cX9_advance 165 = .ok (.istore_n 2, 1) := by decide +kernel
theorem dX9_advance_166 : decode cX9_advance 166 = .ok (.aload_n 0, 1) := by decide +kernel
theorem dX9_advance_167 : decode cX9_advance 167 = .ok (.getfield 22, 3) := by decide +kernel
theorem dX9_advance_170 : decode cX9_advance 170 = .ok (.aload_n 0, 1) := by decide +kernel
theorem dX9_advance_171 : decode cX9_advance 171 = .ok (.getfield 15, 3) := by decide +kernel
theorem dX9_advance_174 : decode cX9_advance 174 = .ok (.if_icmp .ge 69, 3) := by decide +kernel
theorem dX9_advance_177 : decode cX9_advance 177 = .ok (.aload_n 0, 1) := by decide +kernel
theorem dX9_advance_178 : decode cX9_advance 178 = .ok (.getfield 9, 3) := by decide +kernel
theorem dX9_advance_181 : decode cX9_advance 181 = .ok (.aload_n 0, 1) := by decide +kernel
theorem dX9_advance_182 : decode cX9_advance 182 = .ok (.getfield 22, 3) := by decide +kernel
theorem dX9_advance_185 : decode cX9_advance 185 = .ok (.iaload, 1) := by decide +kernel
theorem dX9_advance_186 : decode cX9_advance 186 = .ok (.invokestatic 46, 3) := by decide +kernel
theorem dX9_advance_189 : decode cX9_advance 189 = .ok (.ifCond .ne 18, 3) := by decide +kernel
theorem dX9_advance_192 : decode cX9_advance 192 = .ok (.aload_n 0, 1) := by decide +kernel
theorem dX9_advance_193 : decode cX9_advance 193 = .ok (.getfield 9, 3) := by decide +kernel
theorem dX9_advance_196 : decode cX9_advance 196 = .ok (.aload_n 0, 1) := by decide +kernel
theorem dX9_advance_197 : decode cX9_advance 197 = .ok (.getfield 22, 3) := by decide +kernel
theorem dX9_advance_200 : decode cX9_advance 200 = .ok (.iaload, 1) := by decide +kernel
theorem dX9_advance_201 : decode cX9_advance 201 = .ok (.invokestatic 50, 3) := by decide +kernel
theorem dX9_advance_204 : decode cX9_advance 204 = .ok (.ifCond .eq 39, 3) := by decide +kernel
theorem dX9_advance_207 : decode cX9_advance 207 = .ok (.iload_n 2, 1) := by decide +kernel
theorem dX9_advance_208 : decode cX9_advance 208 = .ok (.aload_n 0, 1) := by decide +kernel
theorem dX9_advance_209 : decode cX9_advance 209 = .ok (.getfield 9, 3) := by decide +kernel
theorem dX9_advance_212 : decode cX9_advance 212 = .ok (.aload_n 0, 1) := by decide +kernel
theorem dX9_advance_213 : decode cX9_advance 213 = .ok (.getfield 22, 3) := by decide +kernel
theorem dX9_advance_216 : decode cX9_advance 216 = .ok (.iaload, 1) := by decide +kernel
theorem dX9_advance_217 : decode cX9_advance 217 = .ok (.invokestatic 46, 3) := by decide +kernel
theorem dX9_advance_220 : decode cX9_advance 220 = .ok (.ifCond .eq 7, 3) := by decide +kernel
theorem dX9_advance_223 : decode cX9_advance 223 = .ok (.iconst 1, 1) := by decide +kernel
theorem dX9_advance_224 : decode cX9_advance 224 = .ok (.goto 4, 3) := by decide +kernel
theorem dX9_advance_227 : decode cX9_advance 227 = .ok (.iconst 0, 1) := by decide +kernel
theorem dX9_advance_228 : decode cX9_advance 228 = .ok (.iadd, 1) := by decide +kernel
theorem dX9_advance_229 : decode cX9_advance 229 = .ok (.istore_n 2, 1) := by decide +kernel
theorem dX9_advance_230 : decode cX9_advance 230 = .ok (.aload_n 0, 1) := by decide +kernel
theorem dX9_advance_231 : decode cX9_advance 231 = .ok (.dup, 1) := by decide +kernel
theorem dX9_advance_232 : decode cX9_advance 232 = .ok (.getfield 22, 3) := by decide +kernel
theorem dX9_advance_235 : decode cX9_advance 235 = .ok (.iconst 1, 1) := by decide +kernel
theorem dX9_advance_236 : decode cX9_advance 236 = .ok (.iadd, 1) := by decide +kernel
theorem dX9_advance_237 : decode cX9_advance 237 = .ok (.putfield 22, 3) := by decide +kernel
theorem dX9_advance_240 : decode cX9_advance 240 = .ok (.goto (-74), 3) := by decide +kernel
theorem dX9_advance_243 : decode cX9_advance 243 = .ok (.aload_n 0, 1) := by decide +kernel
theorem dX9_advance_244 : decode cX9_advance 244 = .ok (.getfield 22, 3) := by decide +kernel
theorem dX9_advance_247 : decode cX9_advance 247 = .ok (.aload_n 0, 1) := by decide +kernel
theorem dX9_advance_248 : decode cX9_advance 248 = .ok (.getfield 37, 3) := by decide +kernel
theorem dX9_advance_251 : decode cX9_advance 251 = .ok (.isub, 1) := by decide +kernel
theorem dX9_advance_252 : decode cX9_advance 252 = .ok (.istore_n 3, 1) := by decide +kernel
theorem dX9_advance_253 : decode cX9_advance 253 = .ok (.iload_n 2, 1) := by decide +kernel
theorem dX9_advance_254 : decode cX9_advance 254 = .ok (.iload_n 3, 1) := by decide +kernel
theorem dX9_advance_255 : decode cX9_advance 255 = .ok (.if_icmp .ne 16, 3) := by decide +kernel
theorem dX9_advance_258 : decode cX9_advance 258 = .ok (.iload_n 3, 1) := by decide +kernel
theorem dX9_advance_259 : decode cX9_advance 259 = .ok (.bipush 7, 2) := by decide +kernel
theorem dX9_advance_261 : decode cX9_advance 261 = .ok (.if_icmp .gt 10, 3) := by decide +kernel
theorem dX9_advance_264 : decode cX9_advance 264 = .ok (.aload_n 0, 1) := by decide +kernel
theorem dX9_advance_265 : decode cX9_advance 265 = .ok (.invokevirtual 56, 3) := by decide +kernel
theorem dX9_advance_268 : decode cX9_advance 268 = .ok (.goto 24, 3) := by decide +kernel
theorem dX9_advance_271 : decode cX9_advance 271 = .ok (.iload_n 2, 1) := by decide +kernel
theorem dX9_advance_272 : decode cX9_advance 272 = .ok (.ifCond .ne 15, 3) := by decide +kernel
theorem dX9_advance_275 : decode cX9_advance 275 = .ok (.iload_n 3, 1) := by decide +kernel
theorem dX9_advance_276 : decode cX9_advance 276 = .ok (.iconst 3, 1) := by decide +kernel
theorem dX9_advance_277 : decode cX9_advance 277 = .ok (.if_icmp .gt 10, 3) := by decide +kernel
theorem dX9_advance_280 : decode cX9_advance 280 = .ok (.aload_n 0, 1) := by decide +kernel
theorem dX9_advance_281 : decode cX9_advance 281 = .ok (.invokevirtual 59, 3) := by decide +kernel
theorem dX9_advance_284 : decode cX9_advance 284 = .ok (.goto 8, 3) := by decide +kernel
theorem dX9_advance_287 : decode cX9_advance 287 = .ok (.aload_n 0, 1) := by decide +kernel
theorem dX9_advance_288 : decode cX9_advance 288 = .ok (.iconst 1, 1) := by decide +kernel
theorem dX9_advance_289 : decode cX9_advance 289 = .ok (.putfield 40, 3) := by decide +kernel
theorem dX9_advance_292 : decode cX9_advance 292 = .ok (.return_, 1) := by decide +kernel
theorem okc0_X9_isLetter {kn : sKn} {cc : ByteArray} {own : String} {nL : Nat} {D : Nat} {ret : Option FieldType} {ini : Bool} {pc index : Nat} (hD : 0 + 1 ≤ D) (hl : Cond.methodLink own index yX9_isLetter ∈ wsL_law) (hd : decode cc pc = .ok (.invokestatic index, 3)) : mOk kn cc own nL wsL_law D ret ini pc (a_callS false f_none 1 (pc + 3)) := ok_callS (m_none (D := 0)) (good_ws ws_good (fun _ h => h) kw171) hD (by decide) hl kw173 kw172 ⟨by decide +kernel, by decide +kernel, by decide +kernel⟩ hd
theorem okc0_X9_isDigit {kn : sKn} {cc : ByteArray} {own : String} {nL : Nat} {D : Nat} {ret : Option FieldType} {ini : Bool} {pc index : Nat} (hD : 0 + 1 ≤ D) (hl : Cond.methodLink own index yX9_isDigit ∈ wsL_law) (hd : decode cc pc = .ok (.invokestatic index, 3)) : mOk kn cc own nL wsL_law D ret ini pc (a_callS false f_none 1 (pc + 3)) := ok_callS (m_none (D := 0)) (good_ws ws_good (fun _ h => h) kw175) hD (by decide) hl kw176 kw172 ⟨by decide +kernel, by decide +kernel, by decide +kernel⟩ hd
theorem okc0_X9_isSign {kn : sKn} {cc : ByteArray} {own : String} {nL : Nat} {D : Nat} {ret : Option FieldType} {ini : Bool} {pc index : Nat} (hD : 0 + 1 ≤ D) (hl : Cond.methodLink own index yX9_isSign ∈ wsL_law) (hd : decode cc pc = .ok (.invokestatic index, 3)) : mOk kn cc own nL wsL_law D ret ini pc (a_callS false f_none 1 (pc + 3)) := ok_callS (m_none (D := 0)) (good_ws ws_good (fun _ h => h) kw178) hD (by decide) hl kw179 kw172 ⟨by decide +kernel, by decide +kernel, by decide +kernel⟩ hd
theorem okc0_X9_readWord {kn : sKn} {cc : ByteArray} {own : String} {nL : Nat} {D : Nat} {ret : Option FieldType} {ini : Bool} {pc index : Nat} (hD : 0 + 1 ≤ D) (hl : Cond.methodLink own index yX9_readWord ∈ wsL_law) (hd : decode cc pc = .ok (.invokevirtual index, 3)) : mOk kn cc own nL wsL_law D ret ini pc (a_callV true f_none 10 (0 + 1) (pc + 3)) := ok_callV (m_none (D := 0)) (good_ws ws_good (fun _ h => h) kw181) hD (by decide) hl kw182 kw183 kw172 ⟨by decide +kernel, by decide +kernel, by decide +kernel⟩ rfl hd
theorem okc0_X9_readNumber {kn : sKn} {cc : ByteArray} {own : String} {nL : Nat} {D : Nat} {ret : Option FieldType} {ini : Bool} {pc index : Nat} (hD : 0 + 1 ≤ D) (hl : Cond.methodLink own index yX9_readNumber ∈ wsL_law) (hd : decode cc pc = .ok (.invokevirtual index, 3)) : mOk kn cc own nL wsL_law D ret ini pc (a_callV true f_none 10 (0 + 1) (pc + 3)) := ok_callV (m_none (D := 0)) (good_ws ws_good (fun _ h => h) kw185) hD (by decide) hl kw186 kw187 kw172 ⟨by decide +kernel, by decide +kernel, by decide +kernel⟩ rfl hd
def tX9_advance (kn : sKn) : List (Nat × sA) := [(0, a_aload 0 1), (1, a_get 10 1 4), (4, a_aload 0 5), (5, a_get 10 2 8), (8, a_mmin 11), (11, a_istore 1 12), (12, a_aload 0 13), (13, a_get 10 3 16), (16, a_iload 1 17), (17, a_icmp kn b_ge 3 61 20), (20, a_aload 0 21), (21, a_get 10 0 24), (24, a_aload 0 25), (25, a_get 10 3 28), (28, a_iald 29), (29, a_stk (q_int 32) 31), (31, a_icmp kn b_eq 0 48 34), (34, a_aload 0 35), (35, a_get 10 0 38), (38, a_aload 0 39), (39, a_get 10 3 42), (42, a_iald 43), (43, a_stk (q_int 10) 45), (45, a_icmp kn b_ne 1 61 48), (48, a_aload 0 49), (49, a_stk q_dup 50), (50, a_get 10 3 53), (53, a_stk (q_int 1) 54), (54, a_stk q_iadd 55), (55, a_put 10 3 ckI 58), (58, a_goto 12), (61, a_aload 0 62), (62, a_aload 0 63), (63, a_get 10 3 66), (66, a_iload 1 67), (67, a_mmin 70), (70, a_put 10 5 ckI 73), (73, a_aload 0 74), (74, a_get 10 3 77), (77, a_iload 1 78), (78, a_icmp kn b_lt 2 87 81), (81, a_aload 0 82), (82, a_stk (q_int 0) 83), (83, a_put 10 4 ckI 86), (86, a_vret), (87, a_aload 0 88), (88, a_aload 0 89), (89, a_get 10 0 92), (92, a_aload 0 93), (93, a_get 10 3 96), (96, a_iald 97), (97, a_put 10 6 ckI 100), (100, a_aload 0 101), (101, a_stk q_dup 102), (102, a_get 10 3 105), (105, a_stk (q_int 1) 106), (106, a_stk q_iadd 107), (107, a_put 10 3 ckI 110), (110, a_aload 0 111), (111, a_get 10 6 114), (114, a_callS false f_none 1 117), (117, a_if kn b_ne 1 150 120), (120, a_aload 0 121), (121, a_get 10 6 124), (124, a_callS false f_none 1 127), (127, a_if kn b_ne 1 150 130), (130, a_aload 0 131), (131, a_aload 0 132), (132, a_get 10 6 135), (135, a_callS false f_none 1 138), (138, a_if kn b_eq 0 145 141), (141, a_stk (q_int 2) 142), (142, a_goto 146), (145, a_stk (q_int 1) 146), (146, a_put 10 4 ckI 149), (149, a_vret), (150, a_aload 0 151), (151, a_get 10 6 154), (154, a_callS false f_none 1 157), (157, a_if kn b_eq 0 164 160), (160, a_stk (q_int 1) 161), (161, a_goto 165), (164, a_stk (q_int 0) 165), (165, a_istore 2 166), (166, a_aload 0 167), (167, a_get 10 3 170), (170, a_aload 0 171), (171, a_get 10 1 174), (174, a_icmp kn b_ge 3 243 177), (177, a_aload 0 178), (178, a_get 10 0 181), (181, a_aload 0 182), (182, a_get 10 3 185), (185, a_iald 186), (186, a_callS false f_none 1 189), (189, a_if kn b_ne 1 207 192), (192, a_aload 0 193), (193, a_get 10 0 196), (196, a_aload 0 197), (197, a_get 10 3 200), (200, a_iald 201), (201, a_callS false f_none 1 204), (204, a_if kn b_eq 0 243 207), (207, a_iload 2 208), (208, a_aload 0 209), (209, a_get 10 0 212), (212, a_aload 0 213), (213, a_get 10 3 216), (216, a_iald 217), (217, a_callS false f_none 1 220), (220, a_if kn b_eq 0 227 223), (223, a_stk (q_int 1) 224), (224, a_goto 228), (227, a_stk (q_int 0) 228), (228, a_stk q_iadd 229), (229, a_istore 2 230), (230, a_aload 0 231), (231, a_stk q_dup 232), (232, a_get 10 3 235), (235, a_stk (q_int 1) 236), (236, a_stk q_iadd 237), (237, a_put 10 3 ckI 240), (240, a_goto 166), (243, a_aload 0 244), (244, a_get 10 3 247), (247, a_aload 0 248), (248, a_get 10 5 251), (251, a_stk q_isub 252), (252, a_istore 3 253), (253, a_iload 2 254), (254, a_iload 3 255), (255, a_icmp kn b_ne 1 271 258), (258, a_iload 3 259), (259, a_stk (q_int 7) 261), (261, a_icmp kn b_gt 4 271 264), (264, a_aload 0 265), (265, a_callV true f_none 10 1 268), (268, a_goto 292), (271, a_iload 2 272), (272, a_if kn b_ne 1 287 275), (275, a_iload 3 276), (276, a_stk (q_int 3) 277), (277, a_icmp kn b_gt 4 287 280), (280, a_aload 0 281), (281, a_callV true f_none 10 1 284), (284, a_goto 292), (287, a_aload 0 288), (288, a_stk (q_int 1) 289), (289, a_put 10 4 ckI 292), (292, a_vret)]
def fX9_advance (kn : sKn) : List Value → sW → Option sR := mF (tX9_advance kn) 4 1000000
set_option maxRecDepth 100000 in
set_option maxHeartbeats 4000000 in
theorem mX9_advance (kn : sKn) : mM kn yX9_advance (Cond.code yX9_advance cX9_advance 4 none :: wsL_law) 1 true (fX9_advance kn) := mM_of (own := RX9) (ini := false) rfl (by decide +kernel) (by decide +kernel) (all_c (ok_aload_n dX9_advance_0 rfl) (all_c (okg_X9_1 kw163 dX9_advance_1) (all_c (ok_aload_n dX9_advance_4 rfl) (all_c (okg_X9_2 kw164 dX9_advance_5) (all_c (ok_mmin (by decide) kw165 kw90 kw64 kw91 dX9_advance_8) (all_c (ok_istore_n dX9_advance_11 rfl (by decide)) (all_c (ok_aload_n dX9_advance_12 rfl) (all_c (okg_X9_3 kw166 dX9_advance_13) (all_c (ok_iload_n dX9_advance_16 rfl) (all_c (ok_icmp_ge dX9_advance_17 (by decide)) (all_c (ok_aload_n dX9_advance_20 rfl) (all_c (okg_X9_0 kw167 dX9_advance_21) (all_c (ok_aload_n dX9_advance_24 rfl) (all_c (okg_X9_3 kw166 dX9_advance_25) (all_c (ok_iald dX9_advance_28) (all_c (ok_stk (s_bipush dX9_advance_29 (by decide))) (all_c (ok_icmp_eq dX9_advance_31 (by decide)) (all_c (ok_aload_n dX9_advance_34 rfl) (all_c (okg_X9_0 kw167 dX9_advance_35) (all_c (ok_aload_n dX9_advance_38 rfl) (all_c (okg_X9_3 kw166 dX9_advance_39) (all_c (ok_iald dX9_advance_42) (all_c (ok_stk (s_bipush dX9_advance_43 (by decide))) (all_c (ok_icmp_ne dX9_advance_45 (by decide)) (all_c (ok_aload_n dX9_advance_48 rfl) (all_c (ok_stk (s_dup dX9_advance_49)) (all_c (okg_X9_3 kw166 dX9_advance_50) (all_c (ok_stk (s_iconst dX9_advance_53 (by decide))) (all_c (ok_stk (s_iadd dX9_advance_54)) (all_c (okp_X9_3 kw166 dX9_advance_55) (all_c (ok_goto dX9_advance_58 (by decide)) (all_c (ok_aload_n dX9_advance_61 rfl) (all_c (ok_aload_n dX9_advance_62 rfl) (all_c (okg_X9_3 kw166 dX9_advance_63) (all_c (ok_iload_n dX9_advance_66 rfl) (all_c (ok_mmin (by decide) kw165 kw90 kw64 kw91 dX9_advance_67) (all_c (okp_X9_5 kw168 dX9_advance_70) (all_c (ok_aload_n dX9_advance_73 rfl) (all_c (okg_X9_3 kw166 dX9_advance_74) (all_c (ok_iload_n dX9_advance_77 rfl) (all_c (ok_icmp_lt dX9_advance_78 (by decide)) (all_c (ok_aload_n dX9_advance_81 rfl) (all_c (ok_stk (s_iconst dX9_advance_82 (by decide))) (all_c (okp_X9_4 kw169 dX9_advance_83) (all_c (ok_vret dX9_advance_86) (all_c (ok_aload_n dX9_advance_87 rfl) (all_c (ok_aload_n dX9_advance_88 rfl) (all_c (okg_X9_0 kw167 dX9_advance_89) (all_c (ok_aload_n dX9_advance_92 rfl) (all_c (okg_X9_3 kw166 dX9_advance_93) (all_c (ok_iald dX9_advance_96) (all_c (okp_X9_6 kw170 dX9_advance_97) (all_c (ok_aload_n dX9_advance_100 rfl) (all_c (ok_stk (s_dup dX9_advance_101)) (all_c (okg_X9_3 kw166 dX9_advance_102) (all_c (ok_stk (s_iconst dX9_advance_105 (by decide))) (all_c (ok_stk (s_iadd dX9_advance_106)) (all_c (okp_X9_3 kw166 dX9_advance_107) (all_c (ok_aload_n dX9_advance_110 rfl) (all_c (okg_X9_6 kw170 dX9_advance_111) (all_c (okc0_X9_isLetter (by decide) kw174 dX9_advance_114) (all_c (ok_if_ne dX9_advance_117 (by decide)) (all_c (ok_aload_n dX9_advance_120 rfl) (all_c (okg_X9_6 kw170 dX9_advance_121) (all_c (okc0_X9_isDigit (by decide) kw177 dX9_advance_124) (all_c (ok_if_ne dX9_advance_127 (by decide)) (all_c (ok_aload_n dX9_advance_130 rfl) (all_c (ok_aload_n dX9_advance_131 rfl) (all_c (okg_X9_6 kw170 dX9_advance_132) (all_c (okc0_X9_isSign (by decide) kw180 dX9_advance_135) (all_c (ok_if_eq dX9_advance_138 (by decide)) (all_c (ok_stk (s_iconst dX9_advance_141 (by decide))) (all_c (ok_goto dX9_advance_142 (by decide)) (all_c (ok_stk (s_iconst dX9_advance_145 (by decide))) (all_c (okp_X9_4 kw169 dX9_advance_146) (all_c (ok_vret dX9_advance_149) (all_c (ok_aload_n dX9_advance_150 rfl) (all_c (okg_X9_6 kw170 dX9_advance_151) (all_c (okc0_X9_isLetter (by decide) kw174 dX9_advance_154) (all_c (ok_if_eq dX9_advance_157 (by decide)) (all_c (ok_stk (s_iconst dX9_advance_160 (by decide))) (all_c (ok_goto dX9_advance_161 (by decide)) (all_c (ok_stk (s_iconst dX9_advance_164 (by decide))) (all_c (ok_istore_n dX9_advance_165 rfl (by decide)) (all_c (ok_aload_n dX9_advance_166 rfl) (all_c (okg_X9_3 kw166 dX9_advance_167) (all_c (ok_aload_n dX9_advance_170 rfl) (all_c (okg_X9_1 kw163 dX9_advance_171) (all_c (ok_icmp_ge dX9_advance_174 (by decide)) (all_c (ok_aload_n dX9_advance_177 rfl) (all_c (okg_X9_0 kw167 dX9_advance_178) (all_c (ok_aload_n dX9_advance_181 rfl) (all_c (okg_X9_3 kw166 dX9_advance_182) (all_c (ok_iald dX9_advance_185) (all_c (okc0_X9_isLetter (by decide) kw174 dX9_advance_186) (all_c (ok_if_ne dX9_advance_189 (by decide)) (all_c (ok_aload_n dX9_advance_192 rfl) (all_c (okg_X9_0 kw167 dX9_advance_193) (all_c (ok_aload_n dX9_advance_196 rfl) (all_c (okg_X9_3 kw166 dX9_advance_197) (all_c (ok_iald dX9_advance_200) (all_c (okc0_X9_isDigit (by decide) kw177 dX9_advance_201) (all_c (ok_if_eq dX9_advance_204 (by decide)) (all_c (ok_iload_n dX9_advance_207 rfl) (all_c (ok_aload_n dX9_advance_208 rfl) (all_c (okg_X9_0 kw167 dX9_advance_209) (all_c (ok_aload_n dX9_advance_212 rfl) (all_c (okg_X9_3 kw166 dX9_advance_213) (all_c (ok_iald dX9_advance_216) (all_c (okc0_X9_isLetter (by decide) kw174 dX9_advance_217) (all_c (ok_if_eq dX9_advance_220 (by decide)) (all_c (ok_stk (s_iconst dX9_advance_223 (by decide))) (all_c (ok_goto dX9_advance_224 (by decide)) (all_c (ok_stk (s_iconst dX9_advance_227 (by decide))) (all_c (ok_stk (s_iadd dX9_advance_228)) (all_c (ok_istore_n dX9_advance_229 rfl (by decide)) (all_c (ok_aload_n dX9_advance_230 rfl) (all_c (ok_stk (s_dup dX9_advance_231)) (all_c (okg_X9_3 kw166 dX9_advance_232) (all_c (ok_stk (s_iconst dX9_advance_235 (by decide))) (all_c (ok_stk (s_iadd dX9_advance_236)) (all_c (okp_X9_3 kw166 dX9_advance_237) (all_c (ok_goto dX9_advance_240 (by decide)) (all_c (ok_aload_n dX9_advance_243 rfl) (all_c (okg_X9_3 kw166 dX9_advance_244) (all_c (ok_aload_n dX9_advance_247 rfl) (all_c (okg_X9_5 kw168 dX9_advance_248) (all_c (ok_stk (s_isub dX9_advance_251)) (all_c (ok_istore_n dX9_advance_252 rfl (by decide)) (all_c (ok_iload_n dX9_advance_253 rfl) (all_c (ok_iload_n dX9_advance_254 rfl) (all_c (ok_icmp_ne dX9_advance_255 (by decide)) (all_c (ok_iload_n dX9_advance_258 rfl) (all_c (ok_stk (s_bipush dX9_advance_259 (by decide))) (all_c (ok_icmp_gt dX9_advance_261 (by decide)) (all_c (ok_aload_n dX9_advance_264 rfl) (all_c (okc0_X9_readWord (by decide) kw184 dX9_advance_265) (all_c (ok_goto dX9_advance_268 (by decide)) (all_c (ok_iload_n dX9_advance_271 rfl) (all_c (ok_if_ne dX9_advance_272 (by decide)) (all_c (ok_iload_n dX9_advance_275 rfl) (all_c (ok_stk (s_iconst dX9_advance_276 (by decide))) (all_c (ok_icmp_gt dX9_advance_277 (by decide)) (all_c (ok_aload_n dX9_advance_280 rfl) (all_c (okc0_X9_readNumber (by decide) kw188 dX9_advance_281) (all_c (ok_goto dX9_advance_284 (by decide)) (all_c (ok_aload_n dX9_advance_287 rfl) (all_c (ok_stk (s_iconst dX9_advance_288 (by decide))) (all_c (okp_X9_4 kw169 dX9_advance_289) (all_c (ok_vret dX9_advance_292) all_n)))))))))))))))))))))))))))))))))))))))))))))))))))))))))))))))))))))))))))))))))))))))))))))))))))))))))))))))))))))))))))))))))))))))))))))))))))))) 1000000 (fun h => by first | rfl | cases h)
theorem dX9_begin_0 : decode cX9_begin 0 = .ok (.aload_n 0, 1) := by decide +kernel
theorem dX9_begin_1 : decode cX9_begin 1 = .ok (.iload_n 1, 1) := by decide +kernel
theorem dX9_begin_2 : decode cX9_begin 2 = .ok (.putfield 19, 3) := by decide +kernel
theorem dX9_begin_5 : decode cX9_begin 5 = .ok (.aload_n 0, 1) := by decide +kernel
theorem dX9_begin_6 : decode cX9_begin 6 = .ok (.iconst 0, 1) := by decide +kernel
theorem dX9_begin_7 : decode cX9_begin 7 = .ok (.putfield 22, 3) := by decide +kernel
theorem dX9_begin_10 : decode cX9_begin 10 = .ok (.aload_n 0, 1) := by decide +kernel
theorem dX9_begin_11 : decode cX9_begin 11 = .ok (.iconst 0, 1) := by decide +kernel
theorem dX9_begin_12 : decode cX9_begin 12 = .ok (.putfield 25, 3) := by decide +kernel
theorem dX9_begin_15 : decode cX9_begin 15 = .ok (.aload_n 0, 1) := by decide +kernel
theorem dX9_begin_16 : decode cX9_begin 16 = .ok (.invokevirtual 28, 3) := by decide +kernel
theorem dX9_begin_19 : decode cX9_begin 19 = .ok (.return_, 1) := by decide +kernel
theorem okc_X9_advance {kn : sKn} {cc : ByteArray} {own : String} {nL : Nat} {D : Nat} {ret : Option FieldType} {ini : Bool} {pc index : Nat} (hD : 1 + 1 ≤ D) (hl : Cond.methodLink own index yX9_advance ∈ wsL_law) (hd : decode cc pc = .ok (.invokevirtual index, 3)) : mOk kn cc own nL wsL_law D ret ini pc (a_callV true (fX9_advance kn) 10 (0 + 1) (pc + 3)) := ok_callV (mX9_advance kn) (good_ws ws_good (fun _ h => h) kw190) hD (by decide) hl kw191 kw192 kw172 ⟨by decide +kernel, by decide +kernel, by decide +kernel⟩ rfl hd
def tX9_begin (kn : sKn) : List (Nat × sA) := [(0, a_aload 0 1), (1, a_iload 1 2), (2, a_put 10 2 ckI 5), (5, a_aload 0 6), (6, a_stk (q_int 0) 7), (7, a_put 10 3 ckI 10), (10, a_aload 0 11), (11, a_stk (q_int 0) 12), (12, a_put 10 11 ckI 15), (15, a_aload 0 16), (16, a_callV true (fX9_advance kn) 10 1 19), (19, a_vret)]
def fX9_begin (kn : sKn) : List Value → sW → Option sR := mF (tX9_begin kn) 2 1000000
set_option maxRecDepth 100000 in
set_option maxHeartbeats 4000000 in
theorem mX9_begin (kn : sKn) : mM kn yX9_begin (Cond.code yX9_begin cX9_begin 2 none :: wsL_law) 2 true (fX9_begin kn) := mM_of (own := RX9) (ini := false) rfl (by decide +kernel) (by decide +kernel) (all_c (ok_aload_n dX9_begin_0 rfl) (all_c (ok_iload_n dX9_begin_1 rfl) (all_c (okp_X9_2 kw164 dX9_begin_2) (all_c (ok_aload_n dX9_begin_5 rfl) (all_c (ok_stk (s_iconst dX9_begin_6 (by decide))) (all_c (okp_X9_3 kw166 dX9_begin_7) (all_c (ok_aload_n dX9_begin_10 rfl) (all_c (ok_stk (s_iconst dX9_begin_11 (by decide))) (all_c (okp_X9_11 kw189 dX9_begin_12) (all_c (ok_aload_n dX9_begin_15 rfl) (all_c (okc_X9_advance (by decide) kw193 dX9_begin_16) (all_c (ok_vret dX9_begin_19) all_n)))))))))))) 1000000 (fun h => by first | rfl | cases h)
theorem dX9_refuseAt_0 : decode cX9_refuseAt 0 = .ok (.aload_n 0, 1) := by decide +kernel
theorem dX9_refuseAt_1 : decode cX9_refuseAt 1 = .ok (.iload_n 1, 1) := by decide +kernel
theorem dX9_refuseAt_2 : decode cX9_refuseAt 2 = .ok (.putfield 25, 3) := by decide +kernel
theorem dX9_refuseAt_5 : decode cX9_refuseAt 5 = .ok (.aload_n 0, 1) := by decide +kernel
theorem dX9_refuseAt_6 : decode cX9_refuseAt 6 = .ok (.iload_n 2, 1) := by decide +kernel
theorem dX9_refuseAt_7 : decode cX9_refuseAt 7 = .ok (.putfield 82, 3) := by decide +kernel
theorem dX9_refuseAt_10 : decode cX9_refuseAt 10 = .ok (.iconst 0, 1) := by decide +kernel
theorem dX9_refuseAt_11 : decode cX9_refuseAt 11 = .ok (.ireturn, 1) := by decide +kernel
def tX9_refuseAt (kn : sKn) : List (Nat × sA) := [(0, a_aload 0 1), (1, a_iload 1 2), (2, a_put 10 11 ckI 5), (5, a_aload 0 6), (6, a_iload 2 7), (7, a_put 10 12 ckI 10), (10, a_stk (q_int 0) 11), (11, a_zret)]
def fX9_refuseAt (kn : sKn) : List Value → sW → Option sR := mF (tX9_refuseAt kn) 3 1000000
set_option maxRecDepth 100000 in
set_option maxHeartbeats 4000000 in
theorem mX9_refuseAt (kn : sKn) : mM kn yX9_refuseAt (Cond.code yX9_refuseAt cX9_refuseAt 3 (some .boolean) :: wsL_law) 1 false (fX9_refuseAt kn) := mM_of (own := RX9) (ini := false) rfl (by decide +kernel) (by decide +kernel) (all_c (ok_aload_n dX9_refuseAt_0 rfl) (all_c (ok_iload_n dX9_refuseAt_1 rfl) (all_c (okp_X9_11 kw189 dX9_refuseAt_2) (all_c (ok_aload_n dX9_refuseAt_5 rfl) (all_c (ok_iload_n dX9_refuseAt_6 rfl) (all_c (okp_X9_12 kw194 dX9_refuseAt_7) (all_c (ok_stk (s_iconst dX9_refuseAt_10 (by decide))) (all_c (ok_zret dX9_refuseAt_11) all_n)))))))) 1000000 (fun h => by first | rfl | cases h)
theorem dX9_refuse_0 : decode cX9_refuse 0 = .ok (.aload_n 0, 1) := by decide +kernel
theorem dX9_refuse_1 : decode cX9_refuse 1 = .ok (.iload_n 1, 1) := by decide +kernel
theorem dX9_refuse_2 : decode cX9_refuse 2 = .ok (.aload_n 0, 1) := by decide +kernel
theorem dX9_refuse_3 : decode cX9_refuse 3 = .ok (.getfield 37, 3) := by decide +kernel
theorem dX9_refuse_6 : decode cX9_refuse 6 = .ok (.invokevirtual 78, 3) := by decide +kernel
theorem dX9_refuse_9 : decode cX9_refuse 9 = .ok (.ireturn, 1) := by decide +kernel
theorem okc_X9_refuseAt {kn : sKn} {cc : ByteArray} {own : String} {nL : Nat} {D : Nat} {ret : Option FieldType} {ini : Bool} {pc index : Nat} (hD : 1 + 1 ≤ D) (hl : Cond.methodLink own index yX9_refuseAt ∈ wsL_law) (hd : decode cc pc = .ok (.invokevirtual index, 3)) : mOk kn cc own nL wsL_law D ret ini pc (a_callV false (fX9_refuseAt kn) 10 (2 + 1) (pc + 3)) := ok_callV (mX9_refuseAt kn) (good_ws ws_good (fun _ h => h) kw195) hD (by decide) hl kw196 kw197 kw172 ⟨by decide +kernel, by decide +kernel, by decide +kernel⟩ rfl hd
def tX9_refuse (kn : sKn) : List (Nat × sA) := [(0, a_aload 0 1), (1, a_iload 1 2), (2, a_aload 0 3), (3, a_get 10 5 6), (6, a_callV false (fX9_refuseAt kn) 10 3 9), (9, a_zret)]
def fX9_refuse (kn : sKn) : List Value → sW → Option sR := mF (tX9_refuse kn) 2 1000000
set_option maxRecDepth 100000 in
set_option maxHeartbeats 4000000 in
theorem mX9_refuse (kn : sKn) : mM kn yX9_refuse (Cond.code yX9_refuse cX9_refuse 2 (some .boolean) :: wsL_law) 2 false (fX9_refuse kn) := mM_of (own := RX9) (ini := false) rfl (by decide +kernel) (by decide +kernel) (all_c (ok_aload_n dX9_refuse_0 rfl) (all_c (ok_iload_n dX9_refuse_1 rfl) (all_c (ok_aload_n dX9_refuse_2 rfl) (all_c (okg_X9_5 kw168 dX9_refuse_3) (all_c (okc_X9_refuseAt (by decide) kw198 dX9_refuse_6) (all_c (ok_zret dX9_refuse_9) all_n)))))) 1000000 (fun h => by first | rfl | cases h)
theorem dX9_takeEnd_0 : decode cX9_takeEnd 0 = .ok (.aload_n 0, 1) := by decide +kernel
theorem dX9_takeEnd_1 : decode cX9_takeEnd 1 = .ok (.getfield 40, 3) := by decide +kernel
theorem dX9_takeEnd_4 : decode cX9_takeEnd 4 = .ok (.ifCond .ne 14, 3) := by decide +kernel
theorem dX9_takeEnd_7 : decode cX9_takeEnd 7 = .ok (.aload_n 0, 1) := by decide +kernel
theorem dX9_takeEnd_8 : decode cX9_takeEnd 8 = .ok (.getfield 15, 3) := by decide +kernel
theorem dX9_takeEnd_11 : decode cX9_takeEnd 11 = .ok (.aload_n 0, 1) := by decide +kernel
theorem dX9_takeEnd_12 : decode cX9_takeEnd 12 = .ok (.getfield 19, 3) := by decide +kernel
theorem dX9_takeEnd_15 : decode cX9_takeEnd 15 = .ok (.if_icmp .le 9, 3) := by decide +kernel
theorem dX9_takeEnd_18 : decode cX9_takeEnd 18 = .ok (.aload_n 0, 1) := by decide +kernel
theorem dX9_takeEnd_19 : decode cX9_takeEnd 19 = .ok (.iconst 1, 1) := by decide +kernel
theorem dX9_takeEnd_20 : decode cX9_takeEnd 20 = .ok (.invokevirtual 85, 3) := by decide +kernel
theorem dX9_takeEnd_23 : decode cX9_takeEnd 23 = .ok (.ireturn, 1) := by decide +kernel
theorem dX9_takeEnd_24 : decode cX9_takeEnd 24 = .ok (.iconst 1, 1) := by decide +kernel
theorem dX9_takeEnd_25 : decode cX9_takeEnd 25 = .ok (.ireturn, 1) := by decide +kernel
theorem okc_X9_refuse {kn : sKn} {cc : ByteArray} {own : String} {nL : Nat} {D : Nat} {ret : Option FieldType} {ini : Bool} {pc index : Nat} (hD : 2 + 1 ≤ D) (hl : Cond.methodLink own index yX9_refuse ∈ wsL_law) (hd : decode cc pc = .ok (.invokevirtual index, 3)) : mOk kn cc own nL wsL_law D ret ini pc (a_callV false (fX9_refuse kn) 10 (1 + 1) (pc + 3)) := ok_callV (mX9_refuse kn) (good_ws ws_good (fun _ h => h) kw199) hD (by decide) hl kw200 kw201 kw172 ⟨by decide +kernel, by decide +kernel, by decide +kernel⟩ rfl hd
def tX9_takeEnd (kn : sKn) : List (Nat × sA) := [(0, a_aload 0 1), (1, a_get 10 4 4), (4, a_if kn b_ne 1 18 7), (7, a_aload 0 8), (8, a_get 10 1 11), (11, a_aload 0 12), (12, a_get 10 2 15), (15, a_icmp kn b_le 5 24 18), (18, a_aload 0 19), (19, a_stk (q_int 1) 20), (20, a_callV false (fX9_refuse kn) 10 2 23), (23, a_zret), (24, a_stk (q_int 1) 25), (25, a_zret)]
def fX9_takeEnd (kn : sKn) : List Value → sW → Option sR := mF (tX9_takeEnd kn) 1 1000000
set_option maxRecDepth 100000 in
set_option maxHeartbeats 4000000 in
theorem mX9_takeEnd (kn : sKn) : mM kn yX9_takeEnd (Cond.code yX9_takeEnd cX9_takeEnd 1 (some .boolean) :: wsL_law) 3 false (fX9_takeEnd kn) := mM_of (own := RX9) (ini := false) rfl (by decide +kernel) (by decide +kernel) (all_c (ok_aload_n dX9_takeEnd_0 rfl) (all_c (okg_X9_4 kw169 dX9_takeEnd_1) (all_c (ok_if_ne dX9_takeEnd_4 (by decide)) (all_c (ok_aload_n dX9_takeEnd_7 rfl) (all_c (okg_X9_1 kw163 dX9_takeEnd_8) (all_c (ok_aload_n dX9_takeEnd_11 rfl) (all_c (okg_X9_2 kw164 dX9_takeEnd_12) (all_c (ok_icmp_le dX9_takeEnd_15 (by decide)) (all_c (ok_aload_n dX9_takeEnd_18 rfl) (all_c (ok_stk (s_iconst dX9_takeEnd_19 (by decide))) (all_c (okc_X9_refuse (by decide) kw202 dX9_takeEnd_20) (all_c (ok_zret dX9_takeEnd_23) (all_c (ok_stk (s_iconst dX9_takeEnd_24 (by decide))) (all_c (ok_zret dX9_takeEnd_25) all_n)))))))))))))) 1000000 (fun h => by first | rfl | cases h)
theorem dX1_read_0 : decode cX1_read 0 = .ok (.aload_n 1, 1) := by decide +kernel
theorem dX1_read_1 : decode cX1_read 1 = .ok (.sipush 400, 3) := by decide +kernel
theorem dX1_read_4 : decode cX1_read 4 = .ok (.invokevirtual 27, 3) := by decide +kernel
theorem dX1_read_7 : decode cX1_read 7 = .ok (.aload_n 0, 1) := by decide +kernel
theorem dX1_read_8 : decode cX1_read 8 = .ok (.iconst 0, 1) := by decide +kernel
theorem dX1_read_9 : decode cX1_read 9 = .ok (.putfield 33, 3) := by decide +kernel
theorem dX1_read_12 : decode cX1_read 12 = .ok (.aload_n 0, 1) := by decide +kernel
theorem dX1_read_13 : decode cX1_read 13 = .ok (.getfield 33, 3) := by decide +kernel
theorem dX1_read_16 : decode cX1_read 16 = .ok (.bipush 40, 2) := by decide +kernel
theorem dX1_read_18 : decode cX1_read 18 = .ok (.if_icmp .gt 43, 3) := by decide +kernel
theorem dX1_read_21 : decode cX1_read 21 = .ok (.aload_n 1, 1) := by decide +kernel
theorem dX1_read_22 : decode cX1_read 22 = .ok (.getfield 37, 3) := by decide +kernel
theorem dX1_read_25 : decode cX1_read 25 = .ok (.ifCond .eq 36, 3) := by decide +kernel
theorem dX1_read_28 : decode cX1_read 28 = .ok (.aload_n 0, 1) := by decide +kernel
theorem dX1_read_29 : decode cX1_read 29 = .ok (.aload_n 1, 1) := by decide +kernel
theorem dX1_read_30 : decode cX1_read 30 = .ok (.aload_n 2, 1) := by decide +kernel
theorem dX1_read_31 : decode cX1_read 31 = .ok (.invokevirtual 40, 3) := by decide +kernel
theorem dX1_read_34 : decode cX1_read 34 = .ok (.ifCond .eq 12, 3) := by decide +kernel
theorem dX1_read_37 : decode cX1_read 37 = .ok (.aload_n 1, 1) := by decide +kernel
theorem dX1_read_38 : decode cX1_read 38 = .ok (.bipush 59, 2) := by decide +kernel
theorem dX1_read_40 : decode cX1_read 40 = .ok (.invokevirtual 44, 3) := by decide +kernel
theorem dX1_read_43 : decode cX1_read 43 = .ok (.ifCond .ne 5, 3) := by decide +kernel
theorem dX1_read_46 : decode cX1_read 46 = .ok (.iconst 0, 1) := by decide +kernel
theorem dX1_read_47 : decode cX1_read 47 = .ok (.ireturn, 1) := by decide +kernel
theorem dX1_read_48 : decode cX1_read 48 = .ok (.aload_n 0, 1) := by decide +kernel
theorem dX1_read_49 : decode cX1_read 49 = .ok (.dup, 1) := by decide +kernel
theorem dX1_read_50 : decode cX1_read 50 = .ok (.getfield 33, 3) := by decide +kernel
theorem dX1_read_53 : decode cX1_read 53 = .ok (.iconst 1, 1) := by decide +kernel
theorem dX1_read_54 : decode cX1_read 54 = .ok (.iadd, 1) := by decide +kernel
theorem dX1_read_55 : decode cX1_read 55 = .ok (.putfield 33, 3) := by decide +kernel
theorem dX1_read_58 : decode cX1_read 58 = .ok (.goto (-46), 3) := by decide +kernel
theorem dX1_read_61 : decode cX1_read 61 = .ok (.aload_n 1, 1) := by decide +kernel
theorem dX1_read_62 : decode cX1_read 62 = .ok (.invokevirtual 48, 3) := by decide +kernel
theorem dX1_read_65 : decode cX1_read 65 = .ok (.ireturn, 1) := by decide +kernel
theorem okc_X9_begin {kn : sKn} {cc : ByteArray} {own : String} {nL : Nat} {D : Nat} {ret : Option FieldType} {ini : Bool} {pc index : Nat} (hD : 2 + 1 ≤ D) (hl : Cond.methodLink own index yX9_begin ∈ wsL_law) (hd : decode cc pc = .ok (.invokevirtual index, 3)) : mOk kn cc own nL wsL_law D ret ini pc (a_callV true (fX9_begin kn) 10 (1 + 1) (pc + 3)) := ok_callV (mX9_begin kn) (good_ws ws_good (fun _ h => h) kw203) hD (by decide) hl kw204 kw205 kw172 ⟨by decide +kernel, by decide +kernel, by decide +kernel⟩ rfl hd
theorem okc0_X1_readLine {kn : sKn} {cc : ByteArray} {own : String} {nL : Nat} {D : Nat} {ret : Option FieldType} {ini : Bool} {pc index : Nat} (hD : 0 + 1 ≤ D) (hl : Cond.methodLink own index yX1_readLine ∈ wsL_law) (hd : decode cc pc = .ok (.invokevirtual index, 3)) : mOk kn cc own nL wsL_law D ret ini pc (a_callV false f_none 2 (2 + 1) (pc + 3)) := ok_callV (m_none (D := 0)) (good_ws ws_good (fun _ h => h) kw208) hD (by decide) hl kw209 kw210 kw156 ⟨by decide +kernel, by decide +kernel, by decide +kernel⟩ rfl hd
theorem okc0_X9_takeSign {kn : sKn} {cc : ByteArray} {own : String} {nL : Nat} {D : Nat} {ret : Option FieldType} {ini : Bool} {pc index : Nat} (hD : 0 + 1 ≤ D) (hl : Cond.methodLink own index yX9_takeSign ∈ wsL_law) (hd : decode cc pc = .ok (.invokevirtual index, 3)) : mOk kn cc own nL wsL_law D ret ini pc (a_callV false f_none 10 (1 + 1) (pc + 3)) := ok_callV (m_none (D := 0)) (good_ws ws_good (fun _ h => h) kw212) hD (by decide) hl kw213 kw214 kw172 ⟨by decide +kernel, by decide +kernel, by decide +kernel⟩ rfl hd
theorem okc_X9_takeEnd {kn : sKn} {cc : ByteArray} {own : String} {nL : Nat} {D : Nat} {ret : Option FieldType} {ini : Bool} {pc index : Nat} (hD : 3 + 1 ≤ D) (hl : Cond.methodLink own index yX9_takeEnd ∈ wsL_law) (hd : decode cc pc = .ok (.invokevirtual index, 3)) : mOk kn cc own nL wsL_law D ret ini pc (a_callV false (fX9_takeEnd kn) 10 (0 + 1) (pc + 3)) := ok_callV (mX9_takeEnd kn) (good_ws ws_good (fun _ h => h) kw216) hD (by decide) hl kw217 kw218 kw172 ⟨by decide +kernel, by decide +kernel, by decide +kernel⟩ rfl hd
def tX1_read (kn : sKn) : List (Nat × sA) := [(0, a_aload 1 1), (1, a_stk (q_int 400) 4), (4, a_callV true (fX9_begin kn) 10 2 7), (7, a_aload 0 8), (8, a_stk (q_int 0) 9), (9, a_put 2 4 ckI 12), (12, a_aload 0 13), (13, a_get 2 4 16), (16, a_stk (q_int 40) 18), (18, a_icmp kn b_gt 4 61 21), (21, a_aload 1 22), (22, a_get 10 4 25), (25, a_if kn b_eq 0 61 28), (28, a_aload 0 29), (29, a_aload 1 30), (30, a_aload 2 31), (31, a_callV false f_none 2 3 34), (34, a_if kn b_eq 0 46 37), (37, a_aload 1 38), (38, a_stk (q_int 59) 40), (40, a_callV false f_none 10 2 43), (43, a_if kn b_ne 1 48 46), (46, a_stk (q_int 0) 47), (47, a_zret), (48, a_aload 0 49), (49, a_stk q_dup 50), (50, a_get 2 4 53), (53, a_stk (q_int 1) 54), (54, a_stk q_iadd 55), (55, a_put 2 4 ckI 58), (58, a_goto 12), (61, a_aload 1 62), (62, a_callV false (fX9_takeEnd kn) 10 1 65), (65, a_zret)]
def fX1_read (kn : sKn) : List Value → sW → Option sR := mF (tX1_read kn) 3 1000000
set_option maxRecDepth 100000 in
set_option maxHeartbeats 4000000 in
theorem mX1_read (kn : sKn) : mM kn yX1_read (Cond.code yX1_read cX1_read 3 (some .boolean) :: wsL_law) 4 false (fX1_read kn) := mM_of (own := RX1) (ini := false) rfl (by decide +kernel) (by decide +kernel) (all_c (ok_aload_n dX1_read_0 rfl) (all_c (ok_stk (s_sipush dX1_read_1 (by decide))) (all_c (okc_X9_begin (by decide) kw206 dX1_read_4) (all_c (ok_aload_n dX1_read_7 rfl) (all_c (ok_stk (s_iconst dX1_read_8 (by decide))) (all_c (okp_X1_4 kw154 dX1_read_9) (all_c (ok_aload_n dX1_read_12 rfl) (all_c (okg_X1_4 kw154 dX1_read_13) (all_c (ok_stk (s_bipush dX1_read_16 (by decide))) (all_c (ok_icmp_gt dX1_read_18 (by decide)) (all_c (ok_aload_n dX1_read_21 rfl) (all_c (okg_X9_4 kw207 dX1_read_22) (all_c (ok_if_eq dX1_read_25 (by decide)) (all_c (ok_aload_n dX1_read_28 rfl) (all_c (ok_aload_n dX1_read_29 rfl) (all_c (ok_aload_n dX1_read_30 rfl) (all_c (okc0_X1_readLine (by decide) kw211 dX1_read_31) (all_c (ok_if_eq dX1_read_34 (by decide)) (all_c (ok_aload_n dX1_read_37 rfl) (all_c (ok_stk (s_bipush dX1_read_38 (by decide))) (all_c (okc0_X9_takeSign (by decide) kw215 dX1_read_40) (all_c (ok_if_ne dX1_read_43 (by decide)) (all_c (ok_stk (s_iconst dX1_read_46 (by decide))) (all_c (ok_zret dX1_read_47) (all_c (ok_aload_n dX1_read_48 rfl) (all_c (ok_stk (s_dup dX1_read_49)) (all_c (okg_X1_4 kw154 dX1_read_50) (all_c (ok_stk (s_iconst dX1_read_53 (by decide))) (all_c (ok_stk (s_iadd dX1_read_54)) (all_c (okp_X1_4 kw154 dX1_read_55) (all_c (ok_goto dX1_read_58 (by decide)) (all_c (ok_aload_n dX1_read_61 rfl) (all_c (okc_X9_takeEnd (by decide) kw219 dX1_read_62) (all_c (ok_zret dX1_read_65) all_n)))))))))))))))))))))))))))))))))) 1000000 (fun h => by first | rfl | cases h)
theorem dX11_book_0 : decode cX11_book 0 = .ok (.iload_n 1, 1) := by decide +kernel
theorem dX11_book_1 : decode cX11_book 1 = .ok (.ifCond .eq 12, 3) := by decide +kernel
theorem dX11_book_4 : decode cX11_book 4 = .ok (.iload_n 1, 1) := by decide +kernel
theorem dX11_book_5 : decode cX11_book 5 = .ok (.iconst 1, 1) := by decide +kernel
theorem dX11_book_6 : decode cX11_book 6 = .ok (.if_icmp .eq 7, 3) := by decide +kernel
theorem dX11_book_9 : decode cX11_book 9 = .ok (.sipush (-1000), 3) := by decide +kernel
theorem dX11_book_12 : decode cX11_book 12 = .ok (.ireturn, 1) := by decide +kernel
theorem dX11_book_13 : decode cX11_book 13 = .ok (.aload_n 0, 1) := by decide +kernel
theorem dX11_book_14 : decode cX11_book 14 = .ok (.getfield 50, 3) := by decide +kernel
theorem dX11_book_17 : decode cX11_book 17 = .ok (.aload_n 0, 1) := by decide +kernel
theorem dX11_book_18 : decode cX11_book 18 = .ok (.getfield 10, 3) := by decide +kernel
theorem dX11_book_21 : decode cX11_book 21 = .ok (.aload_n 0, 1) := by decide +kernel
theorem dX11_book_22 : decode cX11_book 22 = .ok (.getfield 26, 3) := by decide +kernel
theorem dX11_book_25 : decode cX11_book 25 = .ok (.invokevirtual 379, 3) := by decide +kernel
theorem dX11_book_28 : decode cX11_book 28 = .ok (.istore_n 2, 1) := by decide +kernel
theorem dX11_book_29 : decode cX11_book 29 = .ok (.aload_n 0, 1) := by decide +kernel
theorem dX11_book_30 : decode cX11_book 30 = .ok (.getfield 10, 3) := by decide +kernel
theorem dX11_book_33 : decode cX11_book 33 = .ok (.iconst 0, 1) := by decide +kernel
theorem dX11_book_34 : decode cX11_book 34 = .ok (.putfield 115, 3) := by decide +kernel
theorem dX11_book_37 : decode cX11_book 37 = .ok (.iload_n 2, 1) := by decide +kernel
theorem dX11_book_38 : decode cX11_book 38 = .ok (.ifCond .ne 14, 3) := by decide +kernel
theorem dX11_book_41 : decode cX11_book 41 = .ok (.bipush (-2), 2) := by decide +kernel
theorem dX11_book_43 : decode cX11_book 43 = .ok (.aload_n 0, 1) := by decide +kernel
theorem dX11_book_44 : decode cX11_book 44 = .ok (.getfield 10, 3) := by decide +kernel
theorem dX11_book_47 : decode cX11_book 47 = .ok (.getfield 127, 3) := by decide +kernel
theorem dX11_book_50 : decode cX11_book 50 = .ok (.isub, 1) := by decide +kernel
theorem dX11_book_51 : decode cX11_book 51 = .ok (.ireturn, 1) := by decide +kernel
theorem dX11_book_52 : decode cX11_book 52 = .ok (.aload_n 0, 1) := by decide +kernel
theorem dX11_book_53 : decode cX11_book 53 = .ok (.invokevirtual 237, 3) := by decide +kernel
theorem dX11_book_56 : decode cX11_book 56 = .ok (.aload_n 0, 1) := by decide +kernel
theorem dX11_book_57 : decode cX11_book 57 = .ok (.getfield 50, 3) := by decide +kernel
theorem dX11_book_60 : decode cX11_book 60 = .ok (.aload_n 0, 1) := by decide +kernel
theorem dX11_book_61 : decode cX11_book 61 = .ok (.getfield 26, 3) := by decide +kernel
theorem dX11_book_64 : decode cX11_book 64 = .ok (.aload_n 0, 1) := by decide +kernel
theorem dX11_book_65 : decode cX11_book 65 = .ok (.getfield 33, 3) := by decide +kernel
theorem dX11_book_68 : decode cX11_book 68 = .ok (.aload_n 0, 1) := by decide +kernel
theorem dX11_book_69 : decode cX11_book 69 = .ok (.getfield 57, 3) := by decide +kernel
theorem dX11_book_72 : decode cX11_book 72 = .ok (.invokevirtual 382, 3) := by decide +kernel
theorem dX11_book_75 : decode cX11_book 75 = .ok (.istore_n 3, 1) := by decide +kernel
theorem dX11_book_76 : decode cX11_book 76 = .ok (.iload_n 1, 1) := by decide +kernel
theorem dX11_book_77 : decode cX11_book 77 = .ok (.iconst 1, 1) := by decide +kernel
theorem dX11_book_78 : decode cX11_book 78 = .ok (.if_icmp .ne 10, 3) := by decide +kernel
theorem dX11_book_81 : decode cX11_book 81 = .ok (.aload_n 0, 1) := by decide +kernel
theorem dX11_book_82 : decode cX11_book 82 = .ok (.invokevirtual 263, 3) := by decide +kernel
theorem dX11_book_85 : decode cX11_book 85 = .ok (.goto 19, 3) := by decide +kernel
theorem dX11_book_88 : decode cX11_book 88 = .ok (.aload_n 0, 1) := by decide +kernel
theorem dX11_book_89 : decode cX11_book 89 = .ok (.getfield 33, 3) := by decide +kernel
theorem dX11_book_92 : decode cX11_book 92 = .ok (.aload_n 0, 1) := by decide +kernel
theorem dX11_book_93 : decode cX11_book 93 = .ok (.getfield 96, 3) := by decide +kernel
theorem dX11_book_96 : decode cX11_book 96 = .ok (.aload_n 0, 1) := by decide +kernel
theorem dX11_book_97 : decode cX11_book 97 = .ok (.getfield 270, 3) := by decide +kernel
theorem dX11_book_100 : decode cX11_book 100 = .ok (.aaload, 1) := by decide +kernel
theorem dX11_book_101 : decode cX11_book 101 = .ok (.invokevirtual 273, 3) := by decide +kernel
theorem dX11_book_104 : decode cX11_book 104 = .ok (.iload_n 3, 1) := by decide +kernel
theorem dX11_book_105 : decode cX11_book 105 = .ok (.ireturn, 1) := by decide +kernel
theorem okc_X1_read {kn : sKn} {cc : ByteArray} {own : String} {nL : Nat} {D : Nat} {ret : Option FieldType} {ini : Bool} {pc index : Nat} (hD : 4 + 1 ≤ D) (hl : Cond.methodLink own index yX1_read ∈ wsL_law) (hd : decode cc pc = .ok (.invokevirtual index, 3)) : mOk kn cc own nL wsL_law D ret ini pc (a_callV false (fX1_read kn) 2 (2 + 1) (pc + 3)) := ok_callV (mX1_read kn) (good_ws ws_good (fun _ h => h) kw222) hD (by decide) hl kw223 kw224 kw156 ⟨by decide +kernel, by decide +kernel, by decide +kernel⟩ rfl hd
theorem okc_X11_rememberState {kn : sKn} {cc : ByteArray} {own : String} {nL : Nat} {D : Nat} {ret : Option FieldType} {ini : Bool} {pc index : Nat} (hD : 2 + 1 ≤ D) (hl : Cond.methodLink own index yX11_rememberState ∈ wsL_law) (hd : decode cc pc = .ok (.invokevirtual index, 3)) : mOk kn cc own nL wsL_law D ret ini pc (a_callV true (fX11_rememberState kn) 12 (0 + 1) (pc + 3)) := ok_callV (mX11_rememberState kn) (good_ws ws_good (fun _ h => h) kw228) hD (by decide) hl kw229 kw230 kw119 ⟨by decide +kernel, by decide +kernel, by decide +kernel⟩ rfl hd
theorem okc_X1_live {kn : sKn} {cc : ByteArray} {own : String} {nL : Nat} {D : Nat} {ret : Option FieldType} {ini : Bool} {pc index : Nat} (hD : 1 + 1 ≤ D) (hl : Cond.methodLink own index yX1_live ∈ wsL_law) (hd : decode cc pc = .ok (.invokevirtual index, 3)) : mOk kn cc own nL wsL_law D ret ini pc (a_callV false (fX1_live kn) 2 (3 + 1) (pc + 3)) := ok_callV (mX1_live kn) (good_ws ws_good (fun _ h => h) kw232) hD (by decide) hl kw233 kw234 kw156 ⟨by decide +kernel, by decide +kernel, by decide +kernel⟩ rfl hd
theorem okc_X11_keepRemembered {kn : sKn} {cc : ByteArray} {own : String} {nL : Nat} {D : Nat} {ret : Option FieldType} {ini : Bool} {pc index : Nat} (hD : 1 + 1 ≤ D) (hl : Cond.methodLink own index yX11_keepRemembered ∈ wsL_law) (hd : decode cc pc = .ok (.invokevirtual index, 3)) : mOk kn cc own nL wsL_law D ret ini pc (a_callV true (fX11_keepRemembered kn) 12 (0 + 1) (pc + 3)) := ok_callV (mX11_keepRemembered kn) (good_ws ws_good (fun _ h => h) kw236) hD (by decide) hl kw237 kw238 kw119 ⟨by decide +kernel, by decide +kernel, by decide +kernel⟩ rfl hd
def tX11_book (kn : sKn) : List (Nat × sA) := [(0, a_iload 1 1), (1, a_if kn b_eq 0 13 4), (4, a_iload 1 5), (5, a_stk (q_int 1) 6), (6, a_icmp kn b_eq 0 13 9), (9, a_stk (q_int (-1000)) 12), (12, a_iret), (13, a_aload 0 14), (14, a_get 12 6 17), (17, a_aload 0 18), (18, a_get 12 0 21), (21, a_aload 0 22), (22, a_get 12 2 25), (25, a_callV false (fX1_read kn) 2 3 28), (28, a_istore 2 29), (29, a_aload 0 30), (30, a_get 12 0 33), (33, a_stk (q_int 0) 34), (34, a_put 10 1 ckI 37), (37, a_iload 2 38), (38, a_if kn b_ne 1 52 41), (41, a_stk (q_int (-2)) 43), (43, a_aload 0 44), (44, a_get 12 0 47), (47, a_get 10 12 50), (50, a_stk q_isub 51), (51, a_iret), (52, a_aload 0 53), (53, a_callV true (fX11_rememberState kn) 12 1 56), (56, a_aload 0 57), (57, a_get 12 6 60), (60, a_aload 0 61), (61, a_get 12 2 64), (64, a_aload 0 65), (65, a_get 12 3 68), (68, a_aload 0 69), (69, a_get 12 7 72), (72, a_callV false (fX1_live kn) 2 4 75), (75, a_istore 3 76), (76, a_iload 1 77), (77, a_stk (q_int 1) 78), (78, a_icmp kn b_ne 1 88 81), (81, a_aload 0 82), (82, a_callV true (fX11_keepRemembered kn) 12 1 85), (85, a_goto 104), (88, a_aload 0 89), (89, a_get 12 3 92), (92, a_aload 0 93), (93, a_get 12 13 96), (96, a_aload 0 97), (97, a_get 12 14 100), (100, a_aald 101), (101, a_callV true (fX8_copyOf kn) 9 2 104), (104, a_iload 3 105), (105, a_iret)]
def fX11_book (kn : sKn) : List Value → sW → Option sR := mF (tX11_book kn) 4 1000000
set_option maxRecDepth 100000 in
set_option maxHeartbeats 4000000 in
theorem mX11_book (kn : sKn) : mM kn yX11_book (Cond.code yX11_book cX11_book 4 (some .int) :: wsL_law) 5 false (fX11_book kn) := mM_of (own := RX11) (ini := false) rfl (by decide +kernel) (by decide +kernel) (all_c (ok_iload_n dX11_book_0 rfl) (all_c (ok_if_eq dX11_book_1 (by decide)) (all_c (ok_iload_n dX11_book_4 rfl) (all_c (ok_stk (s_iconst dX11_book_5 (by decide))) (all_c (ok_icmp_eq dX11_book_6 (by decide)) (all_c (ok_stk (s_sipush dX11_book_9 (by decide))) (all_c (ok_iret dX11_book_12) (all_c (ok_aload_n dX11_book_13 rfl) (all_c (okg_X11_6 kw220 dX11_book_14) (all_c (ok_aload_n dX11_book_17 rfl) (all_c (okg_X11_0 kw221 dX11_book_18) (all_c (ok_aload_n dX11_book_21 rfl) (all_c (okg_X11_2 kw107 dX11_book_22) (all_c (okc_X1_read (by decide) kw225 dX11_book_25) (all_c (ok_istore_n dX11_book_28 rfl (by decide)) (all_c (ok_aload_n dX11_book_29 rfl) (all_c (okg_X11_0 kw221 dX11_book_30) (all_c (ok_stk (s_iconst dX11_book_33 (by decide))) (all_c (okp_X9_1 kw226 dX11_book_34) (all_c (ok_iload_n dX11_book_37 rfl) (all_c (ok_if_ne dX11_book_38 (by decide)) (all_c (ok_stk (s_bipush dX11_book_41 (by decide))) (all_c (ok_aload_n dX11_book_43 rfl) (all_c (okg_X11_0 kw221 dX11_book_44) (all_c (okg_X9_12 kw227 dX11_book_47) (all_c (ok_stk (s_isub dX11_book_50)) (all_c (ok_iret dX11_book_51) (all_c (ok_aload_n dX11_book_52 rfl) (all_c (okc_X11_rememberState (by decide) kw231 dX11_book_53) (all_c (ok_aload_n dX11_book_56 rfl) (all_c (okg_X11_6 kw220 dX11_book_57) (all_c (ok_aload_n dX11_book_60 rfl) (all_c (okg_X11_2 kw107 dX11_book_61) (all_c (ok_aload_n dX11_book_64 rfl) (all_c (okg_X11_3 kw108 dX11_book_65) (all_c (ok_aload_n dX11_book_68 rfl) (all_c (okg_X11_7 kw106 dX11_book_69) (all_c (okc_X1_live (by decide) kw235 dX11_book_72) (all_c (ok_istore_n dX11_book_75 rfl (by decide)) (all_c (ok_iload_n dX11_book_76 rfl) (all_c (ok_stk (s_iconst dX11_book_77 (by decide))) (all_c (ok_icmp_ne dX11_book_78 (by decide)) (all_c (ok_aload_n dX11_book_81 rfl) (all_c (okc_X11_keepRemembered (by decide) kw239 dX11_book_82) (all_c (ok_goto dX11_book_85 (by decide)) (all_c (ok_aload_n dX11_book_88 rfl) (all_c (okg_X11_3 kw108 dX11_book_89) (all_c (ok_aload_n dX11_book_92 rfl) (all_c (okg_X11_13 kw149 dX11_book_93) (all_c (ok_aload_n dX11_book_96 rfl) (all_c (okg_X11_14 kw139 dX11_book_97) (all_c (ok_aald dX11_book_100) (all_c (okc_X8_copyOf (by decide) kw153 dX11_book_101) (all_c (ok_iload_n dX11_book_104 rfl) (all_c (ok_iret dX11_book_105) all_n))))))))))))))))))))))))))))))))))))))))))))))))))))))) 1000000 (fun h => by first | rfl | cases h)
theorem dX11_isSigner_0 : decode cX11_isSigner 0 = .ok (.iload_n 1, 1) := by decide +kernel
theorem dX11_isSigner_1 : decode cX11_isSigner 1 = .ok (.ifCond .lt 18, 3) := by decide +kernel
theorem dX11_isSigner_4 : decode cX11_isSigner 4 = .ok (.iload_n 1, 1) := by decide +kernel
theorem dX11_isSigner_5 : decode cX11_isSigner 5 = .ok (.aload_n 0, 1) := by decide +kernel
theorem dX11_isSigner_6 : decode cX11_isSigner 6 = .ok (.getfield 26, 3) := by decide +kernel
theorem dX11_isSigner_9 : decode cX11_isSigner 9 = .ok (.getfield 369, 3) := by decide +kernel
theorem dX11_isSigner_12 : decode cX11_isSigner 12 = .ok (.if_icmp .ge 7, 3) := by decide +kernel
theorem dX11_isSigner_15 : decode cX11_isSigner 15 = .ok (.iconst 1, 1) := by decide +kernel
theorem dX11_isSigner_16 : decode cX11_isSigner 16 = .ok (.goto 4, 3) := by decide +kernel
theorem dX11_isSigner_19 : decode cX11_isSigner 19 = .ok (.iconst 0, 1) := by decide +kernel
theorem dX11_isSigner_20 : decode cX11_isSigner 20 = .ok (.ireturn, 1) := by decide +kernel
def tX11_isSigner (kn : sKn) : List (Nat × sA) := [(0, a_iload 1 1), (1, a_if kn b_lt 2 19 4), (4, a_iload 1 5), (5, a_aload 0 6), (6, a_get 12 2 9), (9, a_get 7 2 12), (12, a_icmp kn b_ge 3 19 15), (15, a_stk (q_int 1) 16), (16, a_goto 20), (19, a_stk (q_int 0) 20), (20, a_zret)]
def fX11_isSigner (kn : sKn) : List Value → sW → Option sR := mF (tX11_isSigner kn) 2 1000000
set_option maxRecDepth 100000 in
set_option maxHeartbeats 4000000 in
theorem mX11_isSigner (kn : sKn) : mM kn yX11_isSigner (Cond.code yX11_isSigner cX11_isSigner 2 (some .boolean) :: wsL_law) 1 false (fX11_isSigner kn) := mM_of (own := RX11) (ini := false) rfl (by decide +kernel) (by decide +kernel) (all_c (ok_iload_n dX11_isSigner_0 rfl) (all_c (ok_if_lt dX11_isSigner_1 (by decide)) (all_c (ok_iload_n dX11_isSigner_4 rfl) (all_c (ok_aload_n dX11_isSigner_5 rfl) (all_c (okg_X11_2 kw107 dX11_isSigner_6) (all_c (okg_X6_2 kw240 dX11_isSigner_9) (all_c (ok_icmp_ge dX11_isSigner_12 (by decide)) (all_c (ok_stk (s_iconst dX11_isSigner_15 (by decide))) (all_c (ok_goto dX11_isSigner_16 (by decide)) (all_c (ok_stk (s_iconst dX11_isSigner_19 (by decide))) (all_c (ok_zret dX11_isSigner_20) all_n))))))))))) 1000000 (fun h => by first | rfl | cases h)
theorem dX11_keepIfDone_0 : decode cX11_keepIfDone 0 = .ok (.iload_n 1, 1) := by decide +kernel
theorem dX11_keepIfDone_1 : decode cX11_keepIfDone 1 = .ok (.ifCond .ne 7, 3) := by decide +kernel
theorem dX11_keepIfDone_4 : decode cX11_keepIfDone 4 = .ok (.aload_n 0, 1) := by decide +kernel
theorem dX11_keepIfDone_5 : decode cX11_keepIfDone 5 = .ok (.invokevirtual 263, 3) := by decide +kernel
theorem dX11_keepIfDone_8 : decode cX11_keepIfDone 8 = .ok (.iload_n 1, 1) := by decide +kernel
theorem dX11_keepIfDone_9 : decode cX11_keepIfDone 9 = .ok (.ireturn, 1) := by decide +kernel
def tX11_keepIfDone (kn : sKn) : List (Nat × sA) := [(0, a_iload 1 1), (1, a_if kn b_ne 1 8 4), (4, a_aload 0 5), (5, a_callV true (fX11_keepRemembered kn) 12 1 8), (8, a_iload 1 9), (9, a_iret)]
def fX11_keepIfDone (kn : sKn) : List Value → sW → Option sR := mF (tX11_keepIfDone kn) 2 1000000
set_option maxRecDepth 100000 in
set_option maxHeartbeats 4000000 in
theorem mX11_keepIfDone (kn : sKn) : mM kn yX11_keepIfDone (Cond.code yX11_keepIfDone cX11_keepIfDone 2 (some .int) :: wsL_law) 2 false (fX11_keepIfDone kn) := mM_of (own := RX11) (ini := false) rfl (by decide +kernel) (by decide +kernel) (all_c (ok_iload_n dX11_keepIfDone_0 rfl) (all_c (ok_if_ne dX11_keepIfDone_1 (by decide)) (all_c (ok_aload_n dX11_keepIfDone_4 rfl) (all_c (okc_X11_keepRemembered (by decide) kw239 dX11_keepIfDone_5) (all_c (ok_iload_n dX11_keepIfDone_8 rfl) (all_c (ok_iret dX11_keepIfDone_9) all_n)))))) 1000000 (fun h => by first | rfl | cases h)
theorem dX11_breaks_0 : decode cX11_breaks 0 = .ok (.aload_n 0, 1) := by decide +kernel
theorem dX11_breaks_1 : decode cX11_breaks 1 = .ok (.iload_n 1, 1) := by decide +kernel
theorem dX11_breaks_2 : decode cX11_breaks 2 = .ok (.invokevirtual 150, 3) := by decide +kernel
theorem dX11_breaks_5 : decode cX11_breaks 5 = .ok (.ifCond .ne 5, 3) := by decide +kernel
theorem dX11_breaks_8 : decode cX11_breaks 8 = .ok (.iconst (-1), 1) := by decide +kernel
theorem dX11_breaks_9 : decode cX11_breaks 9 = .ok (.ireturn, 1) := by decide +kernel
theorem dX11_breaks_10 : decode cX11_breaks 10 = .ok (.aload_n 0, 1) := by decide +kernel
theorem dX11_breaks_11 : decode cX11_breaks 11 = .ok (.invokevirtual 237, 3) := by decide +kernel
theorem dX11_breaks_14 : decode cX11_breaks 14 = .ok (.aload_n 0, 1) := by decide +kernel
theorem dX11_breaks_15 : decode cX11_breaks 15 = .ok (.aload_n 0, 1) := by decide +kernel
theorem dX11_breaks_16 : decode cX11_breaks 16 = .ok (.getfield 33, 3) := by decide +kernel
theorem dX11_breaks_19 : decode cX11_breaks 19 = .ok (.iload_n 1, 1) := by decide +kernel
theorem dX11_breaks_20 : decode cX11_breaks 20 = .ok (.invokevirtual 250, 3) := by decide +kernel
theorem dX11_breaks_23 : decode cX11_breaks 23 = .ok (.invokevirtual 243, 3) := by decide +kernel
theorem dX11_breaks_26 : decode cX11_breaks 26 = .ok (.ireturn, 1) := by decide +kernel
theorem okc_X11_isSigner {kn : sKn} {cc : ByteArray} {own : String} {nL : Nat} {D : Nat} {ret : Option FieldType} {ini : Bool} {pc index : Nat} (hD : 1 + 1 ≤ D) (hl : Cond.methodLink own index yX11_isSigner ∈ wsL_law) (hd : decode cc pc = .ok (.invokevirtual index, 3)) : mOk kn cc own nL wsL_law D ret ini pc (a_callV false (fX11_isSigner kn) 12 (1 + 1) (pc + 3)) := ok_callV (mX11_isSigner kn) (good_ws ws_good (fun _ h => h) kw241) hD (by decide) hl kw242 kw243 kw119 ⟨by decide +kernel, by decide +kernel, by decide +kernel⟩ rfl hd
theorem okc0_X8_breakWord {kn : sKn} {cc : ByteArray} {own : String} {nL : Nat} {D : Nat} {ret : Option FieldType} {ini : Bool} {pc index : Nat} (hD : 0 + 1 ≤ D) (hl : Cond.methodLink own index yX8_breakWord ∈ wsL_law) (hd : decode cc pc = .ok (.invokevirtual index, 3)) : mOk kn cc own nL wsL_law D ret ini pc (a_callV false f_none 9 (1 + 1) (pc + 3)) := ok_callV (m_none (D := 0)) (good_ws ws_good (fun _ h => h) kw245) hD (by decide) hl kw246 kw247 kw45 ⟨by decide +kernel, by decide +kernel, by decide +kernel⟩ rfl hd
theorem okc_X11_keepIfDone {kn : sKn} {cc : ByteArray} {own : String} {nL : Nat} {D : Nat} {ret : Option FieldType} {ini : Bool} {pc index : Nat} (hD : 2 + 1 ≤ D) (hl : Cond.methodLink own index yX11_keepIfDone ∈ wsL_law) (hd : decode cc pc = .ok (.invokevirtual index, 3)) : mOk kn cc own nL wsL_law D ret ini pc (a_callV false (fX11_keepIfDone kn) 12 (1 + 1) (pc + 3)) := ok_callV (mX11_keepIfDone kn) (good_ws ws_good (fun _ h => h) kw249) hD (by decide) hl kw250 kw251 kw119 ⟨by decide +kernel, by decide +kernel, by decide +kernel⟩ rfl hd
def tX11_breaks (kn : sKn) : List (Nat × sA) := [(0, a_aload 0 1), (1, a_iload 1 2), (2, a_callV false (fX11_isSigner kn) 12 2 5), (5, a_if kn b_ne 1 10 8), (8, a_stk (q_int (-1)) 9), (9, a_iret), (10, a_aload 0 11), (11, a_callV true (fX11_rememberState kn) 12 1 14), (14, a_aload 0 15), (15, a_aload 0 16), (16, a_get 12 3 19), (19, a_iload 1 20), (20, a_callV false f_none 9 2 23), (23, a_callV false (fX11_keepIfDone kn) 12 2 26), (26, a_iret)]
def fX11_breaks (kn : sKn) : List Value → sW → Option sR := mF (tX11_breaks kn) 2 1000000
set_option maxRecDepth 100000 in
set_option maxHeartbeats 4000000 in
theorem mX11_breaks (kn : sKn) : mM kn yX11_breaks (Cond.code yX11_breaks cX11_breaks 2 (some .int) :: wsL_law) 3 false (fX11_breaks kn) := mM_of (own := RX11) (ini := false) rfl (by decide +kernel) (by decide +kernel) (all_c (ok_aload_n dX11_breaks_0 rfl) (all_c (ok_iload_n dX11_breaks_1 rfl) (all_c (okc_X11_isSigner (by decide) kw244 dX11_breaks_2) (all_c (ok_if_ne dX11_breaks_5 (by decide)) (all_c (ok_stk (s_iconst dX11_breaks_8 (by decide))) (all_c (ok_iret dX11_breaks_9) (all_c (ok_aload_n dX11_breaks_10 rfl) (all_c (okc_X11_rememberState (by decide) kw231 dX11_breaks_11) (all_c (ok_aload_n dX11_breaks_14 rfl) (all_c (ok_aload_n dX11_breaks_15 rfl) (all_c (okg_X11_3 kw108 dX11_breaks_16) (all_c (ok_iload_n dX11_breaks_19 rfl) (all_c (okc0_X8_breakWord (by decide) kw248 dX11_breaks_20) (all_c (okc_X11_keepIfDone (by decide) kw252 dX11_breaks_23) (all_c (ok_iret dX11_breaks_26) all_n))))))))))))))) 1000000 (fun h => by first | rfl | cases h)
theorem dX6_clear_0 : decode cX6_clear 0 = .ok (.aload_n 0, 1) := by decide +kernel
theorem dX6_clear_1 : decode cX6_clear 1 = .ok (.iconst 4, 1) := by decide +kernel
theorem dX6_clear_2 : decode cX6_clear 2 = .ok (.putfield 43, 3) := by decide +kernel
theorem dX6_clear_5 : decode cX6_clear 5 = .ok (.aload_n 0, 1) := by decide +kernel
theorem dX6_clear_6 : decode cX6_clear 6 = .ok (.iconst 5, 1) := by decide +kernel
theorem dX6_clear_7 : decode cX6_clear 7 = .ok (.putfield 47, 3) := by decide +kernel
theorem dX6_clear_10 : decode cX6_clear 10 = .ok (.aload_n 0, 1) := by decide +kernel
theorem dX6_clear_11 : decode cX6_clear 11 = .ok (.iconst 0, 1) := by decide +kernel
theorem dX6_clear_12 : decode cX6_clear 12 = .ok (.putfield 50, 3) := by decide +kernel
theorem dX6_clear_15 : decode cX6_clear 15 = .ok (.aload_n 0, 1) := by decide +kernel
theorem dX6_clear_16 : decode cX6_clear 16 = .ok (.iconst 0, 1) := by decide +kernel
theorem dX6_clear_17 : decode cX6_clear 17 = .ok (.putfield 53, 3) := by decide +kernel
theorem dX6_clear_20 : decode cX6_clear 20 = .ok (.aload_n 0, 1) := by decide +kernel
theorem dX6_clear_21 : decode cX6_clear 21 = .ok (.iconst 0, 1) := by decide +kernel
theorem dX6_clear_22 : decode cX6_clear 22 = .ok (.putfield 56, 3) := by decide +kernel
theorem dX6_clear_25 : decode cX6_clear 25 = .ok (.aload_n 0, 1) := by decide +kernel
theorem dX6_clear_26 : decode cX6_clear 26 = .ok (.iconst 0, 1) := by decide +kernel
theorem dX6_clear_27 : decode cX6_clear 27 = .ok (.putfield 59, 3) := by decide +kernel
theorem dX6_clear_30 : decode cX6_clear 30 = .ok (.aload_n 0, 1) := by decide +kernel
theorem dX6_clear_31 : decode cX6_clear 31 = .ok (.getfield 22, 3) := by decide +kernel
theorem dX6_clear_34 : decode cX6_clear 34 = .ok (.iconst (-1), 1) := by decide +kernel
theorem dX6_clear_35 : decode cX6_clear 35 = .ok (.invokestatic 62, 3) := by decide +kernel
theorem dX6_clear_38 : decode cX6_clear 38 = .ok (.aload_n 0, 1) := by decide +kernel
theorem dX6_clear_39 : decode cX6_clear 39 = .ok (.getfield 25, 3) := by decide +kernel
theorem dX6_clear_42 : decode cX6_clear 42 = .ok (.iconst 0, 1) := by decide +kernel
theorem dX6_clear_43 : decode cX6_clear 43 = .ok (.invokestatic 62, 3) := by decide +kernel
theorem dX6_clear_46 : decode cX6_clear 46 = .ok (.aload_n 0, 1) := by decide +kernel
theorem dX6_clear_47 : decode cX6_clear 47 = .ok (.getfield 28, 3) := by decide +kernel
theorem dX6_clear_50 : decode cX6_clear 50 = .ok (.iconst (-1), 1) := by decide +kernel
theorem dX6_clear_51 : decode cX6_clear 51 = .ok (.invokestatic 62, 3) := by decide +kernel
theorem dX6_clear_54 : decode cX6_clear 54 = .ok (.return_, 1) := by decide +kernel
def tX6_clear (kn : sKn) : List (Nat × sA) := [(0, a_aload 0 1), (1, a_stk (q_int 4) 2), (2, a_put 7 0 ckI 5), (5, a_aload 0 6), (6, a_stk (q_int 5) 7), (7, a_put 7 1 ckI 10), (10, a_aload 0 11), (11, a_stk (q_int 0) 12), (12, a_put 7 2 ckI 15), (15, a_aload 0 16), (16, a_stk (q_int 0) 17), (17, a_put 7 3 ckI 20), (20, a_aload 0 21), (21, a_stk (q_int 0) 22), (22, a_put 7 4 ckI 25), (25, a_aload 0 26), (26, a_stk (q_int 0) 27), (27, a_put 7 5 ckI 30), (30, a_aload 0 31), (31, a_get 7 9 34), (34, a_stk (q_int (-1)) 35), (35, a_callS true (fJ7_fill_53178 kn) 2 38), (38, a_aload 0 39), (39, a_get 7 10 42), (42, a_stk (q_int 0) 43), (43, a_callS true (fJ7_fill_53178 kn) 2 46), (46, a_aload 0 47), (47, a_get 7 11 50), (50, a_stk (q_int (-1)) 51), (51, a_callS true (fJ7_fill_53178 kn) 2 54), (54, a_vret)]
def fX6_clear (kn : sKn) : List Value → sW → Option sR := mF (tX6_clear kn) 1 1000000
set_option maxRecDepth 100000 in
set_option maxHeartbeats 4000000 in
theorem mX6_clear (kn : sKn) : mM kn yX6_clear (Cond.code yX6_clear cX6_clear 1 none :: wsL_law) 2 true (fX6_clear kn) := mM_of (own := RX6) (ini := false) rfl (by decide +kernel) (by decide +kernel) (all_c (ok_aload_n dX6_clear_0 rfl) (all_c (ok_stk (s_iconst dX6_clear_1 (by decide))) (all_c (okp_X6_0 kw253 dX6_clear_2) (all_c (ok_aload_n dX6_clear_5 rfl) (all_c (ok_stk (s_iconst dX6_clear_6 (by decide))) (all_c (okp_X6_1 kw254 dX6_clear_7) (all_c (ok_aload_n dX6_clear_10 rfl) (all_c (ok_stk (s_iconst dX6_clear_11 (by decide))) (all_c (okp_X6_2 kw255 dX6_clear_12) (all_c (ok_aload_n dX6_clear_15 rfl) (all_c (ok_stk (s_iconst dX6_clear_16 (by decide))) (all_c (okp_X6_3 kw256 dX6_clear_17) (all_c (ok_aload_n dX6_clear_20 rfl) (all_c (ok_stk (s_iconst dX6_clear_21 (by decide))) (all_c (okp_X6_4 kw257 dX6_clear_22) (all_c (ok_aload_n dX6_clear_25 rfl) (all_c (ok_stk (s_iconst dX6_clear_26 (by decide))) (all_c (okp_X6_5 kw258 dX6_clear_27) (all_c (ok_aload_n dX6_clear_30 rfl) (all_c (okg_X6_9 kw259 dX6_clear_31) (all_c (ok_stk (s_iconst dX6_clear_34 (by decide))) (all_c (okc_J7_fill_53178 (by decide) kw260 dX6_clear_35) (all_c (ok_aload_n dX6_clear_38 rfl) (all_c (okg_X6_10 kw261 dX6_clear_39) (all_c (ok_stk (s_iconst dX6_clear_42 (by decide))) (all_c (okc_J7_fill_53178 (by decide) kw260 dX6_clear_43) (all_c (ok_aload_n dX6_clear_46 rfl) (all_c (okg_X6_11 kw262 dX6_clear_47) (all_c (ok_stk (s_iconst dX6_clear_50 (by decide))) (all_c (okc_J7_fill_53178 (by decide) kw260 dX6_clear_51) (all_c (ok_vret dX6_clear_54) all_n))))))))))))))))))))))))))))))) 1000000 (fun h => by first | rfl | cases h)
theorem dX2_read_0 : decode cX2_read 0 = .ok (.aload_n 0, 1) := by decide +kernel
theorem dX2_read_1 : decode cX2_read 1 = .ok (.getfield 12, 3) := by decide +kernel
theorem dX2_read_4 : decode cX2_read 4 = .ok (.invokevirtual 18, 3) := by decide +kernel
theorem dX2_read_7 : decode cX2_read 7 = .ok (.aload_n 0, 1) := by decide +kernel
theorem dX2_read_8 : decode cX2_read 8 = .ok (.iconst 0, 1) := by decide +kernel
theorem dX2_read_9 : decode cX2_read 9 = .ok (.putfield 21, 3) := by decide +kernel
theorem dX2_read_12 : decode cX2_read 12 = .ok (.aload_n 0, 1) := by decide +kernel
theorem dX2_read_13 : decode cX2_read 13 = .ok (.iconst 0, 1) := by decide +kernel
theorem dX2_read_14 : decode cX2_read 14 = .ok (.putfield 25, 3) := by decide +kernel
theorem dX2_read_17 : decode cX2_read 17 = .ok (.aload_n 0, 1) := by decide +kernel
theorem dX2_read_18 : decode cX2_read 18 = .ok (.iconst 0, 1) := by decide +kernel
theorem dX2_read_19 : decode cX2_read 19 = .ok (.putfield 28, 3) := by decide +kernel
theorem dX2_read_22 : decode cX2_read 22 = .ok (.aload_n 1, 1) := by decide +kernel
theorem dX2_read_23 : decode cX2_read 23 = .ok (.sipush 900, 3) := by decide +kernel
theorem dX2_read_26 : decode cX2_read 26 = .ok (.invokevirtual 31, 3) := by decide +kernel
theorem dX2_read_29 : decode cX2_read 29 = .ok (.aload_n 0, 1) := by decide +kernel
theorem dX2_read_30 : decode cX2_read 30 = .ok (.iconst 0, 1) := by decide +kernel
theorem dX2_read_31 : decode cX2_read 31 = .ok (.putfield 37, 3) := by decide +kernel
theorem dX2_read_34 : decode cX2_read 34 = .ok (.aload_n 0, 1) := by decide +kernel
theorem dX2_read_35 : decode cX2_read 35 = .ok (.getfield 37, 3) := by decide +kernel
theorem dX2_read_38 : decode cX2_read 38 = .ok (.sipush 940, 3) := by decide +kernel
theorem dX2_read_41 : decode cX2_read 41 = .ok (.if_icmp .ge 42, 3) := by decide +kernel
theorem dX2_read_44 : decode cX2_read 44 = .ok (.aload_n 1, 1) := by decide +kernel
theorem dX2_read_45 : decode cX2_read 45 = .ok (.getfield 41, 3) := by decide +kernel
theorem dX2_read_48 : decode cX2_read 48 = .ok (.ifCond .eq 35, 3) := by decide +kernel
theorem dX2_read_51 : decode cX2_read 51 = .ok (.aload_n 0, 1) := by decide +kernel
theorem dX2_read_52 : decode cX2_read 52 = .ok (.aload_n 1, 1) := by decide +kernel
theorem dX2_read_53 : decode cX2_read 53 = .ok (.invokevirtual 44, 3) := by decide +kernel
theorem dX2_read_56 : decode cX2_read 56 = .ok (.ifCond .eq 12, 3) := by decide +kernel
theorem dX2_read_59 : decode cX2_read 59 = .ok (.aload_n 1, 1) := by decide +kernel
theorem dX2_read_60 : decode cX2_read 60 = .ok (.bipush 59, 2) := by decide +kernel
theorem dX2_read_62 : decode cX2_read 62 = .ok (.invokevirtual 48, 3) := by decide +kernel
theorem dX2_read_65 : decode cX2_read 65 = .ok (.ifCond .ne 5, 3) := by decide +kernel
theorem dX2_read_68 : decode cX2_read 68 = .ok (.iconst 0, 1) := by decide +kernel
theorem dX2_read_69 : decode cX2_read 69 = .ok (.ireturn, 1) := by decide +kernel
theorem dX2_read_70 : decode cX2_read 70 = .ok (.aload_n 0, 1) := by decide +kernel
theorem dX2_read_71 : decode cX2_read 71 = .ok (.dup, 1) := by decide +kernel
theorem dX2_read_72 : decode cX2_read 72 = .ok (.getfield 37, 3) := by decide +kernel
theorem dX2_read_75 : decode cX2_read 75 = .ok (.iconst 1, 1) := by decide +kernel
theorem dX2_read_76 : decode cX2_read 76 = .ok (.iadd, 1) := by decide +kernel
theorem dX2_read_77 : decode cX2_read 77 = .ok (.putfield 37, 3) := by decide +kernel
theorem dX2_read_80 : decode cX2_read 80 = .ok (.goto (-46), 3) := by decide +kernel
theorem dX2_read_83 : decode cX2_read 83 = .ok (.aload_n 1, 1) := by decide +kernel
theorem dX2_read_84 : decode cX2_read 84 = .ok (.invokevirtual 52, 3) := by decide +kernel
theorem dX2_read_87 : decode cX2_read 87 = .ok (.ireturn, 1) := by decide +kernel
theorem okc_X6_clear {kn : sKn} {cc : ByteArray} {own : String} {nL : Nat} {D : Nat} {ret : Option FieldType} {ini : Bool} {pc index : Nat} (hD : 2 + 1 ≤ D) (hl : Cond.methodLink own index yX6_clear ∈ wsL_law) (hd : decode cc pc = .ok (.invokevirtual index, 3)) : mOk kn cc own nL wsL_law D ret ini pc (a_callV true (fX6_clear kn) 7 (0 + 1) (pc + 3)) := ok_callV (mX6_clear kn) (good_ws ws_good (fun _ h => h) kw264) hD (by decide) hl kw265 kw266 kw58 ⟨by decide +kernel, by decide +kernel, by decide +kernel⟩ rfl hd
theorem okc0_X2_readLine {kn : sKn} {cc : ByteArray} {own : String} {nL : Nat} {D : Nat} {ret : Option FieldType} {ini : Bool} {pc index : Nat} (hD : 0 + 1 ≤ D) (hl : Cond.methodLink own index yX2_readLine ∈ wsL_law) (hd : decode cc pc = .ok (.invokevirtual index, 3)) : mOk kn cc own nL wsL_law D ret ini pc (a_callV false f_none 3 (1 + 1) (pc + 3)) := ok_callV (m_none (D := 0)) (good_ws ws_good (fun _ h => h) kw274) hD (by decide) hl kw276 kw277 kw275 ⟨by decide +kernel, by decide +kernel, by decide +kernel⟩ rfl hd
def tX2_read (kn : sKn) : List (Nat × sA) := [(0, a_aload 0 1), (1, a_get 3 0 4), (4, a_callV true (fX6_clear kn) 7 1 7), (7, a_aload 0 8), (8, a_stk (q_int 0) 9), (9, a_put 3 2 ckZ 12), (12, a_aload 0 13), (13, a_stk (q_int 0) 14), (14, a_put 3 3 ckZ 17), (17, a_aload 0 18), (18, a_stk (q_int 0) 19), (19, a_put 3 4 ckZ 22), (22, a_aload 1 23), (23, a_stk (q_int 900) 26), (26, a_callV true (fX9_begin kn) 10 2 29), (29, a_aload 0 30), (30, a_stk (q_int 0) 31), (31, a_put 3 1 ckI 34), (34, a_aload 0 35), (35, a_get 3 1 38), (38, a_stk (q_int 940) 41), (41, a_icmp kn b_ge 3 83 44), (44, a_aload 1 45), (45, a_get 10 4 48), (48, a_if kn b_eq 0 83 51), (51, a_aload 0 52), (52, a_aload 1 53), (53, a_callV false f_none 3 2 56), (56, a_if kn b_eq 0 68 59), (59, a_aload 1 60), (60, a_stk (q_int 59) 62), (62, a_callV false f_none 10 2 65), (65, a_if kn b_ne 1 70 68), (68, a_stk (q_int 0) 69), (69, a_zret), (70, a_aload 0 71), (71, a_stk q_dup 72), (72, a_get 3 1 75), (75, a_stk (q_int 1) 76), (76, a_stk q_iadd 77), (77, a_put 3 1 ckI 80), (80, a_goto 34), (83, a_aload 1 84), (84, a_callV false (fX9_takeEnd kn) 10 1 87), (87, a_zret)]
def fX2_read (kn : sKn) : List Value → sW → Option sR := mF (tX2_read kn) 2 1000000
set_option maxRecDepth 100000 in
set_option maxHeartbeats 4000000 in
theorem mX2_read (kn : sKn) : mM kn yX2_read (Cond.code yX2_read cX2_read 2 (some .boolean) :: wsL_law) 4 false (fX2_read kn) := mM_of (own := RX2) (ini := false) rfl (by decide +kernel) (by decide +kernel) (all_c (ok_aload_n dX2_read_0 rfl) (all_c (okg_X2_0 kw263 dX2_read_1) (all_c (okc_X6_clear (by decide) kw267 dX2_read_4) (all_c (ok_aload_n dX2_read_7 rfl) (all_c (ok_stk (s_iconst dX2_read_8 (by decide))) (all_c (okp_X2_2 kw268 dX2_read_9) (all_c (ok_aload_n dX2_read_12 rfl) (all_c (ok_stk (s_iconst dX2_read_13 (by decide))) (all_c (okp_X2_3 kw269 dX2_read_14) (all_c (ok_aload_n dX2_read_17 rfl) (all_c (ok_stk (s_iconst dX2_read_18 (by decide))) (all_c (okp_X2_4 kw270 dX2_read_19) (all_c (ok_aload_n dX2_read_22 rfl) (all_c (ok_stk (s_sipush dX2_read_23 (by decide))) (all_c (okc_X9_begin (by decide) kw271 dX2_read_26) (all_c (ok_aload_n dX2_read_29 rfl) (all_c (ok_stk (s_iconst dX2_read_30 (by decide))) (all_c (okp_X2_1 kw272 dX2_read_31) (all_c (ok_aload_n dX2_read_34 rfl) (all_c (okg_X2_1 kw272 dX2_read_35) (all_c (ok_stk (s_sipush dX2_read_38 (by decide))) (all_c (ok_icmp_ge dX2_read_41 (by decide)) (all_c (ok_aload_n dX2_read_44 rfl) (all_c (okg_X9_4 kw273 dX2_read_45) (all_c (ok_if_eq dX2_read_48 (by decide)) (all_c (ok_aload_n dX2_read_51 rfl) (all_c (ok_aload_n dX2_read_52 rfl) (all_c (okc0_X2_readLine (by decide) kw278 dX2_read_53) (all_c (ok_if_eq dX2_read_56 (by decide)) (all_c (ok_aload_n dX2_read_59 rfl) (all_c (ok_stk (s_bipush dX2_read_60 (by decide))) (all_c (okc0_X9_takeSign (by decide) kw279 dX2_read_62) (all_c (ok_if_ne dX2_read_65 (by decide)) (all_c (ok_stk (s_iconst dX2_read_68 (by decide))) (all_c (ok_zret dX2_read_69) (all_c (ok_aload_n dX2_read_70 rfl) (all_c (ok_stk (s_dup dX2_read_71)) (all_c (okg_X2_1 kw272 dX2_read_72) (all_c (ok_stk (s_iconst dX2_read_75 (by decide))) (all_c (ok_stk (s_iadd dX2_read_76)) (all_c (okp_X2_1 kw272 dX2_read_77) (all_c (ok_goto dX2_read_80 (by decide)) (all_c (ok_aload_n dX2_read_83 rfl) (all_c (okc_X9_takeEnd (by decide) kw280 dX2_read_84) (all_c (ok_zret dX2_read_87) all_n))))))))))))))))))))))))))))))))))))))))))))) 1000000 (fun h => by first | rfl | cases h)
theorem dX6_copyOf_0 : decode cX6_copyOf 0 = .ok (.aload_n 0, 1) := by decide +kernel
theorem dX6_copyOf_1 : decode cX6_copyOf 1 = .ok (.aload_n 1, 1) := by decide +kernel
theorem dX6_copyOf_2 : decode cX6_copyOf 2 = .ok (.getfield 43, 3) := by decide +kernel
theorem dX6_copyOf_5 : decode cX6_copyOf 5 = .ok (.putfield 43, 3) := by decide +kernel
theorem dX6_copyOf_8 : decode cX6_copyOf 8 = .ok (.aload_n 0, 1) := by decide +kernel
theorem dX6_copyOf_9 : decode cX6_copyOf 9 = .ok (.aload_n 1, 1) := by decide +kernel
theorem dX6_copyOf_10 : decode cX6_copyOf 10 = .ok (.getfield 47, 3) := by decide +kernel
theorem dX6_copyOf_13 : decode cX6_copyOf 13 = .ok (.putfield 47, 3) := by decide +kernel
theorem dX6_copyOf_16 : decode cX6_copyOf 16 = .ok (.aload_n 0, 1) := by decide +kernel
theorem dX6_copyOf_17 : decode cX6_copyOf 17 = .ok (.aload_n 1, 1) := by decide +kernel
theorem dX6_copyOf_18 : decode cX6_copyOf 18 = .ok (.getfield 50, 3) := by decide +kernel
theorem dX6_copyOf_21 : decode cX6_copyOf 21 = .ok (.putfield 50, 3) := by decide +kernel
theorem dX6_copyOf_24 : decode cX6_copyOf 24 = .ok (.aload_n 0, 1) := by decide +kernel
theorem dX6_copyOf_25 : decode cX6_copyOf 25 = .ok (.aload_n 1, 1) := by decide +kernel
theorem dX6_copyOf_26 : decode cX6_copyOf 26 = .ok (.getfield 53, 3) := by decide +kernel
theorem dX6_copyOf_29 : decode cX6_copyOf 29 = .ok (.putfield 53, 3) := by decide +kernel
theorem dX6_copyOf_32 : decode cX6_copyOf 32 = .ok (.aload_n 0, 1) := by decide +kernel
theorem dX6_copyOf_33 : decode cX6_copyOf 33 = .ok (.aload_n 1, 1) := by decide +kernel
theorem dX6_copyOf_34 : decode cX6_copyOf 34 = .ok (.getfield 56, 3) := by decide +kernel
theorem dX6_copyOf_37 : decode cX6_copyOf 37 = .ok (.putfield 56, 3) := by decide +kernel
theorem dX6_copyOf_40 : decode cX6_copyOf 40 = .ok (.aload_n 0, 1) := by decide +kernel
theorem dX6_copyOf_41 : decode cX6_copyOf 41 = .ok (.aload_n 1, 1) := by decide +kernel
theorem dX6_copyOf_42 : decode cX6_copyOf 42 = .ok (.getfield 59, 3) := by decide +kernel
theorem dX6_copyOf_45 : decode cX6_copyOf 45 = .ok (.putfield 59, 3) := by decide +kernel
theorem dX6_copyOf_48 : decode cX6_copyOf 48 = .ok (.aload_n 1, 1) := by decide +kernel
theorem dX6_copyOf_49 : decode cX6_copyOf 49 = .ok (.getfield 9, 3) := by decide +kernel
theorem dX6_copyOf_52 : decode cX6_copyOf 52 = .ok (.iconst 0, 1) := by decide +kernel
theorem dX6_copyOf_53 : decode cX6_copyOf 53 = .ok (.aload_n 0, 1) := by decide +kernel
theorem dX6_copyOf_54 : decode cX6_copyOf 54 = .ok (.getfield 9, 3) := by decide +kernel
theorem dX6_copyOf_57 : decode cX6_copyOf 57 = .ok (.iconst 0, 1) := by decide +kernel
theorem dX6_copyOf_58 : decode cX6_copyOf 58 = .ok (.bipush 10, 2) := by decide +kernel
theorem dX6_copyOf_60 : decode cX6_copyOf 60 = .ok (.invokestatic 68, 3) := by decide +kernel
theorem dX6_copyOf_63 : decode cX6_copyOf 63 = .ok (.aload_n 1, 1) := by decide +kernel
theorem dX6_copyOf_64 : decode cX6_copyOf 64 = .ok (.getfield 15, 3) := by decide +kernel
theorem dX6_copyOf_67 : decode cX6_copyOf 67 = .ok (.iconst 0, 1) := by decide +kernel
theorem dX6_copyOf_68 : decode cX6_copyOf 68 = .ok (.aload_n 0, 1) := by decide +kernel
theorem dX6_copyOf_69 : decode cX6_copyOf 69 = .ok (.getfield 15, 3) := by decide +kernel
theorem dX6_copyOf_72 : decode cX6_copyOf 72 = .ok (.iconst 0, 1) := by decide +kernel
theorem dX6_copyOf_73 : decode cX6_copyOf 73 = .ok (.bipush 10, 2) := by decide +kernel
theorem dX6_copyOf_75 : decode cX6_copyOf 75 = .ok (.invokestatic 68, 3) := by decide +kernel
theorem dX6_copyOf_78 : decode cX6_copyOf 78 = .ok (.aload_n 1, 1) := by decide +kernel
theorem dX6_copyOf_79 : decode cX6_copyOf 79 = .ok (.getfield 19, 3) := by decide +kernel
theorem dX6_copyOf_82 : decode cX6_copyOf 82 = .ok (.iconst 0, 1) := by decide +kernel
theorem dX6_copyOf_83 : decode cX6_copyOf 83 = .ok (.aload_n 0, 1) := by decide +kernel
theorem dX6_copyOf_84 : decode cX6_copyOf 84 = .ok (.getfield 19, 3) := by decide +kernel
theorem dX6_copyOf_87 : decode cX6_copyOf 87 = .ok (.iconst 0, 1) := by decide +kernel
theorem dX6_copyOf_88 : decode cX6_copyOf 88 = .ok (.bipush 10, 2) := by decide +kernel
theorem dX6_copyOf_90 : decode cX6_copyOf 90 = .ok (.invokestatic 68, 3) := by decide +kernel
theorem dX6_copyOf_93 : decode cX6_copyOf 93 = .ok (.aload_n 1, 1) := by decide +kernel
theorem dX6_copyOf_94 : decode cX6_copyOf 94 = .ok (.getfield 22, 3) := by decide +kernel
theorem dX6_copyOf_97 : decode cX6_copyOf 97 = .ok (.iconst 0, 1) := by decide +kernel
theorem dX6_copyOf_98 : decode cX6_copyOf 98 = .ok (.aload_n 0, 1) := by decide +kernel
theorem dX6_copyOf_99 : decode cX6_copyOf 99 = .ok (.getfield 22, 3) := by decide +kernel
theorem dX6_copyOf_102 : decode cX6_copyOf 102 = .ok (.iconst 0, 1) := by decide +kernel
theorem dX6_copyOf_103 : decode cX6_copyOf 103 = .ok (.bipush 10, 2) := by decide +kernel
theorem dX6_copyOf_105 : decode cX6_copyOf 105 = .ok (.invokestatic 68, 3) := by decide +kernel
theorem dX6_copyOf_108 : decode cX6_copyOf 108 = .ok (.aload_n 1, 1) := by decide +kernel
theorem dX6_copyOf_109 : decode cX6_copyOf 109 = .ok (.getfield 25, 3) := by decide +kernel
theorem dX6_copyOf_112 : decode cX6_copyOf 112 = .ok (.iconst 0, 1) := by decide +kernel
theorem dX6_copyOf_113 : decode cX6_copyOf 113 = .ok (.aload_n 0, 1) := by decide +kernel
theorem dX6_copyOf_114 : decode cX6_copyOf 114 = .ok (.getfield 25, 3) := by decide +kernel
theorem dX6_copyOf_117 : decode cX6_copyOf 117 = .ok (.iconst 0, 1) := by decide +kernel
theorem dX6_copyOf_118 : decode cX6_copyOf 118 = .ok (.bipush 10, 2) := by decide +kernel
theorem dX6_copyOf_120 : decode cX6_copyOf 120 = .ok (.invokestatic 68, 3) := by decide +kernel
theorem dX6_copyOf_123 : decode cX6_copyOf 123 = .ok (.aload_n 1, 1) := by decide +kernel
theorem dX6_copyOf_124 : decode cX6_copyOf 124 = .ok (.getfield 28, 3) := by decide +kernel
theorem dX6_copyOf_127 : decode cX6_copyOf 127 = .ok (.iconst 0, 1) := by decide +kernel
theorem dX6_copyOf_128 : decode cX6_copyOf 128 = .ok (.aload_n 0, 1) := by decide +kernel
theorem dX6_copyOf_129 : decode cX6_copyOf 129 = .ok (.getfield 28, 3) := by decide +kernel
theorem dX6_copyOf_132 : decode cX6_copyOf 132 = .ok (.iconst 0, 1) := by decide +kernel
theorem dX6_copyOf_133 : decode cX6_copyOf 133 = .ok (.bipush 36, 2) := by decide +kernel
theorem dX6_copyOf_135 : decode cX6_copyOf 135 = .ok (.invokestatic 68, 3) := by decide +kernel
theorem dX6_copyOf_138 : decode cX6_copyOf 138 = .ok (.aload_n 1, 1) := by decide +kernel
theorem dX6_copyOf_139 : decode cX6_copyOf 139 = .ok (.getfield 31, 3) := by decide +kernel
theorem dX6_copyOf_142 : decode cX6_copyOf 142 = .ok (.iconst 0, 1) := by decide +kernel
theorem dX6_copyOf_143 : decode cX6_copyOf 143 = .ok (.aload_n 0, 1) := by decide +kernel
theorem dX6_copyOf_144 : decode cX6_copyOf 144 = .ok (.getfield 31, 3) := by decide +kernel
theorem dX6_copyOf_147 : decode cX6_copyOf 147 = .ok (.iconst 0, 1) := by decide +kernel
theorem dX6_copyOf_148 : decode cX6_copyOf 148 = .ok (.bipush 6, 2) := by decide +kernel
theorem dX6_copyOf_150 : decode cX6_copyOf 150 = .ok (.invokestatic 68, 3) := by decide +kernel
theorem dX6_copyOf_153 : decode cX6_copyOf 153 = .ok (.aload_n 1, 1) := by decide +kernel
theorem dX6_copyOf_154 : decode cX6_copyOf 154 = .ok (.getfield 34, 3) := by decide +kernel
theorem dX6_copyOf_157 : decode cX6_copyOf 157 = .ok (.iconst 0, 1) := by decide +kernel
theorem dX6_copyOf_158 : decode cX6_copyOf 158 = .ok (.aload_n 0, 1) := by decide +kernel
theorem dX6_copyOf_159 : decode cX6_copyOf 159 = .ok (.getfield 34, 3) := by decide +kernel
theorem dX6_copyOf_162 : decode cX6_copyOf 162 = .ok (.iconst 0, 1) := by decide +kernel
theorem dX6_copyOf_163 : decode cX6_copyOf 163 = .ok (.bipush 6, 2) := by decide +kernel
theorem dX6_copyOf_165 : decode cX6_copyOf 165 = .ok (.invokestatic 68, 3) := by decide +kernel
theorem dX6_copyOf_168 : decode cX6_copyOf 168 = .ok (.aload_n 1, 1) := by decide +kernel
theorem dX6_copyOf_169 : decode cX6_copyOf 169 = .ok (.getfield 37, 3) := by decide +kernel
theorem dX6_copyOf_172 : decode cX6_copyOf 172 = .ok (.iconst 0, 1) := by decide +kernel
theorem dX6_copyOf_173 : decode cX6_copyOf 173 = .ok (.aload_n 0, 1) := by decide +kernel
theorem dX6_copyOf_174 : decode cX6_copyOf 174 = .ok (.getfield 37, 3) := by decide +kernel
theorem dX6_copyOf_177 : decode cX6_copyOf 177 = .ok (.iconst 0, 1) := by decide +kernel
theorem dX6_copyOf_178 : decode cX6_copyOf 178 = .ok (.bipush 6, 2) := by decide +kernel
theorem dX6_copyOf_180 : decode cX6_copyOf 180 = .ok (.invokestatic 68, 3) := by decide +kernel
theorem dX6_copyOf_183 : decode cX6_copyOf 183 = .ok (.return_, 1) := by decide +kernel
def tX6_copyOf (kn : sKn) : List (Nat × sA) := [(0, a_aload 0 1), (1, a_aload 1 2), (2, a_get 7 0 5), (5, a_put 7 0 ckI 8), (8, a_aload 0 9), (9, a_aload 1 10), (10, a_get 7 1 13), (13, a_put 7 1 ckI 16), (16, a_aload 0 17), (17, a_aload 1 18), (18, a_get 7 2 21), (21, a_put 7 2 ckI 24), (24, a_aload 0 25), (25, a_aload 1 26), (26, a_get 7 3 29), (29, a_put 7 3 ckI 32), (32, a_aload 0 33), (33, a_aload 1 34), (34, a_get 7 4 37), (37, a_put 7 4 ckI 40), (40, a_aload 0 41), (41, a_aload 1 42), (42, a_get 7 5 45), (45, a_put 7 5 ckI 48), (48, a_aload 1 49), (49, a_get 7 6 52), (52, a_stk (q_int 0) 53), (53, a_aload 0 54), (54, a_get 7 6 57), (57, a_stk (q_int 0) 58), (58, a_stk (q_int 10) 60), (60, a_copy 63), (63, a_aload 1 64), (64, a_get 7 7 67), (67, a_stk (q_int 0) 68), (68, a_aload 0 69), (69, a_get 7 7 72), (72, a_stk (q_int 0) 73), (73, a_stk (q_int 10) 75), (75, a_copy 78), (78, a_aload 1 79), (79, a_get 7 8 82), (82, a_stk (q_int 0) 83), (83, a_aload 0 84), (84, a_get 7 8 87), (87, a_stk (q_int 0) 88), (88, a_stk (q_int 10) 90), (90, a_copy 93), (93, a_aload 1 94), (94, a_get 7 9 97), (97, a_stk (q_int 0) 98), (98, a_aload 0 99), (99, a_get 7 9 102), (102, a_stk (q_int 0) 103), (103, a_stk (q_int 10) 105), (105, a_copy 108), (108, a_aload 1 109), (109, a_get 7 10 112), (112, a_stk (q_int 0) 113), (113, a_aload 0 114), (114, a_get 7 10 117), (117, a_stk (q_int 0) 118), (118, a_stk (q_int 10) 120), (120, a_copy 123), (123, a_aload 1 124), (124, a_get 7 11 127), (127, a_stk (q_int 0) 128), (128, a_aload 0 129), (129, a_get 7 11 132), (132, a_stk (q_int 0) 133), (133, a_stk (q_int 36) 135), (135, a_copy 138), (138, a_aload 1 139), (139, a_get 7 12 142), (142, a_stk (q_int 0) 143), (143, a_aload 0 144), (144, a_get 7 12 147), (147, a_stk (q_int 0) 148), (148, a_stk (q_int 6) 150), (150, a_copy 153), (153, a_aload 1 154), (154, a_get 7 13 157), (157, a_stk (q_int 0) 158), (158, a_aload 0 159), (159, a_get 7 13 162), (162, a_stk (q_int 0) 163), (163, a_stk (q_int 6) 165), (165, a_copy 168), (168, a_aload 1 169), (169, a_get 7 14 172), (172, a_stk (q_int 0) 173), (173, a_aload 0 174), (174, a_get 7 14 177), (177, a_stk (q_int 0) 178), (178, a_stk (q_int 6) 180), (180, a_copy 183), (183, a_vret)]
def fX6_copyOf (kn : sKn) : List Value → sW → Option sR := mF (tX6_copyOf kn) 2 1000000
set_option maxRecDepth 100000 in
set_option maxHeartbeats 4000000 in
theorem mX6_copyOf (kn : sKn) : mM kn yX6_copyOf (Cond.code yX6_copyOf cX6_copyOf 2 none :: wsL_law) 1 true (fX6_copyOf kn) := mM_of (own := RX6) (ini := false) rfl (by decide +kernel) (by decide +kernel) (all_c (ok_aload_n dX6_copyOf_0 rfl) (all_c (ok_aload_n dX6_copyOf_1 rfl) (all_c (okg_X6_0 kw253 dX6_copyOf_2) (all_c (okp_X6_0 kw253 dX6_copyOf_5) (all_c (ok_aload_n dX6_copyOf_8 rfl) (all_c (ok_aload_n dX6_copyOf_9 rfl) (all_c (okg_X6_1 kw254 dX6_copyOf_10) (all_c (okp_X6_1 kw254 dX6_copyOf_13) (all_c (ok_aload_n dX6_copyOf_16 rfl) (all_c (ok_aload_n dX6_copyOf_17 rfl) (all_c (okg_X6_2 kw255 dX6_copyOf_18) (all_c (okp_X6_2 kw255 dX6_copyOf_21) (all_c (ok_aload_n dX6_copyOf_24 rfl) (all_c (ok_aload_n dX6_copyOf_25 rfl) (all_c (okg_X6_3 kw256 dX6_copyOf_26) (all_c (okp_X6_3 kw256 dX6_copyOf_29) (all_c (ok_aload_n dX6_copyOf_32 rfl) (all_c (ok_aload_n dX6_copyOf_33 rfl) (all_c (okg_X6_4 kw257 dX6_copyOf_34) (all_c (okp_X6_4 kw257 dX6_copyOf_37) (all_c (ok_aload_n dX6_copyOf_40 rfl) (all_c (ok_aload_n dX6_copyOf_41 rfl) (all_c (okg_X6_5 kw258 dX6_copyOf_42) (all_c (okp_X6_5 kw258 dX6_copyOf_45) (all_c (ok_aload_n dX6_copyOf_48 rfl) (all_c (okg_X6_6 kw281 dX6_copyOf_49) (all_c (ok_stk (s_iconst dX6_copyOf_52 (by decide))) (all_c (ok_aload_n dX6_copyOf_53 rfl) (all_c (okg_X6_6 kw281 dX6_copyOf_54) (all_c (ok_stk (s_iconst dX6_copyOf_57 (by decide))) (all_c (ok_stk (s_bipush dX6_copyOf_58 (by decide))) (all_c (ok_copy (by decide) kw282 kw146 kw147 kw148 dX6_copyOf_60) (all_c (ok_aload_n dX6_copyOf_63 rfl) (all_c (okg_X6_7 kw283 dX6_copyOf_64) (all_c (ok_stk (s_iconst dX6_copyOf_67 (by decide))) (all_c (ok_aload_n dX6_copyOf_68 rfl) (all_c (okg_X6_7 kw283 dX6_copyOf_69) (all_c (ok_stk (s_iconst dX6_copyOf_72 (by decide))) (all_c (ok_stk (s_bipush dX6_copyOf_73 (by decide))) (all_c (ok_copy (by decide) kw282 kw146 kw147 kw148 dX6_copyOf_75) (all_c (ok_aload_n dX6_copyOf_78 rfl) (all_c (okg_X6_8 kw284 dX6_copyOf_79) (all_c (ok_stk (s_iconst dX6_copyOf_82 (by decide))) (all_c (ok_aload_n dX6_copyOf_83 rfl) (all_c (okg_X6_8 kw284 dX6_copyOf_84) (all_c (ok_stk (s_iconst dX6_copyOf_87 (by decide))) (all_c (ok_stk (s_bipush dX6_copyOf_88 (by decide))) (all_c (ok_copy (by decide) kw282 kw146 kw147 kw148 dX6_copyOf_90) (all_c (ok_aload_n dX6_copyOf_93 rfl) (all_c (okg_X6_9 kw259 dX6_copyOf_94) (all_c (ok_stk (s_iconst dX6_copyOf_97 (by decide))) (all_c (ok_aload_n dX6_copyOf_98 rfl) (all_c (okg_X6_9 kw259 dX6_copyOf_99) (all_c (ok_stk (s_iconst dX6_copyOf_102 (by decide))) (all_c (ok_stk (s_bipush dX6_copyOf_103 (by decide))) (all_c (ok_copy (by decide) kw282 kw146 kw147 kw148 dX6_copyOf_105) (all_c (ok_aload_n dX6_copyOf_108 rfl) (all_c (okg_X6_10 kw261 dX6_copyOf_109) (all_c (ok_stk (s_iconst dX6_copyOf_112 (by decide))) (all_c (ok_aload_n dX6_copyOf_113 rfl) (all_c (okg_X6_10 kw261 dX6_copyOf_114) (all_c (ok_stk (s_iconst dX6_copyOf_117 (by decide))) (all_c (ok_stk (s_bipush dX6_copyOf_118 (by decide))) (all_c (ok_copy (by decide) kw282 kw146 kw147 kw148 dX6_copyOf_120) (all_c (ok_aload_n dX6_copyOf_123 rfl) (all_c (okg_X6_11 kw262 dX6_copyOf_124) (all_c (ok_stk (s_iconst dX6_copyOf_127 (by decide))) (all_c (ok_aload_n dX6_copyOf_128 rfl) (all_c (okg_X6_11 kw262 dX6_copyOf_129) (all_c (ok_stk (s_iconst dX6_copyOf_132 (by decide))) (all_c (ok_stk (s_bipush dX6_copyOf_133 (by decide))) (all_c (ok_copy (by decide) kw282 kw146 kw147 kw148 dX6_copyOf_135) (all_c (ok_aload_n dX6_copyOf_138 rfl) (all_c (okg_X6_12 kw285 dX6_copyOf_139) (all_c (ok_stk (s_iconst dX6_copyOf_142 (by decide))) (all_c (ok_aload_n dX6_copyOf_143 rfl) (all_c (okg_X6_12 kw285 dX6_copyOf_144) (all_c (ok_stk (s_iconst dX6_copyOf_147 (by decide))) (all_c (ok_stk (s_bipush dX6_copyOf_148 (by decide))) (all_c (ok_copy (by decide) kw282 kw146 kw147 kw148 dX6_copyOf_150) (all_c (ok_aload_n dX6_copyOf_153 rfl) (all_c (okg_X6_13 kw286 dX6_copyOf_154) (all_c (ok_stk (s_iconst dX6_copyOf_157 (by decide))) (all_c (ok_aload_n dX6_copyOf_158 rfl) (all_c (okg_X6_13 kw286 dX6_copyOf_159) (all_c (ok_stk (s_iconst dX6_copyOf_162 (by decide))) (all_c (ok_stk (s_bipush dX6_copyOf_163 (by decide))) (all_c (ok_copy (by decide) kw282 kw146 kw147 kw148 dX6_copyOf_165) (all_c (ok_aload_n dX6_copyOf_168 rfl) (all_c (okg_X6_14 kw287 dX6_copyOf_169) (all_c (ok_stk (s_iconst dX6_copyOf_172 (by decide))) (all_c (ok_aload_n dX6_copyOf_173 rfl) (all_c (okg_X6_14 kw287 dX6_copyOf_174) (all_c (ok_stk (s_iconst dX6_copyOf_177 (by decide))) (all_c (ok_stk (s_bipush dX6_copyOf_178 (by decide))) (all_c (ok_copy (by decide) kw282 kw146 kw147 kw148 dX6_copyOf_180) (all_c (ok_vret dX6_copyOf_183) all_n))))))))))))))))))))))))))))))))))))))))))))))))))))))))))))))))))))))))))))))))))))))))))))))))) 1000000 (fun h => by first | rfl | cases h)
theorem dX7_forget_0 : decode cX7_forget 0 = .ok (.aload_n 0, 1) := by decide +kernel
theorem dX7_forget_1 : decode cX7_forget 1 = .ok (.iconst 0, 1) := by decide +kernel
theorem dX7_forget_2 : decode cX7_forget 2 = .ok (.putfield 27, 3) := by decide +kernel
theorem dX7_forget_5 : decode cX7_forget 5 = .ok (.aload_n 0, 1) := by decide +kernel
theorem dX7_forget_6 : decode cX7_forget 6 = .ok (.iconst 0, 1) := by decide +kernel
theorem dX7_forget_7 : decode cX7_forget 7 = .ok (.putfield 31, 3) := by decide +kernel
theorem dX7_forget_10 : decode cX7_forget 10 = .ok (.return_, 1) := by decide +kernel
def tX7_forget (kn : sKn) : List (Nat × sA) := [(0, a_aload 0 1), (1, a_stk (q_int 0) 2), (2, a_put 8 8 ckI 5), (5, a_aload 0 6), (6, a_stk (q_int 0) 7), (7, a_put 8 3 ckI 10), (10, a_vret)]
def fX7_forget (kn : sKn) : List Value → sW → Option sR := mF (tX7_forget kn) 1 1000000
set_option maxRecDepth 100000 in
set_option maxHeartbeats 4000000 in
theorem mX7_forget (kn : sKn) : mM kn yX7_forget (Cond.code yX7_forget cX7_forget 1 none :: wsL_law) 1 true (fX7_forget kn) := mM_of (own := RX7) (ini := false) rfl (by decide +kernel) (by decide +kernel) (all_c (ok_aload_n dX7_forget_0 rfl) (all_c (ok_stk (s_iconst dX7_forget_1 (by decide))) (all_c (okp_X7_8 kw288 dX7_forget_2) (all_c (ok_aload_n dX7_forget_5 rfl) (all_c (ok_stk (s_iconst dX7_forget_6 (by decide))) (all_c (okp_X7_3 kw289 dX7_forget_7) (all_c (ok_vret dX7_forget_10) all_n))))))) 1000000 (fun h => by first | rfl | cases h)
theorem dX6_countPlanksOf_0 : decode cX6_countPlanksOf 0 = .ok (.iconst 0, 1) := by decide +kernel
theorem dX6_countPlanksOf_1 : decode cX6_countPlanksOf 1 = .ok (.istore_n 2, 1) := by decide +kernel
theorem dX6_countPlanksOf_2 : decode cX6_countPlanksOf 2 = .ok (.iconst 0, 1) := by decide +kernel
theorem dX6_countPlanksOf_3 : decode cX6_countPlanksOf 3 = .ok (.istore_n 3, 1) := by decide +kernel
theorem dX6_countPlanksOf_4 : decode cX6_countPlanksOf 4 = .ok (.iload_n 3, 1) := by decide +kernel
theorem dX6_countPlanksOf_5 : decode cX6_countPlanksOf 5 = .ok (.bipush 36, 2) := by decide +kernel
theorem dX6_countPlanksOf_7 : decode cX6_countPlanksOf 7 = .ok (.if_icmp .ge 22, 3) := by decide +kernel
theorem dX6_countPlanksOf_10 : decode cX6_countPlanksOf 10 = .ok (.aload_n 0, 1) := by decide +kernel
theorem dX6_countPlanksOf_11 : decode cX6_countPlanksOf 11 = .ok (.getfield 28, 3) := by decide +kernel
theorem dX6_countPlanksOf_14 : decode cX6_countPlanksOf 14 = .ok (.iload_n 3, 1) := by decide +kernel
theorem dX6_countPlanksOf_15 : decode cX6_countPlanksOf 15 = .ok (.iaload, 1) := by decide +kernel
theorem dX6_countPlanksOf_16 : decode cX6_countPlanksOf 16 = .ok (.iload_n 1, 1) := by decide +kernel
theorem dX6_countPlanksOf_17 : decode cX6_countPlanksOf 17 = .ok (.if_icmp .ne 6, 3) := by decide +kernel
theorem dX6_countPlanksOf_20 : decode cX6_countPlanksOf 20 = .ok (.iinc 2 1, 3) := by decide +kernel
theorem dX6_countPlanksOf_23 : decode cX6_countPlanksOf 23 = .ok (.iinc 3 1, 3) := by decide +kernel
theorem dX6_countPlanksOf_26 : decode cX6_countPlanksOf 26 = .ok (.goto (-22), 3) := by decide +kernel
theorem dX6_countPlanksOf_29 : decode cX6_countPlanksOf 29 = .ok (.iload_n 2, 1) := by decide +kernel
theorem dX6_countPlanksOf_30 : decode cX6_countPlanksOf 30 = .ok (.ireturn, 1) := by decide +kernel
def tX6_countPlanksOf (kn : sKn) : List (Nat × sA) := [(0, a_stk (q_int 0) 1), (1, a_istore 2 2), (2, a_stk (q_int 0) 3), (3, a_istore 3 4), (4, a_iload 3 5), (5, a_stk (q_int 36) 7), (7, a_icmp kn b_ge 3 29 10), (10, a_aload 0 11), (11, a_get 7 11 14), (14, a_iload 3 15), (15, a_iald 16), (16, a_iload 1 17), (17, a_icmp kn b_ne 1 23 20), (20, a_iinc 2 1 23), (23, a_iinc 3 1 26), (26, a_goto 4), (29, a_iload 2 30), (30, a_iret)]
def fX6_countPlanksOf (kn : sKn) : List Value → sW → Option sR := mF (tX6_countPlanksOf kn) 4 1000000
set_option maxRecDepth 100000 in
set_option maxHeartbeats 4000000 in
theorem mX6_countPlanksOf (kn : sKn) : mM kn yX6_countPlanksOf (Cond.code yX6_countPlanksOf cX6_countPlanksOf 4 (some .int) :: wsL_law) 1 false (fX6_countPlanksOf kn) := mM_of (own := RX6) (ini := false) rfl (by decide +kernel) (by decide +kernel) (all_c (ok_stk (s_iconst dX6_countPlanksOf_0 (by decide))) (all_c (ok_istore_n dX6_countPlanksOf_1 rfl (by decide)) (all_c (ok_stk (s_iconst dX6_countPlanksOf_2 (by decide))) (all_c (ok_istore_n dX6_countPlanksOf_3 rfl (by decide)) (all_c (ok_iload_n dX6_countPlanksOf_4 rfl) (all_c (ok_stk (s_bipush dX6_countPlanksOf_5 (by decide))) (all_c (ok_icmp_ge dX6_countPlanksOf_7 (by decide)) (all_c (ok_aload_n dX6_countPlanksOf_10 rfl) (all_c (okg_X6_11 kw262 dX6_countPlanksOf_11) (all_c (ok_iload_n dX6_countPlanksOf_14 rfl) (all_c (ok_iald dX6_countPlanksOf_15) (all_c (ok_iload_n dX6_countPlanksOf_16 rfl) (all_c (ok_icmp_ne dX6_countPlanksOf_17 (by decide)) (all_c (ok_iinc dX6_countPlanksOf_20 (by decide) (by decide)) (all_c (ok_iinc dX6_countPlanksOf_23 (by decide) (by decide)) (all_c (ok_goto dX6_countPlanksOf_26 (by decide)) (all_c (ok_iload_n dX6_countPlanksOf_29 rfl) (all_c (ok_iret dX6_countPlanksOf_30) all_n)))))))))))))))))) 1000000 (fun h => by first | rfl | cases h)
theorem dX8_begin_0 : decode cX8_begin 0 = .ok (.aload_n 0, 1) := by decide +kernel
theorem dX8_begin_1 : decode cX8_begin 1 = .ok (.iconst 0, 1) := by decide +kernel
theorem dX8_begin_2 : decode cX8_begin 2 = .ok (.putfield 36, 3) := by decide +kernel
theorem dX8_begin_5 : decode cX8_begin 5 = .ok (.aload_n 0, 1) := by decide +kernel
theorem dX8_begin_6 : decode cX8_begin 6 = .ok (.iconst 0, 1) := by decide +kernel
theorem dX8_begin_7 : decode cX8_begin 7 = .ok (.putfield 40, 3) := by decide +kernel
theorem dX8_begin_10 : decode cX8_begin 10 = .ok (.aload_n 0, 1) := by decide +kernel
theorem dX8_begin_11 : decode cX8_begin 11 = .ok (.iconst 0, 1) := by decide +kernel
theorem dX8_begin_12 : decode cX8_begin 12 = .ok (.putfield 43, 3) := by decide +kernel
theorem dX8_begin_15 : decode cX8_begin 15 = .ok (.aload_n 0, 1) := by decide +kernel
theorem dX8_begin_16 : decode cX8_begin 16 = .ok (.getfield 15, 3) := by decide +kernel
theorem dX8_begin_19 : decode cX8_begin 19 = .ok (.iconst (-1), 1) := by decide +kernel
theorem dX8_begin_20 : decode cX8_begin 20 = .ok (.invokestatic 30, 3) := by decide +kernel
theorem dX8_begin_23 : decode cX8_begin 23 = .ok (.aload_n 0, 1) := by decide +kernel
theorem dX8_begin_24 : decode cX8_begin 24 = .ok (.getfield 24, 3) := by decide +kernel
theorem dX8_begin_27 : decode cX8_begin 27 = .ok (.iconst 0, 1) := by decide +kernel
theorem dX8_begin_28 : decode cX8_begin 28 = .ok (.invokestatic 30, 3) := by decide +kernel
theorem dX8_begin_31 : decode cX8_begin 31 = .ok (.aload_n 0, 1) := by decide +kernel
theorem dX8_begin_32 : decode cX8_begin 32 = .ok (.getfield 27, 3) := by decide +kernel
theorem dX8_begin_35 : decode cX8_begin 35 = .ok (.iconst 0, 1) := by decide +kernel
theorem dX8_begin_36 : decode cX8_begin 36 = .ok (.invokestatic 30, 3) := by decide +kernel
theorem dX8_begin_39 : decode cX8_begin 39 = .ok (.aload_n 1, 1) := by decide +kernel
theorem dX8_begin_40 : decode cX8_begin 40 = .ok (.getfield 46, 3) := by decide +kernel
theorem dX8_begin_43 : decode cX8_begin 43 = .ok (.iconst 0, 1) := by decide +kernel
theorem dX8_begin_44 : decode cX8_begin 44 = .ok (.aload_n 0, 1) := by decide +kernel
theorem dX8_begin_45 : decode cX8_begin 45 = .ok (.getfield 9, 3) := by decide +kernel
theorem dX8_begin_48 : decode cX8_begin 48 = .ok (.iconst 0, 1) := by decide +kernel
theorem dX8_begin_49 : decode cX8_begin 49 = .ok (.bipush 10, 2) := by decide +kernel
theorem dX8_begin_51 : decode cX8_begin 51 = .ok (.invokestatic 49, 3) := by decide +kernel
theorem dX8_begin_54 : decode cX8_begin 54 = .ok (.aload_n 1, 1) := by decide +kernel
theorem dX8_begin_55 : decode cX8_begin 55 = .ok (.getfield 55, 3) := by decide +kernel
theorem dX8_begin_58 : decode cX8_begin 58 = .ok (.iconst 0, 1) := by decide +kernel
theorem dX8_begin_59 : decode cX8_begin 59 = .ok (.aload_n 0, 1) := by decide +kernel
theorem dX8_begin_60 : decode cX8_begin 60 = .ok (.getfield 21, 3) := by decide +kernel
theorem dX8_begin_63 : decode cX8_begin 63 = .ok (.iconst 0, 1) := by decide +kernel
theorem dX8_begin_64 : decode cX8_begin 64 = .ok (.bipush 36, 2) := by decide +kernel
theorem dX8_begin_66 : decode cX8_begin 66 = .ok (.invokestatic 49, 3) := by decide +kernel
theorem dX8_begin_69 : decode cX8_begin 69 = .ok (.iconst 0, 1) := by decide +kernel
theorem dX8_begin_70 : decode cX8_begin 70 = .ok (.istore_n 2, 1) := by decide +kernel
theorem dX8_begin_71 : decode cX8_begin 71 = .ok (.iload_n 2, 1) := by decide +kernel
theorem dX8_begin_72 : decode cX8_begin 72 = .ok (.bipush 10, 2) := by decide +kernel
theorem dX8_begin_74 : decode cX8_begin 74 = .ok (.if_icmp .ge 20, 3) := by decide +kernel
theorem dX8_begin_77 : decode cX8_begin 77 = .ok (.aload_n 0, 1) := by decide +kernel
theorem dX8_begin_78 : decode cX8_begin 78 = .ok (.getfield 18, 3) := by decide +kernel
theorem dX8_begin_81 : decode cX8_begin 81 = .ok (.iload_n 2, 1) := by decide +kernel
theorem dX8_begin_82 : decode cX8_begin 82 = .ok (.aload_n 1, 1) := by decide +kernel
theorem dX8_begin_83 : decode cX8_begin 83 = .ok (.iload_n 2, 1) := by decide +kernel
theorem dX8_begin_84 : decode cX8_begin 84 = .ok (.invokevirtual 56, 3) := by decide +kernel
theorem dX8_begin_87 : decode cX8_begin 87 = .ok (.iastore, 1) := by decide +kernel
theorem dX8_begin_88 : decode cX8_begin 88 = .ok (.iinc 2 1, 3) := by decide +kernel
theorem dX8_begin_91 : decode cX8_begin 91 = .ok (.goto (-20), 3) := by decide +kernel
theorem dX8_begin_94 : decode cX8_begin 94 = .ok (.return_, 1) := by decide +kernel
theorem okc_X6_countPlanksOf {kn : sKn} {cc : ByteArray} {own : String} {nL : Nat} {D : Nat} {ret : Option FieldType} {ini : Bool} {pc index : Nat} (hD : 1 + 1 ≤ D) (hl : Cond.methodLink own index yX6_countPlanksOf ∈ wsL_law) (hd : decode cc pc = .ok (.invokevirtual index, 3)) : mOk kn cc own nL wsL_law D ret ini pc (a_callV false (fX6_countPlanksOf kn) 7 (1 + 1) (pc + 3)) := ok_callV (mX6_countPlanksOf kn) (good_ws ws_good (fun _ h => h) kw292) hD (by decide) hl kw293 kw294 kw58 ⟨by decide +kernel, by decide +kernel, by decide +kernel⟩ rfl hd
def tX8_begin (kn : sKn) : List (Nat × sA) := [(0, a_aload 0 1), (1, a_stk (q_int 0) 2), (2, a_put 9 0 ckI 5), (5, a_aload 0 6), (6, a_stk (q_int 0) 7), (7, a_put 9 1 ckI 10), (10, a_aload 0 11), (11, a_stk (q_int 0) 12), (12, a_put 9 2 ckI 15), (15, a_aload 0 16), (16, a_get 9 4 19), (19, a_stk (q_int (-1)) 20), (20, a_callS true (fJ7_fill_53178 kn) 2 23), (23, a_aload 0 24), (24, a_get 9 7 27), (27, a_stk (q_int 0) 28), (28, a_callS true (fJ7_fill_53178 kn) 2 31), (31, a_aload 0 32), (32, a_get 9 8 35), (35, a_stk (q_int 0) 36), (36, a_callS true (fJ7_fill_53178 kn) 2 39), (39, a_aload 1 40), (40, a_get 7 7 43), (43, a_stk (q_int 0) 44), (44, a_aload 0 45), (45, a_get 9 3 48), (48, a_stk (q_int 0) 49), (49, a_stk (q_int 10) 51), (51, a_copy 54), (54, a_aload 1 55), (55, a_get 7 11 58), (58, a_stk (q_int 0) 59), (59, a_aload 0 60), (60, a_get 9 6 63), (63, a_stk (q_int 0) 64), (64, a_stk (q_int 36) 66), (66, a_copy 69), (69, a_stk (q_int 0) 70), (70, a_istore 2 71), (71, a_iload 2 72), (72, a_stk (q_int 10) 74), (74, a_icmp kn b_ge 3 94 77), (77, a_aload 0 78), (78, a_get 9 5 81), (81, a_iload 2 82), (82, a_aload 1 83), (83, a_iload 2 84), (84, a_callV false (fX6_countPlanksOf kn) 7 2 87), (87, a_iast 88), (88, a_iinc 2 1 91), (91, a_goto 71), (94, a_vret)]
def fX8_begin (kn : sKn) : List Value → sW → Option sR := mF (tX8_begin kn) 3 1000000
set_option maxRecDepth 100000 in
set_option maxHeartbeats 4000000 in
theorem mX8_begin (kn : sKn) : mM kn yX8_begin (Cond.code yX8_begin cX8_begin 3 none :: wsL_law) 2 true (fX8_begin kn) := mM_of (own := RX8) (ini := false) rfl (by decide +kernel) (by decide +kernel) (all_c (ok_aload_n dX8_begin_0 rfl) (all_c (ok_stk (s_iconst dX8_begin_1 (by decide))) (all_c (okp_X8_0 kw142 dX8_begin_2) (all_c (ok_aload_n dX8_begin_5 rfl) (all_c (ok_stk (s_iconst dX8_begin_6 (by decide))) (all_c (okp_X8_1 kw143 dX8_begin_7) (all_c (ok_aload_n dX8_begin_10 rfl) (all_c (ok_stk (s_iconst dX8_begin_11 (by decide))) (all_c (okp_X8_2 kw144 dX8_begin_12) (all_c (ok_aload_n dX8_begin_15 rfl) (all_c (okg_X8_4 kw33 dX8_begin_16) (all_c (ok_stk (s_iconst dX8_begin_19 (by decide))) (all_c (okc_J7_fill_53178 (by decide) kw41 dX8_begin_20) (all_c (ok_aload_n dX8_begin_23 rfl) (all_c (okg_X8_7 kw36 dX8_begin_24) (all_c (ok_stk (s_iconst dX8_begin_27 (by decide))) (all_c (okc_J7_fill_53178 (by decide) kw41 dX8_begin_28) (all_c (ok_aload_n dX8_begin_31 rfl) (all_c (okg_X8_8 kw37 dX8_begin_32) (all_c (ok_stk (s_iconst dX8_begin_35 (by decide))) (all_c (okc_J7_fill_53178 (by decide) kw41 dX8_begin_36) (all_c (ok_aload_n dX8_begin_39 rfl) (all_c (okg_X6_7 kw290 dX8_begin_40) (all_c (ok_stk (s_iconst dX8_begin_43 (by decide))) (all_c (ok_aload_n dX8_begin_44 rfl) (all_c (okg_X8_3 kw32 dX8_begin_45) (all_c (ok_stk (s_iconst dX8_begin_48 (by decide))) (all_c (ok_stk (s_bipush dX8_begin_49 (by decide))) (all_c (ok_copy (by decide) kw145 kw146 kw147 kw148 dX8_begin_51) (all_c (ok_aload_n dX8_begin_54 rfl) (all_c (okg_X6_11 kw291 dX8_begin_55) (all_c (ok_stk (s_iconst dX8_begin_58 (by decide))) (all_c (ok_aload_n dX8_begin_59 rfl) (all_c (okg_X8_6 kw35 dX8_begin_60) (all_c (ok_stk (s_iconst dX8_begin_63 (by decide))) (all_c (ok_stk (s_bipush dX8_begin_64 (by decide))) (all_c (ok_copy (by decide) kw145 kw146 kw147 kw148 dX8_begin_66) (all_c (ok_stk (s_iconst dX8_begin_69 (by decide))) (all_c (ok_istore_n dX8_begin_70 rfl (by decide)) (all_c (ok_iload_n dX8_begin_71 rfl) (all_c (ok_stk (s_bipush dX8_begin_72 (by decide))) (all_c (ok_icmp_ge dX8_begin_74 (by decide)) (all_c (ok_aload_n dX8_begin_77 rfl) (all_c (okg_X8_5 kw34 dX8_begin_78) (all_c (ok_iload_n dX8_begin_81 rfl) (all_c (ok_aload_n dX8_begin_82 rfl) (all_c (ok_iload_n dX8_begin_83 rfl) (all_c (okc_X6_countPlanksOf (by decide) kw295 dX8_begin_84) (all_c (ok_iast dX8_begin_87) (all_c (ok_iinc dX8_begin_88 (by decide) (by decide)) (all_c (ok_goto dX8_begin_91 (by decide)) (all_c (ok_vret dX8_begin_94) all_n)))))))))))))))))))))))))))))))))))))))))))))))))))) 1000000 (fun h => by first | rfl | cases h)
end
