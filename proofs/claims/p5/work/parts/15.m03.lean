noncomputable section
theorem dX11_isSigner_0 : decode cX11_isSigner 0 = .ok (.iload_n 1, 1) := by decide +kernel
theorem dX11_isSigner_1 : decode cX11_isSigner 1 = .ok (.ifCond .lt 18, 3) := by decide +kernel
theorem dX11_isSigner_4 : decode cX11_isSigner 4 = .ok (.iload_n 1, 1) := by decide +kernel
theorem dX11_isSigner_5 : decode cX11_isSigner 5 = .ok (.aload_n 0, 1) := by decide +kernel
theorem dX11_isSigner_6 : decode cX11_isSigner 6 = .ok (.getfield 26, 3) := by decide +kernel
theorem dX11_isSigner_9 : decode cX11_isSigner 9 = .ok (.getfield 369, 3) := by decide +kernel
theorem dX11_isSigner_12 : decode cX11_isSigner 12 = .ok (.if_icmp .ge 7, 3) := by decide +kernel
theorem dX11_isSigner_15 : decode cX11_isSigner 15 = .ok (.iconst 1, 1) := by decide +kernel
theorem dX11_isSigner_16 : decode cX11_isSigner 16 = .ok (.goto 4, 3) := by decide +kernel
theorem dX11_isSigner_19 : decode cX11_isSigner 19 = .ok (.iconst 0, 1) := by decide +kernel
theorem dX11_isSigner_20 : decode cX11_isSigner 20 = .ok (.ireturn, 1) := by decide +kernel
def tX11_isSigner (kn : sKn) : List (Nat × sA) := [(0, a_iload 1 1), (1, a_if kn b_lt 2 19 4), (4, a_iload 1 5), (5, a_aload 0 6), (6, a_get 12 2 9), (9, a_get 7 2 12), (12, a_icmp kn b_ge 3 19 15), (15, a_stk (q_int 1) 16), (16, a_goto 20), (19, a_stk (q_int 0) 20), (20, a_zret)]
def fX11_isSigner (kn : sKn) : List Value → sW → Option sR := fW (tX11_isSigner kn) 2
set_option maxRecDepth 100000 in
set_option maxHeartbeats 4000000 in
theorem mX11_isSigner (kn : sKn) : mM kn yX11_isSigner (Cond.code yX11_isSigner cX11_isSigner 2 (some .boolean) :: wsL_law) 1 false (fX11_isSigner kn) := mM_W (fun n => mM_of (own := RX11) (ini := false) rfl (by decide +kernel) (by decide +kernel) (all_c (ok_iload_n dX11_isSigner_0 rfl) (all_c (ok_if_lt dX11_isSigner_1 (by decide)) (all_c (ok_iload_n dX11_isSigner_4 rfl) (all_c (ok_aload_n dX11_isSigner_5 rfl) (all_c (okg_X11_2 kw291 dX11_isSigner_6) (all_c (okg_X6_2 kw515 dX11_isSigner_9) (all_c (ok_icmp_ge dX11_isSigner_12 (by decide)) (all_c (ok_stk (s_iconst dX11_isSigner_15 (by decide))) (all_c (ok_goto dX11_isSigner_16 (by decide)) (all_c (ok_stk (s_iconst dX11_isSigner_19 (by decide))) (all_c (ok_zret dX11_isSigner_20) all_n))))))))))) n (fun h => by first | rfl | cases h))
theorem dX11_keepIfDone_0 : decode cX11_keepIfDone 0 = .ok (.iload_n 1, 1) := by decide +kernel
theorem dX11_keepIfDone_1 : decode cX11_keepIfDone 1 = .ok (.ifCond .ne 7, 3) := by decide +kernel
theorem dX11_keepIfDone_4 : decode cX11_keepIfDone 4 = .ok (.aload_n 0, 1) := by decide +kernel
theorem dX11_keepIfDone_5 : decode cX11_keepIfDone 5 = .ok (.invokevirtual 263, 3) := by decide +kernel
theorem dX11_keepIfDone_8 : decode cX11_keepIfDone 8 = .ok (.iload_n 1, 1) := by decide +kernel
theorem dX11_keepIfDone_9 : decode cX11_keepIfDone 9 = .ok (.ireturn, 1) := by decide +kernel
def tX11_keepIfDone (kn : sKn) : List (Nat × sA) := [(0, a_iload 1 1), (1, a_if kn b_ne 1 8 4), (4, a_aload 0 5), (5, a_callV true (fX11_keepRemembered kn) 12 1 8), (8, a_iload 1 9), (9, a_iret)]
def fX11_keepIfDone (kn : sKn) : List Value → sW → Option sR := fW (tX11_keepIfDone kn) 2
set_option maxRecDepth 100000 in
set_option maxHeartbeats 4000000 in
theorem mX11_keepIfDone (kn : sKn) : mM kn yX11_keepIfDone (Cond.code yX11_keepIfDone cX11_keepIfDone 2 (some .int) :: wsL_law) 2 false (fX11_keepIfDone kn) := mM_W (fun n => mM_of (own := RX11) (ini := false) rfl (by decide +kernel) (by decide +kernel) (all_c (ok_iload_n dX11_keepIfDone_0 rfl) (all_c (ok_if_ne dX11_keepIfDone_1 (by decide)) (all_c (ok_aload_n dX11_keepIfDone_4 rfl) (all_c (okc_X11_keepRemembered (by decide) kw514 dX11_keepIfDone_5) (all_c (ok_iload_n dX11_keepIfDone_8 rfl) (all_c (ok_iret dX11_keepIfDone_9) all_n)))))) n (fun h => by first | rfl | cases h))
theorem dX11_breaks_0 : decode cX11_breaks 0 = .ok (.aload_n 0, 1) := by decide +kernel
theorem dX11_breaks_1 : decode cX11_breaks 1 = .ok (.iload_n 1, 1) := by decide +kernel
theorem dX11_breaks_2 : decode cX11_breaks 2 = .ok (.invokevirtual 150, 3) := by decide +kernel
theorem dX11_breaks_5 : decode cX11_breaks 5 = .ok (.ifCond .ne 5, 3) := by decide +kernel
theorem dX11_breaks_8 : decode cX11_breaks 8 = .ok (.iconst (-1), 1) := by decide +kernel
theorem dX11_breaks_9 : decode cX11_breaks 9 = .ok (.ireturn, 1) := by decide +kernel
theorem dX11_breaks_10 : decode cX11_breaks 10 = .ok (.aload_n 0, 1) := by decide +kernel
theorem dX11_breaks_11 : decode cX11_breaks 11 = .ok (.invokevirtual 237, 3) := by decide +kernel
theorem dX11_breaks_14 : decode cX11_breaks 14 = .ok (.aload_n 0, 1) := by decide +kernel
theorem dX11_breaks_15 : decode cX11_breaks 15 = .ok (.aload_n 0, 1) := by decide +kernel
theorem dX11_breaks_16 : decode cX11_breaks 16 = .ok (.getfield 33, 3) := by decide +kernel
theorem dX11_breaks_19 : decode cX11_breaks 19 = .ok (.iload_n 1, 1) := by decide +kernel
theorem dX11_breaks_20 : decode cX11_breaks 20 = .ok (.invokevirtual 250, 3) := by decide +kernel
theorem dX11_breaks_23 : decode cX11_breaks 23 = .ok (.invokevirtual 243, 3) := by decide +kernel
theorem dX11_breaks_26 : decode cX11_breaks 26 = .ok (.ireturn, 1) := by decide +kernel
theorem okc_X11_isSigner {kn : sKn} {cc : ByteArray} {own : String} {nL : Nat} {D : Nat} {ret : Option FieldType} {ini : Bool} {pc index : Nat} (hD : 1 + 1 ≤ D) (hl : Cond.methodLink own index yX11_isSigner ∈ wsL_law) (hd : decode cc pc = .ok (.invokevirtual index, 3)) : mOk kn cc own nL wsL_law D ret ini pc (a_callV false (fX11_isSigner kn) 12 (1 + 1) (pc + 3)) := ok_callV (mX11_isSigner kn) (good_ws ws_good (fun _ h => h) kw516) hD (by decide) hl kw517 kw518 kw303 ⟨by decide +kernel, by decide +kernel, by decide +kernel⟩ rfl hd
theorem okc_X11_keepIfDone {kn : sKn} {cc : ByteArray} {own : String} {nL : Nat} {D : Nat} {ret : Option FieldType} {ini : Bool} {pc index : Nat} (hD : 2 + 1 ≤ D) (hl : Cond.methodLink own index yX11_keepIfDone ∈ wsL_law) (hd : decode cc pc = .ok (.invokevirtual index, 3)) : mOk kn cc own nL wsL_law D ret ini pc (a_callV false (fX11_keepIfDone kn) 12 (1 + 1) (pc + 3)) := ok_callV (mX11_keepIfDone kn) (good_ws ws_good (fun _ h => h) kw521) hD (by decide) hl kw522 kw523 kw303 ⟨by decide +kernel, by decide +kernel, by decide +kernel⟩ rfl hd
def tX11_breaks (kn : sKn) : List (Nat × sA) := [(0, a_aload 0 1), (1, a_iload 1 2), (2, a_callV false (fX11_isSigner kn) 12 2 5), (5, a_if kn b_ne 1 10 8), (8, a_stk (q_int (-1)) 9), (9, a_iret), (10, a_aload 0 11), (11, a_callV true (fX11_rememberState kn) 12 1 14), (14, a_aload 0 15), (15, a_aload 0 16), (16, a_get 12 3 19), (19, a_iload 1 20), (20, a_callV false (fX8_breakWord kn) 9 2 23), (23, a_callV false (fX11_keepIfDone kn) 12 2 26), (26, a_iret)]
def fX11_breaks (kn : sKn) : List Value → sW → Option sR := fW (tX11_breaks kn) 2
set_option maxRecDepth 100000 in
set_option maxHeartbeats 4000000 in
theorem mX11_breaks (kn : sKn) : mM kn yX11_breaks (Cond.code yX11_breaks cX11_breaks 2 (some .int) :: wsL_law) 3 false (fX11_breaks kn) := mM_W (fun n => mM_of (own := RX11) (ini := false) rfl (by decide +kernel) (by decide +kernel) (all_c (ok_aload_n dX11_breaks_0 rfl) (all_c (ok_iload_n dX11_breaks_1 rfl) (all_c (okc_X11_isSigner (by decide) kw519 dX11_breaks_2) (all_c (ok_if_ne dX11_breaks_5 (by decide)) (all_c (ok_stk (s_iconst dX11_breaks_8 (by decide))) (all_c (ok_iret dX11_breaks_9) (all_c (ok_aload_n dX11_breaks_10 rfl) (all_c (okc_X11_rememberState (by decide) kw506 dX11_breaks_11) (all_c (ok_aload_n dX11_breaks_14 rfl) (all_c (ok_aload_n dX11_breaks_15 rfl) (all_c (okg_X11_3 kw292 dX11_breaks_16) (all_c (ok_iload_n dX11_breaks_19 rfl) (all_c (okc_X8_breakWord (by decide) kw520 dX11_breaks_20) (all_c (okc_X11_keepIfDone (by decide) kw524 dX11_breaks_23) (all_c (ok_iret dX11_breaks_26) all_n))))))))))))))) n (fun h => by first | rfl | cases h))
theorem dX9_takeSigner_0 : decode cX9_takeSigner 0 = .ok (.aload_n 0, 1) := by decide +kernel
theorem dX9_takeSigner_1 : decode cX9_takeSigner 1 = .ok (.getfield 40, 3) := by decide +kernel
theorem dX9_takeSigner_4 : decode cX9_takeSigner 4 = .ok (.iconst 5, 1) := by decide +kernel
theorem dX9_takeSigner_5 : decode cX9_takeSigner 5 = .ok (.if_icmp .eq 9, 3) := by decide +kernel
theorem dX9_takeSigner_8 : decode cX9_takeSigner 8 = .ok (.aload_n 0, 1) := by decide +kernel
theorem dX9_takeSigner_9 : decode cX9_takeSigner 9 = .ok (.iconst 1, 1) := by decide +kernel
theorem dX9_takeSigner_10 : decode cX9_takeSigner 10 = .ok (.invokevirtual 85, 3) := by decide +kernel
theorem dX9_takeSigner_13 : decode cX9_takeSigner 13 = .ok (.ireturn, 1) := by decide +kernel
theorem dX9_takeSigner_14 : decode cX9_takeSigner 14 = .ok (.aload_n 1, 1) := by decide +kernel
theorem dX9_takeSigner_15 : decode cX9_takeSigner 15 = .ok (.aload_n 0, 1) := by decide +kernel
theorem dX9_takeSigner_16 : decode cX9_takeSigner 16 = .ok (.getfield 62, 3) := by decide +kernel
theorem dX9_takeSigner_19 : decode cX9_takeSigner 19 = .ok (.invokevirtual 97, 3) := by decide +kernel
theorem dX9_takeSigner_22 : decode cX9_takeSigner 22 = .ok (.istore_n 2, 1) := by decide +kernel
theorem dX9_takeSigner_23 : decode cX9_takeSigner 23 = .ok (.iload_n 2, 1) := by decide +kernel
theorem dX9_takeSigner_24 : decode cX9_takeSigner 24 = .ok (.iconst (-1), 1) := by decide +kernel
theorem dX9_takeSigner_25 : decode cX9_takeSigner 25 = .ok (.if_icmp .ne 9, 3) := by decide +kernel
theorem dX9_takeSigner_28 : decode cX9_takeSigner 28 = .ok (.aload_n 0, 1) := by decide +kernel
theorem dX9_takeSigner_29 : decode cX9_takeSigner 29 = .ok (.iconst 3, 1) := by decide +kernel
theorem dX9_takeSigner_30 : decode cX9_takeSigner 30 = .ok (.invokevirtual 85, 3) := by decide +kernel
theorem dX9_takeSigner_33 : decode cX9_takeSigner 33 = .ok (.ireturn, 1) := by decide +kernel
theorem dX9_takeSigner_34 : decode cX9_takeSigner 34 = .ok (.aload_n 0, 1) := by decide +kernel
theorem dX9_takeSigner_35 : decode cX9_takeSigner 35 = .ok (.iload_n 2, 1) := by decide +kernel
theorem dX9_takeSigner_36 : decode cX9_takeSigner 36 = .ok (.putfield 91, 3) := by decide +kernel
theorem dX9_takeSigner_39 : decode cX9_takeSigner 39 = .ok (.aload_n 0, 1) := by decide +kernel
theorem dX9_takeSigner_40 : decode cX9_takeSigner 40 = .ok (.aload_n 0, 1) := by decide +kernel
theorem dX9_takeSigner_41 : decode cX9_takeSigner 41 = .ok (.getfield 37, 3) := by decide +kernel
theorem dX9_takeSigner_44 : decode cX9_takeSigner 44 = .ok (.putfield 94, 3) := by decide +kernel
theorem dX9_takeSigner_47 : decode cX9_takeSigner 47 = .ok (.aload_n 0, 1) := by decide +kernel
theorem dX9_takeSigner_48 : decode cX9_takeSigner 48 = .ok (.invokevirtual 28, 3) := by decide +kernel
theorem dX9_takeSigner_51 : decode cX9_takeSigner 51 = .ok (.iconst 1, 1) := by decide +kernel
theorem dX9_takeSigner_52 : decode cX9_takeSigner 52 = .ok (.ireturn, 1) := by decide +kernel
def tX9_takeSigner (kn : sKn) : List (Nat × sA) := [(0, a_aload 0 1), (1, a_get 10 4 4), (4, a_stk (q_int 5) 5), (5, a_icmp kn b_eq 0 14 8), (8, a_aload 0 9), (9, a_stk (q_int 1) 10), (10, a_callV false (fX9_refuse kn) 10 2 13), (13, a_zret), (14, a_aload 1 15), (15, a_aload 0 16), (16, a_get 10 7 19), (19, a_callV false (fX6_signerNamed kn) 7 2 22), (22, a_istore 2 23), (23, a_iload 2 24), (24, a_stk (q_int (-1)) 25), (25, a_icmp kn b_ne 1 34 28), (28, a_aload 0 29), (29, a_stk (q_int 3) 30), (30, a_callV false (fX9_refuse kn) 10 2 33), (33, a_zret), (34, a_aload 0 35), (35, a_iload 2 36), (36, a_put 10 8 ckI 39), (39, a_aload 0 40), (40, a_aload 0 41), (41, a_get 10 5 44), (44, a_put 10 10 ckI 47), (47, a_aload 0 48), (48, a_callV true (fX9_advance kn) 10 1 51), (51, a_stk (q_int 1) 52), (52, a_zret)]
def fX9_takeSigner (kn : sKn) : List Value → sW → Option sR := fW (tX9_takeSigner kn) 3
set_option maxRecDepth 100000 in
set_option maxHeartbeats 4000000 in
theorem mX9_takeSigner (kn : sKn) : mM kn yX9_takeSigner (Cond.code yX9_takeSigner cX9_takeSigner 3 (some .boolean) :: wsL_law) 7 false (fX9_takeSigner kn) := mM_W (fun n => mM_of (own := RX9) (ini := false) rfl (by decide +kernel) (by decide +kernel) (all_c (ok_aload_n dX9_takeSigner_0 rfl) (all_c (okg_X9_4 kw389 dX9_takeSigner_1) (all_c (ok_stk (s_iconst dX9_takeSigner_4 (by decide))) (all_c (ok_icmp_eq dX9_takeSigner_5 (by decide)) (all_c (ok_aload_n dX9_takeSigner_8 rfl) (all_c (ok_stk (s_iconst dX9_takeSigner_9 (by decide))) (all_c (okc_X9_refuse (by decide) kw435 dX9_takeSigner_10) (all_c (ok_zret dX9_takeSigner_13) (all_c (ok_aload_n dX9_takeSigner_14 rfl) (all_c (ok_aload_n dX9_takeSigner_15 rfl) (all_c (okg_X9_7 kw399 dX9_takeSigner_16) (all_c (okc_X6_signerNamed (by decide) kw525 dX9_takeSigner_19) (all_c (ok_istore_n dX9_takeSigner_22 rfl (by decide)) (all_c (ok_iload_n dX9_takeSigner_23 rfl) (all_c (ok_stk (s_iconst dX9_takeSigner_24 (by decide))) (all_c (ok_icmp_ne dX9_takeSigner_25 (by decide)) (all_c (ok_aload_n dX9_takeSigner_28 rfl) (all_c (ok_stk (s_iconst dX9_takeSigner_29 (by decide))) (all_c (okc_X9_refuse (by decide) kw435 dX9_takeSigner_30) (all_c (ok_zret dX9_takeSigner_33) (all_c (ok_aload_n dX9_takeSigner_34 rfl) (all_c (ok_iload_n dX9_takeSigner_35 rfl) (all_c (okp_X9_8 kw436 dX9_takeSigner_36) (all_c (ok_aload_n dX9_takeSigner_39 rfl) (all_c (ok_aload_n dX9_takeSigner_40 rfl) (all_c (okg_X9_5 kw396 dX9_takeSigner_41) (all_c (okp_X9_10 kw437 dX9_takeSigner_44) (all_c (ok_aload_n dX9_takeSigner_47 rfl) (all_c (okc_X9_advance (by decide) kw441 dX9_takeSigner_48) (all_c (ok_stk (s_iconst dX9_takeSigner_51 (by decide))) (all_c (ok_zret dX9_takeSigner_52) all_n))))))))))))))))))))))))))))))) n (fun h => by first | rfl | cases h))
theorem dX2_readHeir_0 : decode cX2_readHeir 0 = .ok (.aload_n 1, 1) := by decide +kernel
theorem dX2_readHeir_1 : decode cX2_readHeir 1 = .ok (.invokevirtual 83, 3) := by decide +kernel
theorem dX2_readHeir_4 : decode cX2_readHeir 4 = .ok (.aload_n 1, 1) := by decide +kernel
theorem dX2_readHeir_5 : decode cX2_readHeir 5 = .ok (.aload_n 0, 1) := by decide +kernel
theorem dX2_readHeir_6 : decode cX2_readHeir 6 = .ok (.getfield 12, 3) := by decide +kernel
theorem dX2_readHeir_9 : decode cX2_readHeir 9 = .ok (.invokevirtual 127, 3) := by decide +kernel
theorem dX2_readHeir_12 : decode cX2_readHeir 12 = .ok (.ifCond .ne 5, 3) := by decide +kernel
theorem dX2_readHeir_15 : decode cX2_readHeir 15 = .ok (.iconst 0, 1) := by decide +kernel
theorem dX2_readHeir_16 : decode cX2_readHeir 16 = .ok (.ireturn, 1) := by decide +kernel
theorem dX2_readHeir_17 : decode cX2_readHeir 17 = .ok (.aload_n 1, 1) := by decide +kernel
theorem dX2_readHeir_18 : decode cX2_readHeir 18 = .ok (.getfield 90, 3) := by decide +kernel
theorem dX2_readHeir_21 : decode cX2_readHeir 21 = .ok (.istore_n 2, 1) := by decide +kernel
theorem dX2_readHeir_22 : decode cX2_readHeir 22 = .ok (.aload_n 0, 1) := by decide +kernel
theorem dX2_readHeir_23 : decode cX2_readHeir 23 = .ok (.getfield 12, 3) := by decide +kernel
theorem dX2_readHeir_26 : decode cX2_readHeir 26 = .ok (.getfield 130, 3) := by decide +kernel
theorem dX2_readHeir_29 : decode cX2_readHeir 29 = .ok (.iload_n 2, 1) := by decide +kernel
theorem dX2_readHeir_30 : decode cX2_readHeir 30 = .ok (.iaload, 1) := by decide +kernel
theorem dX2_readHeir_31 : decode cX2_readHeir 31 = .ok (.iconst (-1), 1) := by decide +kernel
theorem dX2_readHeir_32 : decode cX2_readHeir 32 = .ok (.if_icmp .eq 13, 3) := by decide +kernel
theorem dX2_readHeir_35 : decode cX2_readHeir 35 = .ok (.aload_n 1, 1) := by decide +kernel
theorem dX2_readHeir_36 : decode cX2_readHeir 36 = .ok (.iconst 3, 1) := by decide +kernel
theorem dX2_readHeir_37 : decode cX2_readHeir 37 = .ok (.aload_n 1, 1) := by decide +kernel
theorem dX2_readHeir_38 : decode cX2_readHeir 38 = .ok (.getfield 133, 3) := by decide +kernel
theorem dX2_readHeir_41 : decode cX2_readHeir 41 = .ok (.invokevirtual 136, 3) := by decide +kernel
theorem dX2_readHeir_44 : decode cX2_readHeir 44 = .ok (.ireturn, 1) := by decide +kernel
theorem dX2_readHeir_45 : decode cX2_readHeir 45 = .ok (.aload_n 1, 1) := by decide +kernel
theorem dX2_readHeir_46 : decode cX2_readHeir 46 = .ok (.aload_n 0, 1) := by decide +kernel
theorem dX2_readHeir_47 : decode cX2_readHeir 47 = .ok (.getfield 12, 3) := by decide +kernel
theorem dX2_readHeir_50 : decode cX2_readHeir 50 = .ok (.invokevirtual 127, 3) := by decide +kernel
theorem dX2_readHeir_53 : decode cX2_readHeir 53 = .ok (.ifCond .ne 5, 3) := by decide +kernel
theorem dX2_readHeir_56 : decode cX2_readHeir 56 = .ok (.iconst 0, 1) := by decide +kernel
theorem dX2_readHeir_57 : decode cX2_readHeir 57 = .ok (.ireturn, 1) := by decide +kernel
theorem dX2_readHeir_58 : decode cX2_readHeir 58 = .ok (.aload_n 1, 1) := by decide +kernel
theorem dX2_readHeir_59 : decode cX2_readHeir 59 = .ok (.getfield 90, 3) := by decide +kernel
theorem dX2_readHeir_62 : decode cX2_readHeir 62 = .ok (.iload_n 2, 1) := by decide +kernel
theorem dX2_readHeir_63 : decode cX2_readHeir 63 = .ok (.if_icmp .ne 13, 3) := by decide +kernel
theorem dX2_readHeir_66 : decode cX2_readHeir 66 = .ok (.aload_n 1, 1) := by decide +kernel
theorem dX2_readHeir_67 : decode cX2_readHeir 67 = .ok (.iconst 3, 1) := by decide +kernel
theorem dX2_readHeir_68 : decode cX2_readHeir 68 = .ok (.aload_n 1, 1) := by decide +kernel
theorem dX2_readHeir_69 : decode cX2_readHeir 69 = .ok (.getfield 133, 3) := by decide +kernel
theorem dX2_readHeir_72 : decode cX2_readHeir 72 = .ok (.invokevirtual 136, 3) := by decide +kernel
theorem dX2_readHeir_75 : decode cX2_readHeir 75 = .ok (.ireturn, 1) := by decide +kernel
theorem dX2_readHeir_76 : decode cX2_readHeir 76 = .ok (.aload_n 0, 1) := by decide +kernel
theorem dX2_readHeir_77 : decode cX2_readHeir 77 = .ok (.getfield 12, 3) := by decide +kernel
theorem dX2_readHeir_80 : decode cX2_readHeir 80 = .ok (.getfield 130, 3) := by decide +kernel
theorem dX2_readHeir_83 : decode cX2_readHeir 83 = .ok (.iload_n 2, 1) := by decide +kernel
theorem dX2_readHeir_84 : decode cX2_readHeir 84 = .ok (.aload_n 1, 1) := by decide +kernel
theorem dX2_readHeir_85 : decode cX2_readHeir 85 = .ok (.getfield 90, 3) := by decide +kernel
theorem dX2_readHeir_88 : decode cX2_readHeir 88 = .ok (.iastore, 1) := by decide +kernel
theorem dX2_readHeir_89 : decode cX2_readHeir 89 = .ok (.iconst 1, 1) := by decide +kernel
theorem dX2_readHeir_90 : decode cX2_readHeir 90 = .ok (.ireturn, 1) := by decide +kernel
theorem okc_X9_takeSigner {kn : sKn} {cc : ByteArray} {own : String} {nL : Nat} {D : Nat} {ret : Option FieldType} {ini : Bool} {pc index : Nat} (hD : 7 + 1 ≤ D) (hl : Cond.methodLink own index yX9_takeSigner ∈ wsL_law) (hd : decode cc pc = .ok (.invokevirtual index, 3)) : mOk kn cc own nL wsL_law D ret ini pc (a_callV false (fX9_takeSigner kn) 10 (1 + 1) (pc + 3)) := ok_callV (mX9_takeSigner kn) (good_ws ws_good (fun _ h => h) kw528) hD (by decide) hl kw529 kw530 kw392 ⟨by decide +kernel, by decide +kernel, by decide +kernel⟩ rfl hd
def tX2_readHeir (kn : sKn) : List (Nat × sA) := [(0, a_aload 1 1), (1, a_callV true (fX9_advance kn) 10 1 4), (4, a_aload 1 5), (5, a_aload 0 6), (6, a_get 3 0 9), (9, a_callV false (fX9_takeSigner kn) 10 2 12), (12, a_if kn b_ne 1 17 15), (15, a_stk (q_int 0) 16), (16, a_zret), (17, a_aload 1 18), (18, a_get 10 8 21), (21, a_istore 2 22), (22, a_aload 0 23), (23, a_get 3 0 26), (26, a_get 7 9 29), (29, a_iload 2 30), (30, a_iald 31), (31, a_stk (q_int (-1)) 32), (32, a_icmp kn b_eq 0 45 35), (35, a_aload 1 36), (36, a_stk (q_int 3) 37), (37, a_aload 1 38), (38, a_get 10 10 41), (41, a_callV false (fX9_refuseAt kn) 10 3 44), (44, a_zret), (45, a_aload 1 46), (46, a_aload 0 47), (47, a_get 3 0 50), (50, a_callV false (fX9_takeSigner kn) 10 2 53), (53, a_if kn b_ne 1 58 56), (56, a_stk (q_int 0) 57), (57, a_zret), (58, a_aload 1 59), (59, a_get 10 8 62), (62, a_iload 2 63), (63, a_icmp kn b_ne 1 76 66), (66, a_aload 1 67), (67, a_stk (q_int 3) 68), (68, a_aload 1 69), (69, a_get 10 10 72), (72, a_callV false (fX9_refuseAt kn) 10 3 75), (75, a_zret), (76, a_aload 0 77), (77, a_get 3 0 80), (80, a_get 7 9 83), (83, a_iload 2 84), (84, a_aload 1 85), (85, a_get 10 8 88), (88, a_iast 89), (89, a_stk (q_int 1) 90), (90, a_zret)]
def fX2_readHeir (kn : sKn) : List Value → sW → Option sR := fW (tX2_readHeir kn) 3
set_option maxRecDepth 100000 in
set_option maxHeartbeats 4000000 in
theorem mX2_readHeir (kn : sKn) : mM kn yX2_readHeir (Cond.code yX2_readHeir cX2_readHeir 3 (some .boolean) :: wsL_law) 8 false (fX2_readHeir kn) := mM_W (fun n => mM_of (own := RX2) (ini := false) rfl (by decide +kernel) (by decide +kernel) (all_c (ok_aload_n dX2_readHeir_0 rfl) (all_c (okc_X9_advance (by decide) kw526 dX2_readHeir_1) (all_c (ok_aload_n dX2_readHeir_4 rfl) (all_c (ok_aload_n dX2_readHeir_5 rfl) (all_c (okg_X2_0 kw527 dX2_readHeir_6) (all_c (okc_X9_takeSigner (by decide) kw531 dX2_readHeir_9) (all_c (ok_if_ne dX2_readHeir_12 (by decide)) (all_c (ok_stk (s_iconst dX2_readHeir_15 (by decide))) (all_c (ok_zret dX2_readHeir_16) (all_c (ok_aload_n dX2_readHeir_17 rfl) (all_c (okg_X9_8 kw532 dX2_readHeir_18) (all_c (ok_istore_n dX2_readHeir_21 rfl (by decide)) (all_c (ok_aload_n dX2_readHeir_22 rfl) (all_c (okg_X2_0 kw527 dX2_readHeir_23) (all_c (okg_X6_9 kw533 dX2_readHeir_26) (all_c (ok_iload_n dX2_readHeir_29 rfl) (all_c (ok_iald dX2_readHeir_30) (all_c (ok_stk (s_iconst dX2_readHeir_31 (by decide))) (all_c (ok_icmp_eq dX2_readHeir_32 (by decide)) (all_c (ok_aload_n dX2_readHeir_35 rfl) (all_c (ok_stk (s_iconst dX2_readHeir_36 (by decide))) (all_c (ok_aload_n dX2_readHeir_37 rfl) (all_c (okg_X9_10 kw534 dX2_readHeir_38) (all_c (okc_X9_refuseAt (by decide) kw535 dX2_readHeir_41) (all_c (ok_zret dX2_readHeir_44) (all_c (ok_aload_n dX2_readHeir_45 rfl) (all_c (ok_aload_n dX2_readHeir_46 rfl) (all_c (okg_X2_0 kw527 dX2_readHeir_47) (all_c (okc_X9_takeSigner (by decide) kw531 dX2_readHeir_50) (all_c (ok_if_ne dX2_readHeir_53 (by decide)) (all_c (ok_stk (s_iconst dX2_readHeir_56 (by decide))) (all_c (ok_zret dX2_readHeir_57) (all_c (ok_aload_n dX2_readHeir_58 rfl) (all_c (okg_X9_8 kw532 dX2_readHeir_59) (all_c (ok_iload_n dX2_readHeir_62 rfl) (all_c (ok_icmp_ne dX2_readHeir_63 (by decide)) (all_c (ok_aload_n dX2_readHeir_66 rfl) (all_c (ok_stk (s_iconst dX2_readHeir_67 (by decide))) (all_c (ok_aload_n dX2_readHeir_68 rfl) (all_c (okg_X9_10 kw534 dX2_readHeir_69) (all_c (okc_X9_refuseAt (by decide) kw535 dX2_readHeir_72) (all_c (ok_zret dX2_readHeir_75) (all_c (ok_aload_n dX2_readHeir_76 rfl) (all_c (okg_X2_0 kw527 dX2_readHeir_77) (all_c (okg_X6_9 kw533 dX2_readHeir_80) (all_c (ok_iload_n dX2_readHeir_83 rfl) (all_c (ok_aload_n dX2_readHeir_84 rfl) (all_c (okg_X9_8 kw532 dX2_readHeir_85) (all_c (ok_iast dX2_readHeir_88) (all_c (ok_stk (s_iconst dX2_readHeir_89 (by decide))) (all_c (ok_zret dX2_readHeir_90) all_n))))))))))))))))))))))))))))))))))))))))))))))))))) n (fun h => by first | rfl | cases h))
theorem dX2_readKeeps_0 : decode cX2_readKeeps 0 = .ok (.aload_n 0, 1) := by decide +kernel
theorem dX2_readKeeps_1 : decode cX2_readKeeps 1 = .ok (.getfield 25, 3) := by decide +kernel
theorem dX2_readKeeps_4 : decode cX2_readKeeps 4 = .ok (.ifCond .eq 9, 3) := by decide +kernel
theorem dX2_readKeeps_7 : decode cX2_readKeeps 7 = .ok (.aload_n 1, 1) := by decide +kernel
theorem dX2_readKeeps_8 : decode cX2_readKeeps 8 = .ok (.iconst 3, 1) := by decide +kernel
theorem dX2_readKeeps_9 : decode cX2_readKeeps 9 = .ok (.invokevirtual 56, 3) := by decide +kernel
theorem dX2_readKeeps_12 : decode cX2_readKeeps 12 = .ok (.ireturn, 1) := by decide +kernel
theorem dX2_readKeeps_13 : decode cX2_readKeeps 13 = .ok (.aload_n 1, 1) := by decide +kernel
theorem dX2_readKeeps_14 : decode cX2_readKeeps 14 = .ok (.invokevirtual 83, 3) := by decide +kernel
theorem dX2_readKeeps_17 : decode cX2_readKeeps 17 = .ok (.aload_n 1, 1) := by decide +kernel
theorem dX2_readKeeps_18 : decode cX2_readKeeps 18 = .ok (.iconst 0, 1) := by decide +kernel
theorem dX2_readKeeps_19 : decode cX2_readKeeps 19 = .ok (.bipush 30, 2) := by decide +kernel
theorem dX2_readKeeps_21 : decode cX2_readKeeps 21 = .ok (.invokevirtual 86, 3) := by decide +kernel
theorem dX2_readKeeps_24 : decode cX2_readKeeps 24 = .ok (.ifCond .ne 5, 3) := by decide +kernel
theorem dX2_readKeeps_27 : decode cX2_readKeeps 27 = .ok (.iconst 0, 1) := by decide +kernel
theorem dX2_readKeeps_28 : decode cX2_readKeeps 28 = .ok (.ireturn, 1) := by decide +kernel
theorem dX2_readKeeps_29 : decode cX2_readKeeps 29 = .ok (.aload_n 0, 1) := by decide +kernel
theorem dX2_readKeeps_30 : decode cX2_readKeeps 30 = .ok (.getfield 12, 3) := by decide +kernel
theorem dX2_readKeeps_33 : decode cX2_readKeeps 33 = .ok (.aload_n 1, 1) := by decide +kernel
theorem dX2_readKeeps_34 : decode cX2_readKeeps 34 = .ok (.getfield 90, 3) := by decide +kernel
theorem dX2_readKeeps_37 : decode cX2_readKeeps 37 = .ok (.putfield 96, 3) := by decide +kernel
theorem dX2_readKeeps_40 : decode cX2_readKeeps 40 = .ok (.aload_n 0, 1) := by decide +kernel
theorem dX2_readKeeps_41 : decode cX2_readKeeps 41 = .ok (.iconst 1, 1) := by decide +kernel
theorem dX2_readKeeps_42 : decode cX2_readKeeps 42 = .ok (.putfield 25, 3) := by decide +kernel
theorem dX2_readKeeps_45 : decode cX2_readKeeps 45 = .ok (.iconst 1, 1) := by decide +kernel
theorem dX2_readKeeps_46 : decode cX2_readKeeps 46 = .ok (.ireturn, 1) := by decide +kernel
def tX2_readKeeps (kn : sKn) : List (Nat × sA) := [(0, a_aload 0 1), (1, a_get 3 3 4), (4, a_if kn b_eq 0 13 7), (7, a_aload 1 8), (8, a_stk (q_int 3) 9), (9, a_callV false (fX9_refuse kn) 10 2 12), (12, a_zret), (13, a_aload 1 14), (14, a_callV true (fX9_advance kn) 10 1 17), (17, a_aload 1 18), (18, a_stk (q_int 0) 19), (19, a_stk (q_int 30) 21), (21, a_callV false (fX9_takeNumber kn) 10 3 24), (24, a_if kn b_ne 1 29 27), (27, a_stk (q_int 0) 28), (28, a_zret), (29, a_aload 0 30), (30, a_get 3 0 33), (33, a_aload 1 34), (34, a_get 10 8 37), (37, a_put 7 1 ckI 40), (40, a_aload 0 41), (41, a_stk (q_int 1) 42), (42, a_put 3 3 ckZ 45), (45, a_stk (q_int 1) 46), (46, a_zret)]
def fX2_readKeeps (kn : sKn) : List Value → sW → Option sR := fW (tX2_readKeeps kn) 2
set_option maxRecDepth 100000 in
set_option maxHeartbeats 4000000 in
theorem mX2_readKeeps (kn : sKn) : mM kn yX2_readKeeps (Cond.code yX2_readKeeps cX2_readKeeps 2 (some .boolean) :: wsL_law) 8 false (fX2_readKeeps kn) := mM_W (fun n => mM_of (own := RX2) (ini := false) rfl (by decide +kernel) (by decide +kernel) (all_c (ok_aload_n dX2_readKeeps_0 rfl) (all_c (okg_X2_3 kw536 dX2_readKeeps_1) (all_c (ok_if_eq dX2_readKeeps_4 (by decide)) (all_c (ok_aload_n dX2_readKeeps_7 rfl) (all_c (ok_stk (s_iconst dX2_readKeeps_8 (by decide))) (all_c (okc_X9_refuse (by decide) kw537 dX2_readKeeps_9) (all_c (ok_zret dX2_readKeeps_12) (all_c (ok_aload_n dX2_readKeeps_13 rfl) (all_c (okc_X9_advance (by decide) kw526 dX2_readKeeps_14) (all_c (ok_aload_n dX2_readKeeps_17 rfl) (all_c (ok_stk (s_iconst dX2_readKeeps_18 (by decide))) (all_c (ok_stk (s_bipush dX2_readKeeps_19 (by decide))) (all_c (okc_X9_takeNumber (by decide) kw538 dX2_readKeeps_21) (all_c (ok_if_ne dX2_readKeeps_24 (by decide)) (all_c (ok_stk (s_iconst dX2_readKeeps_27 (by decide))) (all_c (ok_zret dX2_readKeeps_28) (all_c (ok_aload_n dX2_readKeeps_29 rfl) (all_c (okg_X2_0 kw527 dX2_readKeeps_30) (all_c (ok_aload_n dX2_readKeeps_33 rfl) (all_c (okg_X9_8 kw532 dX2_readKeeps_34) (all_c (okp_X6_1 kw539 dX2_readKeeps_37) (all_c (ok_aload_n dX2_readKeeps_40 rfl) (all_c (ok_stk (s_iconst dX2_readKeeps_41 (by decide))) (all_c (okp_X2_3 kw536 dX2_readKeeps_42) (all_c (ok_stk (s_iconst dX2_readKeeps_45 (by decide))) (all_c (ok_zret dX2_readKeeps_46) all_n)))))))))))))))))))))))))) n (fun h => by first | rfl | cases h))
theorem dX9_takeNewName_0 : decode cX9_takeNewName 0 = .ok (.aload_n 0, 1) := by decide +kernel
theorem dX9_takeNewName_1 : decode cX9_takeNewName 1 = .ok (.getfield 40, 3) := by decide +kernel
theorem dX9_takeNewName_4 : decode cX9_takeNewName 4 = .ok (.iconst 5, 1) := by decide +kernel
theorem dX9_takeNewName_5 : decode cX9_takeNewName 5 = .ok (.if_icmp .eq 9, 3) := by decide +kernel
theorem dX9_takeNewName_8 : decode cX9_takeNewName 8 = .ok (.aload_n 0, 1) := by decide +kernel
theorem dX9_takeNewName_9 : decode cX9_takeNewName 9 = .ok (.iconst 1, 1) := by decide +kernel
theorem dX9_takeNewName_10 : decode cX9_takeNewName 10 = .ok (.invokevirtual 85, 3) := by decide +kernel
theorem dX9_takeNewName_13 : decode cX9_takeNewName 13 = .ok (.ireturn, 1) := by decide +kernel
theorem dX9_takeNewName_14 : decode cX9_takeNewName 14 = .ok (.aload_n 1, 1) := by decide +kernel
theorem dX9_takeNewName_15 : decode cX9_takeNewName 15 = .ok (.aload_n 0, 1) := by decide +kernel
theorem dX9_takeNewName_16 : decode cX9_takeNewName 16 = .ok (.getfield 62, 3) := by decide +kernel
theorem dX9_takeNewName_19 : decode cX9_takeNewName 19 = .ok (.invokevirtual 97, 3) := by decide +kernel
theorem dX9_takeNewName_22 : decode cX9_takeNewName 22 = .ok (.iconst (-1), 1) := by decide +kernel
theorem dX9_takeNewName_23 : decode cX9_takeNewName 23 = .ok (.if_icmp .ne 15, 3) := by decide +kernel
theorem dX9_takeNewName_26 : decode cX9_takeNewName 26 = .ok (.aload_n 1, 1) := by decide +kernel
theorem dX9_takeNewName_27 : decode cX9_takeNewName 27 = .ok (.aload_n 0, 1) := by decide +kernel
theorem dX9_takeNewName_28 : decode cX9_takeNewName 28 = .ok (.getfield 62, 3) := by decide +kernel
theorem dX9_takeNewName_31 : decode cX9_takeNewName 31 = .ok (.invokevirtual 103, 3) := by decide +kernel
theorem dX9_takeNewName_34 : decode cX9_takeNewName 34 = .ok (.iconst (-1), 1) := by decide +kernel
theorem dX9_takeNewName_35 : decode cX9_takeNewName 35 = .ok (.if_icmp .eq 9, 3) := by decide +kernel
theorem dX9_takeNewName_38 : decode cX9_takeNewName 38 = .ok (.aload_n 0, 1) := by decide +kernel
theorem dX9_takeNewName_39 : decode cX9_takeNewName 39 = .ok (.iconst 3, 1) := by decide +kernel
theorem dX9_takeNewName_40 : decode cX9_takeNewName 40 = .ok (.invokevirtual 85, 3) := by decide +kernel
theorem dX9_takeNewName_43 : decode cX9_takeNewName 43 = .ok (.ireturn, 1) := by decide +kernel
theorem dX9_takeNewName_44 : decode cX9_takeNewName 44 = .ok (.aload_n 0, 1) := by decide +kernel
theorem dX9_takeNewName_45 : decode cX9_takeNewName 45 = .ok (.aload_n 0, 1) := by decide +kernel
theorem dX9_takeNewName_46 : decode cX9_takeNewName 46 = .ok (.getfield 62, 3) := by decide +kernel
theorem dX9_takeNewName_49 : decode cX9_takeNewName 49 = .ok (.putfield 106, 3) := by decide +kernel
theorem dX9_takeNewName_52 : decode cX9_takeNewName 52 = .ok (.aload_n 0, 1) := by decide +kernel
theorem dX9_takeNewName_53 : decode cX9_takeNewName 53 = .ok (.invokevirtual 28, 3) := by decide +kernel
theorem dX9_takeNewName_56 : decode cX9_takeNewName 56 = .ok (.iconst 1, 1) := by decide +kernel
theorem dX9_takeNewName_57 : decode cX9_takeNewName 57 = .ok (.ireturn, 1) := by decide +kernel
def tX9_takeNewName (kn : sKn) : List (Nat × sA) := [(0, a_aload 0 1), (1, a_get 10 4 4), (4, a_stk (q_int 5) 5), (5, a_icmp kn b_eq 0 14 8), (8, a_aload 0 9), (9, a_stk (q_int 1) 10), (10, a_callV false (fX9_refuse kn) 10 2 13), (13, a_zret), (14, a_aload 1 15), (15, a_aload 0 16), (16, a_get 10 7 19), (19, a_callV false (fX6_signerNamed kn) 7 2 22), (22, a_stk (q_int (-1)) 23), (23, a_icmp kn b_ne 1 38 26), (26, a_aload 1 27), (27, a_aload 0 28), (28, a_get 10 7 31), (31, a_callV false (fX6_loadNamed kn) 7 2 34), (34, a_stk (q_int (-1)) 35), (35, a_icmp kn b_eq 0 44 38), (38, a_aload 0 39), (39, a_stk (q_int 3) 40), (40, a_callV false (fX9_refuse kn) 10 2 43), (43, a_zret), (44, a_aload 0 45), (45, a_aload 0 46), (46, a_get 10 7 49), (49, a_put 10 9 ckJ 52), (52, a_aload 0 53), (53, a_callV true (fX9_advance kn) 10 1 56), (56, a_stk (q_int 1) 57), (57, a_zret)]
def fX9_takeNewName (kn : sKn) : List Value → sW → Option sR := fW (tX9_takeNewName kn) 2
set_option maxRecDepth 100000 in
set_option maxHeartbeats 4000000 in
theorem mX9_takeNewName (kn : sKn) : mM kn yX9_takeNewName (Cond.code yX9_takeNewName cX9_takeNewName 2 (some .boolean) :: wsL_law) 7 false (fX9_takeNewName kn) := mM_W (fun n => mM_of (own := RX9) (ini := false) rfl (by decide +kernel) (by decide +kernel) (all_c (ok_aload_n dX9_takeNewName_0 rfl) (all_c (okg_X9_4 kw389 dX9_takeNewName_1) (all_c (ok_stk (s_iconst dX9_takeNewName_4 (by decide))) (all_c (ok_icmp_eq dX9_takeNewName_5 (by decide)) (all_c (ok_aload_n dX9_takeNewName_8 rfl) (all_c (ok_stk (s_iconst dX9_takeNewName_9 (by decide))) (all_c (okc_X9_refuse (by decide) kw435 dX9_takeNewName_10) (all_c (ok_zret dX9_takeNewName_13) (all_c (ok_aload_n dX9_takeNewName_14 rfl) (all_c (ok_aload_n dX9_takeNewName_15 rfl) (all_c (okg_X9_7 kw399 dX9_takeNewName_16) (all_c (okc_X6_signerNamed (by decide) kw525 dX9_takeNewName_19) (all_c (ok_stk (s_iconst dX9_takeNewName_22 (by decide))) (all_c (ok_icmp_ne dX9_takeNewName_23 (by decide)) (all_c (ok_aload_n dX9_takeNewName_26 rfl) (all_c (ok_aload_n dX9_takeNewName_27 rfl) (all_c (okg_X9_7 kw399 dX9_takeNewName_28) (all_c (okc_X6_loadNamed (by decide) kw540 dX9_takeNewName_31) (all_c (ok_stk (s_iconst dX9_takeNewName_34 (by decide))) (all_c (ok_icmp_eq dX9_takeNewName_35 (by decide)) (all_c (ok_aload_n dX9_takeNewName_38 rfl) (all_c (ok_stk (s_iconst dX9_takeNewName_39 (by decide))) (all_c (okc_X9_refuse (by decide) kw435 dX9_takeNewName_40) (all_c (ok_zret dX9_takeNewName_43) (all_c (ok_aload_n dX9_takeNewName_44 rfl) (all_c (ok_aload_n dX9_takeNewName_45 rfl) (all_c (okg_X9_7 kw399 dX9_takeNewName_46) (all_c (okp_X9_9 kw541 dX9_takeNewName_49) (all_c (ok_aload_n dX9_takeNewName_52 rfl) (all_c (okc_X9_advance (by decide) kw441 dX9_takeNewName_53) (all_c (ok_stk (s_iconst dX9_takeNewName_56 (by decide))) (all_c (ok_zret dX9_takeNewName_57) all_n)))))))))))))))))))))))))))))))) n (fun h => by first | rfl | cases h))
theorem dX2_readLoad_0 : decode cX2_readLoad 0 = .ok (.aload_n 0, 1) := by decide +kernel
theorem dX2_readLoad_1 : decode cX2_readLoad 1 = .ok (.getfield 12, 3) := by decide +kernel
theorem dX2_readLoad_4 : decode cX2_readLoad 4 = .ok (.getfield 155, 3) := by decide +kernel
theorem dX2_readLoad_7 : decode cX2_readLoad 7 = .ok (.istore_n 2, 1) := by decide +kernel
theorem dX2_readLoad_8 : decode cX2_readLoad 8 = .ok (.iload_n 2, 1) := by decide +kernel
theorem dX2_readLoad_9 : decode cX2_readLoad 9 = .ok (.bipush 6, 2) := by decide +kernel
theorem dX2_readLoad_11 : decode cX2_readLoad 11 = .ok (.if_icmp .lt 9, 3) := by decide +kernel
theorem dX2_readLoad_14 : decode cX2_readLoad 14 = .ok (.aload_n 1, 1) := by decide +kernel
theorem dX2_readLoad_15 : decode cX2_readLoad 15 = .ok (.iconst 4, 1) := by decide +kernel
theorem dX2_readLoad_16 : decode cX2_readLoad 16 = .ok (.invokevirtual 56, 3) := by decide +kernel
theorem dX2_readLoad_19 : decode cX2_readLoad 19 = .ok (.ireturn, 1) := by decide +kernel
theorem dX2_readLoad_20 : decode cX2_readLoad 20 = .ok (.aload_n 1, 1) := by decide +kernel
theorem dX2_readLoad_21 : decode cX2_readLoad 21 = .ok (.invokevirtual 83, 3) := by decide +kernel
theorem dX2_readLoad_24 : decode cX2_readLoad 24 = .ok (.aload_n 1, 1) := by decide +kernel
theorem dX2_readLoad_25 : decode cX2_readLoad 25 = .ok (.aload_n 0, 1) := by decide +kernel
theorem dX2_readLoad_26 : decode cX2_readLoad 26 = .ok (.getfield 12, 3) := by decide +kernel
theorem dX2_readLoad_29 : decode cX2_readLoad 29 = .ok (.invokevirtual 102, 3) := by decide +kernel
theorem dX2_readLoad_32 : decode cX2_readLoad 32 = .ok (.ifCond .ne 5, 3) := by decide +kernel
theorem dX2_readLoad_35 : decode cX2_readLoad 35 = .ok (.iconst 0, 1) := by decide +kernel
theorem dX2_readLoad_36 : decode cX2_readLoad 36 = .ok (.ireturn, 1) := by decide +kernel
theorem dX2_readLoad_37 : decode cX2_readLoad 37 = .ok (.aload_n 0, 1) := by decide +kernel
theorem dX2_readLoad_38 : decode cX2_readLoad 38 = .ok (.getfield 12, 3) := by decide +kernel
theorem dX2_readLoad_41 : decode cX2_readLoad 41 = .ok (.getfield 158, 3) := by decide +kernel
theorem dX2_readLoad_44 : decode cX2_readLoad 44 = .ok (.iload_n 2, 1) := by decide +kernel
theorem dX2_readLoad_45 : decode cX2_readLoad 45 = .ok (.aload_n 1, 1) := by decide +kernel
theorem dX2_readLoad_46 : decode cX2_readLoad 46 = .ok (.getfield 110, 3) := by decide +kernel
theorem dX2_readLoad_49 : decode cX2_readLoad 49 = .ok (.lastore, 1) := by decide +kernel
theorem dX2_readLoad_50 : decode cX2_readLoad 50 = .ok (.aload_n 1, 1) := by decide +kernel
theorem dX2_readLoad_51 : decode cX2_readLoad 51 = .ok (.iconst 1, 1) := by decide +kernel
theorem dX2_readLoad_52 : decode cX2_readLoad 52 = .ok (.sipush 300, 3) := by decide +kernel
theorem dX2_readLoad_55 : decode cX2_readLoad 55 = .ok (.invokevirtual 86, 3) := by decide +kernel
theorem dX2_readLoad_58 : decode cX2_readLoad 58 = .ok (.ifCond .ne 5, 3) := by decide +kernel
theorem dX2_readLoad_61 : decode cX2_readLoad 61 = .ok (.iconst 0, 1) := by decide +kernel
theorem dX2_readLoad_62 : decode cX2_readLoad 62 = .ok (.ireturn, 1) := by decide +kernel
theorem dX2_readLoad_63 : decode cX2_readLoad 63 = .ok (.aload_n 0, 1) := by decide +kernel
theorem dX2_readLoad_64 : decode cX2_readLoad 64 = .ok (.getfield 12, 3) := by decide +kernel
theorem dX2_readLoad_67 : decode cX2_readLoad 67 = .ok (.getfield 161, 3) := by decide +kernel
theorem dX2_readLoad_70 : decode cX2_readLoad 70 = .ok (.iload_n 2, 1) := by decide +kernel
theorem dX2_readLoad_71 : decode cX2_readLoad 71 = .ok (.aload_n 1, 1) := by decide +kernel
theorem dX2_readLoad_72 : decode cX2_readLoad 72 = .ok (.getfield 90, 3) := by decide +kernel
theorem dX2_readLoad_75 : decode cX2_readLoad 75 = .ok (.iastore, 1) := by decide +kernel
theorem dX2_readLoad_76 : decode cX2_readLoad 76 = .ok (.aload_n 1, 1) := by decide +kernel
theorem dX2_readLoad_77 : decode cX2_readLoad 77 = .ok (.iconst 1, 1) := by decide +kernel
theorem dX2_readLoad_78 : decode cX2_readLoad 78 = .ok (.iconst 3, 1) := by decide +kernel
theorem dX2_readLoad_79 : decode cX2_readLoad 79 = .ok (.invokevirtual 86, 3) := by decide +kernel
theorem dX2_readLoad_82 : decode cX2_readLoad 82 = .ok (.ifCond .ne 5, 3) := by decide +kernel
theorem dX2_readLoad_85 : decode cX2_readLoad 85 = .ok (.iconst 0, 1) := by decide +kernel
theorem dX2_readLoad_86 : decode cX2_readLoad 86 = .ok (.ireturn, 1) := by decide +kernel
theorem dX2_readLoad_87 : decode cX2_readLoad 87 = .ok (.aload_n 0, 1) := by decide +kernel
theorem dX2_readLoad_88 : decode cX2_readLoad 88 = .ok (.getfield 12, 3) := by decide +kernel
theorem dX2_readLoad_91 : decode cX2_readLoad 91 = .ok (.getfield 164, 3) := by decide +kernel
theorem dX2_readLoad_94 : decode cX2_readLoad 94 = .ok (.iload_n 2, 1) := by decide +kernel
theorem dX2_readLoad_95 : decode cX2_readLoad 95 = .ok (.aload_n 1, 1) := by decide +kernel
theorem dX2_readLoad_96 : decode cX2_readLoad 96 = .ok (.getfield 90, 3) := by decide +kernel
theorem dX2_readLoad_99 : decode cX2_readLoad 99 = .ok (.iastore, 1) := by decide +kernel
theorem dX2_readLoad_100 : decode cX2_readLoad 100 = .ok (.aload_n 0, 1) := by decide +kernel
theorem dX2_readLoad_101 : decode cX2_readLoad 101 = .ok (.getfield 12, 3) := by decide +kernel
theorem dX2_readLoad_104 : decode cX2_readLoad 104 = .ok (.dup, 1) := by decide +kernel
theorem dX2_readLoad_105 : decode cX2_readLoad 105 = .ok (.getfield 155, 3) := by decide +kernel
theorem dX2_readLoad_108 : decode cX2_readLoad 108 = .ok (.iconst 1, 1) := by decide +kernel
theorem dX2_readLoad_109 : decode cX2_readLoad 109 = .ok (.iadd, 1) := by decide +kernel
theorem dX2_readLoad_110 : decode cX2_readLoad 110 = .ok (.putfield 155, 3) := by decide +kernel
theorem dX2_readLoad_113 : decode cX2_readLoad 113 = .ok (.iconst 1, 1) := by decide +kernel
theorem dX2_readLoad_114 : decode cX2_readLoad 114 = .ok (.ireturn, 1) := by decide +kernel
theorem okc_X9_takeNewName {kn : sKn} {cc : ByteArray} {own : String} {nL : Nat} {D : Nat} {ret : Option FieldType} {ini : Bool} {pc index : Nat} (hD : 7 + 1 ≤ D) (hl : Cond.methodLink own index yX9_takeNewName ∈ wsL_law) (hd : decode cc pc = .ok (.invokevirtual index, 3)) : mOk kn cc own nL wsL_law D ret ini pc (a_callV false (fX9_takeNewName kn) 10 (1 + 1) (pc + 3)) := ok_callV (mX9_takeNewName kn) (good_ws ws_good (fun _ h => h) kw543) hD (by decide) hl kw544 kw545 kw392 ⟨by decide +kernel, by decide +kernel, by decide +kernel⟩ rfl hd
def tX2_readLoad (kn : sKn) : List (Nat × sA) := [(0, a_aload 0 1), (1, a_get 3 0 4), (4, a_get 7 3 7), (7, a_istore 2 8), (8, a_iload 2 9), (9, a_stk (q_int 6) 11), (11, a_icmp kn b_lt 2 20 14), (14, a_aload 1 15), (15, a_stk (q_int 4) 16), (16, a_callV false (fX9_refuse kn) 10 2 19), (19, a_zret), (20, a_aload 1 21), (21, a_callV true (fX9_advance kn) 10 1 24), (24, a_aload 1 25), (25, a_aload 0 26), (26, a_get 3 0 29), (29, a_callV false (fX9_takeNewName kn) 10 2 32), (32, a_if kn b_ne 1 37 35), (35, a_stk (q_int 0) 36), (36, a_zret), (37, a_aload 0 38), (38, a_get 3 0 41), (41, a_get 7 12 44), (44, a_iload 2 45), (45, a_aload 1 46), (46, a_get 10 9 49), (49, a_last 50), (50, a_aload 1 51), (51, a_stk (q_int 1) 52), (52, a_stk (q_int 300) 55), (55, a_callV false (fX9_takeNumber kn) 10 3 58), (58, a_if kn b_ne 1 63 61), (61, a_stk (q_int 0) 62), (62, a_zret), (63, a_aload 0 64), (64, a_get 3 0 67), (67, a_get 7 13 70), (70, a_iload 2 71), (71, a_aload 1 72), (72, a_get 10 8 75), (75, a_iast 76), (76, a_aload 1 77), (77, a_stk (q_int 1) 78), (78, a_stk (q_int 3) 79), (79, a_callV false (fX9_takeNumber kn) 10 3 82), (82, a_if kn b_ne 1 87 85), (85, a_stk (q_int 0) 86), (86, a_zret), (87, a_aload 0 88), (88, a_get 3 0 91), (91, a_get 7 14 94), (94, a_iload 2 95), (95, a_aload 1 96), (96, a_get 10 8 99), (99, a_iast 100), (100, a_aload 0 101), (101, a_get 3 0 104), (104, a_stk q_dup 105), (105, a_get 7 3 108), (108, a_stk (q_int 1) 109), (109, a_stk q_iadd 110), (110, a_put 7 3 ckI 113), (113, a_stk (q_int 1) 114), (114, a_zret)]
def fX2_readLoad (kn : sKn) : List Value → sW → Option sR := fW (tX2_readLoad kn) 3
set_option maxRecDepth 100000 in
set_option maxHeartbeats 4000000 in
theorem mX2_readLoad (kn : sKn) : mM kn yX2_readLoad (Cond.code yX2_readLoad cX2_readLoad 3 (some .boolean) :: wsL_law) 8 false (fX2_readLoad kn) := mM_W (fun n => mM_of (own := RX2) (ini := false) rfl (by decide +kernel) (by decide +kernel) (all_c (ok_aload_n dX2_readLoad_0 rfl) (all_c (okg_X2_0 kw527 dX2_readLoad_1) (all_c (okg_X6_3 kw542 dX2_readLoad_4) (all_c (ok_istore_n dX2_readLoad_7 rfl (by decide)) (all_c (ok_iload_n dX2_readLoad_8 rfl) (all_c (ok_stk (s_bipush dX2_readLoad_9 (by decide))) (all_c (ok_icmp_lt dX2_readLoad_11 (by decide)) (all_c (ok_aload_n dX2_readLoad_14 rfl) (all_c (ok_stk (s_iconst dX2_readLoad_15 (by decide))) (all_c (okc_X9_refuse (by decide) kw537 dX2_readLoad_16) (all_c (ok_zret dX2_readLoad_19) (all_c (ok_aload_n dX2_readLoad_20 rfl) (all_c (okc_X9_advance (by decide) kw526 dX2_readLoad_21) (all_c (ok_aload_n dX2_readLoad_24 rfl) (all_c (ok_aload_n dX2_readLoad_25 rfl) (all_c (okg_X2_0 kw527 dX2_readLoad_26) (all_c (okc_X9_takeNewName (by decide) kw546 dX2_readLoad_29) (all_c (ok_if_ne dX2_readLoad_32 (by decide)) (all_c (ok_stk (s_iconst dX2_readLoad_35 (by decide))) (all_c (ok_zret dX2_readLoad_36) (all_c (ok_aload_n dX2_readLoad_37 rfl) (all_c (okg_X2_0 kw527 dX2_readLoad_38) (all_c (okg_X6_12 kw547 dX2_readLoad_41) (all_c (ok_iload_n dX2_readLoad_44 rfl) (all_c (ok_aload_n dX2_readLoad_45 rfl) (all_c (okg_X9_9 kw548 dX2_readLoad_46) (all_c (ok_last dX2_readLoad_49) (all_c (ok_aload_n dX2_readLoad_50 rfl) (all_c (ok_stk (s_iconst dX2_readLoad_51 (by decide))) (all_c (ok_stk (s_sipush dX2_readLoad_52 (by decide))) (all_c (okc_X9_takeNumber (by decide) kw538 dX2_readLoad_55) (all_c (ok_if_ne dX2_readLoad_58 (by decide)) (all_c (ok_stk (s_iconst dX2_readLoad_61 (by decide))) (all_c (ok_zret dX2_readLoad_62) (all_c (ok_aload_n dX2_readLoad_63 rfl) (all_c (okg_X2_0 kw527 dX2_readLoad_64) (all_c (okg_X6_13 kw549 dX2_readLoad_67) (all_c (ok_iload_n dX2_readLoad_70 rfl) (all_c (ok_aload_n dX2_readLoad_71 rfl) (all_c (okg_X9_8 kw532 dX2_readLoad_72) (all_c (ok_iast dX2_readLoad_75) (all_c (ok_aload_n dX2_readLoad_76 rfl) (all_c (ok_stk (s_iconst dX2_readLoad_77 (by decide))) (all_c (ok_stk (s_iconst dX2_readLoad_78 (by decide))) (all_c (okc_X9_takeNumber (by decide) kw538 dX2_readLoad_79) (all_c (ok_if_ne dX2_readLoad_82 (by decide)) (all_c (ok_stk (s_iconst dX2_readLoad_85 (by decide))) (all_c (ok_zret dX2_readLoad_86) (all_c (ok_aload_n dX2_readLoad_87 rfl) (all_c (okg_X2_0 kw527 dX2_readLoad_88) (all_c (okg_X6_14 kw550 dX2_readLoad_91) (all_c (ok_iload_n dX2_readLoad_94 rfl) (all_c (ok_aload_n dX2_readLoad_95 rfl) (all_c (okg_X9_8 kw532 dX2_readLoad_96) (all_c (ok_iast dX2_readLoad_99) (all_c (ok_aload_n dX2_readLoad_100 rfl) (all_c (okg_X2_0 kw527 dX2_readLoad_101) (all_c (ok_stk (s_dup dX2_readLoad_104)) (all_c (okg_X6_3 kw542 dX2_readLoad_105) (all_c (ok_stk (s_iconst dX2_readLoad_108 (by decide))) (all_c (ok_stk (s_iadd dX2_readLoad_109)) (all_c (okp_X6_3 kw542 dX2_readLoad_110) (all_c (ok_stk (s_iconst dX2_readLoad_113 (by decide))) (all_c (ok_zret dX2_readLoad_114) all_n)))))))))))))))))))))))))))))))))))))))))))))))))))))))))))))))) n (fun h => by first | rfl | cases h))
theorem dX2_readLovers_0 : decode cX2_readLovers 0 = .ok (.aload_n 0, 1) := by decide +kernel
theorem dX2_readLovers_1 : decode cX2_readLovers 1 = .ok (.getfield 12, 3) := by decide +kernel
theorem dX2_readLovers_4 : decode cX2_readLovers 4 = .ok (.getfield 139, 3) := by decide +kernel
theorem dX2_readLovers_7 : decode cX2_readLovers 7 = .ok (.bipush 8, 2) := by decide +kernel
theorem dX2_readLovers_9 : decode cX2_readLovers 9 = .ok (.if_icmp .lt 9, 3) := by decide +kernel
theorem dX2_readLovers_12 : decode cX2_readLovers 12 = .ok (.aload_n 1, 1) := by decide +kernel
theorem dX2_readLovers_13 : decode cX2_readLovers 13 = .ok (.iconst 4, 1) := by decide +kernel
theorem dX2_readLovers_14 : decode cX2_readLovers 14 = .ok (.invokevirtual 56, 3) := by decide +kernel
theorem dX2_readLovers_17 : decode cX2_readLovers 17 = .ok (.ireturn, 1) := by decide +kernel
theorem dX2_readLovers_18 : decode cX2_readLovers 18 = .ok (.aload_n 1, 1) := by decide +kernel
theorem dX2_readLovers_19 : decode cX2_readLovers 19 = .ok (.invokevirtual 83, 3) := by decide +kernel
theorem dX2_readLovers_22 : decode cX2_readLovers 22 = .ok (.aload_n 1, 1) := by decide +kernel
theorem dX2_readLovers_23 : decode cX2_readLovers 23 = .ok (.aload_n 0, 1) := by decide +kernel
theorem dX2_readLovers_24 : decode cX2_readLovers 24 = .ok (.getfield 12, 3) := by decide +kernel
theorem dX2_readLovers_27 : decode cX2_readLovers 27 = .ok (.invokevirtual 127, 3) := by decide +kernel
theorem dX2_readLovers_30 : decode cX2_readLovers 30 = .ok (.ifCond .ne 5, 3) := by decide +kernel
theorem dX2_readLovers_33 : decode cX2_readLovers 33 = .ok (.iconst 0, 1) := by decide +kernel
theorem dX2_readLovers_34 : decode cX2_readLovers 34 = .ok (.ireturn, 1) := by decide +kernel
theorem dX2_readLovers_35 : decode cX2_readLovers 35 = .ok (.aload_n 1, 1) := by decide +kernel
theorem dX2_readLovers_36 : decode cX2_readLovers 36 = .ok (.getfield 90, 3) := by decide +kernel
theorem dX2_readLovers_39 : decode cX2_readLovers 39 = .ok (.istore_n 2, 1) := by decide +kernel
theorem dX2_readLovers_40 : decode cX2_readLovers 40 = .ok (.aload_n 1, 1) := by decide +kernel
theorem dX2_readLovers_41 : decode cX2_readLovers 41 = .ok (.aload_n 0, 1) := by decide +kernel
theorem dX2_readLovers_42 : decode cX2_readLovers 42 = .ok (.getfield 12, 3) := by decide +kernel
theorem dX2_readLovers_45 : decode cX2_readLovers 45 = .ok (.invokevirtual 127, 3) := by decide +kernel
theorem dX2_readLovers_48 : decode cX2_readLovers 48 = .ok (.ifCond .ne 5, 3) := by decide +kernel
theorem dX2_readLovers_51 : decode cX2_readLovers 51 = .ok (.iconst 0, 1) := by decide +kernel
theorem dX2_readLovers_52 : decode cX2_readLovers 52 = .ok (.ireturn, 1) := by decide +kernel
theorem dX2_readLovers_53 : decode cX2_readLovers 53 = .ok (.aload_n 1, 1) := by decide +kernel
theorem dX2_readLovers_54 : decode cX2_readLovers 54 = .ok (.getfield 90, 3) := by decide +kernel
theorem dX2_readLovers_57 : decode cX2_readLovers 57 = .ok (.istore_n 3, 1) := by decide +kernel
theorem dX2_readLovers_58 : decode cX2_readLovers 58 = .ok (.iload_n 2, 1) := by decide +kernel
theorem dX2_readLovers_59 : decode cX2_readLovers 59 = .ok (.iload_n 3, 1) := by decide +kernel
theorem dX2_readLovers_60 : decode cX2_readLovers 60 = .ok (.if_icmp .eq 15, 3) := by decide +kernel
theorem dX2_readLovers_63 : decode cX2_readLovers 63 = .ok (.aload_n 0, 1) := by decide +kernel
theorem dX2_readLovers_64 : decode cX2_readLovers 64 = .ok (.getfield 12, 3) := by decide +kernel
theorem dX2_readLovers_67 : decode cX2_readLovers 67 = .ok (.iload_n 2, 1) := by decide +kernel
theorem dX2_readLovers_68 : decode cX2_readLovers 68 = .ok (.iload_n 3, 1) := by decide +kernel
theorem dX2_readLovers_69 : decode cX2_readLovers 69 = .ok (.invokevirtual 142, 3) := by decide +kernel
theorem dX2_readLovers_72 : decode cX2_readLovers 72 = .ok (.ifCond .eq 13, 3) := by decide +kernel
theorem dX2_readLovers_75 : decode cX2_readLovers 75 = .ok (.aload_n 1, 1) := by decide +kernel
theorem dX2_readLovers_76 : decode cX2_readLovers 76 = .ok (.iconst 3, 1) := by decide +kernel
theorem dX2_readLovers_77 : decode cX2_readLovers 77 = .ok (.aload_n 1, 1) := by decide +kernel
theorem dX2_readLovers_78 : decode cX2_readLovers 78 = .ok (.getfield 133, 3) := by decide +kernel
theorem dX2_readLovers_81 : decode cX2_readLovers 81 = .ok (.invokevirtual 136, 3) := by decide +kernel
theorem dX2_readLovers_84 : decode cX2_readLovers 84 = .ok (.ireturn, 1) := by decide +kernel
theorem dX2_readLovers_85 : decode cX2_readLovers 85 = .ok (.aload_n 0, 1) := by decide +kernel
theorem dX2_readLovers_86 : decode cX2_readLovers 86 = .ok (.getfield 12, 3) := by decide +kernel
theorem dX2_readLovers_89 : decode cX2_readLovers 89 = .ok (.getfield 145, 3) := by decide +kernel
theorem dX2_readLovers_92 : decode cX2_readLovers 92 = .ok (.iload_n 2, 1) := by decide +kernel
theorem dX2_readLovers_93 : decode cX2_readLovers 93 = .ok (.dup2, 1) := by decide +kernel
theorem dX2_readLovers_94 : decode cX2_readLovers 94 = .ok (.iaload, 1) := by decide +kernel
theorem dX2_readLovers_95 : decode cX2_readLovers 95 = .ok (.iconst 1, 1) := by decide +kernel
theorem dX2_readLovers_96 : decode cX2_readLovers 96 = .ok (.iload_n 3, 1) := by decide +kernel
theorem dX2_readLovers_97 : decode cX2_readLovers 97 = .ok (.ishl, 1) := by decide +kernel
theorem dX2_readLovers_98 : decode cX2_readLovers 98 = .ok (.ior, 1) := by decide +kernel
theorem dX2_readLovers_99 : decode cX2_readLovers 99 = .ok (.iastore, 1) := by decide +kernel
theorem dX2_readLovers_100 : decode cX2_readLovers 100 = .ok (.aload_n 0, 1) := by decide +kernel
theorem dX2_readLovers_101 : decode cX2_readLovers 101 = .ok (.getfield 12, 3) := by decide +kernel
theorem dX2_readLovers_104 : decode cX2_readLovers 104 = .ok (.getfield 145, 3) := by decide +kernel
theorem dX2_readLovers_107 : decode cX2_readLovers 107 = .ok (.iload_n 3, 1) := by decide +kernel
theorem dX2_readLovers_108 : decode cX2_readLovers 108 = .ok (.dup2, 1) := by decide +kernel
theorem dX2_readLovers_109 : decode cX2_readLovers 109 = .ok (.iaload, 1) := by decide +kernel
theorem dX2_readLovers_110 : decode cX2_readLovers 110 = .ok (.iconst 1, 1) := by decide +kernel
theorem dX2_readLovers_111 : decode cX2_readLovers 111 = .ok (.iload_n 2, 1) := by decide +kernel
theorem dX2_readLovers_112 : decode cX2_readLovers 112 = .ok (.ishl, 1) := by decide +kernel
theorem dX2_readLovers_113 : decode cX2_readLovers 113 = .ok (.ior, 1) := by decide +kernel
theorem dX2_readLovers_114 : decode cX2_readLovers 114 = .ok (.iastore, 1) := by decide +kernel
theorem dX2_readLovers_115 : decode cX2_readLovers 115 = .ok (.aload_n 0, 1) := by decide +kernel
theorem dX2_readLovers_116 : decode cX2_readLovers 116 = .ok (.getfield 12, 3) := by decide +kernel
theorem dX2_readLovers_119 : decode cX2_readLovers 119 = .ok (.dup, 1) := by decide +kernel
theorem dX2_readLovers_120 : decode cX2_readLovers 120 = .ok (.getfield 139, 3) := by decide +kernel
theorem dX2_readLovers_123 : decode cX2_readLovers 123 = .ok (.iconst 1, 1) := by decide +kernel
theorem dX2_readLovers_124 : decode cX2_readLovers 124 = .ok (.iadd, 1) := by decide +kernel
theorem dX2_readLovers_125 : decode cX2_readLovers 125 = .ok (.putfield 139, 3) := by decide +kernel
theorem dX2_readLovers_128 : decode cX2_readLovers 128 = .ok (.iconst 1, 1) := by decide +kernel
theorem dX2_readLovers_129 : decode cX2_readLovers 129 = .ok (.ireturn, 1) := by decide +kernel
def tX2_readLovers (kn : sKn) : List (Nat × sA) := [(0, a_aload 0 1), (1, a_get 3 0 4), (4, a_get 7 4 7), (7, a_stk (q_int 8) 9), (9, a_icmp kn b_lt 2 18 12), (12, a_aload 1 13), (13, a_stk (q_int 4) 14), (14, a_callV false (fX9_refuse kn) 10 2 17), (17, a_zret), (18, a_aload 1 19), (19, a_callV true (fX9_advance kn) 10 1 22), (22, a_aload 1 23), (23, a_aload 0 24), (24, a_get 3 0 27), (27, a_callV false (fX9_takeSigner kn) 10 2 30), (30, a_if kn b_ne 1 35 33), (33, a_stk (q_int 0) 34), (34, a_zret), (35, a_aload 1 36), (36, a_get 10 8 39), (39, a_istore 2 40), (40, a_aload 1 41), (41, a_aload 0 42), (42, a_get 3 0 45), (45, a_callV false (fX9_takeSigner kn) 10 2 48), (48, a_if kn b_ne 1 53 51), (51, a_stk (q_int 0) 52), (52, a_zret), (53, a_aload 1 54), (54, a_get 10 8 57), (57, a_istore 3 58), (58, a_iload 2 59), (59, a_iload 3 60), (60, a_icmp kn b_eq 0 75 63), (63, a_aload 0 64), (64, a_get 3 0 67), (67, a_iload 2 68), (68, a_iload 3 69), (69, a_callV false (fX6_areLovers kn) 7 3 72), (72, a_if kn b_eq 0 85 75), (75, a_aload 1 76), (76, a_stk (q_int 3) 77), (77, a_aload 1 78), (78, a_get 10 10 81), (81, a_callV false (fX9_refuseAt kn) 10 3 84), (84, a_zret), (85, a_aload 0 86), (86, a_get 3 0 89), (89, a_get 7 10 92), (92, a_iload 2 93), (93, a_stk q_dup2 94), (94, a_iald 95), (95, a_stk (q_int 1) 96), (96, a_iload 3 97), (97, a_stk q_ishl 98), (98, a_stk q_ior 99), (99, a_iast 100), (100, a_aload 0 101), (101, a_get 3 0 104), (104, a_get 7 10 107), (107, a_iload 3 108), (108, a_stk q_dup2 109), (109, a_iald 110), (110, a_stk (q_int 1) 111), (111, a_iload 2 112), (112, a_stk q_ishl 113), (113, a_stk q_ior 114), (114, a_iast 115), (115, a_aload 0 116), (116, a_get 3 0 119), (119, a_stk q_dup 120), (120, a_get 7 4 123), (123, a_stk (q_int 1) 124), (124, a_stk q_iadd 125), (125, a_put 7 4 ckI 128), (128, a_stk (q_int 1) 129), (129, a_zret)]
def fX2_readLovers (kn : sKn) : List Value → sW → Option sR := fW (tX2_readLovers kn) 4
set_option maxRecDepth 100000 in
set_option maxHeartbeats 4000000 in
theorem mX2_readLovers (kn : sKn) : mM kn yX2_readLovers (Cond.code yX2_readLovers cX2_readLovers 4 (some .boolean) :: wsL_law) 8 false (fX2_readLovers kn) := mM_W (fun n => mM_of (own := RX2) (ini := false) rfl (by decide +kernel) (by decide +kernel) (all_c (ok_aload_n dX2_readLovers_0 rfl) (all_c (okg_X2_0 kw527 dX2_readLovers_1) (all_c (okg_X6_4 kw551 dX2_readLovers_4) (all_c (ok_stk (s_bipush dX2_readLovers_7 (by decide))) (all_c (ok_icmp_lt dX2_readLovers_9 (by decide)) (all_c (ok_aload_n dX2_readLovers_12 rfl) (all_c (ok_stk (s_iconst dX2_readLovers_13 (by decide))) (all_c (okc_X9_refuse (by decide) kw537 dX2_readLovers_14) (all_c (ok_zret dX2_readLovers_17) (all_c (ok_aload_n dX2_readLovers_18 rfl) (all_c (okc_X9_advance (by decide) kw526 dX2_readLovers_19) (all_c (ok_aload_n dX2_readLovers_22 rfl) (all_c (ok_aload_n dX2_readLovers_23 rfl) (all_c (okg_X2_0 kw527 dX2_readLovers_24) (all_c (okc_X9_takeSigner (by decide) kw531 dX2_readLovers_27) (all_c (ok_if_ne dX2_readLovers_30 (by decide)) (all_c (ok_stk (s_iconst dX2_readLovers_33 (by decide))) (all_c (ok_zret dX2_readLovers_34) (all_c (ok_aload_n dX2_readLovers_35 rfl) (all_c (okg_X9_8 kw532 dX2_readLovers_36) (all_c (ok_istore_n dX2_readLovers_39 rfl (by decide)) (all_c (ok_aload_n dX2_readLovers_40 rfl) (all_c (ok_aload_n dX2_readLovers_41 rfl) (all_c (okg_X2_0 kw527 dX2_readLovers_42) (all_c (okc_X9_takeSigner (by decide) kw531 dX2_readLovers_45) (all_c (ok_if_ne dX2_readLovers_48 (by decide)) (all_c (ok_stk (s_iconst dX2_readLovers_51 (by decide))) (all_c (ok_zret dX2_readLovers_52) (all_c (ok_aload_n dX2_readLovers_53 rfl) (all_c (okg_X9_8 kw532 dX2_readLovers_54) (all_c (ok_istore_n dX2_readLovers_57 rfl (by decide)) (all_c (ok_iload_n dX2_readLovers_58 rfl) (all_c (ok_iload_n dX2_readLovers_59 rfl) (all_c (ok_icmp_eq dX2_readLovers_60 (by decide)) (all_c (ok_aload_n dX2_readLovers_63 rfl) (all_c (okg_X2_0 kw527 dX2_readLovers_64) (all_c (ok_iload_n dX2_readLovers_67 rfl) (all_c (ok_iload_n dX2_readLovers_68 rfl) (all_c (okc_X6_areLovers (by decide) kw552 dX2_readLovers_69) (all_c (ok_if_eq dX2_readLovers_72 (by decide)) (all_c (ok_aload_n dX2_readLovers_75 rfl) (all_c (ok_stk (s_iconst dX2_readLovers_76 (by decide))) (all_c (ok_aload_n dX2_readLovers_77 rfl) (all_c (okg_X9_10 kw534 dX2_readLovers_78) (all_c (okc_X9_refuseAt (by decide) kw535 dX2_readLovers_81) (all_c (ok_zret dX2_readLovers_84) (all_c (ok_aload_n dX2_readLovers_85 rfl) (all_c (okg_X2_0 kw527 dX2_readLovers_86) (all_c (okg_X6_10 kw553 dX2_readLovers_89) (all_c (ok_iload_n dX2_readLovers_92 rfl) (all_c (ok_stk (s_dup2 dX2_readLovers_93)) (all_c (ok_iald dX2_readLovers_94) (all_c (ok_stk (s_iconst dX2_readLovers_95 (by decide))) (all_c (ok_iload_n dX2_readLovers_96 rfl) (all_c (ok_stk (s_ishl dX2_readLovers_97)) (all_c (ok_stk (s_ior dX2_readLovers_98)) (all_c (ok_iast dX2_readLovers_99) (all_c (ok_aload_n dX2_readLovers_100 rfl) (all_c (okg_X2_0 kw527 dX2_readLovers_101) (all_c (okg_X6_10 kw553 dX2_readLovers_104) (all_c (ok_iload_n dX2_readLovers_107 rfl) (all_c (ok_stk (s_dup2 dX2_readLovers_108)) (all_c (ok_iald dX2_readLovers_109) (all_c (ok_stk (s_iconst dX2_readLovers_110 (by decide))) (all_c (ok_iload_n dX2_readLovers_111 rfl) (all_c (ok_stk (s_ishl dX2_readLovers_112)) (all_c (ok_stk (s_ior dX2_readLovers_113)) (all_c (ok_iast dX2_readLovers_114) (all_c (ok_aload_n dX2_readLovers_115 rfl) (all_c (okg_X2_0 kw527 dX2_readLovers_116) (all_c (ok_stk (s_dup dX2_readLovers_119)) (all_c (okg_X6_4 kw551 dX2_readLovers_120) (all_c (ok_stk (s_iconst dX2_readLovers_123 (by decide))) (all_c (ok_stk (s_iadd dX2_readLovers_124)) (all_c (okp_X6_4 kw551 dX2_readLovers_125) (all_c (ok_stk (s_iconst dX2_readLovers_128 (by decide))) (all_c (ok_zret dX2_readLovers_129) all_n))))))))))))))))))))))))))))))))))))))))))))))))))))))))))))))))))))))))))))) n (fun h => by first | rfl | cases h))
theorem dX6_countPlanksOf_0 : decode cX6_countPlanksOf 0 = .ok (.iconst 0, 1) := by decide +kernel
theorem dX6_countPlanksOf_1 : decode cX6_countPlanksOf 1 = .ok (.istore_n 2, 1) := by decide +kernel
theorem dX6_countPlanksOf_2 : decode cX6_countPlanksOf 2 = .ok (.iconst 0, 1) := by decide +kernel
theorem dX6_countPlanksOf_3 : decode cX6_countPlanksOf 3 = .ok (.istore_n 3, 1) := by decide +kernel
theorem dX6_countPlanksOf_4 : decode cX6_countPlanksOf 4 = .ok (.iload_n 3, 1) := by decide +kernel
theorem dX6_countPlanksOf_5 : decode cX6_countPlanksOf 5 = .ok (.bipush 36, 2) := by decide +kernel
theorem dX6_countPlanksOf_7 : decode cX6_countPlanksOf 7 = .ok (.if_icmp .ge 22, 3) := by decide +kernel
theorem dX6_countPlanksOf_10 : decode cX6_countPlanksOf 10 = .ok (.aload_n 0, 1) := by decide +kernel
theorem dX6_countPlanksOf_11 : decode cX6_countPlanksOf 11 = .ok (.getfield 28, 3) := by decide +kernel
theorem dX6_countPlanksOf_14 : decode cX6_countPlanksOf 14 = .ok (.iload_n 3, 1) := by decide +kernel
theorem dX6_countPlanksOf_15 : decode cX6_countPlanksOf 15 = .ok (.iaload, 1) := by decide +kernel
theorem dX6_countPlanksOf_16 : decode cX6_countPlanksOf 16 = .ok (.iload_n 1, 1) := by decide +kernel
theorem dX6_countPlanksOf_17 : decode cX6_countPlanksOf 17 = .ok (.if_icmp .ne 6, 3) := by decide +kernel
theorem dX6_countPlanksOf_20 : decode cX6_countPlanksOf 20 = .ok (.iinc 2 1, 3) := by decide +kernel
theorem dX6_countPlanksOf_23 : decode cX6_countPlanksOf 23 = .ok (.iinc 3 1, 3) := by decide +kernel
theorem dX6_countPlanksOf_26 : decode cX6_countPlanksOf 26 = .ok (.goto (-22), 3) := by decide +kernel
theorem dX6_countPlanksOf_29 : decode cX6_countPlanksOf 29 = .ok (.iload_n 2, 1) := by decide +kernel
theorem dX6_countPlanksOf_30 : decode cX6_countPlanksOf 30 = .ok (.ireturn, 1) := by decide +kernel
def tX6_countPlanksOf (kn : sKn) : List (Nat × sA) := [(0, a_stk (q_int 0) 1), (1, a_istore 2 2), (2, a_stk (q_int 0) 3), (3, a_istore 3 4), (4, a_iload 3 5), (5, a_stk (q_int 36) 7), (7, a_icmp kn b_ge 3 29 10), (10, a_aload 0 11), (11, a_get 7 11 14), (14, a_iload 3 15), (15, a_iald 16), (16, a_iload 1 17), (17, a_icmp kn b_ne 1 23 20), (20, a_iinc 2 1 23), (23, a_iinc 3 1 26), (26, a_goto 4), (29, a_iload 2 30), (30, a_iret)]
def fX6_countPlanksOf (kn : sKn) : List Value → sW → Option sR := fW (tX6_countPlanksOf kn) 4
set_option maxRecDepth 100000 in
set_option maxHeartbeats 4000000 in
theorem mX6_countPlanksOf (kn : sKn) : mM kn yX6_countPlanksOf (Cond.code yX6_countPlanksOf cX6_countPlanksOf 4 (some .int) :: wsL_law) 1 false (fX6_countPlanksOf kn) := mM_W (fun n => mM_of (own := RX6) (ini := false) rfl (by decide +kernel) (by decide +kernel) (all_c (ok_stk (s_iconst dX6_countPlanksOf_0 (by decide))) (all_c (ok_istore_n dX6_countPlanksOf_1 rfl (by decide)) (all_c (ok_stk (s_iconst dX6_countPlanksOf_2 (by decide))) (all_c (ok_istore_n dX6_countPlanksOf_3 rfl (by decide)) (all_c (ok_iload_n dX6_countPlanksOf_4 rfl) (all_c (ok_stk (s_bipush dX6_countPlanksOf_5 (by decide))) (all_c (ok_icmp_ge dX6_countPlanksOf_7 (by decide)) (all_c (ok_aload_n dX6_countPlanksOf_10 rfl) (all_c (okg_X6_11 kw554 dX6_countPlanksOf_11) (all_c (ok_iload_n dX6_countPlanksOf_14 rfl) (all_c (ok_iald dX6_countPlanksOf_15) (all_c (ok_iload_n dX6_countPlanksOf_16 rfl) (all_c (ok_icmp_ne dX6_countPlanksOf_17 (by decide)) (all_c (ok_iinc dX6_countPlanksOf_20 (by decide) (by decide)) (all_c (ok_iinc dX6_countPlanksOf_23 (by decide) (by decide)) (all_c (ok_goto dX6_countPlanksOf_26 (by decide)) (all_c (ok_iload_n dX6_countPlanksOf_29 rfl) (all_c (ok_iret dX6_countPlanksOf_30) all_n)))))))))))))))))) n (fun h => by first | rfl | cases h))
theorem dX2_readPlank_0 : decode cX2_readPlank 0 = .ok (.aload_n 1, 1) := by decide +kernel
theorem dX2_readPlank_1 : decode cX2_readPlank 1 = .ok (.invokevirtual 83, 3) := by decide +kernel
theorem dX2_readPlank_4 : decode cX2_readPlank 4 = .ok (.aload_n 1, 1) := by decide +kernel
theorem dX2_readPlank_5 : decode cX2_readPlank 5 = .ok (.aload_n 0, 1) := by decide +kernel
theorem dX2_readPlank_6 : decode cX2_readPlank 6 = .ok (.getfield 12, 3) := by decide +kernel
theorem dX2_readPlank_9 : decode cX2_readPlank 9 = .ok (.invokevirtual 127, 3) := by decide +kernel
theorem dX2_readPlank_12 : decode cX2_readPlank 12 = .ok (.ifCond .ne 5, 3) := by decide +kernel
theorem dX2_readPlank_15 : decode cX2_readPlank 15 = .ok (.iconst 0, 1) := by decide +kernel
theorem dX2_readPlank_16 : decode cX2_readPlank 16 = .ok (.ireturn, 1) := by decide +kernel
theorem dX2_readPlank_17 : decode cX2_readPlank 17 = .ok (.aload_n 1, 1) := by decide +kernel
theorem dX2_readPlank_18 : decode cX2_readPlank 18 = .ok (.getfield 90, 3) := by decide +kernel
theorem dX2_readPlank_21 : decode cX2_readPlank 21 = .ok (.istore_n 2, 1) := by decide +kernel
theorem dX2_readPlank_22 : decode cX2_readPlank 22 = .ok (.aload_n 0, 1) := by decide +kernel
theorem dX2_readPlank_23 : decode cX2_readPlank 23 = .ok (.getfield 12, 3) := by decide +kernel
theorem dX2_readPlank_26 : decode cX2_readPlank 26 = .ok (.iload_n 2, 1) := by decide +kernel
theorem dX2_readPlank_27 : decode cX2_readPlank 27 = .ok (.invokevirtual 148, 3) := by decide +kernel
theorem dX2_readPlank_30 : decode cX2_readPlank 30 = .ok (.bipush 6, 2) := by decide +kernel
theorem dX2_readPlank_32 : decode cX2_readPlank 32 = .ok (.if_icmp .lt 13, 3) := by decide +kernel
theorem dX2_readPlank_35 : decode cX2_readPlank 35 = .ok (.aload_n 1, 1) := by decide +kernel
theorem dX2_readPlank_36 : decode cX2_readPlank 36 = .ok (.iconst 3, 1) := by decide +kernel
theorem dX2_readPlank_37 : decode cX2_readPlank 37 = .ok (.aload_n 1, 1) := by decide +kernel
theorem dX2_readPlank_38 : decode cX2_readPlank 38 = .ok (.getfield 133, 3) := by decide +kernel
theorem dX2_readPlank_41 : decode cX2_readPlank 41 = .ok (.invokevirtual 136, 3) := by decide +kernel
theorem dX2_readPlank_44 : decode cX2_readPlank 44 = .ok (.ireturn, 1) := by decide +kernel
theorem dX2_readPlank_45 : decode cX2_readPlank 45 = .ok (.aload_n 1, 1) := by decide +kernel
theorem dX2_readPlank_46 : decode cX2_readPlank 46 = .ok (.iconst 0, 1) := by decide +kernel
theorem dX2_readPlank_47 : decode cX2_readPlank 47 = .ok (.aload_n 0, 1) := by decide +kernel
theorem dX2_readPlank_48 : decode cX2_readPlank 48 = .ok (.getfield 12, 3) := by decide +kernel
theorem dX2_readPlank_51 : decode cX2_readPlank 51 = .ok (.getfield 93, 3) := by decide +kernel
theorem dX2_readPlank_54 : decode cX2_readPlank 54 = .ok (.iconst 1, 1) := by decide +kernel
theorem dX2_readPlank_55 : decode cX2_readPlank 55 = .ok (.isub, 1) := by decide +kernel
theorem dX2_readPlank_56 : decode cX2_readPlank 56 = .ok (.invokevirtual 86, 3) := by decide +kernel
theorem dX2_readPlank_59 : decode cX2_readPlank 59 = .ok (.ifCond .ne 5, 3) := by decide +kernel
theorem dX2_readPlank_62 : decode cX2_readPlank 62 = .ok (.iconst 0, 1) := by decide +kernel
theorem dX2_readPlank_63 : decode cX2_readPlank 63 = .ok (.ireturn, 1) := by decide +kernel
theorem dX2_readPlank_64 : decode cX2_readPlank 64 = .ok (.aload_n 1, 1) := by decide +kernel
theorem dX2_readPlank_65 : decode cX2_readPlank 65 = .ok (.getfield 90, 3) := by decide +kernel
theorem dX2_readPlank_68 : decode cX2_readPlank 68 = .ok (.istore_n 3, 1) := by decide +kernel
theorem dX2_readPlank_69 : decode cX2_readPlank 69 = .ok (.aload_n 1, 1) := by decide +kernel
theorem dX2_readPlank_70 : decode cX2_readPlank 70 = .ok (.iconst 0, 1) := by decide +kernel
theorem dX2_readPlank_71 : decode cX2_readPlank 71 = .ok (.iconst 2, 1) := by decide +kernel
theorem dX2_readPlank_72 : decode cX2_readPlank 72 = .ok (.invokevirtual 86, 3) := by decide +kernel
theorem dX2_readPlank_75 : decode cX2_readPlank 75 = .ok (.ifCond .ne 5, 3) := by decide +kernel
theorem dX2_readPlank_78 : decode cX2_readPlank 78 = .ok (.iconst 0, 1) := by decide +kernel
theorem dX2_readPlank_79 : decode cX2_readPlank 79 = .ok (.ireturn, 1) := by decide +kernel
theorem dX2_readPlank_80 : decode cX2_readPlank 80 = .ok (.iconst 3, 1) := by decide +kernel
theorem dX2_readPlank_81 : decode cX2_readPlank 81 = .ok (.iload_n 3, 1) := by decide +kernel
theorem dX2_readPlank_82 : decode cX2_readPlank 82 = .ok (.imul, 1) := by decide +kernel
theorem dX2_readPlank_83 : decode cX2_readPlank 83 = .ok (.aload_n 1, 1) := by decide +kernel
theorem dX2_readPlank_84 : decode cX2_readPlank 84 = .ok (.getfield 90, 3) := by decide +kernel
theorem dX2_readPlank_87 : decode cX2_readPlank 87 = .ok (.iadd, 1) := by decide +kernel
theorem dX2_readPlank_88 : decode cX2_readPlank 88 = .ok (.istore 4, 2) := by decide +kernel
theorem dX2_readPlank_90 : decode cX2_readPlank 90 = .ok (.aload_n 0, 1) := by decide +kernel
theorem dX2_readPlank_91 : decode cX2_readPlank 91 = .ok (.getfield 12, 3) := by decide +kernel
theorem dX2_readPlank_94 : decode cX2_readPlank 94 = .ok (.getfield 152, 3) := by decide +kernel
theorem dX2_readPlank_97 : decode cX2_readPlank 97 = .ok (.iload 4, 2) := by decide +kernel
theorem dX2_readPlank_99 : decode cX2_readPlank 99 = .ok (.iaload, 1) := by decide +kernel
theorem dX2_readPlank_100 : decode cX2_readPlank 100 = .ok (.iconst (-1), 1) := by decide +kernel
theorem dX2_readPlank_101 : decode cX2_readPlank 101 = .ok (.if_icmp .eq 13, 3) := by decide +kernel
theorem dX2_readPlank_104 : decode cX2_readPlank 104 = .ok (.aload_n 1, 1) := by decide +kernel
theorem dX2_readPlank_105 : decode cX2_readPlank 105 = .ok (.iconst 3, 1) := by decide +kernel
theorem dX2_readPlank_106 : decode cX2_readPlank 106 = .ok (.aload_n 1, 1) := by decide +kernel
theorem dX2_readPlank_107 : decode cX2_readPlank 107 = .ok (.getfield 133, 3) := by decide +kernel
theorem dX2_readPlank_110 : decode cX2_readPlank 110 = .ok (.invokevirtual 136, 3) := by decide +kernel
theorem dX2_readPlank_113 : decode cX2_readPlank 113 = .ok (.ireturn, 1) := by decide +kernel
theorem dX2_readPlank_114 : decode cX2_readPlank 114 = .ok (.aload_n 0, 1) := by decide +kernel
theorem dX2_readPlank_115 : decode cX2_readPlank 115 = .ok (.getfield 12, 3) := by decide +kernel
theorem dX2_readPlank_118 : decode cX2_readPlank 118 = .ok (.getfield 152, 3) := by decide +kernel
theorem dX2_readPlank_121 : decode cX2_readPlank 121 = .ok (.iload 4, 2) := by decide +kernel
theorem dX2_readPlank_123 : decode cX2_readPlank 123 = .ok (.iload_n 2, 1) := by decide +kernel
theorem dX2_readPlank_124 : decode cX2_readPlank 124 = .ok (.iastore, 1) := by decide +kernel
theorem dX2_readPlank_125 : decode cX2_readPlank 125 = .ok (.aload_n 0, 1) := by decide +kernel
theorem dX2_readPlank_126 : decode cX2_readPlank 126 = .ok (.iconst 1, 1) := by decide +kernel
theorem dX2_readPlank_127 : decode cX2_readPlank 127 = .ok (.putfield 28, 3) := by decide +kernel
theorem dX2_readPlank_130 : decode cX2_readPlank 130 = .ok (.iconst 1, 1) := by decide +kernel
theorem dX2_readPlank_131 : decode cX2_readPlank 131 = .ok (.ireturn, 1) := by decide +kernel
theorem okc_X6_countPlanksOf {kn : sKn} {cc : ByteArray} {own : String} {nL : Nat} {D : Nat} {ret : Option FieldType} {ini : Bool} {pc index : Nat} (hD : 1 + 1 ≤ D) (hl : Cond.methodLink own index yX6_countPlanksOf ∈ wsL_law) (hd : decode cc pc = .ok (.invokevirtual index, 3)) : mOk kn cc own nL wsL_law D ret ini pc (a_callV false (fX6_countPlanksOf kn) 7 (1 + 1) (pc + 3)) := ok_callV (mX6_countPlanksOf kn) (good_ws ws_good (fun _ h => h) kw555) hD (by decide) hl kw556 kw557 kw162 ⟨by decide +kernel, by decide +kernel, by decide +kernel⟩ rfl hd
def tX2_readPlank (kn : sKn) : List (Nat × sA) := [(0, a_aload 1 1), (1, a_callV true (fX9_advance kn) 10 1 4), (4, a_aload 1 5), (5, a_aload 0 6), (6, a_get 3 0 9), (9, a_callV false (fX9_takeSigner kn) 10 2 12), (12, a_if kn b_ne 1 17 15), (15, a_stk (q_int 0) 16), (16, a_zret), (17, a_aload 1 18), (18, a_get 10 8 21), (21, a_istore 2 22), (22, a_aload 0 23), (23, a_get 3 0 26), (26, a_iload 2 27), (27, a_callV false (fX6_countPlanksOf kn) 7 2 30), (30, a_stk (q_int 6) 32), (32, a_icmp kn b_lt 2 45 35), (35, a_aload 1 36), (36, a_stk (q_int 3) 37), (37, a_aload 1 38), (38, a_get 10 10 41), (41, a_callV false (fX9_refuseAt kn) 10 3 44), (44, a_zret), (45, a_aload 1 46), (46, a_stk (q_int 0) 47), (47, a_aload 0 48), (48, a_get 3 0 51), (51, a_get 7 0 54), (54, a_stk (q_int 1) 55), (55, a_stk q_isub 56), (56, a_callV false (fX9_takeNumber kn) 10 3 59), (59, a_if kn b_ne 1 64 62), (62, a_stk (q_int 0) 63), (63, a_zret), (64, a_aload 1 65), (65, a_get 10 8 68), (68, a_istore 3 69), (69, a_aload 1 70), (70, a_stk (q_int 0) 71), (71, a_stk (q_int 2) 72), (72, a_callV false (fX9_takeNumber kn) 10 3 75), (75, a_if kn b_ne 1 80 78), (78, a_stk (q_int 0) 79), (79, a_zret), (80, a_stk (q_int 3) 81), (81, a_iload 3 82), (82, a_stk q_imul 83), (83, a_aload 1 84), (84, a_get 10 8 87), (87, a_stk q_iadd 88), (88, a_istore 4 90), (90, a_aload 0 91), (91, a_get 3 0 94), (94, a_get 7 11 97), (97, a_iload 4 99), (99, a_iald 100), (100, a_stk (q_int (-1)) 101), (101, a_icmp kn b_eq 0 114 104), (104, a_aload 1 105), (105, a_stk (q_int 3) 106), (106, a_aload 1 107), (107, a_get 10 10 110), (110, a_callV false (fX9_refuseAt kn) 10 3 113), (113, a_zret), (114, a_aload 0 115), (115, a_get 3 0 118), (118, a_get 7 11 121), (121, a_iload 4 123), (123, a_iload 2 124), (124, a_iast 125), (125, a_aload 0 126), (126, a_stk (q_int 1) 127), (127, a_put 3 4 ckZ 130), (130, a_stk (q_int 1) 131), (131, a_zret)]
def fX2_readPlank (kn : sKn) : List Value → sW → Option sR := fW (tX2_readPlank kn) 5
set_option maxRecDepth 100000 in
set_option maxHeartbeats 4000000 in
theorem mX2_readPlank (kn : sKn) : mM kn yX2_readPlank (Cond.code yX2_readPlank cX2_readPlank 5 (some .boolean) :: wsL_law) 8 false (fX2_readPlank kn) := mM_W (fun n => mM_of (own := RX2) (ini := false) rfl (by decide +kernel) (by decide +kernel) (all_c (ok_aload_n dX2_readPlank_0 rfl) (all_c (okc_X9_advance (by decide) kw526 dX2_readPlank_1) (all_c (ok_aload_n dX2_readPlank_4 rfl) (all_c (ok_aload_n dX2_readPlank_5 rfl) (all_c (okg_X2_0 kw527 dX2_readPlank_6) (all_c (okc_X9_takeSigner (by decide) kw531 dX2_readPlank_9) (all_c (ok_if_ne dX2_readPlank_12 (by decide)) (all_c (ok_stk (s_iconst dX2_readPlank_15 (by decide))) (all_c (ok_zret dX2_readPlank_16) (all_c (ok_aload_n dX2_readPlank_17 rfl) (all_c (okg_X9_8 kw532 dX2_readPlank_18) (all_c (ok_istore_n dX2_readPlank_21 rfl (by decide)) (all_c (ok_aload_n dX2_readPlank_22 rfl) (all_c (okg_X2_0 kw527 dX2_readPlank_23) (all_c (ok_iload_n dX2_readPlank_26 rfl) (all_c (okc_X6_countPlanksOf (by decide) kw558 dX2_readPlank_27) (all_c (ok_stk (s_bipush dX2_readPlank_30 (by decide))) (all_c (ok_icmp_lt dX2_readPlank_32 (by decide)) (all_c (ok_aload_n dX2_readPlank_35 rfl) (all_c (ok_stk (s_iconst dX2_readPlank_36 (by decide))) (all_c (ok_aload_n dX2_readPlank_37 rfl) (all_c (okg_X9_10 kw534 dX2_readPlank_38) (all_c (okc_X9_refuseAt (by decide) kw535 dX2_readPlank_41) (all_c (ok_zret dX2_readPlank_44) (all_c (ok_aload_n dX2_readPlank_45 rfl) (all_c (ok_stk (s_iconst dX2_readPlank_46 (by decide))) (all_c (ok_aload_n dX2_readPlank_47 rfl) (all_c (okg_X2_0 kw527 dX2_readPlank_48) (all_c (okg_X6_0 kw559 dX2_readPlank_51) (all_c (ok_stk (s_iconst dX2_readPlank_54 (by decide))) (all_c (ok_stk (s_isub dX2_readPlank_55)) (all_c (okc_X9_takeNumber (by decide) kw538 dX2_readPlank_56) (all_c (ok_if_ne dX2_readPlank_59 (by decide)) (all_c (ok_stk (s_iconst dX2_readPlank_62 (by decide))) (all_c (ok_zret dX2_readPlank_63) (all_c (ok_aload_n dX2_readPlank_64 rfl) (all_c (okg_X9_8 kw532 dX2_readPlank_65) (all_c (ok_istore_n dX2_readPlank_68 rfl (by decide)) (all_c (ok_aload_n dX2_readPlank_69 rfl) (all_c (ok_stk (s_iconst dX2_readPlank_70 (by decide))) (all_c (ok_stk (s_iconst dX2_readPlank_71 (by decide))) (all_c (okc_X9_takeNumber (by decide) kw538 dX2_readPlank_72) (all_c (ok_if_ne dX2_readPlank_75 (by decide)) (all_c (ok_stk (s_iconst dX2_readPlank_78 (by decide))) (all_c (ok_zret dX2_readPlank_79) (all_c (ok_stk (s_iconst dX2_readPlank_80 (by decide))) (all_c (ok_iload_n dX2_readPlank_81 rfl) (all_c (ok_stk (s_imul dX2_readPlank_82)) (all_c (ok_aload_n dX2_readPlank_83 rfl) (all_c (okg_X9_8 kw532 dX2_readPlank_84) (all_c (ok_stk (s_iadd dX2_readPlank_87)) (all_c (ok_istore dX2_readPlank_88 (by decide)) (all_c (ok_aload_n dX2_readPlank_90 rfl) (all_c (okg_X2_0 kw527 dX2_readPlank_91) (all_c (okg_X6_11 kw560 dX2_readPlank_94) (all_c (ok_iload dX2_readPlank_97) (all_c (ok_iald dX2_readPlank_99) (all_c (ok_stk (s_iconst dX2_readPlank_100 (by decide))) (all_c (ok_icmp_eq dX2_readPlank_101 (by decide)) (all_c (ok_aload_n dX2_readPlank_104 rfl) (all_c (ok_stk (s_iconst dX2_readPlank_105 (by decide))) (all_c (ok_aload_n dX2_readPlank_106 rfl) (all_c (okg_X9_10 kw534 dX2_readPlank_107) (all_c (okc_X9_refuseAt (by decide) kw535 dX2_readPlank_110) (all_c (ok_zret dX2_readPlank_113) (all_c (ok_aload_n dX2_readPlank_114 rfl) (all_c (okg_X2_0 kw527 dX2_readPlank_115) (all_c (okg_X6_11 kw560 dX2_readPlank_118) (all_c (ok_iload dX2_readPlank_121) (all_c (ok_iload_n dX2_readPlank_123 rfl) (all_c (ok_iast dX2_readPlank_124) (all_c (ok_aload_n dX2_readPlank_125 rfl) (all_c (ok_stk (s_iconst dX2_readPlank_126 (by decide))) (all_c (okp_X2_4 kw561 dX2_readPlank_127) (all_c (ok_stk (s_iconst dX2_readPlank_130 (by decide))) (all_c (ok_zret dX2_readPlank_131) all_n)))))))))))))))))))))))))))))))))))))))))))))))))))))))))))))))))))))))))))) n (fun h => by first | rfl | cases h))
theorem dX2_readRows_0 : decode cX2_readRows 0 = .ok (.aload_n 0, 1) := by decide +kernel
theorem dX2_readRows_1 : decode cX2_readRows 1 = .ok (.getfield 21, 3) := by decide +kernel
theorem dX2_readRows_4 : decode cX2_readRows 4 = .ok (.ifCond .ne 10, 3) := by decide +kernel
theorem dX2_readRows_7 : decode cX2_readRows 7 = .ok (.aload_n 0, 1) := by decide +kernel
theorem dX2_readRows_8 : decode cX2_readRows 8 = .ok (.getfield 28, 3) := by decide +kernel
theorem dX2_readRows_11 : decode cX2_readRows 11 = .ok (.ifCond .eq 9, 3) := by decide +kernel
theorem dX2_readRows_14 : decode cX2_readRows 14 = .ok (.aload_n 1, 1) := by decide +kernel
theorem dX2_readRows_15 : decode cX2_readRows 15 = .ok (.iconst 3, 1) := by decide +kernel
theorem dX2_readRows_16 : decode cX2_readRows 16 = .ok (.invokevirtual 56, 3) := by decide +kernel
theorem dX2_readRows_19 : decode cX2_readRows 19 = .ok (.ireturn, 1) := by decide +kernel
theorem dX2_readRows_20 : decode cX2_readRows 20 = .ok (.aload_n 1, 1) := by decide +kernel
theorem dX2_readRows_21 : decode cX2_readRows 21 = .ok (.invokevirtual 83, 3) := by decide +kernel
theorem dX2_readRows_24 : decode cX2_readRows 24 = .ok (.aload_n 1, 1) := by decide +kernel
theorem dX2_readRows_25 : decode cX2_readRows 25 = .ok (.iconst 1, 1) := by decide +kernel
theorem dX2_readRows_26 : decode cX2_readRows 26 = .ok (.bipush 12, 2) := by decide +kernel
theorem dX2_readRows_28 : decode cX2_readRows 28 = .ok (.invokevirtual 86, 3) := by decide +kernel
theorem dX2_readRows_31 : decode cX2_readRows 31 = .ok (.ifCond .ne 5, 3) := by decide +kernel
theorem dX2_readRows_34 : decode cX2_readRows 34 = .ok (.iconst 0, 1) := by decide +kernel
theorem dX2_readRows_35 : decode cX2_readRows 35 = .ok (.ireturn, 1) := by decide +kernel
theorem dX2_readRows_36 : decode cX2_readRows 36 = .ok (.aload_n 0, 1) := by decide +kernel
theorem dX2_readRows_37 : decode cX2_readRows 37 = .ok (.getfield 12, 3) := by decide +kernel
theorem dX2_readRows_40 : decode cX2_readRows 40 = .ok (.aload_n 1, 1) := by decide +kernel
theorem dX2_readRows_41 : decode cX2_readRows 41 = .ok (.getfield 90, 3) := by decide +kernel
theorem dX2_readRows_44 : decode cX2_readRows 44 = .ok (.putfield 93, 3) := by decide +kernel
theorem dX2_readRows_47 : decode cX2_readRows 47 = .ok (.aload_n 0, 1) := by decide +kernel
theorem dX2_readRows_48 : decode cX2_readRows 48 = .ok (.iconst 1, 1) := by decide +kernel
theorem dX2_readRows_49 : decode cX2_readRows 49 = .ok (.putfield 21, 3) := by decide +kernel
theorem dX2_readRows_52 : decode cX2_readRows 52 = .ok (.iconst 1, 1) := by decide +kernel
theorem dX2_readRows_53 : decode cX2_readRows 53 = .ok (.ireturn, 1) := by decide +kernel
def tX2_readRows (kn : sKn) : List (Nat × sA) := [(0, a_aload 0 1), (1, a_get 3 2 4), (4, a_if kn b_ne 1 14 7), (7, a_aload 0 8), (8, a_get 3 4 11), (11, a_if kn b_eq 0 20 14), (14, a_aload 1 15), (15, a_stk (q_int 3) 16), (16, a_callV false (fX9_refuse kn) 10 2 19), (19, a_zret), (20, a_aload 1 21), (21, a_callV true (fX9_advance kn) 10 1 24), (24, a_aload 1 25), (25, a_stk (q_int 1) 26), (26, a_stk (q_int 12) 28), (28, a_callV false (fX9_takeNumber kn) 10 3 31), (31, a_if kn b_ne 1 36 34), (34, a_stk (q_int 0) 35), (35, a_zret), (36, a_aload 0 37), (37, a_get 3 0 40), (40, a_aload 1 41), (41, a_get 10 8 44), (44, a_put 7 0 ckI 47), (47, a_aload 0 48), (48, a_stk (q_int 1) 49), (49, a_put 3 2 ckZ 52), (52, a_stk (q_int 1) 53), (53, a_zret)]
def fX2_readRows (kn : sKn) : List Value → sW → Option sR := fW (tX2_readRows kn) 2
set_option maxRecDepth 100000 in
set_option maxHeartbeats 4000000 in
theorem mX2_readRows (kn : sKn) : mM kn yX2_readRows (Cond.code yX2_readRows cX2_readRows 2 (some .boolean) :: wsL_law) 8 false (fX2_readRows kn) := mM_W (fun n => mM_of (own := RX2) (ini := false) rfl (by decide +kernel) (by decide +kernel) (all_c (ok_aload_n dX2_readRows_0 rfl) (all_c (okg_X2_2 kw562 dX2_readRows_1) (all_c (ok_if_ne dX2_readRows_4 (by decide)) (all_c (ok_aload_n dX2_readRows_7 rfl) (all_c (okg_X2_4 kw561 dX2_readRows_8) (all_c (ok_if_eq dX2_readRows_11 (by decide)) (all_c (ok_aload_n dX2_readRows_14 rfl) (all_c (ok_stk (s_iconst dX2_readRows_15 (by decide))) (all_c (okc_X9_refuse (by decide) kw537 dX2_readRows_16) (all_c (ok_zret dX2_readRows_19) (all_c (ok_aload_n dX2_readRows_20 rfl) (all_c (okc_X9_advance (by decide) kw526 dX2_readRows_21) (all_c (ok_aload_n dX2_readRows_24 rfl) (all_c (ok_stk (s_iconst dX2_readRows_25 (by decide))) (all_c (ok_stk (s_bipush dX2_readRows_26 (by decide))) (all_c (okc_X9_takeNumber (by decide) kw538 dX2_readRows_28) (all_c (ok_if_ne dX2_readRows_31 (by decide)) (all_c (ok_stk (s_iconst dX2_readRows_34 (by decide))) (all_c (ok_zret dX2_readRows_35) (all_c (ok_aload_n dX2_readRows_36 rfl) (all_c (okg_X2_0 kw527 dX2_readRows_37) (all_c (ok_aload_n dX2_readRows_40 rfl) (all_c (okg_X9_8 kw532 dX2_readRows_41) (all_c (okp_X6_0 kw559 dX2_readRows_44) (all_c (ok_aload_n dX2_readRows_47 rfl) (all_c (ok_stk (s_iconst dX2_readRows_48 (by decide))) (all_c (okp_X2_2 kw562 dX2_readRows_49) (all_c (ok_stk (s_iconst dX2_readRows_52 (by decide))) (all_c (ok_zret dX2_readRows_53) all_n))))))))))))))))))))))))))))) n (fun h => by first | rfl | cases h))
theorem dX2_readSigner_0 : decode cX2_readSigner 0 = .ok (.aload_n 0, 1) := by decide +kernel
theorem dX2_readSigner_1 : decode cX2_readSigner 1 = .ok (.getfield 12, 3) := by decide +kernel
theorem dX2_readSigner_4 : decode cX2_readSigner 4 = .ok (.getfield 99, 3) := by decide +kernel
theorem dX2_readSigner_7 : decode cX2_readSigner 7 = .ok (.istore_n 2, 1) := by decide +kernel
theorem dX2_readSigner_8 : decode cX2_readSigner 8 = .ok (.iload_n 2, 1) := by decide +kernel
theorem dX2_readSigner_9 : decode cX2_readSigner 9 = .ok (.bipush 10, 2) := by decide +kernel
theorem dX2_readSigner_11 : decode cX2_readSigner 11 = .ok (.if_icmp .lt 9, 3) := by decide +kernel
theorem dX2_readSigner_14 : decode cX2_readSigner 14 = .ok (.aload_n 1, 1) := by decide +kernel
theorem dX2_readSigner_15 : decode cX2_readSigner 15 = .ok (.iconst 4, 1) := by decide +kernel
theorem dX2_readSigner_16 : decode cX2_readSigner 16 = .ok (.invokevirtual 56, 3) := by decide +kernel
theorem dX2_readSigner_19 : decode cX2_readSigner 19 = .ok (.ireturn, 1) := by decide +kernel
theorem dX2_readSigner_20 : decode cX2_readSigner 20 = .ok (.aload_n 1, 1) := by decide +kernel
theorem dX2_readSigner_21 : decode cX2_readSigner 21 = .ok (.invokevirtual 83, 3) := by decide +kernel
theorem dX2_readSigner_24 : decode cX2_readSigner 24 = .ok (.aload_n 1, 1) := by decide +kernel
theorem dX2_readSigner_25 : decode cX2_readSigner 25 = .ok (.aload_n 0, 1) := by decide +kernel
theorem dX2_readSigner_26 : decode cX2_readSigner 26 = .ok (.getfield 12, 3) := by decide +kernel
theorem dX2_readSigner_29 : decode cX2_readSigner 29 = .ok (.invokevirtual 102, 3) := by decide +kernel
theorem dX2_readSigner_32 : decode cX2_readSigner 32 = .ok (.ifCond .ne 5, 3) := by decide +kernel
theorem dX2_readSigner_35 : decode cX2_readSigner 35 = .ok (.iconst 0, 1) := by decide +kernel
theorem dX2_readSigner_36 : decode cX2_readSigner 36 = .ok (.ireturn, 1) := by decide +kernel
theorem dX2_readSigner_37 : decode cX2_readSigner 37 = .ok (.aload_n 0, 1) := by decide +kernel
theorem dX2_readSigner_38 : decode cX2_readSigner 38 = .ok (.getfield 12, 3) := by decide +kernel
theorem dX2_readSigner_41 : decode cX2_readSigner 41 = .ok (.getfield 106, 3) := by decide +kernel
theorem dX2_readSigner_44 : decode cX2_readSigner 44 = .ok (.iload_n 2, 1) := by decide +kernel
theorem dX2_readSigner_45 : decode cX2_readSigner 45 = .ok (.aload_n 1, 1) := by decide +kernel
theorem dX2_readSigner_46 : decode cX2_readSigner 46 = .ok (.getfield 110, 3) := by decide +kernel
theorem dX2_readSigner_49 : decode cX2_readSigner 49 = .ok (.lastore, 1) := by decide +kernel
theorem dX2_readSigner_50 : decode cX2_readSigner 50 = .ok (.aload_n 1, 1) := by decide +kernel
theorem dX2_readSigner_51 : decode cX2_readSigner 51 = .ok (.iconst 0, 1) := by decide +kernel
theorem dX2_readSigner_52 : decode cX2_readSigner 52 = .ok (.bipush 9, 2) := by decide +kernel
theorem dX2_readSigner_54 : decode cX2_readSigner 54 = .ok (.invokevirtual 86, 3) := by decide +kernel
theorem dX2_readSigner_57 : decode cX2_readSigner 57 = .ok (.ifCond .ne 5, 3) := by decide +kernel
theorem dX2_readSigner_60 : decode cX2_readSigner 60 = .ok (.iconst 0, 1) := by decide +kernel
theorem dX2_readSigner_61 : decode cX2_readSigner 61 = .ok (.ireturn, 1) := by decide +kernel
theorem dX2_readSigner_62 : decode cX2_readSigner 62 = .ok (.aload_n 0, 1) := by decide +kernel
theorem dX2_readSigner_63 : decode cX2_readSigner 63 = .ok (.getfield 12, 3) := by decide +kernel
theorem dX2_readSigner_66 : decode cX2_readSigner 66 = .ok (.getfield 114, 3) := by decide +kernel
theorem dX2_readSigner_69 : decode cX2_readSigner 69 = .ok (.iload_n 2, 1) := by decide +kernel
theorem dX2_readSigner_70 : decode cX2_readSigner 70 = .ok (.aload_n 1, 1) := by decide +kernel
theorem dX2_readSigner_71 : decode cX2_readSigner 71 = .ok (.getfield 90, 3) := by decide +kernel
theorem dX2_readSigner_74 : decode cX2_readSigner 74 = .ok (.iastore, 1) := by decide +kernel
theorem dX2_readSigner_75 : decode cX2_readSigner 75 = .ok (.aload_n 1, 1) := by decide +kernel
theorem dX2_readSigner_76 : decode cX2_readSigner 76 = .ok (.iconst 1, 1) := by decide +kernel
theorem dX2_readSigner_77 : decode cX2_readSigner 77 = .ok (.bipush 9, 2) := by decide +kernel
theorem dX2_readSigner_79 : decode cX2_readSigner 79 = .ok (.invokevirtual 86, 3) := by decide +kernel
theorem dX2_readSigner_82 : decode cX2_readSigner 82 = .ok (.ifCond .ne 5, 3) := by decide +kernel
theorem dX2_readSigner_85 : decode cX2_readSigner 85 = .ok (.iconst 0, 1) := by decide +kernel
theorem dX2_readSigner_86 : decode cX2_readSigner 86 = .ok (.ireturn, 1) := by decide +kernel
theorem dX2_readSigner_87 : decode cX2_readSigner 87 = .ok (.aload_n 0, 1) := by decide +kernel
theorem dX2_readSigner_88 : decode cX2_readSigner 88 = .ok (.getfield 12, 3) := by decide +kernel
theorem dX2_readSigner_91 : decode cX2_readSigner 91 = .ok (.getfield 118, 3) := by decide +kernel
theorem dX2_readSigner_94 : decode cX2_readSigner 94 = .ok (.iload_n 2, 1) := by decide +kernel
theorem dX2_readSigner_95 : decode cX2_readSigner 95 = .ok (.aload_n 1, 1) := by decide +kernel
theorem dX2_readSigner_96 : decode cX2_readSigner 96 = .ok (.getfield 90, 3) := by decide +kernel
theorem dX2_readSigner_99 : decode cX2_readSigner 99 = .ok (.iastore, 1) := by decide +kernel
theorem dX2_readSigner_100 : decode cX2_readSigner 100 = .ok (.aload_n 1, 1) := by decide +kernel
theorem dX2_readSigner_101 : decode cX2_readSigner 101 = .ok (.iconst 2, 1) := by decide +kernel
theorem dX2_readSigner_102 : decode cX2_readSigner 102 = .ok (.invokevirtual 121, 3) := by decide +kernel
theorem dX2_readSigner_105 : decode cX2_readSigner 105 = .ok (.ifCond .eq 22, 3) := by decide +kernel
theorem dX2_readSigner_108 : decode cX2_readSigner 108 = .ok (.aload_n 0, 1) := by decide +kernel
theorem dX2_readSigner_109 : decode cX2_readSigner 109 = .ok (.getfield 12, 3) := by decide +kernel
theorem dX2_readSigner_112 : decode cX2_readSigner 112 = .ok (.dup, 1) := by decide +kernel
theorem dX2_readSigner_113 : decode cX2_readSigner 113 = .ok (.getfield 124, 3) := by decide +kernel
theorem dX2_readSigner_116 : decode cX2_readSigner 116 = .ok (.iconst 1, 1) := by decide +kernel
theorem dX2_readSigner_117 : decode cX2_readSigner 117 = .ok (.iload_n 2, 1) := by decide +kernel
theorem dX2_readSigner_118 : decode cX2_readSigner 118 = .ok (.ishl, 1) := by decide +kernel
theorem dX2_readSigner_119 : decode cX2_readSigner 119 = .ok (.ior, 1) := by decide +kernel
theorem dX2_readSigner_120 : decode cX2_readSigner 120 = .ok (.putfield 124, 3) := by decide +kernel
theorem dX2_readSigner_123 : decode cX2_readSigner 123 = .ok (.aload_n 1, 1) := by decide +kernel
theorem dX2_readSigner_124 : decode cX2_readSigner 124 = .ok (.invokevirtual 83, 3) := by decide +kernel
theorem dX2_readSigner_127 : decode cX2_readSigner 127 = .ok (.aload_n 0, 1) := by decide +kernel
theorem dX2_readSigner_128 : decode cX2_readSigner 128 = .ok (.getfield 12, 3) := by decide +kernel
theorem dX2_readSigner_131 : decode cX2_readSigner 131 = .ok (.dup, 1) := by decide +kernel
theorem dX2_readSigner_132 : decode cX2_readSigner 132 = .ok (.getfield 99, 3) := by decide +kernel
theorem dX2_readSigner_135 : decode cX2_readSigner 135 = .ok (.iconst 1, 1) := by decide +kernel
theorem dX2_readSigner_136 : decode cX2_readSigner 136 = .ok (.iadd, 1) := by decide +kernel
theorem dX2_readSigner_137 : decode cX2_readSigner 137 = .ok (.putfield 99, 3) := by decide +kernel
theorem dX2_readSigner_140 : decode cX2_readSigner 140 = .ok (.iconst 1, 1) := by decide +kernel
theorem dX2_readSigner_141 : decode cX2_readSigner 141 = .ok (.ireturn, 1) := by decide +kernel
def tX2_readSigner (kn : sKn) : List (Nat × sA) := [(0, a_aload 0 1), (1, a_get 3 0 4), (4, a_get 7 2 7), (7, a_istore 2 8), (8, a_iload 2 9), (9, a_stk (q_int 10) 11), (11, a_icmp kn b_lt 2 20 14), (14, a_aload 1 15), (15, a_stk (q_int 4) 16), (16, a_callV false (fX9_refuse kn) 10 2 19), (19, a_zret), (20, a_aload 1 21), (21, a_callV true (fX9_advance kn) 10 1 24), (24, a_aload 1 25), (25, a_aload 0 26), (26, a_get 3 0 29), (29, a_callV false (fX9_takeNewName kn) 10 2 32), (32, a_if kn b_ne 1 37 35), (35, a_stk (q_int 0) 36), (36, a_zret), (37, a_aload 0 38), (38, a_get 3 0 41), (41, a_get 7 6 44), (44, a_iload 2 45), (45, a_aload 1 46), (46, a_get 10 9 49), (49, a_last 50), (50, a_aload 1 51), (51, a_stk (q_int 0) 52), (52, a_stk (q_int 9) 54), (54, a_callV false (fX9_takeNumber kn) 10 3 57), (57, a_if kn b_ne 1 62 60), (60, a_stk (q_int 0) 61), (61, a_zret), (62, a_aload 0 63), (63, a_get 3 0 66), (66, a_get 7 7 69), (69, a_iload 2 70), (70, a_aload 1 71), (71, a_get 10 8 74), (74, a_iast 75), (75, a_aload 1 76), (76, a_stk (q_int 1) 77), (77, a_stk (q_int 9) 79), (79, a_callV false (fX9_takeNumber kn) 10 3 82), (82, a_if kn b_ne 1 87 85), (85, a_stk (q_int 0) 86), (86, a_zret), (87, a_aload 0 88), (88, a_get 3 0 91), (91, a_get 7 8 94), (94, a_iload 2 95), (95, a_aload 1 96), (96, a_get 10 8 99), (99, a_iast 100), (100, a_aload 1 101), (101, a_stk (q_int 2) 102), (102, a_callV false (fX9_isKey kn) 10 2 105), (105, a_if kn b_eq 0 127 108), (108, a_aload 0 109), (109, a_get 3 0 112), (112, a_stk q_dup 113), (113, a_get 7 5 116), (116, a_stk (q_int 1) 117), (117, a_iload 2 118), (118, a_stk q_ishl 119), (119, a_stk q_ior 120), (120, a_put 7 5 ckI 123), (123, a_aload 1 124), (124, a_callV true (fX9_advance kn) 10 1 127), (127, a_aload 0 128), (128, a_get 3 0 131), (131, a_stk q_dup 132), (132, a_get 7 2 135), (135, a_stk (q_int 1) 136), (136, a_stk q_iadd 137), (137, a_put 7 2 ckI 140), (140, a_stk (q_int 1) 141), (141, a_zret)]
def fX2_readSigner (kn : sKn) : List Value → sW → Option sR := fW (tX2_readSigner kn) 3
set_option maxRecDepth 100000 in
set_option maxHeartbeats 4000000 in
theorem mX2_readSigner (kn : sKn) : mM kn yX2_readSigner (Cond.code yX2_readSigner cX2_readSigner 3 (some .boolean) :: wsL_law) 8 false (fX2_readSigner kn) := mM_W (fun n => mM_of (own := RX2) (ini := false) rfl (by decide +kernel) (by decide +kernel) (all_c (ok_aload_n dX2_readSigner_0 rfl) (all_c (okg_X2_0 kw527 dX2_readSigner_1) (all_c (okg_X6_2 kw563 dX2_readSigner_4) (all_c (ok_istore_n dX2_readSigner_7 rfl (by decide)) (all_c (ok_iload_n dX2_readSigner_8 rfl) (all_c (ok_stk (s_bipush dX2_readSigner_9 (by decide))) (all_c (ok_icmp_lt dX2_readSigner_11 (by decide)) (all_c (ok_aload_n dX2_readSigner_14 rfl) (all_c (ok_stk (s_iconst dX2_readSigner_15 (by decide))) (all_c (okc_X9_refuse (by decide) kw537 dX2_readSigner_16) (all_c (ok_zret dX2_readSigner_19) (all_c (ok_aload_n dX2_readSigner_20 rfl) (all_c (okc_X9_advance (by decide) kw526 dX2_readSigner_21) (all_c (ok_aload_n dX2_readSigner_24 rfl) (all_c (ok_aload_n dX2_readSigner_25 rfl) (all_c (okg_X2_0 kw527 dX2_readSigner_26) (all_c (okc_X9_takeNewName (by decide) kw546 dX2_readSigner_29) (all_c (ok_if_ne dX2_readSigner_32 (by decide)) (all_c (ok_stk (s_iconst dX2_readSigner_35 (by decide))) (all_c (ok_zret dX2_readSigner_36) (all_c (ok_aload_n dX2_readSigner_37 rfl) (all_c (okg_X2_0 kw527 dX2_readSigner_38) (all_c (okg_X6_6 kw564 dX2_readSigner_41) (all_c (ok_iload_n dX2_readSigner_44 rfl) (all_c (ok_aload_n dX2_readSigner_45 rfl) (all_c (okg_X9_9 kw548 dX2_readSigner_46) (all_c (ok_last dX2_readSigner_49) (all_c (ok_aload_n dX2_readSigner_50 rfl) (all_c (ok_stk (s_iconst dX2_readSigner_51 (by decide))) (all_c (ok_stk (s_bipush dX2_readSigner_52 (by decide))) (all_c (okc_X9_takeNumber (by decide) kw538 dX2_readSigner_54) (all_c (ok_if_ne dX2_readSigner_57 (by decide)) (all_c (ok_stk (s_iconst dX2_readSigner_60 (by decide))) (all_c (ok_zret dX2_readSigner_61) (all_c (ok_aload_n dX2_readSigner_62 rfl) (all_c (okg_X2_0 kw527 dX2_readSigner_63) (all_c (okg_X6_7 kw565 dX2_readSigner_66) (all_c (ok_iload_n dX2_readSigner_69 rfl) (all_c (ok_aload_n dX2_readSigner_70 rfl) (all_c (okg_X9_8 kw532 dX2_readSigner_71) (all_c (ok_iast dX2_readSigner_74) (all_c (ok_aload_n dX2_readSigner_75 rfl) (all_c (ok_stk (s_iconst dX2_readSigner_76 (by decide))) (all_c (ok_stk (s_bipush dX2_readSigner_77 (by decide))) (all_c (okc_X9_takeNumber (by decide) kw538 dX2_readSigner_79) (all_c (ok_if_ne dX2_readSigner_82 (by decide)) (all_c (ok_stk (s_iconst dX2_readSigner_85 (by decide))) (all_c (ok_zret dX2_readSigner_86) (all_c (ok_aload_n dX2_readSigner_87 rfl) (all_c (okg_X2_0 kw527 dX2_readSigner_88) (all_c (okg_X6_8 kw566 dX2_readSigner_91) (all_c (ok_iload_n dX2_readSigner_94 rfl) (all_c (ok_aload_n dX2_readSigner_95 rfl) (all_c (okg_X9_8 kw532 dX2_readSigner_96) (all_c (ok_iast dX2_readSigner_99) (all_c (ok_aload_n dX2_readSigner_100 rfl) (all_c (ok_stk (s_iconst dX2_readSigner_101 (by decide))) (all_c (okc_X9_isKey (by decide) kw567 dX2_readSigner_102) (all_c (ok_if_eq dX2_readSigner_105 (by decide)) (all_c (ok_aload_n dX2_readSigner_108 rfl) (all_c (okg_X2_0 kw527 dX2_readSigner_109) (all_c (ok_stk (s_dup dX2_readSigner_112)) (all_c (okg_X6_5 kw568 dX2_readSigner_113) (all_c (ok_stk (s_iconst dX2_readSigner_116 (by decide))) (all_c (ok_iload_n dX2_readSigner_117 rfl) (all_c (ok_stk (s_ishl dX2_readSigner_118)) (all_c (ok_stk (s_ior dX2_readSigner_119)) (all_c (okp_X6_5 kw568 dX2_readSigner_120) (all_c (ok_aload_n dX2_readSigner_123 rfl) (all_c (okc_X9_advance (by decide) kw526 dX2_readSigner_124) (all_c (ok_aload_n dX2_readSigner_127 rfl) (all_c (okg_X2_0 kw527 dX2_readSigner_128) (all_c (ok_stk (s_dup dX2_readSigner_131)) (all_c (okg_X6_2 kw563 dX2_readSigner_132) (all_c (ok_stk (s_iconst dX2_readSigner_135 (by decide))) (all_c (ok_stk (s_iadd dX2_readSigner_136)) (all_c (okp_X6_2 kw563 dX2_readSigner_137) (all_c (ok_stk (s_iconst dX2_readSigner_140 (by decide))) (all_c (ok_zret dX2_readSigner_141) all_n))))))))))))))))))))))))))))))))))))))))))))))))))))))))))))))))))))))))))))))) n (fun h => by first | rfl | cases h))
theorem dX2_readLine_0 : decode cX2_readLine 0 = .ok (.aload_n 1, 1) := by decide +kernel
theorem dX2_readLine_1 : decode cX2_readLine 1 = .ok (.getfield 41, 3) := by decide +kernel
theorem dX2_readLine_4 : decode cX2_readLine 4 = .ok (.iconst 4, 1) := by decide +kernel
theorem dX2_readLine_5 : decode cX2_readLine 5 = .ok (.if_icmp .eq 9, 3) := by decide +kernel
theorem dX2_readLine_8 : decode cX2_readLine 8 = .ok (.aload_n 1, 1) := by decide +kernel
theorem dX2_readLine_9 : decode cX2_readLine 9 = .ok (.iconst 1, 1) := by decide +kernel
theorem dX2_readLine_10 : decode cX2_readLine 10 = .ok (.invokevirtual 56, 3) := by decide +kernel
theorem dX2_readLine_13 : decode cX2_readLine 13 = .ok (.ireturn, 1) := by decide +kernel
theorem dX2_readLine_14 : decode cX2_readLine 14 = .ok (.aload_n 1, 1) := by decide +kernel
theorem dX2_readLine_15 : decode cX2_readLine 15 = .ok (.getfield 59, 3) := by decide +kernel
theorem dX2_readLine_18 : decode cX2_readLine 18 = .ok (.tableswitch 88 0 7 #[46, 52, 88, 58, 64, 70, 76, 82], 46) := by decide +kernel
theorem dX2_readLine_64 : decode cX2_readLine 64 = .ok (.aload_n 0, 1) := by decide +kernel
theorem dX2_readLine_65 : decode cX2_readLine 65 = .ok (.aload_n 1, 1) := by decide +kernel
theorem dX2_readLine_66 : decode cX2_readLine 66 = .ok (.invokevirtual 62, 3) := by decide +kernel
theorem dX2_readLine_69 : decode cX2_readLine 69 = .ok (.ireturn, 1) := by decide +kernel
theorem dX2_readLine_70 : decode cX2_readLine 70 = .ok (.aload_n 0, 1) := by decide +kernel
theorem dX2_readLine_71 : decode cX2_readLine 71 = .ok (.aload_n 1, 1) := by decide +kernel
theorem dX2_readLine_72 : decode cX2_readLine 72 = .ok (.invokevirtual 65, 3) := by decide +kernel
theorem dX2_readLine_75 : decode cX2_readLine 75 = .ok (.ireturn, 1) := by decide +kernel
theorem dX2_readLine_76 : decode cX2_readLine 76 = .ok (.aload_n 0, 1) := by decide +kernel
theorem dX2_readLine_77 : decode cX2_readLine 77 = .ok (.aload_n 1, 1) := by decide +kernel
theorem dX2_readLine_78 : decode cX2_readLine 78 = .ok (.invokevirtual 68, 3) := by decide +kernel
theorem dX2_readLine_81 : decode cX2_readLine 81 = .ok (.ireturn, 1) := by decide +kernel
theorem dX2_readLine_82 : decode cX2_readLine 82 = .ok (.aload_n 0, 1) := by decide +kernel
theorem dX2_readLine_83 : decode cX2_readLine 83 = .ok (.aload_n 1, 1) := by decide +kernel
theorem dX2_readLine_84 : decode cX2_readLine 84 = .ok (.invokevirtual 71, 3) := by decide +kernel
theorem dX2_readLine_87 : decode cX2_readLine 87 = .ok (.ireturn, 1) := by decide +kernel
theorem dX2_readLine_88 : decode cX2_readLine 88 = .ok (.aload_n 0, 1) := by decide +kernel
theorem dX2_readLine_89 : decode cX2_readLine 89 = .ok (.aload_n 1, 1) := by decide +kernel
theorem dX2_readLine_90 : decode cX2_readLine 90 = .ok (.invokevirtual 74, 3) := by decide +kernel
theorem dX2_readLine_93 : decode cX2_readLine 93 = .ok (.ireturn, 1) := by decide +kernel
theorem dX2_readLine_94 : decode cX2_readLine 94 = .ok (.aload_n 0, 1) := by decide +kernel
theorem dX2_readLine_95 : decode cX2_readLine 95 = .ok (.aload_n 1, 1) := by decide +kernel
theorem dX2_readLine_96 : decode cX2_readLine 96 = .ok (.invokevirtual 77, 3) := by decide +kernel
theorem dX2_readLine_99 : decode cX2_readLine 99 = .ok (.ireturn, 1) := by decide +kernel
theorem dX2_readLine_100 : decode cX2_readLine 100 = .ok (.aload_n 0, 1) := by decide +kernel
theorem dX2_readLine_101 : decode cX2_readLine 101 = .ok (.aload_n 1, 1) := by decide +kernel
theorem dX2_readLine_102 : decode cX2_readLine 102 = .ok (.invokevirtual 80, 3) := by decide +kernel
theorem dX2_readLine_105 : decode cX2_readLine 105 = .ok (.ireturn, 1) := by decide +kernel
theorem dX2_readLine_106 : decode cX2_readLine 106 = .ok (.aload_n 1, 1) := by decide +kernel
theorem dX2_readLine_107 : decode cX2_readLine 107 = .ok (.iconst 1, 1) := by decide +kernel
theorem dX2_readLine_108 : decode cX2_readLine 108 = .ok (.invokevirtual 56, 3) := by decide +kernel
theorem dX2_readLine_111 : decode cX2_readLine 111 = .ok (.ireturn, 1) := by decide +kernel
theorem okc_X2_readRows {kn : sKn} {cc : ByteArray} {own : String} {nL : Nat} {D : Nat} {ret : Option FieldType} {ini : Bool} {pc index : Nat} (hD : 8 + 1 ≤ D) (hl : Cond.methodLink own index yX2_readRows ∈ wsL_law) (hd : decode cc pc = .ok (.invokevirtual index, 3)) : mOk kn cc own nL wsL_law D ret ini pc (a_callV false (fX2_readRows kn) 3 (1 + 1) (pc + 3)) := ok_callV (mX2_readRows kn) (good_ws ws_good (fun _ h => h) kw571) hD (by decide) hl kw573 kw574 kw572 ⟨by decide +kernel, by decide +kernel, by decide +kernel⟩ rfl hd
theorem okc_X2_readSigner {kn : sKn} {cc : ByteArray} {own : String} {nL : Nat} {D : Nat} {ret : Option FieldType} {ini : Bool} {pc index : Nat} (hD : 8 + 1 ≤ D) (hl : Cond.methodLink own index yX2_readSigner ∈ wsL_law) (hd : decode cc pc = .ok (.invokevirtual index, 3)) : mOk kn cc own nL wsL_law D ret ini pc (a_callV false (fX2_readSigner kn) 3 (1 + 1) (pc + 3)) := ok_callV (mX2_readSigner kn) (good_ws ws_good (fun _ h => h) kw576) hD (by decide) hl kw577 kw578 kw572 ⟨by decide +kernel, by decide +kernel, by decide +kernel⟩ rfl hd
theorem okc_X2_readHeir {kn : sKn} {cc : ByteArray} {own : String} {nL : Nat} {D : Nat} {ret : Option FieldType} {ini : Bool} {pc index : Nat} (hD : 8 + 1 ≤ D) (hl : Cond.methodLink own index yX2_readHeir ∈ wsL_law) (hd : decode cc pc = .ok (.invokevirtual index, 3)) : mOk kn cc own nL wsL_law D ret ini pc (a_callV false (fX2_readHeir kn) 3 (1 + 1) (pc + 3)) := ok_callV (mX2_readHeir kn) (good_ws ws_good (fun _ h => h) kw580) hD (by decide) hl kw581 kw582 kw572 ⟨by decide +kernel, by decide +kernel, by decide +kernel⟩ rfl hd
theorem okc_X2_readLovers {kn : sKn} {cc : ByteArray} {own : String} {nL : Nat} {D : Nat} {ret : Option FieldType} {ini : Bool} {pc index : Nat} (hD : 8 + 1 ≤ D) (hl : Cond.methodLink own index yX2_readLovers ∈ wsL_law) (hd : decode cc pc = .ok (.invokevirtual index, 3)) : mOk kn cc own nL wsL_law D ret ini pc (a_callV false (fX2_readLovers kn) 3 (1 + 1) (pc + 3)) := ok_callV (mX2_readLovers kn) (good_ws ws_good (fun _ h => h) kw584) hD (by decide) hl kw585 kw586 kw572 ⟨by decide +kernel, by decide +kernel, by decide +kernel⟩ rfl hd
theorem okc_X2_readPlank {kn : sKn} {cc : ByteArray} {own : String} {nL : Nat} {D : Nat} {ret : Option FieldType} {ini : Bool} {pc index : Nat} (hD : 8 + 1 ≤ D) (hl : Cond.methodLink own index yX2_readPlank ∈ wsL_law) (hd : decode cc pc = .ok (.invokevirtual index, 3)) : mOk kn cc own nL wsL_law D ret ini pc (a_callV false (fX2_readPlank kn) 3 (1 + 1) (pc + 3)) := ok_callV (mX2_readPlank kn) (good_ws ws_good (fun _ h => h) kw588) hD (by decide) hl kw589 kw590 kw572 ⟨by decide +kernel, by decide +kernel, by decide +kernel⟩ rfl hd
theorem okc_X2_readLoad {kn : sKn} {cc : ByteArray} {own : String} {nL : Nat} {D : Nat} {ret : Option FieldType} {ini : Bool} {pc index : Nat} (hD : 8 + 1 ≤ D) (hl : Cond.methodLink own index yX2_readLoad ∈ wsL_law) (hd : decode cc pc = .ok (.invokevirtual index, 3)) : mOk kn cc own nL wsL_law D ret ini pc (a_callV false (fX2_readLoad kn) 3 (1 + 1) (pc + 3)) := ok_callV (mX2_readLoad kn) (good_ws ws_good (fun _ h => h) kw592) hD (by decide) hl kw593 kw594 kw572 ⟨by decide +kernel, by decide +kernel, by decide +kernel⟩ rfl hd
theorem okc_X2_readKeeps {kn : sKn} {cc : ByteArray} {own : String} {nL : Nat} {D : Nat} {ret : Option FieldType} {ini : Bool} {pc index : Nat} (hD : 8 + 1 ≤ D) (hl : Cond.methodLink own index yX2_readKeeps ∈ wsL_law) (hd : decode cc pc = .ok (.invokevirtual index, 3)) : mOk kn cc own nL wsL_law D ret ini pc (a_callV false (fX2_readKeeps kn) 3 (1 + 1) (pc + 3)) := ok_callV (mX2_readKeeps kn) (good_ws ws_good (fun _ h => h) kw596) hD (by decide) hl kw597 kw598 kw572 ⟨by decide +kernel, by decide +kernel, by decide +kernel⟩ rfl hd
def tX2_readLine (kn : sKn) : List (Nat × sA) := [(0, a_aload 1 1), (1, a_get 10 4 4), (4, a_stk (q_int 4) 5), (5, a_icmp kn b_eq 0 14 8), (8, a_aload 1 9), (9, a_stk (q_int 1) 10), (10, a_callV false (fX9_refuse kn) 10 2 13), (13, a_zret), (14, a_aload 1 15), (15, a_get 10 6 18), (18, a_table kn 0 7 [64, 70, 106, 76, 82, 88, 94, 100] 106), (64, a_aload 0 65), (65, a_aload 1 66), (66, a_callV false (fX2_readRows kn) 3 2 69), (69, a_zret), (70, a_aload 0 71), (71, a_aload 1 72), (72, a_callV false (fX2_readSigner kn) 3 2 75), (75, a_zret), (76, a_aload 0 77), (77, a_aload 1 78), (78, a_callV false (fX2_readHeir kn) 3 2 81), (81, a_zret), (82, a_aload 0 83), (83, a_aload 1 84), (84, a_callV false (fX2_readLovers kn) 3 2 87), (87, a_zret), (88, a_aload 0 89), (89, a_aload 1 90), (90, a_callV false (fX2_readPlank kn) 3 2 93), (93, a_zret), (94, a_aload 0 95), (95, a_aload 1 96), (96, a_callV false (fX2_readLoad kn) 3 2 99), (99, a_zret), (100, a_aload 0 101), (101, a_aload 1 102), (102, a_callV false (fX2_readKeeps kn) 3 2 105), (105, a_zret), (106, a_aload 1 107), (107, a_stk (q_int 1) 108), (108, a_callV false (fX9_refuse kn) 10 2 111), (111, a_zret)]
def fX2_readLine (kn : sKn) : List Value → sW → Option sR := fW (tX2_readLine kn) 2
set_option maxRecDepth 100000 in
set_option maxHeartbeats 4000000 in
theorem mX2_readLine (kn : sKn) : mM kn yX2_readLine (Cond.code yX2_readLine cX2_readLine 2 (some .boolean) :: wsL_law) 9 false (fX2_readLine kn) := mM_W (fun n => mM_of (own := RX2) (ini := false) rfl (by decide +kernel) (by decide +kernel) (all_c (ok_aload_n dX2_readLine_0 rfl) (all_c (okg_X9_4 kw569 dX2_readLine_1) (all_c (ok_stk (s_iconst dX2_readLine_4 (by decide))) (all_c (ok_icmp_eq dX2_readLine_5 (by decide)) (all_c (ok_aload_n dX2_readLine_8 rfl) (all_c (ok_stk (s_iconst dX2_readLine_9 (by decide))) (all_c (okc_X9_refuse (by decide) kw537 dX2_readLine_10) (all_c (ok_zret dX2_readLine_13) (all_c (ok_aload_n dX2_readLine_14 rfl) (all_c (okg_X9_6 kw570 dX2_readLine_15) (all_c (ok_table dX2_readLine_18 (by decide) (by decide) (by decide) (by decide)) (all_c (ok_aload_n dX2_readLine_64 rfl) (all_c (ok_aload_n dX2_readLine_65 rfl) (all_c (okc_X2_readRows (by decide) kw575 dX2_readLine_66) (all_c (ok_zret dX2_readLine_69) (all_c (ok_aload_n dX2_readLine_70 rfl) (all_c (ok_aload_n dX2_readLine_71 rfl) (all_c (okc_X2_readSigner (by decide) kw579 dX2_readLine_72) (all_c (ok_zret dX2_readLine_75) (all_c (ok_aload_n dX2_readLine_76 rfl) (all_c (ok_aload_n dX2_readLine_77 rfl) (all_c (okc_X2_readHeir (by decide) kw583 dX2_readLine_78) (all_c (ok_zret dX2_readLine_81) (all_c (ok_aload_n dX2_readLine_82 rfl) (all_c (ok_aload_n dX2_readLine_83 rfl) (all_c (okc_X2_readLovers (by decide) kw587 dX2_readLine_84) (all_c (ok_zret dX2_readLine_87) (all_c (ok_aload_n dX2_readLine_88 rfl) (all_c (ok_aload_n dX2_readLine_89 rfl) (all_c (okc_X2_readPlank (by decide) kw591 dX2_readLine_90) (all_c (ok_zret dX2_readLine_93) (all_c (ok_aload_n dX2_readLine_94 rfl) (all_c (ok_aload_n dX2_readLine_95 rfl) (all_c (okc_X2_readLoad (by decide) kw595 dX2_readLine_96) (all_c (ok_zret dX2_readLine_99) (all_c (ok_aload_n dX2_readLine_100 rfl) (all_c (ok_aload_n dX2_readLine_101 rfl) (all_c (okc_X2_readKeeps (by decide) kw599 dX2_readLine_102) (all_c (ok_zret dX2_readLine_105) (all_c (ok_aload_n dX2_readLine_106 rfl) (all_c (ok_stk (s_iconst dX2_readLine_107 (by decide))) (all_c (okc_X9_refuse (by decide) kw537 dX2_readLine_108) (all_c (ok_zret dX2_readLine_111) all_n))))))))))))))))))))))))))))))))))))))))))) n (fun h => by first | rfl | cases h))
theorem dX6_clear_0 : decode cX6_clear 0 = .ok (.aload_n 0, 1) := by decide +kernel
theorem dX6_clear_1 : decode cX6_clear 1 = .ok (.iconst 4, 1) := by decide +kernel
theorem dX6_clear_2 : decode cX6_clear 2 = .ok (.putfield 43, 3) := by decide +kernel
theorem dX6_clear_5 : decode cX6_clear 5 = .ok (.aload_n 0, 1) := by decide +kernel
theorem dX6_clear_6 : decode cX6_clear 6 = .ok (.iconst 5, 1) := by decide +kernel
theorem dX6_clear_7 : decode cX6_clear 7 = .ok (.putfield 47, 3) := by decide +kernel
theorem dX6_clear_10 : decode cX6_clear 10 = .ok (.aload_n 0, 1) := by decide +kernel
theorem dX6_clear_11 : decode cX6_clear 11 = .ok (.iconst 0, 1) := by decide +kernel
theorem dX6_clear_12 : decode cX6_clear 12 = .ok (.putfield 50, 3) := by decide +kernel
theorem dX6_clear_15 : decode cX6_clear 15 = .ok (.aload_n 0, 1) := by decide +kernel
theorem dX6_clear_16 : decode cX6_clear 16 = .ok (.iconst 0, 1) := by decide +kernel
theorem dX6_clear_17 : decode cX6_clear 17 = .ok (.putfield 53, 3) := by decide +kernel
theorem dX6_clear_20 : decode cX6_clear 20 = .ok (.aload_n 0, 1) := by decide +kernel
theorem dX6_clear_21 : decode cX6_clear 21 = .ok (.iconst 0, 1) := by decide +kernel
theorem dX6_clear_22 : decode cX6_clear 22 = .ok (.putfield 56, 3) := by decide +kernel
theorem dX6_clear_25 : decode cX6_clear 25 = .ok (.aload_n 0, 1) := by decide +kernel
theorem dX6_clear_26 : decode cX6_clear 26 = .ok (.iconst 0, 1) := by decide +kernel
theorem dX6_clear_27 : decode cX6_clear 27 = .ok (.putfield 59, 3) := by decide +kernel
theorem dX6_clear_30 : decode cX6_clear 30 = .ok (.aload_n 0, 1) := by decide +kernel
theorem dX6_clear_31 : decode cX6_clear 31 = .ok (.getfield 22, 3) := by decide +kernel
theorem dX6_clear_34 : decode cX6_clear 34 = .ok (.iconst (-1), 1) := by decide +kernel
theorem dX6_clear_35 : decode cX6_clear 35 = .ok (.invokestatic 62, 3) := by decide +kernel
theorem dX6_clear_38 : decode cX6_clear 38 = .ok (.aload_n 0, 1) := by decide +kernel
theorem dX6_clear_39 : decode cX6_clear 39 = .ok (.getfield 25, 3) := by decide +kernel
theorem dX6_clear_42 : decode cX6_clear 42 = .ok (.iconst 0, 1) := by decide +kernel
theorem dX6_clear_43 : decode cX6_clear 43 = .ok (.invokestatic 62, 3) := by decide +kernel
theorem dX6_clear_46 : decode cX6_clear 46 = .ok (.aload_n 0, 1) := by decide +kernel
theorem dX6_clear_47 : decode cX6_clear 47 = .ok (.getfield 28, 3) := by decide +kernel
theorem dX6_clear_50 : decode cX6_clear 50 = .ok (.iconst (-1), 1) := by decide +kernel
theorem dX6_clear_51 : decode cX6_clear 51 = .ok (.invokestatic 62, 3) := by decide +kernel
theorem dX6_clear_54 : decode cX6_clear 54 = .ok (.return_, 1) := by decide +kernel
def tX6_clear (kn : sKn) : List (Nat × sA) := [(0, a_aload 0 1), (1, a_stk (q_int 4) 2), (2, a_put 7 0 ckI 5), (5, a_aload 0 6), (6, a_stk (q_int 5) 7), (7, a_put 7 1 ckI 10), (10, a_aload 0 11), (11, a_stk (q_int 0) 12), (12, a_put 7 2 ckI 15), (15, a_aload 0 16), (16, a_stk (q_int 0) 17), (17, a_put 7 3 ckI 20), (20, a_aload 0 21), (21, a_stk (q_int 0) 22), (22, a_put 7 4 ckI 25), (25, a_aload 0 26), (26, a_stk (q_int 0) 27), (27, a_put 7 5 ckI 30), (30, a_aload 0 31), (31, a_get 7 9 34), (34, a_stk (q_int (-1)) 35), (35, a_callS true (fJ7_fill_53178 kn) 2 38), (38, a_aload 0 39), (39, a_get 7 10 42), (42, a_stk (q_int 0) 43), (43, a_callS true (fJ7_fill_53178 kn) 2 46), (46, a_aload 0 47), (47, a_get 7 11 50), (50, a_stk (q_int (-1)) 51), (51, a_callS true (fJ7_fill_53178 kn) 2 54), (54, a_vret)]
def fX6_clear (kn : sKn) : List Value → sW → Option sR := fW (tX6_clear kn) 1
set_option maxRecDepth 100000 in
set_option maxHeartbeats 4000000 in
theorem mX6_clear (kn : sKn) : mM kn yX6_clear (Cond.code yX6_clear cX6_clear 1 none :: wsL_law) 2 true (fX6_clear kn) := mM_W (fun n => mM_of (own := RX6) (ini := false) rfl (by decide +kernel) (by decide +kernel) (all_c (ok_aload_n dX6_clear_0 rfl) (all_c (ok_stk (s_iconst dX6_clear_1 (by decide))) (all_c (okp_X6_0 kw600 dX6_clear_2) (all_c (ok_aload_n dX6_clear_5 rfl) (all_c (ok_stk (s_iconst dX6_clear_6 (by decide))) (all_c (okp_X6_1 kw601 dX6_clear_7) (all_c (ok_aload_n dX6_clear_10 rfl) (all_c (ok_stk (s_iconst dX6_clear_11 (by decide))) (all_c (okp_X6_2 kw449 dX6_clear_12) (all_c (ok_aload_n dX6_clear_15 rfl) (all_c (ok_stk (s_iconst dX6_clear_16 (by decide))) (all_c (okp_X6_3 kw447 dX6_clear_17) (all_c (ok_aload_n dX6_clear_20 rfl) (all_c (ok_stk (s_iconst dX6_clear_21 (by decide))) (all_c (okp_X6_4 kw602 dX6_clear_22) (all_c (ok_aload_n dX6_clear_25 rfl) (all_c (ok_stk (s_iconst dX6_clear_26 (by decide))) (all_c (okp_X6_5 kw603 dX6_clear_27) (all_c (ok_aload_n dX6_clear_30 rfl) (all_c (okg_X6_9 kw604 dX6_clear_31) (all_c (ok_stk (s_iconst dX6_clear_34 (by decide))) (all_c (okc_J7_fill_53178 (by decide) kw605 dX6_clear_35) (all_c (ok_aload_n dX6_clear_38 rfl) (all_c (okg_X6_10 kw157 dX6_clear_39) (all_c (ok_stk (s_iconst dX6_clear_42 (by decide))) (all_c (okc_J7_fill_53178 (by decide) kw605 dX6_clear_43) (all_c (ok_aload_n dX6_clear_46 rfl) (all_c (okg_X6_11 kw554 dX6_clear_47) (all_c (ok_stk (s_iconst dX6_clear_50 (by decide))) (all_c (okc_J7_fill_53178 (by decide) kw605 dX6_clear_51) (all_c (ok_vret dX6_clear_54) all_n))))))))))))))))))))))))))))))) n (fun h => by first | rfl | cases h))
theorem dX2_read_0 : decode cX2_read 0 = .ok (.aload_n 0, 1) := by decide +kernel
theorem dX2_read_1 : decode cX2_read 1 = .ok (.getfield 12, 3) := by decide +kernel
theorem dX2_read_4 : decode cX2_read 4 = .ok (.invokevirtual 18, 3) := by decide +kernel
theorem dX2_read_7 : decode cX2_read 7 = .ok (.aload_n 0, 1) := by decide +kernel
theorem dX2_read_8 : decode cX2_read 8 = .ok (.iconst 0, 1) := by decide +kernel
theorem dX2_read_9 : decode cX2_read 9 = .ok (.putfield 21, 3) := by decide +kernel
theorem dX2_read_12 : decode cX2_read 12 = .ok (.aload_n 0, 1) := by decide +kernel
theorem dX2_read_13 : decode cX2_read 13 = .ok (.iconst 0, 1) := by decide +kernel
theorem dX2_read_14 : decode cX2_read 14 = .ok (.putfield 25, 3) := by decide +kernel
theorem dX2_read_17 : decode cX2_read 17 = .ok (.aload_n 0, 1) := by decide +kernel
theorem dX2_read_18 : decode cX2_read 18 = .ok (.iconst 0, 1) := by decide +kernel
theorem dX2_read_19 : decode cX2_read 19 = .ok (.putfield 28, 3) := by decide +kernel
theorem dX2_read_22 : decode cX2_read 22 = .ok (.aload_n 1, 1) := by decide +kernel
theorem dX2_read_23 : decode cX2_read 23 = .ok (.sipush 900, 3) := by decide +kernel
theorem dX2_read_26 : decode cX2_read 26 = .ok (.invokevirtual 31, 3) := by decide +kernel
theorem dX2_read_29 : decode cX2_read 29 = .ok (.aload_n 0, 1) := by decide +kernel
theorem dX2_read_30 : decode cX2_read 30 = .ok (.iconst 0, 1) := by decide +kernel
theorem dX2_read_31 : decode cX2_read 31 = .ok (.putfield 37, 3) := by decide +kernel
theorem dX2_read_34 : decode cX2_read 34 = .ok (.aload_n 0, 1) := by decide +kernel
theorem dX2_read_35 : decode cX2_read 35 = .ok (.getfield 37, 3) := by decide +kernel
theorem dX2_read_38 : decode cX2_read 38 = .ok (.sipush 940, 3) := by decide +kernel
theorem dX2_read_41 : decode cX2_read 41 = .ok (.if_icmp .ge 42, 3) := by decide +kernel
theorem dX2_read_44 : decode cX2_read 44 = .ok (.aload_n 1, 1) := by decide +kernel
theorem dX2_read_45 : decode cX2_read 45 = .ok (.getfield 41, 3) := by decide +kernel
theorem dX2_read_48 : decode cX2_read 48 = .ok (.ifCond .eq 35, 3) := by decide +kernel
theorem dX2_read_51 : decode cX2_read 51 = .ok (.aload_n 0, 1) := by decide +kernel
theorem dX2_read_52 : decode cX2_read 52 = .ok (.aload_n 1, 1) := by decide +kernel
theorem dX2_read_53 : decode cX2_read 53 = .ok (.invokevirtual 44, 3) := by decide +kernel
theorem dX2_read_56 : decode cX2_read 56 = .ok (.ifCond .eq 12, 3) := by decide +kernel
theorem dX2_read_59 : decode cX2_read 59 = .ok (.aload_n 1, 1) := by decide +kernel
theorem dX2_read_60 : decode cX2_read 60 = .ok (.bipush 59, 2) := by decide +kernel
theorem dX2_read_62 : decode cX2_read 62 = .ok (.invokevirtual 48, 3) := by decide +kernel
theorem dX2_read_65 : decode cX2_read 65 = .ok (.ifCond .ne 5, 3) := by decide +kernel
theorem dX2_read_68 : decode cX2_read 68 = .ok (.iconst 0, 1) := by decide +kernel
theorem dX2_read_69 : decode cX2_read 69 = .ok (.ireturn, 1) := by decide +kernel
theorem dX2_read_70 : decode cX2_read 70 = .ok (.aload_n 0, 1) := by decide +kernel
theorem dX2_read_71 : decode cX2_read 71 = .ok (.dup, 1) := by decide +kernel
theorem dX2_read_72 : decode cX2_read 72 = .ok (.getfield 37, 3) := by decide +kernel
theorem dX2_read_75 : decode cX2_read 75 = .ok (.iconst 1, 1) := by decide +kernel
theorem dX2_read_76 : decode cX2_read 76 = .ok (.iadd, 1) := by decide +kernel
theorem dX2_read_77 : decode cX2_read 77 = .ok (.putfield 37, 3) := by decide +kernel
theorem dX2_read_80 : decode cX2_read 80 = .ok (.goto (-46), 3) := by decide +kernel
theorem dX2_read_83 : decode cX2_read 83 = .ok (.aload_n 1, 1) := by decide +kernel
theorem dX2_read_84 : decode cX2_read 84 = .ok (.invokevirtual 52, 3) := by decide +kernel
theorem dX2_read_87 : decode cX2_read 87 = .ok (.ireturn, 1) := by decide +kernel
theorem okc_X6_clear {kn : sKn} {cc : ByteArray} {own : String} {nL : Nat} {D : Nat} {ret : Option FieldType} {ini : Bool} {pc index : Nat} (hD : 2 + 1 ≤ D) (hl : Cond.methodLink own index yX6_clear ∈ wsL_law) (hd : decode cc pc = .ok (.invokevirtual index, 3)) : mOk kn cc own nL wsL_law D ret ini pc (a_callV true (fX6_clear kn) 7 (0 + 1) (pc + 3)) := ok_callV (mX6_clear kn) (good_ws ws_good (fun _ h => h) kw606) hD (by decide) hl kw607 kw608 kw162 ⟨by decide +kernel, by decide +kernel, by decide +kernel⟩ rfl hd
theorem okc_X2_readLine {kn : sKn} {cc : ByteArray} {own : String} {nL : Nat} {D : Nat} {ret : Option FieldType} {ini : Bool} {pc index : Nat} (hD : 9 + 1 ≤ D) (hl : Cond.methodLink own index yX2_readLine ∈ wsL_law) (hd : decode cc pc = .ok (.invokevirtual index, 3)) : mOk kn cc own nL wsL_law D ret ini pc (a_callV false (fX2_readLine kn) 3 (1 + 1) (pc + 3)) := ok_callV (mX2_readLine kn) (good_ws ws_good (fun _ h => h) kw612) hD (by decide) hl kw613 kw614 kw572 ⟨by decide +kernel, by decide +kernel, by decide +kernel⟩ rfl hd
def tX2_read (kn : sKn) : List (Nat × sA) := [(0, a_aload 0 1), (1, a_get 3 0 4), (4, a_callV true (fX6_clear kn) 7 1 7), (7, a_aload 0 8), (8, a_stk (q_int 0) 9), (9, a_put 3 2 ckZ 12), (12, a_aload 0 13), (13, a_stk (q_int 0) 14), (14, a_put 3 3 ckZ 17), (17, a_aload 0 18), (18, a_stk (q_int 0) 19), (19, a_put 3 4 ckZ 22), (22, a_aload 1 23), (23, a_stk (q_int 900) 26), (26, a_callV true (fX9_begin kn) 10 2 29), (29, a_aload 0 30), (30, a_stk (q_int 0) 31), (31, a_put 3 1 ckI 34), (34, a_aload 0 35), (35, a_get 3 1 38), (38, a_stk (q_int 940) 41), (41, a_icmp kn b_ge 3 83 44), (44, a_aload 1 45), (45, a_get 10 4 48), (48, a_if kn b_eq 0 83 51), (51, a_aload 0 52), (52, a_aload 1 53), (53, a_callV false (fX2_readLine kn) 3 2 56), (56, a_if kn b_eq 0 68 59), (59, a_aload 1 60), (60, a_stk (q_int 59) 62), (62, a_callV false (fX9_takeSign kn) 10 2 65), (65, a_if kn b_ne 1 70 68), (68, a_stk (q_int 0) 69), (69, a_zret), (70, a_aload 0 71), (71, a_stk q_dup 72), (72, a_get 3 1 75), (75, a_stk (q_int 1) 76), (76, a_stk q_iadd 77), (77, a_put 3 1 ckI 80), (80, a_goto 34), (83, a_aload 1 84), (84, a_callV false (fX9_takeEnd kn) 10 1 87), (87, a_zret)]
def fX2_read (kn : sKn) : List Value → sW → Option sR := fW (tX2_read kn) 2
set_option maxRecDepth 100000 in
set_option maxHeartbeats 4000000 in
theorem mX2_read (kn : sKn) : mM kn yX2_read (Cond.code yX2_read cX2_read 2 (some .boolean) :: wsL_law) 10 false (fX2_read kn) := mM_W (fun n => mM_of (own := RX2) (ini := false) rfl (by decide +kernel) (by decide +kernel) (all_c (ok_aload_n dX2_read_0 rfl) (all_c (okg_X2_0 kw527 dX2_read_1) (all_c (okc_X6_clear (by decide) kw609 dX2_read_4) (all_c (ok_aload_n dX2_read_7 rfl) (all_c (ok_stk (s_iconst dX2_read_8 (by decide))) (all_c (okp_X2_2 kw562 dX2_read_9) (all_c (ok_aload_n dX2_read_12 rfl) (all_c (ok_stk (s_iconst dX2_read_13 (by decide))) (all_c (okp_X2_3 kw536 dX2_read_14) (all_c (ok_aload_n dX2_read_17 rfl) (all_c (ok_stk (s_iconst dX2_read_18 (by decide))) (all_c (okp_X2_4 kw561 dX2_read_19) (all_c (ok_aload_n dX2_read_22 rfl) (all_c (ok_stk (s_sipush dX2_read_23 (by decide))) (all_c (okc_X9_begin (by decide) kw610 dX2_read_26) (all_c (ok_aload_n dX2_read_29 rfl) (all_c (ok_stk (s_iconst dX2_read_30 (by decide))) (all_c (okp_X2_1 kw611 dX2_read_31) (all_c (ok_aload_n dX2_read_34 rfl) (all_c (okg_X2_1 kw611 dX2_read_35) (all_c (ok_stk (s_sipush dX2_read_38 (by decide))) (all_c (ok_icmp_ge dX2_read_41 (by decide)) (all_c (ok_aload_n dX2_read_44 rfl) (all_c (okg_X9_4 kw569 dX2_read_45) (all_c (ok_if_eq dX2_read_48 (by decide)) (all_c (ok_aload_n dX2_read_51 rfl) (all_c (ok_aload_n dX2_read_52 rfl) (all_c (okc_X2_readLine (by decide) kw615 dX2_read_53) (all_c (ok_if_eq dX2_read_56 (by decide)) (all_c (ok_aload_n dX2_read_59 rfl) (all_c (ok_stk (s_bipush dX2_read_60 (by decide))) (all_c (okc_X9_takeSign (by decide) kw616 dX2_read_62) (all_c (ok_if_ne dX2_read_65 (by decide)) (all_c (ok_stk (s_iconst dX2_read_68 (by decide))) (all_c (ok_zret dX2_read_69) (all_c (ok_aload_n dX2_read_70 rfl) (all_c (ok_stk (s_dup dX2_read_71)) (all_c (okg_X2_1 kw611 dX2_read_72) (all_c (ok_stk (s_iconst dX2_read_75 (by decide))) (all_c (ok_stk (s_iadd dX2_read_76)) (all_c (okp_X2_1 kw611 dX2_read_77) (all_c (ok_goto dX2_read_80 (by decide)) (all_c (ok_aload_n dX2_read_83 rfl) (all_c (okc_X9_takeEnd (by decide) kw617 dX2_read_84) (all_c (ok_zret dX2_read_87) all_n))))))))))))))))))))))))))))))))))))))))))))) n (fun h => by first | rfl | cases h))
theorem dX6_copyOf_0 : decode cX6_copyOf 0 = .ok (.aload_n 0, 1) := by decide +kernel
theorem dX6_copyOf_1 : decode cX6_copyOf 1 = .ok (.aload_n 1, 1) := by decide +kernel
theorem dX6_copyOf_2 : decode cX6_copyOf 2 = .ok (.getfield 43, 3) := by decide +kernel
theorem dX6_copyOf_5 : decode cX6_copyOf 5 = .ok (.putfield 43, 3) := by decide +kernel
theorem dX6_copyOf_8 : decode cX6_copyOf 8 = .ok (.aload_n 0, 1) := by decide +kernel
theorem dX6_copyOf_9 : decode cX6_copyOf 9 = .ok (.aload_n 1, 1) := by decide +kernel
theorem dX6_copyOf_10 : decode cX6_copyOf 10 = .ok (.getfield 47, 3) := by decide +kernel
theorem dX6_copyOf_13 : decode cX6_copyOf 13 = .ok (.putfield 47, 3) := by decide +kernel
theorem dX6_copyOf_16 : decode cX6_copyOf 16 = .ok (.aload_n 0, 1) := by decide +kernel
theorem dX6_copyOf_17 : decode cX6_copyOf 17 = .ok (.aload_n 1, 1) := by decide +kernel
theorem dX6_copyOf_18 : decode cX6_copyOf 18 = .ok (.getfield 50, 3) := by decide +kernel
theorem dX6_copyOf_21 : decode cX6_copyOf 21 = .ok (.putfield 50, 3) := by decide +kernel
theorem dX6_copyOf_24 : decode cX6_copyOf 24 = .ok (.aload_n 0, 1) := by decide +kernel
theorem dX6_copyOf_25 : decode cX6_copyOf 25 = .ok (.aload_n 1, 1) := by decide +kernel
theorem dX6_copyOf_26 : decode cX6_copyOf 26 = .ok (.getfield 53, 3) := by decide +kernel
theorem dX6_copyOf_29 : decode cX6_copyOf 29 = .ok (.putfield 53, 3) := by decide +kernel
theorem dX6_copyOf_32 : decode cX6_copyOf 32 = .ok (.aload_n 0, 1) := by decide +kernel
theorem dX6_copyOf_33 : decode cX6_copyOf 33 = .ok (.aload_n 1, 1) := by decide +kernel
theorem dX6_copyOf_34 : decode cX6_copyOf 34 = .ok (.getfield 56, 3) := by decide +kernel
theorem dX6_copyOf_37 : decode cX6_copyOf 37 = .ok (.putfield 56, 3) := by decide +kernel
theorem dX6_copyOf_40 : decode cX6_copyOf 40 = .ok (.aload_n 0, 1) := by decide +kernel
theorem dX6_copyOf_41 : decode cX6_copyOf 41 = .ok (.aload_n 1, 1) := by decide +kernel
theorem dX6_copyOf_42 : decode cX6_copyOf 42 = .ok (.getfield 59, 3) := by decide +kernel
theorem dX6_copyOf_45 : decode cX6_copyOf 45 = .ok (.putfield 59, 3) := by decide +kernel
theorem dX6_copyOf_48 : decode cX6_copyOf 48 = .ok (.aload_n 1, 1) := by decide +kernel
theorem dX6_copyOf_49 : decode cX6_copyOf 49 = .ok (.getfield 9, 3) := by decide +kernel
theorem dX6_copyOf_52 : decode cX6_copyOf 52 = .ok (.iconst 0, 1) := by decide +kernel
theorem dX6_copyOf_53 : decode cX6_copyOf 53 = .ok (.aload_n 0, 1) := by decide +kernel
theorem dX6_copyOf_54 : decode cX6_copyOf 54 = .ok (.getfield 9, 3) := by decide +kernel
theorem dX6_copyOf_57 : decode cX6_copyOf 57 = .ok (.iconst 0, 1) := by decide +kernel
theorem dX6_copyOf_58 : decode cX6_copyOf 58 = .ok (.bipush 10, 2) := by decide +kernel
theorem dX6_copyOf_60 : decode cX6_copyOf 60 = .ok (.invokestatic 68, 3) := by decide +kernel
theorem dX6_copyOf_63 : decode cX6_copyOf 63 = .ok (.aload_n 1, 1) := by decide +kernel
theorem dX6_copyOf_64 : decode cX6_copyOf 64 = .ok (.getfield 15, 3) := by decide +kernel
theorem dX6_copyOf_67 : decode cX6_copyOf 67 = .ok (.iconst 0, 1) := by decide +kernel
theorem dX6_copyOf_68 : decode cX6_copyOf 68 = .ok (.aload_n 0, 1) := by decide +kernel
theorem dX6_copyOf_69 : decode cX6_copyOf 69 = .ok (.getfield 15, 3) := by decide +kernel
theorem dX6_copyOf_72 : decode cX6_copyOf 72 = .ok (.iconst 0, 1) := by decide +kernel
theorem dX6_copyOf_73 : decode cX6_copyOf 73 = .ok (.bipush 10, 2) := by decide +kernel
theorem dX6_copyOf_75 : decode cX6_copyOf 75 = .ok (.invokestatic 68, 3) := by decide +kernel
theorem dX6_copyOf_78 : decode cX6_copyOf 78 = .ok (.aload_n 1, 1) := by decide +kernel
theorem dX6_copyOf_79 : decode cX6_copyOf 79 = .ok (.getfield 19, 3) := by decide +kernel
theorem dX6_copyOf_82 : decode cX6_copyOf 82 = .ok (.iconst 0, 1) := by decide +kernel
theorem dX6_copyOf_83 : decode cX6_copyOf 83 = .ok (.aload_n 0, 1) := by decide +kernel
theorem dX6_copyOf_84 : decode cX6_copyOf 84 = .ok (.getfield 19, 3) := by decide +kernel
theorem dX6_copyOf_87 : decode cX6_copyOf 87 = .ok (.iconst 0, 1) := by decide +kernel
theorem dX6_copyOf_88 : decode cX6_copyOf 88 = .ok (.bipush 10, 2) := by decide +kernel
theorem dX6_copyOf_90 : decode cX6_copyOf 90 = .ok (.invokestatic 68, 3) := by decide +kernel
theorem dX6_copyOf_93 : decode cX6_copyOf 93 = .ok (.aload_n 1, 1) := by decide +kernel
theorem dX6_copyOf_94 : decode cX6_copyOf 94 = .ok (.getfield 22, 3) := by decide +kernel
theorem dX6_copyOf_97 : decode cX6_copyOf 97 = .ok (.iconst 0, 1) := by decide +kernel
theorem dX6_copyOf_98 : decode cX6_copyOf 98 = .ok (.aload_n 0, 1) := by decide +kernel
theorem dX6_copyOf_99 : decode cX6_copyOf 99 = .ok (.getfield 22, 3) := by decide +kernel
theorem dX6_copyOf_102 : decode cX6_copyOf 102 = .ok (.iconst 0, 1) := by decide +kernel
theorem dX6_copyOf_103 : decode cX6_copyOf 103 = .ok (.bipush 10, 2) := by decide +kernel
theorem dX6_copyOf_105 : decode cX6_copyOf 105 = .ok (.invokestatic 68, 3) := by decide +kernel
theorem dX6_copyOf_108 : decode cX6_copyOf 108 = .ok (.aload_n 1, 1) := by decide +kernel
theorem dX6_copyOf_109 : decode cX6_copyOf 109 = .ok (.getfield 25, 3) := by decide +kernel
theorem dX6_copyOf_112 : decode cX6_copyOf 112 = .ok (.iconst 0, 1) := by decide +kernel
theorem dX6_copyOf_113 : decode cX6_copyOf 113 = .ok (.aload_n 0, 1) := by decide +kernel
theorem dX6_copyOf_114 : decode cX6_copyOf 114 = .ok (.getfield 25, 3) := by decide +kernel
theorem dX6_copyOf_117 : decode cX6_copyOf 117 = .ok (.iconst 0, 1) := by decide +kernel
theorem dX6_copyOf_118 : decode cX6_copyOf 118 = .ok (.bipush 10, 2) := by decide +kernel
theorem dX6_copyOf_120 : decode cX6_copyOf 120 = .ok (.invokestatic 68, 3) := by decide +kernel
theorem dX6_copyOf_123 : decode cX6_copyOf 123 = .ok (.aload_n 1, 1) := by decide +kernel
theorem dX6_copyOf_124 : decode cX6_copyOf 124 = .ok (.getfield 28, 3) := by decide +kernel
theorem dX6_copyOf_127 : decode cX6_copyOf 127 = .ok (.iconst 0, 1) := by decide +kernel
theorem dX6_copyOf_128 : decode cX6_copyOf 128 = .ok (.aload_n 0, 1) := by decide +kernel
theorem dX6_copyOf_129 : decode cX6_copyOf 129 = .ok (.getfield 28, 3) := by decide +kernel
theorem dX6_copyOf_132 : decode cX6_copyOf 132 = .ok (.iconst 0, 1) := by decide +kernel
theorem dX6_copyOf_133 : decode cX6_copyOf 133 = .ok (.bipush 36, 2) := by decide +kernel
theorem dX6_copyOf_135 : decode cX6_copyOf 135 = .ok (.invokestatic 68, 3) := by decide +kernel
theorem dX6_copyOf_138 : decode cX6_copyOf 138 = .ok (.aload_n 1, 1) := by decide +kernel
theorem dX6_copyOf_139 : decode cX6_copyOf 139 = .ok (.getfield 31, 3) := by decide +kernel
theorem dX6_copyOf_142 : decode cX6_copyOf 142 = .ok (.iconst 0, 1) := by decide +kernel
theorem dX6_copyOf_143 : decode cX6_copyOf 143 = .ok (.aload_n 0, 1) := by decide +kernel
theorem dX6_copyOf_144 : decode cX6_copyOf 144 = .ok (.getfield 31, 3) := by decide +kernel
theorem dX6_copyOf_147 : decode cX6_copyOf 147 = .ok (.iconst 0, 1) := by decide +kernel
theorem dX6_copyOf_148 : decode cX6_copyOf 148 = .ok (.bipush 6, 2) := by decide +kernel
theorem dX6_copyOf_150 : decode cX6_copyOf 150 = .ok (.invokestatic 68, 3) := by decide +kernel
theorem dX6_copyOf_153 : decode cX6_copyOf 153 = .ok (.aload_n 1, 1) := by decide +kernel
theorem dX6_copyOf_154 : decode cX6_copyOf 154 = .ok (.getfield 34, 3) := by decide +kernel
theorem dX6_copyOf_157 : decode cX6_copyOf 157 = .ok (.iconst 0, 1) := by decide +kernel
theorem dX6_copyOf_158 : decode cX6_copyOf 158 = .ok (.aload_n 0, 1) := by decide +kernel
theorem dX6_copyOf_159 : decode cX6_copyOf 159 = .ok (.getfield 34, 3) := by decide +kernel
theorem dX6_copyOf_162 : decode cX6_copyOf 162 = .ok (.iconst 0, 1) := by decide +kernel
theorem dX6_copyOf_163 : decode cX6_copyOf 163 = .ok (.bipush 6, 2) := by decide +kernel
theorem dX6_copyOf_165 : decode cX6_copyOf 165 = .ok (.invokestatic 68, 3) := by decide +kernel
theorem dX6_copyOf_168 : decode cX6_copyOf 168 = .ok (.aload_n 1, 1) := by decide +kernel
theorem dX6_copyOf_169 : decode cX6_copyOf 169 = .ok (.getfield 37, 3) := by decide +kernel
theorem dX6_copyOf_172 : decode cX6_copyOf 172 = .ok (.iconst 0, 1) := by decide +kernel
theorem dX6_copyOf_173 : decode cX6_copyOf 173 = .ok (.aload_n 0, 1) := by decide +kernel
theorem dX6_copyOf_174 : decode cX6_copyOf 174 = .ok (.getfield 37, 3) := by decide +kernel
theorem dX6_copyOf_177 : decode cX6_copyOf 177 = .ok (.iconst 0, 1) := by decide +kernel
theorem dX6_copyOf_178 : decode cX6_copyOf 178 = .ok (.bipush 6, 2) := by decide +kernel
theorem dX6_copyOf_180 : decode cX6_copyOf 180 = .ok (.invokestatic 68, 3) := by decide +kernel
theorem dX6_copyOf_183 : decode cX6_copyOf 183 = .ok (.return_, 1) := by decide +kernel
def tX6_copyOf (kn : sKn) : List (Nat × sA) := [(0, a_aload 0 1), (1, a_aload 1 2), (2, a_get 7 0 5), (5, a_put 7 0 ckI 8), (8, a_aload 0 9), (9, a_aload 1 10), (10, a_get 7 1 13), (13, a_put 7 1 ckI 16), (16, a_aload 0 17), (17, a_aload 1 18), (18, a_get 7 2 21), (21, a_put 7 2 ckI 24), (24, a_aload 0 25), (25, a_aload 1 26), (26, a_get 7 3 29), (29, a_put 7 3 ckI 32), (32, a_aload 0 33), (33, a_aload 1 34), (34, a_get 7 4 37), (37, a_put 7 4 ckI 40), (40, a_aload 0 41), (41, a_aload 1 42), (42, a_get 7 5 45), (45, a_put 7 5 ckI 48), (48, a_aload 1 49), (49, a_get 7 6 52), (52, a_stk (q_int 0) 53), (53, a_aload 0 54), (54, a_get 7 6 57), (57, a_stk (q_int 0) 58), (58, a_stk (q_int 10) 60), (60, a_copy 63), (63, a_aload 1 64), (64, a_get 7 7 67), (67, a_stk (q_int 0) 68), (68, a_aload 0 69), (69, a_get 7 7 72), (72, a_stk (q_int 0) 73), (73, a_stk (q_int 10) 75), (75, a_copy 78), (78, a_aload 1 79), (79, a_get 7 8 82), (82, a_stk (q_int 0) 83), (83, a_aload 0 84), (84, a_get 7 8 87), (87, a_stk (q_int 0) 88), (88, a_stk (q_int 10) 90), (90, a_copy 93), (93, a_aload 1 94), (94, a_get 7 9 97), (97, a_stk (q_int 0) 98), (98, a_aload 0 99), (99, a_get 7 9 102), (102, a_stk (q_int 0) 103), (103, a_stk (q_int 10) 105), (105, a_copy 108), (108, a_aload 1 109), (109, a_get 7 10 112), (112, a_stk (q_int 0) 113), (113, a_aload 0 114), (114, a_get 7 10 117), (117, a_stk (q_int 0) 118), (118, a_stk (q_int 10) 120), (120, a_copy 123), (123, a_aload 1 124), (124, a_get 7 11 127), (127, a_stk (q_int 0) 128), (128, a_aload 0 129), (129, a_get 7 11 132), (132, a_stk (q_int 0) 133), (133, a_stk (q_int 36) 135), (135, a_copy 138), (138, a_aload 1 139), (139, a_get 7 12 142), (142, a_stk (q_int 0) 143), (143, a_aload 0 144), (144, a_get 7 12 147), (147, a_stk (q_int 0) 148), (148, a_stk (q_int 6) 150), (150, a_copy 153), (153, a_aload 1 154), (154, a_get 7 13 157), (157, a_stk (q_int 0) 158), (158, a_aload 0 159), (159, a_get 7 13 162), (162, a_stk (q_int 0) 163), (163, a_stk (q_int 6) 165), (165, a_copy 168), (168, a_aload 1 169), (169, a_get 7 14 172), (172, a_stk (q_int 0) 173), (173, a_aload 0 174), (174, a_get 7 14 177), (177, a_stk (q_int 0) 178), (178, a_stk (q_int 6) 180), (180, a_copy 183), (183, a_vret)]
def fX6_copyOf (kn : sKn) : List Value → sW → Option sR := fW (tX6_copyOf kn) 2
set_option maxRecDepth 100000 in
set_option maxHeartbeats 4000000 in
theorem mX6_copyOf (kn : sKn) : mM kn yX6_copyOf (Cond.code yX6_copyOf cX6_copyOf 2 none :: wsL_law) 1 true (fX6_copyOf kn) := mM_W (fun n => mM_of (own := RX6) (ini := false) rfl (by decide +kernel) (by decide +kernel) (all_c (ok_aload_n dX6_copyOf_0 rfl) (all_c (ok_aload_n dX6_copyOf_1 rfl) (all_c (okg_X6_0 kw600 dX6_copyOf_2) (all_c (okp_X6_0 kw600 dX6_copyOf_5) (all_c (ok_aload_n dX6_copyOf_8 rfl) (all_c (ok_aload_n dX6_copyOf_9 rfl) (all_c (okg_X6_1 kw601 dX6_copyOf_10) (all_c (okp_X6_1 kw601 dX6_copyOf_13) (all_c (ok_aload_n dX6_copyOf_16 rfl) (all_c (ok_aload_n dX6_copyOf_17 rfl) (all_c (okg_X6_2 kw449 dX6_copyOf_18) (all_c (okp_X6_2 kw449 dX6_copyOf_21) (all_c (ok_aload_n dX6_copyOf_24 rfl) (all_c (ok_aload_n dX6_copyOf_25 rfl) (all_c (okg_X6_3 kw447 dX6_copyOf_26) (all_c (okp_X6_3 kw447 dX6_copyOf_29) (all_c (ok_aload_n dX6_copyOf_32 rfl) (all_c (ok_aload_n dX6_copyOf_33 rfl) (all_c (okg_X6_4 kw602 dX6_copyOf_34) (all_c (okp_X6_4 kw602 dX6_copyOf_37) (all_c (ok_aload_n dX6_copyOf_40 rfl) (all_c (ok_aload_n dX6_copyOf_41 rfl) (all_c (okg_X6_5 kw603 dX6_copyOf_42) (all_c (okp_X6_5 kw603 dX6_copyOf_45) (all_c (ok_aload_n dX6_copyOf_48 rfl) (all_c (okg_X6_6 kw450 dX6_copyOf_49) (all_c (ok_stk (s_iconst dX6_copyOf_52 (by decide))) (all_c (ok_aload_n dX6_copyOf_53 rfl) (all_c (okg_X6_6 kw450 dX6_copyOf_54) (all_c (ok_stk (s_iconst dX6_copyOf_57 (by decide))) (all_c (ok_stk (s_bipush dX6_copyOf_58 (by decide))) (all_c (ok_copy (by decide) kw618 kw30 kw31 kw32 dX6_copyOf_60) (all_c (ok_aload_n dX6_copyOf_63 rfl) (all_c (okg_X6_7 kw619 dX6_copyOf_64) (all_c (ok_stk (s_iconst dX6_copyOf_67 (by decide))) (all_c (ok_aload_n dX6_copyOf_68 rfl) (all_c (okg_X6_7 kw619 dX6_copyOf_69) (all_c (ok_stk (s_iconst dX6_copyOf_72 (by decide))) (all_c (ok_stk (s_bipush dX6_copyOf_73 (by decide))) (all_c (ok_copy (by decide) kw618 kw30 kw31 kw32 dX6_copyOf_75) (all_c (ok_aload_n dX6_copyOf_78 rfl) (all_c (okg_X6_8 kw620 dX6_copyOf_79) (all_c (ok_stk (s_iconst dX6_copyOf_82 (by decide))) (all_c (ok_aload_n dX6_copyOf_83 rfl) (all_c (okg_X6_8 kw620 dX6_copyOf_84) (all_c (ok_stk (s_iconst dX6_copyOf_87 (by decide))) (all_c (ok_stk (s_bipush dX6_copyOf_88 (by decide))) (all_c (ok_copy (by decide) kw618 kw30 kw31 kw32 dX6_copyOf_90) (all_c (ok_aload_n dX6_copyOf_93 rfl) (all_c (okg_X6_9 kw604 dX6_copyOf_94) (all_c (ok_stk (s_iconst dX6_copyOf_97 (by decide))) (all_c (ok_aload_n dX6_copyOf_98 rfl) (all_c (okg_X6_9 kw604 dX6_copyOf_99) (all_c (ok_stk (s_iconst dX6_copyOf_102 (by decide))) (all_c (ok_stk (s_bipush dX6_copyOf_103 (by decide))) (all_c (ok_copy (by decide) kw618 kw30 kw31 kw32 dX6_copyOf_105) (all_c (ok_aload_n dX6_copyOf_108 rfl) (all_c (okg_X6_10 kw157 dX6_copyOf_109) (all_c (ok_stk (s_iconst dX6_copyOf_112 (by decide))) (all_c (ok_aload_n dX6_copyOf_113 rfl) (all_c (okg_X6_10 kw157 dX6_copyOf_114) (all_c (ok_stk (s_iconst dX6_copyOf_117 (by decide))) (all_c (ok_stk (s_bipush dX6_copyOf_118 (by decide))) (all_c (ok_copy (by decide) kw618 kw30 kw31 kw32 dX6_copyOf_120) (all_c (ok_aload_n dX6_copyOf_123 rfl) (all_c (okg_X6_11 kw554 dX6_copyOf_124) (all_c (ok_stk (s_iconst dX6_copyOf_127 (by decide))) (all_c (ok_aload_n dX6_copyOf_128 rfl) (all_c (okg_X6_11 kw554 dX6_copyOf_129) (all_c (ok_stk (s_iconst dX6_copyOf_132 (by decide))) (all_c (ok_stk (s_bipush dX6_copyOf_133 (by decide))) (all_c (ok_copy (by decide) kw618 kw30 kw31 kw32 dX6_copyOf_135) (all_c (ok_aload_n dX6_copyOf_138 rfl) (all_c (okg_X6_12 kw448 dX6_copyOf_139) (all_c (ok_stk (s_iconst dX6_copyOf_142 (by decide))) (all_c (ok_aload_n dX6_copyOf_143 rfl) (all_c (okg_X6_12 kw448 dX6_copyOf_144) (all_c (ok_stk (s_iconst dX6_copyOf_147 (by decide))) (all_c (ok_stk (s_bipush dX6_copyOf_148 (by decide))) (all_c (ok_copy (by decide) kw618 kw30 kw31 kw32 dX6_copyOf_150) (all_c (ok_aload_n dX6_copyOf_153 rfl) (all_c (okg_X6_13 kw621 dX6_copyOf_154) (all_c (ok_stk (s_iconst dX6_copyOf_157 (by decide))) (all_c (ok_aload_n dX6_copyOf_158 rfl) (all_c (okg_X6_13 kw621 dX6_copyOf_159) (all_c (ok_stk (s_iconst dX6_copyOf_162 (by decide))) (all_c (ok_stk (s_bipush dX6_copyOf_163 (by decide))) (all_c (ok_copy (by decide) kw618 kw30 kw31 kw32 dX6_copyOf_165) (all_c (ok_aload_n dX6_copyOf_168 rfl) (all_c (okg_X6_14 kw622 dX6_copyOf_169) (all_c (ok_stk (s_iconst dX6_copyOf_172 (by decide))) (all_c (ok_aload_n dX6_copyOf_173 rfl) (all_c (okg_X6_14 kw622 dX6_copyOf_174) (all_c (ok_stk (s_iconst dX6_copyOf_177 (by decide))) (all_c (ok_stk (s_bipush dX6_copyOf_178 (by decide))) (all_c (ok_copy (by decide) kw618 kw30 kw31 kw32 dX6_copyOf_180) (all_c (ok_vret dX6_copyOf_183) all_n))))))))))))))))))))))))))))))))))))))))))))))))))))))))))))))))))))))))))))))))))))))))))))))))) n (fun h => by first | rfl | cases h))
theorem dX7_forget_0 : decode cX7_forget 0 = .ok (.aload_n 0, 1) := by decide +kernel
theorem dX7_forget_1 : decode cX7_forget 1 = .ok (.iconst 0, 1) := by decide +kernel
theorem dX7_forget_2 : decode cX7_forget 2 = .ok (.putfield 27, 3) := by decide +kernel
theorem dX7_forget_5 : decode cX7_forget 5 = .ok (.aload_n 0, 1) := by decide +kernel
theorem dX7_forget_6 : decode cX7_forget 6 = .ok (.iconst 0, 1) := by decide +kernel
theorem dX7_forget_7 : decode cX7_forget 7 = .ok (.putfield 31, 3) := by decide +kernel
theorem dX7_forget_10 : decode cX7_forget 10 = .ok (.return_, 1) := by decide +kernel
def tX7_forget (kn : sKn) : List (Nat × sA) := [(0, a_aload 0 1), (1, a_stk (q_int 0) 2), (2, a_put 8 8 ckI 5), (5, a_aload 0 6), (6, a_stk (q_int 0) 7), (7, a_put 8 3 ckI 10), (10, a_vret)]
def fX7_forget (kn : sKn) : List Value → sW → Option sR := fW (tX7_forget kn) 1
set_option maxRecDepth 100000 in
set_option maxHeartbeats 4000000 in
theorem mX7_forget (kn : sKn) : mM kn yX7_forget (Cond.code yX7_forget cX7_forget 1 none :: wsL_law) 1 true (fX7_forget kn) := mM_W (fun n => mM_of (own := RX7) (ini := false) rfl (by decide +kernel) (by decide +kernel) (all_c (ok_aload_n dX7_forget_0 rfl) (all_c (ok_stk (s_iconst dX7_forget_1 (by decide))) (all_c (okp_X7_8 kw623 dX7_forget_2) (all_c (ok_aload_n dX7_forget_5 rfl) (all_c (ok_stk (s_iconst dX7_forget_6 (by decide))) (all_c (okp_X7_3 kw624 dX7_forget_7) (all_c (ok_vret dX7_forget_10) all_n))))))) n (fun h => by first | rfl | cases h))
theorem dX8_begin_0 : decode cX8_begin 0 = .ok (.aload_n 0, 1) := by decide +kernel
theorem dX8_begin_1 : decode cX8_begin 1 = .ok (.iconst 0, 1) := by decide +kernel
theorem dX8_begin_2 : decode cX8_begin 2 = .ok (.putfield 36, 3) := by decide +kernel
theorem dX8_begin_5 : decode cX8_begin 5 = .ok (.aload_n 0, 1) := by decide +kernel
theorem dX8_begin_6 : decode cX8_begin 6 = .ok (.iconst 0, 1) := by decide +kernel
theorem dX8_begin_7 : decode cX8_begin 7 = .ok (.putfield 40, 3) := by decide +kernel
theorem dX8_begin_10 : decode cX8_begin 10 = .ok (.aload_n 0, 1) := by decide +kernel
theorem dX8_begin_11 : decode cX8_begin 11 = .ok (.iconst 0, 1) := by decide +kernel
theorem dX8_begin_12 : decode cX8_begin 12 = .ok (.putfield 43, 3) := by decide +kernel
theorem dX8_begin_15 : decode cX8_begin 15 = .ok (.aload_n 0, 1) := by decide +kernel
theorem dX8_begin_16 : decode cX8_begin 16 = .ok (.getfield 15, 3) := by decide +kernel
theorem dX8_begin_19 : decode cX8_begin 19 = .ok (.iconst (-1), 1) := by decide +kernel
theorem dX8_begin_20 : decode cX8_begin 20 = .ok (.invokestatic 30, 3) := by decide +kernel
theorem dX8_begin_23 : decode cX8_begin 23 = .ok (.aload_n 0, 1) := by decide +kernel
theorem dX8_begin_24 : decode cX8_begin 24 = .ok (.getfield 24, 3) := by decide +kernel
theorem dX8_begin_27 : decode cX8_begin 27 = .ok (.iconst 0, 1) := by decide +kernel
theorem dX8_begin_28 : decode cX8_begin 28 = .ok (.invokestatic 30, 3) := by decide +kernel
theorem dX8_begin_31 : decode cX8_begin 31 = .ok (.aload_n 0, 1) := by decide +kernel
theorem dX8_begin_32 : decode cX8_begin 32 = .ok (.getfield 27, 3) := by decide +kernel
theorem dX8_begin_35 : decode cX8_begin 35 = .ok (.iconst 0, 1) := by decide +kernel
theorem dX8_begin_36 : decode cX8_begin 36 = .ok (.invokestatic 30, 3) := by decide +kernel
theorem dX8_begin_39 : decode cX8_begin 39 = .ok (.aload_n 1, 1) := by decide +kernel
theorem dX8_begin_40 : decode cX8_begin 40 = .ok (.getfield 46, 3) := by decide +kernel
theorem dX8_begin_43 : decode cX8_begin 43 = .ok (.iconst 0, 1) := by decide +kernel
theorem dX8_begin_44 : decode cX8_begin 44 = .ok (.aload_n 0, 1) := by decide +kernel
theorem dX8_begin_45 : decode cX8_begin 45 = .ok (.getfield 9, 3) := by decide +kernel
theorem dX8_begin_48 : decode cX8_begin 48 = .ok (.iconst 0, 1) := by decide +kernel
theorem dX8_begin_49 : decode cX8_begin 49 = .ok (.bipush 10, 2) := by decide +kernel
theorem dX8_begin_51 : decode cX8_begin 51 = .ok (.invokestatic 49, 3) := by decide +kernel
theorem dX8_begin_54 : decode cX8_begin 54 = .ok (.aload_n 1, 1) := by decide +kernel
theorem dX8_begin_55 : decode cX8_begin 55 = .ok (.getfield 55, 3) := by decide +kernel
theorem dX8_begin_58 : decode cX8_begin 58 = .ok (.iconst 0, 1) := by decide +kernel
theorem dX8_begin_59 : decode cX8_begin 59 = .ok (.aload_n 0, 1) := by decide +kernel
theorem dX8_begin_60 : decode cX8_begin 60 = .ok (.getfield 21, 3) := by decide +kernel
theorem dX8_begin_63 : decode cX8_begin 63 = .ok (.iconst 0, 1) := by decide +kernel
theorem dX8_begin_64 : decode cX8_begin 64 = .ok (.bipush 36, 2) := by decide +kernel
theorem dX8_begin_66 : decode cX8_begin 66 = .ok (.invokestatic 49, 3) := by decide +kernel
theorem dX8_begin_69 : decode cX8_begin 69 = .ok (.iconst 0, 1) := by decide +kernel
theorem dX8_begin_70 : decode cX8_begin 70 = .ok (.istore_n 2, 1) := by decide +kernel
theorem dX8_begin_71 : decode cX8_begin 71 = .ok (.iload_n 2, 1) := by decide +kernel
theorem dX8_begin_72 : decode cX8_begin 72 = .ok (.bipush 10, 2) := by decide +kernel
theorem dX8_begin_74 : decode cX8_begin 74 = .ok (.if_icmp .ge 20, 3) := by decide +kernel
theorem dX8_begin_77 : decode cX8_begin 77 = .ok (.aload_n 0, 1) := by decide +kernel
theorem dX8_begin_78 : decode cX8_begin 78 = .ok (.getfield 18, 3) := by decide +kernel
theorem dX8_begin_81 : decode cX8_begin 81 = .ok (.iload_n 2, 1) := by decide +kernel
theorem dX8_begin_82 : decode cX8_begin 82 = .ok (.aload_n 1, 1) := by decide +kernel
theorem dX8_begin_83 : decode cX8_begin 83 = .ok (.iload_n 2, 1) := by decide +kernel
theorem dX8_begin_84 : decode cX8_begin 84 = .ok (.invokevirtual 56, 3) := by decide +kernel
theorem dX8_begin_87 : decode cX8_begin 87 = .ok (.iastore, 1) := by decide +kernel
theorem dX8_begin_88 : decode cX8_begin 88 = .ok (.iinc 2 1, 3) := by decide +kernel
theorem dX8_begin_91 : decode cX8_begin 91 = .ok (.goto (-20), 3) := by decide +kernel
theorem dX8_begin_94 : decode cX8_begin 94 = .ok (.return_, 1) := by decide +kernel
def tX8_begin (kn : sKn) : List (Nat × sA) := [(0, a_aload 0 1), (1, a_stk (q_int 0) 2), (2, a_put 9 0 ckI 5), (5, a_aload 0 6), (6, a_stk (q_int 0) 7), (7, a_put 9 1 ckI 10), (10, a_aload 0 11), (11, a_stk (q_int 0) 12), (12, a_put 9 2 ckI 15), (15, a_aload 0 16), (16, a_get 9 4 19), (19, a_stk (q_int (-1)) 20), (20, a_callS true (fJ7_fill_53178 kn) 2 23), (23, a_aload 0 24), (24, a_get 9 7 27), (27, a_stk (q_int 0) 28), (28, a_callS true (fJ7_fill_53178 kn) 2 31), (31, a_aload 0 32), (32, a_get 9 8 35), (35, a_stk (q_int 0) 36), (36, a_callS true (fJ7_fill_53178 kn) 2 39), (39, a_aload 1 40), (40, a_get 7 7 43), (43, a_stk (q_int 0) 44), (44, a_aload 0 45), (45, a_get 9 3 48), (48, a_stk (q_int 0) 49), (49, a_stk (q_int 10) 51), (51, a_copy 54), (54, a_aload 1 55), (55, a_get 7 11 58), (58, a_stk (q_int 0) 59), (59, a_aload 0 60), (60, a_get 9 6 63), (63, a_stk (q_int 0) 64), (64, a_stk (q_int 36) 66), (66, a_copy 69), (69, a_stk (q_int 0) 70), (70, a_istore 2 71), (71, a_iload 2 72), (72, a_stk (q_int 10) 74), (74, a_icmp kn b_ge 3 94 77), (77, a_aload 0 78), (78, a_get 9 5 81), (81, a_iload 2 82), (82, a_aload 1 83), (83, a_iload 2 84), (84, a_callV false (fX6_countPlanksOf kn) 7 2 87), (87, a_iast 88), (88, a_iinc 2 1 91), (91, a_goto 71), (94, a_vret)]
def fX8_begin (kn : sKn) : List Value → sW → Option sR := fW (tX8_begin kn) 3
set_option maxRecDepth 100000 in
set_option maxHeartbeats 4000000 in
theorem mX8_begin (kn : sKn) : mM kn yX8_begin (Cond.code yX8_begin cX8_begin 3 none :: wsL_law) 2 true (fX8_begin kn) := mM_W (fun n => mM_of (own := RX8) (ini := false) rfl (by decide +kernel) (by decide +kernel) (all_c (ok_aload_n dX8_begin_0 rfl) (all_c (ok_stk (s_iconst dX8_begin_1 (by decide))) (all_c (okp_X8_0 kw203 dX8_begin_2) (all_c (ok_aload_n dX8_begin_5 rfl) (all_c (ok_stk (s_iconst dX8_begin_6 (by decide))) (all_c (okp_X8_1 kw204 dX8_begin_7) (all_c (ok_aload_n dX8_begin_10 rfl) (all_c (ok_stk (s_iconst dX8_begin_11 (by decide))) (all_c (okp_X8_2 kw205 dX8_begin_12) (all_c (ok_aload_n dX8_begin_15 rfl) (all_c (okg_X8_4 kw182 dX8_begin_16) (all_c (ok_stk (s_iconst dX8_begin_19 (by decide))) (all_c (okc_J7_fill_53178 (by decide) kw230 dX8_begin_20) (all_c (ok_aload_n dX8_begin_23 rfl) (all_c (okg_X8_7 kw210 dX8_begin_24) (all_c (ok_stk (s_iconst dX8_begin_27 (by decide))) (all_c (okc_J7_fill_53178 (by decide) kw230 dX8_begin_28) (all_c (ok_aload_n dX8_begin_31 rfl) (all_c (okg_X8_8 kw211 dX8_begin_32) (all_c (ok_stk (s_iconst dX8_begin_35 (by decide))) (all_c (okc_J7_fill_53178 (by decide) kw230 dX8_begin_36) (all_c (ok_aload_n dX8_begin_39 rfl) (all_c (okg_X6_7 kw625 dX8_begin_40) (all_c (ok_stk (s_iconst dX8_begin_43 (by decide))) (all_c (ok_aload_n dX8_begin_44 rfl) (all_c (okg_X8_3 kw206 dX8_begin_45) (all_c (ok_stk (s_iconst dX8_begin_48 (by decide))) (all_c (ok_stk (s_bipush dX8_begin_49 (by decide))) (all_c (ok_copy (by decide) kw207 kw30 kw31 kw32 dX8_begin_51) (all_c (ok_aload_n dX8_begin_54 rfl) (all_c (okg_X6_11 kw626 dX8_begin_55) (all_c (ok_stk (s_iconst dX8_begin_58 (by decide))) (all_c (ok_aload_n dX8_begin_59 rfl) (all_c (okg_X8_6 kw209 dX8_begin_60) (all_c (ok_stk (s_iconst dX8_begin_63 (by decide))) (all_c (ok_stk (s_bipush dX8_begin_64 (by decide))) (all_c (ok_copy (by decide) kw207 kw30 kw31 kw32 dX8_begin_66) (all_c (ok_stk (s_iconst dX8_begin_69 (by decide))) (all_c (ok_istore_n dX8_begin_70 rfl (by decide)) (all_c (ok_iload_n dX8_begin_71 rfl) (all_c (ok_stk (s_bipush dX8_begin_72 (by decide))) (all_c (ok_icmp_ge dX8_begin_74 (by decide)) (all_c (ok_aload_n dX8_begin_77 rfl) (all_c (okg_X8_5 kw208 dX8_begin_78) (all_c (ok_iload_n dX8_begin_81 rfl) (all_c (ok_aload_n dX8_begin_82 rfl) (all_c (ok_iload_n dX8_begin_83 rfl) (all_c (okc_X6_countPlanksOf (by decide) kw627 dX8_begin_84) (all_c (ok_iast dX8_begin_87) (all_c (ok_iinc dX8_begin_88 (by decide) (by decide)) (all_c (ok_goto dX8_begin_91 (by decide)) (all_c (ok_vret dX8_begin_94) all_n)))))))))))))))))))))))))))))))))))))))))))))))))))) n (fun h => by first | rfl | cases h))
theorem dX11_bridge_0 : decode cX11_bridge 0 = .ok (.aload_n 0, 1) := by decide +kernel
theorem dX11_bridge_1 : decode cX11_bridge 1 = .ok (.getfield 19, 3) := by decide +kernel
theorem dX11_bridge_4 : decode cX11_bridge 4 = .ok (.aload_n 0, 1) := by decide +kernel
theorem dX11_bridge_5 : decode cX11_bridge 5 = .ok (.getfield 10, 3) := by decide +kernel
theorem dX11_bridge_8 : decode cX11_bridge 8 = .ok (.invokevirtual 123, 3) := by decide +kernel
theorem dX11_bridge_11 : decode cX11_bridge 11 = .ok (.istore_n 1, 1) := by decide +kernel
theorem dX11_bridge_12 : decode cX11_bridge 12 = .ok (.aload_n 0, 1) := by decide +kernel
theorem dX11_bridge_13 : decode cX11_bridge 13 = .ok (.getfield 10, 3) := by decide +kernel
theorem dX11_bridge_16 : decode cX11_bridge 16 = .ok (.iconst 0, 1) := by decide +kernel
theorem dX11_bridge_17 : decode cX11_bridge 17 = .ok (.putfield 115, 3) := by decide +kernel
theorem dX11_bridge_20 : decode cX11_bridge 20 = .ok (.iload_n 1, 1) := by decide +kernel
theorem dX11_bridge_21 : decode cX11_bridge 21 = .ok (.ifCond .ne 13, 3) := by decide +kernel
theorem dX11_bridge_24 : decode cX11_bridge 24 = .ok (.iconst (-1), 1) := by decide +kernel
theorem dX11_bridge_25 : decode cX11_bridge 25 = .ok (.aload_n 0, 1) := by decide +kernel
theorem dX11_bridge_26 : decode cX11_bridge 26 = .ok (.getfield 10, 3) := by decide +kernel
theorem dX11_bridge_29 : decode cX11_bridge 29 = .ok (.getfield 127, 3) := by decide +kernel
theorem dX11_bridge_32 : decode cX11_bridge 32 = .ok (.isub, 1) := by decide +kernel
theorem dX11_bridge_33 : decode cX11_bridge 33 = .ok (.ireturn, 1) := by decide +kernel
theorem dX11_bridge_34 : decode cX11_bridge 34 = .ok (.aload_n 0, 1) := by decide +kernel
theorem dX11_bridge_35 : decode cX11_bridge 35 = .ok (.getfield 26, 3) := by decide +kernel
theorem dX11_bridge_38 : decode cX11_bridge 38 = .ok (.aload_n 0, 1) := by decide +kernel
theorem dX11_bridge_39 : decode cX11_bridge 39 = .ok (.getfield 19, 3) := by decide +kernel
theorem dX11_bridge_42 : decode cX11_bridge 42 = .ok (.getfield 130, 3) := by decide +kernel
theorem dX11_bridge_45 : decode cX11_bridge 45 = .ok (.invokevirtual 131, 3) := by decide +kernel
theorem dX11_bridge_48 : decode cX11_bridge 48 = .ok (.aload_n 0, 1) := by decide +kernel
theorem dX11_bridge_49 : decode cX11_bridge 49 = .ok (.getfield 33, 3) := by decide +kernel
theorem dX11_bridge_52 : decode cX11_bridge 52 = .ok (.aload_n 0, 1) := by decide +kernel
theorem dX11_bridge_53 : decode cX11_bridge 53 = .ok (.getfield 26, 3) := by decide +kernel
theorem dX11_bridge_56 : decode cX11_bridge 56 = .ok (.invokevirtual 135, 3) := by decide +kernel
theorem dX11_bridge_59 : decode cX11_bridge 59 = .ok (.aload_n 0, 1) := by decide +kernel
theorem dX11_bridge_60 : decode cX11_bridge 60 = .ok (.getfield 40, 3) := by decide +kernel
theorem dX11_bridge_63 : decode cX11_bridge 63 = .ok (.invokevirtual 138, 3) := by decide +kernel
theorem dX11_bridge_66 : decode cX11_bridge 66 = .ok (.aload_n 0, 1) := by decide +kernel
theorem dX11_bridge_67 : decode cX11_bridge 67 = .ok (.iconst 0, 1) := by decide +kernel
theorem dX11_bridge_68 : decode cX11_bridge 68 = .ok (.putfield 141, 3) := by decide +kernel
theorem dX11_bridge_71 : decode cX11_bridge 71 = .ok (.aload_n 0, 1) := by decide +kernel
theorem dX11_bridge_72 : decode cX11_bridge 72 = .ok (.getfield 19, 3) := by decide +kernel
theorem dX11_bridge_75 : decode cX11_bridge 75 = .ok (.getfield 144, 3) := by decide +kernel
theorem dX11_bridge_78 : decode cX11_bridge 78 = .ok (.ireturn, 1) := by decide +kernel
theorem okc_X2_read {kn : sKn} {cc : ByteArray} {own : String} {nL : Nat} {D : Nat} {ret : Option FieldType} {ini : Bool} {pc index : Nat} (hD : 10 + 1 ≤ D) (hl : Cond.methodLink own index yX2_read ∈ wsL_law) (hd : decode cc pc = .ok (.invokevirtual index, 3)) : mOk kn cc own nL wsL_law D ret ini pc (a_callV false (fX2_read kn) 3 (1 + 1) (pc + 3)) := ok_callV (mX2_read kn) (good_ws ws_good (fun _ h => h) kw629) hD (by decide) hl kw630 kw631 kw572 ⟨by decide +kernel, by decide +kernel, by decide +kernel⟩ rfl hd
theorem okc_X6_copyOf {kn : sKn} {cc : ByteArray} {own : String} {nL : Nat} {D : Nat} {ret : Option FieldType} {ini : Bool} {pc index : Nat} (hD : 1 + 1 ≤ D) (hl : Cond.methodLink own index yX6_copyOf ∈ wsL_law) (hd : decode cc pc = .ok (.invokevirtual index, 3)) : mOk kn cc own nL wsL_law D ret ini pc (a_callV true (fX6_copyOf kn) 7 (1 + 1) (pc + 3)) := ok_callV (mX6_copyOf kn) (good_ws ws_good (fun _ h => h) kw634) hD (by decide) hl kw635 kw636 kw162 ⟨by decide +kernel, by decide +kernel, by decide +kernel⟩ rfl hd
theorem okc_X8_begin {kn : sKn} {cc : ByteArray} {own : String} {nL : Nat} {D : Nat} {ret : Option FieldType} {ini : Bool} {pc index : Nat} (hD : 2 + 1 ≤ D) (hl : Cond.methodLink own index yX8_begin ∈ wsL_law) (hd : decode cc pc = .ok (.invokevirtual index, 3)) : mOk kn cc own nL wsL_law D ret ini pc (a_callV true (fX8_begin kn) 9 (1 + 1) (pc + 3)) := ok_callV (mX8_begin kn) (good_ws ws_good (fun _ h => h) kw638) hD (by decide) hl kw639 kw640 kw184 ⟨by decide +kernel, by decide +kernel, by decide +kernel⟩ rfl hd
theorem okc_X7_forget {kn : sKn} {cc : ByteArray} {own : String} {nL : Nat} {D : Nat} {ret : Option FieldType} {ini : Bool} {pc index : Nat} (hD : 1 + 1 ≤ D) (hl : Cond.methodLink own index yX7_forget ∈ wsL_law) (hd : decode cc pc = .ok (.invokevirtual index, 3)) : mOk kn cc own nL wsL_law D ret ini pc (a_callV true (fX7_forget kn) 8 (0 + 1) (pc + 3)) := ok_callV (mX7_forget kn) (good_ws ws_good (fun _ h => h) kw643) hD (by decide) hl kw645 kw646 kw644 ⟨by decide +kernel, by decide +kernel, by decide +kernel⟩ rfl hd
def tX11_bridge (kn : sKn) : List (Nat × sA) := [(0, a_aload 0 1), (1, a_get 12 1 4), (4, a_aload 0 5), (5, a_get 12 0 8), (8, a_callV false (fX2_read kn) 3 2 11), (11, a_istore 1 12), (12, a_aload 0 13), (13, a_get 12 0 16), (16, a_stk (q_int 0) 17), (17, a_put 10 1 ckI 20), (20, a_iload 1 21), (21, a_if kn b_ne 1 34 24), (24, a_stk (q_int (-1)) 25), (25, a_aload 0 26), (26, a_get 12 0 29), (29, a_get 10 12 32), (32, a_stk q_isub 33), (33, a_iret), (34, a_aload 0 35), (35, a_get 12 2 38), (38, a_aload 0 39), (39, a_get 12 1 42), (42, a_get 3 0 45), (45, a_callV true (fX6_copyOf kn) 7 2 48), (48, a_aload 0 49), (49, a_get 12 3 52), (52, a_aload 0 53), (53, a_get 12 2 56), (56, a_callV true (fX8_begin kn) 9 2 59), (59, a_aload 0 60), (60, a_get 12 4 63), (63, a_callV true (fX7_forget kn) 8 1 66), (66, a_aload 0 67), (67, a_stk (q_int 0) 68), (68, a_put 12 15 ckI 71), (71, a_aload 0 72), (72, a_get 12 1 75), (75, a_get 3 1 78), (78, a_iret)]
def fX11_bridge (kn : sKn) : List Value → sW → Option sR := fW (tX11_bridge kn) 2
set_option maxRecDepth 100000 in
set_option maxHeartbeats 4000000 in
theorem mX11_bridge (kn : sKn) : mM kn yX11_bridge (Cond.code yX11_bridge cX11_bridge 2 (some .int) :: wsL_law) 11 false (fX11_bridge kn) := mM_W (fun n => mM_of (own := RX11) (ini := false) rfl (by decide +kernel) (by decide +kernel) (all_c (ok_aload_n dX11_bridge_0 rfl) (all_c (okg_X11_1 kw628 dX11_bridge_1) (all_c (ok_aload_n dX11_bridge_4 rfl) (all_c (okg_X11_0 kw496 dX11_bridge_5) (all_c (okc_X2_read (by decide) kw632 dX11_bridge_8) (all_c (ok_istore_n dX11_bridge_11 rfl (by decide)) (all_c (ok_aload_n dX11_bridge_12 rfl) (all_c (okg_X11_0 kw496 dX11_bridge_13) (all_c (ok_stk (s_iconst dX11_bridge_16 (by decide))) (all_c (okp_X9_1 kw501 dX11_bridge_17) (all_c (ok_iload_n dX11_bridge_20 rfl) (all_c (ok_if_ne dX11_bridge_21 (by decide)) (all_c (ok_stk (s_iconst dX11_bridge_24 (by decide))) (all_c (ok_aload_n dX11_bridge_25 rfl) (all_c (okg_X11_0 kw496 dX11_bridge_26) (all_c (okg_X9_12 kw502 dX11_bridge_29) (all_c (ok_stk (s_isub dX11_bridge_32)) (all_c (ok_iret dX11_bridge_33) (all_c (ok_aload_n dX11_bridge_34 rfl) (all_c (okg_X11_2 kw291 dX11_bridge_35) (all_c (ok_aload_n dX11_bridge_38 rfl) (all_c (okg_X11_1 kw628 dX11_bridge_39) (all_c (okg_X2_0 kw633 dX11_bridge_42) (all_c (okc_X6_copyOf (by decide) kw637 dX11_bridge_45) (all_c (ok_aload_n dX11_bridge_48 rfl) (all_c (okg_X11_3 kw292 dX11_bridge_49) (all_c (ok_aload_n dX11_bridge_52 rfl) (all_c (okg_X11_2 kw291 dX11_bridge_53) (all_c (okc_X8_begin (by decide) kw641 dX11_bridge_56) (all_c (ok_aload_n dX11_bridge_59 rfl) (all_c (okg_X11_4 kw642 dX11_bridge_60) (all_c (okc_X7_forget (by decide) kw647 dX11_bridge_63) (all_c (ok_aload_n dX11_bridge_66 rfl) (all_c (ok_stk (s_iconst dX11_bridge_67 (by decide))) (all_c (okp_X11_15 kw323 dX11_bridge_68) (all_c (ok_aload_n dX11_bridge_71 rfl) (all_c (okg_X11_1 kw628 dX11_bridge_72) (all_c (okg_X2_1 kw648 dX11_bridge_75) (all_c (ok_iret dX11_bridge_78) all_n))))))))))))))))))))))))))))))))))))))) n (fun h => by first | rfl | cases h))
theorem dX11_burn_0 : decode cX11_burn 0 = .ok (.aload_n 0, 1) := by decide +kernel
theorem dX11_burn_1 : decode cX11_burn 1 = .ok (.iload_n 1, 1) := by decide +kernel
theorem dX11_burn_2 : decode cX11_burn 2 = .ok (.iload_n 2, 1) := by decide +kernel
theorem dX11_burn_3 : decode cX11_burn 3 = .ok (.invokevirtual 181, 3) := by decide +kernel
theorem dX11_burn_6 : decode cX11_burn 6 = .ok (.ifCond .ne 5, 3) := by decide +kernel
theorem dX11_burn_9 : decode cX11_burn 9 = .ok (.iconst (-1), 1) := by decide +kernel
theorem dX11_burn_10 : decode cX11_burn 10 = .ok (.ireturn, 1) := by decide +kernel
theorem dX11_burn_11 : decode cX11_burn 11 = .ok (.aload_n 0, 1) := by decide +kernel
theorem dX11_burn_12 : decode cX11_burn 12 = .ok (.invokevirtual 237, 3) := by decide +kernel
theorem dX11_burn_15 : decode cX11_burn 15 = .ok (.aload_n 0, 1) := by decide +kernel
theorem dX11_burn_16 : decode cX11_burn 16 = .ok (.aload_n 0, 1) := by decide +kernel
theorem dX11_burn_17 : decode cX11_burn 17 = .ok (.getfield 33, 3) := by decide +kernel
theorem dX11_burn_20 : decode cX11_burn 20 = .ok (.iconst 3, 1) := by decide +kernel
theorem dX11_burn_21 : decode cX11_burn 21 = .ok (.iload_n 1, 1) := by decide +kernel
theorem dX11_burn_22 : decode cX11_burn 22 = .ok (.imul, 1) := by decide +kernel
theorem dX11_burn_23 : decode cX11_burn 23 = .ok (.iload_n 2, 1) := by decide +kernel
theorem dX11_burn_24 : decode cX11_burn 24 = .ok (.iadd, 1) := by decide +kernel
theorem dX11_burn_25 : decode cX11_burn 25 = .ok (.invokevirtual 247, 3) := by decide +kernel
theorem dX11_burn_28 : decode cX11_burn 28 = .ok (.invokevirtual 243, 3) := by decide +kernel
theorem dX11_burn_31 : decode cX11_burn 31 = .ok (.ireturn, 1) := by decide +kernel
def tX11_burn (kn : sKn) : List (Nat × sA) := [(0, a_aload 0 1), (1, a_iload 1 2), (2, a_iload 2 3), (3, a_callV false (fX11_isPlace kn) 12 3 6), (6, a_if kn b_ne 1 11 9), (9, a_stk (q_int (-1)) 10), (10, a_iret), (11, a_aload 0 12), (12, a_callV true (fX11_rememberState kn) 12 1 15), (15, a_aload 0 16), (16, a_aload 0 17), (17, a_get 12 3 20), (20, a_stk (q_int 3) 21), (21, a_iload 1 22), (22, a_stk q_imul 23), (23, a_iload 2 24), (24, a_stk q_iadd 25), (25, a_callV false (fX8_burnPlank kn) 9 2 28), (28, a_callV false (fX11_keepIfDone kn) 12 2 31), (31, a_iret)]
def fX11_burn (kn : sKn) : List Value → sW → Option sR := fW (tX11_burn kn) 3
set_option maxRecDepth 100000 in
set_option maxHeartbeats 4000000 in
theorem mX11_burn (kn : sKn) : mM kn yX11_burn (Cond.code yX11_burn cX11_burn 3 (some .int) :: wsL_law) 3 false (fX11_burn kn) := mM_W (fun n => mM_of (own := RX11) (ini := false) rfl (by decide +kernel) (by decide +kernel) (all_c (ok_aload_n dX11_burn_0 rfl) (all_c (ok_iload_n dX11_burn_1 rfl) (all_c (ok_iload_n dX11_burn_2 rfl) (all_c (okc_X11_isPlace (by decide) kw310 dX11_burn_3) (all_c (ok_if_ne dX11_burn_6 (by decide)) (all_c (ok_stk (s_iconst dX11_burn_9 (by decide))) (all_c (ok_iret dX11_burn_10) (all_c (ok_aload_n dX11_burn_11 rfl) (all_c (okc_X11_rememberState (by decide) kw506 dX11_burn_12) (all_c (ok_aload_n dX11_burn_15 rfl) (all_c (ok_aload_n dX11_burn_16 rfl) (all_c (okg_X11_3 kw292 dX11_burn_17) (all_c (ok_stk (s_iconst dX11_burn_20 (by decide))) (all_c (ok_iload_n dX11_burn_21 rfl) (all_c (ok_stk (s_imul dX11_burn_22)) (all_c (ok_iload_n dX11_burn_23 rfl) (all_c (ok_stk (s_iadd dX11_burn_24)) (all_c (okc_X8_burnPlank (by decide) kw649 dX11_burn_25) (all_c (okc_X11_keepIfDone (by decide) kw524 dX11_burn_28) (all_c (ok_iret dX11_burn_31) all_n)))))))))))))))))))) n (fun h => by first | rfl | cases h))
theorem dX11_byteAt_0 : decode cX11_byteAt 0 = .ok (.iload_n 1, 1) := by decide +kernel
theorem dX11_byteAt_1 : decode cX11_byteAt 1 = .ok (.ifCond .lt 14, 3) := by decide +kernel
theorem dX11_byteAt_4 : decode cX11_byteAt 4 = .ok (.iload_n 1, 1) := by decide +kernel
theorem dX11_byteAt_5 : decode cX11_byteAt 5 = .ok (.aload_n 0, 1) := by decide +kernel
theorem dX11_byteAt_6 : decode cX11_byteAt 6 = .ok (.getfield 92, 3) := by decide +kernel
theorem dX11_byteAt_9 : decode cX11_byteAt 9 = .ok (.invokevirtual 363, 3) := by decide +kernel
theorem dX11_byteAt_12 : decode cX11_byteAt 12 = .ok (.if_icmp .lt 5, 3) := by decide +kernel
theorem dX11_byteAt_15 : decode cX11_byteAt 15 = .ok (.iconst (-1), 1) := by decide +kernel
theorem dX11_byteAt_16 : decode cX11_byteAt 16 = .ok (.ireturn, 1) := by decide +kernel
theorem dX11_byteAt_17 : decode cX11_byteAt 17 = .ok (.aload_n 0, 1) := by decide +kernel
theorem dX11_byteAt_18 : decode cX11_byteAt 18 = .ok (.getfield 92, 3) := by decide +kernel
theorem dX11_byteAt_21 : decode cX11_byteAt 21 = .ok (.iload_n 1, 1) := by decide +kernel
theorem dX11_byteAt_22 : decode cX11_byteAt 22 = .ok (.invokevirtual 365, 3) := by decide +kernel
theorem dX11_byteAt_25 : decode cX11_byteAt 25 = .ok (.ireturn, 1) := by decide +kernel
theorem okc_J4_length_8abf5 {kn : sKn} {cc : ByteArray} {own : String} {nL : Nat} {D : Nat} {ret : Option FieldType} {ini : Bool} {pc index : Nat} (hD : 2 + 1 ≤ D) (hl : Cond.methodLink own index yJ4_length_8abf5 ∈ wsL_law) (hd : decode cc pc = .ok (.invokevirtual index, 3)) : mOk kn cc own nL wsL_law D ret ini pc (a_callV false (fJ4_length_8abf5 kn) 0 (0 + 1) (pc + 3)) := ok_callV (mJ4_length_8abf5 kn) (good_ws ws_good (fun _ h => h) kw651) hD (by decide) hl kw653 kw654 kw652 ⟨by decide +kernel, by decide +kernel, by decide +kernel⟩ rfl hd
theorem okc_J4_charAt_5068e {kn : sKn} {cc : ByteArray} {own : String} {nL : Nat} {D : Nat} {ret : Option FieldType} {ini : Bool} {pc index : Nat} (hD : 4 + 1 ≤ D) (hl : Cond.methodLink own index yJ4_charAt_5068e ∈ wsL_law) (hd : decode cc pc = .ok (.invokevirtual index, 3)) : mOk kn cc own nL wsL_law D ret ini pc (a_callV false (fJ4_charAt_5068e kn) 0 (1 + 1) (pc + 3)) := ok_callV (mJ4_charAt_5068e kn) (good_ws ws_good (fun _ h => h) kw656) hD (by decide) hl kw657 kw658 kw652 ⟨by decide +kernel, by decide +kernel, by decide +kernel⟩ rfl hd
def tX11_byteAt (kn : sKn) : List (Nat × sA) := [(0, a_iload 1 1), (1, a_if kn b_lt 2 15 4), (4, a_iload 1 5), (5, a_aload 0 6), (6, a_get 12 12 9), (9, a_callV false (fJ4_length_8abf5 kn) 0 1 12), (12, a_icmp kn b_lt 2 17 15), (15, a_stk (q_int (-1)) 16), (16, a_iret), (17, a_aload 0 18), (18, a_get 12 12 21), (21, a_iload 1 22), (22, a_callV false (fJ4_charAt_5068e kn) 0 2 25), (25, a_iret)]
def fX11_byteAt (kn : sKn) : List Value → sW → Option sR := fW (tX11_byteAt kn) 2
set_option maxRecDepth 100000 in
set_option maxHeartbeats 4000000 in
theorem mX11_byteAt (kn : sKn) : mM kn yX11_byteAt (Cond.code yX11_byteAt cX11_byteAt 2 (some .int) :: wsL_law) 5 false (fX11_byteAt kn) := mM_W (fun n => mM_of (own := RX11) (ini := false) rfl (by decide +kernel) (by decide +kernel) (all_c (ok_iload_n dX11_byteAt_0 rfl) (all_c (ok_if_lt dX11_byteAt_1 (by decide)) (all_c (ok_iload_n dX11_byteAt_4 rfl) (all_c (ok_aload_n dX11_byteAt_5 rfl) (all_c (okg_X11_12 kw650 dX11_byteAt_6) (all_c (okc_J4_length_8abf5 (by decide) kw655 dX11_byteAt_9) (all_c (ok_icmp_lt dX11_byteAt_12 (by decide)) (all_c (ok_stk (s_iconst dX11_byteAt_15 (by decide))) (all_c (ok_iret dX11_byteAt_16) (all_c (ok_aload_n dX11_byteAt_17 rfl) (all_c (okg_X11_12 kw650 dX11_byteAt_18) (all_c (ok_iload_n dX11_byteAt_21 rfl) (all_c (okc_J4_charAt_5068e (by decide) kw659 dX11_byteAt_22) (all_c (ok_iret dX11_byteAt_25) all_n)))))))))))))) n (fun h => by first | rfl | cases h))
theorem dX11_count_0 : decode cX11_count 0 = .ok (.iload_n 1, 1) := by decide +kernel
theorem dX11_count_1 : decode cX11_count 1 = .ok (.tableswitch 87 0 5 #[39, 47, 55, 63, 71, 79], 39) := by decide +kernel
theorem dX11_count_40 : decode cX11_count 40 = .ok (.aload_n 0, 1) := by decide +kernel
theorem dX11_count_41 : decode cX11_count 41 = .ok (.getfield 26, 3) := by decide +kernel
theorem dX11_count_44 : decode cX11_count 44 = .ok (.getfield 398, 3) := by decide +kernel
theorem dX11_count_47 : decode cX11_count 47 = .ok (.ireturn, 1) := by decide +kernel
theorem dX11_count_48 : decode cX11_count 48 = .ok (.aload_n 0, 1) := by decide +kernel
theorem dX11_count_49 : decode cX11_count 49 = .ok (.getfield 26, 3) := by decide +kernel
theorem dX11_count_52 : decode cX11_count 52 = .ok (.getfield 369, 3) := by decide +kernel
theorem dX11_count_55 : decode cX11_count 55 = .ok (.ireturn, 1) := by decide +kernel
theorem dX11_count_56 : decode cX11_count 56 = .ok (.aload_n 0, 1) := by decide +kernel
theorem dX11_count_57 : decode cX11_count 57 = .ok (.getfield 26, 3) := by decide +kernel
theorem dX11_count_60 : decode cX11_count 60 = .ok (.getfield 401, 3) := by decide +kernel
theorem dX11_count_63 : decode cX11_count 63 = .ok (.ireturn, 1) := by decide +kernel
theorem dX11_count_64 : decode cX11_count 64 = .ok (.aload_n 0, 1) := by decide +kernel
theorem dX11_count_65 : decode cX11_count 65 = .ok (.getfield 26, 3) := by decide +kernel
theorem dX11_count_68 : decode cX11_count 68 = .ok (.getfield 404, 3) := by decide +kernel
theorem dX11_count_71 : decode cX11_count 71 = .ok (.ireturn, 1) := by decide +kernel
theorem dX11_count_72 : decode cX11_count 72 = .ok (.aload_n 0, 1) := by decide +kernel
theorem dX11_count_73 : decode cX11_count 73 = .ok (.getfield 26, 3) := by decide +kernel
theorem dX11_count_76 : decode cX11_count 76 = .ok (.getfield 407, 3) := by decide +kernel
theorem dX11_count_79 : decode cX11_count 79 = .ok (.ireturn, 1) := by decide +kernel
theorem dX11_count_80 : decode cX11_count 80 = .ok (.aload_n 0, 1) := by decide +kernel
theorem dX11_count_81 : decode cX11_count 81 = .ok (.getfield 10, 3) := by decide +kernel
theorem dX11_count_84 : decode cX11_count 84 = .ok (.getfield 115, 3) := by decide +kernel
theorem dX11_count_87 : decode cX11_count 87 = .ok (.ireturn, 1) := by decide +kernel
theorem dX11_count_88 : decode cX11_count 88 = .ok (.iconst (-1), 1) := by decide +kernel
theorem dX11_count_89 : decode cX11_count 89 = .ok (.ireturn, 1) := by decide +kernel
def tX11_count (kn : sKn) : List (Nat × sA) := [(0, a_iload 1 1), (1, a_table kn 0 5 [40, 48, 56, 64, 72, 80] 88), (40, a_aload 0 41), (41, a_get 12 2 44), (44, a_get 7 0 47), (47, a_iret), (48, a_aload 0 49), (49, a_get 12 2 52), (52, a_get 7 2 55), (55, a_iret), (56, a_aload 0 57), (57, a_get 12 2 60), (60, a_get 7 3 63), (63, a_iret), (64, a_aload 0 65), (65, a_get 12 2 68), (68, a_get 7 4 71), (71, a_iret), (72, a_aload 0 73), (73, a_get 12 2 76), (76, a_get 7 1 79), (79, a_iret), (80, a_aload 0 81), (81, a_get 12 0 84), (84, a_get 10 1 87), (87, a_iret), (88, a_stk (q_int (-1)) 89), (89, a_iret)]
def fX11_count (kn : sKn) : List Value → sW → Option sR := fW (tX11_count kn) 2
set_option maxRecDepth 100000 in
set_option maxHeartbeats 4000000 in
theorem mX11_count (kn : sKn) : mM kn yX11_count (Cond.code yX11_count cX11_count 2 (some .int) :: wsL_law) 1 false (fX11_count kn) := mM_W (fun n => mM_of (own := RX11) (ini := false) rfl (by decide +kernel) (by decide +kernel) (all_c (ok_iload_n dX11_count_0 rfl) (all_c (ok_table dX11_count_1 (by decide) (by decide) (by decide) (by decide)) (all_c (ok_aload_n dX11_count_40 rfl) (all_c (okg_X11_2 kw291 dX11_count_41) (all_c (okg_X6_0 kw301 dX11_count_44) (all_c (ok_iret dX11_count_47) (all_c (ok_aload_n dX11_count_48 rfl) (all_c (okg_X11_2 kw291 dX11_count_49) (all_c (okg_X6_2 kw515 dX11_count_52) (all_c (ok_iret dX11_count_55) (all_c (ok_aload_n dX11_count_56 rfl) (all_c (okg_X11_2 kw291 dX11_count_57) (all_c (okg_X6_3 kw313 dX11_count_60) (all_c (ok_iret dX11_count_63) (all_c (ok_aload_n dX11_count_64 rfl) (all_c (okg_X11_2 kw291 dX11_count_65) (all_c (okg_X6_4 kw660 dX11_count_68) (all_c (ok_iret dX11_count_71) (all_c (ok_aload_n dX11_count_72 rfl) (all_c (okg_X11_2 kw291 dX11_count_73) (all_c (okg_X6_1 kw661 dX11_count_76) (all_c (ok_iret dX11_count_79) (all_c (ok_aload_n dX11_count_80 rfl) (all_c (okg_X11_0 kw496 dX11_count_81) (all_c (okg_X9_1 kw501 dX11_count_84) (all_c (ok_iret dX11_count_87) (all_c (ok_stk (s_iconst dX11_count_88 (by decide))) (all_c (ok_iret dX11_count_89) all_n)))))))))))))))))))))))))))) n (fun h => by first | rfl | cases h))
theorem dX11_cross_0 : decode cX11_cross 0 = .ok (.aload_n 0, 1) := by decide +kernel
theorem dX11_cross_1 : decode cX11_cross 1 = .ok (.iload_n 1, 1) := by decide +kernel
theorem dX11_cross_2 : decode cX11_cross 2 = .ok (.invokevirtual 201, 3) := by decide +kernel
theorem dX11_cross_5 : decode cX11_cross 5 = .ok (.ifCond .ne 5, 3) := by decide +kernel
theorem dX11_cross_8 : decode cX11_cross 8 = .ok (.iconst (-1), 1) := by decide +kernel
theorem dX11_cross_9 : decode cX11_cross 9 = .ok (.ireturn, 1) := by decide +kernel
theorem dX11_cross_10 : decode cX11_cross 10 = .ok (.aload_n 0, 1) := by decide +kernel
theorem dX11_cross_11 : decode cX11_cross 11 = .ok (.invokevirtual 237, 3) := by decide +kernel
theorem dX11_cross_14 : decode cX11_cross 14 = .ok (.aload_n 0, 1) := by decide +kernel
theorem dX11_cross_15 : decode cX11_cross 15 = .ok (.getfield 57, 3) := by decide +kernel
theorem dX11_cross_18 : decode cX11_cross 18 = .ok (.aload_n 0, 1) := by decide +kernel
theorem dX11_cross_19 : decode cX11_cross 19 = .ok (.getfield 26, 3) := by decide +kernel
theorem dX11_cross_22 : decode cX11_cross 22 = .ok (.aload_n 0, 1) := by decide +kernel
theorem dX11_cross_23 : decode cX11_cross 23 = .ok (.getfield 33, 3) := by decide +kernel
theorem dX11_cross_26 : decode cX11_cross 26 = .ok (.iload_n 1, 1) := by decide +kernel
theorem dX11_cross_27 : decode cX11_cross 27 = .ok (.invokevirtual 259, 3) := by decide +kernel
theorem dX11_cross_30 : decode cX11_cross 30 = .ok (.istore_n 2, 1) := by decide +kernel
theorem dX11_cross_31 : decode cX11_cross 31 = .ok (.iload_n 2, 1) := by decide +kernel
theorem dX11_cross_32 : decode cX11_cross 32 = .ok (.iconst 1, 1) := by decide +kernel
theorem dX11_cross_33 : decode cX11_cross 33 = .ok (.if_icmp .eq 7, 3) := by decide +kernel
theorem dX11_cross_36 : decode cX11_cross 36 = .ok (.aload_n 0, 1) := by decide +kernel
theorem dX11_cross_37 : decode cX11_cross 37 = .ok (.invokevirtual 263, 3) := by decide +kernel
theorem dX11_cross_40 : decode cX11_cross 40 = .ok (.iload_n 2, 1) := by decide +kernel
theorem dX11_cross_41 : decode cX11_cross 41 = .ok (.ireturn, 1) := by decide +kernel
def tX11_cross (kn : sKn) : List (Nat × sA) := [(0, a_aload 0 1), (1, a_iload 1 2), (2, a_callV false (fX11_isLoad kn) 12 2 5), (5, a_if kn b_ne 1 10 8), (8, a_stk (q_int (-1)) 9), (9, a_iret), (10, a_aload 0 11), (11, a_callV true (fX11_rememberState kn) 12 1 14), (14, a_aload 0 15), (15, a_get 12 7 18), (18, a_aload 0 19), (19, a_get 12 2 22), (22, a_aload 0 23), (23, a_get 12 3 26), (26, a_iload 1 27), (27, a_callV false (fX10_tryCrossing kn) 11 4 30), (30, a_istore 2 31), (31, a_iload 2 32), (32, a_stk (q_int 1) 33), (33, a_icmp kn b_eq 0 40 36), (36, a_aload 0 37), (37, a_callV true (fX11_keepRemembered kn) 12 1 40), (40, a_iload 2 41), (41, a_iret)]
def fX11_cross (kn : sKn) : List Value → sW → Option sR := fW (tX11_cross kn) 3
set_option maxRecDepth 100000 in
set_option maxHeartbeats 4000000 in
theorem mX11_cross (kn : sKn) : mM kn yX11_cross (Cond.code yX11_cross cX11_cross 3 (some .int) :: wsL_law) 5 false (fX11_cross kn) := mM_W (fun n => mM_of (own := RX11) (ini := false) rfl (by decide +kernel) (by decide +kernel) (all_c (ok_aload_n dX11_cross_0 rfl) (all_c (ok_iload_n dX11_cross_1 rfl) (all_c (okc_X11_isLoad (by decide) kw317 dX11_cross_2) (all_c (ok_if_ne dX11_cross_5 (by decide)) (all_c (ok_stk (s_iconst dX11_cross_8 (by decide))) (all_c (ok_iret dX11_cross_9) (all_c (ok_aload_n dX11_cross_10 rfl) (all_c (okc_X11_rememberState (by decide) kw506 dX11_cross_11) (all_c (ok_aload_n dX11_cross_14 rfl) (all_c (okg_X11_7 kw290 dX11_cross_15) (all_c (ok_aload_n dX11_cross_18 rfl) (all_c (okg_X11_2 kw291 dX11_cross_19) (all_c (ok_aload_n dX11_cross_22 rfl) (all_c (okg_X11_3 kw292 dX11_cross_23) (all_c (ok_iload_n dX11_cross_26 rfl) (all_c (okc_X10_tryCrossing (by decide) kw662 dX11_cross_27) (all_c (ok_istore_n dX11_cross_30 rfl (by decide)) (all_c (ok_iload_n dX11_cross_31 rfl) (all_c (ok_stk (s_iconst dX11_cross_32 (by decide))) (all_c (ok_icmp_eq dX11_cross_33 (by decide)) (all_c (ok_aload_n dX11_cross_36 rfl) (all_c (okc_X11_keepRemembered (by decide) kw514 dX11_cross_37) (all_c (ok_iload_n dX11_cross_40 rfl) (all_c (ok_iret dX11_cross_41) all_n)))))))))))))))))))))))) n (fun h => by first | rfl | cases h))
theorem dX3_needWith_0 : decode cX3_needWith 0 = .ok (.aload_n 0, 1) := by decide +kernel
theorem dX3_needWith_1 : decode cX3_needWith 1 = .ok (.getfield 18, 3) := by decide +kernel
theorem dX3_needWith_4 : decode cX3_needWith 4 = .ok (.bipush 8, 2) := by decide +kernel
theorem dX3_needWith_6 : decode cX3_needWith 6 = .ok (.iload_n 1, 1) := by decide +kernel
theorem dX3_needWith_7 : decode cX3_needWith 7 = .ok (.imul, 1) := by decide +kernel
theorem dX3_needWith_8 : decode cX3_needWith 8 = .ok (.iload_n 3, 1) := by decide +kernel
theorem dX3_needWith_9 : decode cX3_needWith 9 = .ok (.iadd, 1) := by decide +kernel
theorem dX3_needWith_10 : decode cX3_needWith 10 = .ok (.iaload, 1) := by decide +kernel
theorem dX3_needWith_11 : decode cX3_needWith 11 = .ok (.istore 4, 2) := by decide +kernel
theorem dX3_needWith_13 : decode cX3_needWith 13 = .ok (.iload 4, 2) := by decide +kernel
theorem dX3_needWith_15 : decode cX3_needWith 15 = .ok (.iconst (-1), 1) := by decide +kernel
theorem dX3_needWith_16 : decode cX3_needWith 16 = .ok (.if_icmp .ne 6, 3) := by decide +kernel
theorem dX3_needWith_19 : decode cX3_needWith 19 = .ok (.bipush 99, 2) := by decide +kernel
theorem dX3_needWith_21 : decode cX3_needWith 21 = .ok (.ireturn, 1) := by decide +kernel
theorem dX3_needWith_22 : decode cX3_needWith 22 = .ok (.iload_n 2, 1) := by decide +kernel
theorem dX3_needWith_23 : decode cX3_needWith 23 = .ok (.iload 4, 2) := by decide +kernel
theorem dX3_needWith_25 : decode cX3_needWith 25 = .ok (.iand, 1) := by decide +kernel
theorem dX3_needWith_26 : decode cX3_needWith 26 = .ok (.istore 5, 2) := by decide +kernel
theorem dX3_needWith_28 : decode cX3_needWith 28 = .ok (.iload 5, 2) := by decide +kernel
theorem dX3_needWith_30 : decode cX3_needWith 30 = .ok (.ifCond .ne 7, 3) := by decide +kernel
theorem dX3_needWith_33 : decode cX3_needWith 33 = .ok (.iconst 0, 1) := by decide +kernel
theorem dX3_needWith_34 : decode cX3_needWith 34 = .ok (.goto 21, 3) := by decide +kernel
theorem dX3_needWith_37 : decode cX3_needWith 37 = .ok (.aload_n 0, 1) := by decide +kernel
theorem dX3_needWith_38 : decode cX3_needWith 38 = .ok (.getfield 22, 3) := by decide +kernel
theorem dX3_needWith_41 : decode cX3_needWith 41 = .ok (.bipush 16, 2) := by decide +kernel
theorem dX3_needWith_43 : decode cX3_needWith 43 = .ok (.iload_n 1, 1) := by decide +kernel
theorem dX3_needWith_44 : decode cX3_needWith 44 = .ok (.iconst 1, 1) := by decide +kernel
theorem dX3_needWith_45 : decode cX3_needWith 45 = .ok (.iadd, 1) := by decide +kernel
theorem dX3_needWith_46 : decode cX3_needWith 46 = .ok (.imul, 1) := by decide +kernel
theorem dX3_needWith_47 : decode cX3_needWith 47 = .ok (.getstatic 87, 3) := by decide +kernel
theorem dX3_needWith_50 : decode cX3_needWith 50 = .ok (.iload 5, 2) := by decide +kernel
theorem dX3_needWith_52 : decode cX3_needWith 52 = .ok (.iaload, 1) := by decide +kernel
theorem dX3_needWith_53 : decode cX3_needWith 53 = .ok (.iadd, 1) := by decide +kernel
theorem dX3_needWith_54 : decode cX3_needWith 54 = .ok (.iaload, 1) := by decide +kernel
theorem dX3_needWith_55 : decode cX3_needWith 55 = .ok (.istore 6, 2) := by decide +kernel
theorem dX3_needWith_57 : decode cX3_needWith 57 = .ok (.iload_n 3, 1) := by decide +kernel
theorem dX3_needWith_58 : decode cX3_needWith 58 = .ok (.invokestatic 90, 3) := by decide +kernel
theorem dX3_needWith_61 : decode cX3_needWith 61 = .ok (.iload 6, 2) := by decide +kernel
theorem dX3_needWith_63 : decode cX3_needWith 63 = .ok (.iadd, 1) := by decide +kernel
theorem dX3_needWith_64 : decode cX3_needWith 64 = .ok (.ireturn, 1) := by decide +kernel
def tX3_needWith (kn : sKn) : List (Nat × sA) := [(0, a_aload 0 1), (1, a_get 4 1 4), (4, a_stk (q_int 8) 6), (6, a_iload 1 7), (7, a_stk q_imul 8), (8, a_iload 3 9), (9, a_stk q_iadd 10), (10, a_iald 11), (11, a_istore 4 13), (13, a_iload 4 15), (15, a_stk (q_int (-1)) 16), (16, a_icmp kn b_ne 1 22 19), (19, a_stk (q_int 99) 21), (21, a_iret), (22, a_iload 2 23), (23, a_iload 4 25), (25, a_stk q_iand 26), (26, a_istore 5 28), (28, a_iload 5 30), (30, a_if kn b_ne 1 37 33), (33, a_stk (q_int 0) 34), (34, a_goto 55), (37, a_aload 0 38), (38, a_get 4 2 41), (41, a_stk (q_int 16) 43), (43, a_iload 1 44), (44, a_stk (q_int 1) 45), (45, a_stk q_iadd 46), (46, a_stk q_imul 47), (47, a_gets 1000000 50), (50, a_iload 5 52), (52, a_iald 53), (53, a_stk q_iadd 54), (54, a_iald 55), (55, a_istore 6 57), (57, a_iload 3 58), (58, a_callS false (fJ6_bitCount_0f7a4 kn) 1 61), (61, a_iload 6 63), (63, a_stk q_iadd 64), (64, a_iret)]
def fX3_needWith (kn : sKn) : List Value → sW → Option sR := fW (tX3_needWith kn) 7
set_option maxRecDepth 100000 in
set_option maxHeartbeats 4000000 in
theorem mX3_needWith (kn : sKn) : mM kn yX3_needWith (Cond.code yX3_needWith cX3_needWith 7 (some .int) :: wsL_law) 2 false (fX3_needWith kn) := mM_W (fun n => mM_of (own := RX3) (ini := false) rfl (by decide +kernel) (by decide +kernel) (all_c (ok_aload_n dX3_needWith_0 rfl) (all_c (okg_X3_1 kw663 dX3_needWith_1) (all_c (ok_stk (s_bipush dX3_needWith_4 (by decide))) (all_c (ok_iload_n dX3_needWith_6 rfl) (all_c (ok_stk (s_imul dX3_needWith_7)) (all_c (ok_iload_n dX3_needWith_8 rfl) (all_c (ok_stk (s_iadd dX3_needWith_9)) (all_c (ok_iald dX3_needWith_10) (all_c (ok_istore dX3_needWith_11 (by decide)) (all_c (ok_iload dX3_needWith_13) (all_c (ok_stk (s_iconst dX3_needWith_15 (by decide))) (all_c (ok_icmp_ne dX3_needWith_16 (by decide)) (all_c (ok_stk (s_bipush dX3_needWith_19 (by decide))) (all_c (ok_iret dX3_needWith_21) (all_c (ok_iload_n dX3_needWith_22 rfl) (all_c (ok_iload dX3_needWith_23) (all_c (ok_stk (s_iand dX3_needWith_25)) (all_c (ok_istore dX3_needWith_26 (by decide)) (all_c (ok_iload dX3_needWith_28) (all_c (ok_if_ne dX3_needWith_30 (by decide)) (all_c (ok_stk (s_iconst dX3_needWith_33 (by decide))) (all_c (ok_goto dX3_needWith_34 (by decide)) (all_c (ok_aload_n dX3_needWith_37 rfl) (all_c (okg_X3_2 kw664 dX3_needWith_38) (all_c (ok_stk (s_bipush dX3_needWith_41 (by decide))) (all_c (ok_iload_n dX3_needWith_43 rfl) (all_c (ok_stk (s_iconst dX3_needWith_44 (by decide))) (all_c (ok_stk (s_iadd dX3_needWith_45)) (all_c (ok_stk (s_imul dX3_needWith_46)) (all_c (ok_openN (by decide +kernel) dX3_needWith_47) (all_c (ok_iload dX3_needWith_50) (all_c (ok_iald dX3_needWith_52) (all_c (ok_stk (s_iadd dX3_needWith_53)) (all_c (ok_iald dX3_needWith_54) (all_c (ok_istore dX3_needWith_55 (by decide)) (all_c (ok_iload_n dX3_needWith_57 rfl) (all_c (okc_J6_bitCount_0f7a4 (by decide) kw665 dX3_needWith_58) (all_c (ok_iload dX3_needWith_61) (all_c (ok_stk (s_iadd dX3_needWith_63)) (all_c (ok_iret dX3_needWith_64) all_n)))))))))))))))))))))))))))))))))))))))) n (fun h => by first | rfl | cases h))
theorem dX3_fillNeed_0 : decode cX3_fillNeed 0 = .ok (.iconst 0, 1) := by decide +kernel
theorem dX3_fillNeed_1 : decode cX3_fillNeed 1 = .ok (.istore_n 2, 1) := by decide +kernel
theorem dX3_fillNeed_2 : decode cX3_fillNeed 2 = .ok (.iload_n 2, 1) := by decide +kernel
theorem dX3_fillNeed_3 : decode cX3_fillNeed 3 = .ok (.bipush 16, 2) := by decide +kernel
theorem dX3_fillNeed_5 : decode cX3_fillNeed 5 = .ok (.if_icmp .ge 22, 3) := by decide +kernel
theorem dX3_fillNeed_8 : decode cX3_fillNeed 8 = .ok (.aload_n 0, 1) := by decide +kernel
theorem dX3_fillNeed_9 : decode cX3_fillNeed 9 = .ok (.getfield 22, 3) := by decide +kernel
theorem dX3_fillNeed_12 : decode cX3_fillNeed 12 = .ok (.bipush 16, 2) := by decide +kernel
theorem dX3_fillNeed_14 : decode cX3_fillNeed 14 = .ok (.iload_n 1, 1) := by decide +kernel
theorem dX3_fillNeed_15 : decode cX3_fillNeed 15 = .ok (.imul, 1) := by decide +kernel
theorem dX3_fillNeed_16 : decode cX3_fillNeed 16 = .ok (.iload_n 2, 1) := by decide +kernel
theorem dX3_fillNeed_17 : decode cX3_fillNeed 17 = .ok (.iadd, 1) := by decide +kernel
theorem dX3_fillNeed_18 : decode cX3_fillNeed 18 = .ok (.bipush 99, 2) := by decide +kernel
theorem dX3_fillNeed_20 : decode cX3_fillNeed 20 = .ok (.iastore, 1) := by decide +kernel
theorem dX3_fillNeed_21 : decode cX3_fillNeed 21 = .ok (.iinc 2 1, 3) := by decide +kernel
theorem dX3_fillNeed_24 : decode cX3_fillNeed 24 = .ok (.goto (-22), 3) := by decide +kernel
theorem dX3_fillNeed_27 : decode cX3_fillNeed 27 = .ok (.iload_n 1, 1) := by decide +kernel
theorem dX3_fillNeed_28 : decode cX3_fillNeed 28 = .ok (.iconst 1, 1) := by decide +kernel
theorem dX3_fillNeed_29 : decode cX3_fillNeed 29 = .ok (.isub, 1) := by decide +kernel
theorem dX3_fillNeed_30 : decode cX3_fillNeed 30 = .ok (.istore_n 2, 1) := by decide +kernel
theorem dX3_fillNeed_31 : decode cX3_fillNeed 31 = .ok (.iload_n 2, 1) := by decide +kernel
theorem dX3_fillNeed_32 : decode cX3_fillNeed 32 = .ok (.ifCond .lt 71, 3) := by decide +kernel
theorem dX3_fillNeed_35 : decode cX3_fillNeed 35 = .ok (.iconst 0, 1) := by decide +kernel
theorem dX3_fillNeed_36 : decode cX3_fillNeed 36 = .ok (.istore_n 3, 1) := by decide +kernel
theorem dX3_fillNeed_37 : decode cX3_fillNeed 37 = .ok (.iload_n 3, 1) := by decide +kernel
theorem dX3_fillNeed_38 : decode cX3_fillNeed 38 = .ok (.bipush 16, 2) := by decide +kernel
theorem dX3_fillNeed_40 : decode cX3_fillNeed 40 = .ok (.if_icmp .ge 57, 3) := by decide +kernel
theorem dX3_fillNeed_43 : decode cX3_fillNeed 43 = .ok (.bipush 99, 2) := by decide +kernel
theorem dX3_fillNeed_45 : decode cX3_fillNeed 45 = .ok (.istore 4, 2) := by decide +kernel
theorem dX3_fillNeed_47 : decode cX3_fillNeed 47 = .ok (.iconst 0, 1) := by decide +kernel
theorem dX3_fillNeed_48 : decode cX3_fillNeed 48 = .ok (.istore 5, 2) := by decide +kernel
theorem dX3_fillNeed_50 : decode cX3_fillNeed 50 = .ok (.iload 5, 2) := by decide +kernel
theorem dX3_fillNeed_52 : decode cX3_fillNeed 52 = .ok (.bipush 8, 2) := by decide +kernel
theorem dX3_fillNeed_54 : decode cX3_fillNeed 54 = .ok (.if_icmp .ge 24, 3) := by decide +kernel
theorem dX3_fillNeed_57 : decode cX3_fillNeed 57 = .ok (.iload 4, 2) := by decide +kernel
theorem dX3_fillNeed_59 : decode cX3_fillNeed 59 = .ok (.aload_n 0, 1) := by decide +kernel
theorem dX3_fillNeed_60 : decode cX3_fillNeed 60 = .ok (.iload_n 2, 1) := by decide +kernel
theorem dX3_fillNeed_61 : decode cX3_fillNeed 61 = .ok (.iload_n 3, 1) := by decide +kernel
theorem dX3_fillNeed_62 : decode cX3_fillNeed 62 = .ok (.iload 5, 2) := by decide +kernel
theorem dX3_fillNeed_64 : decode cX3_fillNeed 64 = .ok (.invokevirtual 78, 3) := by decide +kernel
theorem dX3_fillNeed_67 : decode cX3_fillNeed 67 = .ok (.invokestatic 81, 3) := by decide +kernel
theorem dX3_fillNeed_70 : decode cX3_fillNeed 70 = .ok (.istore 4, 2) := by decide +kernel
theorem dX3_fillNeed_72 : decode cX3_fillNeed 72 = .ok (.iinc 5 1, 3) := by decide +kernel
theorem dX3_fillNeed_75 : decode cX3_fillNeed 75 = .ok (.goto (-25), 3) := by decide +kernel
theorem dX3_fillNeed_78 : decode cX3_fillNeed 78 = .ok (.aload_n 0, 1) := by decide +kernel
theorem dX3_fillNeed_79 : decode cX3_fillNeed 79 = .ok (.getfield 22, 3) := by decide +kernel
theorem dX3_fillNeed_82 : decode cX3_fillNeed 82 = .ok (.bipush 16, 2) := by decide +kernel
theorem dX3_fillNeed_84 : decode cX3_fillNeed 84 = .ok (.iload_n 2, 1) := by decide +kernel
theorem dX3_fillNeed_85 : decode cX3_fillNeed 85 = .ok (.imul, 1) := by decide +kernel
theorem dX3_fillNeed_86 : decode cX3_fillNeed 86 = .ok (.iload_n 3, 1) := by decide +kernel
theorem dX3_fillNeed_87 : decode cX3_fillNeed 87 = .ok (.iadd, 1) := by decide +kernel
theorem dX3_fillNeed_88 : decode cX3_fillNeed 88 = .ok (.iload 4, 2) := by decide +kernel
theorem dX3_fillNeed_90 : decode cX3_fillNeed 90 = .ok (.iastore, 1) := by decide +kernel
theorem dX3_fillNeed_91 : decode cX3_fillNeed 91 = .ok (.iinc 3 1, 3) := by decide +kernel
theorem dX3_fillNeed_94 : decode cX3_fillNeed 94 = .ok (.goto (-57), 3) := by decide +kernel
theorem dX3_fillNeed_97 : decode cX3_fillNeed 97 = .ok (.iinc 2 (-1), 3) := by decide +kernel
theorem dX3_fillNeed_100 : decode cX3_fillNeed 100 = .ok (.goto (-69), 3) := by decide +kernel
theorem dX3_fillNeed_103 : decode cX3_fillNeed 103 = .ok (.return_, 1) := by decide +kernel
theorem okc_X3_needWith {kn : sKn} {cc : ByteArray} {own : String} {nL : Nat} {D : Nat} {ret : Option FieldType} {ini : Bool} {pc index : Nat} (hD : 2 + 1 ≤ D) (hl : Cond.methodLink own index yX3_needWith ∈ wsL_law) (hd : decode cc pc = .ok (.invokevirtual index, 3)) : mOk kn cc own nL wsL_law D ret ini pc (a_callV false (fX3_needWith kn) 4 (3 + 1) (pc + 3)) := ok_callV (mX3_needWith kn) (good_ws ws_good (fun _ h => h) kw666) hD (by decide) hl kw668 kw669 kw667 ⟨by decide +kernel, by decide +kernel, by decide +kernel⟩ rfl hd
def tX3_fillNeed (kn : sKn) : List (Nat × sA) := [(0, a_stk (q_int 0) 1), (1, a_istore 2 2), (2, a_iload 2 3), (3, a_stk (q_int 16) 5), (5, a_icmp kn b_ge 3 27 8), (8, a_aload 0 9), (9, a_get 4 2 12), (12, a_stk (q_int 16) 14), (14, a_iload 1 15), (15, a_stk q_imul 16), (16, a_iload 2 17), (17, a_stk q_iadd 18), (18, a_stk (q_int 99) 20), (20, a_iast 21), (21, a_iinc 2 1 24), (24, a_goto 2), (27, a_iload 1 28), (28, a_stk (q_int 1) 29), (29, a_stk q_isub 30), (30, a_istore 2 31), (31, a_iload 2 32), (32, a_if kn b_lt 2 103 35), (35, a_stk (q_int 0) 36), (36, a_istore 3 37), (37, a_iload 3 38), (38, a_stk (q_int 16) 40), (40, a_icmp kn b_ge 3 97 43), (43, a_stk (q_int 99) 45), (45, a_istore 4 47), (47, a_stk (q_int 0) 48), (48, a_istore 5 50), (50, a_iload 5 52), (52, a_stk (q_int 8) 54), (54, a_icmp kn b_ge 3 78 57), (57, a_iload 4 59), (59, a_aload 0 60), (60, a_iload 2 61), (61, a_iload 3 62), (62, a_iload 5 64), (64, a_callV false (fX3_needWith kn) 4 4 67), (67, a_mmin 70), (70, a_istore 4 72), (72, a_iinc 5 1 75), (75, a_goto 50), (78, a_aload 0 79), (79, a_get 4 2 82), (82, a_stk (q_int 16) 84), (84, a_iload 2 85), (85, a_stk q_imul 86), (86, a_iload 3 87), (87, a_stk q_iadd 88), (88, a_iload 4 90), (90, a_iast 91), (91, a_iinc 3 1 94), (94, a_goto 37), (97, a_iinc 2 (-1) 100), (100, a_goto 31), (103, a_vret)]
def fX3_fillNeed (kn : sKn) : List Value → sW → Option sR := fW (tX3_fillNeed kn) 6
set_option maxRecDepth 100000 in
set_option maxHeartbeats 4000000 in
theorem mX3_fillNeed (kn : sKn) : mM kn yX3_fillNeed (Cond.code yX3_fillNeed cX3_fillNeed 6 none :: wsL_law) 3 true (fX3_fillNeed kn) := mM_W (fun n => mM_of (own := RX3) (ini := false) rfl (by decide +kernel) (by decide +kernel) (all_c (ok_stk (s_iconst dX3_fillNeed_0 (by decide))) (all_c (ok_istore_n dX3_fillNeed_1 rfl (by decide)) (all_c (ok_iload_n dX3_fillNeed_2 rfl) (all_c (ok_stk (s_bipush dX3_fillNeed_3 (by decide))) (all_c (ok_icmp_ge dX3_fillNeed_5 (by decide)) (all_c (ok_aload_n dX3_fillNeed_8 rfl) (all_c (okg_X3_2 kw664 dX3_fillNeed_9) (all_c (ok_stk (s_bipush dX3_fillNeed_12 (by decide))) (all_c (ok_iload_n dX3_fillNeed_14 rfl) (all_c (ok_stk (s_imul dX3_fillNeed_15)) (all_c (ok_iload_n dX3_fillNeed_16 rfl) (all_c (ok_stk (s_iadd dX3_fillNeed_17)) (all_c (ok_stk (s_bipush dX3_fillNeed_18 (by decide))) (all_c (ok_iast dX3_fillNeed_20) (all_c (ok_iinc dX3_fillNeed_21 (by decide) (by decide)) (all_c (ok_goto dX3_fillNeed_24 (by decide)) (all_c (ok_iload_n dX3_fillNeed_27 rfl) (all_c (ok_stk (s_iconst dX3_fillNeed_28 (by decide))) (all_c (ok_stk (s_isub dX3_fillNeed_29)) (all_c (ok_istore_n dX3_fillNeed_30 rfl (by decide)) (all_c (ok_iload_n dX3_fillNeed_31 rfl) (all_c (ok_if_lt dX3_fillNeed_32 (by decide)) (all_c (ok_stk (s_iconst dX3_fillNeed_35 (by decide))) (all_c (ok_istore_n dX3_fillNeed_36 rfl (by decide)) (all_c (ok_iload_n dX3_fillNeed_37 rfl) (all_c (ok_stk (s_bipush dX3_fillNeed_38 (by decide))) (all_c (ok_icmp_ge dX3_fillNeed_40 (by decide)) (all_c (ok_stk (s_bipush dX3_fillNeed_43 (by decide))) (all_c (ok_istore dX3_fillNeed_45 (by decide)) (all_c (ok_stk (s_iconst dX3_fillNeed_47 (by decide))) (all_c (ok_istore dX3_fillNeed_48 (by decide)) (all_c (ok_iload dX3_fillNeed_50) (all_c (ok_stk (s_bipush dX3_fillNeed_52 (by decide))) (all_c (ok_icmp_ge dX3_fillNeed_54 (by decide)) (all_c (ok_iload dX3_fillNeed_57) (all_c (ok_aload_n dX3_fillNeed_59 rfl) (all_c (ok_iload_n dX3_fillNeed_60 rfl) (all_c (ok_iload_n dX3_fillNeed_61 rfl) (all_c (ok_iload dX3_fillNeed_62) (all_c (okc_X3_needWith (by decide) kw670 dX3_fillNeed_64) (all_c (ok_mmin (by decide) kw671 kw53 kw38 kw54 dX3_fillNeed_67) (all_c (ok_istore dX3_fillNeed_70 (by decide)) (all_c (ok_iinc dX3_fillNeed_72 (by decide) (by decide)) (all_c (ok_goto dX3_fillNeed_75 (by decide)) (all_c (ok_aload_n dX3_fillNeed_78 rfl) (all_c (okg_X3_2 kw664 dX3_fillNeed_79) (all_c (ok_stk (s_bipush dX3_fillNeed_82 (by decide))) (all_c (ok_iload_n dX3_fillNeed_84 rfl) (all_c (ok_stk (s_imul dX3_fillNeed_85)) (all_c (ok_iload_n dX3_fillNeed_86 rfl) (all_c (ok_stk (s_iadd dX3_fillNeed_87)) (all_c (ok_iload dX3_fillNeed_88) (all_c (ok_iast dX3_fillNeed_90) (all_c (ok_iinc dX3_fillNeed_91 (by decide) (by decide)) (all_c (ok_goto dX3_fillNeed_94 (by decide)) (all_c (ok_iinc dX3_fillNeed_97 (by decide) (by decide)) (all_c (ok_goto dX3_fillNeed_100 (by decide)) (all_c (ok_vret dX3_fillNeed_103) all_n)))))))))))))))))))))))))))))))))))))))))))))))))))))))))) n (fun h => by first | rfl | cases h))
theorem dX3_addPlaces_0 : decode cX3_addPlaces 0 = .ok (.iconst 0, 1) := by decide +kernel
theorem dX3_addPlaces_1 : decode cX3_addPlaces 1 = .ok (.istore_n 3, 1) := by decide +kernel
theorem dX3_addPlaces_2 : decode cX3_addPlaces 2 = .ok (.iload_n 3, 1) := by decide +kernel
theorem dX3_addPlaces_3 : decode cX3_addPlaces 3 = .ok (.iconst 3, 1) := by decide +kernel
theorem dX3_addPlaces_4 : decode cX3_addPlaces 4 = .ok (.if_icmp .ge 49, 3) := by decide +kernel
theorem dX3_addPlaces_7 : decode cX3_addPlaces 7 = .ok (.iload_n 2, 1) := by decide +kernel
theorem dX3_addPlaces_8 : decode cX3_addPlaces 8 = .ok (.iload_n 3, 1) := by decide +kernel
theorem dX3_addPlaces_9 : decode cX3_addPlaces 9 = .ok (.ishr, 1) := by decide +kernel
theorem dX3_addPlaces_10 : decode cX3_addPlaces 10 = .ok (.iconst 1, 1) := by decide +kernel
theorem dX3_addPlaces_11 : decode cX3_addPlaces 11 = .ok (.iand, 1) := by decide +kernel
theorem dX3_addPlaces_12 : decode cX3_addPlaces 12 = .ok (.ifCond .eq 35, 3) := by decide +kernel
theorem dX3_addPlaces_15 : decode cX3_addPlaces 15 = .ok (.aload_n 0, 1) := by decide +kernel
theorem dX3_addPlaces_16 : decode cX3_addPlaces 16 = .ok (.getfield 96, 3) := by decide +kernel
theorem dX3_addPlaces_19 : decode cX3_addPlaces 19 = .ok (.iconst 3, 1) := by decide +kernel
theorem dX3_addPlaces_20 : decode cX3_addPlaces 20 = .ok (.if_icmp .ge 27, 3) := by decide +kernel
theorem dX3_addPlaces_23 : decode cX3_addPlaces 23 = .ok (.aload_n 0, 1) := by decide +kernel
theorem dX3_addPlaces_24 : decode cX3_addPlaces 24 = .ok (.getfield 25, 3) := by decide +kernel
theorem dX3_addPlaces_27 : decode cX3_addPlaces 27 = .ok (.aload_n 0, 1) := by decide +kernel
theorem dX3_addPlaces_28 : decode cX3_addPlaces 28 = .ok (.getfield 96, 3) := by decide +kernel
theorem dX3_addPlaces_31 : decode cX3_addPlaces 31 = .ok (.iconst 3, 1) := by decide +kernel
theorem dX3_addPlaces_32 : decode cX3_addPlaces 32 = .ok (.iload_n 1, 1) := by decide +kernel
theorem dX3_addPlaces_33 : decode cX3_addPlaces 33 = .ok (.imul, 1) := by decide +kernel
theorem dX3_addPlaces_34 : decode cX3_addPlaces 34 = .ok (.iload_n 3, 1) := by decide +kernel
theorem dX3_addPlaces_35 : decode cX3_addPlaces 35 = .ok (.iadd, 1) := by decide +kernel
theorem dX3_addPlaces_36 : decode cX3_addPlaces 36 = .ok (.iastore, 1) := by decide +kernel
theorem dX3_addPlaces_37 : decode cX3_addPlaces 37 = .ok (.aload_n 0, 1) := by decide +kernel
theorem dX3_addPlaces_38 : decode cX3_addPlaces 38 = .ok (.dup, 1) := by decide +kernel
theorem dX3_addPlaces_39 : decode cX3_addPlaces 39 = .ok (.getfield 96, 3) := by decide +kernel
theorem dX3_addPlaces_42 : decode cX3_addPlaces 42 = .ok (.iconst 1, 1) := by decide +kernel
theorem dX3_addPlaces_43 : decode cX3_addPlaces 43 = .ok (.iadd, 1) := by decide +kernel
theorem dX3_addPlaces_44 : decode cX3_addPlaces 44 = .ok (.putfield 96, 3) := by decide +kernel
theorem dX3_addPlaces_47 : decode cX3_addPlaces 47 = .ok (.iinc 3 1, 3) := by decide +kernel
theorem dX3_addPlaces_50 : decode cX3_addPlaces 50 = .ok (.goto (-48), 3) := by decide +kernel
theorem dX3_addPlaces_53 : decode cX3_addPlaces 53 = .ok (.return_, 1) := by decide +kernel
def tX3_addPlaces (kn : sKn) : List (Nat × sA) := [(0, a_stk (q_int 0) 1), (1, a_istore 3 2), (2, a_iload 3 3), (3, a_stk (q_int 3) 4), (4, a_icmp kn b_ge 3 53 7), (7, a_iload 2 8), (8, a_iload 3 9), (9, a_stk q_ishr 10), (10, a_stk (q_int 1) 11), (11, a_stk q_iand 12), (12, a_if kn b_eq 0 47 15), (15, a_aload 0 16), (16, a_get 4 4 19), (19, a_stk (q_int 3) 20), (20, a_icmp kn b_ge 3 47 23), (23, a_aload 0 24), (24, a_get 4 3 27), (27, a_aload 0 28), (28, a_get 4 4 31), (31, a_stk (q_int 3) 32), (32, a_iload 1 33), (33, a_stk q_imul 34), (34, a_iload 3 35), (35, a_stk q_iadd 36), (36, a_iast 37), (37, a_aload 0 38), (38, a_stk q_dup 39), (39, a_get 4 4 42), (42, a_stk (q_int 1) 43), (43, a_stk q_iadd 44), (44, a_put 4 4 ckI 47), (47, a_iinc 3 1 50), (50, a_goto 2), (53, a_vret)]
def fX3_addPlaces (kn : sKn) : List Value → sW → Option sR := fW (tX3_addPlaces kn) 4
set_option maxRecDepth 100000 in
set_option maxHeartbeats 4000000 in
theorem mX3_addPlaces (kn : sKn) : mM kn yX3_addPlaces (Cond.code yX3_addPlaces cX3_addPlaces 4 none :: wsL_law) 1 true (fX3_addPlaces kn) := mM_W (fun n => mM_of (own := RX3) (ini := false) rfl (by decide +kernel) (by decide +kernel) (all_c (ok_stk (s_iconst dX3_addPlaces_0 (by decide))) (all_c (ok_istore_n dX3_addPlaces_1 rfl (by decide)) (all_c (ok_iload_n dX3_addPlaces_2 rfl) (all_c (ok_stk (s_iconst dX3_addPlaces_3 (by decide))) (all_c (ok_icmp_ge dX3_addPlaces_4 (by decide)) (all_c (ok_iload_n dX3_addPlaces_7 rfl) (all_c (ok_iload_n dX3_addPlaces_8 rfl) (all_c (ok_stk (s_ishr dX3_addPlaces_9)) (all_c (ok_stk (s_iconst dX3_addPlaces_10 (by decide))) (all_c (ok_stk (s_iand dX3_addPlaces_11)) (all_c (ok_if_eq dX3_addPlaces_12 (by decide)) (all_c (ok_aload_n dX3_addPlaces_15 rfl) (all_c (okg_X3_4 kw672 dX3_addPlaces_16) (all_c (ok_stk (s_iconst dX3_addPlaces_19 (by decide))) (all_c (ok_icmp_ge dX3_addPlaces_20 (by decide)) (all_c (ok_aload_n dX3_addPlaces_23 rfl) (all_c (okg_X3_3 kw673 dX3_addPlaces_24) (all_c (ok_aload_n dX3_addPlaces_27 rfl) (all_c (okg_X3_4 kw672 dX3_addPlaces_28) (all_c (ok_stk (s_iconst dX3_addPlaces_31 (by decide))) (all_c (ok_iload_n dX3_addPlaces_32 rfl) (all_c (ok_stk (s_imul dX3_addPlaces_33)) (all_c (ok_iload_n dX3_addPlaces_34 rfl) (all_c (ok_stk (s_iadd dX3_addPlaces_35)) (all_c (ok_iast dX3_addPlaces_36) (all_c (ok_aload_n dX3_addPlaces_37 rfl) (all_c (ok_stk (s_dup dX3_addPlaces_38)) (all_c (okg_X3_4 kw672 dX3_addPlaces_39) (all_c (ok_stk (s_iconst dX3_addPlaces_42 (by decide))) (all_c (ok_stk (s_iadd dX3_addPlaces_43)) (all_c (okp_X3_4 kw672 dX3_addPlaces_44) (all_c (ok_iinc dX3_addPlaces_47 (by decide) (by decide)) (all_c (ok_goto dX3_addPlaces_50 (by decide)) (all_c (ok_vret dX3_addPlaces_53) all_n)))))))))))))))))))))))))))))))))) n (fun h => by first | rfl | cases h))
theorem dX3_followFirst_0 : decode cX3_followFirst 0 = .ok (.aload_n 0, 1) := by decide +kernel
theorem dX3_followFirst_1 : decode cX3_followFirst 1 = .ok (.iconst 0, 1) := by decide +kernel
theorem dX3_followFirst_2 : decode cX3_followFirst 2 = .ok (.putfield 96, 3) := by decide +kernel
theorem dX3_followFirst_5 : decode cX3_followFirst 5 = .ok (.bipush 15, 2) := by decide +kernel
theorem dX3_followFirst_7 : decode cX3_followFirst 7 = .ok (.istore_n 3, 1) := by decide +kernel
theorem dX3_followFirst_8 : decode cX3_followFirst 8 = .ok (.iconst 0, 1) := by decide +kernel
theorem dX3_followFirst_9 : decode cX3_followFirst 9 = .ok (.istore 4, 2) := by decide +kernel
theorem dX3_followFirst_11 : decode cX3_followFirst 11 = .ok (.iload 4, 2) := by decide +kernel
theorem dX3_followFirst_13 : decode cX3_followFirst 13 = .ok (.iload_n 1, 1) := by decide +kernel
theorem dX3_followFirst_14 : decode cX3_followFirst 14 = .ok (.if_icmp .ge 99, 3) := by decide +kernel
theorem dX3_followFirst_17 : decode cX3_followFirst 17 = .ok (.aload_n 0, 1) := by decide +kernel
theorem dX3_followFirst_18 : decode cX3_followFirst 18 = .ok (.getfield 96, 3) := by decide +kernel
theorem dX3_followFirst_21 : decode cX3_followFirst 21 = .ok (.iload_n 2, 1) := by decide +kernel
theorem dX3_followFirst_22 : decode cX3_followFirst 22 = .ok (.if_icmp .ge 91, 3) := by decide +kernel
theorem dX3_followFirst_25 : decode cX3_followFirst 25 = .ok (.iconst 0, 1) := by decide +kernel
theorem dX3_followFirst_26 : decode cX3_followFirst 26 = .ok (.istore 5, 2) := by decide +kernel
theorem dX3_followFirst_28 : decode cX3_followFirst 28 = .ok (.iload 5, 2) := by decide +kernel
theorem dX3_followFirst_30 : decode cX3_followFirst 30 = .ok (.getstatic 99, 3) := by decide +kernel
theorem dX3_followFirst_33 : decode cX3_followFirst 33 = .ok (.arraylength, 1) := by decide +kernel
theorem dX3_followFirst_34 : decode cX3_followFirst 34 = .ok (.iconst 1, 1) := by decide +kernel
theorem dX3_followFirst_35 : decode cX3_followFirst 35 = .ok (.isub, 1) := by decide +kernel
theorem dX3_followFirst_36 : decode cX3_followFirst 36 = .ok (.if_icmp .ge 31, 3) := by decide +kernel
theorem dX3_followFirst_39 : decode cX3_followFirst 39 = .ok (.aload_n 0, 1) := by decide +kernel
theorem dX3_followFirst_40 : decode cX3_followFirst 40 = .ok (.iload 4, 2) := by decide +kernel
theorem dX3_followFirst_42 : decode cX3_followFirst 42 = .ok (.iload_n 3, 1) := by decide +kernel
theorem dX3_followFirst_43 : decode cX3_followFirst 43 = .ok (.getstatic 99, 3) := by decide +kernel
theorem dX3_followFirst_46 : decode cX3_followFirst 46 = .ok (.iload 5, 2) := by decide +kernel
theorem dX3_followFirst_48 : decode cX3_followFirst 48 = .ok (.iaload, 1) := by decide +kernel
theorem dX3_followFirst_49 : decode cX3_followFirst 49 = .ok (.invokevirtual 78, 3) := by decide +kernel
theorem dX3_followFirst_52 : decode cX3_followFirst 52 = .ok (.iload_n 2, 1) := by decide +kernel
theorem dX3_followFirst_53 : decode cX3_followFirst 53 = .ok (.aload_n 0, 1) := by decide +kernel
theorem dX3_followFirst_54 : decode cX3_followFirst 54 = .ok (.getfield 96, 3) := by decide +kernel
theorem dX3_followFirst_57 : decode cX3_followFirst 57 = .ok (.isub, 1) := by decide +kernel
theorem dX3_followFirst_58 : decode cX3_followFirst 58 = .ok (.if_icmp .eq 9, 3) := by decide +kernel
theorem dX3_followFirst_61 : decode cX3_followFirst 61 = .ok (.iinc 5 1, 3) := by decide +kernel
theorem dX3_followFirst_64 : decode cX3_followFirst 64 = .ok (.goto (-36), 3) := by decide +kernel
theorem dX3_followFirst_67 : decode cX3_followFirst 67 = .ok (.aload_n 0, 1) := by decide +kernel
theorem dX3_followFirst_68 : decode cX3_followFirst 68 = .ok (.iload 4, 2) := by decide +kernel
theorem dX3_followFirst_70 : decode cX3_followFirst 70 = .ok (.getstatic 99, 3) := by decide +kernel
theorem dX3_followFirst_73 : decode cX3_followFirst 73 = .ok (.iload 5, 2) := by decide +kernel
theorem dX3_followFirst_75 : decode cX3_followFirst 75 = .ok (.iaload, 1) := by decide +kernel
theorem dX3_followFirst_76 : decode cX3_followFirst 76 = .ok (.invokevirtual 102, 3) := by decide +kernel
theorem dX3_followFirst_79 : decode cX3_followFirst 79 = .ok (.iload_n 3, 1) := by decide +kernel
theorem dX3_followFirst_80 : decode cX3_followFirst 80 = .ok (.aload_n 0, 1) := by decide +kernel
theorem dX3_followFirst_81 : decode cX3_followFirst 81 = .ok (.getfield 18, 3) := by decide +kernel
theorem dX3_followFirst_84 : decode cX3_followFirst 84 = .ok (.bipush 8, 2) := by decide +kernel
theorem dX3_followFirst_86 : decode cX3_followFirst 86 = .ok (.iload 4, 2) := by decide +kernel
theorem dX3_followFirst_88 : decode cX3_followFirst 88 = .ok (.imul, 1) := by decide +kernel
theorem dX3_followFirst_89 : decode cX3_followFirst 89 = .ok (.getstatic 99, 3) := by decide +kernel
theorem dX3_followFirst_92 : decode cX3_followFirst 92 = .ok (.iload 5, 2) := by decide +kernel
theorem dX3_followFirst_94 : decode cX3_followFirst 94 = .ok (.iaload, 1) := by decide +kernel
theorem dX3_followFirst_95 : decode cX3_followFirst 95 = .ok (.iadd, 1) := by decide +kernel
theorem dX3_followFirst_96 : decode cX3_followFirst 96 = .ok (.iaload, 1) := by decide +kernel
theorem dX3_followFirst_97 : decode cX3_followFirst 97 = .ok (.iand, 1) := by decide +kernel
theorem dX3_followFirst_98 : decode cX3_followFirst 98 = .ok (.istore 6, 2) := by decide +kernel
theorem dX3_followFirst_100 : decode cX3_followFirst 100 = .ok (.getstatic 87, 3) := by decide +kernel
theorem dX3_followFirst_103 : decode cX3_followFirst 103 = .ok (.iload 6, 2) := by decide +kernel
theorem dX3_followFirst_105 : decode cX3_followFirst 105 = .ok (.iaload, 1) := by decide +kernel
theorem dX3_followFirst_106 : decode cX3_followFirst 106 = .ok (.istore_n 3, 1) := by decide +kernel
theorem dX3_followFirst_107 : decode cX3_followFirst 107 = .ok (.iinc 4 1, 3) := by decide +kernel
theorem dX3_followFirst_110 : decode cX3_followFirst 110 = .ok (.goto (-99), 3) := by decide +kernel
theorem dX3_followFirst_113 : decode cX3_followFirst 113 = .ok (.return_, 1) := by decide +kernel
theorem okc_X3_addPlaces {kn : sKn} {cc : ByteArray} {own : String} {nL : Nat} {D : Nat} {ret : Option FieldType} {ini : Bool} {pc index : Nat} (hD : 1 + 1 ≤ D) (hl : Cond.methodLink own index yX3_addPlaces ∈ wsL_law) (hd : decode cc pc = .ok (.invokevirtual index, 3)) : mOk kn cc own nL wsL_law D ret ini pc (a_callV true (fX3_addPlaces kn) 4 (2 + 1) (pc + 3)) := ok_callV (mX3_addPlaces kn) (good_ws ws_good (fun _ h => h) kw675) hD (by decide) hl kw676 kw677 kw667 ⟨by decide +kernel, by decide +kernel, by decide +kernel⟩ rfl hd
def tX3_followFirst (kn : sKn) : List (Nat × sA) := [(0, a_aload 0 1), (1, a_stk (q_int 0) 2), (2, a_put 4 4 ckI 5), (5, a_stk (q_int 15) 7), (7, a_istore 3 8), (8, a_stk (q_int 0) 9), (9, a_istore 4 11), (11, a_iload 4 13), (13, a_iload 1 14), (14, a_icmp kn b_ge 3 113 17), (17, a_aload 0 18), (18, a_get 4 4 21), (21, a_iload 2 22), (22, a_icmp kn b_ge 3 113 25), (25, a_stk (q_int 0) 26), (26, a_istore 5 28), (28, a_iload 5 30), (30, a_gets 1000001 33), (33, a_alenK 34), (34, a_stk (q_int 1) 35), (35, a_stk q_isub 36), (36, a_icmp kn b_ge 3 67 39), (39, a_aload 0 40), (40, a_iload 4 42), (42, a_iload 3 43), (43, a_gets 1000001 46), (46, a_iload 5 48), (48, a_iald 49), (49, a_callV false (fX3_needWith kn) 4 4 52), (52, a_iload 2 53), (53, a_aload 0 54), (54, a_get 4 4 57), (57, a_stk q_isub 58), (58, a_icmp kn b_eq 0 67 61), (61, a_iinc 5 1 64), (64, a_goto 28), (67, a_aload 0 68), (68, a_iload 4 70), (70, a_gets 1000001 73), (73, a_iload 5 75), (75, a_iald 76), (76, a_callV true (fX3_addPlaces kn) 4 3 79), (79, a_iload 3 80), (80, a_aload 0 81), (81, a_get 4 1 84), (84, a_stk (q_int 8) 86), (86, a_iload 4 88), (88, a_stk q_imul 89), (89, a_gets 1000001 92), (92, a_iload 5 94), (94, a_iald 95), (95, a_stk q_iadd 96), (96, a_iald 97), (97, a_stk q_iand 98), (98, a_istore 6 100), (100, a_gets 1000000 103), (103, a_iload 6 105), (105, a_iald 106), (106, a_istore 3 107), (107, a_iinc 4 1 110), (110, a_goto 11), (113, a_vret)]
def fX3_followFirst (kn : sKn) : List Value → sW → Option sR := fW (tX3_followFirst kn) 7
set_option maxRecDepth 100000 in
set_option maxHeartbeats 4000000 in
theorem mX3_followFirst (kn : sKn) : mM kn yX3_followFirst (Cond.code yX3_followFirst cX3_followFirst 7 none :: wsL_law) 3 true (fX3_followFirst kn) := mM_W (fun n => mM_of (own := RX3) (ini := false) rfl (by decide +kernel) (by decide +kernel) (all_c (ok_aload_n dX3_followFirst_0 rfl) (all_c (ok_stk (s_iconst dX3_followFirst_1 (by decide))) (all_c (okp_X3_4 kw672 dX3_followFirst_2) (all_c (ok_stk (s_bipush dX3_followFirst_5 (by decide))) (all_c (ok_istore_n dX3_followFirst_7 rfl (by decide)) (all_c (ok_stk (s_iconst dX3_followFirst_8 (by decide))) (all_c (ok_istore dX3_followFirst_9 (by decide)) (all_c (ok_iload dX3_followFirst_11) (all_c (ok_iload_n dX3_followFirst_13 rfl) (all_c (ok_icmp_ge dX3_followFirst_14 (by decide)) (all_c (ok_aload_n dX3_followFirst_17 rfl) (all_c (okg_X3_4 kw672 dX3_followFirst_18) (all_c (ok_iload_n dX3_followFirst_21 rfl) (all_c (ok_icmp_ge dX3_followFirst_22 (by decide)) (all_c (ok_stk (s_iconst dX3_followFirst_25 (by decide))) (all_c (ok_istore dX3_followFirst_26 (by decide)) (all_c (ok_iload dX3_followFirst_28) (all_c (ok_sets kw674 dX3_followFirst_30) (all_c (ok_alenK dX3_followFirst_33) (all_c (ok_stk (s_iconst dX3_followFirst_34 (by decide))) (all_c (ok_stk (s_isub dX3_followFirst_35)) (all_c (ok_icmp_ge dX3_followFirst_36 (by decide)) (all_c (ok_aload_n dX3_followFirst_39 rfl) (all_c (ok_iload dX3_followFirst_40) (all_c (ok_iload_n dX3_followFirst_42 rfl) (all_c (ok_sets kw674 dX3_followFirst_43) (all_c (ok_iload dX3_followFirst_46) (all_c (ok_iald dX3_followFirst_48) (all_c (okc_X3_needWith (by decide) kw670 dX3_followFirst_49) (all_c (ok_iload_n dX3_followFirst_52 rfl) (all_c (ok_aload_n dX3_followFirst_53 rfl) (all_c (okg_X3_4 kw672 dX3_followFirst_54) (all_c (ok_stk (s_isub dX3_followFirst_57)) (all_c (ok_icmp_eq dX3_followFirst_58 (by decide)) (all_c (ok_iinc dX3_followFirst_61 (by decide) (by decide)) (all_c (ok_goto dX3_followFirst_64 (by decide)) (all_c (ok_aload_n dX3_followFirst_67 rfl) (all_c (ok_iload dX3_followFirst_68) (all_c (ok_sets kw674 dX3_followFirst_70) (all_c (ok_iload dX3_followFirst_73) (all_c (ok_iald dX3_followFirst_75) (all_c (okc_X3_addPlaces (by decide) kw678 dX3_followFirst_76) (all_c (ok_iload_n dX3_followFirst_79 rfl) (all_c (ok_aload_n dX3_followFirst_80 rfl) (all_c (okg_X3_1 kw663 dX3_followFirst_81) (all_c (ok_stk (s_bipush dX3_followFirst_84 (by decide))) (all_c (ok_iload dX3_followFirst_86) (all_c (ok_stk (s_imul dX3_followFirst_88)) (all_c (ok_sets kw674 dX3_followFirst_89) (all_c (ok_iload dX3_followFirst_92) (all_c (ok_iald dX3_followFirst_94) (all_c (ok_stk (s_iadd dX3_followFirst_95)) (all_c (ok_iald dX3_followFirst_96) (all_c (ok_stk (s_iand dX3_followFirst_97)) (all_c (ok_istore dX3_followFirst_98 (by decide)) (all_c (ok_openN (by decide +kernel) dX3_followFirst_100) (all_c (ok_iload dX3_followFirst_103) (all_c (ok_iald dX3_followFirst_105) (all_c (ok_istore_n dX3_followFirst_106 rfl (by decide)) (all_c (ok_iinc dX3_followFirst_107 (by decide) (by decide)) (all_c (ok_goto dX3_followFirst_110 (by decide)) (all_c (ok_vret dX3_followFirst_113) all_n)))))))))))))))))))))))))))))))))))))))))))))))))))))))))))))) n (fun h => by first | rfl | cases h))
theorem dX3_stepsWithout_0 : decode cX3_stepsWithout 0 = .ok (.iconst 1, 1) := by decide +kernel
theorem dX3_stepsWithout_1 : decode cX3_stepsWithout 1 = .ok (.istore 7, 2) := by decide +kernel
theorem dX3_stepsWithout_3 : decode cX3_stepsWithout 3 = .ok (.iconst 0, 1) := by decide +kernel
theorem dX3_stepsWithout_4 : decode cX3_stepsWithout 4 = .ok (.istore 8, 2) := by decide +kernel
theorem dX3_stepsWithout_6 : decode cX3_stepsWithout 6 = .ok (.iload 8, 2) := by decide +kernel
theorem dX3_stepsWithout_8 : decode cX3_stepsWithout 8 = .ok (.iconst 3, 1) := by decide +kernel
theorem dX3_stepsWithout_9 : decode cX3_stepsWithout 9 = .ok (.if_icmp .ge 61, 3) := by decide +kernel
theorem dX3_stepsWithout_12 : decode cX3_stepsWithout 12 = .ok (.iload 6, 2) := by decide +kernel
theorem dX3_stepsWithout_14 : decode cX3_stepsWithout 14 = .ok (.iload 8, 2) := by decide +kernel
theorem dX3_stepsWithout_16 : decode cX3_stepsWithout 16 = .ok (.ishr, 1) := by decide +kernel
theorem dX3_stepsWithout_17 : decode cX3_stepsWithout 17 = .ok (.iconst 1, 1) := by decide +kernel
theorem dX3_stepsWithout_18 : decode cX3_stepsWithout 18 = .ok (.iand, 1) := by decide +kernel
theorem dX3_stepsWithout_19 : decode cX3_stepsWithout 19 = .ok (.ifCond .eq 45, 3) := by decide +kernel
theorem dX3_stepsWithout_22 : decode cX3_stepsWithout 22 = .ok (.iload 7, 2) := by decide +kernel
theorem dX3_stepsWithout_24 : decode cX3_stepsWithout 24 = .ok (.aload_n 2, 1) := by decide +kernel
theorem dX3_stepsWithout_25 : decode cX3_stepsWithout 25 = .ok (.getfield 50, 3) := by decide +kernel
theorem dX3_stepsWithout_28 : decode cX3_stepsWithout 28 = .ok (.iconst 3, 1) := by decide +kernel
theorem dX3_stepsWithout_29 : decode cX3_stepsWithout 29 = .ok (.iload 5, 2) := by decide +kernel
theorem dX3_stepsWithout_31 : decode cX3_stepsWithout 31 = .ok (.imul, 1) := by decide +kernel
theorem dX3_stepsWithout_32 : decode cX3_stepsWithout 32 = .ok (.iload 8, 2) := by decide +kernel
theorem dX3_stepsWithout_34 : decode cX3_stepsWithout 34 = .ok (.iadd, 1) := by decide +kernel
theorem dX3_stepsWithout_35 : decode cX3_stepsWithout 35 = .ok (.iaload, 1) := by decide +kernel
theorem dX3_stepsWithout_36 : decode cX3_stepsWithout 36 = .ok (.iconst (-1), 1) := by decide +kernel
theorem dX3_stepsWithout_37 : decode cX3_stepsWithout 37 = .ok (.if_icmp .eq 7, 3) := by decide +kernel
theorem dX3_stepsWithout_40 : decode cX3_stepsWithout 40 = .ok (.iconst 1, 1) := by decide +kernel
theorem dX3_stepsWithout_41 : decode cX3_stepsWithout 41 = .ok (.goto 4, 3) := by decide +kernel
theorem dX3_stepsWithout_44 : decode cX3_stepsWithout 44 = .ok (.iconst 0, 1) := by decide +kernel
theorem dX3_stepsWithout_45 : decode cX3_stepsWithout 45 = .ok (.iand, 1) := by decide +kernel
theorem dX3_stepsWithout_46 : decode cX3_stepsWithout 46 = .ok (.istore 7, 2) := by decide +kernel
theorem dX3_stepsWithout_48 : decode cX3_stepsWithout 48 = .ok (.aload_n 0, 1) := by decide +kernel
theorem dX3_stepsWithout_49 : decode cX3_stepsWithout 49 = .ok (.getfield 12, 3) := by decide +kernel
theorem dX3_stepsWithout_52 : decode cX3_stepsWithout 52 = .ok (.getfield 50, 3) := by decide +kernel
theorem dX3_stepsWithout_55 : decode cX3_stepsWithout 55 = .ok (.iconst 3, 1) := by decide +kernel
theorem dX3_stepsWithout_56 : decode cX3_stepsWithout 56 = .ok (.iload 5, 2) := by decide +kernel
theorem dX3_stepsWithout_58 : decode cX3_stepsWithout 58 = .ok (.imul, 1) := by decide +kernel
theorem dX3_stepsWithout_59 : decode cX3_stepsWithout 59 = .ok (.iload 8, 2) := by decide +kernel
theorem dX3_stepsWithout_61 : decode cX3_stepsWithout 61 = .ok (.iadd, 1) := by decide +kernel
theorem dX3_stepsWithout_62 : decode cX3_stepsWithout 62 = .ok (.iconst (-1), 1) := by decide +kernel
theorem dX3_stepsWithout_63 : decode cX3_stepsWithout 63 = .ok (.iastore, 1) := by decide +kernel
theorem dX3_stepsWithout_64 : decode cX3_stepsWithout 64 = .ok (.iinc 8 1, 3) := by decide +kernel
theorem dX3_stepsWithout_67 : decode cX3_stepsWithout 67 = .ok (.goto (-61), 3) := by decide +kernel
theorem dX3_stepsWithout_70 : decode cX3_stepsWithout 70 = .ok (.aload_n 3, 1) := by decide +kernel
theorem dX3_stepsWithout_71 : decode cX3_stepsWithout 71 = .ok (.aload_n 1, 1) := by decide +kernel
theorem dX3_stepsWithout_72 : decode cX3_stepsWithout 72 = .ok (.aload_n 0, 1) := by decide +kernel
theorem dX3_stepsWithout_73 : decode cX3_stepsWithout 73 = .ok (.getfield 12, 3) := by decide +kernel
theorem dX3_stepsWithout_76 : decode cX3_stepsWithout 76 = .ok (.aload_n 1, 1) := by decide +kernel
theorem dX3_stepsWithout_77 : decode cX3_stepsWithout 77 = .ok (.getfield 53, 3) := by decide +kernel
theorem dX3_stepsWithout_80 : decode cX3_stepsWithout 80 = .ok (.iload 5, 2) := by decide +kernel
theorem dX3_stepsWithout_82 : decode cX3_stepsWithout 82 = .ok (.invokevirtual 56, 3) := by decide +kernel
theorem dX3_stepsWithout_85 : decode cX3_stepsWithout 85 = .ok (.aload_n 3, 1) := by decide +kernel
theorem dX3_stepsWithout_86 : decode cX3_stepsWithout 86 = .ok (.iload 5, 2) := by decide +kernel
theorem dX3_stepsWithout_88 : decode cX3_stepsWithout 88 = .ok (.aload_n 1, 1) := by decide +kernel
theorem dX3_stepsWithout_89 : decode cX3_stepsWithout 89 = .ok (.getfield 62, 3) := by decide +kernel
theorem dX3_stepsWithout_92 : decode cX3_stepsWithout 92 = .ok (.iload 4, 2) := by decide +kernel
theorem dX3_stepsWithout_94 : decode cX3_stepsWithout 94 = .ok (.iaload, 1) := by decide +kernel
theorem dX3_stepsWithout_95 : decode cX3_stepsWithout 95 = .ok (.aload_n 1, 1) := by decide +kernel
theorem dX3_stepsWithout_96 : decode cX3_stepsWithout 96 = .ok (.getfield 65, 3) := by decide +kernel
theorem dX3_stepsWithout_99 : decode cX3_stepsWithout 99 = .ok (.iload 4, 2) := by decide +kernel
theorem dX3_stepsWithout_101 : decode cX3_stepsWithout 101 = .ok (.iaload, 1) := by decide +kernel
theorem dX3_stepsWithout_102 : decode cX3_stepsWithout 102 = .ok (.invokevirtual 68, 3) := by decide +kernel
theorem dX3_stepsWithout_105 : decode cX3_stepsWithout 105 = .ok (.istore 8, 2) := by decide +kernel
theorem dX3_stepsWithout_107 : decode cX3_stepsWithout 107 = .ok (.aload_n 2, 1) := by decide +kernel
theorem dX3_stepsWithout_108 : decode cX3_stepsWithout 108 = .ok (.getfield 50, 3) := by decide +kernel
theorem dX3_stepsWithout_111 : decode cX3_stepsWithout 111 = .ok (.iconst 3, 1) := by decide +kernel
theorem dX3_stepsWithout_112 : decode cX3_stepsWithout 112 = .ok (.iload 5, 2) := by decide +kernel
theorem dX3_stepsWithout_114 : decode cX3_stepsWithout 114 = .ok (.imul, 1) := by decide +kernel
theorem dX3_stepsWithout_115 : decode cX3_stepsWithout 115 = .ok (.aload_n 0, 1) := by decide +kernel
theorem dX3_stepsWithout_116 : decode cX3_stepsWithout 116 = .ok (.getfield 12, 3) := by decide +kernel
theorem dX3_stepsWithout_119 : decode cX3_stepsWithout 119 = .ok (.getfield 50, 3) := by decide +kernel
theorem dX3_stepsWithout_122 : decode cX3_stepsWithout 122 = .ok (.iconst 3, 1) := by decide +kernel
theorem dX3_stepsWithout_123 : decode cX3_stepsWithout 123 = .ok (.iload 5, 2) := by decide +kernel
theorem dX3_stepsWithout_125 : decode cX3_stepsWithout 125 = .ok (.imul, 1) := by decide +kernel
theorem dX3_stepsWithout_126 : decode cX3_stepsWithout 126 = .ok (.iconst 3, 1) := by decide +kernel
theorem dX3_stepsWithout_127 : decode cX3_stepsWithout 127 = .ok (.invokestatic 72, 3) := by decide +kernel
theorem dX3_stepsWithout_130 : decode cX3_stepsWithout 130 = .ok (.iload 7, 2) := by decide +kernel
theorem dX3_stepsWithout_132 : decode cX3_stepsWithout 132 = .ok (.ifCond .eq 8, 3) := by decide +kernel
theorem dX3_stepsWithout_135 : decode cX3_stepsWithout 135 = .ok (.iload 8, 2) := by decide +kernel
theorem dX3_stepsWithout_137 : decode cX3_stepsWithout 137 = .ok (.goto 4, 3) := by decide +kernel
theorem dX3_stepsWithout_140 : decode cX3_stepsWithout 140 = .ok (.iconst (-1), 1) := by decide +kernel
theorem dX3_stepsWithout_141 : decode cX3_stepsWithout 141 = .ok (.ireturn, 1) := by decide +kernel
theorem okc_X10_weighRow {kn : sKn} {cc : ByteArray} {own : String} {nL : Nat} {D : Nat} {ret : Option FieldType} {ini : Bool} {pc index : Nat} (hD : 3 + 1 ≤ D) (hl : Cond.methodLink own index yX10_weighRow ∈ wsL_law) (hd : decode cc pc = .ok (.invokevirtual index, 3)) : mOk kn cc own nL wsL_law D ret ini pc (a_callV true (fX10_weighRow kn) 11 (4 + 1) (pc + 3)) := ok_callV (mX10_weighRow kn) (good_ws ws_good (fun _ h => h) kw682) hD (by decide) hl kw683 kw684 kw170 ⟨by decide +kernel, by decide +kernel, by decide +kernel⟩ rfl hd
def tX3_stepsWithout (kn : sKn) : List (Nat × sA) := [(0, a_stk (q_int 1) 1), (1, a_istore 7 3), (3, a_stk (q_int 0) 4), (4, a_istore 8 6), (6, a_iload 8 8), (8, a_stk (q_int 3) 9), (9, a_icmp kn b_ge 3 70 12), (12, a_iload 6 14), (14, a_iload 8 16), (16, a_stk q_ishr 17), (17, a_stk (q_int 1) 18), (18, a_stk q_iand 19), (19, a_if kn b_eq 0 64 22), (22, a_iload 7 24), (24, a_aload 2 25), (25, a_get 9 6 28), (28, a_stk (q_int 3) 29), (29, a_iload 5 31), (31, a_stk q_imul 32), (32, a_iload 8 34), (34, a_stk q_iadd 35), (35, a_iald 36), (36, a_stk (q_int (-1)) 37), (37, a_icmp kn b_eq 0 44 40), (40, a_stk (q_int 1) 41), (41, a_goto 45), (44, a_stk (q_int 0) 45), (45, a_stk q_iand 46), (46, a_istore 7 48), (48, a_aload 0 49), (49, a_get 4 0 52), (52, a_get 9 6 55), (55, a_stk (q_int 3) 56), (56, a_iload 5 58), (58, a_stk q_imul 59), (59, a_iload 8 61), (61, a_stk q_iadd 62), (62, a_stk (q_int (-1)) 63), (63, a_iast 64), (64, a_iinc 8 1 67), (67, a_goto 6), (70, a_aload 3 71), (71, a_aload 1 72), (72, a_aload 0 73), (73, a_get 4 0 76), (76, a_aload 1 77), (77, a_get 7 5 80), (80, a_iload 5 82), (82, a_callV true (fX10_weighRow kn) 11 5 85), (85, a_aload 3 86), (86, a_iload 5 88), (88, a_aload 1 89), (89, a_get 7 13 92), (92, a_iload 4 94), (94, a_iald 95), (95, a_aload 1 96), (96, a_get 7 14 99), (99, a_iload 4 101), (101, a_iald 102), (102, a_callV false (fX10_possibleSteps kn) 11 4 105), (105, a_istore 8 107), (107, a_aload 2 108), (108, a_get 9 6 111), (111, a_stk (q_int 3) 112), (112, a_iload 5 114), (114, a_stk q_imul 115), (115, a_aload 0 116), (116, a_get 4 0 119), (119, a_get 9 6 122), (122, a_stk (q_int 3) 123), (123, a_iload 5 125), (125, a_stk q_imul 126), (126, a_stk (q_int 3) 127), (127, a_copy 130), (130, a_iload 7 132), (132, a_if kn b_eq 0 140 135), (135, a_iload 8 137), (137, a_goto 141), (140, a_stk (q_int (-1)) 141), (141, a_iret)]
def fX3_stepsWithout (kn : sKn) : List Value → sW → Option sR := fW (tX3_stepsWithout kn) 9
set_option maxRecDepth 100000 in
set_option maxHeartbeats 4000000 in
theorem mX3_stepsWithout (kn : sKn) : mM kn yX3_stepsWithout (Cond.code yX3_stepsWithout cX3_stepsWithout 9 (some .int) :: wsL_law) 4 false (fX3_stepsWithout kn) := mM_W (fun n => mM_of (own := RX3) (ini := false) rfl (by decide +kernel) (by decide +kernel) (all_c (ok_stk (s_iconst dX3_stepsWithout_0 (by decide))) (all_c (ok_istore dX3_stepsWithout_1 (by decide)) (all_c (ok_stk (s_iconst dX3_stepsWithout_3 (by decide))) (all_c (ok_istore dX3_stepsWithout_4 (by decide)) (all_c (ok_iload dX3_stepsWithout_6) (all_c (ok_stk (s_iconst dX3_stepsWithout_8 (by decide))) (all_c (ok_icmp_ge dX3_stepsWithout_9 (by decide)) (all_c (ok_iload dX3_stepsWithout_12) (all_c (ok_iload dX3_stepsWithout_14) (all_c (ok_stk (s_ishr dX3_stepsWithout_16)) (all_c (ok_stk (s_iconst dX3_stepsWithout_17 (by decide))) (all_c (ok_stk (s_iand dX3_stepsWithout_18)) (all_c (ok_if_eq dX3_stepsWithout_19 (by decide)) (all_c (ok_iload dX3_stepsWithout_22) (all_c (ok_aload_n dX3_stepsWithout_24 rfl) (all_c (okg_X8_6 kw679 dX3_stepsWithout_25) (all_c (ok_stk (s_iconst dX3_stepsWithout_28 (by decide))) (all_c (ok_iload dX3_stepsWithout_29) (all_c (ok_stk (s_imul dX3_stepsWithout_31)) (all_c (ok_iload dX3_stepsWithout_32) (all_c (ok_stk (s_iadd dX3_stepsWithout_34)) (all_c (ok_iald dX3_stepsWithout_35) (all_c (ok_stk (s_iconst dX3_stepsWithout_36 (by decide))) (all_c (ok_icmp_eq dX3_stepsWithout_37 (by decide)) (all_c (ok_stk (s_iconst dX3_stepsWithout_40 (by decide))) (all_c (ok_goto dX3_stepsWithout_41 (by decide)) (all_c (ok_stk (s_iconst dX3_stepsWithout_44 (by decide))) (all_c (ok_stk (s_iand dX3_stepsWithout_45)) (all_c (ok_istore dX3_stepsWithout_46 (by decide)) (all_c (ok_aload_n dX3_stepsWithout_48 rfl) (all_c (okg_X3_0 kw680 dX3_stepsWithout_49) (all_c (okg_X8_6 kw679 dX3_stepsWithout_52) (all_c (ok_stk (s_iconst dX3_stepsWithout_55 (by decide))) (all_c (ok_iload dX3_stepsWithout_56) (all_c (ok_stk (s_imul dX3_stepsWithout_58)) (all_c (ok_iload dX3_stepsWithout_59) (all_c (ok_stk (s_iadd dX3_stepsWithout_61)) (all_c (ok_stk (s_iconst dX3_stepsWithout_62 (by decide))) (all_c (ok_iast dX3_stepsWithout_63) (all_c (ok_iinc dX3_stepsWithout_64 (by decide) (by decide)) (all_c (ok_goto dX3_stepsWithout_67 (by decide)) (all_c (ok_aload_n dX3_stepsWithout_70 rfl) (all_c (ok_aload_n dX3_stepsWithout_71 rfl) (all_c (ok_aload_n dX3_stepsWithout_72 rfl) (all_c (okg_X3_0 kw680 dX3_stepsWithout_73) (all_c (ok_aload_n dX3_stepsWithout_76 rfl) (all_c (okg_X6_5 kw681 dX3_stepsWithout_77) (all_c (ok_iload dX3_stepsWithout_80) (all_c (okc_X10_weighRow (by decide) kw685 dX3_stepsWithout_82) (all_c (ok_aload_n dX3_stepsWithout_85 rfl) (all_c (ok_iload dX3_stepsWithout_86) (all_c (ok_aload_n dX3_stepsWithout_88 rfl) (all_c (okg_X6_13 kw686 dX3_stepsWithout_89) (all_c (ok_iload dX3_stepsWithout_92) (all_c (ok_iald dX3_stepsWithout_94) (all_c (ok_aload_n dX3_stepsWithout_95 rfl) (all_c (okg_X6_14 kw687 dX3_stepsWithout_96) (all_c (ok_iload dX3_stepsWithout_99) (all_c (ok_iald dX3_stepsWithout_101) (all_c (okc_X10_possibleSteps (by decide) kw688 dX3_stepsWithout_102) (all_c (ok_istore dX3_stepsWithout_105 (by decide)) (all_c (ok_aload_n dX3_stepsWithout_107 rfl) (all_c (okg_X8_6 kw679 dX3_stepsWithout_108) (all_c (ok_stk (s_iconst dX3_stepsWithout_111 (by decide))) (all_c (ok_iload dX3_stepsWithout_112) (all_c (ok_stk (s_imul dX3_stepsWithout_114)) (all_c (ok_aload_n dX3_stepsWithout_115 rfl) (all_c (okg_X3_0 kw680 dX3_stepsWithout_116) (all_c (okg_X8_6 kw679 dX3_stepsWithout_119) (all_c (ok_stk (s_iconst dX3_stepsWithout_122 (by decide))) (all_c (ok_iload dX3_stepsWithout_123) (all_c (ok_stk (s_imul dX3_stepsWithout_125)) (all_c (ok_stk (s_iconst dX3_stepsWithout_126 (by decide))) (all_c (ok_copy (by decide) kw689 kw30 kw31 kw32 dX3_stepsWithout_127) (all_c (ok_iload dX3_stepsWithout_130) (all_c (ok_if_eq dX3_stepsWithout_132 (by decide)) (all_c (ok_iload dX3_stepsWithout_135) (all_c (ok_goto dX3_stepsWithout_137 (by decide)) (all_c (ok_stk (s_iconst dX3_stepsWithout_140 (by decide))) (all_c (ok_iret dX3_stepsWithout_141) all_n)))))))))))))))))))))))))))))))))))))))))))))))))))))))))))))))))))))))))))))))) n (fun h => by first | rfl | cases h))
theorem dX3_find_0 : decode cX3_find 0 = .ok (.aload_n 0, 1) := by decide +kernel
theorem dX3_find_1 : decode cX3_find 1 = .ok (.getfield 12, 3) := by decide +kernel
theorem dX3_find_4 : decode cX3_find 4 = .ok (.aload_n 2, 1) := by decide +kernel
theorem dX3_find_5 : decode cX3_find 5 = .ok (.invokevirtual 28, 3) := by decide +kernel
theorem dX3_find_8 : decode cX3_find 8 = .ok (.iconst 0, 1) := by decide +kernel
theorem dX3_find_9 : decode cX3_find 9 = .ok (.istore 5, 2) := by decide +kernel
theorem dX3_find_11 : decode cX3_find 11 = .ok (.iload 5, 2) := by decide +kernel
theorem dX3_find_13 : decode cX3_find 13 = .ok (.aload_n 1, 1) := by decide +kernel
theorem dX3_find_14 : decode cX3_find 14 = .ok (.getfield 32, 3) := by decide +kernel
theorem dX3_find_17 : decode cX3_find 17 = .ok (.if_icmp .ge 51, 3) := by decide +kernel
theorem dX3_find_20 : decode cX3_find 20 = .ok (.iconst 0, 1) := by decide +kernel
theorem dX3_find_21 : decode cX3_find 21 = .ok (.istore 6, 2) := by decide +kernel
theorem dX3_find_23 : decode cX3_find 23 = .ok (.iload 6, 2) := by decide +kernel
theorem dX3_find_25 : decode cX3_find 25 = .ok (.bipush 8, 2) := by decide +kernel
theorem dX3_find_27 : decode cX3_find 27 = .ok (.if_icmp .ge 35, 3) := by decide +kernel
theorem dX3_find_30 : decode cX3_find 30 = .ok (.aload_n 0, 1) := by decide +kernel
theorem dX3_find_31 : decode cX3_find 31 = .ok (.getfield 18, 3) := by decide +kernel
theorem dX3_find_34 : decode cX3_find 34 = .ok (.bipush 8, 2) := by decide +kernel
theorem dX3_find_36 : decode cX3_find 36 = .ok (.iload 5, 2) := by decide +kernel
theorem dX3_find_38 : decode cX3_find 38 = .ok (.imul, 1) := by decide +kernel
theorem dX3_find_39 : decode cX3_find 39 = .ok (.iload 6, 2) := by decide +kernel
theorem dX3_find_41 : decode cX3_find 41 = .ok (.iadd, 1) := by decide +kernel
theorem dX3_find_42 : decode cX3_find 42 = .ok (.aload_n 0, 1) := by decide +kernel
theorem dX3_find_43 : decode cX3_find 43 = .ok (.aload_n 1, 1) := by decide +kernel
theorem dX3_find_44 : decode cX3_find 44 = .ok (.aload_n 2, 1) := by decide +kernel
theorem dX3_find_45 : decode cX3_find 45 = .ok (.aload_n 3, 1) := by decide +kernel
theorem dX3_find_46 : decode cX3_find 46 = .ok (.iload 4, 2) := by decide +kernel
theorem dX3_find_48 : decode cX3_find 48 = .ok (.iload 5, 2) := by decide +kernel
theorem dX3_find_50 : decode cX3_find 50 = .ok (.iload 6, 2) := by decide +kernel
theorem dX3_find_52 : decode cX3_find 52 = .ok (.invokevirtual 38, 3) := by decide +kernel
theorem dX3_find_55 : decode cX3_find 55 = .ok (.iastore, 1) := by decide +kernel
theorem dX3_find_56 : decode cX3_find 56 = .ok (.iinc 6 1, 3) := by decide +kernel
theorem dX3_find_59 : decode cX3_find 59 = .ok (.goto (-36), 3) := by decide +kernel
theorem dX3_find_62 : decode cX3_find 62 = .ok (.iinc 5 1, 3) := by decide +kernel
theorem dX3_find_65 : decode cX3_find 65 = .ok (.goto (-54), 3) := by decide +kernel
theorem dX3_find_68 : decode cX3_find 68 = .ok (.aload_n 0, 1) := by decide +kernel
theorem dX3_find_69 : decode cX3_find 69 = .ok (.aload_n 1, 1) := by decide +kernel
theorem dX3_find_70 : decode cX3_find 70 = .ok (.getfield 32, 3) := by decide +kernel
theorem dX3_find_73 : decode cX3_find 73 = .ok (.invokevirtual 42, 3) := by decide +kernel
theorem dX3_find_76 : decode cX3_find 76 = .ok (.aload_n 0, 1) := by decide +kernel
theorem dX3_find_77 : decode cX3_find 77 = .ok (.getfield 22, 3) := by decide +kernel
theorem dX3_find_80 : decode cX3_find 80 = .ok (.bipush 15, 2) := by decide +kernel
theorem dX3_find_82 : decode cX3_find 82 = .ok (.iaload, 1) := by decide +kernel
theorem dX3_find_83 : decode cX3_find 83 = .ok (.istore 5, 2) := by decide +kernel
theorem dX3_find_85 : decode cX3_find 85 = .ok (.iload 5, 2) := by decide +kernel
theorem dX3_find_87 : decode cX3_find 87 = .ok (.iconst 3, 1) := by decide +kernel
theorem dX3_find_88 : decode cX3_find 88 = .ok (.if_icmp .le 5, 3) := by decide +kernel
theorem dX3_find_91 : decode cX3_find 91 = .ok (.iconst (-1), 1) := by decide +kernel
theorem dX3_find_92 : decode cX3_find 92 = .ok (.ireturn, 1) := by decide +kernel
theorem dX3_find_93 : decode cX3_find 93 = .ok (.aload_n 0, 1) := by decide +kernel
theorem dX3_find_94 : decode cX3_find 94 = .ok (.aload_n 1, 1) := by decide +kernel
theorem dX3_find_95 : decode cX3_find 95 = .ok (.getfield 32, 3) := by decide +kernel
theorem dX3_find_98 : decode cX3_find 98 = .ok (.iload 5, 2) := by decide +kernel
theorem dX3_find_100 : decode cX3_find 100 = .ok (.invokevirtual 46, 3) := by decide +kernel
theorem dX3_find_103 : decode cX3_find 103 = .ok (.iload 5, 2) := by decide +kernel
theorem dX3_find_105 : decode cX3_find 105 = .ok (.ireturn, 1) := by decide +kernel
theorem okc_X3_stepsWithout {kn : sKn} {cc : ByteArray} {own : String} {nL : Nat} {D : Nat} {ret : Option FieldType} {ini : Bool} {pc index : Nat} (hD : 4 + 1 ≤ D) (hl : Cond.methodLink own index yX3_stepsWithout ∈ wsL_law) (hd : decode cc pc = .ok (.invokevirtual index, 3)) : mOk kn cc own nL wsL_law D ret ini pc (a_callV false (fX3_stepsWithout kn) 4 (6 + 1) (pc + 3)) := ok_callV (mX3_stepsWithout kn) (good_ws ws_good (fun _ h => h) kw692) hD (by decide) hl kw693 kw694 kw667 ⟨by decide +kernel, by decide +kernel, by decide +kernel⟩ rfl hd
theorem okc_X3_fillNeed {kn : sKn} {cc : ByteArray} {own : String} {nL : Nat} {D : Nat} {ret : Option FieldType} {ini : Bool} {pc index : Nat} (hD : 3 + 1 ≤ D) (hl : Cond.methodLink own index yX3_fillNeed ∈ wsL_law) (hd : decode cc pc = .ok (.invokevirtual index, 3)) : mOk kn cc own nL wsL_law D ret ini pc (a_callV true (fX3_fillNeed kn) 4 (1 + 1) (pc + 3)) := ok_callV (mX3_fillNeed kn) (good_ws ws_good (fun _ h => h) kw696) hD (by decide) hl kw697 kw698 kw667 ⟨by decide +kernel, by decide +kernel, by decide +kernel⟩ rfl hd
theorem okc_X3_followFirst {kn : sKn} {cc : ByteArray} {own : String} {nL : Nat} {D : Nat} {ret : Option FieldType} {ini : Bool} {pc index : Nat} (hD : 3 + 1 ≤ D) (hl : Cond.methodLink own index yX3_followFirst ∈ wsL_law) (hd : decode cc pc = .ok (.invokevirtual index, 3)) : mOk kn cc own nL wsL_law D ret ini pc (a_callV true (fX3_followFirst kn) 4 (2 + 1) (pc + 3)) := ok_callV (mX3_followFirst kn) (good_ws ws_good (fun _ h => h) kw700) hD (by decide) hl kw701 kw702 kw667 ⟨by decide +kernel, by decide +kernel, by decide +kernel⟩ rfl hd
def tX3_find (kn : sKn) : List (Nat × sA) := [(0, a_aload 0 1), (1, a_get 4 0 4), (4, a_aload 2 5), (5, a_callV true (fX8_copyOf kn) 9 2 8), (8, a_stk (q_int 0) 9), (9, a_istore 5 11), (11, a_iload 5 13), (13, a_aload 1 14), (14, a_get 7 0 17), (17, a_icmp kn b_ge 3 68 20), (20, a_stk (q_int 0) 21), (21, a_istore 6 23), (23, a_iload 6 25), (25, a_stk (q_int 8) 27), (27, a_icmp kn b_ge 3 62 30), (30, a_aload 0 31), (31, a_get 4 1 34), (34, a_stk (q_int 8) 36), (36, a_iload 5 38), (38, a_stk q_imul 39), (39, a_iload 6 41), (41, a_stk q_iadd 42), (42, a_aload 0 43), (43, a_aload 1 44), (44, a_aload 2 45), (45, a_aload 3 46), (46, a_iload 4 48), (48, a_iload 5 50), (50, a_iload 6 52), (52, a_callV false (fX3_stepsWithout kn) 4 7 55), (55, a_iast 56), (56, a_iinc 6 1 59), (59, a_goto 23), (62, a_iinc 5 1 65), (65, a_goto 11), (68, a_aload 0 69), (69, a_aload 1 70), (70, a_get 7 0 73), (73, a_callV true (fX3_fillNeed kn) 4 2 76), (76, a_aload 0 77), (77, a_get 4 2 80), (80, a_stk (q_int 15) 82), (82, a_iald 83), (83, a_istore 5 85), (85, a_iload 5 87), (87, a_stk (q_int 3) 88), (88, a_icmp kn b_le 5 93 91), (91, a_stk (q_int (-1)) 92), (92, a_iret), (93, a_aload 0 94), (94, a_aload 1 95), (95, a_get 7 0 98), (98, a_iload 5 100), (100, a_callV true (fX3_followFirst kn) 4 3 103), (103, a_iload 5 105), (105, a_iret)]
def fX3_find (kn : sKn) : List Value → sW → Option sR := fW (tX3_find kn) 7
set_option maxRecDepth 100000 in
set_option maxHeartbeats 4000000 in
theorem mX3_find (kn : sKn) : mM kn yX3_find (Cond.code yX3_find cX3_find 7 (some .int) :: wsL_law) 5 false (fX3_find kn) := mM_W (fun n => mM_of (own := RX3) (ini := false) rfl (by decide +kernel) (by decide +kernel) (all_c (ok_aload_n dX3_find_0 rfl) (all_c (okg_X3_0 kw680 dX3_find_1) (all_c (ok_aload_n dX3_find_4 rfl) (all_c (okc_X8_copyOf (by decide) kw690 dX3_find_5) (all_c (ok_stk (s_iconst dX3_find_8 (by decide))) (all_c (ok_istore dX3_find_9 (by decide)) (all_c (ok_iload dX3_find_11) (all_c (ok_aload_n dX3_find_13 rfl) (all_c (okg_X6_0 kw691 dX3_find_14) (all_c (ok_icmp_ge dX3_find_17 (by decide)) (all_c (ok_stk (s_iconst dX3_find_20 (by decide))) (all_c (ok_istore dX3_find_21 (by decide)) (all_c (ok_iload dX3_find_23) (all_c (ok_stk (s_bipush dX3_find_25 (by decide))) (all_c (ok_icmp_ge dX3_find_27 (by decide)) (all_c (ok_aload_n dX3_find_30 rfl) (all_c (okg_X3_1 kw663 dX3_find_31) (all_c (ok_stk (s_bipush dX3_find_34 (by decide))) (all_c (ok_iload dX3_find_36) (all_c (ok_stk (s_imul dX3_find_38)) (all_c (ok_iload dX3_find_39) (all_c (ok_stk (s_iadd dX3_find_41)) (all_c (ok_aload_n dX3_find_42 rfl) (all_c (ok_aload_n dX3_find_43 rfl) (all_c (ok_aload_n dX3_find_44 rfl) (all_c (ok_aload_n dX3_find_45 rfl) (all_c (ok_iload dX3_find_46) (all_c (ok_iload dX3_find_48) (all_c (ok_iload dX3_find_50) (all_c (okc_X3_stepsWithout (by decide) kw695 dX3_find_52) (all_c (ok_iast dX3_find_55) (all_c (ok_iinc dX3_find_56 (by decide) (by decide)) (all_c (ok_goto dX3_find_59 (by decide)) (all_c (ok_iinc dX3_find_62 (by decide) (by decide)) (all_c (ok_goto dX3_find_65 (by decide)) (all_c (ok_aload_n dX3_find_68 rfl) (all_c (ok_aload_n dX3_find_69 rfl) (all_c (okg_X6_0 kw691 dX3_find_70) (all_c (okc_X3_fillNeed (by decide) kw699 dX3_find_73) (all_c (ok_aload_n dX3_find_76 rfl) (all_c (okg_X3_2 kw664 dX3_find_77) (all_c (ok_stk (s_bipush dX3_find_80 (by decide))) (all_c (ok_iald dX3_find_82) (all_c (ok_istore dX3_find_83 (by decide)) (all_c (ok_iload dX3_find_85) (all_c (ok_stk (s_iconst dX3_find_87 (by decide))) (all_c (ok_icmp_le dX3_find_88 (by decide)) (all_c (ok_stk (s_iconst dX3_find_91 (by decide))) (all_c (ok_iret dX3_find_92) (all_c (ok_aload_n dX3_find_93 rfl) (all_c (ok_aload_n dX3_find_94 rfl) (all_c (okg_X6_0 kw691 dX3_find_95) (all_c (ok_iload dX3_find_98) (all_c (okc_X3_followFirst (by decide) kw703 dX3_find_100) (all_c (ok_iload dX3_find_103) (all_c (ok_iret dX3_find_105) all_n)))))))))))))))))))))))))))))))))))))))))))))))))))))))) n (fun h => by first | rfl | cases h))
theorem dX11_cut_0 : decode cX11_cut 0 = .ok (.aload_n 0, 1) := by decide +kernel
theorem dX11_cut_1 : decode cX11_cut 1 = .ok (.iload_n 1, 1) := by decide +kernel
theorem dX11_cut_2 : decode cX11_cut 2 = .ok (.invokevirtual 201, 3) := by decide +kernel
theorem dX11_cut_5 : decode cX11_cut 5 = .ok (.ifCond .ne 5, 3) := by decide +kernel
theorem dX11_cut_8 : decode cX11_cut 8 = .ok (.iconst (-1), 1) := by decide +kernel
theorem dX11_cut_9 : decode cX11_cut 9 = .ok (.ireturn, 1) := by decide +kernel
theorem dX11_cut_10 : decode cX11_cut 10 = .ok (.aload_n 0, 1) := by decide +kernel
theorem dX11_cut_11 : decode cX11_cut 11 = .ok (.getfield 71, 3) := by decide +kernel
theorem dX11_cut_14 : decode cX11_cut 14 = .ok (.aload_n 0, 1) := by decide +kernel
theorem dX11_cut_15 : decode cX11_cut 15 = .ok (.getfield 26, 3) := by decide +kernel
theorem dX11_cut_18 : decode cX11_cut 18 = .ok (.aload_n 0, 1) := by decide +kernel
theorem dX11_cut_19 : decode cX11_cut 19 = .ok (.getfield 33, 3) := by decide +kernel
theorem dX11_cut_22 : decode cX11_cut 22 = .ok (.aload_n 0, 1) := by decide +kernel
theorem dX11_cut_23 : decode cX11_cut 23 = .ok (.getfield 57, 3) := by decide +kernel
theorem dX11_cut_26 : decode cX11_cut 26 = .ok (.iload_n 1, 1) := by decide +kernel
theorem dX11_cut_27 : decode cX11_cut 27 = .ok (.invokevirtual 306, 3) := by decide +kernel
theorem dX11_cut_30 : decode cX11_cut 30 = .ok (.ireturn, 1) := by decide +kernel
theorem okc_X3_find {kn : sKn} {cc : ByteArray} {own : String} {nL : Nat} {D : Nat} {ret : Option FieldType} {ini : Bool} {pc index : Nat} (hD : 5 + 1 ≤ D) (hl : Cond.methodLink own index yX3_find ∈ wsL_law) (hd : decode cc pc = .ok (.invokevirtual index, 3)) : mOk kn cc own nL wsL_law D ret ini pc (a_callV false (fX3_find kn) 4 (4 + 1) (pc + 3)) := ok_callV (mX3_find kn) (good_ws ws_good (fun _ h => h) kw705) hD (by decide) hl kw706 kw707 kw667 ⟨by decide +kernel, by decide +kernel, by decide +kernel⟩ rfl hd
def tX11_cut (kn : sKn) : List (Nat × sA) := [(0, a_aload 0 1), (1, a_iload 1 2), (2, a_callV false (fX11_isLoad kn) 12 2 5), (5, a_if kn b_ne 1 10 8), (8, a_stk (q_int (-1)) 9), (9, a_iret), (10, a_aload 0 11), (11, a_get 12 9 14), (14, a_aload 0 15), (15, a_get 12 2 18), (18, a_aload 0 19), (19, a_get 12 3 22), (22, a_aload 0 23), (23, a_get 12 7 26), (26, a_iload 1 27), (27, a_callV false (fX3_find kn) 4 5 30), (30, a_iret)]
def fX11_cut (kn : sKn) : List Value → sW → Option sR := fW (tX11_cut kn) 2
set_option maxRecDepth 100000 in
set_option maxHeartbeats 4000000 in
theorem mX11_cut (kn : sKn) : mM kn yX11_cut (Cond.code yX11_cut cX11_cut 2 (some .int) :: wsL_law) 6 false (fX11_cut kn) := mM_W (fun n => mM_of (own := RX11) (ini := false) rfl (by decide +kernel) (by decide +kernel) (all_c (ok_aload_n dX11_cut_0 rfl) (all_c (ok_iload_n dX11_cut_1 rfl) (all_c (okc_X11_isLoad (by decide) kw317 dX11_cut_2) (all_c (ok_if_ne dX11_cut_5 (by decide)) (all_c (ok_stk (s_iconst dX11_cut_8 (by decide))) (all_c (ok_iret dX11_cut_9) (all_c (ok_aload_n dX11_cut_10 rfl) (all_c (okg_X11_9 kw704 dX11_cut_11) (all_c (ok_aload_n dX11_cut_14 rfl) (all_c (okg_X11_2 kw291 dX11_cut_15) (all_c (ok_aload_n dX11_cut_18 rfl) (all_c (okg_X11_3 kw292 dX11_cut_19) (all_c (ok_aload_n dX11_cut_22 rfl) (all_c (okg_X11_7 kw290 dX11_cut_23) (all_c (ok_iload_n dX11_cut_26 rfl) (all_c (okc_X3_find (by decide) kw708 dX11_cut_27) (all_c (ok_iret dX11_cut_30) all_n))))))))))))))))) n (fun h => by first | rfl | cases h))
theorem dX11_cutAt_0 : decode cX11_cutAt 0 = .ok (.iload_n 1, 1) := by decide +kernel
theorem dX11_cutAt_1 : decode cX11_cutAt 1 = .ok (.ifCond .lt 14, 3) := by decide +kernel
theorem dX11_cutAt_4 : decode cX11_cutAt 4 = .ok (.iload_n 1, 1) := by decide +kernel
theorem dX11_cutAt_5 : decode cX11_cutAt 5 = .ok (.aload_n 0, 1) := by decide +kernel
theorem dX11_cutAt_6 : decode cX11_cutAt 6 = .ok (.getfield 71, 3) := by decide +kernel
theorem dX11_cutAt_9 : decode cX11_cutAt 9 = .ok (.getfield 309, 3) := by decide +kernel
theorem dX11_cutAt_12 : decode cX11_cutAt 12 = .ok (.if_icmp .lt 5, 3) := by decide +kernel
theorem dX11_cutAt_15 : decode cX11_cutAt 15 = .ok (.iconst (-1), 1) := by decide +kernel
theorem dX11_cutAt_16 : decode cX11_cutAt 16 = .ok (.ireturn, 1) := by decide +kernel
theorem dX11_cutAt_17 : decode cX11_cutAt 17 = .ok (.aload_n 0, 1) := by decide +kernel
theorem dX11_cutAt_18 : decode cX11_cutAt 18 = .ok (.getfield 71, 3) := by decide +kernel
theorem dX11_cutAt_21 : decode cX11_cutAt 21 = .ok (.getfield 312, 3) := by decide +kernel
theorem dX11_cutAt_24 : decode cX11_cutAt 24 = .ok (.iload_n 1, 1) := by decide +kernel
theorem dX11_cutAt_25 : decode cX11_cutAt 25 = .ok (.iaload, 1) := by decide +kernel
theorem dX11_cutAt_26 : decode cX11_cutAt 26 = .ok (.ireturn, 1) := by decide +kernel
def tX11_cutAt (kn : sKn) : List (Nat × sA) := [(0, a_iload 1 1), (1, a_if kn b_lt 2 15 4), (4, a_iload 1 5), (5, a_aload 0 6), (6, a_get 12 9 9), (9, a_get 4 4 12), (12, a_icmp kn b_lt 2 17 15), (15, a_stk (q_int (-1)) 16), (16, a_iret), (17, a_aload 0 18), (18, a_get 12 9 21), (21, a_get 4 3 24), (24, a_iload 1 25), (25, a_iald 26), (26, a_iret)]
def fX11_cutAt (kn : sKn) : List Value → sW → Option sR := fW (tX11_cutAt kn) 2
set_option maxRecDepth 100000 in
set_option maxHeartbeats 4000000 in
theorem mX11_cutAt (kn : sKn) : mM kn yX11_cutAt (Cond.code yX11_cutAt cX11_cutAt 2 (some .int) :: wsL_law) 1 false (fX11_cutAt kn) := mM_W (fun n => mM_of (own := RX11) (ini := false) rfl (by decide +kernel) (by decide +kernel) (all_c (ok_iload_n dX11_cutAt_0 rfl) (all_c (ok_if_lt dX11_cutAt_1 (by decide)) (all_c (ok_iload_n dX11_cutAt_4 rfl) (all_c (ok_aload_n dX11_cutAt_5 rfl) (all_c (okg_X11_9 kw704 dX11_cutAt_6) (all_c (okg_X3_4 kw709 dX11_cutAt_9) (all_c (ok_icmp_lt dX11_cutAt_12 (by decide)) (all_c (ok_stk (s_iconst dX11_cutAt_15 (by decide))) (all_c (ok_iret dX11_cutAt_16) (all_c (ok_aload_n dX11_cutAt_17 rfl) (all_c (okg_X11_9 kw704 dX11_cutAt_18) (all_c (okg_X3_3 kw710 dX11_cutAt_21) (all_c (ok_iload_n dX11_cutAt_24 rfl) (all_c (ok_iald dX11_cutAt_25) (all_c (ok_iret dX11_cutAt_26) all_n))))))))))))))) n (fun h => by first | rfl | cases h))
theorem dX11_days_0 : decode cX11_days 0 = .ok (.iload_n 1, 1) := by decide +kernel
theorem dX11_days_1 : decode cX11_days 1 = .ok (.iconst 1, 1) := by decide +kernel
theorem dX11_days_2 : decode cX11_days 2 = .ok (.if_icmp .lt 9, 3) := by decide +kernel
theorem dX11_days_5 : decode cX11_days 5 = .ok (.iload_n 1, 1) := by decide +kernel
theorem dX11_days_6 : decode cX11_days 6 = .ok (.bipush 60, 2) := by decide +kernel
theorem dX11_days_8 : decode cX11_days 8 = .ok (.if_icmp .le 5, 3) := by decide +kernel
theorem dX11_days_11 : decode cX11_days 11 = .ok (.iconst (-1), 1) := by decide +kernel
theorem dX11_days_12 : decode cX11_days 12 = .ok (.ireturn, 1) := by decide +kernel
theorem dX11_days_13 : decode cX11_days 13 = .ok (.aload_n 0, 1) := by decide +kernel
theorem dX11_days_14 : decode cX11_days 14 = .ok (.invokevirtual 237, 3) := by decide +kernel
theorem dX11_days_17 : decode cX11_days 17 = .ok (.aload_n 0, 1) := by decide +kernel
theorem dX11_days_18 : decode cX11_days 18 = .ok (.getfield 33, 3) := by decide +kernel
theorem dX11_days_21 : decode cX11_days 21 = .ok (.aload_n 0, 1) := by decide +kernel
theorem dX11_days_22 : decode cX11_days 22 = .ok (.getfield 26, 3) := by decide +kernel
theorem dX11_days_25 : decode cX11_days 25 = .ok (.iload_n 1, 1) := by decide +kernel
theorem dX11_days_26 : decode cX11_days 26 = .ok (.invokevirtual 266, 3) := by decide +kernel
theorem dX11_days_29 : decode cX11_days 29 = .ok (.istore_n 2, 1) := by decide +kernel
theorem dX11_days_30 : decode cX11_days 30 = .ok (.iload_n 2, 1) := by decide +kernel
theorem dX11_days_31 : decode cX11_days 31 = .ok (.ifCond .le 7, 3) := by decide +kernel
theorem dX11_days_34 : decode cX11_days 34 = .ok (.aload_n 0, 1) := by decide +kernel
theorem dX11_days_35 : decode cX11_days 35 = .ok (.invokevirtual 263, 3) := by decide +kernel
theorem dX11_days_38 : decode cX11_days 38 = .ok (.iload_n 2, 1) := by decide +kernel
theorem dX11_days_39 : decode cX11_days 39 = .ok (.ireturn, 1) := by decide +kernel
def tX11_days (kn : sKn) : List (Nat × sA) := [(0, a_iload 1 1), (1, a_stk (q_int 1) 2), (2, a_icmp kn b_lt 2 11 5), (5, a_iload 1 6), (6, a_stk (q_int 60) 8), (8, a_icmp kn b_le 5 13 11), (11, a_stk (q_int (-1)) 12), (12, a_iret), (13, a_aload 0 14), (14, a_callV true (fX11_rememberState kn) 12 1 17), (17, a_aload 0 18), (18, a_get 12 3 21), (21, a_aload 0 22), (22, a_get 12 2 25), (25, a_iload 1 26), (26, a_callV false (fX8_passDays kn) 9 3 29), (29, a_istore 2 30), (30, a_iload 2 31), (31, a_if kn b_le 5 38 34), (34, a_aload 0 35), (35, a_callV true (fX11_keepRemembered kn) 12 1 38), (38, a_iload 2 39), (39, a_iret)]
def fX11_days (kn : sKn) : List Value → sW → Option sR := fW (tX11_days kn) 3
set_option maxRecDepth 100000 in
set_option maxHeartbeats 4000000 in
theorem mX11_days (kn : sKn) : mM kn yX11_days (Cond.code yX11_days cX11_days 3 (some .int) :: wsL_law) 5 false (fX11_days kn) := mM_W (fun n => mM_of (own := RX11) (ini := false) rfl (by decide +kernel) (by decide +kernel) (all_c (ok_iload_n dX11_days_0 rfl) (all_c (ok_stk (s_iconst dX11_days_1 (by decide))) (all_c (ok_icmp_lt dX11_days_2 (by decide)) (all_c (ok_iload_n dX11_days_5 rfl) (all_c (ok_stk (s_bipush dX11_days_6 (by decide))) (all_c (ok_icmp_le dX11_days_8 (by decide)) (all_c (ok_stk (s_iconst dX11_days_11 (by decide))) (all_c (ok_iret dX11_days_12) (all_c (ok_aload_n dX11_days_13 rfl) (all_c (okc_X11_rememberState (by decide) kw506 dX11_days_14) (all_c (ok_aload_n dX11_days_17 rfl) (all_c (okg_X11_3 kw292 dX11_days_18) (all_c (ok_aload_n dX11_days_21 rfl) (all_c (okg_X11_2 kw291 dX11_days_22) (all_c (ok_iload_n dX11_days_25 rfl) (all_c (okc_X8_passDays (by decide) kw711 dX11_days_26) (all_c (ok_istore_n dX11_days_29 rfl (by decide)) (all_c (ok_iload_n dX11_days_30 rfl) (all_c (ok_if_le dX11_days_31 (by decide)) (all_c (ok_aload_n dX11_days_34 rfl) (all_c (okc_X11_keepRemembered (by decide) kw514 dX11_days_35) (all_c (ok_iload_n dX11_days_38 rfl) (all_c (ok_iret dX11_days_39) all_n))))))))))))))))))))))) n (fun h => by first | rfl | cases h))
theorem dX11_die_0 : decode cX11_die 0 = .ok (.aload_n 0, 1) := by decide +kernel
theorem dX11_die_1 : decode cX11_die 1 = .ok (.iload_n 1, 1) := by decide +kernel
theorem dX11_die_2 : decode cX11_die 2 = .ok (.invokevirtual 150, 3) := by decide +kernel
theorem dX11_die_5 : decode cX11_die 5 = .ok (.ifCond .ne 5, 3) := by decide +kernel
theorem dX11_die_8 : decode cX11_die 8 = .ok (.iconst (-1), 1) := by decide +kernel
theorem dX11_die_9 : decode cX11_die 9 = .ok (.ireturn, 1) := by decide +kernel
theorem dX11_die_10 : decode cX11_die 10 = .ok (.aload_n 0, 1) := by decide +kernel
theorem dX11_die_11 : decode cX11_die 11 = .ok (.invokevirtual 237, 3) := by decide +kernel
theorem dX11_die_14 : decode cX11_die 14 = .ok (.aload_n 0, 1) := by decide +kernel
theorem dX11_die_15 : decode cX11_die 15 = .ok (.aload_n 0, 1) := by decide +kernel
theorem dX11_die_16 : decode cX11_die 16 = .ok (.getfield 33, 3) := by decide +kernel
theorem dX11_die_19 : decode cX11_die 19 = .ok (.iload_n 1, 1) := by decide +kernel
theorem dX11_die_20 : decode cX11_die 20 = .ok (.invokevirtual 256, 3) := by decide +kernel
theorem dX11_die_23 : decode cX11_die 23 = .ok (.invokevirtual 243, 3) := by decide +kernel
theorem dX11_die_26 : decode cX11_die 26 = .ok (.ireturn, 1) := by decide +kernel
def tX11_die (kn : sKn) : List (Nat × sA) := [(0, a_aload 0 1), (1, a_iload 1 2), (2, a_callV false (fX11_isSigner kn) 12 2 5), (5, a_if kn b_ne 1 10 8), (8, a_stk (q_int (-1)) 9), (9, a_iret), (10, a_aload 0 11), (11, a_callV true (fX11_rememberState kn) 12 1 14), (14, a_aload 0 15), (15, a_aload 0 16), (16, a_get 12 3 19), (19, a_iload 1 20), (20, a_callV false (fX8_endLife kn) 9 2 23), (23, a_callV false (fX11_keepIfDone kn) 12 2 26), (26, a_iret)]
def fX11_die (kn : sKn) : List Value → sW → Option sR := fW (tX11_die kn) 2
set_option maxRecDepth 100000 in
set_option maxHeartbeats 4000000 in
theorem mX11_die (kn : sKn) : mM kn yX11_die (Cond.code yX11_die cX11_die 2 (some .int) :: wsL_law) 3 false (fX11_die kn) := mM_W (fun n => mM_of (own := RX11) (ini := false) rfl (by decide +kernel) (by decide +kernel) (all_c (ok_aload_n dX11_die_0 rfl) (all_c (ok_iload_n dX11_die_1 rfl) (all_c (okc_X11_isSigner (by decide) kw519 dX11_die_2) (all_c (ok_if_ne dX11_die_5 (by decide)) (all_c (ok_stk (s_iconst dX11_die_8 (by decide))) (all_c (ok_iret dX11_die_9) (all_c (ok_aload_n dX11_die_10 rfl) (all_c (okc_X11_rememberState (by decide) kw506 dX11_die_11) (all_c (ok_aload_n dX11_die_14 rfl) (all_c (ok_aload_n dX11_die_15 rfl) (all_c (okg_X11_3 kw292 dX11_die_16) (all_c (ok_iload_n dX11_die_19 rfl) (all_c (okc_X8_endLife (by decide) kw712 dX11_die_20) (all_c (okc_X11_keepIfDone (by decide) kw524 dX11_die_23) (all_c (ok_iret dX11_die_26) all_n))))))))))))))) n (fun h => by first | rfl | cases h))
theorem dX4_draw_0 : decode cX4_draw 0 = .ok (.aload_n 0, 1) := by decide +kernel
theorem dX4_draw_1 : decode cX4_draw 1 = .ok (.aload_n 0, 1) := by decide +kernel
theorem dX4_draw_2 : decode cX4_draw 2 = .ok (.getfield 89, 3) := by decide +kernel
theorem dX4_draw_5 : decode cX4_draw 5 = .ok (.ldc 115, 2) := by decide +kernel
theorem dX4_draw_7 : decode cX4_draw 7 = .ok (.imul, 1) := by decide +kernel
theorem dX4_draw_8 : decode cX4_draw 8 = .ok (.sipush 12345, 3) := by decide +kernel
theorem dX4_draw_11 : decode cX4_draw 11 = .ok (.iadd, 1) := by decide +kernel
theorem dX4_draw_12 : decode cX4_draw 12 = .ok (.putfield 89, 3) := by decide +kernel
theorem dX4_draw_15 : decode cX4_draw 15 = .ok (.iload_n 1, 1) := by decide +kernel
theorem dX4_draw_16 : decode cX4_draw 16 = .ok (.iconst 1, 1) := by decide +kernel
theorem dX4_draw_17 : decode cX4_draw 17 = .ok (.if_icmp .ge 7, 3) := by decide +kernel
theorem dX4_draw_20 : decode cX4_draw 20 = .ok (.iconst 0, 1) := by decide +kernel
theorem dX4_draw_21 : decode cX4_draw 21 = .ok (.goto 12, 3) := by decide +kernel
theorem dX4_draw_24 : decode cX4_draw 24 = .ok (.aload_n 0, 1) := by decide +kernel
theorem dX4_draw_25 : decode cX4_draw 25 = .ok (.getfield 89, 3) := by decide +kernel
theorem dX4_draw_28 : decode cX4_draw 28 = .ok (.bipush 8, 2) := by decide +kernel
theorem dX4_draw_30 : decode cX4_draw 30 = .ok (.iushr, 1) := by decide +kernel
theorem dX4_draw_31 : decode cX4_draw 31 = .ok (.iload_n 1, 1) := by decide +kernel
theorem dX4_draw_32 : decode cX4_draw 32 = .ok (.irem, 1) := by decide +kernel
theorem dX4_draw_33 : decode cX4_draw 33 = .ok (.ireturn, 1) := by decide +kernel
def tX4_draw (kn : sKn) : List (Nat × sA) := [(0, a_aload 0 1), (1, a_aload 0 2), (2, a_get 5 2 5), (5, a_stk (q_int (1103515245)) 7), (7, a_stk q_imul 8), (8, a_stk (q_int 12345) 11), (11, a_stk q_iadd 12), (12, a_put 5 2 ckI 15), (15, a_iload 1 16), (16, a_stk (q_int 1) 17), (17, a_icmp kn b_ge 3 24 20), (20, a_stk (q_int 0) 21), (21, a_goto 33), (24, a_aload 0 25), (25, a_get 5 2 28), (28, a_stk (q_int 8) 30), (30, a_stk q_iushr 31), (31, a_iload 1 32), (32, a_stk q_irem 33), (33, a_iret)]
def fX4_draw (kn : sKn) : List Value → sW → Option sR := fW (tX4_draw kn) 2
set_option maxRecDepth 100000 in
set_option maxHeartbeats 4000000 in
theorem mX4_draw (kn : sKn) : mM kn yX4_draw (Cond.code yX4_draw cX4_draw 2 (some .int) :: wsL_law) 1 false (fX4_draw kn) := mM_W (fun n => mM_of (own := RX4) (ini := false) rfl (by decide +kernel) (by decide +kernel) (all_c (ok_aload_n dX4_draw_0 rfl) (all_c (ok_aload_n dX4_draw_1 rfl) (all_c (okg_X4_2 kw713 dX4_draw_2) (all_c (ok_ldc kw714 dX4_draw_5) (all_c (ok_stk (s_imul dX4_draw_7)) (all_c (ok_stk (s_sipush dX4_draw_8 (by decide))) (all_c (ok_stk (s_iadd dX4_draw_11)) (all_c (okp_X4_2 kw713 dX4_draw_12) (all_c (ok_iload_n dX4_draw_15 rfl) (all_c (ok_stk (s_iconst dX4_draw_16 (by decide))) (all_c (ok_icmp_ge dX4_draw_17 (by decide)) (all_c (ok_stk (s_iconst dX4_draw_20 (by decide))) (all_c (ok_goto dX4_draw_21 (by decide)) (all_c (ok_aload_n dX4_draw_24 rfl) (all_c (okg_X4_2 kw713 dX4_draw_25) (all_c (ok_stk (s_bipush dX4_draw_28 (by decide))) (all_c (ok_stk (s_iushr dX4_draw_30)) (all_c (ok_iload_n dX4_draw_31 rfl) (all_c (ok_stk (s_irem dX4_draw_32)) (all_c (ok_iret dX4_draw_33) all_n)))))))))))))))))))) n (fun h => by first | rfl | cases h))
theorem dX4_drawDeed_0 : decode cX4_drawDeed 0 = .ok (.aload_n 0, 1) := by decide +kernel
theorem dX4_drawDeed_1 : decode cX4_drawDeed 1 = .ok (.bipush 20, 2) := by decide +kernel
theorem dX4_drawDeed_3 : decode cX4_drawDeed 3 = .ok (.invokevirtual 96, 3) := by decide +kernel
theorem dX4_drawDeed_6 : decode cX4_drawDeed 6 = .ok (.tableswitch 84 0 3 #[30, 39, 48, 65], 30) := by decide +kernel
theorem dX4_drawDeed_36 : decode cX4_drawDeed 36 = .ok (.aload_n 2, 1) := by decide +kernel
theorem dX4_drawDeed_37 : decode cX4_drawDeed 37 = .ok (.iload_n 3, 1) := by decide +kernel
theorem dX4_drawDeed_38 : decode cX4_drawDeed 38 = .ok (.invokevirtual 99, 3) := by decide +kernel
theorem dX4_drawDeed_41 : decode cX4_drawDeed 41 = .ok (.pop, 1) := by decide +kernel
theorem dX4_drawDeed_42 : decode cX4_drawDeed 42 = .ok (.goto 48, 3) := by decide +kernel
theorem dX4_drawDeed_45 : decode cX4_drawDeed 45 = .ok (.aload_n 2, 1) := by decide +kernel
theorem dX4_drawDeed_46 : decode cX4_drawDeed 46 = .ok (.iload_n 3, 1) := by decide +kernel
theorem dX4_drawDeed_47 : decode cX4_drawDeed 47 = .ok (.invokevirtual 102, 3) := by decide +kernel
theorem dX4_drawDeed_50 : decode cX4_drawDeed 50 = .ok (.pop, 1) := by decide +kernel
theorem dX4_drawDeed_51 : decode cX4_drawDeed 51 = .ok (.goto 39, 3) := by decide +kernel
theorem dX4_drawDeed_54 : decode cX4_drawDeed 54 = .ok (.aload_n 0, 1) := by decide +kernel
theorem dX4_drawDeed_55 : decode cX4_drawDeed 55 = .ok (.iconst 5, 1) := by decide +kernel
theorem dX4_drawDeed_56 : decode cX4_drawDeed 56 = .ok (.invokevirtual 96, 3) := by decide +kernel
theorem dX4_drawDeed_59 : decode cX4_drawDeed 59 = .ok (.ifCond .ne 31, 3) := by decide +kernel
theorem dX4_drawDeed_62 : decode cX4_drawDeed 62 = .ok (.aload_n 2, 1) := by decide +kernel
theorem dX4_drawDeed_63 : decode cX4_drawDeed 63 = .ok (.iload_n 3, 1) := by decide +kernel
theorem dX4_drawDeed_64 : decode cX4_drawDeed 64 = .ok (.invokevirtual 105, 3) := by decide +kernel
theorem dX4_drawDeed_67 : decode cX4_drawDeed 67 = .ok (.pop, 1) := by decide +kernel
theorem dX4_drawDeed_68 : decode cX4_drawDeed 68 = .ok (.goto 22, 3) := by decide +kernel
theorem dX4_drawDeed_71 : decode cX4_drawDeed 71 = .ok (.aload_n 2, 1) := by decide +kernel
theorem dX4_drawDeed_72 : decode cX4_drawDeed 72 = .ok (.iload_n 3, 1) := by decide +kernel
theorem dX4_drawDeed_73 : decode cX4_drawDeed 73 = .ok (.aload_n 0, 1) := by decide +kernel
theorem dX4_drawDeed_74 : decode cX4_drawDeed 74 = .ok (.iconst 3, 1) := by decide +kernel
theorem dX4_drawDeed_75 : decode cX4_drawDeed 75 = .ok (.aload_n 1, 1) := by decide +kernel
theorem dX4_drawDeed_76 : decode cX4_drawDeed 76 = .ok (.getfield 108, 3) := by decide +kernel
theorem dX4_drawDeed_79 : decode cX4_drawDeed 79 = .ok (.imul, 1) := by decide +kernel
theorem dX4_drawDeed_80 : decode cX4_drawDeed 80 = .ok (.invokevirtual 96, 3) := by decide +kernel
theorem dX4_drawDeed_83 : decode cX4_drawDeed 83 = .ok (.invokevirtual 111, 3) := by decide +kernel
theorem dX4_drawDeed_86 : decode cX4_drawDeed 86 = .ok (.pop, 1) := by decide +kernel
theorem dX4_drawDeed_87 : decode cX4_drawDeed 87 = .ok (.goto 3, 3) := by decide +kernel
theorem dX4_drawDeed_90 : decode cX4_drawDeed 90 = .ok (.return_, 1) := by decide +kernel
theorem okc_X4_draw {kn : sKn} {cc : ByteArray} {own : String} {nL : Nat} {D : Nat} {ret : Option FieldType} {ini : Bool} {pc index : Nat} (hD : 1 + 1 ≤ D) (hl : Cond.methodLink own index yX4_draw ∈ wsL_law) (hd : decode cc pc = .ok (.invokevirtual index, 3)) : mOk kn cc own nL wsL_law D ret ini pc (a_callV false (fX4_draw kn) 5 (1 + 1) (pc + 3)) := ok_callV (mX4_draw kn) (good_ws ws_good (fun _ h => h) kw715) hD (by decide) hl kw717 kw718 kw716 ⟨by decide +kernel, by decide +kernel, by decide +kernel⟩ rfl hd
def tX4_drawDeed (kn : sKn) : List (Nat × sA) := [(0, a_aload 0 1), (1, a_stk (q_int 20) 3), (3, a_callV false (fX4_draw kn) 5 2 6), (6, a_table kn 0 3 [36, 45, 54, 71] 90), (36, a_aload 2 37), (37, a_iload 3 38), (38, a_callV false (fX8_breakWord kn) 9 2 41), (41, a_stk q_pop 42), (42, a_goto 90), (45, a_aload 2 46), (46, a_iload 3 47), (47, a_callV false (fX8_holdWord kn) 9 2 50), (50, a_stk q_pop 51), (51, a_goto 90), (54, a_aload 0 55), (55, a_stk (q_int 5) 56), (56, a_callV false (fX4_draw kn) 5 2 59), (59, a_if kn b_ne 1 90 62), (62, a_aload 2 63), (63, a_iload 3 64), (64, a_callV false (fX8_endLife kn) 9 2 67), (67, a_stk q_pop 68), (68, a_goto 90), (71, a_aload 2 72), (72, a_iload 3 73), (73, a_aload 0 74), (74, a_stk (q_int 3) 75), (75, a_aload 1 76), (76, a_get 7 0 79), (79, a_stk q_imul 80), (80, a_callV false (fX4_draw kn) 5 2 83), (83, a_callV false (fX8_putPlank kn) 9 3 86), (86, a_stk q_pop 87), (87, a_goto 90), (90, a_vret)]
def fX4_drawDeed (kn : sKn) : List Value → sW → Option sR := fW (tX4_drawDeed kn) 4
set_option maxRecDepth 100000 in
set_option maxHeartbeats 4000000 in
theorem mX4_drawDeed (kn : sKn) : mM kn yX4_drawDeed (Cond.code yX4_drawDeed cX4_drawDeed 4 none :: wsL_law) 3 true (fX4_drawDeed kn) := mM_W (fun n => mM_of (own := RX4) (ini := false) rfl (by decide +kernel) (by decide +kernel) (all_c (ok_aload_n dX4_drawDeed_0 rfl) (all_c (ok_stk (s_bipush dX4_drawDeed_1 (by decide))) (all_c (okc_X4_draw (by decide) kw719 dX4_drawDeed_3) (all_c (ok_table dX4_drawDeed_6 (by decide) (by decide) (by decide) (by decide)) (all_c (ok_aload_n dX4_drawDeed_36 rfl) (all_c (ok_iload_n dX4_drawDeed_37 rfl) (all_c (okc_X8_breakWord (by decide) kw720 dX4_drawDeed_38) (all_c (ok_stk (s_pop dX4_drawDeed_41)) (all_c (ok_goto dX4_drawDeed_42 (by decide)) (all_c (ok_aload_n dX4_drawDeed_45 rfl) (all_c (ok_iload_n dX4_drawDeed_46 rfl) (all_c (okc_X8_holdWord (by decide) kw721 dX4_drawDeed_47) (all_c (ok_stk (s_pop dX4_drawDeed_50)) (all_c (ok_goto dX4_drawDeed_51 (by decide)) (all_c (ok_aload_n dX4_drawDeed_54 rfl) (all_c (ok_stk (s_iconst dX4_drawDeed_55 (by decide))) (all_c (okc_X4_draw (by decide) kw719 dX4_drawDeed_56) (all_c (ok_if_ne dX4_drawDeed_59 (by decide)) (all_c (ok_aload_n dX4_drawDeed_62 rfl) (all_c (ok_iload_n dX4_drawDeed_63 rfl) (all_c (okc_X8_endLife (by decide) kw722 dX4_drawDeed_64) (all_c (ok_stk (s_pop dX4_drawDeed_67)) (all_c (ok_goto dX4_drawDeed_68 (by decide)) (all_c (ok_aload_n dX4_drawDeed_71 rfl) (all_c (ok_iload_n dX4_drawDeed_72 rfl) (all_c (ok_aload_n dX4_drawDeed_73 rfl) (all_c (ok_stk (s_iconst dX4_drawDeed_74 (by decide))) (all_c (ok_aload_n dX4_drawDeed_75 rfl) (all_c (okg_X6_0 kw723 dX4_drawDeed_76) (all_c (ok_stk (s_imul dX4_drawDeed_79)) (all_c (okc_X4_draw (by decide) kw719 dX4_drawDeed_80) (all_c (okc_X8_putPlank (by decide) kw724 dX4_drawDeed_83) (all_c (ok_stk (s_pop dX4_drawDeed_86)) (all_c (ok_goto dX4_drawDeed_87 (by decide)) (all_c (ok_vret dX4_drawDeed_90) all_n))))))))))))))))))))))))))))))))))) n (fun h => by first | rfl | cases h))
theorem dX4_drawDays_0 : decode cX4_drawDays 0 = .ok (.aload_n 0, 1) := by decide +kernel
theorem dX4_drawDays_1 : decode cX4_drawDays 1 = .ok (.iload 5, 2) := by decide +kernel
theorem dX4_drawDays_3 : decode cX4_drawDays 3 = .ok (.putfield 89, 3) := by decide +kernel
theorem dX4_drawDays_6 : decode cX4_drawDays 6 = .ok (.iconst 0, 1) := by decide +kernel
theorem dX4_drawDays_7 : decode cX4_drawDays 7 = .ok (.istore 6, 2) := by decide +kernel
theorem dX4_drawDays_9 : decode cX4_drawDays 9 = .ok (.iload 6, 2) := by decide +kernel
theorem dX4_drawDays_11 : decode cX4_drawDays 11 = .ok (.iload 4, 2) := by decide +kernel
theorem dX4_drawDays_13 : decode cX4_drawDays 13 = .ok (.if_icmp .ge 90, 3) := by decide +kernel
theorem dX4_drawDays_16 : decode cX4_drawDays 16 = .ok (.aload_n 2, 1) := by decide +kernel
theorem dX4_drawDays_17 : decode cX4_drawDays 17 = .ok (.getfield 79, 3) := by decide +kernel
theorem dX4_drawDays_20 : decode cX4_drawDays 20 = .ok (.sipush 400, 3) := by decide +kernel
theorem dX4_drawDays_23 : decode cX4_drawDays 23 = .ok (.if_icmp .ge 80, 3) := by decide +kernel
theorem dX4_drawDays_26 : decode cX4_drawDays 26 = .ok (.iconst 0, 1) := by decide +kernel
theorem dX4_drawDays_27 : decode cX4_drawDays 27 = .ok (.istore 7, 2) := by decide +kernel
theorem dX4_drawDays_29 : decode cX4_drawDays 29 = .ok (.iload 7, 2) := by decide +kernel
theorem dX4_drawDays_31 : decode cX4_drawDays 31 = .ok (.aload_n 1, 1) := by decide +kernel
theorem dX4_drawDays_32 : decode cX4_drawDays 32 = .ok (.getfield 25, 3) := by decide +kernel
theorem dX4_drawDays_35 : decode cX4_drawDays 35 = .ok (.if_icmp .ge 17, 3) := by decide +kernel
theorem dX4_drawDays_38 : decode cX4_drawDays 38 = .ok (.aload_n 0, 1) := by decide +kernel
theorem dX4_drawDays_39 : decode cX4_drawDays 39 = .ok (.aload_n 1, 1) := by decide +kernel
theorem dX4_drawDays_40 : decode cX4_drawDays 40 = .ok (.aload_n 2, 1) := by decide +kernel
theorem dX4_drawDays_41 : decode cX4_drawDays 41 = .ok (.iload 7, 2) := by decide +kernel
theorem dX4_drawDays_43 : decode cX4_drawDays 43 = .ok (.invokevirtual 92, 3) := by decide +kernel
theorem dX4_drawDays_46 : decode cX4_drawDays 46 = .ok (.iinc 7 1, 3) := by decide +kernel
theorem dX4_drawDays_49 : decode cX4_drawDays 49 = .ok (.goto (-20), 3) := by decide +kernel
theorem dX4_drawDays_52 : decode cX4_drawDays 52 = .ok (.iconst 0, 1) := by decide +kernel
theorem dX4_drawDays_53 : decode cX4_drawDays 53 = .ok (.istore 7, 2) := by decide +kernel
theorem dX4_drawDays_55 : decode cX4_drawDays 55 = .ok (.iload 7, 2) := by decide +kernel
theorem dX4_drawDays_57 : decode cX4_drawDays 57 = .ok (.aload_n 1, 1) := by decide +kernel
theorem dX4_drawDays_58 : decode cX4_drawDays 58 = .ok (.getfield 54, 3) := by decide +kernel
theorem dX4_drawDays_61 : decode cX4_drawDays 61 = .ok (.if_icmp .ge 26, 3) := by decide +kernel
theorem dX4_drawDays_64 : decode cX4_drawDays 64 = .ok (.aload_n 0, 1) := by decide +kernel
theorem dX4_drawDays_65 : decode cX4_drawDays 65 = .ok (.iconst 4, 1) := by decide +kernel
theorem dX4_drawDays_66 : decode cX4_drawDays 66 = .ok (.invokevirtual 96, 3) := by decide +kernel
theorem dX4_drawDays_69 : decode cX4_drawDays 69 = .ok (.ifCond .ne 12, 3) := by decide +kernel
theorem dX4_drawDays_72 : decode cX4_drawDays 72 = .ok (.aload_n 3, 1) := by decide +kernel
theorem dX4_drawDays_73 : decode cX4_drawDays 73 = .ok (.aload_n 1, 1) := by decide +kernel
theorem dX4_drawDays_74 : decode cX4_drawDays 74 = .ok (.aload_n 2, 1) := by decide +kernel
theorem dX4_drawDays_75 : decode cX4_drawDays 75 = .ok (.iload 7, 2) := by decide +kernel
theorem dX4_drawDays_77 : decode cX4_drawDays 77 = .ok (.invokevirtual 67, 3) := by decide +kernel
theorem dX4_drawDays_80 : decode cX4_drawDays 80 = .ok (.pop, 1) := by decide +kernel
theorem dX4_drawDays_81 : decode cX4_drawDays 81 = .ok (.iinc 7 1, 3) := by decide +kernel
theorem dX4_drawDays_84 : decode cX4_drawDays 84 = .ok (.goto (-29), 3) := by decide +kernel
theorem dX4_drawDays_87 : decode cX4_drawDays 87 = .ok (.aload_n 2, 1) := by decide +kernel
theorem dX4_drawDays_88 : decode cX4_drawDays 88 = .ok (.aload_n 1, 1) := by decide +kernel
theorem dX4_drawDays_89 : decode cX4_drawDays 89 = .ok (.aload_n 1, 1) := by decide +kernel
theorem dX4_drawDays_90 : decode cX4_drawDays 90 = .ok (.getfield 82, 3) := by decide +kernel
theorem dX4_drawDays_93 : decode cX4_drawDays 93 = .ok (.invokevirtual 75, 3) := by decide +kernel
theorem dX4_drawDays_96 : decode cX4_drawDays 96 = .ok (.pop, 1) := by decide +kernel
theorem dX4_drawDays_97 : decode cX4_drawDays 97 = .ok (.iinc 6 1, 3) := by decide +kernel
theorem dX4_drawDays_100 : decode cX4_drawDays 100 = .ok (.goto (-91), 3) := by decide +kernel
theorem dX4_drawDays_103 : decode cX4_drawDays 103 = .ok (.iload 6, 2) := by decide +kernel
theorem dX4_drawDays_105 : decode cX4_drawDays 105 = .ok (.ireturn, 1) := by decide +kernel
theorem okc_X4_drawDeed {kn : sKn} {cc : ByteArray} {own : String} {nL : Nat} {D : Nat} {ret : Option FieldType} {ini : Bool} {pc index : Nat} (hD : 3 + 1 ≤ D) (hl : Cond.methodLink own index yX4_drawDeed ∈ wsL_law) (hd : decode cc pc = .ok (.invokevirtual index, 3)) : mOk kn cc own nL wsL_law D ret ini pc (a_callV true (fX4_drawDeed kn) 5 (3 + 1) (pc + 3)) := ok_callV (mX4_drawDeed kn) (good_ws ws_good (fun _ h => h) kw727) hD (by decide) hl kw728 kw729 kw716 ⟨by decide +kernel, by decide +kernel, by decide +kernel⟩ rfl hd
def tX4_drawDays (kn : sKn) : List (Nat × sA) := [(0, a_aload 0 1), (1, a_iload 5 3), (3, a_put 5 2 ckI 6), (6, a_stk (q_int 0) 7), (7, a_istore 6 9), (9, a_iload 6 11), (11, a_iload 4 13), (13, a_icmp kn b_ge 3 103 16), (16, a_aload 2 17), (17, a_get 9 0 20), (20, a_stk (q_int 400) 23), (23, a_icmp kn b_ge 3 103 26), (26, a_stk (q_int 0) 27), (27, a_istore 7 29), (29, a_iload 7 31), (31, a_aload 1 32), (32, a_get 7 2 35), (35, a_icmp kn b_ge 3 52 38), (38, a_aload 0 39), (39, a_aload 1 40), (40, a_aload 2 41), (41, a_iload 7 43), (43, a_callV true (fX4_drawDeed kn) 5 4 46), (46, a_iinc 7 1 49), (49, a_goto 29), (52, a_stk (q_int 0) 53), (53, a_istore 7 55), (55, a_iload 7 57), (57, a_aload 1 58), (58, a_get 7 3 61), (61, a_icmp kn b_ge 3 87 64), (64, a_aload 0 65), (65, a_stk (q_int 4) 66), (66, a_callV false (fX4_draw kn) 5 2 69), (69, a_if kn b_ne 1 81 72), (72, a_aload 3 73), (73, a_aload 1 74), (74, a_aload 2 75), (75, a_iload 7 77), (77, a_callV false (fX10_tryCrossing kn) 11 4 80), (80, a_stk q_pop 81), (81, a_iinc 7 1 84), (84, a_goto 55), (87, a_aload 2 88), (88, a_aload 1 89), (89, a_aload 1 90), (90, a_get 7 1 93), (93, a_callV false (fX8_passDay kn) 9 3 96), (96, a_stk q_pop 97), (97, a_iinc 6 1 100), (100, a_goto 9), (103, a_iload 6 105), (105, a_iret)]
def fX4_drawDays (kn : sKn) : List Value → sW → Option sR := fW (tX4_drawDays kn) 8
set_option maxRecDepth 100000 in
set_option maxHeartbeats 4000000 in
theorem mX4_drawDays (kn : sKn) : mM kn yX4_drawDays (Cond.code yX4_drawDays cX4_drawDays 8 (some .int) :: wsL_law) 5 false (fX4_drawDays kn) := mM_W (fun n => mM_of (own := RX4) (ini := false) rfl (by decide +kernel) (by decide +kernel) (all_c (ok_aload_n dX4_drawDays_0 rfl) (all_c (ok_iload dX4_drawDays_1) (all_c (okp_X4_2 kw713 dX4_drawDays_3) (all_c (ok_stk (s_iconst dX4_drawDays_6 (by decide))) (all_c (ok_istore dX4_drawDays_7 (by decide)) (all_c (ok_iload dX4_drawDays_9) (all_c (ok_iload dX4_drawDays_11) (all_c (ok_icmp_ge dX4_drawDays_13 (by decide)) (all_c (ok_aload_n dX4_drawDays_16 rfl) (all_c (okg_X8_0 kw725 dX4_drawDays_17) (all_c (ok_stk (s_sipush dX4_drawDays_20 (by decide))) (all_c (ok_icmp_ge dX4_drawDays_23 (by decide)) (all_c (ok_stk (s_iconst dX4_drawDays_26 (by decide))) (all_c (ok_istore dX4_drawDays_27 (by decide)) (all_c (ok_iload dX4_drawDays_29) (all_c (ok_aload_n dX4_drawDays_31 rfl) (all_c (okg_X6_2 kw726 dX4_drawDays_32) (all_c (ok_icmp_ge dX4_drawDays_35 (by decide)) (all_c (ok_aload_n dX4_drawDays_38 rfl) (all_c (ok_aload_n dX4_drawDays_39 rfl) (all_c (ok_aload_n dX4_drawDays_40 rfl) (all_c (ok_iload dX4_drawDays_41) (all_c (okc_X4_drawDeed (by decide) kw730 dX4_drawDays_43) (all_c (ok_iinc dX4_drawDays_46 (by decide) (by decide)) (all_c (ok_goto dX4_drawDays_49 (by decide)) (all_c (ok_stk (s_iconst dX4_drawDays_52 (by decide))) (all_c (ok_istore dX4_drawDays_53 (by decide)) (all_c (ok_iload dX4_drawDays_55) (all_c (ok_aload_n dX4_drawDays_57 rfl) (all_c (okg_X6_3 kw731 dX4_drawDays_58) (all_c (ok_icmp_ge dX4_drawDays_61 (by decide)) (all_c (ok_aload_n dX4_drawDays_64 rfl) (all_c (ok_stk (s_iconst dX4_drawDays_65 (by decide))) (all_c (okc_X4_draw (by decide) kw719 dX4_drawDays_66) (all_c (ok_if_ne dX4_drawDays_69 (by decide)) (all_c (ok_aload_n dX4_drawDays_72 rfl) (all_c (ok_aload_n dX4_drawDays_73 rfl) (all_c (ok_aload_n dX4_drawDays_74 rfl) (all_c (ok_iload dX4_drawDays_75) (all_c (okc_X10_tryCrossing (by decide) kw732 dX4_drawDays_77) (all_c (ok_stk (s_pop dX4_drawDays_80)) (all_c (ok_iinc dX4_drawDays_81 (by decide) (by decide)) (all_c (ok_goto dX4_drawDays_84 (by decide)) (all_c (ok_aload_n dX4_drawDays_87 rfl) (all_c (ok_aload_n dX4_drawDays_88 rfl) (all_c (ok_aload_n dX4_drawDays_89 rfl) (all_c (okg_X6_1 kw733 dX4_drawDays_90) (all_c (okc_X8_passDay (by decide) kw734 dX4_drawDays_93) (all_c (ok_stk (s_pop dX4_drawDays_96)) (all_c (ok_iinc dX4_drawDays_97 (by decide) (by decide)) (all_c (ok_goto dX4_drawDays_100 (by decide)) (all_c (ok_iload dX4_drawDays_103) (all_c (ok_iret dX4_drawDays_105) all_n))))))))))))))))))))))))))))))))))))))))))))))))))))) n (fun h => by first | rfl | cases h))
theorem dX11_drawn_0 : decode cX11_drawn 0 = .ok (.iload_n 1, 1) := by decide +kernel
theorem dX11_drawn_1 : decode cX11_drawn 1 = .ok (.iconst 1, 1) := by decide +kernel
theorem dX11_drawn_2 : decode cX11_drawn 2 = .ok (.if_icmp .lt 19, 3) := by decide +kernel
theorem dX11_drawn_5 : decode cX11_drawn 5 = .ok (.iload_n 1, 1) := by decide +kernel
theorem dX11_drawn_6 : decode cX11_drawn 6 = .ok (.bipush 60, 2) := by decide +kernel
theorem dX11_drawn_8 : decode cX11_drawn 8 = .ok (.if_icmp .gt 13, 3) := by decide +kernel
theorem dX11_drawn_11 : decode cX11_drawn 11 = .ok (.aload_n 0, 1) := by decide +kernel
theorem dX11_drawn_12 : decode cX11_drawn 12 = .ok (.getfield 26, 3) := by decide +kernel
theorem dX11_drawn_15 : decode cX11_drawn 15 = .ok (.getfield 369, 3) := by decide +kernel
theorem dX11_drawn_18 : decode cX11_drawn 18 = .ok (.ifCond .ne 5, 3) := by decide +kernel
theorem dX11_drawn_21 : decode cX11_drawn 21 = .ok (.iconst (-1), 1) := by decide +kernel
theorem dX11_drawn_22 : decode cX11_drawn 22 = .ok (.ireturn, 1) := by decide +kernel
theorem dX11_drawn_23 : decode cX11_drawn 23 = .ok (.aload_n 0, 1) := by decide +kernel
theorem dX11_drawn_24 : decode cX11_drawn 24 = .ok (.invokevirtual 237, 3) := by decide +kernel
theorem dX11_drawn_27 : decode cX11_drawn 27 = .ok (.aload_n 0, 1) := by decide +kernel
theorem dX11_drawn_28 : decode cX11_drawn 28 = .ok (.getfield 85, 3) := by decide +kernel
theorem dX11_drawn_31 : decode cX11_drawn 31 = .ok (.aload_n 0, 1) := by decide +kernel
theorem dX11_drawn_32 : decode cX11_drawn 32 = .ok (.getfield 26, 3) := by decide +kernel
theorem dX11_drawn_35 : decode cX11_drawn 35 = .ok (.aload_n 0, 1) := by decide +kernel
theorem dX11_drawn_36 : decode cX11_drawn 36 = .ok (.getfield 33, 3) := by decide +kernel
theorem dX11_drawn_39 : decode cX11_drawn 39 = .ok (.aload_n 0, 1) := by decide +kernel
theorem dX11_drawn_40 : decode cX11_drawn 40 = .ok (.getfield 57, 3) := by decide +kernel
theorem dX11_drawn_43 : decode cX11_drawn 43 = .ok (.iload_n 1, 1) := by decide +kernel
theorem dX11_drawn_44 : decode cX11_drawn 44 = .ok (.iload_n 2, 1) := by decide +kernel
theorem dX11_drawn_45 : decode cX11_drawn 45 = .ok (.invokevirtual 372, 3) := by decide +kernel
theorem dX11_drawn_48 : decode cX11_drawn 48 = .ok (.istore_n 3, 1) := by decide +kernel
theorem dX11_drawn_49 : decode cX11_drawn 49 = .ok (.iload_n 3, 1) := by decide +kernel
theorem dX11_drawn_50 : decode cX11_drawn 50 = .ok (.ifCond .le 7, 3) := by decide +kernel
theorem dX11_drawn_53 : decode cX11_drawn 53 = .ok (.aload_n 0, 1) := by decide +kernel
theorem dX11_drawn_54 : decode cX11_drawn 54 = .ok (.invokevirtual 263, 3) := by decide +kernel
theorem dX11_drawn_57 : decode cX11_drawn 57 = .ok (.iload_n 3, 1) := by decide +kernel
theorem dX11_drawn_58 : decode cX11_drawn 58 = .ok (.ireturn, 1) := by decide +kernel
theorem okc_X4_drawDays {kn : sKn} {cc : ByteArray} {own : String} {nL : Nat} {D : Nat} {ret : Option FieldType} {ini : Bool} {pc index : Nat} (hD : 5 + 1 ≤ D) (hl : Cond.methodLink own index yX4_drawDays ∈ wsL_law) (hd : decode cc pc = .ok (.invokevirtual index, 3)) : mOk kn cc own nL wsL_law D ret ini pc (a_callV false (fX4_drawDays kn) 5 (5 + 1) (pc + 3)) := ok_callV (mX4_drawDays kn) (good_ws ws_good (fun _ h => h) kw736) hD (by decide) hl kw737 kw738 kw716 ⟨by decide +kernel, by decide +kernel, by decide +kernel⟩ rfl hd
def tX11_drawn (kn : sKn) : List (Nat × sA) := [(0, a_iload 1 1), (1, a_stk (q_int 1) 2), (2, a_icmp kn b_lt 2 21 5), (5, a_iload 1 6), (6, a_stk (q_int 60) 8), (8, a_icmp kn b_gt 4 21 11), (11, a_aload 0 12), (12, a_get 12 2 15), (15, a_get 7 2 18), (18, a_if kn b_ne 1 23 21), (21, a_stk (q_int (-1)) 22), (22, a_iret), (23, a_aload 0 24), (24, a_callV true (fX11_rememberState kn) 12 1 27), (27, a_aload 0 28), (28, a_get 12 11 31), (31, a_aload 0 32), (32, a_get 12 2 35), (35, a_aload 0 36), (36, a_get 12 3 39), (39, a_aload 0 40), (40, a_get 12 7 43), (43, a_iload 1 44), (44, a_iload 2 45), (45, a_callV false (fX4_drawDays kn) 5 6 48), (48, a_istore 3 49), (49, a_iload 3 50), (50, a_if kn b_le 5 57 53), (53, a_aload 0 54), (54, a_callV true (fX11_keepRemembered kn) 12 1 57), (57, a_iload 3 58), (58, a_iret)]
def fX11_drawn (kn : sKn) : List Value → sW → Option sR := fW (tX11_drawn kn) 4
set_option maxRecDepth 100000 in
set_option maxHeartbeats 4000000 in
theorem mX11_drawn (kn : sKn) : mM kn yX11_drawn (Cond.code yX11_drawn cX11_drawn 4 (some .int) :: wsL_law) 6 false (fX11_drawn kn) := mM_W (fun n => mM_of (own := RX11) (ini := false) rfl (by decide +kernel) (by decide +kernel) (all_c (ok_iload_n dX11_drawn_0 rfl) (all_c (ok_stk (s_iconst dX11_drawn_1 (by decide))) (all_c (ok_icmp_lt dX11_drawn_2 (by decide)) (all_c (ok_iload_n dX11_drawn_5 rfl) (all_c (ok_stk (s_bipush dX11_drawn_6 (by decide))) (all_c (ok_icmp_gt dX11_drawn_8 (by decide)) (all_c (ok_aload_n dX11_drawn_11 rfl) (all_c (okg_X11_2 kw291 dX11_drawn_12) (all_c (okg_X6_2 kw515 dX11_drawn_15) (all_c (ok_if_ne dX11_drawn_18 (by decide)) (all_c (ok_stk (s_iconst dX11_drawn_21 (by decide))) (all_c (ok_iret dX11_drawn_22) (all_c (ok_aload_n dX11_drawn_23 rfl) (all_c (okc_X11_rememberState (by decide) kw506 dX11_drawn_24) (all_c (ok_aload_n dX11_drawn_27 rfl) (all_c (okg_X11_11 kw735 dX11_drawn_28) (all_c (ok_aload_n dX11_drawn_31 rfl) (all_c (okg_X11_2 kw291 dX11_drawn_32) (all_c (ok_aload_n dX11_drawn_35 rfl) (all_c (okg_X11_3 kw292 dX11_drawn_36) (all_c (ok_aload_n dX11_drawn_39 rfl) (all_c (okg_X11_7 kw290 dX11_drawn_40) (all_c (ok_iload_n dX11_drawn_43 rfl) (all_c (ok_iload_n dX11_drawn_44 rfl) (all_c (okc_X4_drawDays (by decide) kw739 dX11_drawn_45) (all_c (ok_istore_n dX11_drawn_48 rfl (by decide)) (all_c (ok_iload_n dX11_drawn_49 rfl) (all_c (ok_if_le dX11_drawn_50 (by decide)) (all_c (ok_aload_n dX11_drawn_53 rfl) (all_c (okc_X11_keepRemembered (by decide) kw514 dX11_drawn_54) (all_c (ok_iload_n dX11_drawn_57 rfl) (all_c (ok_iret dX11_drawn_58) all_n)))))))))))))))))))))))))))))))) n (fun h => by first | rfl | cases h))
theorem dX11_end_0 : decode cX11_end 0 = .ok (.iload_n 1, 1) := by decide +kernel
theorem dX11_end_1 : decode cX11_end 1 = .ok (.ifCond .lt 14, 3) := by decide +kernel
theorem dX11_end_4 : decode cX11_end 4 = .ok (.iload_n 1, 1) := by decide +kernel
theorem dX11_end_5 : decode cX11_end 5 = .ok (.aload_n 0, 1) := by decide +kernel
theorem dX11_end_6 : decode cX11_end 6 = .ok (.getfield 10, 3) := by decide +kernel
theorem dX11_end_9 : decode cX11_end 9 = .ok (.getfield 115, 3) := by decide +kernel
theorem dX11_end_12 : decode cX11_end 12 = .ok (.if_icmp .le 5, 3) := by decide +kernel
theorem dX11_end_15 : decode cX11_end 15 = .ok (.iconst 0, 1) := by decide +kernel
theorem dX11_end_16 : decode cX11_end 16 = .ok (.ireturn, 1) := by decide +kernel
theorem dX11_end_17 : decode cX11_end 17 = .ok (.aload_n 0, 1) := by decide +kernel
theorem dX11_end_18 : decode cX11_end 18 = .ok (.getfield 10, 3) := by decide +kernel
theorem dX11_end_21 : decode cX11_end 21 = .ok (.iload_n 1, 1) := by decide +kernel
theorem dX11_end_22 : decode cX11_end 22 = .ok (.putfield 115, 3) := by decide +kernel
theorem dX11_end_25 : decode cX11_end 25 = .ok (.iconst 1, 1) := by decide +kernel
theorem dX11_end_26 : decode cX11_end 26 = .ok (.ireturn, 1) := by decide +kernel
def tX11_end (kn : sKn) : List (Nat × sA) := [(0, a_iload 1 1), (1, a_if kn b_lt 2 15 4), (4, a_iload 1 5), (5, a_aload 0 6), (6, a_get 12 0 9), (9, a_get 10 1 12), (12, a_icmp kn b_le 5 17 15), (15, a_stk (q_int 0) 16), (16, a_zret), (17, a_aload 0 18), (18, a_get 12 0 21), (21, a_iload 1 22), (22, a_put 10 1 ckI 25), (25, a_stk (q_int 1) 26), (26, a_zret)]
def fX11_end (kn : sKn) : List Value → sW → Option sR := fW (tX11_end kn) 2
set_option maxRecDepth 100000 in
set_option maxHeartbeats 4000000 in
theorem mX11_end (kn : sKn) : mM kn yX11_end (Cond.code yX11_end cX11_end 2 (some .boolean) :: wsL_law) 1 false (fX11_end kn) := mM_W (fun n => mM_of (own := RX11) (ini := false) rfl (by decide +kernel) (by decide +kernel) (all_c (ok_iload_n dX11_end_0 rfl) (all_c (ok_if_lt dX11_end_1 (by decide)) (all_c (ok_iload_n dX11_end_4 rfl) (all_c (ok_aload_n dX11_end_5 rfl) (all_c (okg_X11_0 kw496 dX11_end_6) (all_c (okg_X9_1 kw501 dX11_end_9) (all_c (ok_icmp_le dX11_end_12 (by decide)) (all_c (ok_stk (s_iconst dX11_end_15 (by decide))) (all_c (ok_zret dX11_end_16) (all_c (ok_aload_n dX11_end_17 rfl) (all_c (okg_X11_0 kw496 dX11_end_18) (all_c (ok_iload_n dX11_end_21 rfl) (all_c (okp_X9_1 kw501 dX11_end_22) (all_c (ok_stk (s_iconst dX11_end_25 (by decide))) (all_c (ok_zret dX11_end_26) all_n))))))))))))))) n (fun h => by first | rfl | cases h))
theorem dX11_fault_0 : decode cX11_fault 0 = .ok (.aload_n 0, 1) := by decide +kernel
theorem dX11_fault_1 : decode cX11_fault 1 = .ok (.getfield 10, 3) := by decide +kernel
theorem dX11_fault_4 : decode cX11_fault 4 = .ok (.getfield 147, 3) := by decide +kernel
theorem dX11_fault_7 : decode cX11_fault 7 = .ok (.ireturn, 1) := by decide +kernel
def tX11_fault (kn : sKn) : List (Nat × sA) := [(0, a_aload 0 1), (1, a_get 12 0 4), (4, a_get 10 11 7), (7, a_iret)]
def fX11_fault (kn : sKn) : List Value → sW → Option sR := fW (tX11_fault kn) 1
set_option maxRecDepth 100000 in
set_option maxHeartbeats 4000000 in
theorem mX11_fault (kn : sKn) : mM kn yX11_fault (Cond.code yX11_fault cX11_fault 1 (some .int) :: wsL_law) 1 false (fX11_fault kn) := mM_W (fun n => mM_of (own := RX11) (ini := false) rfl (by decide +kernel) (by decide +kernel) (all_c (ok_aload_n dX11_fault_0 rfl) (all_c (okg_X11_0 kw496 dX11_fault_1) (all_c (okg_X9_11 kw740 dX11_fault_4) (all_c (ok_iret dX11_fault_7) all_n)))) n (fun h => by first | rfl | cases h))
theorem dX9_put_0 : decode cX9_put 0 = .ok (.bipush 24, 2) := by decide +kernel
theorem dX9_put_2 : decode cX9_put 2 = .ok (.istore_n 2, 1) := by decide +kernel
theorem dX9_put_3 : decode cX9_put 3 = .ok (.iload_n 2, 1) := by decide +kernel
theorem dX9_put_4 : decode cX9_put 4 = .ok (.ifCond .lt 45, 3) := by decide +kernel
theorem dX9_put_7 : decode cX9_put 7 = .ok (.aload_n 0, 1) := by decide +kernel
theorem dX9_put_8 : decode cX9_put 8 = .ok (.getfield 15, 3) := by decide +kernel
theorem dX9_put_11 : decode cX9_put 11 = .ok (.sipush 940, 3) := by decide +kernel
theorem dX9_put_14 : decode cX9_put 14 = .ok (.if_icmp .ge 35, 3) := by decide +kernel
theorem dX9_put_17 : decode cX9_put 17 = .ok (.aload_n 0, 1) := by decide +kernel
theorem dX9_put_18 : decode cX9_put 18 = .ok (.getfield 9, 3) := by decide +kernel
theorem dX9_put_21 : decode cX9_put 21 = .ok (.aload_n 0, 1) := by decide +kernel
theorem dX9_put_22 : decode cX9_put 22 = .ok (.getfield 15, 3) := by decide +kernel
theorem dX9_put_25 : decode cX9_put 25 = .ok (.iload_n 1, 1) := by decide +kernel
theorem dX9_put_26 : decode cX9_put 26 = .ok (.iload_n 2, 1) := by decide +kernel
theorem dX9_put_27 : decode cX9_put 27 = .ok (.iushr, 1) := by decide +kernel
theorem dX9_put_28 : decode cX9_put 28 = .ok (.sipush 255, 3) := by decide +kernel
theorem dX9_put_31 : decode cX9_put 31 = .ok (.iand, 1) := by decide +kernel
theorem dX9_put_32 : decode cX9_put 32 = .ok (.iastore, 1) := by decide +kernel
theorem dX9_put_33 : decode cX9_put 33 = .ok (.aload_n 0, 1) := by decide +kernel
theorem dX9_put_34 : decode cX9_put 34 = .ok (.dup, 1) := by decide +kernel
theorem dX9_put_35 : decode cX9_put 35 = .ok (.getfield 15, 3) := by decide +kernel
theorem dX9_put_38 : decode cX9_put 38 = .ok (.iconst 1, 1) := by decide +kernel
theorem dX9_put_39 : decode cX9_put 39 = .ok (.iadd, 1) := by decide +kernel
theorem dX9_put_40 : decode cX9_put 40 = .ok (.putfield 15, 3) := by decide +kernel
theorem dX9_put_43 : decode cX9_put 43 = .ok (.iinc 2 (-8), 3) := by decide +kernel
theorem dX9_put_46 : decode cX9_put 46 = .ok (.goto (-43), 3) := by decide +kernel
theorem dX9_put_49 : decode cX9_put 49 = .ok (.return_, 1) := by decide +kernel
def tX9_put (kn : sKn) : List (Nat × sA) := [(0, a_stk (q_int 24) 2), (2, a_istore 2 3), (3, a_iload 2 4), (4, a_if kn b_lt 2 49 7), (7, a_aload 0 8), (8, a_get 10 1 11), (11, a_stk (q_int 940) 14), (14, a_icmp kn b_ge 3 49 17), (17, a_aload 0 18), (18, a_get 10 0 21), (21, a_aload 0 22), (22, a_get 10 1 25), (25, a_iload 1 26), (26, a_iload 2 27), (27, a_stk q_iushr 28), (28, a_stk (q_int 255) 31), (31, a_stk q_iand 32), (32, a_iast 33), (33, a_aload 0 34), (34, a_stk q_dup 35), (35, a_get 10 1 38), (38, a_stk (q_int 1) 39), (39, a_stk q_iadd 40), (40, a_put 10 1 ckI 43), (43, a_iinc 2 (-8) 46), (46, a_goto 3), (49, a_vret)]
def fX9_put (kn : sKn) : List Value → sW → Option sR := fW (tX9_put kn) 3
set_option maxRecDepth 100000 in
set_option maxHeartbeats 4000000 in
theorem mX9_put (kn : sKn) : mM kn yX9_put (Cond.code yX9_put cX9_put 3 none :: wsL_law) 1 true (fX9_put kn) := mM_W (fun n => mM_of (own := RX9) (ini := false) rfl (by decide +kernel) (by decide +kernel) (all_c (ok_stk (s_bipush dX9_put_0 (by decide))) (all_c (ok_istore_n dX9_put_2 rfl (by decide)) (all_c (ok_iload_n dX9_put_3 rfl) (all_c (ok_if_lt dX9_put_4 (by decide)) (all_c (ok_aload_n dX9_put_7 rfl) (all_c (okg_X9_1 kw406 dX9_put_8) (all_c (ok_stk (s_sipush dX9_put_11 (by decide))) (all_c (ok_icmp_ge dX9_put_14 (by decide)) (all_c (ok_aload_n dX9_put_17 rfl) (all_c (okg_X9_0 kw398 dX9_put_18) (all_c (ok_aload_n dX9_put_21 rfl) (all_c (okg_X9_1 kw406 dX9_put_22) (all_c (ok_iload_n dX9_put_25 rfl) (all_c (ok_iload_n dX9_put_26 rfl) (all_c (ok_stk (s_iushr dX9_put_27)) (all_c (ok_stk (s_sipush dX9_put_28 (by decide))) (all_c (ok_stk (s_iand dX9_put_31)) (all_c (ok_iast dX9_put_32) (all_c (ok_aload_n dX9_put_33 rfl) (all_c (ok_stk (s_dup dX9_put_34)) (all_c (okg_X9_1 kw406 dX9_put_35) (all_c (ok_stk (s_iconst dX9_put_38 (by decide))) (all_c (ok_stk (s_iadd dX9_put_39)) (all_c (okp_X9_1 kw406 dX9_put_40) (all_c (ok_iinc dX9_put_43 (by decide) (by decide)) (all_c (ok_goto dX9_put_46 (by decide)) (all_c (ok_vret dX9_put_49) all_n))))))))))))))))))))))))))) n (fun h => by first | rfl | cases h))
end
