noncomputable section
theorem dL_signer_0 : decode cL_signer 0 = .ok (.aload_n 3, 1) := by decide +kernel
theorem dL_signer_1 : decode cL_signer 1 = .ok (.iconst 0, 1) := by decide +kernel
theorem dL_signer_2 : decode cL_signer 2 = .ok (.aload_n 0, 1) := by decide +kernel
theorem dL_signer_3 : decode cL_signer 3 = .ok (.iload_n 1, 1) := by decide +kernel
theorem dL_signer_4 : decode cL_signer 4 = .ok (.iload_n 2, 1) := by decide +kernel
theorem dL_signer_5 : decode cL_signer 5 = .ok (.invokevirtual 7, 3) := by decide +kernel
theorem dL_signer_8 : decode cL_signer 8 = .ok (.i2l, 1) := by decide +kernel
theorem dL_signer_9 : decode cL_signer 9 = .ok (.lastore, 1) := by decide +kernel
theorem dL_signer_10 : decode cL_signer 10 = .ok (.goto 7, 3) := by decide +kernel
theorem dL_signer_13 : decode cL_signer 13 = .ok (.astore 4, 2) := by decide +kernel
theorem dL_signer_15 : decode cL_signer 15 = .ok (.iconst 1, 1) := by decide +kernel
theorem dL_signer_16 : decode cL_signer 16 = .ok (.ireturn, 1) := by decide +kernel
theorem dL_signer_17 : decode cL_signer 17 = .ok (.iconst 0, 1) := by decide +kernel
theorem dL_signer_18 : decode cL_signer 18 = .ok (.ireturn, 1) := by decide +kernel
def tL_signer (kn : sKn) : List (Nat × sA) := [(0, a_aload 3 1), (1, a_stk (q_int 0) 2), (2, a_aload 0 3), (3, a_iload 1 4), (4, a_iload 2 5), (5, a_callVX (fX11_signer kn) 12 3 8 13), (8, a_stk q_i2l 9), (9, a_last 10), (10, a_goto 17), (13, a_astore 4 15), (15, a_stk (q_int 1) 16), (16, a_iret), (17, a_stk (q_int 0) 18), (18, a_iret)]
def fL_signer (kn : sKn) : List Value → sW → Option sR := mF (tL_signer kn) 5 1000000
set_option maxRecDepth 100000 in
set_option maxHeartbeats 4000000 in
theorem mL_signer (kn : sKn) : mM kn yL_signer (Cond.codeWith yL_signer cL_signer 5 (some .int) [(0, 10, 13, 13)] :: wsL_law) 7 false (fL_signer kn) := mM_ofH (own := RL) (x := { startPc := 0, endPc := 10, handlerPc := 13, catchType := 13 }) rfl (by decide +kernel) rfl (alT_c (ok_T (ok_aload_n dL_signer_0 rfl)) (alT_c (ok_T (ok_stk (s_iconst dL_signer_1 (by decide)))) (alT_c (ok_T (ok_aload_n dL_signer_2 rfl)) (alT_c (ok_T (ok_iload_n dL_signer_3 rfl)) (alT_c (ok_T (ok_iload_n dL_signer_4 rfl)) (alT_c (ok_callVX (mX11_signer kn) (good_ws ws_good (fun _ h => h) kw1020) (by decide) (by decide) kw1021 kw1018 kw1019 kw119 ⟨by decide +kernel, by decide +kernel, by decide +kernel⟩ rfl dL_signer_5 (by decide) (by decide) kw1022) (alT_c (ok_T (ok_stk (s_i2l dL_signer_8))) (alT_c (ok_T (ok_last dL_signer_9)) (alT_c (ok_T (ok_goto dL_signer_10 (by decide))) (alT_c (ok_T (ok_astore dL_signer_13 (by decide))) (alT_c (ok_T (ok_stk (s_iconst dL_signer_15 (by decide)))) (alT_c (ok_T (ok_iret dL_signer_16)) (alT_c (ok_T (ok_stk (s_iconst dL_signer_17 (by decide)))) (alT_c (ok_T (ok_iret dL_signer_18)) alT_n)))))))))))))) 1000000
theorem dL_plank_0 : decode cL_plank 0 = .ok (.aload 4, 2) := by decide +kernel
theorem dL_plank_2 : decode cL_plank 2 = .ok (.iconst 0, 1) := by decide +kernel
theorem dL_plank_3 : decode cL_plank 3 = .ok (.aload_n 0, 1) := by decide +kernel
theorem dL_plank_4 : decode cL_plank 4 = .ok (.iload_n 1, 1) := by decide +kernel
theorem dL_plank_5 : decode cL_plank 5 = .ok (.iload_n 2, 1) := by decide +kernel
theorem dL_plank_6 : decode cL_plank 6 = .ok (.iload_n 3, 1) := by decide +kernel
theorem dL_plank_7 : decode cL_plank 7 = .ok (.invokevirtual 15, 3) := by decide +kernel
theorem dL_plank_10 : decode cL_plank 10 = .ok (.i2l, 1) := by decide +kernel
theorem dL_plank_11 : decode cL_plank 11 = .ok (.lastore, 1) := by decide +kernel
theorem dL_plank_12 : decode cL_plank 12 = .ok (.goto 7, 3) := by decide +kernel
theorem dL_plank_15 : decode cL_plank 15 = .ok (.astore 5, 2) := by decide +kernel
theorem dL_plank_17 : decode cL_plank 17 = .ok (.iconst 1, 1) := by decide +kernel
theorem dL_plank_18 : decode cL_plank 18 = .ok (.ireturn, 1) := by decide +kernel
theorem dL_plank_19 : decode cL_plank 19 = .ok (.iconst 0, 1) := by decide +kernel
theorem dL_plank_20 : decode cL_plank 20 = .ok (.ireturn, 1) := by decide +kernel
def tL_plank (kn : sKn) : List (Nat × sA) := [(0, a_aload 4 2), (2, a_stk (q_int 0) 3), (3, a_aload 0 4), (4, a_iload 1 5), (5, a_iload 2 6), (6, a_iload 3 7), (7, a_callVX (fX11_plank kn) 12 4 10 15), (10, a_stk q_i2l 11), (11, a_last 12), (12, a_goto 19), (15, a_astore 5 17), (17, a_stk (q_int 1) 18), (18, a_iret), (19, a_stk (q_int 0) 20), (20, a_iret)]
def fL_plank (kn : sKn) : List Value → sW → Option sR := mF (tL_plank kn) 6 1000000
set_option maxRecDepth 100000 in
set_option maxHeartbeats 4000000 in
theorem mL_plank (kn : sKn) : mM kn yL_plank (Cond.codeWith yL_plank cL_plank 6 (some .int) [(0, 12, 15, 13)] :: wsL_law) 7 false (fL_plank kn) := mM_ofH (own := RL) (x := { startPc := 0, endPc := 12, handlerPc := 15, catchType := 13 }) rfl (by decide +kernel) rfl (alT_c (ok_T (ok_aload dL_plank_0)) (alT_c (ok_T (ok_stk (s_iconst dL_plank_2 (by decide)))) (alT_c (ok_T (ok_aload_n dL_plank_3 rfl)) (alT_c (ok_T (ok_iload_n dL_plank_4 rfl)) (alT_c (ok_T (ok_iload_n dL_plank_5 rfl)) (alT_c (ok_T (ok_iload_n dL_plank_6 rfl)) (alT_c (ok_callVX (mX11_plank kn) (good_ws ws_good (fun _ h => h) kw1025) (by decide) (by decide) kw1026 kw1023 kw1024 kw119 ⟨by decide +kernel, by decide +kernel, by decide +kernel⟩ rfl dL_plank_7 (by decide) (by decide) kw1022) (alT_c (ok_T (ok_stk (s_i2l dL_plank_10))) (alT_c (ok_T (ok_last dL_plank_11)) (alT_c (ok_T (ok_goto dL_plank_12 (by decide))) (alT_c (ok_T (ok_astore dL_plank_15 (by decide))) (alT_c (ok_T (ok_stk (s_iconst dL_plank_17 (by decide)))) (alT_c (ok_T (ok_iret dL_plank_18)) (alT_c (ok_T (ok_stk (s_iconst dL_plank_19 (by decide)))) (alT_c (ok_T (ok_iret dL_plank_20)) alT_n))))))))))))))) 1000000
theorem dL_load_0 : decode cL_load 0 = .ok (.aload_n 3, 1) := by decide +kernel
theorem dL_load_1 : decode cL_load 1 = .ok (.iconst 0, 1) := by decide +kernel
theorem dL_load_2 : decode cL_load 2 = .ok (.aload_n 0, 1) := by decide +kernel
theorem dL_load_3 : decode cL_load 3 = .ok (.iload_n 1, 1) := by decide +kernel
theorem dL_load_4 : decode cL_load 4 = .ok (.iload_n 2, 1) := by decide +kernel
theorem dL_load_5 : decode cL_load 5 = .ok (.invokevirtual 19, 3) := by decide +kernel
theorem dL_load_8 : decode cL_load 8 = .ok (.i2l, 1) := by decide +kernel
theorem dL_load_9 : decode cL_load 9 = .ok (.lastore, 1) := by decide +kernel
theorem dL_load_10 : decode cL_load 10 = .ok (.goto 7, 3) := by decide +kernel
theorem dL_load_13 : decode cL_load 13 = .ok (.astore 4, 2) := by decide +kernel
theorem dL_load_15 : decode cL_load 15 = .ok (.iconst 1, 1) := by decide +kernel
theorem dL_load_16 : decode cL_load 16 = .ok (.ireturn, 1) := by decide +kernel
theorem dL_load_17 : decode cL_load 17 = .ok (.iconst 0, 1) := by decide +kernel
theorem dL_load_18 : decode cL_load 18 = .ok (.ireturn, 1) := by decide +kernel
def tL_load (kn : sKn) : List (Nat × sA) := [(0, a_aload 3 1), (1, a_stk (q_int 0) 2), (2, a_aload 0 3), (3, a_iload 1 4), (4, a_iload 2 5), (5, a_callVX (fX11_load kn) 12 3 8 13), (8, a_stk q_i2l 9), (9, a_last 10), (10, a_goto 17), (13, a_astore 4 15), (15, a_stk (q_int 1) 16), (16, a_iret), (17, a_stk (q_int 0) 18), (18, a_iret)]
def fL_load (kn : sKn) : List Value → sW → Option sR := mF (tL_load kn) 5 1000000
set_option maxRecDepth 100000 in
set_option maxHeartbeats 4000000 in
theorem mL_load (kn : sKn) : mM kn yL_load (Cond.codeWith yL_load cL_load 5 (some .int) [(0, 10, 13, 13)] :: wsL_law) 7 false (fL_load kn) := mM_ofH (own := RL) (x := { startPc := 0, endPc := 10, handlerPc := 13, catchType := 13 }) rfl (by decide +kernel) rfl (alT_c (ok_T (ok_aload_n dL_load_0 rfl)) (alT_c (ok_T (ok_stk (s_iconst dL_load_1 (by decide)))) (alT_c (ok_T (ok_aload_n dL_load_2 rfl)) (alT_c (ok_T (ok_iload_n dL_load_3 rfl)) (alT_c (ok_T (ok_iload_n dL_load_4 rfl)) (alT_c (ok_callVX (mX11_load kn) (good_ws ws_good (fun _ h => h) kw1029) (by decide) (by decide) kw1030 kw1027 kw1028 kw119 ⟨by decide +kernel, by decide +kernel, by decide +kernel⟩ rfl dL_load_5 (by decide) (by decide) kw1022) (alT_c (ok_T (ok_stk (s_i2l dL_load_8))) (alT_c (ok_T (ok_last dL_load_9)) (alT_c (ok_T (ok_goto dL_load_10 (by decide))) (alT_c (ok_T (ok_astore dL_load_13 (by decide))) (alT_c (ok_T (ok_stk (s_iconst dL_load_15 (by decide)))) (alT_c (ok_T (ok_iret dL_load_16)) (alT_c (ok_T (ok_stk (s_iconst dL_load_17 (by decide)))) (alT_c (ok_T (ok_iret dL_load_18)) alT_n)))))))))))))) 1000000
end
