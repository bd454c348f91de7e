noncomputable section
theorem mem_or {a b T : List Cond} (ha : ∀ w ∈ a, w ∈ T) (hb : ∀ w ∈ b, w ∈ T) : ∀ w ∈ a ++ b, w ∈ T := fun w h => (List.mem_append.mp h).elim (ha w) (hb w)
set_option maxRecDepth 20000 in
theorem tbz_wsX110 : ∀ w ∈ wsX110, w ∈ lw_tbl := by decide +kernel
set_option maxRecDepth 20000 in
theorem tbz_wsX120 : ∀ w ∈ wsX120, w ∈ lw_tbl := by decide +kernel
set_option maxRecDepth 20000 in
theorem tbz_wsX90 : ∀ w ∈ wsX90, w ∈ lw_tbl := by decide +kernel
set_option maxRecDepth 20000 in
theorem tbz_wsX20 : ∀ w ∈ wsX20, w ∈ lw_tbl := by decide +kernel
set_option maxRecDepth 20000 in
theorem tbz_wsX60 : ∀ w ∈ wsX60, w ∈ lw_tbl := by decide +kernel
set_option maxRecDepth 20000 in
theorem tbz_wsX80 : ∀ w ∈ wsX80, w ∈ lw_tbl := by decide +kernel
set_option maxRecDepth 20000 in
theorem tbz_wsX70 : ∀ w ∈ wsX70, w ∈ lw_tbl := by decide +kernel
set_option maxRecDepth 20000 in
theorem tbz_wsX10 : ∀ w ∈ wsX10, w ∈ lw_tbl := by decide +kernel
set_option maxRecDepth 20000 in
theorem tbz_wsX100 : ∀ w ∈ wsX100, w ∈ lw_tbl := by decide +kernel
set_option maxRecDepth 20000 in
theorem tbz_wsX00 : ∀ w ∈ wsX00, w ∈ lw_tbl := by decide +kernel
set_option maxRecDepth 20000 in
theorem tbz_wsX30 : ∀ w ∈ wsX30, w ∈ lw_tbl := by decide +kernel
set_option maxRecDepth 20000 in
theorem tbz_wsX50 : ∀ w ∈ wsX50, w ∈ lw_tbl := by decide +kernel
set_option maxRecDepth 20000 in
theorem tbz_wsX40 : ∀ w ∈ wsX40, w ∈ lw_tbl := by decide +kernel
set_option maxRecDepth 20000 in
theorem tbz_wsJ40 : ∀ w ∈ wsJ40, w ∈ lw_tbl := by decide +kernel
set_option maxRecDepth 20000 in
theorem tb_nse : ∀ w ∈ (vx_at0 RX11 156 "java/util/NoSuchElementException" ["java/lang/RuntimeException", "java/lang/Exception"]).filter goodWord, w ∈ lw_tbl := by decide +kernel
theorem wsL_law_in : ∀ w ∈ wsL_law, w ∈ lw_all := mem_or (mem_or (mem_or (mem_or (mem_or (mem_or (mem_or (mem_or (mem_or (mem_or (mem_or (mem_or (mem_or (mem_or (mem_or (mem_or (mem_or tb__r1 (mem_or tb__r2 (mem_or tb__r3 (mem_or tb__r4 (mem_or tb__r5 (mem_or tb__r6 (mem_or tb__r7 (mem_or tb__r8 (mem_or tb__r9 (mem_or tb__r10 (mem_or tb__r11 (mem_or tb__r12 (mem_or tb__r13 (mem_or tb__r14 (mem_or tb__r15 (mem_or tb__r16 (mem_or tb__r17 (mem_or tb__r18 (mem_or tb__r19 (mem_or tb__r20 (mem_or tb__r21 (mem_or tb__r22 (mem_or tb__r23 (mem_or tb__r24 (mem_or tb__r25 (mem_or tb__r26 (mem_or tb__r27 (mem_or tb__r28 (mem_or tb__r29 (mem_or tb__r30 (mem_or tb__r31 (mem_or tb__r32 (mem_or tb__r33 (mem_or tb__r34 (mem_or tb__r35 (mem_or tb__r36 (mem_or tb__r37 (mem_or tb__r38 (mem_or tb__r39 (mem_or tb__r40 (mem_or tb__r41 (mem_or tb__r42 (mem_or tb__r43 (mem_or tb__r44 (mem_or tb__r45 (mem_or tb__r46 (mem_or tb__r47 (mem_or tb__r48 (mem_or tb__r49 (mem_or tb__r50 (mem_or tb__r51 (mem_or tb__r52 (mem_or tb__r53 (mem_or tb__r54 (mem_or tb__r55 (mem_or tb__r56 (mem_or tb__r57 (mem_or tb__r58 (mem_or tb__r59 (mem_or tb__r60 (mem_or tb__r61 (mem_or tb__r62 (mem_or tb__r63 (mem_or tb__r64 (mem_or tb__r65 (mem_or tb__r66 (mem_or tb__r67 (mem_or tb__r68 (mem_or tb__r69 (mem_or tb__r70 (mem_or tb__r71 (mem_or tb__r72 (mem_or tb__r73 (mem_or tb__r74 (mem_or tb__r75 (mem_or tb__r76 (mem_or tb__r77 (mem_or tb__r78 (mem_or tb__r79 (mem_or tb__r80 (mem_or tb__r81 (mem_or tb__r82 tb__r83)))))))))))))))))))))))))))))))))))))))))))))))))))))))))))))))))))))))))))))))))) (fun w h => List.mem_append_right _ (tbz_wsX110 w h))) (fun w h => List.mem_append_right _ (tbz_wsX120 w h))) (fun w h => List.mem_append_right _ (tbz_wsX90 w h))) (fun w h => List.mem_append_right _ (tbz_wsX20 w h))) (fun w h => List.mem_append_right _ (tbz_wsX60 w h))) (fun w h => List.mem_append_right _ (tbz_wsX80 w h))) (fun w h => List.mem_append_right _ (tbz_wsX70 w h))) (fun w h => List.mem_append_right _ (tbz_wsX10 w h))) (fun w h => List.mem_append_right _ (tbz_wsX100 w h))) (fun w h => List.mem_append_right _ (tbz_wsX00 w h))) (fun w h => List.mem_append_right _ (tbz_wsX30 w h))) (fun w h => List.mem_append_right _ (tbz_wsX50 w h))) (fun w h => List.mem_append_right _ (tbz_wsX40 w h))) (fun w h => List.mem_append_right _ (tbz_wsJ40 w h))) (fun w h => absurd h List.not_mem_nil)) (fun w h => List.mem_append_right _ (tb_nse w h))
end
