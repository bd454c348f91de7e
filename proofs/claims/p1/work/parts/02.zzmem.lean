noncomputable section
def tbs (k : Nat) : List Cond := match k with
  | 0 => k2_sels lw_privs
  | 1 => tables_1_1
  | 2 => tables_1_2
  | 3 => tables_1_3
  | 4 => tables_1_4
  | 5 => tables_1_5
  | 6 => tables_1_6
  | 7 => tables_1_7
  | 8 => tables_1_8
  | 9 => tables_1_9
  | 10 => tables_1_10
  | 11 => tables_1_11
  | _ => []
theorem tbs_in (k : Nat) : ∀ w ∈ tbs k, w ∈ lw_tbl := fun w h => match k, h with
  | 0, h => List.mem_append_left _ h
  | 1, h => List.mem_append_right _ (List.mem_append_left _ h)
  | 2, h => List.mem_append_right _ (List.mem_append_right _ (List.mem_append_left _ h))
  | 3, h => List.mem_append_right _ (List.mem_append_right _ (List.mem_append_right _ (List.mem_append_left _ h)))
  | 4, h => List.mem_append_right _ (List.mem_append_right _ (List.mem_append_right _ (List.mem_append_right _ (List.mem_append_left _ h))))
  | 5, h => List.mem_append_right _ (List.mem_append_right _ (List.mem_append_right _ (List.mem_append_right _ (List.mem_append_right _ (List.mem_append_left _ h)))))
  | 6, h => List.mem_append_right _ (List.mem_append_right _ (List.mem_append_right _ (List.mem_append_right _ (List.mem_append_right _ (List.mem_append_right _ (List.mem_append_left _ h))))))
  | 7, h => List.mem_append_right _ (List.mem_append_right _ (List.mem_append_right _ (List.mem_append_right _ (List.mem_append_right _ (List.mem_append_right _ (List.mem_append_right _ (List.mem_append_left _ h)))))))
  | 8, h => List.mem_append_right _ (List.mem_append_right _ (List.mem_append_right _ (List.mem_append_right _ (List.mem_append_right _ (List.mem_append_right _ (List.mem_append_right _ (List.mem_append_right _ (List.mem_append_left _ h))))))))
  | 9, h => List.mem_append_right _ (List.mem_append_right _ (List.mem_append_right _ (List.mem_append_right _ (List.mem_append_right _ (List.mem_append_right _ (List.mem_append_right _ (List.mem_append_right _ (List.mem_append_right _ (List.mem_append_left _ h)))))))))
  | 10, h => List.mem_append_right _ (List.mem_append_right _ (List.mem_append_right _ (List.mem_append_right _ (List.mem_append_right _ (List.mem_append_right _ (List.mem_append_right _ (List.mem_append_right _ (List.mem_append_right _ (List.mem_append_right _ (List.mem_append_left _ h))))))))))
  | 11, h => List.mem_append_right _ (List.mem_append_right _ (List.mem_append_right _ (List.mem_append_right _ (List.mem_append_right _ (List.mem_append_right _ (List.mem_append_right _ (List.mem_append_right _ (List.mem_append_right _ (List.mem_append_right _ (List.mem_append_right _ (h)))))))))))
  | _ + 12, h => absurd h List.not_mem_nil
theorem tbs_of {ws : List Cond} (ps : List (Nat × Nat)) (h : ws = ps.filterMap (fun q => (tbs q.1)[q.2]?)) : ∀ w ∈ ws, w ∈ lw_tbl := by
  intro w hw
  rw [h] at hw
  obtain ⟨q, -, hq⟩ := List.mem_filterMap.mp hw
  exact tbs_in q.1 w (List.mem_of_getElem? hq)
set_option maxRecDepth 20000 in
theorem tb_r1 : ∀ w ∈ wsL_law0_r1, w ∈ lw_tbl := tbs_of [(1, 29), (1, 30), (1, 1), (7, 212), (7, 206), (1, 18), (1, 227), (1, 31), (1, 32), (1, 33), (1, 34), (1, 35), (1, 36), (1, 37), (1, 38), (1, 2), (3, 47), (1, 101), (1, 102), (1, 3), (3, 48), (2, 6), (1, 108), (1, 4)] (by decide +kernel)
set_option maxRecDepth 20000 in
theorem tb_r2 : ∀ w ∈ wsL_law0_r2, w ∈ lw_tbl := tbs_of [(3, 49), (2, 8), (2, 9), (1, 6), (3, 50), (2, 68), (2, 69), (1, 7), (3, 51), (3, 52), (2, 103), (2, 104), (1, 8), (3, 53), (2, 129), (2, 130), (1, 9), (3, 54), (2, 150), (2, 151), (1, 10), (3, 55), (2, 176), (2, 177)] (by decide +kernel)
set_option maxRecDepth 20000 in
theorem tb_r3 : ∀ w ∈ wsL_law0_r3, w ∈ lw_tbl := tbs_of [(1, 11), (3, 56), (2, 202), (2, 203), (1, 12), (3, 57), (2, 226), (2, 227), (1, 13), (3, 58), (3, 12), (3, 13), (1, 15), (3, 59), (3, 60), (3, 63), (3, 64), (3, 65), (3, 108), (3, 66), (1, 40), (1, 41), (1, 42), (1, 100)] (by decide +kernel)
set_option maxRecDepth 20000 in
theorem tb_r4 : ∀ w ∈ wsL_law0_r4, w ∈ lw_tbl := tbs_of [(1, 43), (1, 104), (1, 105), (1, 106), (1, 107), (1, 228), (1, 109), (1, 110), (1, 111), (1, 112), (1, 158), (1, 161), (1, 164), (1, 169), (1, 174), (1, 177), (1, 180), (1, 182), (1, 189), (1, 113), (1, 114), (1, 115), (1, 116), (1, 120)] (by decide +kernel)
set_option maxRecDepth 20000 in
theorem tb_r5 : ∀ w ∈ wsL_law0_r5, w ∈ lw_tbl := tbs_of [(1, 129), (1, 134), (1, 142), (1, 148), (1, 151), (1, 117), (1, 118), (1, 5), (1, 119), (2, 7), (2, 10), (2, 11), (2, 12), (2, 13), (2, 26), (2, 30), (2, 32), (2, 35), (2, 43), (2, 46), (2, 14), (2, 71), (2, 72), (2, 73)] (by decide +kernel)
set_option maxRecDepth 20000 in
theorem tb_r6 : ∀ w ∈ wsL_law0_r6, w ∈ lw_tbl := tbs_of [(2, 74), (2, 75), (2, 76), (2, 78), (2, 81), (2, 106), (2, 107), (2, 108), (2, 109), (2, 110), (2, 111), (2, 112), (2, 114), (2, 132), (2, 133), (2, 134), (2, 135), (2, 137), (2, 138), (2, 139), (2, 152), (2, 153), (2, 154), (2, 155)] (by decide +kernel)
set_option maxRecDepth 20000 in
theorem tb_r7 : ∀ w ∈ wsL_law0_r7, w ∈ lw_tbl := tbs_of [(2, 156), (2, 159), (2, 160), (2, 161), (2, 162), (2, 163), (2, 157), (2, 158), (2, 179), (2, 180), (2, 181), (2, 182), (2, 184), (2, 185), (2, 186), (2, 187), (2, 183), (2, 205), (2, 206), (2, 207), (2, 208), (2, 209), (2, 210), (2, 211)] (by decide +kernel)
set_option maxRecDepth 20000 in
theorem tb_r8 : ∀ w ∈ wsL_law0_r8, w ∈ lw_tbl := tbs_of [(2, 213), (2, 229), (2, 230), (2, 231), (2, 232), (2, 234), (2, 235), (2, 237), (2, 233), (3, 14), (3, 15), (3, 16), (3, 17), (3, 18), (1, 14), (3, 19), (3, 20), (3, 21), (3, 43), (3, 30), (3, 31), (3, 23), (3, 24), (1, 17)] (by decide +kernel)
set_option maxRecDepth 20000 in
theorem tb_r9 : ∀ w ∈ wsL_law0_r9, w ∈ lw_tbl := tbs_of [(3, 25), (3, 26), (3, 27), (3, 28), (3, 29), (7, 213), (7, 214), (7, 215), (7, 216), (7, 226), (7, 239), (8, 0), (8, 1), (8, 2), (8, 3), (8, 4), (8, 5), (8, 6), (8, 7), (8, 12), (8, 14), (8, 15), (8, 16), (8, 17)] (by decide +kernel)
set_option maxRecDepth 20000 in
theorem tb_r10 : ∀ w ∈ wsL_law0_r10, w ∈ lw_tbl := tbs_of [(8, 18), (8, 19), (8, 22), (8, 23), (8, 25), (8, 26), (8, 27), (8, 30), (8, 31), (8, 32), (8, 33), (8, 36), (8, 37), (8, 40), (7, 217), (7, 219), (0, 67), (7, 220), (7, 221), (7, 223), (0, 68), (7, 224), (3, 109), (3, 110)] (by decide +kernel)
set_option maxRecDepth 20000 in
theorem tb_r11 : ∀ w ∈ wsL_law0_r11, w ∈ lw_tbl := tbs_of [(3, 111), (3, 112), (1, 45), (3, 113), (3, 114), (3, 115), (3, 116), (1, 46), (7, 199), (7, 200), (7, 201), (7, 202), (7, 225), (7, 227), (7, 203), (7, 205), (0, 66), (7, 207), (3, 117), (3, 118), (3, 119), (3, 120), (7, 208), (7, 209)] (by decide +kernel)
set_option maxRecDepth 20000 in
theorem tb_r12 : ∀ w ∈ wsL_law0_r12, w ∈ lw_tbl := tbs_of [(7, 210), (7, 211), (3, 121), (3, 122), (3, 123), (3, 124), (1, 71), (1, 229), (3, 62), (1, 231), (3, 125), (3, 126), (3, 127), (3, 128), (1, 232), (1, 233), (1, 234), (1, 230), (1, 51), (3, 129), (3, 130), (3, 131), (3, 132), (3, 133)] (by decide +kernel)
set_option maxRecDepth 20000 in
theorem tb_r13 : ∀ w ∈ wsL_law0_r13, w ∈ lw_tbl := tbs_of [(1, 48), (1, 49), (1, 69), (3, 134), (3, 135), (3, 136), (3, 137), (3, 138), (3, 139), (1, 19), (3, 140), (1, 54), (1, 52), (1, 57), (3, 141), (3, 142), (3, 143), (3, 144), (3, 145), (3, 146), (3, 147), (3, 148), (3, 149), (3, 150)] (by decide +kernel)
set_option maxRecDepth 20000 in
theorem tb_r14 : ∀ w ∈ wsL_law0_r14, w ∈ lw_tbl := tbs_of [(3, 152), (0, 0), (3, 153), (1, 60), (3, 154), (3, 155), (3, 157), (3, 158), (3, 159), (1, 16), (3, 160), (11, 21), (3, 161), (3, 162), (3, 163), (3, 164), (3, 165), (11, 20), (3, 166), (3, 167), (1, 20), (3, 168), (3, 169), (3, 170)] (by decide +kernel)
set_option maxRecDepth 20000 in
theorem tb_r15 : ∀ w ∈ wsL_law0_r15, w ∈ lw_tbl := tbs_of [(3, 171), (3, 172), (3, 174), (3, 175), (1, 21), (3, 176), (3, 177), (3, 178), (3, 179), (3, 180), (3, 181), (3, 182), (3, 183), (3, 184), (3, 185), (3, 186), (3, 187), (3, 188), (3, 189), (3, 190), (3, 192), (3, 194), (3, 196), (3, 198)] (by decide +kernel)
set_option maxRecDepth 20000 in
theorem tb_r16 : ∀ w ∈ wsL_law0_r16, w ∈ lw_tbl := tbs_of [(0, 1), (3, 199), (3, 200), (3, 202), (0, 2), (3, 203), (1, 55), (3, 204), (3, 205), (3, 206), (3, 207), (3, 208), (3, 209), (3, 210), (3, 211), (1, 72), (3, 212), (3, 214), (0, 3), (3, 215), (1, 61), (1, 125), (3, 216), (3, 217)] (by decide +kernel)
set_option maxRecDepth 20000 in
theorem tb_r17 : ∀ w ∈ wsL_law0_r17, w ∈ lw_tbl := tbs_of [(3, 218), (3, 219), (3, 220), (1, 64), (1, 68), (3, 221), (3, 222), (3, 224), (0, 4), (3, 225), (1, 139), (1, 159), (1, 65), (1, 163), (1, 167), (1, 156), (3, 226), (3, 227), (3, 228), (3, 229), (1, 66), (3, 230), (3, 231), (3, 232)] (by decide +kernel)
set_option maxRecDepth 20000 in
theorem tb_r18 : ∀ w ∈ wsL_law0_r18, w ∈ lw_tbl := tbs_of [(3, 233), (3, 234), (3, 235), (3, 236), (3, 237), (3, 238), (3, 239), (4, 0), (4, 1), (4, 2), (4, 4), (0, 5), (4, 5), (1, 171), (1, 67), (4, 6), (4, 7), (4, 8), (4, 9), (4, 10), (4, 11), (4, 13), (0, 6), (4, 14)] (by decide +kernel)
set_option maxRecDepth 20000 in
theorem tb_r19 : ∀ w ∈ wsL_law0_r19, w ∈ lw_tbl := tbs_of [(1, 149), (1, 176), (4, 15), (4, 16), (4, 17), (4, 18), (4, 19), (4, 21), (0, 7), (4, 22), (1, 179), (4, 23), (4, 24), (4, 25), (4, 26), (4, 27), (4, 29), (0, 8), (4, 30), (1, 145), (1, 181), (1, 188), (1, 195), (4, 31)] (by decide +kernel)
set_option maxRecDepth 20000 in
theorem tb_r20 : ∀ w ∈ wsL_law0_r20, w ∈ lw_tbl := tbs_of [(4, 33), (0, 9), (4, 34), (1, 130), (4, 35), (4, 36), (4, 37), (4, 38), (4, 39), (4, 40), (4, 41), (4, 42), (4, 43), (4, 44), (4, 45), (4, 46), (4, 47), (4, 48), (4, 49), (4, 50), (4, 51), (4, 53), (4, 52), (1, 22)] (by decide +kernel)
set_option maxRecDepth 20000 in
theorem tb_r21 : ∀ w ∈ wsL_law0_r21, w ∈ lw_tbl := tbs_of [(4, 54), (4, 55), (4, 56), (4, 57), (2, 15), (2, 19), (2, 21), (1, 162), (4, 58), (1, 178), (4, 59), (4, 60), (4, 61), (4, 62), (4, 63), (2, 82), (2, 77), (8, 166), (8, 167), (8, 168), (8, 169), (8, 9), (8, 10), (8, 11)] (by decide +kernel)
set_option maxRecDepth 20000 in
theorem tb_r22 : ∀ w ∈ wsL_law0_r22, w ∈ lw_tbl := tbs_of [(7, 232), (7, 236), (8, 8), (8, 170), (8, 172), (0, 69), (8, 173), (7, 228), (7, 229), (7, 235), (7, 230), (8, 174), (8, 176), (0, 70), (8, 177), (8, 178), (8, 180), (0, 71), (8, 181), (7, 231), (7, 234), (7, 237), (7, 233), (8, 192)] (by decide +kernel)
set_option maxRecDepth 20000 in
theorem tb_r23 : ∀ w ∈ wsL_law0_r23, w ∈ lw_tbl := tbs_of [(8, 193), (8, 182), (8, 183), (8, 184), (8, 185), (8, 186), (8, 187), (8, 188), (8, 190), (0, 72), (8, 191), (8, 194), (8, 196), (0, 73), (8, 197), (8, 198), (8, 200), (0, 74), (8, 201), (8, 202), (8, 203), (8, 204), (8, 205), (8, 206)] (by decide +kernel)
set_option maxRecDepth 20000 in
theorem tb_r24 : ∀ w ∈ wsL_law0_r24, w ∈ lw_tbl := tbs_of [(8, 207), (8, 208), (8, 210), (0, 75), (8, 211), (8, 212), (8, 214), (0, 76), (8, 215), (8, 216), (8, 218), (0, 77), (8, 219), (7, 238), (8, 220), (8, 221), (8, 222), (8, 223), (8, 225), (0, 78), (8, 226), (8, 227), (8, 229), (0, 79)] (by decide +kernel)
set_option maxRecDepth 20000 in
theorem tb_r25 : ∀ w ∈ wsL_law0_r25, w ∈ lw_tbl := tbs_of [(8, 230), (8, 231), (8, 233), (0, 80), (8, 234), (8, 235), (8, 237), (0, 81), (8, 238), (8, 239), (9, 1), (0, 82), (9, 2), (9, 3), (9, 4), (9, 5), (9, 6), (9, 8), (0, 83), (9, 9), (9, 10), (9, 12), (0, 84), (9, 13)] (by decide +kernel)
set_option maxRecDepth 20000 in
theorem tb_r26 : ∀ w ∈ wsL_law0_r26, w ∈ lw_tbl := tbs_of [(9, 14), (9, 16), (0, 85), (9, 17), (9, 18), (9, 19), (9, 20), (9, 21), (9, 23), (0, 86), (9, 24), (9, 25), (9, 27), (0, 87), (9, 28), (9, 29), (9, 31), (0, 88), (9, 32), (9, 33), (9, 35), (0, 89), (9, 36), (4, 64)] (by decide +kernel)
set_option maxRecDepth 20000 in
theorem tb_r27 : ∀ w ∈ wsL_law0_r27, w ∈ lw_tbl := tbs_of [(4, 65), (4, 66), (4, 67), (1, 70), (9, 37), (9, 38), (9, 39), (9, 40), (7, 109), (7, 110), (1, 0), (7, 111), (7, 112), (7, 113), (7, 114), (7, 115), (7, 116), (7, 117), (1, 26), (2, 28), (1, 166), (1, 155), (1, 170), (1, 175)] (by decide +kernel)
set_option maxRecDepth 20000 in
theorem tb_r28 : ∀ w ∈ wsL_law0_r28, w ∈ lw_tbl := tbs_of [(2, 33), (2, 31), (4, 107), (4, 109), (0, 11), (4, 110), (1, 141), (7, 178), (4, 77), (4, 78), (4, 79), (9, 41), (9, 42), (9, 43), (9, 44), (9, 45), (9, 47), (0, 90), (9, 48), (9, 49), (9, 51), (0, 91), (9, 52), (9, 53)] (by decide +kernel)
set_option maxRecDepth 20000 in
theorem tb_r29 : ∀ w ∈ wsL_law0_r29, w ∈ lw_tbl := tbs_of [(9, 55), (0, 92), (9, 56), (9, 57), (9, 59), (0, 93), (9, 60), (9, 61), (9, 63), (0, 94), (9, 64), (7, 195), (7, 196), (7, 197), (7, 198), (7, 179), (7, 180), (7, 181), (7, 182), (7, 183), (7, 184), (7, 185), (2, 41), (7, 187)] (by decide +kernel)
set_option maxRecDepth 20000 in
theorem tb_r30 : ∀ w ∈ wsL_law0_r30, w ∈ lw_tbl := tbs_of [(4, 101), (4, 102), (2, 45), (4, 111), (4, 113), (0, 12), (4, 114), (4, 115), (4, 117), (0, 13), (4, 118), (1, 128), (7, 186), (4, 97), (4, 98), (2, 36), (2, 27), (2, 44), (4, 100), (4, 99), (9, 65), (9, 66), (9, 67), (9, 68)] (by decide +kernel)
set_option maxRecDepth 20000 in
theorem tb_r31 : ∀ w ∈ wsL_law0_r31, w ∈ lw_tbl := tbs_of [(9, 69), (9, 71), (0, 95), (9, 72), (9, 73), (9, 75), (0, 96), (9, 76), (9, 77), (9, 79), (0, 97), (9, 80), (8, 13), (9, 81), (9, 83), (0, 98), (9, 84), (9, 85), (9, 87), (0, 99), (9, 88), (7, 188), (7, 189), (7, 190)] (by decide +kernel)
set_option maxRecDepth 20000 in
theorem tb_r32 : ∀ w ∈ wsL_law0_r32, w ∈ lw_tbl := tbs_of [(7, 191), (7, 192), (7, 193), (7, 194), (1, 187), (1, 194), (2, 24), (2, 47), (4, 184), (4, 186), (0, 18), (4, 187), (1, 147), (9, 89), (9, 90), (9, 91), (9, 92), (9, 93), (9, 95), (0, 100), (9, 96), (4, 68), (4, 69), (4, 70)] (by decide +kernel)
set_option maxRecDepth 20000 in
theorem tb_r33 : ∀ w ∈ wsL_law0_r33, w ∈ lw_tbl := tbs_of [(4, 71), (2, 18), (2, 20), (4, 72), (4, 73), (4, 74), (4, 75), (1, 138), (4, 76), (4, 80), (4, 81), (4, 82), (4, 83), (4, 84), (4, 85), (4, 86), (4, 87), (4, 88), (4, 89), (4, 90), (4, 91), (1, 123), (4, 92), (4, 94)] (by decide +kernel)
set_option maxRecDepth 20000 in
theorem tb_r34 : ∀ w ∈ wsL_law0_r34, w ∈ lw_tbl := tbs_of [(0, 10), (4, 95), (1, 153), (4, 96), (9, 97), (9, 98), (9, 99), (9, 100), (4, 103), (4, 104), (4, 105), (4, 106), (4, 119), (4, 121), (0, 14), (4, 122), (3, 61), (4, 123), (4, 124), (4, 125), (4, 126), (4, 127), (4, 128), (4, 129)] (by decide +kernel)
set_option maxRecDepth 20000 in
theorem tb_r35 : ∀ w ∈ wsL_law0_r35, w ∈ lw_tbl := tbs_of [(4, 130), (4, 131), (4, 133), (0, 15), (4, 134), (4, 135), (4, 137), (0, 16), (4, 138), (4, 139), (9, 147), (9, 148), (9, 149), (9, 150), (9, 151), (9, 153), (0, 106), (9, 154), (9, 155), (9, 157), (0, 107), (9, 158), (9, 159), (9, 161)] (by decide +kernel)
set_option maxRecDepth 20000 in
theorem tb_r36 : ∀ w ∈ wsL_law0_r36, w ∈ lw_tbl := tbs_of [(0, 108), (9, 162), (4, 140), (4, 141), (4, 142), (4, 143), (4, 144), (4, 145), (4, 146), (4, 147), (4, 148), (4, 149), (4, 150), (4, 151), (4, 152), (4, 154), (0, 17), (4, 155), (9, 163), (9, 164), (9, 165), (9, 166), (9, 167), (9, 169)] (by decide +kernel)
set_option maxRecDepth 20000 in
theorem tb_r37 : ∀ w ∈ wsL_law0_r37, w ∈ lw_tbl := tbs_of [(0, 109), (9, 170), (9, 171), (9, 173), (0, 110), (9, 174), (9, 175), (9, 177), (0, 111), (9, 178), (9, 128), (9, 129), (9, 130), (4, 156), (4, 157), (4, 158), (4, 159), (4, 160), (4, 161), (4, 162), (4, 163), (9, 179), (9, 180), (9, 181)] (by decide +kernel)
set_option maxRecDepth 20000 in
theorem tb_r38 : ∀ w ∈ wsL_law0_r38, w ∈ lw_tbl := tbs_of [(9, 182), (4, 164), (4, 165), (4, 166), (4, 167), (4, 168), (4, 169), (4, 170), (4, 171), (9, 183), (9, 184), (9, 185), (9, 186), (9, 187), (9, 189), (0, 112), (9, 190), (4, 172), (4, 173), (4, 174), (4, 175), (4, 176), (4, 177), (4, 178)] (by decide +kernel)
set_option maxRecDepth 20000 in
theorem tb_r39 : ∀ w ∈ wsL_law0_r39, w ∈ lw_tbl := tbs_of [(4, 179), (9, 191), (9, 192), (9, 193), (9, 194), (9, 195), (9, 197), (0, 113), (9, 198), (4, 180), (4, 181), (4, 182), (4, 183), (4, 188), (4, 189), (4, 190), (4, 191), (2, 25), (2, 48), (1, 193), (4, 192), (4, 194), (0, 19), (4, 195)] (by decide +kernel)
set_option maxRecDepth 20000 in
theorem tb_r40 : ∀ w ∈ wsL_law0_r40, w ∈ lw_tbl := tbs_of [(1, 186), (4, 196), (4, 197), (4, 198), (4, 199), (4, 200), (4, 202), (0, 20), (4, 203), (4, 206), (4, 208), (0, 21), (4, 209), (4, 210), (9, 199), (9, 200), (9, 201), (9, 202), (9, 203), (9, 205), (0, 114), (9, 206), (9, 207), (9, 209)] (by decide +kernel)
set_option maxRecDepth 20000 in
theorem tb_r41 : ∀ w ∈ wsL_law0_r41, w ∈ lw_tbl := tbs_of [(0, 115), (9, 210), (9, 105), (9, 107), (0, 101), (9, 108), (9, 109), (9, 111), (0, 102), (9, 112), (9, 121), (9, 113), (9, 115), (0, 103), (9, 116), (9, 117), (9, 119), (0, 104), (9, 120), (9, 122), (9, 123), (9, 124), (9, 125), (9, 126)] (by decide +kernel)
set_option maxRecDepth 20000 in
theorem tb_r42 : ∀ w ∈ wsL_law0_r42, w ∈ lw_tbl := tbs_of [(9, 127), (9, 211), (9, 213), (0, 116), (9, 214), (9, 215), (9, 217), (0, 117), (9, 218), (4, 211), (4, 212), (4, 213), (4, 214), (4, 215), (4, 216), (4, 217), (4, 218), (1, 132), (4, 219), (4, 220), (4, 221), (4, 222), (1, 172), (4, 223)] (by decide +kernel)
set_option maxRecDepth 20000 in
theorem tb_r43 : ∀ w ∈ wsL_law0_r43, w ∈ lw_tbl := tbs_of [(4, 225), (0, 22), (4, 226), (9, 223), (9, 224), (9, 225), (9, 226), (9, 227), (9, 229), (0, 118), (9, 230), (9, 231), (9, 233), (0, 119), (9, 234), (9, 235), (9, 237), (0, 120), (9, 238), (4, 227), (4, 228), (4, 229), (4, 230), (9, 219)] (by decide +kernel)
set_option maxRecDepth 20000 in
theorem tb_r44 : ∀ w ∈ wsL_law0_r44, w ∈ lw_tbl := tbs_of [(9, 220), (9, 221), (9, 222), (4, 231), (4, 232), (4, 233), (4, 234), (4, 235), (4, 236), (4, 237), (4, 238), (4, 239), (5, 1), (0, 23), (5, 2), (5, 3), (5, 5), (0, 24), (5, 6), (5, 11), (5, 7), (5, 9), (0, 25), (5, 10)] (by decide +kernel)
set_option maxRecDepth 20000 in
theorem tb_r45 : ∀ w ∈ wsL_law0_r45, w ∈ lw_tbl := tbs_of [(5, 12), (5, 14), (0, 26), (5, 15), (9, 101), (9, 102), (9, 103), (9, 104), (5, 16), (5, 17), (5, 18), (5, 19), (2, 140), (9, 131), (9, 132), (9, 133), (9, 134), (9, 135), (9, 137), (0, 105), (9, 138), (5, 20), (5, 21), (5, 22)] (by decide +kernel)
set_option maxRecDepth 20000 in
theorem tb_r46 : ∀ w ∈ wsL_law0_r46, w ∈ lw_tbl := tbs_of [(5, 23), (5, 24), (5, 25), (5, 26), (5, 27), (9, 143), (9, 144), (9, 145), (9, 146), (5, 28), (5, 29), (5, 30), (5, 31), (5, 32), (5, 33), (5, 34), (5, 35), (1, 121), (1, 183), (5, 41), (5, 36), (5, 37), (5, 39), (0, 27)] (by decide +kernel)
set_option maxRecDepth 20000 in
theorem tb_r47 : ∀ w ∈ wsL_law0_r47, w ∈ lw_tbl := tbs_of [(5, 40), (1, 190), (2, 39), (5, 56), (5, 42), (5, 44), (0, 28), (5, 45), (1, 137), (5, 46), (5, 48), (0, 29), (5, 49), (1, 165), (5, 50), (5, 51), (5, 53), (0, 30), (5, 54), (1, 154), (5, 55), (5, 57), (5, 59), (0, 31)] (by decide +kernel)
set_option maxRecDepth 20000 in
theorem tb_r48 : ∀ w ∈ wsL_law0_r48, w ∈ lw_tbl := tbs_of [(5, 60), (5, 66), (5, 62), (5, 64), (0, 32), (5, 65), (5, 67), (5, 69), (0, 33), (5, 70), (9, 239), (10, 0), (10, 1), (10, 2), (8, 20), (10, 3), (10, 5), (0, 121), (10, 6), (8, 21), (10, 7), (10, 9), (0, 122), (10, 10)] (by decide +kernel)
set_option maxRecDepth 20000 in
theorem tb_r49 : ∀ w ∈ wsL_law0_r49, w ∈ lw_tbl := tbs_of [(5, 71), (5, 72), (5, 73), (5, 74), (2, 164), (10, 11), (10, 12), (10, 13), (10, 14), (5, 75), (5, 76), (5, 77), (5, 78), (5, 79), (5, 80), (5, 81), (5, 82), (1, 135), (2, 37), (5, 83), (5, 84), (5, 85), (5, 86), (5, 87)] (by decide +kernel)
set_option maxRecDepth 20000 in
theorem tb_r50 : ∀ w ∈ wsL_law0_r50, w ∈ lw_tbl := tbs_of [(5, 88), (1, 146), (5, 89), (5, 90), (1, 27), (5, 91), (5, 92), (5, 93), (5, 94), (10, 23), (10, 24), (10, 25), (10, 26), (10, 19), (10, 21), (0, 123), (10, 22), (5, 95), (5, 96), (5, 97), (5, 98), (5, 99), (5, 100), (10, 15)] (by decide +kernel)
set_option maxRecDepth 20000 in
theorem tb_r51 : ∀ w ∈ wsL_law0_r51, w ∈ lw_tbl := tbs_of [(10, 16), (10, 17), (10, 18), (5, 101), (5, 102), (5, 103), (5, 104), (5, 105), (5, 106), (5, 107), (5, 108), (1, 122), (5, 109), (5, 110), (5, 112), (0, 34), (5, 113), (2, 38), (1, 152), (1, 184), (1, 191), (5, 119), (5, 114), (5, 115)] (by decide +kernel)
set_option maxRecDepth 20000 in
theorem tb_r52 : ∀ w ∈ wsL_law0_r52, w ∈ lw_tbl := tbs_of [(5, 116), (5, 117), (5, 118), (5, 120), (5, 122), (0, 35), (5, 123), (5, 130), (5, 124), (5, 126), (0, 36), (5, 127), (5, 129), (5, 131), (5, 133), (0, 37), (5, 134), (2, 189), (5, 135), (5, 137), (5, 139), (0, 38), (5, 140), (10, 27)] (by decide +kernel)
set_option maxRecDepth 20000 in
theorem tb_r53 : ∀ w ∈ wsL_law0_r53, w ∈ lw_tbl := tbs_of [(10, 28), (10, 29), (10, 30), (8, 24), (10, 31), (10, 33), (0, 124), (10, 34), (5, 141), (5, 142), (5, 143), (5, 144), (2, 190), (2, 188), (10, 35), (10, 36), (10, 37), (10, 38), (5, 145), (5, 146), (5, 147), (5, 148), (5, 149), (5, 150)] (by decide +kernel)
set_option maxRecDepth 20000 in
theorem tb_r54 : ∀ w ∈ wsL_law0_r54, w ∈ lw_tbl := tbs_of [(5, 151), (5, 152), (1, 143), (2, 22), (2, 239), (5, 153), (5, 155), (0, 39), (5, 156), (5, 157), (10, 39), (10, 40), (10, 41), (10, 42), (8, 29), (8, 28), (10, 43), (10, 44), (10, 45), (10, 46), (10, 48), (0, 125), (10, 49), (5, 158)] (by decide +kernel)
set_option maxRecDepth 20000 in
theorem tb_r55 : ∀ w ∈ wsL_law0_r55, w ∈ lw_tbl := tbs_of [(5, 159), (5, 160), (5, 161), (3, 0), (2, 238), (10, 50), (10, 51), (10, 52), (10, 53), (5, 162), (5, 163), (5, 164), (5, 165), (5, 166), (5, 167), (5, 168), (5, 169), (1, 136), (5, 170), (5, 172), (0, 40), (5, 173), (1, 47), (1, 44)] (by decide +kernel)
set_option maxRecDepth 20000 in
theorem tb_r56 : ∀ w ∈ wsL_law0_r56, w ∈ lw_tbl := tbs_of [(1, 144), (5, 174), (5, 176), (0, 41), (5, 177), (1, 124), (2, 136), (1, 185), (1, 192), (5, 178), (5, 179), (5, 180), (5, 181), (5, 183), (0, 42), (5, 184), (2, 40), (5, 185), (5, 187), (0, 43), (5, 188), (5, 190), (5, 192), (0, 44)] (by decide +kernel)
set_option maxRecDepth 20000 in
theorem tb_r57 : ∀ w ∈ wsL_law0_r57, w ∈ lw_tbl := tbs_of [(5, 193), (5, 194), (5, 196), (0, 45), (5, 197), (5, 198), (5, 200), (0, 46), (5, 201), (5, 202), (5, 203), (5, 204), (10, 54), (10, 55), (10, 56), (10, 57), (10, 58), (10, 60), (0, 126), (10, 61), (5, 205), (5, 206), (5, 207), (5, 208)] (by decide +kernel)
set_option maxRecDepth 20000 in
theorem tb_r58 : ∀ w ∈ wsL_law0_r58, w ∈ lw_tbl := tbs_of [(2, 212), (10, 62), (10, 63), (10, 64), (10, 65), (5, 209), (5, 210), (5, 211), (5, 212), (2, 214), (10, 66), (10, 67), (10, 68), (10, 69), (5, 213), (5, 214), (5, 215), (5, 216), (5, 217), (5, 218), (5, 219), (5, 220), (5, 221), (5, 222)] (by decide +kernel)
set_option maxRecDepth 20000 in
theorem tb_r59 : ∀ w ∈ wsL_law0_r59, w ∈ lw_tbl := tbs_of [(5, 223), (5, 224), (5, 225), (10, 70), (10, 71), (10, 72), (10, 73), (10, 74), (10, 76), (0, 127), (10, 77), (10, 78), (10, 80), (0, 128), (10, 81), (10, 82), (10, 84), (0, 129), (10, 85), (5, 226), (5, 227), (5, 228), (5, 229), (5, 230)] (by decide +kernel)
set_option maxRecDepth 20000 in
theorem tb_r60 : ∀ w ∈ wsL_law0_r60, w ∈ lw_tbl := tbs_of [(5, 231), (5, 232), (5, 233), (2, 16), (1, 131), (10, 86), (10, 87), (10, 88), (10, 89), (5, 234), (5, 235), (5, 236), (5, 237), (5, 238), (5, 239), (6, 0), (6, 1), (9, 139), (9, 140), (9, 141), (9, 142), (6, 2), (6, 3), (6, 4)] (by decide +kernel)
set_option maxRecDepth 20000 in
theorem tb_r61 : ∀ w ∈ wsL_law0_r61, w ∈ lw_tbl := tbs_of [(6, 5), (1, 160), (6, 6), (6, 7), (6, 8), (6, 9), (6, 10), (10, 231), (3, 42), (6, 11), (6, 12), (3, 33), (3, 32), (6, 13), (10, 232), (6, 15), (6, 16), (6, 17), (10, 233), (6, 19), (6, 20), (6, 29)] (by decide +kernel)
set_option maxRecDepth 20000 in
theorem tb_r62 : ∀ w ∈ wsL_law0_r62, w ∈ lw_tbl := tbs_of [(6, 21), (6, 22), (1, 28), (6, 23), (6, 24), (6, 25), (6, 26), (6, 27), (6, 28), (6, 30), (6, 31), (6, 32), (6, 33), (6, 34), (6, 35), (6, 36), (6, 37), (6, 39), (6, 40), (6, 41), (6, 42), (6, 44), (6, 45), (6, 43)] (by decide +kernel)
set_option maxRecDepth 20000 in
theorem tb_r63 : ∀ w ∈ wsL_law0_r63, w ∈ lw_tbl := tbs_of [(6, 46), (6, 47), (6, 48), (6, 49), (6, 50), (6, 51), (6, 52), (6, 53), (6, 54), (6, 55), (6, 56), (6, 57), (6, 58), (6, 59), (6, 60), (6, 61), (6, 62), (6, 63), (6, 64), (10, 234), (6, 65), (6, 66), (6, 67), (6, 68)] (by decide +kernel)
set_option maxRecDepth 20000 in
theorem tb_r64 : ∀ w ∈ wsL_law0_r64, w ∈ lw_tbl := tbs_of [(6, 69), (6, 70), (10, 235), (6, 72), (6, 73), (6, 74), (6, 75), (6, 76), (6, 77), (6, 78), (6, 79), (6, 80), (6, 81), (6, 82), (6, 83), (6, 84), (6, 85), (6, 86), (6, 87), (6, 88), (6, 89), (6, 90), (6, 91)] (by decide +kernel)
set_option maxRecDepth 20000 in
theorem tb_r65 : ∀ w ∈ wsL_law0_r65, w ∈ lw_tbl := tbs_of [(6, 92), (6, 93), (6, 94), (6, 96), (6, 97), (6, 98), (6, 99), (6, 100), (10, 236), (6, 101), (6, 102), (6, 103), (10, 237), (6, 105), (6, 106), (6, 107), (6, 108), (6, 109), (6, 110), (6, 111), (6, 112), (6, 113), (6, 114)] (by decide +kernel)
set_option maxRecDepth 20000 in
theorem tb_r66 : ∀ w ∈ wsL_law0_r66, w ∈ lw_tbl := tbs_of [(6, 115), (6, 116), (6, 117), (6, 118), (6, 119), (6, 120), (6, 121), (6, 122), (6, 123), (6, 124), (6, 125), (6, 126), (6, 127), (10, 238), (6, 129), (6, 130), (6, 131), (10, 239), (6, 133), (6, 134), (6, 135), (6, 136)] (by decide +kernel)
set_option maxRecDepth 20000 in
theorem tb_r67 : ∀ w ∈ wsL_law0_r67, w ∈ lw_tbl := tbs_of [(6, 137), (6, 138), (6, 139), (6, 140), (6, 141), (6, 142), (6, 144), (0, 47), (6, 145), (6, 146), (6, 147), (6, 148), (6, 149), (6, 150), (6, 151), (11, 0), (6, 152), (6, 153), (10, 90), (10, 91), (10, 92), (10, 93), (8, 34), (10, 94)] (by decide +kernel)
set_option maxRecDepth 20000 in
theorem tb_r68 : ∀ w ∈ wsL_law0_r68, w ∈ lw_tbl := tbs_of [(10, 96), (0, 130), (10, 97), (10, 98), (10, 100), (0, 131), (10, 101), (6, 154), (6, 155), (6, 156), (6, 157), (6, 158), (6, 159), (6, 160), (6, 161), (6, 162), (11, 1), (6, 163), (6, 164), (6, 165), (6, 166), (6, 167), (10, 102), (10, 103)] (by decide +kernel)
set_option maxRecDepth 20000 in
theorem tb_r69 : ∀ w ∈ wsL_law0_r69, w ∈ lw_tbl := tbs_of [(10, 104), (10, 105), (6, 168), (6, 169), (6, 170), (6, 171), (6, 172), (6, 173), (6, 174), (6, 175), (2, 236), (6, 176), (6, 178), (0, 48), (6, 179), (1, 127), (6, 180), (6, 182), (0, 49), (6, 183), (6, 184), (6, 185), (6, 186), (6, 187)] (by decide +kernel)
set_option maxRecDepth 20000 in
theorem tb_r70 : ∀ w ∈ wsL_law0_r70, w ∈ lw_tbl := tbs_of [(6, 188), (10, 106), (10, 107), (10, 108), (10, 109), (10, 110), (10, 112), (0, 132), (10, 113), (8, 35), (10, 114), (10, 116), (0, 133), (10, 117), (10, 118), (10, 120), (0, 134), (10, 121), (10, 122), (6, 189), (6, 190), (6, 191), (6, 192), (6, 193)] (by decide +kernel)
set_option maxRecDepth 20000 in
theorem tb_r71 : ∀ w ∈ wsL_law0_r71, w ∈ lw_tbl := tbs_of [(6, 194), (6, 195), (6, 196), (6, 197), (10, 123), (10, 124), (10, 125), (10, 126), (6, 198), (6, 199), (6, 200), (6, 201), (6, 202), (6, 203), (6, 204), (6, 205), (2, 113), (1, 50), (6, 206), (6, 207), (6, 209), (0, 50), (6, 210), (1, 59)] (by decide +kernel)
set_option maxRecDepth 20000 in
theorem tb_r72 : ∀ w ∈ wsL_law0_r72, w ∈ lw_tbl := tbs_of [(1, 56), (6, 211), (6, 212), (6, 213), (6, 214), (6, 215), (6, 216), (6, 217), (6, 218), (6, 219), (6, 221), (0, 51), (6, 222), (1, 62), (6, 223), (6, 224), (6, 226), (0, 52), (6, 227), (6, 228), (6, 229), (6, 230), (6, 231), (6, 232)] (by decide +kernel)
set_option maxRecDepth 20000 in
theorem tb_r73 : ∀ w ∈ wsL_law0_r73, w ∈ lw_tbl := tbs_of [(6, 233), (2, 17), (2, 23), (6, 234), (6, 236), (0, 53), (6, 237), (1, 126), (6, 238), (6, 239), (7, 0), (7, 1), (7, 2), (7, 3), (7, 4), (7, 5), (7, 6), (7, 7), (10, 127), (10, 128), (10, 129), (10, 130), (8, 38), (8, 39)] (by decide +kernel)
set_option maxRecDepth 20000 in
theorem tb_r74 : ∀ w ∈ wsL_law0_r74, w ∈ lw_tbl := tbs_of [(10, 131), (10, 133), (0, 135), (10, 134), (10, 135), (10, 137), (0, 136), (10, 138), (10, 139), (10, 141), (0, 137), (10, 142), (10, 143), (10, 145), (0, 138), (10, 146), (10, 147), (10, 149), (0, 139), (10, 150), (10, 151), (10, 153), (0, 140), (10, 154)] (by decide +kernel)
set_option maxRecDepth 20000 in
theorem tb_r75 : ∀ w ∈ wsL_law0_r75, w ∈ lw_tbl := tbs_of [(10, 155), (10, 157), (0, 141), (10, 158), (10, 159), (10, 161), (0, 142), (10, 162), (7, 8), (7, 9), (7, 10), (7, 11), (2, 115), (10, 163), (10, 164), (10, 165), (10, 166), (7, 12), (7, 13), (7, 14), (7, 15), (2, 83), (7, 16), (7, 17)] (by decide +kernel)
set_option maxRecDepth 20000 in
theorem tb_r76 : ∀ w ∈ wsL_law0_r76, w ∈ lw_tbl := tbs_of [(7, 18), (7, 19), (2, 79), (2, 80), (7, 20), (7, 21), (7, 22), (7, 24), (0, 54), (7, 25), (7, 26), (7, 27), (7, 28), (1, 53), (1, 58), (7, 29), (7, 30), (7, 31), (7, 32), (7, 34), (0, 55), (7, 35), (1, 63), (7, 36)] (by decide +kernel)
set_option maxRecDepth 20000 in
theorem tb_r77 : ∀ w ∈ wsL_law0_r77, w ∈ lw_tbl := tbs_of [(7, 37), (7, 38), (7, 39), (7, 40), (7, 41), (7, 42), (7, 44), (0, 56), (7, 45), (7, 46), (7, 48), (0, 57), (7, 49), (7, 50), (7, 52), (0, 58), (7, 53), (7, 54), (7, 56), (0, 59), (7, 57), (7, 58), (7, 60), (0, 60)] (by decide +kernel)
set_option maxRecDepth 20000 in
theorem tb_r78 : ∀ w ∈ wsL_law0_r78, w ∈ lw_tbl := tbs_of [(7, 61), (7, 62), (7, 64), (0, 61), (7, 65), (7, 66), (10, 167), (10, 168), (10, 169), (10, 170), (8, 41), (8, 42), (8, 43), (8, 44), (10, 171), (10, 173), (0, 143), (10, 174), (10, 175), (10, 177), (0, 144), (10, 191), (10, 193), (0, 148)] (by decide +kernel)
set_option maxRecDepth 20000 in
theorem tb_r79 : ∀ w ∈ wsL_law0_r79, w ∈ lw_tbl := tbs_of [(10, 194), (10, 178), (10, 179), (10, 181), (0, 145), (10, 186), (10, 190), (10, 182), (10, 183), (10, 185), (0, 146), (10, 187), (10, 189), (0, 147), (10, 195), (10, 197), (0, 149), (10, 198), (10, 199), (10, 201), (0, 150), (10, 202), (10, 203), (10, 205)] (by decide +kernel)
set_option maxRecDepth 20000 in
theorem tb_r80 : ∀ w ∈ wsL_law0_r80, w ∈ lw_tbl := tbs_of [(0, 151), (10, 206), (7, 67), (7, 68), (7, 69), (7, 70), (7, 71), (7, 72), (7, 73), (7, 74), (1, 140), (7, 75), (7, 77), (0, 62), (7, 78), (7, 79), (7, 81), (0, 63), (7, 82), (1, 157), (1, 173), (2, 29), (2, 34), (1, 168)] (by decide +kernel)
set_option maxRecDepth 20000 in
theorem tb_r81 : ∀ w ∈ wsL_law0_r81, w ∈ lw_tbl := tbs_of [(7, 83), (7, 84), (7, 85), (7, 86), (7, 87), (2, 42), (7, 88), (7, 90), (0, 64), (7, 91), (10, 207), (10, 208), (10, 209), (10, 210), (10, 211), (10, 213), (0, 152), (10, 214), (10, 215), (10, 217), (0, 153), (10, 218), (7, 92), (7, 93)] (by decide +kernel)
set_option maxRecDepth 20000 in
theorem tb_r82 : ∀ w ∈ wsL_law0_r82, w ∈ lw_tbl := tbs_of [(7, 94), (7, 95), (7, 96), (7, 97), (7, 98), (7, 99), (7, 100), (10, 219), (10, 220), (10, 221), (10, 222), (7, 101), (7, 102), (7, 103), (7, 104), (10, 223), (10, 224), (10, 225), (10, 226), (7, 105), (7, 106), (7, 107), (7, 108), (1, 150)] (by decide +kernel)
set_option maxRecDepth 20000 in
theorem tb_r83 : ∀ w ∈ wsL_law0_r83, w ∈ lw_tbl := tbs_of [(1, 133), (10, 227), (10, 228), (10, 229), (10, 230)] (by decide +kernel)
set_option maxRecDepth 20000 in
theorem tbz_wsX110 : ∀ w ∈ wsX110, w ∈ lw_tbl := by decide +kernel
set_option maxRecDepth 20000 in
theorem tbz_wsX120 : ∀ w ∈ wsX120, w ∈ lw_tbl := by decide +kernel
set_option maxRecDepth 20000 in
theorem tbz_wsX90 : ∀ w ∈ wsX90, w ∈ lw_tbl := by decide +kernel
set_option maxRecDepth 20000 in
theorem tbz_wsX20 : ∀ w ∈ wsX20, w ∈ lw_tbl := by decide +kernel
set_option maxRecDepth 20000 in
theorem tbz_wsX60 : ∀ w ∈ wsX60, w ∈ lw_tbl := by decide +kernel
set_option maxRecDepth 20000 in
theorem tbz_wsX80 : ∀ w ∈ wsX80, w ∈ lw_tbl := by decide +kernel
set_option maxRecDepth 20000 in
theorem tbz_wsX70 : ∀ w ∈ wsX70, w ∈ lw_tbl := by decide +kernel
set_option maxRecDepth 20000 in
theorem tbz_wsX10 : ∀ w ∈ wsX10, w ∈ lw_tbl := by decide +kernel
set_option maxRecDepth 20000 in
theorem tbz_wsX100 : ∀ w ∈ wsX100, w ∈ lw_tbl := by decide +kernel
set_option maxRecDepth 20000 in
theorem tbz_wsX00 : ∀ w ∈ wsX00, w ∈ lw_tbl := by decide +kernel
set_option maxRecDepth 20000 in
theorem tbz_wsX30 : ∀ w ∈ wsX30, w ∈ lw_tbl := by decide +kernel
set_option maxRecDepth 20000 in
theorem tbz_wsX50 : ∀ w ∈ wsX50, w ∈ lw_tbl := by decide +kernel
set_option maxRecDepth 20000 in
theorem tbz_wsX40 : ∀ w ∈ wsX40, w ∈ lw_tbl := by decide +kernel
set_option maxRecDepth 20000 in
theorem tbz_wsJ40 : ∀ w ∈ wsJ40, w ∈ lw_tbl := by decide +kernel
set_option maxRecDepth 20000 in
theorem tb_nse : ∀ w ∈ (vx_at0 RX11 156 "java/util/NoSuchElementException" ["java/lang/RuntimeException", "java/lang/Exception"]).filter goodWord, w ∈ lw_tbl := by decide +kernel
theorem mem_or {a b T : List Cond} (ha : ∀ w ∈ a, w ∈ T) (hb : ∀ w ∈ b, w ∈ T) : ∀ w ∈ a ++ b, w ∈ T := fun w h => (List.mem_append.mp h).elim (ha w) (hb w)
end
