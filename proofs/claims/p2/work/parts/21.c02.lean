noncomputable section
def dX12_layBest : List (Nat × Nat) := [(73, 999)]
def uX12_layBest : List (Nat × tA) := [(0, t_load 2 0 1), (1, t_gf ZZ 13 14 4), (4, t_int 0 5), (5, t_iald ZZ 6), (6, t_int 1 7), (7, t_bin o_sub2 8), (8, t_istore 3 9), (9, t_load 0 3 10), (10, t_if n2_lt n2_ge 170 13), (13, t_int 0 14), (14, t_istore 4 16), (16, t_load 0 4 18), (18, t_int 3 19), (19, t_icmp n2_gt n2_le 164 22), (22, t_load 2 0 23), (23, t_load 0 3 24), (24, t_load 0 4 26), (26, t_load 0 1 27), (27, t_load 0 2 28), (28, t_callV ZZ dX12_spareAt false xX12_spareAt 13 5 31), (31, t_istore 5 33), (33, t_load 0 3 34), (34, t_load 2 0 35), (35, t_gf ZZ 13 14 38), (38, t_int 0 39), (39, t_iald ZZ 40), (40, t_int 1 41), (41, t_bin o_sub2 42), (42, t_icmp n2_ne n2_eq 51 45), (45, t_int 100000 48), (48, t_goto 52), (51, t_int (-1) 52), (52, t_istore 6 54), (54, t_int 0 55), (55, t_istore 7 57), (57, t_load 0 7 59), (59, t_int 3 60), (60, t_icmp n2_gt n2_le 124 63), (63, t_load 0 3 64), (64, t_load 2 0 65), (65, t_gf ZZ 13 14 68), (68, t_int 0 69), (69, t_iald ZZ 70), (70, t_int 1 71), (71, t_bin o_sub2 72), (72, t_icmp n2_ge n2_lt 124 75), (75, t_load 0 4 77), (77, t_load 0 7 79), (79, t_callS ZZ dX12_follows false xX12_follows 2 82), (82, t_if n2_eq n2_ne 118 85), (85, t_load 2 0 86), (86, t_gf ZZ 13 29 89), (89, t_int 4 90), (90, t_load 0 3 91), (91, t_bin o_mul 92), (92, t_int 4 93), (93, t_bin o_add 94), (94, t_load 0 7 96), (96, t_bin o_add 97), (97, t_iald ZZ 98), (98, t_load 0 6 100), (100, t_icmp n2_le n2_gt 118 103), (103, t_load 2 0 104), (104, t_gf ZZ 13 29 107), (107, t_int 4 108), (108, t_load 0 3 109), (109, t_bin o_mul 110), (110, t_int 4 111), (111, t_bin o_add 112), (112, t_load 0 7 114), (114, t_bin o_add 115), (115, t_iald ZZ 116), (116, t_istore 6 118), (118, t_iinc 7 1 121), (121, t_goto 57), (124, t_load 2 0 125), (125, t_gf ZZ 13 29 128), (128, t_int 4 129), (129, t_load 0 3 130), (130, t_bin o_mul 131), (131, t_load 0 4 133), (133, t_bin o_add 134), (134, t_load 0 5 136), (136, t_int (-1) 137), (137, t_icmp n2_eq n2_ne 146 140), (140, t_load 0 6 142), (142, t_int (-1) 143), (143, t_icmp n2_ne n2_eq 150 146), (146, t_int (-1) 147), (147, t_goto 157), (150, t_load 0 5 152), (152, t_load 0 6 154), (154, t_callS ZZ dX12_least false xX12_least 2 157), (157, t_ast ZZ dX12_layBest 1 ctI 158), (158, t_iinc 4 1 161), (161, t_goto 16), (164, t_iinc 3 (-1) 167), (167, t_goto 9), (170, t_vret)]
set_option maxRecDepth 100000 in
theorem pX12_layBest (kn : sKn) : pOk ZZ dX12_layBest (tX12_layBest kn) uX12_layBest := pOk_c tr_aload (pOk_c tr_get (pOk_c (tr_int rfl) (pOk_c tr_iald (pOk_c (tr_int rfl) (pOk_c (tr_bin op_sub2) (pOk_c tr_istore (pOk_c tr_iload (pOk_c (tr_if cm2_lt) (pOk_c (tr_int rfl) (pOk_c tr_istore (pOk_c tr_iload (pOk_c (tr_int rfl) (pOk_c (tr_icmp cm2_gt) (pOk_c tr_aload (pOk_c tr_iload (pOk_c tr_iload (pOk_c tr_iload (pOk_c tr_iload (pOk_c (tr_callV (con_X12_spareAt kn) (by decide +kernel)) (pOk_c tr_istore (pOk_c tr_iload (pOk_c tr_aload (pOk_c tr_get (pOk_c (tr_int rfl) (pOk_c tr_iald (pOk_c (tr_int rfl) (pOk_c (tr_bin op_sub2) (pOk_c (tr_icmp cm2_ne) (pOk_c (tr_int rfl) (pOk_c tr_goto (pOk_c (tr_int rfl) (pOk_c tr_istore (pOk_c (tr_int rfl) (pOk_c tr_istore (pOk_c tr_iload (pOk_c (tr_int rfl) (pOk_c (tr_icmp cm2_gt) (pOk_c tr_iload (pOk_c tr_aload (pOk_c tr_get (pOk_c (tr_int rfl) (pOk_c tr_iald (pOk_c (tr_int rfl) (pOk_c (tr_bin op_sub2) (pOk_c (tr_icmp cm2_ge) (pOk_c tr_iload (pOk_c tr_iload (pOk_c (tr_callS (con_X12_follows kn) (by decide +kernel)) (pOk_c (tr_if cm2_eq) (pOk_c tr_aload (pOk_c tr_get (pOk_c (tr_int rfl) (pOk_c tr_iload (pOk_c (tr_bin op_mul) (pOk_c (tr_int rfl) (pOk_c (tr_bin op_add) (pOk_c tr_iload (pOk_c (tr_bin op_add) (pOk_c tr_iald (pOk_c tr_iload (pOk_c (tr_icmp cm2_le) (pOk_c tr_aload (pOk_c tr_get (pOk_c (tr_int rfl) (pOk_c tr_iload (pOk_c (tr_bin op_mul) (pOk_c (tr_int rfl) (pOk_c (tr_bin op_add) (pOk_c tr_iload (pOk_c (tr_bin op_add) (pOk_c tr_iald (pOk_c tr_istore (pOk_c (tr_iinc rfl) (pOk_c tr_goto (pOk_c tr_aload (pOk_c tr_get (pOk_c (tr_int rfl) (pOk_c tr_iload (pOk_c (tr_bin op_mul) (pOk_c tr_iload (pOk_c (tr_bin op_add) (pOk_c tr_iload (pOk_c (tr_int rfl) (pOk_c (tr_icmp cm2_eq) (pOk_c tr_iload (pOk_c (tr_int rfl) (pOk_c (tr_icmp cm2_ne) (pOk_c (tr_int rfl) (pOk_c tr_goto (pOk_c tr_iload (pOk_c tr_iload (pOk_c (tr_callS (con_X12_least kn) (by decide +kernel)) (pOk_c (tr_ast as_i) (pOk_c (tr_iinc rfl) (pOk_c tr_goto (pOk_c (tr_iinc rfl) (pOk_c tr_goto (pOk_c tr_vret pOk_n))))))))))))))))))))))))))))))))))))))))))))))))))))))))))))))))))))))))))))))))))))))))))))))))))
def xX12_layBest_0 : eX := ([(2, 0, 213), (0, 1, 0), (0, 2, 0)], [], [(2, .inl (0, 300)), (1, .inl (3, 3))], 3, [([], [], [], [], 3)])
set_option maxRecDepth 100000 in
theorem con_X12_layBest_0 (kn : sKn) : Con ZZ dX12_layBest (fW (tX12_layBest kn) 8) xX12_layBest_0 := chk_ok (n := 2000) (cuts := [(9, [(([(0, (2, 0, 213)), (1, (0, 1, 0)), (2, (0, 2, 0)), (3, (0, 3, 0))], [], [(((0, 213), 0, 14, 0), (2, 0, 215)), (((0, 215), 1, 0, 0), (0, 4, 0))], [(4, .inl (1, 12)), (3, .inl ((-1), 11)), (1, .inl (3, 3)), (2, .inl (0, 300))], 5), [(0, 0, 99991), (2, 3, 1), (0, 0, 200000), (0, 0, 0), (0, 0, 200000), (0, 0, 0)])]), (16, [(([(0, (2, 0, 213)), (1, (0, 1, 0)), (2, (0, 2, 0)), (3, (0, 3, 0)), (4, (0, 4, 0))], [], [(((0, 215), 1, 0, 0), (0, 5, 0)), (((0, 213), 0, 14, 0), (2, 0, 215))], [(5, .inl (1, 12)), (4, .inl (0, 4)), (3, .inl (0, 11)), (1, .inl (3, 3)), (2, .inl (0, 300))], 6), [(0, 0, 99991), (2, 3, 1), (0, 0, 99984), (1, 4, 4), (0, 0, 200000), (0, 0, 0)])]), (57, [(([(0, (2, 0, 213)), (1, (0, 1, 0)), (2, (0, 2, 0)), (3, (0, 3, 0)), (4, (0, 4, 0)), (5, (0, 5, 0)), (6, (0, 6, 0)), (7, (0, 7, 0))], [], [(((0, 213), 0, 14, 0), (2, 0, 215)), (((0, 215), 1, 0, 0), (0, 8, 0))], [(8, .inl (1, 12)), (7, .inl (0, 4)), (6, fullI), (5, fullI), (4, .inl (0, 3)), (3, .inl (0, 11)), (1, .inl (3, 3)), (2, .inl (0, 300))], 9), [(0, 0, 99991), (2, 3, 1), (0, 0, 99984), (1, 4, 4), (0, 0, 99943), (1, 7, 4)])])]) (θ0 := [(0, 0, 0), (1, 1, 0), (2, 2, 0)]) (pX12_layBest kn) (by decide +kernel)
def xX12_layBest_1 : eX := ([(2, 0, 213), (0, 1, 0), (0, 2, 0)], [], [(2, .inl (0, 300)), (1, .inl (2, 2))], 3, [([], [], [], [], 3)])
set_option maxRecDepth 100000 in
theorem con_X12_layBest_1 (kn : sKn) : Con ZZ dX12_layBest (fW (tX12_layBest kn) 8) xX12_layBest_1 := chk_ok (n := 2000) (cuts := [(9, [(([(0, (2, 0, 213)), (1, (0, 1, 0)), (2, (0, 2, 0)), (3, (0, 3, 0))], [], [(((0, 213), 0, 14, 0), (2, 0, 215)), (((0, 215), 1, 0, 0), (0, 4, 0))], [(4, .inl (1, 12)), (3, .inl ((-1), 11)), (1, .inl (2, 2)), (2, .inl (0, 300))], 5), [(0, 0, 99991), (2, 3, 1), (0, 0, 200000), (0, 0, 0), (0, 0, 200000), (0, 0, 0)])]), (16, [(([(0, (2, 0, 213)), (1, (0, 1, 0)), (2, (0, 2, 0)), (3, (0, 3, 0)), (4, (0, 4, 0))], [], [(((0, 215), 1, 0, 0), (0, 5, 0)), (((0, 213), 0, 14, 0), (2, 0, 215))], [(5, .inl (1, 12)), (4, .inl (0, 4)), (3, .inl (0, 11)), (1, .inl (2, 2)), (2, .inl (0, 300))], 6), [(0, 0, 99991), (2, 3, 1), (0, 0, 99984), (1, 4, 4), (0, 0, 200000), (0, 0, 0)])]), (57, [(([(0, (2, 0, 213)), (1, (0, 1, 0)), (2, (0, 2, 0)), (3, (0, 3, 0)), (4, (0, 4, 0)), (5, (0, 5, 0)), (6, (0, 6, 0)), (7, (0, 7, 0))], [], [(((0, 213), 0, 14, 0), (2, 0, 215)), (((0, 215), 1, 0, 0), (0, 8, 0))], [(8, .inl (1, 12)), (7, .inl (0, 4)), (6, fullI), (5, fullI), (4, .inl (0, 3)), (3, .inl (0, 11)), (1, .inl (2, 2)), (2, .inl (0, 300))], 9), [(0, 0, 99991), (2, 3, 1), (0, 0, 99984), (1, 4, 4), (0, 0, 99943), (1, 7, 4)])])]) (θ0 := [(0, 0, 0), (1, 1, 0), (2, 2, 0)]) (pX12_layBest kn) (by decide +kernel)
def xX12_layBest_2 : eX := ([(2, 0, 213), (0, 1, 0), (0, 2, 0)], [], [(2, .inl (0, 300)), (1, .inl (1, 1))], 3, [([], [], [], [], 3)])
set_option maxRecDepth 100000 in
theorem con_X12_layBest_2 (kn : sKn) : Con ZZ dX12_layBest (fW (tX12_layBest kn) 8) xX12_layBest_2 := chk_ok (n := 2000) (cuts := [(9, [(([(0, (2, 0, 213)), (1, (0, 1, 0)), (2, (0, 2, 0)), (3, (0, 3, 0))], [], [(((0, 213), 0, 14, 0), (2, 0, 215)), (((0, 215), 1, 0, 0), (0, 4, 0))], [(4, .inl (1, 12)), (3, .inl ((-1), 11)), (1, .inl (1, 1)), (2, .inl (0, 300))], 5), [(0, 0, 99991), (2, 3, 1), (0, 0, 200000), (0, 0, 0), (0, 0, 200000), (0, 0, 0)])]), (16, [(([(0, (2, 0, 213)), (1, (0, 1, 0)), (2, (0, 2, 0)), (3, (0, 3, 0)), (4, (0, 4, 0))], [], [(((0, 215), 1, 0, 0), (0, 5, 0)), (((0, 213), 0, 14, 0), (2, 0, 215))], [(5, .inl (1, 12)), (4, .inl (0, 4)), (3, .inl (0, 11)), (1, .inl (1, 1)), (2, .inl (0, 300))], 6), [(0, 0, 99991), (2, 3, 1), (0, 0, 99984), (1, 4, 4), (0, 0, 200000), (0, 0, 0)])]), (57, [(([(0, (2, 0, 213)), (1, (0, 1, 0)), (2, (0, 2, 0)), (3, (0, 3, 0)), (4, (0, 4, 0)), (5, (0, 5, 0)), (6, (0, 6, 0)), (7, (0, 7, 0))], [], [(((0, 213), 0, 14, 0), (2, 0, 215)), (((0, 215), 1, 0, 0), (0, 8, 0))], [(8, .inl (1, 12)), (7, .inl (0, 4)), (6, fullI), (5, fullI), (4, .inl (0, 3)), (3, .inl (0, 11)), (1, .inl (1, 1)), (2, .inl (0, 300))], 9), [(0, 0, 99991), (2, 3, 1), (0, 0, 99984), (1, 4, 4), (0, 0, 99943), (1, 7, 4)])])]) (θ0 := [(0, 0, 0), (1, 1, 0), (2, 2, 0)]) (pX12_layBest kn) (by decide +kernel)
def xX12_layBest_3 : eX := ([(2, 0, 213), (0, 1, 0), (0, 2, 0)], [], [(2, .inl (0, 300)), (1, .inl (0, 0))], 3, [([], [], [], [], 3)])
set_option maxRecDepth 100000 in
theorem con_X12_layBest_3 (kn : sKn) : Con ZZ dX12_layBest (fW (tX12_layBest kn) 8) xX12_layBest_3 := chk_ok (n := 2000) (cuts := [(9, [(([(0, (2, 0, 213)), (1, (0, 1, 0)), (2, (0, 2, 0)), (3, (0, 3, 0))], [], [(((0, 213), 0, 14, 0), (2, 0, 215)), (((0, 215), 1, 0, 0), (0, 4, 0))], [(4, .inl (1, 12)), (3, .inl ((-1), 11)), (1, .inl (0, 0)), (2, .inl (0, 300))], 5), [(0, 0, 99991), (2, 3, 1), (0, 0, 200000), (0, 0, 0), (0, 0, 200000), (0, 0, 0)])]), (16, [(([(0, (2, 0, 213)), (1, (0, 1, 0)), (2, (0, 2, 0)), (3, (0, 3, 0)), (4, (0, 4, 0))], [], [(((0, 215), 1, 0, 0), (0, 5, 0)), (((0, 213), 0, 14, 0), (2, 0, 215))], [(5, .inl (1, 12)), (4, .inl (0, 4)), (3, .inl (0, 11)), (1, .inl (0, 0)), (2, .inl (0, 300))], 6), [(0, 0, 99991), (2, 3, 1), (0, 0, 99984), (1, 4, 4), (0, 0, 200000), (0, 0, 0)])]), (57, [(([(0, (2, 0, 213)), (1, (0, 1, 0)), (2, (0, 2, 0)), (3, (0, 3, 0)), (4, (0, 4, 0)), (5, (0, 5, 0)), (6, (0, 6, 0)), (7, (0, 7, 0))], [], [(((0, 213), 0, 14, 0), (2, 0, 215)), (((0, 215), 1, 0, 0), (0, 8, 0))], [(8, .inl (1, 12)), (7, .inl (0, 4)), (6, fullI), (5, fullI), (4, .inl (0, 3)), (3, .inl (0, 11)), (1, .inl (0, 0)), (2, .inl (0, 300))], 9), [(0, 0, 99991), (2, 3, 1), (0, 0, 99984), (1, 4, 4), (0, 0, 99943), (1, 7, 4)])])]) (θ0 := [(0, 0, 0), (1, 1, 0), (2, 2, 0)]) (pX12_layBest kn) (by decide +kernel)
def xX12_layBest : List eX := [xX12_layBest_0, xX12_layBest_1, xX12_layBest_2, xX12_layBest_3]
theorem con_X12_layBest (kn : sKn) : Cons ZZ dX12_layBest (fX12_layBest kn) xX12_layBest := Cons_c (con_X12_layBest_0 kn) (Cons_c (con_X12_layBest_1 kn) (Cons_c (con_X12_layBest_2 kn) (Cons_c (con_X12_layBest_3 kn) Cons_n)))
def dX12_bestOf : List (Nat × Nat) := [(73, 999)]
def uX12_bestOf : List (Nat × tA) := [(0, t_load 2 0 1), (1, t_load 2 0 2), (2, t_gf ZZ 13 14 5), (5, t_int 88 7), (7, t_load 0 1 8), (8, t_bin o_add 9), (9, t_split 4 (t_iald ZZ 10)), (10, t_load 2 0 11), (11, t_gf ZZ 13 14 14), (14, t_int 82 16), (16, t_load 0 1 17), (17, t_bin o_add 18), (18, t_iald ZZ 19), (19, t_callV ZZ dX12_layBest true xX12_layBest 13 3 22), (22, t_int (-1) 23), (23, t_istore 2 24), (24, t_int 0 25), (25, t_istore 3 26), (26, t_load 0 3 27), (27, t_int 3 28), (28, t_icmp n2_gt n2_le 54 31), (31, t_load 2 0 32), (32, t_gf ZZ 13 29 35), (35, t_load 0 3 36), (36, t_iald ZZ 37), (37, t_load 0 2 38), (38, t_icmp n2_le n2_gt 48 41), (41, t_load 2 0 42), (42, t_gf ZZ 13 29 45), (45, t_load 0 3 46), (46, t_iald ZZ 47), (47, t_istore 2 48), (48, t_iinc 3 1 51), (51, t_goto 26), (54, t_load 0 2 55), (55, t_iret)]
set_option maxRecDepth 100000 in
theorem pX12_bestOf (kn : sKn) : pOk ZZ dX12_bestOf (tX12_bestOf kn) uX12_bestOf := pOk_c tr_aload (pOk_c tr_aload (pOk_c tr_get (pOk_c (tr_int rfl) (pOk_c tr_iload (pOk_c (tr_bin op_add) (pOk_c (tr_split (tr_iald)) (pOk_c tr_aload (pOk_c tr_get (pOk_c (tr_int rfl) (pOk_c tr_iload (pOk_c (tr_bin op_add) (pOk_c tr_iald (pOk_c (tr_callV (con_X12_layBest kn) (by decide +kernel)) (pOk_c (tr_int rfl) (pOk_c tr_istore (pOk_c (tr_int rfl) (pOk_c tr_istore (pOk_c tr_iload (pOk_c (tr_int rfl) (pOk_c (tr_icmp cm2_gt) (pOk_c tr_aload (pOk_c tr_get (pOk_c tr_iload (pOk_c tr_iald (pOk_c tr_iload (pOk_c (tr_icmp cm2_le) (pOk_c tr_aload (pOk_c tr_get (pOk_c tr_iload (pOk_c tr_iald (pOk_c tr_istore (pOk_c (tr_iinc rfl) (pOk_c tr_goto (pOk_c tr_iload (pOk_c tr_iret pOk_n)))))))))))))))))))))))))))))))))))
def xX12_bestOf_0 : eX := ([(2, 0, 213), (0, 1, 0)], [], [(1, .inl (0, 5))], 2, [([], [(0, 2, 0)], [], [(2, .inl ((-1), 2147483647))], 3)])
set_option maxRecDepth 100000 in
theorem con_X12_bestOf_0 (kn : sKn) : Con ZZ dX12_bestOf (fW (tX12_bestOf kn) 4) xX12_bestOf_0 := chk_ok (n := 2000) (cuts := [(26, [(([(0, (2, 0, 213)), (1, (0, 1, 0)), (2, (0, 2, 0)), (3, (0, 3, 0))], [], [(((0, 213), 0, 14, 0), (2, 0, 215))], [(3, .inl (0, 4)), (2, .inl ((-1), 2147483647)), (1, .inl (0, 5))], 4), [(0, 0, 99974), (1, 3, 4)])])]) (θ0 := [(0, 0, 0), (1, 1, 0)]) (pX12_bestOf kn) (by decide +kernel)
def xX12_bestOf : List eX := [xX12_bestOf_0]
theorem con_X12_bestOf (kn : sKn) : Cons ZZ dX12_bestOf (fX12_bestOf kn) xX12_bestOf := Cons_c (con_X12_bestOf_0 kn) Cons_n
def dX12_hasPath : List (Nat × Nat) := [(73, 999)]
def uX12_hasPath : List (Nat × tA) := [(0, t_load 2 0 1), (1, t_load 0 1 2), (2, t_callV ZZ dX12_bestOf false xX12_bestOf 13 2 5), (5, t_int (-1) 6), (6, t_icmp n2_eq n2_ne 13 9), (9, t_int 1 10), (10, t_goto 14), (13, t_int 0 14), (14, t_zret)]
set_option maxRecDepth 100000 in
theorem pX12_hasPath (kn : sKn) : pOk ZZ dX12_hasPath (tX12_hasPath kn) uX12_hasPath := pOk_c tr_aload (pOk_c tr_iload (pOk_c (tr_callV (con_X12_bestOf kn) (by decide +kernel)) (pOk_c (tr_int rfl) (pOk_c (tr_icmp cm2_eq) (pOk_c (tr_int rfl) (pOk_c tr_goto (pOk_c (tr_int rfl) (pOk_c tr_zret pOk_n))))))))
def xX12_hasPath_0 : eX := ([(2, 0, 213), (0, 1, 0)], [], [(1, .inl (0, 5))], 2, [([], [(0, 0, 1)], [], [], 2), ([], [(0, 0, 0)], [], [], 2)])
set_option maxRecDepth 100000 in
theorem con_X12_hasPath_0 (kn : sKn) : Con ZZ dX12_hasPath (fW (tX12_hasPath kn) 2) xX12_hasPath_0 := chk_ok (n := 2000) (cuts := []) (θ0 := [(0, 0, 0), (1, 1, 0)]) (pX12_hasPath kn) (by decide +kernel)
def xX12_hasPath : List eX := [xX12_hasPath_0]
theorem con_X12_hasPath (kn : sKn) : Cons ZZ dX12_hasPath (fX12_hasPath kn) xX12_hasPath := Cons_c (con_X12_hasPath_0 kn) Cons_n
def dX12_pathsNow : List (Nat × Nat) := [(73, 999)]
def uX12_pathsNow : List (Nat × tA) := [(0, t_int 0 1), (1, t_istore 1 2), (2, t_int 0 3), (3, t_istore 2 4), (4, t_load 0 2 5), (5, t_load 2 0 6), (6, t_gf ZZ 13 14 9), (9, t_int 2 10), (10, t_iald ZZ 11), (11, t_icmp n2_ge n2_lt 45 14), (14, t_load 2 0 15), (15, t_gf ZZ 13 14 18), (18, t_int 96 20), (20, t_iald ZZ 21), (21, t_load 0 2 22), (22, t_callS ZZ dX12_has false xX12_has 2 25), (25, t_if n2_ne n2_eq 39 28), (28, t_load 2 0 29), (29, t_load 0 2 30), (30, t_callV ZZ dX12_hasPath false xX12_hasPath 13 2 33), (33, t_if n2_eq n2_ne 39 36), (36, t_iinc 1 1 39), (39, t_iinc 2 1 42), (42, t_goto 4), (45, t_load 0 1 46), (46, t_iret)]
set_option maxRecDepth 100000 in
theorem pX12_pathsNow (kn : sKn) : pOk ZZ dX12_pathsNow (tX12_pathsNow kn) uX12_pathsNow := pOk_c (tr_int rfl) (pOk_c tr_istore (pOk_c (tr_int rfl) (pOk_c tr_istore (pOk_c tr_iload (pOk_c tr_aload (pOk_c tr_get (pOk_c (tr_int rfl) (pOk_c tr_iald (pOk_c (tr_icmp cm2_ge) (pOk_c tr_aload (pOk_c tr_get (pOk_c (tr_int rfl) (pOk_c tr_iald (pOk_c tr_iload (pOk_c (tr_callS (con_X12_has kn) (by decide +kernel)) (pOk_c (tr_if cm2_ne) (pOk_c tr_aload (pOk_c tr_iload (pOk_c (tr_callV (con_X12_hasPath kn) (by decide +kernel)) (pOk_c (tr_if cm2_eq) (pOk_c (tr_iinc rfl) (pOk_c (tr_iinc rfl) (pOk_c tr_goto (pOk_c tr_iload (pOk_c tr_iret pOk_n)))))))))))))))))))))))))
def xX12_pathsNow_0 : eX := ([(2, 0, 213)], [], [], 1, [([], [(0, 1, 0)], [], [(1, fullI)], 2)])
set_option maxRecDepth 100000 in
theorem con_X12_pathsNow_0 (kn : sKn) : Con ZZ dX12_pathsNow (fW (tX12_pathsNow kn) 3) xX12_pathsNow_0 := chk_ok (n := 2000) (cuts := [(4, [(([(0, (2, 0, 213)), (1, (0, 1, 0)), (2, (0, 2, 0))], [], [], [(2, .inl (0, 6)), (1, fullI)], 3), [(0, 0, 99996), (1, 2, 6)])])]) (θ0 := [(0, 0, 0)]) (pX12_pathsNow kn) (by decide +kernel)
def xX12_pathsNow : List eX := [xX12_pathsNow_0]
theorem con_X12_pathsNow (kn : sKn) : Cons ZZ dX12_pathsNow (fX12_pathsNow kn) xX12_pathsNow := Cons_c (con_X12_pathsNow_0 kn) Cons_n
def dX12_able : List (Nat × Nat) := [(61, 0), (61, 28), (72, 999), (73, 999)]
def uX12_able : List (Nat × tA) := [(0, t_load 2 0 1), (1, t_int 0 2), (2, t_put ZZ dX12_able 13 0 ctI 5), (5, t_load 2 0 6), (6, t_callV ZZ dX12_layWhose true xX12_layWhose 13 1 9), (9, t_load 2 0 10), (10, t_callV ZZ dX12_pathsNow false xX12_pathsNow 13 1 13), (13, t_iret)]
set_option maxRecDepth 100000 in
theorem pX12_able (kn : sKn) : pOk ZZ dX12_able (tX12_able kn) uX12_able := pOk_c tr_aload (pOk_c (tr_int rfl) (pOk_c (tr_put ck_I) (pOk_c tr_aload (pOk_c (tr_callV (con_X12_layWhose kn) (by decide +kernel)) (pOk_c tr_aload (pOk_c (tr_callV (con_X12_pathsNow kn) (by decide +kernel)) (pOk_c tr_iret pOk_n)))))))
def xX12_able_0 : eX := ([(2, 0, 213)], [], [], 1, [([], [(0, 1, 0)], [(((0, 213), 0, 0, 0), (0, 0, 0))], [(1, fullI)], 2)])
set_option maxRecDepth 100000 in
theorem con_X12_able_0 (kn : sKn) : Con ZZ dX12_able (fW (tX12_able kn) 1) xX12_able_0 := chk_ok (n := 2000) (cuts := []) (θ0 := [(0, 0, 0)]) (pX12_able kn) (by decide +kernel)
def xX12_able : List eX := [xX12_able_0]
theorem con_X12_able (kn : sKn) : Cons ZZ dX12_able (fX12_able kn) xX12_able := Cons_c (con_X12_able_0 kn) Cons_n
def dX12_isIn : List (Nat × Nat) := []
def uX12_isIn : List (Nat × tA) := [(0, t_load 0 0 1), (1, t_load 0 1 2), (2, t_icmp n2_lt n2_ge 14 5), (5, t_load 0 0 6), (6, t_load 0 2 7), (7, t_icmp n2_gt n2_le 14 10), (10, t_int 1 11), (11, t_goto 15), (14, t_int 0 15), (15, t_zret)]
set_option maxRecDepth 100000 in
theorem pX12_isIn (kn : sKn) : pOk ZZ dX12_isIn (tX12_isIn kn) uX12_isIn := pOk_c tr_iload (pOk_c tr_iload (pOk_c (tr_icmp cm2_lt) (pOk_c tr_iload (pOk_c tr_iload (pOk_c (tr_icmp cm2_gt) (pOk_c (tr_int rfl) (pOk_c tr_goto (pOk_c (tr_int rfl) (pOk_c tr_zret pOk_n)))))))))
def xX12_isIn_0 : eX := ([(0, 1, 0), (0, 2, 0), (0, 3, 0)], [], [(3, .inl (2, 2)), (2, .inl (0, 0)), (1, fullI)], 4, [([], [(0, 0, 1)], [], [(1, .inl (0, 2))], 4), ([], [(0, 0, 0)], [], [], 4)])
set_option maxRecDepth 100000 in
theorem con_X12_isIn_0 (kn : sKn) : Con ZZ dX12_isIn (fW (tX12_isIn kn) 3) xX12_isIn_0 := chk_ok (n := 2000) (cuts := []) (θ0 := [(0, 0, 0), (1, 1, 0), (2, 2, 0), (3, 3, 0)]) (pX12_isIn kn) (by decide +kernel)
def xX12_isIn_1 : eX := ([(0, 1, 0), (0, 2, 0), (0, 3, 0)], [], [(3, .inl (1, 1)), (2, .inl (0, 0)), (1, fullI)], 4, [([], [(0, 0, 1)], [], [(1, .inl (0, 1))], 4), ([], [(0, 0, 0)], [], [], 4)])
set_option maxRecDepth 100000 in
theorem con_X12_isIn_1 (kn : sKn) : Con ZZ dX12_isIn (fW (tX12_isIn kn) 3) xX12_isIn_1 := chk_ok (n := 2000) (cuts := []) (θ0 := [(0, 0, 0), (1, 1, 0), (2, 2, 0), (3, 3, 0)]) (pX12_isIn kn) (by decide +kernel)
def xX12_isIn_2 : eX := ([(0, 1, 0), (0, 2, 0), (0, 3, 0)], [], [(3, .inl (60, 60)), (2, .inl (1, 1)), (1, fullI)], 4, [([], [(0, 0, 1)], [], [(1, .inl (1, 60))], 4), ([], [(0, 0, 0)], [], [], 4)])
set_option maxRecDepth 100000 in
theorem con_X12_isIn_2 (kn : sKn) : Con ZZ dX12_isIn (fW (tX12_isIn kn) 3) xX12_isIn_2 := chk_ok (n := 2000) (cuts := []) (θ0 := [(0, 0, 0), (1, 1, 0), (2, 2, 0), (3, 3, 0)]) (pX12_isIn kn) (by decide +kernel)
def xX12_isIn_3 : eX := ([(0, 1, 0), (0, 2, 0), (0, 3, 0)], [], [(3, .inl (6, 6)), (2, .inl (1, 1)), (1, fullI)], 4, [([], [(0, 0, 1)], [], [(1, .inl (1, 6))], 4), ([], [(0, 0, 0)], [], [], 4)])
set_option maxRecDepth 100000 in
theorem con_X12_isIn_3 (kn : sKn) : Con ZZ dX12_isIn (fW (tX12_isIn kn) 3) xX12_isIn_3 := chk_ok (n := 2000) (cuts := []) (θ0 := [(0, 0, 0), (1, 1, 0), (2, 2, 0), (3, 3, 0)]) (pX12_isIn kn) (by decide +kernel)
def xX12_isIn_4 : eX := ([(0, 1, 0), (0, 2, 0), (0, 3, 0)], [], [(3, .inl (3, 3)), (2, .inl (1, 1)), (1, fullI)], 4, [([], [(0, 0, 1)], [], [(1, .inl (1, 3))], 4), ([], [(0, 0, 0)], [], [], 4)])
set_option maxRecDepth 100000 in
theorem con_X12_isIn_4 (kn : sKn) : Con ZZ dX12_isIn (fW (tX12_isIn kn) 3) xX12_isIn_4 := chk_ok (n := 2000) (cuts := []) (θ0 := [(0, 0, 0), (1, 1, 0), (2, 2, 0), (3, 3, 0)]) (pX12_isIn kn) (by decide +kernel)
def xX12_isIn_5 : eX := ([(0, 1, 0), (0, 2, 0), (0, 3, 0)], [], [(3, .inl (3, 3)), (2, .inl (0, 0)), (1, fullI)], 4, [([], [(0, 0, 1)], [], [(1, .inl (0, 3))], 4), ([], [(0, 0, 0)], [], [], 4)])
set_option maxRecDepth 100000 in
theorem con_X12_isIn_5 (kn : sKn) : Con ZZ dX12_isIn (fW (tX12_isIn kn) 3) xX12_isIn_5 := chk_ok (n := 2000) (cuts := []) (θ0 := [(0, 0, 0), (1, 1, 0), (2, 2, 0), (3, 3, 0)]) (pX12_isIn kn) (by decide +kernel)
def xX12_isIn_6 : eX := ([(0, 1, 0), (0, 2, 0), (0, 3, 0)], [], [(3, .inl ((-1), 2)), (2, .inl (0, 0)), (1, fullI)], 4, [([], [(0, 0, 1)], [], [(1, .inl (0, 2)), (3, .inl (0, 2))], 4), ([], [(0, 0, 0)], [], [], 4)])
set_option maxRecDepth 100000 in
theorem con_X12_isIn_6 (kn : sKn) : Con ZZ dX12_isIn (fW (tX12_isIn kn) 3) xX12_isIn_6 := chk_ok (n := 2000) (cuts := []) (θ0 := [(0, 0, 0), (1, 1, 0), (2, 2, 0), (3, 3, 0)]) (pX12_isIn kn) (by decide +kernel)
def xX12_isIn_7 : eX := ([(0, 1, 0), (0, 2, 0), (0, 3, 0)], [], [(3, .inl ((-1), 5)), (2, .inl (0, 0)), (1, fullI)], 4, [([], [(0, 0, 1)], [], [(1, .inl (0, 5)), (3, .inl (0, 5))], 4), ([], [(0, 0, 0)], [], [], 4)])
set_option maxRecDepth 100000 in
theorem con_X12_isIn_7 (kn : sKn) : Con ZZ dX12_isIn (fW (tX12_isIn kn) 3) xX12_isIn_7 := chk_ok (n := 2000) (cuts := []) (θ0 := [(0, 0, 0), (1, 1, 0), (2, 2, 0), (3, 3, 0)]) (pX12_isIn kn) (by decide +kernel)
def xX12_isIn_8 : eX := ([(0, 1, 0), (0, 2, 0), (0, 3, 0)], [], [(3, .inl ((-1), 9)), (2, .inl (0, 0)), (1, fullI)], 4, [([], [(0, 0, 1)], [], [(1, .inl (0, 9)), (3, .inl (0, 9))], 4), ([], [(0, 0, 0)], [], [], 4)])
set_option maxRecDepth 100000 in
theorem con_X12_isIn_8 (kn : sKn) : Con ZZ dX12_isIn (fW (tX12_isIn kn) 3) xX12_isIn_8 := chk_ok (n := 2000) (cuts := []) (θ0 := [(0, 0, 0), (1, 1, 0), (2, 2, 0), (3, 3, 0)]) (pX12_isIn kn) (by decide +kernel)
def xX12_isIn_9 : eX := ([(0, 1, 0), (0, 2, 0), (0, 3, 0)], [], [(3, .inl (0, 11)), (2, .inl (0, 0)), (1, fullI)], 4, [([], [(0, 0, 1)], [], [(1, .inl (0, 11))], 4), ([], [(0, 0, 0)], [], [], 4)])
set_option maxRecDepth 100000 in
theorem con_X12_isIn_9 (kn : sKn) : Con ZZ dX12_isIn (fW (tX12_isIn kn) 3) xX12_isIn_9 := chk_ok (n := 2000) (cuts := []) (θ0 := [(0, 0, 0), (1, 1, 0), (2, 2, 0), (3, 3, 0)]) (pX12_isIn kn) (by decide +kernel)
def xX12_isIn_10 : eX := ([(0, 1, 0), (0, 2, 0), (0, 3, 0)], [], [(3, .inl ((-1), 11)), (2, .inl (0, 0)), (1, fullI)], 4, [([], [(0, 0, 1)], [], [(1, .inl (0, 11)), (3, .inl (0, 11))], 4), ([], [(0, 0, 0)], [], [], 4)])
set_option maxRecDepth 100000 in
theorem con_X12_isIn_10 (kn : sKn) : Con ZZ dX12_isIn (fW (tX12_isIn kn) 3) xX12_isIn_10 := chk_ok (n := 2000) (cuts := []) (θ0 := [(0, 0, 0), (1, 1, 0), (2, 2, 0), (3, 3, 0)]) (pX12_isIn kn) (by decide +kernel)
def xX12_isIn_11 : eX := ([(0, 1, 0), (0, 2, 0), (0, 3, 0)], [], [(3, .inl ((-1), 63)), (2, .inl (0, 0)), (1, fullI)], 4, [([], [(0, 0, 1)], [], [(1, .inl (0, 63)), (3, .inl (0, 63))], 4), ([], [(0, 0, 0)], [], [], 4)])
set_option maxRecDepth 100000 in
theorem con_X12_isIn_11 (kn : sKn) : Con ZZ dX12_isIn (fW (tX12_isIn kn) 3) xX12_isIn_11 := chk_ok (n := 2000) (cuts := []) (θ0 := [(0, 0, 0), (1, 1, 0), (2, 2, 0), (3, 3, 0)]) (pX12_isIn kn) (by decide +kernel)
def xX12_isIn : List eX := [xX12_isIn_0, xX12_isIn_1, xX12_isIn_2, xX12_isIn_3, xX12_isIn_4, xX12_isIn_5, xX12_isIn_6, xX12_isIn_7, xX12_isIn_8, xX12_isIn_9, xX12_isIn_10, xX12_isIn_11]
theorem con_X12_isIn (kn : sKn) : Cons ZZ dX12_isIn (fX12_isIn kn) xX12_isIn := Cons_c (con_X12_isIn_0 kn) (Cons_c (con_X12_isIn_1 kn) (Cons_c (con_X12_isIn_2 kn) (Cons_c (con_X12_isIn_3 kn) (Cons_c (con_X12_isIn_4 kn) (Cons_c (con_X12_isIn_5 kn) (Cons_c (con_X12_isIn_6 kn) (Cons_c (con_X12_isIn_7 kn) (Cons_c (con_X12_isIn_8 kn) (Cons_c (con_X12_isIn_9 kn) (Cons_c (con_X12_isIn_10 kn) (Cons_c (con_X12_isIn_11 kn) Cons_n)))))))))))
def dX12_asked : List (Nat × Nat) := [(61, 0)]
def uX12_asked : List (Nat × tA) := [(0, t_load 2 0 1), (1, t_int 0 2), (2, t_put ZZ dX12_asked 13 0 ctI 5), (5, t_load 0 1 6), (6, t_int 0 7), (7, t_load 2 0 8), (8, t_gf ZZ 13 35 11), (11, t_int 1 12), (12, t_bin o_sub2 13), (13, t_callS ZZ dX12_isIn false xX12_isIn 3 16), (16, t_if n2_eq n2_ne 41 19), (19, t_load 0 2 20), (20, t_int 0 21), (21, t_int 2 22), (22, t_callS ZZ dX12_isIn false xX12_isIn 3 25), (25, t_if n2_eq n2_ne 41 28), (28, t_load 2 0 29), (29, t_gf ZZ 13 33 32), (32, t_int 3 33), (33, t_load 0 1 34), (34, t_bin o_mul 35), (35, t_load 0 2 36), (36, t_bin o_add 37), (37, t_iald ZZ 38), (38, t_goto 42), (41, t_int (-1) 42), (42, t_iret)]
set_option maxRecDepth 100000 in
theorem pX12_asked (kn : sKn) : pOk ZZ dX12_asked (tX12_asked kn) uX12_asked := pOk_c tr_aload (pOk_c (tr_int rfl) (pOk_c (tr_put ck_I) (pOk_c tr_iload (pOk_c (tr_int rfl) (pOk_c tr_aload (pOk_c tr_get (pOk_c (tr_int rfl) (pOk_c (tr_bin op_sub2) (pOk_c (tr_callS (con_X12_isIn kn) (by decide +kernel)) (pOk_c (tr_if cm2_eq) (pOk_c tr_iload (pOk_c (tr_int rfl) (pOk_c (tr_int rfl) (pOk_c (tr_callS (con_X12_isIn kn) (by decide +kernel)) (pOk_c (tr_if cm2_eq) (pOk_c tr_aload (pOk_c tr_get (pOk_c (tr_int rfl) (pOk_c tr_iload (pOk_c (tr_bin op_mul) (pOk_c tr_iload (pOk_c (tr_bin op_add) (pOk_c tr_iald (pOk_c tr_goto (pOk_c (tr_int rfl) (pOk_c tr_iret pOk_n))))))))))))))))))))))))))
def xX12_asked_0 : eX := ([(2, 0, 213), (0, 1, 0), (0, 2, 0)], [], [(2, fullI), (1, fullI)], 3, [([], [(0, 0, (-1))], [(((0, 213), 0, 0, 0), (0, 0, 0))], [], 3), ([], [(0, 3, 0)], [(((0, 213), 0, 35, 0), (0, 4, 0)), (((0, 213), 0, 0, 0), (0, 0, 0))], [(4, .inl (1, 12)), (3, .inl ((-1), 9)), (1, .inl (0, 11)), (2, .inl (0, 2))], 5)])
set_option maxRecDepth 100000 in
theorem con_X12_asked_0 (kn : sKn) : Con ZZ dX12_asked (fW (tX12_asked kn) 3) xX12_asked_0 := chk_ok (n := 2000) (cuts := []) (θ0 := [(0, 0, 0), (1, 1, 0), (2, 2, 0)]) (pX12_asked kn) (by decide +kernel)
def xX12_asked : List eX := [xX12_asked_0]
theorem con_X12_asked (kn : sKn) : Cons ZZ dX12_asked (fX12_asked kn) xX12_asked := Cons_c (con_X12_asked_0 kn) Cons_n
def dX12_isLoad : List (Nat × Nat) := []
def uX12_isLoad : List (Nat × tA) := [(0, t_load 0 1 1), (1, t_int 0 2), (2, t_load 2 0 3), (3, t_gf ZZ 13 14 6), (6, t_int 2 7), (7, t_iald ZZ 8), (8, t_int 1 9), (9, t_bin o_sub2 10), (10, t_callS ZZ dX12_isIn false xX12_isIn 3 13), (13, t_zret)]
set_option maxRecDepth 100000 in
theorem pX12_isLoad (kn : sKn) : pOk ZZ dX12_isLoad (tX12_isLoad kn) uX12_isLoad := pOk_c tr_iload (pOk_c (tr_int rfl) (pOk_c tr_aload (pOk_c tr_get (pOk_c (tr_int rfl) (pOk_c tr_iald (pOk_c (tr_int rfl) (pOk_c (tr_bin op_sub2) (pOk_c (tr_callS (con_X12_isIn kn) (by decide +kernel)) (pOk_c tr_zret pOk_n)))))))))
def xX12_isLoad_0 : eX := ([(2, 0, 213), (0, 1, 0)], [], [(1, fullI)], 2, [([], [(0, 0, 0)], [], [], 2), ([], [(0, 0, 1)], [(((0, 215), 1, 0, 2), (0, 2, 0))], [(2, .inl (1, 6)), (1, .inl (0, 5))], 3)])
set_option maxRecDepth 100000 in
theorem con_X12_isLoad_0 (kn : sKn) : Con ZZ dX12_isLoad (fW (tX12_isLoad kn) 2) xX12_isLoad_0 := chk_ok (n := 2000) (cuts := []) (θ0 := [(0, 0, 0), (1, 1, 0)]) (pX12_isLoad kn) (by decide +kernel)
def xX12_isLoad : List eX := [xX12_isLoad_0]
theorem con_X12_isLoad (kn : sKn) : Cons ZZ dX12_isLoad (fX12_isLoad kn) xX12_isLoad := Cons_c (con_X12_isLoad_0 kn) Cons_n
def dX12_isDead : List (Nat × Nat) := []
def uX12_isDead : List (Nat × tA) := [(0, t_load 2 0 1), (1, t_gf ZZ 13 14 4), (4, t_int 95 6), (6, t_iald ZZ 7), (7, t_load 0 1 8), (8, t_callS ZZ dX12_has false xX12_has 2 11), (11, t_zret)]
set_option maxRecDepth 100000 in
theorem pX12_isDead (kn : sKn) : pOk ZZ dX12_isDead (tX12_isDead kn) uX12_isDead := pOk_c tr_aload (pOk_c tr_get (pOk_c (tr_int rfl) (pOk_c tr_iald (pOk_c tr_iload (pOk_c (tr_callS (con_X12_has kn) (by decide +kernel)) (pOk_c tr_zret pOk_n))))))
def xX12_isDead_0 : eX := ([(2, 0, 213), (0, 1, 0)], [], [(1, fullI)], 2, [([], [(0, 0, 0)], [], [], 2), ([], [(0, 0, 1)], [], [], 2)])
set_option maxRecDepth 100000 in
theorem con_X12_isDead_0 (kn : sKn) : Con ZZ dX12_isDead (fW (tX12_isDead kn) 2) xX12_isDead_0 := chk_ok (n := 2000) (cuts := []) (θ0 := [(0, 0, 0), (1, 1, 0)]) (pX12_isDead kn) (by decide +kernel)
def xX12_isDead : List eX := [xX12_isDead_0]
theorem con_X12_isDead (kn : sKn) : Cons ZZ dX12_isDead (fX12_isDead kn) xX12_isDead := Cons_c (con_X12_isDead_0 kn) Cons_n
def dX12_take : List (Nat × Nat) := [(61, 2)]
def uX12_take : List (Nat × tA) := [(0, t_load 2 0 1), (1, t_gf ZZ 13 2 4), (4, t_istore 1 5), (5, t_load 2 0 6), (6, t_int 0 7), (7, t_put ZZ dX12_take 13 2 ctI 10), (10, t_load 0 1 11), (11, t_iret)]
set_option maxRecDepth 100000 in
theorem pX12_take (kn : sKn) : pOk ZZ dX12_take (tX12_take kn) uX12_take := pOk_c tr_aload (pOk_c tr_get (pOk_c tr_istore (pOk_c tr_aload (pOk_c (tr_int rfl) (pOk_c (tr_put ck_I) (pOk_c tr_iload (pOk_c tr_iret pOk_n)))))))
def xX12_take_0 : eX := ([(2, 0, 213)], [], [], 1, [([], [(0, 1, 0)], [(((0, 213), 0, 2, 0), (0, 0, 0))], [(1, .inl (0, 940))], 2)])
set_option maxRecDepth 100000 in
theorem con_X12_take_0 (kn : sKn) : Con ZZ dX12_take (fW (tX12_take kn) 2) xX12_take_0 := chk_ok (n := 2000) (cuts := []) (θ0 := [(0, 0, 0)]) (pX12_take kn) (by decide +kernel)
def xX12_take : List eX := [xX12_take_0]
theorem con_X12_take (kn : sKn) : Cons ZZ dX12_take (fX12_take kn) xX12_take := Cons_c (con_X12_take_0 kn) Cons_n
def dX12_layAside : List (Nat × Nat) := [(67, 999)]
def uX12_layAside : List (Nat × tA) := [(0, t_int 0 1), (1, t_istore 1 2), (2, t_load 0 1 3), (3, t_int 102 5), (5, t_icmp n2_ge n2_lt 29 8), (8, t_load 2 0 9), (9, t_gf ZZ 13 18 12), (12, t_split 1024 (t_load 0 1 13)), (13, t_load 2 0 14), (14, t_gf ZZ 13 14 17), (17, t_int 94 19), (19, t_split 1024 (t_load 0 1 20)), (20, t_bin o_add 21), (21, t_iald ZZ 22), (22, t_ast ZZ dX12_layAside 1 ctI 23), (23, t_iinc 1 1 26), (26, t_goto 2), (29, t_vret)]
set_option maxRecDepth 100000 in
theorem pX12_layAside (kn : sKn) : pOk ZZ dX12_layAside (tX12_layAside kn) uX12_layAside := pOk_c (tr_int rfl) (pOk_c tr_istore (pOk_c tr_iload (pOk_c (tr_int rfl) (pOk_c (tr_icmp cm2_ge) (pOk_c tr_aload (pOk_c tr_get (pOk_c (tr_split (tr_iload)) (pOk_c tr_aload (pOk_c tr_get (pOk_c (tr_int rfl) (pOk_c (tr_split (tr_iload)) (pOk_c (tr_bin op_add) (pOk_c tr_iald (pOk_c (tr_ast as_i) (pOk_c (tr_iinc rfl) (pOk_c tr_goto (pOk_c tr_vret pOk_n)))))))))))))))))
def xX12_layAside_0 : eX := ([(2, 0, 213)], [], [], 1, [([], [], [], [], 1)])
set_option maxRecDepth 100000 in
theorem con_X12_layAside_0 (kn : sKn) : Con ZZ dX12_layAside (fW (tX12_layAside kn) 2) xX12_layAside_0 := chk_ok (n := 2000) (cuts := [(2, [(([(0, (2, 0, 213)), (1, (0, 1, 0))], [], [], [(1, .inl (0, 102))], 2), [(0, 0, 99998), (1, 1, 102)])])]) (θ0 := [(0, 0, 0)]) (pX12_layAside kn) (by decide +kernel)
def xX12_layAside : List eX := [xX12_layAside_0]
theorem con_X12_layAside (kn : sKn) : Cons ZZ dX12_layAside (fX12_layAside kn) xX12_layAside := Cons_c (con_X12_layAside_0 kn) Cons_n
def dX12_open : List (Nat × Nat) := [(63, 999)]
def uX12_open : List (Nat × tA) := [(0, t_load 2 0 1), (1, t_gf ZZ 13 14 4), (4, t_int 118 6), (6, t_load 0 1 7), (7, t_bin o_add 8), (8, t_int (-1) 9), (9, t_ast ZZ dX12_open 1 ctI 10), (10, t_load 2 0 11), (11, t_gf ZZ 13 14 14), (14, t_int 154 17), (17, t_load 0 1 18), (18, t_bin o_add 19), (19, t_int 0 20), (20, t_ast ZZ dX12_open 1 ctI 21), (21, t_vret)]
set_option maxRecDepth 100000 in
theorem pX12_open (kn : sKn) : pOk ZZ dX12_open (tX12_open kn) uX12_open := pOk_c tr_aload (pOk_c tr_get (pOk_c (tr_int rfl) (pOk_c tr_iload (pOk_c (tr_bin op_add) (pOk_c (tr_int rfl) (pOk_c (tr_ast as_i) (pOk_c tr_aload (pOk_c tr_get (pOk_c (tr_int rfl) (pOk_c tr_iload (pOk_c (tr_bin op_add) (pOk_c (tr_int rfl) (pOk_c (tr_ast as_i) (pOk_c tr_vret pOk_n))))))))))))))
def xX12_open_0 : eX := ([(2, 0, 213), (0, 1, 0)], [], [(1, .inl (0, 35))], 2, [([], [], [], [], 2)])
set_option maxRecDepth 100000 in
theorem con_X12_open_0 (kn : sKn) : Con ZZ dX12_open (fW (tX12_open kn) 2) xX12_open_0 := chk_ok (n := 2000) (cuts := []) (θ0 := [(0, 0, 0), (1, 1, 0)]) (pX12_open kn) (by decide +kernel)
def xX12_open : List eX := [xX12_open_0]
theorem con_X12_open (kn : sKn) : Cons ZZ dX12_open (fX12_open kn) xX12_open := Cons_c (con_X12_open_0 kn) Cons_n
def dX12_singe : List (Nat × Nat) := [(63, 999)]
def uX12_singe : List (Nat × tA) := [(0, t_load 2 0 1), (1, t_gf ZZ 13 14 4), (4, t_int 118 6), (6, t_load 0 1 7), (7, t_bin o_add 8), (8, t_iald ZZ 9), (9, t_int (-1) 10), (10, t_icmp n2_eq n2_ne 39 13), (13, t_load 2 0 14), (14, t_gf ZZ 13 14 17), (17, t_int 154 20), (20, t_load 0 1 21), (21, t_bin o_add 22), (22, t_int 3 23), (23, t_load 2 0 24), (24, t_gf ZZ 13 14 27), (27, t_int 154 30), (30, t_load 0 1 31), (31, t_bin o_add 32), (32, t_iald ZZ 33), (33, t_int 1 34), (34, t_bin o_add 35), (35, t_callS ZZ dX12_least false xX12_least 2 38), (38, t_ast ZZ dX12_singe 1 ctI 39), (39, t_vret)]
set_option maxRecDepth 100000 in
theorem pX12_singe (kn : sKn) : pOk ZZ dX12_singe (tX12_singe kn) uX12_singe := pOk_c tr_aload (pOk_c tr_get (pOk_c (tr_int rfl) (pOk_c tr_iload (pOk_c (tr_bin op_add) (pOk_c tr_iald (pOk_c (tr_int rfl) (pOk_c (tr_icmp cm2_eq) (pOk_c tr_aload (pOk_c tr_get (pOk_c (tr_int rfl) (pOk_c tr_iload (pOk_c (tr_bin op_add) (pOk_c (tr_int rfl) (pOk_c tr_aload (pOk_c tr_get (pOk_c (tr_int rfl) (pOk_c tr_iload (pOk_c (tr_bin op_add) (pOk_c tr_iald (pOk_c (tr_int rfl) (pOk_c (tr_bin op_add) (pOk_c (tr_callS (con_X12_least kn) (by decide +kernel)) (pOk_c (tr_ast as_i) (pOk_c tr_vret pOk_n))))))))))))))))))))))))
def xX12_singe_0 : eX := ([(2, 0, 213), (0, 1, 0)], [], [(1, .inl (34, 34))], 2, [([], [], [], [], 2)])
set_option maxRecDepth 100000 in
theorem con_X12_singe_0 (kn : sKn) : Con ZZ dX12_singe (fW (tX12_singe kn) 2) xX12_singe_0 := chk_ok (n := 2000) (cuts := []) (θ0 := [(0, 0, 0), (1, 1, 0)]) (pX12_singe kn) (by decide +kernel)
def xX12_singe_1 : eX := ([(2, 0, 213), (0, 1, 0)], [], [(1, .inl (33, 33))], 2, [([], [], [], [], 2)])
set_option maxRecDepth 100000 in
theorem con_X12_singe_1 (kn : sKn) : Con ZZ dX12_singe (fW (tX12_singe kn) 2) xX12_singe_1 := chk_ok (n := 2000) (cuts := []) (θ0 := [(0, 0, 0), (1, 1, 0)]) (pX12_singe kn) (by decide +kernel)
def xX12_singe_2 : eX := ([(2, 0, 213), (0, 1, 0)], [], [(1, .inl (35, 35))], 2, [([], [], [], [], 2)])
set_option maxRecDepth 100000 in
theorem con_X12_singe_2 (kn : sKn) : Con ZZ dX12_singe (fW (tX12_singe kn) 2) xX12_singe_2 := chk_ok (n := 2000) (cuts := []) (θ0 := [(0, 0, 0), (1, 1, 0)]) (pX12_singe kn) (by decide +kernel)
def xX12_singe_3 : eX := ([(2, 0, 213), (0, 1, 0)], [], [(1, .inl (31, 31))], 2, [([], [], [], [], 2)])
set_option maxRecDepth 100000 in
theorem con_X12_singe_3 (kn : sKn) : Con ZZ dX12_singe (fW (tX12_singe kn) 2) xX12_singe_3 := chk_ok (n := 2000) (cuts := []) (θ0 := [(0, 0, 0), (1, 1, 0)]) (pX12_singe kn) (by decide +kernel)
def xX12_singe_4 : eX := ([(2, 0, 213), (0, 1, 0)], [], [(1, .inl (30, 30))], 2, [([], [], [], [], 2)])
set_option maxRecDepth 100000 in
theorem con_X12_singe_4 (kn : sKn) : Con ZZ dX12_singe (fW (tX12_singe kn) 2) xX12_singe_4 := chk_ok (n := 2000) (cuts := []) (θ0 := [(0, 0, 0), (1, 1, 0)]) (pX12_singe kn) (by decide +kernel)
def xX12_singe_5 : eX := ([(2, 0, 213), (0, 1, 0)], [], [(1, .inl (32, 32))], 2, [([], [], [], [], 2)])
set_option maxRecDepth 100000 in
theorem con_X12_singe_5 (kn : sKn) : Con ZZ dX12_singe (fW (tX12_singe kn) 2) xX12_singe_5 := chk_ok (n := 2000) (cuts := []) (θ0 := [(0, 0, 0), (1, 1, 0)]) (pX12_singe kn) (by decide +kernel)
def xX12_singe_6 : eX := ([(2, 0, 213), (0, 1, 0)], [], [(1, .inl (28, 28))], 2, [([], [], [], [], 2)])
set_option maxRecDepth 100000 in
theorem con_X12_singe_6 (kn : sKn) : Con ZZ dX12_singe (fW (tX12_singe kn) 2) xX12_singe_6 := chk_ok (n := 2000) (cuts := []) (θ0 := [(0, 0, 0), (1, 1, 0)]) (pX12_singe kn) (by decide +kernel)
def xX12_singe_7 : eX := ([(2, 0, 213), (0, 1, 0)], [], [(1, .inl (27, 27))], 2, [([], [], [], [], 2)])
set_option maxRecDepth 100000 in
theorem con_X12_singe_7 (kn : sKn) : Con ZZ dX12_singe (fW (tX12_singe kn) 2) xX12_singe_7 := chk_ok (n := 2000) (cuts := []) (θ0 := [(0, 0, 0), (1, 1, 0)]) (pX12_singe kn) (by decide +kernel)
def xX12_singe_8 : eX := ([(2, 0, 213), (0, 1, 0)], [], [(1, .inl (29, 29))], 2, [([], [], [], [], 2)])
set_option maxRecDepth 100000 in
theorem con_X12_singe_8 (kn : sKn) : Con ZZ dX12_singe (fW (tX12_singe kn) 2) xX12_singe_8 := chk_ok (n := 2000) (cuts := []) (θ0 := [(0, 0, 0), (1, 1, 0)]) (pX12_singe kn) (by decide +kernel)
def xX12_singe_9 : eX := ([(2, 0, 213), (0, 1, 0)], [], [(1, .inl (25, 25))], 2, [([], [], [], [], 2)])
set_option maxRecDepth 100000 in
theorem con_X12_singe_9 (kn : sKn) : Con ZZ dX12_singe (fW (tX12_singe kn) 2) xX12_singe_9 := chk_ok (n := 2000) (cuts := []) (θ0 := [(0, 0, 0), (1, 1, 0)]) (pX12_singe kn) (by decide +kernel)
def xX12_singe_10 : eX := ([(2, 0, 213), (0, 1, 0)], [], [(1, .inl (24, 24))], 2, [([], [], [], [], 2)])
set_option maxRecDepth 100000 in
theorem con_X12_singe_10 (kn : sKn) : Con ZZ dX12_singe (fW (tX12_singe kn) 2) xX12_singe_10 := chk_ok (n := 2000) (cuts := []) (θ0 := [(0, 0, 0), (1, 1, 0)]) (pX12_singe kn) (by decide +kernel)
def xX12_singe_11 : eX := ([(2, 0, 213), (0, 1, 0)], [], [(1, .inl (26, 26))], 2, [([], [], [], [], 2)])
set_option maxRecDepth 100000 in
theorem con_X12_singe_11 (kn : sKn) : Con ZZ dX12_singe (fW (tX12_singe kn) 2) xX12_singe_11 := chk_ok (n := 2000) (cuts := []) (θ0 := [(0, 0, 0), (1, 1, 0)]) (pX12_singe kn) (by decide +kernel)
def xX12_singe_12 : eX := ([(2, 0, 213), (0, 1, 0)], [], [(1, .inl (22, 22))], 2, [([], [], [], [], 2)])
set_option maxRecDepth 100000 in
theorem con_X12_singe_12 (kn : sKn) : Con ZZ dX12_singe (fW (tX12_singe kn) 2) xX12_singe_12 := chk_ok (n := 2000) (cuts := []) (θ0 := [(0, 0, 0), (1, 1, 0)]) (pX12_singe kn) (by decide +kernel)
def xX12_singe_13 : eX := ([(2, 0, 213), (0, 1, 0)], [], [(1, .inl (21, 21))], 2, [([], [], [], [], 2)])
set_option maxRecDepth 100000 in
theorem con_X12_singe_13 (kn : sKn) : Con ZZ dX12_singe (fW (tX12_singe kn) 2) xX12_singe_13 := chk_ok (n := 2000) (cuts := []) (θ0 := [(0, 0, 0), (1, 1, 0)]) (pX12_singe kn) (by decide +kernel)
def xX12_singe_14 : eX := ([(2, 0, 213), (0, 1, 0)], [], [(1, .inl (23, 23))], 2, [([], [], [], [], 2)])
set_option maxRecDepth 100000 in
theorem con_X12_singe_14 (kn : sKn) : Con ZZ dX12_singe (fW (tX12_singe kn) 2) xX12_singe_14 := chk_ok (n := 2000) (cuts := []) (θ0 := [(0, 0, 0), (1, 1, 0)]) (pX12_singe kn) (by decide +kernel)
def xX12_singe_15 : eX := ([(2, 0, 213), (0, 1, 0)], [], [(1, .inl (19, 19))], 2, [([], [], [], [], 2)])
set_option maxRecDepth 100000 in
theorem con_X12_singe_15 (kn : sKn) : Con ZZ dX12_singe (fW (tX12_singe kn) 2) xX12_singe_15 := chk_ok (n := 2000) (cuts := []) (θ0 := [(0, 0, 0), (1, 1, 0)]) (pX12_singe kn) (by decide +kernel)
def xX12_singe_16 : eX := ([(2, 0, 213), (0, 1, 0)], [], [(1, .inl (18, 18))], 2, [([], [], [], [], 2)])
set_option maxRecDepth 100000 in
theorem con_X12_singe_16 (kn : sKn) : Con ZZ dX12_singe (fW (tX12_singe kn) 2) xX12_singe_16 := chk_ok (n := 2000) (cuts := []) (θ0 := [(0, 0, 0), (1, 1, 0)]) (pX12_singe kn) (by decide +kernel)
def xX12_singe_17 : eX := ([(2, 0, 213), (0, 1, 0)], [], [(1, .inl (20, 20))], 2, [([], [], [], [], 2)])
set_option maxRecDepth 100000 in
theorem con_X12_singe_17 (kn : sKn) : Con ZZ dX12_singe (fW (tX12_singe kn) 2) xX12_singe_17 := chk_ok (n := 2000) (cuts := []) (θ0 := [(0, 0, 0), (1, 1, 0)]) (pX12_singe kn) (by decide +kernel)
def xX12_singe_18 : eX := ([(2, 0, 213), (0, 1, 0)], [], [(1, .inl (16, 16))], 2, [([], [], [], [], 2)])
set_option maxRecDepth 100000 in
theorem con_X12_singe_18 (kn : sKn) : Con ZZ dX12_singe (fW (tX12_singe kn) 2) xX12_singe_18 := chk_ok (n := 2000) (cuts := []) (θ0 := [(0, 0, 0), (1, 1, 0)]) (pX12_singe kn) (by decide +kernel)
def xX12_singe_19 : eX := ([(2, 0, 213), (0, 1, 0)], [], [(1, .inl (15, 15))], 2, [([], [], [], [], 2)])
set_option maxRecDepth 100000 in
theorem con_X12_singe_19 (kn : sKn) : Con ZZ dX12_singe (fW (tX12_singe kn) 2) xX12_singe_19 := chk_ok (n := 2000) (cuts := []) (θ0 := [(0, 0, 0), (1, 1, 0)]) (pX12_singe kn) (by decide +kernel)
def xX12_singe_20 : eX := ([(2, 0, 213), (0, 1, 0)], [], [(1, .inl (17, 17))], 2, [([], [], [], [], 2)])
set_option maxRecDepth 100000 in
theorem con_X12_singe_20 (kn : sKn) : Con ZZ dX12_singe (fW (tX12_singe kn) 2) xX12_singe_20 := chk_ok (n := 2000) (cuts := []) (θ0 := [(0, 0, 0), (1, 1, 0)]) (pX12_singe kn) (by decide +kernel)
def xX12_singe_21 : eX := ([(2, 0, 213), (0, 1, 0)], [], [(1, .inl (13, 13))], 2, [([], [], [], [], 2)])
set_option maxRecDepth 100000 in
theorem con_X12_singe_21 (kn : sKn) : Con ZZ dX12_singe (fW (tX12_singe kn) 2) xX12_singe_21 := chk_ok (n := 2000) (cuts := []) (θ0 := [(0, 0, 0), (1, 1, 0)]) (pX12_singe kn) (by decide +kernel)
def xX12_singe_22 : eX := ([(2, 0, 213), (0, 1, 0)], [], [(1, .inl (12, 12))], 2, [([], [], [], [], 2)])
set_option maxRecDepth 100000 in
theorem con_X12_singe_22 (kn : sKn) : Con ZZ dX12_singe (fW (tX12_singe kn) 2) xX12_singe_22 := chk_ok (n := 2000) (cuts := []) (θ0 := [(0, 0, 0), (1, 1, 0)]) (pX12_singe kn) (by decide +kernel)
def xX12_singe_23 : eX := ([(2, 0, 213), (0, 1, 0)], [], [(1, .inl (14, 14))], 2, [([], [], [], [], 2)])
set_option maxRecDepth 100000 in
theorem con_X12_singe_23 (kn : sKn) : Con ZZ dX12_singe (fW (tX12_singe kn) 2) xX12_singe_23 := chk_ok (n := 2000) (cuts := []) (θ0 := [(0, 0, 0), (1, 1, 0)]) (pX12_singe kn) (by decide +kernel)
def xX12_singe_24 : eX := ([(2, 0, 213), (0, 1, 0)], [], [(1, .inl (10, 10))], 2, [([], [], [], [], 2)])
set_option maxRecDepth 100000 in
theorem con_X12_singe_24 (kn : sKn) : Con ZZ dX12_singe (fW (tX12_singe kn) 2) xX12_singe_24 := chk_ok (n := 2000) (cuts := []) (θ0 := [(0, 0, 0), (1, 1, 0)]) (pX12_singe kn) (by decide +kernel)
def xX12_singe_25 : eX := ([(2, 0, 213), (0, 1, 0)], [], [(1, .inl (9, 9))], 2, [([], [], [], [], 2)])
set_option maxRecDepth 100000 in
theorem con_X12_singe_25 (kn : sKn) : Con ZZ dX12_singe (fW (tX12_singe kn) 2) xX12_singe_25 := chk_ok (n := 2000) (cuts := []) (θ0 := [(0, 0, 0), (1, 1, 0)]) (pX12_singe kn) (by decide +kernel)
def xX12_singe_26 : eX := ([(2, 0, 213), (0, 1, 0)], [], [(1, .inl (11, 11))], 2, [([], [], [], [], 2)])
set_option maxRecDepth 100000 in
theorem con_X12_singe_26 (kn : sKn) : Con ZZ dX12_singe (fW (tX12_singe kn) 2) xX12_singe_26 := chk_ok (n := 2000) (cuts := []) (θ0 := [(0, 0, 0), (1, 1, 0)]) (pX12_singe kn) (by decide +kernel)
def xX12_singe_27 : eX := ([(2, 0, 213), (0, 1, 0)], [], [(1, .inl (7, 7))], 2, [([], [], [], [], 2)])
set_option maxRecDepth 100000 in
theorem con_X12_singe_27 (kn : sKn) : Con ZZ dX12_singe (fW (tX12_singe kn) 2) xX12_singe_27 := chk_ok (n := 2000) (cuts := []) (θ0 := [(0, 0, 0), (1, 1, 0)]) (pX12_singe kn) (by decide +kernel)
def xX12_singe_28 : eX := ([(2, 0, 213), (0, 1, 0)], [], [(1, .inl (6, 6))], 2, [([], [], [], [], 2)])
set_option maxRecDepth 100000 in
theorem con_X12_singe_28 (kn : sKn) : Con ZZ dX12_singe (fW (tX12_singe kn) 2) xX12_singe_28 := chk_ok (n := 2000) (cuts := []) (θ0 := [(0, 0, 0), (1, 1, 0)]) (pX12_singe kn) (by decide +kernel)
def xX12_singe_29 : eX := ([(2, 0, 213), (0, 1, 0)], [], [(1, .inl (8, 8))], 2, [([], [], [], [], 2)])
set_option maxRecDepth 100000 in
theorem con_X12_singe_29 (kn : sKn) : Con ZZ dX12_singe (fW (tX12_singe kn) 2) xX12_singe_29 := chk_ok (n := 2000) (cuts := []) (θ0 := [(0, 0, 0), (1, 1, 0)]) (pX12_singe kn) (by decide +kernel)
def xX12_singe_30 : eX := ([(2, 0, 213), (0, 1, 0)], [], [(1, .inl (4, 4))], 2, [([], [], [], [], 2)])
set_option maxRecDepth 100000 in
theorem con_X12_singe_30 (kn : sKn) : Con ZZ dX12_singe (fW (tX12_singe kn) 2) xX12_singe_30 := chk_ok (n := 2000) (cuts := []) (θ0 := [(0, 0, 0), (1, 1, 0)]) (pX12_singe kn) (by decide +kernel)
def xX12_singe_31 : eX := ([(2, 0, 213), (0, 1, 0)], [], [(1, .inl (3, 3))], 2, [([], [], [], [], 2)])
set_option maxRecDepth 100000 in
theorem con_X12_singe_31 (kn : sKn) : Con ZZ dX12_singe (fW (tX12_singe kn) 2) xX12_singe_31 := chk_ok (n := 2000) (cuts := []) (θ0 := [(0, 0, 0), (1, 1, 0)]) (pX12_singe kn) (by decide +kernel)
def xX12_singe_32 : eX := ([(2, 0, 213), (0, 1, 0)], [], [(1, .inl (5, 5))], 2, [([], [], [], [], 2)])
set_option maxRecDepth 100000 in
theorem con_X12_singe_32 (kn : sKn) : Con ZZ dX12_singe (fW (tX12_singe kn) 2) xX12_singe_32 := chk_ok (n := 2000) (cuts := []) (θ0 := [(0, 0, 0), (1, 1, 0)]) (pX12_singe kn) (by decide +kernel)
def xX12_singe_33 : eX := ([(2, 0, 213), (0, 1, 0)], [], [(1, .inl (1, 1))], 2, [([], [], [], [], 2)])
set_option maxRecDepth 100000 in
theorem con_X12_singe_33 (kn : sKn) : Con ZZ dX12_singe (fW (tX12_singe kn) 2) xX12_singe_33 := chk_ok (n := 2000) (cuts := []) (θ0 := [(0, 0, 0), (1, 1, 0)]) (pX12_singe kn) (by decide +kernel)
def xX12_singe_34 : eX := ([(2, 0, 213), (0, 1, 0)], [], [(1, .inl (0, 0))], 2, [([], [], [], [], 2)])
set_option maxRecDepth 100000 in
theorem con_X12_singe_34 (kn : sKn) : Con ZZ dX12_singe (fW (tX12_singe kn) 2) xX12_singe_34 := chk_ok (n := 2000) (cuts := []) (θ0 := [(0, 0, 0), (1, 1, 0)]) (pX12_singe kn) (by decide +kernel)
def xX12_singe_35 : eX := ([(2, 0, 213), (0, 1, 0)], [], [(1, .inl (2, 2))], 2, [([], [], [], [], 2)])
set_option maxRecDepth 100000 in
theorem con_X12_singe_35 (kn : sKn) : Con ZZ dX12_singe (fW (tX12_singe kn) 2) xX12_singe_35 := chk_ok (n := 2000) (cuts := []) (θ0 := [(0, 0, 0), (1, 1, 0)]) (pX12_singe kn) (by decide +kernel)
def xX12_singe : List eX := [xX12_singe_0, xX12_singe_1, xX12_singe_2, xX12_singe_3, xX12_singe_4, xX12_singe_5, xX12_singe_6, xX12_singe_7, xX12_singe_8, xX12_singe_9, xX12_singe_10, xX12_singe_11, xX12_singe_12, xX12_singe_13, xX12_singe_14, xX12_singe_15, xX12_singe_16, xX12_singe_17, xX12_singe_18, xX12_singe_19, xX12_singe_20, xX12_singe_21, xX12_singe_22, xX12_singe_23, xX12_singe_24, xX12_singe_25, xX12_singe_26, xX12_singe_27, xX12_singe_28, xX12_singe_29, xX12_singe_30, xX12_singe_31, xX12_singe_32, xX12_singe_33, xX12_singe_34, xX12_singe_35]
theorem con_X12_singe (kn : sKn) : Cons ZZ dX12_singe (fX12_singe kn) xX12_singe := Cons_c (con_X12_singe_0 kn) (Cons_c (con_X12_singe_1 kn) (Cons_c (con_X12_singe_2 kn) (Cons_c (con_X12_singe_3 kn) (Cons_c (con_X12_singe_4 kn) (Cons_c (con_X12_singe_5 kn) (Cons_c (con_X12_singe_6 kn) (Cons_c (con_X12_singe_7 kn) (Cons_c (con_X12_singe_8 kn) (Cons_c (con_X12_singe_9 kn) (Cons_c (con_X12_singe_10 kn) (Cons_c (con_X12_singe_11 kn) (Cons_c (con_X12_singe_12 kn) (Cons_c (con_X12_singe_13 kn) (Cons_c (con_X12_singe_14 kn) (Cons_c (con_X12_singe_15 kn) (Cons_c (con_X12_singe_16 kn) (Cons_c (con_X12_singe_17 kn) (Cons_c (con_X12_singe_18 kn) (Cons_c (con_X12_singe_19 kn) (Cons_c (con_X12_singe_20 kn) (Cons_c (con_X12_singe_21 kn) (Cons_c (con_X12_singe_22 kn) (Cons_c (con_X12_singe_23 kn) (Cons_c (con_X12_singe_24 kn) (Cons_c (con_X12_singe_25 kn) (Cons_c (con_X12_singe_26 kn) (Cons_c (con_X12_singe_27 kn) (Cons_c (con_X12_singe_28 kn) (Cons_c (con_X12_singe_29 kn) (Cons_c (con_X12_singe_30 kn) (Cons_c (con_X12_singe_31 kn) (Cons_c (con_X12_singe_32 kn) (Cons_c (con_X12_singe_33 kn) (Cons_c (con_X12_singe_34 kn) (Cons_c (con_X12_singe_35 kn) Cons_n)))))))))))))))))))))))))))))))))))
end
