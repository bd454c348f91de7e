noncomputable section
def dX0_bearTogether : List (Nat × Nat) := []
def uX0_bearTogether : List (Nat × tA) := [(0, t_int 0 1), (1, t_istore 4 3), (3, t_load 0 2 4), (4, t_istore 5 6), (6, t_load 0 5 8), (8, t_load 0 3 9), (9, t_icmp n2_ge n2_lt 37 12), (12, t_load 0 4 14), (14, t_load 2 1 15), (15, t_load 2 0 16), (16, t_gf ZZ 1 0 19), (19, t_load 2 1 20), (20, t_gf ZZ 7 5 23), (23, t_load 0 5 25), (25, t_callS ZZ dX10_bearing false xX10_bearing 4 28), (28, t_bin o_add 29), (29, t_istore 4 31), (31, t_iinc 5 1 34), (34, t_goto 6), (37, t_load 0 4 39), (39, t_iret)]
set_option maxRecDepth 100000 in
theorem pX0_bearTogether (kn : sKn) : pOk ZZ dX0_bearTogether (tX0_bearTogether kn) uX0_bearTogether := pOk_c (tr_int rfl) (pOk_c tr_istore (pOk_c tr_iload (pOk_c tr_istore (pOk_c tr_iload (pOk_c tr_iload (pOk_c (tr_icmp cm2_ge) (pOk_c tr_iload (pOk_c tr_aload (pOk_c tr_aload (pOk_c tr_get (pOk_c tr_aload (pOk_c tr_get (pOk_c tr_iload (pOk_c (tr_callS (con_X10_bearing kn) (by decide +kernel)) (pOk_c (tr_bin op_add) (pOk_c tr_istore (pOk_c (tr_iinc rfl) (pOk_c tr_goto (pOk_c tr_iload (pOk_c tr_iret pOk_n))))))))))))))))))))
def xX0_bearTogether_0 : eX := ([(2, 0, 54), (2, 1, 0), (0, 2, 0), (0, 3, 0)], [], [(3, .inl (0, 36)), (2, .inl (0, 35)), (1, .inr 5)], 4, [([], [(0, 4, 0)], [], [(4, fullI)], 5)])
set_option maxRecDepth 100000 in
theorem con_X0_bearTogether_0 (kn : sKn) : Con ZZ dX0_bearTogether (fW (tX0_bearTogether kn) 6) xX0_bearTogether_0 := chk_ok (n := 2000) (cuts := [(6, [(([(0, (2, 0, 54)), (1, (2, 1, 0)), (2, (0, 2, 0)), (3, (0, 3, 0)), (4, (0, 4, 0)), (5, (0, 5, 0))], [], [], [(5, .inl (0, 36)), (4, fullI), (1, .inr 5), (2, .inl (0, 35)), (3, .inl (0, 36))], 6), [(0, 0, 99994), (1, 5, 36)])])]) (θ0 := [(0, 0, 0), (1, 1, 0), (2, 2, 0), (3, 3, 0)]) (pX0_bearTogether kn) (by decide +kernel)
def xX0_bearTogether : List eX := [xX0_bearTogether_0]
theorem con_X0_bearTogether (kn : sKn) : Cons ZZ dX0_bearTogether (fX0_bearTogether kn) xX0_bearTogether := Cons_c (con_X0_bearTogether_0 kn) Cons_n
def dX0_countWays : List (Nat × Nat) := []
def uX0_countWays : List (Nat × tA) := [(0, t_int 1 1), (1, t_istore 5 3), (3, t_load 0 3 4), (4, t_istore 6 6), (6, t_load 0 6 8), (8, t_load 0 4 10), (10, t_icmp n2_ge n2_lt 39 13), (13, t_load 2 2 14), (14, t_gf ZZ 9 6 17), (17, t_load 0 6 19), (19, t_iald ZZ 20), (20, t_int (-1) 21), (21, t_icmp n2_ne n2_eq 33 24), (24, t_load 0 5 26), (26, t_load 2 1 27), (27, t_gf ZZ 7 2 30), (30, t_bin o_mul 31), (31, t_istore 5 33), (33, t_iinc 6 1 36), (36, t_goto 6), (39, t_load 0 5 41), (41, t_iret)]
set_option maxRecDepth 100000 in
theorem pX0_countWays (kn : sKn) : pOk ZZ dX0_countWays (tX0_countWays kn) uX0_countWays := pOk_c (tr_int rfl) (pOk_c tr_istore (pOk_c tr_iload (pOk_c tr_istore (pOk_c tr_iload (pOk_c tr_iload (pOk_c (tr_icmp cm2_ge) (pOk_c tr_aload (pOk_c tr_get (pOk_c tr_iload (pOk_c tr_iald (pOk_c (tr_int rfl) (pOk_c (tr_icmp cm2_ne) (pOk_c tr_iload (pOk_c tr_aload (pOk_c tr_get (pOk_c (tr_bin op_mul) (pOk_c tr_istore (pOk_c (tr_iinc rfl) (pOk_c tr_goto (pOk_c tr_iload (pOk_c tr_iret pOk_n)))))))))))))))))))))
def xX0_countWays_0 : eX := ([(2, 0, 54), (2, 1, 0), (2, 2, 0), (0, 3, 0), (0, 4, 0)], [], [(4, .inl (0, 36)), (3, .inl (0, 35)), (2, .inr 15), (1, .inr 5)], 5, [([], [(0, 5, 0)], [], [(5, fullI)], 6)])
set_option maxRecDepth 100000 in
theorem con_X0_countWays_0 (kn : sKn) : Con ZZ dX0_countWays (fW (tX0_countWays kn) 7) xX0_countWays_0 := chk_ok (n := 2000) (cuts := [(6, [(([(0, (2, 0, 54)), (1, (2, 1, 0)), (2, (2, 2, 0)), (3, (0, 3, 0)), (4, (0, 4, 0)), (5, (0, 5, 0)), (6, (0, 6, 0))], [], [], [(6, .inl (0, 36)), (5, fullI), (1, .inr 5), (2, .inr 15), (3, .inl (0, 35)), (4, .inl (0, 36))], 7), [(0, 0, 99994), (1, 6, 36)])])]) (θ0 := [(0, 0, 0), (1, 1, 0), (2, 2, 0), (3, 3, 0), (4, 4, 0)]) (pX0_countWays kn) (by decide +kernel)
def xX0_countWays : List eX := [xX0_countWays_0]
theorem con_X0_countWays (kn : sKn) : Cons ZZ dX0_countWays (fX0_countWays kn) xX0_countWays := Cons_c (con_X0_countWays_0 kn) Cons_n
def dX1_behind : List (Nat × Nat) := []
def uX1_behind : List (Nat × tA) := [(0, t_load 0 1 1), (1, t_if n2_ne n2_eq 8 4), (4, t_int 0 5), (5, t_goto 11), (8, t_load 0 0 9), (9, t_load 0 1 10), (10, t_bin o_add 11), (11, t_iret)]
set_option maxRecDepth 100000 in
theorem pX1_behind (kn : sKn) : pOk ZZ dX1_behind (tX1_behind kn) uX1_behind := pOk_c tr_iload (pOk_c (tr_if cm2_ne) (pOk_c (tr_int rfl) (pOk_c tr_goto (pOk_c tr_iload (pOk_c tr_iload (pOk_c (tr_bin op_add) (pOk_c tr_iret pOk_n)))))))
def xX1_behind_0 : eX := ([(0, 1, 0), (0, 2, 0)], [], [(2, fullI), (1, fullI)], 3, [([], [(0, 0, 0)], [], [(2, .inl (0, 0))], 3), ([], [(0, 3, 0)], [], [(3, fullI)], 4)])
set_option maxRecDepth 100000 in
theorem con_X1_behind_0 (kn : sKn) : Con ZZ dX1_behind (fW (tX1_behind kn) 2) xX1_behind_0 := chk_ok (n := 2000) (cuts := []) (θ0 := [(0, 0, 0), (1, 1, 0), (2, 2, 0)]) (pX1_behind kn) (by decide +kernel)
def xX1_behind : List eX := [xX1_behind_0]
theorem con_X1_behind (kn : sKn) : Cons ZZ dX1_behind (fX1_behind kn) xX1_behind := Cons_c (con_X1_behind_0 kn) Cons_n
def dX1_isSignersDeed : List (Nat × Nat) := []
def uX1_isSignersDeed : List (Nat × tA) := [(0, t_load 2 0 1), (1, t_int 8 3), (3, t_callV ZZ dX9_isKey false xX9_isKey 10 2 6), (6, t_if n2_ne n2_eq 36 9), (9, t_load 2 0 10), (10, t_int 9 12), (12, t_callV ZZ dX9_isKey false xX9_isKey 10 2 15), (15, t_if n2_ne n2_eq 36 18), (18, t_load 2 0 19), (19, t_int 10 21), (21, t_callV ZZ dX9_isKey false xX9_isKey 10 2 24), (24, t_if n2_ne n2_eq 36 27), (27, t_load 2 0 28), (28, t_int 11 30), (30, t_callV ZZ dX9_isKey false xX9_isKey 10 2 33), (33, t_if n2_eq n2_ne 40 36), (36, t_int 1 37), (37, t_goto 41), (40, t_int 0 41), (41, t_zret)]
set_option maxRecDepth 100000 in
theorem pX1_isSignersDeed (kn : sKn) : pOk ZZ dX1_isSignersDeed (tX1_isSignersDeed kn) uX1_isSignersDeed := pOk_c tr_aload (pOk_c (tr_int rfl) (pOk_c (tr_callV (con_X9_isKey kn) (by decide +kernel)) (pOk_c (tr_if cm2_ne) (pOk_c tr_aload (pOk_c (tr_int rfl) (pOk_c (tr_callV (con_X9_isKey kn) (by decide +kernel)) (pOk_c (tr_if cm2_ne) (pOk_c tr_aload (pOk_c (tr_int rfl) (pOk_c (tr_callV (con_X9_isKey kn) (by decide +kernel)) (pOk_c (tr_if cm2_ne) (pOk_c tr_aload (pOk_c (tr_int rfl) (pOk_c (tr_callV (con_X9_isKey kn) (by decide +kernel)) (pOk_c (tr_if cm2_eq) (pOk_c (tr_int rfl) (pOk_c tr_goto (pOk_c (tr_int rfl) (pOk_c tr_zret pOk_n)))))))))))))))))))
def xX1_isSignersDeed_0 : eX := ([(2, 0, 1)], [], [], 1, [([], [(0, 0, 0)], [], [], 1), ([], [(0, 0, 1)], [(((0, 1), 0, 4, 0), (0, 0, 4))], [], 1)])
set_option maxRecDepth 100000 in
theorem con_X1_isSignersDeed_0 (kn : sKn) : Con ZZ dX1_isSignersDeed (fW (tX1_isSignersDeed kn) 1) xX1_isSignersDeed_0 := chk_ok (n := 2000) (cuts := []) (θ0 := [(0, 0, 0)]) (pX1_isSignersDeed kn) (by decide +kernel)
def xX1_isSignersDeed : List eX := [xX1_isSignersDeed_0]
theorem con_X1_isSignersDeed (kn : sKn) : Cons ZZ dX1_isSignersDeed (fX1_isSignersDeed kn) xX1_isSignersDeed := Cons_c (con_X1_isSignersDeed_0 kn) Cons_n
def xX9_takeNumber_e0 : eX := ([(2, 0, 1), (0, 1, 0), (0, 2, 0)], [], [(2, .inl (60, 60)), (1, .inl (1, 1))], 3, [([], [(0, 0, 0)], [], [], 3), ([], [(0, 0, 1)], [(((0, 1), 0, 10, 0), (0, 3, 0)), (((0, 1), 0, 8, 0), (0, 4, 0))], [(4, .inl (1, 60)), (3, .inl (0, 940))], 5)])
set_option maxRecDepth 100000 in
theorem con_X9_takeNumber_e0 (kn : sKn) : Con ZZ dX9_takeNumber (fW (tX9_takeNumber kn) 3) xX9_takeNumber_e0 := chk_ok (n := 2000) (cuts := []) (θ0 := [(0, 0, 0), (1, 1, 0), (2, 2, 0)]) (pX9_takeNumber kn) (by decide +kernel)
def xX9_takeNumberW : List eX := [xX9_takeNumber_0, xX9_takeNumber_1, xX9_takeNumber_2, xX9_takeNumber_3, xX9_takeNumber_4, xX9_takeNumber_5, xX9_takeNumber_6, xX9_takeNumber_7, xX9_takeNumber_8, xX9_takeNumber_9, xX9_takeNumber_e0]
theorem con_X9_takeNumberW (kn : sKn) : Cons ZZ dX9_takeNumber (fX9_takeNumber kn) xX9_takeNumberW := Cons_c (con_X9_takeNumber_0 kn) (Cons_c (con_X9_takeNumber_1 kn) (Cons_c (con_X9_takeNumber_2 kn) (Cons_c (con_X9_takeNumber_3 kn) (Cons_c (con_X9_takeNumber_4 kn) (Cons_c (con_X9_takeNumber_5 kn) (Cons_c (con_X9_takeNumber_6 kn) (Cons_c (con_X9_takeNumber_7 kn) (Cons_c (con_X9_takeNumber_8 kn) (Cons_c (con_X9_takeNumber_9 kn) (Cons_c (con_X9_takeNumber_e0 kn) Cons_n))))))))))
def xX9_begin_e0 : eX := ([(2, 0, 1), (0, 1, 0)], [], [(1, .inl (400, 400))], 2, [([], [], [(((0, 1), 0, 11, 0), (0, 0, 0)), (((0, 1), 0, 2, 0), (0, 0, 400))], [], 2)])
set_option maxRecDepth 100000 in
theorem con_X9_begin_e0 (kn : sKn) : Con ZZ dX9_begin (fW (tX9_begin kn) 2) xX9_begin_e0 := chk_ok (n := 2000) (cuts := []) (θ0 := [(0, 0, 0), (1, 1, 0)]) (pX9_begin kn) (by decide +kernel)
def xX9_beginW : List eX := [xX9_begin_0, xX9_begin_1, xX9_begin_e0]
theorem con_X9_beginW (kn : sKn) : Cons ZZ dX9_begin (fX9_begin kn) xX9_beginW := Cons_c (con_X9_begin_0 kn) (Cons_c (con_X9_begin_1 kn) (Cons_c (con_X9_begin_e0 kn) Cons_n))
def dX7_compares : List (Nat × Nat) := []
def uX7_compares : List (Nat × tA) := [(0, t_load 2 0 1), (1, t_gf ZZ 8 1 4), (4, t_load 0 1 5), (5, t_iald ZZ 6), (6, t_look [(60, 32), (61, 48)] 64), (32, t_load 0 2 33), (33, t_load 2 0 34), (34, t_gf ZZ 8 2 37), (37, t_load 0 1 38), (38, t_iald ZZ 39), (39, t_icmp n2_ge n2_lt 46 42), (42, t_int 1 43), (43, t_goto 47), (46, t_int 0 47), (47, t_zret), (48, t_load 0 2 49), (49, t_load 2 0 50), (50, t_gf ZZ 8 2 53), (53, t_load 0 1 54), (54, t_iald ZZ 55), (55, t_icmp n2_ne n2_eq 62 58), (58, t_int 1 59), (59, t_goto 63), (62, t_int 0 63), (63, t_zret), (64, t_load 0 2 65), (65, t_load 2 0 66), (66, t_gf ZZ 8 2 69), (69, t_load 0 1 70), (70, t_iald ZZ 71), (71, t_icmp n2_le n2_gt 78 74), (74, t_int 1 75), (75, t_goto 79), (78, t_int 0 79), (79, t_zret)]
set_option maxRecDepth 100000 in
theorem pX7_compares (kn : sKn) : pOk ZZ dX7_compares (tX7_compares kn) uX7_compares := pOk_c tr_aload (pOk_c tr_get (pOk_c tr_iload (pOk_c tr_iald (pOk_c tr_look (pOk_c tr_iload (pOk_c tr_aload (pOk_c tr_get (pOk_c tr_iload (pOk_c tr_iald (pOk_c (tr_icmp cm2_ge) (pOk_c (tr_int rfl) (pOk_c tr_goto (pOk_c (tr_int rfl) (pOk_c tr_zret (pOk_c tr_iload (pOk_c tr_aload (pOk_c tr_get (pOk_c tr_iload (pOk_c tr_iald (pOk_c (tr_icmp cm2_ne) (pOk_c (tr_int rfl) (pOk_c tr_goto (pOk_c (tr_int rfl) (pOk_c tr_zret (pOk_c tr_iload (pOk_c tr_aload (pOk_c tr_get (pOk_c tr_iload (pOk_c tr_iald (pOk_c (tr_icmp cm2_le) (pOk_c (tr_int rfl) (pOk_c tr_goto (pOk_c (tr_int rfl) (pOk_c tr_zret pOk_n))))))))))))))))))))))))))))))))))
def xX7_compares_0 : eX := ([(2, 1, 0), (0, 2, 0), (0, 3, 0)], [], [(3, fullI), (2, .inl (0, 39)), (1, .inr 22)], 4, [([], [(0, 0, 1)], [], [], 4), ([], [(0, 0, 0)], [], [], 4)])
set_option maxRecDepth 100000 in
theorem con_X7_compares_0 (kn : sKn) : Con ZZ dX7_compares (fW (tX7_compares kn) 3) xX7_compares_0 := chk_ok (n := 2000) (cuts := []) (θ0 := [(0, 0, 0), (1, 1, 0), (2, 2, 0), (3, 3, 0)]) (pX7_compares kn) (by decide +kernel)
def xX7_compares : List eX := [xX7_compares_0]
theorem con_X7_compares (kn : sKn) : Cons ZZ dX7_compares (fX7_compares kn) xX7_compares := Cons_c (con_X7_compares_0 kn) Cons_n
def dX7_isOn : List (Nat × Nat) := []
def uX7_isOn : List (Nat × tA) := [(0, t_int 0 1), (1, t_istore 3 2), (2, t_load 0 3 3), (3, t_int 3 4), (4, t_icmp n2_ge n2_lt 29 7), (7, t_load 2 0 8), (8, t_gf ZZ 9 6 11), (11, t_int 3 12), (12, t_load 0 1 13), (13, t_bin o_mul 14), (14, t_load 0 3 15), (15, t_bin o_add 16), (16, t_iald ZZ 17), (17, t_load 0 2 18), (18, t_icmp n2_ne n2_eq 23 21), (21, t_int 1 22), (22, t_zret), (23, t_iinc 3 1 26), (26, t_goto 2), (29, t_int 0 30), (30, t_zret)]
set_option maxRecDepth 100000 in
theorem pX7_isOn (kn : sKn) : pOk ZZ dX7_isOn (tX7_isOn kn) uX7_isOn := pOk_c (tr_int rfl) (pOk_c tr_istore (pOk_c tr_iload (pOk_c (tr_int rfl) (pOk_c (tr_icmp cm2_ge) (pOk_c tr_aload (pOk_c tr_get (pOk_c (tr_int rfl) (pOk_c tr_iload (pOk_c (tr_bin op_mul) (pOk_c tr_iload (pOk_c (tr_bin op_add) (pOk_c tr_iald (pOk_c tr_iload (pOk_c (tr_icmp cm2_ne) (pOk_c (tr_int rfl) (pOk_c tr_zret (pOk_c (tr_iinc rfl) (pOk_c tr_goto (pOk_c (tr_int rfl) (pOk_c tr_zret pOk_n))))))))))))))))))))
def xX7_isOn_0 : eX := ([(2, 1, 0), (0, 2, 0), (0, 3, 0)], [], [(3, fullI), (2, .inl (0, 11)), (1, .inr 15)], 4, [([], [(0, 0, 1)], [], [(3, .inl ((-1), 9))], 4), ([], [(0, 0, 0)], [], [], 4)])
set_option maxRecDepth 100000 in
theorem con_X7_isOn_0 (kn : sKn) : Con ZZ dX7_isOn (fW (tX7_isOn kn) 4) xX7_isOn_0 := chk_ok (n := 2000) (cuts := [(2, [(([(0, (2, 1, 0)), (1, (0, 2, 0)), (2, (0, 3, 0)), (3, (0, 4, 0))], [], [], [(4, .inl (0, 3)), (1, .inr 15), (2, .inl (0, 11)), (3, fullI)], 5), [(0, 0, 99998), (1, 4, 3)])])]) (θ0 := [(0, 0, 0), (1, 1, 0), (2, 2, 0), (3, 3, 0)]) (pX7_isOn kn) (by decide +kernel)
def xX7_isOn : List eX := [xX7_isOn_0]
theorem con_X7_isOn (kn : sKn) : Cons ZZ dX7_isOn (fX7_isOn kn) xX7_isOn := Cons_c (con_X7_isOn_0 kn) Cons_n
def xX12_begin_e0 : eX := ([(2, 0, 213), (0, 1, 0)], [], [(1, .inl (400, 400))], 2, [([], [], [(((0, 213), 0, 10, 0), (0, 0, 0)), (((0, 213), 0, 4, 0), (0, 0, 400)), (((0, 213), 0, 2, 0), (0, 0, 0)), (((0, 213), 0, 0, 0), (0, 0, 0))], [], 2)])
set_option maxRecDepth 100000 in
theorem con_X12_begin_e0 (kn : sKn) : Con ZZ dX12_begin (fW (tX12_begin kn) 2) xX12_begin_e0 := chk_ok (n := 2000) (cuts := []) (θ0 := [(0, 0, 0), (1, 1, 0)]) (pX12_begin kn) (by decide +kernel)
def xX12_beginW : List eX := [xX12_begin_0, xX12_begin_1, xX12_begin_2, xX12_begin_e0]
theorem con_X12_beginW (kn : sKn) : Cons ZZ dX12_begin (fX12_begin kn) xX12_beginW := Cons_c (con_X12_begin_0 kn) (Cons_c (con_X12_begin_1 kn) (Cons_c (con_X12_begin_2 kn) (Cons_c (con_X12_begin_e0 kn) Cons_n)))
end
