noncomputable section
def dX12_layWhose : List (Nat × Nat) := [(61, 28), (72, 999)]
def uX12_layWhose : List (Nat × tA) := [(0, t_int 0 1), (1, t_istore 1 2), (2, t_load 0 1 3), (3, t_int 36 5), (5, t_icmp n2_ge n2_lt 29 8), (8, t_load 2 0 9), (9, t_gf ZZ 13 27 12), (12, t_load 0 1 13), (13, t_load 2 0 14), (14, t_gf ZZ 13 14 17), (17, t_int 118 19), (19, t_load 0 1 20), (20, t_bin o_add 21), (21, t_iald ZZ 22), (22, t_ast ZZ dX12_layWhose 1 ctI 23), (23, t_iinc 1 1 26), (26, t_goto 2), (29, t_load 2 0 30), (30, t_load 2 0 31), (31, t_gf ZZ 13 14 34), (34, t_int 25 36), (36, t_iald ZZ 37), (37, t_put ZZ dX12_layWhose 13 28 ctI 40), (40, t_vret)]
set_option maxRecDepth 100000 in
theorem pX12_layWhose (kn : sKn) : pOk ZZ dX12_layWhose (tX12_layWhose kn) uX12_layWhose := pOk_c (tr_int rfl) (pOk_c tr_istore (pOk_c tr_iload (pOk_c (tr_int rfl) (pOk_c (tr_icmp cm2_ge) (pOk_c tr_aload (pOk_c tr_get (pOk_c tr_iload (pOk_c tr_aload (pOk_c tr_get (pOk_c (tr_int rfl) (pOk_c tr_iload (pOk_c (tr_bin op_add) (pOk_c tr_iald (pOk_c (tr_ast as_i) (pOk_c (tr_iinc rfl) (pOk_c tr_goto (pOk_c tr_aload (pOk_c tr_aload (pOk_c tr_get (pOk_c (tr_int rfl) (pOk_c tr_iald (pOk_c (tr_put ck_I) (pOk_c tr_vret pOk_n)))))))))))))))))))))))
def xX12_layWhose_0 : eX := ([(2, 0, 213)], [], [], 1, [([], [], [], [], 1)])
set_option maxRecDepth 100000 in
theorem con_X12_layWhose_0 (kn : sKn) : Con ZZ dX12_layWhose (fW (tX12_layWhose kn) 2) xX12_layWhose_0 := chk_ok (n := 2000) (cuts := [(2, [(([(0, (2, 0, 213)), (1, (0, 1, 0))], [], [], [(1, .inl (0, 36))], 2), [(0, 0, 99998), (1, 1, 36)])])]) (θ0 := [(0, 0, 0)]) (pX12_layWhose kn) (by decide +kernel)
def xX12_layWhose : List eX := [xX12_layWhose_0]
theorem con_X12_layWhose (kn : sKn) : Cons ZZ dX12_layWhose (fX12_layWhose kn) xX12_layWhose := Cons_c (con_X12_layWhose_0 kn) Cons_n
def dX12_has : List (Nat × Nat) := []
def uX12_has : List (Nat × tA) := [(0, t_load 0 0 1), (1, t_load 0 1 2), (2, t_bin (o_c2 (fun x y => x >>> (y &&& 31)) e_shr) 3), (3, t_int 1 4), (4, t_bin (o_c2 (fun x y => x &&& y) e_and) 5), (5, t_int 1 6), (6, t_icmp n2_ne n2_eq 13 9), (9, t_int 1 10), (10, t_goto 14), (13, t_int 0 14), (14, t_zret)]
set_option maxRecDepth 100000 in
theorem pX12_has (kn : sKn) : pOk ZZ dX12_has (tX12_has kn) uX12_has := pOk_c tr_iload (pOk_c tr_iload (pOk_c (tr_bin op_shr) (pOk_c (tr_int rfl) (pOk_c (tr_bin op_and) (pOk_c (tr_int rfl) (pOk_c (tr_icmp cm2_ne) (pOk_c (tr_int rfl) (pOk_c tr_goto (pOk_c (tr_int rfl) (pOk_c tr_zret pOk_n))))))))))
def xX12_has_0 : eX := ([(0, 1, 0), (0, 2, 0)], [], [(2, fullI), (1, fullI)], 3, [([], [(0, 0, 1)], [], [], 3), ([], [(0, 0, 0)], [], [], 3)])
set_option maxRecDepth 100000 in
theorem con_X12_has_0 (kn : sKn) : Con ZZ dX12_has (fW (tX12_has kn) 2) xX12_has_0 := chk_ok (n := 2000) (cuts := []) (θ0 := [(0, 0, 0), (1, 1, 0), (2, 2, 0)]) (pX12_has kn) (by decide +kernel)
def xX12_has : List eX := [xX12_has_0]
theorem con_X12_has (kn : sKn) : Cons ZZ dX12_has (fX12_has kn) xX12_has := Cons_c (con_X12_has_0 kn) Cons_n
def dX12_size : List (Nat × Nat) := []
def uX12_size : List (Nat × tA) := [(0, t_load 0 0 1), (1, t_if n2_ge n2_lt 9 4), (4, t_load 0 0 5), (5, t_un 0 0 o_neg 6), (6, t_goto 10), (9, t_load 0 0 10), (10, t_iret)]
set_option maxRecDepth 100000 in
theorem pX12_size (kn : sKn) : pOk ZZ dX12_size (tX12_size kn) uX12_size := pOk_c tr_iload (pOk_c (tr_if cm2_ge) (pOk_c tr_iload (pOk_c (tr_un un_neg) (pOk_c tr_goto (pOk_c tr_iload (pOk_c tr_iret pOk_n))))))
def xX12_size_0 : eX := ([(0, 1, 0)], [], [(1, fullI)], 2, [([], [(0, 2, 0)], [], [(2, fullI)], 3)])
set_option maxRecDepth 100000 in
theorem con_X12_size_0 (kn : sKn) : Con ZZ dX12_size (fW (tX12_size kn) 1) xX12_size_0 := chk_ok (n := 2000) (cuts := []) (θ0 := [(0, 0, 0), (1, 1, 0)]) (pX12_size kn) (by decide +kernel)
def xX12_size : List eX := [xX12_size_0]
theorem con_X12_size (kn : sKn) : Cons ZZ dX12_size (fX12_size kn) xX12_size := Cons_c (con_X12_size_0 kn) Cons_n
def dX12_follows : List (Nat × Nat) := []
def uX12_follows : List (Nat × tA) := [(0, t_load 0 0 1), (1, t_int 3 2), (2, t_icmp n2_ne n2_eq 18 5), (5, t_load 0 1 6), (6, t_int 3 7), (7, t_icmp n2_eq n2_ne 14 10), (10, t_int 1 11), (11, t_goto 38), (14, t_int 0 15), (15, t_goto 38), (18, t_load 0 1 19), (19, t_int 3 20), (20, t_icmp n2_eq n2_ne 33 23), (23, t_load 0 0 24), (24, t_load 0 1 25), (25, t_bin o_sub2 26), (26, t_callS ZZ dX12_size false xX12_size 1 29), (29, t_int 1 30), (30, t_icmp n2_gt n2_le 37 33), (33, t_int 1 34), (34, t_goto 38), (37, t_int 0 38), (38, t_zret)]
set_option maxRecDepth 100000 in
theorem pX12_follows (kn : sKn) : pOk ZZ dX12_follows (tX12_follows kn) uX12_follows := pOk_c tr_iload (pOk_c (tr_int rfl) (pOk_c (tr_icmp cm2_ne) (pOk_c tr_iload (pOk_c (tr_int rfl) (pOk_c (tr_icmp cm2_eq) (pOk_c (tr_int rfl) (pOk_c tr_goto (pOk_c (tr_int rfl) (pOk_c tr_goto (pOk_c tr_iload (pOk_c (tr_int rfl) (pOk_c (tr_icmp cm2_eq) (pOk_c tr_iload (pOk_c tr_iload (pOk_c (tr_bin op_sub2) (pOk_c (tr_callS (con_X12_size kn) (by decide +kernel)) (pOk_c (tr_int rfl) (pOk_c (tr_icmp cm2_gt) (pOk_c (tr_int rfl) (pOk_c tr_goto (pOk_c (tr_int rfl) (pOk_c tr_zret pOk_n))))))))))))))))))))))
def xX12_follows_0 : eX := ([(0, 1, 0), (0, 2, 0)], [], [(2, fullI), (1, fullI)], 3, [([], [(0, 0, 1)], [], [], 3), ([], [(0, 0, 0)], [], [], 3)])
set_option maxRecDepth 100000 in
theorem con_X12_follows_0 (kn : sKn) : Con ZZ dX12_follows (fW (tX12_follows kn) 2) xX12_follows_0 := chk_ok (n := 2000) (cuts := []) (θ0 := [(0, 0, 0), (1, 1, 0), (2, 2, 0)]) (pX12_follows kn) (by decide +kernel)
def xX12_follows : List eX := [xX12_follows_0]
theorem con_X12_follows (kn : sKn) : Cons ZZ dX12_follows (fX12_follows kn) xX12_follows := Cons_c (con_X12_follows_0 kn) Cons_n
def dX12_least : List (Nat × Nat) := []
def uX12_least : List (Nat × tA) := [(0, t_load 0 0 1), (1, t_load 0 1 2), (2, t_icmp n2_ge n2_lt 9 5), (5, t_load 0 0 6), (6, t_goto 10), (9, t_load 0 1 10), (10, t_iret)]
set_option maxRecDepth 100000 in
theorem pX12_least (kn : sKn) : pOk ZZ dX12_least (tX12_least kn) uX12_least := pOk_c tr_iload (pOk_c tr_iload (pOk_c (tr_icmp cm2_ge) (pOk_c tr_iload (pOk_c tr_goto (pOk_c tr_iload (pOk_c tr_iret pOk_n))))))
def xX12_least_0 : eX := ([(0, 1, 0), (0, 2, 0)], [], [(2, fullI), (1, fullI)], 3, [([], [(0, 3, 0)], [], [(3, fullI)], 4)])
set_option maxRecDepth 100000 in
theorem con_X12_least_0 (kn : sKn) : Con ZZ dX12_least (fW (tX12_least kn) 2) xX12_least_0 := chk_ok (n := 2000) (cuts := []) (θ0 := [(0, 0, 0), (1, 1, 0), (2, 2, 0)]) (pX12_least kn) (by decide +kernel)
def xX12_least : List eX := [xX12_least_0]
theorem con_X12_least (kn : sKn) : Cons ZZ dX12_least (fX12_least kn) xX12_least := Cons_c (con_X12_least_0 kn) Cons_n
def dX12_besides : List (Nat × Nat) := []
def uX12_besides : List (Nat × tA) := [(0, t_load 2 0 1), (1, t_gf ZZ 13 27 4), (4, t_load 0 2 5), (5, t_iald ZZ 6), (6, t_int (-1) 7), (7, t_icmp n2_eq n2_ne 40 10), (10, t_load 2 0 11), (11, t_gf ZZ 13 14 14), (14, t_int 36 16), (16, t_load 2 0 17), (17, t_gf ZZ 13 27 20), (20, t_load 0 1 21), (21, t_iald ZZ 22), (22, t_bin o_add 23), (23, t_iald ZZ 24), (24, t_load 2 0 25), (25, t_gf ZZ 13 27 28), (28, t_load 0 2 29), (29, t_iald ZZ 30), (30, t_callS ZZ dX12_has false xX12_has 2 33), (33, t_if n2_eq n2_ne 40 36), (36, t_int 5 37), (37, t_goto 41), (40, t_int 0 41), (41, t_iret)]
set_option maxRecDepth 100000 in
theorem pX12_besides (kn : sKn) : pOk ZZ dX12_besides (tX12_besides kn) uX12_besides := pOk_c tr_aload (pOk_c tr_get (pOk_c tr_iload (pOk_c tr_iald (pOk_c (tr_int rfl) (pOk_c (tr_icmp cm2_eq) (pOk_c tr_aload (pOk_c tr_get (pOk_c (tr_int rfl) (pOk_c tr_aload (pOk_c tr_get (pOk_c tr_iload (pOk_c tr_iald (pOk_c (tr_bin op_add) (pOk_c tr_iald (pOk_c tr_aload (pOk_c tr_get (pOk_c tr_iload (pOk_c tr_iald (pOk_c (tr_callS (con_X12_has kn) (by decide +kernel)) (pOk_c (tr_if cm2_eq) (pOk_c (tr_int rfl) (pOk_c tr_goto (pOk_c (tr_int rfl) (pOk_c tr_iret pOk_n))))))))))))))))))))))))
def xX12_besides_0 : eX := ([(2, 0, 213), (0, 1, 0), (0, 2, 0)], [], [(2, .inl (34, 34)), (1, .inl (35, 35))], 3, [([], [(0, 0, 0)], [], [], 3), ([], [(0, 0, 5)], [], [], 3)])
set_option maxRecDepth 100000 in
theorem con_X12_besides_0 (kn : sKn) : Con ZZ dX12_besides (fW (tX12_besides kn) 3) xX12_besides_0 := chk_ok (n := 2000) (cuts := []) (θ0 := [(0, 0, 0), (1, 1, 0), (2, 2, 0)]) (pX12_besides kn) (by decide +kernel)
def xX12_besides_1 : eX := ([(2, 0, 213), (0, 1, 0), (0, 2, 0)], [], [(2, .inl (33, 33)), (1, .inl (34, 34))], 3, [([], [(0, 0, 0)], [], [], 3), ([], [(0, 0, 5)], [], [], 3)])
set_option maxRecDepth 100000 in
theorem con_X12_besides_1 (kn : sKn) : Con ZZ dX12_besides (fW (tX12_besides kn) 3) xX12_besides_1 := chk_ok (n := 2000) (cuts := []) (θ0 := [(0, 0, 0), (1, 1, 0), (2, 2, 0)]) (pX12_besides kn) (by decide +kernel)
def xX12_besides_2 : eX := ([(2, 0, 213), (0, 1, 0), (0, 2, 0)], [], [(2, .inl (35, 35)), (1, .inl (34, 34))], 3, [([], [(0, 0, 0)], [], [], 3), ([], [(0, 0, 5)], [], [], 3)])
set_option maxRecDepth 100000 in
theorem con_X12_besides_2 (kn : sKn) : Con ZZ dX12_besides (fW (tX12_besides kn) 3) xX12_besides_2 := chk_ok (n := 2000) (cuts := []) (θ0 := [(0, 0, 0), (1, 1, 0), (2, 2, 0)]) (pX12_besides kn) (by decide +kernel)
def xX12_besides_3 : eX := ([(2, 0, 213), (0, 1, 0), (0, 2, 0)], [], [(2, .inl (34, 34)), (1, .inl (33, 33))], 3, [([], [(0, 0, 0)], [], [], 3), ([], [(0, 0, 5)], [], [], 3)])
set_option maxRecDepth 100000 in
theorem con_X12_besides_3 (kn : sKn) : Con ZZ dX12_besides (fW (tX12_besides kn) 3) xX12_besides_3 := chk_ok (n := 2000) (cuts := []) (θ0 := [(0, 0, 0), (1, 1, 0), (2, 2, 0)]) (pX12_besides kn) (by decide +kernel)
def xX12_besides_4 : eX := ([(2, 0, 213), (0, 1, 0), (0, 2, 0)], [], [(2, .inl (31, 31)), (1, .inl (32, 32))], 3, [([], [(0, 0, 0)], [], [], 3), ([], [(0, 0, 5)], [], [], 3)])
set_option maxRecDepth 100000 in
theorem con_X12_besides_4 (kn : sKn) : Con ZZ dX12_besides (fW (tX12_besides kn) 3) xX12_besides_4 := chk_ok (n := 2000) (cuts := []) (θ0 := [(0, 0, 0), (1, 1, 0), (2, 2, 0)]) (pX12_besides kn) (by decide +kernel)
def xX12_besides_5 : eX := ([(2, 0, 213), (0, 1, 0), (0, 2, 0)], [], [(2, .inl (30, 30)), (1, .inl (31, 31))], 3, [([], [(0, 0, 0)], [], [], 3), ([], [(0, 0, 5)], [], [], 3)])
set_option maxRecDepth 100000 in
theorem con_X12_besides_5 (kn : sKn) : Con ZZ dX12_besides (fW (tX12_besides kn) 3) xX12_besides_5 := chk_ok (n := 2000) (cuts := []) (θ0 := [(0, 0, 0), (1, 1, 0), (2, 2, 0)]) (pX12_besides kn) (by decide +kernel)
def xX12_besides_6 : eX := ([(2, 0, 213), (0, 1, 0), (0, 2, 0)], [], [(2, .inl (32, 32)), (1, .inl (31, 31))], 3, [([], [(0, 0, 0)], [], [], 3), ([], [(0, 0, 5)], [], [], 3)])
set_option maxRecDepth 100000 in
theorem con_X12_besides_6 (kn : sKn) : Con ZZ dX12_besides (fW (tX12_besides kn) 3) xX12_besides_6 := chk_ok (n := 2000) (cuts := []) (θ0 := [(0, 0, 0), (1, 1, 0), (2, 2, 0)]) (pX12_besides kn) (by decide +kernel)
def xX12_besides_7 : eX := ([(2, 0, 213), (0, 1, 0), (0, 2, 0)], [], [(2, .inl (31, 31)), (1, .inl (30, 30))], 3, [([], [(0, 0, 0)], [], [], 3), ([], [(0, 0, 5)], [], [], 3)])
set_option maxRecDepth 100000 in
theorem con_X12_besides_7 (kn : sKn) : Con ZZ dX12_besides (fW (tX12_besides kn) 3) xX12_besides_7 := chk_ok (n := 2000) (cuts := []) (θ0 := [(0, 0, 0), (1, 1, 0), (2, 2, 0)]) (pX12_besides kn) (by decide +kernel)
def xX12_besides_8 : eX := ([(2, 0, 213), (0, 1, 0), (0, 2, 0)], [], [(2, .inl (28, 28)), (1, .inl (29, 29))], 3, [([], [(0, 0, 0)], [], [], 3), ([], [(0, 0, 5)], [], [], 3)])
set_option maxRecDepth 100000 in
theorem con_X12_besides_8 (kn : sKn) : Con ZZ dX12_besides (fW (tX12_besides kn) 3) xX12_besides_8 := chk_ok (n := 2000) (cuts := []) (θ0 := [(0, 0, 0), (1, 1, 0), (2, 2, 0)]) (pX12_besides kn) (by decide +kernel)
def xX12_besides_9 : eX := ([(2, 0, 213), (0, 1, 0), (0, 2, 0)], [], [(2, .inl (27, 27)), (1, .inl (28, 28))], 3, [([], [(0, 0, 0)], [], [], 3), ([], [(0, 0, 5)], [], [], 3)])
set_option maxRecDepth 100000 in
theorem con_X12_besides_9 (kn : sKn) : Con ZZ dX12_besides (fW (tX12_besides kn) 3) xX12_besides_9 := chk_ok (n := 2000) (cuts := []) (θ0 := [(0, 0, 0), (1, 1, 0), (2, 2, 0)]) (pX12_besides kn) (by decide +kernel)
def xX12_besides_10 : eX := ([(2, 0, 213), (0, 1, 0), (0, 2, 0)], [], [(2, .inl (29, 29)), (1, .inl (28, 28))], 3, [([], [(0, 0, 0)], [], [], 3), ([], [(0, 0, 5)], [], [], 3)])
set_option maxRecDepth 100000 in
theorem con_X12_besides_10 (kn : sKn) : Con ZZ dX12_besides (fW (tX12_besides kn) 3) xX12_besides_10 := chk_ok (n := 2000) (cuts := []) (θ0 := [(0, 0, 0), (1, 1, 0), (2, 2, 0)]) (pX12_besides kn) (by decide +kernel)
def xX12_besides_11 : eX := ([(2, 0, 213), (0, 1, 0), (0, 2, 0)], [], [(2, .inl (28, 28)), (1, .inl (27, 27))], 3, [([], [(0, 0, 0)], [], [], 3), ([], [(0, 0, 5)], [], [], 3)])
set_option maxRecDepth 100000 in
theorem con_X12_besides_11 (kn : sKn) : Con ZZ dX12_besides (fW (tX12_besides kn) 3) xX12_besides_11 := chk_ok (n := 2000) (cuts := []) (θ0 := [(0, 0, 0), (1, 1, 0), (2, 2, 0)]) (pX12_besides kn) (by decide +kernel)
def xX12_besides_12 : eX := ([(2, 0, 213), (0, 1, 0), (0, 2, 0)], [], [(2, .inl (25, 25)), (1, .inl (26, 26))], 3, [([], [(0, 0, 0)], [], [], 3), ([], [(0, 0, 5)], [], [], 3)])
set_option maxRecDepth 100000 in
theorem con_X12_besides_12 (kn : sKn) : Con ZZ dX12_besides (fW (tX12_besides kn) 3) xX12_besides_12 := chk_ok (n := 2000) (cuts := []) (θ0 := [(0, 0, 0), (1, 1, 0), (2, 2, 0)]) (pX12_besides kn) (by decide +kernel)
def xX12_besides_13 : eX := ([(2, 0, 213), (0, 1, 0), (0, 2, 0)], [], [(2, .inl (24, 24)), (1, .inl (25, 25))], 3, [([], [(0, 0, 0)], [], [], 3), ([], [(0, 0, 5)], [], [], 3)])
set_option maxRecDepth 100000 in
theorem con_X12_besides_13 (kn : sKn) : Con ZZ dX12_besides (fW (tX12_besides kn) 3) xX12_besides_13 := chk_ok (n := 2000) (cuts := []) (θ0 := [(0, 0, 0), (1, 1, 0), (2, 2, 0)]) (pX12_besides kn) (by decide +kernel)
def xX12_besides_14 : eX := ([(2, 0, 213), (0, 1, 0), (0, 2, 0)], [], [(2, .inl (26, 26)), (1, .inl (25, 25))], 3, [([], [(0, 0, 0)], [], [], 3), ([], [(0, 0, 5)], [], [], 3)])
set_option maxRecDepth 100000 in
theorem con_X12_besides_14 (kn : sKn) : Con ZZ dX12_besides (fW (tX12_besides kn) 3) xX12_besides_14 := chk_ok (n := 2000) (cuts := []) (θ0 := [(0, 0, 0), (1, 1, 0), (2, 2, 0)]) (pX12_besides kn) (by decide +kernel)
def xX12_besides_15 : eX := ([(2, 0, 213), (0, 1, 0), (0, 2, 0)], [], [(2, .inl (25, 25)), (1, .inl (24, 24))], 3, [([], [(0, 0, 0)], [], [], 3), ([], [(0, 0, 5)], [], [], 3)])
set_option maxRecDepth 100000 in
theorem con_X12_besides_15 (kn : sKn) : Con ZZ dX12_besides (fW (tX12_besides kn) 3) xX12_besides_15 := chk_ok (n := 2000) (cuts := []) (θ0 := [(0, 0, 0), (1, 1, 0), (2, 2, 0)]) (pX12_besides kn) (by decide +kernel)
def xX12_besides_16 : eX := ([(2, 0, 213), (0, 1, 0), (0, 2, 0)], [], [(2, .inl (22, 22)), (1, .inl (23, 23))], 3, [([], [(0, 0, 0)], [], [], 3), ([], [(0, 0, 5)], [], [], 3)])
set_option maxRecDepth 100000 in
theorem con_X12_besides_16 (kn : sKn) : Con ZZ dX12_besides (fW (tX12_besides kn) 3) xX12_besides_16 := chk_ok (n := 2000) (cuts := []) (θ0 := [(0, 0, 0), (1, 1, 0), (2, 2, 0)]) (pX12_besides kn) (by decide +kernel)
def xX12_besides_17 : eX := ([(2, 0, 213), (0, 1, 0), (0, 2, 0)], [], [(2, .inl (21, 21)), (1, .inl (22, 22))], 3, [([], [(0, 0, 0)], [], [], 3), ([], [(0, 0, 5)], [], [], 3)])
set_option maxRecDepth 100000 in
theorem con_X12_besides_17 (kn : sKn) : Con ZZ dX12_besides (fW (tX12_besides kn) 3) xX12_besides_17 := chk_ok (n := 2000) (cuts := []) (θ0 := [(0, 0, 0), (1, 1, 0), (2, 2, 0)]) (pX12_besides kn) (by decide +kernel)
def xX12_besides_18 : eX := ([(2, 0, 213), (0, 1, 0), (0, 2, 0)], [], [(2, .inl (23, 23)), (1, .inl (22, 22))], 3, [([], [(0, 0, 0)], [], [], 3), ([], [(0, 0, 5)], [], [], 3)])
set_option maxRecDepth 100000 in
theorem con_X12_besides_18 (kn : sKn) : Con ZZ dX12_besides (fW (tX12_besides kn) 3) xX12_besides_18 := chk_ok (n := 2000) (cuts := []) (θ0 := [(0, 0, 0), (1, 1, 0), (2, 2, 0)]) (pX12_besides kn) (by decide +kernel)
def xX12_besides_19 : eX := ([(2, 0, 213), (0, 1, 0), (0, 2, 0)], [], [(2, .inl (22, 22)), (1, .inl (21, 21))], 3, [([], [(0, 0, 0)], [], [], 3), ([], [(0, 0, 5)], [], [], 3)])
set_option maxRecDepth 100000 in
theorem con_X12_besides_19 (kn : sKn) : Con ZZ dX12_besides (fW (tX12_besides kn) 3) xX12_besides_19 := chk_ok (n := 2000) (cuts := []) (θ0 := [(0, 0, 0), (1, 1, 0), (2, 2, 0)]) (pX12_besides kn) (by decide +kernel)
def xX12_besides_20 : eX := ([(2, 0, 213), (0, 1, 0), (0, 2, 0)], [], [(2, .inl (19, 19)), (1, .inl (20, 20))], 3, [([], [(0, 0, 0)], [], [], 3), ([], [(0, 0, 5)], [], [], 3)])
set_option maxRecDepth 100000 in
theorem con_X12_besides_20 (kn : sKn) : Con ZZ dX12_besides (fW (tX12_besides kn) 3) xX12_besides_20 := chk_ok (n := 2000) (cuts := []) (θ0 := [(0, 0, 0), (1, 1, 0), (2, 2, 0)]) (pX12_besides kn) (by decide +kernel)
def xX12_besides_21 : eX := ([(2, 0, 213), (0, 1, 0), (0, 2, 0)], [], [(2, .inl (18, 18)), (1, .inl (19, 19))], 3, [([], [(0, 0, 0)], [], [], 3), ([], [(0, 0, 5)], [], [], 3)])
set_option maxRecDepth 100000 in
theorem con_X12_besides_21 (kn : sKn) : Con ZZ dX12_besides (fW (tX12_besides kn) 3) xX12_besides_21 := chk_ok (n := 2000) (cuts := []) (θ0 := [(0, 0, 0), (1, 1, 0), (2, 2, 0)]) (pX12_besides kn) (by decide +kernel)
def xX12_besides_22 : eX := ([(2, 0, 213), (0, 1, 0), (0, 2, 0)], [], [(2, .inl (20, 20)), (1, .inl (19, 19))], 3, [([], [(0, 0, 0)], [], [], 3), ([], [(0, 0, 5)], [], [], 3)])
set_option maxRecDepth 100000 in
theorem con_X12_besides_22 (kn : sKn) : Con ZZ dX12_besides (fW (tX12_besides kn) 3) xX12_besides_22 := chk_ok (n := 2000) (cuts := []) (θ0 := [(0, 0, 0), (1, 1, 0), (2, 2, 0)]) (pX12_besides kn) (by decide +kernel)
def xX12_besides_23 : eX := ([(2, 0, 213), (0, 1, 0), (0, 2, 0)], [], [(2, .inl (19, 19)), (1, .inl (18, 18))], 3, [([], [(0, 0, 0)], [], [], 3), ([], [(0, 0, 5)], [], [], 3)])
set_option maxRecDepth 100000 in
theorem con_X12_besides_23 (kn : sKn) : Con ZZ dX12_besides (fW (tX12_besides kn) 3) xX12_besides_23 := chk_ok (n := 2000) (cuts := []) (θ0 := [(0, 0, 0), (1, 1, 0), (2, 2, 0)]) (pX12_besides kn) (by decide +kernel)
def xX12_besides_24 : eX := ([(2, 0, 213), (0, 1, 0), (0, 2, 0)], [], [(2, .inl (16, 16)), (1, .inl (17, 17))], 3, [([], [(0, 0, 0)], [], [], 3), ([], [(0, 0, 5)], [], [], 3)])
set_option maxRecDepth 100000 in
theorem con_X12_besides_24 (kn : sKn) : Con ZZ dX12_besides (fW (tX12_besides kn) 3) xX12_besides_24 := chk_ok (n := 2000) (cuts := []) (θ0 := [(0, 0, 0), (1, 1, 0), (2, 2, 0)]) (pX12_besides kn) (by decide +kernel)
def xX12_besides_25 : eX := ([(2, 0, 213), (0, 1, 0), (0, 2, 0)], [], [(2, .inl (15, 15)), (1, .inl (16, 16))], 3, [([], [(0, 0, 0)], [], [], 3), ([], [(0, 0, 5)], [], [], 3)])
set_option maxRecDepth 100000 in
theorem con_X12_besides_25 (kn : sKn) : Con ZZ dX12_besides (fW (tX12_besides kn) 3) xX12_besides_25 := chk_ok (n := 2000) (cuts := []) (θ0 := [(0, 0, 0), (1, 1, 0), (2, 2, 0)]) (pX12_besides kn) (by decide +kernel)
def xX12_besides_26 : eX := ([(2, 0, 213), (0, 1, 0), (0, 2, 0)], [], [(2, .inl (17, 17)), (1, .inl (16, 16))], 3, [([], [(0, 0, 0)], [], [], 3), ([], [(0, 0, 5)], [], [], 3)])
set_option maxRecDepth 100000 in
theorem con_X12_besides_26 (kn : sKn) : Con ZZ dX12_besides (fW (tX12_besides kn) 3) xX12_besides_26 := chk_ok (n := 2000) (cuts := []) (θ0 := [(0, 0, 0), (1, 1, 0), (2, 2, 0)]) (pX12_besides kn) (by decide +kernel)
def xX12_besides_27 : eX := ([(2, 0, 213), (0, 1, 0), (0, 2, 0)], [], [(2, .inl (16, 16)), (1, .inl (15, 15))], 3, [([], [(0, 0, 0)], [], [], 3), ([], [(0, 0, 5)], [], [], 3)])
set_option maxRecDepth 100000 in
theorem con_X12_besides_27 (kn : sKn) : Con ZZ dX12_besides (fW (tX12_besides kn) 3) xX12_besides_27 := chk_ok (n := 2000) (cuts := []) (θ0 := [(0, 0, 0), (1, 1, 0), (2, 2, 0)]) (pX12_besides kn) (by decide +kernel)
def xX12_besides_28 : eX := ([(2, 0, 213), (0, 1, 0), (0, 2, 0)], [], [(2, .inl (13, 13)), (1, .inl (14, 14))], 3, [([], [(0, 0, 0)], [], [], 3), ([], [(0, 0, 5)], [], [], 3)])
set_option maxRecDepth 100000 in
theorem con_X12_besides_28 (kn : sKn) : Con ZZ dX12_besides (fW (tX12_besides kn) 3) xX12_besides_28 := chk_ok (n := 2000) (cuts := []) (θ0 := [(0, 0, 0), (1, 1, 0), (2, 2, 0)]) (pX12_besides kn) (by decide +kernel)
def xX12_besides_29 : eX := ([(2, 0, 213), (0, 1, 0), (0, 2, 0)], [], [(2, .inl (12, 12)), (1, .inl (13, 13))], 3, [([], [(0, 0, 0)], [], [], 3), ([], [(0, 0, 5)], [], [], 3)])
set_option maxRecDepth 100000 in
theorem con_X12_besides_29 (kn : sKn) : Con ZZ dX12_besides (fW (tX12_besides kn) 3) xX12_besides_29 := chk_ok (n := 2000) (cuts := []) (θ0 := [(0, 0, 0), (1, 1, 0), (2, 2, 0)]) (pX12_besides kn) (by decide +kernel)
def xX12_besides_30 : eX := ([(2, 0, 213), (0, 1, 0), (0, 2, 0)], [], [(2, .inl (14, 14)), (1, .inl (13, 13))], 3, [([], [(0, 0, 0)], [], [], 3), ([], [(0, 0, 5)], [], [], 3)])
set_option maxRecDepth 100000 in
theorem con_X12_besides_30 (kn : sKn) : Con ZZ dX12_besides (fW (tX12_besides kn) 3) xX12_besides_30 := chk_ok (n := 2000) (cuts := []) (θ0 := [(0, 0, 0), (1, 1, 0), (2, 2, 0)]) (pX12_besides kn) (by decide +kernel)
def xX12_besides_31 : eX := ([(2, 0, 213), (0, 1, 0), (0, 2, 0)], [], [(2, .inl (13, 13)), (1, .inl (12, 12))], 3, [([], [(0, 0, 0)], [], [], 3), ([], [(0, 0, 5)], [], [], 3)])
set_option maxRecDepth 100000 in
theorem con_X12_besides_31 (kn : sKn) : Con ZZ dX12_besides (fW (tX12_besides kn) 3) xX12_besides_31 := chk_ok (n := 2000) (cuts := []) (θ0 := [(0, 0, 0), (1, 1, 0), (2, 2, 0)]) (pX12_besides kn) (by decide +kernel)
def xX12_besides_32 : eX := ([(2, 0, 213), (0, 1, 0), (0, 2, 0)], [], [(2, .inl (10, 10)), (1, .inl (11, 11))], 3, [([], [(0, 0, 0)], [], [], 3), ([], [(0, 0, 5)], [], [], 3)])
set_option maxRecDepth 100000 in
theorem con_X12_besides_32 (kn : sKn) : Con ZZ dX12_besides (fW (tX12_besides kn) 3) xX12_besides_32 := chk_ok (n := 2000) (cuts := []) (θ0 := [(0, 0, 0), (1, 1, 0), (2, 2, 0)]) (pX12_besides kn) (by decide +kernel)
def xX12_besides_33 : eX := ([(2, 0, 213), (0, 1, 0), (0, 2, 0)], [], [(2, .inl (9, 9)), (1, .inl (10, 10))], 3, [([], [(0, 0, 0)], [], [], 3), ([], [(0, 0, 5)], [], [], 3)])
set_option maxRecDepth 100000 in
theorem con_X12_besides_33 (kn : sKn) : Con ZZ dX12_besides (fW (tX12_besides kn) 3) xX12_besides_33 := chk_ok (n := 2000) (cuts := []) (θ0 := [(0, 0, 0), (1, 1, 0), (2, 2, 0)]) (pX12_besides kn) (by decide +kernel)
def xX12_besides_34 : eX := ([(2, 0, 213), (0, 1, 0), (0, 2, 0)], [], [(2, .inl (11, 11)), (1, .inl (10, 10))], 3, [([], [(0, 0, 0)], [], [], 3), ([], [(0, 0, 5)], [], [], 3)])
set_option maxRecDepth 100000 in
theorem con_X12_besides_34 (kn : sKn) : Con ZZ dX12_besides (fW (tX12_besides kn) 3) xX12_besides_34 := chk_ok (n := 2000) (cuts := []) (θ0 := [(0, 0, 0), (1, 1, 0), (2, 2, 0)]) (pX12_besides kn) (by decide +kernel)
def xX12_besides_35 : eX := ([(2, 0, 213), (0, 1, 0), (0, 2, 0)], [], [(2, .inl (10, 10)), (1, .inl (9, 9))], 3, [([], [(0, 0, 0)], [], [], 3), ([], [(0, 0, 5)], [], [], 3)])
set_option maxRecDepth 100000 in
theorem con_X12_besides_35 (kn : sKn) : Con ZZ dX12_besides (fW (tX12_besides kn) 3) xX12_besides_35 := chk_ok (n := 2000) (cuts := []) (θ0 := [(0, 0, 0), (1, 1, 0), (2, 2, 0)]) (pX12_besides kn) (by decide +kernel)
def xX12_besides_36 : eX := ([(2, 0, 213), (0, 1, 0), (0, 2, 0)], [], [(2, .inl (7, 7)), (1, .inl (8, 8))], 3, [([], [(0, 0, 0)], [], [], 3), ([], [(0, 0, 5)], [], [], 3)])
set_option maxRecDepth 100000 in
theorem con_X12_besides_36 (kn : sKn) : Con ZZ dX12_besides (fW (tX12_besides kn) 3) xX12_besides_36 := chk_ok (n := 2000) (cuts := []) (θ0 := [(0, 0, 0), (1, 1, 0), (2, 2, 0)]) (pX12_besides kn) (by decide +kernel)
def xX12_besides_37 : eX := ([(2, 0, 213), (0, 1, 0), (0, 2, 0)], [], [(2, .inl (6, 6)), (1, .inl (7, 7))], 3, [([], [(0, 0, 0)], [], [], 3), ([], [(0, 0, 5)], [], [], 3)])
set_option maxRecDepth 100000 in
theorem con_X12_besides_37 (kn : sKn) : Con ZZ dX12_besides (fW (tX12_besides kn) 3) xX12_besides_37 := chk_ok (n := 2000) (cuts := []) (θ0 := [(0, 0, 0), (1, 1, 0), (2, 2, 0)]) (pX12_besides kn) (by decide +kernel)
def xX12_besides_38 : eX := ([(2, 0, 213), (0, 1, 0), (0, 2, 0)], [], [(2, .inl (8, 8)), (1, .inl (7, 7))], 3, [([], [(0, 0, 0)], [], [], 3), ([], [(0, 0, 5)], [], [], 3)])
set_option maxRecDepth 100000 in
theorem con_X12_besides_38 (kn : sKn) : Con ZZ dX12_besides (fW (tX12_besides kn) 3) xX12_besides_38 := chk_ok (n := 2000) (cuts := []) (θ0 := [(0, 0, 0), (1, 1, 0), (2, 2, 0)]) (pX12_besides kn) (by decide +kernel)
def xX12_besides_39 : eX := ([(2, 0, 213), (0, 1, 0), (0, 2, 0)], [], [(2, .inl (7, 7)), (1, .inl (6, 6))], 3, [([], [(0, 0, 0)], [], [], 3), ([], [(0, 0, 5)], [], [], 3)])
set_option maxRecDepth 100000 in
theorem con_X12_besides_39 (kn : sKn) : Con ZZ dX12_besides (fW (tX12_besides kn) 3) xX12_besides_39 := chk_ok (n := 2000) (cuts := []) (θ0 := [(0, 0, 0), (1, 1, 0), (2, 2, 0)]) (pX12_besides kn) (by decide +kernel)
def xX12_besides_40 : eX := ([(2, 0, 213), (0, 1, 0), (0, 2, 0)], [], [(2, .inl (4, 4)), (1, .inl (5, 5))], 3, [([], [(0, 0, 0)], [], [], 3), ([], [(0, 0, 5)], [], [], 3)])
set_option maxRecDepth 100000 in
theorem con_X12_besides_40 (kn : sKn) : Con ZZ dX12_besides (fW (tX12_besides kn) 3) xX12_besides_40 := chk_ok (n := 2000) (cuts := []) (θ0 := [(0, 0, 0), (1, 1, 0), (2, 2, 0)]) (pX12_besides kn) (by decide +kernel)
def xX12_besides_41 : eX := ([(2, 0, 213), (0, 1, 0), (0, 2, 0)], [], [(2, .inl (3, 3)), (1, .inl (4, 4))], 3, [([], [(0, 0, 0)], [], [], 3), ([], [(0, 0, 5)], [], [], 3)])
set_option maxRecDepth 100000 in
theorem con_X12_besides_41 (kn : sKn) : Con ZZ dX12_besides (fW (tX12_besides kn) 3) xX12_besides_41 := chk_ok (n := 2000) (cuts := []) (θ0 := [(0, 0, 0), (1, 1, 0), (2, 2, 0)]) (pX12_besides kn) (by decide +kernel)
def xX12_besides_42 : eX := ([(2, 0, 213), (0, 1, 0), (0, 2, 0)], [], [(2, .inl (5, 5)), (1, .inl (4, 4))], 3, [([], [(0, 0, 0)], [], [], 3), ([], [(0, 0, 5)], [], [], 3)])
set_option maxRecDepth 100000 in
theorem con_X12_besides_42 (kn : sKn) : Con ZZ dX12_besides (fW (tX12_besides kn) 3) xX12_besides_42 := chk_ok (n := 2000) (cuts := []) (θ0 := [(0, 0, 0), (1, 1, 0), (2, 2, 0)]) (pX12_besides kn) (by decide +kernel)
def xX12_besides_43 : eX := ([(2, 0, 213), (0, 1, 0), (0, 2, 0)], [], [(2, .inl (4, 4)), (1, .inl (3, 3))], 3, [([], [(0, 0, 0)], [], [], 3), ([], [(0, 0, 5)], [], [], 3)])
set_option maxRecDepth 100000 in
theorem con_X12_besides_43 (kn : sKn) : Con ZZ dX12_besides (fW (tX12_besides kn) 3) xX12_besides_43 := chk_ok (n := 2000) (cuts := []) (θ0 := [(0, 0, 0), (1, 1, 0), (2, 2, 0)]) (pX12_besides kn) (by decide +kernel)
def xX12_besides_44 : eX := ([(2, 0, 213), (0, 1, 0), (0, 2, 0)], [], [(2, .inl (1, 1)), (1, .inl (2, 2))], 3, [([], [(0, 0, 0)], [], [], 3), ([], [(0, 0, 5)], [], [], 3)])
set_option maxRecDepth 100000 in
theorem con_X12_besides_44 (kn : sKn) : Con ZZ dX12_besides (fW (tX12_besides kn) 3) xX12_besides_44 := chk_ok (n := 2000) (cuts := []) (θ0 := [(0, 0, 0), (1, 1, 0), (2, 2, 0)]) (pX12_besides kn) (by decide +kernel)
def xX12_besides_45 : eX := ([(2, 0, 213), (0, 1, 0), (0, 2, 0)], [], [(2, .inl (0, 0)), (1, .inl (1, 1))], 3, [([], [(0, 0, 0)], [], [], 3), ([], [(0, 0, 5)], [], [], 3)])
set_option maxRecDepth 100000 in
theorem con_X12_besides_45 (kn : sKn) : Con ZZ dX12_besides (fW (tX12_besides kn) 3) xX12_besides_45 := chk_ok (n := 2000) (cuts := []) (θ0 := [(0, 0, 0), (1, 1, 0), (2, 2, 0)]) (pX12_besides kn) (by decide +kernel)
def xX12_besides_46 : eX := ([(2, 0, 213), (0, 1, 0), (0, 2, 0)], [], [(2, .inl (2, 2)), (1, .inl (1, 1))], 3, [([], [(0, 0, 0)], [], [], 3), ([], [(0, 0, 5)], [], [], 3)])
set_option maxRecDepth 100000 in
theorem con_X12_besides_46 (kn : sKn) : Con ZZ dX12_besides (fW (tX12_besides kn) 3) xX12_besides_46 := chk_ok (n := 2000) (cuts := []) (θ0 := [(0, 0, 0), (1, 1, 0), (2, 2, 0)]) (pX12_besides kn) (by decide +kernel)
def xX12_besides_47 : eX := ([(2, 0, 213), (0, 1, 0), (0, 2, 0)], [], [(2, .inl (1, 1)), (1, .inl (0, 0))], 3, [([], [(0, 0, 0)], [], [], 3), ([], [(0, 0, 5)], [], [], 3)])
set_option maxRecDepth 100000 in
theorem con_X12_besides_47 (kn : sKn) : Con ZZ dX12_besides (fW (tX12_besides kn) 3) xX12_besides_47 := chk_ok (n := 2000) (cuts := []) (θ0 := [(0, 0, 0), (1, 1, 0), (2, 2, 0)]) (pX12_besides kn) (by decide +kernel)
def xX12_besides : List eX := [xX12_besides_0, xX12_besides_1, xX12_besides_2, xX12_besides_3, xX12_besides_4, xX12_besides_5, xX12_besides_6, xX12_besides_7, xX12_besides_8, xX12_besides_9, xX12_besides_10, xX12_besides_11, xX12_besides_12, xX12_besides_13, xX12_besides_14, xX12_besides_15, xX12_besides_16, xX12_besides_17, xX12_besides_18, xX12_besides_19, xX12_besides_20, xX12_besides_21, xX12_besides_22, xX12_besides_23, xX12_besides_24, xX12_besides_25, xX12_besides_26, xX12_besides_27, xX12_besides_28, xX12_besides_29, xX12_besides_30, xX12_besides_31, xX12_besides_32, xX12_besides_33, xX12_besides_34, xX12_besides_35, xX12_besides_36, xX12_besides_37, xX12_besides_38, xX12_besides_39, xX12_besides_40, xX12_besides_41, xX12_besides_42, xX12_besides_43, xX12_besides_44, xX12_besides_45, xX12_besides_46, xX12_besides_47]
theorem con_X12_besides (kn : sKn) : Cons ZZ dX12_besides (fX12_besides kn) xX12_besides := Cons_c (con_X12_besides_0 kn) (Cons_c (con_X12_besides_1 kn) (Cons_c (con_X12_besides_2 kn) (Cons_c (con_X12_besides_3 kn) (Cons_c (con_X12_besides_4 kn) (Cons_c (con_X12_besides_5 kn) (Cons_c (con_X12_besides_6 kn) (Cons_c (con_X12_besides_7 kn) (Cons_c (con_X12_besides_8 kn) (Cons_c (con_X12_besides_9 kn) (Cons_c (con_X12_besides_10 kn) (Cons_c (con_X12_besides_11 kn) (Cons_c (con_X12_besides_12 kn) (Cons_c (con_X12_besides_13 kn) (Cons_c (con_X12_besides_14 kn) (Cons_c (con_X12_besides_15 kn) (Cons_c (con_X12_besides_16 kn) (Cons_c (con_X12_besides_17 kn) (Cons_c (con_X12_besides_18 kn) (Cons_c (con_X12_besides_19 kn) (Cons_c (con_X12_besides_20 kn) (Cons_c (con_X12_besides_21 kn) (Cons_c (con_X12_besides_22 kn) (Cons_c (con_X12_besides_23 kn) (Cons_c (con_X12_besides_24 kn) (Cons_c (con_X12_besides_25 kn) (Cons_c (con_X12_besides_26 kn) (Cons_c (con_X12_besides_27 kn) (Cons_c (con_X12_besides_28 kn) (Cons_c (con_X12_besides_29 kn) (Cons_c (con_X12_besides_30 kn) (Cons_c (con_X12_besides_31 kn) (Cons_c (con_X12_besides_32 kn) (Cons_c (con_X12_besides_33 kn) (Cons_c (con_X12_besides_34 kn) (Cons_c (con_X12_besides_35 kn) (Cons_c (con_X12_besides_36 kn) (Cons_c (con_X12_besides_37 kn) (Cons_c (con_X12_besides_38 kn) (Cons_c (con_X12_besides_39 kn) (Cons_c (con_X12_besides_40 kn) (Cons_c (con_X12_besides_41 kn) (Cons_c (con_X12_besides_42 kn) (Cons_c (con_X12_besides_43 kn) (Cons_c (con_X12_besides_44 kn) (Cons_c (con_X12_besides_45 kn) (Cons_c (con_X12_besides_46 kn) (Cons_c (con_X12_besides_47 kn) Cons_n)))))))))))))))))))))))))))))))))))))))))))))))
def dX12_bearsAt : List (Nat × Nat) := []
def uX12_bearsAt : List (Nat × tA) := [(0, t_load 2 0 1), (1, t_gf ZZ 13 27 4), (4, t_load 0 1 5), (5, t_iald ZZ 6), (6, t_istore 2 7), (7, t_load 0 2 8), (8, t_int (-1) 9), (9, t_icmp n2_eq n2_ne 23 12), (12, t_load 2 0 13), (13, t_gf ZZ 13 28 16), (16, t_load 0 2 17), (17, t_callS ZZ dX12_has false xX12_has 2 20), (20, t_if n2_eq n2_ne 25 23), (23, t_int 0 24), (24, t_iret), (25, t_int 10 27), (27, t_load 2 0 28), (28, t_gf ZZ 13 14 31), (31, t_int 98 33), (33, t_load 0 2 34), (34, t_bin o_add 35), (35, t_iald ZZ 36), (36, t_bin o_mul 37), (37, t_int 5 38), (38, t_load 2 0 39), (39, t_gf ZZ 13 14 42), (42, t_int 154 45), (45, t_load 0 1 46), (46, t_bin o_add 47), (47, t_iald ZZ 48), (48, t_bin o_mul 49), (49, t_bin o_sub2 50), (50, t_istore 3 51), (51, t_split 64 (t_load 0 1 52)), (52, t_int 3 53), (53, t_bin o_rem 54), (54, t_if n2_le n2_gt 68 57), (57, t_load 0 3 58), (58, t_load 2 0 59), (59, t_load 0 1 60), (60, t_load 0 1 61), (61, t_int 1 62), (62, t_bin o_sub2 63), (63, t_callV ZZ dX12_besides false xX12_besides 13 3 66), (66, t_bin o_add 67), (67, t_istore 3 68), (68, t_split 64 (t_load 0 1 69)), (69, t_int 3 70), (70, t_bin o_rem 71), (71, t_int 2 72), (72, t_icmp n2_ge n2_lt 86 75), (75, t_load 0 3 76), (76, t_load 2 0 77), (77, t_load 0 1 78), (78, t_load 0 1 79), (79, t_int 1 80), (80, t_bin o_add 81), (81, t_callV ZZ dX12_besides false xX12_besides 13 3 84), (84, t_bin o_add 85), (85, t_istore 3 86), (86, t_load 0 3 87), (87, t_if n2_ge n2_lt 94 90), (90, t_int 0 91), (91, t_goto 95), (94, t_load 0 3 95), (95, t_iret)]
set_option maxRecDepth 100000 in
theorem pX12_bearsAt (kn : sKn) : pOk ZZ dX12_bearsAt (tX12_bearsAt kn) uX12_bearsAt := pOk_c tr_aload (pOk_c tr_get (pOk_c tr_iload (pOk_c tr_iald (pOk_c tr_istore (pOk_c tr_iload (pOk_c (tr_int rfl) (pOk_c (tr_icmp cm2_eq) (pOk_c tr_aload (pOk_c tr_get (pOk_c tr_iload (pOk_c (tr_callS (con_X12_has kn) (by decide +kernel)) (pOk_c (tr_if cm2_eq) (pOk_c (tr_int rfl) (pOk_c tr_iret (pOk_c (tr_int rfl) (pOk_c tr_aload (pOk_c tr_get (pOk_c (tr_int rfl) (pOk_c tr_iload (pOk_c (tr_bin op_add) (pOk_c tr_iald (pOk_c (tr_bin op_mul) (pOk_c (tr_int rfl) (pOk_c tr_aload (pOk_c tr_get (pOk_c (tr_int rfl) (pOk_c tr_iload (pOk_c (tr_bin op_add) (pOk_c tr_iald (pOk_c (tr_bin op_mul) (pOk_c (tr_bin op_sub2) (pOk_c tr_istore (pOk_c (tr_split (tr_iload)) (pOk_c (tr_int rfl) (pOk_c (tr_bin op_rem) (pOk_c (tr_if cm2_le) (pOk_c tr_iload (pOk_c tr_aload (pOk_c tr_iload (pOk_c tr_iload (pOk_c (tr_int rfl) (pOk_c (tr_bin op_sub2) (pOk_c (tr_callV (con_X12_besides kn) (by decide +kernel)) (pOk_c (tr_bin op_add) (pOk_c tr_istore (pOk_c (tr_split (tr_iload)) (pOk_c (tr_int rfl) (pOk_c (tr_bin op_rem) (pOk_c (tr_int rfl) (pOk_c (tr_icmp cm2_ge) (pOk_c tr_iload (pOk_c tr_aload (pOk_c tr_iload (pOk_c tr_iload (pOk_c (tr_int rfl) (pOk_c (tr_bin op_add) (pOk_c (tr_callV (con_X12_besides kn) (by decide +kernel)) (pOk_c (tr_bin op_add) (pOk_c tr_istore (pOk_c tr_iload (pOk_c (tr_if cm2_ge) (pOk_c (tr_int rfl) (pOk_c tr_goto (pOk_c tr_iload (pOk_c tr_iret pOk_n)))))))))))))))))))))))))))))))))))))))))))))))))))))))))))))))))
def xX12_bearsAt_0 : eX := ([(2, 0, 213), (0, 1, 0)], [], [(1, .inl (0, 35))], 2, [([], [(0, 0, 0)], [], [], 2), ([], [(0, 2, 0)], [], [(2, .inl (0, 2147483647))], 3)])
set_option maxRecDepth 100000 in
theorem con_X12_bearsAt_0 (kn : sKn) : Con ZZ dX12_bearsAt (fW (tX12_bearsAt kn) 4) xX12_bearsAt_0 := chk_ok (n := 2000) (cuts := []) (θ0 := [(0, 0, 0), (1, 1, 0)]) (pX12_bearsAt kn) (by decide +kernel)
def xX12_bearsAt : List eX := [xX12_bearsAt_0]
theorem con_X12_bearsAt (kn : sKn) : Cons ZZ dX12_bearsAt (fX12_bearsAt kn) xX12_bearsAt := Cons_c (con_X12_bearsAt_0 kn) Cons_n
def dX12_sumAt : List (Nat × Nat) := []
def uX12_sumAt : List (Nat × tA) := [(0, t_load 0 2 1), (1, t_load 0 3 2), (2, t_bin o_add 3), (3, t_int 3 4), (4, t_icmp n2_le n2_gt 9 7), (7, t_int (-1) 8), (8, t_iret), (9, t_int 0 10), (10, t_istore 4 12), (12, t_load 0 2 13), (13, t_istore 5 15), (15, t_load 0 5 17), (17, t_load 0 2 18), (18, t_load 0 3 19), (19, t_bin o_add 20), (20, t_icmp n2_ge n2_lt 61 23), (23, t_load 2 0 24), (24, t_gf ZZ 13 27 27), (27, t_int 3 28), (28, t_load 0 1 29), (29, t_bin o_mul 30), (30, t_load 0 5 32), (32, t_bin o_add 33), (33, t_iald ZZ 34), (34, t_int (-1) 35), (35, t_icmp n2_ne n2_eq 40 38), (38, t_int (-1) 39), (39, t_iret), (40, t_load 0 4 42), (42, t_load 2 0 43), (43, t_int 3 44), (44, t_load 0 1 45), (45, t_bin o_mul 46), (46, t_load 0 5 48), (48, t_bin o_add 49), (49, t_callV ZZ dX12_bearsAt false xX12_bearsAt 13 2 52), (52, t_bin o_add 53), (53, t_istore 4 55), (55, t_iinc 5 1 58), (58, t_goto 15), (61, t_load 0 4 63), (63, t_iret)]
set_option maxRecDepth 100000 in
theorem pX12_sumAt (kn : sKn) : pOk ZZ dX12_sumAt (tX12_sumAt kn) uX12_sumAt := pOk_c tr_iload (pOk_c tr_iload (pOk_c (tr_bin op_add) (pOk_c (tr_int rfl) (pOk_c (tr_icmp cm2_le) (pOk_c (tr_int rfl) (pOk_c tr_iret (pOk_c (tr_int rfl) (pOk_c tr_istore (pOk_c tr_iload (pOk_c tr_istore (pOk_c tr_iload (pOk_c tr_iload (pOk_c tr_iload (pOk_c (tr_bin op_add) (pOk_c (tr_icmp cm2_ge) (pOk_c tr_aload (pOk_c tr_get (pOk_c (tr_int rfl) (pOk_c tr_iload (pOk_c (tr_bin op_mul) (pOk_c tr_iload (pOk_c (tr_bin op_add) (pOk_c tr_iald (pOk_c (tr_int rfl) (pOk_c (tr_icmp cm2_ne) (pOk_c (tr_int rfl) (pOk_c tr_iret (pOk_c tr_iload (pOk_c tr_aload (pOk_c (tr_int rfl) (pOk_c tr_iload (pOk_c (tr_bin op_mul) (pOk_c tr_iload (pOk_c (tr_bin op_add) (pOk_c (tr_callV (con_X12_bearsAt kn) (by decide +kernel)) (pOk_c (tr_bin op_add) (pOk_c tr_istore (pOk_c (tr_iinc rfl) (pOk_c tr_goto (pOk_c tr_iload (pOk_c tr_iret pOk_n)))))))))))))))))))))))))))))))))))))))))
def xX12_sumAt_0 : eX := ([(2, 0, 213), (0, 1, 0), (0, 2, 0), (0, 3, 0)], [], [(3, .inl (3, 3)), (2, .inl (0, 2)), (1, .inl (0, 11))], 4, [([], [(0, 0, (-1))], [], [], 4), ([], [(0, 4, 0)], [], [(4, fullI), (2, .inl (0, 0))], 5)])
set_option maxRecDepth 100000 in
theorem con_X12_sumAt_0 (kn : sKn) : Con ZZ dX12_sumAt (fW (tX12_sumAt kn) 6) xX12_sumAt_0 := chk_ok (n := 2000) (cuts := [(15, [(([(0, (2, 0, 213)), (1, (0, 1, 0)), (2, (0, 2, 0)), (3, (0, 3, 0)), (4, (0, 4, 0)), (5, (0, 5, 0))], [], [], [(5, .inl (0, 3)), (4, fullI), (1, .inl (0, 11)), (2, .inl (0, 0)), (3, .inl (3, 3))], 6), [(0, 0, 99985), (1, 5, 3)])])]) (θ0 := [(0, 0, 0), (1, 1, 0), (2, 2, 0), (3, 3, 0)]) (pX12_sumAt kn) (by decide +kernel)
def xX12_sumAt_1 : eX := ([(2, 0, 213), (0, 1, 0), (0, 2, 0), (0, 3, 0)], [], [(3, .inl (2, 2)), (2, .inl (0, 2)), (1, .inl (0, 11))], 4, [([], [(0, 0, (-1))], [], [], 4), ([], [(0, 4, 0)], [], [(4, fullI), (2, .inl (0, 1))], 5)])
set_option maxRecDepth 100000 in
theorem con_X12_sumAt_1 (kn : sKn) : Con ZZ dX12_sumAt (fW (tX12_sumAt kn) 6) xX12_sumAt_1 := chk_ok (n := 2000) (cuts := [(15, [(([(0, (2, 0, 213)), (1, (0, 1, 0)), (2, (0, 2, 0)), (3, (0, 3, 0)), (4, (0, 4, 0)), (5, (0, 5, 0))], [], [], [(5, .inl (0, 3)), (4, fullI), (1, .inl (0, 11)), (2, .inl (0, 1)), (3, .inl (2, 2))], 6), [(0, 0, 99985), (1, 5, 3)])])]) (θ0 := [(0, 0, 0), (1, 1, 0), (2, 2, 0), (3, 3, 0)]) (pX12_sumAt kn) (by decide +kernel)
def xX12_sumAt_2 : eX := ([(2, 0, 213), (0, 1, 0), (0, 2, 0), (0, 3, 0)], [], [(3, .inl (1, 1)), (2, .inl (0, 2)), (1, .inl (0, 11))], 4, [([], [(0, 0, (-1))], [], [], 4), ([], [(0, 4, 0)], [], [(4, fullI)], 5)])
set_option maxRecDepth 100000 in
theorem con_X12_sumAt_2 (kn : sKn) : Con ZZ dX12_sumAt (fW (tX12_sumAt kn) 6) xX12_sumAt_2 := chk_ok (n := 2000) (cuts := [(15, [(([(0, (2, 0, 213)), (1, (0, 1, 0)), (2, (0, 2, 0)), (3, (0, 3, 0)), (4, (0, 4, 0)), (5, (0, 5, 0))], [], [], [(5, .inl (0, 3)), (4, fullI), (1, .inl (0, 11)), (2, .inl (0, 2)), (3, .inl (1, 1))], 6), [(0, 0, 99985), (1, 5, 3)])])]) (θ0 := [(0, 0, 0), (1, 1, 0), (2, 2, 0), (3, 3, 0)]) (pX12_sumAt kn) (by decide +kernel)
def xX12_sumAt_3 : eX := ([(2, 0, 213), (0, 1, 0), (0, 2, 0), (0, 3, 0)], [], [(3, .inl (0, 0)), (2, .inl (0, 2)), (1, .inl (0, 11))], 4, [([], [(0, 0, 0)], [], [], 4)])
set_option maxRecDepth 100000 in
theorem con_X12_sumAt_3 (kn : sKn) : Con ZZ dX12_sumAt (fW (tX12_sumAt kn) 6) xX12_sumAt_3 := chk_ok (n := 2000) (cuts := [(15, [(([(0, (2, 0, 213)), (1, (0, 1, 0)), (2, (0, 2, 0)), (3, (0, 3, 0)), (4, (0, 0, 0)), (5, (0, 2, 0))], [], [], [(1, .inl (0, 11)), (2, .inl (0, 2)), (3, .inl (0, 0))], 4), [(0, 0, 99985), (0, 0, 0)])])]) (θ0 := [(0, 0, 0), (1, 1, 0), (2, 2, 0), (3, 3, 0)]) (pX12_sumAt kn) (by decide +kernel)
def xX12_sumAt : List eX := [xX12_sumAt_0, xX12_sumAt_1, xX12_sumAt_2, xX12_sumAt_3]
theorem con_X12_sumAt (kn : sKn) : Cons ZZ dX12_sumAt (fX12_sumAt kn) xX12_sumAt := Cons_c (con_X12_sumAt_0 kn) (Cons_c (con_X12_sumAt_1 kn) (Cons_c (con_X12_sumAt_2 kn) (Cons_c (con_X12_sumAt_3 kn) Cons_n)))
def dX12_spareAt : List (Nat × Nat) := []
def uX12_spareAt : List (Nat × tA) := [(0, t_load 0 2 1), (1, t_int 3 2), (2, t_icmp n2_ne n2_eq 20 5), (5, t_load 0 4 7), (7, t_int 9 9), (9, t_icmp n2_gt n2_le 18 12), (12, t_int 999 15), (15, t_goto 19), (18, t_int (-1) 19), (19, t_iret), (20, t_load 2 0 21), (21, t_load 0 1 22), (22, t_load 0 2 23), (23, t_load 0 3 24), (24, t_callV ZZ dX12_sumAt false xX12_sumAt 13 4 27), (27, t_istore 5 29), (29, t_load 0 5 31), (31, t_load 0 4 33), (33, t_icmp n2_ge n2_lt 40 36), (36, t_int (-1) 37), (37, t_goto 45), (40, t_load 0 5 42), (42, t_load 0 4 44), (44, t_bin o_sub2 45), (45, t_iret)]
set_option maxRecDepth 100000 in
theorem pX12_spareAt (kn : sKn) : pOk ZZ dX12_spareAt (tX12_spareAt kn) uX12_spareAt := pOk_c tr_iload (pOk_c (tr_int rfl) (pOk_c (tr_icmp cm2_ne) (pOk_c tr_iload (pOk_c (tr_int rfl) (pOk_c (tr_icmp cm2_gt) (pOk_c (tr_int rfl) (pOk_c tr_goto (pOk_c (tr_int rfl) (pOk_c tr_iret (pOk_c tr_aload (pOk_c tr_iload (pOk_c tr_iload (pOk_c tr_iload (pOk_c (tr_callV (con_X12_sumAt kn) (by decide +kernel)) (pOk_c tr_istore (pOk_c tr_iload (pOk_c tr_iload (pOk_c (tr_icmp cm2_ge) (pOk_c (tr_int rfl) (pOk_c tr_goto (pOk_c tr_iload (pOk_c tr_iload (pOk_c (tr_bin op_sub2) (pOk_c tr_iret pOk_n))))))))))))))))))))))))
def xX12_spareAt_0 : eX := ([(2, 0, 213), (0, 1, 0), (0, 2, 0), (0, 3, 0), (0, 4, 0)], [], [(4, .inl (0, 300)), (3, .inl (3, 3)), (2, .inl (0, 3)), (1, .inl (0, 11))], 5, [([], [(0, 5, 0)], [], [(5, .inl ((-300), 2147483647))], 6), ([], [(0, 0, (-1))], [], [], 5)])
set_option maxRecDepth 100000 in
theorem con_X12_spareAt_0 (kn : sKn) : Con ZZ dX12_spareAt (fW (tX12_spareAt kn) 6) xX12_spareAt_0 := chk_ok (n := 2000) (cuts := []) (θ0 := [(0, 0, 0), (1, 1, 0), (2, 2, 0), (3, 3, 0), (4, 4, 0)]) (pX12_spareAt kn) (by decide +kernel)
def xX12_spareAt_1 : eX := ([(2, 0, 213), (0, 1, 0), (0, 2, 0), (0, 3, 0), (0, 4, 0)], [], [(4, .inl (0, 300)), (3, .inl (2, 2)), (2, .inl (0, 3)), (1, .inl (0, 11))], 5, [([], [(0, 5, 0)], [], [(5, .inl ((-300), 2147483647))], 6), ([], [(0, 0, (-1))], [], [], 5)])
set_option maxRecDepth 100000 in
theorem con_X12_spareAt_1 (kn : sKn) : Con ZZ dX12_spareAt (fW (tX12_spareAt kn) 6) xX12_spareAt_1 := chk_ok (n := 2000) (cuts := []) (θ0 := [(0, 0, 0), (1, 1, 0), (2, 2, 0), (3, 3, 0), (4, 4, 0)]) (pX12_spareAt kn) (by decide +kernel)
def xX12_spareAt_2 : eX := ([(2, 0, 213), (0, 1, 0), (0, 2, 0), (0, 3, 0), (0, 4, 0)], [], [(4, .inl (0, 300)), (3, .inl (1, 1)), (2, .inl (0, 3)), (1, .inl (0, 11))], 5, [([], [(0, 5, 0)], [], [(5, .inl ((-300), 2147483647))], 6), ([], [(0, 0, (-1))], [], [], 5)])
set_option maxRecDepth 100000 in
theorem con_X12_spareAt_2 (kn : sKn) : Con ZZ dX12_spareAt (fW (tX12_spareAt kn) 6) xX12_spareAt_2 := chk_ok (n := 2000) (cuts := []) (θ0 := [(0, 0, 0), (1, 1, 0), (2, 2, 0), (3, 3, 0), (4, 4, 0)]) (pX12_spareAt kn) (by decide +kernel)
def xX12_spareAt_3 : eX := ([(2, 0, 213), (0, 1, 0), (0, 2, 0), (0, 3, 0), (0, 4, 0)], [], [(4, .inl (0, 300)), (3, .inl (0, 0)), (2, .inl (0, 3)), (1, .inl (0, 11))], 5, [([], [(0, 0, 999)], [], [(2, .inl (3, 3)), (4, .inl (0, 9))], 5), ([], [(0, 0, (-1))], [], [(4, .inl (1, 300))], 5), ([], [(0, 0, 0)], [], [(2, .inl (0, 2)), (4, .inl (0, 0))], 5)])
set_option maxRecDepth 100000 in
theorem con_X12_spareAt_3 (kn : sKn) : Con ZZ dX12_spareAt (fW (tX12_spareAt kn) 6) xX12_spareAt_3 := chk_ok (n := 2000) (cuts := []) (θ0 := [(0, 0, 0), (1, 1, 0), (2, 2, 0), (3, 3, 0), (4, 4, 0)]) (pX12_spareAt kn) (by decide +kernel)
def xX12_spareAt : List eX := [xX12_spareAt_0, xX12_spareAt_1, xX12_spareAt_2, xX12_spareAt_3]
theorem con_X12_spareAt (kn : sKn) : Cons ZZ dX12_spareAt (fX12_spareAt kn) xX12_spareAt := Cons_c (con_X12_spareAt_0 kn) (Cons_c (con_X12_spareAt_1 kn) (Cons_c (con_X12_spareAt_2 kn) (Cons_c (con_X12_spareAt_3 kn) Cons_n)))
end
