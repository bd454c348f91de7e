noncomputable section
set_option maxRecDepth 100000 in
theorem op_0 : chk 0 [] [] [] = true := by decide +kernel
set_option maxRecDepth 100000 in
theorem op_1 : chk 1 [2147483648, 2147483649] [] [] = true := by decide +kernel
set_option maxRecDepth 100000 in
theorem op_4 : chk 4 [2147483648] [] [] = true := by decide +kernel
set_option maxRecDepth 100000 in
theorem op_6 : chk 6 [2147483648] [] [] = true := by decide +kernel
set_option maxRecDepth 100000 in
theorem op_7 : chk 7 [2147483648, 2147483649, 2147483650, 2147483651, 2147483652, 2147483653, 2147483654, 2147483655] [] [] = true := by decide +kernel
set_option maxRecDepth 100000 in
theorem op_8 : chk 8 [2147483648] [] [] = true := by decide +kernel
set_option maxRecDepth 100000 in
theorem op_9_0 : chk1 9 [2147483648, 2147483649, 2147483650, 2147483651] [] (0, 2147483647) = true := by decide +kernel
set_option maxRecDepth 100000 in
theorem op_9_1 : chk1 9 [2147483648, 2147483649, 2147483650, 2147483651] [] (2147483648, 2147483648) = true := by decide +kernel
set_option maxRecDepth 100000 in
theorem op_9_2 : chk1 9 [2147483648, 2147483649, 2147483650, 2147483651] [] (2147483649, 2147483649) = true := by decide +kernel
set_option maxRecDepth 100000 in
theorem op_9_3 : chk1 9 [2147483648, 2147483649, 2147483650, 2147483651] [] (2147483650, 2147483650) = true := by decide +kernel
set_option maxRecDepth 100000 in
theorem op_9_4 : chk1 9 [2147483648, 2147483649, 2147483650, 2147483651] [] (2147483651, 2147483651) = true := by decide +kernel
set_option maxRecDepth 100000 in
theorem op_9_5 : chk1 9 [2147483648, 2147483649, 2147483650, 2147483651] [] (2147483652, 4294967295) = true := by decide +kernel
set_option maxRecDepth 100000 in
theorem op_9 : chk 9 [2147483648, 2147483649, 2147483650, 2147483651, 2147483652] [2147483648, 2147483649, 2147483650, 2147483651] [] = true := chk_of (l := [(0, 2147483647), (2147483648, 2147483648), (2147483649, 2147483649), (2147483650, 2147483650), (2147483651, 2147483651), (2147483652, 4294967295)]) (by decide +kernel) (List.forall_mem_cons.mpr ⟨op_9_0, List.forall_mem_cons.mpr ⟨op_9_1, List.forall_mem_cons.mpr ⟨op_9_2, List.forall_mem_cons.mpr ⟨op_9_3, List.forall_mem_cons.mpr ⟨op_9_4, List.forall_mem_cons.mpr ⟨op_9_5, fun _ z => absurd z List.not_mem_nil⟩⟩⟩⟩⟩⟩)
set_option maxRecDepth 100000 in
theorem op_10 : chk 10 [2147483648] [] [] = true := by decide +kernel
set_option maxRecDepth 100000 in
theorem op_11 : chk 11 [2147483648] [] [] = true := by decide +kernel
set_option maxRecDepth 100000 in
theorem op_12 : chk 12 [2147483648] [] [] = true := by decide +kernel
set_option maxRecDepth 100000 in
theorem op_13 : chk 13 [2147483648] [] [] = true := by decide +kernel
set_option maxRecDepth 100000 in
theorem op_16 : chk 16 [2147483648] [] [] = true := by decide +kernel
set_option maxRecDepth 100000 in
theorem op_17 : chk 17 [2147483648] [] [] = true := by decide +kernel
set_option maxRecDepth 100000 in
theorem op_18 : chk 18 [2147483649, 2147483650, 2147483651, 2147483652] [] [] = true := by decide +kernel
set_option maxRecDepth 100000 in
theorem op_19 : chk 19 [2147483648] [] [] = true := by decide +kernel
set_option maxRecDepth 100000 in
theorem op_20 : chk 20 [2147483648, 2147483649, 2147483650, 2147483651, 2147483652] [2147483648, 2147483649, 2147483650, 2147483651] [] = true := by decide +kernel
set_option maxRecDepth 100000 in
theorem op_23 : chk 23 [2147483648] [] [] = true := by decide +kernel
set_option maxRecDepth 100000 in
theorem op_24 : chk 24 [2147483648] [] [] = true := by decide +kernel
set_option maxRecDepth 100000 in
theorem op_26 : chk 26 [2147483648] [] [] = true := by decide +kernel
set_option maxRecDepth 100000 in
theorem op_30 : chk 30 [2147483648] [] [] = true := by decide +kernel
set_option maxRecDepth 100000 in
theorem op_31 : chk 31 [2147483648] [] [] = true := by decide +kernel
set_option maxRecDepth 100000 in
theorem op_32 : chk 32 [2147483648] [] [] = true := by decide +kernel
set_option maxRecDepth 100000 in
theorem op_34 : chk 34 [2147483648] [] [] = true := by decide +kernel
set_option maxRecDepth 100000 in
theorem op_35 : chk 35 [2147483649, 2147483709] [] [] = true := by decide +kernel
set_option maxRecDepth 100000 in
theorem op_36 : chk 36 [2147483648] [] [] = true := by decide +kernel
set_option maxRecDepth 100000 in
theorem op_37 : chk 37 [2147483648, 2147483649, 2147483650] [] [] = true := by decide +kernel
set_option maxRecDepth 100000 in
theorem op_38 : chk 38 [2147483648, 2147483649, 2147483650, 2147483651, 2147483652] [] [] = true := by decide +kernel
set_option maxRecDepth 100000 in
theorem op_42 : chk 42 [2147483648, 2147483649, 2147483650] [] [] = true := by decide +kernel
set_option maxRecDepth 100000 in
theorem op_43 : chk 43 [2147483648, 2147483649, 2147483650, 2147483651, 2147483652, 2147483653, 2147483654] [] [] = true := by decide +kernel
end
