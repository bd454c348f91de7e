noncomputable section
set_option maxRecDepth 100000 in
theorem op_5_0 : chk1 5 [2147483648, 2147483649, 2147483650, 2147483651] [2147483648, 2147483649, 2147483650, 2147483651] (0, 2147483647) = true := by decide +kernel
set_option maxRecDepth 100000 in
theorem op_5_1 : chk1 5 [2147483648, 2147483649, 2147483650, 2147483651] [2147483648, 2147483649, 2147483650, 2147483651] (2147483648, 2147483648) = true := by decide +kernel
set_option maxRecDepth 100000 in
theorem op_5_2 : chk1 5 [2147483648, 2147483649, 2147483650, 2147483651] [2147483648, 2147483649, 2147483650, 2147483651] (2147483649, 2147483649) = true := by decide +kernel
set_option maxRecDepth 100000 in
theorem op_5_3 : chk1 5 [2147483648, 2147483649, 2147483650, 2147483651] [2147483648, 2147483649, 2147483650, 2147483651] (2147483650, 2147483650) = true := by decide +kernel
set_option maxRecDepth 100000 in
theorem op_5_4 : chk1 5 [2147483648, 2147483649, 2147483650, 2147483651] [2147483648, 2147483649, 2147483650, 2147483651] (2147483651, 2147483651) = true := by decide +kernel
set_option maxRecDepth 100000 in
theorem op_5_5 : chk1 5 [2147483648, 2147483649, 2147483650, 2147483651] [2147483648, 2147483649, 2147483650, 2147483651] (2147483652, 4294967295) = true := by decide +kernel
set_option maxRecDepth 100000 in
theorem op_5 : chk 5 [2147483648, 2147483649, 2147483650, 2147483651, 2147483652] [2147483648, 2147483649, 2147483650, 2147483651] [2147483648, 2147483649, 2147483650, 2147483651] = true := chk_of (l := [(0, 2147483647), (2147483648, 2147483648), (2147483649, 2147483649), (2147483650, 2147483650), (2147483651, 2147483651), (2147483652, 4294967295)]) (by decide +kernel) (List.forall_mem_cons.mpr ⟨op_5_0, List.forall_mem_cons.mpr ⟨op_5_1, List.forall_mem_cons.mpr ⟨op_5_2, List.forall_mem_cons.mpr ⟨op_5_3, List.forall_mem_cons.mpr ⟨op_5_4, List.forall_mem_cons.mpr ⟨op_5_5, fun _ z => absurd z List.not_mem_nil⟩⟩⟩⟩⟩⟩)
set_option maxRecDepth 100000 in
theorem op_41_0 : chk1 41 [] [] (0, 2147483647) = true := by decide +kernel
set_option maxRecDepth 100000 in
theorem op_41_1 : chk1 41 [] [] (2147483648, 2147483648) = true := by decide +kernel
set_option maxRecDepth 100000 in
theorem op_41_2 : chk1 41 [] [] (2147483649, 2147483649) = true := by decide +kernel
set_option maxRecDepth 100000 in
theorem op_41_3 : chk1 41 [] [] (2147483650, 4294967295) = true := by decide +kernel
set_option maxRecDepth 100000 in
theorem op_41 : chk 41 [2147483648, 2147483649, 2147483650] [] [] = true := chk_of (l := [(0, 2147483647), (2147483648, 2147483648), (2147483649, 2147483649), (2147483650, 4294967295)]) (by decide +kernel) (List.forall_mem_cons.mpr ⟨op_41_0, List.forall_mem_cons.mpr ⟨op_41_1, List.forall_mem_cons.mpr ⟨op_41_2, List.forall_mem_cons.mpr ⟨op_41_3, fun _ z => absurd z List.not_mem_nil⟩⟩⟩⟩)
end
