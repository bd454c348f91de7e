noncomputable section
set_option maxRecDepth 100000 in
theorem op_33_0 : chk1 33 [] [] (0, 2147483647) = true := by decide +kernel
set_option maxRecDepth 100000 in
theorem op_33_1 : chk1 33 [] [] (2147483648, 2147483648) = true := by decide +kernel
set_option maxRecDepth 100000 in
theorem op_33_2 : chk1 33 [] [] (2147483649, 2147483649) = true := by decide +kernel
set_option maxRecDepth 100000 in
theorem op_33_3 : chk1 33 [] [] (2147483650, 2147483650) = true := by decide +kernel
set_option maxRecDepth 100000 in
theorem op_33_4 : chk1 33 [] [] (2147483651, 2147483651) = true := by decide +kernel
set_option maxRecDepth 100000 in
theorem op_33_5 : chk1 33 [] [] (2147483652, 4294967295) = true := by decide +kernel
set_option maxRecDepth 100000 in
theorem op_33 : chk 33 [2147483648, 2147483649, 2147483650, 2147483651, 2147483652] [] [] = true := chk_of (l := [(0, 2147483647), (2147483648, 2147483648), (2147483649, 2147483649), (2147483650, 2147483650), (2147483651, 2147483651), (2147483652, 4294967295)]) (by decide +kernel) (List.forall_mem_cons.mpr ⟨op_33_0, List.forall_mem_cons.mpr ⟨op_33_1, List.forall_mem_cons.mpr ⟨op_33_2, List.forall_mem_cons.mpr ⟨op_33_3, List.forall_mem_cons.mpr ⟨op_33_4, List.forall_mem_cons.mpr ⟨op_33_5, fun _ z => absurd z List.not_mem_nil⟩⟩⟩⟩⟩⟩)
end
