noncomputable section
set_option maxRecDepth 100000 in
theorem op_1 : chk 1 [2147483648, 2147483649] [] [] = true := by decide +kernel
set_option maxRecDepth 100000 in
theorem op_2 : chk 2 [] [] [] = true := by decide +kernel
set_option maxRecDepth 100000 in
theorem op_3 : chk 3 [] [] [] = true := by decide +kernel
set_option maxRecDepth 100000 in
theorem op_4 : chk 4 [2147483648] [] [] = true := by decide +kernel
set_option maxRecDepth 100000 in
theorem op_44 : chk 44 [] [] [] = true := by decide +kernel
set_option maxRecDepth 100000 in
theorem op_45 : chk 45 [] [] [] = true := by decide +kernel
end
