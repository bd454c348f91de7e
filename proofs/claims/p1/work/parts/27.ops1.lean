noncomputable section
set_option maxRecDepth 100000 in
theorem op_2 : chk 2 [] [] [] = true := by decide +kernel
set_option maxRecDepth 100000 in
theorem op_3 : chk 3 [] [] [] = true := by decide +kernel
set_option maxRecDepth 100000 in
theorem op_15 : chk 15 [] [] [] = true := by decide +kernel
set_option maxRecDepth 100000 in
theorem op_21 : chk 21 [] [] [] = true := by decide +kernel
set_option maxRecDepth 100000 in
theorem op_22 : chk 22 [] [] [] = true := by decide +kernel
set_option maxRecDepth 100000 in
theorem op_25 : chk 25 [] [] [] = true := by decide +kernel
set_option maxRecDepth 100000 in
theorem op_27 : chk 27 [] [] [] = true := by decide +kernel
set_option maxRecDepth 100000 in
theorem op_28 : chk 28 [] [] [] = true := by decide +kernel
set_option maxRecDepth 100000 in
theorem op_29 : chk 29 [] [] [] = true := by decide +kernel
set_option maxRecDepth 100000 in
theorem op_39 : chk 39 [] [] [] = true := by decide +kernel
set_option maxRecDepth 100000 in
theorem op_40 : chk 40 [] [] [] = true := by decide +kernel
set_option maxRecDepth 100000 in
theorem op_44 : chk 44 [] [] [] = true := by decide +kernel
set_option maxRecDepth 100000 in
theorem op_45 : chk 45 [] [] [] = true := by decide +kernel
set_option maxRecDepth 100000 in
theorem op_46 : chk 46 [] [] [] = true := by decide +kernel
set_option maxRecDepth 100000 in
theorem op_47 : chk 47 [] [] [] = true := by decide +kernel
set_option maxRecDepth 100000 in
theorem op_48 : chk 48 [] [] [] = true := by decide +kernel
set_option maxRecDepth 100000 in
theorem op_49 : chk 49 [] [] [] = true := by decide +kernel
set_option maxRecDepth 100000 in
theorem op_50 : chk 50 [] [] [] = true := by decide +kernel
set_option maxRecDepth 100000 in
theorem op_51 : chk 51 [] [] [] = true := by decide +kernel
set_option maxRecDepth 100000 in
theorem op_52 : chk 52 [] [] [] = true := by decide +kernel
set_option maxRecDepth 100000 in
theorem op_53 : chk 53 [] [] [] = true := by decide +kernel
set_option maxRecDepth 100000 in
theorem op_54 : chk 54 [] [] [] = true := by decide +kernel
set_option maxRecDepth 100000 in
theorem op_55 : chk 55 [] [] [] = true := by decide +kernel
set_option maxRecDepth 100000 in
theorem op_56 : chk 56 [] [] [] = true := by decide +kernel
set_option maxRecDepth 100000 in
theorem op_57 : chk 57 [] [] [] = true := by decide +kernel
set_option maxRecDepth 100000 in
theorem op_58 : chk 58 [] [] [] = true := by decide +kernel
set_option maxRecDepth 100000 in
theorem op_59 : chk 59 [] [] [] = true := by decide +kernel
set_option maxRecDepth 100000 in
theorem op_60 : chk 60 [] [] [] = true := by decide +kernel
set_option maxRecDepth 100000 in
theorem op_61 : chk 61 [] [] [] = true := by decide +kernel
set_option maxRecDepth 100000 in
theorem op_62 : chk 62 [] [] [] = true := by decide +kernel
set_option maxRecDepth 100000 in
theorem op_63 : chk 63 [] [] [] = true := by decide +kernel
end
