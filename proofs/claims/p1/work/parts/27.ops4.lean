noncomputable section
set_option maxRecDepth 100000 in
theorem op_14_0 : chk1 14 [] [] (0, 2147483648) = true := by decide +kernel
set_option maxRecDepth 100000 in
theorem op_14_1 : chk1 14 [] [] (2147483649, 2147483649) = true := by decide +kernel
set_option maxRecDepth 100000 in
theorem op_14_2 : chk1 14 [] [] (2147483650, 2147483650) = true := by decide +kernel
set_option maxRecDepth 100000 in
theorem op_14_3 : chk1 14 [] [] (2147483651, 2147483651) = true := by decide +kernel
set_option maxRecDepth 100000 in
theorem op_14_4 : chk1 14 [] [] (2147483652, 2147483652) = true := by decide +kernel
set_option maxRecDepth 100000 in
theorem op_14_5 : chk1 14 [] [] (2147483653, 2147483653) = true := by decide +kernel
set_option maxRecDepth 100000 in
theorem op_14_6 : chk1 14 [] [] (2147483654, 2147483654) = true := by decide +kernel
set_option maxRecDepth 100000 in
theorem op_14_7 : chk1 14 [] [] (2147483655, 2147483655) = true := by decide +kernel
set_option maxRecDepth 100000 in
theorem op_14_8 : chk1 14 [] [] (2147483656, 2147483656) = true := by decide +kernel
set_option maxRecDepth 100000 in
theorem op_14_9 : chk1 14 [] [] (2147483657, 2147483657) = true := by decide +kernel
set_option maxRecDepth 100000 in
theorem op_14_10 : chk1 14 [] [] (2147483658, 2147483658) = true := by decide +kernel
set_option maxRecDepth 100000 in
theorem op_14_11 : chk1 14 [] [] (2147483659, 2147483659) = true := by decide +kernel
set_option maxRecDepth 100000 in
theorem op_14_12 : chk1 14 [] [] (2147483660, 2147483660) = true := by decide +kernel
set_option maxRecDepth 100000 in
theorem op_14_13 : chk1 14 [] [] (2147483661, 2147483661) = true := by decide +kernel
set_option maxRecDepth 100000 in
theorem op_14_14 : chk1 14 [] [] (2147483662, 2147483662) = true := by decide +kernel
set_option maxRecDepth 100000 in
theorem op_14_15 : chk1 14 [] [] (2147483663, 2147483663) = true := by decide +kernel
set_option maxRecDepth 100000 in
theorem op_14_16 : chk1 14 [] [] (2147483664, 2147483664) = true := by decide +kernel
set_option maxRecDepth 100000 in
theorem op_14_17 : chk1 14 [] [] (2147483665, 2147483665) = true := by decide +kernel
set_option maxRecDepth 100000 in
theorem op_14_18 : chk1 14 [] [] (2147483666, 2147483666) = true := by decide +kernel
set_option maxRecDepth 100000 in
theorem op_14_19 : chk1 14 [] [] (2147483667, 2147483667) = true := by decide +kernel
set_option maxRecDepth 100000 in
theorem op_14_20 : chk1 14 [] [] (2147483668, 2147483668) = true := by decide +kernel
set_option maxRecDepth 100000 in
theorem op_14_21 : chk1 14 [] [] (2147483669, 2147483669) = true := by decide +kernel
set_option maxRecDepth 100000 in
theorem op_14_22 : chk1 14 [] [] (2147483670, 2147483670) = true := by decide +kernel
set_option maxRecDepth 100000 in
theorem op_14_23 : chk1 14 [] [] (2147483671, 2147483671) = true := by decide +kernel
set_option maxRecDepth 100000 in
theorem op_14_24 : chk1 14 [] [] (2147483672, 2147483672) = true := by decide +kernel
set_option maxRecDepth 100000 in
theorem op_14_25 : chk1 14 [] [] (2147483673, 2147483673) = true := by decide +kernel
set_option maxRecDepth 100000 in
theorem op_14_26 : chk1 14 [] [] (2147483674, 2147483674) = true := by decide +kernel
set_option maxRecDepth 100000 in
theorem op_14_27 : chk1 14 [] [] (2147483675, 2147483675) = true := by decide +kernel
set_option maxRecDepth 100000 in
theorem op_14_28 : chk1 14 [] [] (2147483676, 2147483676) = true := by decide +kernel
set_option maxRecDepth 100000 in
theorem op_14_29 : chk1 14 [] [] (2147483677, 2147483677) = true := by decide +kernel
set_option maxRecDepth 100000 in
theorem op_14_30 : chk1 14 [] [] (2147483678, 2147483678) = true := by decide +kernel
end
