noncomputable section
set_option maxRecDepth 100000 in
theorem op_14_31 : chk1 14 [] [] (2147483679, 2147483679) = true := by decide +kernel
set_option maxRecDepth 100000 in
theorem op_14_32 : chk1 14 [] [] (2147483680, 2147483680) = true := by decide +kernel
set_option maxRecDepth 100000 in
theorem op_14_33 : chk1 14 [] [] (2147483681, 2147483681) = true := by decide +kernel
set_option maxRecDepth 100000 in
theorem op_14_34 : chk1 14 [] [] (2147483682, 2147483682) = true := by decide +kernel
set_option maxRecDepth 100000 in
theorem op_14_35 : chk1 14 [] [] (2147483683, 2147483683) = true := by decide +kernel
set_option maxRecDepth 100000 in
theorem op_14_36 : chk1 14 [] [] (2147483684, 2147483684) = true := by decide +kernel
set_option maxRecDepth 100000 in
theorem op_14_37 : chk1 14 [] [] (2147483685, 2147483685) = true := by decide +kernel
set_option maxRecDepth 100000 in
theorem op_14_38 : chk1 14 [] [] (2147483686, 2147483686) = true := by decide +kernel
set_option maxRecDepth 100000 in
theorem op_14_39 : chk1 14 [] [] (2147483687, 2147483687) = true := by decide +kernel
set_option maxRecDepth 100000 in
theorem op_14_40 : chk1 14 [] [] (2147483688, 2147483688) = true := by decide +kernel
set_option maxRecDepth 100000 in
theorem op_14_41 : chk1 14 [] [] (2147483689, 2147483689) = true := by decide +kernel
set_option maxRecDepth 100000 in
theorem op_14_42 : chk1 14 [] [] (2147483690, 2147483690) = true := by decide +kernel
set_option maxRecDepth 100000 in
theorem op_14_43 : chk1 14 [] [] (2147483691, 2147483691) = true := by decide +kernel
set_option maxRecDepth 100000 in
theorem op_14_44 : chk1 14 [] [] (2147483692, 2147483692) = true := by decide +kernel
set_option maxRecDepth 100000 in
theorem op_14_45 : chk1 14 [] [] (2147483693, 2147483693) = true := by decide +kernel
set_option maxRecDepth 100000 in
theorem op_14_46 : chk1 14 [] [] (2147483694, 2147483694) = true := by decide +kernel
set_option maxRecDepth 100000 in
theorem op_14_47 : chk1 14 [] [] (2147483695, 2147483695) = true := by decide +kernel
set_option maxRecDepth 100000 in
theorem op_14_48 : chk1 14 [] [] (2147483696, 2147483696) = true := by decide +kernel
set_option maxRecDepth 100000 in
theorem op_14_49 : chk1 14 [] [] (2147483697, 2147483697) = true := by decide +kernel
set_option maxRecDepth 100000 in
theorem op_14_50 : chk1 14 [] [] (2147483698, 2147483698) = true := by decide +kernel
set_option maxRecDepth 100000 in
theorem op_14_51 : chk1 14 [] [] (2147483699, 2147483699) = true := by decide +kernel
set_option maxRecDepth 100000 in
theorem op_14_52 : chk1 14 [] [] (2147483700, 2147483700) = true := by decide +kernel
set_option maxRecDepth 100000 in
theorem op_14_53 : chk1 14 [] [] (2147483701, 2147483701) = true := by decide +kernel
set_option maxRecDepth 100000 in
theorem op_14_54 : chk1 14 [] [] (2147483702, 2147483702) = true := by decide +kernel
set_option maxRecDepth 100000 in
theorem op_14_55 : chk1 14 [] [] (2147483703, 2147483703) = true := by decide +kernel
set_option maxRecDepth 100000 in
theorem op_14_56 : chk1 14 [] [] (2147483704, 2147483704) = true := by decide +kernel
set_option maxRecDepth 100000 in
theorem op_14_57 : chk1 14 [] [] (2147483705, 2147483705) = true := by decide +kernel
set_option maxRecDepth 100000 in
theorem op_14_58 : chk1 14 [] [] (2147483706, 2147483706) = true := by decide +kernel
set_option maxRecDepth 100000 in
theorem op_14_59 : chk1 14 [] [] (2147483707, 2147483707) = true := by decide +kernel
set_option maxRecDepth 100000 in
theorem op_14_60 : chk1 14 [] [] (2147483708, 2147483708) = true := by decide +kernel
set_option maxRecDepth 100000 in
theorem op_14_61 : chk1 14 [] [] (2147483709, 4294967295) = true := by decide +kernel
set_option maxRecDepth 100000 in
theorem op_14 : chk 14 [2147483649, 2147483650, 2147483651, 2147483652, 2147483653, 2147483654, 2147483655, 2147483656, 2147483657, 2147483658, 2147483659, 2147483660, 2147483661, 2147483662, 2147483663, 2147483664, 2147483665, 2147483666, 2147483667, 2147483668, 2147483669, 2147483670, 2147483671, 2147483672, 2147483673, 2147483674, 2147483675, 2147483676, 2147483677, 2147483678, 2147483679, 2147483680, 2147483681, 2147483682, 2147483683, 2147483684, 2147483685, 2147483686, 2147483687, 2147483688, 2147483689, 2147483690, 2147483691, 2147483692, 2147483693, 2147483694, 2147483695, 2147483696, 2147483697, 2147483698, 2147483699, 2147483700, 2147483701, 2147483702, 2147483703, 2147483704, 2147483705, 2147483706, 2147483707, 2147483708, 2147483709] [] [] = true := chk_of (l := [(0, 2147483648), (2147483649, 2147483649), (2147483650, 2147483650), (2147483651, 2147483651), (2147483652, 2147483652), (2147483653, 2147483653), (2147483654, 2147483654), (2147483655, 2147483655), (2147483656, 2147483656), (2147483657, 2147483657), (2147483658, 2147483658), (2147483659, 2147483659), (2147483660, 2147483660), (2147483661, 2147483661), (2147483662, 2147483662), (2147483663, 2147483663), (2147483664, 2147483664), (2147483665, 2147483665), (2147483666, 2147483666), (2147483667, 2147483667), (2147483668, 2147483668), (2147483669, 2147483669), (2147483670, 2147483670), (2147483671, 2147483671), (2147483672, 2147483672), (2147483673, 2147483673), (2147483674, 2147483674), (2147483675, 2147483675), (2147483676, 2147483676), (2147483677, 2147483677), (2147483678, 2147483678), (2147483679, 2147483679), (2147483680, 2147483680), (2147483681, 2147483681), (2147483682, 2147483682), (2147483683, 2147483683), (2147483684, 2147483684), (2147483685, 2147483685), (2147483686, 2147483686), (2147483687, 2147483687), (2147483688, 2147483688), (2147483689, 2147483689), (2147483690, 2147483690), (2147483691, 2147483691), (2147483692, 2147483692), (2147483693, 2147483693), (2147483694, 2147483694), (2147483695, 2147483695), (2147483696, 2147483696), (2147483697, 2147483697), (2147483698, 2147483698), (2147483699, 2147483699), (2147483700, 2147483700), (2147483701, 2147483701), (2147483702, 2147483702), (2147483703, 2147483703), (2147483704, 2147483704), (2147483705, 2147483705), (2147483706, 2147483706), (2147483707, 2147483707), (2147483708, 2147483708), (2147483709, 4294967295)]) (by decide +kernel) (List.forall_mem_cons.mpr ⟨op_14_0, List.forall_mem_cons.mpr ⟨op_14_1, List.forall_mem_cons.mpr ⟨op_14_2, List.forall_mem_cons.mpr ⟨op_14_3, List.forall_mem_cons.mpr ⟨op_14_4, List.forall_mem_cons.mpr ⟨op_14_5, List.forall_mem_cons.mpr ⟨op_14_6, List.forall_mem_cons.mpr ⟨op_14_7, List.forall_mem_cons.mpr ⟨op_14_8, List.forall_mem_cons.mpr ⟨op_14_9, List.forall_mem_cons.mpr ⟨op_14_10, List.forall_mem_cons.mpr ⟨op_14_11, List.forall_mem_cons.mpr ⟨op_14_12, List.forall_mem_cons.mpr ⟨op_14_13, List.forall_mem_cons.mpr ⟨op_14_14, List.forall_mem_cons.mpr ⟨op_14_15, List.forall_mem_cons.mpr ⟨op_14_16, List.forall_mem_cons.mpr ⟨op_14_17, List.forall_mem_cons.mpr ⟨op_14_18, List.forall_mem_cons.mpr ⟨op_14_19, List.forall_mem_cons.mpr ⟨op_14_20, List.forall_mem_cons.mpr ⟨op_14_21, List.forall_mem_cons.mpr ⟨op_14_22, List.forall_mem_cons.mpr ⟨op_14_23, List.forall_mem_cons.mpr ⟨op_14_24, List.forall_mem_cons.mpr ⟨op_14_25, List.forall_mem_cons.mpr ⟨op_14_26, List.forall_mem_cons.mpr ⟨op_14_27, List.forall_mem_cons.mpr ⟨op_14_28, List.forall_mem_cons.mpr ⟨op_14_29, List.forall_mem_cons.mpr ⟨op_14_30, List.forall_mem_cons.mpr ⟨op_14_31, List.forall_mem_cons.mpr ⟨op_14_32, List.forall_mem_cons.mpr ⟨op_14_33, List.forall_mem_cons.mpr ⟨op_14_34, List.forall_mem_cons.mpr ⟨op_14_35, List.forall_mem_cons.mpr ⟨op_14_36, List.forall_mem_cons.mpr ⟨op_14_37, List.forall_mem_cons.mpr ⟨op_14_38, List.forall_mem_cons.mpr ⟨op_14_39, List.forall_mem_cons.mpr ⟨op_14_40, List.forall_mem_cons.mpr ⟨op_14_41, List.forall_mem_cons.mpr ⟨op_14_42, List.forall_mem_cons.mpr ⟨op_14_43, List.forall_mem_cons.mpr ⟨op_14_44, List.forall_mem_cons.mpr ⟨op_14_45, List.forall_mem_cons.mpr ⟨op_14_46, List.forall_mem_cons.mpr ⟨op_14_47, List.forall_mem_cons.mpr ⟨op_14_48, List.forall_mem_cons.mpr ⟨op_14_49, List.forall_mem_cons.mpr ⟨op_14_50, List.forall_mem_cons.mpr ⟨op_14_51, List.forall_mem_cons.mpr ⟨op_14_52, List.forall_mem_cons.mpr ⟨op_14_53, List.forall_mem_cons.mpr ⟨op_14_54, List.forall_mem_cons.mpr ⟨op_14_55, List.forall_mem_cons.mpr ⟨op_14_56, List.forall_mem_cons.mpr ⟨op_14_57, List.forall_mem_cons.mpr ⟨op_14_58, List.forall_mem_cons.mpr ⟨op_14_59, List.forall_mem_cons.mpr ⟨op_14_60, List.forall_mem_cons.mpr ⟨op_14_61, fun _ z => absurd z List.not_mem_nil⟩⟩⟩⟩⟩⟩⟩⟩⟩⟩⟩⟩⟩⟩⟩⟩⟩⟩⟩⟩⟩⟩⟩⟩⟩⟩⟩⟩⟩⟩⟩⟩⟩⟩⟩⟩⟩⟩⟩⟩⟩⟩⟩⟩⟩⟩⟩⟩⟩⟩⟩⟩⟩⟩⟩⟩⟩⟩⟩⟩⟩⟩)
end
