section
-- ===== PART A: goes FIRST, ahead of the names: the tables' words, and 'selects' of the private methods out of them =====
/-- a private method of a class that the tables say can be made, by its rows of tables_1 -/
def lw_okq (q : MethodName × Nat) : Prop := (q.1.cls ≠ "java/lang/invoke/MethodHandle" ∧ q.1.cls ≠ "java/lang/invoke/VarHandle") ∧ Cond.instantiable q.1.cls q.2 ∈ tables_1 ∧ Cond.privateMethod q.1 ∈ tables_1 ∧ Cond.instanceMethod q.1 ∈ tables_1
theorem lw_p0 : lw_okq (⟨"SignedBridge$Tokens", "readWord", "()V"⟩, 13) := ⟨⟨by decide +kernel, by decide +kernel⟩, List.mem_of_getElem? (i := 38) (by decide +kernel), List.mem_of_getElem? (i := 631) (by decide +kernel), List.mem_of_getElem? (i := 632) (by decide +kernel)⟩
theorem lw_p1 : lw_okq (⟨"SignedBridge$Tokens", "readNumber", "()V"⟩, 13) := ⟨⟨by decide +kernel, by decide +kernel⟩, List.mem_of_getElem? (i := 38) (by decide +kernel), List.mem_of_getElem? (i := 677) (by decide +kernel), List.mem_of_getElem? (i := 678) (by decide +kernel)⟩
theorem lw_p2 : lw_okq (⟨"SignedBridge$BridgeText", "readLine", "(LSignedBridge$Tokens;)Z"⟩, 5) := ⟨⟨by decide +kernel, by decide +kernel⟩, List.mem_of_getElem? (i := 102) (by decide +kernel), List.mem_of_getElem? (i := 681) (by decide +kernel), List.mem_of_getElem? (i := 682) (by decide +kernel)⟩
theorem lw_p3 : lw_okq (⟨"SignedBridge$BridgeText", "readRows", "(LSignedBridge$Tokens;)Z"⟩, 5) := ⟨⟨by decide +kernel, by decide +kernel⟩, List.mem_of_getElem? (i := 102) (by decide +kernel), List.mem_of_getElem? (i := 693) (by decide +kernel), List.mem_of_getElem? (i := 694) (by decide +kernel)⟩
theorem lw_p4 : lw_okq (⟨"SignedBridge$BridgeText", "readSigner", "(LSignedBridge$Tokens;)Z"⟩, 5) := ⟨⟨by decide +kernel, by decide +kernel⟩, List.mem_of_getElem? (i := 102) (by decide +kernel), List.mem_of_getElem? (i := 703) (by decide +kernel), List.mem_of_getElem? (i := 704) (by decide +kernel)⟩
theorem lw_p5 : lw_okq (⟨"SignedBridge$BridgeText", "readHeir", "(LSignedBridge$Tokens;)Z"⟩, 5) := ⟨⟨by decide +kernel, by decide +kernel⟩, List.mem_of_getElem? (i := 102) (by decide +kernel), List.mem_of_getElem? (i := 723) (by decide +kernel), List.mem_of_getElem? (i := 724) (by decide +kernel)⟩
theorem lw_p6 : lw_okq (⟨"SignedBridge$BridgeText", "readLovers", "(LSignedBridge$Tokens;)Z"⟩, 5) := ⟨⟨by decide +kernel, by decide +kernel⟩, List.mem_of_getElem? (i := 102) (by decide +kernel), List.mem_of_getElem? (i := 732) (by decide +kernel), List.mem_of_getElem? (i := 733) (by decide +kernel)⟩
theorem lw_p7 : lw_okq (⟨"SignedBridge$BridgeText", "readPlank", "(LSignedBridge$Tokens;)Z"⟩, 5) := ⟨⟨by decide +kernel, by decide +kernel⟩, List.mem_of_getElem? (i := 102) (by decide +kernel), List.mem_of_getElem? (i := 740) (by decide +kernel), List.mem_of_getElem? (i := 741) (by decide +kernel)⟩
theorem lw_p8 : lw_okq (⟨"SignedBridge$BridgeText", "readLoad", "(LSignedBridge$Tokens;)Z"⟩, 5) := ⟨⟨by decide +kernel, by decide +kernel⟩, List.mem_of_getElem? (i := 102) (by decide +kernel), List.mem_of_getElem? (i := 748) (by decide +kernel), List.mem_of_getElem? (i := 749) (by decide +kernel)⟩
theorem lw_p9 : lw_okq (⟨"SignedBridge$BridgeText", "readKeeps", "(LSignedBridge$Tokens;)Z"⟩, 5) := ⟨⟨by decide +kernel, by decide +kernel⟩, List.mem_of_getElem? (i := 102) (by decide +kernel), List.mem_of_getElem? (i := 752) (by decide +kernel), List.mem_of_getElem? (i := 753) (by decide +kernel)⟩
theorem lw_p10 : lw_okq (⟨"SignedBridge$Ways", "weigh", "(LSignedBridge$Plan;LSignedBridge$State;)V"⟩, 4) := ⟨⟨by decide +kernel, by decide +kernel⟩, List.mem_of_getElem? (i := 370) (by decide +kernel), List.mem_of_getElem? (i := 813) (by decide +kernel), List.mem_of_getElem? (i := 814) (by decide +kernel)⟩
theorem lw_p11 : lw_okq (⟨"SignedBridge", "isSigner", "(I)Z"⟩, 20) := ⟨⟨by decide +kernel, by decide +kernel⟩, List.mem_of_getElem? (i := 30) (by decide +kernel), List.mem_of_getElem? (i := 828) (by decide +kernel), List.mem_of_getElem? (i := 829) (by decide +kernel)⟩
theorem lw_p12 : lw_okq (⟨"SignedBridge", "isPlace", "(II)Z"⟩, 20) := ⟨⟨by decide +kernel, by decide +kernel⟩, List.mem_of_getElem? (i := 30) (by decide +kernel), List.mem_of_getElem? (i := 832) (by decide +kernel), List.mem_of_getElem? (i := 833) (by decide +kernel)⟩
theorem lw_p13 : lw_okq (⟨"SignedBridge", "isRow", "(I)Z"⟩, 20) := ⟨⟨by decide +kernel, by decide +kernel⟩, List.mem_of_getElem? (i := 30) (by decide +kernel), List.mem_of_getElem? (i := 836) (by decide +kernel), List.mem_of_getElem? (i := 837) (by decide +kernel)⟩
theorem lw_p14 : lw_okq (⟨"SignedBridge", "rememberState", "()V"⟩, 20) := ⟨⟨by decide +kernel, by decide +kernel⟩, List.mem_of_getElem? (i := 30) (by decide +kernel), List.mem_of_getElem? (i := 840) (by decide +kernel), List.mem_of_getElem? (i := 841) (by decide +kernel)⟩
theorem lw_p15 : lw_okq (⟨"SignedBridge", "keepIfDone", "(I)I"⟩, 20) := ⟨⟨by decide +kernel, by decide +kernel⟩, List.mem_of_getElem? (i := 30) (by decide +kernel), List.mem_of_getElem? (i := 852) (by decide +kernel), List.mem_of_getElem? (i := 853) (by decide +kernel)⟩
def lw_privs_1 : List (MethodName × Nat) := [(⟨"SignedBridge$Tokens", "readWord", "()V"⟩, 13), (⟨"SignedBridge$Tokens", "readNumber", "()V"⟩, 13), (⟨"SignedBridge$BridgeText", "readLine", "(LSignedBridge$Tokens;)Z"⟩, 5), (⟨"SignedBridge$BridgeText", "readRows", "(LSignedBridge$Tokens;)Z"⟩, 5), (⟨"SignedBridge$BridgeText", "readSigner", "(LSignedBridge$Tokens;)Z"⟩, 5), (⟨"SignedBridge$BridgeText", "readHeir", "(LSignedBridge$Tokens;)Z"⟩, 5), (⟨"SignedBridge$BridgeText", "readLovers", "(LSignedBridge$Tokens;)Z"⟩, 5), (⟨"SignedBridge$BridgeText", "readPlank", "(LSignedBridge$Tokens;)Z"⟩, 5), (⟨"SignedBridge$BridgeText", "readLoad", "(LSignedBridge$Tokens;)Z"⟩, 5), (⟨"SignedBridge$BridgeText", "readKeeps", "(LSignedBridge$Tokens;)Z"⟩, 5), (⟨"SignedBridge$Ways", "weigh", "(LSignedBridge$Plan;LSignedBridge$State;)V"⟩, 4), (⟨"SignedBridge", "isSigner", "(I)Z"⟩, 20), (⟨"SignedBridge", "isPlace", "(II)Z"⟩, 20), (⟨"SignedBridge", "isRow", "(I)Z"⟩, 20), (⟨"SignedBridge", "rememberState", "()V"⟩, 20), (⟨"SignedBridge", "keepIfDone", "(I)I"⟩, 20)]
theorem lw_r1 : ∀ q ∈ lw_privs_1, lw_okq q := List.forall_mem_cons.mpr ⟨lw_p0, List.forall_mem_cons.mpr ⟨lw_p1, List.forall_mem_cons.mpr ⟨lw_p2, List.forall_mem_cons.mpr ⟨lw_p3, List.forall_mem_cons.mpr ⟨lw_p4, List.forall_mem_cons.mpr ⟨lw_p5, List.forall_mem_cons.mpr ⟨lw_p6, List.forall_mem_cons.mpr ⟨lw_p7, List.forall_mem_cons.mpr ⟨lw_p8, List.forall_mem_cons.mpr ⟨lw_p9, List.forall_mem_cons.mpr ⟨lw_p10, List.forall_mem_cons.mpr ⟨lw_p11, List.forall_mem_cons.mpr ⟨lw_p12, List.forall_mem_cons.mpr ⟨lw_p13, List.forall_mem_cons.mpr ⟨lw_p14, List.forall_mem_cons.mpr ⟨lw_p15, fun _ h => absurd h List.not_mem_nil⟩⟩⟩⟩⟩⟩⟩⟩⟩⟩⟩⟩⟩⟩⟩⟩
theorem lw_p16 : lw_okq (⟨"SignedBridge", "keepRemembered", "()V"⟩, 20) := ⟨⟨by decide +kernel, by decide +kernel⟩, List.mem_of_getElem? (i := 30) (by decide +kernel), List.mem_of_getElem? (i := 856) (by decide +kernel), List.mem_of_getElem? (i := 857) (by decide +kernel)⟩
theorem lw_p17 : lw_okq (⟨"SignedBridge$State", "singe", "(I)V"⟩, 9) := ⟨⟨by decide +kernel, by decide +kernel⟩, List.mem_of_getElem? (i := 249) (by decide +kernel), List.mem_of_getElem? (i := 873) (by decide +kernel), List.mem_of_getElem? (i := 874) (by decide +kernel)⟩
theorem lw_p18 : lw_okq (⟨"SignedBridge", "isLoad", "(I)Z"⟩, 20) := ⟨⟨by decide +kernel, by decide +kernel⟩, List.mem_of_getElem? (i := 30) (by decide +kernel), List.mem_of_getElem? (i := 905) (by decide +kernel), List.mem_of_getElem? (i := 906) (by decide +kernel)⟩
theorem lw_p19 : lw_okq (⟨"SignedBridge$Ways", "lostRow", "(LSignedBridge$Plan;I)I"⟩, 4) := ⟨⟨by decide +kernel, by decide +kernel⟩, List.mem_of_getElem? (i := 370) (by decide +kernel), List.mem_of_getElem? (i := 913) (by decide +kernel), List.mem_of_getElem? (i := 914) (by decide +kernel)⟩
theorem lw_p20 : lw_okq (⟨"SignedBridge$Ways", "bearTogether", "(III)I"⟩, 4) := ⟨⟨by decide +kernel, by decide +kernel⟩, List.mem_of_getElem? (i := 370) (by decide +kernel), List.mem_of_getElem? (i := 921) (by decide +kernel), List.mem_of_getElem? (i := 922) (by decide +kernel)⟩
theorem lw_p21 : lw_okq (⟨"SignedBridge$Ways", "dropPlanks", "(LSignedBridge$State;II)V"⟩, 4) := ⟨⟨by decide +kernel, by decide +kernel⟩, List.mem_of_getElem? (i := 370) (by decide +kernel), List.mem_of_getElem? (i := 927) (by decide +kernel), List.mem_of_getElem? (i := 928) (by decide +kernel)⟩
theorem lw_p22 : lw_okq (⟨"SignedBridge$State", "handDown", "(II)V"⟩, 9) := ⟨⟨by decide +kernel, by decide +kernel⟩, List.mem_of_getElem? (i := 249) (by decide +kernel), List.mem_of_getElem? (i := 944) (by decide +kernel), List.mem_of_getElem? (i := 945) (by decide +kernel)⟩
theorem lw_p23 : lw_okq (⟨"SignedBridge$Ways", "spareSteps", "(IIIZ)V"⟩, 4) := ⟨⟨by decide +kernel, by decide +kernel⟩, List.mem_of_getElem? (i := 370) (by decide +kernel), List.mem_of_getElem? (i := 960) (by decide +kernel), List.mem_of_getElem? (i := 961) (by decide +kernel)⟩
theorem lw_p24 : lw_okq (⟨"SignedBridge$Ways", "greatestLeast", "(I)I"⟩, 4) := ⟨⟨by decide +kernel, by decide +kernel⟩, List.mem_of_getElem? (i := 370) (by decide +kernel), List.mem_of_getElem? (i := 964) (by decide +kernel), List.mem_of_getElem? (i := 965) (by decide +kernel)⟩
theorem lw_p25 : lw_okq (⟨"SignedBridge$Ways", "bestOpen", "(II)I"⟩, 4) := ⟨⟨by decide +kernel, by decide +kernel⟩, List.mem_of_getElem? (i := 370) (by decide +kernel), List.mem_of_getElem? (i := 968) (by decide +kernel), List.mem_of_getElem? (i := 969) (by decide +kernel)⟩
theorem lw_p26 : lw_okq (⟨"SignedBridge$Ways", "followFirst", "(II)V"⟩, 4) := ⟨⟨by decide +kernel, by decide +kernel⟩, List.mem_of_getElem? (i := 370) (by decide +kernel), List.mem_of_getElem? (i := 973) (by decide +kernel), List.mem_of_getElem? (i := 974) (by decide +kernel)⟩
theorem lw_p27 : lw_okq (⟨"SignedBridge$Asks", "price", "(LSignedBridge$Plan;LSignedBridge$State;III)I"⟩, 5) := ⟨⟨by decide +kernel, by decide +kernel⟩, List.mem_of_getElem? (i := 391) (by decide +kernel), List.mem_of_getElem? (i := 998) (by decide +kernel), List.mem_of_getElem? (i := 999) (by decide +kernel)⟩
theorem lw_p28 : lw_okq (⟨"SignedBridge$Asks", "countWays", "(LSignedBridge$Plan;LSignedBridge$State;II)I"⟩, 5) := ⟨⟨by decide +kernel, by decide +kernel⟩, List.mem_of_getElem? (i := 391) (by decide +kernel), List.mem_of_getElem? (i := 1003) (by decide +kernel), List.mem_of_getElem? (i := 1004) (by decide +kernel)⟩
theorem lw_p29 : lw_okq (⟨"SignedBridge$Asks", "tryWay", "(LSignedBridge$Plan;LSignedBridge$State;III)I"⟩, 5) := ⟨⟨by decide +kernel, by decide +kernel⟩, List.mem_of_getElem? (i := 391) (by decide +kernel), List.mem_of_getElem? (i := 1007) (by decide +kernel), List.mem_of_getElem? (i := 1008) (by decide +kernel)⟩
theorem lw_p30 : lw_okq (⟨"SignedBridge$Asks", "bearTogether", "(LSignedBridge$Plan;II)I"⟩, 5) := ⟨⟨by decide +kernel, by decide +kernel⟩, List.mem_of_getElem? (i := 391) (by decide +kernel), List.mem_of_getElem? (i := 1012) (by decide +kernel), List.mem_of_getElem? (i := 1013) (by decide +kernel)⟩
theorem lw_p31 : lw_okq (⟨"SignedBridge$Asks", "addUp", "(I)I"⟩, 5) := ⟨⟨by decide +kernel, by decide +kernel⟩, List.mem_of_getElem? (i := 391) (by decide +kernel), List.mem_of_getElem? (i := 1018) (by decide +kernel), List.mem_of_getElem? (i := 1019) (by decide +kernel)⟩
def lw_privs_2 : List (MethodName × Nat) := [(⟨"SignedBridge", "keepRemembered", "()V"⟩, 20), (⟨"SignedBridge$State", "singe", "(I)V"⟩, 9), (⟨"SignedBridge", "isLoad", "(I)Z"⟩, 20), (⟨"SignedBridge$Ways", "lostRow", "(LSignedBridge$Plan;I)I"⟩, 4), (⟨"SignedBridge$Ways", "bearTogether", "(III)I"⟩, 4), (⟨"SignedBridge$Ways", "dropPlanks", "(LSignedBridge$State;II)V"⟩, 4), (⟨"SignedBridge$State", "handDown", "(II)V"⟩, 9), (⟨"SignedBridge$Ways", "spareSteps", "(IIIZ)V"⟩, 4), (⟨"SignedBridge$Ways", "greatestLeast", "(I)I"⟩, 4), (⟨"SignedBridge$Ways", "bestOpen", "(II)I"⟩, 4), (⟨"SignedBridge$Ways", "followFirst", "(II)V"⟩, 4), (⟨"SignedBridge$Asks", "price", "(LSignedBridge$Plan;LSignedBridge$State;III)I"⟩, 5), (⟨"SignedBridge$Asks", "countWays", "(LSignedBridge$Plan;LSignedBridge$State;II)I"⟩, 5), (⟨"SignedBridge$Asks", "tryWay", "(LSignedBridge$Plan;LSignedBridge$State;III)I"⟩, 5), (⟨"SignedBridge$Asks", "bearTogether", "(LSignedBridge$Plan;II)I"⟩, 5), (⟨"SignedBridge$Asks", "addUp", "(I)I"⟩, 5)]
theorem lw_r2 : ∀ q ∈ lw_privs_2, lw_okq q := List.forall_mem_cons.mpr ⟨lw_p16, List.forall_mem_cons.mpr ⟨lw_p17, List.forall_mem_cons.mpr ⟨lw_p18, List.forall_mem_cons.mpr ⟨lw_p19, List.forall_mem_cons.mpr ⟨lw_p20, List.forall_mem_cons.mpr ⟨lw_p21, List.forall_mem_cons.mpr ⟨lw_p22, List.forall_mem_cons.mpr ⟨lw_p23, List.forall_mem_cons.mpr ⟨lw_p24, List.forall_mem_cons.mpr ⟨lw_p25, List.forall_mem_cons.mpr ⟨lw_p26, List.forall_mem_cons.mpr ⟨lw_p27, List.forall_mem_cons.mpr ⟨lw_p28, List.forall_mem_cons.mpr ⟨lw_p29, List.forall_mem_cons.mpr ⟨lw_p30, List.forall_mem_cons.mpr ⟨lw_p31, fun _ h => absurd h List.not_mem_nil⟩⟩⟩⟩⟩⟩⟩⟩⟩⟩⟩⟩⟩⟩⟩⟩
theorem lw_p32 : lw_okq (⟨"SignedBridge$Asks", "leastOpen", "(II)I"⟩, 5) := ⟨⟨by decide +kernel, by decide +kernel⟩, List.mem_of_getElem? (i := 391) (by decide +kernel), List.mem_of_getElem? (i := 1023) (by decide +kernel), List.mem_of_getElem? (i := 1024) (by decide +kernel)⟩
theorem lw_p33 : lw_okq (⟨"SignedBridge$Asks", "followFirst", "(LSignedBridge$Plan;LSignedBridge$State;I)V"⟩, 5) := ⟨⟨by decide +kernel, by decide +kernel⟩, List.mem_of_getElem? (i := 391) (by decide +kernel), List.mem_of_getElem? (i := 1028) (by decide +kernel), List.mem_of_getElem? (i := 1029) (by decide +kernel)⟩
theorem lw_p34 : lw_okq (⟨"SignedBridge$Cut", "stepsWithout", "(LSignedBridge$Plan;LSignedBridge$State;LSignedBridge$Ways;III)I"⟩, 5) := ⟨⟨by decide +kernel, by decide +kernel⟩, List.mem_of_getElem? (i := 417) (by decide +kernel), List.mem_of_getElem? (i := 1071) (by decide +kernel), List.mem_of_getElem? (i := 1072) (by decide +kernel)⟩
theorem lw_p35 : lw_okq (⟨"SignedBridge$Cut", "fillNeed", "(I)V"⟩, 5) := ⟨⟨by decide +kernel, by decide +kernel⟩, List.mem_of_getElem? (i := 417) (by decide +kernel), List.mem_of_getElem? (i := 1081) (by decide +kernel), List.mem_of_getElem? (i := 1082) (by decide +kernel)⟩
theorem lw_p36 : lw_okq (⟨"SignedBridge$Cut", "needWith", "(III)I"⟩, 5) := ⟨⟨by decide +kernel, by decide +kernel⟩, List.mem_of_getElem? (i := 417) (by decide +kernel), List.mem_of_getElem? (i := 1085) (by decide +kernel), List.mem_of_getElem? (i := 1086) (by decide +kernel)⟩
theorem lw_p37 : lw_okq (⟨"SignedBridge$Cut", "followFirst", "(II)V"⟩, 5) := ⟨⟨by decide +kernel, by decide +kernel⟩, List.mem_of_getElem? (i := 417) (by decide +kernel), List.mem_of_getElem? (i := 1092) (by decide +kernel), List.mem_of_getElem? (i := 1093) (by decide +kernel)⟩
theorem lw_p38 : lw_okq (⟨"SignedBridge$Cut", "addPlaces", "(II)V"⟩, 5) := ⟨⟨by decide +kernel, by decide +kernel⟩, List.mem_of_getElem? (i := 417) (by decide +kernel), List.mem_of_getElem? (i := 1098) (by decide +kernel), List.mem_of_getElem? (i := 1099) (by decide +kernel)⟩
theorem lw_p39 : lw_okq (⟨"SignedBridge$Forecast", "nextLoad", "(LSignedBridge$Plan;LSignedBridge$Ways;II)I"⟩, 5) := ⟨⟨by decide +kernel, by decide +kernel⟩, List.mem_of_getElem? (i := 467) (by decide +kernel), List.mem_of_getElem? (i := 1114) (by decide +kernel), List.mem_of_getElem? (i := 1115) (by decide +kernel)⟩
theorem lw_p40 : lw_okq (⟨"SignedBridge$Forgers", "isAsTold", "(LSignedBridge$Plan;LSignedBridge$Tokens;)Z"⟩, 5) := ⟨⟨by decide +kernel, by decide +kernel⟩, List.mem_of_getElem? (i := 443) (by decide +kernel), List.mem_of_getElem? (i := 1131) (by decide +kernel), List.mem_of_getElem? (i := 1132) (by decide +kernel)⟩
theorem lw_p41 : lw_okq (⟨"SignedBridge$Forgers", "weighForged", "(LSignedBridge$Plan;LSignedBridge$State;LSignedBridge$Ways;)V"⟩, 5) := ⟨⟨by decide +kernel, by decide +kernel⟩, List.mem_of_getElem? (i := 443) (by decide +kernel), List.mem_of_getElem? (i := 1135) (by decide +kernel), List.mem_of_getElem? (i := 1136) (by decide +kernel)⟩
theorem lw_p42 : lw_okq (⟨"SignedBridge$Forgers", "markForged", "(LSignedBridge$Plan;LSignedBridge$State;I)V"⟩, 5) := ⟨⟨by decide +kernel, by decide +kernel⟩, List.mem_of_getElem? (i := 443) (by decide +kernel), List.mem_of_getElem? (i := 1142) (by decide +kernel), List.mem_of_getElem? (i := 1143) (by decide +kernel)⟩
theorem lw_p43 : lw_okq (⟨"SignedBridge$Forgers", "ableLoads", "(LSignedBridge$Plan;)I"⟩, 5) := ⟨⟨by decide +kernel, by decide +kernel⟩, List.mem_of_getElem? (i := 443) (by decide +kernel), List.mem_of_getElem? (i := 1146) (by decide +kernel), List.mem_of_getElem? (i := 1147) (by decide +kernel)⟩
theorem lw_p44 : lw_okq (⟨"SignedBridge$Forgers", "agrees", "(LSignedBridge$Tokens;I)Z"⟩, 5) := ⟨⟨by decide +kernel, by decide +kernel⟩, List.mem_of_getElem? (i := 443) (by decide +kernel), List.mem_of_getElem? (i := 1151) (by decide +kernel), List.mem_of_getElem? (i := 1152) (by decide +kernel)⟩
theorem lw_p45 : lw_okq (⟨"SignedBridge$Forgers", "addAble", "(LSignedBridge$Plan;I)V"⟩, 5) := ⟨⟨by decide +kernel, by decide +kernel⟩, List.mem_of_getElem? (i := 443) (by decide +kernel), List.mem_of_getElem? (i := 1155) (by decide +kernel), List.mem_of_getElem? (i := 1156) (by decide +kernel)⟩
theorem lw_p46 : lw_okq (⟨"SignedBridge$Forgers", "mostTelling", "(LSignedBridge$Plan;I)I"⟩, 5) := ⟨⟨by decide +kernel, by decide +kernel⟩, List.mem_of_getElem? (i := 443) (by decide +kernel), List.mem_of_getElem? (i := 1159) (by decide +kernel), List.mem_of_getElem? (i := 1160) (by decide +kernel)⟩
theorem lw_p47 : lw_okq (⟨"SignedBridge", "writeName", "(J)V"⟩, 20) := ⟨⟨by decide +kernel, by decide +kernel⟩, List.mem_of_getElem? (i := 30) (by decide +kernel), List.mem_of_getElem? (i := 1343) (by decide +kernel), List.mem_of_getElem? (i := 1344) (by decide +kernel)⟩
def lw_privs_3 : List (MethodName × Nat) := [(⟨"SignedBridge$Asks", "leastOpen", "(II)I"⟩, 5), (⟨"SignedBridge$Asks", "followFirst", "(LSignedBridge$Plan;LSignedBridge$State;I)V"⟩, 5), (⟨"SignedBridge$Cut", "stepsWithout", "(LSignedBridge$Plan;LSignedBridge$State;LSignedBridge$Ways;III)I"⟩, 5), (⟨"SignedBridge$Cut", "fillNeed", "(I)V"⟩, 5), (⟨"SignedBridge$Cut", "needWith", "(III)I"⟩, 5), (⟨"SignedBridge$Cut", "followFirst", "(II)V"⟩, 5), (⟨"SignedBridge$Cut", "addPlaces", "(II)V"⟩, 5), (⟨"SignedBridge$Forecast", "nextLoad", "(LSignedBridge$Plan;LSignedBridge$Ways;II)I"⟩, 5), (⟨"SignedBridge$Forgers", "isAsTold", "(LSignedBridge$Plan;LSignedBridge$Tokens;)Z"⟩, 5), (⟨"SignedBridge$Forgers", "weighForged", "(LSignedBridge$Plan;LSignedBridge$State;LSignedBridge$Ways;)V"⟩, 5), (⟨"SignedBridge$Forgers", "markForged", "(LSignedBridge$Plan;LSignedBridge$State;I)V"⟩, 5), (⟨"SignedBridge$Forgers", "ableLoads", "(LSignedBridge$Plan;)I"⟩, 5), (⟨"SignedBridge$Forgers", "agrees", "(LSignedBridge$Tokens;I)Z"⟩, 5), (⟨"SignedBridge$Forgers", "addAble", "(LSignedBridge$Plan;I)V"⟩, 5), (⟨"SignedBridge$Forgers", "mostTelling", "(LSignedBridge$Plan;I)I"⟩, 5), (⟨"SignedBridge", "writeName", "(J)V"⟩, 20)]
theorem lw_r3 : ∀ q ∈ lw_privs_3, lw_okq q := List.forall_mem_cons.mpr ⟨lw_p32, List.forall_mem_cons.mpr ⟨lw_p33, List.forall_mem_cons.mpr ⟨lw_p34, List.forall_mem_cons.mpr ⟨lw_p35, List.forall_mem_cons.mpr ⟨lw_p36, List.forall_mem_cons.mpr ⟨lw_p37, List.forall_mem_cons.mpr ⟨lw_p38, List.forall_mem_cons.mpr ⟨lw_p39, List.forall_mem_cons.mpr ⟨lw_p40, List.forall_mem_cons.mpr ⟨lw_p41, List.forall_mem_cons.mpr ⟨lw_p42, List.forall_mem_cons.mpr ⟨lw_p43, List.forall_mem_cons.mpr ⟨lw_p44, List.forall_mem_cons.mpr ⟨lw_p45, List.forall_mem_cons.mpr ⟨lw_p46, List.forall_mem_cons.mpr ⟨lw_p47, fun _ h => absurd h List.not_mem_nil⟩⟩⟩⟩⟩⟩⟩⟩⟩⟩⟩⟩⟩⟩⟩⟩
theorem lw_p48 : lw_okq (⟨"SignedBridge$Forecast", "drawDeed", "(LSignedBridge$Plan;LSignedBridge$State;I)V"⟩, 5) := ⟨⟨by decide +kernel, by decide +kernel⟩, List.mem_of_getElem? (i := 467) (by decide +kernel), List.mem_of_getElem? (i := 1377) (by decide +kernel), List.mem_of_getElem? (i := 1378) (by decide +kernel)⟩
theorem lw_p49 : lw_okq (⟨"SignedBridge$Forecast", "draw", "(I)I"⟩, 5) := ⟨⟨by decide +kernel, by decide +kernel⟩, List.mem_of_getElem? (i := 467) (by decide +kernel), List.mem_of_getElem? (i := 1381) (by decide +kernel), List.mem_of_getElem? (i := 1382) (by decide +kernel)⟩
theorem lw_p50 : lw_okq (⟨"SignedBridge$Book", "readLine", "(LSignedBridge$Tokens;LSignedBridge$Plan;)Z"⟩, 6) := ⟨⟨by decide +kernel, by decide +kernel⟩, List.mem_of_getElem? (i := 344) (by decide +kernel), List.mem_of_getElem? (i := 1408) (by decide +kernel), List.mem_of_getElem? (i := 1409) (by decide +kernel)⟩
theorem lw_p51 : lw_okq (⟨"SignedBridge$Book", "readPlace", "(LSignedBridge$Tokens;)Z"⟩, 6) := ⟨⟨by decide +kernel, by decide +kernel⟩, List.mem_of_getElem? (i := 344) (by decide +kernel), List.mem_of_getElem? (i := 1420) (by decide +kernel), List.mem_of_getElem? (i := 1421) (by decide +kernel)⟩
theorem lw_p52 : lw_okq (⟨"SignedBridge$Book", "readDays", "(LSignedBridge$Tokens;)Z"⟩, 6) := ⟨⟨by decide +kernel, by decide +kernel⟩, List.mem_of_getElem? (i := 344) (by decide +kernel), List.mem_of_getElem? (i := 1425) (by decide +kernel), List.mem_of_getElem? (i := 1426) (by decide +kernel)⟩
theorem lw_p53 : lw_okq (⟨"SignedBridge$Book", "liveLine", "(LSignedBridge$Plan;LSignedBridge$State;LSignedBridge$Ways;I)I"⟩, 6) := ⟨⟨by decide +kernel, by decide +kernel⟩, List.mem_of_getElem? (i := 344) (by decide +kernel), List.mem_of_getElem? (i := 1435) (by decide +kernel), List.mem_of_getElem? (i := 1436) (by decide +kernel)⟩
theorem lw_p54 : lw_okq (⟨"SignedBridge$Sentence", "readOne", "(LSignedBridge$Tokens;LSignedBridge$Plan;)Z"⟩, 9) := ⟨⟨by decide +kernel, by decide +kernel⟩, List.mem_of_getElem? (i := 309) (by decide +kernel), List.mem_of_getElem? (i := 1463) (by decide +kernel), List.mem_of_getElem? (i := 1464) (by decide +kernel)⟩
theorem lw_p55 : lw_okq (⟨"SignedBridge$Sentence", "readSaying", "(LSignedBridge$Tokens;LSignedBridge$Plan;)Z"⟩, 9) := ⟨⟨by decide +kernel, by decide +kernel⟩, List.mem_of_getElem? (i := 309) (by decide +kernel), List.mem_of_getElem? (i := 1473) (by decide +kernel), List.mem_of_getElem? (i := 1474) (by decide +kernel)⟩
theorem lw_p56 : lw_okq (⟨"SignedBridge$Sentence", "put", "(III)V"⟩, 9) := ⟨⟨by decide +kernel, by decide +kernel⟩, List.mem_of_getElem? (i := 309) (by decide +kernel), List.mem_of_getElem? (i := 1483) (by decide +kernel), List.mem_of_getElem? (i := 1484) (by decide +kernel)⟩
theorem lw_p57 : lw_okq (⟨"SignedBridge$Sentence", "settleNots", "()Z"⟩, 9) := ⟨⟨by decide +kernel, by decide +kernel⟩, List.mem_of_getElem? (i := 309) (by decide +kernel), List.mem_of_getElem? (i := 1487) (by decide +kernel), List.mem_of_getElem? (i := 1488) (by decide +kernel)⟩
theorem lw_p58 : lw_okq (⟨"SignedBridge$Sentence", "delay", "(I)V"⟩, 9) := ⟨⟨by decide +kernel, by decide +kernel⟩, List.mem_of_getElem? (i := 309) (by decide +kernel), List.mem_of_getElem? (i := 1491) (by decide +kernel), List.mem_of_getElem? (i := 1492) (by decide +kernel)⟩
theorem lw_p59 : lw_okq (⟨"SignedBridge$Sentence", "closeBrackets", "(LSignedBridge$Tokens;)V"⟩, 9) := ⟨⟨by decide +kernel, by decide +kernel⟩, List.mem_of_getElem? (i := 309) (by decide +kernel), List.mem_of_getElem? (i := 1495) (by decide +kernel), List.mem_of_getElem? (i := 1496) (by decide +kernel)⟩
theorem lw_p60 : lw_okq (⟨"SignedBridge$Sentence", "settle", "(I)V"⟩, 9) := ⟨⟨by decide +kernel, by decide +kernel⟩, List.mem_of_getElem? (i := 309) (by decide +kernel), List.mem_of_getElem? (i := 1499) (by decide +kernel), List.mem_of_getElem? (i := 1500) (by decide +kernel)⟩
theorem lw_p61 : lw_okq (⟨"SignedBridge$Sentence", "readJoin", "(LSignedBridge$Tokens;)Z"⟩, 9) := ⟨⟨by decide +kernel, by decide +kernel⟩, List.mem_of_getElem? (i := 309) (by decide +kernel), List.mem_of_getElem? (i := 1503) (by decide +kernel), List.mem_of_getElem? (i := 1504) (by decide +kernel)⟩
theorem lw_p62 : lw_okq (⟨"SignedBridge$Sentence", "sayOfAll", "(LSignedBridge$Plan;LSignedBridge$State;I)I"⟩, 9) := ⟨⟨by decide +kernel, by decide +kernel⟩, List.mem_of_getElem? (i := 309) (by decide +kernel), List.mem_of_getElem? (i := 1516) (by decide +kernel), List.mem_of_getElem? (i := 1517) (by decide +kernel)⟩
theorem lw_p63 : lw_okq (⟨"SignedBridge$Sentence", "isTrueOf", "(LSignedBridge$Plan;LSignedBridge$State;II)Z"⟩, 9) := ⟨⟨by decide +kernel, by decide +kernel⟩, List.mem_of_getElem? (i := 309) (by decide +kernel), List.mem_of_getElem? (i := 1520) (by decide +kernel), List.mem_of_getElem? (i := 1521) (by decide +kernel)⟩
def lw_privs_4 : List (MethodName × Nat) := [(⟨"SignedBridge$Forecast", "drawDeed", "(LSignedBridge$Plan;LSignedBridge$State;I)V"⟩, 5), (⟨"SignedBridge$Forecast", "draw", "(I)I"⟩, 5), (⟨"SignedBridge$Book", "readLine", "(LSignedBridge$Tokens;LSignedBridge$Plan;)Z"⟩, 6), (⟨"SignedBridge$Book", "readPlace", "(LSignedBridge$Tokens;)Z"⟩, 6), (⟨"SignedBridge$Book", "readDays", "(LSignedBridge$Tokens;)Z"⟩, 6), (⟨"SignedBridge$Book", "liveLine", "(LSignedBridge$Plan;LSignedBridge$State;LSignedBridge$Ways;I)I"⟩, 6), (⟨"SignedBridge$Sentence", "readOne", "(LSignedBridge$Tokens;LSignedBridge$Plan;)Z"⟩, 9), (⟨"SignedBridge$Sentence", "readSaying", "(LSignedBridge$Tokens;LSignedBridge$Plan;)Z"⟩, 9), (⟨"SignedBridge$Sentence", "put", "(III)V"⟩, 9), (⟨"SignedBridge$Sentence", "settleNots", "()Z"⟩, 9), (⟨"SignedBridge$Sentence", "delay", "(I)V"⟩, 9), (⟨"SignedBridge$Sentence", "closeBrackets", "(LSignedBridge$Tokens;)V"⟩, 9), (⟨"SignedBridge$Sentence", "settle", "(I)V"⟩, 9), (⟨"SignedBridge$Sentence", "readJoin", "(LSignedBridge$Tokens;)Z"⟩, 9), (⟨"SignedBridge$Sentence", "sayOfAll", "(LSignedBridge$Plan;LSignedBridge$State;I)I"⟩, 9), (⟨"SignedBridge$Sentence", "isTrueOf", "(LSignedBridge$Plan;LSignedBridge$State;II)Z"⟩, 9)]
theorem lw_r4 : ∀ q ∈ lw_privs_4, lw_okq q := List.forall_mem_cons.mpr ⟨lw_p48, List.forall_mem_cons.mpr ⟨lw_p49, List.forall_mem_cons.mpr ⟨lw_p50, List.forall_mem_cons.mpr ⟨lw_p51, List.forall_mem_cons.mpr ⟨lw_p52, List.forall_mem_cons.mpr ⟨lw_p53, List.forall_mem_cons.mpr ⟨lw_p54, List.forall_mem_cons.mpr ⟨lw_p55, List.forall_mem_cons.mpr ⟨lw_p56, List.forall_mem_cons.mpr ⟨lw_p57, List.forall_mem_cons.mpr ⟨lw_p58, List.forall_mem_cons.mpr ⟨lw_p59, List.forall_mem_cons.mpr ⟨lw_p60, List.forall_mem_cons.mpr ⟨lw_p61, List.forall_mem_cons.mpr ⟨lw_p62, List.forall_mem_cons.mpr ⟨lw_p63, fun _ h => absurd h List.not_mem_nil⟩⟩⟩⟩⟩⟩⟩⟩⟩⟩⟩⟩⟩⟩⟩⟩
theorem lw_p64 : lw_okq (⟨"SignedBridge$Sentence", "compares", "(II)Z"⟩, 9) := ⟨⟨by decide +kernel, by decide +kernel⟩, List.mem_of_getElem? (i := 309) (by decide +kernel), List.mem_of_getElem? (i := 1529) (by decide +kernel), List.mem_of_getElem? (i := 1530) (by decide +kernel)⟩
theorem lw_p65 : lw_okq (⟨"java/lang/Throwable", "fillInStackTrace", "(I)Ljava/lang/Throwable;"⟩, 6) := ⟨⟨by decide +kernel, by decide +kernel⟩, List.mem_of_getElem? (i := 1594) (by decide +kernel), List.mem_of_getElem? (i := 1592) (by decide +kernel), List.mem_of_getElem? (i := 1593) (by decide +kernel)⟩
theorem lw_p66 : lw_okq (⟨"SignedBridgeModel", "come", "(I)V"⟩, 60) := ⟨⟨by decide +kernel, by decide +kernel⟩, List.mem_of_getElem? (i := 1646) (by decide +kernel), List.mem_of_getElem? (i := 1644) (by decide +kernel), List.mem_of_getElem? (i := 1645) (by decide +kernel)⟩
theorem lw_p67 : lw_okq (⟨"SignedBridgeModel", "startRead", "()V"⟩, 60) := ⟨⟨by decide +kernel, by decide +kernel⟩, List.mem_of_getElem? (i := 1646) (by decide +kernel), List.mem_of_getElem? (i := 1658) (by decide +kernel), List.mem_of_getElem? (i := 1659) (by decide +kernel)⟩
theorem lw_p68 : lw_okq (⟨"SignedBridgeModel", "startSo", "()V"⟩, 60) := ⟨⟨by decide +kernel, by decide +kernel⟩, List.mem_of_getElem? (i := 1646) (by decide +kernel), List.mem_of_getElem? (i := 1662) (by decide +kernel), List.mem_of_getElem? (i := 1663) (by decide +kernel)⟩
theorem lw_p69 : lw_okq (⟨"SignedBridgeModel", "begin", "(I)V"⟩, 60) := ⟨⟨by decide +kernel, by decide +kernel⟩, List.mem_of_getElem? (i := 1646) (by decide +kernel), List.mem_of_getElem? (i := 1851) (by decide +kernel), List.mem_of_getElem? (i := 1852) (by decide +kernel)⟩
theorem lw_p70 : lw_okq (⟨"SignedBridgeModel", "take", "()I"⟩, 60) := ⟨⟨by decide +kernel, by decide +kernel⟩, List.mem_of_getElem? (i := 1646) (by decide +kernel), List.mem_of_getElem? (i := 1855) (by decide +kernel), List.mem_of_getElem? (i := 1856) (by decide +kernel)⟩
theorem lw_p71 : lw_okq (⟨"SignedBridgeModel", "go", "()V"⟩, 60) := ⟨⟨by decide +kernel, by decide +kernel⟩, List.mem_of_getElem? (i := 1646) (by decide +kernel), List.mem_of_getElem? (i := 1859) (by decide +kernel), List.mem_of_getElem? (i := 1860) (by decide +kernel)⟩
theorem lw_p72 : lw_okq (⟨"SignedBridgeModel", "tapeAt", "(I)I"⟩, 60) := ⟨⟨by decide +kernel, by decide +kernel⟩, List.mem_of_getElem? (i := 1646) (by decide +kernel), List.mem_of_getElem? (i := 1869) (by decide +kernel), List.mem_of_getElem? (i := 1870) (by decide +kernel)⟩
theorem lw_p73 : lw_okq (⟨"SignedBridgeModel", "readLine", "()Z"⟩, 60) := ⟨⟨by decide +kernel, by decide +kernel⟩, List.mem_of_getElem? (i := 1646) (by decide +kernel), List.mem_of_getElem? (i := 1875) (by decide +kernel), List.mem_of_getElem? (i := 1876) (by decide +kernel)⟩
theorem lw_p74 : lw_okq (⟨"SignedBridgeModel", "isWord", "(I)Z"⟩, 60) := ⟨⟨by decide +kernel, by decide +kernel⟩, List.mem_of_getElem? (i := 1646) (by decide +kernel), List.mem_of_getElem? (i := 1879) (by decide +kernel), List.mem_of_getElem? (i := 1880) (by decide +kernel)⟩
theorem lw_p75 : lw_okq (⟨"SignedBridgeModel", "readRows", "()Z"⟩, 60) := ⟨⟨by decide +kernel, by decide +kernel⟩, List.mem_of_getElem? (i := 1646) (by decide +kernel), List.mem_of_getElem? (i := 1889) (by decide +kernel), List.mem_of_getElem? (i := 1890) (by decide +kernel)⟩
theorem lw_p76 : lw_okq (⟨"SignedBridgeModel", "bad", "(I)Z"⟩, 60) := ⟨⟨by decide +kernel, by decide +kernel⟩, List.mem_of_getElem? (i := 1646) (by decide +kernel), List.mem_of_getElem? (i := 1893) (by decide +kernel), List.mem_of_getElem? (i := 1894) (by decide +kernel)⟩
theorem lw_p77 : lw_okq (⟨"SignedBridgeModel", "readNumber", "(II)Z"⟩, 60) := ⟨⟨by decide +kernel, by decide +kernel⟩, List.mem_of_getElem? (i := 1646) (by decide +kernel), List.mem_of_getElem? (i := 1897) (by decide +kernel), List.mem_of_getElem? (i := 1898) (by decide +kernel)⟩
theorem lw_p78 : lw_okq (⟨"SignedBridgeModel", "put", "(IZ)Z"⟩, 60) := ⟨⟨by decide +kernel, by decide +kernel⟩, List.mem_of_getElem? (i := 1646) (by decide +kernel), List.mem_of_getElem? (i := 1904) (by decide +kernel), List.mem_of_getElem? (i := 1905) (by decide +kernel)⟩
theorem lw_p79 : lw_okq (⟨"SignedBridgeModel", "readSigner", "()Z"⟩, 60) := ⟨⟨by decide +kernel, by decide +kernel⟩, List.mem_of_getElem? (i := 1646) (by decide +kernel), List.mem_of_getElem? (i := 1908) (by decide +kernel), List.mem_of_getElem? (i := 1909) (by decide +kernel)⟩
def lw_privs_5 : List (MethodName × Nat) := [(⟨"SignedBridge$Sentence", "compares", "(II)Z"⟩, 9), (⟨"java/lang/Throwable", "fillInStackTrace", "(I)Ljava/lang/Throwable;"⟩, 6), (⟨"SignedBridgeModel", "come", "(I)V"⟩, 60), (⟨"SignedBridgeModel", "startRead", "()V"⟩, 60), (⟨"SignedBridgeModel", "startSo", "()V"⟩, 60), (⟨"SignedBridgeModel", "begin", "(I)V"⟩, 60), (⟨"SignedBridgeModel", "take", "()I"⟩, 60), (⟨"SignedBridgeModel", "go", "()V"⟩, 60), (⟨"SignedBridgeModel", "tapeAt", "(I)I"⟩, 60), (⟨"SignedBridgeModel", "readLine", "()Z"⟩, 60), (⟨"SignedBridgeModel", "isWord", "(I)Z"⟩, 60), (⟨"SignedBridgeModel", "readRows", "()Z"⟩, 60), (⟨"SignedBridgeModel", "bad", "(I)Z"⟩, 60), (⟨"SignedBridgeModel", "readNumber", "(II)Z"⟩, 60), (⟨"SignedBridgeModel", "put", "(IZ)Z"⟩, 60), (⟨"SignedBridgeModel", "readSigner", "()Z"⟩, 60)]
theorem lw_r5 : ∀ q ∈ lw_privs_5, lw_okq q := List.forall_mem_cons.mpr ⟨lw_p64, List.forall_mem_cons.mpr ⟨lw_p65, List.forall_mem_cons.mpr ⟨lw_p66, List.forall_mem_cons.mpr ⟨lw_p67, List.forall_mem_cons.mpr ⟨lw_p68, List.forall_mem_cons.mpr ⟨lw_p69, List.forall_mem_cons.mpr ⟨lw_p70, List.forall_mem_cons.mpr ⟨lw_p71, List.forall_mem_cons.mpr ⟨lw_p72, List.forall_mem_cons.mpr ⟨lw_p73, List.forall_mem_cons.mpr ⟨lw_p74, List.forall_mem_cons.mpr ⟨lw_p75, List.forall_mem_cons.mpr ⟨lw_p76, List.forall_mem_cons.mpr ⟨lw_p77, List.forall_mem_cons.mpr ⟨lw_p78, List.forall_mem_cons.mpr ⟨lw_p79, fun _ h => absurd h List.not_mem_nil⟩⟩⟩⟩⟩⟩⟩⟩⟩⟩⟩⟩⟩⟩⟩⟩
theorem lw_p80 : lw_okq (⟨"SignedBridgeModel", "readFirst", "(II)Z"⟩, 60) := ⟨⟨by decide +kernel, by decide +kernel⟩, List.mem_of_getElem? (i := 1646) (by decide +kernel), List.mem_of_getElem? (i := 1912) (by decide +kernel), List.mem_of_getElem? (i := 1913) (by decide +kernel)⟩
theorem lw_p81 : lw_okq (⟨"SignedBridgeModel", "readNew", "(I)Z"⟩, 60) := ⟨⟨by decide +kernel, by decide +kernel⟩, List.mem_of_getElem? (i := 1646) (by decide +kernel), List.mem_of_getElem? (i := 1916) (by decide +kernel), List.mem_of_getElem? (i := 1917) (by decide +kernel)⟩
theorem lw_p82 : lw_okq (⟨"SignedBridgeModel", "isName", "()Z"⟩, 60) := ⟨⟨by decide +kernel, by decide +kernel⟩, List.mem_of_getElem? (i := 1646) (by decide +kernel), List.mem_of_getElem? (i := 1920) (by decide +kernel), List.mem_of_getElem? (i := 1921) (by decide +kernel)⟩
theorem lw_p83 : lw_okq (⟨"SignedBridgeModel", "readHeir", "()Z"⟩, 60) := ⟨⟨by decide +kernel, by decide +kernel⟩, List.mem_of_getElem? (i := 1646) (by decide +kernel), List.mem_of_getElem? (i := 1927) (by decide +kernel), List.mem_of_getElem? (i := 1928) (by decide +kernel)⟩
theorem lw_p84 : lw_okq (⟨"SignedBridgeModel", "isSignerTold", "()Z"⟩, 60) := ⟨⟨by decide +kernel, by decide +kernel⟩, List.mem_of_getElem? (i := 1646) (by decide +kernel), List.mem_of_getElem? (i := 1931) (by decide +kernel), List.mem_of_getElem? (i := 1932) (by decide +kernel)⟩
theorem lw_p85 : lw_okq (⟨"SignedBridgeModel", "readLovers", "()Z"⟩, 60) := ⟨⟨by decide +kernel, by decide +kernel⟩, List.mem_of_getElem? (i := 1646) (by decide +kernel), List.mem_of_getElem? (i := 1935) (by decide +kernel), List.mem_of_getElem? (i := 1936) (by decide +kernel)⟩
theorem lw_p86 : lw_okq (⟨"SignedBridgeModel", "readPlank", "()Z"⟩, 60) := ⟨⟨by decide +kernel, by decide +kernel⟩, List.mem_of_getElem? (i := 1646) (by decide +kernel), List.mem_of_getElem? (i := 1942) (by decide +kernel), List.mem_of_getElem? (i := 1943) (by decide +kernel)⟩
theorem lw_p87 : lw_okq (⟨"SignedBridgeModel", "readLoad", "()Z"⟩, 60) := ⟨⟨by decide +kernel, by decide +kernel⟩, List.mem_of_getElem? (i := 1646) (by decide +kernel), List.mem_of_getElem? (i := 1946) (by decide +kernel), List.mem_of_getElem? (i := 1947) (by decide +kernel)⟩
theorem lw_p88 : lw_okq (⟨"SignedBridgeModel", "readEnd", "()Z"⟩, 60) := ⟨⟨by decide +kernel, by decide +kernel⟩, List.mem_of_getElem? (i := 1646) (by decide +kernel), List.mem_of_getElem? (i := 1950) (by decide +kernel), List.mem_of_getElem? (i := 1951) (by decide +kernel)⟩
theorem lw_p89 : lw_okq (⟨"SignedBridgeModel", "isSign", "(I)Z"⟩, 60) := ⟨⟨by decide +kernel, by decide +kernel⟩, List.mem_of_getElem? (i := 1646) (by decide +kernel), List.mem_of_getElem? (i := 1954) (by decide +kernel), List.mem_of_getElem? (i := 1955) (by decide +kernel)⟩
theorem lw_p90 : lw_okq (⟨"SignedBridgeModel", "isSigner", "(I)Z"⟩, 60) := ⟨⟨by decide +kernel, by decide +kernel⟩, List.mem_of_getElem? (i := 1646) (by decide +kernel), List.mem_of_getElem? (i := 1966) (by decide +kernel), List.mem_of_getElem? (i := 1967) (by decide +kernel)⟩
theorem lw_p91 : lw_okq (⟨"SignedBridgeModel", "refuse", "()I"⟩, 60) := ⟨⟨by decide +kernel, by decide +kernel⟩, List.mem_of_getElem? (i := 1646) (by decide +kernel), List.mem_of_getElem? (i := 1970) (by decide +kernel), List.mem_of_getElem? (i := 1971) (by decide +kernel)⟩
theorem lw_p92 : lw_okq (⟨"SignedBridgeModel", "isDead", "(I)Z"⟩, 60) := ⟨⟨by decide +kernel, by decide +kernel⟩, List.mem_of_getElem? (i := 1646) (by decide +kernel), List.mem_of_getElem? (i := 1974) (by decide +kernel), List.mem_of_getElem? (i := 1975) (by decide +kernel)⟩
theorem lw_p93 : lw_okq (⟨"SignedBridgeModel", "planksOf", "(I)I"⟩, 60) := ⟨⟨by decide +kernel, by decide +kernel⟩, List.mem_of_getElem? (i := 1646) (by decide +kernel), List.mem_of_getElem? (i := 1978) (by decide +kernel), List.mem_of_getElem? (i := 1979) (by decide +kernel)⟩
theorem lw_p94 : lw_okq (⟨"SignedBridgeModel", "places", "()I"⟩, 60) := ⟨⟨by decide +kernel, by decide +kernel⟩, List.mem_of_getElem? (i := 1646) (by decide +kernel), List.mem_of_getElem? (i := 1982) (by decide +kernel), List.mem_of_getElem? (i := 1983) (by decide +kernel)⟩
theorem lw_p95 : lw_okq (⟨"SignedBridgeModel", "isPlace", "(II)Z"⟩, 60) := ⟨⟨by decide +kernel, by decide +kernel⟩, List.mem_of_getElem? (i := 1646) (by decide +kernel), List.mem_of_getElem? (i := 1990) (by decide +kernel), List.mem_of_getElem? (i := 1991) (by decide +kernel)⟩
def lw_privs_6 : List (MethodName × Nat) := [(⟨"SignedBridgeModel", "readFirst", "(II)Z"⟩, 60), (⟨"SignedBridgeModel", "readNew", "(I)Z"⟩, 60), (⟨"SignedBridgeModel", "isName", "()Z"⟩, 60), (⟨"SignedBridgeModel", "readHeir", "()Z"⟩, 60), (⟨"SignedBridgeModel", "isSignerTold", "()Z"⟩, 60), (⟨"SignedBridgeModel", "readLovers", "()Z"⟩, 60), (⟨"SignedBridgeModel", "readPlank", "()Z"⟩, 60), (⟨"SignedBridgeModel", "readLoad", "()Z"⟩, 60), (⟨"SignedBridgeModel", "readEnd", "()Z"⟩, 60), (⟨"SignedBridgeModel", "isSign", "(I)Z"⟩, 60), (⟨"SignedBridgeModel", "isSigner", "(I)Z"⟩, 60), (⟨"SignedBridgeModel", "refuse", "()I"⟩, 60), (⟨"SignedBridgeModel", "isDead", "(I)Z"⟩, 60), (⟨"SignedBridgeModel", "planksOf", "(I)I"⟩, 60), (⟨"SignedBridgeModel", "places", "()I"⟩, 60), (⟨"SignedBridgeModel", "isPlace", "(II)Z"⟩, 60)]
theorem lw_r6 : ∀ q ∈ lw_privs_6, lw_okq q := List.forall_mem_cons.mpr ⟨lw_p80, List.forall_mem_cons.mpr ⟨lw_p81, List.forall_mem_cons.mpr ⟨lw_p82, List.forall_mem_cons.mpr ⟨lw_p83, List.forall_mem_cons.mpr ⟨lw_p84, List.forall_mem_cons.mpr ⟨lw_p85, List.forall_mem_cons.mpr ⟨lw_p86, List.forall_mem_cons.mpr ⟨lw_p87, List.forall_mem_cons.mpr ⟨lw_p88, List.forall_mem_cons.mpr ⟨lw_p89, List.forall_mem_cons.mpr ⟨lw_p90, List.forall_mem_cons.mpr ⟨lw_p91, List.forall_mem_cons.mpr ⟨lw_p92, List.forall_mem_cons.mpr ⟨lw_p93, List.forall_mem_cons.mpr ⟨lw_p94, List.forall_mem_cons.mpr ⟨lw_p95, fun _ h => absurd h List.not_mem_nil⟩⟩⟩⟩⟩⟩⟩⟩⟩⟩⟩⟩⟩⟩⟩⟩
theorem lw_p96 : lw_okq (⟨"SignedBridgeModel", "isRow", "(I)Z"⟩, 60) := ⟨⟨by decide +kernel, by decide +kernel⟩, List.mem_of_getElem? (i := 1646) (by decide +kernel), List.mem_of_getElem? (i := 1994) (by decide +kernel), List.mem_of_getElem? (i := 1995) (by decide +kernel)⟩
theorem lw_p97 : lw_okq (⟨"SignedBridgeModel", "layWhose", "()V"⟩, 60) := ⟨⟨by decide +kernel, by decide +kernel⟩, List.mem_of_getElem? (i := 1646) (by decide +kernel), List.mem_of_getElem? (i := 1998) (by decide +kernel), List.mem_of_getElem? (i := 1999) (by decide +kernel)⟩
theorem lw_p98 : lw_okq (⟨"SignedBridgeModel", "bearsAt", "(I)I"⟩, 60) := ⟨⟨by decide +kernel, by decide +kernel⟩, List.mem_of_getElem? (i := 1646) (by decide +kernel), List.mem_of_getElem? (i := 2002) (by decide +kernel), List.mem_of_getElem? (i := 2003) (by decide +kernel)⟩
theorem lw_p99 : lw_okq (⟨"SignedBridgeModel", "besides", "(II)I"⟩, 60) := ⟨⟨by decide +kernel, by decide +kernel⟩, List.mem_of_getElem? (i := 1646) (by decide +kernel), List.mem_of_getElem? (i := 2006) (by decide +kernel), List.mem_of_getElem? (i := 2007) (by decide +kernel)⟩
theorem lw_p100 : lw_okq (⟨"SignedBridgeModel", "isLoad", "(I)Z"⟩, 60) := ⟨⟨by decide +kernel, by decide +kernel⟩, List.mem_of_getElem? (i := 1646) (by decide +kernel), List.mem_of_getElem? (i := 2014) (by decide +kernel), List.mem_of_getElem? (i := 2015) (by decide +kernel)⟩
theorem lw_p101 : lw_okq (⟨"SignedBridgeModel", "bestOf", "(I)I"⟩, 60) := ⟨⟨by decide +kernel, by decide +kernel⟩, List.mem_of_getElem? (i := 1646) (by decide +kernel), List.mem_of_getElem? (i := 2026) (by decide +kernel), List.mem_of_getElem? (i := 2027) (by decide +kernel)⟩
theorem lw_p102 : lw_okq (⟨"SignedBridgeModel", "layBest", "(II)V"⟩, 60) := ⟨⟨by decide +kernel, by decide +kernel⟩, List.mem_of_getElem? (i := 1646) (by decide +kernel), List.mem_of_getElem? (i := 2030) (by decide +kernel), List.mem_of_getElem? (i := 2031) (by decide +kernel)⟩
theorem lw_p103 : lw_okq (⟨"SignedBridgeModel", "spareAt", "(IIII)I"⟩, 60) := ⟨⟨by decide +kernel, by decide +kernel⟩, List.mem_of_getElem? (i := 1646) (by decide +kernel), List.mem_of_getElem? (i := 2034) (by decide +kernel), List.mem_of_getElem? (i := 2035) (by decide +kernel)⟩
theorem lw_p104 : lw_okq (⟨"SignedBridgeModel", "sumAt", "(III)I"⟩, 60) := ⟨⟨by decide +kernel, by decide +kernel⟩, List.mem_of_getElem? (i := 1646) (by decide +kernel), List.mem_of_getElem? (i := 2038) (by decide +kernel), List.mem_of_getElem? (i := 2039) (by decide +kernel)⟩
theorem lw_p105 : lw_okq (⟨"SignedBridgeModel", "layPath", "(I)Z"⟩, 60) := ⟨⟨by decide +kernel, by decide +kernel⟩, List.mem_of_getElem? (i := 1646) (by decide +kernel), List.mem_of_getElem? (i := 2056) (by decide +kernel), List.mem_of_getElem? (i := 2057) (by decide +kernel)⟩
theorem lw_p106 : lw_okq (⟨"SignedBridgeModel", "whySign", "(II)I"⟩, 60) := ⟨⟨by decide +kernel, by decide +kernel⟩, List.mem_of_getElem? (i := 1646) (by decide +kernel), List.mem_of_getElem? (i := 2072) (by decide +kernel), List.mem_of_getElem? (i := 2073) (by decide +kernel)⟩
theorem lw_p107 : lw_okq (⟨"SignedBridgeModel", "snap", "()V"⟩, 60) := ⟨⟨by decide +kernel, by decide +kernel⟩, List.mem_of_getElem? (i := 1646) (by decide +kernel), List.mem_of_getElem? (i := 2076) (by decide +kernel), List.mem_of_getElem? (i := 2077) (by decide +kernel)⟩
theorem lw_p108 : lw_okq (⟨"SignedBridgeModel", "doSign", "(II)V"⟩, 60) := ⟨⟨by decide +kernel, by decide +kernel⟩, List.mem_of_getElem? (i := 1646) (by decide +kernel), List.mem_of_getElem? (i := 2080) (by decide +kernel), List.mem_of_getElem? (i := 2081) (by decide +kernel)⟩
theorem lw_p109 : lw_okq (⟨"SignedBridgeModel", "doBurn", "(I)V"⟩, 60) := ⟨⟨by decide +kernel, by decide +kernel⟩, List.mem_of_getElem? (i := 1646) (by decide +kernel), List.mem_of_getElem? (i := 2088) (by decide +kernel), List.mem_of_getElem? (i := 2089) (by decide +kernel)⟩
theorem lw_p110 : lw_okq (⟨"SignedBridgeModel", "open", "(I)V"⟩, 60) := ⟨⟨by decide +kernel, by decide +kernel⟩, List.mem_of_getElem? (i := 1646) (by decide +kernel), List.mem_of_getElem? (i := 2092) (by decide +kernel), List.mem_of_getElem? (i := 2093) (by decide +kernel)⟩
theorem lw_p111 : lw_okq (⟨"SignedBridgeModel", "singe", "(I)V"⟩, 60) := ⟨⟨by decide +kernel, by decide +kernel⟩, List.mem_of_getElem? (i := 1646) (by decide +kernel), List.mem_of_getElem? (i := 2096) (by decide +kernel), List.mem_of_getElem? (i := 2097) (by decide +kernel)⟩
def lw_privs_7 : List (MethodName × Nat) := [(⟨"SignedBridgeModel", "isRow", "(I)Z"⟩, 60), (⟨"SignedBridgeModel", "layWhose", "()V"⟩, 60), (⟨"SignedBridgeModel", "bearsAt", "(I)I"⟩, 60), (⟨"SignedBridgeModel", "besides", "(II)I"⟩, 60), (⟨"SignedBridgeModel", "isLoad", "(I)Z"⟩, 60), (⟨"SignedBridgeModel", "bestOf", "(I)I"⟩, 60), (⟨"SignedBridgeModel", "layBest", "(II)V"⟩, 60), (⟨"SignedBridgeModel", "spareAt", "(IIII)I"⟩, 60), (⟨"SignedBridgeModel", "sumAt", "(III)I"⟩, 60), (⟨"SignedBridgeModel", "layPath", "(I)Z"⟩, 60), (⟨"SignedBridgeModel", "whySign", "(II)I"⟩, 60), (⟨"SignedBridgeModel", "snap", "()V"⟩, 60), (⟨"SignedBridgeModel", "doSign", "(II)V"⟩, 60), (⟨"SignedBridgeModel", "doBurn", "(I)V"⟩, 60), (⟨"SignedBridgeModel", "open", "(I)V"⟩, 60), (⟨"SignedBridgeModel", "singe", "(I)V"⟩, 60)]
theorem lw_r7 : ∀ q ∈ lw_privs_7, lw_okq q := List.forall_mem_cons.mpr ⟨lw_p96, List.forall_mem_cons.mpr ⟨lw_p97, List.forall_mem_cons.mpr ⟨lw_p98, List.forall_mem_cons.mpr ⟨lw_p99, List.forall_mem_cons.mpr ⟨lw_p100, List.forall_mem_cons.mpr ⟨lw_p101, List.forall_mem_cons.mpr ⟨lw_p102, List.forall_mem_cons.mpr ⟨lw_p103, List.forall_mem_cons.mpr ⟨lw_p104, List.forall_mem_cons.mpr ⟨lw_p105, List.forall_mem_cons.mpr ⟨lw_p106, List.forall_mem_cons.mpr ⟨lw_p107, List.forall_mem_cons.mpr ⟨lw_p108, List.forall_mem_cons.mpr ⟨lw_p109, List.forall_mem_cons.mpr ⟨lw_p110, List.forall_mem_cons.mpr ⟨lw_p111, fun _ h => absurd h List.not_mem_nil⟩⟩⟩⟩⟩⟩⟩⟩⟩⟩⟩⟩⟩⟩⟩⟩
theorem lw_p112 : lw_okq (⟨"SignedBridgeModel", "whyHold", "(I)I"⟩, 60) := ⟨⟨by decide +kernel, by decide +kernel⟩, List.mem_of_getElem? (i := 1646) (by decide +kernel), List.mem_of_getElem? (i := 2108) (by decide +kernel), List.mem_of_getElem? (i := 2109) (by decide +kernel)⟩
theorem lw_p113 : lw_okq (⟨"SignedBridgeModel", "doDie", "(I)V"⟩, 60) := ⟨⟨by decide +kernel, by decide +kernel⟩, List.mem_of_getElem? (i := 1646) (by decide +kernel), List.mem_of_getElem? (i := 2116) (by decide +kernel), List.mem_of_getElem? (i := 2117) (by decide +kernel)⟩
theorem lw_p114 : lw_okq (⟨"SignedBridgeModel", "doCross", "(I)I"⟩, 60) := ⟨⟨by decide +kernel, by decide +kernel⟩, List.mem_of_getElem? (i := 1646) (by decide +kernel), List.mem_of_getElem? (i := 2124) (by decide +kernel), List.mem_of_getElem? (i := 2125) (by decide +kernel)⟩
theorem lw_p115 : lw_okq (⟨"SignedBridgeModel", "hasPath", "(I)Z"⟩, 60) := ⟨⟨by decide +kernel, by decide +kernel⟩, List.mem_of_getElem? (i := 1646) (by decide +kernel), List.mem_of_getElem? (i := 2128) (by decide +kernel), List.mem_of_getElem? (i := 2129) (by decide +kernel)⟩
theorem lw_p116 : lw_okq (⟨"SignedBridgeModel", "doFall", "(I)V"⟩, 60) := ⟨⟨by decide +kernel, by decide +kernel⟩, List.mem_of_getElem? (i := 1646) (by decide +kernel), List.mem_of_getElem? (i := 2132) (by decide +kernel), List.mem_of_getElem? (i := 2133) (by decide +kernel)⟩
theorem lw_p117 : lw_okq (⟨"SignedBridgeModel", "stuckAt", "(I)I"⟩, 60) := ⟨⟨by decide +kernel, by decide +kernel⟩, List.mem_of_getElem? (i := 1646) (by decide +kernel), List.mem_of_getElem? (i := 2136) (by decide +kernel), List.mem_of_getElem? (i := 2137) (by decide +kernel)⟩
theorem lw_p118 : lw_okq (⟨"SignedBridgeModel", "passDays", "(I)I"⟩, 60) := ⟨⟨by decide +kernel, by decide +kernel⟩, List.mem_of_getElem? (i := 1646) (by decide +kernel), List.mem_of_getElem? (i := 2148) (by decide +kernel), List.mem_of_getElem? (i := 2149) (by decide +kernel)⟩
theorem lw_p119 : lw_okq (⟨"SignedBridgeModel", "oneDay", "()V"⟩, 60) := ⟨⟨by decide +kernel, by decide +kernel⟩, List.mem_of_getElem? (i := 1646) (by decide +kernel), List.mem_of_getElem? (i := 2152) (by decide +kernel), List.mem_of_getElem? (i := 2153) (by decide +kernel)⟩
theorem lw_p120 : lw_okq (⟨"SignedBridgeModel", "inherit", "(I)V"⟩, 60) := ⟨⟨by decide +kernel, by decide +kernel⟩, List.mem_of_getElem? (i := 1646) (by decide +kernel), List.mem_of_getElem? (i := 2156) (by decide +kernel), List.mem_of_getElem? (i := 2157) (by decide +kernel)⟩
theorem lw_p121 : lw_okq (⟨"SignedBridgeModel", "priceAt", "(III)I"⟩, 60) := ⟨⟨by decide +kernel, by decide +kernel⟩, List.mem_of_getElem? (i := 1646) (by decide +kernel), List.mem_of_getElem? (i := 2164) (by decide +kernel), List.mem_of_getElem? (i := 2165) (by decide +kernel)⟩
theorem lw_p122 : lw_okq (⟨"SignedBridgeModel", "trySigns", "(IIIII)V"⟩, 60) := ⟨⟨by decide +kernel, by decide +kernel⟩, List.mem_of_getElem? (i := 1646) (by decide +kernel), List.mem_of_getElem? (i := 2168) (by decide +kernel), List.mem_of_getElem? (i := 2169) (by decide +kernel)⟩
theorem lw_p123 : lw_okq (⟨"SignedBridgeModel", "pathsNow", "()I"⟩, 60) := ⟨⟨by decide +kernel, by decide +kernel⟩, List.mem_of_getElem? (i := 1646) (by decide +kernel), List.mem_of_getElem? (i := 2180) (by decide +kernel), List.mem_of_getElem? (i := 2181) (by decide +kernel)⟩
theorem lw_p124 : lw_okq (⟨"SignedBridgeModel", "canCut", "(IIII)Z"⟩, 60) := ⟨⟨by decide +kernel, by decide +kernel⟩, List.mem_of_getElem? (i := 1646) (by decide +kernel), List.mem_of_getElem? (i := 2192) (by decide +kernel), List.mem_of_getElem? (i := 2193) (by decide +kernel)⟩
theorem lw_p125 : lw_okq (⟨"SignedBridgeModel", "orderFrom", "(IIII)V"⟩, 60) := ⟨⟨by decide +kernel, by decide +kernel⟩, List.mem_of_getElem? (i := 1646) (by decide +kernel), List.mem_of_getElem? (i := 2207) (by decide +kernel), List.mem_of_getElem? (i := 2208) (by decide +kernel)⟩
theorem lw_p126 : lw_okq (⟨"SignedBridgeModel", "loadsOver", "()I"⟩, 60) := ⟨⟨by decide +kernel, by decide +kernel⟩, List.mem_of_getElem? (i := 1646) (by decide +kernel), List.mem_of_getElem? (i := 2219) (by decide +kernel), List.mem_of_getElem? (i := 2220) (by decide +kernel)⟩
theorem lw_p127 : lw_okq (⟨"SignedBridgeModel", "layAside", "()V"⟩, 60) := ⟨⟨by decide +kernel, by decide +kernel⟩, List.mem_of_getElem? (i := 1646) (by decide +kernel), List.mem_of_getElem? (i := 2235) (by decide +kernel), List.mem_of_getElem? (i := 2236) (by decide +kernel)⟩
def lw_privs_8 : List (MethodName × Nat) := [(⟨"SignedBridgeModel", "whyHold", "(I)I"⟩, 60), (⟨"SignedBridgeModel", "doDie", "(I)V"⟩, 60), (⟨"SignedBridgeModel", "doCross", "(I)I"⟩, 60), (⟨"SignedBridgeModel", "hasPath", "(I)Z"⟩, 60), (⟨"SignedBridgeModel", "doFall", "(I)V"⟩, 60), (⟨"SignedBridgeModel", "stuckAt", "(I)I"⟩, 60), (⟨"SignedBridgeModel", "passDays", "(I)I"⟩, 60), (⟨"SignedBridgeModel", "oneDay", "()V"⟩, 60), (⟨"SignedBridgeModel", "inherit", "(I)V"⟩, 60), (⟨"SignedBridgeModel", "priceAt", "(III)I"⟩, 60), (⟨"SignedBridgeModel", "trySigns", "(IIIII)V"⟩, 60), (⟨"SignedBridgeModel", "pathsNow", "()I"⟩, 60), (⟨"SignedBridgeModel", "canCut", "(IIII)Z"⟩, 60), (⟨"SignedBridgeModel", "orderFrom", "(IIII)V"⟩, 60), (⟨"SignedBridgeModel", "loadsOver", "()I"⟩, 60), (⟨"SignedBridgeModel", "layAside", "()V"⟩, 60)]
theorem lw_r8 : ∀ q ∈ lw_privs_8, lw_okq q := List.forall_mem_cons.mpr ⟨lw_p112, List.forall_mem_cons.mpr ⟨lw_p113, List.forall_mem_cons.mpr ⟨lw_p114, List.forall_mem_cons.mpr ⟨lw_p115, List.forall_mem_cons.mpr ⟨lw_p116, List.forall_mem_cons.mpr ⟨lw_p117, List.forall_mem_cons.mpr ⟨lw_p118, List.forall_mem_cons.mpr ⟨lw_p119, List.forall_mem_cons.mpr ⟨lw_p120, List.forall_mem_cons.mpr ⟨lw_p121, List.forall_mem_cons.mpr ⟨lw_p122, List.forall_mem_cons.mpr ⟨lw_p123, List.forall_mem_cons.mpr ⟨lw_p124, List.forall_mem_cons.mpr ⟨lw_p125, List.forall_mem_cons.mpr ⟨lw_p126, List.forall_mem_cons.mpr ⟨lw_p127, fun _ h => absurd h List.not_mem_nil⟩⟩⟩⟩⟩⟩⟩⟩⟩⟩⟩⟩⟩⟩⟩⟩
theorem lw_p128 : lw_okq (⟨"SignedBridgeModel", "goesOn", "(II)I"⟩, 60) := ⟨⟨by decide +kernel, by decide +kernel⟩, List.mem_of_getElem? (i := 1646) (by decide +kernel), List.mem_of_getElem? (i := 2239) (by decide +kernel), List.mem_of_getElem? (i := 2240) (by decide +kernel)⟩
theorem lw_p129 : lw_okq (⟨"SignedBridgeModel", "takeBack", "()V"⟩, 60) := ⟨⟨by decide +kernel, by decide +kernel⟩, List.mem_of_getElem? (i := 1646) (by decide +kernel), List.mem_of_getElem? (i := 2243) (by decide +kernel), List.mem_of_getElem? (i := 2244) (by decide +kernel)⟩
theorem lw_p130 : lw_okq (⟨"SignedBridgeModel", "write", "(I)V"⟩, 60) := ⟨⟨by decide +kernel, by decide +kernel⟩, List.mem_of_getElem? (i := 1646) (by decide +kernel), List.mem_of_getElem? (i := 2255) (by decide +kernel), List.mem_of_getElem? (i := 2256) (by decide +kernel)⟩
theorem lw_p131 : lw_okq (⟨"SignedBridgeModel", "writeWord", "(J)V"⟩, 60) := ⟨⟨by decide +kernel, by decide +kernel⟩, List.mem_of_getElem? (i := 1646) (by decide +kernel), List.mem_of_getElem? (i := 2259) (by decide +kernel), List.mem_of_getElem? (i := 2260) (by decide +kernel)⟩
theorem lw_p132 : lw_okq (⟨"SignedBridgeModel", "drawDays", "(II)I"⟩, 60) := ⟨⟨by decide +kernel, by decide +kernel⟩, List.mem_of_getElem? (i := 1646) (by decide +kernel), List.mem_of_getElem? (i := 2271) (by decide +kernel), List.mem_of_getElem? (i := 2272) (by decide +kernel)⟩
theorem lw_p133 : lw_okq (⟨"SignedBridgeModel", "drawFor", "(I)V"⟩, 60) := ⟨⟨by decide +kernel, by decide +kernel⟩, List.mem_of_getElem? (i := 1646) (by decide +kernel), List.mem_of_getElem? (i := 2275) (by decide +kernel), List.mem_of_getElem? (i := 2276) (by decide +kernel)⟩
theorem lw_p134 : lw_okq (⟨"SignedBridgeModel", "draw", "(I)I"⟩, 60) := ⟨⟨by decide +kernel, by decide +kernel⟩, List.mem_of_getElem? (i := 1646) (by decide +kernel), List.mem_of_getElem? (i := 2279) (by decide +kernel), List.mem_of_getElem? (i := 2280) (by decide +kernel)⟩
theorem lw_p135 : lw_okq (⟨"SignedBridgeModel", "readBookLine", "()Z"⟩, 60) := ⟨⟨by decide +kernel, by decide +kernel⟩, List.mem_of_getElem? (i := 1646) (by decide +kernel), List.mem_of_getElem? (i := 2292) (by decide +kernel), List.mem_of_getElem? (i := 2293) (by decide +kernel)⟩
theorem lw_p136 : lw_okq (⟨"SignedBridgeModel", "readDoes", "(I)Z"⟩, 60) := ⟨⟨by decide +kernel, by decide +kernel⟩, List.mem_of_getElem? (i := 1646) (by decide +kernel), List.mem_of_getElem? (i := 2296) (by decide +kernel), List.mem_of_getElem? (i := 2297) (by decide +kernel)⟩
theorem lw_p137 : lw_okq (⟨"SignedBridgeModel", "readSet", "(III)Z"⟩, 60) := ⟨⟨by decide +kernel, by decide +kernel⟩, List.mem_of_getElem? (i := 1646) (by decide +kernel), List.mem_of_getElem? (i := 2300) (by decide +kernel), List.mem_of_getElem? (i := 2301) (by decide +kernel)⟩
theorem lw_p138 : lw_okq (⟨"SignedBridgeModel", "readPlace", "(I)Z"⟩, 60) := ⟨⟨by decide +kernel, by decide +kernel⟩, List.mem_of_getElem? (i := 1646) (by decide +kernel), List.mem_of_getElem? (i := 2304) (by decide +kernel), List.mem_of_getElem? (i := 2305) (by decide +kernel)⟩
theorem lw_p139 : lw_okq (⟨"SignedBridgeModel", "readSignerDoes", "(II)Z"⟩, 60) := ⟨⟨by decide +kernel, by decide +kernel⟩, List.mem_of_getElem? (i := 1646) (by decide +kernel), List.mem_of_getElem? (i := 2308) (by decide +kernel), List.mem_of_getElem? (i := 2309) (by decide +kernel)⟩
theorem lw_p140 : lw_okq (⟨"SignedBridgeModel", "whyLine", "(I)I"⟩, 60) := ⟨⟨by decide +kernel, by decide +kernel⟩, List.mem_of_getElem? (i := 1646) (by decide +kernel), List.mem_of_getElem? (i := 2312) (by decide +kernel), List.mem_of_getElem? (i := 2313) (by decide +kernel)⟩
theorem lw_p141 : lw_okq (⟨"SignedBridgeModel", "live", "(I)V"⟩, 60) := ⟨⟨by decide +kernel, by decide +kernel⟩, List.mem_of_getElem? (i := 1646) (by decide +kernel), List.mem_of_getElem? (i := 2316) (by decide +kernel), List.mem_of_getElem? (i := 2317) (by decide +kernel)⟩
theorem lw_p142 : lw_okq (⟨"SignedBridgeModel", "stay", "(Z)V"⟩, 60) := ⟨⟨by decide +kernel, by decide +kernel⟩, List.mem_of_getElem? (i := 1646) (by decide +kernel), List.mem_of_getElem? (i := 2320) (by decide +kernel), List.mem_of_getElem? (i := 2321) (by decide +kernel)⟩
theorem lw_p143 : lw_okq (⟨"SignedBridgeModel", "readOr", "()Z"⟩, 60) := ⟨⟨by decide +kernel, by decide +kernel⟩, List.mem_of_getElem? (i := 1646) (by decide +kernel), List.mem_of_getElem? (i := 2332) (by decide +kernel), List.mem_of_getElem? (i := 2333) (by decide +kernel)⟩
def lw_privs_9 : List (MethodName × Nat) := [(⟨"SignedBridgeModel", "goesOn", "(II)I"⟩, 60), (⟨"SignedBridgeModel", "takeBack", "()V"⟩, 60), (⟨"SignedBridgeModel", "write", "(I)V"⟩, 60), (⟨"SignedBridgeModel", "writeWord", "(J)V"⟩, 60), (⟨"SignedBridgeModel", "drawDays", "(II)I"⟩, 60), (⟨"SignedBridgeModel", "drawFor", "(I)V"⟩, 60), (⟨"SignedBridgeModel", "draw", "(I)I"⟩, 60), (⟨"SignedBridgeModel", "readBookLine", "()Z"⟩, 60), (⟨"SignedBridgeModel", "readDoes", "(I)Z"⟩, 60), (⟨"SignedBridgeModel", "readSet", "(III)Z"⟩, 60), (⟨"SignedBridgeModel", "readPlace", "(I)Z"⟩, 60), (⟨"SignedBridgeModel", "readSignerDoes", "(II)Z"⟩, 60), (⟨"SignedBridgeModel", "whyLine", "(I)I"⟩, 60), (⟨"SignedBridgeModel", "live", "(I)V"⟩, 60), (⟨"SignedBridgeModel", "stay", "(Z)V"⟩, 60), (⟨"SignedBridgeModel", "readOr", "()Z"⟩, 60)]
theorem lw_r9 : ∀ q ∈ lw_privs_9, lw_okq q := List.forall_mem_cons.mpr ⟨lw_p128, List.forall_mem_cons.mpr ⟨lw_p129, List.forall_mem_cons.mpr ⟨lw_p130, List.forall_mem_cons.mpr ⟨lw_p131, List.forall_mem_cons.mpr ⟨lw_p132, List.forall_mem_cons.mpr ⟨lw_p133, List.forall_mem_cons.mpr ⟨lw_p134, List.forall_mem_cons.mpr ⟨lw_p135, List.forall_mem_cons.mpr ⟨lw_p136, List.forall_mem_cons.mpr ⟨lw_p137, List.forall_mem_cons.mpr ⟨lw_p138, List.forall_mem_cons.mpr ⟨lw_p139, List.forall_mem_cons.mpr ⟨lw_p140, List.forall_mem_cons.mpr ⟨lw_p141, List.forall_mem_cons.mpr ⟨lw_p142, List.forall_mem_cons.mpr ⟨lw_p143, fun _ h => absurd h List.not_mem_nil⟩⟩⟩⟩⟩⟩⟩⟩⟩⟩⟩⟩⟩⟩⟩⟩
theorem lw_p144 : lw_okq (⟨"SignedBridgeModel", "readAnd", "()Z"⟩, 60) := ⟨⟨by decide +kernel, by decide +kernel⟩, List.mem_of_getElem? (i := 1646) (by decide +kernel), List.mem_of_getElem? (i := 2336) (by decide +kernel), List.mem_of_getElem? (i := 2337) (by decide +kernel)⟩
theorem lw_p145 : lw_okq (⟨"SignedBridgeModel", "readSaid", "()Z"⟩, 60) := ⟨⟨by decide +kernel, by decide +kernel⟩, List.mem_of_getElem? (i := 1646) (by decide +kernel), List.mem_of_getElem? (i := 2340) (by decide +kernel), List.mem_of_getElem? (i := 2341) (by decide +kernel)⟩
theorem lw_p146 : lw_okq (⟨"SignedBridgeModel", "readBracket", "()Z"⟩, 60) := ⟨⟨by decide +kernel, by decide +kernel⟩, List.mem_of_getElem? (i := 1646) (by decide +kernel), List.mem_of_getElem? (i := 2344) (by decide +kernel), List.mem_of_getElem? (i := 2345) (by decide +kernel)⟩
theorem lw_p147 : lw_okq (⟨"SignedBridgeModel", "readNot", "()Z"⟩, 60) := ⟨⟨by decide +kernel, by decide +kernel⟩, List.mem_of_getElem? (i := 1646) (by decide +kernel), List.mem_of_getElem? (i := 2348) (by decide +kernel), List.mem_of_getElem? (i := 2349) (by decide +kernel)⟩
theorem lw_p148 : lw_okq (⟨"SignedBridgeModel", "saysOne", "(IIII)I"⟩, 60) := ⟨⟨by decide +kernel, by decide +kernel⟩, List.mem_of_getElem? (i := 1646) (by decide +kernel), List.mem_of_getElem? (i := 2352) (by decide +kernel), List.mem_of_getElem? (i := 2353) (by decide +kernel)⟩
theorem lw_p149 : lw_okq (⟨"SignedBridgeModel", "readOf", "(I)Z"⟩, 60) := ⟨⟨by decide +kernel, by decide +kernel⟩, List.mem_of_getElem? (i := 1646) (by decide +kernel), List.mem_of_getElem? (i := 2356) (by decide +kernel), List.mem_of_getElem? (i := 2357) (by decide +kernel)⟩
theorem lw_p150 : lw_okq (⟨"SignedBridgeModel", "readWhom", "(I)Z"⟩, 60) := ⟨⟨by decide +kernel, by decide +kernel⟩, List.mem_of_getElem? (i := 1646) (by decide +kernel), List.mem_of_getElem? (i := 2360) (by decide +kernel), List.mem_of_getElem? (i := 2361) (by decide +kernel)⟩
theorem lw_p151 : lw_okq (⟨"SignedBridgeModel", "readCompare", "(I)Z"⟩, 60) := ⟨⟨by decide +kernel, by decide +kernel⟩, List.mem_of_getElem? (i := 1646) (by decide +kernel), List.mem_of_getElem? (i := 2364) (by decide +kernel), List.mem_of_getElem? (i := 2365) (by decide +kernel)⟩
theorem lw_p152 : lw_okq (⟨"SignedBridgeModel", "holds", "(II)Z"⟩, 60) := ⟨⟨by decide +kernel, by decide +kernel⟩, List.mem_of_getElem? (i := 1646) (by decide +kernel), List.mem_of_getElem? (i := 2372) (by decide +kernel), List.mem_of_getElem? (i := 2373) (by decide +kernel)⟩
theorem lw_p153 : lw_okq (⟨"SignedBridgeModel", "isOn", "(II)Z"⟩, 60) := ⟨⟨by decide +kernel, by decide +kernel⟩, List.mem_of_getElem? (i := 1646) (by decide +kernel), List.mem_of_getElem? (i := 2376) (by decide +kernel), List.mem_of_getElem? (i := 2377) (by decide +kernel)⟩
def lw_privs_10 : List (MethodName × Nat) := [(⟨"SignedBridgeModel", "readAnd", "()Z"⟩, 60), (⟨"SignedBridgeModel", "readSaid", "()Z"⟩, 60), (⟨"SignedBridgeModel", "readBracket", "()Z"⟩, 60), (⟨"SignedBridgeModel", "readNot", "()Z"⟩, 60), (⟨"SignedBridgeModel", "saysOne", "(IIII)I"⟩, 60), (⟨"SignedBridgeModel", "readOf", "(I)Z"⟩, 60), (⟨"SignedBridgeModel", "readWhom", "(I)Z"⟩, 60), (⟨"SignedBridgeModel", "readCompare", "(I)Z"⟩, 60), (⟨"SignedBridgeModel", "holds", "(II)Z"⟩, 60), (⟨"SignedBridgeModel", "isOn", "(II)Z"⟩, 60)]
theorem lw_r10 : ∀ q ∈ lw_privs_10, lw_okq q := List.forall_mem_cons.mpr ⟨lw_p144, List.forall_mem_cons.mpr ⟨lw_p145, List.forall_mem_cons.mpr ⟨lw_p146, List.forall_mem_cons.mpr ⟨lw_p147, List.forall_mem_cons.mpr ⟨lw_p148, List.forall_mem_cons.mpr ⟨lw_p149, List.forall_mem_cons.mpr ⟨lw_p150, List.forall_mem_cons.mpr ⟨lw_p151, List.forall_mem_cons.mpr ⟨lw_p152, List.forall_mem_cons.mpr ⟨lw_p153, fun _ h => absurd h List.not_mem_nil⟩⟩⟩⟩⟩⟩⟩⟩⟩⟩
def lw_privs : List (MethodName × Nat) := lw_privs_1 ++ (lw_privs_2 ++ (lw_privs_3 ++ (lw_privs_4 ++ (lw_privs_5 ++ (lw_privs_6 ++ (lw_privs_7 ++ (lw_privs_8 ++ (lw_privs_9 ++ (lw_privs_10)))))))))
def lw_tbl : List Cond := k2_sels lw_privs ++ tables_1
theorem lw_privs_ok : ∀ q ∈ lw_privs, lw_okq q := by
  show ∀ q ∈ lw_privs_1 ++ (lw_privs_2 ++ (lw_privs_3 ++ (lw_privs_4 ++ (lw_privs_5 ++ (lw_privs_6 ++ (lw_privs_7 ++ (lw_privs_8 ++ (lw_privs_9 ++ (lw_privs_10))))))))), lw_okq q
  exact List.forall_mem_append.mpr ⟨lw_r1, List.forall_mem_append.mpr ⟨lw_r2, List.forall_mem_append.mpr ⟨lw_r3, List.forall_mem_append.mpr ⟨lw_r4, List.forall_mem_append.mpr ⟨lw_r5, List.forall_mem_append.mpr ⟨lw_r6, List.forall_mem_append.mpr ⟨lw_r7, List.forall_mem_append.mpr ⟨lw_r8, List.forall_mem_append.mpr ⟨lw_r9, lw_r10⟩⟩⟩⟩⟩⟩⟩⟩⟩
end
section
/-! ===== BEGIN words of one list among another's, by their places ===== -/
theorem goodIn_r {big : List Cond} (ws : List Cond) (ps : List Nat) (hp : ws = ps.filterMap (fun i => big[i]?)) (h : ws.all goodWord = true) : GoodIn big ws := by
  intro w hw
  have h1 := List.all_eq_true.mp h w hw
  rw [hp] at hw
  obtain ⟨i, -, hi⟩ := List.mem_filterMap.mp hw
  have hm : w ∈ big := by first | exact List.mem_of_getElem? hi | exact List.getElem?_mem hi
  exact ⟨hm, good_of_word h1⟩
theorem goodIn_app {big a b : List Cond} (ha : GoodIn big a) (hb : GoodIn big b) : GoodIn big (a ++ b) := fun w h => (List.mem_append.mp h).elim (ha w) (hb w)
theorem goodIn_ca {big a b : List Cond} {c : Cond} (ha : GoodIn big (c :: a)) (hb : GoodIn big b) : GoodIn big (c :: (a ++ b)) := fun w h => (List.mem_cons.mp h).elim (fun e => ha w (List.mem_cons.mpr (Or.inl e))) (fun h => (List.mem_append.mp h).elim (fun h => ha w (List.mem_cons.mpr (Or.inr h))) (hb w))
theorem goodIn_sub {big ws : List Cond} (hm : ∀ w ∈ ws, w ∈ big) (h : ws.all goodWord = true) : GoodIn big ws := fun w hw => ⟨hm w hw, good_of_word (List.all_eq_true.mp h w hw)⟩
/-! ===== END ===== -/
end
section

/-! ===== BEGIN exceptions that leave a method, and their catching by the caller (launches without stack traces) ===== -/
section VXA
/-! The laws vx_back, vx_callV, vx_callS, vx_callSW, vx_throw0, vx_throwS follow proofs of the library, with one case more: JvmDerived/Free/Laws.lean (Back.of_free), Shelf42/LK1.lean (callV, callS), Shelf/KitTraced.lean (throwNew0V, throwNewS). -/
/-- where a method has thrown q: the class by its name, the cell, what was written, the world -/
def vx_T (XC : String → State → State → Prop) (st : State) (q : Addr) (t : State) (mc ms : Nat) (free : Addr → Prop) : Prop :=
  ∃ (E : String) (ce : Cell) (L : List Loc), XC E st t ∧ t.heap[q]? = some ce ∧ ce.vm = .none ∧ st.vm.findClass E = some ce.cls ∧ st.WarmedH t.vm ∧ st.sameButNew ({ t with vm := st.vm } : State) L mc ms ∧ ∀ z ∈ L, free z.base
def vx_Q (Qc : Array Value → State → Outcome → State → Prop) (XC : String → State → State → Prop) (mc ms : Nat) (free : Addr → Prop) : Array Value → State → Outcome → State → Prop := fun a st o t =>
  (Qc a st o t ∧ ∃ L, FrameEnd st o t L mc ms ∧ ∀ q ∈ L, free q.base) ∨ ∃ q, o = .threw q ∧ vx_T XC st q t mc ms free
/-- a callee that returns or throws -/
def vx_Met (l : Launch) (y : MethodName) (ws : List Cond) (rm : Room) (Pc : Array Value → State → Prop) (Qc : Array Value → State → Outcome → State → Prop) (XC : String → State → State → Prop) (mc ms : Nat) (free : Addr → Prop) : Prop :=
  MetFree l y (headSpec ws rm) Pc (fun _ _ _ _ _ => True) (vx_Q Qc XC mc ms free)
def vx_Post (XC : String → State → State → Prop) (mc ms : Nat) (free : Addr → Prop) : Pt → Array Value → Addr → Pt → Prop := fun A a q B =>
  ∃ (g : JFrame) (mk : MethodId) (t : State) (L : List Loc) (E : String) (ce : Cell), B.U.heap = t.heap ∧ B.U.vm = t.vm ∧ XC E (A.U.calling g mk a) t ∧ t.heap[q]? = some ce ∧ ce.vm = .none ∧ A.U.vm.findClass E = some ce.cls ∧ B.locs = A.locs ++ L ∧ (∀ z ∈ L, free z.base) ∧ B.cells = A.cells + mc ∧ B.slots = A.slots + ms
def vx_Back (l : Launch) (R : Room) (p : Program) (e : Env) (below : List Frame) (s : State) (sargs : Array Value) (y : MethodName) (len W9 : Nat)
    (Pre : Pt → Array Value → Prop) (Post : Pt → Array Value → Option Value → Pt → Prop) (PostX : Pt → Array Value → Addr → Pt → Prop) : Prop :=
  ∀ (m : MethodId) (meth : Method) (c : Code) (A : Pt) (g : JFrame) (ig : Instr) (mk : MethodId) (a : Array Value),
    Stand p l e R s m sargs below meth c A.U A.locs A.cells A.slots → g.method = m → g.locals.size = c.maxLocals → decode c.code g.pc = .ok (ig, len) →
    2 * g.monitorRoom + (g.stack.map fun v => v.category).sum ≤ W9 → A.U.methodNamed? y = some mk → Pre A a →
    (∃ (v : Option Value) (B : Pt), Stand p l e R s m sargs below meth c B.U B.locs B.cells B.slots ∧ Post A a v B ∧
      Steps p.tables e below (doInvoke e (A.U.setTop g) [] mk a).1 (B.U.setTop { g with pc := g.pc + len, stack := v.toList ++ g.stack })) ∨
    (∃ (q : Addr) (B : Pt), Stand p l e R s m sargs below meth c B.U B.locs B.cells B.slots ∧ PostX A a q B ∧
      Steps p.tables e below (doInvoke e (A.U.setTop g) [] mk a).1 ((B.U.setTop g).pushFrame (.throwing q)))
section Payer
variable {l : Launch} {R : Room} {p : Program} {e : Env} {below : List Frame} {s : State} {sargs : Array Value} {y : MethodName} {len W9 : Nat}
theorem vx_back {ws : List Cond} {rm : Room} {Pc : Array Value → State → Prop} {Qc : Array Value → State → Outcome → State → Prop} {XC : String → State → State → Prop} {mc ms : Nat} {free : Addr → Prop} {bytes : ByteArray} {maxL : Nat} {ret : Option FieldType}
    (hM : vx_Met l y ws rm Pc Qc XC mc ms free) (hblind : FrameBlind Pc) (hrc : rm.cells = mc) (hrs : rm.slots = ms)
    (hframes : rm.frames + 1 ≤ R.frames) (hlocals : W9 + (maxL + 11) + rm.locals ≤ R.locals)
    (hws : ∀ w ∈ ws, ∀ a' U, s.WarmedH U.vm → w.before a' U = true) (hcode : Cond.code y bytes maxL ret ∈ ws) (hinit : ∀ a' U, s.WarmedH U.vm → (Cond.initialized y.cls).before a' U = true) :
    vx_Back l R p e below s sargs y len W9 (PreOf R mc ms Pc) (PostOf Qc mc ms free) (vx_Post XC mc ms free) := by
  intro m meth c A g ig mk a X hg hsize hdg hW hn hp
  have h1 : (headSpec ws rm).pre.before a A.U = true := atoms_intro fun w hw => hws w hw _ _ X.warmed
  have h2 : (Cond.code y bytes maxL ret).before a A.U = true := hws _ hcode _ _ X.warmed
  have h3 : (Cond.initialized y.cls).before a A.U = true := hinit _ _ X.warmed
  have h4 : A.cells + (headSpec ws rm).room.cells ≤ R.cells := by rw [show (headSpec ws rm).room.cells = mc from hrc]; exact hp.1
  have h5 : A.slots + (headSpec ws rm).room.slots ≤ R.slots := by rw [show (headSpec ws rm).room.slots = ms from hrs]; exact hp.2.1
  have hPc : Pc a (A.U.calling g mk a) := hblind _ _ _ _ hp.2.2
  obtain ⟨U, Ls, c0, s0⟩ := A
  dsimp only [Pt.U, Pt.locs, Pt.cells, Pt.slots] at h1 h2 h3 h4 h5 X hn hPc ⊢
  obtain ⟨methY, cY, hmY, hcY, -, hlY, -, -, -, -⟩ := Cond.code_spec hn h2
  obtain ⟨kY, hkY, -⟩ := className_of_methodNamed hn
  have hinitY : kY.init = .initialized := Cond.initialized_spec (findClass_of_methodNamed hn) hkY h3
  have h : At U g.method c below := by rw [hg]; exact X.here
  have hlocals9 : W9 + (maxL + 11) + (headSpec ws rm).room.locals ≤ R.locals := hlocals
  have happ : (headSpec ws rm).appliesLoose y e.platform (U.calling g mk a) = true :=
    Spec.appliesLoose_calling (g := g) h hdg hn hkY hinitY
      (X.room_calling (g := g) (R' := (headSpec ws rm).room) hsize hmY hcY hframes (by rw [hlY]; omega) h4 h5) h1
  obtain ⟨mid, hmid⟩ := h.above
  have hfr : (U.setTop g).frames = (.java g :: mid) ++ below := by rw [State.frames_setTop' g h.top, hmid]; rfl
  obtain ⟨o, s₂, hsteps, -, hend, hq⟩ := Steps.callFree hM p X.admits X.cas X.clock (acts := []) hfr happ hPc trivial
  have hq' : vx_Q Qc XC mc ms free a (U.calling g mk a) o s₂ := hq
  rw [State.frames_setTop' g h.top] at hend
  obtain ⟨g₀, hg0⟩ := Option.isSome_iff_exists.mp h.top
  obtain ⟨r, hr⟩ := State.topJava?_eq_some.mp hg0
  have hr' : (({ U with heap := s₂.heap, slotsUsed := s₂.slotsUsed } : State).setVm s₂.vm).frames = .java g₀ :: r := hr
  rcases hq' with ⟨hqc, L, hfe, hL⟩ | ⟨q, rfl, E, ce, L, hx, hce, hcv, hcl, hW₂, hsm, hL⟩
  · obtain ⟨⟨v, rfl⟩, hW₂, e2, q2, q3, q4, q5, q6⟩ := id hfe
    have e3 : s₂ = ({ (U.calling g mk a).setFrames s₂.frames with heap := s₂.heap, slotsUsed := s₂.slotsUsed } : State).setVm s₂.vm := by
      have : s₂ = ({ s₂ with vm := (U.calling g mk a).vm } : State).setVm s₂.vm := rfl
      rw [e2] at this
      exact this
    obtain ⟨c₂, i₂, len₂, hc₂, hd₂, hf₂⟩ := hend
    have hW' : U.WarmedH s₂.vm := hW₂
    have hcc : c₂ = c := by
      have h1 : s₂.code? g.method = U.code? g.method := by
        rw [State.code?_eq, State.code?_eq, hW'.alike.method?]
      exact Option.some.inj (hc₂.symm.trans (h1.trans h.code))
    subst hcc
    have hlen : len₂ = len := by rw [hdg] at hd₂; cases hd₂; rfl
    subst hlen
    have hs₂ : s₂ = (({ U with heap := s₂.heap, slotsUsed := s₂.slotsUsed } : State).setVm s₂.vm).setTop { g with pc := g.pc + len₂, stack := v.toList ++ g.stack } := by
      refine e3.trans ?_
      rw [hf₂, State.calling_eq h.top, State.setFrames_setFrames, State.setTop_of_frames _ hr', hr]
      rfl
    have hsame : U.sameButNew ({ U with heap := s₂.heap, slotsUsed := s₂.slotsUsed } : State) L mc ms := by
      refine ⟨?_, q2, q3, q4, q5, q6⟩
      obtain ⟨t, ht, -⟩ := State.frames_cons hr
      show ({ U with heap := s₂.heap, slotsUsed := s₂.slotsUsed } : State) = { U.setFrames U.frames with heap := s₂.heap, slotsUsed := s₂.slotsUsed }
      rw [State.setFrames_self ht]
    subst hg
    refine Or.inl ⟨v, ⟨(({ U with heap := s₂.heap, slotsUsed := s₂.slotsUsed } : State).setVm s₂.vm), Ls ++ L, c0 + mc, s0 + ms⟩,
      ⟨X.admits, X.cas, X.clock, X.frames, X.room, X.hears, X.method, X.code, (X.here.setHeapUsed s₂.heap s₂.slotsUsed).setVm hW'.alike, X.tail, State.WarmedH.trans X.warmed hW', X.limits, X.bytes, X.same.trans (hsame.setVm s.vm)⟩,
      ⟨g, mk, s₂, L, rfl, rfl, hqc, rfl, hL, rfl, rfl⟩, ?_⟩
    show Steps p.tables e below _ ((({ U with heap := s₂.heap, slotsUsed := s₂.slotsUsed } : State).setVm s₂.vm).setTop { g with pc := g.pc + len₂, stack := v.toList ++ g.stack })
    rw [← hs₂]
    exact hsteps
  · obtain ⟨e2, q2, q3, q4, q5, q6⟩ := id hsm
    have e3 : s₂ = ({ (U.calling g mk a).setFrames s₂.frames with heap := s₂.heap, slotsUsed := s₂.slotsUsed } : State).setVm s₂.vm := by
      have : s₂ = ({ s₂ with vm := (U.calling g mk a).vm } : State).setVm s₂.vm := rfl
      rw [e2] at this
      exact this
    have hf₂ : s₂.frames = .throwing q :: .java g :: U.frames.tail := hend
    have hW' : U.WarmedH s₂.vm := hW₂
    have hs₂ : s₂ = ((({ U with heap := s₂.heap, slotsUsed := s₂.slotsUsed } : State).setVm s₂.vm).setTop g).pushFrame (.throwing q) := by
      refine e3.trans ?_
      rw [hf₂, State.calling_eq h.top, State.setFrames_setFrames, State.pushFrame, State.frames_setTop _ hr', State.setTop_of_frames _ hr', State.setFrames_setFrames, hr]
      rfl
    have hsame : U.sameButNew ({ U with heap := s₂.heap, slotsUsed := s₂.slotsUsed } : State) L mc ms := by
      refine ⟨?_, q2, q3, q4, q5, q6⟩
      obtain ⟨t, ht, -⟩ := State.frames_cons hr
      show ({ U with heap := s₂.heap, slotsUsed := s₂.slotsUsed } : State) = { U.setFrames U.frames with heap := s₂.heap, slotsUsed := s₂.slotsUsed }
      rw [State.setFrames_self ht]
    subst hg
    refine Or.inr ⟨q, ⟨(({ U with heap := s₂.heap, slotsUsed := s₂.slotsUsed } : State).setVm s₂.vm), Ls ++ L, c0 + mc, s0 + ms⟩,
      ⟨X.admits, X.cas, X.clock, X.frames, X.room, X.hears, X.method, X.code, (X.here.setHeapUsed s₂.heap s₂.slotsUsed).setVm hW'.alike, X.tail, State.WarmedH.trans X.warmed hW', X.limits, X.bytes, X.same.trans (hsame.setVm s.vm)⟩,
      ⟨g, mk, s₂, L, E, ce, rfl, rfl, hx, hce, hcv, hcl, rfl, hL, rfl, rfl⟩, ?_⟩
    show Steps p.tables e below _ (((({ U with heap := s₂.heap, slotsUsed := s₂.slotsUsed } : State).setVm s₂.vm).setTop g).pushFrame (.throwing q))
    rw [← hs₂]
    exact hsteps
end Payer
section Calls
variable {p : Program} {l : Launch} {e : Env} {R : Room} {s : State} {m : MethodId} {args : Array Value} {below : List Frame} {meth : Method} {c : Code} {T : State} {locs : List Loc} {cells slots : Nat}
theorem vx_callV (X : Stand p l e R s m args below meth c T locs cells slots) (hexec : p.tables.exec = Jvm.exec) {own C : String} {index : Nat} {y : MethodName} {bytes : ByteArray} {maxL : Nat} {ret : Option FieldType}
    (hown : s.vm.findClass own = some m.cls) (hlink : (Cond.methodLink own index y).before args s = true) (hinst : (Cond.instanceMethod y).before args s = true) (hsel : (Cond.selects C y y).before args s = true)
    (hcode : (Cond.code y bytes maxL ret).before args s = true) (hy : y.cls ≠ "java/lang/invoke/MethodHandle" ∧ y.cls ≠ "java/lang/invoke/VarHandle")
    {W9 : Nat} {Pre : Pt → Array Value → Prop} {Post : Pt → Array Value → Option Value → Pt → Prop} {PostX : Pt → Array Value → Addr → Pt → Prop} (hK : vx_Back l R p e below s args y 3 W9 Pre Post PostX)
    {b : Addr} {cellB : Cell} (hcell : T.heap[b]? = some cellB) (hobj : cellB.vm.isStatics = false) (hcls : s.vm.findClass C = some cellB.cls)
    {g : JFrame} (hg : g.method = m) (hsize : g.locals.size = c.maxLocals) {argsL rest : List Value} (hlen : ∀ sig, parseMethodDescriptor y.desc = some sig → argsL.length = sig.parameters.length)
    (hstack : g.stack = argsL.reverse ++ .ref b :: rest) (hW : 2 * g.monitorRoom + (rest.map fun v => v.category).sum ≤ W9) (hdg : decode c.code g.pc = .ok (.invokevirtual index, 3))
    (hpre : ∀ vm₁, s.WarmedH vm₁ → Pre ⟨T.setVm vm₁, locs, cells, slots⟩ (Value.ref b :: argsL).toArray) :
    (∃ (v : Option Value) (vm₁ : Vm) (B : Pt), s.WarmedH vm₁ ∧ Stand p l e R s m args below meth c B.U B.locs B.cells B.slots ∧ Post ⟨T.setVm vm₁, locs, cells, slots⟩ (Value.ref b :: argsL).toArray v B ∧
      ∀ target, Steps p.tables e below (B.U.setTop { g with pc := g.pc + 3, stack := v.toList ++ rest }) target → Steps p.tables e below (T.setTop g) target) ∨
    (∃ (q : Addr) (vm₁ : Vm) (B : Pt), s.WarmedH vm₁ ∧ Stand p l e R s m args below meth c B.U B.locs B.cells B.slots ∧ PostX ⟨T.setVm vm₁, locs, cells, slots⟩ (Value.ref b :: argsL).toArray q B ∧
      Steps p.tables e below (T.setTop g) ((B.U.setTop { g with stack := rest }).pushFrame (.throwing q))) := by
  obtain ⟨mk, methM, hnamed, hmethM, hstM, habM⟩ := Cond.instanceMethod_spec hinst
  obtain ⟨methM', cM, hmethM', -, -, -, -, -, -, hsigM⟩ := Cond.code_spec hnamed hcode
  cases hmethM.symm.trans hmethM'
  obtain ⟨c2, r2, m2, q1, q2, q3, q4, kP, hkP, hkPi⟩ := Cond.selects_spec hsel
  cases hcls.symm.trans q1
  cases (State.methodFound?_of_named hnamed hy).symm.trans q2
  cases hnamed.symm.trans q3
  have hselP : selectMethod e.platform s.vm cellB.cls mk = .method mk := by rw [Launch.admits_selectMethod X.admits]; exact q4
  obtain ⟨vm₁, X₁, hstep₁⟩ := X.invokevirtual hexec hown hlink hnamed hmethM hstM hkP hkPi hy (a := b) (cell := cellB) hcell
    (fun z h => by rw [h] at hobj; cases hobj) hselP hmethM habM hkP hkPi (g := g) hg (argsL := argsL) (rest := rest) (hlen _ hsigM) hstack hdg
  rcases hK m meth c ⟨T.setVm vm₁, locs, cells, slots⟩ { g with stack := rest } (.invokevirtual index) mk (Value.ref b :: argsL).toArray X₁ hg hsize hdg hW (X₁.named hnamed) (hpre vm₁ X₁.warmed) with ⟨v, B, X', hpost, hsteps⟩ | ⟨q, B, X', hpost, hsteps⟩
  · exact Or.inl ⟨v, vm₁, B, X₁.warmed, X', hpost, fun target h => hstep₁ _ fun acts => by rw [doInvoke_state]; exact hsteps.trans h⟩
  · exact Or.inr ⟨q, vm₁, B, X₁.warmed, X', hpost, hstep₁ _ fun acts => by rw [doInvoke_state]; exact hsteps⟩
theorem vx_callS (X : Stand p l e R s m args below meth c T locs cells slots) (hexec : p.tables.exec = Jvm.exec) {own : String} {index : Nat} {y : MethodName} {bytes : ByteArray} {maxL : Nat} {ret : Option FieldType}
    (hown : s.vm.findClass own = some m.cls) (hlink : (Cond.methodLink own index y).before args s = true) (hstat : (Cond.static y).before args s = true) (hinit : (Cond.initialized y.cls).before args s = true)
    (hcode : (Cond.code y bytes maxL ret).before args s = true) (hy : y.cls ≠ "java/lang/invoke/MethodHandle" ∧ y.cls ≠ "java/lang/invoke/VarHandle")
    {W9 : Nat} {Pre : Pt → Array Value → Prop} {Post : Pt → Array Value → Option Value → Pt → Prop} {PostX : Pt → Array Value → Addr → Pt → Prop} (hK : vx_Back l R p e below s args y 3 W9 Pre Post PostX)
    {g : JFrame} (hg : g.method = m) (hsize : g.locals.size = c.maxLocals) {argsL rest : List Value} (hlen : ∀ sig, parseMethodDescriptor y.desc = some sig → argsL.length = sig.parameters.length)
    (hstack : g.stack = argsL.reverse ++ rest) (hW : 2 * g.monitorRoom + (rest.map fun v => v.category).sum ≤ W9) (hdg : decode c.code g.pc = .ok (.invokestatic index, 3))
    (hpre : ∀ vm₁, s.WarmedH vm₁ → Pre ⟨T.setVm vm₁, locs, cells, slots⟩ argsL.toArray) :
    (∃ (v : Option Value) (vm₁ : Vm) (B : Pt), s.WarmedH vm₁ ∧ Stand p l e R s m args below meth c B.U B.locs B.cells B.slots ∧ Post ⟨T.setVm vm₁, locs, cells, slots⟩ argsL.toArray v B ∧
      ∀ target, Steps p.tables e below (B.U.setTop { g with pc := g.pc + 3, stack := v.toList ++ rest }) target → Steps p.tables e below (T.setTop g) target) ∨
    (∃ (q : Addr) (vm₁ : Vm) (B : Pt), s.WarmedH vm₁ ∧ Stand p l e R s m args below meth c B.U B.locs B.cells B.slots ∧ PostX ⟨T.setVm vm₁, locs, cells, slots⟩ argsL.toArray q B ∧
      Steps p.tables e below (T.setTop g) ((B.U.setTop { g with stack := rest }).pushFrame (.throwing q))) := by
  obtain ⟨mk, hnamed⟩ := Cond.code_named hcode
  obtain ⟨methM, cM, hmethM, -, -, -, -, -, -, hsigM⟩ := Cond.code_spec hnamed hcode
  have hstatic : methM.isStatic = true := Cond.static_spec hnamed hmethM hstat
  obtain ⟨kP, hkP, -⟩ := className_of_methodNamed hnamed
  have hinitP : kP.init = .initialized := Cond.initialized_spec (findClass_of_methodNamed hnamed) hkP hinit
  obtain ⟨vm₁, X₁, hstep₁⟩ := X.invokestatic hexec hown hlink hnamed hmethM hstatic hkP hinitP hy (g := g) hg (argsL := argsL) (rest := rest) (hlen _ hsigM) hstack hdg
  rcases hK m meth c ⟨T.setVm vm₁, locs, cells, slots⟩ { g with stack := rest } (.invokestatic index) mk argsL.toArray X₁ hg hsize hdg hW (X₁.named hnamed) (hpre vm₁ X₁.warmed) with ⟨v, B, X', hpost, hsteps⟩ | ⟨q, B, X', hpost, hsteps⟩
  · exact Or.inl ⟨v, vm₁, B, X₁.warmed, X', hpost, fun target h => hstep₁ _ fun acts => by rw [doInvoke_state]; exact hsteps.trans h⟩
  · exact Or.inr ⟨q, vm₁, B, X₁.warmed, X', hpost, hstep₁ _ fun acts => by rw [doInvoke_state]; exact hsteps⟩
end Calls
theorem vx_cls {s : State} {T : State} {vm₁ : Vm} {E : String} {k : ClassId} (hW : s.WarmedH vm₁) (h : (T.setVm vm₁).vm.findClass E = some k) : s.vm.findClass E = some k := by
  have h1 : vm₁.findClass E = some k := h
  rw [hW.alike.findClass] at h1
  exact h1
/-- the method's frame g, with q thrown over it -/
def vx_W (p : Program) (l : Launch) (e : Env) (R : Room) (s : State) (m : MethodId) (args : Array Value) (below : List Frame) (meth : Method) (c : Code) (H : Heap) (locs : List Loc) (cells slots : Nat) (Q : State → Prop) (g : JFrame) (q : Addr) : Prop :=
  ∀ T : State, T.heap = H → Stand p l e R s m args below meth c T locs cells slots → ∃ t, Steps p.tables e below ((T.setTop g).pushFrame (.throwing q)) t ∧ Q t
def vx_Run (p : Program) (l : Launch) (e : Env) (R : Room) (s : State) (m : MethodId) (args : Array Value) (below : List Frame) (meth : Method) (c : Code) (H : Heap) (locs : List Loc) (cells slots mc ms : Nat) (g : JFrame) (rest : List Value) (Qa : State → Outcome → State → Prop) (XC : String → State → State → Prop) (free : Addr → Prop) : Prop :=
  ∀ T : State, T.heap = H → Stand p l e R s m args below meth c T locs cells slots →
    (∃ (v : Option Value) (st₀ t T' : State) (L : List Loc), st₀.heap = H ∧ Stand p l e R s m args below meth c T' (locs ++ L) (cells + mc) (slots + ms) ∧ (∀ q ∈ L, free q.base) ∧ T'.heap = t.heap ∧ T'.vm = t.vm ∧ Qa st₀ (.returned v) t ∧
      Goes p e below T g T' { g with pc := g.pc + 3, stack := v.toList ++ rest }) ∨
    (∃ (q : Addr) (st₀ t T' : State) (L : List Loc) (E : String) (ce : Cell), st₀.heap = H ∧ Stand p l e R s m args below meth c T' (locs ++ L) (cells + mc) (slots + ms) ∧ (∀ z ∈ L, free z.base) ∧ T'.heap = t.heap ∧ T'.vm = t.vm ∧ XC E st₀ t ∧ t.heap[q]? = some ce ∧ ce.vm = .none ∧ s.vm.findClass E = some ce.cls ∧
      Steps p.tables e below (T.setTop g) ((T'.setTop { g with stack := rest }).pushFrame (.throwing q)))
def vx_X {S : Type} (px : S → Prop) (B : String → S → State → Prop) (A : Nat → Prop) : String → State → State → Prop := fun E st t => ∃ u : S, px u ∧ B E u t ∧ va_F A st t
section Runs
variable {p : Program} {l : Launch} {e : Env} {R : Room} {s : State} {m : MethodId} {args : Array Value} {below : List Frame} {meth : Method} {c : Code} {H : Heap} {locs : List Loc} {cells slots : Nat}
variable {y : MethodName} {bytes cc : ByteArray} {maxL nL mc ms n index : Nat} {ret : Option FieldType} {ws : List Cond} {rm : Room} {Pc : Array Value → State → Prop} {Qc : Array Value → State → Outcome → State → Prop} {XC : String → State → State → Prop} {free : Addr → Prop} {Ts : List Cond} {own C : String} {b : Addr} {As rest : List Value} {g : JFrame}
theorem vx_callBack (cb : CallB R s args own index y bytes maxL ret ws rm mc ms n) (hM : vx_Met l y ws rm Pc Qc XC mc ms free) (hbl : FrameBlind Pc) : vx_Back l R p e below s args y 3 8 (PreOf R mc ms Pc) (PostOf Qc mc ms free) (vx_Post XC mc ms free) := by
  obtain ⟨hrc, hrs, hfr, hlo, hws, hcw, -, hini, -⟩ := cb
  exact vx_back (bytes := bytes) (maxL := maxL) (ret := ret) hM hbl hrc hrs hfr hlo hws hcw (fun a' U hW => word_at hW (Or.inl (by first | rfl | simp [Cond.onTables, Cond.keeps, Cond.steady])) hini)
theorem vx_runV (S : CallFix p m c cc nL s args Ts own) (hM : vx_Met l y ws rm Pc Qc XC mc ms free) (cw : CallW R s args own C index y bytes maxL ret ws rm mc ms n) (hp : PreV s H C b Pc As)
    (hg : g.method = m) (hn : As.length = n) (hsize : g.locals.size = nL) (hstack : g.stack = As.reverse ++ .ref b :: rest) (hW : 2 * g.monitorRoom + (rest.map fun v => v.category).sum ≤ 8) (hdg : decode cc g.pc = .ok (.invokevirtual index, 3)) (hf : cells + mc ≤ R.cells ∧ slots + ms ≤ R.slots) :
    vx_Run p l e R s m args below meth c H locs cells slots mc ms g rest (Qc (Value.ref b :: As).toArray) XC free := by
  have hK : vx_Back l R p e below s args y 3 8 (PreOf R mc ms Pc) (PostOf Qc mc ms free) (vx_Post XC mc ms free) := vx_callBack cw.1 hM hp.1
  obtain ⟨⟨-, -, -, -, -, -, hcode, -, hy, hlen, hl⟩, hin, hse⟩ := cw
  obtain ⟨hx, hb, hml, ho, -⟩ := S
  obtain ⟨-, ⟨cellB, hcB, hoB, hclB⟩, hPc⟩ := hp
  intro T hT X
  rcases vx_callV X hx (C := C) (bytes := bytes) (maxL := maxL) (ret := ret) ho hl hin hse hcode hy hK (by rw [hT]; exact hcB) hoB hclB hg (hsize.trans hml.symm) (argsL := As) (rest := rest) (fun sig h => hn.trans (hlen sig h)) hstack hW (by rw [hb]; exact hdg)
    (fun vm₁ hW₁ => ⟨hf.1, hf.2, hPc (T.setVm vm₁) hT hW₁⟩) with ⟨v, vm₁, ⟨U', l2, c2, s2⟩, hW₁, X', ⟨g', mk, t, L, e1, e2, hq, h1, hL, h2, h3⟩, st⟩ | ⟨q, vm₁, ⟨U', l2, c2, s2⟩, hW₁, X', ⟨g', mk, t, L, E, ce, e1, e2, hq, hce, hcv, hcl, h1, hL, h2, h3⟩, st⟩
  · dsimp only [Pt.U, Pt.locs, Pt.cells, Pt.slots] at X' e1 e2 h1 h2 h3 st
    subst h1; subst h2; subst h3
    exact Or.inl ⟨v, (T.setVm vm₁).calling g' mk (Value.ref b :: As).toArray, t, U', L, hT, X', hL, e1, e2, hq, st⟩
  · dsimp only [Pt.U, Pt.locs, Pt.cells, Pt.slots] at X' e1 e2 h1 h2 h3 st hcl
    subst h1; subst h2; subst h3
    exact Or.inr ⟨q, (T.setVm vm₁).calling g' mk (Value.ref b :: As).toArray, t, U', L, E, ce, hT, X', hL, e1, e2, hq, hce, hcv, vx_cls hW₁ hcl, st⟩
theorem vx_runS (S : CallFix p m c cc nL s args Ts own) (hM : vx_Met l y ws rm Pc Qc XC mc ms free) (cw : CallB R s args own index y bytes maxL ret ws rm mc ms n ∧ (Cond.static y).before args s = true) (hp : PreS s H Pc As)
    (hg : g.method = m) (hn : As.length = n) (hsize : g.locals.size = nL) (hstack : g.stack = As.reverse ++ rest) (hW : 2 * g.monitorRoom + (rest.map fun v => v.category).sum ≤ 8) (hdg : decode cc g.pc = .ok (.invokestatic index, 3)) (hf : cells + mc ≤ R.cells ∧ slots + ms ≤ R.slots) :
    vx_Run p l e R s m args below meth c H locs cells slots mc ms g rest (Qc As.toArray) XC free := by
  have hK : vx_Back l R p e below s args y 3 8 (PreOf R mc ms Pc) (PostOf Qc mc ms free) (vx_Post XC mc ms free) := vx_callBack cw.1 hM hp.1
  obtain ⟨⟨-, -, -, -, -, -, hcode, hini, hy, hlen, hl⟩, hstt⟩ := cw
  obtain ⟨hx, hb, hml, ho, -⟩ := S
  intro T hT X
  rcases vx_callS X hx (bytes := bytes) (maxL := maxL) (ret := ret) ho hl hstt hini hcode hy hK hg (hsize.trans hml.symm) (argsL := As) (rest := rest) (fun sig h => hn.trans (hlen sig h)) hstack hW (by rw [hb]; exact hdg)
    (fun vm₁ hW₁ => ⟨hf.1, hf.2, hp.2 (T.setVm vm₁) hT hW₁⟩) with ⟨v, vm₁, ⟨U', l2, c2, s2⟩, hW₁, X', ⟨g', mk, t, L, e1, e2, hq, h1, hL, h2, h3⟩, st⟩ | ⟨q, vm₁, ⟨U', l2, c2, s2⟩, hW₁, X', ⟨g', mk, t, L, E, ce, e1, e2, hq, hce, hcv, hcl, h1, hL, h2, h3⟩, st⟩
  · dsimp only [Pt.U, Pt.locs, Pt.cells, Pt.slots] at X' e1 e2 h1 h2 h3 st
    subst h1; subst h2; subst h3
    exact Or.inl ⟨v, (T.setVm vm₁).calling g' mk As.toArray, t, U', L, hT, X', hL, e1, e2, hq, st⟩
  · dsimp only [Pt.U, Pt.locs, Pt.cells, Pt.slots] at X' e1 e2 h1 h2 h3 st hcl
    subst h1; subst h2; subst h3
    exact Or.inr ⟨q, (T.setVm vm₁).calling g' mk As.toArray, t, U', L, E, ce, hT, X', hL, e1, e2, hq, hce, hcv, vx_cls hW₁ hcl, st⟩
end Runs
section Rows
variable {p : Program} {l : Launch} {e : Env} {R : Room} {s : State} {m : MethodId} {args : Array Value} {below : List Frame} {meth : Method} {c : Code} {H : Heap} {locs : List Loc} {cells slots : Nat} {Q : State → Prop}
variable {mc ms : Nat} {free : Addr → Prop} {A0 A1 : Nat → Prop} {H0 : Heap} {a : Array Value} {pc : Nat} {ls : Array Slot} {st0 rest : List Value}
theorem vx_keep {st₀ t T' : State} {L : List Loc} (h0 : st₀.heap = H) (e1 : T'.heap = t.heap) (hS : va_S A0 H0 H locs) (hA : ∀ q, q < H.size → A1 q → A0 q) (hf : ∀ q, free q → A0 q) (hL : ∀ q ∈ L, free q.base) (hF : va_F A1 st₀ t) :
    H.size ≤ T'.heap.size ∧ (∀ q : Nat, q < H.size → ¬ A1 q → T'.heap[q]? = H[q]?) ∧ va_S A0 H0 T'.heap (locs ++ L) := by
  obtain ⟨hz, hk⟩ := hF
  rw [h0] at hz hk
  exact ⟨by rw [e1]; exact hz, fun q h1 h2 => by rw [e1]; exact hk q h1 h2,
    ⟨Nat.le_trans hS.1 (by rw [e1]; exact hz), fun q h1 h2 => by rw [e1, hk q (Nat.lt_of_lt_of_le h1 hS.1) (fun z => h2 (hA q (Nat.lt_of_lt_of_le h1 hS.1) z))]; exact hS.2.1 q h1 h2, fun q hq => by
      rcases List.mem_append.mp hq with h | h
      · exact hS.2.2 q h
      · exact hf _ (hL q h)⟩⟩
theorem vx_calli {S SX : Type} {post : Int32 → S → Prop} {px : SX → Prop} {B : S → State → Prop} {BX : String → SX → State → Prop} {AX : Nat → Prop} (hr : vx_Run p l e R s m args below meth c H locs cells slots mc ms (F0 m pc ls st0) rest (va_Qi post B A1 a) (vx_X px BX AX) free) (hS : va_S A0 H0 H locs) (hA : ∀ q, q < H.size → A1 q → A0 q) (hf : ∀ q, free q → A0 q) (hAX : ∀ q, q < H.size → AX q → A0 q)
    (kx : ∀ (E : String) (ce : Cell) (q9 : Addr) (u : SX) (t : State) (H1 : Heap) (locs1 : List Loc), t.heap = H1 → s.vm.Alike t.vm → px u → BX E u t → H.size ≤ H1.size → (∀ q : Nat, q < H.size → ¬ AX q → H1[q]? = H[q]?) → va_S A0 H0 H1 locs1 → H1[q9]? = some ce → ce.vm = .none → s.vm.findClass E = some ce.cls → vx_W p l e R s m args below meth c H1 locs1 (cells + mc) (slots + ms) Q (F0 m pc ls rest) q9)
    (kk : ∀ (r : Int32) (u : S) (t : State) (H1 : Heap) (locs1 : List Loc), t.heap = H1 → s.vm.Alike t.vm → post r u → B u t → H.size ≤ H1.size → (∀ q : Nat, q < H.size → ¬ A1 q → H1[q]? = H[q]?) → va_S A0 H0 H1 locs1 → W p l e R s m args below meth c H1 locs1 (cells + mc) (slots + ms) Q (F0 m (pc + 3) ls (.int r :: rest))) : W p l e R s m args below meth c H locs cells slots Q (F0 m pc ls st0) := by
  intro T hT X
  rcases hr T hT X with ⟨v, st₀, t, T', L, h0, X', hL, e1, e2, ⟨⟨r, u, hv, hp, hb⟩, hF⟩, st⟩ | ⟨q, st₀, t, T', L, E, ce, h0, X', hL, e1, e2, ⟨u, hp, hb, hF⟩, hce, hcv, hcl, st⟩
  · cases hv
    obtain ⟨k1, k2, k3⟩ := vx_keep h0 e1 hS hA hf hL hF
    obtain ⟨t2, a1, b1⟩ := kk r u t T'.heap (locs ++ L) e1.symm (by rw [← e2]; exact X'.warmed.alike) hp hb k1 k2 k3 T' rfl X'
    exact ⟨t2, st t2 a1, b1⟩
  · obtain ⟨k1, k2, k3⟩ := vx_keep h0 e1 hS hAX hf hL hF
    obtain ⟨t2, a1, b1⟩ := kx E ce q u t T'.heap (locs ++ L) e1.symm (by rw [← e2]; exact X'.warmed.alike) hp hb k1 k2 k3 (by rw [e1]; exact hce) hcv hcl T' rfl X'
    exact ⟨t2, st.trans a1, b1⟩
theorem vx_calll {S SX : Type} {post : Int64 → S → Prop} {px : SX → Prop} {B : S → State → Prop} {BX : String → SX → State → Prop} {AX : Nat → Prop} (hr : vx_Run p l e R s m args below meth c H locs cells slots mc ms (F0 m pc ls st0) rest (va_Ql post B A1 a) (vx_X px BX AX) free) (hS : va_S A0 H0 H locs) (hA : ∀ q, q < H.size → A1 q → A0 q) (hf : ∀ q, free q → A0 q) (hAX : ∀ q, q < H.size → AX q → A0 q)
    (kx : ∀ (E : String) (ce : Cell) (q9 : Addr) (u : SX) (t : State) (H1 : Heap) (locs1 : List Loc), t.heap = H1 → s.vm.Alike t.vm → px u → BX E u t → H.size ≤ H1.size → (∀ q : Nat, q < H.size → ¬ AX q → H1[q]? = H[q]?) → va_S A0 H0 H1 locs1 → H1[q9]? = some ce → ce.vm = .none → s.vm.findClass E = some ce.cls → vx_W p l e R s m args below meth c H1 locs1 (cells + mc) (slots + ms) Q (F0 m pc ls rest) q9)
    (kk : ∀ (r : Int64) (u : S) (t : State) (H1 : Heap) (locs1 : List Loc), t.heap = H1 → s.vm.Alike t.vm → post r u → B u t → H.size ≤ H1.size → (∀ q : Nat, q < H.size → ¬ A1 q → H1[q]? = H[q]?) → va_S A0 H0 H1 locs1 → W p l e R s m args below meth c H1 locs1 (cells + mc) (slots + ms) Q (F0 m (pc + 3) ls (.long r :: rest))) : W p l e R s m args below meth c H locs cells slots Q (F0 m pc ls st0) := by
  intro T hT X
  rcases hr T hT X with ⟨v, st₀, t, T', L, h0, X', hL, e1, e2, ⟨⟨r, u, hv, hp, hb⟩, hF⟩, st⟩ | ⟨q, st₀, t, T', L, E, ce, h0, X', hL, e1, e2, ⟨u, hp, hb, hF⟩, hce, hcv, hcl, st⟩
  · cases hv
    obtain ⟨k1, k2, k3⟩ := vx_keep h0 e1 hS hA hf hL hF
    obtain ⟨t2, a1, b1⟩ := kk r u t T'.heap (locs ++ L) e1.symm (by rw [← e2]; exact X'.warmed.alike) hp hb k1 k2 k3 T' rfl X'
    exact ⟨t2, st t2 a1, b1⟩
  · obtain ⟨k1, k2, k3⟩ := vx_keep h0 e1 hS hAX hf hL hF
    obtain ⟨t2, a1, b1⟩ := kx E ce q u t T'.heap (locs ++ L) e1.symm (by rw [← e2]; exact X'.warmed.alike) hp hb k1 k2 k3 (by rw [e1]; exact hce) hcv hcl T' rfl X'
    exact ⟨t2, st.trans a1, b1⟩
theorem vx_callf {S SX : Type} {post : UInt32 → S → Prop} {px : SX → Prop} {B : S → State → Prop} {BX : String → SX → State → Prop} {AX : Nat → Prop} (hr : vx_Run p l e R s m args below meth c H locs cells slots mc ms (F0 m pc ls st0) rest (va_Qf post B A1 a) (vx_X px BX AX) free) (hS : va_S A0 H0 H locs) (hA : ∀ q, q < H.size → A1 q → A0 q) (hf : ∀ q, free q → A0 q) (hAX : ∀ q, q < H.size → AX q → A0 q)
    (kx : ∀ (E : String) (ce : Cell) (q9 : Addr) (u : SX) (t : State) (H1 : Heap) (locs1 : List Loc), t.heap = H1 → s.vm.Alike t.vm → px u → BX E u t → H.size ≤ H1.size → (∀ q : Nat, q < H.size → ¬ AX q → H1[q]? = H[q]?) → va_S A0 H0 H1 locs1 → H1[q9]? = some ce → ce.vm = .none → s.vm.findClass E = some ce.cls → vx_W p l e R s m args below meth c H1 locs1 (cells + mc) (slots + ms) Q (F0 m pc ls rest) q9)
    (kk : ∀ (r : UInt32) (u : S) (t : State) (H1 : Heap) (locs1 : List Loc), t.heap = H1 → s.vm.Alike t.vm → post r u → B u t → H.size ≤ H1.size → (∀ q : Nat, q < H.size → ¬ A1 q → H1[q]? = H[q]?) → va_S A0 H0 H1 locs1 → W p l e R s m args below meth c H1 locs1 (cells + mc) (slots + ms) Q (F0 m (pc + 3) ls (.float r :: rest))) : W p l e R s m args below meth c H locs cells slots Q (F0 m pc ls st0) := by
  intro T hT X
  rcases hr T hT X with ⟨v, st₀, t, T', L, h0, X', hL, e1, e2, ⟨⟨r, u, hv, hp, hb⟩, hF⟩, st⟩ | ⟨q, st₀, t, T', L, E, ce, h0, X', hL, e1, e2, ⟨u, hp, hb, hF⟩, hce, hcv, hcl, st⟩
  · cases hv
    obtain ⟨k1, k2, k3⟩ := vx_keep h0 e1 hS hA hf hL hF
    obtain ⟨t2, a1, b1⟩ := kk r u t T'.heap (locs ++ L) e1.symm (by rw [← e2]; exact X'.warmed.alike) hp hb k1 k2 k3 T' rfl X'
    exact ⟨t2, st t2 a1, b1⟩
  · obtain ⟨k1, k2, k3⟩ := vx_keep h0 e1 hS hAX hf hL hF
    obtain ⟨t2, a1, b1⟩ := kx E ce q u t T'.heap (locs ++ L) e1.symm (by rw [← e2]; exact X'.warmed.alike) hp hb k1 k2 k3 (by rw [e1]; exact hce) hcv hcl T' rfl X'
    exact ⟨t2, st.trans a1, b1⟩
theorem vx_calld {S SX : Type} {post : UInt64 → S → Prop} {px : SX → Prop} {B : S → State → Prop} {BX : String → SX → State → Prop} {AX : Nat → Prop} (hr : vx_Run p l e R s m args below meth c H locs cells slots mc ms (F0 m pc ls st0) rest (va_Qd post B A1 a) (vx_X px BX AX) free) (hS : va_S A0 H0 H locs) (hA : ∀ q, q < H.size → A1 q → A0 q) (hf : ∀ q, free q → A0 q) (hAX : ∀ q, q < H.size → AX q → A0 q)
    (kx : ∀ (E : String) (ce : Cell) (q9 : Addr) (u : SX) (t : State) (H1 : Heap) (locs1 : List Loc), t.heap = H1 → s.vm.Alike t.vm → px u → BX E u t → H.size ≤ H1.size → (∀ q : Nat, q < H.size → ¬ AX q → H1[q]? = H[q]?) → va_S A0 H0 H1 locs1 → H1[q9]? = some ce → ce.vm = .none → s.vm.findClass E = some ce.cls → vx_W p l e R s m args below meth c H1 locs1 (cells + mc) (slots + ms) Q (F0 m pc ls rest) q9)
    (kk : ∀ (r : UInt64) (u : S) (t : State) (H1 : Heap) (locs1 : List Loc), t.heap = H1 → s.vm.Alike t.vm → post r u → B u t → H.size ≤ H1.size → (∀ q : Nat, q < H.size → ¬ A1 q → H1[q]? = H[q]?) → va_S A0 H0 H1 locs1 → W p l e R s m args below meth c H1 locs1 (cells + mc) (slots + ms) Q (F0 m (pc + 3) ls (.double r :: rest))) : W p l e R s m args below meth c H locs cells slots Q (F0 m pc ls st0) := by
  intro T hT X
  rcases hr T hT X with ⟨v, st₀, t, T', L, h0, X', hL, e1, e2, ⟨⟨r, u, hv, hp, hb⟩, hF⟩, st⟩ | ⟨q, st₀, t, T', L, E, ce, h0, X', hL, e1, e2, ⟨u, hp, hb, hF⟩, hce, hcv, hcl, st⟩
  · cases hv
    obtain ⟨k1, k2, k3⟩ := vx_keep h0 e1 hS hA hf hL hF
    obtain ⟨t2, a1, b1⟩ := kk r u t T'.heap (locs ++ L) e1.symm (by rw [← e2]; exact X'.warmed.alike) hp hb k1 k2 k3 T' rfl X'
    exact ⟨t2, st t2 a1, b1⟩
  · obtain ⟨k1, k2, k3⟩ := vx_keep h0 e1 hS hAX hf hL hF
    obtain ⟨t2, a1, b1⟩ := kx E ce q u t T'.heap (locs ++ L) e1.symm (by rw [← e2]; exact X'.warmed.alike) hp hb k1 k2 k3 (by rw [e1]; exact hce) hcv hcl T' rfl X'
    exact ⟨t2, st.trans a1, b1⟩
theorem vx_callv {S SX : Type} {post : S → Prop} {px : SX → Prop} {B : S → State → Prop} {BX : String → SX → State → Prop} {AX : Nat → Prop} (hr : vx_Run p l e R s m args below meth c H locs cells slots mc ms (F0 m pc ls st0) rest (va_Qv post B A1 a) (vx_X px BX AX) free) (hS : va_S A0 H0 H locs) (hA : ∀ q, q < H.size → A1 q → A0 q) (hf : ∀ q, free q → A0 q) (hAX : ∀ q, q < H.size → AX q → A0 q)
    (kx : ∀ (E : String) (ce : Cell) (q9 : Addr) (u : SX) (t : State) (H1 : Heap) (locs1 : List Loc), t.heap = H1 → s.vm.Alike t.vm → px u → BX E u t → H.size ≤ H1.size → (∀ q : Nat, q < H.size → ¬ AX q → H1[q]? = H[q]?) → va_S A0 H0 H1 locs1 → H1[q9]? = some ce → ce.vm = .none → s.vm.findClass E = some ce.cls → vx_W p l e R s m args below meth c H1 locs1 (cells + mc) (slots + ms) Q (F0 m pc ls rest) q9)
    (kk : ∀ (u : S) (t : State) (H1 : Heap) (locs1 : List Loc), t.heap = H1 → s.vm.Alike t.vm → post u → B u t → H.size ≤ H1.size → (∀ q : Nat, q < H.size → ¬ A1 q → H1[q]? = H[q]?) → va_S A0 H0 H1 locs1 → W p l e R s m args below meth c H1 locs1 (cells + mc) (slots + ms) Q (F0 m (pc + 3) ls (rest))) : W p l e R s m args below meth c H locs cells slots Q (F0 m pc ls st0) := by
  intro T hT X
  rcases hr T hT X with ⟨v, st₀, t, T', L, h0, X', hL, e1, e2, ⟨⟨u, hv, hp, hb⟩, hF⟩, st⟩ | ⟨q, st₀, t, T', L, E, ce, h0, X', hL, e1, e2, ⟨u, hp, hb, hF⟩, hce, hcv, hcl, st⟩
  · cases hv
    obtain ⟨k1, k2, k3⟩ := vx_keep h0 e1 hS hA hf hL hF
    obtain ⟨t2, a1, b1⟩ := kk u t T'.heap (locs ++ L) e1.symm (by rw [← e2]; exact X'.warmed.alike) hp hb k1 k2 k3 T' rfl X'
    exact ⟨t2, st t2 a1, b1⟩
  · obtain ⟨k1, k2, k3⟩ := vx_keep h0 e1 hS hAX hf hL hF
    obtain ⟨t2, a1, b1⟩ := kx E ce q u t T'.heap (locs ++ L) e1.symm (by rw [← e2]; exact X'.warmed.alike) hp hb k1 k2 k3 (by rw [e1]; exact hce) hcv hcl T' rfl X'
    exact ⟨t2, st.trans a1, b1⟩
/-- the search in a table of one row, which takes what was thrown: the row's class may be asked for here for the first time -/
theorem z_find {e : Env} {S : State} {f : JFrame} {a : Addr} {mth : Method} {cd : Code} (hm : S.vm.method? f.method = some mth) (hc : mth.code = some cd) {x : ExceptionTableEntry} (hsplit : cd.exceptionTable.toList = [x]) (hx : covers x f.pc = true) (h0 : x.catchType ≠ 0) {cT : ClassId} {cell : Cell}
    (hl : S.vm.ClassLinks e.platform f.method.cls x.catchType cT) (hcell : S.heap[a]? = some cell) (hobj : ∀ k, cell.vm ≠ .statics k) (hk : ∃ k, S.vm.classes[cell.cls]? = some k) (hcl : ∃ k, S.vm.classes[cT]? = some k) (hfit : S.vm.assignable cell.cls cT = true)
    (Qh : Handler → Pre) (Ec : CtlPost) (d : Bool) (acts : List Action) : wp (findHandler f a) Qh Ec e d acts S ↔ Qh (.found x.handlerPc) d acts (S.setVm (S.vm.noted f.method.cls x.catchType (.cls cT))) := by
  rw [W.findHandler_eq hm hc, hsplit]
  simp only [covers] at hx
  obtain ⟨ha, ht⟩ := (resolveClass_links e.toSetting hl).op (op := VmOp.resolveClass f.method.cls x.catchType) rfl
  have hal : S.vm.Alike (S.vm.noted f.method.cls x.catchType (.cls cT)) := (Vm.Alike.refl S.vm).noted _ _ _
  obtain ⟨k1, hk1⟩ := hk
  obtain ⟨k2, hk2⟩ := hcl
  obtain ⟨k1', hk1', -⟩ := hal.2.2 _ _ hk1
  obtain ⟨k2', hk2', -⟩ := hal.2.2 _ _ hk2
  have hfit' : (S.vm.noted f.method.cls x.catchType (.cls cT)).assignable cell.cls cT = true := by rw [hal.assignable]; exact hfit
  simp [findHandler.go, hx, h0, ha, ht, hcell, hobj, hk1', hk2', hfit', VmOp.dirties, VmOp.acts]
theorem z_caught {T : State} (X : Stand p l e R s m args below meth c T locs cells slots) (q : Addr) {g : JFrame} (hg : g.method = m) {own name : String} (hown : s.vm.findClass own = some m.cls) {x : ExceptionTableEntry} (hsplit : c.exceptionTable.toList = [x]) (hx : covers x g.pc = true) (h0 : x.catchType ≠ 0)
    (hlink : (Cond.classLink own x.catchType name).before args s = true) {cT : ClassId} {cell : Cell} (hcT : s.vm.findClass name = some cT) (hcell : T.heap[q]? = some cell) (hobj : cell.vm.isStatics = false) (hk0 : ∃ k, s.vm.classes[cell.cls]? = some k) (hfit : s.vm.assignable cell.cls cT = true) :
    ∃ vm', Stand p l e R s m args below meth c (T.setVm vm') locs cells slots ∧ ∀ target, Steps p.tables e below ((T.setVm vm').setTop { g with pc := x.handlerPc, stack := [.ref q] }) target → Steps p.tables e below ((T.setTop g).pushFrame (.throwing q)) target := by
  have hpl : e.platform.magicAccessors = ({} : Platform).magicAccessors := by rw [X.admits.platform]
  obtain ⟨c', hc', hcl⟩ := Cond.classLink_spec hown hlink e.platform hpl
  cases hcT.symm.trans hc'
  obtain ⟨dk, _, _, kt, hd, _, _, _, _, hkt, _, hopen⟩ := hcl.here
  have hcl0 := X.warmed.classLinks hcl
  have hal := X.warmed.alike
  obtain ⟨kt', hkt', -⟩ := hal.2.2 _ _ hkt
  obtain ⟨k0, hk0⟩ := hk0
  obtain ⟨k0', hk0', -⟩ := hal.2.2 _ _ hk0
  subst hg
  refine ⟨_, X.noted (X.warmed.noted hd hopen (State.rightAt_cls hcl)), fun target hrest => ?_⟩
  have hf := z_find (e := e) (S := (T.setTop g).pushFrame (.throwing q)) (f := g) (a := q) (mth := meth) (cd := c) X.method' X.code hsplit hx h0 (cT := cT) (cell := cell) hcl0 hcell (VmData.ne_statics_of hobj) ⟨k0', hk0'⟩ ⟨kt', hkt'⟩ (by show T.vm.assignable cell.cls cT = true; rw [hal.assignable]; exact hfit)
  have h := X.here
  obtain ⟨hgo, hw⟩ := h.throwing q
  refine Steps.head hgo hw ?_
  have hst : (stepThrowing e ((T.setTop g).pushFrame (.throwing q)) q (.java g :: T.frames.tail)).Is ((((T.setTop g).pushFrame (.throwing q)).setVm (T.vm.noted g.method.cls x.catchType (.cls cT))).setFrames (.java { g with pc := x.handlerPc, stack := [.ref q] } :: T.frames.tail)) [] := by
    simp only [stepThrowing, searchFrame, vmDo]
    generalize hr : Sem.go _ e false [] ((T.setTop g).pushFrame (.throwing q)) = res
    obtain ⟨as, rfl, ha⟩ := Sem.eq_ok_of hr (a := Handler.found x.handlerPc) (s' := ((T.setTop g).pushFrame (.throwing q)).setVm (T.vm.noted g.method.cls x.catchType (.cls cT))) (acts' := []) (by simp [hf]; rfl)
    exact ⟨rfl, ha⟩
  rw [stepThread_throwing (frames_entered h.top _), hst.1]
  obtain ⟨g₀, hg0⟩ := Option.isSome_iff_exists.mp h.top
  obtain ⟨r, hr⟩ := State.topJava?_eq_some.mp hg0
  have hr' : (T.setVm (T.vm.noted g.method.cls x.catchType (.cls cT))).frames = .java g₀ :: r := hr
  rw [State.setTop_of_frames _ hr'] at hrest
  have e1 : ∀ (u : State) (vm' : Vm) (F G : List Frame), ((u.setFrames F).setVm vm').setFrames G = (u.setVm vm').setFrames G := fun u vm' F G => by
    rw [show (u.setFrames F).setVm vm' = (u.setVm vm').setFrames F from rfl, State.setFrames_setFrames]
  rw [hr, List.tail_cons, State.pushFrame, e1, State.setTop_of_frames _ hr, e1]
  exact hrest
/-- caught by the one row of this method's table -/
theorem vx_catch1 {own name : String} {E : String} {ce : Cell} {q : Addr} (hown : s.vm.findClass own = some m.cls) (x : ExceptionTableEntry) (hsplit : c.exceptionTable.toList = [x]) (hx : covers x pc = true) (h0 : x.catchType ≠ 0)
    (hlink : (Cond.classLink own x.catchType name).before args s = true) (hcast : (Cond.castable E name).before args s = true) (hcell : H[q]? = some ce) (hv : ce.vm = .none) (hcl : s.vm.findClass E = some ce.cls)
    (kk : W p l e R s m args below meth c H locs cells slots Q (F0 m x.handlerPc ls [.ref q])) : vx_W p l e R s m args below meth c H locs cells slots Q (F0 m pc ls rest) q := by
  intro T hT X
  obtain ⟨c3, c4, hc3, hc4, hasg⟩ := Cond.castable_spec hcast
  cases Option.some.inj (hc3.symm.trans hcl)
  obtain ⟨vm', X', st⟩ := z_caught X q (g := F0 m pc ls rest) rfl hown hsplit hx h0 hlink hc4 (by rw [hT]; exact hcell) (by rw [hv]; rfl) (by obtain ⟨k9, h9, -⟩ := Vm.findClass_spec hcl; exact ⟨k9, h9⟩) hasg
  obtain ⟨t, a1, b1⟩ := kk (T.setVm vm') hT X'
  exact ⟨t, st _ a1, b1⟩
end Rows
section Ends
variable {p : Program} {l : Launch} {e : Env} {R : Room} {s : State} {m : MethodId} {args : Array Value} {below : List Frame} {meth : Method} {c : Code} {H : Heap} {locs : List Loc} {cells slots : Nat} {Q : State → Prop}
variable {mc ms : Nat} {free : Addr → Prop} {A0 A1 : Nat → Prop} {H0 : Heap} {a : Array Value} {ls : Array Slot} {st0 rest : List Value}
variable {Qc : Array Value → State → Outcome → State → Prop} {XC : String → State → State → Prop}
/-- what a body that may throw owes at its end -/
def vx_MQ (below : List Frame) (Qc : Array Value → State → Outcome → State → Prop) (XC : String → State → State → Prop) (a : Array Value) (s : State) (mc ms : Nat) (free : Addr → Prop) : State → Prop := fun t =>
  ∃ o, t.status = .running ∧ Ended t below o ∧ vx_Q Qc XC mc ms free a s o t
theorem vx_ret {g : JFrame} {mc ms : Nat} (k : W p l e R s m args below meth c H locs cells slots (MQ below Qc args s mc ms free) g) : W p l e R s m args below meth c H locs cells slots (vx_MQ below Qc XC args s mc ms free) g := by
  intro T hT X
  obtain ⟨t, a1, o, b1, b2, b3, b4⟩ := k T hT X
  exact ⟨t, a1, o, b1, b2, Or.inl ⟨b3, b4⟩⟩
/-- not caught here: it goes on to the caller -/
theorem vx_widen {g : JFrame} {q : Addr} {k n : Nat} (h1 : cells ≤ k) (h2 : slots ≤ n) (kk : vx_W p l e R s m args below meth c H locs k n Q g q) : vx_W p l e R s m args below meth c H locs cells slots Q g q := fun T hT X => kk T hT (stand_widen X h1 h2)
theorem vx_out {pc : Nat} {E : String} {ce : Cell} {q : Addr} {mc ms : Nat} (hout : ∀ x ∈ c.exceptionTable.toList, covers x pc = false) (hlocks : meth.locks = false) (hcell : H[q]? = some ce) (hv : ce.vm = .none) (hcl : s.vm.findClass E = some ce.cls)
    (hx : ∀ t : State, t.heap = H → s.vm.Alike t.vm → XC E s t) (hf : ∀ z ∈ locs, free z.base) (hc : cells ≤ mc) (hs : slots ≤ ms) :
    vx_W p l e R s m args below meth c H locs cells slots (vx_MQ below Qc XC args s mc ms free) (F0 m pc ls rest) q := by
  intro T hT X
  obtain ⟨st1, hrun, hend, hW, hsm⟩ := X.leaveThrown q (g := F0 m pc ls rest) rfl rfl rfl hout hlocks
  have hcell9 : (T.setFrames (.throwing q :: below)).heap[q]? = some ce := by
    show T.heap[q]? = some ce
    rw [hT]; exact hcell
  exact ⟨_, st1, .threw q, hrun, hend, Or.inr ⟨q, rfl, E, ce, locs, hx _ hT hW.alike, hcell9, hv, hcl, hW, hsm.mono hc hs, hf⟩⟩
theorem vx_frame {U : State} {k n : Nat} (h : s.sameButNew ({ U with vm := s.vm } : State) locs k n) : s.heap.size ≤ U.heap.size ∧ ∀ q : Nat, q < s.heap.size → (∀ z ∈ locs, z.base ≠ q) → U.heap[q]? = s.heap[q]? := by
  obtain ⟨-, h2, -, -, -, h6⟩ := h
  refine ⟨h2, fun q hq hz => ?_⟩
  obtain ⟨c9, e1, e2, e3, e4⟩ := h6 q _ (Array.getElem?_eq_getElem hq)
  have hs : c9.slots = (s.heap[q]).slots := Array.ext_getElem? fun i => e4 i fun hm => hz _ hm rfl
  have h9 : c9 = s.heap[q] := by
    rw [hs] at e2
    exact e2
  have e5 : U.heap[q]? = some c9 := e1
  rw [e5, h9, Array.getElem?_eq_getElem hq]
/-- the words of a throw but the four that speak of the heap -/
def vx_no (w : Cond) : Bool := decide (w ≠ .isRef (.static Bundle.tN "UNASSIGNED_STACK" Bundle.steD)) && decide (w ≠ .isRef (.static Bundle.tN "SUPPRESSED_SENTINEL" Bundle.listD)) && decide (w ≠ .laysStatic Bundle.tN "UNASSIGNED_STACK" Bundle.steD) && decide (w ≠ .laysStatic Bundle.tN "SUPPRESSED_SENTINEL" Bundle.listD)
def vx_at0 (own : String) (ic : Nat) (X : String) (names : List String) : List Cond := (Bundle.ownAtoms0 own ic X names).filter vx_no
def vx_atS (own : String) (ic : Nat) (X : String) (names : List String) : List Cond := (Bundle.ownAtoms own ic X names).filter vx_no
/-- a word that the tables alone decide, or a good one -/
def vx_ot (w : Cond) : Bool := w.onTables || goodWord w
theorem vx_ot_at {args a' : Array Value} {s U : State} {w : Cond} (hW : s.WarmedH U.vm) (hvm : s.vm = U.vm) (hg : vx_ot w = true) (h : w.before args s = true) : w.before a' U = true := by
  simp only [vx_ot, Bool.or_eq_true] at hg
  rcases hg with hg | hg
  · exact va_tabs hg hvm h
  · exact word_at hW (good_of_word hg) h
/-- a list's words: the good ones out of the method's own list, the others by premises of their own -/
theorem vx_hat {args : Array Value} {s : State} {L B : List Cond} (h1 : ∀ w ∈ L.filter goodWord, w.before args s = true) (h2 : ∀ w ∈ L.filter (fun w => !goodWord w), w ∈ B) (h3 : ∀ w ∈ B, w.before args s = true) : ∀ w ∈ L, w.before args s = true := by
  intro w hw
  by_cases g : goodWord w = true
  · exact h1 w (List.mem_filter.mpr ⟨hw, g⟩)
  · refine h3 w (h2 w (List.mem_filter.mpr ⟨hw, ?_⟩))
    show (!goodWord w) = true
    cases hgw : goodWord w
    · rfl
    · exact absurd hgw g
theorem vx_c {args : Array Value} {s : State} {w : Cond} {B : List Cond} (h : w.before args s = true) (t : ∀ w ∈ B, w.before args s = true) : ∀ w' ∈ w :: B, w'.before args s = true := fun w' h' => (List.mem_cons.mp h').elim (fun e => by rw [e]; exact h) (t w')
theorem vx_n {args : Array Value} {s : State} : ∀ w ∈ ([] : List Cond), w.before args s = true := fun _ h => nomatch h
theorem vx_own {args : Array Value} {s : State} {L : List Cond} (h1 : ∀ w ∈ L.filter vx_no, w.before args s = true)
    (hU : (Cond.isRef (.static Bundle.tN "UNASSIGNED_STACK" Bundle.steD)).before args s = true) (hN : (Cond.isRef (.static Bundle.tN "SUPPRESSED_SENTINEL" Bundle.listD)).before args s = true)
    (lU : (Cond.laysStatic Bundle.tN "UNASSIGNED_STACK" Bundle.steD).before args s = true) (lN : (Cond.laysStatic Bundle.tN "SUPPRESSED_SENTINEL" Bundle.listD).before args s = true) : ∀ w ∈ L, w.before args s = true := by
  intro w hw
  by_cases e1 : w = .isRef (.static Bundle.tN "UNASSIGNED_STACK" Bundle.steD)
  · rw [e1]; exact hU
  · by_cases e2 : w = .isRef (.static Bundle.tN "SUPPRESSED_SENTINEL" Bundle.listD)
    · rw [e2]; exact hN
    · by_cases e3 : w = .laysStatic Bundle.tN "UNASSIGNED_STACK" Bundle.steD
      · rw [e3]; exact lU
      · by_cases e4 : w = .laysStatic Bundle.tN "SUPPRESSED_SENTINEL" Bundle.listD
        · rw [e4]; exact lN
        · exact h1 w (List.mem_filter.mpr ⟨hw, by unfold vx_no; rw [decide_eq_true e1, decide_eq_true e2, decide_eq_true e3, decide_eq_true e4]; rfl⟩)
/-- where a static field lies, its class's statics cell in H -/
def vx_L (C n d : String) (A : Nat → Prop) (U : State) (H : Heap) : Prop := ∃ (c : ClassId) (k : Class) (i : Nat) (f : Field) (a : Nat) (cell : Cell), U.vm.findClass C = some c ∧ U.fieldFound? C n d = some (c, k, i, f) ∧ f.isStatic = true ∧ k.statics = some a ∧ H[a]? = some cell ∧ cell.vm.isStatics = true ∧ cell.cls = c ∧ f.slot < cell.slots.size ∧ k.staticTypes[f.slot]? = some f.type ∧ ¬ A a
theorem vx_L.moved {C n d : String} {A : Nat → Prop} {u U : State} {H : Heap} (hvm : u.vm.Alike U.vm) (h : vx_L C n d A u H) : vx_L C n d A U H := by
  obtain ⟨c, k, i, f, a, cell, h1, h2, h3, h4, h5, h6, h7, h8, h9, h10⟩ := h
  obtain ⟨k', hi', he⟩ := State.fieldFound?_setVm hvm h2
  exact ⟨c, k', i, f, a, cell, by rw [hvm.findClass]; exact h1, hi', h3, by rw [he]; exact h4, h5, h6, h7, h8, by rw [he]; exact h9, h10⟩
theorem vx_L.kept {C n d : String} {A : Nat → Prop} {U : State} {H H1 : Heap} (h : vx_L C n d A U H) (hq : ∀ a : Nat, a < H.size → ¬ A a → H1[a]? = H[a]?) : vx_L C n d A U H1 := by
  obtain ⟨c, k, i, f, a, cell, h1, h2, h3, h4, h5, h6, h7, h8, h9, h10⟩ := h
  exact ⟨c, k, i, f, a, cell, h1, h2, h3, h4, by rw [hq a (Array.getElem?_eq_some_iff.mp h5).1 h10]; exact h5, h6, h7, h8, h9, h10⟩
theorem vx_L.narrow {C n d : String} {A B : Nat → Prop} {U : State} {H : Heap} (h : vx_L C n d A U H) (hAB : ∀ q, B q → A q) : vx_L C n d B U H := by
  obtain ⟨c, k, i, f, a, cell, h1, h2, h3, h4, h5, h6, h7, h8, h9, h10⟩ := h
  exact ⟨c, k, i, f, a, cell, h1, h2, h3, h4, h5, h6, h7, h8, h9, fun z => h10 (hAB _ z)⟩
theorem vx_L.word {C n d : String} {A : Nat → Prop} {s : State} {args : Array Value} (h : vx_L C n d A s s.heap) : (Cond.laysStatic C n d).before args s = true := by
  obtain ⟨c, k, i, f, a, cell, h1, h2, h3, h4, h5, h6, h7, h8, h9, -⟩ := h
  show (Cond.laysStatic C n d).holds args s none s [] = true
  exact Cond.laysStatic_of h1 h2 h3 h4 h5 h6 h7 h8 h9
/-- .. and what it holds: null or some reference -/
def vx_Zq (C n d : String) (A : Nat → Prop) (U : State) (H : Heap) : Prop := va_Zq C n d A U H ∧ vx_L C n d A U H
theorem vx_Zq.moved {C n d : String} {A : Nat → Prop} {u U : State} {H : Heap} (hvm : u.vm.Alike U.vm) (h : vx_Zq C n d A u H) : vx_Zq C n d A U H := ⟨va_Zq.moved hvm h.1, vx_L.moved hvm h.2⟩
theorem vx_Zq.kept {C n d : String} {A : Nat → Prop} {U : State} {H H1 : Heap} (h : vx_Zq C n d A U H) (hq : ∀ a : Nat, a < H.size → ¬ A a → H1[a]? = H[a]?) : vx_Zq C n d A U H1 := ⟨va_Zq.kept h.1 hq, vx_L.kept h.2 hq⟩
theorem vx_Zq.narrow {C n d : String} {A B : Nat → Prop} {U : State} {H : Heap} (h : vx_Zq C n d A U H) (hAB : ∀ q, B q → A q) : vx_Zq C n d B U H := ⟨va_Zq.narrow h.1 hAB, vx_L.narrow h.2 hAB⟩
theorem vx_Zqof {args : Array Value} {s : State} {C n d : String} {A : Nat → Prop} (hl : (Cond.laysStatic C n d).before args s = true) (hini : (Cond.initialized C).before args s = true) (h : (Cond.isRef (.static C n d)).before args s = true) (hA : ∀ a : Nat, a < s.heap.size → ¬ A a) : vx_Zq C n d A s s.heap := by
  refine ⟨va_Zqof hl hini h hA, ?_⟩
  obtain ⟨c, k, i, f, a, cell, h1, h2, h3, h4, h5, h6, h7, h8, h9⟩ := Cond.laysStatic_spec hl
  exact ⟨c, k, i, f, a, cell, h1, h2, h3, h4, h5, h6, h7, h8, h9, hA a (Array.getElem?_eq_some_iff.mp h5).1⟩
theorem vx_isRef {C n d : String} {v : Value} {A : Nat → Prop} {s : State} {args : Array Value} (h : va_Z C n d v A s s.heap) (hv : v.isRef = true) : (Cond.isRef (.static C n d)).before args s = true := by
  obtain ⟨cf, kf, fi, f, a, cell, h1, h2, h3, h4, h5, h6, h7, -⟩ := h
  have he : (Term.static C n d).eval args s none [] s = some v := by
    simp [Term.eval, State.fieldNamed?, h1, h2, h4, h5, h6, h7]
  simp only [Cond.before, Cond.holds, Cond.value, he]
  cases v <;> simp_all [Value.isRef]
theorem vx_isRefq {C n d : String} {A : Nat → Prop} {s : State} {args : Array Value} (h : va_Zq C n d A s s.heap) : (Cond.isRef (.static C n d)).before args s = true := by
  rcases h with h | ⟨t, h⟩
  · exact vx_isRef h rfl
  · exact vx_isRef h rfl
/-- the same frame, seen from here: as if the method were called anew in this heap -/
theorem vx_rebase {T : State} (X : Stand p l e R s m args below meth c T locs cells slots) {R' : Room} (hf : R'.frames ≤ R.frames) (hl : R'.locals ≤ R.locals) (hc : cells + R'.cells ≤ R.cells) (hs : slots + R'.slots ≤ R.slots) :
    Stand p l e R' ((T.setVm s.vm).setFrames (.invoking m args :: below)) m args below meth c T [] 0 0 := by
  have htop : (T.setVm s.vm).topJava?.isSome := X.here.top
  have hF : ((T.setVm s.vm).setFrames (.invoking m args :: below)).frames = .invoking m args :: below := State.frames_setFrames _ (State.cur_lt_of_top htop)
  obtain ⟨g₀, hg0⟩ := Option.isSome_iff_exists.mp htop
  obtain ⟨r, hr⟩ := State.topJava?_eq_some.mp hg0
  have hl9 : e.platform.stackLimits (T.setVm s.vm).me = e.platform.stackLimits s.me := X.limits
  have hb9 : (T.setVm s.vm).me.stackBytes = s.me.stackBytes := X.bytes
  refine ⟨X.admits, X.cas, X.clock, hF, ?_, X.hears, X.method, X.code, X.here, X.tail, X.warmed, ?_, ?_, ?_⟩
  · have h := X.room
    have hU : ((T.setVm s.vm).setFrames (.invoking m args :: below)).localsInUse = s.localsInUse := by
      rw [State.localsInUse_invoking hF (meth := meth) (c := c) X.method X.code, State.localsInUse_invoking X.frames X.method X.code]
    simp only [State.hasRoom, Bool.and_eq_true, decide_eq_true_eq] at h ⊢
    obtain ⟨⟨⟨⟨h1, h2, h3, h4, h5, h6⟩, h7⟩, h8⟩, h9⟩ := h
    rw [X.frames, List.length_cons] at h2 h3
    have q1 := X.heapSize
    have q2 := X.used
    simp only [hF, hU, List.length_cons, State.stackLimits_setFrames, State.stackBytes_setFrames, hl9, hb9]
    refine ⟨⟨⟨⟨by omega, by omega, by omega, by omega, by omega, h6⟩, ?_⟩, ?_⟩, X.book⟩
    · show T.heap.size + R'.cells ≤ e.platform.maxCells
      omega
    · show T.slotsUsed + R'.slots ≤ e.platform.maxSlots
      omega
  · rw [State.stackLimits_setFrames]; rfl
  · rw [State.stackBytes_setFrames]; rfl
  · refine ⟨?_, Nat.le_refl _, Nat.le_refl _, ?_, ?_, fun a c9 h9 => ⟨c9, h9, rfl, rfl, fun _ _ => rfl⟩⟩
    · obtain ⟨t, ht, -⟩ := State.frames_cons hr
      show T.setVm s.vm = { ((T.setVm s.vm).setFrames (.invoking m args :: below)).setFrames (T.setVm s.vm).frames with heap := T.heap, slotsUsed := T.slotsUsed }
      rw [State.setFrames_setFrames, State.setFrames_self ht]
      rfl
    · show T.slotsUsed = T.slotsUsed + ((T.heap.toList.drop T.heap.size).map (·.slots.size)).sum
      rw [List.drop_eq_nil_of_le (Nat.le_of_eq Array.length_toList)]
      rfl
    · show ((T.heap.toList.drop T.heap.size).map (·.slots.size)).sum ≤ 0
      rw [List.drop_eq_nil_of_le (Nat.le_of_eq Array.length_toList)]
      exact Nat.le_refl _
/-- 'throw new E()': new; dup; invokespecial; athrow -/
theorem vx_throw0 {cc : ByteArray} {pc : Nat} (hexec : p.tables.exec = Jvm.exec) (hb : c.code = cc) (hl : l.stackTraces = false) {own cls : String} {names : List String} {ik ic mc ms : Nat} {A : Nat → Prop}
    (hown : s.vm.findClass own = some m.cls) (hcls : Bundle.fit cls = true) (hnames : ∀ n ∈ names, Bundle.fit n = true)
    (hk : (Cond.classLink own ik cls).before args s = true) (hini : (Cond.initialized cls).before args s = true) (hat : ∀ w ∈ vx_at0 own ic cls names, w.before args s = true)
    (hgood : ∀ w ∈ Cond.classLink own ik cls :: Cond.initialized cls :: vx_at0 own ic cls names, vx_ot w = true)
    (hU : vx_Zq Bundle.tN "UNASSIGNED_STACK" Bundle.steD A s s.heap) (hN : vx_Zq Bundle.tN "SUPPRESSED_SENTINEL" Bundle.listD A s s.heap) (hS : va_S A s.heap H locs) (hsize : ls.size = c.maxLocals)
    (d0 : decode cc pc = .ok (.new ik, 3)) (d3 : decode cc (pc + 3) = .ok (.dup, 1)) (d4 : decode cc (pc + 4) = .ok (.invokespecial ic, 3)) (d7 : decode cc (pc + 7) = .ok (.athrow, 1))
    (hout : ∀ x ∈ c.exceptionTable.toList, covers x (pc + 7) = false)
    (hRframes : names.length + 3 < R.frames) (hRlocals : (rest.map fun v => v.category).sum + (13 * (names.length + 1) + 42) ≤ R.locals) (hRcells : cells + 1 ≤ R.cells) (hRslots : slots + 6 ≤ R.slots) (hlocks : meth.locks = false)
    (hx : ∀ t : State, s.vm.Alike t.vm → H.size ≤ t.heap.size → (∀ q : Nat, q < H.size → t.heap[q]? = H[q]?) → XC cls s t)
    (hf : ∀ z ∈ locs, free z.base) (hc : cells + 1 ≤ mc) (hs : slots + 6 ≤ ms) :
    W p l e R s m args below meth c H locs cells slots (vx_MQ below Qc XC args s mc ms free) (F0 m pc ls rest) := by
  intro T hT X
  have htr : e.platform.stackTraces = false := (show e.platform.stackTraces = l.stackTraces by rw [X.admits.platform]).trans hl
  have Y := vx_rebase X (R' := { frames := R.frames, locals := R.locals, cells := 1, slots := 6 }) (Nat.le_refl _) (Nat.le_refl _) hRcells hRslots
  obtain ⟨s', hA⟩ : ∃ z, z = (T.setVm s.vm).setFrames (.invoking m args :: below) := ⟨_, rfl⟩
  rw [← hA] at Y
  have hvm : s'.vm = s.vm := by rw [hA]; rfl
  have hhp : s'.heap = H := by rw [hA]; exact hT
  have hW0 : s.WarmedH s'.vm := by rw [hvm]; exact State.WarmedH.refl s
  have hat' : ∀ w ∈ vx_at0 own ic cls names, w.before args s' = true := fun w hw => vx_ot_at hW0 hvm.symm (hgood w (List.mem_cons_of_mem _ (List.mem_cons_of_mem _ hw))) (hat w hw)
  have hk' : (Cond.classLink own ik cls).before args s' = true := vx_ot_at hW0 hvm.symm (hgood _ List.mem_cons_self) hk
  have hini' : (Cond.initialized cls).before args s' = true := vx_ot_at hW0 hvm.symm (hgood _ (List.mem_cons_of_mem _ List.mem_cons_self)) hini
  have hU' : vx_Zq Bundle.tN "UNASSIGNED_STACK" Bundle.steD A s' s'.heap := by rw [hhp]; exact vx_Zq.moved hW0.alike (hU.kept hS.2.1)
  have hN' : vx_Zq Bundle.tN "SUPPRESSED_SENTINEL" Bundle.listD A s' s'.heap := by rw [hhp]; exact vx_Zq.moved hW0.alike (hN.kept hS.2.1)
  have h : ∀ w ∈ Bundle.ownAtoms0 own ic cls names, w.before args s' = true := vx_own hat' (vx_isRefq hU'.1) (vx_isRefq hN'.1) hU'.2.word hN'.2.word
  have hown' : s'.vm.findClass own = some m.cls := by rw [hvm]; exact hown
  have hins : (Cond.instantiable cls 6).before args s' = true := h _ (by simp [Bundle.ownAtoms0])
  obtain ⟨vm₁, cX, kX, hfX, hkX, -, -, X₁, st1⟩ := Y.newCold hexec (own := own) (C := cls) (index := ik) (n := 6) hown' hk' hins hini'
    (g := F0 m pc ls rest) rfl (by rw [hb]; exact d0) (Nat.le_refl _) (Nat.le_refl _)
  generalize hT1 : (T.setVm vm₁).pushCell { cls := cX, slots := kX.instanceTypes.map defaultValue, vm := .none } = T1 at X₁ st1
  have hcat : (Value.ref T.heap.size).category = 1 := rfl
  have hcellA : T1.heap[T.heap.size]? = some (freshCell cX kX) := by rw [← hT1]; exact State.heap_pushCell_size _ _
  have d3' : decode c.code (pc + 3) = .ok (.dup, 1) := by rw [hb]; exact d3
  obtain ⟨U, hsteps, hrun, hend, hW, hsame, ce, hce, hO⟩ := X₁.ctorThrow0 hexec htr (own := own) (cls := cls) (names := names) (ic := ic) hown' hcls hnames h (fun x hx => nomatch hx) hfX hkX hcellA (by rw [hhp, hT]; exact Nat.le_refl _)
    (g := { method := m, pc := pc + 4, locals := ls, stack := .ref T.heap.size :: .ref T.heap.size :: rest, locked := none }) rfl hsize rfl rfl (rest := rest) rfl
    (by rw [hb]; exact d4) (by rw [hb]; exact d7) hout hRframes (by simp only [List.map_cons, List.sum_cons, hcat]; omega) hlocks
  obtain ⟨f1, f2⟩ := vx_frame hsame
  rw [hhp] at f1 f2
  have hWs : s.WarmedH U.vm := State.WarmedH.trans hW0 hW
  have hcl : s.vm.findClass cls = some ce.cls := by
    have h9 := hO.cls
    rw [hvm] at h9
    exact h9
  have hall : s.sameButNew ({ U with vm := s.vm } : State) locs mc ms := by
    subst hA
    obtain ⟨e1, e2⟩ := hsame
    rw [State.setFrames_setFrames] at e1
    have h2 : (T.setVm s.vm).sameButNew ({ U with vm := s.vm } : State) [] (0 + 1) (0 + 6) := ⟨e1, e2⟩
    have h3 := X.same.trans h2
    rw [List.append_nil] at h3
    exact h3.mono hc hs
  refine ⟨U, ?_, .threw T.heap.size, hrun, hend, Or.inr ⟨T.heap.size, rfl, cls, ce, locs, hx U hWs.alike f1 (fun q hq => f2 q hq (fun z hz => nomatch hz)), hce, hO.vm, hcl, hWs, hall, hf⟩⟩
  refine st1 _ ?_
  show Steps p.tables e below (T1.setTop { method := m, pc := pc + 3, locals := ls, stack := .ref T.heap.size :: rest, locked := none }) _
  jvm_step X₁.here [X₁.here.top, hexec, d3', Value.category]
  exact hsteps
/-- 'throw new E("text")': new; dup; ldc; invokespecial; athrow -/
theorem vx_throwS {cc : ByteArray} {pc : Nat} (hexec : p.tables.exec = Jvm.exec) (hb : c.code = cc) (hl : l.stackTraces = false) {own cls text : String} {names : List String} {ik is ic mc ms sa : Nat} {A : Nat → Prop}
    (hown : s.vm.findClass own = some m.cls) (hcls : Bundle.fit cls = true) (hnames : ∀ n ∈ names, Bundle.fit n = true)
    (hk : (Cond.classLink own ik cls).before args s = true) (hini : (Cond.initialized cls).before args s = true) (hstr : vk_R own is text sa s) (hat : ∀ w ∈ vx_atS own ic cls names, w.before args s = true)
    (hgood : ∀ w ∈ Cond.classLink own ik cls :: Cond.initialized cls :: vx_atS own ic cls names, vx_ot w = true)
    (hU : vx_Zq Bundle.tN "UNASSIGNED_STACK" Bundle.steD A s s.heap) (hN : vx_Zq Bundle.tN "SUPPRESSED_SENTINEL" Bundle.listD A s s.heap) (hS : va_S A s.heap H locs) (hsize : ls.size = c.maxLocals)
    (d0 : decode cc pc = .ok (.new ik, 3)) (d3 : decode cc (pc + 3) = .ok (.dup, 1)) (d4 : decode cc (pc + 4) = .ok (.ldc is, 2)) (d6 : decode cc (pc + 6) = .ok (.invokespecial ic, 3)) (d9 : decode cc (pc + 9) = .ok (.athrow, 1))
    (hout : ∀ x ∈ c.exceptionTable.toList, covers x (pc + 9) = false)
    (hRframes : names.length + 3 < R.frames) (hRlocals : (rest.map fun v => v.category).sum + (13 * (names.length + 1) + 43) ≤ R.locals) (hRcells : cells + 1 ≤ R.cells) (hRslots : slots + 6 ≤ R.slots) (hlocks : meth.locks = false)
    (hx : ∀ t : State, s.vm.Alike t.vm → H.size ≤ t.heap.size → (∀ q : Nat, q < H.size → t.heap[q]? = H[q]?) → XC cls s t)
    (hf : ∀ z ∈ locs, free z.base) (hc : cells + 1 ≤ mc) (hs : slots + 6 ≤ ms) :
    W p l e R s m args below meth c H locs cells slots (vx_MQ below Qc XC args s mc ms free) (F0 m pc ls rest) := by
  intro T hT X
  have htr : e.platform.stackTraces = false := (show e.platform.stackTraces = l.stackTraces by rw [X.admits.platform]).trans hl
  have Y := vx_rebase X (R' := { frames := R.frames, locals := R.locals, cells := 1, slots := 6 }) (Nat.le_refl _) (Nat.le_refl _) hRcells hRslots
  obtain ⟨s', hA⟩ : ∃ z, z = (T.setVm s.vm).setFrames (.invoking m args :: below) := ⟨_, rfl⟩
  rw [← hA] at Y
  have hvm : s'.vm = s.vm := by rw [hA]; rfl
  have hhp : s'.heap = H := by rw [hA]; exact hT
  have hW0 : s.WarmedH s'.vm := by rw [hvm]; exact State.WarmedH.refl s
  have hat' : ∀ w ∈ vx_atS own ic cls names, w.before args s' = true := fun w hw => vx_ot_at hW0 hvm.symm (hgood w (List.mem_cons_of_mem _ (List.mem_cons_of_mem _ hw))) (hat w hw)
  have hk' : (Cond.classLink own ik cls).before args s' = true := vx_ot_at hW0 hvm.symm (hgood _ List.mem_cons_self) hk
  have hini' : (Cond.initialized cls).before args s' = true := vx_ot_at hW0 hvm.symm (hgood _ (List.mem_cons_of_mem _ List.mem_cons_self)) hini
  have hU' : vx_Zq Bundle.tN "UNASSIGNED_STACK" Bundle.steD A s' s'.heap := by rw [hhp]; exact vx_Zq.moved hW0.alike (hU.kept hS.2.1)
  have hN' : vx_Zq Bundle.tN "SUPPRESSED_SENTINEL" Bundle.listD A s' s'.heap := by rw [hhp]; exact vx_Zq.moved hW0.alike (hN.kept hS.2.1)
  have h : ∀ w ∈ Bundle.ownAtoms own ic cls names, w.before args s' = true := vx_own hat' (vx_isRefq hU'.1) (vx_isRefq hN'.1) hU'.2.word hN'.2.word
  have hown' : s'.vm.findClass own = some m.cls := by rw [hvm]; exact hown
  have hins : (Cond.instantiable cls 6).before args s' = true := h _ (by simp [Bundle.ownAtoms])
  obtain ⟨vm₁, cX, kX, hfX, hkX, -, -, X₁, st1⟩ := Y.newCold hexec (own := own) (C := cls) (index := ik) (n := 6) hown' hk' hins hini'
    (g := F0 m pc ls rest) rfl (by rw [hb]; exact d0) (Nat.le_refl _) (Nat.le_refl _)
  generalize hT1 : (T.setVm vm₁).pushCell { cls := cX, slots := kX.instanceTypes.map defaultValue, vm := .none } = T1 at X₁ st1
  have hcat : (Value.ref T.heap.size).category = 1 := rfl
  have hcellA : T1.heap[T.heap.size]? = some (freshCell cX kX) := by rw [← hT1]; exact State.heap_pushCell_size _ _
  have d3' : decode c.code (pc + 3) = .ok (.dup, 1) := by rw [hb]; exact d3
  have d4' : decode c.code (pc + 4) = .ok (.ldc is, 2) := by rw [hb]; exact d4
  have hstr' : vk_R own is text sa s' := vk_R.warm hW0 hstr
  obtain ⟨U, hsteps, hrun, hend, hW, hsame, ce, hce, hO⟩ := X₁.ctorThrowS hexec htr (own := own) (cls := cls) (names := names) (ic := ic) hown' hcls hnames h (fun x hx => nomatch hx) hfX hkX hcellA (by rw [hhp, hT]; exact Nat.le_refl _) (msg := .ref sa) rfl
    (g := { method := m, pc := pc + 6, locals := ls, stack := .ref sa :: .ref T.heap.size :: .ref T.heap.size :: rest, locked := none }) rfl hsize rfl rfl (rest := rest) rfl
    (by rw [hb]; exact d6) (by rw [hb]; exact d9) hout hRframes (by simp only [List.map_cons, List.sum_cons, hcat]; omega) hlocks
  obtain ⟨f1, f2⟩ := vx_frame hsame
  rw [hhp] at f1 f2
  have hWs : s.WarmedH U.vm := State.WarmedH.trans hW0 hW
  have hcl : s.vm.findClass cls = some ce.cls := by
    have h9 := hO.cls
    rw [hvm] at h9
    exact h9
  have hall : s.sameButNew ({ U with vm := s.vm } : State) locs mc ms := by
    subst hA
    obtain ⟨e1, e2⟩ := hsame
    rw [State.setFrames_setFrames] at e1
    have h2 : (T.setVm s.vm).sameButNew ({ U with vm := s.vm } : State) [] (0 + 1) (0 + 6) := ⟨e1, e2⟩
    have h3 := X.same.trans h2
    rw [List.append_nil] at h3
    exact h3.mono hc hs
  refine ⟨U, ?_, .threw T.heap.size, hrun, hend, Or.inr ⟨T.heap.size, rfl, cls, ce, locs, hx U hWs.alike f1 (fun q hq => f2 q hq (fun z hz => nomatch hz)), hce, hO.vm, hcl, hWs, hall, hf⟩⟩
  refine st1 _ ?_
  show Steps p.tables e below (T1.setTop { method := m, pc := pc + 3, locals := ls, stack := .ref T.heap.size :: rest, locked := none }) _
  jvm_step X₁.here [X₁.here.top, hexec, d3', Value.category]
  exact X₁.ldcString hexec (own := own) (text := text) (index := is) (a := sa) hown' hstr'.1 hstr'.2
    (g := { method := m, pc := pc + 4, locals := ls, stack := .ref T.heap.size :: .ref T.heap.size :: rest, locked := none }) rfl d4' _ hsteps
/-- 'throw new E("text")', the text by a wide index -/
theorem vx_throwSW {cc : ByteArray} {pc : Nat} (hexec : p.tables.exec = Jvm.exec) (hb : c.code = cc) (hl : l.stackTraces = false) {own cls text : String} {names : List String} {ik is ic mc ms sa : Nat} {A : Nat → Prop}
    (hown : s.vm.findClass own = some m.cls) (hcls : Bundle.fit cls = true) (hnames : ∀ n ∈ names, Bundle.fit n = true)
    (hk : (Cond.classLink own ik cls).before args s = true) (hini : (Cond.initialized cls).before args s = true) (hstr : vk_R own is text sa s) (hat : ∀ w ∈ vx_atS own ic cls names, w.before args s = true)
    (hgood : ∀ w ∈ Cond.classLink own ik cls :: Cond.initialized cls :: vx_atS own ic cls names, vx_ot w = true)
    (hU : vx_Zq Bundle.tN "UNASSIGNED_STACK" Bundle.steD A s s.heap) (hN : vx_Zq Bundle.tN "SUPPRESSED_SENTINEL" Bundle.listD A s s.heap) (hS : va_S A s.heap H locs) (hsize : ls.size = c.maxLocals)
    (d0 : decode cc pc = .ok (.new ik, 3)) (d3 : decode cc (pc + 3) = .ok (.dup, 1)) (d4 : decode cc (pc + 4) = .ok (.ldc_w is, 3)) (d7 : decode cc (pc + 7) = .ok (.invokespecial ic, 3)) (d10 : decode cc (pc + 10) = .ok (.athrow, 1))
    (hout : ∀ x ∈ c.exceptionTable.toList, covers x (pc + 10) = false)
    (hRframes : names.length + 3 < R.frames) (hRlocals : (rest.map fun v => v.category).sum + (13 * (names.length + 1) + 43) ≤ R.locals) (hRcells : cells + 1 ≤ R.cells) (hRslots : slots + 6 ≤ R.slots) (hlocks : meth.locks = false)
    (hx : ∀ t : State, s.vm.Alike t.vm → H.size ≤ t.heap.size → (∀ q : Nat, q < H.size → t.heap[q]? = H[q]?) → XC cls s t)
    (hf : ∀ z ∈ locs, free z.base) (hc : cells + 1 ≤ mc) (hs : slots + 6 ≤ ms) :
    W p l e R s m args below meth c H locs cells slots (vx_MQ below Qc XC args s mc ms free) (F0 m pc ls rest) := by
  intro T hT X
  have htr : e.platform.stackTraces = false := (show e.platform.stackTraces = l.stackTraces by rw [X.admits.platform]).trans hl
  have Y := vx_rebase X (R' := { frames := R.frames, locals := R.locals, cells := 1, slots := 6 }) (Nat.le_refl _) (Nat.le_refl _) hRcells hRslots
  obtain ⟨s', hA⟩ : ∃ z, z = (T.setVm s.vm).setFrames (.invoking m args :: below) := ⟨_, rfl⟩
  rw [← hA] at Y
  have hvm : s'.vm = s.vm := by rw [hA]; rfl
  have hhp : s'.heap = H := by rw [hA]; exact hT
  have hW0 : s.WarmedH s'.vm := by rw [hvm]; exact State.WarmedH.refl s
  have hat' : ∀ w ∈ vx_atS own ic cls names, w.before args s' = true := fun w hw => vx_ot_at hW0 hvm.symm (hgood w (List.mem_cons_of_mem _ (List.mem_cons_of_mem _ hw))) (hat w hw)
  have hk' : (Cond.classLink own ik cls).before args s' = true := vx_ot_at hW0 hvm.symm (hgood _ List.mem_cons_self) hk
  have hini' : (Cond.initialized cls).before args s' = true := vx_ot_at hW0 hvm.symm (hgood _ (List.mem_cons_of_mem _ List.mem_cons_self)) hini
  have hU' : vx_Zq Bundle.tN "UNASSIGNED_STACK" Bundle.steD A s' s'.heap := by rw [hhp]; exact vx_Zq.moved hW0.alike (hU.kept hS.2.1)
  have hN' : vx_Zq Bundle.tN "SUPPRESSED_SENTINEL" Bundle.listD A s' s'.heap := by rw [hhp]; exact vx_Zq.moved hW0.alike (hN.kept hS.2.1)
  have h : ∀ w ∈ Bundle.ownAtoms own ic cls names, w.before args s' = true := vx_own hat' (vx_isRefq hU'.1) (vx_isRefq hN'.1) hU'.2.word hN'.2.word
  have hown' : s'.vm.findClass own = some m.cls := by rw [hvm]; exact hown
  have hins : (Cond.instantiable cls 6).before args s' = true := h _ (by simp [Bundle.ownAtoms])
  obtain ⟨vm₁, cX, kX, hfX, hkX, -, -, X₁, st1⟩ := Y.newCold hexec (own := own) (C := cls) (index := ik) (n := 6) hown' hk' hins hini'
    (g := F0 m pc ls rest) rfl (by rw [hb]; exact d0) (Nat.le_refl _) (Nat.le_refl _)
  generalize hT1 : (T.setVm vm₁).pushCell { cls := cX, slots := kX.instanceTypes.map defaultValue, vm := .none } = T1 at X₁ st1
  have hcat : (Value.ref T.heap.size).category = 1 := rfl
  have hcellA : T1.heap[T.heap.size]? = some (freshCell cX kX) := by rw [← hT1]; exact State.heap_pushCell_size _ _
  have d3' : decode c.code (pc + 3) = .ok (.dup, 1) := by rw [hb]; exact d3
  have d4' : decode c.code (pc + 4) = .ok (.ldc_w is, 3) := by rw [hb]; exact d4
  have hstr' : vk_R own is text sa s' := vk_R.warm hW0 hstr
  obtain ⟨U, hsteps, hrun, hend, hW, hsame, ce, hce, hO⟩ := X₁.ctorThrowS hexec htr (own := own) (cls := cls) (names := names) (ic := ic) hown' hcls hnames h (fun x hx => nomatch hx) hfX hkX hcellA (by rw [hhp, hT]; exact Nat.le_refl _) (msg := .ref sa) rfl
    (g := { method := m, pc := pc + 7, locals := ls, stack := .ref sa :: .ref T.heap.size :: .ref T.heap.size :: rest, locked := none }) rfl hsize rfl rfl (rest := rest) rfl
    (by rw [hb]; exact d7) (by rw [hb]; exact d10) hout hRframes (by simp only [List.map_cons, List.sum_cons, hcat]; omega) hlocks
  obtain ⟨f1, f2⟩ := vx_frame hsame
  rw [hhp] at f1 f2
  have hWs : s.WarmedH U.vm := State.WarmedH.trans hW0 hW
  have hcl : s.vm.findClass cls = some ce.cls := by
    have h9 := hO.cls
    rw [hvm] at h9
    exact h9
  have hall : s.sameButNew ({ U with vm := s.vm } : State) locs mc ms := by
    subst hA
    obtain ⟨e1, e2⟩ := hsame
    rw [State.setFrames_setFrames] at e1
    have h2 : (T.setVm s.vm).sameButNew ({ U with vm := s.vm } : State) [] (0 + 1) (0 + 6) := ⟨e1, e2⟩
    have h3 := X.same.trans h2
    rw [List.append_nil] at h3
    exact h3.mono hc hs
  refine ⟨U, ?_, .threw T.heap.size, hrun, hend, Or.inr ⟨T.heap.size, rfl, cls, ce, locs, hx U hWs.alike f1 (fun q hq => f2 q hq (fun z hz => nomatch hz)), hce, hO.vm, hcl, hWs, hall, hf⟩⟩
  refine st1 _ ?_
  show Steps p.tables e below (T1.setTop { method := m, pc := pc + 3, locals := ls, stack := .ref T.heap.size :: rest, locked := none }) _
  jvm_step X₁.here [X₁.here.top, hexec, d3', Value.category]
  exact X₁.ldcStringW hexec (own := own) (text := text) (index := is) (a := sa) hown' hstr'.1 hstr'.2
    (g := { method := m, pc := pc + 4, locals := ls, stack := .ref T.heap.size :: .ref T.heap.size :: rest, locked := none }) rfl d4' _ hsteps
end Ends
section Bodies
variable {l : Launch}
theorem vx_ofW {y : MethodName} {ws ws' : List Cond} {rm : Room} {Pc : Array Value → State → Prop} {Qc : Array Value → State → Outcome → State → Prop} {XC : String → State → State → Prop} {mc ms : Nat} {free : Addr → Prop} {cc : ByteArray} {maxL : Nat} {ret : Option FieldType}
    (hy : plainName y.cls = true) (hw : ws = Cond.code y cc maxL ret :: ws')
    (body : ∀ p e s m args below meth c s₁, BodyLoose p l y (headSpec ws rm) cc maxL ret e s m args below meth c s₁ → c.maxLocals = maxL → (∀ x ∈ c.exceptionTable.toList, False) → Pc args s →
      W p l e (headSpec ws rm).room s m args below meth c s.heap [] 0 0 (vx_MQ below Qc XC args s mc ms free) (entryFrame m args maxL)) : vx_Met l y ws rm Pc Qc XC mc ms free := by
  refine MetFree.of_bodyS (code := cc) (maxLocals := maxL) (ret := ret) hy ?_ ?_
  · intro args s m h hn
    obtain ⟨meth, c, h1, h2, h3, h4, h5, h6, -, -⟩ := Cond.code_spec hn (atoms_spec (ws := ws) h _ (by rw [hw]; exact List.mem_cons_self))
    exact ⟨meth, c, h1, h2, h3, h4, h5, h6⟩
  · intro p e s m args below meth c s₁ B hml hP _
    have hh0 : s₁.heap = s.heap := by rw [B.state]; rfl
    have ht : ∀ x ∈ c.exceptionTable.toList, False := by
      obtain ⟨meth9, c9, h1, h2, -, -, -, -, h7, -⟩ := Cond.code_spec B.named (atoms_spec (ws := ws) B.pre _ (by rw [hw]; exact List.mem_cons_self))
      cases Option.some.inj (h1.symm.trans B.method)
      cases Option.some.inj (h2.symm.trans (Stand.of_body B).code)
      intro x hx
      rw [Array.isEmpty_iff.mp h7] at hx
      cases hx
    obtain ⟨t, a1, o, b1, b2, b3⟩ := body p e s m args below meth c s₁ B hml ht hP s₁ hh0 (Stand.of_body B)
    exact ⟨t, o, a1, b1, b2, b3⟩
/-- the table of a body with handlers -/
theorem vx_table {p : Program} {x y : MethodName} {S : Spec} {cc bytes : ByteArray} {maxL maxL' : Nat} {ret ret' : Option FieldType} {e : Env} {s s₁ : State} {m : MethodId} {args : Array Value} {below : List Frame} {meth : Method} {c : Code} {hh : List (Nat × Nat × Nat × Nat)}
    (B : BodyLoose p l y S cc maxL ret e s m args below meth c s₁) (h : (Cond.codeWith y bytes maxL' ret' hh).before args s = true) : c.exceptionTable.toList = tableOf hh := by
  obtain ⟨m9, meth9, c9, hn9, h1, h2, -, -, h6, -⟩ := Cond.codeWith_spec h
  cases Option.some.inj (hn9.symm.trans B.named)
  cases Option.some.inj (h1.symm.trans B.method)
  cases Option.some.inj (h2.symm.trans (Stand.of_body B).code)
  rw [← h6, table_eq]
end Bodies
end VXA
/-! ===== END ===== -/
/-! ===== BEGIN a static call of a method with an exception table ===== -/
section VXS
variable {p : Program} {l : Launch} {e : Env} {R : Room} {s : State} {m : MethodId} {args : Array Value} {below : List Frame} {meth : Method} {c : Code} {T : State} {H : Heap} {locs : List Loc} {cells slots : Nat}
abbrev vx_CSW (R : Room) (s : State) (args : Array Value) (own : String) (index : Nat) (y : MethodName) (bytes : ByteArray) (maxL : Nat) (ret : Option FieldType) (hh : List (Nat × Nat × Nat × Nat)) (ws : List Cond) (rm : Room) (mc ms n : Nat) : Prop :=
  (rm.cells = mc ∧ rm.slots = ms ∧ rm.frames + 1 ≤ R.frames ∧ 8 + (maxL + 11) + rm.locals ≤ R.locals ∧ (∀ w ∈ ws, ∀ (a' : Array Value) (U : State), s.WarmedH U.vm → w.before a' U = true) ∧ Cond.codeWith y bytes maxL ret hh ∈ ws) ∧
  (Cond.codeWith y bytes maxL ret hh).before args s = true ∧ (Cond.initialized y.cls).before args s = true ∧ (y.cls ≠ "java/lang/invoke/MethodHandle" ∧ y.cls ≠ "java/lang/invoke/VarHandle") ∧
  (∀ sig, parseMethodDescriptor y.desc = some sig → n = sig.parameters.length) ∧ (Cond.methodLink own index y).before args s = true ∧ (Cond.static y).before args s = true
theorem vx_cwSW {own : String} {index maxL mc ms : Nat} {y : MethodName} {bytes : ByteArray} {ret : Option FieldType} {hh : List (Nat × Nat × Nat × Nat)} {Ts ws ws' : List Cond} {rm : Room} (n : Nat) (ht : ∀ w ∈ Ts, w.before args s = true) (hT : GoodIn Ts (va_wsS own index y ws)) (hw : ws = Cond.codeWith y bytes maxL ret hh :: ws') (hrc : rm.cells = mc) (hrs : rm.slots = ms)
    (hd : y.cls ≠ "java/lang/invoke/MethodHandle" ∧ y.cls ≠ "java/lang/invoke/VarHandle" ∧ (parseMethodDescriptor y.desc).map (fun d => d.parameters.length) = some n) (hR : rm.frames + 1 ≤ R.frames ∧ 8 + (maxL + 11) + rm.locals ≤ R.locals) :
    vx_CSW R s args own index y bytes maxL ret hh ws rm mc ms n := by
  have ok : ∀ w ∈ va_wsS own index y ws, w.before args s = true := fun w h => ht w (hT w h).1
  have hG : GoodIn Ts ws := fun w h => hT w (by unfold va_wsS; exact List.mem_append_right _ h)
  have hc : Cond.codeWith y bytes maxL ret hh ∈ ws := by rw [hw]; exact List.mem_cons_self
  refine ⟨⟨hrc, hrs, hR.1, hR.2, pay_in ht hG, hc⟩, ht _ (hG _ hc).1, ok _ (by simp [va_wsS]), ⟨hd.1, hd.2.1⟩, fun sig h => ?_, ok _ (by simp [va_wsS]), ok _ (by simp [va_wsS])⟩
  have h2 := hd.2.2
  rw [h] at h2
  exact (Option.some.inj h2).symm
theorem vx_callSW (X : Stand p l e R s m args below meth c T locs cells slots) (hexec : p.tables.exec = Jvm.exec) {own : String} {index : Nat} {y : MethodName} {bytes : ByteArray} {maxL : Nat} {ret : Option FieldType} {hh : List (Nat × Nat × Nat × Nat)}
    (hown : s.vm.findClass own = some m.cls) (hlink : (Cond.methodLink own index y).before args s = true) (hstat : (Cond.static y).before args s = true) (hinit : (Cond.initialized y.cls).before args s = true)
    (hcode : (Cond.codeWith y bytes maxL ret hh).before args s = true) (hy : y.cls ≠ "java/lang/invoke/MethodHandle" ∧ y.cls ≠ "java/lang/invoke/VarHandle")
    {W9 : Nat} {Pre : Pt → Array Value → Prop} {Post : Pt → Array Value → Option Value → Pt → Prop} (hK : Back l R p e below s args y 3 W9 Pre Post)
    {g : JFrame} (hg : g.method = m) (hsize : g.locals.size = c.maxLocals) {argsL rest : List Value} (hlen : ∀ sig, parseMethodDescriptor y.desc = some sig → argsL.length = sig.parameters.length)
    (hstack : g.stack = argsL.reverse ++ rest) (hW : 2 * g.monitorRoom + (rest.map fun v => v.category).sum ≤ W9) (hdg : decode c.code g.pc = .ok (.invokestatic index, 3))
    (hpre : ∀ vm₁, s.WarmedH vm₁ → Pre ⟨T.setVm vm₁, locs, cells, slots⟩ argsL.toArray) :
    ∃ (v : Option Value) (vm₁ : Vm) (B : Pt), s.WarmedH vm₁ ∧ Stand p l e R s m args below meth c B.U B.locs B.cells B.slots ∧ Post ⟨T.setVm vm₁, locs, cells, slots⟩ argsL.toArray v B ∧
      ∀ target, Steps p.tables e below (B.U.setTop { g with pc := g.pc + 3, stack := v.toList ++ rest }) target → Steps p.tables e below (T.setTop g) target := by
  obtain ⟨mk, methM, cM, hnamed, hmethM, -, -, -, -, -, -, hsigM⟩ := Cond.codeWith_spec hcode
  have hstatic : methM.isStatic = true := Cond.static_spec hnamed hmethM hstat
  obtain ⟨kP, hkP, -⟩ := className_of_methodNamed hnamed
  have hinitP : kP.init = .initialized := Cond.initialized_spec (findClass_of_methodNamed hnamed) hkP hinit
  obtain ⟨vm₁, X₁, hstep₁⟩ := X.invokestatic hexec hown hlink hnamed hmethM hstatic hkP hinitP hy (g := g) hg (argsL := argsL) (rest := rest) (hlen _ hsigM) hstack hdg
  obtain ⟨v, B, X', hpost, hsteps⟩ := hK m meth c ⟨T.setVm vm₁, locs, cells, slots⟩ { g with stack := rest } (.invokestatic index) mk argsL.toArray X₁ hg hsize hdg hW (X₁.named hnamed) (hpre vm₁ X₁.warmed)
  exact ⟨v, vm₁, B, X₁.warmed, X', hpost, fun target h => hstep₁ _ fun acts => by rw [doInvoke_state]; exact hsteps.trans h⟩
theorem vx_runSW {y : MethodName} {bytes cc : ByteArray} {maxL nL mc ms n index : Nat} {ret : Option FieldType} {hh : List (Nat × Nat × Nat × Nat)} {ws : List Cond} {rm : Room} {Pc : Array Value → State → Prop} {Qc : Array Value → State → Outcome → State → Prop} {free : Addr → Prop} {Ts : List Cond} {own : String} {As rest : List Value} {g : JFrame}
    (S : CallFix p m c cc nL s args Ts own) (hM : Met l y ws rm Pc Qc mc ms free) (cw : vx_CSW R s args own index y bytes maxL ret hh ws rm mc ms n) (hp : PreS s H Pc As)
    (hg : g.method = m) (hn : As.length = n) (hsize : g.locals.size = nL) (hstack : g.stack = As.reverse ++ rest) (hW : 2 * g.monitorRoom + (rest.map fun v => v.category).sum ≤ 8) (hdg : decode cc g.pc = .ok (.invokestatic index, 3)) (hf : cells + mc ≤ R.cells ∧ slots + ms ≤ R.slots) :
    va_Run p l e R s m args below meth c H locs cells slots mc ms g rest (Qc As.toArray) (free) := by
  obtain ⟨⟨hrc, hrs, hfr, hlo, hws, hcw⟩, hcode, hini, hy, hlen, hl, hstt⟩ := cw
  have hK : Back l R p e below s args y 3 8 (PreOf R mc ms Pc) (PostOf Qc mc ms free) := va_backW (hh := hh) (bytes := bytes) (maxL := maxL) (ret := ret) hM hp.1 hrc hrs hfr hlo hws hcw (fun a' U hW => word_at hW (Or.inl (by first | rfl | simp [Cond.onTables, Cond.keeps, Cond.steady])) hini)
  obtain ⟨hx, hb, hml, ho, -⟩ := S
  intro T hT X
  obtain ⟨v, vm₁, ⟨U', l2, c2, s2⟩, hW₁, X', ⟨g', mk, t, L, e1, e2, hq, h1, hL, h2, h3⟩, st⟩ := vx_callSW X hx (hh := hh) (bytes := bytes) (maxL := maxL) (ret := ret) ho hl hstt hini hcode hy hK hg (hsize.trans hml.symm) (argsL := As) (rest := rest) (fun sig h => hn.trans (hlen sig h)) hstack hW (by rw [hb]; exact hdg)
    (fun vm₁ hW₁ => ⟨hf.1, hf.2, hp.2 (T.setVm vm₁) hT hW₁⟩)
  dsimp only [Pt.U, Pt.locs, Pt.cells, Pt.slots] at X' e1 e2 h1 h2 h3 st
  subst h1; subst h2; subst h3
  exact ⟨v, (T.setVm vm₁).calling g' mk As.toArray, t, U', L, hT, X', hL, e1, e2, hq, st⟩
/-- a thing of a world lies in the heap -/
theorem vx_lt {D : va_G} {cl : List vw_C} {ws : va_W} {H1 : Heap} (h : va_P D cl ws H1) {k : Nat} {q : Nat × va_E} (hk : ws[k]? = some q) : q.1 < H1.size := (h k q hk).lt
end VXS
/-! ===== END ===== -/
/-! ===== BEGIN methods with a table of their own: called by a name, returning or throwing ===== -/
section VXH
/-! vx_backW, vx_callVX, vx_callSX, vx_callVW, vx_runVW, vx_runVX, vx_runSX, vx_ofWH follow the same proofs as their sisters above (Free/Laws.lean, Shelf42/LK1.lean); vx_outP calls Shelf42/NT130.lean (outThrough). -/
section
variable {l : Launch} {R : Room} {p : Program} {e : Env} {below : List Frame} {s : State} {sargs : Array Value} {y : MethodName} {len W9 : Nat}
theorem vx_backW {ws : List Cond} {rm : Room} {Pc : Array Value → State → Prop} {Qc : Array Value → State → Outcome → State → Prop} {XC : String → State → State → Prop} {mc ms : Nat} {free : Addr → Prop} {bytes : ByteArray} {maxL : Nat} {ret : Option FieldType} {hh : List (Nat × Nat × Nat × Nat)}
    (hM : vx_Met l y ws rm Pc Qc XC mc ms free) (hblind : FrameBlind Pc) (hrc : rm.cells = mc) (hrs : rm.slots = ms)
    (hframes : rm.frames + 1 ≤ R.frames) (hlocals : W9 + (maxL + 11) + rm.locals ≤ R.locals)
    (hws : ∀ w ∈ ws, ∀ a' U, s.WarmedH U.vm → w.before a' U = true) (hcode : Cond.codeWith y bytes maxL ret hh ∈ ws) (hinit : ∀ a' U, s.WarmedH U.vm → (Cond.initialized y.cls).before a' U = true) :
    vx_Back l R p e below s sargs y len W9 (PreOf R mc ms Pc) (PostOf Qc mc ms free) (vx_Post XC mc ms free) := by
  intro m meth c A g ig mk a X hg hsize hdg hW hn hp
  have h1 : (headSpec ws rm).pre.before a A.U = true := atoms_intro fun w hw => hws w hw _ _ X.warmed
  have h2 : (Cond.codeWith y bytes maxL ret hh).before a A.U = true := hws _ hcode _ _ X.warmed
  have h3 : (Cond.initialized y.cls).before a A.U = true := hinit _ _ X.warmed
  have h4 : A.cells + (headSpec ws rm).room.cells ≤ R.cells := by rw [show (headSpec ws rm).room.cells = mc from hrc]; exact hp.1
  have h5 : A.slots + (headSpec ws rm).room.slots ≤ R.slots := by rw [show (headSpec ws rm).room.slots = ms from hrs]; exact hp.2.1
  have hPc : Pc a (A.U.calling g mk a) := hblind _ _ _ _ hp.2.2
  obtain ⟨U, Ls, c0, s0⟩ := A
  dsimp only [Pt.U, Pt.locs, Pt.cells, Pt.slots] at h1 h2 h3 h4 h5 X hn hPc ⊢
  obtain ⟨m9, methY, cY, hn9, hmY, hcY, -, hlY, -⟩ := Cond.codeWith_spec h2
  cases Option.some.inj (hn9.symm.trans hn)
  obtain ⟨kY, hkY, -⟩ := className_of_methodNamed hn
  have hinitY : kY.init = .initialized := Cond.initialized_spec (findClass_of_methodNamed hn) hkY h3
  have h : At U g.method c below := by rw [hg]; exact X.here
  have hlocals9 : W9 + (maxL + 11) + (headSpec ws rm).room.locals ≤ R.locals := hlocals
  have happ : (headSpec ws rm).appliesLoose y e.platform (U.calling g mk a) = true :=
    Spec.appliesLoose_calling (g := g) h hdg hn hkY hinitY
      (X.room_calling (g := g) (R' := (headSpec ws rm).room) hsize hmY hcY hframes (by rw [hlY]; omega) h4 h5) h1
  obtain ⟨mid, hmid⟩ := h.above
  have hfr : (U.setTop g).frames = (.java g :: mid) ++ below := by rw [State.frames_setTop' g h.top, hmid]; rfl
  obtain ⟨o, s₂, hsteps, -, hend, hq⟩ := Steps.callFree hM p X.admits X.cas X.clock (acts := []) hfr happ hPc trivial
  have hq' : vx_Q Qc XC mc ms free a (U.calling g mk a) o s₂ := hq
  rw [State.frames_setTop' g h.top] at hend
  obtain ⟨g₀, hg0⟩ := Option.isSome_iff_exists.mp h.top
  obtain ⟨r, hr⟩ := State.topJava?_eq_some.mp hg0
  have hr' : (({ U with heap := s₂.heap, slotsUsed := s₂.slotsUsed } : State).setVm s₂.vm).frames = .java g₀ :: r := hr
  rcases hq' with ⟨hqc, L, hfe, hL⟩ | ⟨q, rfl, E, ce, L, hx, hce, hcv, hcl, hW₂, hsm, hL⟩
  · obtain ⟨⟨v, rfl⟩, hW₂, e2, q2, q3, q4, q5, q6⟩ := id hfe
    have e3 : s₂ = ({ (U.calling g mk a).setFrames s₂.frames with heap := s₂.heap, slotsUsed := s₂.slotsUsed } : State).setVm s₂.vm := by
      have : s₂ = ({ s₂ with vm := (U.calling g mk a).vm } : State).setVm s₂.vm := rfl
      rw [e2] at this
      exact this
    obtain ⟨c₂, i₂, len₂, hc₂, hd₂, hf₂⟩ := hend
    have hW' : U.WarmedH s₂.vm := hW₂
    have hcc : c₂ = c := by
      have h1 : s₂.code? g.method = U.code? g.method := by
        rw [State.code?_eq, State.code?_eq, hW'.alike.method?]
      exact Option.some.inj (hc₂.symm.trans (h1.trans h.code))
    subst hcc
    have hlen : len₂ = len := by rw [hdg] at hd₂; cases hd₂; rfl
    subst hlen
    have hs₂ : s₂ = (({ U with heap := s₂.heap, slotsUsed := s₂.slotsUsed } : State).setVm s₂.vm).setTop { g with pc := g.pc + len₂, stack := v.toList ++ g.stack } := by
      refine e3.trans ?_
      rw [hf₂, State.calling_eq h.top, State.setFrames_setFrames, State.setTop_of_frames _ hr', hr]
      rfl
    have hsame : U.sameButNew ({ U with heap := s₂.heap, slotsUsed := s₂.slotsUsed } : State) L mc ms := by
      refine ⟨?_, q2, q3, q4, q5, q6⟩
      obtain ⟨t, ht, -⟩ := State.frames_cons hr
      show ({ U with heap := s₂.heap, slotsUsed := s₂.slotsUsed } : State) = { U.setFrames U.frames with heap := s₂.heap, slotsUsed := s₂.slotsUsed }
      rw [State.setFrames_self ht]
    subst hg
    refine Or.inl ⟨v, ⟨(({ U with heap := s₂.heap, slotsUsed := s₂.slotsUsed } : State).setVm s₂.vm), Ls ++ L, c0 + mc, s0 + ms⟩,
      ⟨X.admits, X.cas, X.clock, X.frames, X.room, X.hears, X.method, X.code, (X.here.setHeapUsed s₂.heap s₂.slotsUsed).setVm hW'.alike, X.tail, State.WarmedH.trans X.warmed hW', X.limits, X.bytes, X.same.trans (hsame.setVm s.vm)⟩,
      ⟨g, mk, s₂, L, rfl, rfl, hqc, rfl, hL, rfl, rfl⟩, ?_⟩
    show Steps p.tables e below _ ((({ U with heap := s₂.heap, slotsUsed := s₂.slotsUsed } : State).setVm s₂.vm).setTop { g with pc := g.pc + len₂, stack := v.toList ++ g.stack })
    rw [← hs₂]
    exact hsteps
  · obtain ⟨e2, q2, q3, q4, q5, q6⟩ := id hsm
    have e3 : s₂ = ({ (U.calling g mk a).setFrames s₂.frames with heap := s₂.heap, slotsUsed := s₂.slotsUsed } : State).setVm s₂.vm := by
      have : s₂ = ({ s₂ with vm := (U.calling g mk a).vm } : State).setVm s₂.vm := rfl
      rw [e2] at this
      exact this
    have hf₂ : s₂.frames = .throwing q :: .java g :: U.frames.tail := hend
    have hW' : U.WarmedH s₂.vm := hW₂
    have hs₂ : s₂ = ((({ U with heap := s₂.heap, slotsUsed := s₂.slotsUsed } : State).setVm s₂.vm).setTop g).pushFrame (.throwing q) := by
      refine e3.trans ?_
      rw [hf₂, State.calling_eq h.top, State.setFrames_setFrames, State.pushFrame, State.frames_setTop _ hr', State.setTop_of_frames _ hr', State.setFrames_setFrames, hr]
      rfl
    have hsame : U.sameButNew ({ U with heap := s₂.heap, slotsUsed := s₂.slotsUsed } : State) L mc ms := by
      refine ⟨?_, q2, q3, q4, q5, q6⟩
      obtain ⟨t, ht, -⟩ := State.frames_cons hr
      show ({ U with heap := s₂.heap, slotsUsed := s₂.slotsUsed } : State) = { U.setFrames U.frames with heap := s₂.heap, slotsUsed := s₂.slotsUsed }
      rw [State.setFrames_self ht]
    subst hg
    refine Or.inr ⟨q, ⟨(({ U with heap := s₂.heap, slotsUsed := s₂.slotsUsed } : State).setVm s₂.vm), Ls ++ L, c0 + mc, s0 + ms⟩,
      ⟨X.admits, X.cas, X.clock, X.frames, X.room, X.hears, X.method, X.code, (X.here.setHeapUsed s₂.heap s₂.slotsUsed).setVm hW'.alike, X.tail, State.WarmedH.trans X.warmed hW', X.limits, X.bytes, X.same.trans (hsame.setVm s.vm)⟩,
      ⟨g, mk, s₂, L, E, ce, rfl, rfl, hx, hce, hcv, hcl, rfl, hL, rfl, rfl⟩, ?_⟩
    show Steps p.tables e below _ (((({ U with heap := s₂.heap, slotsUsed := s₂.slotsUsed } : State).setVm s₂.vm).setTop g).pushFrame (.throwing q))
    rw [← hs₂]
    exact hsteps
end
variable {p : Program} {l : Launch} {e : Env} {R : Room} {s : State} {m : MethodId} {args : Array Value} {below : List Frame} {meth : Method} {c : Code} {T : State} {H : Heap} {locs : List Loc} {cells slots : Nat}
theorem vx_callVX (X : Stand p l e R s m args below meth c T locs cells slots) (hexec : p.tables.exec = Jvm.exec) {own C : String} {index : Nat} {y : MethodName} {bytes : ByteArray} {maxL : Nat} {ret : Option FieldType} {hh : List (Nat × Nat × Nat × Nat)}
    (hown : s.vm.findClass own = some m.cls) (hlink : (Cond.methodLink own index y).before args s = true) (hinst : (Cond.instanceMethod y).before args s = true) (hsel : (Cond.selects C y y).before args s = true)
    (hcode : (Cond.codeWith y bytes maxL ret hh).before args s = true) (hy : y.cls ≠ "java/lang/invoke/MethodHandle" ∧ y.cls ≠ "java/lang/invoke/VarHandle")
    {W9 : Nat} {Pre : Pt → Array Value → Prop} {Post : Pt → Array Value → Option Value → Pt → Prop} {PostX : Pt → Array Value → Addr → Pt → Prop} (hK : vx_Back l R p e below s args y 3 W9 Pre Post PostX)
    {b : Addr} {cellB : Cell} (hcell : T.heap[b]? = some cellB) (hobj : cellB.vm.isStatics = false) (hcls : s.vm.findClass C = some cellB.cls)
    {g : JFrame} (hg : g.method = m) (hsize : g.locals.size = c.maxLocals) {argsL rest : List Value} (hlen : ∀ sig, parseMethodDescriptor y.desc = some sig → argsL.length = sig.parameters.length)
    (hstack : g.stack = argsL.reverse ++ .ref b :: rest) (hW : 2 * g.monitorRoom + (rest.map fun v => v.category).sum ≤ W9) (hdg : decode c.code g.pc = .ok (.invokevirtual index, 3))
    (hpre : ∀ vm₁, s.WarmedH vm₁ → Pre ⟨T.setVm vm₁, locs, cells, slots⟩ (Value.ref b :: argsL).toArray) :
    (∃ (v : Option Value) (vm₁ : Vm) (B : Pt), s.WarmedH vm₁ ∧ Stand p l e R s m args below meth c B.U B.locs B.cells B.slots ∧ Post ⟨T.setVm vm₁, locs, cells, slots⟩ (Value.ref b :: argsL).toArray v B ∧
      ∀ target, Steps p.tables e below (B.U.setTop { g with pc := g.pc + 3, stack := v.toList ++ rest }) target → Steps p.tables e below (T.setTop g) target) ∨
    (∃ (q : Addr) (vm₁ : Vm) (B : Pt), s.WarmedH vm₁ ∧ Stand p l e R s m args below meth c B.U B.locs B.cells B.slots ∧ PostX ⟨T.setVm vm₁, locs, cells, slots⟩ (Value.ref b :: argsL).toArray q B ∧
      Steps p.tables e below (T.setTop g) ((B.U.setTop { g with stack := rest }).pushFrame (.throwing q))) := by
  obtain ⟨mk, methM, hnamed, hmethM, hstM, habM⟩ := Cond.instanceMethod_spec hinst
  obtain ⟨m8, methM', cM, hn8, hmethM', -, -, -, -, -, -, hsigM⟩ := Cond.codeWith_spec hcode
  cases Option.some.inj (hn8.symm.trans hnamed)
  cases hmethM.symm.trans hmethM'
  obtain ⟨c2, r2, m2, q1, q2, q3, q4, kP, hkP, hkPi⟩ := Cond.selects_spec hsel
  cases hcls.symm.trans q1
  cases (State.methodFound?_of_named hnamed hy).symm.trans q2
  cases hnamed.symm.trans q3
  have hselP : selectMethod e.platform s.vm cellB.cls mk = .method mk := by rw [Launch.admits_selectMethod X.admits]; exact q4
  obtain ⟨vm₁, X₁, hstep₁⟩ := X.invokevirtual hexec hown hlink hnamed hmethM hstM hkP hkPi hy (a := b) (cell := cellB) hcell
    (fun z h => by rw [h] at hobj; cases hobj) hselP hmethM habM hkP hkPi (g := g) hg (argsL := argsL) (rest := rest) (hlen _ hsigM) hstack hdg
  rcases hK m meth c ⟨T.setVm vm₁, locs, cells, slots⟩ { g with stack := rest } (.invokevirtual index) mk (Value.ref b :: argsL).toArray X₁ hg hsize hdg hW (X₁.named hnamed) (hpre vm₁ X₁.warmed) with ⟨v, B, X', hpost, hsteps⟩ | ⟨q, B, X', hpost, hsteps⟩
  · exact Or.inl ⟨v, vm₁, B, X₁.warmed, X', hpost, fun target h => hstep₁ _ fun acts => by rw [doInvoke_state]; exact hsteps.trans h⟩
  · exact Or.inr ⟨q, vm₁, B, X₁.warmed, X', hpost, hstep₁ _ fun acts => by rw [doInvoke_state]; exact hsteps⟩
theorem vx_callSX (X : Stand p l e R s m args below meth c T locs cells slots) (hexec : p.tables.exec = Jvm.exec) {own : String} {index : Nat} {y : MethodName} {bytes : ByteArray} {maxL : Nat} {ret : Option FieldType} {hh : List (Nat × Nat × Nat × Nat)}
    (hown : s.vm.findClass own = some m.cls) (hlink : (Cond.methodLink own index y).before args s = true) (hstat : (Cond.static y).before args s = true) (hinit : (Cond.initialized y.cls).before args s = true)
    (hcode : (Cond.codeWith y bytes maxL ret hh).before args s = true) (hy : y.cls ≠ "java/lang/invoke/MethodHandle" ∧ y.cls ≠ "java/lang/invoke/VarHandle")
    {W9 : Nat} {Pre : Pt → Array Value → Prop} {Post : Pt → Array Value → Option Value → Pt → Prop} {PostX : Pt → Array Value → Addr → Pt → Prop} (hK : vx_Back l R p e below s args y 3 W9 Pre Post PostX)
    {g : JFrame} (hg : g.method = m) (hsize : g.locals.size = c.maxLocals) {argsL rest : List Value} (hlen : ∀ sig, parseMethodDescriptor y.desc = some sig → argsL.length = sig.parameters.length)
    (hstack : g.stack = argsL.reverse ++ rest) (hW : 2 * g.monitorRoom + (rest.map fun v => v.category).sum ≤ W9) (hdg : decode c.code g.pc = .ok (.invokestatic index, 3))
    (hpre : ∀ vm₁, s.WarmedH vm₁ → Pre ⟨T.setVm vm₁, locs, cells, slots⟩ argsL.toArray) :
    (∃ (v : Option Value) (vm₁ : Vm) (B : Pt), s.WarmedH vm₁ ∧ Stand p l e R s m args below meth c B.U B.locs B.cells B.slots ∧ Post ⟨T.setVm vm₁, locs, cells, slots⟩ argsL.toArray v B ∧
      ∀ target, Steps p.tables e below (B.U.setTop { g with pc := g.pc + 3, stack := v.toList ++ rest }) target → Steps p.tables e below (T.setTop g) target) ∨
    (∃ (q : Addr) (vm₁ : Vm) (B : Pt), s.WarmedH vm₁ ∧ Stand p l e R s m args below meth c B.U B.locs B.cells B.slots ∧ PostX ⟨T.setVm vm₁, locs, cells, slots⟩ argsL.toArray q B ∧
      Steps p.tables e below (T.setTop g) ((B.U.setTop { g with stack := rest }).pushFrame (.throwing q))) := by
  obtain ⟨mk, methM, cM, hnamed, hmethM, -, -, -, -, -, -, hsigM⟩ := Cond.codeWith_spec hcode
  have hstatic : methM.isStatic = true := Cond.static_spec hnamed hmethM hstat
  obtain ⟨kP, hkP, -⟩ := className_of_methodNamed hnamed
  have hinitP : kP.init = .initialized := Cond.initialized_spec (findClass_of_methodNamed hnamed) hkP hinit
  obtain ⟨vm₁, X₁, hstep₁⟩ := X.invokestatic hexec hown hlink hnamed hmethM hstatic hkP hinitP hy (g := g) hg (argsL := argsL) (rest := rest) (hlen _ hsigM) hstack hdg
  rcases hK m meth c ⟨T.setVm vm₁, locs, cells, slots⟩ { g with stack := rest } (.invokestatic index) mk argsL.toArray X₁ hg hsize hdg hW (X₁.named hnamed) (hpre vm₁ X₁.warmed) with ⟨v, B, X', hpost, hsteps⟩ | ⟨q, B, X', hpost, hsteps⟩
  · exact Or.inl ⟨v, vm₁, B, X₁.warmed, X', hpost, fun target h => hstep₁ _ fun acts => by rw [doInvoke_state]; exact hsteps.trans h⟩
  · exact Or.inr ⟨q, vm₁, B, X₁.warmed, X', hpost, hstep₁ _ fun acts => by rw [doInvoke_state]; exact hsteps⟩
theorem vx_callVW (X : Stand p l e R s m args below meth c T locs cells slots) (hexec : p.tables.exec = Jvm.exec) {own C : String} {index : Nat} {y : MethodName} {bytes : ByteArray} {maxL : Nat} {ret : Option FieldType} {hh : List (Nat × Nat × Nat × Nat)}
    (hown : s.vm.findClass own = some m.cls) (hlink : (Cond.methodLink own index y).before args s = true) (hinst : (Cond.instanceMethod y).before args s = true) (hsel : (Cond.selects C y y).before args s = true)
    (hcode : (Cond.codeWith y bytes maxL ret hh).before args s = true) (hy : y.cls ≠ "java/lang/invoke/MethodHandle" ∧ y.cls ≠ "java/lang/invoke/VarHandle")
    {W9 : Nat} {Pre : Pt → Array Value → Prop} {Post : Pt → Array Value → Option Value → Pt → Prop} (hK : Back l R p e below s args y 3 W9 Pre Post)
    {b : Addr} {cellB : Cell} (hcell : T.heap[b]? = some cellB) (hobj : cellB.vm.isStatics = false) (hcls : s.vm.findClass C = some cellB.cls)
    {g : JFrame} (hg : g.method = m) (hsize : g.locals.size = c.maxLocals) {argsL rest : List Value} (hlen : ∀ sig, parseMethodDescriptor y.desc = some sig → argsL.length = sig.parameters.length)
    (hstack : g.stack = argsL.reverse ++ .ref b :: rest) (hW : 2 * g.monitorRoom + (rest.map fun v => v.category).sum ≤ W9) (hdg : decode c.code g.pc = .ok (.invokevirtual index, 3))
    (hpre : ∀ vm₁, s.WarmedH vm₁ → Pre ⟨T.setVm vm₁, locs, cells, slots⟩ (Value.ref b :: argsL).toArray) :
    ∃ (v : Option Value) (vm₁ : Vm) (B : Pt), s.WarmedH vm₁ ∧ Stand p l e R s m args below meth c B.U B.locs B.cells B.slots ∧ Post ⟨T.setVm vm₁, locs, cells, slots⟩ (Value.ref b :: argsL).toArray v B ∧
      ∀ target, Steps p.tables e below (B.U.setTop { g with pc := g.pc + 3, stack := v.toList ++ rest }) target → Steps p.tables e below (T.setTop g) target := by
  obtain ⟨mk, methM, hnamed, hmethM, hstM, habM⟩ := Cond.instanceMethod_spec hinst
  obtain ⟨m8, methM', cM, hn8, hmethM', -, -, -, -, -, -, hsigM⟩ := Cond.codeWith_spec hcode
  cases Option.some.inj (hn8.symm.trans hnamed)
  cases hmethM.symm.trans hmethM'
  obtain ⟨c2, r2, m2, q1, q2, q3, q4, kP, hkP, hkPi⟩ := Cond.selects_spec hsel
  cases hcls.symm.trans q1
  cases (State.methodFound?_of_named hnamed hy).symm.trans q2
  cases hnamed.symm.trans q3
  have hselP : selectMethod e.platform s.vm cellB.cls mk = .method mk := by rw [Launch.admits_selectMethod X.admits]; exact q4
  obtain ⟨vm₁, X₁, hstep₁⟩ := X.invokevirtual hexec hown hlink hnamed hmethM hstM hkP hkPi hy (a := b) (cell := cellB) hcell
    (fun z h => by rw [h] at hobj; cases hobj) hselP hmethM habM hkP hkPi (g := g) hg (argsL := argsL) (rest := rest) (hlen _ hsigM) hstack hdg
  obtain ⟨v, B, X', hpost, hsteps⟩ := hK m meth c ⟨T.setVm vm₁, locs, cells, slots⟩ { g with stack := rest } (.invokevirtual index) mk (Value.ref b :: argsL).toArray X₁ hg hsize hdg hW (X₁.named hnamed) (hpre vm₁ X₁.warmed)
  exact ⟨v, vm₁, B, X₁.warmed, X', hpost, fun target h => hstep₁ _ fun acts => by rw [doInvoke_state]; exact hsteps.trans h⟩
abbrev vx_CVW (R : Room) (s : State) (args : Array Value) (own C : String) (index : Nat) (y : MethodName) (bytes : ByteArray) (maxL : Nat) (ret : Option FieldType) (hh : List (Nat × Nat × Nat × Nat)) (ws : List Cond) (rm : Room) (mc ms n : Nat) : Prop :=
  (rm.cells = mc ∧ rm.slots = ms ∧ rm.frames + 1 ≤ R.frames ∧ 8 + (maxL + 11) + rm.locals ≤ R.locals ∧ (∀ w ∈ ws, ∀ (a' : Array Value) (U : State), s.WarmedH U.vm → w.before a' U = true) ∧ Cond.codeWith y bytes maxL ret hh ∈ ws) ∧
  (Cond.codeWith y bytes maxL ret hh).before args s = true ∧ (Cond.initialized y.cls).before args s = true ∧ (y.cls ≠ "java/lang/invoke/MethodHandle" ∧ y.cls ≠ "java/lang/invoke/VarHandle") ∧
  (∀ sig, parseMethodDescriptor y.desc = some sig → n = sig.parameters.length) ∧ (Cond.methodLink own index y).before args s = true ∧ (Cond.instanceMethod y).before args s = true ∧ (Cond.selects C y y).before args s = true
theorem vx_cwVW {own C : String} {index maxL mc ms : Nat} {y : MethodName} {bytes : ByteArray} {ret : Option FieldType} {hh : List (Nat × Nat × Nat × Nat)} {Ts ws ws' : List Cond} {rm : Room} (n : Nat) (ht : ∀ w ∈ Ts, w.before args s = true) (hT : GoodIn Ts (wsV own index C y ws)) (hw : ws = Cond.codeWith y bytes maxL ret hh :: ws') (hrc : rm.cells = mc) (hrs : rm.slots = ms)
    (hd : y.cls = C ∧ y.cls ≠ "java/lang/invoke/MethodHandle" ∧ y.cls ≠ "java/lang/invoke/VarHandle" ∧ (parseMethodDescriptor y.desc).map (fun d => d.parameters.length) = some n) (hR : rm.frames + 1 ≤ R.frames ∧ 8 + (maxL + 11) + rm.locals ≤ R.locals) :
    vx_CVW R s args own C index y bytes maxL ret hh ws rm mc ms n := by
  obtain ⟨hC, hd⟩ := hd
  subst hC
  have ok : ∀ w ∈ wsV own index y.cls y ws, w.before args s = true := fun w h => ht w (hT w h).1
  have hG : GoodIn Ts ws := fun w h => hT w (by unfold wsV; exact List.mem_append_right _ h)
  have hc : Cond.codeWith y bytes maxL ret hh ∈ ws := by rw [hw]; exact List.mem_cons_self
  refine ⟨⟨hrc, hrs, hR.1, hR.2, pay_in ht hG, hc⟩, ht _ (hG _ hc).1, ok _ (by simp [wsV]), ⟨hd.1, hd.2.1⟩, fun sig h => ?_, ok _ (by simp [wsV]), ok _ (by simp [wsV]), ok _ (by simp [wsV])⟩
  have h2 := hd.2.2
  rw [h] at h2
  exact (Option.some.inj h2).symm
theorem vx_runVW {y : MethodName} {bytes cc : ByteArray} {maxL nL mc ms n index : Nat} {ret : Option FieldType} {hh : List (Nat × Nat × Nat × Nat)} {ws : List Cond} {rm : Room} {Pc : Array Value → State → Prop} {Qc : Array Value → State → Outcome → State → Prop} {free : Addr → Prop} {Ts : List Cond} {own C : String} {b : Addr} {As rest : List Value} {g : JFrame}
    (S : CallFix p m c cc nL s args Ts own) (hM : Met l y ws rm Pc Qc mc ms free) (cw : vx_CVW R s args own C index y bytes maxL ret hh ws rm mc ms n) (hp : PreV s H C b Pc As)
    (hg : g.method = m) (hn : As.length = n) (hsize : g.locals.size = nL) (hstack : g.stack = As.reverse ++ .ref b :: rest) (hW : 2 * g.monitorRoom + (rest.map fun v => v.category).sum ≤ 8) (hdg : decode cc g.pc = .ok (.invokevirtual index, 3)) (hf : cells + mc ≤ R.cells ∧ slots + ms ≤ R.slots) :
    va_Run p l e R s m args below meth c H locs cells slots mc ms g rest (Qc (Value.ref b :: As).toArray) free := by
  obtain ⟨⟨hrc, hrs, hfr, hlo, hws, hcw⟩, hcode, hini, hy, hlen, hl, hin, hse⟩ := cw
  have hK : Back l R p e below s args y 3 8 (PreOf R mc ms Pc) (PostOf Qc mc ms free) := va_backW (hh := hh) (bytes := bytes) (maxL := maxL) (ret := ret) hM hp.1 hrc hrs hfr hlo hws hcw (fun a' U hW => word_at hW (Or.inl (by first | rfl | simp [Cond.onTables, Cond.keeps, Cond.steady])) hini)
  obtain ⟨hx, hb, hml, ho, -⟩ := S
  obtain ⟨-, ⟨cellB, hcB, hoB, hclB⟩, hPc⟩ := hp
  intro T hT X
  obtain ⟨v, vm₁, ⟨U', l2, c2, s2⟩, hW₁, X', ⟨g', mk, t, L, e1, e2, hq, h1, hL, h2, h3⟩, st⟩ := vx_callVW X hx (C := C) (hh := hh) (bytes := bytes) (maxL := maxL) (ret := ret) ho hl hin hse hcode hy hK (by rw [hT]; exact hcB) hoB hclB hg (hsize.trans hml.symm) (argsL := As) (rest := rest) (fun sig h => hn.trans (hlen sig h)) hstack hW (by rw [hb]; exact hdg)
    (fun vm₁ hW₁ => ⟨hf.1, hf.2, hPc (T.setVm vm₁) hT hW₁⟩)
  dsimp only [Pt.U, Pt.locs, Pt.cells, Pt.slots] at X' e1 e2 h1 h2 h3 st
  subst h1; subst h2; subst h3
  exact ⟨v, (T.setVm vm₁).calling g' mk (Value.ref b :: As).toArray, t, U', L, hT, X', hL, e1, e2, hq, st⟩
section
variable {y : MethodName} {bytes cc : ByteArray} {maxL nL mc ms n index : Nat} {ret : Option FieldType} {ws : List Cond} {rm : Room} {Pc : Array Value → State → Prop} {Qc : Array Value → State → Outcome → State → Prop} {XC : String → State → State → Prop} {free : Addr → Prop} {Ts : List Cond} {own C : String} {b : Addr} {As rest : List Value} {g : JFrame}
theorem vx_runVX {hh : List (Nat × Nat × Nat × Nat)} (S : CallFix p m c cc nL s args Ts own) (hM : vx_Met l y ws rm Pc Qc XC mc ms free) (cw : vx_CVW R s args own C index y bytes maxL ret hh ws rm mc ms n) (hp : PreV s H C b Pc As)
    (hg : g.method = m) (hn : As.length = n) (hsize : g.locals.size = nL) (hstack : g.stack = As.reverse ++ .ref b :: rest) (hW : 2 * g.monitorRoom + (rest.map fun v => v.category).sum ≤ 8) (hdg : decode cc g.pc = .ok (.invokevirtual index, 3)) (hf : cells + mc ≤ R.cells ∧ slots + ms ≤ R.slots) :
    vx_Run p l e R s m args below meth c H locs cells slots mc ms g rest (Qc (Value.ref b :: As).toArray) XC free := by
  obtain ⟨⟨hrc, hrs, hfr, hlo, hws, hcw⟩, hcode, hini, hy, hlen, hl, hin, hse⟩ := cw
  have hK : vx_Back l R p e below s args y 3 8 (PreOf R mc ms Pc) (PostOf Qc mc ms free) (vx_Post XC mc ms free) := vx_backW (hh := hh) (bytes := bytes) (maxL := maxL) (ret := ret) hM hp.1 hrc hrs hfr hlo hws hcw (fun a' U hW => word_at hW (Or.inl (by first | rfl | simp [Cond.onTables, Cond.keeps, Cond.steady])) hini)
  obtain ⟨hx, hb, hml, ho, -⟩ := S
  obtain ⟨-, ⟨cellB, hcB, hoB, hclB⟩, hPc⟩ := hp
  intro T hT X
  rcases vx_callVX X hx (C := C) (hh := hh) (bytes := bytes) (maxL := maxL) (ret := ret) ho hl hin hse hcode hy hK (by rw [hT]; exact hcB) hoB hclB hg (hsize.trans hml.symm) (argsL := As) (rest := rest) (fun sig h => hn.trans (hlen sig h)) hstack hW (by rw [hb]; exact hdg)
    (fun vm₁ hW₁ => ⟨hf.1, hf.2, hPc (T.setVm vm₁) hT hW₁⟩) with ⟨v, vm₁, ⟨U', l2, c2, s2⟩, hW₁, X', ⟨g', mk, t, L, e1, e2, hq, h1, hL, h2, h3⟩, st⟩ | ⟨q, vm₁, ⟨U', l2, c2, s2⟩, hW₁, X', ⟨g', mk, t, L, E, ce, e1, e2, hq, hce, hcv, hcl, h1, hL, h2, h3⟩, st⟩
  · dsimp only [Pt.U, Pt.locs, Pt.cells, Pt.slots] at X' e1 e2 h1 h2 h3 st
    subst h1; subst h2; subst h3
    exact Or.inl ⟨v, (T.setVm vm₁).calling g' mk (Value.ref b :: As).toArray, t, U', L, hT, X', hL, e1, e2, hq, st⟩
  · dsimp only [Pt.U, Pt.locs, Pt.cells, Pt.slots] at X' e1 e2 h1 h2 h3 st hcl
    subst h1; subst h2; subst h3
    exact Or.inr ⟨q, (T.setVm vm₁).calling g' mk (Value.ref b :: As).toArray, t, U', L, E, ce, hT, X', hL, e1, e2, hq, hce, hcv, vx_cls hW₁ hcl, st⟩
theorem vx_runSX {hh : List (Nat × Nat × Nat × Nat)} (S : CallFix p m c cc nL s args Ts own) (hM : vx_Met l y ws rm Pc Qc XC mc ms free) (cw : vx_CSW R s args own index y bytes maxL ret hh ws rm mc ms n) (hp : PreS s H Pc As)
    (hg : g.method = m) (hn : As.length = n) (hsize : g.locals.size = nL) (hstack : g.stack = As.reverse ++ rest) (hW : 2 * g.monitorRoom + (rest.map fun v => v.category).sum ≤ 8) (hdg : decode cc g.pc = .ok (.invokestatic index, 3)) (hf : cells + mc ≤ R.cells ∧ slots + ms ≤ R.slots) :
    vx_Run p l e R s m args below meth c H locs cells slots mc ms g rest (Qc As.toArray) XC free := by
  obtain ⟨⟨hrc, hrs, hfr, hlo, hws, hcw⟩, hcode, hini, hy, hlen, hl, hstt⟩ := cw
  have hK : vx_Back l R p e below s args y 3 8 (PreOf R mc ms Pc) (PostOf Qc mc ms free) (vx_Post XC mc ms free) := vx_backW (hh := hh) (bytes := bytes) (maxL := maxL) (ret := ret) hM hp.1 hrc hrs hfr hlo hws hcw (fun a' U hW => word_at hW (Or.inl (by first | rfl | simp [Cond.onTables, Cond.keeps, Cond.steady])) hini)
  obtain ⟨hx, hb, hml, ho, -⟩ := S
  intro T hT X
  rcases vx_callSX X hx (hh := hh) (bytes := bytes) (maxL := maxL) (ret := ret) ho hl hstt hini hcode hy hK hg (hsize.trans hml.symm) (argsL := As) (rest := rest) (fun sig h => hn.trans (hlen sig h)) hstack hW (by rw [hb]; exact hdg)
    (fun vm₁ hW₁ => ⟨hf.1, hf.2, hp.2 (T.setVm vm₁) hT hW₁⟩) with ⟨v, vm₁, ⟨U', l2, c2, s2⟩, hW₁, X', ⟨g', mk, t, L, e1, e2, hq, h1, hL, h2, h3⟩, st⟩ | ⟨q, vm₁, ⟨U', l2, c2, s2⟩, hW₁, X', ⟨g', mk, t, L, E, ce, e1, e2, hq, hce, hcv, hcl, h1, hL, h2, h3⟩, st⟩
  · dsimp only [Pt.U, Pt.locs, Pt.cells, Pt.slots] at X' e1 e2 h1 h2 h3 st
    subst h1; subst h2; subst h3
    exact Or.inl ⟨v, (T.setVm vm₁).calling g' mk As.toArray, t, U', L, hT, X', hL, e1, e2, hq, st⟩
  · dsimp only [Pt.U, Pt.locs, Pt.cells, Pt.slots] at X' e1 e2 h1 h2 h3 st hcl
    subst h1; subst h2; subst h3
    exact Or.inr ⟨q, (T.setVm vm₁).calling g' mk As.toArray, t, U', L, E, ce, hT, X', hL, e1, e2, hq, hce, hcv, vx_cls hW₁ hcl, st⟩
end
end VXH
theorem vx_ofWH {l : Launch} {y : MethodName} {ws ws' : List Cond} {rm : Room} {Pc : Array Value → State → Prop} {Qc : Array Value → State → Outcome → State → Prop} {XC : String → State → State → Prop} {mc ms : Nat} {free : Addr → Prop} {cc : ByteArray} {maxL : Nat} {ret : Option FieldType} {hh : List (Nat × Nat × Nat × Nat)}
    (hy : plainName y.cls = true) (hw : ws = Cond.codeWith y cc maxL ret hh :: ws')
    (body : ∀ p e s m args below meth c s₁, BodyLoose p l y (headSpec ws rm) cc maxL ret e s m args below meth c s₁ → c.maxLocals = maxL → Pc args s →
      W p l e (headSpec ws rm).room s m args below meth c s.heap [] 0 0 (vx_MQ below Qc XC args s mc ms free) (entryFrame m args maxL)) : vx_Met l y ws rm Pc Qc XC mc ms free := by
  refine MetFree.of_bodyS (code := cc) (maxLocals := maxL) (ret := ret) hy ?_ ?_
  · intro args s m h hn
    obtain ⟨m9, meth, c, hn9, h1, h2, h3, h4, -, h5, h6, -⟩ := Cond.codeWith_spec (atoms_spec (ws := ws) h _ (by rw [hw]; exact List.mem_cons_self))
    cases hn.symm.trans hn9
    exact ⟨meth, c, h1, h2, h3, h4, h5, h6⟩
  · intro p e s m args below meth c s₁ B hml hP _
    have hh0 : s₁.heap = s.heap := by rw [B.state]; rfl
    obtain ⟨t, a1, o, b1, b2, b3⟩ := body p e s m args below meth c s₁ B hml hP s₁ hh0 (Stand.of_body B)
    exact ⟨t, o, a1, b1, b2, b3⟩
/-! ===== END ===== -/
end
section
/-! ===== BEGIN printed: names, fields, word lists, decode rows ===== -/
def RX0 : String := "SignedBridge$Asks"
def TX0 : u_T := fun k => match k with
  | 0 => ("SignedBridge$Asks", "trial", "LSignedBridge$State;", true)
  | 1 => ("SignedBridge$Asks", "cost", "[I", true)
  | 2 => ("SignedBridge$Asks", "total", "[I", true)
  | 3 => ("SignedBridge$Asks", "picks", "[I", true)
  | _ => ("SignedBridge$Asks", "asked", "[I", true)
def tyX0 : Nat → FieldType := fun k => match k with
  | 0 => .object "SignedBridge$State"
  | 1 => .array .int
  | 2 => .array .int
  | 3 => .array .int
  | _ => .array .int
abbrev wsX00 : List Cond := u_ws RX0 TX0 5
theorem nmX0 : ∀ a, a < 5 → ∀ b, b < 5 → a ≠ b → (TX0 a).2.1 ≠ (TX0 b).2.1 := by decide +kernel
theorem tyX0_ok : ∀ k, k < 5 → parseFieldDescriptor (TX0 k).2.2.1 = some (tyX0 k) := by decide +kernel
abbrev cX0_init : ByteArray := prog_2_method_1_code
def yX0_init : MethodName := ⟨RX0, "<init>", "()V"⟩
abbrev cX0_find : ByteArray := prog_2_method_2_code
def yX0_find : MethodName := ⟨RX0, "find", "(LSignedBridge$Plan;LSignedBridge$State;I)I"⟩
abbrev cX0_price : ByteArray := prog_2_method_3_code
def yX0_price : MethodName := ⟨RX0, "price", "(LSignedBridge$Plan;LSignedBridge$State;III)I"⟩
abbrev cX0_countWays : ByteArray := prog_2_method_4_code
def yX0_countWays : MethodName := ⟨RX0, "countWays", "(LSignedBridge$Plan;LSignedBridge$State;II)I"⟩
abbrev cX0_tryWay : ByteArray := prog_2_method_5_code
def yX0_tryWay : MethodName := ⟨RX0, "tryWay", "(LSignedBridge$Plan;LSignedBridge$State;III)I"⟩
abbrev cX0_bearTogether : ByteArray := prog_2_method_6_code
def yX0_bearTogether : MethodName := ⟨RX0, "bearTogether", "(LSignedBridge$Plan;II)I"⟩
abbrev cX0_addUp : ByteArray := prog_2_method_7_code
def yX0_addUp : MethodName := ⟨RX0, "addUp", "(I)I"⟩
abbrev cX0_leastOpen : ByteArray := prog_2_method_8_code
def yX0_leastOpen : MethodName := ⟨RX0, "leastOpen", "(II)I"⟩
abbrev cX0_followFirst : ByteArray := prog_2_method_9_code
def yX0_followFirst : MethodName := ⟨RX0, "followFirst", "(LSignedBridge$Plan;LSignedBridge$State;I)V"⟩
def RX1 : String := "SignedBridge$Book"
def TX1 : u_T := fun k => match k with
  | 0 => ("SignedBridge$Book", "deeds", "[I", true)
  | 1 => ("SignedBridge$Book", "who", "[I", true)
  | 2 => ("SignedBridge$Book", "first", "[I", true)
  | 3 => ("SignedBridge$Book", "second", "[I", true)
  | 4 => ("SignedBridge$Book", "lines", "I", false)
  | _ => ("SignedBridge$Book", "verdict", "[I", true)
def tyX1 : Nat → FieldType := fun k => match k with
  | 0 => .array .int
  | 1 => .array .int
  | 2 => .array .int
  | 3 => .array .int
  | 4 => .int
  | _ => .array .int
abbrev wsX10 : List Cond := u_ws RX1 TX1 6
theorem nmX1 : ∀ a, a < 6 → ∀ b, b < 6 → a ≠ b → (TX1 a).2.1 ≠ (TX1 b).2.1 := by decide +kernel
theorem tyX1_ok : ∀ k, k < 6 → parseFieldDescriptor (TX1 k).2.2.1 = some (tyX1 k) := by decide +kernel
abbrev cX1_init : ByteArray := prog_3_method_1_code
def yX1_init : MethodName := ⟨RX1, "<init>", "()V"⟩
abbrev cX1_read : ByteArray := prog_3_method_2_code
def yX1_read : MethodName := ⟨RX1, "read", "(LSignedBridge$Tokens;LSignedBridge$Plan;)Z"⟩
abbrev cX1_readLine : ByteArray := prog_3_method_3_code
def yX1_readLine : MethodName := ⟨RX1, "readLine", "(LSignedBridge$Tokens;LSignedBridge$Plan;)Z"⟩
abbrev cX1_isSignersDeed : ByteArray := prog_3_method_4_code
def yX1_isSignersDeed : MethodName := ⟨RX1, "isSignersDeed", "(LSignedBridge$Tokens;)Z"⟩
abbrev cX1_readPlace : ByteArray := prog_3_method_5_code
def yX1_readPlace : MethodName := ⟨RX1, "readPlace", "(LSignedBridge$Tokens;)Z"⟩
abbrev cX1_readDays : ByteArray := prog_3_method_6_code
def yX1_readDays : MethodName := ⟨RX1, "readDays", "(LSignedBridge$Tokens;)Z"⟩
abbrev cX1_live : ByteArray := prog_3_method_7_code
def yX1_live : MethodName := ⟨RX1, "live", "(LSignedBridge$Plan;LSignedBridge$State;LSignedBridge$Ways;)I"⟩
abbrev cX1_liveLine : ByteArray := prog_3_method_8_code
def yX1_liveLine : MethodName := ⟨RX1, "liveLine", "(LSignedBridge$Plan;LSignedBridge$State;LSignedBridge$Ways;I)I"⟩
abbrev cX1_behind : ByteArray := prog_3_method_9_code
def yX1_behind : MethodName := ⟨RX1, "behind", "(II)I"⟩
def RX2 : String := "SignedBridge$BridgeText"
def TX2 : u_T := fun k => match k with
  | 0 => ("SignedBridge$BridgeText", "plan", "LSignedBridge$Plan;", true)
  | 1 => ("SignedBridge$BridgeText", "lines", "I", false)
  | 2 => ("SignedBridge$BridgeText", "rowsTold", "Z", false)
  | 3 => ("SignedBridge$BridgeText", "keepsTold", "Z", false)
  | _ => ("SignedBridge$BridgeText", "plankTold", "Z", false)
def tyX2 : Nat → FieldType := fun k => match k with
  | 0 => .object "SignedBridge$Plan"
  | 1 => .int
  | 2 => .boolean
  | 3 => .boolean
  | _ => .boolean
abbrev wsX20 : List Cond := u_ws RX2 TX2 5
theorem nmX2 : ∀ a, a < 5 → ∀ b, b < 5 → a ≠ b → (TX2 a).2.1 ≠ (TX2 b).2.1 := by decide +kernel
theorem tyX2_ok : ∀ k, k < 5 → parseFieldDescriptor (TX2 k).2.2.1 = some (tyX2 k) := by decide +kernel
abbrev cX2_init : ByteArray := prog_4_method_1_code
def yX2_init : MethodName := ⟨RX2, "<init>", "()V"⟩
abbrev cX2_read : ByteArray := prog_4_method_2_code
def yX2_read : MethodName := ⟨RX2, "read", "(LSignedBridge$Tokens;)Z"⟩
abbrev cX2_readLine : ByteArray := prog_4_method_3_code
def yX2_readLine : MethodName := ⟨RX2, "readLine", "(LSignedBridge$Tokens;)Z"⟩
abbrev cX2_readRows : ByteArray := prog_4_method_4_code
def yX2_readRows : MethodName := ⟨RX2, "readRows", "(LSignedBridge$Tokens;)Z"⟩
abbrev cX2_readKeeps : ByteArray := prog_4_method_5_code
def yX2_readKeeps : MethodName := ⟨RX2, "readKeeps", "(LSignedBridge$Tokens;)Z"⟩
abbrev cX2_readSigner : ByteArray := prog_4_method_6_code
def yX2_readSigner : MethodName := ⟨RX2, "readSigner", "(LSignedBridge$Tokens;)Z"⟩
abbrev cX2_readHeir : ByteArray := prog_4_method_7_code
def yX2_readHeir : MethodName := ⟨RX2, "readHeir", "(LSignedBridge$Tokens;)Z"⟩
abbrev cX2_readLovers : ByteArray := prog_4_method_8_code
def yX2_readLovers : MethodName := ⟨RX2, "readLovers", "(LSignedBridge$Tokens;)Z"⟩
abbrev cX2_readPlank : ByteArray := prog_4_method_9_code
def yX2_readPlank : MethodName := ⟨RX2, "readPlank", "(LSignedBridge$Tokens;)Z"⟩
abbrev cX2_readLoad : ByteArray := prog_4_method_10_code
def yX2_readLoad : MethodName := ⟨RX2, "readLoad", "(LSignedBridge$Tokens;)Z"⟩
def RX3 : String := "SignedBridge$Cut"
def TX3 : u_T := fun k => match k with
  | 0 => ("SignedBridge$Cut", "trial", "LSignedBridge$State;", true)
  | 1 => ("SignedBridge$Cut", "possible", "[I", true)
  | 2 => ("SignedBridge$Cut", "need", "[I", true)
  | 3 => ("SignedBridge$Cut", "places", "[I", true)
  | _ => ("SignedBridge$Cut", "size", "I", false)
def tyX3 : Nat → FieldType := fun k => match k with
  | 0 => .object "SignedBridge$State"
  | 1 => .array .int
  | 2 => .array .int
  | 3 => .array .int
  | _ => .int
abbrev wsX30 : List Cond := u_ws RX3 TX3 5
theorem nmX3 : ∀ a, a < 5 → ∀ b, b < 5 → a ≠ b → (TX3 a).2.1 ≠ (TX3 b).2.1 := by decide +kernel
theorem tyX3_ok : ∀ k, k < 5 → parseFieldDescriptor (TX3 k).2.2.1 = some (tyX3 k) := by decide +kernel
abbrev cX3_init : ByteArray := prog_5_method_1_code
def yX3_init : MethodName := ⟨RX3, "<init>", "()V"⟩
abbrev cX3_find : ByteArray := prog_5_method_2_code
def yX3_find : MethodName := ⟨RX3, "find", "(LSignedBridge$Plan;LSignedBridge$State;LSignedBridge$Ways;I)I"⟩
abbrev cX3_stepsWithout : ByteArray := prog_5_method_3_code
def yX3_stepsWithout : MethodName := ⟨RX3, "stepsWithout", "(LSignedBridge$Plan;LSignedBridge$State;LSignedBridge$Ways;III)I"⟩
abbrev cX3_fillNeed : ByteArray := prog_5_method_4_code
def yX3_fillNeed : MethodName := ⟨RX3, "fillNeed", "(I)V"⟩
abbrev cX3_needWith : ByteArray := prog_5_method_5_code
def yX3_needWith : MethodName := ⟨RX3, "needWith", "(III)I"⟩
abbrev cX3_followFirst : ByteArray := prog_5_method_6_code
def yX3_followFirst : MethodName := ⟨RX3, "followFirst", "(II)V"⟩
abbrev cX3_addPlaces : ByteArray := prog_5_method_7_code
def yX3_addPlaces : MethodName := ⟨RX3, "addPlaces", "(II)V"⟩
def RX4 : String := "SignedBridge$Forecast"
def TX4 : u_T := fun k => match k with
  | 0 => ("SignedBridge$Forecast", "trial", "LSignedBridge$State;", true)
  | 1 => ("SignedBridge$Forecast", "second", "LSignedBridge$State;", true)
  | 2 => ("SignedBridge$Forecast", "seed", "I", false)
  | 3 => ("SignedBridge$Forecast", "order", "[I", true)
  | _ => ("SignedBridge$Forecast", "orderSize", "I", false)
def tyX4 : Nat → FieldType := fun k => match k with
  | 0 => .object "SignedBridge$State"
  | 1 => .object "SignedBridge$State"
  | 2 => .int
  | 3 => .array .int
  | _ => .int
abbrev wsX40 : List Cond := u_ws RX4 TX4 5
theorem nmX4 : ∀ a, a < 5 → ∀ b, b < 5 → a ≠ b → (TX4 a).2.1 ≠ (TX4 b).2.1 := by decide +kernel
theorem tyX4_ok : ∀ k, k < 5 → parseFieldDescriptor (TX4 k).2.2.1 = some (tyX4 k) := by decide +kernel
abbrev cX4_init : ByteArray := prog_6_method_1_code
def yX4_init : MethodName := ⟨RX4, "<init>", "()V"⟩
abbrev cX4_findKeystone : ByteArray := prog_6_method_2_code
def yX4_findKeystone : MethodName := ⟨RX4, "findKeystone", "(LSignedBridge$Plan;LSignedBridge$State;LSignedBridge$Ways;)I"⟩
abbrev cX4_findOrder : ByteArray := prog_6_method_3_code
def yX4_findOrder : MethodName := ⟨RX4, "findOrder", "(LSignedBridge$Plan;LSignedBridge$State;LSignedBridge$Ways;)I"⟩
abbrev cX4_nextLoad : ByteArray := prog_6_method_4_code
def yX4_nextLoad : MethodName := ⟨RX4, "nextLoad", "(LSignedBridge$Plan;LSignedBridge$Ways;II)I"⟩
abbrev cX4_findLaw : ByteArray := prog_6_method_5_code
def yX4_findLaw : MethodName := ⟨RX4, "findLaw", "(LSignedBridge$Plan;LSignedBridge$State;LSignedBridge$Ways;II)I"⟩
abbrev cX4_findLast : ByteArray := prog_6_method_6_code
def yX4_findLast : MethodName := ⟨RX4, "findLast", "(LSignedBridge$Plan;LSignedBridge$State;LSignedBridge$Ways;I)I"⟩
abbrev cX4_countOdds : ByteArray := prog_6_method_7_code
def yX4_countOdds : MethodName := ⟨RX4, "countOdds", "(LSignedBridge$Plan;LSignedBridge$State;LSignedBridge$Ways;III)I"⟩
abbrev cX4_drawDays : ByteArray := prog_6_method_8_code
def yX4_drawDays : MethodName := ⟨RX4, "drawDays", "(LSignedBridge$Plan;LSignedBridge$State;LSignedBridge$Ways;II)I"⟩
abbrev cX4_drawDeed : ByteArray := prog_6_method_9_code
def yX4_drawDeed : MethodName := ⟨RX4, "drawDeed", "(LSignedBridge$Plan;LSignedBridge$State;I)V"⟩
abbrev cX4_draw : ByteArray := prog_6_method_10_code
def yX4_draw : MethodName := ⟨RX4, "draw", "(I)I"⟩
def RX5 : String := "SignedBridge$Forgers"
def TX5 : u_T := fun k => match k with
  | 0 => ("SignedBridge$Forgers", "possible", "[I", true)
  | 1 => ("SignedBridge$Forgers", "forged", "[I", true)
  | 2 => ("SignedBridge$Forgers", "ableBy", "[I", true)
  | 3 => ("SignedBridge$Forgers", "common", "I", false)
  | _ => ("SignedBridge$Forgers", "telling", "I", false)
def tyX5 : Nat → FieldType := fun k => match k with
  | 0 => .array .int
  | 1 => .array .int
  | 2 => .array .int
  | 3 => .int
  | _ => .int
abbrev wsX50 : List Cond := u_ws RX5 TX5 5
theorem nmX5 : ∀ a, a < 5 → ∀ b, b < 5 → a ≠ b → (TX5 a).2.1 ≠ (TX5 b).2.1 := by decide +kernel
theorem tyX5_ok : ∀ k, k < 5 → parseFieldDescriptor (TX5 k).2.2.1 = some (tyX5 k) := by decide +kernel
abbrev cX5_init : ByteArray := prog_7_method_1_code
def yX5_init : MethodName := ⟨RX5, "<init>", "()V"⟩
abbrev cX5_find : ByteArray := prog_7_method_2_code
def yX5_find : MethodName := ⟨RX5, "find", "(LSignedBridge$Plan;LSignedBridge$State;LSignedBridge$Ways;LSignedBridge$Tokens;)I"⟩
abbrev cX5_isAsTold : ByteArray := prog_7_method_3_code
def yX5_isAsTold : MethodName := ⟨RX5, "isAsTold", "(LSignedBridge$Plan;LSignedBridge$Tokens;)Z"⟩
abbrev cX5_weighForged : ByteArray := prog_7_method_4_code
def yX5_weighForged : MethodName := ⟨RX5, "weighForged", "(LSignedBridge$Plan;LSignedBridge$State;LSignedBridge$Ways;)V"⟩
abbrev cX5_markForged : ByteArray := prog_7_method_5_code
def yX5_markForged : MethodName := ⟨RX5, "markForged", "(LSignedBridge$Plan;LSignedBridge$State;I)V"⟩
abbrev cX5_ableLoads : ByteArray := prog_7_method_6_code
def yX5_ableLoads : MethodName := ⟨RX5, "ableLoads", "(LSignedBridge$Plan;)I"⟩
abbrev cX5_agrees : ByteArray := prog_7_method_7_code
def yX5_agrees : MethodName := ⟨RX5, "agrees", "(LSignedBridge$Tokens;I)Z"⟩
abbrev cX5_addAble : ByteArray := prog_7_method_8_code
def yX5_addAble : MethodName := ⟨RX5, "addAble", "(LSignedBridge$Plan;I)V"⟩
abbrev cX5_mostTelling : ByteArray := prog_7_method_9_code
def yX5_mostTelling : MethodName := ⟨RX5, "mostTelling", "(LSignedBridge$Plan;I)I"⟩
def RX6 : String := "SignedBridge$Plan"
def TX6 : u_T := fun k => match k with
  | 0 => ("SignedBridge$Plan", "rows", "I", false)
  | 1 => ("SignedBridge$Plan", "keeps", "I", false)
  | 2 => ("SignedBridge$Plan", "signers", "I", false)
  | 3 => ("SignedBridge$Plan", "loads", "I", false)
  | 4 => ("SignedBridge$Plan", "lovers", "I", false)
  | 5 => ("SignedBridge$Plan", "forgers", "I", false)
  | 6 => ("SignedBridge$Plan", "signerNames", "[J", true)
  | 7 => ("SignedBridge$Plan", "earnest", "[I", true)
  | 8 => ("SignedBridge$Plan", "miles", "[I", true)
  | 9 => ("SignedBridge$Plan", "heir", "[I", true)
  | 10 => ("SignedBridge$Plan", "loves", "[I", true)
  | 11 => ("SignedBridge$Plan", "owner", "[I", true)
  | 12 => ("SignedBridge$Plan", "loadNames", "[J", true)
  | 13 => ("SignedBridge$Plan", "weight", "[I", true)
  | _ => ("SignedBridge$Plan", "wide", "[I", true)
def tyX6 : Nat → FieldType := fun k => match k with
  | 0 => .int
  | 1 => .int
  | 2 => .int
  | 3 => .int
  | 4 => .int
  | 5 => .int
  | 6 => .array .long
  | 7 => .array .int
  | 8 => .array .int
  | 9 => .array .int
  | 10 => .array .int
  | 11 => .array .int
  | 12 => .array .long
  | 13 => .array .int
  | _ => .array .int
abbrev wsX60 : List Cond := u_ws RX6 TX6 15
theorem nmX6 : ∀ a, a < 15 → ∀ b, b < 15 → a ≠ b → (TX6 a).2.1 ≠ (TX6 b).2.1 := by decide +kernel
theorem tyX6_ok : ∀ k, k < 15 → parseFieldDescriptor (TX6 k).2.2.1 = some (tyX6 k) := by decide +kernel
abbrev cX6_init : ByteArray := prog_8_method_1_code
def yX6_init : MethodName := ⟨RX6, "<init>", "()V"⟩
abbrev cX6_clear : ByteArray := prog_8_method_2_code
def yX6_clear : MethodName := ⟨RX6, "clear", "()V"⟩
abbrev cX6_copyOf : ByteArray := prog_8_method_3_code
def yX6_copyOf : MethodName := ⟨RX6, "copyOf", "(LSignedBridge$Plan;)V"⟩
abbrev cX6_signerNamed : ByteArray := prog_8_method_4_code
def yX6_signerNamed : MethodName := ⟨RX6, "signerNamed", "(J)I"⟩
abbrev cX6_loadNamed : ByteArray := prog_8_method_5_code
def yX6_loadNamed : MethodName := ⟨RX6, "loadNamed", "(J)I"⟩
abbrev cX6_areLovers : ByteArray := prog_8_method_6_code
def yX6_areLovers : MethodName := ⟨RX6, "areLovers", "(II)Z"⟩
abbrev cX6_countPlanksOf : ByteArray := prog_8_method_7_code
def yX6_countPlanksOf : MethodName := ⟨RX6, "countPlanksOf", "(I)I"⟩
def RX7 : String := "SignedBridge$Sentence"
def TX7 : u_T := fun k => match k with
  | 0 => ("SignedBridge$Sentence", "code", "[I", true)
  | 1 => ("SignedBridge$Sentence", "sign", "[I", true)
  | 2 => ("SignedBridge$Sentence", "number", "[I", true)
  | 3 => ("SignedBridge$Sentence", "size", "I", false)
  | 4 => ("SignedBridge$Sentence", "delayed", "[I", true)
  | 5 => ("SignedBridge$Sentence", "delays", "I", false)
  | 6 => ("SignedBridge$Sentence", "within", "I", false)
  | 7 => ("SignedBridge$Sentence", "stack", "[I", true)
  | _ => ("SignedBridge$Sentence", "ones", "I", false)
def tyX7 : Nat → FieldType := fun k => match k with
  | 0 => .array .int
  | 1 => .array .int
  | 2 => .array .int
  | 3 => .int
  | 4 => .array .int
  | 5 => .int
  | 6 => .int
  | 7 => .array .int
  | _ => .int
abbrev wsX70 : List Cond := u_ws RX7 TX7 9
theorem nmX7 : ∀ a, a < 9 → ∀ b, b < 9 → a ≠ b → (TX7 a).2.1 ≠ (TX7 b).2.1 := by decide +kernel
theorem tyX7_ok : ∀ k, k < 9 → parseFieldDescriptor (TX7 k).2.2.1 = some (tyX7 k) := by decide +kernel
abbrev cX7_init : ByteArray := prog_9_method_1_code
def yX7_init : MethodName := ⟨RX7, "<init>", "()V"⟩
abbrev cX7_forget : ByteArray := prog_9_method_2_code
def yX7_forget : MethodName := ⟨RX7, "forget", "()V"⟩
abbrev cX7_copyOf : ByteArray := prog_9_method_3_code
def yX7_copyOf : MethodName := ⟨RX7, "copyOf", "(LSignedBridge$Sentence;)V"⟩
abbrev cX7_read : ByteArray := prog_9_method_4_code
def yX7_read : MethodName := ⟨RX7, "read", "(LSignedBridge$Tokens;LSignedBridge$Plan;)Z"⟩
abbrev cX7_readOne : ByteArray := prog_9_method_5_code
def yX7_readOne : MethodName := ⟨RX7, "readOne", "(LSignedBridge$Tokens;LSignedBridge$Plan;)Z"⟩
abbrev cX7_beginsOne : ByteArray := prog_9_method_6_code
def yX7_beginsOne : MethodName := ⟨RX7, "beginsOne", "(LSignedBridge$Tokens;)Z"⟩
abbrev cX7_readSaying : ByteArray := prog_9_method_7_code
def yX7_readSaying : MethodName := ⟨RX7, "readSaying", "(LSignedBridge$Tokens;LSignedBridge$Plan;)Z"⟩
abbrev cX7_isRelation : ByteArray := prog_9_method_8_code
def yX7_isRelation : MethodName := ⟨RX7, "isRelation", "(LSignedBridge$Tokens;)Z"⟩
abbrev cX7_closeBrackets : ByteArray := prog_9_method_9_code
def yX7_closeBrackets : MethodName := ⟨RX7, "closeBrackets", "(LSignedBridge$Tokens;)V"⟩
abbrev cX7_readJoin : ByteArray := prog_9_method_10_code
def yX7_readJoin : MethodName := ⟨RX7, "readJoin", "(LSignedBridge$Tokens;)Z"⟩
abbrev cX7_settleNots : ByteArray := prog_9_method_11_code
def yX7_settleNots : MethodName := ⟨RX7, "settleNots", "()Z"⟩
abbrev cX7_settle : ByteArray := prog_9_method_12_code
def yX7_settle : MethodName := ⟨RX7, "settle", "(I)V"⟩
abbrev cX7_delay : ByteArray := prog_9_method_13_code
def yX7_delay : MethodName := ⟨RX7, "delay", "(I)V"⟩
abbrev cX7_put : ByteArray := prog_9_method_14_code
def yX7_put : MethodName := ⟨RX7, "put", "(III)V"⟩
abbrev cX7_judge : ByteArray := prog_9_method_15_code
def yX7_judge : MethodName := ⟨RX7, "judge", "(LSignedBridge$Plan;LSignedBridge$State;)I"⟩
abbrev cX7_sayOfAll : ByteArray := prog_9_method_16_code
def yX7_sayOfAll : MethodName := ⟨RX7, "sayOfAll", "(LSignedBridge$Plan;LSignedBridge$State;I)I"⟩
abbrev cX7_isTrueOf : ByteArray := prog_9_method_17_code
def yX7_isTrueOf : MethodName := ⟨RX7, "isTrueOf", "(LSignedBridge$Plan;LSignedBridge$State;II)Z"⟩
abbrev cX7_isOn : ByteArray := prog_9_method_18_code
def yX7_isOn : MethodName := ⟨RX7, "isOn", "(LSignedBridge$State;II)Z"⟩
abbrev cX7_compares : ByteArray := prog_9_method_19_code
def yX7_compares : MethodName := ⟨RX7, "compares", "(II)Z"⟩
def RX8 : String := "SignedBridge$State"
def TX8 : u_T := fun k => match k with
  | 0 => ("SignedBridge$State", "day", "I", false)
  | 1 => ("SignedBridge$State", "burnt", "I", false)
  | 2 => ("SignedBridge$State", "fallen", "I", false)
  | 3 => ("SignedBridge$State", "earnest", "[I", true)
  | 4 => ("SignedBridge$State", "died", "[I", true)
  | 5 => ("SignedBridge$State", "held", "[I", true)
  | 6 => ("SignedBridge$State", "owner", "[I", true)
  | 7 => ("SignedBridge$State", "singed", "[I", true)
  | _ => ("SignedBridge$State", "crossed", "[I", true)
def tyX8 : Nat → FieldType := fun k => match k with
  | 0 => .int
  | 1 => .int
  | 2 => .int
  | 3 => .array .int
  | 4 => .array .int
  | 5 => .array .int
  | 6 => .array .int
  | 7 => .array .int
  | _ => .array .int
abbrev wsX80 : List Cond := u_ws RX8 TX8 9
theorem nmX8 : ∀ a, a < 9 → ∀ b, b < 9 → a ≠ b → (TX8 a).2.1 ≠ (TX8 b).2.1 := by decide +kernel
theorem tyX8_ok : ∀ k, k < 9 → parseFieldDescriptor (TX8 k).2.2.1 = some (tyX8 k) := by decide +kernel
abbrev cX8_init : ByteArray := prog_10_method_1_code
def yX8_init : MethodName := ⟨RX8, "<init>", "()V"⟩
abbrev cX8_begin : ByteArray := prog_10_method_2_code
def yX8_begin : MethodName := ⟨RX8, "begin", "(LSignedBridge$Plan;)V"⟩
abbrev cX8_copyOf : ByteArray := prog_10_method_3_code
def yX8_copyOf : MethodName := ⟨RX8, "copyOf", "(LSignedBridge$State;)V"⟩
abbrev cX8_lives : ByteArray := prog_10_method_4_code
def yX8_lives : MethodName := ⟨RX8, "lives", "(I)Z"⟩
abbrev cX8_deadBits : ByteArray := prog_10_method_5_code
def yX8_deadBits : MethodName := ⟨RX8, "deadBits", "(LSignedBridge$Plan;)I"⟩
abbrev cX8_countPlanks : ByteArray := prog_10_method_6_code
def yX8_countPlanks : MethodName := ⟨RX8, "countPlanks", "()I"⟩
abbrev cX8_countCrossings : ByteArray := prog_10_method_7_code
def yX8_countCrossings : MethodName := ⟨RX8, "countCrossings", "()I"⟩
abbrev cX8_putPlank : ByteArray := prog_10_method_8_code
def yX8_putPlank : MethodName := ⟨RX8, "putPlank", "(II)I"⟩
abbrev cX8_makeGap : ByteArray := prog_10_method_9_code
def yX8_makeGap : MethodName := ⟨RX8, "makeGap", "(I)V"⟩
abbrev cX8_burnPlank : ByteArray := prog_10_method_10_code
def yX8_burnPlank : MethodName := ⟨RX8, "burnPlank", "(I)I"⟩
abbrev cX8_singe : ByteArray := prog_10_method_11_code
def yX8_singe : MethodName := ⟨RX8, "singe", "(I)V"⟩
abbrev cX8_breakWord : ByteArray := prog_10_method_12_code
def yX8_breakWord : MethodName := ⟨RX8, "breakWord", "(I)I"⟩
abbrev cX8_holdWord : ByteArray := prog_10_method_13_code
def yX8_holdWord : MethodName := ⟨RX8, "holdWord", "(I)I"⟩
abbrev cX8_endLife : ByteArray := prog_10_method_14_code
def yX8_endLife : MethodName := ⟨RX8, "endLife", "(I)I"⟩
abbrev cX8_passDays : ByteArray := prog_10_method_15_code
def yX8_passDays : MethodName := ⟨RX8, "passDays", "(LSignedBridge$Plan;I)I"⟩
abbrev cX8_passDay : ByteArray := prog_10_method_16_code
def yX8_passDay : MethodName := ⟨RX8, "passDay", "(LSignedBridge$Plan;I)Z"⟩
abbrev cX8_handDown : ByteArray := prog_10_method_17_code
def yX8_handDown : MethodName := ⟨RX8, "handDown", "(II)V"⟩
def RX9 : String := "SignedBridge$Tokens"
def TX9 : u_T := fun k => match k with
  | 0 => ("SignedBridge$Tokens", "bytes", "[I", true)
  | 1 => ("SignedBridge$Tokens", "length", "I", false)
  | 2 => ("SignedBridge$Tokens", "most", "I", false)
  | 3 => ("SignedBridge$Tokens", "next", "I", false)
  | 4 => ("SignedBridge$Tokens", "kind", "I", false)
  | 5 => ("SignedBridge$Tokens", "at", "I", false)
  | 6 => ("SignedBridge$Tokens", "value", "I", false)
  | 7 => ("SignedBridge$Tokens", "name", "J", false)
  | 8 => ("SignedBridge$Tokens", "taken", "I", false)
  | 9 => ("SignedBridge$Tokens", "takenName", "J", false)
  | 10 => ("SignedBridge$Tokens", "takenAt", "I", false)
  | 11 => ("SignedBridge$Tokens", "faultKind", "I", false)
  | _ => ("SignedBridge$Tokens", "faultAt", "I", false)
def tyX9 : Nat → FieldType := fun k => match k with
  | 0 => .array .int
  | 1 => .int
  | 2 => .int
  | 3 => .int
  | 4 => .int
  | 5 => .int
  | 6 => .int
  | 7 => .long
  | 8 => .int
  | 9 => .long
  | 10 => .int
  | 11 => .int
  | _ => .int
abbrev wsX90 : List Cond := u_ws RX9 TX9 13
theorem nmX9 : ∀ a, a < 13 → ∀ b, b < 13 → a ≠ b → (TX9 a).2.1 ≠ (TX9 b).2.1 := by decide +kernel
theorem tyX9_ok : ∀ k, k < 13 → parseFieldDescriptor (TX9 k).2.2.1 = some (tyX9 k) := by decide +kernel
abbrev cX9_init : ByteArray := prog_11_method_1_code
def yX9_init : MethodName := ⟨RX9, "<init>", "()V"⟩
abbrev cX9_put : ByteArray := prog_11_method_2_code
def yX9_put : MethodName := ⟨RX9, "put", "(I)V"⟩
abbrev cX9_begin : ByteArray := prog_11_method_3_code
def yX9_begin : MethodName := ⟨RX9, "begin", "(I)V"⟩
abbrev cX9_advance : ByteArray := prog_11_method_4_code
def yX9_advance : MethodName := ⟨RX9, "advance", "()V"⟩
abbrev cX9_readWord : ByteArray := prog_11_method_5_code
def yX9_readWord : MethodName := ⟨RX9, "readWord", "()V"⟩
abbrev cX9_readNumber : ByteArray := prog_11_method_6_code
def yX9_readNumber : MethodName := ⟨RX9, "readNumber", "()V"⟩
abbrev cX9_isLetter : ByteArray := prog_11_method_7_code
def yX9_isLetter : MethodName := ⟨RX9, "isLetter", "(I)Z"⟩
abbrev cX9_isDigit : ByteArray := prog_11_method_8_code
def yX9_isDigit : MethodName := ⟨RX9, "isDigit", "(I)Z"⟩
abbrev cX9_isSign : ByteArray := prog_11_method_9_code
def yX9_isSign : MethodName := ⟨RX9, "isSign", "(I)Z"⟩
abbrev cX9_refuse : ByteArray := prog_11_method_10_code
def yX9_refuse : MethodName := ⟨RX9, "refuse", "(I)Z"⟩
abbrev cX9_refuseAt : ByteArray := prog_11_method_11_code
def yX9_refuseAt : MethodName := ⟨RX9, "refuseAt", "(II)Z"⟩
abbrev cX9_isKey : ByteArray := prog_11_method_12_code
def yX9_isKey : MethodName := ⟨RX9, "isKey", "(I)Z"⟩
abbrev cX9_isSignOf : ByteArray := prog_11_method_13_code
def yX9_isSignOf : MethodName := ⟨RX9, "isSignOf", "(I)Z"⟩
abbrev cX9_takeEnd : ByteArray := prog_11_method_14_code
def yX9_takeEnd : MethodName := ⟨RX9, "takeEnd", "()Z"⟩
abbrev cX9_takeSign : ByteArray := prog_11_method_15_code
def yX9_takeSign : MethodName := ⟨RX9, "takeSign", "(I)Z"⟩
abbrev cX9_takeNumber : ByteArray := prog_11_method_16_code
def yX9_takeNumber : MethodName := ⟨RX9, "takeNumber", "(II)Z"⟩
abbrev cX9_takeSigner : ByteArray := prog_11_method_17_code
def yX9_takeSigner : MethodName := ⟨RX9, "takeSigner", "(LSignedBridge$Plan;)Z"⟩
abbrev cX9_takeNewName : ByteArray := prog_11_method_18_code
def yX9_takeNewName : MethodName := ⟨RX9, "takeNewName", "(LSignedBridge$Plan;)Z"⟩
def RX10 : String := "SignedBridge$Ways"
def TX10 : u_T := fun k => match k with
  | 0 => ("SignedBridge$Ways", "bear", "[I", true)
  | 1 => ("SignedBridge$Ways", "spare", "[I", true)
  | 2 => ("SignedBridge$Ways", "best", "[I", true)
  | _ => ("SignedBridge$Ways", "steps", "[I", true)
def tyX10 : Nat → FieldType := fun k => match k with
  | 0 => .array .int
  | 1 => .array .int
  | 2 => .array .int
  | _ => .array .int
abbrev wsX100 : List Cond := u_ws RX10 TX10 4
theorem nmX10 : ∀ a, a < 4 → ∀ b, b < 4 → a ≠ b → (TX10 a).2.1 ≠ (TX10 b).2.1 := by decide +kernel
theorem tyX10_ok : ∀ k, k < 4 → parseFieldDescriptor (TX10 k).2.2.1 = some (tyX10 k) := by decide +kernel
abbrev cX10_init : ByteArray := prog_12_method_1_code
def yX10_init : MethodName := ⟨RX10, "<init>", "()V"⟩
abbrev cX10_bearing : ByteArray := prog_12_method_2_code
def yX10_bearing : MethodName := ⟨RX10, "bearing", "(LSignedBridge$Plan;LSignedBridge$State;II)I"⟩
abbrev cX10_weighRow : ByteArray := prog_12_method_3_code
def yX10_weighRow : MethodName := ⟨RX10, "weighRow", "(LSignedBridge$Plan;LSignedBridge$State;II)V"⟩
abbrev cX10_weigh : ByteArray := prog_12_method_4_code
def yX10_weigh : MethodName := ⟨RX10, "weigh", "(LSignedBridge$Plan;LSignedBridge$State;)V"⟩
abbrev cX10_bearInAll : ByteArray := prog_12_method_5_code
def yX10_bearInAll : MethodName := ⟨RX10, "bearInAll", "(LSignedBridge$Plan;LSignedBridge$State;)I"⟩
abbrev cX10_bearTogether : ByteArray := prog_12_method_6_code
def yX10_bearTogether : MethodName := ⟨RX10, "bearTogether", "(III)I"⟩
abbrev cX10_possibleSteps : ByteArray := prog_12_method_7_code
def yX10_possibleSteps : MethodName := ⟨RX10, "possibleSteps", "(III)I"⟩
abbrev cX10_lostRow : ByteArray := prog_12_method_8_code
def yX10_lostRow : MethodName := ⟨RX10, "lostRow", "(LSignedBridge$Plan;I)I"⟩
abbrev cX10_hasPath : ByteArray := prog_12_method_9_code
def yX10_hasPath : MethodName := ⟨RX10, "hasPath", "(LSignedBridge$Plan;LSignedBridge$State;I)Z"⟩
abbrev cX10_ableLoads : ByteArray := prog_12_method_10_code
def yX10_ableLoads : MethodName := ⟨RX10, "ableLoads", "(LSignedBridge$Plan;LSignedBridge$State;)I"⟩
abbrev cX10_tryCrossing : ByteArray := prog_12_method_11_code
def yX10_tryCrossing : MethodName := ⟨RX10, "tryCrossing", "(LSignedBridge$Plan;LSignedBridge$State;I)I"⟩
abbrev cX10_dropPlanks : ByteArray := prog_12_method_12_code
def yX10_dropPlanks : MethodName := ⟨RX10, "dropPlanks", "(LSignedBridge$State;II)V"⟩
abbrev cX10_findSafest : ByteArray := prog_12_method_13_code
def yX10_findSafest : MethodName := ⟨RX10, "findSafest", "(LSignedBridge$Plan;LSignedBridge$State;I)I"⟩
abbrev cX10_mostWeight : ByteArray := prog_12_method_14_code
def yX10_mostWeight : MethodName := ⟨RX10, "mostWeight", "(LSignedBridge$Plan;LSignedBridge$State;I)I"⟩
abbrev cX10_spareSteps : ByteArray := prog_12_method_15_code
def yX10_spareSteps : MethodName := ⟨RX10, "spareSteps", "(IIIZ)V"⟩
abbrev cX10_greatestLeast : ByteArray := prog_12_method_16_code
def yX10_greatestLeast : MethodName := ⟨RX10, "greatestLeast", "(I)I"⟩
abbrev cX10_bestOpen : ByteArray := prog_12_method_17_code
def yX10_bestOpen : MethodName := ⟨RX10, "bestOpen", "(II)I"⟩
abbrev cX10_followFirst : ByteArray := prog_12_method_18_code
def yX10_followFirst : MethodName := ⟨RX10, "followFirst", "(II)V"⟩
abbrev cX10_countOnPath : ByteArray := prog_12_method_19_code
def yX10_countOnPath : MethodName := ⟨RX10, "countOnPath", "(LSignedBridge$Plan;LSignedBridge$State;II)I"⟩
def RX11 : String := "SignedBridge"
def TX11 : u_T := fun k => match k with
  | 0 => ("SignedBridge", "tokens", "LSignedBridge$Tokens;", true)
  | 1 => ("SignedBridge", "bridgeText", "LSignedBridge$BridgeText;", true)
  | 2 => ("SignedBridge", "plan", "LSignedBridge$Plan;", true)
  | 3 => ("SignedBridge", "state", "LSignedBridge$State;", true)
  | 4 => ("SignedBridge", "sentence", "LSignedBridge$Sentence;", false)
  | 5 => ("SignedBridge", "sentenceDraft", "LSignedBridge$Sentence;", false)
  | 6 => ("SignedBridge", "book", "LSignedBridge$Book;", true)
  | 7 => ("SignedBridge", "ways", "LSignedBridge$Ways;", true)
  | 8 => ("SignedBridge", "asks", "LSignedBridge$Asks;", true)
  | 9 => ("SignedBridge", "cut", "LSignedBridge$Cut;", true)
  | 10 => ("SignedBridge", "forgers", "LSignedBridge$Forgers;", true)
  | 11 => ("SignedBridge", "forecast", "LSignedBridge$Forecast;", true)
  | 12 => ("SignedBridge", "plate", "Ljava/lang/StringBuilder;", true)
  | 13 => ("SignedBridge", "past", "[LSignedBridge$State;", true)
  | 14 => ("SignedBridge", "pastNext", "I", false)
  | 15 => ("SignedBridge", "pastCount", "I", false)
  | 16 => ("SignedBridge", "imagePlans", "[LSignedBridge$Plan;", true)
  | 17 => ("SignedBridge", "imageStates", "[LSignedBridge$State;", true)
  | 18 => ("SignedBridge", "imageSentences", "[LSignedBridge$Sentence;", true)
  | _ => ("SignedBridge", "imageKept", "[Z", true)
def tyX11 : Nat → FieldType := fun k => match k with
  | 0 => .object "SignedBridge$Tokens"
  | 1 => .object "SignedBridge$BridgeText"
  | 2 => .object "SignedBridge$Plan"
  | 3 => .object "SignedBridge$State"
  | 4 => .object "SignedBridge$Sentence"
  | 5 => .object "SignedBridge$Sentence"
  | 6 => .object "SignedBridge$Book"
  | 7 => .object "SignedBridge$Ways"
  | 8 => .object "SignedBridge$Asks"
  | 9 => .object "SignedBridge$Cut"
  | 10 => .object "SignedBridge$Forgers"
  | 11 => .object "SignedBridge$Forecast"
  | 12 => .object "java/lang/StringBuilder"
  | 13 => .array (.object "SignedBridge$State")
  | 14 => .int
  | 15 => .int
  | 16 => .array (.object "SignedBridge$Plan")
  | 17 => .array (.object "SignedBridge$State")
  | 18 => .array (.object "SignedBridge$Sentence")
  | _ => .array .boolean
abbrev wsX110 : List Cond := u_ws RX11 TX11 20
theorem nmX11 : ∀ a, a < 20 → ∀ b, b < 20 → a ≠ b → (TX11 a).2.1 ≠ (TX11 b).2.1 := by decide +kernel
theorem tyX11_ok : ∀ k, k < 20 → parseFieldDescriptor (TX11 k).2.2.1 = some (tyX11 k) := by decide +kernel
abbrev cX11_init : ByteArray := prog_1_method_1_code
def yX11_init : MethodName := ⟨RX11, "<init>", "()V"⟩
abbrev cX11_feed : ByteArray := prog_1_method_2_code
def yX11_feed : MethodName := ⟨RX11, "feed", "(IIIII)I"⟩
abbrev cX11_end : ByteArray := prog_1_method_3_code
def yX11_end : MethodName := ⟨RX11, "end", "(I)Z"⟩
abbrev cX11_bridge : ByteArray := prog_1_method_4_code
def yX11_bridge : MethodName := ⟨RX11, "bridge", "()I"⟩
abbrev cX11_fault : ByteArray := prog_1_method_5_code
def yX11_fault : MethodName := ⟨RX11, "fault", "()I"⟩
abbrev cX11_signer : ByteArray := prog_1_method_6_code
def yX11_signer : MethodName := ⟨RX11, "signer", "(II)I"⟩
abbrev cX11_plank : ByteArray := prog_1_method_7_code
def yX11_plank : MethodName := ⟨RX11, "plank", "(III)I"⟩
abbrev cX11_load : ByteArray := prog_1_method_8_code
def yX11_load : MethodName := ⟨RX11, "load", "(II)I"⟩
abbrev cX11_now : ByteArray := prog_1_method_9_code
def yX11_now : MethodName := ⟨RX11, "now", "(I)I"⟩
abbrev cX11_sign : ByteArray := prog_1_method_10_code
def yX11_sign : MethodName := ⟨RX11, "sign", "(III)I"⟩
abbrev cX11_burn : ByteArray := prog_1_method_11_code
def yX11_burn : MethodName := ⟨RX11, "burn", "(II)I"⟩
abbrev cX11_breaks : ByteArray := prog_1_method_12_code
def yX11_breaks : MethodName := ⟨RX11, "breaks", "(I)I"⟩
abbrev cX11_holds : ByteArray := prog_1_method_13_code
def yX11_holds : MethodName := ⟨RX11, "holds", "(I)I"⟩
abbrev cX11_die : ByteArray := prog_1_method_14_code
def yX11_die : MethodName := ⟨RX11, "die", "(I)I"⟩
abbrev cX11_cross : ByteArray := prog_1_method_15_code
def yX11_cross : MethodName := ⟨RX11, "cross", "(I)I"⟩
abbrev cX11_days : ByteArray := prog_1_method_16_code
def yX11_days : MethodName := ⟨RX11, "days", "(I)I"⟩
abbrev cX11_undo : ByteArray := prog_1_method_17_code
def yX11_undo : MethodName := ⟨RX11, "undo", "()I"⟩
abbrev cX11_spare : ByteArray := prog_1_method_18_code
def yX11_spare : MethodName := ⟨RX11, "spare", "(I)I"⟩
abbrev cX11_path : ByteArray := prog_1_method_19_code
def yX11_path : MethodName := ⟨RX11, "path", "(II)I"⟩
abbrev cX11_limit : ByteArray := prog_1_method_20_code
def yX11_limit : MethodName := ⟨RX11, "limit", "(I)I"⟩
abbrev cX11_asks : ByteArray := prog_1_method_21_code
def yX11_asks : MethodName := ⟨RX11, "asks", "(I)I"⟩
abbrev cX11_asked : ByteArray := prog_1_method_22_code
def yX11_asked : MethodName := ⟨RX11, "asked", "(II)I"⟩
abbrev cX11_keystone : ByteArray := prog_1_method_23_code
def yX11_keystone : MethodName := ⟨RX11, "keystone", "()I"⟩
abbrev cX11_able : ByteArray := prog_1_method_24_code
def yX11_able : MethodName := ⟨RX11, "able", "()I"⟩
abbrev cX11_cut : ByteArray := prog_1_method_25_code
def yX11_cut : MethodName := ⟨RX11, "cut", "(I)I"⟩
abbrev cX11_cutAt : ByteArray := prog_1_method_26_code
def yX11_cutAt : MethodName := ⟨RX11, "cutAt", "(I)I"⟩
abbrev cX11_order : ByteArray := prog_1_method_27_code
def yX11_order : MethodName := ⟨RX11, "order", "()I"⟩
abbrev cX11_orderAt : ByteArray := prog_1_method_28_code
def yX11_orderAt : MethodName := ⟨RX11, "orderAt", "(I)I"⟩
abbrev cX11_forgers : ByteArray := prog_1_method_29_code
def yX11_forgers : MethodName := ⟨RX11, "forgers", "()I"⟩
abbrev cX11_surely : ByteArray := prog_1_method_30_code
def yX11_surely : MethodName := ⟨RX11, "surely", "()I"⟩
abbrev cX11_tells : ByteArray := prog_1_method_31_code
def yX11_tells : MethodName := ⟨RX11, "tells", "()I"⟩
abbrev cX11_law : ByteArray := prog_1_method_32_code
def yX11_law : MethodName := ⟨RX11, "law", "(II)I"⟩
abbrev cX11_lasts : ByteArray := prog_1_method_33_code
def yX11_lasts : MethodName := ⟨RX11, "lasts", "(I)I"⟩
abbrev cX11_toll : ByteArray := prog_1_method_34_code
def yX11_toll : MethodName := ⟨RX11, "toll", "(II)I"⟩
abbrev cX11_plate : ByteArray := prog_1_method_35_code
def yX11_plate : MethodName := ⟨RX11, "plate", "(I)I"⟩
abbrev cX11_byteAt : ByteArray := prog_1_method_36_code
def yX11_byteAt : MethodName := ⟨RX11, "byteAt", "(I)I"⟩
abbrev cX11_drawn : ByteArray := prog_1_method_37_code
def yX11_drawn : MethodName := ⟨RX11, "drawn", "(II)I"⟩
abbrev cX11_odds : ByteArray := prog_1_method_38_code
def yX11_odds : MethodName := ⟨RX11, "odds", "(III)I"⟩
abbrev cX11_book : ByteArray := prog_1_method_39_code
def yX11_book : MethodName := ⟨RX11, "book", "(I)I"⟩
abbrev cX11_told : ByteArray := prog_1_method_40_code
def yX11_told : MethodName := ⟨RX11, "told", "(I)I"⟩
abbrev cX11_sentence : ByteArray := prog_1_method_41_code
def yX11_sentence : MethodName := ⟨RX11, "sentence", "()I"⟩
abbrev cX11_said : ByteArray := prog_1_method_42_code
def yX11_said : MethodName := ⟨RX11, "said", "(I)I"⟩
abbrev cX11_image : ByteArray := prog_1_method_43_code
def yX11_image : MethodName := ⟨RX11, "image", "(I)Z"⟩
abbrev cX11_restore : ByteArray := prog_1_method_44_code
def yX11_restore : MethodName := ⟨RX11, "restore", "(I)Z"⟩
abbrev cX11_count : ByteArray := prog_1_method_45_code
def yX11_count : MethodName := ⟨RX11, "count", "(I)I"⟩
abbrev cX11_isSigner : ByteArray := prog_1_method_46_code
def yX11_isSigner : MethodName := ⟨RX11, "isSigner", "(I)Z"⟩
abbrev cX11_isLoad : ByteArray := prog_1_method_47_code
def yX11_isLoad : MethodName := ⟨RX11, "isLoad", "(I)Z"⟩
abbrev cX11_isRow : ByteArray := prog_1_method_48_code
def yX11_isRow : MethodName := ⟨RX11, "isRow", "(I)Z"⟩
abbrev cX11_isPlace : ByteArray := prog_1_method_49_code
def yX11_isPlace : MethodName := ⟨RX11, "isPlace", "(II)Z"⟩
abbrev cX11_writeName : ByteArray := prog_1_method_50_code
def yX11_writeName : MethodName := ⟨RX11, "writeName", "(J)V"⟩
abbrev cX11_rememberState : ByteArray := prog_1_method_51_code
def yX11_rememberState : MethodName := ⟨RX11, "rememberState", "()V"⟩
abbrev cX11_keepRemembered : ByteArray := prog_1_method_52_code
def yX11_keepRemembered : MethodName := ⟨RX11, "keepRemembered", "()V"⟩
abbrev cX11_keepIfDone : ByteArray := prog_1_method_53_code
def yX11_keepIfDone : MethodName := ⟨RX11, "keepIfDone", "(I)I"⟩
def RX12 : String := "SignedBridgeModel"
def TX12 : u_T := fun k => match k with
  | 0 => ("SignedBridgeModel", "thrown", "I", false)
  | 1 => ("SignedBridgeModel", "tape", "[I", true)
  | 2 => ("SignedBridgeModel", "taped", "I", false)
  | 3 => ("SignedBridgeModel", "size", "I", false)
  | 4 => ("SignedBridgeModel", "limit", "I", false)
  | 5 => ("SignedBridgeModel", "to", "I", false)
  | 6 => ("SignedBridgeModel", "from", "I", false)
  | 7 => ("SignedBridgeModel", "kind", "I", false)
  | 8 => ("SignedBridgeModel", "number", "I", false)
  | 9 => ("SignedBridgeModel", "sign", "I", false)
  | 10 => ("SignedBridgeModel", "fault", "I", false)
  | 11 => ("SignedBridgeModel", "place", "I", false)
  | 12 => ("SignedBridgeModel", "word", "J", false)
  | 13 => ("SignedBridgeModel", "told", "I", false)
  | 14 => ("SignedBridgeModel", "now", "[I", true)
  | 15 => ("SignedBridgeModel", "read", "[I", true)
  | 16 => ("SignedBridgeModel", "kept", "[I", true)
  | 17 => ("SignedBridgeModel", "snaps", "[I", true)
  | 18 => ("SignedBridgeModel", "aside", "[I", true)
  | 19 => ("SignedBridgeModel", "name", "[J", true)
  | 20 => ("SignedBridgeModel", "readName", "[J", true)
  | 21 => ("SignedBridgeModel", "keptName", "[J", true)
  | 22 => ("SignedBridgeModel", "isKept", "[Z", true)
  | 23 => ("SignedBridgeModel", "snapMany", "I", false)
  | 24 => ("SignedBridgeModel", "hasRows", "Z", false)
  | 25 => ("SignedBridgeModel", "hasKeeps", "Z", false)
  | 26 => ("SignedBridgeModel", "hasPlank", "Z", false)
  | 27 => ("SignedBridgeModel", "whose", "[I", true)
  | 28 => ("SignedBridgeModel", "forging", "I", false)
  | 29 => ("SignedBridgeModel", "best", "[I", true)
  | 30 => ("SignedBridgeModel", "path", "[I", true)
  | 31 => ("SignedBridgeModel", "price", "[I", true)
  | 32 => ("SignedBridgeModel", "signs", "[I", true)
  | 33 => ("SignedBridgeModel", "asked", "[I", true)
  | 34 => ("SignedBridgeModel", "trying", "[I", true)
  | 35 => ("SignedBridgeModel", "askedRows", "I", false)
  | 36 => ("SignedBridgeModel", "cheapest", "I", false)
  | 37 => ("SignedBridgeModel", "cutting", "[I", true)
  | 38 => ("SignedBridgeModel", "cutAt", "[I", true)
  | 39 => ("SignedBridgeModel", "cuts", "I", false)
  | 40 => ("SignedBridgeModel", "order", "[I", true)
  | 41 => ("SignedBridgeModel", "ordered", "[I", true)
  | 42 => ("SignedBridgeModel", "held", "[I", true)
  | 43 => ("SignedBridgeModel", "orderMany", "I", false)
  | 44 => ("SignedBridgeModel", "crossMost", "I", false)
  | 45 => ("SignedBridgeModel", "passes", "[I", true)
  | 46 => ("SignedBridgeModel", "surely", "I", false)
  | 47 => ("SignedBridgeModel", "tells", "I", false)
  | 48 => ("SignedBridgeModel", "text", "[I", true)
  | 49 => ("SignedBridgeModel", "texts", "I", false)
  | 50 => ("SignedBridgeModel", "seed", "I", false)
  | 51 => ("SignedBridgeModel", "line", "[I", true)
  | 52 => ("SignedBridgeModel", "written", "[I", true)
  | 53 => ("SignedBridgeModel", "lineMany", "I", false)
  | 54 => ("SignedBridgeModel", "hasWritten", "Z", false)
  | 55 => ("SignedBridgeModel", "node", "[I", true)
  | 56 => ("SignedBridgeModel", "nodes", "I", false)
  | 57 => ("SignedBridgeModel", "onesMany", "I", false)
  | 58 => ("SignedBridgeModel", "within", "I", false)
  | _ => ("SignedBridgeModel", "top", "I", false)
def tyX12 : Nat → FieldType := fun k => match k with
  | 0 => .int
  | 1 => .array .int
  | 2 => .int
  | 3 => .int
  | 4 => .int
  | 5 => .int
  | 6 => .int
  | 7 => .int
  | 8 => .int
  | 9 => .int
  | 10 => .int
  | 11 => .int
  | 12 => .long
  | 13 => .int
  | 14 => .array .int
  | 15 => .array .int
  | 16 => .array .int
  | 17 => .array .int
  | 18 => .array .int
  | 19 => .array .long
  | 20 => .array .long
  | 21 => .array .long
  | 22 => .array .boolean
  | 23 => .int
  | 24 => .boolean
  | 25 => .boolean
  | 26 => .boolean
  | 27 => .array .int
  | 28 => .int
  | 29 => .array .int
  | 30 => .array .int
  | 31 => .array .int
  | 32 => .array .int
  | 33 => .array .int
  | 34 => .array .int
  | 35 => .int
  | 36 => .int
  | 37 => .array .int
  | 38 => .array .int
  | 39 => .int
  | 40 => .array .int
  | 41 => .array .int
  | 42 => .array .int
  | 43 => .int
  | 44 => .int
  | 45 => .array .int
  | 46 => .int
  | 47 => .int
  | 48 => .array .int
  | 49 => .int
  | 50 => .int
  | 51 => .array .int
  | 52 => .array .int
  | 53 => .int
  | 54 => .boolean
  | 55 => .array .int
  | 56 => .int
  | 57 => .int
  | 58 => .int
  | _ => .int
abbrev wsX120 : List Cond := u_ws RX12 TX12 60
theorem nmX12 : ∀ a, a < 60 → ∀ b, b < 60 → a ≠ b → (TX12 a).2.1 ≠ (TX12 b).2.1 := by decide +kernel
theorem tyX12_ok : ∀ k, k < 60 → parseFieldDescriptor (TX12 k).2.2.1 = some (tyX12 k) := by decide +kernel
abbrev cX12_thrown : ByteArray := prog_14_method_1_code
def yX12_thrown : MethodName := ⟨RX12, "thrown", "()I"⟩
abbrev cX12_refuse : ByteArray := prog_14_method_2_code
def yX12_refuse : MethodName := ⟨RX12, "refuse", "()I"⟩
abbrev cX12_come : ByteArray := prog_14_method_3_code
def yX12_come : MethodName := ⟨RX12, "come", "(I)V"⟩
abbrev cX12_feed : ByteArray := prog_14_method_4_code
def yX12_feed : MethodName := ⟨RX12, "feed", "(IIIII)I"⟩
abbrev cX12_end : ByteArray := prog_14_method_5_code
def yX12_end : MethodName := ⟨RX12, "end", "(I)Z"⟩
abbrev cX12_take : ByteArray := prog_14_method_6_code
def yX12_take : MethodName := ⟨RX12, "take", "()I"⟩
abbrev cX12_isIn : ByteArray := prog_14_method_7_code
def yX12_isIn : MethodName := ⟨RX12, "isIn", "(III)Z"⟩
abbrev cX12_has : ByteArray := prog_14_method_8_code
def yX12_has : MethodName := ⟨RX12, "has", "(II)Z"⟩
abbrev cX12_bits : ByteArray := prog_14_method_9_code
def yX12_bits : MethodName := ⟨RX12, "bits", "(I)I"⟩
abbrev cX12_least : ByteArray := prog_14_method_10_code
def yX12_least : MethodName := ⟨RX12, "least", "(II)I"⟩
abbrev cX12_size : ByteArray := prog_14_method_11_code
def yX12_size : MethodName := ⟨RX12, "size", "(I)I"⟩
abbrev cX12_tapeAt : ByteArray := prog_14_method_13_code
def yX12_tapeAt : MethodName := ⟨RX12, "tapeAt", "(I)I"⟩
abbrev cX12_isDigit : ByteArray := prog_14_method_14_code
def yX12_isDigit : MethodName := ⟨RX12, "isDigit", "(I)Z"⟩
abbrev cX12_isLetter : ByteArray := prog_14_method_15_code
def yX12_isLetter : MethodName := ⟨RX12, "isLetter", "(I)Z"⟩
abbrev cX12_go : ByteArray := prog_14_method_16_code
def yX12_go : MethodName := ⟨RX12, "go", "()V"⟩
abbrev cX12_spelt : ByteArray := prog_14_method_17_code
def yX12_spelt : MethodName := ⟨RX12, "spelt", "(IIIIIII)J"⟩
abbrev cX12_wordOf : ByteArray := prog_14_method_18_code
def yX12_wordOf : MethodName := ⟨RX12, "wordOf", "(I)J"⟩
abbrev cX12_isWord : ByteArray := prog_14_method_19_code
def yX12_isWord : MethodName := ⟨RX12, "isWord", "(I)Z"⟩
abbrev cX12_isSign : ByteArray := prog_14_method_20_code
def yX12_isSign : MethodName := ⟨RX12, "isSign", "(I)Z"⟩
abbrev cX12_isName : ByteArray := prog_14_method_21_code
def yX12_isName : MethodName := ⟨RX12, "isName", "()Z"⟩
abbrev cX12_bad : ByteArray := prog_14_method_22_code
def yX12_bad : MethodName := ⟨RX12, "bad", "(I)Z"⟩
abbrev cX12_readNumber : ByteArray := prog_14_method_23_code
def yX12_readNumber : MethodName := ⟨RX12, "readNumber", "(II)Z"⟩
abbrev cX12_readEnd : ByteArray := prog_14_method_24_code
def yX12_readEnd : MethodName := ⟨RX12, "readEnd", "()Z"⟩
abbrev cX12_begin : ByteArray := prog_14_method_25_code
def yX12_begin : MethodName := ⟨RX12, "begin", "(I)V"⟩
abbrev cX12_init : ByteArray := prog_14_method_26_code
def yX12_init : MethodName := ⟨RX12, "<init>", "()V"⟩
abbrev cX12_startRead : ByteArray := prog_14_method_27_code
def yX12_startRead : MethodName := ⟨RX12, "startRead", "()V"⟩
abbrev cX12_startSo : ByteArray := prog_14_method_28_code
def yX12_startSo : MethodName := ⟨RX12, "startSo", "()V"⟩
abbrev cX12_findIn : ByteArray := prog_14_method_29_code
def yX12_findIn : MethodName := ⟨RX12, "findIn", "([JIIJ)I"⟩
abbrev cX12_readNew : ByteArray := prog_14_method_30_code
def yX12_readNew : MethodName := ⟨RX12, "readNew", "(I)Z"⟩
abbrev cX12_isSignerTold : ByteArray := prog_14_method_31_code
def yX12_isSignerTold : MethodName := ⟨RX12, "isSignerTold", "()Z"⟩
abbrev cX12_readFirst : ByteArray := prog_14_method_32_code
def yX12_readFirst : MethodName := ⟨RX12, "readFirst", "(II)Z"⟩
abbrev cX12_put : ByteArray := prog_14_method_33_code
def yX12_put : MethodName := ⟨RX12, "put", "(IZ)Z"⟩
abbrev cX12_readRows : ByteArray := prog_14_method_34_code
def yX12_readRows : MethodName := ⟨RX12, "readRows", "()Z"⟩
abbrev cX12_readSigner : ByteArray := prog_14_method_35_code
def yX12_readSigner : MethodName := ⟨RX12, "readSigner", "()Z"⟩
abbrev cX12_readHeir : ByteArray := prog_14_method_36_code
def yX12_readHeir : MethodName := ⟨RX12, "readHeir", "()Z"⟩
abbrev cX12_readLovers : ByteArray := prog_14_method_37_code
def yX12_readLovers : MethodName := ⟨RX12, "readLovers", "()Z"⟩
abbrev cX12_readPlank : ByteArray := prog_14_method_38_code
def yX12_readPlank : MethodName := ⟨RX12, "readPlank", "()Z"⟩
abbrev cX12_readLoad : ByteArray := prog_14_method_39_code
def yX12_readLoad : MethodName := ⟨RX12, "readLoad", "()Z"⟩
abbrev cX12_readLine : ByteArray := prog_14_method_40_code
def yX12_readLine : MethodName := ⟨RX12, "readLine", "()Z"⟩
abbrev cX12_bridge : ByteArray := prog_14_method_41_code
def yX12_bridge : MethodName := ⟨RX12, "bridge", "()I"⟩
abbrev cX12_fault : ByteArray := prog_14_method_42_code
def yX12_fault : MethodName := ⟨RX12, "fault", "()I"⟩
abbrev cX12_isSigner : ByteArray := prog_14_method_43_code
def yX12_isSigner : MethodName := ⟨RX12, "isSigner", "(I)Z"⟩
abbrev cX12_isLoad : ByteArray := prog_14_method_44_code
def yX12_isLoad : MethodName := ⟨RX12, "isLoad", "(I)Z"⟩
abbrev cX12_isRow : ByteArray := prog_14_method_45_code
def yX12_isRow : MethodName := ⟨RX12, "isRow", "(I)Z"⟩
abbrev cX12_isPlace : ByteArray := prog_14_method_46_code
def yX12_isPlace : MethodName := ⟨RX12, "isPlace", "(II)Z"⟩
abbrev cX12_isDead : ByteArray := prog_14_method_47_code
def yX12_isDead : MethodName := ⟨RX12, "isDead", "(I)Z"⟩
abbrev cX12_places : ByteArray := prog_14_method_48_code
def yX12_places : MethodName := ⟨RX12, "places", "()I"⟩
abbrev cX12_planksOf : ByteArray := prog_14_method_49_code
def yX12_planksOf : MethodName := ⟨RX12, "planksOf", "(I)I"⟩
abbrev cX12_layWhose : ByteArray := prog_14_method_50_code
def yX12_layWhose : MethodName := ⟨RX12, "layWhose", "()V"⟩
abbrev cX12_besides : ByteArray := prog_14_method_51_code
def yX12_besides : MethodName := ⟨RX12, "besides", "(II)I"⟩
abbrev cX12_bearsAt : ByteArray := prog_14_method_52_code
def yX12_bearsAt : MethodName := ⟨RX12, "bearsAt", "(I)I"⟩
abbrev cX12_sumAt : ByteArray := prog_14_method_53_code
def yX12_sumAt : MethodName := ⟨RX12, "sumAt", "(III)I"⟩
abbrev cX12_signer : ByteArray := prog_14_method_54_code
def yX12_signer : MethodName := ⟨RX12, "signer", "(II)I"⟩
abbrev cX12_plank : ByteArray := prog_14_method_55_code
def yX12_plank : MethodName := ⟨RX12, "plank", "(III)I"⟩
abbrev cX12_load : ByteArray := prog_14_method_56_code
def yX12_load : MethodName := ⟨RX12, "load", "(II)I"⟩
abbrev cX12_now : ByteArray := prog_14_method_57_code
def yX12_now : MethodName := ⟨RX12, "now", "(I)I"⟩
abbrev cX12_spareAt : ByteArray := prog_14_method_58_code
def yX12_spareAt : MethodName := ⟨RX12, "spareAt", "(IIII)I"⟩
abbrev cX12_follows : ByteArray := prog_14_method_59_code
def yX12_follows : MethodName := ⟨RX12, "follows", "(II)Z"⟩
abbrev cX12_layBest : ByteArray := prog_14_method_60_code
def yX12_layBest : MethodName := ⟨RX12, "layBest", "(II)V"⟩
abbrev cX12_bestOf : ByteArray := prog_14_method_61_code
def yX12_bestOf : MethodName := ⟨RX12, "bestOf", "(I)I"⟩
abbrev cX12_hasPath : ByteArray := prog_14_method_62_code
def yX12_hasPath : MethodName := ⟨RX12, "hasPath", "(I)Z"⟩
abbrev cX12_layPath : ByteArray := prog_14_method_63_code
def yX12_layPath : MethodName := ⟨RX12, "layPath", "(I)Z"⟩
abbrev cX12_spare : ByteArray := prog_14_method_64_code
def yX12_spare : MethodName := ⟨RX12, "spare", "(I)I"⟩
abbrev cX12_path : ByteArray := prog_14_method_65_code
def yX12_path : MethodName := ⟨RX12, "path", "(II)I"⟩
abbrev cX12_toll : ByteArray := prog_14_method_66_code
def yX12_toll : MethodName := ⟨RX12, "toll", "(II)I"⟩
abbrev cX12_limit : ByteArray := prog_14_method_67_code
def yX12_limit : MethodName := ⟨RX12, "limit", "(I)I"⟩
abbrev cX12_snap : ByteArray := prog_14_method_68_code
def yX12_snap : MethodName := ⟨RX12, "snap", "()V"⟩
abbrev cX12_open : ByteArray := prog_14_method_69_code
def yX12_open : MethodName := ⟨RX12, "open", "(I)V"⟩
abbrev cX12_singe : ByteArray := prog_14_method_70_code
def yX12_singe : MethodName := ⟨RX12, "singe", "(I)V"⟩
abbrev cX12_whySign : ByteArray := prog_14_method_71_code
def yX12_whySign : MethodName := ⟨RX12, "whySign", "(II)I"⟩
abbrev cX12_doSign : ByteArray := prog_14_method_72_code
def yX12_doSign : MethodName := ⟨RX12, "doSign", "(II)V"⟩
abbrev cX12_doBurn : ByteArray := prog_14_method_73_code
def yX12_doBurn : MethodName := ⟨RX12, "doBurn", "(I)V"⟩
abbrev cX12_whyHold : ByteArray := prog_14_method_74_code
def yX12_whyHold : MethodName := ⟨RX12, "whyHold", "(I)I"⟩
abbrev cX12_doDie : ByteArray := prog_14_method_75_code
def yX12_doDie : MethodName := ⟨RX12, "doDie", "(I)V"⟩
abbrev cX12_stuckAt : ByteArray := prog_14_method_76_code
def yX12_stuckAt : MethodName := ⟨RX12, "stuckAt", "(I)I"⟩
abbrev cX12_doFall : ByteArray := prog_14_method_77_code
def yX12_doFall : MethodName := ⟨RX12, "doFall", "(I)V"⟩
abbrev cX12_doCross : ByteArray := prog_14_method_78_code
def yX12_doCross : MethodName := ⟨RX12, "doCross", "(I)I"⟩
abbrev cX12_sign : ByteArray := prog_14_method_79_code
def yX12_sign : MethodName := ⟨RX12, "sign", "(III)I"⟩
abbrev cX12_burn : ByteArray := prog_14_method_80_code
def yX12_burn : MethodName := ⟨RX12, "burn", "(II)I"⟩
abbrev cX12_breaks : ByteArray := prog_14_method_81_code
def yX12_breaks : MethodName := ⟨RX12, "breaks", "(I)I"⟩
abbrev cX12_holds : ByteArray := prog_14_method_82_code
def yX12_holds : MethodName := ⟨RX12, "holds", "(I)I"⟩
abbrev cX12_die : ByteArray := prog_14_method_83_code
def yX12_die : MethodName := ⟨RX12, "die", "(I)I"⟩
abbrev cX12_cross : ByteArray := prog_14_method_84_code
def yX12_cross : MethodName := ⟨RX12, "cross", "(I)I"⟩
abbrev cX12_undo : ByteArray := prog_14_method_85_code
def yX12_undo : MethodName := ⟨RX12, "undo", "()I"⟩
abbrev cX12_inherit : ByteArray := prog_14_method_86_code
def yX12_inherit : MethodName := ⟨RX12, "inherit", "(I)V"⟩
abbrev cX12_oneDay : ByteArray := prog_14_method_87_code
def yX12_oneDay : MethodName := ⟨RX12, "oneDay", "()V"⟩
abbrev cX12_passDays : ByteArray := prog_14_method_88_code
def yX12_passDays : MethodName := ⟨RX12, "passDays", "(I)I"⟩
abbrev cX12_days : ByteArray := prog_14_method_89_code
def yX12_days : MethodName := ⟨RX12, "days", "(I)I"⟩
abbrev cX12_trySigns : ByteArray := prog_14_method_90_code
def yX12_trySigns : MethodName := ⟨RX12, "trySigns", "(IIIII)V"⟩
abbrev cX12_priceAt : ByteArray := prog_14_method_91_code
def yX12_priceAt : MethodName := ⟨RX12, "priceAt", "(III)I"⟩
abbrev cX12_asks : ByteArray := prog_14_method_92_code
def yX12_asks : MethodName := ⟨RX12, "asks", "(I)I"⟩
abbrev cX12_asked : ByteArray := prog_14_method_93_code
def yX12_asked : MethodName := ⟨RX12, "asked", "(II)I"⟩
abbrev cX12_pathsNow : ByteArray := prog_14_method_94_code
def yX12_pathsNow : MethodName := ⟨RX12, "pathsNow", "()I"⟩
abbrev cX12_able : ByteArray := prog_14_method_95_code
def yX12_able : MethodName := ⟨RX12, "able", "()I"⟩
abbrev cX12_keystone : ByteArray := prog_14_method_96_code
def yX12_keystone : MethodName := ⟨RX12, "keystone", "()I"⟩
abbrev cX12_canCut : ByteArray := prog_14_method_97_code
def yX12_canCut : MethodName := ⟨RX12, "canCut", "(IIII)Z"⟩
abbrev cX12_cut : ByteArray := prog_14_method_98_code
def yX12_cut : MethodName := ⟨RX12, "cut", "(I)I"⟩
abbrev cX12_cutAt : ByteArray := prog_14_method_99_code
def yX12_cutAt : MethodName := ⟨RX12, "cutAt", "(I)I"⟩
abbrev cX12_orderFrom : ByteArray := prog_14_method_100_code
def yX12_orderFrom : MethodName := ⟨RX12, "orderFrom", "(IIII)V"⟩
abbrev cX12_order : ByteArray := prog_14_method_101_code
def yX12_order : MethodName := ⟨RX12, "order", "()I"⟩
abbrev cX12_orderAt : ByteArray := prog_14_method_102_code
def yX12_orderAt : MethodName := ⟨RX12, "orderAt", "(I)I"⟩
abbrev cX12_loadsOver : ByteArray := prog_14_method_103_code
def yX12_loadsOver : MethodName := ⟨RX12, "loadsOver", "()I"⟩
abbrev cX12_forgers : ByteArray := prog_14_method_104_code
def yX12_forgers : MethodName := ⟨RX12, "forgers", "()I"⟩
abbrev cX12_surely : ByteArray := prog_14_method_105_code
def yX12_surely : MethodName := ⟨RX12, "surely", "()I"⟩
abbrev cX12_tells : ByteArray := prog_14_method_106_code
def yX12_tells : MethodName := ⟨RX12, "tells", "()I"⟩
abbrev cX12_layAside : ByteArray := prog_14_method_107_code
def yX12_layAside : MethodName := ⟨RX12, "layAside", "()V"⟩
abbrev cX12_takeBack : ByteArray := prog_14_method_108_code
def yX12_takeBack : MethodName := ⟨RX12, "takeBack", "()V"⟩
abbrev cX12_goesOn : ByteArray := prog_14_method_109_code
def yX12_goesOn : MethodName := ⟨RX12, "goesOn", "(II)I"⟩
abbrev cX12_law : ByteArray := prog_14_method_110_code
def yX12_law : MethodName := ⟨RX12, "law", "(II)I"⟩
abbrev cX12_lasts : ByteArray := prog_14_method_111_code
def yX12_lasts : MethodName := ⟨RX12, "lasts", "(I)I"⟩
abbrev cX12_write : ByteArray := prog_14_method_112_code
def yX12_write : MethodName := ⟨RX12, "write", "(I)V"⟩
abbrev cX12_writeWord : ByteArray := prog_14_method_113_code
def yX12_writeWord : MethodName := ⟨RX12, "writeWord", "(J)V"⟩
abbrev cX12_plate : ByteArray := prog_14_method_114_code
def yX12_plate : MethodName := ⟨RX12, "plate", "(I)I"⟩
abbrev cX12_byteAt : ByteArray := prog_14_method_115_code
def yX12_byteAt : MethodName := ⟨RX12, "byteAt", "(I)I"⟩
abbrev cX12_draw : ByteArray := prog_14_method_116_code
def yX12_draw : MethodName := ⟨RX12, "draw", "(I)I"⟩
abbrev cX12_drawFor : ByteArray := prog_14_method_117_code
def yX12_drawFor : MethodName := ⟨RX12, "drawFor", "(I)V"⟩
abbrev cX12_drawDays : ByteArray := prog_14_method_118_code
def yX12_drawDays : MethodName := ⟨RX12, "drawDays", "(II)I"⟩
abbrev cX12_drawn : ByteArray := prog_14_method_119_code
def yX12_drawn : MethodName := ⟨RX12, "drawn", "(II)I"⟩
abbrev cX12_odds : ByteArray := prog_14_method_120_code
def yX12_odds : MethodName := ⟨RX12, "odds", "(III)I"⟩
abbrev cX12_readSet : ByteArray := prog_14_method_121_code
def yX12_readSet : MethodName := ⟨RX12, "readSet", "(III)Z"⟩
abbrev cX12_readPlace : ByteArray := prog_14_method_122_code
def yX12_readPlace : MethodName := ⟨RX12, "readPlace", "(I)Z"⟩
abbrev cX12_readSignerDoes : ByteArray := prog_14_method_123_code
def yX12_readSignerDoes : MethodName := ⟨RX12, "readSignerDoes", "(II)Z"⟩
abbrev cX12_readDoes : ByteArray := prog_14_method_124_code
def yX12_readDoes : MethodName := ⟨RX12, "readDoes", "(I)Z"⟩
abbrev cX12_readBookLine : ByteArray := prog_14_method_125_code
def yX12_readBookLine : MethodName := ⟨RX12, "readBookLine", "()Z"⟩
abbrev cX12_whyLine : ByteArray := prog_14_method_126_code
def yX12_whyLine : MethodName := ⟨RX12, "whyLine", "(I)I"⟩
abbrev cX12_live : ByteArray := prog_14_method_127_code
def yX12_live : MethodName := ⟨RX12, "live", "(I)V"⟩
abbrev cX12_book : ByteArray := prog_14_method_128_code
def yX12_book : MethodName := ⟨RX12, "book", "(I)I"⟩
abbrev cX12_stay : ByteArray := prog_14_method_129_code
def yX12_stay : MethodName := ⟨RX12, "stay", "(Z)V"⟩
abbrev cX12_told : ByteArray := prog_14_method_130_code
def yX12_told : MethodName := ⟨RX12, "told", "(I)I"⟩
abbrev cX12_isOn : ByteArray := prog_14_method_131_code
def yX12_isOn : MethodName := ⟨RX12, "isOn", "(II)Z"⟩
abbrev cX12_readWhom : ByteArray := prog_14_method_132_code
def yX12_readWhom : MethodName := ⟨RX12, "readWhom", "(I)Z"⟩
abbrev cX12_saysOne : ByteArray := prog_14_method_133_code
def yX12_saysOne : MethodName := ⟨RX12, "saysOne", "(IIII)I"⟩
abbrev cX12_readOr : ByteArray := prog_14_method_134_code
def yX12_readOr : MethodName := ⟨RX12, "readOr", "()Z"⟩
abbrev cX12_readAnd : ByteArray := prog_14_method_135_code
def yX12_readAnd : MethodName := ⟨RX12, "readAnd", "()Z"⟩
abbrev cX12_readSaid : ByteArray := prog_14_method_136_code
def yX12_readSaid : MethodName := ⟨RX12, "readSaid", "()Z"⟩
abbrev cX12_readNot : ByteArray := prog_14_method_137_code
def yX12_readNot : MethodName := ⟨RX12, "readNot", "()Z"⟩
abbrev cX12_readBracket : ByteArray := prog_14_method_138_code
def yX12_readBracket : MethodName := ⟨RX12, "readBracket", "()Z"⟩
abbrev cX12_readOf : ByteArray := prog_14_method_139_code
def yX12_readOf : MethodName := ⟨RX12, "readOf", "(I)Z"⟩
abbrev cX12_readCompare : ByteArray := prog_14_method_140_code
def yX12_readCompare : MethodName := ⟨RX12, "readCompare", "(I)Z"⟩
abbrev cX12_sentence : ByteArray := prog_14_method_141_code
def yX12_sentence : MethodName := ⟨RX12, "sentence", "()I"⟩
abbrev cX12_holds_ : ByteArray := prog_14_method_142_code
def yX12_holds_ : MethodName := ⟨RX12, "holds", "(II)Z"⟩
abbrev cX12_said : ByteArray := prog_14_method_143_code
def yX12_said : MethodName := ⟨RX12, "said", "(I)I"⟩
abbrev cX12_image : ByteArray := prog_14_method_144_code
def yX12_image : MethodName := ⟨RX12, "image", "(I)Z"⟩
abbrev cX12_restore : ByteArray := prog_14_method_145_code
def yX12_restore : MethodName := ⟨RX12, "restore", "(I)Z"⟩
abbrev cX12_count : ByteArray := prog_14_method_146_code
def yX12_count : MethodName := ⟨RX12, "count", "(I)I"⟩
def RJx145de : String := "java/io/Serializable"
def TJx145de : u_T := fun k => match k with
  | _ => ("", "", "", false)
def tyJx145de : Nat → FieldType := fun k => match k with
  | _ => .int
abbrev wsJx145de0 : List Cond := u_ws RJx145de TJx145de 0
theorem nmJx145de : ∀ a, a < 0 → ∀ b, b < 0 → a ≠ b → (TJx145de a).2.1 ≠ (TJx145de b).2.1 := by decide +kernel
theorem tyJx145de_ok : ∀ k, k < 0 → parseFieldDescriptor (TJx145de k).2.2.1 = some (tyJx145de k) := by decide +kernel
def RJ5 : String := "java/lang/AbstractStringBuilder"
def TJ5 : u_T := fun k => match k with
  | _ => ("", "", "", false)
def tyJ5 : Nat → FieldType := fun k => match k with
  | _ => .int
abbrev wsJ50 : List Cond := u_ws RJ5 TJ5 0
theorem nmJ5 : ∀ a, a < 0 → ∀ b, b < 0 → a ≠ b → (TJ5 a).2.1 ≠ (TJ5 b).2.1 := by decide +kernel
theorem tyJ5_ok : ∀ k, k < 0 → parseFieldDescriptor (TJ5 k).2.2.1 = some (tyJ5 k) := by decide +kernel
abbrev cJ5_init_d00df : ByteArray := prog_16_method_2_code
def yJ5_init_d00df : MethodName := ⟨RJ5, "<init>", "(I)V"⟩
abbrev cJ5_length_8abf5 : ByteArray := prog_16_method_6_code
def yJ5_length_8abf5 : MethodName := ⟨RJ5, "length", "()I"⟩
abbrev cJ5_ensureCapacityInternal_d00df : ByteArray := prog_16_method_9_code
def yJ5_ensureCapacityInternal_d00df : MethodName := ⟨RJ5, "ensureCapacityInternal", "(I)V"⟩
abbrev cJ5_newCapacity_0f7a4 : ByteArray := prog_16_method_10_code
def yJ5_newCapacity_0f7a4 : MethodName := ⟨RJ5, "newCapacity", "(I)I"⟩
abbrev cJ5_inflate_da8c8 : ByteArray := prog_16_method_11_code
def yJ5_inflate_da8c8 : MethodName := ⟨RJ5, "inflate", "()V"⟩
abbrev cJ5_setLength_d00df : ByteArray := prog_16_method_13_code
def yJ5_setLength_d00df : MethodName := ⟨RJ5, "setLength", "(I)V"⟩
abbrev cJ5_charAt_5068e : ByteArray := prog_16_method_14_code
def yJ5_charAt_5068e : MethodName := ⟨RJ5, "charAt", "(I)C"⟩
abbrev cJ5_append_cf1ce : ByteArray := prog_16_method_22_code
def yJ5_append_cf1ce : MethodName := ⟨RJ5, "append", "(Ljava/lang/String;)Ljava/lang/AbstractStringBuilder;"⟩
abbrev cJ5_appendNull_278bc : ByteArray := prog_16_method_26_code
def yJ5_appendNull_278bc : MethodName := ⟨RJ5, "appendNull", "()Ljava/lang/AbstractStringBuilder;"⟩
abbrev cJ5_append_3fe6f : ByteArray := prog_16_method_31_code
def yJ5_append_3fe6f : MethodName := ⟨RJ5, "append", "(C)Ljava/lang/AbstractStringBuilder;"⟩
abbrev cJ5_isLatin1_aae02 : ByteArray := prog_16_method_68_code
def yJ5_isLatin1_aae02 : MethodName := ⟨RJ5, "isLatin1", "()Z"⟩
abbrev cJ5_inflateIfNeededFor_a7421 : ByteArray := prog_16_method_71_code
def yJ5_inflateIfNeededFor_a7421 : MethodName := ⟨RJ5, "inflateIfNeededFor", "(Ljava/lang/String;)V"⟩
abbrev cJ5_putStringAt_47b60 : ByteArray := prog_16_method_73_code
def yJ5_putStringAt_47b60 : MethodName := ⟨RJ5, "putStringAt", "(ILjava/lang/String;)V"⟩
def RJx2cfe8 : String := "java/lang/Appendable"
def TJx2cfe8 : u_T := fun k => match k with
  | _ => ("", "", "", false)
def tyJx2cfe8 : Nat → FieldType := fun k => match k with
  | _ => .int
abbrev wsJx2cfe80 : List Cond := u_ws RJx2cfe8 TJx2cfe8 0
theorem nmJx2cfe8 : ∀ a, a < 0 → ∀ b, b < 0 → a ≠ b → (TJx2cfe8 a).2.1 ≠ (TJx2cfe8 b).2.1 := by decide +kernel
theorem tyJx2cfe8_ok : ∀ k, k < 0 → parseFieldDescriptor (TJx2cfe8 k).2.2.1 = some (tyJx2cfe8 k) := by decide +kernel
def RJx9f9b0 : String := "java/lang/CharSequence"
def TJx9f9b0 : u_T := fun k => match k with
  | _ => ("", "", "", false)
def tyJx9f9b0 : Nat → FieldType := fun k => match k with
  | _ => .int
abbrev wsJx9f9b00 : List Cond := u_ws RJx9f9b0 TJx9f9b0 0
theorem nmJx9f9b0 : ∀ a, a < 0 → ∀ b, b < 0 → a ≠ b → (TJx9f9b0 a).2.1 ≠ (TJx9f9b0 b).2.1 := by decide +kernel
theorem tyJx9f9b0_ok : ∀ k, k < 0 → parseFieldDescriptor (TJx9f9b0 k).2.2.1 = some (tyJx9f9b0 k) := by decide +kernel
def RJx8e188 : String := "java/lang/Cloneable"
def TJx8e188 : u_T := fun k => match k with
  | _ => ("", "", "", false)
def tyJx8e188 : Nat → FieldType := fun k => match k with
  | _ => .int
abbrev wsJx8e1880 : List Cond := u_ws RJx8e188 TJx8e188 0
theorem nmJx8e188 : ∀ a, a < 0 → ∀ b, b < 0 → a ≠ b → (TJx8e188 a).2.1 ≠ (TJx8e188 b).2.1 := by decide +kernel
theorem tyJx8e188_ok : ∀ k, k < 0 → parseFieldDescriptor (TJx8e188 k).2.2.1 = some (tyJx8e188 k) := by decide +kernel
def RJxb160c : String := "java/lang/Comparable"
def TJxb160c : u_T := fun k => match k with
  | _ => ("", "", "", false)
def tyJxb160c : Nat → FieldType := fun k => match k with
  | _ => .int
abbrev wsJxb160c0 : List Cond := u_ws RJxb160c TJxb160c 0
theorem nmJxb160c : ∀ a, a < 0 → ∀ b, b < 0 → a ≠ b → (TJxb160c a).2.1 ≠ (TJxb160c b).2.1 := by decide +kernel
theorem tyJxb160c_ok : ∀ k, k < 0 → parseFieldDescriptor (TJxb160c k).2.2.1 = some (tyJxb160c k) := by decide +kernel
def RJ6 : String := "java/lang/Integer"
def TJ6 : u_T := fun k => match k with
  | _ => ("", "", "", false)
def tyJ6 : Nat → FieldType := fun k => match k with
  | _ => .int
abbrev wsJ60 : List Cond := u_ws RJ6 TJ6 0
theorem nmJ6 : ∀ a, a < 0 → ∀ b, b < 0 → a ≠ b → (TJ6 a).2.1 ≠ (TJ6 b).2.1 := by decide +kernel
theorem tyJ6_ok : ∀ k, k < 0 → parseFieldDescriptor (TJ6 k).2.2.1 = some (tyJ6 k) := by decide +kernel
abbrev cJ6_bitCount_0f7a4 : ByteArray := prog_22_method_49_code
def yJ6_bitCount_0f7a4 : MethodName := ⟨RJ6, "bitCount", "(I)I"⟩
def RJ9 : String := "java/lang/Math"
def TJ9 : u_T := fun k => match k with
  | _ => ("", "", "", false)
def tyJ9 : Nat → FieldType := fun k => match k with
  | _ => .int
abbrev wsJ90 : List Cond := u_ws RJ9 TJ9 0
theorem nmJ9 : ∀ a, a < 0 → ∀ b, b < 0 → a ≠ b → (TJ9 a).2.1 ≠ (TJ9 b).2.1 := by decide +kernel
theorem tyJ9_ok : ∀ k, k < 0 → parseFieldDescriptor (TJ9 k).2.2.1 = some (tyJ9 k) := by decide +kernel
abbrev cJ9_abs_0f7a4 : ByteArray := prog_23_method_59_code
def yJ9_abs_0f7a4 : MethodName := ⟨RJ9, "abs", "(I)I"⟩
abbrev cJ9_max_7cf53 : ByteArray := prog_23_method_65_code
def yJ9_max_7cf53 : MethodName := ⟨RJ9, "max", "(II)I"⟩
abbrev cJ9_min_7cf53 : ByteArray := prog_23_method_69_code
def yJ9_min_7cf53 : MethodName := ⟨RJ9, "min", "(II)I"⟩
def RJ0 : String := "java/lang/String"
def TJ0 : u_T := fun k => match k with
  | _ => ("", "", "", false)
def tyJ0 : Nat → FieldType := fun k => match k with
  | _ => .int
abbrev wsJ00 : List Cond := u_ws RJ0 TJ0 0
theorem nmJ0 : ∀ a, a < 0 → ∀ b, b < 0 → a ≠ b → (TJ0 a).2.1 ≠ (TJ0 b).2.1 := by decide +kernel
theorem tyJ0_ok : ∀ k, k < 0 → parseFieldDescriptor (TJ0 k).2.2.1 = some (tyJ0 k) := by decide +kernel
abbrev cJ0_length_8abf5 : ByteArray := prog_25_method_54_code
def yJ0_length_8abf5 : MethodName := ⟨RJ0, "length", "()I"⟩
abbrev cJ0_charAt_5068e : ByteArray := prog_25_method_56_code
def yJ0_charAt_5068e : MethodName := ⟨RJ0, "charAt", "(I)C"⟩
abbrev cJ0_getBytes_840e7 : ByteArray := prog_25_method_147_code
def yJ0_getBytes_840e7 : MethodName := ⟨RJ0, "getBytes", "([BIB)V"⟩
abbrev cJ0_coder_7d493 : ByteArray := prog_25_method_152_code
def yJ0_coder_7d493 : MethodName := ⟨RJ0, "coder", "()B"⟩
abbrev cJ0_isLatin1_aae02 : ByteArray := prog_25_method_154_code
def yJ0_isLatin1_aae02 : MethodName := ⟨RJ0, "isLatin1", "()Z"⟩
abbrev cJ0_checkIndex_df160 : ByteArray := prog_25_method_155_code
def yJ0_checkIndex_df160 : MethodName := ⟨RJ0, "checkIndex", "(II)V"⟩
abbrev cJ0_checkBoundsOffCount_cabcc : ByteArray := prog_25_method_157_code
def yJ0_checkBoundsOffCount_cabcc : MethodName := ⟨RJ0, "checkBoundsOffCount", "(III)I"⟩
abbrev cJ0_checkBoundsBeginEnd_23922 : ByteArray := prog_25_method_158_code
def yJ0_checkBoundsBeginEnd_23922 : MethodName := ⟨RJ0, "checkBoundsBeginEnd", "(III)V"⟩
def RJ4 : String := "java/lang/StringBuilder"
def TJ4 : u_T := fun k => match k with
  | 0 => ("java/lang/AbstractStringBuilder", "value", "[B", false)
  | 1 => ("java/lang/AbstractStringBuilder", "coder", "B", false)
  | 2 => ("java/lang/AbstractStringBuilder", "maybeLatin1", "Z", false)
  | _ => ("java/lang/AbstractStringBuilder", "count", "I", false)
def tyJ4 : Nat → FieldType := fun k => match k with
  | 0 => .array .byte
  | 1 => .byte
  | 2 => .boolean
  | _ => .int
abbrev wsJ40 : List Cond := u_ws RJ4 TJ4 4
theorem nmJ4 : ∀ a, a < 4 → ∀ b, b < 4 → a ≠ b → (TJ4 a).2.1 ≠ (TJ4 b).2.1 := by decide +kernel
theorem tyJ4_ok : ∀ k, k < 4 → parseFieldDescriptor (TJ4 k).2.2.1 = some (tyJ4 k) := by decide +kernel
abbrev cJ4_init_da8c8 : ByteArray := prog_26_method_1_code
def yJ4_init_da8c8 : MethodName := ⟨RJ4, "<init>", "()V"⟩
abbrev cJ4_append_15ec4 : ByteArray := prog_26_method_7_code
def yJ4_append_15ec4 : MethodName := ⟨RJ4, "append", "(Ljava/lang/String;)Ljava/lang/StringBuilder;"⟩
abbrev cJ4_append_cf468 : ByteArray := prog_26_method_14_code
def yJ4_append_cf468 : MethodName := ⟨RJ4, "append", "(C)Ljava/lang/StringBuilder;"⟩
abbrev cJ4_charAt_5068e : ByteArray := prog_26_method_88_code
def yJ4_charAt_5068e : MethodName := ⟨RJ4, "charAt", "(I)C"⟩
abbrev cJ4_setLength_d00df : ByteArray := prog_26_method_89_code
def yJ4_setLength_d00df : MethodName := ⟨RJ4, "setLength", "(I)V"⟩
abbrev cJ4_length_8abf5 : ByteArray := prog_26_method_93_code
def yJ4_length_8abf5 : MethodName := ⟨RJ4, "length", "()I"⟩
def RJ1 : String := "java/lang/StringLatin1"
def TJ1 : u_T := fun k => match k with
  | _ => ("", "", "", false)
def tyJ1 : Nat → FieldType := fun k => match k with
  | _ => .int
abbrev wsJ10 : List Cond := u_ws RJ1 TJ1 0
theorem nmJ1 : ∀ a, a < 0 → ∀ b, b < 0 → a ≠ b → (TJ1 a).2.1 ≠ (TJ1 b).2.1 := by decide +kernel
theorem tyJ1_ok : ∀ k, k < 0 → parseFieldDescriptor (TJ1 k).2.2.1 = some (tyJ1 k) := by decide +kernel
abbrev cJ1_charAt_3b067 : ByteArray := prog_27_method_2_code
def yJ1_charAt_3b067 : MethodName := ⟨RJ1, "charAt", "([BI)C"⟩
abbrev cJ1_canEncode_fc78d : ByteArray := prog_27_method_3_code
def yJ1_canEncode_fc78d : MethodName := ⟨RJ1, "canEncode", "(C)Z"⟩
abbrev cJ1_fillNull_b72d1 : ByteArray := prog_27_method_48_code
def yJ1_fillNull_b72d1 : MethodName := ⟨RJ1, "fillNull", "([BII)V"⟩
abbrev cJ1_inflate_0e8fd : ByteArray := prog_27_method_50_code
def yJ1_inflate_0e8fd : MethodName := ⟨RJ1, "inflate", "([BI[BII)V"⟩
def RJ2 : String := "java/lang/StringUTF16"
def TJ2 : u_T := fun k => match k with
  | _ => ("", "", "", false)
def tyJ2 : Nat → FieldType := fun k => match k with
  | _ => .int
abbrev wsJ20 : List Cond := u_ws RJ2 TJ2 0
theorem nmJ2 : ∀ a, a < 0 → ∀ b, b < 0 → a ≠ b → (TJ2 a).2.1 ≠ (TJ2 b).2.1 := by decide +kernel
theorem tyJ2_ok : ∀ k, k < 0 → parseFieldDescriptor (TJ2 k).2.2.1 = some (tyJ2 k) := by decide +kernel
abbrev cJ2_newBytesFor_77867 : ByteArray := prog_28_method_2_code
def yJ2_newBytesFor_77867 : MethodName := ⟨RJ2, "newBytesFor", "(I)[B"⟩
abbrev cJ2_newBytesLength_0f7a4 : ByteArray := prog_28_method_3_code
def yJ2_newBytesLength_0f7a4 : MethodName := ⟨RJ2, "newBytesLength", "(I)I"⟩
abbrev cJ2_putChar_b72d1 : ByteArray := prog_28_method_4_code
def yJ2_putChar_b72d1 : MethodName := ⟨RJ2, "putChar", "([BII)V"⟩
abbrev cJ2_getChar_3b067 : ByteArray := prog_28_method_5_code
def yJ2_getChar_3b067 : MethodName := ⟨RJ2, "getChar", "([BI)C"⟩
abbrev cJ2_length_9d52b : ByteArray := prog_28_method_6_code
def yJ2_length_9d52b : MethodName := ⟨RJ2, "length", "([B)I"⟩
abbrev cJ2_fillNull_b72d1 : ByteArray := prog_28_method_70_code
def yJ2_fillNull_b72d1 : MethodName := ⟨RJ2, "fillNull", "([BII)V"⟩
abbrev cJ2_putCharSB_b72d1 : ByteArray := prog_28_method_71_code
def yJ2_putCharSB_b72d1 : MethodName := ⟨RJ2, "putCharSB", "([BII)V"⟩
abbrev cJ2_putCharsAt_cd4e5 : ByteArray := prog_28_method_81_code
def yJ2_putCharsAt_cd4e5 : MethodName := ⟨RJ2, "putCharsAt", "([BICCCC)I"⟩
abbrev cJ2_charAt_3b067 : ByteArray := prog_28_method_83_code
def yJ2_charAt_3b067 : MethodName := ⟨RJ2, "charAt", "([BI)C"⟩
abbrev cJ2_inflate_0e8fd : ByteArray := prog_28_method_86_code
def yJ2_inflate_0e8fd : MethodName := ⟨RJ2, "inflate", "([BI[BII)V"⟩
abbrev cJ2_checkIndex_2214a : ByteArray := prog_28_method_91_code
def yJ2_checkIndex_2214a : MethodName := ⟨RJ2, "checkIndex", "(I[B)V"⟩
abbrev cJ2_checkBoundsBeginEnd_d044e : ByteArray := prog_28_method_93_code
def yJ2_checkBoundsBeginEnd_d044e : MethodName := ⟨RJ2, "checkBoundsBeginEnd", "(II[B)V"⟩
abbrev cJ2_checkBoundsOffCount_d044e : ByteArray := prog_28_method_94_code
def yJ2_checkBoundsOffCount_d044e : MethodName := ⟨RJ2, "checkBoundsOffCount", "(II[B)V"⟩
def RJ10 : String := "java/lang/System"
def TJ10 : u_T := fun k => match k with
  | _ => ("", "", "", false)
def tyJ10 : Nat → FieldType := fun k => match k with
  | _ => .int
abbrev wsJ100 : List Cond := u_ws RJ10 TJ10 0
theorem nmJ10 : ∀ a, a < 0 → ∀ b, b < 0 → a ≠ b → (TJ10 a).2.1 ≠ (TJ10 b).2.1 := by decide +kernel
theorem tyJ10_ok : ∀ k, k < 0 → parseFieldDescriptor (TJ10 k).2.2.1 = some (tyJ10 k) := by decide +kernel
def RJxfd54e : String := "java/lang/constant/Constable"
def TJxfd54e : u_T := fun k => match k with
  | _ => ("", "", "", false)
def tyJxfd54e : Nat → FieldType := fun k => match k with
  | _ => .int
abbrev wsJxfd54e0 : List Cond := u_ws RJxfd54e TJxfd54e 0
theorem nmJxfd54e : ∀ a, a < 0 → ∀ b, b < 0 → a ≠ b → (TJxfd54e a).2.1 ≠ (TJxfd54e b).2.1 := by decide +kernel
theorem tyJxfd54e_ok : ∀ k, k < 0 → parseFieldDescriptor (TJxfd54e k).2.2.1 = some (tyJxfd54e k) := by decide +kernel
def RJx3cf43 : String := "java/lang/constant/ConstantDesc"
def TJx3cf43 : u_T := fun k => match k with
  | _ => ("", "", "", false)
def tyJx3cf43 : Nat → FieldType := fun k => match k with
  | _ => .int
abbrev wsJx3cf430 : List Cond := u_ws RJx3cf43 TJx3cf43 0
theorem nmJx3cf43 : ∀ a, a < 0 → ∀ b, b < 0 → a ≠ b → (TJx3cf43 a).2.1 ≠ (TJx3cf43 b).2.1 := by decide +kernel
theorem tyJx3cf43_ok : ∀ k, k < 0 → parseFieldDescriptor (TJx3cf43 k).2.2.1 = some (tyJx3cf43 k) := by decide +kernel
def RJ7 : String := "java/util/Arrays"
def TJ7 : u_T := fun k => match k with
  | _ => ("", "", "", false)
def tyJ7 : Nat → FieldType := fun k => match k with
  | _ => .int
abbrev wsJ70 : List Cond := u_ws RJ7 TJ7 0
theorem nmJ7 : ∀ a, a < 0 → ∀ b, b < 0 → a ≠ b → (TJ7 a).2.1 ≠ (TJ7 b).2.1 := by decide +kernel
theorem tyJ7_ok : ∀ k, k < 0 → parseFieldDescriptor (TJ7 k).2.2.1 = some (tyJ7 k) := by decide +kernel
abbrev cJ7_rangeCheck_23922 : ByteArray := prog_33_method_30_code
def yJ7_rangeCheck_23922 : MethodName := ⟨RJ7, "rangeCheck", "(III)V"⟩
abbrev cJ7_fill_53178 : ByteArray := prog_33_method_103_code
def yJ7_fill_53178 : MethodName := ⟨RJ7, "fill", "([II)V"⟩
abbrev cJ7_fill_eb02e : ByteArray := prog_33_method_110_code
def yJ7_fill_eb02e : MethodName := ⟨RJ7, "fill", "([BIIB)V"⟩
abbrev cJ7_copyOf_9075b : ByteArray := prog_33_method_121_code
def yJ7_copyOf_9075b : MethodName := ⟨RJ7, "copyOf", "([BI)[B"⟩
def RJ8 : String := "jdk/internal/util/ArraysSupport"
def TJ8 : u_T := fun k => match k with
  | _ => ("", "", "", false)
def tyJ8 : Nat → FieldType := fun k => match k with
  | _ => .int
abbrev wsJ80 : List Cond := u_ws RJ8 TJ8 0
theorem nmJ8 : ∀ a, a < 0 → ∀ b, b < 0 → a ≠ b → (TJ8 a).2.1 ≠ (TJ8 b).2.1 := by decide +kernel
theorem tyJ8_ok : ∀ k, k < 0 → parseFieldDescriptor (TJ8 k).2.2.1 = some (tyJ8 k) := by decide +kernel
abbrev cJ8_newLength_cabcc : ByteArray := prog_35_method_27_code
def yJ8_newLength_cabcc : MethodName := ⟨RJ8, "newLength", "(III)I"⟩
abbrev cJ8_hugeLength_7cf53 : ByteArray := prog_35_method_28_code
def yJ8_hugeLength_7cf53 : MethodName := ⟨RJ8, "hugeLength", "(II)I"⟩
def RJ3 : String := "jdk/internal/util/Preconditions"
def TJ3 : u_T := fun k => match k with
  | _ => ("", "", "", false)
def tyJ3 : Nat → FieldType := fun k => match k with
  | _ => .int
abbrev wsJ30 : List Cond := u_ws RJ3 TJ3 0
theorem nmJ3 : ∀ a, a < 0 → ∀ b, b < 0 → a ≠ b → (TJ3 a).2.1 ≠ (TJ3 b).2.1 := by decide +kernel
theorem tyJ3_ok : ∀ k, k < 0 → parseFieldDescriptor (TJ3 k).2.2.1 = some (tyJ3 k) := by decide +kernel
abbrev cJ3_checkIndex_8e157 : ByteArray := prog_36_method_11_code
def yJ3_checkIndex_8e157 : MethodName := ⟨RJ3, "checkIndex", "(IILjava/util/function/BiFunction;)I"⟩
abbrev cJ3_checkFromToIndex_8c36e : ByteArray := prog_36_method_12_code
def yJ3_checkFromToIndex_8c36e : MethodName := ⟨RJ3, "checkFromToIndex", "(IIILjava/util/function/BiFunction;)I"⟩
abbrev cJ3_checkFromIndexSize_8c36e : ByteArray := prog_36_method_13_code
def yJ3_checkFromIndexSize_8c36e : MethodName := ⟨RJ3, "checkFromIndexSize", "(IIILjava/util/function/BiFunction;)I"⟩
def RL : String := "SignedBridgeLaw"
abbrev cL_signer : ByteArray := method_3_code
def yL_signer : MethodName := ⟨RL, "signer", "(LSignedBridge;II[J)I"⟩
abbrev cL_plank : ByteArray := method_4_code
def yL_plank : MethodName := ⟨RL, "plank", "(LSignedBridge;III[J)I"⟩
abbrev cL_load : ByteArray := method_5_code
def yL_load : MethodName := ⟨RL, "load", "(LSignedBridge;II[J)I"⟩
abbrev cL_law : ByteArray := code
def yL_law : MethodName := ⟨RL, "law", "([I)Z"⟩
def wsL_law0_r1 : List Cond := [Cond.classLink RL 8 RX11, Cond.instantiable RX11 20, Cond.initialized RX11, Cond.classLink RL 23 RX12, Cond.instantiable RX12 60, Cond.initialized RX12, Cond.arrayClass .long, Cond.methodLink RL 22 yX11_init, Cond.instanceMethod yX11_init, Cond.code yX11_init cX11_init 2 none, Cond.methodLink RX11 1 objectInit, Cond.instanceMethod objectInit, Cond.code objectInit ⟨#[0xb1]⟩ 1 none, Cond.classLink RX11 7 RX9, Cond.instantiable RX9 13, Cond.initialized RX9, Cond.fieldLink RX11 10 "SignedBridge" "tokens" "LSignedBridge$Tokens;", Cond.classLink RX11 16 RX2, Cond.instantiable RX2 5, Cond.initialized RX2, Cond.fieldLink RX11 19 "SignedBridge" "bridgeText" "LSignedBridge$BridgeText;", Cond.classLink RX11 23 RX6, Cond.instantiable RX6 15, Cond.initialized RX6]
def wsL_law0_r2 : List Cond := [Cond.fieldLink RX11 26 "SignedBridge" "plan" "LSignedBridge$Plan;", Cond.classLink RX11 30 RX8, Cond.instantiable RX8 9, Cond.initialized RX8, Cond.fieldLink RX11 33 "SignedBridge" "state" "LSignedBridge$State;", Cond.classLink RX11 37 RX7, Cond.instantiable RX7 9, Cond.initialized RX7, Cond.fieldLink RX11 40 "SignedBridge" "sentence" "LSignedBridge$Sentence;", Cond.fieldLink RX11 44 "SignedBridge" "sentenceDraft" "LSignedBridge$Sentence;", Cond.classLink RX11 47 RX1, Cond.instantiable RX1 6, Cond.initialized RX1, Cond.fieldLink RX11 50 "SignedBridge" "book" "LSignedBridge$Book;", Cond.classLink RX11 54 RX10, Cond.instantiable RX10 4, Cond.initialized RX10, Cond.fieldLink RX11 57 "SignedBridge" "ways" "LSignedBridge$Ways;", Cond.classLink RX11 61 RX0, Cond.instantiable RX0 5, Cond.initialized RX0, Cond.fieldLink RX11 64 "SignedBridge" "asks" "LSignedBridge$Asks;", Cond.classLink RX11 68 RX3, Cond.instantiable RX3 5]
def wsL_law0_r3 : List Cond := [Cond.initialized RX3, Cond.fieldLink RX11 71 "SignedBridge" "cut" "LSignedBridge$Cut;", Cond.classLink RX11 75 RX5, Cond.instantiable RX5 5, Cond.initialized RX5, Cond.fieldLink RX11 78 "SignedBridge" "forgers" "LSignedBridge$Forgers;", Cond.classLink RX11 82 RX4, Cond.instantiable RX4 5, Cond.initialized RX4, Cond.fieldLink RX11 85 "SignedBridge" "forecast" "LSignedBridge$Forecast;", Cond.classLink RX11 89 RJ4, Cond.instantiable RJ4 4, Cond.initialized RJ4, Cond.fieldLink RX11 92 "SignedBridge" "plate" "Ljava/lang/StringBuilder;", Cond.fieldLink RX11 96 "SignedBridge" "past" "[LSignedBridge$State;", Cond.fieldLink RX11 100 "SignedBridge" "imagePlans" "[LSignedBridge$Plan;", Cond.fieldLink RX11 104 "SignedBridge" "imageStates" "[LSignedBridge$State;", Cond.fieldLink RX11 107 "SignedBridge" "imageSentences" "[LSignedBridge$Sentence;", Cond.arrayClass .boolean, Cond.fieldLink RX11 111 "SignedBridge" "imageKept" "[Z", Cond.instanceMethod yX9_init, Cond.code yX9_init cX9_init 1 none, Cond.methodLink RX9 3 objectInit, Cond.arrayClass .int]
def wsL_law0_r4 : List Cond := [Cond.fieldLink RX9 9 "SignedBridge$Tokens" "bytes" "[I", Cond.instanceMethod yX2_init, Cond.code yX2_init cX2_init 1 none, Cond.methodLink RX2 3 objectInit, Cond.classLink RX2 9 RX6, Cond.fieldLink RX2 12 "SignedBridge$BridgeText" "plan" "LSignedBridge$Plan;", Cond.methodLink RX2 11 yX6_init, Cond.instanceMethod yX6_init, Cond.code yX6_init cX6_init 1 none, Cond.methodLink RX6 3 objectInit, Cond.fieldLink RX6 9 "SignedBridge$Plan" "signerNames" "[J", Cond.fieldLink RX6 15 "SignedBridge$Plan" "earnest" "[I", Cond.fieldLink RX6 19 "SignedBridge$Plan" "miles" "[I", Cond.fieldLink RX6 22 "SignedBridge$Plan" "heir" "[I", Cond.fieldLink RX6 25 "SignedBridge$Plan" "loves" "[I", Cond.fieldLink RX6 28 "SignedBridge$Plan" "owner" "[I", Cond.fieldLink RX6 31 "SignedBridge$Plan" "loadNames" "[J", Cond.fieldLink RX6 34 "SignedBridge$Plan" "weight" "[I", Cond.fieldLink RX6 37 "SignedBridge$Plan" "wide" "[I", Cond.methodLink RX6 40 yX6_clear, Cond.instanceMethod yX6_clear, Cond.selects RX6 yX6_clear yX6_clear, Cond.code yX6_clear cX6_clear 1 none, Cond.fieldLink RX6 43 "SignedBridge$Plan" "rows" "I"]
def wsL_law0_r5 : List Cond := [Cond.fieldLink RX6 47 "SignedBridge$Plan" "keeps" "I", Cond.fieldLink RX6 50 "SignedBridge$Plan" "signers" "I", Cond.fieldLink RX6 53 "SignedBridge$Plan" "loads" "I", Cond.fieldLink RX6 56 "SignedBridge$Plan" "lovers" "I", Cond.fieldLink RX6 59 "SignedBridge$Plan" "forgers" "I", Cond.methodLink RX6 62 yJ7_fill_53178, Cond.static yJ7_fill_53178, Cond.initialized RJ7, Cond.code yJ7_fill_53178 cJ7_fill_53178 4 none, Cond.methodLink RX11 25 yX6_init, Cond.methodLink RX11 32 yX8_init, Cond.instanceMethod yX8_init, Cond.code yX8_init cX8_init 1 none, Cond.methodLink RX8 3 objectInit, Cond.fieldLink RX8 9 "SignedBridge$State" "earnest" "[I", Cond.fieldLink RX8 15 "SignedBridge$State" "died" "[I", Cond.fieldLink RX8 18 "SignedBridge$State" "held" "[I", Cond.fieldLink RX8 21 "SignedBridge$State" "owner" "[I", Cond.fieldLink RX8 24 "SignedBridge$State" "singed" "[I", Cond.fieldLink RX8 27 "SignedBridge$State" "crossed" "[I", Cond.methodLink RX8 30 yJ7_fill_53178, Cond.instanceMethod yX7_init, Cond.code yX7_init cX7_init 1 none, Cond.methodLink RX7 3 objectInit]
def wsL_law0_r6 : List Cond := [Cond.fieldLink RX7 11 "SignedBridge$Sentence" "code" "[I", Cond.fieldLink RX7 15 "SignedBridge$Sentence" "sign" "[I", Cond.fieldLink RX7 18 "SignedBridge$Sentence" "number" "[I", Cond.fieldLink RX7 21 "SignedBridge$Sentence" "delayed" "[I", Cond.fieldLink RX7 24 "SignedBridge$Sentence" "stack" "[I", Cond.instanceMethod yX1_init, Cond.code yX1_init cX1_init 1 none, Cond.methodLink RX1 3 objectInit, Cond.fieldLink RX1 11 "SignedBridge$Book" "deeds" "[I", Cond.fieldLink RX1 15 "SignedBridge$Book" "who" "[I", Cond.fieldLink RX1 18 "SignedBridge$Book" "first" "[I", Cond.fieldLink RX1 21 "SignedBridge$Book" "second" "[I", Cond.fieldLink RX1 24 "SignedBridge$Book" "verdict" "[I", Cond.instanceMethod yX10_init, Cond.code yX10_init cX10_init 1 none, Cond.methodLink RX10 3 objectInit, Cond.fieldLink RX10 9 "SignedBridge$Ways" "bear" "[I", Cond.fieldLink RX10 15 "SignedBridge$Ways" "spare" "[I", Cond.fieldLink RX10 18 "SignedBridge$Ways" "best" "[I", Cond.fieldLink RX10 21 "SignedBridge$Ways" "steps" "[I", Cond.methodLink RX11 63 yX0_init, Cond.instanceMethod yX0_init, Cond.code yX0_init cX0_init 1 none, Cond.methodLink RX0 3 objectInit]
def wsL_law0_r7 : List Cond := [Cond.classLink RX0 9 RX8, Cond.fieldLink RX0 12 "SignedBridge$Asks" "trial" "LSignedBridge$State;", Cond.fieldLink RX0 18 "SignedBridge$Asks" "cost" "[I", Cond.fieldLink RX0 22 "SignedBridge$Asks" "total" "[I", Cond.fieldLink RX0 25 "SignedBridge$Asks" "picks" "[I", Cond.fieldLink RX0 28 "SignedBridge$Asks" "asked" "[I", Cond.methodLink RX0 11 yX8_init, Cond.methodLink RX0 31 yJ7_fill_53178, Cond.instanceMethod yX3_init, Cond.code yX3_init cX3_init 1 none, Cond.methodLink RX3 3 objectInit, Cond.classLink RX3 9 RX8, Cond.fieldLink RX3 12 "SignedBridge$Cut" "trial" "LSignedBridge$State;", Cond.fieldLink RX3 18 "SignedBridge$Cut" "possible" "[I", Cond.fieldLink RX3 22 "SignedBridge$Cut" "need" "[I", Cond.fieldLink RX3 25 "SignedBridge$Cut" "places" "[I", Cond.methodLink RX3 11 yX8_init, Cond.instanceMethod yX5_init, Cond.code yX5_init cX5_init 1 none, Cond.methodLink RX5 3 objectInit, Cond.fieldLink RX5 9 "SignedBridge$Forgers" "possible" "[I", Cond.fieldLink RX5 15 "SignedBridge$Forgers" "forged" "[I", Cond.fieldLink RX5 18 "SignedBridge$Forgers" "ableBy" "[I", Cond.fieldLink RX5 21 "SignedBridge$Forgers" "common" "I"]
def wsL_law0_r8 : List Cond := [Cond.fieldLink RX5 25 "SignedBridge$Forgers" "telling" "I", Cond.instanceMethod yX4_init, Cond.code yX4_init cX4_init 1 none, Cond.methodLink RX4 3 objectInit, Cond.classLink RX4 9 RX8, Cond.fieldLink RX4 12 "SignedBridge$Forecast" "trial" "LSignedBridge$State;", Cond.fieldLink RX4 18 "SignedBridge$Forecast" "second" "LSignedBridge$State;", Cond.fieldLink RX4 21 "SignedBridge$Forecast" "order" "[I", Cond.methodLink RX4 11 yX8_init, Cond.methodLink RX11 91 yJ4_init_da8c8, Cond.instanceMethod yJ4_init_da8c8, Cond.code yJ4_init_da8c8 cJ4_init_da8c8 1 none, Cond.methodLink RJ4 1 yJ5_init_d00df, Cond.instanceMethod yJ5_init_d00df, Cond.initialized RJ5, Cond.code yJ5_init_d00df cJ5_init_d00df 2 none, Cond.methodLink RJ5 3 objectInit, Cond.fieldLink RJ5 18 "java/lang/String" "COMPACT_STRINGS" "Z", Cond.arrayClass .byte, Cond.fieldLink RJ5 15 "java/lang/AbstractStringBuilder" "value" "[B", Cond.fieldLink RJ5 22 "java/lang/AbstractStringBuilder" "coder" "B", Cond.methodLink RJ5 26 yJ2_newBytesFor_77867, Cond.static yJ2_newBytesFor_77867, Cond.initialized RJ2]
def wsL_law0_r9 : List Cond := [Cond.code yJ2_newBytesFor_77867 cJ2_newBytesFor_77867 1 (some (.array .byte)), Cond.methodLink RJ2 11 yJ2_newBytesLength_0f7a4, Cond.static yJ2_newBytesLength_0f7a4, Cond.code yJ2_newBytesLength_0f7a4 cJ2_newBytesLength_0f7a4 1 (some .int), Cond.constant RJ2 20 (1073741823), Cond.methodLink RL 25 yX12_init, Cond.instanceMethod yX12_init, Cond.code yX12_init cX12_init 2 none, Cond.methodLink RX12 93 objectInit, Cond.fieldLink RX12 7 "SignedBridgeModel" "tape" "[I", Cond.fieldLink RX12 98 "SignedBridgeModel" "now" "[I", Cond.fieldLink RX12 101 "SignedBridgeModel" "read" "[I", Cond.fieldLink RX12 104 "SignedBridgeModel" "kept" "[I", Cond.fieldLink RX12 107 "SignedBridgeModel" "snaps" "[I", Cond.fieldLink RX12 110 "SignedBridgeModel" "aside" "[I", Cond.fieldLink RX12 113 "SignedBridgeModel" "name" "[J", Cond.fieldLink RX12 117 "SignedBridgeModel" "readName" "[J", Cond.fieldLink RX12 120 "SignedBridgeModel" "keptName" "[J", Cond.fieldLink RX12 123 "SignedBridgeModel" "isKept" "[Z", Cond.fieldLink RX12 127 "SignedBridgeModel" "whose" "[I", Cond.fieldLink RX12 130 "SignedBridgeModel" "best" "[I", Cond.fieldLink RX12 133 "SignedBridgeModel" "path" "[I", Cond.fieldLink RX12 136 "SignedBridgeModel" "price" "[I", Cond.fieldLink RX12 139 "SignedBridgeModel" "signs" "[I"]
def wsL_law0_r10 : List Cond := [Cond.fieldLink RX12 142 "SignedBridgeModel" "asked" "[I", Cond.fieldLink RX12 145 "SignedBridgeModel" "trying" "[I", Cond.fieldLink RX12 148 "SignedBridgeModel" "cutting" "[I", Cond.fieldLink RX12 151 "SignedBridgeModel" "cutAt" "[I", Cond.fieldLink RX12 154 "SignedBridgeModel" "order" "[I", Cond.fieldLink RX12 157 "SignedBridgeModel" "ordered" "[I", Cond.fieldLink RX12 160 "SignedBridgeModel" "held" "[I", Cond.fieldLink RX12 163 "SignedBridgeModel" "passes" "[I", Cond.fieldLink RX12 166 "SignedBridgeModel" "surely" "I", Cond.fieldLink RX12 169 "SignedBridgeModel" "tells" "I", Cond.fieldLink RX12 172 "SignedBridgeModel" "text" "[I", Cond.fieldLink RX12 175 "SignedBridgeModel" "line" "[I", Cond.fieldLink RX12 178 "SignedBridgeModel" "written" "[I", Cond.fieldLink RX12 181 "SignedBridgeModel" "node" "[I", Cond.methodLink RX12 184 yX12_startRead, Cond.instanceMethod yX12_startRead, Cond.selects RX12 yX12_startRead yX12_startRead, Cond.code yX12_startRead cX12_startRead 2 none, Cond.methodLink RX12 187 yX12_startSo, Cond.instanceMethod yX12_startSo, Cond.selects RX12 yX12_startSo yX12_startSo, Cond.code yX12_startSo cX12_startSo 2 none, Cond.methodLink RL 26 yX11_feed, Cond.instanceMethod yX11_feed]
def wsL_law0_r11 : List Cond := [Cond.selects RX11 yX11_feed yX11_feed, Cond.code yX11_feed cX11_feed 6 (some .int), Cond.fieldLink RX11 115 "SignedBridge$Tokens" "length" "I", Cond.methodLink RX11 119 yX9_put, Cond.instanceMethod yX9_put, Cond.selects RX9 yX9_put yX9_put, Cond.code yX9_put cX9_put 3 none, Cond.fieldLink RX9 15 "SignedBridge$Tokens" "length" "I", Cond.methodLink RL 30 yX12_feed, Cond.instanceMethod yX12_feed, Cond.selects RX12 yX12_feed yX12_feed, Cond.code yX12_feed cX12_feed 6 (some .int), Cond.fieldLink RX12 1 "SignedBridgeModel" "thrown" "I", Cond.fieldLink RX12 11 "SignedBridgeModel" "taped" "I", Cond.methodLink RX12 14 yX12_come, Cond.instanceMethod yX12_come, Cond.selects RX12 yX12_come yX12_come, Cond.code yX12_come cX12_come 3 none, Cond.methodLink RL 31 yX11_end, Cond.instanceMethod yX11_end, Cond.selects RX11 yX11_end yX11_end, Cond.code yX11_end cX11_end 2 (some .boolean), Cond.methodLink RL 35 yX12_end, Cond.instanceMethod yX12_end]
def wsL_law0_r12 : List Cond := [Cond.selects RX12 yX12_end yX12_end, Cond.code yX12_end cX12_end 2 (some .boolean), Cond.methodLink RL 36 yX11_bridge, Cond.instanceMethod yX11_bridge, Cond.selects RX11 yX11_bridge yX11_bridge, Cond.code yX11_bridge cX11_bridge 2 (some .int), Cond.fieldLink RX11 127 "SignedBridge$Tokens" "faultAt" "I", Cond.fieldLink RX11 130 "SignedBridge$BridgeText" "plan" "LSignedBridge$Plan;", Cond.fieldLink RX11 141 "SignedBridge" "pastCount" "I", Cond.fieldLink RX11 144 "SignedBridge$BridgeText" "lines" "I", Cond.methodLink RX11 123 yX2_read, Cond.instanceMethod yX2_read, Cond.selects RX2 yX2_read yX2_read, Cond.code yX2_read cX2_read 2 (some .boolean), Cond.fieldLink RX2 21 "SignedBridge$BridgeText" "rowsTold" "Z", Cond.fieldLink RX2 25 "SignedBridge$BridgeText" "keepsTold" "Z", Cond.fieldLink RX2 28 "SignedBridge$BridgeText" "plankTold" "Z", Cond.fieldLink RX2 37 "SignedBridge$BridgeText" "lines" "I", Cond.fieldLink RX2 41 "SignedBridge$Tokens" "kind" "I", Cond.methodLink RX2 18 yX6_clear, Cond.methodLink RX2 31 yX9_begin, Cond.instanceMethod yX9_begin, Cond.selects RX9 yX9_begin yX9_begin, Cond.code yX9_begin cX9_begin 2 none]
def wsL_law0_r13 : List Cond := [Cond.fieldLink RX9 19 "SignedBridge$Tokens" "most" "I", Cond.fieldLink RX9 22 "SignedBridge$Tokens" "next" "I", Cond.fieldLink RX9 25 "SignedBridge$Tokens" "faultKind" "I", Cond.methodLink RX9 28 yX9_advance, Cond.instanceMethod yX9_advance, Cond.selects RX9 yX9_advance yX9_advance, Cond.code yX9_advance cX9_advance 4 none, Cond.methodLink RX9 31 Lib.Math.min.name, Cond.static Lib.Math.min.name, Cond.initialized "java/lang/Math", Cond.code Lib.Math.min.name Lib.Math.min.code 2 (some .int), Cond.fieldLink RX9 37 "SignedBridge$Tokens" "at" "I", Cond.fieldLink RX9 40 "SignedBridge$Tokens" "kind" "I", Cond.fieldLink RX9 43 "SignedBridge$Tokens" "value" "I", Cond.methodLink RX9 46 yX9_isLetter, Cond.static yX9_isLetter, Cond.code yX9_isLetter cX9_isLetter 1 (some .boolean), Cond.methodLink RX9 50 yX9_isDigit, Cond.static yX9_isDigit, Cond.code yX9_isDigit cX9_isDigit 1 (some .boolean), Cond.methodLink RX9 53 yX9_isSign, Cond.static yX9_isSign, Cond.code yX9_isSign cX9_isSign 1 (some .boolean), Cond.methodLink RX9 56 yX9_readWord]
def wsL_law0_r14 : List Cond := [Cond.instanceMethod yX9_readWord, Cond.selects RX9 yX9_readWord yX9_readWord, Cond.code yX9_readWord cX9_readWord 4 none, Cond.fieldLink RX9 62 "SignedBridge$Tokens" "name" "J", Cond.constantLong RX9 66 (32), Cond.constantLong RX9 68 (97), Cond.methodLink RX9 72 yJ0_charAt_5068e, Cond.instanceMethod yJ0_charAt_5068e, Cond.selects RJ0 yJ0_charAt_5068e yJ0_charAt_5068e, Cond.initialized RJ0, Cond.code yJ0_charAt_5068e cJ0_charAt_5068e 2 (some .char), Cond.fieldLink RJ0 9 "java/lang/String" "value" "[B", Cond.methodLink RJ0 492 yJ0_isLatin1_aae02, Cond.instanceMethod yJ0_isLatin1_aae02, Cond.selects RJ0 yJ0_isLatin1_aae02 yJ0_isLatin1_aae02, Cond.code yJ0_isLatin1_aae02 cJ0_isLatin1_aae02 1 (some .boolean), Cond.fieldLink RJ0 38 "java/lang/String" "COMPACT_STRINGS" "Z", Cond.fieldLink RJ0 15 "java/lang/String" "coder" "B", Cond.methodLink RJ0 495 yJ1_charAt_3b067, Cond.static yJ1_charAt_3b067, Cond.initialized RJ1, Cond.code yJ1_charAt_3b067 cJ1_charAt_3b067 2 (some .char), Cond.methodLink RJ1 9 yJ0_checkIndex_df160, Cond.static yJ0_checkIndex_df160]
def wsL_law0_r15 : List Cond := [Cond.code yJ0_checkIndex_df160 cJ0_checkIndex_df160 2 none, Cond.fieldLink RJ0 1053 "jdk/internal/util/Preconditions" "SIOOBE_FORMATTER" "Ljava/util/function/BiFunction;", Cond.methodLink RJ0 1059 yJ3_checkIndex_8e157, Cond.static yJ3_checkIndex_8e157, Cond.initialized RJ3, Cond.code yJ3_checkIndex_8e157 cJ3_checkIndex_8e157 3 (some .int), Cond.methodLink RJ0 498 yJ2_charAt_3b067, Cond.static yJ2_charAt_3b067, Cond.code yJ2_charAt_3b067 cJ2_charAt_3b067 2 (some .char), Cond.methodLink RJ2 67 yJ2_checkIndex_2214a, Cond.static yJ2_checkIndex_2214a, Cond.code yJ2_checkIndex_2214a cJ2_checkIndex_2214a 2 none, Cond.methodLink RJ2 48 yJ2_length_9d52b, Cond.static yJ2_length_9d52b, Cond.code yJ2_length_9d52b cJ2_length_9d52b 1 (some .int), Cond.methodLink RJ2 414 yJ0_checkIndex_df160, Cond.methodLink RJ2 71 yJ2_getChar_3b067, Cond.static yJ2_getChar_3b067, Cond.code yJ2_getChar_3b067 cJ2_getChar_3b067 2 (some .char), Cond.fieldLink RJ2 44 "java/lang/StringUTF16" "$assertionsDisabled" "Z", Cond.fieldLink RJ2 59 "java/lang/StringUTF16" "HI_BYTE_SHIFT" "I", Cond.fieldLink RJ2 63 "java/lang/StringUTF16" "LO_BYTE_SHIFT" "I", Cond.methodLink RX9 59 yX9_readNumber, Cond.instanceMethod yX9_readNumber]
def wsL_law0_r16 : List Cond := [Cond.selects RX9 yX9_readNumber yX9_readNumber, Cond.code yX9_readNumber cX9_readNumber 2 none, Cond.methodLink RX2 44 yX2_readLine, Cond.instanceMethod yX2_readLine, Cond.selects RX2 yX2_readLine yX2_readLine, Cond.code yX2_readLine cX2_readLine 2 (some .boolean), Cond.fieldLink RX2 59 "SignedBridge$Tokens" "value" "I", Cond.methodLink RX2 56 yX9_refuse, Cond.instanceMethod yX9_refuse, Cond.selects RX9 yX9_refuse yX9_refuse, Cond.code yX9_refuse cX9_refuse 2 (some .boolean), Cond.methodLink RX9 78 yX9_refuseAt, Cond.instanceMethod yX9_refuseAt, Cond.selects RX9 yX9_refuseAt yX9_refuseAt, Cond.code yX9_refuseAt cX9_refuseAt 3 (some .boolean), Cond.fieldLink RX9 82 "SignedBridge$Tokens" "faultAt" "I", Cond.methodLink RX2 62 yX2_readRows, Cond.instanceMethod yX2_readRows, Cond.selects RX2 yX2_readRows yX2_readRows, Cond.code yX2_readRows cX2_readRows 2 (some .boolean), Cond.fieldLink RX2 90 "SignedBridge$Tokens" "taken" "I", Cond.fieldLink RX2 93 "SignedBridge$Plan" "rows" "I", Cond.methodLink RX2 83 yX9_advance, Cond.methodLink RX2 86 yX9_takeNumber]
def wsL_law0_r17 : List Cond := [Cond.instanceMethod yX9_takeNumber, Cond.selects RX9 yX9_takeNumber yX9_takeNumber, Cond.code yX9_takeNumber cX9_takeNumber 3 (some .boolean), Cond.fieldLink RX9 91 "SignedBridge$Tokens" "taken" "I", Cond.fieldLink RX9 94 "SignedBridge$Tokens" "takenAt" "I", Cond.methodLink RX9 85 yX9_refuse, Cond.methodLink RX2 65 yX2_readSigner, Cond.instanceMethod yX2_readSigner, Cond.selects RX2 yX2_readSigner yX2_readSigner, Cond.code yX2_readSigner cX2_readSigner 3 (some .boolean), Cond.fieldLink RX2 99 "SignedBridge$Plan" "signers" "I", Cond.fieldLink RX2 106 "SignedBridge$Plan" "signerNames" "[J", Cond.fieldLink RX2 110 "SignedBridge$Tokens" "takenName" "J", Cond.fieldLink RX2 114 "SignedBridge$Plan" "earnest" "[I", Cond.fieldLink RX2 118 "SignedBridge$Plan" "miles" "[I", Cond.fieldLink RX2 124 "SignedBridge$Plan" "forgers" "I", Cond.methodLink RX2 102 yX9_takeNewName, Cond.instanceMethod yX9_takeNewName, Cond.selects RX9 yX9_takeNewName yX9_takeNewName, Cond.code yX9_takeNewName cX9_takeNewName 2 (some .boolean), Cond.fieldLink RX9 106 "SignedBridge$Tokens" "takenName" "J", Cond.methodLink RX9 97 yX6_signerNamed, Cond.instanceMethod yX6_signerNamed, Cond.selects RX6 yX6_signerNamed yX6_signerNamed]
def wsL_law0_r18 : List Cond := [Cond.code yX6_signerNamed cX6_signerNamed 4 (some .int), Cond.methodLink RX9 103 yX6_loadNamed, Cond.instanceMethod yX6_loadNamed, Cond.selects RX6 yX6_loadNamed yX6_loadNamed, Cond.code yX6_loadNamed cX6_loadNamed 4 (some .int), Cond.methodLink RX2 121 yX9_isKey, Cond.instanceMethod yX9_isKey, Cond.selects RX9 yX9_isKey yX9_isKey, Cond.code yX9_isKey cX9_isKey 2 (some .boolean), Cond.methodLink RX2 68 yX2_readHeir, Cond.instanceMethod yX2_readHeir, Cond.selects RX2 yX2_readHeir yX2_readHeir, Cond.code yX2_readHeir cX2_readHeir 3 (some .boolean), Cond.fieldLink RX2 130 "SignedBridge$Plan" "heir" "[I", Cond.fieldLink RX2 133 "SignedBridge$Tokens" "takenAt" "I", Cond.methodLink RX2 127 yX9_takeSigner, Cond.instanceMethod yX9_takeSigner, Cond.selects RX9 yX9_takeSigner yX9_takeSigner, Cond.code yX9_takeSigner cX9_takeSigner 3 (some .boolean), Cond.methodLink RX2 136 yX9_refuseAt, Cond.methodLink RX2 71 yX2_readLovers, Cond.instanceMethod yX2_readLovers, Cond.selects RX2 yX2_readLovers yX2_readLovers, Cond.code yX2_readLovers cX2_readLovers 4 (some .boolean)]
def wsL_law0_r19 : List Cond := [Cond.fieldLink RX2 139 "SignedBridge$Plan" "lovers" "I", Cond.fieldLink RX2 145 "SignedBridge$Plan" "loves" "[I", Cond.methodLink RX2 142 yX6_areLovers, Cond.instanceMethod yX6_areLovers, Cond.selects RX6 yX6_areLovers yX6_areLovers, Cond.code yX6_areLovers cX6_areLovers 3 (some .boolean), Cond.methodLink RX2 74 yX2_readPlank, Cond.instanceMethod yX2_readPlank, Cond.selects RX2 yX2_readPlank yX2_readPlank, Cond.code yX2_readPlank cX2_readPlank 5 (some .boolean), Cond.fieldLink RX2 152 "SignedBridge$Plan" "owner" "[I", Cond.methodLink RX2 148 yX6_countPlanksOf, Cond.instanceMethod yX6_countPlanksOf, Cond.selects RX6 yX6_countPlanksOf yX6_countPlanksOf, Cond.code yX6_countPlanksOf cX6_countPlanksOf 4 (some .int), Cond.methodLink RX2 77 yX2_readLoad, Cond.instanceMethod yX2_readLoad, Cond.selects RX2 yX2_readLoad yX2_readLoad, Cond.code yX2_readLoad cX2_readLoad 3 (some .boolean), Cond.fieldLink RX2 155 "SignedBridge$Plan" "loads" "I", Cond.fieldLink RX2 158 "SignedBridge$Plan" "loadNames" "[J", Cond.fieldLink RX2 161 "SignedBridge$Plan" "weight" "[I", Cond.fieldLink RX2 164 "SignedBridge$Plan" "wide" "[I", Cond.methodLink RX2 80 yX2_readKeeps]
def wsL_law0_r20 : List Cond := [Cond.instanceMethod yX2_readKeeps, Cond.selects RX2 yX2_readKeeps yX2_readKeeps, Cond.code yX2_readKeeps cX2_readKeeps 2 (some .boolean), Cond.fieldLink RX2 96 "SignedBridge$Plan" "keeps" "I", Cond.methodLink RX2 48 yX9_takeSign, Cond.instanceMethod yX9_takeSign, Cond.selects RX9 yX9_takeSign yX9_takeSign, Cond.code yX9_takeSign cX9_takeSign 2 (some .boolean), Cond.methodLink RX9 88 yX9_isSignOf, Cond.instanceMethod yX9_isSignOf, Cond.selects RX9 yX9_isSignOf yX9_isSignOf, Cond.code yX9_isSignOf cX9_isSignOf 2 (some .boolean), Cond.methodLink RX2 52 yX9_takeEnd, Cond.instanceMethod yX9_takeEnd, Cond.selects RX9 yX9_takeEnd yX9_takeEnd, Cond.code yX9_takeEnd cX9_takeEnd 1 (some .boolean), Cond.methodLink RX11 131 yX6_copyOf, Cond.instanceMethod yX6_copyOf, Cond.selects RX6 yX6_copyOf yX6_copyOf, Cond.code yX6_copyOf cX6_copyOf 2 none, Cond.methodLink RX6 68 arraycopyName, Cond.native arraycopyName, Cond.static arraycopyName, Cond.initialized "java/lang/System"]
def wsL_law0_r21 : List Cond := [Cond.methodLink RX11 135 yX8_begin, Cond.instanceMethod yX8_begin, Cond.selects RX8 yX8_begin yX8_begin, Cond.code yX8_begin cX8_begin 3 none, Cond.fieldLink RX8 36 "SignedBridge$State" "day" "I", Cond.fieldLink RX8 40 "SignedBridge$State" "burnt" "I", Cond.fieldLink RX8 43 "SignedBridge$State" "fallen" "I", Cond.fieldLink RX8 46 "SignedBridge$Plan" "earnest" "[I", Cond.methodLink RX8 49 arraycopyName, Cond.fieldLink RX8 55 "SignedBridge$Plan" "owner" "[I", Cond.methodLink RX8 56 yX6_countPlanksOf, Cond.methodLink RX11 138 yX7_forget, Cond.instanceMethod yX7_forget, Cond.selects RX7 yX7_forget yX7_forget, Cond.code yX7_forget cX7_forget 1 none, Cond.fieldLink RX7 27 "SignedBridge$Sentence" "ones" "I", Cond.fieldLink RX7 31 "SignedBridge$Sentence" "size" "I", Cond.methodLink RL 40 yX12_bridge, Cond.instanceMethod yX12_bridge, Cond.selects RX12 yX12_bridge yX12_bridge, Cond.code yX12_bridge cX12_bridge 3 (some .int), Cond.fieldLink RX12 198 "SignedBridgeModel" "hasRows" "Z", Cond.fieldLink RX12 246 "SignedBridgeModel" "hasKeeps" "Z", Cond.fieldLink RX12 202 "SignedBridgeModel" "hasPlank" "Z"]
def wsL_law0_r22 : List Cond := [Cond.fieldLink RX12 30 "SignedBridgeModel" "kind" "I", Cond.fieldLink RX12 69 "SignedBridgeModel" "place" "I", Cond.fieldLink RX12 258 "SignedBridgeModel" "snapMany" "I", Cond.methodLink RX12 249 yX12_begin, Cond.instanceMethod yX12_begin, Cond.selects RX12 yX12_begin yX12_begin, Cond.code yX12_begin cX12_begin 2 none, Cond.fieldLink RX12 18 "SignedBridgeModel" "size" "I", Cond.fieldLink RX12 27 "SignedBridgeModel" "limit" "I", Cond.fieldLink RX12 66 "SignedBridgeModel" "fault" "I", Cond.fieldLink RX12 21 "SignedBridgeModel" "to" "I", Cond.methodLink RX12 89 yX12_take, Cond.instanceMethod yX12_take, Cond.selects RX12 yX12_take yX12_take, Cond.code yX12_take cX12_take 2 (some .int), Cond.methodLink RX12 82 yX12_go, Cond.instanceMethod yX12_go, Cond.selects RX12 yX12_go yX12_go, Cond.code yX12_go cX12_go 5 none, Cond.fieldLink RX12 24 "SignedBridgeModel" "from" "I", Cond.fieldLink RX12 40 "SignedBridgeModel" "sign" "I", Cond.fieldLink RX12 43 "SignedBridgeModel" "word" "J", Cond.fieldLink RX12 47 "SignedBridgeModel" "number" "I", Cond.constantLong RX12 54 (27)]
def wsL_law0_r23 : List Cond := [Cond.constantLong RX12 56 (96), Cond.methodLink RX12 33 yX12_isLetter, Cond.static yX12_isLetter, Cond.code yX12_isLetter cX12_isLetter 1 (some .boolean), Cond.methodLink RX12 37 yX12_isDigit, Cond.static yX12_isDigit, Cond.code yX12_isDigit cX12_isDigit 1 (some .boolean), Cond.methodLink RX12 50 yX12_tapeAt, Cond.instanceMethod yX12_tapeAt, Cond.selects RX12 yX12_tapeAt yX12_tapeAt, Cond.code yX12_tapeAt cX12_tapeAt 2 (some .int), Cond.methodLink RX12 252 yX12_readLine, Cond.instanceMethod yX12_readLine, Cond.selects RX12 yX12_readLine yX12_readLine, Cond.code yX12_readLine cX12_readLine 1 (some .boolean), Cond.methodLink RX12 219 yX12_isWord, Cond.instanceMethod yX12_isWord, Cond.selects RX12 yX12_isWord yX12_isWord, Cond.code yX12_isWord cX12_isWord 2 (some .boolean), Cond.methodLink RX12 62 yX12_wordOf, Cond.static yX12_wordOf, Cond.code yX12_wordOf cX12_wordOf 1 (some .long), Cond.methodLink RX12 58 yX12_spelt, Cond.static yX12_spelt]
def wsL_law0_r24 : List Cond := [Cond.code yX12_spelt cX12_spelt 9 (some .long), Cond.methodLink RX12 228 yX12_readRows, Cond.instanceMethod yX12_readRows, Cond.selects RX12 yX12_readRows yX12_readRows, Cond.code yX12_readRows cX12_readRows 1 (some .boolean), Cond.methodLink RX12 72 yX12_bad, Cond.instanceMethod yX12_bad, Cond.selects RX12 yX12_bad yX12_bad, Cond.code yX12_bad cX12_bad 2 (some .boolean), Cond.methodLink RX12 205 yX12_readNumber, Cond.instanceMethod yX12_readNumber, Cond.selects RX12 yX12_readNumber yX12_readNumber, Cond.code yX12_readNumber cX12_readNumber 3 (some .boolean), Cond.fieldLink RX12 79 "SignedBridgeModel" "told" "I", Cond.methodLink RX12 75 yX12_isIn, Cond.static yX12_isIn, Cond.code yX12_isIn cX12_isIn 3 (some .boolean), Cond.methodLink RX12 209 yX12_put, Cond.instanceMethod yX12_put, Cond.selects RX12 yX12_put yX12_put, Cond.code yX12_put cX12_put 3 (some .boolean), Cond.methodLink RX12 231 yX12_readSigner, Cond.instanceMethod yX12_readSigner, Cond.selects RX12 yX12_readSigner yX12_readSigner]
def wsL_law0_r25 : List Cond := [Cond.code yX12_readSigner cX12_readSigner 2 (some .boolean), Cond.methodLink RX12 213 yX12_readFirst, Cond.instanceMethod yX12_readFirst, Cond.selects RX12 yX12_readFirst yX12_readFirst, Cond.code yX12_readFirst cX12_readFirst 3 (some .boolean), Cond.methodLink RX12 216 yX12_readNew, Cond.instanceMethod yX12_readNew, Cond.selects RX12 yX12_readNew yX12_readNew, Cond.code yX12_readNew cX12_readNew 2 (some .boolean), Cond.methodLink RX12 190 yX12_isName, Cond.instanceMethod yX12_isName, Cond.selects RX12 yX12_isName yX12_isName, Cond.code yX12_isName cX12_isName 2 (some .boolean), Cond.methodLink RX12 194 yX12_findIn, Cond.static yX12_findIn, Cond.code yX12_findIn cX12_findIn 6 (some .int), Cond.methodLink RX12 234 yX12_readHeir, Cond.instanceMethod yX12_readHeir, Cond.selects RX12 yX12_readHeir yX12_readHeir, Cond.code yX12_readHeir cX12_readHeir 2 (some .boolean), Cond.methodLink RX12 222 yX12_isSignerTold, Cond.instanceMethod yX12_isSignerTold, Cond.selects RX12 yX12_isSignerTold yX12_isSignerTold, Cond.code yX12_isSignerTold cX12_isSignerTold 1 (some .boolean)]
def wsL_law0_r26 : List Cond := [Cond.methodLink RX12 237 yX12_readLovers, Cond.instanceMethod yX12_readLovers, Cond.selects RX12 yX12_readLovers yX12_readLovers, Cond.code yX12_readLovers cX12_readLovers 2 (some .boolean), Cond.methodLink RX12 225 yX12_has, Cond.static yX12_has, Cond.code yX12_has cX12_has 2 (some .boolean), Cond.methodLink RX12 240 yX12_readPlank, Cond.instanceMethod yX12_readPlank, Cond.selects RX12 yX12_readPlank yX12_readPlank, Cond.code yX12_readPlank cX12_readPlank 4 (some .boolean), Cond.methodLink RX12 243 yX12_readLoad, Cond.instanceMethod yX12_readLoad, Cond.selects RX12 yX12_readLoad yX12_readLoad, Cond.code yX12_readLoad cX12_readLoad 2 (some .boolean), Cond.methodLink RX12 255 yX12_readEnd, Cond.instanceMethod yX12_readEnd, Cond.selects RX12 yX12_readEnd yX12_readEnd, Cond.code yX12_readEnd cX12_readEnd 1 (some .boolean), Cond.methodLink RX12 86 yX12_isSign, Cond.instanceMethod yX12_isSign, Cond.selects RX12 yX12_isSign yX12_isSign, Cond.code yX12_isSign cX12_isSign 2 (some .boolean), Cond.methodLink RL 41 yX11_fault]
def wsL_law0_r27 : List Cond := [Cond.instanceMethod yX11_fault, Cond.selects RX11 yX11_fault yX11_fault, Cond.code yX11_fault cX11_fault 1 (some .int), Cond.fieldLink RX11 147 "SignedBridge$Tokens" "faultKind" "I", Cond.methodLink RL 44 yX12_fault, Cond.instanceMethod yX12_fault, Cond.selects RX12 yX12_fault yX12_fault, Cond.code yX12_fault cX12_fault 1 (some .int), Cond.methodLink RL 45 yL_signer, Cond.static yL_signer, Cond.initialized RL, Cond.codeWith yL_signer cL_signer 5 (some .int) [(0, 10, 13, 13)], Cond.classLink RL 13 "java/util/NoSuchElementException", Cond.methodLink RL 7 yX11_signer, Cond.instanceMethod yX11_signer, Cond.selects RX11 yX11_signer yX11_signer, Cond.code yX11_signer cX11_signer 3 (some .int), Cond.classLink RX11 154 "java/util/NoSuchElementException", Cond.initialized "java/util/NoSuchElementException", Cond.fieldLink RX11 157 "SignedBridge$State" "earnest" "[I", Cond.fieldLink RX11 161 "SignedBridge$Plan" "miles" "[I", Cond.fieldLink RX11 164 "SignedBridge$Plan" "forgers" "I", Cond.fieldLink RX11 166 "SignedBridge$Plan" "heir" "[I", Cond.fieldLink RX11 169 "SignedBridge$Plan" "loves" "[I"]
def wsL_law0_r28 : List Cond := [Cond.fieldLink RX11 175 "SignedBridge$State" "held" "[I", Cond.fieldLink RX11 178 "SignedBridge$State" "died" "[I", Cond.methodLink RX11 150 yX11_isSigner, Cond.instanceMethod yX11_isSigner, Cond.selects RX11 yX11_isSigner yX11_isSigner, Cond.code yX11_isSigner cX11_isSigner 2 (some .boolean), Cond.fieldLink RX11 369 "SignedBridge$Plan" "signers" "I", Cond.methodLink RX11 172 yX8_lives, Cond.instanceMethod yX8_lives, Cond.selects RX8 yX8_lives yX8_lives, Cond.code yX8_lives cX8_lives 2 (some .boolean), Cond.methodLink RL 50 yX12_signer, Cond.instanceMethod yX12_signer, Cond.selects RX12 yX12_signer yX12_signer, Cond.code yX12_signer cX12_signer 3 (some .int), Cond.methodLink RX12 277 yX12_isSigner, Cond.instanceMethod yX12_isSigner, Cond.selects RX12 yX12_isSigner yX12_isSigner, Cond.code yX12_isSigner cX12_isSigner 2 (some .boolean), Cond.methodLink RX12 280 yX12_refuse, Cond.instanceMethod yX12_refuse, Cond.selects RX12 yX12_refuse yX12_refuse, Cond.code yX12_refuse cX12_refuse 1 (some .int), Cond.methodLink RX12 283 yX12_isDead]
def wsL_law0_r29 : List Cond := [Cond.instanceMethod yX12_isDead, Cond.selects RX12 yX12_isDead yX12_isDead, Cond.code yX12_isDead cX12_isDead 2 (some .boolean), Cond.methodLink RX12 286 yX12_planksOf, Cond.instanceMethod yX12_planksOf, Cond.selects RX12 yX12_planksOf yX12_planksOf, Cond.code yX12_planksOf cX12_planksOf 4 (some .int), Cond.methodLink RX12 264 yX12_places, Cond.instanceMethod yX12_places, Cond.selects RX12 yX12_places yX12_places, Cond.code yX12_places cX12_places 1 (some .int), Cond.methodLink RL 51 yX12_thrown, Cond.instanceMethod yX12_thrown, Cond.selects RX12 yX12_thrown yX12_thrown, Cond.code yX12_thrown cX12_thrown 1 (some .int), Cond.methodLink RL 54 yL_plank, Cond.static yL_plank, Cond.codeWith yL_plank cL_plank 6 (some .int) [(0, 12, 15, 13)], Cond.methodLink RL 15 yX11_plank, Cond.instanceMethod yX11_plank, Cond.selects RX11 yX11_plank yX11_plank, Cond.code yX11_plank cX11_plank 5 (some .int), Cond.fieldLink RX11 185 "SignedBridge$State" "owner" "[I", Cond.methodLink RX11 192 Lib.Math.max.name]
def wsL_law0_r30 : List Cond := [Cond.static Lib.Math.max.name, Cond.code Lib.Math.max.name Lib.Math.max.code 2 (some .int), Cond.fieldLink RX11 198 "SignedBridge$State" "singed" "[I", Cond.methodLink RX11 181 yX11_isPlace, Cond.instanceMethod yX11_isPlace, Cond.selects RX11 yX11_isPlace yX11_isPlace, Cond.code yX11_isPlace cX11_isPlace 3 (some .boolean), Cond.methodLink RX11 279 yX11_isRow, Cond.instanceMethod yX11_isRow, Cond.selects RX11 yX11_isRow yX11_isRow, Cond.code yX11_isRow cX11_isRow 2 (some .boolean), Cond.fieldLink RX11 398 "SignedBridge$Plan" "rows" "I", Cond.methodLink RX11 188 yX10_bearing, Cond.static yX10_bearing, Cond.code yX10_bearing cX10_bearing 7 (some .int), Cond.fieldLink RX10 24 "SignedBridge$State" "owner" "[I", Cond.fieldLink RX10 29 "SignedBridge$State" "earnest" "[I", Cond.fieldLink RX10 32 "SignedBridge$State" "singed" "[I", Cond.methodLink RX10 41 Lib.Math.max.name, Cond.methodLink RX10 35 yX6_areLovers, Cond.methodLink RL 57 yX12_plank, Cond.instanceMethod yX12_plank, Cond.selects RX12 yX12_plank yX12_plank, Cond.code yX12_plank cX12_plank 5 (some .int)]
def wsL_law0_r31 : List Cond := [Cond.methodLink RX12 289 yX12_isPlace, Cond.instanceMethod yX12_isPlace, Cond.selects RX12 yX12_isPlace yX12_isPlace, Cond.code yX12_isPlace cX12_isPlace 3 (some .boolean), Cond.methodLink RX12 261 yX12_isRow, Cond.instanceMethod yX12_isRow, Cond.selects RX12 yX12_isRow yX12_isRow, Cond.code yX12_isRow cX12_isRow 2 (some .boolean), Cond.methodLink RX12 292 yX12_layWhose, Cond.instanceMethod yX12_layWhose, Cond.selects RX12 yX12_layWhose yX12_layWhose, Cond.code yX12_layWhose cX12_layWhose 2 none, Cond.fieldLink RX12 267 "SignedBridgeModel" "forging" "I", Cond.methodLink RX12 274 yX12_bearsAt, Cond.instanceMethod yX12_bearsAt, Cond.selects RX12 yX12_bearsAt yX12_bearsAt, Cond.code yX12_bearsAt cX12_bearsAt 4 (some .int), Cond.methodLink RX12 270 yX12_besides, Cond.instanceMethod yX12_besides, Cond.selects RX12 yX12_besides yX12_besides, Cond.code yX12_besides cX12_besides 3 (some .int), Cond.methodLink RL 58 yL_load, Cond.static yL_load, Cond.codeWith yL_load cL_load 5 (some .int) [(0, 10, 13, 13)]]
def wsL_law0_r32 : List Cond := [Cond.methodLink RL 19 yX11_load, Cond.instanceMethod yX11_load, Cond.selects RX11 yX11_load yX11_load, Cond.code yX11_load cX11_load 3 (some .int), Cond.fieldLink RX11 204 "SignedBridge$Plan" "weight" "[I", Cond.fieldLink RX11 207 "SignedBridge$Plan" "wide" "[I", Cond.fieldLink RX11 210 "SignedBridge$State" "fallen" "I", Cond.fieldLink RX11 213 "SignedBridge$State" "crossed" "[I", Cond.methodLink RX11 201 yX11_isLoad, Cond.instanceMethod yX11_isLoad, Cond.selects RX11 yX11_isLoad yX11_isLoad, Cond.code yX11_isLoad cX11_isLoad 2 (some .boolean), Cond.fieldLink RX11 401 "SignedBridge$Plan" "loads" "I", Cond.methodLink RL 60 yX12_load, Cond.instanceMethod yX12_load, Cond.selects RX12 yX12_load yX12_load, Cond.code yX12_load cX12_load 3 (some .int), Cond.methodLink RX12 295 yX12_isLoad, Cond.instanceMethod yX12_isLoad, Cond.selects RX12 yX12_isLoad yX12_isLoad, Cond.code yX12_isLoad cX12_isLoad 2 (some .boolean), Cond.methodLink RL 61 yX11_now, Cond.instanceMethod yX11_now, Cond.selects RX11 yX11_now yX11_now]
def wsL_law0_r33 : List Cond := [Cond.code yX11_now cX11_now 2 (some .int), Cond.fieldLink RX11 216 "SignedBridge$State" "day" "I", Cond.fieldLink RX11 230 "SignedBridge$State" "burnt" "I", Cond.methodLink RX11 219 yX8_deadBits, Cond.instanceMethod yX8_deadBits, Cond.selects RX8 yX8_deadBits yX8_deadBits, Cond.code yX8_deadBits cX8_deadBits 4 (some .int), Cond.fieldLink RX8 60 "SignedBridge$Plan" "signers" "I", Cond.methodLink RX8 63 yX8_lives, Cond.methodLink RX11 223 yX8_countPlanks, Cond.instanceMethod yX8_countPlanks, Cond.selects RX8 yX8_countPlanks yX8_countPlanks, Cond.code yX8_countPlanks cX8_countPlanks 3 (some .int), Cond.methodLink RX11 227 yX8_countCrossings, Cond.instanceMethod yX8_countCrossings, Cond.selects RX8 yX8_countCrossings yX8_countCrossings, Cond.code yX8_countCrossings cX8_countCrossings 3 (some .int), Cond.methodLink RX11 233 yX10_bearInAll, Cond.instanceMethod yX10_bearInAll, Cond.selects RX10 yX10_bearInAll yX10_bearInAll, Cond.code yX10_bearInAll cX10_bearInAll 5 (some .int), Cond.fieldLink RX10 51 "SignedBridge$Plan" "rows" "I", Cond.methodLink RX10 58 yX10_weigh, Cond.instanceMethod yX10_weigh]
def wsL_law0_r34 : List Cond := [Cond.selects RX10 yX10_weigh yX10_weigh, Cond.code yX10_weigh cX10_weigh 4 none, Cond.fieldLink RX10 55 "SignedBridge$Plan" "forgers" "I", Cond.methodLink RX10 47 yX10_bearing, Cond.methodLink RL 65 yX12_now, Cond.instanceMethod yX12_now, Cond.selects RX12 yX12_now yX12_now, Cond.code yX12_now cX12_now 4 (some .int), Cond.methodLink RL 66 yX11_sign, Cond.instanceMethod yX11_sign, Cond.selects RX11 yX11_sign yX11_sign, Cond.code yX11_sign cX11_sign 4 (some .int), Cond.methodLink RX11 237 yX11_rememberState, Cond.instanceMethod yX11_rememberState, Cond.selects RX11 yX11_rememberState yX11_rememberState, Cond.code yX11_rememberState cX11_rememberState 1 none, Cond.fieldLink RX11 270 "SignedBridge" "pastNext" "I", Cond.methodLink RX11 273 yX8_copyOf, Cond.instanceMethod yX8_copyOf, Cond.selects RX8 yX8_copyOf yX8_copyOf, Cond.code yX8_copyOf cX8_copyOf 2 none, Cond.methodLink RX11 240 yX8_putPlank, Cond.instanceMethod yX8_putPlank, Cond.selects RX8 yX8_putPlank yX8_putPlank]
def wsL_law0_r35 : List Cond := [Cond.code yX8_putPlank cX8_putPlank 3 (some .int), Cond.methodLink RX11 243 yX11_keepIfDone, Cond.instanceMethod yX11_keepIfDone, Cond.selects RX11 yX11_keepIfDone yX11_keepIfDone, Cond.code yX11_keepIfDone cX11_keepIfDone 2 (some .int), Cond.methodLink RX11 263 yX11_keepRemembered, Cond.instanceMethod yX11_keepRemembered, Cond.selects RX11 yX11_keepRemembered yX11_keepRemembered, Cond.code yX11_keepRemembered cX11_keepRemembered 1 none, Cond.methodLink RX11 412 Lib.Math.min.name, Cond.methodLink RL 69 yX12_sign, Cond.instanceMethod yX12_sign, Cond.selects RX12 yX12_sign yX12_sign, Cond.code yX12_sign cX12_sign 5 (some .int), Cond.methodLink RX12 340 yX12_whySign, Cond.instanceMethod yX12_whySign, Cond.selects RX12 yX12_whySign yX12_whySign, Cond.code yX12_whySign cX12_whySign 3 (some .int), Cond.methodLink RX12 343 yX12_snap, Cond.instanceMethod yX12_snap, Cond.selects RX12 yX12_snap yX12_snap, Cond.code yX12_snap cX12_snap 2 none, Cond.methodLink RX12 346 yX12_doSign, Cond.instanceMethod yX12_doSign]
def wsL_law0_r36 : List Cond := [Cond.selects RX12 yX12_doSign yX12_doSign, Cond.code yX12_doSign cX12_doSign 3 none, Cond.methodLink RL 70 yX11_burn, Cond.instanceMethod yX11_burn, Cond.selects RX11 yX11_burn yX11_burn, Cond.code yX11_burn cX11_burn 3 (some .int), Cond.methodLink RX11 247 yX8_burnPlank, Cond.instanceMethod yX8_burnPlank, Cond.selects RX8 yX8_burnPlank yX8_burnPlank, Cond.code yX8_burnPlank cX8_burnPlank 3 (some .int), Cond.methodLink RX8 67 yX8_makeGap, Cond.instanceMethod yX8_makeGap, Cond.selects RX8 yX8_makeGap yX8_makeGap, Cond.code yX8_makeGap cX8_makeGap 2 none, Cond.methodLink RX8 71 yX8_singe, Cond.instanceMethod yX8_singe, Cond.selects RX8 yX8_singe yX8_singe, Cond.code yX8_singe cX8_singe 2 none, Cond.methodLink RL 73 yX12_burn, Cond.instanceMethod yX12_burn, Cond.selects RX12 yX12_burn yX12_burn, Cond.code yX12_burn cX12_burn 3 (some .int), Cond.methodLink RX12 349 yX12_doBurn, Cond.instanceMethod yX12_doBurn]
def wsL_law0_r37 : List Cond := [Cond.selects RX12 yX12_doBurn yX12_doBurn, Cond.code yX12_doBurn cX12_doBurn 2 none, Cond.methodLink RX12 325 yX12_open, Cond.instanceMethod yX12_open, Cond.selects RX12 yX12_open yX12_open, Cond.code yX12_open cX12_open 2 none, Cond.methodLink RX12 328 yX12_singe, Cond.instanceMethod yX12_singe, Cond.selects RX12 yX12_singe yX12_singe, Cond.code yX12_singe cX12_singe 2 none, Cond.methodLink RX12 312 yX12_least, Cond.static yX12_least, Cond.code yX12_least cX12_least 2 (some .int), Cond.methodLink RL 74 yX11_breaks, Cond.instanceMethod yX11_breaks, Cond.selects RX11 yX11_breaks yX11_breaks, Cond.code yX11_breaks cX11_breaks 2 (some .int), Cond.methodLink RX11 250 yX8_breakWord, Cond.instanceMethod yX8_breakWord, Cond.selects RX8 yX8_breakWord yX8_breakWord, Cond.code yX8_breakWord cX8_breakWord 2 (some .int), Cond.methodLink RL 77 yX12_breaks, Cond.instanceMethod yX12_breaks, Cond.selects RX12 yX12_breaks yX12_breaks]
def wsL_law0_r38 : List Cond := [Cond.code yX12_breaks cX12_breaks 2 (some .int), Cond.methodLink RL 78 yX11_holds, Cond.instanceMethod yX11_holds, Cond.selects RX11 yX11_holds yX11_holds, Cond.code yX11_holds cX11_holds 2 (some .int), Cond.methodLink RX11 253 yX8_holdWord, Cond.instanceMethod yX8_holdWord, Cond.selects RX8 yX8_holdWord yX8_holdWord, Cond.code yX8_holdWord cX8_holdWord 2 (some .int), Cond.methodLink RL 81 yX12_holds, Cond.instanceMethod yX12_holds, Cond.selects RX12 yX12_holds yX12_holds, Cond.code yX12_holds cX12_holds 3 (some .int), Cond.methodLink RX12 352 yX12_whyHold, Cond.instanceMethod yX12_whyHold, Cond.selects RX12 yX12_whyHold yX12_whyHold, Cond.code yX12_whyHold cX12_whyHold 2 (some .int), Cond.methodLink RL 82 yX11_die, Cond.instanceMethod yX11_die, Cond.selects RX11 yX11_die yX11_die, Cond.code yX11_die cX11_die 2 (some .int), Cond.methodLink RX11 256 yX8_endLife, Cond.instanceMethod yX8_endLife, Cond.selects RX8 yX8_endLife yX8_endLife]
def wsL_law0_r39 : List Cond := [Cond.code yX8_endLife cX8_endLife 2 (some .int), Cond.methodLink RL 85 yX12_die, Cond.instanceMethod yX12_die, Cond.selects RX12 yX12_die yX12_die, Cond.code yX12_die cX12_die 2 (some .int), Cond.methodLink RX12 355 yX12_doDie, Cond.instanceMethod yX12_doDie, Cond.selects RX12 yX12_doDie yX12_doDie, Cond.code yX12_doDie cX12_doDie 2 none, Cond.methodLink RL 86 yX11_cross, Cond.instanceMethod yX11_cross, Cond.selects RX11 yX11_cross yX11_cross, Cond.code yX11_cross cX11_cross 3 (some .int), Cond.methodLink RX11 259 yX10_tryCrossing, Cond.instanceMethod yX10_tryCrossing, Cond.selects RX10 yX10_tryCrossing yX10_tryCrossing, Cond.code yX10_tryCrossing cX10_tryCrossing 5 (some .int), Cond.fieldLink RX10 85 "SignedBridge$State" "fallen" "I", Cond.fieldLink RX10 88 "SignedBridge$State" "crossed" "[I", Cond.fieldLink RX10 69 "SignedBridge$Plan" "wide" "[I", Cond.methodLink RX10 78 yX10_lostRow, Cond.instanceMethod yX10_lostRow, Cond.selects RX10 yX10_lostRow yX10_lostRow, Cond.code yX10_lostRow cX10_lostRow 6 (some .int)]
def wsL_law0_r40 : List Cond := [Cond.fieldLink RX10 66 "SignedBridge$Plan" "weight" "[I", Cond.methodLink RX10 72 yX10_possibleSteps, Cond.instanceMethod yX10_possibleSteps, Cond.selects RX10 yX10_possibleSteps yX10_possibleSteps, Cond.code yX10_possibleSteps cX10_possibleSteps 7 (some .int), Cond.methodLink RX10 62 yX10_bearTogether, Cond.instanceMethod yX10_bearTogether, Cond.selects RX10 yX10_bearTogether yX10_bearTogether, Cond.code yX10_bearTogether cX10_bearTogether 7 (some .int), Cond.methodLink RX10 91 yX10_dropPlanks, Cond.instanceMethod yX10_dropPlanks, Cond.selects RX10 yX10_dropPlanks yX10_dropPlanks, Cond.code yX10_dropPlanks cX10_dropPlanks 8 none, Cond.methodLink RX10 95 yX8_makeGap, Cond.methodLink RL 89 yX12_cross, Cond.instanceMethod yX12_cross, Cond.selects RX12 yX12_cross yX12_cross, Cond.code yX12_cross cX12_cross 2 (some .int), Cond.methodLink RX12 358 yX12_doCross, Cond.instanceMethod yX12_doCross, Cond.selects RX12 yX12_doCross yX12_doCross, Cond.code yX12_doCross cX12_doCross 2 (some .int), Cond.methodLink RX12 334 yX12_hasPath, Cond.instanceMethod yX12_hasPath]
def wsL_law0_r41 : List Cond := [Cond.selects RX12 yX12_hasPath yX12_hasPath, Cond.code yX12_hasPath cX12_hasPath 2 (some .boolean), Cond.methodLink RX12 319 yX12_bestOf, Cond.instanceMethod yX12_bestOf, Cond.selects RX12 yX12_bestOf yX12_bestOf, Cond.code yX12_bestOf cX12_bestOf 4 (some .int), Cond.methodLink RX12 315 yX12_layBest, Cond.instanceMethod yX12_layBest, Cond.selects RX12 yX12_layBest yX12_layBest, Cond.code yX12_layBest cX12_layBest 8 none, Cond.constant RX12 308 (100000), Cond.methodLink RX12 304 yX12_spareAt, Cond.instanceMethod yX12_spareAt, Cond.selects RX12 yX12_spareAt yX12_spareAt, Cond.code yX12_spareAt cX12_spareAt 6 (some .int), Cond.methodLink RX12 298 yX12_sumAt, Cond.instanceMethod yX12_sumAt, Cond.selects RX12 yX12_sumAt yX12_sumAt, Cond.code yX12_sumAt cX12_sumAt 6 (some .int), Cond.methodLink RX12 309 yX12_follows, Cond.static yX12_follows, Cond.code yX12_follows cX12_follows 2 (some .boolean), Cond.methodLink RX12 302 yX12_size, Cond.static yX12_size]
def wsL_law0_r42 : List Cond := [Cond.code yX12_size cX12_size 1 (some .int), Cond.methodLink RX12 337 yX12_doFall, Cond.instanceMethod yX12_doFall, Cond.selects RX12 yX12_doFall yX12_doFall, Cond.code yX12_doFall cX12_doFall 6 none, Cond.methodLink RX12 331 yX12_stuckAt, Cond.instanceMethod yX12_stuckAt, Cond.selects RX12 yX12_stuckAt yX12_stuckAt, Cond.code yX12_stuckAt cX12_stuckAt 8 (some .int), Cond.methodLink RL 90 yX11_days, Cond.instanceMethod yX11_days, Cond.selects RX11 yX11_days yX11_days, Cond.code yX11_days cX11_days 3 (some .int), Cond.methodLink RX11 266 yX8_passDays, Cond.instanceMethod yX8_passDays, Cond.selects RX8 yX8_passDays yX8_passDays, Cond.code yX8_passDays cX8_passDays 4 (some .int), Cond.fieldLink RX8 74 "SignedBridge$Plan" "keeps" "I", Cond.methodLink RX8 77 yX8_passDay, Cond.instanceMethod yX8_passDay, Cond.selects RX8 yX8_passDay yX8_passDay, Cond.code yX8_passDay cX8_passDay 5 (some .boolean), Cond.fieldLink RX8 81 "SignedBridge$Plan" "heir" "[I", Cond.methodLink RX8 84 yX8_handDown]
def wsL_law0_r43 : List Cond := [Cond.instanceMethod yX8_handDown, Cond.selects RX8 yX8_handDown yX8_handDown, Cond.code yX8_handDown cX8_handDown 4 none, Cond.methodLink RL 93 yX12_days, Cond.instanceMethod yX12_days, Cond.selects RX12 yX12_days yX12_days, Cond.code yX12_days cX12_days 2 (some .int), Cond.methodLink RX12 367 yX12_passDays, Cond.instanceMethod yX12_passDays, Cond.selects RX12 yX12_passDays yX12_passDays, Cond.code yX12_passDays cX12_passDays 4 (some .int), Cond.methodLink RX12 364 yX12_oneDay, Cond.instanceMethod yX12_oneDay, Cond.selects RX12 yX12_oneDay yX12_oneDay, Cond.code yX12_oneDay cX12_oneDay 2 none, Cond.methodLink RX12 361 yX12_inherit, Cond.instanceMethod yX12_inherit, Cond.selects RX12 yX12_inherit yX12_inherit, Cond.code yX12_inherit cX12_inherit 4 none, Cond.methodLink RL 94 yX11_undo, Cond.instanceMethod yX11_undo, Cond.selects RX11 yX11_undo yX11_undo, Cond.code yX11_undo cX11_undo 1 (some .int), Cond.methodLink RL 97 yX12_undo]
def wsL_law0_r44 : List Cond := [Cond.instanceMethod yX12_undo, Cond.selects RX12 yX12_undo yX12_undo, Cond.code yX12_undo cX12_undo 2 (some .int), Cond.methodLink RL 98 yX11_spare, Cond.instanceMethod yX11_spare, Cond.selects RX11 yX11_spare yX11_spare, Cond.code yX11_spare cX11_spare 2 (some .int), Cond.methodLink RX11 276 yX10_findSafest, Cond.instanceMethod yX10_findSafest, Cond.selects RX10 yX10_findSafest yX10_findSafest, Cond.code yX10_findSafest cX10_findSafest 5 (some .int), Cond.methodLink RX10 99 yX10_spareSteps, Cond.instanceMethod yX10_spareSteps, Cond.selects RX10 yX10_spareSteps yX10_spareSteps, Cond.code yX10_spareSteps cX10_spareSteps 8 none, Cond.methodLink RX10 103 yX10_greatestLeast, Cond.instanceMethod yX10_greatestLeast, Cond.selects RX10 yX10_greatestLeast yX10_greatestLeast, Cond.code yX10_greatestLeast cX10_greatestLeast 5 (some .int), Cond.methodLink RX10 114 Lib.Math.min.name, Cond.methodLink RX10 111 yX10_bestOpen, Cond.instanceMethod yX10_bestOpen, Cond.selects RX10 yX10_bestOpen yX10_bestOpen, Cond.code yX10_bestOpen cX10_bestOpen 5 (some .int)]
def wsL_law0_r45 : List Cond := [Cond.methodLink RX10 107 yX10_followFirst, Cond.instanceMethod yX10_followFirst, Cond.selects RX10 yX10_followFirst yX10_followFirst, Cond.code yX10_followFirst cX10_followFirst 6 none, Cond.methodLink RL 101 yX12_spare, Cond.instanceMethod yX12_spare, Cond.selects RX12 yX12_spare yX12_spare, Cond.code yX12_spare cX12_spare 2 (some .int), Cond.methodLink RL 102 yX11_path, Cond.instanceMethod yX11_path, Cond.selects RX11 yX11_path yX11_path, Cond.code yX11_path cX11_path 3 (some .int), Cond.fieldLink RX11 282 "SignedBridge$Ways" "steps" "[I", Cond.methodLink RL 105 yX12_path, Cond.instanceMethod yX12_path, Cond.selects RX12 yX12_path yX12_path, Cond.code yX12_path cX12_path 3 (some .int), Cond.methodLink RX12 322 yX12_layPath, Cond.instanceMethod yX12_layPath, Cond.selects RX12 yX12_layPath yX12_layPath, Cond.code yX12_layPath cX12_layPath 5 (some .boolean), Cond.methodLink RL 106 yX11_limit, Cond.instanceMethod yX11_limit, Cond.selects RX11 yX11_limit yX11_limit]
def wsL_law0_r46 : List Cond := [Cond.code yX11_limit cX11_limit 2 (some .int), Cond.methodLink RX11 285 yX10_mostWeight, Cond.instanceMethod yX10_mostWeight, Cond.selects RX10 yX10_mostWeight yX10_mostWeight, Cond.code yX10_mostWeight cX10_mostWeight 4 (some .int), Cond.methodLink RL 109 yX12_limit, Cond.instanceMethod yX12_limit, Cond.selects RX12 yX12_limit yX12_limit, Cond.code yX12_limit cX12_limit 6 (some .int), Cond.methodLink RL 110 yX11_asks, Cond.instanceMethod yX11_asks, Cond.selects RX11 yX11_asks yX11_asks, Cond.code yX11_asks cX11_asks 2 (some .int), Cond.methodLink RX11 288 yX0_find, Cond.instanceMethod yX0_find, Cond.selects RX0 yX0_find yX0_find, Cond.code yX0_find cX0_find 6 (some .int), Cond.fieldLink RX0 41 "SignedBridge$Plan" "rows" "I", Cond.fieldLink RX0 51 "SignedBridge$Plan" "weight" "[I", Cond.constant RX0 54 (1000000), Cond.methodLink RX0 37 yX8_copyOf, Cond.methodLink RX0 47 yX0_price, Cond.instanceMethod yX0_price, Cond.selects RX0 yX0_price yX0_price]
def wsL_law0_r47 : List Cond := [Cond.code yX0_price cX0_price 13 (some .int), Cond.fieldLink RX0 63 "SignedBridge$Plan" "wide" "[I", Cond.fieldLink RX0 77 "SignedBridge$State" "owner" "[I", Cond.methodLink RX0 80 arraycopyName, Cond.methodLink RX0 66 yX0_countWays, Cond.instanceMethod yX0_countWays, Cond.selects RX0 yX0_countWays yX0_countWays, Cond.code yX0_countWays cX0_countWays 7 (some .int), Cond.fieldLink RX0 86 "SignedBridge$Plan" "signers" "I", Cond.methodLink RX0 70 yX0_tryWay, Cond.instanceMethod yX0_tryWay, Cond.selects RX0 yX0_tryWay yX0_tryWay, Cond.code yX0_tryWay cX0_tryWay 10 (some .int), Cond.fieldLink RX0 93 "SignedBridge$Plan" "miles" "[I", Cond.methodLink RX0 89 yX8_lives, Cond.methodLink RX0 73 yX0_bearTogether, Cond.instanceMethod yX0_bearTogether, Cond.selects RX0 yX0_bearTogether yX0_bearTogether, Cond.code yX0_bearTogether cX0_bearTogether 6 (some .int), Cond.fieldLink RX0 96 "SignedBridge$Plan" "forgers" "I", Cond.methodLink RX0 99 yX10_bearing, Cond.methodLink RX0 55 yX0_addUp, Cond.instanceMethod yX0_addUp, Cond.selects RX0 yX0_addUp yX0_addUp]
def wsL_law0_r48 : List Cond := [Cond.code yX0_addUp cX0_addUp 6 (some .int), Cond.methodLink RX0 111 Lib.Math.min.name, Cond.methodLink RX0 107 yX0_leastOpen, Cond.instanceMethod yX0_leastOpen, Cond.selects RX0 yX0_leastOpen yX0_leastOpen, Cond.code yX0_leastOpen cX0_leastOpen 5 (some .int), Cond.methodLink RX0 59 yX0_followFirst, Cond.instanceMethod yX0_followFirst, Cond.selects RX0 yX0_followFirst yX0_followFirst, Cond.code yX0_followFirst cX0_followFirst 10 none, Cond.methodLink RL 113 yX12_asks, Cond.instanceMethod yX12_asks, Cond.selects RX12 yX12_asks yX12_asks, Cond.code yX12_asks cX12_asks 9 (some .int), Cond.fieldLink RX12 380 "SignedBridgeModel" "askedRows" "I", Cond.methodLink RX12 377 yX12_priceAt, Cond.instanceMethod yX12_priceAt, Cond.selects RX12 yX12_priceAt yX12_priceAt, Cond.code yX12_priceAt cX12_priceAt 5 (some .int), Cond.fieldLink RX12 370 "SignedBridgeModel" "cheapest" "I", Cond.methodLink RX12 373 yX12_trySigns, Cond.instanceMethod yX12_trySigns, Cond.selects RX12 yX12_trySigns yX12_trySigns, Cond.code yX12_trySigns cX12_trySigns 8 none]
def wsL_law0_r49 : List Cond := [Cond.methodLink RL 114 yX11_asked, Cond.instanceMethod yX11_asked, Cond.selects RX11 yX11_asked yX11_asked, Cond.code yX11_asked cX11_asked 3 (some .int), Cond.fieldLink RX11 291 "SignedBridge$Asks" "asked" "[I", Cond.methodLink RL 117 yX12_asked, Cond.instanceMethod yX12_asked, Cond.selects RX12 yX12_asked yX12_asked, Cond.code yX12_asked cX12_asked 3 (some .int), Cond.methodLink RL 118 yX11_keystone, Cond.instanceMethod yX11_keystone, Cond.selects RX11 yX11_keystone yX11_keystone, Cond.code yX11_keystone cX11_keystone 1 (some .int), Cond.methodLink RX11 294 yX4_findKeystone, Cond.instanceMethod yX4_findKeystone, Cond.selects RX4 yX4_findKeystone yX4_findKeystone, Cond.code yX4_findKeystone cX4_findKeystone 8 (some .int), Cond.fieldLink RX4 25 "SignedBridge$Plan" "signers" "I", Cond.fieldLink RX4 35 "SignedBridge$State" "owner" "[I", Cond.methodLink RX4 31 yX8_copyOf, Cond.methodLink RX4 38 yX8_makeGap, Cond.methodLink RX4 42 yX10_ableLoads, Cond.instanceMethod yX10_ableLoads, Cond.selects RX10 yX10_ableLoads yX10_ableLoads]
def wsL_law0_r50 : List Cond := [Cond.code yX10_ableLoads cX10_ableLoads 5 (some .int), Cond.fieldLink RX10 82 "SignedBridge$Plan" "loads" "I", Cond.methodLink RX4 48 yJ6_bitCount_0f7a4, Cond.static yJ6_bitCount_0f7a4, Cond.initialized RJ6, Cond.code yJ6_bitCount_0f7a4 cJ6_bitCount_0f7a4 1 (some .int), Cond.constant RJ6 265 (1431655765), Cond.constant RJ6 266 (858993459), Cond.constant RJ6 267 (252645135), Cond.methodLink RL 121 yX12_keystone, Cond.instanceMethod yX12_keystone, Cond.selects RX12 yX12_keystone yX12_keystone, Cond.code yX12_keystone cX12_keystone 5 (some .int), Cond.methodLink RX12 383 yX12_pathsNow, Cond.instanceMethod yX12_pathsNow, Cond.selects RX12 yX12_pathsNow yX12_pathsNow, Cond.code yX12_pathsNow cX12_pathsNow 3 (some .int), Cond.methodLink RL 122 yX11_able, Cond.instanceMethod yX11_able, Cond.selects RX11 yX11_able yX11_able, Cond.code yX11_able cX11_able 1 (some .int), Cond.methodLink RX11 298 yX10_ableLoads, Cond.methodLink RX11 301 yJ6_bitCount_0f7a4, Cond.methodLink RL 125 yX12_able]
def wsL_law0_r51 : List Cond := [Cond.instanceMethod yX12_able, Cond.selects RX12 yX12_able yX12_able, Cond.code yX12_able cX12_able 1 (some .int), Cond.methodLink RL 126 yX11_cut, Cond.instanceMethod yX11_cut, Cond.selects RX11 yX11_cut yX11_cut, Cond.code yX11_cut cX11_cut 2 (some .int), Cond.methodLink RX11 306 yX3_find, Cond.instanceMethod yX3_find, Cond.selects RX3 yX3_find yX3_find, Cond.code yX3_find cX3_find 7 (some .int), Cond.fieldLink RX3 32 "SignedBridge$Plan" "rows" "I", Cond.methodLink RX3 28 yX8_copyOf, Cond.methodLink RX3 38 yX3_stepsWithout, Cond.instanceMethod yX3_stepsWithout, Cond.selects RX3 yX3_stepsWithout yX3_stepsWithout, Cond.code yX3_stepsWithout cX3_stepsWithout 9 (some .int), Cond.fieldLink RX3 50 "SignedBridge$State" "owner" "[I", Cond.fieldLink RX3 53 "SignedBridge$Plan" "forgers" "I", Cond.fieldLink RX3 62 "SignedBridge$Plan" "weight" "[I", Cond.fieldLink RX3 65 "SignedBridge$Plan" "wide" "[I", Cond.methodLink RX3 72 arraycopyName, Cond.methodLink RX3 56 yX10_weighRow, Cond.instanceMethod yX10_weighRow]
def wsL_law0_r52 : List Cond := [Cond.selects RX10 yX10_weighRow yX10_weighRow, Cond.code yX10_weighRow cX10_weighRow 7 none, Cond.methodLink RX3 68 yX10_possibleSteps, Cond.methodLink RX3 42 yX3_fillNeed, Cond.instanceMethod yX3_fillNeed, Cond.selects RX3 yX3_fillNeed yX3_fillNeed, Cond.code yX3_fillNeed cX3_fillNeed 6 none, Cond.methodLink RX3 81 Lib.Math.min.name, Cond.methodLink RX3 78 yX3_needWith, Cond.instanceMethod yX3_needWith, Cond.selects RX3 yX3_needWith yX3_needWith, Cond.code yX3_needWith cX3_needWith 7 (some .int), Cond.methodLink RX3 90 yJ6_bitCount_0f7a4, Cond.methodLink RX3 46 yX3_followFirst, Cond.instanceMethod yX3_followFirst, Cond.selects RX3 yX3_followFirst yX3_followFirst, Cond.code yX3_followFirst cX3_followFirst 7 none, Cond.fieldLink RX3 96 "SignedBridge$Cut" "size" "I", Cond.fieldLink RX3 99 "SignedBridge$Cut" "SETS" "[I", Cond.methodLink RX3 102 yX3_addPlaces, Cond.instanceMethod yX3_addPlaces, Cond.selects RX3 yX3_addPlaces yX3_addPlaces, Cond.code yX3_addPlaces cX3_addPlaces 4 none, Cond.methodLink RL 129 yX12_cut]
def wsL_law0_r53 : List Cond := [Cond.instanceMethod yX12_cut, Cond.selects RX12 yX12_cut yX12_cut, Cond.code yX12_cut cX12_cut 4 (some .int), Cond.fieldLink RX12 390 "SignedBridgeModel" "cuts" "I", Cond.methodLink RX12 386 yX12_canCut, Cond.instanceMethod yX12_canCut, Cond.selects RX12 yX12_canCut yX12_canCut, Cond.code yX12_canCut cX12_canCut 8 (some .boolean), Cond.methodLink RL 130 yX11_cutAt, Cond.instanceMethod yX11_cutAt, Cond.selects RX11 yX11_cutAt yX11_cutAt, Cond.code yX11_cutAt cX11_cutAt 2 (some .int), Cond.fieldLink RX11 309 "SignedBridge$Cut" "size" "I", Cond.fieldLink RX11 312 "SignedBridge$Cut" "places" "[I", Cond.methodLink RL 133 yX12_cutAt, Cond.instanceMethod yX12_cutAt, Cond.selects RX12 yX12_cutAt yX12_cutAt, Cond.code yX12_cutAt cX12_cutAt 2 (some .int), Cond.methodLink RL 134 yX11_order, Cond.instanceMethod yX11_order, Cond.selects RX11 yX11_order yX11_order, Cond.code yX11_order cX11_order 1 (some .int), Cond.methodLink RX11 315 yX4_findOrder, Cond.instanceMethod yX4_findOrder]
def wsL_law0_r54 : List Cond := [Cond.selects RX4 yX4_findOrder yX4_findOrder, Cond.code yX4_findOrder cX4_findOrder 8 (some .int), Cond.fieldLink RX4 54 "SignedBridge$Plan" "loads" "I", Cond.fieldLink RX4 57 "SignedBridge$State" "fallen" "I", Cond.fieldLink RX4 60 "SignedBridge$Forecast" "orderSize" "I", Cond.methodLink RX4 63 yX4_nextLoad, Cond.instanceMethod yX4_nextLoad, Cond.selects RX4 yX4_nextLoad yX4_nextLoad, Cond.code yX4_nextLoad cX4_nextLoad 7 (some .int), Cond.methodLink RX4 67 yX10_tryCrossing, Cond.methodLink RL 137 yX12_order, Cond.instanceMethod yX12_order, Cond.selects RX12 yX12_order yX12_order, Cond.code yX12_order cX12_order 2 (some .int), Cond.fieldLink RX12 393 "SignedBridgeModel" "crossMost" "I", Cond.fieldLink RX12 403 "SignedBridgeModel" "orderMany" "I", Cond.methodLink RX12 400 yX12_bits, Cond.static yX12_bits, Cond.code yX12_bits cX12_bits 3 (some .int), Cond.methodLink RX12 396 yX12_orderFrom, Cond.instanceMethod yX12_orderFrom, Cond.selects RX12 yX12_orderFrom yX12_orderFrom, Cond.code yX12_orderFrom cX12_orderFrom 8 none, Cond.methodLink RL 138 yX11_orderAt]
def wsL_law0_r55 : List Cond := [Cond.instanceMethod yX11_orderAt, Cond.selects RX11 yX11_orderAt yX11_orderAt, Cond.code yX11_orderAt cX11_orderAt 2 (some .int), Cond.fieldLink RX11 318 "SignedBridge$Forecast" "orderSize" "I", Cond.fieldLink RX11 321 "SignedBridge$Forecast" "order" "[I", Cond.methodLink RL 141 yX12_orderAt, Cond.instanceMethod yX12_orderAt, Cond.selects RX12 yX12_orderAt yX12_orderAt, Cond.code yX12_orderAt cX12_orderAt 2 (some .int), Cond.methodLink RL 142 yX11_forgers, Cond.instanceMethod yX11_forgers, Cond.selects RX11 yX11_forgers yX11_forgers, Cond.code yX11_forgers cX11_forgers 2 (some .int), Cond.methodLink RX11 324 yX5_find, Cond.instanceMethod yX5_find, Cond.selects RX5 yX5_find yX5_find, Cond.code yX5_find cX5_find 9 (some .int), Cond.fieldLink RX5 42 "SignedBridge$Plan" "signers" "I", Cond.methodLink RX5 28 yX5_isAsTold, Cond.instanceMethod yX5_isAsTold, Cond.selects RX5 yX5_isAsTold yX5_isAsTold, Cond.code yX5_isAsTold cX5_isAsTold 5 (some .boolean), Cond.fieldLink RX5 67 "SignedBridge$Tokens" "length" "I", Cond.fieldLink RX5 72 "SignedBridge$Tokens" "bytes" "[I"]
def wsL_law0_r56 : List Cond := [Cond.fieldLink RX5 75 "SignedBridge$Plan" "loads" "I", Cond.methodLink RX5 32 yX5_weighForged, Cond.instanceMethod yX5_weighForged, Cond.selects RX5 yX5_weighForged yX5_weighForged, Cond.code yX5_weighForged cX5_weighForged 8 none, Cond.fieldLink RX5 78 "SignedBridge$Plan" "rows" "I", Cond.fieldLink RX5 87 "SignedBridge$Ways" "bear" "[I", Cond.fieldLink RX5 90 "SignedBridge$Plan" "weight" "[I", Cond.fieldLink RX5 93 "SignedBridge$Plan" "wide" "[I", Cond.methodLink RX5 81 yX10_weighRow, Cond.methodLink RX5 96 yX10_possibleSteps, Cond.methodLink RX5 36 yJ7_fill_53178, Cond.methodLink RX5 47 yX5_markForged, Cond.instanceMethod yX5_markForged, Cond.selects RX5 yX5_markForged yX5_markForged, Cond.code yX5_markForged cX5_markForged 8 none, Cond.fieldLink RX5 100 "SignedBridge$State" "owner" "[I", Cond.methodLink RX5 51 yX5_ableLoads, Cond.instanceMethod yX5_ableLoads, Cond.selects RX5 yX5_ableLoads yX5_ableLoads, Cond.code yX5_ableLoads cX5_ableLoads 6 (some .int), Cond.methodLink RX5 55 yX5_agrees, Cond.instanceMethod yX5_agrees, Cond.selects RX5 yX5_agrees yX5_agrees]
def wsL_law0_r57 : List Cond := [Cond.code yX5_agrees cX5_agrees 4 (some .boolean), Cond.methodLink RX5 59 yX5_addAble, Cond.instanceMethod yX5_addAble, Cond.selects RX5 yX5_addAble yX5_addAble, Cond.code yX5_addAble cX5_addAble 4 none, Cond.methodLink RX5 63 yX5_mostTelling, Cond.instanceMethod yX5_mostTelling, Cond.selects RX5 yX5_mostTelling yX5_mostTelling, Cond.code yX5_mostTelling cX5_mostTelling 5 (some .int), Cond.methodLink RX5 108 Lib.Math.abs.name, Cond.static Lib.Math.abs.name, Cond.code Lib.Math.abs.name Lib.Math.abs.code 1 (some .int), Cond.methodLink RL 145 yX12_forgers, Cond.instanceMethod yX12_forgers, Cond.selects RX12 yX12_forgers yX12_forgers, Cond.code yX12_forgers cX12_forgers 8 (some .int), Cond.methodLink RX12 406 yX12_loadsOver, Cond.instanceMethod yX12_loadsOver, Cond.selects RX12 yX12_loadsOver yX12_loadsOver, Cond.code yX12_loadsOver cX12_loadsOver 3 (some .int), Cond.methodLink RL 146 yX11_surely, Cond.instanceMethod yX11_surely, Cond.selects RX11 yX11_surely yX11_surely, Cond.code yX11_surely cX11_surely 1 (some .int)]
def wsL_law0_r58 : List Cond := [Cond.fieldLink RX11 327 "SignedBridge$Forgers" "common" "I", Cond.methodLink RL 149 yX12_surely, Cond.instanceMethod yX12_surely, Cond.selects RX12 yX12_surely yX12_surely, Cond.code yX12_surely cX12_surely 1 (some .int), Cond.methodLink RL 150 yX11_tells, Cond.instanceMethod yX11_tells, Cond.selects RX11 yX11_tells yX11_tells, Cond.code yX11_tells cX11_tells 1 (some .int), Cond.fieldLink RX11 330 "SignedBridge$Forgers" "telling" "I", Cond.methodLink RL 153 yX12_tells, Cond.instanceMethod yX12_tells, Cond.selects RX12 yX12_tells yX12_tells, Cond.code yX12_tells cX12_tells 1 (some .int), Cond.methodLink RL 154 yX11_law, Cond.instanceMethod yX11_law, Cond.selects RX11 yX11_law yX11_law, Cond.code yX11_law cX11_law 3 (some .int), Cond.methodLink RX11 333 yX4_findLaw, Cond.instanceMethod yX4_findLaw, Cond.selects RX4 yX4_findLaw yX4_findLaw, Cond.code yX4_findLaw cX4_findLaw 9 (some .int), Cond.methodLink RX4 71 yX10_hasPath, Cond.instanceMethod yX10_hasPath]
def wsL_law0_r59 : List Cond := [Cond.selects RX10 yX10_hasPath yX10_hasPath, Cond.code yX10_hasPath cX10_hasPath 4 (some .boolean), Cond.methodLink RX4 75 yX8_passDay, Cond.methodLink RL 157 yX12_law, Cond.instanceMethod yX12_law, Cond.selects RX12 yX12_law yX12_law, Cond.code yX12_law cX12_law 6 (some .int), Cond.methodLink RX12 409 yX12_layAside, Cond.instanceMethod yX12_layAside, Cond.selects RX12 yX12_layAside yX12_layAside, Cond.code yX12_layAside cX12_layAside 2 none, Cond.methodLink RX12 412 yX12_goesOn, Cond.instanceMethod yX12_goesOn, Cond.selects RX12 yX12_goesOn yX12_goesOn, Cond.code yX12_goesOn cX12_goesOn 4 (some .int), Cond.methodLink RX12 415 yX12_takeBack, Cond.instanceMethod yX12_takeBack, Cond.selects RX12 yX12_takeBack yX12_takeBack, Cond.code yX12_takeBack cX12_takeBack 2 none, Cond.methodLink RL 158 yX11_lasts, Cond.instanceMethod yX11_lasts, Cond.selects RX11 yX11_lasts yX11_lasts, Cond.code yX11_lasts cX11_lasts 2 (some .int), Cond.methodLink RX11 337 yX4_findLast]
def wsL_law0_r60 : List Cond := [Cond.instanceMethod yX4_findLast, Cond.selects RX4 yX4_findLast yX4_findLast, Cond.code yX4_findLast cX4_findLast 7 (some .int), Cond.fieldLink RX4 79 "SignedBridge$State" "day" "I", Cond.fieldLink RX4 82 "SignedBridge$Plan" "keeps" "I", Cond.methodLink RL 161 yX12_lasts, Cond.instanceMethod yX12_lasts, Cond.selects RX12 yX12_lasts yX12_lasts, Cond.code yX12_lasts cX12_lasts 4 (some .int), Cond.methodLink RL 162 yX11_toll, Cond.instanceMethod yX11_toll, Cond.selects RX11 yX11_toll yX11_toll, Cond.code yX11_toll cX11_toll 3 (some .int), Cond.methodLink RX11 340 yX10_countOnPath, Cond.instanceMethod yX10_countOnPath, Cond.selects RX10 yX10_countOnPath yX10_countOnPath, Cond.code yX10_countOnPath cX10_countOnPath 9 (some .int), Cond.methodLink RL 165 yX12_toll, Cond.instanceMethod yX12_toll, Cond.selects RX12 yX12_toll yX12_toll, Cond.code yX12_toll cX12_toll 6 (some .int), Cond.methodLink RL 166 yX11_plate, Cond.instanceMethod yX11_plate, Cond.selects RX11 yX11_plate yX11_plate]
def wsL_law0_r61 : List Cond := [Cond.code yX11_plate cX11_plate 4 (some .int), Cond.fieldLink RX11 355 "SignedBridge$Plan" "signerNames" "[J", Cond.methodLink RX11 343 yJ4_setLength_d00df, Cond.instanceMethod yJ4_setLength_d00df, Cond.selects RJ4 yJ4_setLength_d00df yJ4_setLength_d00df, Cond.code yJ4_setLength_d00df cJ4_setLength_d00df 2 none, Cond.methodLink RJ4 333 yJ5_setLength_d00df, Cond.sameMethod "java/lang/AbstractStringBuilder" "java/lang/AbstractStringBuilder" "setLength" "(I)V", Cond.superclass RJ4 RJ5, Cond.instanceMethod yJ5_setLength_d00df, Cond.code yJ5_setLength_d00df cJ5_setLength_d00df 2 none, Cond.fieldLink RJ5 79 "java/lang/AbstractStringBuilder" "count" "I", Cond.fieldLink RJ5 73 "java/lang/AbstractStringBuilder" "maybeLatin1" "Z", Cond.methodLink RJ5 100 ⟨"java/lang/AbstractStringBuilder", "ensureCapacityInternal", "(I)V"⟩, Cond.sameMethod "java/lang/AbstractStringBuilder" "java/lang/AbstractStringBuilder" "ensureCapacityInternal" "(I)V", Cond.instanceMethod yJ5_ensureCapacityInternal_d00df, Cond.code yJ5_ensureCapacityInternal_d00df cJ5_ensureCapacityInternal_d00df 3 none, Cond.methodLink RJ5 104 ⟨"java/lang/AbstractStringBuilder", "newCapacity", "(I)I"⟩, Cond.sameMethod "java/lang/AbstractStringBuilder" "java/lang/AbstractStringBuilder" "newCapacity" "(I)I", Cond.instanceMethod yJ5_newCapacity_0f7a4, Cond.code yJ5_newCapacity_0f7a4 cJ5_newCapacity_0f7a4 6 (some .int), Cond.constant RJ5 39 (2147483647)]
def wsL_law0_r62 : List Cond := [Cond.methodLink RJ5 114 yJ8_newLength_cabcc, Cond.static yJ8_newLength_cabcc, Cond.initialized RJ8, Cond.code yJ8_newLength_cabcc cJ8_newLength_cabcc 4 (some .int), Cond.methodLink RJ8 194 Lib.Math.max.name, Cond.constant RJ8 200 (2147483639), Cond.methodLink RJ8 201 yJ8_hugeLength_7cf53, Cond.static yJ8_hugeLength_7cf53, Cond.code yJ8_hugeLength_7cf53 cJ8_hugeLength_7cf53 3 (some .int), Cond.methodLink RJ5 108 yJ7_copyOf_9075b, Cond.static yJ7_copyOf_9075b, Cond.code yJ7_copyOf_9075b cJ7_copyOf_9075b 3 (some (.array .byte)), Cond.methodLink RJ7 310 ⟨"[B", "clone", "()Ljava/lang/Object;"⟩, Cond.sameMethod "[B" "java/lang/Object" "clone" "()Ljava/lang/Object;", Cond.native ⟨"java/lang/Object", "clone", "()Ljava/lang/Object;"⟩, Cond.instanceMethod ⟨"java/lang/Object", "clone", "()Ljava/lang/Object;"⟩, Cond.selects "[B" ⟨"[B", "clone", "()Ljava/lang/Object;"⟩ ⟨"java/lang/Object", "clone", "()Ljava/lang/Object;"⟩, Cond.classLink RJ7 311 "[B", Cond.methodLink RJ7 304 Lib.Math.min.name, Cond.methodLink RJ7 150 arraycopyName, Cond.methodLink RJ5 83 ⟨"java/lang/AbstractStringBuilder", "isLatin1", "()Z"⟩, Cond.sameMethod "java/lang/AbstractStringBuilder" "java/lang/AbstractStringBuilder" "isLatin1" "()Z", Cond.selects RJ4 ⟨"java/lang/AbstractStringBuilder", "isLatin1", "()Z"⟩ yJ5_isLatin1_aae02, Cond.instanceMethod yJ5_isLatin1_aae02]
def wsL_law0_r63 : List Cond := [Cond.code yJ5_isLatin1_aae02 cJ5_isLatin1_aae02 1 (some .boolean), Cond.methodLink RJ5 133 yJ1_fillNull_b72d1, Cond.static yJ1_fillNull_b72d1, Cond.code yJ1_fillNull_b72d1 cJ1_fillNull_b72d1 3 none, Cond.methodLink RJ1 236 yJ7_fill_eb02e, Cond.static yJ7_fill_eb02e, Cond.code yJ7_fill_eb02e cJ7_fill_eb02e 5 none, Cond.methodLink RJ7 13 yJ7_rangeCheck_23922, Cond.static yJ7_rangeCheck_23922, Cond.code yJ7_rangeCheck_23922 cJ7_rangeCheck_23922 3 none, Cond.methodLink RJ5 137 yJ2_fillNull_b72d1, Cond.static yJ2_fillNull_b72d1, Cond.code yJ2_fillNull_b72d1 cJ2_fillNull_b72d1 3 none, Cond.methodLink RJ2 380 yJ7_fill_eb02e, Cond.methodLink RX11 346 yJ4_append_cf468, Cond.instanceMethod yJ4_append_cf468, Cond.selects RJ4 yJ4_append_cf468 yJ4_append_cf468, Cond.code yJ4_append_cf468 cJ4_append_cf468 2 (some (.object "java/lang/StringBuilder")), Cond.methodLink RJ4 50 yJ5_append_3fe6f, Cond.sameMethod "java/lang/AbstractStringBuilder" "java/lang/AbstractStringBuilder" "append" "(C)Ljava/lang/AbstractStringBuilder;", Cond.instanceMethod yJ5_append_3fe6f, Cond.code yJ5_append_3fe6f cJ5_append_3fe6f 2 (some (.object "java/lang/AbstractStringBuilder")), Cond.methodLink RJ5 191 yJ1_canEncode_fc78d, Cond.static yJ1_canEncode_fc78d]
def wsL_law0_r64 : List Cond := [Cond.code yJ1_canEncode_fc78d cJ1_canEncode_fc78d 1 (some .boolean), Cond.methodLink RJ5 195 ⟨"java/lang/AbstractStringBuilder", "inflate", "()V"⟩, Cond.sameMethod "java/lang/AbstractStringBuilder" "java/lang/AbstractStringBuilder" "inflate" "()V", Cond.instanceMethod yJ5_inflate_da8c8, Cond.code yJ5_inflate_da8c8 cJ5_inflate_da8c8 2 none, Cond.methodLink RJ5 125 yJ1_inflate_0e8fd, Cond.static yJ1_inflate_0e8fd, Cond.code yJ1_inflate_0e8fd cJ1_inflate_0e8fd 5 none, Cond.methodLink RJ1 240 yJ2_inflate_0e8fd, Cond.static yJ2_inflate_0e8fd, Cond.code yJ2_inflate_0e8fd cJ2_inflate_0e8fd 6 none, Cond.methodLink RJ2 173 yJ2_checkBoundsOffCount_d044e, Cond.static yJ2_checkBoundsOffCount_d044e, Cond.code yJ2_checkBoundsOffCount_d044e cJ2_checkBoundsOffCount_d044e 3 none, Cond.methodLink RJ2 419 yJ0_checkBoundsOffCount_cabcc, Cond.static yJ0_checkBoundsOffCount_cabcc, Cond.code yJ0_checkBoundsOffCount_cabcc cJ0_checkBoundsOffCount_cabcc 3 (some .int), Cond.methodLink RJ0 1065 yJ3_checkFromIndexSize_8c36e, Cond.static yJ3_checkFromIndexSize_8c36e, Cond.code yJ3_checkFromIndexSize_8c36e cJ3_checkFromIndexSize_8c36e 4 (some .int), Cond.methodLink RJ2 111 yJ2_putChar_b72d1, Cond.static yJ2_putChar_b72d1, Cond.code yJ2_putChar_b72d1 cJ2_putChar_b72d1 3 none]
def wsL_law0_r65 : List Cond := [Cond.methodLink RJ5 197 yJ2_putCharSB_b72d1, Cond.static yJ2_putCharSB_b72d1, Cond.code yJ2_putCharSB_b72d1 cJ2_putCharSB_b72d1 3 none, Cond.methodLink RX11 352 yJ4_append_15ec4, Cond.instanceMethod yJ4_append_15ec4, Cond.selects RJ4 yJ4_append_15ec4 yJ4_append_15ec4, Cond.code yJ4_append_15ec4 cJ4_append_15ec4 2 (some (.object "java/lang/StringBuilder")), Cond.methodLink RJ4 29 yJ5_append_cf1ce, Cond.sameMethod "java/lang/AbstractStringBuilder" "java/lang/AbstractStringBuilder" "append" "(Ljava/lang/String;)Ljava/lang/AbstractStringBuilder;", Cond.instanceMethod yJ5_append_cf1ce, Cond.code yJ5_append_cf1ce cJ5_append_cf1ce 3 (some (.object "java/lang/AbstractStringBuilder")), Cond.methodLink RJ5 204 ⟨"java/lang/AbstractStringBuilder", "appendNull", "()Ljava/lang/AbstractStringBuilder;"⟩, Cond.sameMethod "java/lang/AbstractStringBuilder" "java/lang/AbstractStringBuilder" "appendNull" "()Ljava/lang/AbstractStringBuilder;", Cond.instanceMethod yJ5_appendNull_278bc, Cond.code yJ5_appendNull_278bc cJ5_appendNull_278bc 3 (some (.object "java/lang/AbstractStringBuilder")), Cond.methodLink RJ5 226 yJ2_putCharsAt_cd4e5, Cond.static yJ2_putCharsAt_cd4e5, Cond.code yJ2_putCharsAt_cd4e5 cJ2_putCharsAt_cd4e5 7 (some .int), Cond.methodLink RJ2 96 yJ2_checkBoundsBeginEnd_d044e, Cond.static yJ2_checkBoundsBeginEnd_d044e, Cond.code yJ2_checkBoundsBeginEnd_d044e cJ2_checkBoundsBeginEnd_d044e 3 none, Cond.methodLink RJ2 241 yJ0_checkBoundsBeginEnd_23922, Cond.static yJ0_checkBoundsBeginEnd_23922]
def wsL_law0_r66 : List Cond := [Cond.code yJ0_checkBoundsBeginEnd_23922 cJ0_checkBoundsBeginEnd_23922 3 none, Cond.methodLink RJ0 1062 yJ3_checkFromToIndex_8c36e, Cond.static yJ3_checkFromToIndex_8c36e, Cond.code yJ3_checkFromToIndex_8c36e cJ3_checkFromToIndex_8c36e 4 (some .int), Cond.methodLink RJ5 32 yJ0_length_8abf5, Cond.instanceMethod yJ0_length_8abf5, Cond.selects RJ0 yJ0_length_8abf5 yJ0_length_8abf5, Cond.code yJ0_length_8abf5 cJ0_length_8abf5 1 (some .int), Cond.methodLink RJ0 335 yJ0_coder_7d493, Cond.instanceMethod yJ0_coder_7d493, Cond.selects RJ0 yJ0_coder_7d493 yJ0_coder_7d493, Cond.code yJ0_coder_7d493 cJ0_coder_7d493 1 (some .byte), Cond.methodLink RJ5 208 ⟨"java/lang/AbstractStringBuilder", "putStringAt", "(ILjava/lang/String;)V"⟩, Cond.sameMethod "java/lang/AbstractStringBuilder" "java/lang/AbstractStringBuilder" "putStringAt" "(ILjava/lang/String;)V", Cond.instanceMethod yJ5_putStringAt_47b60, Cond.code yJ5_putStringAt_47b60 cJ5_putStringAt_47b60 3 none, Cond.methodLink RJ5 397 ⟨"java/lang/AbstractStringBuilder", "inflateIfNeededFor", "(Ljava/lang/String;)V"⟩, Cond.sameMethod "java/lang/AbstractStringBuilder" "java/lang/AbstractStringBuilder" "inflateIfNeededFor" "(Ljava/lang/String;)V", Cond.instanceMethod yJ5_inflateIfNeededFor_a7421, Cond.code yJ5_inflateIfNeededFor_a7421 cJ5_inflateIfNeededFor_a7421 2 none, Cond.methodLink RJ5 40 yJ0_coder_7d493, Cond.methodLink RJ5 399 yJ0_getBytes_840e7]
def wsL_law0_r67 : List Cond := [Cond.instanceMethod yJ0_getBytes_840e7, Cond.selects RJ0 yJ0_getBytes_840e7 yJ0_getBytes_840e7, Cond.code yJ0_getBytes_840e7 cJ0_getBytes_840e7 4 none, Cond.methodLink RJ0 212 arraycopyName, Cond.methodLink RJ0 106 yJ1_inflate_0e8fd, Cond.methodLink RX11 359 yX11_writeName, Cond.instanceMethod yX11_writeName, Cond.selects RX11 yX11_writeName yX11_writeName, Cond.code yX11_writeName cX11_writeName 5 none, Cond.constantLong RX11 410 (31), Cond.methodLink RX11 363 yJ4_length_8abf5, Cond.instanceMethod yJ4_length_8abf5, Cond.selects RJ4 yJ4_length_8abf5 yJ4_length_8abf5, Cond.code yJ4_length_8abf5 cJ4_length_8abf5 1 (some .int), Cond.methodLink RJ4 343 yJ5_length_8abf5, Cond.sameMethod "java/lang/AbstractStringBuilder" "java/lang/AbstractStringBuilder" "length" "()I", Cond.instanceMethod yJ5_length_8abf5, Cond.code yJ5_length_8abf5 cJ5_length_8abf5 1 (some .int), Cond.methodLink RL 169 yX12_plate, Cond.instanceMethod yX12_plate, Cond.selects RX12 yX12_plate yX12_plate, Cond.code yX12_plate cX12_plate 4 (some .int), Cond.fieldLink RX12 418 "SignedBridgeModel" "texts" "I", Cond.methodLink RX12 425 yX12_write]
def wsL_law0_r68 : List Cond := [Cond.instanceMethod yX12_write, Cond.selects RX12 yX12_write yX12_write, Cond.code yX12_write cX12_write 2 none, Cond.methodLink RX12 421 yX12_writeWord, Cond.instanceMethod yX12_writeWord, Cond.selects RX12 yX12_writeWord yX12_writeWord, Cond.code yX12_writeWord cX12_writeWord 3 none, Cond.methodLink RL 170 yX11_byteAt, Cond.instanceMethod yX11_byteAt, Cond.selects RX11 yX11_byteAt yX11_byteAt, Cond.code yX11_byteAt cX11_byteAt 2 (some .int), Cond.methodLink RX11 365 yJ4_charAt_5068e, Cond.instanceMethod yJ4_charAt_5068e, Cond.selects RJ4 yJ4_charAt_5068e yJ4_charAt_5068e, Cond.code yJ4_charAt_5068e cJ4_charAt_5068e 2 (some .char), Cond.methodLink RJ4 329 yJ5_charAt_5068e, Cond.sameMethod "java/lang/AbstractStringBuilder" "java/lang/AbstractStringBuilder" "charAt" "(I)C", Cond.instanceMethod yJ5_charAt_5068e, Cond.code yJ5_charAt_5068e cJ5_charAt_5068e 5 (some .char), Cond.methodLink RJ5 138 Lib.Math.min.name, Cond.methodLink RJ5 144 yJ0_checkIndex_df160, Cond.methodLink RJ5 148 yJ2_getChar_3b067, Cond.methodLink RL 173 yX12_byteAt, Cond.instanceMethod yX12_byteAt]
def wsL_law0_r69 : List Cond := [Cond.selects RX12 yX12_byteAt yX12_byteAt, Cond.code yX12_byteAt cX12_byteAt 2 (some .int), Cond.methodLink RL 174 yX11_drawn, Cond.instanceMethod yX11_drawn, Cond.selects RX11 yX11_drawn yX11_drawn, Cond.code yX11_drawn cX11_drawn 4 (some .int), Cond.methodLink RX11 372 yX4_drawDays, Cond.instanceMethod yX4_drawDays, Cond.selects RX4 yX4_drawDays yX4_drawDays, Cond.code yX4_drawDays cX4_drawDays 8 (some .int), Cond.fieldLink RX4 89 "SignedBridge$Forecast" "seed" "I", Cond.methodLink RX4 92 yX4_drawDeed, Cond.instanceMethod yX4_drawDeed, Cond.selects RX4 yX4_drawDeed yX4_drawDeed, Cond.code yX4_drawDeed cX4_drawDeed 4 none, Cond.fieldLink RX4 108 "SignedBridge$Plan" "rows" "I", Cond.methodLink RX4 96 yX4_draw, Cond.instanceMethod yX4_draw, Cond.selects RX4 yX4_draw yX4_draw, Cond.code yX4_draw cX4_draw 2 (some .int), Cond.constant RX4 115 (1103515245), Cond.methodLink RX4 99 yX8_breakWord, Cond.methodLink RX4 102 yX8_holdWord, Cond.methodLink RX4 105 yX8_endLife]
def wsL_law0_r70 : List Cond := [Cond.methodLink RX4 111 yX8_putPlank, Cond.methodLink RL 177 yX12_drawn, Cond.instanceMethod yX12_drawn, Cond.selects RX12 yX12_drawn yX12_drawn, Cond.code yX12_drawn cX12_drawn 3 (some .int), Cond.methodLink RX12 438 yX12_drawDays, Cond.instanceMethod yX12_drawDays, Cond.selects RX12 yX12_drawDays yX12_drawDays, Cond.code yX12_drawDays cX12_drawDays 6 (some .int), Cond.fieldLink RX12 428 "SignedBridgeModel" "seed" "I", Cond.methodLink RX12 435 yX12_drawFor, Cond.instanceMethod yX12_drawFor, Cond.selects RX12 yX12_drawFor yX12_drawFor, Cond.code yX12_drawFor cX12_drawFor 4 none, Cond.methodLink RX12 432 yX12_draw, Cond.instanceMethod yX12_draw, Cond.selects RX12 yX12_draw yX12_draw, Cond.code yX12_draw cX12_draw 2 (some .int), Cond.constant RX12 431 (1103515245), Cond.methodLink RL 178 yX11_odds, Cond.instanceMethod yX11_odds, Cond.selects RX11 yX11_odds yX11_odds, Cond.code yX11_odds cX11_odds 4 (some .int), Cond.methodLink RX11 375 yX4_countOdds]
def wsL_law0_r71 : List Cond := [Cond.instanceMethod yX4_countOdds, Cond.selects RX4 yX4_countOdds yX4_countOdds, Cond.code yX4_countOdds cX4_countOdds 9 (some .int), Cond.methodLink RX4 85 yX4_drawDays, Cond.methodLink RL 181 yX12_odds, Cond.instanceMethod yX12_odds, Cond.selects RX12 yX12_odds yX12_odds, Cond.code yX12_odds cX12_odds 6 (some .int), Cond.methodLink RL 182 yX11_book, Cond.instanceMethod yX11_book, Cond.selects RX11 yX11_book yX11_book, Cond.code yX11_book cX11_book 4 (some .int), Cond.methodLink RX11 379 yX1_read, Cond.instanceMethod yX1_read, Cond.selects RX1 yX1_read yX1_read, Cond.code yX1_read cX1_read 3 (some .boolean), Cond.fieldLink RX1 33 "SignedBridge$Book" "lines" "I", Cond.fieldLink RX1 37 "SignedBridge$Tokens" "kind" "I", Cond.methodLink RX1 27 yX9_begin, Cond.methodLink RX1 40 yX1_readLine, Cond.instanceMethod yX1_readLine, Cond.selects RX1 yX1_readLine yX1_readLine, Cond.code yX1_readLine cX1_readLine 6 (some .boolean), Cond.fieldLink RX1 58 "SignedBridge$Tokens" "name" "J"]
def wsL_law0_r72 : List Cond := [Cond.fieldLink RX1 78 "SignedBridge$Tokens" "value" "I", Cond.methodLink RX1 52 yX9_isKey, Cond.methodLink RX1 55 yX9_refuse, Cond.methodLink RX1 62 yX6_signerNamed, Cond.methodLink RX1 68 yX6_loadNamed, Cond.methodLink RX1 71 yX9_advance, Cond.methodLink RX1 74 yX1_isSignersDeed, Cond.static yX1_isSignersDeed, Cond.code yX1_isSignersDeed cX1_isSignersDeed 1 (some .boolean), Cond.methodLink RX1 81 yX1_readPlace, Cond.instanceMethod yX1_readPlace, Cond.selects RX1 yX1_readPlace yX1_readPlace, Cond.code yX1_readPlace cX1_readPlace 2 (some .boolean), Cond.fieldLink RX1 91 "SignedBridge$Tokens" "taken" "I", Cond.methodLink RX1 87 yX9_takeNumber, Cond.methodLink RX1 84 yX1_readDays, Cond.instanceMethod yX1_readDays, Cond.selects RX1 yX1_readDays yX1_readDays, Cond.code yX1_readDays cX1_readDays 2 (some .boolean), Cond.methodLink RX1 44 yX9_takeSign, Cond.methodLink RX1 48 yX9_takeEnd, Cond.methodLink RX11 382 yX1_live, Cond.instanceMethod yX1_live, Cond.selects RX1 yX1_live yX1_live]
def wsL_law0_r73 : List Cond := [Cond.code yX1_live cX1_live 6 (some .int), Cond.fieldLink RX1 98 "SignedBridge$State" "day" "I", Cond.fieldLink RX1 103 "SignedBridge$State" "fallen" "I", Cond.methodLink RX1 94 yX1_liveLine, Cond.instanceMethod yX1_liveLine, Cond.selects RX1 yX1_liveLine yX1_liveLine, Cond.code yX1_liveLine cX1_liveLine 7 (some .int), Cond.fieldLink RX1 106 "SignedBridge$Plan" "rows" "I", Cond.methodLink RX1 109 yX8_putPlank, Cond.methodLink RX1 113 yX8_burnPlank, Cond.methodLink RX1 117 yX1_behind, Cond.static yX1_behind, Cond.code yX1_behind cX1_behind 2 (some .int), Cond.methodLink RX1 120 yX8_breakWord, Cond.methodLink RX1 123 yX8_holdWord, Cond.methodLink RX1 126 yX8_endLife, Cond.methodLink RX1 129 yX10_tryCrossing, Cond.methodLink RX1 135 yX8_passDays, Cond.methodLink RL 185 yX12_book, Cond.instanceMethod yX12_book, Cond.selects RX12 yX12_book yX12_book, Cond.code yX12_book cX12_book 4 (some .int), Cond.fieldLink RX12 450 "SignedBridgeModel" "lineMany" "I", Cond.fieldLink RX12 465 "SignedBridgeModel" "hasWritten" "Z"]
def wsL_law0_r74 : List Cond := [Cond.methodLink RX12 456 yX12_readBookLine, Cond.instanceMethod yX12_readBookLine, Cond.selects RX12 yX12_readBookLine yX12_readBookLine, Cond.code yX12_readBookLine cX12_readBookLine 1 (some .boolean), Cond.methodLink RX12 453 yX12_readDoes, Cond.instanceMethod yX12_readDoes, Cond.selects RX12 yX12_readDoes yX12_readDoes, Cond.code yX12_readDoes cX12_readDoes 4 (some .boolean), Cond.methodLink RX12 441 yX12_readSet, Cond.instanceMethod yX12_readSet, Cond.selects RX12 yX12_readSet yX12_readSet, Cond.code yX12_readSet cX12_readSet 4 (some .boolean), Cond.methodLink RX12 444 yX12_readPlace, Cond.instanceMethod yX12_readPlace, Cond.selects RX12 yX12_readPlace yX12_readPlace, Cond.code yX12_readPlace cX12_readPlace 2 (some .boolean), Cond.methodLink RX12 447 yX12_readSignerDoes, Cond.instanceMethod yX12_readSignerDoes, Cond.selects RX12 yX12_readSignerDoes yX12_readSignerDoes, Cond.code yX12_readSignerDoes cX12_readSignerDoes 3 (some .boolean), Cond.methodLink RX12 459 yX12_whyLine, Cond.instanceMethod yX12_whyLine, Cond.selects RX12 yX12_whyLine yX12_whyLine, Cond.code yX12_whyLine cX12_whyLine 4 (some .int)]
def wsL_law0_r75 : List Cond := [Cond.methodLink RX12 462 yX12_live, Cond.instanceMethod yX12_live, Cond.selects RX12 yX12_live yX12_live, Cond.code yX12_live cX12_live 4 none, Cond.methodLink RX12 468 yX12_stay, Cond.instanceMethod yX12_stay, Cond.selects RX12 yX12_stay yX12_stay, Cond.code yX12_stay cX12_stay 4 none, Cond.methodLink RL 186 yX11_told, Cond.instanceMethod yX11_told, Cond.selects RX11 yX11_told yX11_told, Cond.code yX11_told cX11_told 2 (some .int), Cond.fieldLink RX11 385 "SignedBridge$Book" "verdict" "[I", Cond.methodLink RL 189 yX12_told, Cond.instanceMethod yX12_told, Cond.selects RX12 yX12_told yX12_told, Cond.code yX12_told cX12_told 2 (some .int), Cond.methodLink RL 190 yX11_sentence, Cond.instanceMethod yX11_sentence, Cond.selects RX11 yX11_sentence yX11_sentence, Cond.code yX11_sentence cX11_sentence 3 (some .int), Cond.fieldLink RX11 389 "SignedBridge$Sentence" "ones" "I", Cond.methodLink RX11 388 yX7_read, Cond.instanceMethod yX7_read]
def wsL_law0_r76 : List Cond := [Cond.selects RX7 yX7_read yX7_read, Cond.code yX7_read cX7_read 5 (some .boolean), Cond.fieldLink RX7 43 "SignedBridge$Sentence" "delays" "I", Cond.fieldLink RX7 46 "SignedBridge$Sentence" "within" "I", Cond.methodLink RX7 40 yX7_forget, Cond.methodLink RX7 49 yX9_begin, Cond.methodLink RX7 55 yX7_readOne, Cond.instanceMethod yX7_readOne, Cond.selects RX7 yX7_readOne yX7_readOne, Cond.code yX7_readOne cX7_readOne 5 (some .boolean), Cond.methodLink RX7 78 yX7_beginsOne, Cond.static yX7_beginsOne, Cond.code yX7_beginsOne cX7_beginsOne 1 (some .boolean), Cond.fieldLink RX7 99 "SignedBridge$Tokens" "kind" "I", Cond.fieldLink RX7 102 "SignedBridge$Tokens" "value" "I", Cond.methodLink RX7 84 yX9_isSignOf, Cond.methodLink RX7 67 yX9_refuse, Cond.methodLink RX7 81 yX9_isKey, Cond.methodLink RX7 87 yX7_readSaying, Cond.instanceMethod yX7_readSaying, Cond.selects RX7 yX7_readSaying yX7_readSaying, Cond.code yX7_readSaying cX7_readSaying 5 (some .boolean), Cond.fieldLink RX7 105 "SignedBridge$Tokens" "taken" "I", Cond.methodLink RX7 96 yX9_advance]
def wsL_law0_r77 : List Cond := [Cond.methodLink RX7 108 yX9_takeSigner, Cond.methodLink RX7 112 yX9_takeNumber, Cond.methodLink RX7 116 yX7_isRelation, Cond.static yX7_isRelation, Cond.code yX7_isRelation cX7_isRelation 1 (some .boolean), Cond.methodLink RX7 119 yX7_put, Cond.instanceMethod yX7_put, Cond.selects RX7 yX7_put yX7_put, Cond.code yX7_put cX7_put 4 none, Cond.methodLink RX7 90 yX7_settleNots, Cond.instanceMethod yX7_settleNots, Cond.selects RX7 yX7_settleNots yX7_settleNots, Cond.code yX7_settleNots cX7_settleNots 2 (some .boolean), Cond.methodLink RX7 93 yX7_delay, Cond.instanceMethod yX7_delay, Cond.selects RX7 yX7_delay yX7_delay, Cond.code yX7_delay cX7_delay 2 none, Cond.methodLink RX7 59 yX7_closeBrackets, Cond.instanceMethod yX7_closeBrackets, Cond.selects RX7 yX7_closeBrackets yX7_closeBrackets, Cond.code yX7_closeBrackets cX7_closeBrackets 3 none, Cond.methodLink RX7 71 yX7_settle, Cond.instanceMethod yX7_settle, Cond.selects RX7 yX7_settle yX7_settle]
def wsL_law0_r78 : List Cond := [Cond.code yX7_settle cX7_settle 4 none, Cond.methodLink RX7 63 yX7_readJoin, Cond.instanceMethod yX7_readJoin, Cond.selects RX7 yX7_readJoin yX7_readJoin, Cond.code yX7_readJoin cX7_readJoin 2 (some .boolean), Cond.methodLink RX7 74 yX9_takeEnd, Cond.methodLink RL 193 yX12_sentence, Cond.instanceMethod yX12_sentence, Cond.selects RX12 yX12_sentence yX12_sentence, Cond.code yX12_sentence cX12_sentence 2 (some .int), Cond.fieldLink RX12 472 "SignedBridgeModel" "nodes" "I", Cond.fieldLink RX12 487 "SignedBridgeModel" "onesMany" "I", Cond.fieldLink RX12 490 "SignedBridgeModel" "within" "I", Cond.fieldLink RX12 478 "SignedBridgeModel" "top" "I", Cond.methodLink RX12 505 yX12_readOr, Cond.instanceMethod yX12_readOr, Cond.selects RX12 yX12_readOr yX12_readOr, Cond.code yX12_readOr cX12_readOr 2 (some .boolean), Cond.methodLink RX12 475 yX12_readAnd, Cond.instanceMethod yX12_readAnd, Cond.selects RX12 yX12_readAnd yX12_readAnd, Cond.methodLink RX12 481 yX12_saysOne, Cond.instanceMethod yX12_saysOne, Cond.selects RX12 yX12_saysOne yX12_saysOne]
def wsL_law0_r79 : List Cond := [Cond.code yX12_saysOne cX12_saysOne 6 (some .int), Cond.code yX12_readAnd cX12_readAnd 2 (some .boolean), Cond.methodLink RX12 484 yX12_readSaid, Cond.instanceMethod yX12_readSaid, Cond.selects RX12 yX12_readSaid yX12_readSaid, Cond.code yX12_readBracket cX12_readBracket 1 (some .boolean), Cond.code yX12_readNot cX12_readNot 1 (some .boolean), Cond.code yX12_readSaid cX12_readSaid 4 (some .boolean), Cond.methodLink RX12 493 yX12_readBracket, Cond.instanceMethod yX12_readBracket, Cond.selects RX12 yX12_readBracket yX12_readBracket, Cond.methodLink RX12 496 yX12_readNot, Cond.instanceMethod yX12_readNot, Cond.selects RX12 yX12_readNot yX12_readNot, Cond.methodLink RX12 499 yX12_readOf, Cond.instanceMethod yX12_readOf, Cond.selects RX12 yX12_readOf yX12_readOf, Cond.code yX12_readOf cX12_readOf 2 (some .boolean), Cond.methodLink RX12 508 yX12_readWhom, Cond.instanceMethod yX12_readWhom, Cond.selects RX12 yX12_readWhom yX12_readWhom, Cond.code yX12_readWhom cX12_readWhom 2 (some .boolean), Cond.methodLink RX12 502 yX12_readCompare, Cond.instanceMethod yX12_readCompare]
def wsL_law0_r80 : List Cond := [Cond.selects RX12 yX12_readCompare yX12_readCompare, Cond.code yX12_readCompare cX12_readCompare 3 (some .boolean), Cond.methodLink RL 194 yX11_said, Cond.instanceMethod yX11_said, Cond.selects RX11 yX11_said yX11_said, Cond.code yX11_said cX11_said 5 (some .int), Cond.methodLink RX11 392 yX7_judge, Cond.instanceMethod yX7_judge, Cond.selects RX7 yX7_judge yX7_judge, Cond.code yX7_judge cX7_judge 6 (some .int), Cond.fieldLink RX7 123 "SignedBridge$Plan" "signers" "I", Cond.methodLink RX7 128 yX7_sayOfAll, Cond.instanceMethod yX7_sayOfAll, Cond.selects RX7 yX7_sayOfAll yX7_sayOfAll, Cond.code yX7_sayOfAll cX7_sayOfAll 6 (some .int), Cond.methodLink RX7 132 yX7_isTrueOf, Cond.instanceMethod yX7_isTrueOf, Cond.selects RX7 yX7_isTrueOf yX7_isTrueOf, Cond.code yX7_isTrueOf cX7_isTrueOf 5 (some .boolean), Cond.fieldLink RX7 141 "SignedBridge$Plan" "forgers" "I", Cond.fieldLink RX7 147 "SignedBridge$Plan" "heir" "[I", Cond.fieldLink RX7 154 "SignedBridge$State" "earnest" "[I", Cond.fieldLink RX7 160 "SignedBridge$State" "held" "[I", Cond.fieldLink RX7 163 "SignedBridge$Plan" "miles" "[I"]
def wsL_law0_r81 : List Cond := [Cond.methodLink RX7 136 yX8_lives, Cond.methodLink RX7 144 yX6_areLovers, Cond.methodLink RX7 150 yX7_isOn, Cond.static yX7_isOn, Cond.code yX7_isOn cX7_isOn 4 (some .boolean), Cond.fieldLink RX7 166 "SignedBridge$State" "owner" "[I", Cond.methodLink RX7 157 yX7_compares, Cond.instanceMethod yX7_compares, Cond.selects RX7 yX7_compares yX7_compares, Cond.code yX7_compares cX7_compares 3 (some .boolean), Cond.methodLink RL 197 yX12_said, Cond.instanceMethod yX12_said, Cond.selects RX12 yX12_said yX12_said, Cond.code yX12_said cX12_said 4 (some .int), Cond.methodLink RX12 511 yX12_holds_, Cond.instanceMethod yX12_holds_, Cond.selects RX12 yX12_holds_ yX12_holds_, Cond.code yX12_holds_ cX12_holds_ 8 (some .boolean), Cond.methodLink RX12 514 yX12_isOn, Cond.instanceMethod yX12_isOn, Cond.selects RX12 yX12_isOn yX12_isOn, Cond.code yX12_isOn cX12_isOn 4 (some .boolean), Cond.methodLink RL 198 yX11_image, Cond.instanceMethod yX11_image]
def wsL_law0_r82 : List Cond := [Cond.selects RX11 yX11_image yX11_image, Cond.code yX11_image cX11_image 2 (some .boolean), Cond.methodLink RX11 395 yX7_copyOf, Cond.instanceMethod yX7_copyOf, Cond.selects RX7 yX7_copyOf yX7_copyOf, Cond.code yX7_copyOf cX7_copyOf 2 none, Cond.methodLink RX7 34 arraycopyName, Cond.methodLink RL 201 yX12_image, Cond.instanceMethod yX12_image, Cond.selects RX12 yX12_image yX12_image, Cond.code yX12_image cX12_image 3 (some .boolean), Cond.methodLink RL 202 yX11_restore, Cond.instanceMethod yX11_restore, Cond.selects RX11 yX11_restore yX11_restore, Cond.code yX11_restore cX11_restore 2 (some .boolean), Cond.methodLink RL 205 yX12_restore, Cond.instanceMethod yX12_restore, Cond.selects RX12 yX12_restore yX12_restore, Cond.code yX12_restore cX12_restore 3 (some .boolean), Cond.methodLink RL 206 yX11_count, Cond.instanceMethod yX11_count, Cond.selects RX11 yX11_count yX11_count, Cond.code yX11_count cX11_count 2 (some .int), Cond.fieldLink RX11 404 "SignedBridge$Plan" "lovers" "I"]
def wsL_law0_r83 : List Cond := [Cond.fieldLink RX11 407 "SignedBridge$Plan" "keeps" "I", Cond.methodLink RL 209 yX12_count, Cond.instanceMethod yX12_count, Cond.selects RX12 yX12_count yX12_count, Cond.code yX12_count cX12_count 2 (some .int)]
def wsL_law0 : List Cond := (wsL_law0_r1 ++ (wsL_law0_r2 ++ (wsL_law0_r3 ++ (wsL_law0_r4 ++ (wsL_law0_r5 ++ (wsL_law0_r6 ++ (wsL_law0_r7 ++ (wsL_law0_r8 ++ (wsL_law0_r9 ++ (wsL_law0_r10 ++ (wsL_law0_r11 ++ (wsL_law0_r12 ++ (wsL_law0_r13 ++ (wsL_law0_r14 ++ (wsL_law0_r15 ++ (wsL_law0_r16 ++ (wsL_law0_r17 ++ (wsL_law0_r18 ++ (wsL_law0_r19 ++ (wsL_law0_r20 ++ (wsL_law0_r21 ++ (wsL_law0_r22 ++ (wsL_law0_r23 ++ (wsL_law0_r24 ++ (wsL_law0_r25 ++ (wsL_law0_r26 ++ (wsL_law0_r27 ++ (wsL_law0_r28 ++ (wsL_law0_r29 ++ (wsL_law0_r30 ++ (wsL_law0_r31 ++ (wsL_law0_r32 ++ (wsL_law0_r33 ++ (wsL_law0_r34 ++ (wsL_law0_r35 ++ (wsL_law0_r36 ++ (wsL_law0_r37 ++ (wsL_law0_r38 ++ (wsL_law0_r39 ++ (wsL_law0_r40 ++ (wsL_law0_r41 ++ (wsL_law0_r42 ++ (wsL_law0_r43 ++ (wsL_law0_r44 ++ (wsL_law0_r45 ++ (wsL_law0_r46 ++ (wsL_law0_r47 ++ (wsL_law0_r48 ++ (wsL_law0_r49 ++ (wsL_law0_r50 ++ (wsL_law0_r51 ++ (wsL_law0_r52 ++ (wsL_law0_r53 ++ (wsL_law0_r54 ++ (wsL_law0_r55 ++ (wsL_law0_r56 ++ (wsL_law0_r57 ++ (wsL_law0_r58 ++ (wsL_law0_r59 ++ (wsL_law0_r60 ++ (wsL_law0_r61 ++ (wsL_law0_r62 ++ (wsL_law0_r63 ++ (wsL_law0_r64 ++ (wsL_law0_r65 ++ (wsL_law0_r66 ++ (wsL_law0_r67 ++ (wsL_law0_r68 ++ (wsL_law0_r69 ++ (wsL_law0_r70 ++ (wsL_law0_r71 ++ (wsL_law0_r72 ++ (wsL_law0_r73 ++ (wsL_law0_r74 ++ (wsL_law0_r75 ++ (wsL_law0_r76 ++ (wsL_law0_r77 ++ (wsL_law0_r78 ++ (wsL_law0_r79 ++ (wsL_law0_r80 ++ (wsL_law0_r81 ++ (wsL_law0_r82 ++ wsL_law0_r83)))))))))))))))))))))))))))))))))))))))))))))))))))))))))))))))))))))))))))))))))) ++ wsX110 ++ wsX120 ++ wsX90 ++ wsX20 ++ wsX60 ++ wsX80 ++ wsX70 ++ wsX10 ++ wsX100 ++ wsX00 ++ wsX30 ++ wsX50 ++ wsX40 ++ wsJ40 ++ ([] : List Cond)
theorem inJx145de : ∀ w ∈ wsJx145de0, w ∈ lw_tbl := by decide +kernel
theorem inJx2cfe8 : ∀ w ∈ wsJx2cfe80, w ∈ lw_tbl := by decide +kernel
theorem inJx9f9b0 : ∀ w ∈ wsJx9f9b00, w ∈ lw_tbl := by decide +kernel
theorem inJx8e188 : ∀ w ∈ wsJx8e1880, w ∈ lw_tbl := by decide +kernel
theorem inJxb160c : ∀ w ∈ wsJxb160c0, w ∈ lw_tbl := by decide +kernel
theorem inJxfd54e : ∀ w ∈ wsJxfd54e0, w ∈ lw_tbl := by decide +kernel
theorem inJx3cf43 : ∀ w ∈ wsJx3cf430, w ∈ lw_tbl := by decide +kernel
abbrev vwCl : List vw_C := [(RJ4, TJ4, 4), (RX0, TX0, 5), (RX1, TX1, 6), (RX2, TX2, 5), (RX3, TX3, 5), (RX4, TX4, 5), (RX5, TX5, 5), (RX6, TX6, 15), (RX7, TX7, 9), (RX8, TX8, 9), (RX9, TX9, 13), (RX10, TX10, 4), (RX11, TX11, 20), (RX12, TX12, 60)]

def wsL_law : List Cond := wsL_law0 ++ (vx_at0 RX11 156 "java/util/NoSuchElementException" ["java/lang/RuntimeException", "java/lang/Exception"]).filter goodWord
theorem inR1 : ∀ w ∈ wsL_law0_r1, w ∈ wsL_law := fun _ h => List.mem_append_left _ (List.mem_append_left _ (List.mem_append_left _ (List.mem_append_left _ (List.mem_append_left _ (List.mem_append_left _ (List.mem_append_left _ (List.mem_append_left _ (List.mem_append_left _ (List.mem_append_left _ (List.mem_append_left _ (List.mem_append_left _ (List.mem_append_left _ (List.mem_append_left _ (List.mem_append_left _ (List.mem_append_left _ (List.mem_append_left _ h))))))))))))))))
theorem inR2 : ∀ w ∈ wsL_law0_r2, w ∈ wsL_law := fun _ h => List.mem_append_left _ (List.mem_append_left _ (List.mem_append_left _ (List.mem_append_left _ (List.mem_append_left _ (List.mem_append_left _ (List.mem_append_left _ (List.mem_append_left _ (List.mem_append_left _ (List.mem_append_left _ (List.mem_append_left _ (List.mem_append_left _ (List.mem_append_left _ (List.mem_append_left _ (List.mem_append_left _ (List.mem_append_left _ (List.mem_append_right _ (List.mem_append_left _ h)))))))))))))))))
theorem inR3 : ∀ w ∈ wsL_law0_r3, w ∈ wsL_law := fun _ h => List.mem_append_left _ (List.mem_append_left _ (List.mem_append_left _ (List.mem_append_left _ (List.mem_append_left _ (List.mem_append_left _ (List.mem_append_left _ (List.mem_append_left _ (List.mem_append_left _ (List.mem_append_left _ (List.mem_append_left _ (List.mem_append_left _ (List.mem_append_left _ (List.mem_append_left _ (List.mem_append_left _ (List.mem_append_left _ (List.mem_append_right _ (List.mem_append_right _ (List.mem_append_left _ h))))))))))))))))))
theorem inR4 : ∀ w ∈ wsL_law0_r4, w ∈ wsL_law := fun _ h => List.mem_append_left _ (List.mem_append_left _ (List.mem_append_left _ (List.mem_append_left _ (List.mem_append_left _ (List.mem_append_left _ (List.mem_append_left _ (List.mem_append_left _ (List.mem_append_left _ (List.mem_append_left _ (List.mem_append_left _ (List.mem_append_left _ (List.mem_append_left _ (List.mem_append_left _ (List.mem_append_left _ (List.mem_append_left _ (List.mem_append_right _ (List.mem_append_right _ (List.mem_append_right _ (List.mem_append_left _ h)))))))))))))))))))
theorem inR5 : ∀ w ∈ wsL_law0_r5, w ∈ wsL_law := fun _ h => List.mem_append_left _ (List.mem_append_left _ (List.mem_append_left _ (List.mem_append_left _ (List.mem_append_left _ (List.mem_append_left _ (List.mem_append_left _ (List.mem_append_left _ (List.mem_append_left _ (List.mem_append_left _ (List.mem_append_left _ (List.mem_append_left _ (List.mem_append_left _ (List.mem_append_left _ (List.mem_append_left _ (List.mem_append_left _ (List.mem_append_right _ (List.mem_append_right _ (List.mem_append_right _ (List.mem_append_right _ (List.mem_append_left _ h))))))))))))))))))))
theorem inR6 : ∀ w ∈ wsL_law0_r6, w ∈ wsL_law := fun _ h => List.mem_append_left _ (List.mem_append_left _ (List.mem_append_left _ (List.mem_append_left _ (List.mem_append_left _ (List.mem_append_left _ (List.mem_append_left _ (List.mem_append_left _ (List.mem_append_left _ (List.mem_append_left _ (List.mem_append_left _ (List.mem_append_left _ (List.mem_append_left _ (List.mem_append_left _ (List.mem_append_left _ (List.mem_append_left _ (List.mem_append_right _ (List.mem_append_right _ (List.mem_append_right _ (List.mem_append_right _ (List.mem_append_right _ (List.mem_append_left _ h)))))))))))))))))))))
theorem inR7 : ∀ w ∈ wsL_law0_r7, w ∈ wsL_law := fun _ h => List.mem_append_left _ (List.mem_append_left _ (List.mem_append_left _ (List.mem_append_left _ (List.mem_append_left _ (List.mem_append_left _ (List.mem_append_left _ (List.mem_append_left _ (List.mem_append_left _ (List.mem_append_left _ (List.mem_append_left _ (List.mem_append_left _ (List.mem_append_left _ (List.mem_append_left _ (List.mem_append_left _ (List.mem_append_left _ (List.mem_append_right _ (List.mem_append_right _ (List.mem_append_right _ (List.mem_append_right _ (List.mem_append_right _ (List.mem_append_right _ (List.mem_append_left _ h))))))))))))))))))))))
theorem inR8 : ∀ w ∈ wsL_law0_r8, w ∈ wsL_law := fun _ h => List.mem_append_left _ (List.mem_append_left _ (List.mem_append_left _ (List.mem_append_left _ (List.mem_append_left _ (List.mem_append_left _ (List.mem_append_left _ (List.mem_append_left _ (List.mem_append_left _ (List.mem_append_left _ (List.mem_append_left _ (List.mem_append_left _ (List.mem_append_left _ (List.mem_append_left _ (List.mem_append_left _ (List.mem_append_left _ (List.mem_append_right _ (List.mem_append_right _ (List.mem_append_right _ (List.mem_append_right _ (List.mem_append_right _ (List.mem_append_right _ (List.mem_append_right _ (List.mem_append_left _ h)))))))))))))))))))))))
theorem inR9 : ∀ w ∈ wsL_law0_r9, w ∈ wsL_law := fun _ h => List.mem_append_left _ (List.mem_append_left _ (List.mem_append_left _ (List.mem_append_left _ (List.mem_append_left _ (List.mem_append_left _ (List.mem_append_left _ (List.mem_append_left _ (List.mem_append_left _ (List.mem_append_left _ (List.mem_append_left _ (List.mem_append_left _ (List.mem_append_left _ (List.mem_append_left _ (List.mem_append_left _ (List.mem_append_left _ (List.mem_append_right _ (List.mem_append_right _ (List.mem_append_right _ (List.mem_append_right _ (List.mem_append_right _ (List.mem_append_right _ (List.mem_append_right _ (List.mem_append_right _ (List.mem_append_left _ h))))))))))))))))))))))))
theorem inR10 : ∀ w ∈ wsL_law0_r10, w ∈ wsL_law := fun _ h => List.mem_append_left _ (List.mem_append_left _ (List.mem_append_left _ (List.mem_append_left _ (List.mem_append_left _ (List.mem_append_left _ (List.mem_append_left _ (List.mem_append_left _ (List.mem_append_left _ (List.mem_append_left _ (List.mem_append_left _ (List.mem_append_left _ (List.mem_append_left _ (List.mem_append_left _ (List.mem_append_left _ (List.mem_append_left _ (List.mem_append_right _ (List.mem_append_right _ (List.mem_append_right _ (List.mem_append_right _ (List.mem_append_right _ (List.mem_append_right _ (List.mem_append_right _ (List.mem_append_right _ (List.mem_append_right _ (List.mem_append_left _ h)))))))))))))))))))))))))
theorem inR11 : ∀ w ∈ wsL_law0_r11, w ∈ wsL_law := fun _ h => List.mem_append_left _ (List.mem_append_left _ (List.mem_append_left _ (List.mem_append_left _ (List.mem_append_left _ (List.mem_append_left _ (List.mem_append_left _ (List.mem_append_left _ (List.mem_append_left _ (List.mem_append_left _ (List.mem_append_left _ (List.mem_append_left _ (List.mem_append_left _ (List.mem_append_left _ (List.mem_append_left _ (List.mem_append_left _ (List.mem_append_right _ (List.mem_append_right _ (List.mem_append_right _ (List.mem_append_right _ (List.mem_append_right _ (List.mem_append_right _ (List.mem_append_right _ (List.mem_append_right _ (List.mem_append_right _ (List.mem_append_right _ (List.mem_append_left _ h))))))))))))))))))))))))))
theorem inR12 : ∀ w ∈ wsL_law0_r12, w ∈ wsL_law := fun _ h => List.mem_append_left _ (List.mem_append_left _ (List.mem_append_left _ (List.mem_append_left _ (List.mem_append_left _ (List.mem_append_left _ (List.mem_append_left _ (List.mem_append_left _ (List.mem_append_left _ (List.mem_append_left _ (List.mem_append_left _ (List.mem_append_left _ (List.mem_append_left _ (List.mem_append_left _ (List.mem_append_left _ (List.mem_append_left _ (List.mem_append_right _ (List.mem_append_right _ (List.mem_append_right _ (List.mem_append_right _ (List.mem_append_right _ (List.mem_append_right _ (List.mem_append_right _ (List.mem_append_right _ (List.mem_append_right _ (List.mem_append_right _ (List.mem_append_right _ (List.mem_append_left _ h)))))))))))))))))))))))))))
theorem inR13 : ∀ w ∈ wsL_law0_r13, w ∈ wsL_law := fun _ h => List.mem_append_left _ (List.mem_append_left _ (List.mem_append_left _ (List.mem_append_left _ (List.mem_append_left _ (List.mem_append_left _ (List.mem_append_left _ (List.mem_append_left _ (List.mem_append_left _ (List.mem_append_left _ (List.mem_append_left _ (List.mem_append_left _ (List.mem_append_left _ (List.mem_append_left _ (List.mem_append_left _ (List.mem_append_left _ (List.mem_append_right _ (List.mem_append_right _ (List.mem_append_right _ (List.mem_append_right _ (List.mem_append_right _ (List.mem_append_right _ (List.mem_append_right _ (List.mem_append_right _ (List.mem_append_right _ (List.mem_append_right _ (List.mem_append_right _ (List.mem_append_right _ (List.mem_append_left _ h))))))))))))))))))))))))))))
theorem inR14 : ∀ w ∈ wsL_law0_r14, w ∈ wsL_law := fun _ h => List.mem_append_left _ (List.mem_append_left _ (List.mem_append_left _ (List.mem_append_left _ (List.mem_append_left _ (List.mem_append_left _ (List.mem_append_left _ (List.mem_append_left _ (List.mem_append_left _ (List.mem_append_left _ (List.mem_append_left _ (List.mem_append_left _ (List.mem_append_left _ (List.mem_append_left _ (List.mem_append_left _ (List.mem_append_left _ (List.mem_append_right _ (List.mem_append_right _ (List.mem_append_right _ (List.mem_append_right _ (List.mem_append_right _ (List.mem_append_right _ (List.mem_append_right _ (List.mem_append_right _ (List.mem_append_right _ (List.mem_append_right _ (List.mem_append_right _ (List.mem_append_right _ (List.mem_append_right _ (List.mem_append_left _ h)))))))))))))))))))))))))))))
theorem inR15 : ∀ w ∈ wsL_law0_r15, w ∈ wsL_law := fun _ h => List.mem_append_left _ (List.mem_append_left _ (List.mem_append_left _ (List.mem_append_left _ (List.mem_append_left _ (List.mem_append_left _ (List.mem_append_left _ (List.mem_append_left _ (List.mem_append_left _ (List.mem_append_left _ (List.mem_append_left _ (List.mem_append_left _ (List.mem_append_left _ (List.mem_append_left _ (List.mem_append_left _ (List.mem_append_left _ (List.mem_append_right _ (List.mem_append_right _ (List.mem_append_right _ (List.mem_append_right _ (List.mem_append_right _ (List.mem_append_right _ (List.mem_append_right _ (List.mem_append_right _ (List.mem_append_right _ (List.mem_append_right _ (List.mem_append_right _ (List.mem_append_right _ (List.mem_append_right _ (List.mem_append_right _ (List.mem_append_left _ h))))))))))))))))))))))))))))))
theorem inR16 : ∀ w ∈ wsL_law0_r16, w ∈ wsL_law := fun _ h => List.mem_append_left _ (List.mem_append_left _ (List.mem_append_left _ (List.mem_append_left _ (List.mem_append_left _ (List.mem_append_left _ (List.mem_append_left _ (List.mem_append_left _ (List.mem_append_left _ (List.mem_append_left _ (List.mem_append_left _ (List.mem_append_left _ (List.mem_append_left _ (List.mem_append_left _ (List.mem_append_left _ (List.mem_append_left _ (List.mem_append_right _ (List.mem_append_right _ (List.mem_append_right _ (List.mem_append_right _ (List.mem_append_right _ (List.mem_append_right _ (List.mem_append_right _ (List.mem_append_right _ (List.mem_append_right _ (List.mem_append_right _ (List.mem_append_right _ (List.mem_append_right _ (List.mem_append_right _ (List.mem_append_right _ (List.mem_append_right _ (List.mem_append_left _ h)))))))))))))))))))))))))))))))
theorem inR17 : ∀ w ∈ wsL_law0_r17, w ∈ wsL_law := fun _ h => List.mem_append_left _ (List.mem_append_left _ (List.mem_append_left _ (List.mem_append_left _ (List.mem_append_left _ (List.mem_append_left _ (List.mem_append_left _ (List.mem_append_left _ (List.mem_append_left _ (List.mem_append_left _ (List.mem_append_left _ (List.mem_append_left _ (List.mem_append_left _ (List.mem_append_left _ (List.mem_append_left _ (List.mem_append_left _ (List.mem_append_right _ (List.mem_append_right _ (List.mem_append_right _ (List.mem_append_right _ (List.mem_append_right _ (List.mem_append_right _ (List.mem_append_right _ (List.mem_append_right _ (List.mem_append_right _ (List.mem_append_right _ (List.mem_append_right _ (List.mem_append_right _ (List.mem_append_right _ (List.mem_append_right _ (List.mem_append_right _ (List.mem_append_right _ (List.mem_append_left _ h))))))))))))))))))))))))))))))))
theorem inR18 : ∀ w ∈ wsL_law0_r18, w ∈ wsL_law := fun _ h => List.mem_append_left _ (List.mem_append_left _ (List.mem_append_left _ (List.mem_append_left _ (List.mem_append_left _ (List.mem_append_left _ (List.mem_append_left _ (List.mem_append_left _ (List.mem_append_left _ (List.mem_append_left _ (List.mem_append_left _ (List.mem_append_left _ (List.mem_append_left _ (List.mem_append_left _ (List.mem_append_left _ (List.mem_append_left _ (List.mem_append_right _ (List.mem_append_right _ (List.mem_append_right _ (List.mem_append_right _ (List.mem_append_right _ (List.mem_append_right _ (List.mem_append_right _ (List.mem_append_right _ (List.mem_append_right _ (List.mem_append_right _ (List.mem_append_right _ (List.mem_append_right _ (List.mem_append_right _ (List.mem_append_right _ (List.mem_append_right _ (List.mem_append_right _ (List.mem_append_right _ (List.mem_append_left _ h)))))))))))))))))))))))))))))))))
theorem inR19 : ∀ w ∈ wsL_law0_r19, w ∈ wsL_law := fun _ h => List.mem_append_left _ (List.mem_append_left _ (List.mem_append_left _ (List.mem_append_left _ (List.mem_append_left _ (List.mem_append_left _ (List.mem_append_left _ (List.mem_append_left _ (List.mem_append_left _ (List.mem_append_left _ (List.mem_append_left _ (List.mem_append_left _ (List.mem_append_left _ (List.mem_append_left _ (List.mem_append_left _ (List.mem_append_left _ (List.mem_append_right _ (List.mem_append_right _ (List.mem_append_right _ (List.mem_append_right _ (List.mem_append_right _ (List.mem_append_right _ (List.mem_append_right _ (List.mem_append_right _ (List.mem_append_right _ (List.mem_append_right _ (List.mem_append_right _ (List.mem_append_right _ (List.mem_append_right _ (List.mem_append_right _ (List.mem_append_right _ (List.mem_append_right _ (List.mem_append_right _ (List.mem_append_right _ (List.mem_append_left _ h))))))))))))))))))))))))))))))))))
theorem inR20 : ∀ w ∈ wsL_law0_r20, w ∈ wsL_law := fun _ h => List.mem_append_left _ (List.mem_append_left _ (List.mem_append_left _ (List.mem_append_left _ (List.mem_append_left _ (List.mem_append_left _ (List.mem_append_left _ (List.mem_append_left _ (List.mem_append_left _ (List.mem_append_left _ (List.mem_append_left _ (List.mem_append_left _ (List.mem_append_left _ (List.mem_append_left _ (List.mem_append_left _ (List.mem_append_left _ (List.mem_append_right _ (List.mem_append_right _ (List.mem_append_right _ (List.mem_append_right _ (List.mem_append_right _ (List.mem_append_right _ (List.mem_append_right _ (List.mem_append_right _ (List.mem_append_right _ (List.mem_append_right _ (List.mem_append_right _ (List.mem_append_right _ (List.mem_append_right _ (List.mem_append_right _ (List.mem_append_right _ (List.mem_append_right _ (List.mem_append_right _ (List.mem_append_right _ (List.mem_append_right _ (List.mem_append_left _ h)))))))))))))))))))))))))))))))))))
theorem inR21 : ∀ w ∈ wsL_law0_r21, w ∈ wsL_law := fun _ h => List.mem_append_left _ (List.mem_append_left _ (List.mem_append_left _ (List.mem_append_left _ (List.mem_append_left _ (List.mem_append_left _ (List.mem_append_left _ (List.mem_append_left _ (List.mem_append_left _ (List.mem_append_left _ (List.mem_append_left _ (List.mem_append_left _ (List.mem_append_left _ (List.mem_append_left _ (List.mem_append_left _ (List.mem_append_left _ (List.mem_append_right _ (List.mem_append_right _ (List.mem_append_right _ (List.mem_append_right _ (List.mem_append_right _ (List.mem_append_right _ (List.mem_append_right _ (List.mem_append_right _ (List.mem_append_right _ (List.mem_append_right _ (List.mem_append_right _ (List.mem_append_right _ (List.mem_append_right _ (List.mem_append_right _ (List.mem_append_right _ (List.mem_append_right _ (List.mem_append_right _ (List.mem_append_right _ (List.mem_append_right _ (List.mem_append_right _ (List.mem_append_left _ h))))))))))))))))))))))))))))))))))))
theorem inR22 : ∀ w ∈ wsL_law0_r22, w ∈ wsL_law := fun _ h => List.mem_append_left _ (List.mem_append_left _ (List.mem_append_left _ (List.mem_append_left _ (List.mem_append_left _ (List.mem_append_left _ (List.mem_append_left _ (List.mem_append_left _ (List.mem_append_left _ (List.mem_append_left _ (List.mem_append_left _ (List.mem_append_left _ (List.mem_append_left _ (List.mem_append_left _ (List.mem_append_left _ (List.mem_append_left _ (List.mem_append_right _ (List.mem_append_right _ (List.mem_append_right _ (List.mem_append_right _ (List.mem_append_right _ (List.mem_append_right _ (List.mem_append_right _ (List.mem_append_right _ (List.mem_append_right _ (List.mem_append_right _ (List.mem_append_right _ (List.mem_append_right _ (List.mem_append_right _ (List.mem_append_right _ (List.mem_append_right _ (List.mem_append_right _ (List.mem_append_right _ (List.mem_append_right _ (List.mem_append_right _ (List.mem_append_right _ (List.mem_append_right _ (List.mem_append_left _ h)))))))))))))))))))))))))))))))))))))
theorem inR23 : ∀ w ∈ wsL_law0_r23, w ∈ wsL_law := fun _ h => List.mem_append_left _ (List.mem_append_left _ (List.mem_append_left _ (List.mem_append_left _ (List.mem_append_left _ (List.mem_append_left _ (List.mem_append_left _ (List.mem_append_left _ (List.mem_append_left _ (List.mem_append_left _ (List.mem_append_left _ (List.mem_append_left _ (List.mem_append_left _ (List.mem_append_left _ (List.mem_append_left _ (List.mem_append_left _ (List.mem_append_right _ (List.mem_append_right _ (List.mem_append_right _ (List.mem_append_right _ (List.mem_append_right _ (List.mem_append_right _ (List.mem_append_right _ (List.mem_append_right _ (List.mem_append_right _ (List.mem_append_right _ (List.mem_append_right _ (List.mem_append_right _ (List.mem_append_right _ (List.mem_append_right _ (List.mem_append_right _ (List.mem_append_right _ (List.mem_append_right _ (List.mem_append_right _ (List.mem_append_right _ (List.mem_append_right _ (List.mem_append_right _ (List.mem_append_right _ (List.mem_append_left _ h))))))))))))))))))))))))))))))))))))))
theorem inR24 : ∀ w ∈ wsL_law0_r24, w ∈ wsL_law := fun _ h => List.mem_append_left _ (List.mem_append_left _ (List.mem_append_left _ (List.mem_append_left _ (List.mem_append_left _ (List.mem_append_left _ (List.mem_append_left _ (List.mem_append_left _ (List.mem_append_left _ (List.mem_append_left _ (List.mem_append_left _ (List.mem_append_left _ (List.mem_append_left _ (List.mem_append_left _ (List.mem_append_left _ (List.mem_append_left _ (List.mem_append_right _ (List.mem_append_right _ (List.mem_append_right _ (List.mem_append_right _ (List.mem_append_right _ (List.mem_append_right _ (List.mem_append_right _ (List.mem_append_right _ (List.mem_append_right _ (List.mem_append_right _ (List.mem_append_right _ (List.mem_append_right _ (List.mem_append_right _ (List.mem_append_right _ (List.mem_append_right _ (List.mem_append_right _ (List.mem_append_right _ (List.mem_append_right _ (List.mem_append_right _ (List.mem_append_right _ (List.mem_append_right _ (List.mem_append_right _ (List.mem_append_right _ (List.mem_append_left _ h)))))))))))))))))))))))))))))))))))))))
theorem inR25 : ∀ w ∈ wsL_law0_r25, w ∈ wsL_law := fun _ h => List.mem_append_left _ (List.mem_append_left _ (List.mem_append_left _ (List.mem_append_left _ (List.mem_append_left _ (List.mem_append_left _ (List.mem_append_left _ (List.mem_append_left _ (List.mem_append_left _ (List.mem_append_left _ (List.mem_append_left _ (List.mem_append_left _ (List.mem_append_left _ (List.mem_append_left _ (List.mem_append_left _ (List.mem_append_left _ (List.mem_append_right _ (List.mem_append_right _ (List.mem_append_right _ (List.mem_append_right _ (List.mem_append_right _ (List.mem_append_right _ (List.mem_append_right _ (List.mem_append_right _ (List.mem_append_right _ (List.mem_append_right _ (List.mem_append_right _ (List.mem_append_right _ (List.mem_append_right _ (List.mem_append_right _ (List.mem_append_right _ (List.mem_append_right _ (List.mem_append_right _ (List.mem_append_right _ (List.mem_append_right _ (List.mem_append_right _ (List.mem_append_right _ (List.mem_append_right _ (List.mem_append_right _ (List.mem_append_right _ (List.mem_append_left _ h))))))))))))))))))))))))))))))))))))))))
theorem inR26 : ∀ w ∈ wsL_law0_r26, w ∈ wsL_law := fun _ h => List.mem_append_left _ (List.mem_append_left _ (List.mem_append_left _ (List.mem_append_left _ (List.mem_append_left _ (List.mem_append_left _ (List.mem_append_left _ (List.mem_append_left _ (List.mem_append_left _ (List.mem_append_left _ (List.mem_append_left _ (List.mem_append_left _ (List.mem_append_left _ (List.mem_append_left _ (List.mem_append_left _ (List.mem_append_left _ (List.mem_append_right _ (List.mem_append_right _ (List.mem_append_right _ (List.mem_append_right _ (List.mem_append_right _ (List.mem_append_right _ (List.mem_append_right _ (List.mem_append_right _ (List.mem_append_right _ (List.mem_append_right _ (List.mem_append_right _ (List.mem_append_right _ (List.mem_append_right _ (List.mem_append_right _ (List.mem_append_right _ (List.mem_append_right _ (List.mem_append_right _ (List.mem_append_right _ (List.mem_append_right _ (List.mem_append_right _ (List.mem_append_right _ (List.mem_append_right _ (List.mem_append_right _ (List.mem_append_right _ (List.mem_append_right _ (List.mem_append_left _ h)))))))))))))))))))))))))))))))))))))))))
theorem inR27 : ∀ w ∈ wsL_law0_r27, w ∈ wsL_law := fun _ h => List.mem_append_left _ (List.mem_append_left _ (List.mem_append_left _ (List.mem_append_left _ (List.mem_append_left _ (List.mem_append_left _ (List.mem_append_left _ (List.mem_append_left _ (List.mem_append_left _ (List.mem_append_left _ (List.mem_append_left _ (List.mem_append_left _ (List.mem_append_left _ (List.mem_append_left _ (List.mem_append_left _ (List.mem_append_left _ (List.mem_append_right _ (List.mem_append_right _ (List.mem_append_right _ (List.mem_append_right _ (List.mem_append_right _ (List.mem_append_right _ (List.mem_append_right _ (List.mem_append_right _ (List.mem_append_right _ (List.mem_append_right _ (List.mem_append_right _ (List.mem_append_right _ (List.mem_append_right _ (List.mem_append_right _ (List.mem_append_right _ (List.mem_append_right _ (List.mem_append_right _ (List.mem_append_right _ (List.mem_append_right _ (List.mem_append_right _ (List.mem_append_right _ (List.mem_append_right _ (List.mem_append_right _ (List.mem_append_right _ (List.mem_append_right _ (List.mem_append_right _ (List.mem_append_left _ h))))))))))))))))))))))))))))))))))))))))))
theorem inR28 : ∀ w ∈ wsL_law0_r28, w ∈ wsL_law := fun _ h => List.mem_append_left _ (List.mem_append_left _ (List.mem_append_left _ (List.mem_append_left _ (List.mem_append_left _ (List.mem_append_left _ (List.mem_append_left _ (List.mem_append_left _ (List.mem_append_left _ (List.mem_append_left _ (List.mem_append_left _ (List.mem_append_left _ (List.mem_append_left _ (List.mem_append_left _ (List.mem_append_left _ (List.mem_append_left _ (List.mem_append_right _ (List.mem_append_right _ (List.mem_append_right _ (List.mem_append_right _ (List.mem_append_right _ (List.mem_append_right _ (List.mem_append_right _ (List.mem_append_right _ (List.mem_append_right _ (List.mem_append_right _ (List.mem_append_right _ (List.mem_append_right _ (List.mem_append_right _ (List.mem_append_right _ (List.mem_append_right _ (List.mem_append_right _ (List.mem_append_right _ (List.mem_append_right _ (List.mem_append_right _ (List.mem_append_right _ (List.mem_append_right _ (List.mem_append_right _ (List.mem_append_right _ (List.mem_append_right _ (List.mem_append_right _ (List.mem_append_right _ (List.mem_append_right _ (List.mem_append_left _ h)))))))))))))))))))))))))))))))))))))))))))
theorem inR29 : ∀ w ∈ wsL_law0_r29, w ∈ wsL_law := fun _ h => List.mem_append_left _ (List.mem_append_left _ (List.mem_append_left _ (List.mem_append_left _ (List.mem_append_left _ (List.mem_append_left _ (List.mem_append_left _ (List.mem_append_left _ (List.mem_append_left _ (List.mem_append_left _ (List.mem_append_left _ (List.mem_append_left _ (List.mem_append_left _ (List.mem_append_left _ (List.mem_append_left _ (List.mem_append_left _ (List.mem_append_right _ (List.mem_append_right _ (List.mem_append_right _ (List.mem_append_right _ (List.mem_append_right _ (List.mem_append_right _ (List.mem_append_right _ (List.mem_append_right _ (List.mem_append_right _ (List.mem_append_right _ (List.mem_append_right _ (List.mem_append_right _ (List.mem_append_right _ (List.mem_append_right _ (List.mem_append_right _ (List.mem_append_right _ (List.mem_append_right _ (List.mem_append_right _ (List.mem_append_right _ (List.mem_append_right _ (List.mem_append_right _ (List.mem_append_right _ (List.mem_append_right _ (List.mem_append_right _ (List.mem_append_right _ (List.mem_append_right _ (List.mem_append_right _ (List.mem_append_right _ (List.mem_append_left _ h))))))))))))))))))))))))))))))))))))))))))))
theorem inR30 : ∀ w ∈ wsL_law0_r30, w ∈ wsL_law := fun _ h => List.mem_append_left _ (List.mem_append_left _ (List.mem_append_left _ (List.mem_append_left _ (List.mem_append_left _ (List.mem_append_left _ (List.mem_append_left _ (List.mem_append_left _ (List.mem_append_left _ (List.mem_append_left _ (List.mem_append_left _ (List.mem_append_left _ (List.mem_append_left _ (List.mem_append_left _ (List.mem_append_left _ (List.mem_append_left _ (List.mem_append_right _ (List.mem_append_right _ (List.mem_append_right _ (List.mem_append_right _ (List.mem_append_right _ (List.mem_append_right _ (List.mem_append_right _ (List.mem_append_right _ (List.mem_append_right _ (List.mem_append_right _ (List.mem_append_right _ (List.mem_append_right _ (List.mem_append_right _ (List.mem_append_right _ (List.mem_append_right _ (List.mem_append_right _ (List.mem_append_right _ (List.mem_append_right _ (List.mem_append_right _ (List.mem_append_right _ (List.mem_append_right _ (List.mem_append_right _ (List.mem_append_right _ (List.mem_append_right _ (List.mem_append_right _ (List.mem_append_right _ (List.mem_append_right _ (List.mem_append_right _ (List.mem_append_right _ (List.mem_append_left _ h)))))))))))))))))))))))))))))))))))))))))))))
theorem inR31 : ∀ w ∈ wsL_law0_r31, w ∈ wsL_law := fun _ h => List.mem_append_left _ (List.mem_append_left _ (List.mem_append_left _ (List.mem_append_left _ (List.mem_append_left _ (List.mem_append_left _ (List.mem_append_left _ (List.mem_append_left _ (List.mem_append_left _ (List.mem_append_left _ (List.mem_append_left _ (List.mem_append_left _ (List.mem_append_left _ (List.mem_append_left _ (List.mem_append_left _ (List.mem_append_left _ (List.mem_append_right _ (List.mem_append_right _ (List.mem_append_right _ (List.mem_append_right _ (List.mem_append_right _ (List.mem_append_right _ (List.mem_append_right _ (List.mem_append_right _ (List.mem_append_right _ (List.mem_append_right _ (List.mem_append_right _ (List.mem_append_right _ (List.mem_append_right _ (List.mem_append_right _ (List.mem_append_right _ (List.mem_append_right _ (List.mem_append_right _ (List.mem_append_right _ (List.mem_append_right _ (List.mem_append_right _ (List.mem_append_right _ (List.mem_append_right _ (List.mem_append_right _ (List.mem_append_right _ (List.mem_append_right _ (List.mem_append_right _ (List.mem_append_right _ (List.mem_append_right _ (List.mem_append_right _ (List.mem_append_right _ (List.mem_append_left _ h))))))))))))))))))))))))))))))))))))))))))))))
theorem inR32 : ∀ w ∈ wsL_law0_r32, w ∈ wsL_law := fun _ h => List.mem_append_left _ (List.mem_append_left _ (List.mem_append_left _ (List.mem_append_left _ (List.mem_append_left _ (List.mem_append_left _ (List.mem_append_left _ (List.mem_append_left _ (List.mem_append_left _ (List.mem_append_left _ (List.mem_append_left _ (List.mem_append_left _ (List.mem_append_left _ (List.mem_append_left _ (List.mem_append_left _ (List.mem_append_left _ (List.mem_append_right _ (List.mem_append_right _ (List.mem_append_right _ (List.mem_append_right _ (List.mem_append_right _ (List.mem_append_right _ (List.mem_append_right _ (List.mem_append_right _ (List.mem_append_right _ (List.mem_append_right _ (List.mem_append_right _ (List.mem_append_right _ (List.mem_append_right _ (List.mem_append_right _ (List.mem_append_right _ (List.mem_append_right _ (List.mem_append_right _ (List.mem_append_right _ (List.mem_append_right _ (List.mem_append_right _ (List.mem_append_right _ (List.mem_append_right _ (List.mem_append_right _ (List.mem_append_right _ (List.mem_append_right _ (List.mem_append_right _ (List.mem_append_right _ (List.mem_append_right _ (List.mem_append_right _ (List.mem_append_right _ (List.mem_append_right _ (List.mem_append_left _ h)))))))))))))))))))))))))))))))))))))))))))))))
theorem inR33 : ∀ w ∈ wsL_law0_r33, w ∈ wsL_law := fun _ h => List.mem_append_left _ (List.mem_append_left _ (List.mem_append_left _ (List.mem_append_left _ (List.mem_append_left _ (List.mem_append_left _ (List.mem_append_left _ (List.mem_append_left _ (List.mem_append_left _ (List.mem_append_left _ (List.mem_append_left _ (List.mem_append_left _ (List.mem_append_left _ (List.mem_append_left _ (List.mem_append_left _ (List.mem_append_left _ (List.mem_append_right _ (List.mem_append_right _ (List.mem_append_right _ (List.mem_append_right _ (List.mem_append_right _ (List.mem_append_right _ (List.mem_append_right _ (List.mem_append_right _ (List.mem_append_right _ (List.mem_append_right _ (List.mem_append_right _ (List.mem_append_right _ (List.mem_append_right _ (List.mem_append_right _ (List.mem_append_right _ (List.mem_append_right _ (List.mem_append_right _ (List.mem_append_right _ (List.mem_append_right _ (List.mem_append_right _ (List.mem_append_right _ (List.mem_append_right _ (List.mem_append_right _ (List.mem_append_right _ (List.mem_append_right _ (List.mem_append_right _ (List.mem_append_right _ (List.mem_append_right _ (List.mem_append_right _ (List.mem_append_right _ (List.mem_append_right _ (List.mem_append_right _ (List.mem_append_left _ h))))))))))))))))))))))))))))))))))))))))))))))))
theorem inR34 : ∀ w ∈ wsL_law0_r34, w ∈ wsL_law := fun _ h => List.mem_append_left _ (List.mem_append_left _ (List.mem_append_left _ (List.mem_append_left _ (List.mem_append_left _ (List.mem_append_left _ (List.mem_append_left _ (List.mem_append_left _ (List.mem_append_left _ (List.mem_append_left _ (List.mem_append_left _ (List.mem_append_left _ (List.mem_append_left _ (List.mem_append_left _ (List.mem_append_left _ (List.mem_append_left _ (List.mem_append_right _ (List.mem_append_right _ (List.mem_append_right _ (List.mem_append_right _ (List.mem_append_right _ (List.mem_append_right _ (List.mem_append_right _ (List.mem_append_right _ (List.mem_append_right _ (List.mem_append_right _ (List.mem_append_right _ (List.mem_append_right _ (List.mem_append_right _ (List.mem_append_right _ (List.mem_append_right _ (List.mem_append_right _ (List.mem_append_right _ (List.mem_append_right _ (List.mem_append_right _ (List.mem_append_right _ (List.mem_append_right _ (List.mem_append_right _ (List.mem_append_right _ (List.mem_append_right _ (List.mem_append_right _ (List.mem_append_right _ (List.mem_append_right _ (List.mem_append_right _ (List.mem_append_right _ (List.mem_append_right _ (List.mem_append_right _ (List.mem_append_right _ (List.mem_append_right _ (List.mem_append_left _ h)))))))))))))))))))))))))))))))))))))))))))))))))
theorem inR35 : ∀ w ∈ wsL_law0_r35, w ∈ wsL_law := fun _ h => List.mem_append_left _ (List.mem_append_left _ (List.mem_append_left _ (List.mem_append_left _ (List.mem_append_left _ (List.mem_append_left _ (List.mem_append_left _ (List.mem_append_left _ (List.mem_append_left _ (List.mem_append_left _ (List.mem_append_left _ (List.mem_append_left _ (List.mem_append_left _ (List.mem_append_left _ (List.mem_append_left _ (List.mem_append_left _ (List.mem_append_right _ (List.mem_append_right _ (List.mem_append_right _ (List.mem_append_right _ (List.mem_append_right _ (List.mem_append_right _ (List.mem_append_right _ (List.mem_append_right _ (List.mem_append_right _ (List.mem_append_right _ (List.mem_append_right _ (List.mem_append_right _ (List.mem_append_right _ (List.mem_append_right _ (List.mem_append_right _ (List.mem_append_right _ (List.mem_append_right _ (List.mem_append_right _ (List.mem_append_right _ (List.mem_append_right _ (List.mem_append_right _ (List.mem_append_right _ (List.mem_append_right _ (List.mem_append_right _ (List.mem_append_right _ (List.mem_append_right _ (List.mem_append_right _ (List.mem_append_right _ (List.mem_append_right _ (List.mem_append_right _ (List.mem_append_right _ (List.mem_append_right _ (List.mem_append_right _ (List.mem_append_right _ (List.mem_append_left _ h))))))))))))))))))))))))))))))))))))))))))))))))))
theorem inR36 : ∀ w ∈ wsL_law0_r36, w ∈ wsL_law := fun _ h => List.mem_append_left _ (List.mem_append_left _ (List.mem_append_left _ (List.mem_append_left _ (List.mem_append_left _ (List.mem_append_left _ (List.mem_append_left _ (List.mem_append_left _ (List.mem_append_left _ (List.mem_append_left _ (List.mem_append_left _ (List.mem_append_left _ (List.mem_append_left _ (List.mem_append_left _ (List.mem_append_left _ (List.mem_append_left _ (List.mem_append_right _ (List.mem_append_right _ (List.mem_append_right _ (List.mem_append_right _ (List.mem_append_right _ (List.mem_append_right _ (List.mem_append_right _ (List.mem_append_right _ (List.mem_append_right _ (List.mem_append_right _ (List.mem_append_right _ (List.mem_append_right _ (List.mem_append_right _ (List.mem_append_right _ (List.mem_append_right _ (List.mem_append_right _ (List.mem_append_right _ (List.mem_append_right _ (List.mem_append_right _ (List.mem_append_right _ (List.mem_append_right _ (List.mem_append_right _ (List.mem_append_right _ (List.mem_append_right _ (List.mem_append_right _ (List.mem_append_right _ (List.mem_append_right _ (List.mem_append_right _ (List.mem_append_right _ (List.mem_append_right _ (List.mem_append_right _ (List.mem_append_right _ (List.mem_append_right _ (List.mem_append_right _ (List.mem_append_right _ (List.mem_append_left _ h)))))))))))))))))))))))))))))))))))))))))))))))))))
theorem inR37 : ∀ w ∈ wsL_law0_r37, w ∈ wsL_law := fun _ h => List.mem_append_left _ (List.mem_append_left _ (List.mem_append_left _ (List.mem_append_left _ (List.mem_append_left _ (List.mem_append_left _ (List.mem_append_left _ (List.mem_append_left _ (List.mem_append_left _ (List.mem_append_left _ (List.mem_append_left _ (List.mem_append_left _ (List.mem_append_left _ (List.mem_append_left _ (List.mem_append_left _ (List.mem_append_left _ (List.mem_append_right _ (List.mem_append_right _ (List.mem_append_right _ (List.mem_append_right _ (List.mem_append_right _ (List.mem_append_right _ (List.mem_append_right _ (List.mem_append_right _ (List.mem_append_right _ (List.mem_append_right _ (List.mem_append_right _ (List.mem_append_right _ (List.mem_append_right _ (List.mem_append_right _ (List.mem_append_right _ (List.mem_append_right _ (List.mem_append_right _ (List.mem_append_right _ (List.mem_append_right _ (List.mem_append_right _ (List.mem_append_right _ (List.mem_append_right _ (List.mem_append_right _ (List.mem_append_right _ (List.mem_append_right _ (List.mem_append_right _ (List.mem_append_right _ (List.mem_append_right _ (List.mem_append_right _ (List.mem_append_right _ (List.mem_append_right _ (List.mem_append_right _ (List.mem_append_right _ (List.mem_append_right _ (List.mem_append_right _ (List.mem_append_right _ (List.mem_append_left _ h))))))))))))))))))))))))))))))))))))))))))))))))))))
theorem inR38 : ∀ w ∈ wsL_law0_r38, w ∈ wsL_law := fun _ h => List.mem_append_left _ (List.mem_append_left _ (List.mem_append_left _ (List.mem_append_left _ (List.mem_append_left _ (List.mem_append_left _ (List.mem_append_left _ (List.mem_append_left _ (List.mem_append_left _ (List.mem_append_left _ (List.mem_append_left _ (List.mem_append_left _ (List.mem_append_left _ (List.mem_append_left _ (List.mem_append_left _ (List.mem_append_left _ (List.mem_append_right _ (List.mem_append_right _ (List.mem_append_right _ (List.mem_append_right _ (List.mem_append_right _ (List.mem_append_right _ (List.mem_append_right _ (List.mem_append_right _ (List.mem_append_right _ (List.mem_append_right _ (List.mem_append_right _ (List.mem_append_right _ (List.mem_append_right _ (List.mem_append_right _ (List.mem_append_right _ (List.mem_append_right _ (List.mem_append_right _ (List.mem_append_right _ (List.mem_append_right _ (List.mem_append_right _ (List.mem_append_right _ (List.mem_append_right _ (List.mem_append_right _ (List.mem_append_right _ (List.mem_append_right _ (List.mem_append_right _ (List.mem_append_right _ (List.mem_append_right _ (List.mem_append_right _ (List.mem_append_right _ (List.mem_append_right _ (List.mem_append_right _ (List.mem_append_right _ (List.mem_append_right _ (List.mem_append_right _ (List.mem_append_right _ (List.mem_append_right _ (List.mem_append_left _ h)))))))))))))))))))))))))))))))))))))))))))))))))))))
theorem inR39 : ∀ w ∈ wsL_law0_r39, w ∈ wsL_law := fun _ h => List.mem_append_left _ (List.mem_append_left _ (List.mem_append_left _ (List.mem_append_left _ (List.mem_append_left _ (List.mem_append_left _ (List.mem_append_left _ (List.mem_append_left _ (List.mem_append_left _ (List.mem_append_left _ (List.mem_append_left _ (List.mem_append_left _ (List.mem_append_left _ (List.mem_append_left _ (List.mem_append_left _ (List.mem_append_left _ (List.mem_append_right _ (List.mem_append_right _ (List.mem_append_right _ (List.mem_append_right _ (List.mem_append_right _ (List.mem_append_right _ (List.mem_append_right _ (List.mem_append_right _ (List.mem_append_right _ (List.mem_append_right _ (List.mem_append_right _ (List.mem_append_right _ (List.mem_append_right _ (List.mem_append_right _ (List.mem_append_right _ (List.mem_append_right _ (List.mem_append_right _ (List.mem_append_right _ (List.mem_append_right _ (List.mem_append_right _ (List.mem_append_right _ (List.mem_append_right _ (List.mem_append_right _ (List.mem_append_right _ (List.mem_append_right _ (List.mem_append_right _ (List.mem_append_right _ (List.mem_append_right _ (List.mem_append_right _ (List.mem_append_right _ (List.mem_append_right _ (List.mem_append_right _ (List.mem_append_right _ (List.mem_append_right _ (List.mem_append_right _ (List.mem_append_right _ (List.mem_append_right _ (List.mem_append_right _ (List.mem_append_left _ h))))))))))))))))))))))))))))))))))))))))))))))))))))))
theorem inR40 : ∀ w ∈ wsL_law0_r40, w ∈ wsL_law := fun _ h => List.mem_append_left _ (List.mem_append_left _ (List.mem_append_left _ (List.mem_append_left _ (List.mem_append_left _ (List.mem_append_left _ (List.mem_append_left _ (List.mem_append_left _ (List.mem_append_left _ (List.mem_append_left _ (List.mem_append_left _ (List.mem_append_left _ (List.mem_append_left _ (List.mem_append_left _ (List.mem_append_left _ (List.mem_append_left _ (List.mem_append_right _ (List.mem_append_right _ (List.mem_append_right _ (List.mem_append_right _ (List.mem_append_right _ (List.mem_append_right _ (List.mem_append_right _ (List.mem_append_right _ (List.mem_append_right _ (List.mem_append_right _ (List.mem_append_right _ (List.mem_append_right _ (List.mem_append_right _ (List.mem_append_right _ (List.mem_append_right _ (List.mem_append_right _ (List.mem_append_right _ (List.mem_append_right _ (List.mem_append_right _ (List.mem_append_right _ (List.mem_append_right _ (List.mem_append_right _ (List.mem_append_right _ (List.mem_append_right _ (List.mem_append_right _ (List.mem_append_right _ (List.mem_append_right _ (List.mem_append_right _ (List.mem_append_right _ (List.mem_append_right _ (List.mem_append_right _ (List.mem_append_right _ (List.mem_append_right _ (List.mem_append_right _ (List.mem_append_right _ (List.mem_append_right _ (List.mem_append_right _ (List.mem_append_right _ (List.mem_append_right _ (List.mem_append_left _ h)))))))))))))))))))))))))))))))))))))))))))))))))))))))
theorem inR41 : ∀ w ∈ wsL_law0_r41, w ∈ wsL_law := fun _ h => List.mem_append_left _ (List.mem_append_left _ (List.mem_append_left _ (List.mem_append_left _ (List.mem_append_left _ (List.mem_append_left _ (List.mem_append_left _ (List.mem_append_left _ (List.mem_append_left _ (List.mem_append_left _ (List.mem_append_left _ (List.mem_append_left _ (List.mem_append_left _ (List.mem_append_left _ (List.mem_append_left _ (List.mem_append_left _ (List.mem_append_right _ (List.mem_append_right _ (List.mem_append_right _ (List.mem_append_right _ (List.mem_append_right _ (List.mem_append_right _ (List.mem_append_right _ (List.mem_append_right _ (List.mem_append_right _ (List.mem_append_right _ (List.mem_append_right _ (List.mem_append_right _ (List.mem_append_right _ (List.mem_append_right _ (List.mem_append_right _ (List.mem_append_right _ (List.mem_append_right _ (List.mem_append_right _ (List.mem_append_right _ (List.mem_append_right _ (List.mem_append_right _ (List.mem_append_right _ (List.mem_append_right _ (List.mem_append_right _ (List.mem_append_right _ (List.mem_append_right _ (List.mem_append_right _ (List.mem_append_right _ (List.mem_append_right _ (List.mem_append_right _ (List.mem_append_right _ (List.mem_append_right _ (List.mem_append_right _ (List.mem_append_right _ (List.mem_append_right _ (List.mem_append_right _ (List.mem_append_right _ (List.mem_append_right _ (List.mem_append_right _ (List.mem_append_right _ (List.mem_append_left _ h))))))))))))))))))))))))))))))))))))))))))))))))))))))))
theorem inR42 : ∀ w ∈ wsL_law0_r42, w ∈ wsL_law := fun _ h => List.mem_append_left _ (List.mem_append_left _ (List.mem_append_left _ (List.mem_append_left _ (List.mem_append_left _ (List.mem_append_left _ (List.mem_append_left _ (List.mem_append_left _ (List.mem_append_left _ (List.mem_append_left _ (List.mem_append_left _ (List.mem_append_left _ (List.mem_append_left _ (List.mem_append_left _ (List.mem_append_left _ (List.mem_append_left _ (List.mem_append_right _ (List.mem_append_right _ (List.mem_append_right _ (List.mem_append_right _ (List.mem_append_right _ (List.mem_append_right _ (List.mem_append_right _ (List.mem_append_right _ (List.mem_append_right _ (List.mem_append_right _ (List.mem_append_right _ (List.mem_append_right _ (List.mem_append_right _ (List.mem_append_right _ (List.mem_append_right _ (List.mem_append_right _ (List.mem_append_right _ (List.mem_append_right _ (List.mem_append_right _ (List.mem_append_right _ (List.mem_append_right _ (List.mem_append_right _ (List.mem_append_right _ (List.mem_append_right _ (List.mem_append_right _ (List.mem_append_right _ (List.mem_append_right _ (List.mem_append_right _ (List.mem_append_right _ (List.mem_append_right _ (List.mem_append_right _ (List.mem_append_right _ (List.mem_append_right _ (List.mem_append_right _ (List.mem_append_right _ (List.mem_append_right _ (List.mem_append_right _ (List.mem_append_right _ (List.mem_append_right _ (List.mem_append_right _ (List.mem_append_right _ (List.mem_append_left _ h)))))))))))))))))))))))))))))))))))))))))))))))))))))))))
theorem inR43 : ∀ w ∈ wsL_law0_r43, w ∈ wsL_law := fun _ h => List.mem_append_left _ (List.mem_append_left _ (List.mem_append_left _ (List.mem_append_left _ (List.mem_append_left _ (List.mem_append_left _ (List.mem_append_left _ (List.mem_append_left _ (List.mem_append_left _ (List.mem_append_left _ (List.mem_append_left _ (List.mem_append_left _ (List.mem_append_left _ (List.mem_append_left _ (List.mem_append_left _ (List.mem_append_left _ (List.mem_append_right _ (List.mem_append_right _ (List.mem_append_right _ (List.mem_append_right _ (List.mem_append_right _ (List.mem_append_right _ (List.mem_append_right _ (List.mem_append_right _ (List.mem_append_right _ (List.mem_append_right _ (List.mem_append_right _ (List.mem_append_right _ (List.mem_append_right _ (List.mem_append_right _ (List.mem_append_right _ (List.mem_append_right _ (List.mem_append_right _ (List.mem_append_right _ (List.mem_append_right _ (List.mem_append_right _ (List.mem_append_right _ (List.mem_append_right _ (List.mem_append_right _ (List.mem_append_right _ (List.mem_append_right _ (List.mem_append_right _ (List.mem_append_right _ (List.mem_append_right _ (List.mem_append_right _ (List.mem_append_right _ (List.mem_append_right _ (List.mem_append_right _ (List.mem_append_right _ (List.mem_append_right _ (List.mem_append_right _ (List.mem_append_right _ (List.mem_append_right _ (List.mem_append_right _ (List.mem_append_right _ (List.mem_append_right _ (List.mem_append_right _ (List.mem_append_right _ (List.mem_append_left _ h))))))))))))))))))))))))))))))))))))))))))))))))))))))))))
theorem inR44 : ∀ w ∈ wsL_law0_r44, w ∈ wsL_law := fun _ h => List.mem_append_left _ (List.mem_append_left _ (List.mem_append_left _ (List.mem_append_left _ (List.mem_append_left _ (List.mem_append_left _ (List.mem_append_left _ (List.mem_append_left _ (List.mem_append_left _ (List.mem_append_left _ (List.mem_append_left _ (List.mem_append_left _ (List.mem_append_left _ (List.mem_append_left _ (List.mem_append_left _ (List.mem_append_left _ (List.mem_append_right _ (List.mem_append_right _ (List.mem_append_right _ (List.mem_append_right _ (List.mem_append_right _ (List.mem_append_right _ (List.mem_append_right _ (List.mem_append_right _ (List.mem_append_right _ (List.mem_append_right _ (List.mem_append_right _ (List.mem_append_right _ (List.mem_append_right _ (List.mem_append_right _ (List.mem_append_right _ (List.mem_append_right _ (List.mem_append_right _ (List.mem_append_right _ (List.mem_append_right _ (List.mem_append_right _ (List.mem_append_right _ (List.mem_append_right _ (List.mem_append_right _ (List.mem_append_right _ (List.mem_append_right _ (List.mem_append_right _ (List.mem_append_right _ (List.mem_append_right _ (List.mem_append_right _ (List.mem_append_right _ (List.mem_append_right _ (List.mem_append_right _ (List.mem_append_right _ (List.mem_append_right _ (List.mem_append_right _ (List.mem_append_right _ (List.mem_append_right _ (List.mem_append_right _ (List.mem_append_right _ (List.mem_append_right _ (List.mem_append_right _ (List.mem_append_right _ (List.mem_append_right _ (List.mem_append_left _ h)))))))))))))))))))))))))))))))))))))))))))))))))))))))))))
theorem inR45 : ∀ w ∈ wsL_law0_r45, w ∈ wsL_law := fun _ h => List.mem_append_left _ (List.mem_append_left _ (List.mem_append_left _ (List.mem_append_left _ (List.mem_append_left _ (List.mem_append_left _ (List.mem_append_left _ (List.mem_append_left _ (List.mem_append_left _ (List.mem_append_left _ (List.mem_append_left _ (List.mem_append_left _ (List.mem_append_left _ (List.mem_append_left _ (List.mem_append_left _ (List.mem_append_left _ (List.mem_append_right _ (List.mem_append_right _ (List.mem_append_right _ (List.mem_append_right _ (List.mem_append_right _ (List.mem_append_right _ (List.mem_append_right _ (List.mem_append_right _ (List.mem_append_right _ (List.mem_append_right _ (List.mem_append_right _ (List.mem_append_right _ (List.mem_append_right _ (List.mem_append_right _ (List.mem_append_right _ (List.mem_append_right _ (List.mem_append_right _ (List.mem_append_right _ (List.mem_append_right _ (List.mem_append_right _ (List.mem_append_right _ (List.mem_append_right _ (List.mem_append_right _ (List.mem_append_right _ (List.mem_append_right _ (List.mem_append_right _ (List.mem_append_right _ (List.mem_append_right _ (List.mem_append_right _ (List.mem_append_right _ (List.mem_append_right _ (List.mem_append_right _ (List.mem_append_right _ (List.mem_append_right _ (List.mem_append_right _ (List.mem_append_right _ (List.mem_append_right _ (List.mem_append_right _ (List.mem_append_right _ (List.mem_append_right _ (List.mem_append_right _ (List.mem_append_right _ (List.mem_append_right _ (List.mem_append_right _ (List.mem_append_left _ h))))))))))))))))))))))))))))))))))))))))))))))))))))))))))))
theorem inR46 : ∀ w ∈ wsL_law0_r46, w ∈ wsL_law := fun _ h => List.mem_append_left _ (List.mem_append_left _ (List.mem_append_left _ (List.mem_append_left _ (List.mem_append_left _ (List.mem_append_left _ (List.mem_append_left _ (List.mem_append_left _ (List.mem_append_left _ (List.mem_append_left _ (List.mem_append_left _ (List.mem_append_left _ (List.mem_append_left _ (List.mem_append_left _ (List.mem_append_left _ (List.mem_append_left _ (List.mem_append_right _ (List.mem_append_right _ (List.mem_append_right _ (List.mem_append_right _ (List.mem_append_right _ (List.mem_append_right _ (List.mem_append_right _ (List.mem_append_right _ (List.mem_append_right _ (List.mem_append_right _ (List.mem_append_right _ (List.mem_append_right _ (List.mem_append_right _ (List.mem_append_right _ (List.mem_append_right _ (List.mem_append_right _ (List.mem_append_right _ (List.mem_append_right _ (List.mem_append_right _ (List.mem_append_right _ (List.mem_append_right _ (List.mem_append_right _ (List.mem_append_right _ (List.mem_append_right _ (List.mem_append_right _ (List.mem_append_right _ (List.mem_append_right _ (List.mem_append_right _ (List.mem_append_right _ (List.mem_append_right _ (List.mem_append_right _ (List.mem_append_right _ (List.mem_append_right _ (List.mem_append_right _ (List.mem_append_right _ (List.mem_append_right _ (List.mem_append_right _ (List.mem_append_right _ (List.mem_append_right _ (List.mem_append_right _ (List.mem_append_right _ (List.mem_append_right _ (List.mem_append_right _ (List.mem_append_right _ (List.mem_append_right _ (List.mem_append_left _ h)))))))))))))))))))))))))))))))))))))))))))))))))))))))))))))
theorem inR47 : ∀ w ∈ wsL_law0_r47, w ∈ wsL_law := fun _ h => List.mem_append_left _ (List.mem_append_left _ (List.mem_append_left _ (List.mem_append_left _ (List.mem_append_left _ (List.mem_append_left _ (List.mem_append_left _ (List.mem_append_left _ (List.mem_append_left _ (List.mem_append_left _ (List.mem_append_left _ (List.mem_append_left _ (List.mem_append_left _ (List.mem_append_left _ (List.mem_append_left _ (List.mem_append_left _ (List.mem_append_right _ (List.mem_append_right _ (List.mem_append_right _ (List.mem_append_right _ (List.mem_append_right _ (List.mem_append_right _ (List.mem_append_right _ (List.mem_append_right _ (List.mem_append_right _ (List.mem_append_right _ (List.mem_append_right _ (List.mem_append_right _ (List.mem_append_right _ (List.mem_append_right _ (List.mem_append_right _ (List.mem_append_right _ (List.mem_append_right _ (List.mem_append_right _ (List.mem_append_right _ (List.mem_append_right _ (List.mem_append_right _ (List.mem_append_right _ (List.mem_append_right _ (List.mem_append_right _ (List.mem_append_right _ (List.mem_append_right _ (List.mem_append_right _ (List.mem_append_right _ (List.mem_append_right _ (List.mem_append_right _ (List.mem_append_right _ (List.mem_append_right _ (List.mem_append_right _ (List.mem_append_right _ (List.mem_append_right _ (List.mem_append_right _ (List.mem_append_right _ (List.mem_append_right _ (List.mem_append_right _ (List.mem_append_right _ (List.mem_append_right _ (List.mem_append_right _ (List.mem_append_right _ (List.mem_append_right _ (List.mem_append_right _ (List.mem_append_right _ (List.mem_append_left _ h))))))))))))))))))))))))))))))))))))))))))))))))))))))))))))))
theorem inR48 : ∀ w ∈ wsL_law0_r48, w ∈ wsL_law := fun _ h => List.mem_append_left _ (List.mem_append_left _ (List.mem_append_left _ (List.mem_append_left _ (List.mem_append_left _ (List.mem_append_left _ (List.mem_append_left _ (List.mem_append_left _ (List.mem_append_left _ (List.mem_append_left _ (List.mem_append_left _ (List.mem_append_left _ (List.mem_append_left _ (List.mem_append_left _ (List.mem_append_left _ (List.mem_append_left _ (List.mem_append_right _ (List.mem_append_right _ (List.mem_append_right _ (List.mem_append_right _ (List.mem_append_right _ (List.mem_append_right _ (List.mem_append_right _ (List.mem_append_right _ (List.mem_append_right _ (List.mem_append_right _ (List.mem_append_right _ (List.mem_append_right _ (List.mem_append_right _ (List.mem_append_right _ (List.mem_append_right _ (List.mem_append_right _ (List.mem_append_right _ (List.mem_append_right _ (List.mem_append_right _ (List.mem_append_right _ (List.mem_append_right _ (List.mem_append_right _ (List.mem_append_right _ (List.mem_append_right _ (List.mem_append_right _ (List.mem_append_right _ (List.mem_append_right _ (List.mem_append_right _ (List.mem_append_right _ (List.mem_append_right _ (List.mem_append_right _ (List.mem_append_right _ (List.mem_append_right _ (List.mem_append_right _ (List.mem_append_right _ (List.mem_append_right _ (List.mem_append_right _ (List.mem_append_right _ (List.mem_append_right _ (List.mem_append_right _ (List.mem_append_right _ (List.mem_append_right _ (List.mem_append_right _ (List.mem_append_right _ (List.mem_append_right _ (List.mem_append_right _ (List.mem_append_right _ (List.mem_append_left _ h)))))))))))))))))))))))))))))))))))))))))))))))))))))))))))))))
theorem inR49 : ∀ w ∈ wsL_law0_r49, w ∈ wsL_law := fun _ h => List.mem_append_left _ (List.mem_append_left _ (List.mem_append_left _ (List.mem_append_left _ (List.mem_append_left _ (List.mem_append_left _ (List.mem_append_left _ (List.mem_append_left _ (List.mem_append_left _ (List.mem_append_left _ (List.mem_append_left _ (List.mem_append_left _ (List.mem_append_left _ (List.mem_append_left _ (List.mem_append_left _ (List.mem_append_left _ (List.mem_append_right _ (List.mem_append_right _ (List.mem_append_right _ (List.mem_append_right _ (List.mem_append_right _ (List.mem_append_right _ (List.mem_append_right _ (List.mem_append_right _ (List.mem_append_right _ (List.mem_append_right _ (List.mem_append_right _ (List.mem_append_right _ (List.mem_append_right _ (List.mem_append_right _ (List.mem_append_right _ (List.mem_append_right _ (List.mem_append_right _ (List.mem_append_right _ (List.mem_append_right _ (List.mem_append_right _ (List.mem_append_right _ (List.mem_append_right _ (List.mem_append_right _ (List.mem_append_right _ (List.mem_append_right _ (List.mem_append_right _ (List.mem_append_right _ (List.mem_append_right _ (List.mem_append_right _ (List.mem_append_right _ (List.mem_append_right _ (List.mem_append_right _ (List.mem_append_right _ (List.mem_append_right _ (List.mem_append_right _ (List.mem_append_right _ (List.mem_append_right _ (List.mem_append_right _ (List.mem_append_right _ (List.mem_append_right _ (List.mem_append_right _ (List.mem_append_right _ (List.mem_append_right _ (List.mem_append_right _ (List.mem_append_right _ (List.mem_append_right _ (List.mem_append_right _ (List.mem_append_right _ (List.mem_append_left _ h))))))))))))))))))))))))))))))))))))))))))))))))))))))))))))))))
theorem inR50 : ∀ w ∈ wsL_law0_r50, w ∈ wsL_law := fun _ h => List.mem_append_left _ (List.mem_append_left _ (List.mem_append_left _ (List.mem_append_left _ (List.mem_append_left _ (List.mem_append_left _ (List.mem_append_left _ (List.mem_append_left _ (List.mem_append_left _ (List.mem_append_left _ (List.mem_append_left _ (List.mem_append_left _ (List.mem_append_left _ (List.mem_append_left _ (List.mem_append_left _ (List.mem_append_left _ (List.mem_append_right _ (List.mem_append_right _ (List.mem_append_right _ (List.mem_append_right _ (List.mem_append_right _ (List.mem_append_right _ (List.mem_append_right _ (List.mem_append_right _ (List.mem_append_right _ (List.mem_append_right _ (List.mem_append_right _ (List.mem_append_right _ (List.mem_append_right _ (List.mem_append_right _ (List.mem_append_right _ (List.mem_append_right _ (List.mem_append_right _ (List.mem_append_right _ (List.mem_append_right _ (List.mem_append_right _ (List.mem_append_right _ (List.mem_append_right _ (List.mem_append_right _ (List.mem_append_right _ (List.mem_append_right _ (List.mem_append_right _ (List.mem_append_right _ (List.mem_append_right _ (List.mem_append_right _ (List.mem_append_right _ (List.mem_append_right _ (List.mem_append_right _ (List.mem_append_right _ (List.mem_append_right _ (List.mem_append_right _ (List.mem_append_right _ (List.mem_append_right _ (List.mem_append_right _ (List.mem_append_right _ (List.mem_append_right _ (List.mem_append_right _ (List.mem_append_right _ (List.mem_append_right _ (List.mem_append_right _ (List.mem_append_right _ (List.mem_append_right _ (List.mem_append_right _ (List.mem_append_right _ (List.mem_append_right _ (List.mem_append_left _ h)))))))))))))))))))))))))))))))))))))))))))))))))))))))))))))))))
theorem inR51 : ∀ w ∈ wsL_law0_r51, w ∈ wsL_law := fun _ h => List.mem_append_left _ (List.mem_append_left _ (List.mem_append_left _ (List.mem_append_left _ (List.mem_append_left _ (List.mem_append_left _ (List.mem_append_left _ (List.mem_append_left _ (List.mem_append_left _ (List.mem_append_left _ (List.mem_append_left _ (List.mem_append_left _ (List.mem_append_left _ (List.mem_append_left _ (List.mem_append_left _ (List.mem_append_left _ (List.mem_append_right _ (List.mem_append_right _ (List.mem_append_right _ (List.mem_append_right _ (List.mem_append_right _ (List.mem_append_right _ (List.mem_append_right _ (List.mem_append_right _ (List.mem_append_right _ (List.mem_append_right _ (List.mem_append_right _ (List.mem_append_right _ (List.mem_append_right _ (List.mem_append_right _ (List.mem_append_right _ (List.mem_append_right _ (List.mem_append_right _ (List.mem_append_right _ (List.mem_append_right _ (List.mem_append_right _ (List.mem_append_right _ (List.mem_append_right _ (List.mem_append_right _ (List.mem_append_right _ (List.mem_append_right _ (List.mem_append_right _ (List.mem_append_right _ (List.mem_append_right _ (List.mem_append_right _ (List.mem_append_right _ (List.mem_append_right _ (List.mem_append_right _ (List.mem_append_right _ (List.mem_append_right _ (List.mem_append_right _ (List.mem_append_right _ (List.mem_append_right _ (List.mem_append_right _ (List.mem_append_right _ (List.mem_append_right _ (List.mem_append_right _ (List.mem_append_right _ (List.mem_append_right _ (List.mem_append_right _ (List.mem_append_right _ (List.mem_append_right _ (List.mem_append_right _ (List.mem_append_right _ (List.mem_append_right _ (List.mem_append_right _ (List.mem_append_left _ h))))))))))))))))))))))))))))))))))))))))))))))))))))))))))))))))))
theorem inR52 : ∀ w ∈ wsL_law0_r52, w ∈ wsL_law := fun _ h => List.mem_append_left _ (List.mem_append_left _ (List.mem_append_left _ (List.mem_append_left _ (List.mem_append_left _ (List.mem_append_left _ (List.mem_append_left _ (List.mem_append_left _ (List.mem_append_left _ (List.mem_append_left _ (List.mem_append_left _ (List.mem_append_left _ (List.mem_append_left _ (List.mem_append_left _ (List.mem_append_left _ (List.mem_append_left _ (List.mem_append_right _ (List.mem_append_right _ (List.mem_append_right _ (List.mem_append_right _ (List.mem_append_right _ (List.mem_append_right _ (List.mem_append_right _ (List.mem_append_right _ (List.mem_append_right _ (List.mem_append_right _ (List.mem_append_right _ (List.mem_append_right _ (List.mem_append_right _ (List.mem_append_right _ (List.mem_append_right _ (List.mem_append_right _ (List.mem_append_right _ (List.mem_append_right _ (List.mem_append_right _ (List.mem_append_right _ (List.mem_append_right _ (List.mem_append_right _ (List.mem_append_right _ (List.mem_append_right _ (List.mem_append_right _ (List.mem_append_right _ (List.mem_append_right _ (List.mem_append_right _ (List.mem_append_right _ (List.mem_append_right _ (List.mem_append_right _ (List.mem_append_right _ (List.mem_append_right _ (List.mem_append_right _ (List.mem_append_right _ (List.mem_append_right _ (List.mem_append_right _ (List.mem_append_right _ (List.mem_append_right _ (List.mem_append_right _ (List.mem_append_right _ (List.mem_append_right _ (List.mem_append_right _ (List.mem_append_right _ (List.mem_append_right _ (List.mem_append_right _ (List.mem_append_right _ (List.mem_append_right _ (List.mem_append_right _ (List.mem_append_right _ (List.mem_append_right _ (List.mem_append_left _ h)))))))))))))))))))))))))))))))))))))))))))))))))))))))))))))))))))
theorem inR53 : ∀ w ∈ wsL_law0_r53, w ∈ wsL_law := fun _ h => List.mem_append_left _ (List.mem_append_left _ (List.mem_append_left _ (List.mem_append_left _ (List.mem_append_left _ (List.mem_append_left _ (List.mem_append_left _ (List.mem_append_left _ (List.mem_append_left _ (List.mem_append_left _ (List.mem_append_left _ (List.mem_append_left _ (List.mem_append_left _ (List.mem_append_left _ (List.mem_append_left _ (List.mem_append_left _ (List.mem_append_right _ (List.mem_append_right _ (List.mem_append_right _ (List.mem_append_right _ (List.mem_append_right _ (List.mem_append_right _ (List.mem_append_right _ (List.mem_append_right _ (List.mem_append_right _ (List.mem_append_right _ (List.mem_append_right _ (List.mem_append_right _ (List.mem_append_right _ (List.mem_append_right _ (List.mem_append_right _ (List.mem_append_right _ (List.mem_append_right _ (List.mem_append_right _ (List.mem_append_right _ (List.mem_append_right _ (List.mem_append_right _ (List.mem_append_right _ (List.mem_append_right _ (List.mem_append_right _ (List.mem_append_right _ (List.mem_append_right _ (List.mem_append_right _ (List.mem_append_right _ (List.mem_append_right _ (List.mem_append_right _ (List.mem_append_right _ (List.mem_append_right _ (List.mem_append_right _ (List.mem_append_right _ (List.mem_append_right _ (List.mem_append_right _ (List.mem_append_right _ (List.mem_append_right _ (List.mem_append_right _ (List.mem_append_right _ (List.mem_append_right _ (List.mem_append_right _ (List.mem_append_right _ (List.mem_append_right _ (List.mem_append_right _ (List.mem_append_right _ (List.mem_append_right _ (List.mem_append_right _ (List.mem_append_right _ (List.mem_append_right _ (List.mem_append_right _ (List.mem_append_right _ (List.mem_append_left _ h))))))))))))))))))))))))))))))))))))))))))))))))))))))))))))))))))))
theorem inR54 : ∀ w ∈ wsL_law0_r54, w ∈ wsL_law := fun _ h => List.mem_append_left _ (List.mem_append_left _ (List.mem_append_left _ (List.mem_append_left _ (List.mem_append_left _ (List.mem_append_left _ (List.mem_append_left _ (List.mem_append_left _ (List.mem_append_left _ (List.mem_append_left _ (List.mem_append_left _ (List.mem_append_left _ (List.mem_append_left _ (List.mem_append_left _ (List.mem_append_left _ (List.mem_append_left _ (List.mem_append_right _ (List.mem_append_right _ (List.mem_append_right _ (List.mem_append_right _ (List.mem_append_right _ (List.mem_append_right _ (List.mem_append_right _ (List.mem_append_right _ (List.mem_append_right _ (List.mem_append_right _ (List.mem_append_right _ (List.mem_append_right _ (List.mem_append_right _ (List.mem_append_right _ (List.mem_append_right _ (List.mem_append_right _ (List.mem_append_right _ (List.mem_append_right _ (List.mem_append_right _ (List.mem_append_right _ (List.mem_append_right _ (List.mem_append_right _ (List.mem_append_right _ (List.mem_append_right _ (List.mem_append_right _ (List.mem_append_right _ (List.mem_append_right _ (List.mem_append_right _ (List.mem_append_right _ (List.mem_append_right _ (List.mem_append_right _ (List.mem_append_right _ (List.mem_append_right _ (List.mem_append_right _ (List.mem_append_right _ (List.mem_append_right _ (List.mem_append_right _ (List.mem_append_right _ (List.mem_append_right _ (List.mem_append_right _ (List.mem_append_right _ (List.mem_append_right _ (List.mem_append_right _ (List.mem_append_right _ (List.mem_append_right _ (List.mem_append_right _ (List.mem_append_right _ (List.mem_append_right _ (List.mem_append_right _ (List.mem_append_right _ (List.mem_append_right _ (List.mem_append_right _ (List.mem_append_right _ (List.mem_append_left _ h)))))))))))))))))))))))))))))))))))))))))))))))))))))))))))))))))))))
theorem inR55 : ∀ w ∈ wsL_law0_r55, w ∈ wsL_law := fun _ h => List.mem_append_left _ (List.mem_append_left _ (List.mem_append_left _ (List.mem_append_left _ (List.mem_append_left _ (List.mem_append_left _ (List.mem_append_left _ (List.mem_append_left _ (List.mem_append_left _ (List.mem_append_left _ (List.mem_append_left _ (List.mem_append_left _ (List.mem_append_left _ (List.mem_append_left _ (List.mem_append_left _ (List.mem_append_left _ (List.mem_append_right _ (List.mem_append_right _ (List.mem_append_right _ (List.mem_append_right _ (List.mem_append_right _ (List.mem_append_right _ (List.mem_append_right _ (List.mem_append_right _ (List.mem_append_right _ (List.mem_append_right _ (List.mem_append_right _ (List.mem_append_right _ (List.mem_append_right _ (List.mem_append_right _ (List.mem_append_right _ (List.mem_append_right _ (List.mem_append_right _ (List.mem_append_right _ (List.mem_append_right _ (List.mem_append_right _ (List.mem_append_right _ (List.mem_append_right _ (List.mem_append_right _ (List.mem_append_right _ (List.mem_append_right _ (List.mem_append_right _ (List.mem_append_right _ (List.mem_append_right _ (List.mem_append_right _ (List.mem_append_right _ (List.mem_append_right _ (List.mem_append_right _ (List.mem_append_right _ (List.mem_append_right _ (List.mem_append_right _ (List.mem_append_right _ (List.mem_append_right _ (List.mem_append_right _ (List.mem_append_right _ (List.mem_append_right _ (List.mem_append_right _ (List.mem_append_right _ (List.mem_append_right _ (List.mem_append_right _ (List.mem_append_right _ (List.mem_append_right _ (List.mem_append_right _ (List.mem_append_right _ (List.mem_append_right _ (List.mem_append_right _ (List.mem_append_right _ (List.mem_append_right _ (List.mem_append_right _ (List.mem_append_right _ (List.mem_append_left _ h))))))))))))))))))))))))))))))))))))))))))))))))))))))))))))))))))))))
theorem inR56 : ∀ w ∈ wsL_law0_r56, w ∈ wsL_law := fun _ h => List.mem_append_left _ (List.mem_append_left _ (List.mem_append_left _ (List.mem_append_left _ (List.mem_append_left _ (List.mem_append_left _ (List.mem_append_left _ (List.mem_append_left _ (List.mem_append_left _ (List.mem_append_left _ (List.mem_append_left _ (List.mem_append_left _ (List.mem_append_left _ (List.mem_append_left _ (List.mem_append_left _ (List.mem_append_left _ (List.mem_append_right _ (List.mem_append_right _ (List.mem_append_right _ (List.mem_append_right _ (List.mem_append_right _ (List.mem_append_right _ (List.mem_append_right _ (List.mem_append_right _ (List.mem_append_right _ (List.mem_append_right _ (List.mem_append_right _ (List.mem_append_right _ (List.mem_append_right _ (List.mem_append_right _ (List.mem_append_right _ (List.mem_append_right _ (List.mem_append_right _ (List.mem_append_right _ (List.mem_append_right _ (List.mem_append_right _ (List.mem_append_right _ (List.mem_append_right _ (List.mem_append_right _ (List.mem_append_right _ (List.mem_append_right _ (List.mem_append_right _ (List.mem_append_right _ (List.mem_append_right _ (List.mem_append_right _ (List.mem_append_right _ (List.mem_append_right _ (List.mem_append_right _ (List.mem_append_right _ (List.mem_append_right _ (List.mem_append_right _ (List.mem_append_right _ (List.mem_append_right _ (List.mem_append_right _ (List.mem_append_right _ (List.mem_append_right _ (List.mem_append_right _ (List.mem_append_right _ (List.mem_append_right _ (List.mem_append_right _ (List.mem_append_right _ (List.mem_append_right _ (List.mem_append_right _ (List.mem_append_right _ (List.mem_append_right _ (List.mem_append_right _ (List.mem_append_right _ (List.mem_append_right _ (List.mem_append_right _ (List.mem_append_right _ (List.mem_append_right _ (List.mem_append_left _ h)))))))))))))))))))))))))))))))))))))))))))))))))))))))))))))))))))))))
theorem inR57 : ∀ w ∈ wsL_law0_r57, w ∈ wsL_law := fun _ h => List.mem_append_left _ (List.mem_append_left _ (List.mem_append_left _ (List.mem_append_left _ (List.mem_append_left _ (List.mem_append_left _ (List.mem_append_left _ (List.mem_append_left _ (List.mem_append_left _ (List.mem_append_left _ (List.mem_append_left _ (List.mem_append_left _ (List.mem_append_left _ (List.mem_append_left _ (List.mem_append_left _ (List.mem_append_left _ (List.mem_append_right _ (List.mem_append_right _ (List.mem_append_right _ (List.mem_append_right _ (List.mem_append_right _ (List.mem_append_right _ (List.mem_append_right _ (List.mem_append_right _ (List.mem_append_right _ (List.mem_append_right _ (List.mem_append_right _ (List.mem_append_right _ (List.mem_append_right _ (List.mem_append_right _ (List.mem_append_right _ (List.mem_append_right _ (List.mem_append_right _ (List.mem_append_right _ (List.mem_append_right _ (List.mem_append_right _ (List.mem_append_right _ (List.mem_append_right _ (List.mem_append_right _ (List.mem_append_right _ (List.mem_append_right _ (List.mem_append_right _ (List.mem_append_right _ (List.mem_append_right _ (List.mem_append_right _ (List.mem_append_right _ (List.mem_append_right _ (List.mem_append_right _ (List.mem_append_right _ (List.mem_append_right _ (List.mem_append_right _ (List.mem_append_right _ (List.mem_append_right _ (List.mem_append_right _ (List.mem_append_right _ (List.mem_append_right _ (List.mem_append_right _ (List.mem_append_right _ (List.mem_append_right _ (List.mem_append_right _ (List.mem_append_right _ (List.mem_append_right _ (List.mem_append_right _ (List.mem_append_right _ (List.mem_append_right _ (List.mem_append_right _ (List.mem_append_right _ (List.mem_append_right _ (List.mem_append_right _ (List.mem_append_right _ (List.mem_append_right _ (List.mem_append_right _ (List.mem_append_left _ h))))))))))))))))))))))))))))))))))))))))))))))))))))))))))))))))))))))))
theorem inR58 : ∀ w ∈ wsL_law0_r58, w ∈ wsL_law := fun _ h => List.mem_append_left _ (List.mem_append_left _ (List.mem_append_left _ (List.mem_append_left _ (List.mem_append_left _ (List.mem_append_left _ (List.mem_append_left _ (List.mem_append_left _ (List.mem_append_left _ (List.mem_append_left _ (List.mem_append_left _ (List.mem_append_left _ (List.mem_append_left _ (List.mem_append_left _ (List.mem_append_left _ (List.mem_append_left _ (List.mem_append_right _ (List.mem_append_right _ (List.mem_append_right _ (List.mem_append_right _ (List.mem_append_right _ (List.mem_append_right _ (List.mem_append_right _ (List.mem_append_right _ (List.mem_append_right _ (List.mem_append_right _ (List.mem_append_right _ (List.mem_append_right _ (List.mem_append_right _ (List.mem_append_right _ (List.mem_append_right _ (List.mem_append_right _ (List.mem_append_right _ (List.mem_append_right _ (List.mem_append_right _ (List.mem_append_right _ (List.mem_append_right _ (List.mem_append_right _ (List.mem_append_right _ (List.mem_append_right _ (List.mem_append_right _ (List.mem_append_right _ (List.mem_append_right _ (List.mem_append_right _ (List.mem_append_right _ (List.mem_append_right _ (List.mem_append_right _ (List.mem_append_right _ (List.mem_append_right _ (List.mem_append_right _ (List.mem_append_right _ (List.mem_append_right _ (List.mem_append_right _ (List.mem_append_right _ (List.mem_append_right _ (List.mem_append_right _ (List.mem_append_right _ (List.mem_append_right _ (List.mem_append_right _ (List.mem_append_right _ (List.mem_append_right _ (List.mem_append_right _ (List.mem_append_right _ (List.mem_append_right _ (List.mem_append_right _ (List.mem_append_right _ (List.mem_append_right _ (List.mem_append_right _ (List.mem_append_right _ (List.mem_append_right _ (List.mem_append_right _ (List.mem_append_right _ (List.mem_append_right _ (List.mem_append_left _ h)))))))))))))))))))))))))))))))))))))))))))))))))))))))))))))))))))))))))
theorem inR59 : ∀ w ∈ wsL_law0_r59, w ∈ wsL_law := fun _ h => List.mem_append_left _ (List.mem_append_left _ (List.mem_append_left _ (List.mem_append_left _ (List.mem_append_left _ (List.mem_append_left _ (List.mem_append_left _ (List.mem_append_left _ (List.mem_append_left _ (List.mem_append_left _ (List.mem_append_left _ (List.mem_append_left _ (List.mem_append_left _ (List.mem_append_left _ (List.mem_append_left _ (List.mem_append_left _ (List.mem_append_right _ (List.mem_append_right _ (List.mem_append_right _ (List.mem_append_right _ (List.mem_append_right _ (List.mem_append_right _ (List.mem_append_right _ (List.mem_append_right _ (List.mem_append_right _ (List.mem_append_right _ (List.mem_append_right _ (List.mem_append_right _ (List.mem_append_right _ (List.mem_append_right _ (List.mem_append_right _ (List.mem_append_right _ (List.mem_append_right _ (List.mem_append_right _ (List.mem_append_right _ (List.mem_append_right _ (List.mem_append_right _ (List.mem_append_right _ (List.mem_append_right _ (List.mem_append_right _ (List.mem_append_right _ (List.mem_append_right _ (List.mem_append_right _ (List.mem_append_right _ (List.mem_append_right _ (List.mem_append_right _ (List.mem_append_right _ (List.mem_append_right _ (List.mem_append_right _ (List.mem_append_right _ (List.mem_append_right _ (List.mem_append_right _ (List.mem_append_right _ (List.mem_append_right _ (List.mem_append_right _ (List.mem_append_right _ (List.mem_append_right _ (List.mem_append_right _ (List.mem_append_right _ (List.mem_append_right _ (List.mem_append_right _ (List.mem_append_right _ (List.mem_append_right _ (List.mem_append_right _ (List.mem_append_right _ (List.mem_append_right _ (List.mem_append_right _ (List.mem_append_right _ (List.mem_append_right _ (List.mem_append_right _ (List.mem_append_right _ (List.mem_append_right _ (List.mem_append_right _ (List.mem_append_right _ (List.mem_append_left _ h))))))))))))))))))))))))))))))))))))))))))))))))))))))))))))))))))))))))))
theorem inR60 : ∀ w ∈ wsL_law0_r60, w ∈ wsL_law := fun _ h => List.mem_append_left _ (List.mem_append_left _ (List.mem_append_left _ (List.mem_append_left _ (List.mem_append_left _ (List.mem_append_left _ (List.mem_append_left _ (List.mem_append_left _ (List.mem_append_left _ (List.mem_append_left _ (List.mem_append_left _ (List.mem_append_left _ (List.mem_append_left _ (List.mem_append_left _ (List.mem_append_left _ (List.mem_append_left _ (List.mem_append_right _ (List.mem_append_right _ (List.mem_append_right _ (List.mem_append_right _ (List.mem_append_right _ (List.mem_append_right _ (List.mem_append_right _ (List.mem_append_right _ (List.mem_append_right _ (List.mem_append_right _ (List.mem_append_right _ (List.mem_append_right _ (List.mem_append_right _ (List.mem_append_right _ (List.mem_append_right _ (List.mem_append_right _ (List.mem_append_right _ (List.mem_append_right _ (List.mem_append_right _ (List.mem_append_right _ (List.mem_append_right _ (List.mem_append_right _ (List.mem_append_right _ (List.mem_append_right _ (List.mem_append_right _ (List.mem_append_right _ (List.mem_append_right _ (List.mem_append_right _ (List.mem_append_right _ (List.mem_append_right _ (List.mem_append_right _ (List.mem_append_right _ (List.mem_append_right _ (List.mem_append_right _ (List.mem_append_right _ (List.mem_append_right _ (List.mem_append_right _ (List.mem_append_right _ (List.mem_append_right _ (List.mem_append_right _ (List.mem_append_right _ (List.mem_append_right _ (List.mem_append_right _ (List.mem_append_right _ (List.mem_append_right _ (List.mem_append_right _ (List.mem_append_right _ (List.mem_append_right _ (List.mem_append_right _ (List.mem_append_right _ (List.mem_append_right _ (List.mem_append_right _ (List.mem_append_right _ (List.mem_append_right _ (List.mem_append_right _ (List.mem_append_right _ (List.mem_append_right _ (List.mem_append_right _ (List.mem_append_right _ (List.mem_append_left _ h)))))))))))))))))))))))))))))))))))))))))))))))))))))))))))))))))))))))))))
theorem inR61 : ∀ w ∈ wsL_law0_r61, w ∈ wsL_law := fun _ h => List.mem_append_left _ (List.mem_append_left _ (List.mem_append_left _ (List.mem_append_left _ (List.mem_append_left _ (List.mem_append_left _ (List.mem_append_left _ (List.mem_append_left _ (List.mem_append_left _ (List.mem_append_left _ (List.mem_append_left _ (List.mem_append_left _ (List.mem_append_left _ (List.mem_append_left _ (List.mem_append_left _ (List.mem_append_left _ (List.mem_append_right _ (List.mem_append_right _ (List.mem_append_right _ (List.mem_append_right _ (List.mem_append_right _ (List.mem_append_right _ (List.mem_append_right _ (List.mem_append_right _ (List.mem_append_right _ (List.mem_append_right _ (List.mem_append_right _ (List.mem_append_right _ (List.mem_append_right _ (List.mem_append_right _ (List.mem_append_right _ (List.mem_append_right _ (List.mem_append_right _ (List.mem_append_right _ (List.mem_append_right _ (List.mem_append_right _ (List.mem_append_right _ (List.mem_append_right _ (List.mem_append_right _ (List.mem_append_right _ (List.mem_append_right _ (List.mem_append_right _ (List.mem_append_right _ (List.mem_append_right _ (List.mem_append_right _ (List.mem_append_right _ (List.mem_append_right _ (List.mem_append_right _ (List.mem_append_right _ (List.mem_append_right _ (List.mem_append_right _ (List.mem_append_right _ (List.mem_append_right _ (List.mem_append_right _ (List.mem_append_right _ (List.mem_append_right _ (List.mem_append_right _ (List.mem_append_right _ (List.mem_append_right _ (List.mem_append_right _ (List.mem_append_right _ (List.mem_append_right _ (List.mem_append_right _ (List.mem_append_right _ (List.mem_append_right _ (List.mem_append_right _ (List.mem_append_right _ (List.mem_append_right _ (List.mem_append_right _ (List.mem_append_right _ (List.mem_append_right _ (List.mem_append_right _ (List.mem_append_right _ (List.mem_append_right _ (List.mem_append_right _ (List.mem_append_right _ (List.mem_append_left _ h))))))))))))))))))))))))))))))))))))))))))))))))))))))))))))))))))))))))))))
theorem inR62 : ∀ w ∈ wsL_law0_r62, w ∈ wsL_law := fun _ h => List.mem_append_left _ (List.mem_append_left _ (List.mem_append_left _ (List.mem_append_left _ (List.mem_append_left _ (List.mem_append_left _ (List.mem_append_left _ (List.mem_append_left _ (List.mem_append_left _ (List.mem_append_left _ (List.mem_append_left _ (List.mem_append_left _ (List.mem_append_left _ (List.mem_append_left _ (List.mem_append_left _ (List.mem_append_left _ (List.mem_append_right _ (List.mem_append_right _ (List.mem_append_right _ (List.mem_append_right _ (List.mem_append_right _ (List.mem_append_right _ (List.mem_append_right _ (List.mem_append_right _ (List.mem_append_right _ (List.mem_append_right _ (List.mem_append_right _ (List.mem_append_right _ (List.mem_append_right _ (List.mem_append_right _ (List.mem_append_right _ (List.mem_append_right _ (List.mem_append_right _ (List.mem_append_right _ (List.mem_append_right _ (List.mem_append_right _ (List.mem_append_right _ (List.mem_append_right _ (List.mem_append_right _ (List.mem_append_right _ (List.mem_append_right _ (List.mem_append_right _ (List.mem_append_right _ (List.mem_append_right _ (List.mem_append_right _ (List.mem_append_right _ (List.mem_append_right _ (List.mem_append_right _ (List.mem_append_right _ (List.mem_append_right _ (List.mem_append_right _ (List.mem_append_right _ (List.mem_append_right _ (List.mem_append_right _ (List.mem_append_right _ (List.mem_append_right _ (List.mem_append_right _ (List.mem_append_right _ (List.mem_append_right _ (List.mem_append_right _ (List.mem_append_right _ (List.mem_append_right _ (List.mem_append_right _ (List.mem_append_right _ (List.mem_append_right _ (List.mem_append_right _ (List.mem_append_right _ (List.mem_append_right _ (List.mem_append_right _ (List.mem_append_right _ (List.mem_append_right _ (List.mem_append_right _ (List.mem_append_right _ (List.mem_append_right _ (List.mem_append_right _ (List.mem_append_right _ (List.mem_append_right _ (List.mem_append_left _ h)))))))))))))))))))))))))))))))))))))))))))))))))))))))))))))))))))))))))))))
theorem inR63 : ∀ w ∈ wsL_law0_r63, w ∈ wsL_law := fun _ h => List.mem_append_left _ (List.mem_append_left _ (List.mem_append_left _ (List.mem_append_left _ (List.mem_append_left _ (List.mem_append_left _ (List.mem_append_left _ (List.mem_append_left _ (List.mem_append_left _ (List.mem_append_left _ (List.mem_append_left _ (List.mem_append_left _ (List.mem_append_left _ (List.mem_append_left _ (List.mem_append_left _ (List.mem_append_left _ (List.mem_append_right _ (List.mem_append_right _ (List.mem_append_right _ (List.mem_append_right _ (List.mem_append_right _ (List.mem_append_right _ (List.mem_append_right _ (List.mem_append_right _ (List.mem_append_right _ (List.mem_append_right _ (List.mem_append_right _ (List.mem_append_right _ (List.mem_append_right _ (List.mem_append_right _ (List.mem_append_right _ (List.mem_append_right _ (List.mem_append_right _ (List.mem_append_right _ (List.mem_append_right _ (List.mem_append_right _ (List.mem_append_right _ (List.mem_append_right _ (List.mem_append_right _ (List.mem_append_right _ (List.mem_append_right _ (List.mem_append_right _ (List.mem_append_right _ (List.mem_append_right _ (List.mem_append_right _ (List.mem_append_right _ (List.mem_append_right _ (List.mem_append_right _ (List.mem_append_right _ (List.mem_append_right _ (List.mem_append_right _ (List.mem_append_right _ (List.mem_append_right _ (List.mem_append_right _ (List.mem_append_right _ (List.mem_append_right _ (List.mem_append_right _ (List.mem_append_right _ (List.mem_append_right _ (List.mem_append_right _ (List.mem_append_right _ (List.mem_append_right _ (List.mem_append_right _ (List.mem_append_right _ (List.mem_append_right _ (List.mem_append_right _ (List.mem_append_right _ (List.mem_append_right _ (List.mem_append_right _ (List.mem_append_right _ (List.mem_append_right _ (List.mem_append_right _ (List.mem_append_right _ (List.mem_append_right _ (List.mem_append_right _ (List.mem_append_right _ (List.mem_append_right _ (List.mem_append_right _ (List.mem_append_left _ h))))))))))))))))))))))))))))))))))))))))))))))))))))))))))))))))))))))))))))))
theorem inR64 : ∀ w ∈ wsL_law0_r64, w ∈ wsL_law := fun _ h => List.mem_append_left _ (List.mem_append_left _ (List.mem_append_left _ (List.mem_append_left _ (List.mem_append_left _ (List.mem_append_left _ (List.mem_append_left _ (List.mem_append_left _ (List.mem_append_left _ (List.mem_append_left _ (List.mem_append_left _ (List.mem_append_left _ (List.mem_append_left _ (List.mem_append_left _ (List.mem_append_left _ (List.mem_append_left _ (List.mem_append_right _ (List.mem_append_right _ (List.mem_append_right _ (List.mem_append_right _ (List.mem_append_right _ (List.mem_append_right _ (List.mem_append_right _ (List.mem_append_right _ (List.mem_append_right _ (List.mem_append_right _ (List.mem_append_right _ (List.mem_append_right _ (List.mem_append_right _ (List.mem_append_right _ (List.mem_append_right _ (List.mem_append_right _ (List.mem_append_right _ (List.mem_append_right _ (List.mem_append_right _ (List.mem_append_right _ (List.mem_append_right _ (List.mem_append_right _ (List.mem_append_right _ (List.mem_append_right _ (List.mem_append_right _ (List.mem_append_right _ (List.mem_append_right _ (List.mem_append_right _ (List.mem_append_right _ (List.mem_append_right _ (List.mem_append_right _ (List.mem_append_right _ (List.mem_append_right _ (List.mem_append_right _ (List.mem_append_right _ (List.mem_append_right _ (List.mem_append_right _ (List.mem_append_right _ (List.mem_append_right _ (List.mem_append_right _ (List.mem_append_right _ (List.mem_append_right _ (List.mem_append_right _ (List.mem_append_right _ (List.mem_append_right _ (List.mem_append_right _ (List.mem_append_right _ (List.mem_append_right _ (List.mem_append_right _ (List.mem_append_right _ (List.mem_append_right _ (List.mem_append_right _ (List.mem_append_right _ (List.mem_append_right _ (List.mem_append_right _ (List.mem_append_right _ (List.mem_append_right _ (List.mem_append_right _ (List.mem_append_right _ (List.mem_append_right _ (List.mem_append_right _ (List.mem_append_right _ (List.mem_append_right _ (List.mem_append_left _ h)))))))))))))))))))))))))))))))))))))))))))))))))))))))))))))))))))))))))))))))
theorem inR65 : ∀ w ∈ wsL_law0_r65, w ∈ wsL_law := fun _ h => List.mem_append_left _ (List.mem_append_left _ (List.mem_append_left _ (List.mem_append_left _ (List.mem_append_left _ (List.mem_append_left _ (List.mem_append_left _ (List.mem_append_left _ (List.mem_append_left _ (List.mem_append_left _ (List.mem_append_left _ (List.mem_append_left _ (List.mem_append_left _ (List.mem_append_left _ (List.mem_append_left _ (List.mem_append_left _ (List.mem_append_right _ (List.mem_append_right _ (List.mem_append_right _ (List.mem_append_right _ (List.mem_append_right _ (List.mem_append_right _ (List.mem_append_right _ (List.mem_append_right _ (List.mem_append_right _ (List.mem_append_right _ (List.mem_append_right _ (List.mem_append_right _ (List.mem_append_right _ (List.mem_append_right _ (List.mem_append_right _ (List.mem_append_right _ (List.mem_append_right _ (List.mem_append_right _ (List.mem_append_right _ (List.mem_append_right _ (List.mem_append_right _ (List.mem_append_right _ (List.mem_append_right _ (List.mem_append_right _ (List.mem_append_right _ (List.mem_append_right _ (List.mem_append_right _ (List.mem_append_right _ (List.mem_append_right _ (List.mem_append_right _ (List.mem_append_right _ (List.mem_append_right _ (List.mem_append_right _ (List.mem_append_right _ (List.mem_append_right _ (List.mem_append_right _ (List.mem_append_right _ (List.mem_append_right _ (List.mem_append_right _ (List.mem_append_right _ (List.mem_append_right _ (List.mem_append_right _ (List.mem_append_right _ (List.mem_append_right _ (List.mem_append_right _ (List.mem_append_right _ (List.mem_append_right _ (List.mem_append_right _ (List.mem_append_right _ (List.mem_append_right _ (List.mem_append_right _ (List.mem_append_right _ (List.mem_append_right _ (List.mem_append_right _ (List.mem_append_right _ (List.mem_append_right _ (List.mem_append_right _ (List.mem_append_right _ (List.mem_append_right _ (List.mem_append_right _ (List.mem_append_right _ (List.mem_append_right _ (List.mem_append_right _ (List.mem_append_right _ (List.mem_append_left _ h))))))))))))))))))))))))))))))))))))))))))))))))))))))))))))))))))))))))))))))))
theorem inR66 : ∀ w ∈ wsL_law0_r66, w ∈ wsL_law := fun _ h => List.mem_append_left _ (List.mem_append_left _ (List.mem_append_left _ (List.mem_append_left _ (List.mem_append_left _ (List.mem_append_left _ (List.mem_append_left _ (List.mem_append_left _ (List.mem_append_left _ (List.mem_append_left _ (List.mem_append_left _ (List.mem_append_left _ (List.mem_append_left _ (List.mem_append_left _ (List.mem_append_left _ (List.mem_append_left _ (List.mem_append_right _ (List.mem_append_right _ (List.mem_append_right _ (List.mem_append_right _ (List.mem_append_right _ (List.mem_append_right _ (List.mem_append_right _ (List.mem_append_right _ (List.mem_append_right _ (List.mem_append_right _ (List.mem_append_right _ (List.mem_append_right _ (List.mem_append_right _ (List.mem_append_right _ (List.mem_append_right _ (List.mem_append_right _ (List.mem_append_right _ (List.mem_append_right _ (List.mem_append_right _ (List.mem_append_right _ (List.mem_append_right _ (List.mem_append_right _ (List.mem_append_right _ (List.mem_append_right _ (List.mem_append_right _ (List.mem_append_right _ (List.mem_append_right _ (List.mem_append_right _ (List.mem_append_right _ (List.mem_append_right _ (List.mem_append_right _ (List.mem_append_right _ (List.mem_append_right _ (List.mem_append_right _ (List.mem_append_right _ (List.mem_append_right _ (List.mem_append_right _ (List.mem_append_right _ (List.mem_append_right _ (List.mem_append_right _ (List.mem_append_right _ (List.mem_append_right _ (List.mem_append_right _ (List.mem_append_right _ (List.mem_append_right _ (List.mem_append_right _ (List.mem_append_right _ (List.mem_append_right _ (List.mem_append_right _ (List.mem_append_right _ (List.mem_append_right _ (List.mem_append_right _ (List.mem_append_right _ (List.mem_append_right _ (List.mem_append_right _ (List.mem_append_right _ (List.mem_append_right _ (List.mem_append_right _ (List.mem_append_right _ (List.mem_append_right _ (List.mem_append_right _ (List.mem_append_right _ (List.mem_append_right _ (List.mem_append_right _ (List.mem_append_right _ (List.mem_append_left _ h)))))))))))))))))))))))))))))))))))))))))))))))))))))))))))))))))))))))))))))))))
theorem inR67 : ∀ w ∈ wsL_law0_r67, w ∈ wsL_law := fun _ h => List.mem_append_left _ (List.mem_append_left _ (List.mem_append_left _ (List.mem_append_left _ (List.mem_append_left _ (List.mem_append_left _ (List.mem_append_left _ (List.mem_append_left _ (List.mem_append_left _ (List.mem_append_left _ (List.mem_append_left _ (List.mem_append_left _ (List.mem_append_left _ (List.mem_append_left _ (List.mem_append_left _ (List.mem_append_left _ (List.mem_append_right _ (List.mem_append_right _ (List.mem_append_right _ (List.mem_append_right _ (List.mem_append_right _ (List.mem_append_right _ (List.mem_append_right _ (List.mem_append_right _ (List.mem_append_right _ (List.mem_append_right _ (List.mem_append_right _ (List.mem_append_right _ (List.mem_append_right _ (List.mem_append_right _ (List.mem_append_right _ (List.mem_append_right _ (List.mem_append_right _ (List.mem_append_right _ (List.mem_append_right _ (List.mem_append_right _ (List.mem_append_right _ (List.mem_append_right _ (List.mem_append_right _ (List.mem_append_right _ (List.mem_append_right _ (List.mem_append_right _ (List.mem_append_right _ (List.mem_append_right _ (List.mem_append_right _ (List.mem_append_right _ (List.mem_append_right _ (List.mem_append_right _ (List.mem_append_right _ (List.mem_append_right _ (List.mem_append_right _ (List.mem_append_right _ (List.mem_append_right _ (List.mem_append_right _ (List.mem_append_right _ (List.mem_append_right _ (List.mem_append_right _ (List.mem_append_right _ (List.mem_append_right _ (List.mem_append_right _ (List.mem_append_right _ (List.mem_append_right _ (List.mem_append_right _ (List.mem_append_right _ (List.mem_append_right _ (List.mem_append_right _ (List.mem_append_right _ (List.mem_append_right _ (List.mem_append_right _ (List.mem_append_right _ (List.mem_append_right _ (List.mem_append_right _ (List.mem_append_right _ (List.mem_append_right _ (List.mem_append_right _ (List.mem_append_right _ (List.mem_append_right _ (List.mem_append_right _ (List.mem_append_right _ (List.mem_append_right _ (List.mem_append_right _ (List.mem_append_right _ (List.mem_append_left _ h))))))))))))))))))))))))))))))))))))))))))))))))))))))))))))))))))))))))))))))))))
theorem inR68 : ∀ w ∈ wsL_law0_r68, w ∈ wsL_law := fun _ h => List.mem_append_left _ (List.mem_append_left _ (List.mem_append_left _ (List.mem_append_left _ (List.mem_append_left _ (List.mem_append_left _ (List.mem_append_left _ (List.mem_append_left _ (List.mem_append_left _ (List.mem_append_left _ (List.mem_append_left _ (List.mem_append_left _ (List.mem_append_left _ (List.mem_append_left _ (List.mem_append_left _ (List.mem_append_left _ (List.mem_append_right _ (List.mem_append_right _ (List.mem_append_right _ (List.mem_append_right _ (List.mem_append_right _ (List.mem_append_right _ (List.mem_append_right _ (List.mem_append_right _ (List.mem_append_right _ (List.mem_append_right _ (List.mem_append_right _ (List.mem_append_right _ (List.mem_append_right _ (List.mem_append_right _ (List.mem_append_right _ (List.mem_append_right _ (List.mem_append_right _ (List.mem_append_right _ (List.mem_append_right _ (List.mem_append_right _ (List.mem_append_right _ (List.mem_append_right _ (List.mem_append_right _ (List.mem_append_right _ (List.mem_append_right _ (List.mem_append_right _ (List.mem_append_right _ (List.mem_append_right _ (List.mem_append_right _ (List.mem_append_right _ (List.mem_append_right _ (List.mem_append_right _ (List.mem_append_right _ (List.mem_append_right _ (List.mem_append_right _ (List.mem_append_right _ (List.mem_append_right _ (List.mem_append_right _ (List.mem_append_right _ (List.mem_append_right _ (List.mem_append_right _ (List.mem_append_right _ (List.mem_append_right _ (List.mem_append_right _ (List.mem_append_right _ (List.mem_append_right _ (List.mem_append_right _ (List.mem_append_right _ (List.mem_append_right _ (List.mem_append_right _ (List.mem_append_right _ (List.mem_append_right _ (List.mem_append_right _ (List.mem_append_right _ (List.mem_append_right _ (List.mem_append_right _ (List.mem_append_right _ (List.mem_append_right _ (List.mem_append_right _ (List.mem_append_right _ (List.mem_append_right _ (List.mem_append_right _ (List.mem_append_right _ (List.mem_append_right _ (List.mem_append_right _ (List.mem_append_right _ (List.mem_append_right _ (List.mem_append_left _ h)))))))))))))))))))))))))))))))))))))))))))))))))))))))))))))))))))))))))))))))))))
theorem inR69 : ∀ w ∈ wsL_law0_r69, w ∈ wsL_law := fun _ h => List.mem_append_left _ (List.mem_append_left _ (List.mem_append_left _ (List.mem_append_left _ (List.mem_append_left _ (List.mem_append_left _ (List.mem_append_left _ (List.mem_append_left _ (List.mem_append_left _ (List.mem_append_left _ (List.mem_append_left _ (List.mem_append_left _ (List.mem_append_left _ (List.mem_append_left _ (List.mem_append_left _ (List.mem_append_left _ (List.mem_append_right _ (List.mem_append_right _ (List.mem_append_right _ (List.mem_append_right _ (List.mem_append_right _ (List.mem_append_right _ (List.mem_append_right _ (List.mem_append_right _ (List.mem_append_right _ (List.mem_append_right _ (List.mem_append_right _ (List.mem_append_right _ (List.mem_append_right _ (List.mem_append_right _ (List.mem_append_right _ (List.mem_append_right _ (List.mem_append_right _ (List.mem_append_right _ (List.mem_append_right _ (List.mem_append_right _ (List.mem_append_right _ (List.mem_append_right _ (List.mem_append_right _ (List.mem_append_right _ (List.mem_append_right _ (List.mem_append_right _ (List.mem_append_right _ (List.mem_append_right _ (List.mem_append_right _ (List.mem_append_right _ (List.mem_append_right _ (List.mem_append_right _ (List.mem_append_right _ (List.mem_append_right _ (List.mem_append_right _ (List.mem_append_right _ (List.mem_append_right _ (List.mem_append_right _ (List.mem_append_right _ (List.mem_append_right _ (List.mem_append_right _ (List.mem_append_right _ (List.mem_append_right _ (List.mem_append_right _ (List.mem_append_right _ (List.mem_append_right _ (List.mem_append_right _ (List.mem_append_right _ (List.mem_append_right _ (List.mem_append_right _ (List.mem_append_right _ (List.mem_append_right _ (List.mem_append_right _ (List.mem_append_right _ (List.mem_append_right _ (List.mem_append_right _ (List.mem_append_right _ (List.mem_append_right _ (List.mem_append_right _ (List.mem_append_right _ (List.mem_append_right _ (List.mem_append_right _ (List.mem_append_right _ (List.mem_append_right _ (List.mem_append_right _ (List.mem_append_right _ (List.mem_append_right _ (List.mem_append_right _ (List.mem_append_left _ h))))))))))))))))))))))))))))))))))))))))))))))))))))))))))))))))))))))))))))))))))))
theorem inR70 : ∀ w ∈ wsL_law0_r70, w ∈ wsL_law := fun _ h => List.mem_append_left _ (List.mem_append_left _ (List.mem_append_left _ (List.mem_append_left _ (List.mem_append_left _ (List.mem_append_left _ (List.mem_append_left _ (List.mem_append_left _ (List.mem_append_left _ (List.mem_append_left _ (List.mem_append_left _ (List.mem_append_left _ (List.mem_append_left _ (List.mem_append_left _ (List.mem_append_left _ (List.mem_append_left _ (List.mem_append_right _ (List.mem_append_right _ (List.mem_append_right _ (List.mem_append_right _ (List.mem_append_right _ (List.mem_append_right _ (List.mem_append_right _ (List.mem_append_right _ (List.mem_append_right _ (List.mem_append_right _ (List.mem_append_right _ (List.mem_append_right _ (List.mem_append_right _ (List.mem_append_right _ (List.mem_append_right _ (List.mem_append_right _ (List.mem_append_right _ (List.mem_append_right _ (List.mem_append_right _ (List.mem_append_right _ (List.mem_append_right _ (List.mem_append_right _ (List.mem_append_right _ (List.mem_append_right _ (List.mem_append_right _ (List.mem_append_right _ (List.mem_append_right _ (List.mem_append_right _ (List.mem_append_right _ (List.mem_append_right _ (List.mem_append_right _ (List.mem_append_right _ (List.mem_append_right _ (List.mem_append_right _ (List.mem_append_right _ (List.mem_append_right _ (List.mem_append_right _ (List.mem_append_right _ (List.mem_append_right _ (List.mem_append_right _ (List.mem_append_right _ (List.mem_append_right _ (List.mem_append_right _ (List.mem_append_right _ (List.mem_append_right _ (List.mem_append_right _ (List.mem_append_right _ (List.mem_append_right _ (List.mem_append_right _ (List.mem_append_right _ (List.mem_append_right _ (List.mem_append_right _ (List.mem_append_right _ (List.mem_append_right _ (List.mem_append_right _ (List.mem_append_right _ (List.mem_append_right _ (List.mem_append_right _ (List.mem_append_right _ (List.mem_append_right _ (List.mem_append_right _ (List.mem_append_right _ (List.mem_append_right _ (List.mem_append_right _ (List.mem_append_right _ (List.mem_append_right _ (List.mem_append_right _ (List.mem_append_right _ (List.mem_append_right _ (List.mem_append_left _ h)))))))))))))))))))))))))))))))))))))))))))))))))))))))))))))))))))))))))))))))))))))
theorem inR71 : ∀ w ∈ wsL_law0_r71, w ∈ wsL_law := fun _ h => List.mem_append_left _ (List.mem_append_left _ (List.mem_append_left _ (List.mem_append_left _ (List.mem_append_left _ (List.mem_append_left _ (List.mem_append_left _ (List.mem_append_left _ (List.mem_append_left _ (List.mem_append_left _ (List.mem_append_left _ (List.mem_append_left _ (List.mem_append_left _ (List.mem_append_left _ (List.mem_append_left _ (List.mem_append_left _ (List.mem_append_right _ (List.mem_append_right _ (List.mem_append_right _ (List.mem_append_right _ (List.mem_append_right _ (List.mem_append_right _ (List.mem_append_right _ (List.mem_append_right _ (List.mem_append_right _ (List.mem_append_right _ (List.mem_append_right _ (List.mem_append_right _ (List.mem_append_right _ (List.mem_append_right _ (List.mem_append_right _ (List.mem_append_right _ (List.mem_append_right _ (List.mem_append_right _ (List.mem_append_right _ (List.mem_append_right _ (List.mem_append_right _ (List.mem_append_right _ (List.mem_append_right _ (List.mem_append_right _ (List.mem_append_right _ (List.mem_append_right _ (List.mem_append_right _ (List.mem_append_right _ (List.mem_append_right _ (List.mem_append_right _ (List.mem_append_right _ (List.mem_append_right _ (List.mem_append_right _ (List.mem_append_right _ (List.mem_append_right _ (List.mem_append_right _ (List.mem_append_right _ (List.mem_append_right _ (List.mem_append_right _ (List.mem_append_right _ (List.mem_append_right _ (List.mem_append_right _ (List.mem_append_right _ (List.mem_append_right _ (List.mem_append_right _ (List.mem_append_right _ (List.mem_append_right _ (List.mem_append_right _ (List.mem_append_right _ (List.mem_append_right _ (List.mem_append_right _ (List.mem_append_right _ (List.mem_append_right _ (List.mem_append_right _ (List.mem_append_right _ (List.mem_append_right _ (List.mem_append_right _ (List.mem_append_right _ (List.mem_append_right _ (List.mem_append_right _ (List.mem_append_right _ (List.mem_append_right _ (List.mem_append_right _ (List.mem_append_right _ (List.mem_append_right _ (List.mem_append_right _ (List.mem_append_right _ (List.mem_append_right _ (List.mem_append_right _ (List.mem_append_right _ (List.mem_append_left _ h))))))))))))))))))))))))))))))))))))))))))))))))))))))))))))))))))))))))))))))))))))))
theorem inR72 : ∀ w ∈ wsL_law0_r72, w ∈ wsL_law := fun _ h => List.mem_append_left _ (List.mem_append_left _ (List.mem_append_left _ (List.mem_append_left _ (List.mem_append_left _ (List.mem_append_left _ (List.mem_append_left _ (List.mem_append_left _ (List.mem_append_left _ (List.mem_append_left _ (List.mem_append_left _ (List.mem_append_left _ (List.mem_append_left _ (List.mem_append_left _ (List.mem_append_left _ (List.mem_append_left _ (List.mem_append_right _ (List.mem_append_right _ (List.mem_append_right _ (List.mem_append_right _ (List.mem_append_right _ (List.mem_append_right _ (List.mem_append_right _ (List.mem_append_right _ (List.mem_append_right _ (List.mem_append_right _ (List.mem_append_right _ (List.mem_append_right _ (List.mem_append_right _ (List.mem_append_right _ (List.mem_append_right _ (List.mem_append_right _ (List.mem_append_right _ (List.mem_append_right _ (List.mem_append_right _ (List.mem_append_right _ (List.mem_append_right _ (List.mem_append_right _ (List.mem_append_right _ (List.mem_append_right _ (List.mem_append_right _ (List.mem_append_right _ (List.mem_append_right _ (List.mem_append_right _ (List.mem_append_right _ (List.mem_append_right _ (List.mem_append_right _ (List.mem_append_right _ (List.mem_append_right _ (List.mem_append_right _ (List.mem_append_right _ (List.mem_append_right _ (List.mem_append_right _ (List.mem_append_right _ (List.mem_append_right _ (List.mem_append_right _ (List.mem_append_right _ (List.mem_append_right _ (List.mem_append_right _ (List.mem_append_right _ (List.mem_append_right _ (List.mem_append_right _ (List.mem_append_right _ (List.mem_append_right _ (List.mem_append_right _ (List.mem_append_right _ (List.mem_append_right _ (List.mem_append_right _ (List.mem_append_right _ (List.mem_append_right _ (List.mem_append_right _ (List.mem_append_right _ (List.mem_append_right _ (List.mem_append_right _ (List.mem_append_right _ (List.mem_append_right _ (List.mem_append_right _ (List.mem_append_right _ (List.mem_append_right _ (List.mem_append_right _ (List.mem_append_right _ (List.mem_append_right _ (List.mem_append_right _ (List.mem_append_right _ (List.mem_append_right _ (List.mem_append_right _ (List.mem_append_right _ (List.mem_append_left _ h)))))))))))))))))))))))))))))))))))))))))))))))))))))))))))))))))))))))))))))))))))))))
theorem inR73 : ∀ w ∈ wsL_law0_r73, w ∈ wsL_law := fun _ h => List.mem_append_left _ (List.mem_append_left _ (List.mem_append_left _ (List.mem_append_left _ (List.mem_append_left _ (List.mem_append_left _ (List.mem_append_left _ (List.mem_append_left _ (List.mem_append_left _ (List.mem_append_left _ (List.mem_append_left _ (List.mem_append_left _ (List.mem_append_left _ (List.mem_append_left _ (List.mem_append_left _ (List.mem_append_left _ (List.mem_append_right _ (List.mem_append_right _ (List.mem_append_right _ (List.mem_append_right _ (List.mem_append_right _ (List.mem_append_right _ (List.mem_append_right _ (List.mem_append_right _ (List.mem_append_right _ (List.mem_append_right _ (List.mem_append_right _ (List.mem_append_right _ (List.mem_append_right _ (List.mem_append_right _ (List.mem_append_right _ (List.mem_append_right _ (List.mem_append_right _ (List.mem_append_right _ (List.mem_append_right _ (List.mem_append_right _ (List.mem_append_right _ (List.mem_append_right _ (List.mem_append_right _ (List.mem_append_right _ (List.mem_append_right _ (List.mem_append_right _ (List.mem_append_right _ (List.mem_append_right _ (List.mem_append_right _ (List.mem_append_right _ (List.mem_append_right _ (List.mem_append_right _ (List.mem_append_right _ (List.mem_append_right _ (List.mem_append_right _ (List.mem_append_right _ (List.mem_append_right _ (List.mem_append_right _ (List.mem_append_right _ (List.mem_append_right _ (List.mem_append_right _ (List.mem_append_right _ (List.mem_append_right _ (List.mem_append_right _ (List.mem_append_right _ (List.mem_append_right _ (List.mem_append_right _ (List.mem_append_right _ (List.mem_append_right _ (List.mem_append_right _ (List.mem_append_right _ (List.mem_append_right _ (List.mem_append_right _ (List.mem_append_right _ (List.mem_append_right _ (List.mem_append_right _ (List.mem_append_right _ (List.mem_append_right _ (List.mem_append_right _ (List.mem_append_right _ (List.mem_append_right _ (List.mem_append_right _ (List.mem_append_right _ (List.mem_append_right _ (List.mem_append_right _ (List.mem_append_right _ (List.mem_append_right _ (List.mem_append_right _ (List.mem_append_right _ (List.mem_append_right _ (List.mem_append_right _ (List.mem_append_right _ (List.mem_append_left _ h))))))))))))))))))))))))))))))))))))))))))))))))))))))))))))))))))))))))))))))))))))))))
theorem inR74 : ∀ w ∈ wsL_law0_r74, w ∈ wsL_law := fun _ h => List.mem_append_left _ (List.mem_append_left _ (List.mem_append_left _ (List.mem_append_left _ (List.mem_append_left _ (List.mem_append_left _ (List.mem_append_left _ (List.mem_append_left _ (List.mem_append_left _ (List.mem_append_left _ (List.mem_append_left _ (List.mem_append_left _ (List.mem_append_left _ (List.mem_append_left _ (List.mem_append_left _ (List.mem_append_left _ (List.mem_append_right _ (List.mem_append_right _ (List.mem_append_right _ (List.mem_append_right _ (List.mem_append_right _ (List.mem_append_right _ (List.mem_append_right _ (List.mem_append_right _ (List.mem_append_right _ (List.mem_append_right _ (List.mem_append_right _ (List.mem_append_right _ (List.mem_append_right _ (List.mem_append_right _ (List.mem_append_right _ (List.mem_append_right _ (List.mem_append_right _ (List.mem_append_right _ (List.mem_append_right _ (List.mem_append_right _ (List.mem_append_right _ (List.mem_append_right _ (List.mem_append_right _ (List.mem_append_right _ (List.mem_append_right _ (List.mem_append_right _ (List.mem_append_right _ (List.mem_append_right _ (List.mem_append_right _ (List.mem_append_right _ (List.mem_append_right _ (List.mem_append_right _ (List.mem_append_right _ (List.mem_append_right _ (List.mem_append_right _ (List.mem_append_right _ (List.mem_append_right _ (List.mem_append_right _ (List.mem_append_right _ (List.mem_append_right _ (List.mem_append_right _ (List.mem_append_right _ (List.mem_append_right _ (List.mem_append_right _ (List.mem_append_right _ (List.mem_append_right _ (List.mem_append_right _ (List.mem_append_right _ (List.mem_append_right _ (List.mem_append_right _ (List.mem_append_right _ (List.mem_append_right _ (List.mem_append_right _ (List.mem_append_right _ (List.mem_append_right _ (List.mem_append_right _ (List.mem_append_right _ (List.mem_append_right _ (List.mem_append_right _ (List.mem_append_right _ (List.mem_append_right _ (List.mem_append_right _ (List.mem_append_right _ (List.mem_append_right _ (List.mem_append_right _ (List.mem_append_right _ (List.mem_append_right _ (List.mem_append_right _ (List.mem_append_right _ (List.mem_append_right _ (List.mem_append_right _ (List.mem_append_right _ (List.mem_append_right _ (List.mem_append_left _ h)))))))))))))))))))))))))))))))))))))))))))))))))))))))))))))))))))))))))))))))))))))))))
theorem inR75 : ∀ w ∈ wsL_law0_r75, w ∈ wsL_law := fun _ h => List.mem_append_left _ (List.mem_append_left _ (List.mem_append_left _ (List.mem_append_left _ (List.mem_append_left _ (List.mem_append_left _ (List.mem_append_left _ (List.mem_append_left _ (List.mem_append_left _ (List.mem_append_left _ (List.mem_append_left _ (List.mem_append_left _ (List.mem_append_left _ (List.mem_append_left _ (List.mem_append_left _ (List.mem_append_left _ (List.mem_append_right _ (List.mem_append_right _ (List.mem_append_right _ (List.mem_append_right _ (List.mem_append_right _ (List.mem_append_right _ (List.mem_append_right _ (List.mem_append_right _ (List.mem_append_right _ (List.mem_append_right _ (List.mem_append_right _ (List.mem_append_right _ (List.mem_append_right _ (List.mem_append_right _ (List.mem_append_right _ (List.mem_append_right _ (List.mem_append_right _ (List.mem_append_right _ (List.mem_append_right _ (List.mem_append_right _ (List.mem_append_right _ (List.mem_append_right _ (List.mem_append_right _ (List.mem_append_right _ (List.mem_append_right _ (List.mem_append_right _ (List.mem_append_right _ (List.mem_append_right _ (List.mem_append_right _ (List.mem_append_right _ (List.mem_append_right _ (List.mem_append_right _ (List.mem_append_right _ (List.mem_append_right _ (List.mem_append_right _ (List.mem_append_right _ (List.mem_append_right _ (List.mem_append_right _ (List.mem_append_right _ (List.mem_append_right _ (List.mem_append_right _ (List.mem_append_right _ (List.mem_append_right _ (List.mem_append_right _ (List.mem_append_right _ (List.mem_append_right _ (List.mem_append_right _ (List.mem_append_right _ (List.mem_append_right _ (List.mem_append_right _ (List.mem_append_right _ (List.mem_append_right _ (List.mem_append_right _ (List.mem_append_right _ (List.mem_append_right _ (List.mem_append_right _ (List.mem_append_right _ (List.mem_append_right _ (List.mem_append_right _ (List.mem_append_right _ (List.mem_append_right _ (List.mem_append_right _ (List.mem_append_right _ (List.mem_append_right _ (List.mem_append_right _ (List.mem_append_right _ (List.mem_append_right _ (List.mem_append_right _ (List.mem_append_right _ (List.mem_append_right _ (List.mem_append_right _ (List.mem_append_right _ (List.mem_append_right _ (List.mem_append_right _ (List.mem_append_left _ h))))))))))))))))))))))))))))))))))))))))))))))))))))))))))))))))))))))))))))))))))))))))))
theorem inR76 : ∀ w ∈ wsL_law0_r76, w ∈ wsL_law := fun _ h => List.mem_append_left _ (List.mem_append_left _ (List.mem_append_left _ (List.mem_append_left _ (List.mem_append_left _ (List.mem_append_left _ (List.mem_append_left _ (List.mem_append_left _ (List.mem_append_left _ (List.mem_append_left _ (List.mem_append_left _ (List.mem_append_left _ (List.mem_append_left _ (List.mem_append_left _ (List.mem_append_left _ (List.mem_append_left _ (List.mem_append_right _ (List.mem_append_right _ (List.mem_append_right _ (List.mem_append_right _ (List.mem_append_right _ (List.mem_append_right _ (List.mem_append_right _ (List.mem_append_right _ (List.mem_append_right _ (List.mem_append_right _ (List.mem_append_right _ (List.mem_append_right _ (List.mem_append_right _ (List.mem_append_right _ (List.mem_append_right _ (List.mem_append_right _ (List.mem_append_right _ (List.mem_append_right _ (List.mem_append_right _ (List.mem_append_right _ (List.mem_append_right _ (List.mem_append_right _ (List.mem_append_right _ (List.mem_append_right _ (List.mem_append_right _ (List.mem_append_right _ (List.mem_append_right _ (List.mem_append_right _ (List.mem_append_right _ (List.mem_append_right _ (List.mem_append_right _ (List.mem_append_right _ (List.mem_append_right _ (List.mem_append_right _ (List.mem_append_right _ (List.mem_append_right _ (List.mem_append_right _ (List.mem_append_right _ (List.mem_append_right _ (List.mem_append_right _ (List.mem_append_right _ (List.mem_append_right _ (List.mem_append_right _ (List.mem_append_right _ (List.mem_append_right _ (List.mem_append_right _ (List.mem_append_right _ (List.mem_append_right _ (List.mem_append_right _ (List.mem_append_right _ (List.mem_append_right _ (List.mem_append_right _ (List.mem_append_right _ (List.mem_append_right _ (List.mem_append_right _ (List.mem_append_right _ (List.mem_append_right _ (List.mem_append_right _ (List.mem_append_right _ (List.mem_append_right _ (List.mem_append_right _ (List.mem_append_right _ (List.mem_append_right _ (List.mem_append_right _ (List.mem_append_right _ (List.mem_append_right _ (List.mem_append_right _ (List.mem_append_right _ (List.mem_append_right _ (List.mem_append_right _ (List.mem_append_right _ (List.mem_append_right _ (List.mem_append_right _ (List.mem_append_right _ (List.mem_append_right _ (List.mem_append_left _ h)))))))))))))))))))))))))))))))))))))))))))))))))))))))))))))))))))))))))))))))))))))))))))
theorem inR77 : ∀ w ∈ wsL_law0_r77, w ∈ wsL_law := fun _ h => List.mem_append_left _ (List.mem_append_left _ (List.mem_append_left _ (List.mem_append_left _ (List.mem_append_left _ (List.mem_append_left _ (List.mem_append_left _ (List.mem_append_left _ (List.mem_append_left _ (List.mem_append_left _ (List.mem_append_left _ (List.mem_append_left _ (List.mem_append_left _ (List.mem_append_left _ (List.mem_append_left _ (List.mem_append_left _ (List.mem_append_right _ (List.mem_append_right _ (List.mem_append_right _ (List.mem_append_right _ (List.mem_append_right _ (List.mem_append_right _ (List.mem_append_right _ (List.mem_append_right _ (List.mem_append_right _ (List.mem_append_right _ (List.mem_append_right _ (List.mem_append_right _ (List.mem_append_right _ (List.mem_append_right _ (List.mem_append_right _ (List.mem_append_right _ (List.mem_append_right _ (List.mem_append_right _ (List.mem_append_right _ (List.mem_append_right _ (List.mem_append_right _ (List.mem_append_right _ (List.mem_append_right _ (List.mem_append_right _ (List.mem_append_right _ (List.mem_append_right _ (List.mem_append_right _ (List.mem_append_right _ (List.mem_append_right _ (List.mem_append_right _ (List.mem_append_right _ (List.mem_append_right _ (List.mem_append_right _ (List.mem_append_right _ (List.mem_append_right _ (List.mem_append_right _ (List.mem_append_right _ (List.mem_append_right _ (List.mem_append_right _ (List.mem_append_right _ (List.mem_append_right _ (List.mem_append_right _ (List.mem_append_right _ (List.mem_append_right _ (List.mem_append_right _ (List.mem_append_right _ (List.mem_append_right _ (List.mem_append_right _ (List.mem_append_right _ (List.mem_append_right _ (List.mem_append_right _ (List.mem_append_right _ (List.mem_append_right _ (List.mem_append_right _ (List.mem_append_right _ (List.mem_append_right _ (List.mem_append_right _ (List.mem_append_right _ (List.mem_append_right _ (List.mem_append_right _ (List.mem_append_right _ (List.mem_append_right _ (List.mem_append_right _ (List.mem_append_right _ (List.mem_append_right _ (List.mem_append_right _ (List.mem_append_right _ (List.mem_append_right _ (List.mem_append_right _ (List.mem_append_right _ (List.mem_append_right _ (List.mem_append_right _ (List.mem_append_right _ (List.mem_append_right _ (List.mem_append_right _ (List.mem_append_right _ (List.mem_append_left _ h))))))))))))))))))))))))))))))))))))))))))))))))))))))))))))))))))))))))))))))))))))))))))))
theorem inR78 : ∀ w ∈ wsL_law0_r78, w ∈ wsL_law := fun _ h => List.mem_append_left _ (List.mem_append_left _ (List.mem_append_left _ (List.mem_append_left _ (List.mem_append_left _ (List.mem_append_left _ (List.mem_append_left _ (List.mem_append_left _ (List.mem_append_left _ (List.mem_append_left _ (List.mem_append_left _ (List.mem_append_left _ (List.mem_append_left _ (List.mem_append_left _ (List.mem_append_left _ (List.mem_append_left _ (List.mem_append_right _ (List.mem_append_right _ (List.mem_append_right _ (List.mem_append_right _ (List.mem_append_right _ (List.mem_append_right _ (List.mem_append_right _ (List.mem_append_right _ (List.mem_append_right _ (List.mem_append_right _ (List.mem_append_right _ (List.mem_append_right _ (List.mem_append_right _ (List.mem_append_right _ (List.mem_append_right _ (List.mem_append_right _ (List.mem_append_right _ (List.mem_append_right _ (List.mem_append_right _ (List.mem_append_right _ (List.mem_append_right _ (List.mem_append_right _ (List.mem_append_right _ (List.mem_append_right _ (List.mem_append_right _ (List.mem_append_right _ (List.mem_append_right _ (List.mem_append_right _ (List.mem_append_right _ (List.mem_append_right _ (List.mem_append_right _ (List.mem_append_right _ (List.mem_append_right _ (List.mem_append_right _ (List.mem_append_right _ (List.mem_append_right _ (List.mem_append_right _ (List.mem_append_right _ (List.mem_append_right _ (List.mem_append_right _ (List.mem_append_right _ (List.mem_append_right _ (List.mem_append_right _ (List.mem_append_right _ (List.mem_append_right _ (List.mem_append_right _ (List.mem_append_right _ (List.mem_append_right _ (List.mem_append_right _ (List.mem_append_right _ (List.mem_append_right _ (List.mem_append_right _ (List.mem_append_right _ (List.mem_append_right _ (List.mem_append_right _ (List.mem_append_right _ (List.mem_append_right _ (List.mem_append_right _ (List.mem_append_right _ (List.mem_append_right _ (List.mem_append_right _ (List.mem_append_right _ (List.mem_append_right _ (List.mem_append_right _ (List.mem_append_right _ (List.mem_append_right _ (List.mem_append_right _ (List.mem_append_right _ (List.mem_append_right _ (List.mem_append_right _ (List.mem_append_right _ (List.mem_append_right _ (List.mem_append_right _ (List.mem_append_right _ (List.mem_append_right _ (List.mem_append_right _ (List.mem_append_right _ (List.mem_append_left _ h)))))))))))))))))))))))))))))))))))))))))))))))))))))))))))))))))))))))))))))))))))))))))))))
theorem inR79 : ∀ w ∈ wsL_law0_r79, w ∈ wsL_law := fun _ h => List.mem_append_left _ (List.mem_append_left _ (List.mem_append_left _ (List.mem_append_left _ (List.mem_append_left _ (List.mem_append_left _ (List.mem_append_left _ (List.mem_append_left _ (List.mem_append_left _ (List.mem_append_left _ (List.mem_append_left _ (List.mem_append_left _ (List.mem_append_left _ (List.mem_append_left _ (List.mem_append_left _ (List.mem_append_left _ (List.mem_append_right _ (List.mem_append_right _ (List.mem_append_right _ (List.mem_append_right _ (List.mem_append_right _ (List.mem_append_right _ (List.mem_append_right _ (List.mem_append_right _ (List.mem_append_right _ (List.mem_append_right _ (List.mem_append_right _ (List.mem_append_right _ (List.mem_append_right _ (List.mem_append_right _ (List.mem_append_right _ (List.mem_append_right _ (List.mem_append_right _ (List.mem_append_right _ (List.mem_append_right _ (List.mem_append_right _ (List.mem_append_right _ (List.mem_append_right _ (List.mem_append_right _ (List.mem_append_right _ (List.mem_append_right _ (List.mem_append_right _ (List.mem_append_right _ (List.mem_append_right _ (List.mem_append_right _ (List.mem_append_right _ (List.mem_append_right _ (List.mem_append_right _ (List.mem_append_right _ (List.mem_append_right _ (List.mem_append_right _ (List.mem_append_right _ (List.mem_append_right _ (List.mem_append_right _ (List.mem_append_right _ (List.mem_append_right _ (List.mem_append_right _ (List.mem_append_right _ (List.mem_append_right _ (List.mem_append_right _ (List.mem_append_right _ (List.mem_append_right _ (List.mem_append_right _ (List.mem_append_right _ (List.mem_append_right _ (List.mem_append_right _ (List.mem_append_right _ (List.mem_append_right _ (List.mem_append_right _ (List.mem_append_right _ (List.mem_append_right _ (List.mem_append_right _ (List.mem_append_right _ (List.mem_append_right _ (List.mem_append_right _ (List.mem_append_right _ (List.mem_append_right _ (List.mem_append_right _ (List.mem_append_right _ (List.mem_append_right _ (List.mem_append_right _ (List.mem_append_right _ (List.mem_append_right _ (List.mem_append_right _ (List.mem_append_right _ (List.mem_append_right _ (List.mem_append_right _ (List.mem_append_right _ (List.mem_append_right _ (List.mem_append_right _ (List.mem_append_right _ (List.mem_append_right _ (List.mem_append_right _ (List.mem_append_right _ (List.mem_append_left _ h))))))))))))))))))))))))))))))))))))))))))))))))))))))))))))))))))))))))))))))))))))))))))))))
theorem inR80 : ∀ w ∈ wsL_law0_r80, w ∈ wsL_law := fun _ h => List.mem_append_left _ (List.mem_append_left _ (List.mem_append_left _ (List.mem_append_left _ (List.mem_append_left _ (List.mem_append_left _ (List.mem_append_left _ (List.mem_append_left _ (List.mem_append_left _ (List.mem_append_left _ (List.mem_append_left _ (List.mem_append_left _ (List.mem_append_left _ (List.mem_append_left _ (List.mem_append_left _ (List.mem_append_left _ (List.mem_append_right _ (List.mem_append_right _ (List.mem_append_right _ (List.mem_append_right _ (List.mem_append_right _ (List.mem_append_right _ (List.mem_append_right _ (List.mem_append_right _ (List.mem_append_right _ (List.mem_append_right _ (List.mem_append_right _ (List.mem_append_right _ (List.mem_append_right _ (List.mem_append_right _ (List.mem_append_right _ (List.mem_append_right _ (List.mem_append_right _ (List.mem_append_right _ (List.mem_append_right _ (List.mem_append_right _ (List.mem_append_right _ (List.mem_append_right _ (List.mem_append_right _ (List.mem_append_right _ (List.mem_append_right _ (List.mem_append_right _ (List.mem_append_right _ (List.mem_append_right _ (List.mem_append_right _ (List.mem_append_right _ (List.mem_append_right _ (List.mem_append_right _ (List.mem_append_right _ (List.mem_append_right _ (List.mem_append_right _ (List.mem_append_right _ (List.mem_append_right _ (List.mem_append_right _ (List.mem_append_right _ (List.mem_append_right _ (List.mem_append_right _ (List.mem_append_right _ (List.mem_append_right _ (List.mem_append_right _ (List.mem_append_right _ (List.mem_append_right _ (List.mem_append_right _ (List.mem_append_right _ (List.mem_append_right _ (List.mem_append_right _ (List.mem_append_right _ (List.mem_append_right _ (List.mem_append_right _ (List.mem_append_right _ (List.mem_append_right _ (List.mem_append_right _ (List.mem_append_right _ (List.mem_append_right _ (List.mem_append_right _ (List.mem_append_right _ (List.mem_append_right _ (List.mem_append_right _ (List.mem_append_right _ (List.mem_append_right _ (List.mem_append_right _ (List.mem_append_right _ (List.mem_append_right _ (List.mem_append_right _ (List.mem_append_right _ (List.mem_append_right _ (List.mem_append_right _ (List.mem_append_right _ (List.mem_append_right _ (List.mem_append_right _ (List.mem_append_right _ (List.mem_append_right _ (List.mem_append_right _ (List.mem_append_right _ (List.mem_append_right _ (List.mem_append_left _ h)))))))))))))))))))))))))))))))))))))))))))))))))))))))))))))))))))))))))))))))))))))))))))))))
theorem inR81 : ∀ w ∈ wsL_law0_r81, w ∈ wsL_law := fun _ h => List.mem_append_left _ (List.mem_append_left _ (List.mem_append_left _ (List.mem_append_left _ (List.mem_append_left _ (List.mem_append_left _ (List.mem_append_left _ (List.mem_append_left _ (List.mem_append_left _ (List.mem_append_left _ (List.mem_append_left _ (List.mem_append_left _ (List.mem_append_left _ (List.mem_append_left _ (List.mem_append_left _ (List.mem_append_left _ (List.mem_append_right _ (List.mem_append_right _ (List.mem_append_right _ (List.mem_append_right _ (List.mem_append_right _ (List.mem_append_right _ (List.mem_append_right _ (List.mem_append_right _ (List.mem_append_right _ (List.mem_append_right _ (List.mem_append_right _ (List.mem_append_right _ (List.mem_append_right _ (List.mem_append_right _ (List.mem_append_right _ (List.mem_append_right _ (List.mem_append_right _ (List.mem_append_right _ (List.mem_append_right _ (List.mem_append_right _ (List.mem_append_right _ (List.mem_append_right _ (List.mem_append_right _ (List.mem_append_right _ (List.mem_append_right _ (List.mem_append_right _ (List.mem_append_right _ (List.mem_append_right _ (List.mem_append_right _ (List.mem_append_right _ (List.mem_append_right _ (List.mem_append_right _ (List.mem_append_right _ (List.mem_append_right _ (List.mem_append_right _ (List.mem_append_right _ (List.mem_append_right _ (List.mem_append_right _ (List.mem_append_right _ (List.mem_append_right _ (List.mem_append_right _ (List.mem_append_right _ (List.mem_append_right _ (List.mem_append_right _ (List.mem_append_right _ (List.mem_append_right _ (List.mem_append_right _ (List.mem_append_right _ (List.mem_append_right _ (List.mem_append_right _ (List.mem_append_right _ (List.mem_append_right _ (List.mem_append_right _ (List.mem_append_right _ (List.mem_append_right _ (List.mem_append_right _ (List.mem_append_right _ (List.mem_append_right _ (List.mem_append_right _ (List.mem_append_right _ (List.mem_append_right _ (List.mem_append_right _ (List.mem_append_right _ (List.mem_append_right _ (List.mem_append_right _ (List.mem_append_right _ (List.mem_append_right _ (List.mem_append_right _ (List.mem_append_right _ (List.mem_append_right _ (List.mem_append_right _ (List.mem_append_right _ (List.mem_append_right _ (List.mem_append_right _ (List.mem_append_right _ (List.mem_append_right _ (List.mem_append_right _ (List.mem_append_right _ (List.mem_append_right _ (List.mem_append_right _ (List.mem_append_left _ h))))))))))))))))))))))))))))))))))))))))))))))))))))))))))))))))))))))))))))))))))))))))))))))))
theorem inR82 : ∀ w ∈ wsL_law0_r82, w ∈ wsL_law := fun _ h => List.mem_append_left _ (List.mem_append_left _ (List.mem_append_left _ (List.mem_append_left _ (List.mem_append_left _ (List.mem_append_left _ (List.mem_append_left _ (List.mem_append_left _ (List.mem_append_left _ (List.mem_append_left _ (List.mem_append_left _ (List.mem_append_left _ (List.mem_append_left _ (List.mem_append_left _ (List.mem_append_left _ (List.mem_append_left _ (List.mem_append_right _ (List.mem_append_right _ (List.mem_append_right _ (List.mem_append_right _ (List.mem_append_right _ (List.mem_append_right _ (List.mem_append_right _ (List.mem_append_right _ (List.mem_append_right _ (List.mem_append_right _ (List.mem_append_right _ (List.mem_append_right _ (List.mem_append_right _ (List.mem_append_right _ (List.mem_append_right _ (List.mem_append_right _ (List.mem_append_right _ (List.mem_append_right _ (List.mem_append_right _ (List.mem_append_right _ (List.mem_append_right _ (List.mem_append_right _ (List.mem_append_right _ (List.mem_append_right _ (List.mem_append_right _ (List.mem_append_right _ (List.mem_append_right _ (List.mem_append_right _ (List.mem_append_right _ (List.mem_append_right _ (List.mem_append_right _ (List.mem_append_right _ (List.mem_append_right _ (List.mem_append_right _ (List.mem_append_right _ (List.mem_append_right _ (List.mem_append_right _ (List.mem_append_right _ (List.mem_append_right _ (List.mem_append_right _ (List.mem_append_right _ (List.mem_append_right _ (List.mem_append_right _ (List.mem_append_right _ (List.mem_append_right _ (List.mem_append_right _ (List.mem_append_right _ (List.mem_append_right _ (List.mem_append_right _ (List.mem_append_right _ (List.mem_append_right _ (List.mem_append_right _ (List.mem_append_right _ (List.mem_append_right _ (List.mem_append_right _ (List.mem_append_right _ (List.mem_append_right _ (List.mem_append_right _ (List.mem_append_right _ (List.mem_append_right _ (List.mem_append_right _ (List.mem_append_right _ (List.mem_append_right _ (List.mem_append_right _ (List.mem_append_right _ (List.mem_append_right _ (List.mem_append_right _ (List.mem_append_right _ (List.mem_append_right _ (List.mem_append_right _ (List.mem_append_right _ (List.mem_append_right _ (List.mem_append_right _ (List.mem_append_right _ (List.mem_append_right _ (List.mem_append_right _ (List.mem_append_right _ (List.mem_append_right _ (List.mem_append_right _ (List.mem_append_right _ (List.mem_append_right _ (List.mem_append_left _ h)))))))))))))))))))))))))))))))))))))))))))))))))))))))))))))))))))))))))))))))))))))))))))))))))
theorem inR83 : ∀ w ∈ wsL_law0_r83, w ∈ wsL_law := fun _ h => List.mem_append_left _ (List.mem_append_left _ (List.mem_append_left _ (List.mem_append_left _ (List.mem_append_left _ (List.mem_append_left _ (List.mem_append_left _ (List.mem_append_left _ (List.mem_append_left _ (List.mem_append_left _ (List.mem_append_left _ (List.mem_append_left _ (List.mem_append_left _ (List.mem_append_left _ (List.mem_append_left _ (List.mem_append_left _ (List.mem_append_right _ (List.mem_append_right _ (List.mem_append_right _ (List.mem_append_right _ (List.mem_append_right _ (List.mem_append_right _ (List.mem_append_right _ (List.mem_append_right _ (List.mem_append_right _ (List.mem_append_right _ (List.mem_append_right _ (List.mem_append_right _ (List.mem_append_right _ (List.mem_append_right _ (List.mem_append_right _ (List.mem_append_right _ (List.mem_append_right _ (List.mem_append_right _ (List.mem_append_right _ (List.mem_append_right _ (List.mem_append_right _ (List.mem_append_right _ (List.mem_append_right _ (List.mem_append_right _ (List.mem_append_right _ (List.mem_append_right _ (List.mem_append_right _ (List.mem_append_right _ (List.mem_append_right _ (List.mem_append_right _ (List.mem_append_right _ (List.mem_append_right _ (List.mem_append_right _ (List.mem_append_right _ (List.mem_append_right _ (List.mem_append_right _ (List.mem_append_right _ (List.mem_append_right _ (List.mem_append_right _ (List.mem_append_right _ (List.mem_append_right _ (List.mem_append_right _ (List.mem_append_right _ (List.mem_append_right _ (List.mem_append_right _ (List.mem_append_right _ (List.mem_append_right _ (List.mem_append_right _ (List.mem_append_right _ (List.mem_append_right _ (List.mem_append_right _ (List.mem_append_right _ (List.mem_append_right _ (List.mem_append_right _ (List.mem_append_right _ (List.mem_append_right _ (List.mem_append_right _ (List.mem_append_right _ (List.mem_append_right _ (List.mem_append_right _ (List.mem_append_right _ (List.mem_append_right _ (List.mem_append_right _ (List.mem_append_right _ (List.mem_append_right _ (List.mem_append_right _ (List.mem_append_right _ (List.mem_append_right _ (List.mem_append_right _ (List.mem_append_right _ (List.mem_append_right _ (List.mem_append_right _ (List.mem_append_right _ (List.mem_append_right _ (List.mem_append_right _ (List.mem_append_right _ (List.mem_append_right _ (List.mem_append_right _ (List.mem_append_right _ (List.mem_append_right _ (List.mem_append_right _ (List.mem_append_right _ (h))))))))))))))))))))))))))))))))))))))))))))))))))))))))))))))))))))))))))))))))))))))))))))))))))
theorem inzX11 : ∀ w ∈ wsX110, w ∈ wsL_law := fun _ h => List.mem_append_left _ (List.mem_append_left _ (List.mem_append_left _ (List.mem_append_left _ (List.mem_append_left _ (List.mem_append_left _ (List.mem_append_left _ (List.mem_append_left _ (List.mem_append_left _ (List.mem_append_left _ (List.mem_append_left _ (List.mem_append_left _ (List.mem_append_left _ (List.mem_append_left _ (List.mem_append_left _ (List.mem_append_right _ h)))))))))))))))
theorem inzX12 : ∀ w ∈ wsX120, w ∈ wsL_law := fun _ h => List.mem_append_left _ (List.mem_append_left _ (List.mem_append_left _ (List.mem_append_left _ (List.mem_append_left _ (List.mem_append_left _ (List.mem_append_left _ (List.mem_append_left _ (List.mem_append_left _ (List.mem_append_left _ (List.mem_append_left _ (List.mem_append_left _ (List.mem_append_left _ (List.mem_append_left _ (List.mem_append_right _ h))))))))))))))
theorem inzX9 : ∀ w ∈ wsX90, w ∈ wsL_law := fun _ h => List.mem_append_left _ (List.mem_append_left _ (List.mem_append_left _ (List.mem_append_left _ (List.mem_append_left _ (List.mem_append_left _ (List.mem_append_left _ (List.mem_append_left _ (List.mem_append_left _ (List.mem_append_left _ (List.mem_append_left _ (List.mem_append_left _ (List.mem_append_left _ (List.mem_append_right _ h)))))))))))))
theorem inzX2 : ∀ w ∈ wsX20, w ∈ wsL_law := fun _ h => List.mem_append_left _ (List.mem_append_left _ (List.mem_append_left _ (List.mem_append_left _ (List.mem_append_left _ (List.mem_append_left _ (List.mem_append_left _ (List.mem_append_left _ (List.mem_append_left _ (List.mem_append_left _ (List.mem_append_left _ (List.mem_append_left _ (List.mem_append_right _ h))))))))))))
theorem inzX6 : ∀ w ∈ wsX60, w ∈ wsL_law := fun _ h => List.mem_append_left _ (List.mem_append_left _ (List.mem_append_left _ (List.mem_append_left _ (List.mem_append_left _ (List.mem_append_left _ (List.mem_append_left _ (List.mem_append_left _ (List.mem_append_left _ (List.mem_append_left _ (List.mem_append_left _ (List.mem_append_right _ h)))))))))))
theorem inzX8 : ∀ w ∈ wsX80, w ∈ wsL_law := fun _ h => List.mem_append_left _ (List.mem_append_left _ (List.mem_append_left _ (List.mem_append_left _ (List.mem_append_left _ (List.mem_append_left _ (List.mem_append_left _ (List.mem_append_left _ (List.mem_append_left _ (List.mem_append_left _ (List.mem_append_right _ h))))))))))
theorem inzX7 : ∀ w ∈ wsX70, w ∈ wsL_law := fun _ h => List.mem_append_left _ (List.mem_append_left _ (List.mem_append_left _ (List.mem_append_left _ (List.mem_append_left _ (List.mem_append_left _ (List.mem_append_left _ (List.mem_append_left _ (List.mem_append_left _ (List.mem_append_right _ h)))))))))
theorem inzX1 : ∀ w ∈ wsX10, w ∈ wsL_law := fun _ h => List.mem_append_left _ (List.mem_append_left _ (List.mem_append_left _ (List.mem_append_left _ (List.mem_append_left _ (List.mem_append_left _ (List.mem_append_left _ (List.mem_append_left _ (List.mem_append_right _ h))))))))
theorem inzX10 : ∀ w ∈ wsX100, w ∈ wsL_law := fun _ h => List.mem_append_left _ (List.mem_append_left _ (List.mem_append_left _ (List.mem_append_left _ (List.mem_append_left _ (List.mem_append_left _ (List.mem_append_left _ (List.mem_append_right _ h)))))))
theorem inzX0 : ∀ w ∈ wsX00, w ∈ wsL_law := fun _ h => List.mem_append_left _ (List.mem_append_left _ (List.mem_append_left _ (List.mem_append_left _ (List.mem_append_left _ (List.mem_append_left _ (List.mem_append_right _ h))))))
theorem inzX3 : ∀ w ∈ wsX30, w ∈ wsL_law := fun _ h => List.mem_append_left _ (List.mem_append_left _ (List.mem_append_left _ (List.mem_append_left _ (List.mem_append_left _ (List.mem_append_right _ h)))))
theorem inzX5 : ∀ w ∈ wsX50, w ∈ wsL_law := fun _ h => List.mem_append_left _ (List.mem_append_left _ (List.mem_append_left _ (List.mem_append_left _ (List.mem_append_right _ h))))
theorem inzX4 : ∀ w ∈ wsX40, w ∈ wsL_law := fun _ h => List.mem_append_left _ (List.mem_append_left _ (List.mem_append_left _ (List.mem_append_right _ h)))
theorem inzJ4 : ∀ w ∈ wsJ40, w ∈ wsL_law := fun _ h => List.mem_append_left _ (List.mem_append_left _ (List.mem_append_right _ h))
theorem inNse : ∀ w ∈ (vx_at0 RX11 156 "java/util/NoSuchElementException" ["java/lang/RuntimeException", "java/lang/Exception"]).filter goodWord, w ∈ wsL_law := fun _ h => List.mem_append_right _ h
end
section
theorem ws_all : wsL_law.all goodWord = true := by decide +kernel
theorem ws_good : ∀ w ∈ wsL_law, goodWord w = true := List.all_eq_true.mp ws_all
theorem kw1 : Cond.methodLink RJ5 3 objectInit ∈ wsL_law := inR8 _ (List.mem_of_getElem? (i := 16) rfl)
theorem kw2 : Cond.instanceMethod objectInit ∈ wsL_law := inR1 _ (List.mem_of_getElem? (i := 11) rfl)
theorem kw3 : Cond.code objectInit ⟨#[0xb1]⟩ 1 none ∈ wsL_law := inR1 _ (List.mem_of_getElem? (i := 12) rfl)
theorem kw4 : Cond.fieldLink RJ5 18 "java/lang/String" "COMPACT_STRINGS" "Z" ∈ wsL_law := inR8 _ (List.mem_of_getElem? (i := 17) rfl)
theorem kw5 : Cond.arrayClass .byte ∈ wsL_law := inR8 _ (List.mem_of_getElem? (i := 18) rfl)
theorem kw6 : Cond.fieldLink RJ5 15 "java/lang/AbstractStringBuilder" "value" "[B" ∈ wsL_law := inR8 _ (List.mem_of_getElem? (i := 19) rfl)
theorem kw7 : Cond.fieldLink RJ5 22 "java/lang/AbstractStringBuilder" "coder" "B" ∈ wsL_law := inR8 _ (List.mem_of_getElem? (i := 20) rfl)
theorem kw8 : Cond.code yJ2_newBytesFor_77867 cJ2_newBytesFor_77867 1 (some (.array .byte)) ∈ wsL_law := inR9 _ (List.mem_of_getElem? (i := 0) rfl)
theorem kw9 : Cond.initialized RJ2 ∈ wsL_law := inR8 _ (List.mem_of_getElem? (i := 23) rfl)
theorem kw10 : Cond.static yJ2_newBytesFor_77867 ∈ wsL_law := inR8 _ (List.mem_of_getElem? (i := 22) rfl)
theorem kw11 : Cond.methodLink RJ5 26 yJ2_newBytesFor_77867 ∈ wsL_law := inR8 _ (List.mem_of_getElem? (i := 21) rfl)
theorem kw12 : Cond.code yJ5_init_d00df cJ5_init_d00df 2 none ∈ wsL_law := inR8 _ (List.mem_of_getElem? (i := 15) rfl)
theorem kw13 : Cond.initialized RJ5 ∈ wsL_law := inR8 _ (List.mem_of_getElem? (i := 14) rfl)
theorem kw14 : Cond.instanceMethod yJ5_init_d00df ∈ wsL_law := inR8 _ (List.mem_of_getElem? (i := 13) rfl)
theorem kw15 : Cond.methodLink RJ4 1 yJ5_init_d00df ∈ wsL_law := inR8 _ (List.mem_of_getElem? (i := 12) rfl)
theorem kw16 : Cond.fieldLink RJ5 79 "java/lang/AbstractStringBuilder" "count" "I" ∈ wsL_law := inR61 _ (List.mem_of_getElem? (i := 11) rfl)
theorem kw17 : Cond.code yJ5_length_8abf5 cJ5_length_8abf5 1 (some .int) ∈ wsL_law := inR67 _ (List.mem_of_getElem? (i := 17) rfl)
theorem kw18 : Cond.code yJ1_fillNull_b72d1 cJ1_fillNull_b72d1 3 none ∈ wsL_law := inR63 _ (List.mem_of_getElem? (i := 3) rfl)
theorem kw19 : Cond.initialized RJ1 ∈ wsL_law := inR14 _ (List.mem_of_getElem? (i := 20) rfl)
theorem kw20 : Cond.static yJ1_fillNull_b72d1 ∈ wsL_law := inR63 _ (List.mem_of_getElem? (i := 2) rfl)
theorem kw21 : Cond.methodLink RJ5 133 yJ1_fillNull_b72d1 ∈ wsL_law := inR63 _ (List.mem_of_getElem? (i := 1) rfl)
theorem kw22 : Cond.code yJ2_fillNull_b72d1 cJ2_fillNull_b72d1 3 none ∈ wsL_law := inR63 _ (List.mem_of_getElem? (i := 12) rfl)
theorem kw23 : Cond.static yJ2_fillNull_b72d1 ∈ wsL_law := inR63 _ (List.mem_of_getElem? (i := 11) rfl)
theorem kw24 : Cond.methodLink RJ5 137 yJ2_fillNull_b72d1 ∈ wsL_law := inR63 _ (List.mem_of_getElem? (i := 10) rfl)
theorem kw25 : Cond.fieldLink RJ5 73 "java/lang/AbstractStringBuilder" "maybeLatin1" "Z" ∈ wsL_law := inR61 _ (List.mem_of_getElem? (i := 12) rfl)
theorem kw26 : Cond.code yJ5_setLength_d00df cJ5_setLength_d00df 2 none ∈ wsL_law := inR61 _ (List.mem_of_getElem? (i := 10) rfl)
theorem kw27 : Cond.constant RJ6 265 (1431655765) ∈ wsL_law := inR50 _ (List.mem_of_getElem? (i := 6) rfl)
theorem kw28 : Cond.constant RJ6 266 (858993459) ∈ wsL_law := inR50 _ (List.mem_of_getElem? (i := 7) rfl)
theorem kw29 : Cond.constant RJ6 267 (252645135) ∈ wsL_law := inR50 _ (List.mem_of_getElem? (i := 8) rfl)
theorem kw30 : Cond.methodLink RX8 3 objectInit ∈ wsL_law := inR5 _ (List.mem_of_getElem? (i := 13) rfl)
theorem kw31 : Cond.arrayClass .int ∈ wsL_law := inR3 _ (List.mem_of_getElem? (i := 23) rfl)
theorem kw32 : Cond.fieldLink RX8 9 "SignedBridge$State" "earnest" "[I" ∈ wsL_law := inR5 _ (List.mem_of_getElem? (i := 14) rfl)
theorem kw33 : Cond.fieldLink RX8 15 "SignedBridge$State" "died" "[I" ∈ wsL_law := inR5 _ (List.mem_of_getElem? (i := 15) rfl)
theorem kw34 : Cond.fieldLink RX8 18 "SignedBridge$State" "held" "[I" ∈ wsL_law := inR5 _ (List.mem_of_getElem? (i := 16) rfl)
theorem kw35 : Cond.fieldLink RX8 21 "SignedBridge$State" "owner" "[I" ∈ wsL_law := inR5 _ (List.mem_of_getElem? (i := 17) rfl)
theorem kw36 : Cond.fieldLink RX8 24 "SignedBridge$State" "singed" "[I" ∈ wsL_law := inR5 _ (List.mem_of_getElem? (i := 18) rfl)
theorem kw37 : Cond.fieldLink RX8 27 "SignedBridge$State" "crossed" "[I" ∈ wsL_law := inR5 _ (List.mem_of_getElem? (i := 19) rfl)
theorem kw38 : Cond.code yJ7_fill_53178 cJ7_fill_53178 4 none ∈ wsL_law := inR5 _ (List.mem_of_getElem? (i := 8) rfl)
theorem kw39 : Cond.initialized RJ7 ∈ wsL_law := inR5 _ (List.mem_of_getElem? (i := 7) rfl)
theorem kw40 : Cond.static yJ7_fill_53178 ∈ wsL_law := inR5 _ (List.mem_of_getElem? (i := 6) rfl)
theorem kw41 : Cond.methodLink RX8 30 yJ7_fill_53178 ∈ wsL_law := inR5 _ (List.mem_of_getElem? (i := 20) rfl)
theorem kw42 : Cond.methodLink RX0 3 objectInit ∈ wsL_law := inR6 _ (List.mem_of_getElem? (i := 23) rfl)
theorem kw43 : Cond.classLink RX0 9 RX8 ∈ wsL_law := inR7 _ (List.mem_of_getElem? (i := 0) rfl)
theorem kw44 : Cond.code yX8_init cX8_init 1 none ∈ wsL_law := inR5 _ (List.mem_of_getElem? (i := 12) rfl)
theorem kw45 : Cond.initialized RX8 ∈ wsL_law := inR2 _ (List.mem_of_getElem? (i := 3) rfl)
theorem kw46 : Cond.instanceMethod yX8_init ∈ wsL_law := inR5 _ (List.mem_of_getElem? (i := 11) rfl)
theorem kw47 : Cond.methodLink RX0 11 yX8_init ∈ wsL_law := inR7 _ (List.mem_of_getElem? (i := 6) rfl)
theorem kw48 : Cond.fieldLink RX0 12 "SignedBridge$Asks" "trial" "LSignedBridge$State;" ∈ wsL_law := inR7 _ (List.mem_of_getElem? (i := 1) rfl)
theorem kw49 : Cond.fieldLink RX0 18 "SignedBridge$Asks" "cost" "[I" ∈ wsL_law := inR7 _ (List.mem_of_getElem? (i := 2) rfl)
theorem kw50 : Cond.fieldLink RX0 22 "SignedBridge$Asks" "total" "[I" ∈ wsL_law := inR7 _ (List.mem_of_getElem? (i := 3) rfl)
theorem kw51 : Cond.fieldLink RX0 25 "SignedBridge$Asks" "picks" "[I" ∈ wsL_law := inR7 _ (List.mem_of_getElem? (i := 4) rfl)
theorem kw52 : Cond.fieldLink RX0 28 "SignedBridge$Asks" "asked" "[I" ∈ wsL_law := inR7 _ (List.mem_of_getElem? (i := 5) rfl)
theorem kw53 : Cond.methodLink RX0 31 yJ7_fill_53178 ∈ wsL_law := inR7 _ (List.mem_of_getElem? (i := 7) rfl)
theorem kw54 : Cond.fieldLink RX10 24 "SignedBridge$State" "owner" "[I" ∈ wsL_law := inR30 _ (List.mem_of_getElem? (i := 15) rfl)
theorem kw55 : Cond.fieldLink RX10 29 "SignedBridge$State" "earnest" "[I" ∈ wsL_law := inR30 _ (List.mem_of_getElem? (i := 16) rfl)
theorem kw56 : Cond.fieldLink RX10 32 "SignedBridge$State" "singed" "[I" ∈ wsL_law := inR30 _ (List.mem_of_getElem? (i := 17) rfl)
theorem kw57 : Cond.code yX6_areLovers cX6_areLovers 3 (some .boolean) ∈ wsL_law := inR19 _ (List.mem_of_getElem? (i := 5) rfl)
theorem kw58 : Cond.initialized RX6 ∈ wsL_law := inR1 _ (List.mem_of_getElem? (i := 23) rfl)
theorem kw59 : Cond.instanceMethod yX6_areLovers ∈ wsL_law := inR19 _ (List.mem_of_getElem? (i := 3) rfl)
theorem kw60 : Cond.selects RX6 yX6_areLovers yX6_areLovers ∈ wsL_law := inR19 _ (List.mem_of_getElem? (i := 4) rfl)
theorem kw61 : Cond.methodLink RX10 35 yX6_areLovers ∈ wsL_law := inR30 _ (List.mem_of_getElem? (i := 19) rfl)
theorem kw62 : Cond.methodLink RX10 41 Lib.Math.max.name ∈ wsL_law := inR30 _ (List.mem_of_getElem? (i := 18) rfl)
theorem kw63 : Cond.static Lib.Math.max.name ∈ wsL_law := inR30 _ (List.mem_of_getElem? (i := 0) rfl)
theorem kw64 : Cond.initialized "java/lang/Math" ∈ wsL_law := inR13 _ (List.mem_of_getElem? (i := 9) rfl)
theorem kw65 : Cond.code Lib.Math.max.name Lib.Math.max.code 2 (some .int) ∈ wsL_law := inR30 _ (List.mem_of_getElem? (i := 1) rfl)
theorem kw66 : Cond.fieldLink RX10 51 "SignedBridge$Plan" "rows" "I" ∈ wsL_law := inR33 _ (List.mem_of_getElem? (i := 21) rfl)
theorem kw67 : Cond.fieldLink RX10 9 "SignedBridge$Ways" "bear" "[I" ∈ wsL_law := inR6 _ (List.mem_of_getElem? (i := 16) rfl)
theorem kw68 : Cond.fieldLink RX10 55 "SignedBridge$Plan" "forgers" "I" ∈ wsL_law := inR34 _ (List.mem_of_getElem? (i := 2) rfl)
theorem kw69 : Cond.code yX10_bearing cX10_bearing 7 (some .int) ∈ wsL_law := inR30 _ (List.mem_of_getElem? (i := 14) rfl)
theorem kw70 : Cond.initialized RX10 ∈ wsL_law := inR2 _ (List.mem_of_getElem? (i := 16) rfl)
theorem kw71 : Cond.static yX10_bearing ∈ wsL_law := inR30 _ (List.mem_of_getElem? (i := 13) rfl)
theorem kw72 : Cond.methodLink RX10 47 yX10_bearing ∈ wsL_law := inR34 _ (List.mem_of_getElem? (i := 3) rfl)
theorem kw73 : Cond.code yX10_weigh cX10_weigh 4 none ∈ wsL_law := inR34 _ (List.mem_of_getElem? (i := 1) rfl)
theorem kw74 : Cond.instanceMethod yX10_weigh ∈ wsL_law := inR33 _ (List.mem_of_getElem? (i := 23) rfl)
theorem kw75 : Cond.selects RX10 yX10_weigh yX10_weigh ∈ wsL_law := inR34 _ (List.mem_of_getElem? (i := 0) rfl)
theorem kw76 : Cond.methodLink RX10 58 yX10_weigh ∈ wsL_law := inR33 _ (List.mem_of_getElem? (i := 22) rfl)
theorem kw77 : Cond.fieldLink RX10 82 "SignedBridge$Plan" "loads" "I" ∈ wsL_law := inR50 _ (List.mem_of_getElem? (i := 1) rfl)
theorem kw78 : Cond.fieldLink RX10 85 "SignedBridge$State" "fallen" "I" ∈ wsL_law := inR39 _ (List.mem_of_getElem? (i := 17) rfl)
theorem kw79 : Cond.code yX10_lostRow cX10_lostRow 6 (some .int) ∈ wsL_law := inR39 _ (List.mem_of_getElem? (i := 23) rfl)
theorem kw80 : Cond.instanceMethod yX10_lostRow ∈ wsL_law := inR39 _ (List.mem_of_getElem? (i := 21) rfl)
theorem kw81 : Cond.selects RX10 yX10_lostRow yX10_lostRow ∈ wsL_law := inR39 _ (List.mem_of_getElem? (i := 22) rfl)
theorem kw82 : Cond.methodLink RX10 78 yX10_lostRow ∈ wsL_law := inR39 _ (List.mem_of_getElem? (i := 20) rfl)
theorem kw83 : Cond.fieldLink RX10 18 "SignedBridge$Ways" "best" "[I" ∈ wsL_law := inR6 _ (List.mem_of_getElem? (i := 18) rfl)
theorem kw84 : Cond.fieldLink RX10 15 "SignedBridge$Ways" "spare" "[I" ∈ wsL_law := inR6 _ (List.mem_of_getElem? (i := 17) rfl)
theorem kw85 : Cond.code yX10_bestOpen cX10_bestOpen 5 (some .int) ∈ wsL_law := inR44 _ (List.mem_of_getElem? (i := 23) rfl)
theorem kw86 : Cond.instanceMethod yX10_bestOpen ∈ wsL_law := inR44 _ (List.mem_of_getElem? (i := 21) rfl)
theorem kw87 : Cond.selects RX10 yX10_bestOpen yX10_bestOpen ∈ wsL_law := inR44 _ (List.mem_of_getElem? (i := 22) rfl)
theorem kw88 : Cond.methodLink RX10 111 yX10_bestOpen ∈ wsL_law := inR44 _ (List.mem_of_getElem? (i := 20) rfl)
theorem kw89 : Cond.methodLink RX10 114 Lib.Math.min.name ∈ wsL_law := inR44 _ (List.mem_of_getElem? (i := 19) rfl)
theorem kw90 : Cond.static Lib.Math.min.name ∈ wsL_law := inR13 _ (List.mem_of_getElem? (i := 8) rfl)
theorem kw91 : Cond.code Lib.Math.min.name Lib.Math.min.code 2 (some .int) ∈ wsL_law := inR13 _ (List.mem_of_getElem? (i := 10) rfl)
theorem kw92 : Cond.methodLink RX10 3 objectInit ∈ wsL_law := inR6 _ (List.mem_of_getElem? (i := 15) rfl)
theorem kw93 : Cond.fieldLink RX10 21 "SignedBridge$Ways" "steps" "[I" ∈ wsL_law := inR6 _ (List.mem_of_getElem? (i := 19) rfl)
theorem kw94 : Cond.code yX10_bearTogether cX10_bearTogether 7 (some .int) ∈ wsL_law := inR40 _ (List.mem_of_getElem? (i := 8) rfl)
theorem kw95 : Cond.instanceMethod yX10_bearTogether ∈ wsL_law := inR40 _ (List.mem_of_getElem? (i := 6) rfl)
theorem kw96 : Cond.selects RX10 yX10_bearTogether yX10_bearTogether ∈ wsL_law := inR40 _ (List.mem_of_getElem? (i := 7) rfl)
theorem kw97 : Cond.methodLink RX10 62 yX10_bearTogether ∈ wsL_law := inR40 _ (List.mem_of_getElem? (i := 5) rfl)
theorem kw98 : Cond.code yX10_spareSteps cX10_spareSteps 8 none ∈ wsL_law := inR44 _ (List.mem_of_getElem? (i := 14) rfl)
theorem kw99 : Cond.instanceMethod yX10_spareSteps ∈ wsL_law := inR44 _ (List.mem_of_getElem? (i := 12) rfl)
theorem kw100 : Cond.selects RX10 yX10_spareSteps yX10_spareSteps ∈ wsL_law := inR44 _ (List.mem_of_getElem? (i := 13) rfl)
theorem kw101 : Cond.methodLink RX10 99 yX10_spareSteps ∈ wsL_law := inR44 _ (List.mem_of_getElem? (i := 11) rfl)
theorem kw102 : Cond.code yX10_greatestLeast cX10_greatestLeast 5 (some .int) ∈ wsL_law := inR44 _ (List.mem_of_getElem? (i := 18) rfl)
theorem kw103 : Cond.instanceMethod yX10_greatestLeast ∈ wsL_law := inR44 _ (List.mem_of_getElem? (i := 16) rfl)
theorem kw104 : Cond.selects RX10 yX10_greatestLeast yX10_greatestLeast ∈ wsL_law := inR44 _ (List.mem_of_getElem? (i := 17) rfl)
theorem kw105 : Cond.methodLink RX10 103 yX10_greatestLeast ∈ wsL_law := inR44 _ (List.mem_of_getElem? (i := 15) rfl)
theorem kw106 : Cond.fieldLink RX11 57 "SignedBridge" "ways" "LSignedBridge$Ways;" ∈ wsL_law := inR2 _ (List.mem_of_getElem? (i := 17) rfl)
theorem kw107 : Cond.fieldLink RX11 26 "SignedBridge" "plan" "LSignedBridge$Plan;" ∈ wsL_law := inR2 _ (List.mem_of_getElem? (i := 0) rfl)
theorem kw108 : Cond.fieldLink RX11 33 "SignedBridge" "state" "LSignedBridge$State;" ∈ wsL_law := inR2 _ (List.mem_of_getElem? (i := 4) rfl)
theorem kw109 : Cond.code yX10_ableLoads cX10_ableLoads 5 (some .int) ∈ wsL_law := inR50 _ (List.mem_of_getElem? (i := 0) rfl)
theorem kw110 : Cond.instanceMethod yX10_ableLoads ∈ wsL_law := inR49 _ (List.mem_of_getElem? (i := 22) rfl)
theorem kw111 : Cond.selects RX10 yX10_ableLoads yX10_ableLoads ∈ wsL_law := inR49 _ (List.mem_of_getElem? (i := 23) rfl)
theorem kw112 : Cond.methodLink RX11 298 yX10_ableLoads ∈ wsL_law := inR50 _ (List.mem_of_getElem? (i := 21) rfl)
theorem kw113 : Cond.code yJ6_bitCount_0f7a4 cJ6_bitCount_0f7a4 1 (some .int) ∈ wsL_law := inR50 _ (List.mem_of_getElem? (i := 5) rfl)
theorem kw114 : Cond.initialized RJ6 ∈ wsL_law := inR50 _ (List.mem_of_getElem? (i := 4) rfl)
theorem kw115 : Cond.static yJ6_bitCount_0f7a4 ∈ wsL_law := inR50 _ (List.mem_of_getElem? (i := 3) rfl)
theorem kw116 : Cond.methodLink RX11 301 yJ6_bitCount_0f7a4 ∈ wsL_law := inR50 _ (List.mem_of_getElem? (i := 22) rfl)
theorem kw117 : Cond.fieldLink RX11 398 "SignedBridge$Plan" "rows" "I" ∈ wsL_law := inR30 _ (List.mem_of_getElem? (i := 11) rfl)
theorem kw118 : Cond.code yX11_isRow cX11_isRow 2 (some .boolean) ∈ wsL_law := inR30 _ (List.mem_of_getElem? (i := 10) rfl)
theorem kw119 : Cond.initialized RX11 ∈ wsL_law := inR1 _ (List.mem_of_getElem? (i := 2) rfl)
theorem kw120 : Cond.instanceMethod yX11_isRow ∈ wsL_law := inR30 _ (List.mem_of_getElem? (i := 8) rfl)
theorem kw121 : Cond.selects RX11 yX11_isRow yX11_isRow ∈ wsL_law := inR30 _ (List.mem_of_getElem? (i := 9) rfl)
theorem kw122 : Cond.methodLink RX11 279 yX11_isRow ∈ wsL_law := inR30 _ (List.mem_of_getElem? (i := 7) rfl)
theorem kw123 : Cond.code yX11_isPlace cX11_isPlace 3 (some .boolean) ∈ wsL_law := inR30 _ (List.mem_of_getElem? (i := 6) rfl)
theorem kw124 : Cond.instanceMethod yX11_isPlace ∈ wsL_law := inR30 _ (List.mem_of_getElem? (i := 4) rfl)
theorem kw125 : Cond.selects RX11 yX11_isPlace yX11_isPlace ∈ wsL_law := inR30 _ (List.mem_of_getElem? (i := 5) rfl)
theorem kw126 : Cond.methodLink RX11 181 yX11_isPlace ∈ wsL_law := inR30 _ (List.mem_of_getElem? (i := 3) rfl)
theorem kw127 : Cond.fieldLink RX11 64 "SignedBridge" "asks" "LSignedBridge$Asks;" ∈ wsL_law := inR2 _ (List.mem_of_getElem? (i := 21) rfl)
theorem kw128 : Cond.fieldLink RX11 291 "SignedBridge$Asks" "asked" "[I" ∈ wsL_law := inR49 _ (List.mem_of_getElem? (i := 4) rfl)
theorem kw129 : Cond.fieldLink RX11 401 "SignedBridge$Plan" "loads" "I" ∈ wsL_law := inR32 _ (List.mem_of_getElem? (i := 12) rfl)
theorem kw130 : Cond.code yX11_isLoad cX11_isLoad 2 (some .boolean) ∈ wsL_law := inR32 _ (List.mem_of_getElem? (i := 11) rfl)
theorem kw131 : Cond.instanceMethod yX11_isLoad ∈ wsL_law := inR32 _ (List.mem_of_getElem? (i := 9) rfl)
theorem kw132 : Cond.selects RX11 yX11_isLoad yX11_isLoad ∈ wsL_law := inR32 _ (List.mem_of_getElem? (i := 10) rfl)
theorem kw133 : Cond.methodLink RX11 201 yX11_isLoad ∈ wsL_law := inR32 _ (List.mem_of_getElem? (i := 8) rfl)
theorem kw134 : Cond.code yX0_find cX0_find 6 (some .int) ∈ wsL_law := inR46 _ (List.mem_of_getElem? (i := 16) rfl)
theorem kw135 : Cond.initialized RX0 ∈ wsL_law := inR2 _ (List.mem_of_getElem? (i := 20) rfl)
theorem kw136 : Cond.instanceMethod yX0_find ∈ wsL_law := inR46 _ (List.mem_of_getElem? (i := 14) rfl)
theorem kw137 : Cond.selects RX0 yX0_find yX0_find ∈ wsL_law := inR46 _ (List.mem_of_getElem? (i := 15) rfl)
theorem kw138 : Cond.methodLink RX11 288 yX0_find ∈ wsL_law := inR46 _ (List.mem_of_getElem? (i := 13) rfl)
theorem kw139 : Cond.fieldLink RX11 270 "SignedBridge" "pastNext" "I" ∈ wsL_law := inR34 _ (List.mem_of_getElem? (i := 16) rfl)
theorem kw140 : Cond.fieldLink RX11 141 "SignedBridge" "pastCount" "I" ∈ wsL_law := inR12 _ (List.mem_of_getElem? (i := 8) rfl)
theorem kw141 : Cond.methodLink RX11 412 Lib.Math.min.name ∈ wsL_law := inR35 _ (List.mem_of_getElem? (i := 9) rfl)
theorem kw142 : Cond.fieldLink RX8 36 "SignedBridge$State" "day" "I" ∈ wsL_law := inR21 _ (List.mem_of_getElem? (i := 4) rfl)
theorem kw143 : Cond.fieldLink RX8 40 "SignedBridge$State" "burnt" "I" ∈ wsL_law := inR21 _ (List.mem_of_getElem? (i := 5) rfl)
theorem kw144 : Cond.fieldLink RX8 43 "SignedBridge$State" "fallen" "I" ∈ wsL_law := inR21 _ (List.mem_of_getElem? (i := 6) rfl)
theorem kw145 : Cond.methodLink RX8 49 arraycopyName ∈ wsL_law := inR21 _ (List.mem_of_getElem? (i := 8) rfl)
theorem kw146 : Cond.native arraycopyName ∈ wsL_law := inR20 _ (List.mem_of_getElem? (i := 21) rfl)
theorem kw147 : Cond.static arraycopyName ∈ wsL_law := inR20 _ (List.mem_of_getElem? (i := 22) rfl)
theorem kw148 : Cond.initialized "java/lang/System" ∈ wsL_law := inR20 _ (List.mem_of_getElem? (i := 23) rfl)
theorem kw149 : Cond.fieldLink RX11 96 "SignedBridge" "past" "[LSignedBridge$State;" ∈ wsL_law := inR3 _ (List.mem_of_getElem? (i := 14) rfl)
theorem kw150 : Cond.code yX8_copyOf cX8_copyOf 2 none ∈ wsL_law := inR34 _ (List.mem_of_getElem? (i := 20) rfl)
theorem kw151 : Cond.instanceMethod yX8_copyOf ∈ wsL_law := inR34 _ (List.mem_of_getElem? (i := 18) rfl)
theorem kw152 : Cond.selects RX8 yX8_copyOf yX8_copyOf ∈ wsL_law := inR34 _ (List.mem_of_getElem? (i := 19) rfl)
theorem kw153 : Cond.methodLink RX11 273 yX8_copyOf ∈ wsL_law := inR34 _ (List.mem_of_getElem? (i := 17) rfl)
theorem kw154 : Cond.fieldLink RX1 33 "SignedBridge$Book" "lines" "I" ∈ wsL_law := inR71 _ (List.mem_of_getElem? (i := 16) rfl)
theorem kw155 : Cond.code yX1_liveLine cX1_liveLine 7 (some .int) ∈ wsL_law := inR73 _ (List.mem_of_getElem? (i := 6) rfl)
theorem kw156 : Cond.initialized RX1 ∈ wsL_law := inR2 _ (List.mem_of_getElem? (i := 12) rfl)
theorem kw157 : Cond.instanceMethod yX1_liveLine ∈ wsL_law := inR73 _ (List.mem_of_getElem? (i := 4) rfl)
theorem kw158 : Cond.selects RX1 yX1_liveLine yX1_liveLine ∈ wsL_law := inR73 _ (List.mem_of_getElem? (i := 5) rfl)
theorem kw159 : Cond.methodLink RX1 94 yX1_liveLine ∈ wsL_law := inR73 _ (List.mem_of_getElem? (i := 3) rfl)
theorem kw160 : Cond.fieldLink RX1 24 "SignedBridge$Book" "verdict" "[I" ∈ wsL_law := inR6 _ (List.mem_of_getElem? (i := 12) rfl)
theorem kw161 : Cond.fieldLink RX1 98 "SignedBridge$State" "day" "I" ∈ wsL_law := inR73 _ (List.mem_of_getElem? (i := 1) rfl)
theorem kw162 : Cond.fieldLink RX1 103 "SignedBridge$State" "fallen" "I" ∈ wsL_law := inR73 _ (List.mem_of_getElem? (i := 2) rfl)
theorem kw163 : Cond.fieldLink RX9 15 "SignedBridge$Tokens" "length" "I" ∈ wsL_law := inR11 _ (List.mem_of_getElem? (i := 7) rfl)
theorem kw164 : Cond.fieldLink RX9 19 "SignedBridge$Tokens" "most" "I" ∈ wsL_law := inR13 _ (List.mem_of_getElem? (i := 0) rfl)
theorem kw165 : Cond.methodLink RX9 31 Lib.Math.min.name ∈ wsL_law := inR13 _ (List.mem_of_getElem? (i := 7) rfl)
theorem kw166 : Cond.fieldLink RX9 22 "SignedBridge$Tokens" "next" "I" ∈ wsL_law := inR13 _ (List.mem_of_getElem? (i := 1) rfl)
theorem kw167 : Cond.fieldLink RX9 9 "SignedBridge$Tokens" "bytes" "[I" ∈ wsL_law := inR4 _ (List.mem_of_getElem? (i := 0) rfl)
theorem kw168 : Cond.fieldLink RX9 37 "SignedBridge$Tokens" "at" "I" ∈ wsL_law := inR13 _ (List.mem_of_getElem? (i := 11) rfl)
theorem kw169 : Cond.fieldLink RX9 40 "SignedBridge$Tokens" "kind" "I" ∈ wsL_law := inR13 _ (List.mem_of_getElem? (i := 12) rfl)
theorem kw170 : Cond.fieldLink RX9 43 "SignedBridge$Tokens" "value" "I" ∈ wsL_law := inR13 _ (List.mem_of_getElem? (i := 13) rfl)
theorem kw171 : Cond.code yX9_isLetter cX9_isLetter 1 (some .boolean) ∈ wsL_law := inR13 _ (List.mem_of_getElem? (i := 16) rfl)
theorem kw172 : Cond.initialized RX9 ∈ wsL_law := inR1 _ (List.mem_of_getElem? (i := 15) rfl)
theorem kw173 : Cond.static yX9_isLetter ∈ wsL_law := inR13 _ (List.mem_of_getElem? (i := 15) rfl)
theorem kw174 : Cond.methodLink RX9 46 yX9_isLetter ∈ wsL_law := inR13 _ (List.mem_of_getElem? (i := 14) rfl)
theorem kw175 : Cond.code yX9_isDigit cX9_isDigit 1 (some .boolean) ∈ wsL_law := inR13 _ (List.mem_of_getElem? (i := 19) rfl)
theorem kw176 : Cond.static yX9_isDigit ∈ wsL_law := inR13 _ (List.mem_of_getElem? (i := 18) rfl)
theorem kw177 : Cond.methodLink RX9 50 yX9_isDigit ∈ wsL_law := inR13 _ (List.mem_of_getElem? (i := 17) rfl)
theorem kw178 : Cond.code yX9_isSign cX9_isSign 1 (some .boolean) ∈ wsL_law := inR13 _ (List.mem_of_getElem? (i := 22) rfl)
theorem kw179 : Cond.static yX9_isSign ∈ wsL_law := inR13 _ (List.mem_of_getElem? (i := 21) rfl)
theorem kw180 : Cond.methodLink RX9 53 yX9_isSign ∈ wsL_law := inR13 _ (List.mem_of_getElem? (i := 20) rfl)
theorem kw181 : Cond.code yX9_readWord cX9_readWord 4 none ∈ wsL_law := inR14 _ (List.mem_of_getElem? (i := 2) rfl)
theorem kw182 : Cond.instanceMethod yX9_readWord ∈ wsL_law := inR14 _ (List.mem_of_getElem? (i := 0) rfl)
theorem kw183 : Cond.selects RX9 yX9_readWord yX9_readWord ∈ wsL_law := inR14 _ (List.mem_of_getElem? (i := 1) rfl)
theorem kw184 : Cond.methodLink RX9 56 yX9_readWord ∈ wsL_law := inR13 _ (List.mem_of_getElem? (i := 23) rfl)
theorem kw185 : Cond.code yX9_readNumber cX9_readNumber 2 none ∈ wsL_law := inR16 _ (List.mem_of_getElem? (i := 1) rfl)
theorem kw186 : Cond.instanceMethod yX9_readNumber ∈ wsL_law := inR15 _ (List.mem_of_getElem? (i := 23) rfl)
theorem kw187 : Cond.selects RX9 yX9_readNumber yX9_readNumber ∈ wsL_law := inR16 _ (List.mem_of_getElem? (i := 0) rfl)
theorem kw188 : Cond.methodLink RX9 59 yX9_readNumber ∈ wsL_law := inR15 _ (List.mem_of_getElem? (i := 22) rfl)
theorem kw189 : Cond.fieldLink RX9 25 "SignedBridge$Tokens" "faultKind" "I" ∈ wsL_law := inR13 _ (List.mem_of_getElem? (i := 2) rfl)
theorem kw190 : Cond.code yX9_advance cX9_advance 4 none ∈ wsL_law := inR13 _ (List.mem_of_getElem? (i := 6) rfl)
theorem kw191 : Cond.instanceMethod yX9_advance ∈ wsL_law := inR13 _ (List.mem_of_getElem? (i := 4) rfl)
theorem kw192 : Cond.selects RX9 yX9_advance yX9_advance ∈ wsL_law := inR13 _ (List.mem_of_getElem? (i := 5) rfl)
theorem kw193 : Cond.methodLink RX9 28 yX9_advance ∈ wsL_law := inR13 _ (List.mem_of_getElem? (i := 3) rfl)
theorem kw194 : Cond.fieldLink RX9 82 "SignedBridge$Tokens" "faultAt" "I" ∈ wsL_law := inR16 _ (List.mem_of_getElem? (i := 15) rfl)
theorem kw195 : Cond.code yX9_refuseAt cX9_refuseAt 3 (some .boolean) ∈ wsL_law := inR16 _ (List.mem_of_getElem? (i := 14) rfl)
theorem kw196 : Cond.instanceMethod yX9_refuseAt ∈ wsL_law := inR16 _ (List.mem_of_getElem? (i := 12) rfl)
theorem kw197 : Cond.selects RX9 yX9_refuseAt yX9_refuseAt ∈ wsL_law := inR16 _ (List.mem_of_getElem? (i := 13) rfl)
theorem kw198 : Cond.methodLink RX9 78 yX9_refuseAt ∈ wsL_law := inR16 _ (List.mem_of_getElem? (i := 11) rfl)
theorem kw199 : Cond.code yX9_refuse cX9_refuse 2 (some .boolean) ∈ wsL_law := inR16 _ (List.mem_of_getElem? (i := 10) rfl)
theorem kw200 : Cond.instanceMethod yX9_refuse ∈ wsL_law := inR16 _ (List.mem_of_getElem? (i := 8) rfl)
theorem kw201 : Cond.selects RX9 yX9_refuse yX9_refuse ∈ wsL_law := inR16 _ (List.mem_of_getElem? (i := 9) rfl)
theorem kw202 : Cond.methodLink RX9 85 yX9_refuse ∈ wsL_law := inR17 _ (List.mem_of_getElem? (i := 5) rfl)
theorem kw203 : Cond.code yX9_begin cX9_begin 2 none ∈ wsL_law := inR12 _ (List.mem_of_getElem? (i := 23) rfl)
theorem kw204 : Cond.instanceMethod yX9_begin ∈ wsL_law := inR12 _ (List.mem_of_getElem? (i := 21) rfl)
theorem kw205 : Cond.selects RX9 yX9_begin yX9_begin ∈ wsL_law := inR12 _ (List.mem_of_getElem? (i := 22) rfl)
theorem kw206 : Cond.methodLink RX1 27 yX9_begin ∈ wsL_law := inR71 _ (List.mem_of_getElem? (i := 18) rfl)
theorem kw207 : Cond.fieldLink RX1 37 "SignedBridge$Tokens" "kind" "I" ∈ wsL_law := inR71 _ (List.mem_of_getElem? (i := 17) rfl)
theorem kw208 : Cond.code yX1_readLine cX1_readLine 6 (some .boolean) ∈ wsL_law := inR71 _ (List.mem_of_getElem? (i := 22) rfl)
theorem kw209 : Cond.instanceMethod yX1_readLine ∈ wsL_law := inR71 _ (List.mem_of_getElem? (i := 20) rfl)
theorem kw210 : Cond.selects RX1 yX1_readLine yX1_readLine ∈ wsL_law := inR71 _ (List.mem_of_getElem? (i := 21) rfl)
theorem kw211 : Cond.methodLink RX1 40 yX1_readLine ∈ wsL_law := inR71 _ (List.mem_of_getElem? (i := 19) rfl)
theorem kw212 : Cond.code yX9_takeSign cX9_takeSign 2 (some .boolean) ∈ wsL_law := inR20 _ (List.mem_of_getElem? (i := 7) rfl)
theorem kw213 : Cond.instanceMethod yX9_takeSign ∈ wsL_law := inR20 _ (List.mem_of_getElem? (i := 5) rfl)
theorem kw214 : Cond.selects RX9 yX9_takeSign yX9_takeSign ∈ wsL_law := inR20 _ (List.mem_of_getElem? (i := 6) rfl)
theorem kw215 : Cond.methodLink RX1 44 yX9_takeSign ∈ wsL_law := inR72 _ (List.mem_of_getElem? (i := 19) rfl)
theorem kw216 : Cond.code yX9_takeEnd cX9_takeEnd 1 (some .boolean) ∈ wsL_law := inR20 _ (List.mem_of_getElem? (i := 15) rfl)
theorem kw217 : Cond.instanceMethod yX9_takeEnd ∈ wsL_law := inR20 _ (List.mem_of_getElem? (i := 13) rfl)
theorem kw218 : Cond.selects RX9 yX9_takeEnd yX9_takeEnd ∈ wsL_law := inR20 _ (List.mem_of_getElem? (i := 14) rfl)
theorem kw219 : Cond.methodLink RX1 48 yX9_takeEnd ∈ wsL_law := inR72 _ (List.mem_of_getElem? (i := 20) rfl)
theorem kw220 : Cond.fieldLink RX11 50 "SignedBridge" "book" "LSignedBridge$Book;" ∈ wsL_law := inR2 _ (List.mem_of_getElem? (i := 13) rfl)
theorem kw221 : Cond.fieldLink RX11 10 "SignedBridge" "tokens" "LSignedBridge$Tokens;" ∈ wsL_law := inR1 _ (List.mem_of_getElem? (i := 16) rfl)
theorem kw222 : Cond.code yX1_read cX1_read 3 (some .boolean) ∈ wsL_law := inR71 _ (List.mem_of_getElem? (i := 15) rfl)
theorem kw223 : Cond.instanceMethod yX1_read ∈ wsL_law := inR71 _ (List.mem_of_getElem? (i := 13) rfl)
theorem kw224 : Cond.selects RX1 yX1_read yX1_read ∈ wsL_law := inR71 _ (List.mem_of_getElem? (i := 14) rfl)
theorem kw225 : Cond.methodLink RX11 379 yX1_read ∈ wsL_law := inR71 _ (List.mem_of_getElem? (i := 12) rfl)
theorem kw226 : Cond.fieldLink RX11 115 "SignedBridge$Tokens" "length" "I" ∈ wsL_law := inR11 _ (List.mem_of_getElem? (i := 2) rfl)
theorem kw227 : Cond.fieldLink RX11 127 "SignedBridge$Tokens" "faultAt" "I" ∈ wsL_law := inR12 _ (List.mem_of_getElem? (i := 6) rfl)
theorem kw228 : Cond.code yX11_rememberState cX11_rememberState 1 none ∈ wsL_law := inR34 _ (List.mem_of_getElem? (i := 15) rfl)
theorem kw229 : Cond.instanceMethod yX11_rememberState ∈ wsL_law := inR34 _ (List.mem_of_getElem? (i := 13) rfl)
theorem kw230 : Cond.selects RX11 yX11_rememberState yX11_rememberState ∈ wsL_law := inR34 _ (List.mem_of_getElem? (i := 14) rfl)
theorem kw231 : Cond.methodLink RX11 237 yX11_rememberState ∈ wsL_law := inR34 _ (List.mem_of_getElem? (i := 12) rfl)
theorem kw232 : Cond.code yX1_live cX1_live 6 (some .int) ∈ wsL_law := inR73 _ (List.mem_of_getElem? (i := 0) rfl)
theorem kw233 : Cond.instanceMethod yX1_live ∈ wsL_law := inR72 _ (List.mem_of_getElem? (i := 22) rfl)
theorem kw234 : Cond.selects RX1 yX1_live yX1_live ∈ wsL_law := inR72 _ (List.mem_of_getElem? (i := 23) rfl)
theorem kw235 : Cond.methodLink RX11 382 yX1_live ∈ wsL_law := inR72 _ (List.mem_of_getElem? (i := 21) rfl)
theorem kw236 : Cond.code yX11_keepRemembered cX11_keepRemembered 1 none ∈ wsL_law := inR35 _ (List.mem_of_getElem? (i := 8) rfl)
theorem kw237 : Cond.instanceMethod yX11_keepRemembered ∈ wsL_law := inR35 _ (List.mem_of_getElem? (i := 6) rfl)
theorem kw238 : Cond.selects RX11 yX11_keepRemembered yX11_keepRemembered ∈ wsL_law := inR35 _ (List.mem_of_getElem? (i := 7) rfl)
theorem kw239 : Cond.methodLink RX11 263 yX11_keepRemembered ∈ wsL_law := inR35 _ (List.mem_of_getElem? (i := 5) rfl)
theorem kw240 : Cond.fieldLink RX11 369 "SignedBridge$Plan" "signers" "I" ∈ wsL_law := inR28 _ (List.mem_of_getElem? (i := 6) rfl)
theorem kw241 : Cond.code yX11_isSigner cX11_isSigner 2 (some .boolean) ∈ wsL_law := inR28 _ (List.mem_of_getElem? (i := 5) rfl)
theorem kw242 : Cond.instanceMethod yX11_isSigner ∈ wsL_law := inR28 _ (List.mem_of_getElem? (i := 3) rfl)
theorem kw243 : Cond.selects RX11 yX11_isSigner yX11_isSigner ∈ wsL_law := inR28 _ (List.mem_of_getElem? (i := 4) rfl)
theorem kw244 : Cond.methodLink RX11 150 yX11_isSigner ∈ wsL_law := inR28 _ (List.mem_of_getElem? (i := 2) rfl)
theorem kw245 : Cond.code yX8_breakWord cX8_breakWord 2 (some .int) ∈ wsL_law := inR37 _ (List.mem_of_getElem? (i := 20) rfl)
theorem kw246 : Cond.instanceMethod yX8_breakWord ∈ wsL_law := inR37 _ (List.mem_of_getElem? (i := 18) rfl)
theorem kw247 : Cond.selects RX8 yX8_breakWord yX8_breakWord ∈ wsL_law := inR37 _ (List.mem_of_getElem? (i := 19) rfl)
theorem kw248 : Cond.methodLink RX11 250 yX8_breakWord ∈ wsL_law := inR37 _ (List.mem_of_getElem? (i := 17) rfl)
theorem kw249 : Cond.code yX11_keepIfDone cX11_keepIfDone 2 (some .int) ∈ wsL_law := inR35 _ (List.mem_of_getElem? (i := 4) rfl)
theorem kw250 : Cond.instanceMethod yX11_keepIfDone ∈ wsL_law := inR35 _ (List.mem_of_getElem? (i := 2) rfl)
theorem kw251 : Cond.selects RX11 yX11_keepIfDone yX11_keepIfDone ∈ wsL_law := inR35 _ (List.mem_of_getElem? (i := 3) rfl)
theorem kw252 : Cond.methodLink RX11 243 yX11_keepIfDone ∈ wsL_law := inR35 _ (List.mem_of_getElem? (i := 1) rfl)
theorem kw253 : Cond.fieldLink RX6 43 "SignedBridge$Plan" "rows" "I" ∈ wsL_law := inR4 _ (List.mem_of_getElem? (i := 23) rfl)
theorem kw254 : Cond.fieldLink RX6 47 "SignedBridge$Plan" "keeps" "I" ∈ wsL_law := inR5 _ (List.mem_of_getElem? (i := 0) rfl)
theorem kw255 : Cond.fieldLink RX6 50 "SignedBridge$Plan" "signers" "I" ∈ wsL_law := inR5 _ (List.mem_of_getElem? (i := 1) rfl)
theorem kw256 : Cond.fieldLink RX6 53 "SignedBridge$Plan" "loads" "I" ∈ wsL_law := inR5 _ (List.mem_of_getElem? (i := 2) rfl)
theorem kw257 : Cond.fieldLink RX6 56 "SignedBridge$Plan" "lovers" "I" ∈ wsL_law := inR5 _ (List.mem_of_getElem? (i := 3) rfl)
theorem kw258 : Cond.fieldLink RX6 59 "SignedBridge$Plan" "forgers" "I" ∈ wsL_law := inR5 _ (List.mem_of_getElem? (i := 4) rfl)
theorem kw259 : Cond.fieldLink RX6 22 "SignedBridge$Plan" "heir" "[I" ∈ wsL_law := inR4 _ (List.mem_of_getElem? (i := 13) rfl)
theorem kw260 : Cond.methodLink RX6 62 yJ7_fill_53178 ∈ wsL_law := inR5 _ (List.mem_of_getElem? (i := 5) rfl)
theorem kw261 : Cond.fieldLink RX6 25 "SignedBridge$Plan" "loves" "[I" ∈ wsL_law := inR4 _ (List.mem_of_getElem? (i := 14) rfl)
theorem kw262 : Cond.fieldLink RX6 28 "SignedBridge$Plan" "owner" "[I" ∈ wsL_law := inR4 _ (List.mem_of_getElem? (i := 15) rfl)
theorem kw263 : Cond.fieldLink RX2 12 "SignedBridge$BridgeText" "plan" "LSignedBridge$Plan;" ∈ wsL_law := inR4 _ (List.mem_of_getElem? (i := 5) rfl)
theorem kw264 : Cond.code yX6_clear cX6_clear 1 none ∈ wsL_law := inR4 _ (List.mem_of_getElem? (i := 22) rfl)
theorem kw265 : Cond.instanceMethod yX6_clear ∈ wsL_law := inR4 _ (List.mem_of_getElem? (i := 20) rfl)
theorem kw266 : Cond.selects RX6 yX6_clear yX6_clear ∈ wsL_law := inR4 _ (List.mem_of_getElem? (i := 21) rfl)
theorem kw267 : Cond.methodLink RX2 18 yX6_clear ∈ wsL_law := inR12 _ (List.mem_of_getElem? (i := 19) rfl)
theorem kw268 : Cond.fieldLink RX2 21 "SignedBridge$BridgeText" "rowsTold" "Z" ∈ wsL_law := inR12 _ (List.mem_of_getElem? (i := 14) rfl)
theorem kw269 : Cond.fieldLink RX2 25 "SignedBridge$BridgeText" "keepsTold" "Z" ∈ wsL_law := inR12 _ (List.mem_of_getElem? (i := 15) rfl)
theorem kw270 : Cond.fieldLink RX2 28 "SignedBridge$BridgeText" "plankTold" "Z" ∈ wsL_law := inR12 _ (List.mem_of_getElem? (i := 16) rfl)
theorem kw271 : Cond.methodLink RX2 31 yX9_begin ∈ wsL_law := inR12 _ (List.mem_of_getElem? (i := 20) rfl)
theorem kw272 : Cond.fieldLink RX2 37 "SignedBridge$BridgeText" "lines" "I" ∈ wsL_law := inR12 _ (List.mem_of_getElem? (i := 17) rfl)
theorem kw273 : Cond.fieldLink RX2 41 "SignedBridge$Tokens" "kind" "I" ∈ wsL_law := inR12 _ (List.mem_of_getElem? (i := 18) rfl)
theorem kw274 : Cond.code yX2_readLine cX2_readLine 2 (some .boolean) ∈ wsL_law := inR16 _ (List.mem_of_getElem? (i := 5) rfl)
theorem kw275 : Cond.initialized RX2 ∈ wsL_law := inR1 _ (List.mem_of_getElem? (i := 19) rfl)
theorem kw276 : Cond.instanceMethod yX2_readLine ∈ wsL_law := inR16 _ (List.mem_of_getElem? (i := 3) rfl)
theorem kw277 : Cond.selects RX2 yX2_readLine yX2_readLine ∈ wsL_law := inR16 _ (List.mem_of_getElem? (i := 4) rfl)
theorem kw278 : Cond.methodLink RX2 44 yX2_readLine ∈ wsL_law := inR16 _ (List.mem_of_getElem? (i := 2) rfl)
theorem kw279 : Cond.methodLink RX2 48 yX9_takeSign ∈ wsL_law := inR20 _ (List.mem_of_getElem? (i := 4) rfl)
theorem kw280 : Cond.methodLink RX2 52 yX9_takeEnd ∈ wsL_law := inR20 _ (List.mem_of_getElem? (i := 12) rfl)
theorem kw281 : Cond.fieldLink RX6 9 "SignedBridge$Plan" "signerNames" "[J" ∈ wsL_law := inR4 _ (List.mem_of_getElem? (i := 10) rfl)
theorem kw282 : Cond.methodLink RX6 68 arraycopyName ∈ wsL_law := inR20 _ (List.mem_of_getElem? (i := 20) rfl)
theorem kw283 : Cond.fieldLink RX6 15 "SignedBridge$Plan" "earnest" "[I" ∈ wsL_law := inR4 _ (List.mem_of_getElem? (i := 11) rfl)
theorem kw284 : Cond.fieldLink RX6 19 "SignedBridge$Plan" "miles" "[I" ∈ wsL_law := inR4 _ (List.mem_of_getElem? (i := 12) rfl)
theorem kw285 : Cond.fieldLink RX6 31 "SignedBridge$Plan" "loadNames" "[J" ∈ wsL_law := inR4 _ (List.mem_of_getElem? (i := 16) rfl)
theorem kw286 : Cond.fieldLink RX6 34 "SignedBridge$Plan" "weight" "[I" ∈ wsL_law := inR4 _ (List.mem_of_getElem? (i := 17) rfl)
theorem kw287 : Cond.fieldLink RX6 37 "SignedBridge$Plan" "wide" "[I" ∈ wsL_law := inR4 _ (List.mem_of_getElem? (i := 18) rfl)
theorem kw288 : Cond.fieldLink RX7 27 "SignedBridge$Sentence" "ones" "I" ∈ wsL_law := inR21 _ (List.mem_of_getElem? (i := 15) rfl)
theorem kw289 : Cond.fieldLink RX7 31 "SignedBridge$Sentence" "size" "I" ∈ wsL_law := inR21 _ (List.mem_of_getElem? (i := 16) rfl)
theorem kw290 : Cond.fieldLink RX8 46 "SignedBridge$Plan" "earnest" "[I" ∈ wsL_law := inR21 _ (List.mem_of_getElem? (i := 7) rfl)
theorem kw291 : Cond.fieldLink RX8 55 "SignedBridge$Plan" "owner" "[I" ∈ wsL_law := inR21 _ (List.mem_of_getElem? (i := 9) rfl)
theorem kw292 : Cond.code yX6_countPlanksOf cX6_countPlanksOf 4 (some .int) ∈ wsL_law := inR19 _ (List.mem_of_getElem? (i := 14) rfl)
theorem kw293 : Cond.instanceMethod yX6_countPlanksOf ∈ wsL_law := inR19 _ (List.mem_of_getElem? (i := 12) rfl)
theorem kw294 : Cond.selects RX6 yX6_countPlanksOf yX6_countPlanksOf ∈ wsL_law := inR19 _ (List.mem_of_getElem? (i := 13) rfl)
theorem kw295 : Cond.methodLink RX8 56 yX6_countPlanksOf ∈ wsL_law := inR21 _ (List.mem_of_getElem? (i := 10) rfl)
theorem kw296 : Cond.fieldLink RX11 19 "SignedBridge" "bridgeText" "LSignedBridge$BridgeText;" ∈ wsL_law := inR1 _ (List.mem_of_getElem? (i := 20) rfl)
theorem kw297 : Cond.code yX2_read cX2_read 2 (some .boolean) ∈ wsL_law := inR12 _ (List.mem_of_getElem? (i := 13) rfl)
theorem kw298 : Cond.instanceMethod yX2_read ∈ wsL_law := inR12 _ (List.mem_of_getElem? (i := 11) rfl)
theorem kw299 : Cond.selects RX2 yX2_read yX2_read ∈ wsL_law := inR12 _ (List.mem_of_getElem? (i := 12) rfl)
theorem kw300 : Cond.methodLink RX11 123 yX2_read ∈ wsL_law := inR12 _ (List.mem_of_getElem? (i := 10) rfl)
theorem kw301 : Cond.fieldLink RX11 130 "SignedBridge$BridgeText" "plan" "LSignedBridge$Plan;" ∈ wsL_law := inR12 _ (List.mem_of_getElem? (i := 7) rfl)
theorem kw302 : Cond.code yX6_copyOf cX6_copyOf 2 none ∈ wsL_law := inR20 _ (List.mem_of_getElem? (i := 19) rfl)
theorem kw303 : Cond.instanceMethod yX6_copyOf ∈ wsL_law := inR20 _ (List.mem_of_getElem? (i := 17) rfl)
theorem kw304 : Cond.selects RX6 yX6_copyOf yX6_copyOf ∈ wsL_law := inR20 _ (List.mem_of_getElem? (i := 18) rfl)
theorem kw305 : Cond.methodLink RX11 131 yX6_copyOf ∈ wsL_law := inR20 _ (List.mem_of_getElem? (i := 16) rfl)
theorem kw306 : Cond.code yX8_begin cX8_begin 3 none ∈ wsL_law := inR21 _ (List.mem_of_getElem? (i := 3) rfl)
theorem kw307 : Cond.instanceMethod yX8_begin ∈ wsL_law := inR21 _ (List.mem_of_getElem? (i := 1) rfl)
theorem kw308 : Cond.selects RX8 yX8_begin yX8_begin ∈ wsL_law := inR21 _ (List.mem_of_getElem? (i := 2) rfl)
theorem kw309 : Cond.methodLink RX11 135 yX8_begin ∈ wsL_law := inR21 _ (List.mem_of_getElem? (i := 0) rfl)
theorem kw310 : Cond.fieldLink RX11 40 "SignedBridge" "sentence" "LSignedBridge$Sentence;" ∈ wsL_law := inR2 _ (List.mem_of_getElem? (i := 8) rfl)
theorem kw311 : Cond.code yX7_forget cX7_forget 1 none ∈ wsL_law := inR21 _ (List.mem_of_getElem? (i := 14) rfl)
theorem kw312 : Cond.initialized RX7 ∈ wsL_law := inR2 _ (List.mem_of_getElem? (i := 7) rfl)
theorem kw313 : Cond.instanceMethod yX7_forget ∈ wsL_law := inR21 _ (List.mem_of_getElem? (i := 12) rfl)
theorem kw314 : Cond.selects RX7 yX7_forget yX7_forget ∈ wsL_law := inR21 _ (List.mem_of_getElem? (i := 13) rfl)
theorem kw315 : Cond.methodLink RX11 138 yX7_forget ∈ wsL_law := inR21 _ (List.mem_of_getElem? (i := 11) rfl)
theorem kw316 : Cond.fieldLink RX11 144 "SignedBridge$BridgeText" "lines" "I" ∈ wsL_law := inR12 _ (List.mem_of_getElem? (i := 9) rfl)
theorem kw317 : Cond.code yX8_makeGap cX8_makeGap 2 none ∈ wsL_law := inR36 _ (List.mem_of_getElem? (i := 13) rfl)
theorem kw318 : Cond.instanceMethod yX8_makeGap ∈ wsL_law := inR36 _ (List.mem_of_getElem? (i := 11) rfl)
theorem kw319 : Cond.selects RX8 yX8_makeGap yX8_makeGap ∈ wsL_law := inR36 _ (List.mem_of_getElem? (i := 12) rfl)
theorem kw320 : Cond.methodLink RX8 67 yX8_makeGap ∈ wsL_law := inR36 _ (List.mem_of_getElem? (i := 10) rfl)
theorem kw321 : Cond.code yX8_singe cX8_singe 2 none ∈ wsL_law := inR36 _ (List.mem_of_getElem? (i := 17) rfl)
theorem kw322 : Cond.instanceMethod yX8_singe ∈ wsL_law := inR36 _ (List.mem_of_getElem? (i := 15) rfl)
theorem kw323 : Cond.selects RX8 yX8_singe yX8_singe ∈ wsL_law := inR36 _ (List.mem_of_getElem? (i := 16) rfl)
theorem kw324 : Cond.methodLink RX8 71 yX8_singe ∈ wsL_law := inR36 _ (List.mem_of_getElem? (i := 14) rfl)
theorem kw325 : Cond.code yX8_burnPlank cX8_burnPlank 3 (some .int) ∈ wsL_law := inR36 _ (List.mem_of_getElem? (i := 9) rfl)
theorem kw326 : Cond.instanceMethod yX8_burnPlank ∈ wsL_law := inR36 _ (List.mem_of_getElem? (i := 7) rfl)
theorem kw327 : Cond.selects RX8 yX8_burnPlank yX8_burnPlank ∈ wsL_law := inR36 _ (List.mem_of_getElem? (i := 8) rfl)
theorem kw328 : Cond.methodLink RX11 247 yX8_burnPlank ∈ wsL_law := inR36 _ (List.mem_of_getElem? (i := 6) rfl)
theorem kw329 : Cond.fieldLink RX11 92 "SignedBridge" "plate" "Ljava/lang/StringBuilder;" ∈ wsL_law := inR3 _ (List.mem_of_getElem? (i := 13) rfl)
theorem kw330 : Cond.code yJ4_length_8abf5 cJ4_length_8abf5 1 (some .int) ∈ wsL_law := inR67 _ (List.mem_of_getElem? (i := 13) rfl)
theorem kw331 : Cond.initialized RJ4 ∈ wsL_law := inR3 _ (List.mem_of_getElem? (i := 12) rfl)
theorem kw332 : Cond.instanceMethod yJ4_length_8abf5 ∈ wsL_law := inR67 _ (List.mem_of_getElem? (i := 11) rfl)
theorem kw333 : Cond.selects RJ4 yJ4_length_8abf5 yJ4_length_8abf5 ∈ wsL_law := inR67 _ (List.mem_of_getElem? (i := 12) rfl)
theorem kw334 : Cond.methodLink RX11 363 yJ4_length_8abf5 ∈ wsL_law := inR67 _ (List.mem_of_getElem? (i := 10) rfl)
theorem kw335 : Cond.code yJ4_charAt_5068e cJ4_charAt_5068e 2 (some .char) ∈ wsL_law := inR68 _ (List.mem_of_getElem? (i := 14) rfl)
theorem kw336 : Cond.instanceMethod yJ4_charAt_5068e ∈ wsL_law := inR68 _ (List.mem_of_getElem? (i := 12) rfl)
theorem kw337 : Cond.selects RJ4 yJ4_charAt_5068e yJ4_charAt_5068e ∈ wsL_law := inR68 _ (List.mem_of_getElem? (i := 13) rfl)
theorem kw338 : Cond.methodLink RX11 365 yJ4_charAt_5068e ∈ wsL_law := inR68 _ (List.mem_of_getElem? (i := 11) rfl)
theorem kw339 : Cond.fieldLink RX11 404 "SignedBridge$Plan" "lovers" "I" ∈ wsL_law := inR82 _ (List.mem_of_getElem? (i := 23) rfl)
theorem kw340 : Cond.fieldLink RX11 407 "SignedBridge$Plan" "keeps" "I" ∈ wsL_law := inR83 _ (List.mem_of_getElem? (i := 0) rfl)
theorem kw341 : Cond.code yX10_tryCrossing cX10_tryCrossing 5 (some .int) ∈ wsL_law := inR39 _ (List.mem_of_getElem? (i := 16) rfl)
theorem kw342 : Cond.instanceMethod yX10_tryCrossing ∈ wsL_law := inR39 _ (List.mem_of_getElem? (i := 14) rfl)
theorem kw343 : Cond.selects RX10 yX10_tryCrossing yX10_tryCrossing ∈ wsL_law := inR39 _ (List.mem_of_getElem? (i := 15) rfl)
theorem kw344 : Cond.methodLink RX11 259 yX10_tryCrossing ∈ wsL_law := inR39 _ (List.mem_of_getElem? (i := 13) rfl)
theorem kw345 : Cond.fieldLink RX11 71 "SignedBridge" "cut" "LSignedBridge$Cut;" ∈ wsL_law := inR3 _ (List.mem_of_getElem? (i := 1) rfl)
theorem kw346 : Cond.code yX3_find cX3_find 7 (some .int) ∈ wsL_law := inR51 _ (List.mem_of_getElem? (i := 10) rfl)
theorem kw347 : Cond.initialized RX3 ∈ wsL_law := inR3 _ (List.mem_of_getElem? (i := 0) rfl)
theorem kw348 : Cond.instanceMethod yX3_find ∈ wsL_law := inR51 _ (List.mem_of_getElem? (i := 8) rfl)
theorem kw349 : Cond.selects RX3 yX3_find yX3_find ∈ wsL_law := inR51 _ (List.mem_of_getElem? (i := 9) rfl)
theorem kw350 : Cond.methodLink RX11 306 yX3_find ∈ wsL_law := inR51 _ (List.mem_of_getElem? (i := 7) rfl)
theorem kw351 : Cond.fieldLink RX11 309 "SignedBridge$Cut" "size" "I" ∈ wsL_law := inR53 _ (List.mem_of_getElem? (i := 12) rfl)
theorem kw352 : Cond.fieldLink RX11 312 "SignedBridge$Cut" "places" "[I" ∈ wsL_law := inR53 _ (List.mem_of_getElem? (i := 13) rfl)
theorem kw353 : Cond.fieldLink RX8 60 "SignedBridge$Plan" "signers" "I" ∈ wsL_law := inR33 _ (List.mem_of_getElem? (i := 7) rfl)
theorem kw354 : Cond.code yX8_lives cX8_lives 2 (some .boolean) ∈ wsL_law := inR28 _ (List.mem_of_getElem? (i := 10) rfl)
theorem kw355 : Cond.instanceMethod yX8_lives ∈ wsL_law := inR28 _ (List.mem_of_getElem? (i := 8) rfl)
theorem kw356 : Cond.selects RX8 yX8_lives yX8_lives ∈ wsL_law := inR28 _ (List.mem_of_getElem? (i := 9) rfl)
theorem kw357 : Cond.methodLink RX8 63 yX8_lives ∈ wsL_law := inR33 _ (List.mem_of_getElem? (i := 8) rfl)
theorem kw358 : Cond.fieldLink RX8 81 "SignedBridge$Plan" "heir" "[I" ∈ wsL_law := inR42 _ (List.mem_of_getElem? (i := 22) rfl)
theorem kw359 : Cond.code yX8_handDown cX8_handDown 4 none ∈ wsL_law := inR43 _ (List.mem_of_getElem? (i := 2) rfl)
theorem kw360 : Cond.instanceMethod yX8_handDown ∈ wsL_law := inR43 _ (List.mem_of_getElem? (i := 0) rfl)
theorem kw361 : Cond.selects RX8 yX8_handDown yX8_handDown ∈ wsL_law := inR43 _ (List.mem_of_getElem? (i := 1) rfl)
theorem kw362 : Cond.methodLink RX8 84 yX8_handDown ∈ wsL_law := inR42 _ (List.mem_of_getElem? (i := 23) rfl)
theorem kw363 : Cond.fieldLink RX8 74 "SignedBridge$Plan" "keeps" "I" ∈ wsL_law := inR42 _ (List.mem_of_getElem? (i := 17) rfl)
theorem kw364 : Cond.code yX8_passDay cX8_passDay 5 (some .boolean) ∈ wsL_law := inR42 _ (List.mem_of_getElem? (i := 21) rfl)
theorem kw365 : Cond.instanceMethod yX8_passDay ∈ wsL_law := inR42 _ (List.mem_of_getElem? (i := 19) rfl)
theorem kw366 : Cond.selects RX8 yX8_passDay yX8_passDay ∈ wsL_law := inR42 _ (List.mem_of_getElem? (i := 20) rfl)
theorem kw367 : Cond.methodLink RX8 77 yX8_passDay ∈ wsL_law := inR42 _ (List.mem_of_getElem? (i := 18) rfl)
theorem kw368 : Cond.code yX8_passDays cX8_passDays 4 (some .int) ∈ wsL_law := inR42 _ (List.mem_of_getElem? (i := 16) rfl)
theorem kw369 : Cond.instanceMethod yX8_passDays ∈ wsL_law := inR42 _ (List.mem_of_getElem? (i := 14) rfl)
theorem kw370 : Cond.selects RX8 yX8_passDays yX8_passDays ∈ wsL_law := inR42 _ (List.mem_of_getElem? (i := 15) rfl)
theorem kw371 : Cond.methodLink RX11 266 yX8_passDays ∈ wsL_law := inR42 _ (List.mem_of_getElem? (i := 13) rfl)
theorem kw372 : Cond.code yX8_endLife cX8_endLife 2 (some .int) ∈ wsL_law := inR39 _ (List.mem_of_getElem? (i := 0) rfl)
theorem kw373 : Cond.instanceMethod yX8_endLife ∈ wsL_law := inR38 _ (List.mem_of_getElem? (i := 22) rfl)
theorem kw374 : Cond.selects RX8 yX8_endLife yX8_endLife ∈ wsL_law := inR38 _ (List.mem_of_getElem? (i := 23) rfl)
theorem kw375 : Cond.methodLink RX11 256 yX8_endLife ∈ wsL_law := inR38 _ (List.mem_of_getElem? (i := 21) rfl)
theorem kw376 : Cond.fieldLink RX11 85 "SignedBridge" "forecast" "LSignedBridge$Forecast;" ∈ wsL_law := inR3 _ (List.mem_of_getElem? (i := 9) rfl)
theorem kw377 : Cond.code yX4_drawDays cX4_drawDays 8 (some .int) ∈ wsL_law := inR69 _ (List.mem_of_getElem? (i := 9) rfl)
theorem kw378 : Cond.initialized RX4 ∈ wsL_law := inR3 _ (List.mem_of_getElem? (i := 8) rfl)
theorem kw379 : Cond.instanceMethod yX4_drawDays ∈ wsL_law := inR69 _ (List.mem_of_getElem? (i := 7) rfl)
theorem kw380 : Cond.selects RX4 yX4_drawDays yX4_drawDays ∈ wsL_law := inR69 _ (List.mem_of_getElem? (i := 8) rfl)
theorem kw381 : Cond.methodLink RX11 372 yX4_drawDays ∈ wsL_law := inR69 _ (List.mem_of_getElem? (i := 6) rfl)
theorem kw382 : Cond.fieldLink RX11 147 "SignedBridge$Tokens" "faultKind" "I" ∈ wsL_law := inR27 _ (List.mem_of_getElem? (i := 3) rfl)
theorem kw383 : Cond.code yX9_put cX9_put 3 none ∈ wsL_law := inR11 _ (List.mem_of_getElem? (i := 6) rfl)
theorem kw384 : Cond.instanceMethod yX9_put ∈ wsL_law := inR11 _ (List.mem_of_getElem? (i := 4) rfl)
theorem kw385 : Cond.selects RX9 yX9_put yX9_put ∈ wsL_law := inR11 _ (List.mem_of_getElem? (i := 5) rfl)
theorem kw386 : Cond.methodLink RX11 119 yX9_put ∈ wsL_law := inR11 _ (List.mem_of_getElem? (i := 3) rfl)
theorem kw387 : Cond.fieldLink RX5 67 "SignedBridge$Tokens" "length" "I" ∈ wsL_law := inR55 _ (List.mem_of_getElem? (i := 22) rfl)
theorem kw388 : Cond.fieldLink RX5 72 "SignedBridge$Tokens" "bytes" "[I" ∈ wsL_law := inR55 _ (List.mem_of_getElem? (i := 23) rfl)
theorem kw389 : Cond.fieldLink RX5 75 "SignedBridge$Plan" "loads" "I" ∈ wsL_law := inR56 _ (List.mem_of_getElem? (i := 0) rfl)
theorem kw390 : Cond.code yX5_isAsTold cX5_isAsTold 5 (some .boolean) ∈ wsL_law := inR55 _ (List.mem_of_getElem? (i := 21) rfl)
theorem kw391 : Cond.initialized RX5 ∈ wsL_law := inR3 _ (List.mem_of_getElem? (i := 4) rfl)
theorem kw392 : Cond.instanceMethod yX5_isAsTold ∈ wsL_law := inR55 _ (List.mem_of_getElem? (i := 19) rfl)
theorem kw393 : Cond.selects RX5 yX5_isAsTold yX5_isAsTold ∈ wsL_law := inR55 _ (List.mem_of_getElem? (i := 20) rfl)
theorem kw394 : Cond.methodLink RX5 28 yX5_isAsTold ∈ wsL_law := inR55 _ (List.mem_of_getElem? (i := 18) rfl)
theorem kw395 : Cond.code yX5_weighForged cX5_weighForged 8 none ∈ wsL_law := inR56 _ (List.mem_of_getElem? (i := 4) rfl)
theorem kw396 : Cond.instanceMethod yX5_weighForged ∈ wsL_law := inR56 _ (List.mem_of_getElem? (i := 2) rfl)
theorem kw397 : Cond.selects RX5 yX5_weighForged yX5_weighForged ∈ wsL_law := inR56 _ (List.mem_of_getElem? (i := 3) rfl)
theorem kw398 : Cond.methodLink RX5 32 yX5_weighForged ∈ wsL_law := inR56 _ (List.mem_of_getElem? (i := 1) rfl)
theorem kw399 : Cond.fieldLink RX5 18 "SignedBridge$Forgers" "ableBy" "[I" ∈ wsL_law := inR7 _ (List.mem_of_getElem? (i := 22) rfl)
theorem kw400 : Cond.methodLink RX5 36 yJ7_fill_53178 ∈ wsL_law := inR56 _ (List.mem_of_getElem? (i := 11) rfl)
theorem kw401 : Cond.fieldLink RX5 42 "SignedBridge$Plan" "signers" "I" ∈ wsL_law := inR55 _ (List.mem_of_getElem? (i := 17) rfl)
theorem kw402 : Cond.code yX5_markForged cX5_markForged 8 none ∈ wsL_law := inR56 _ (List.mem_of_getElem? (i := 15) rfl)
theorem kw403 : Cond.instanceMethod yX5_markForged ∈ wsL_law := inR56 _ (List.mem_of_getElem? (i := 13) rfl)
theorem kw404 : Cond.selects RX5 yX5_markForged yX5_markForged ∈ wsL_law := inR56 _ (List.mem_of_getElem? (i := 14) rfl)
theorem kw405 : Cond.methodLink RX5 47 yX5_markForged ∈ wsL_law := inR56 _ (List.mem_of_getElem? (i := 12) rfl)
theorem kw406 : Cond.code yX5_ableLoads cX5_ableLoads 6 (some .int) ∈ wsL_law := inR56 _ (List.mem_of_getElem? (i := 20) rfl)
theorem kw407 : Cond.instanceMethod yX5_ableLoads ∈ wsL_law := inR56 _ (List.mem_of_getElem? (i := 18) rfl)
theorem kw408 : Cond.selects RX5 yX5_ableLoads yX5_ableLoads ∈ wsL_law := inR56 _ (List.mem_of_getElem? (i := 19) rfl)
theorem kw409 : Cond.methodLink RX5 51 yX5_ableLoads ∈ wsL_law := inR56 _ (List.mem_of_getElem? (i := 17) rfl)
theorem kw410 : Cond.code yX5_agrees cX5_agrees 4 (some .boolean) ∈ wsL_law := inR57 _ (List.mem_of_getElem? (i := 0) rfl)
theorem kw411 : Cond.instanceMethod yX5_agrees ∈ wsL_law := inR56 _ (List.mem_of_getElem? (i := 22) rfl)
theorem kw412 : Cond.selects RX5 yX5_agrees yX5_agrees ∈ wsL_law := inR56 _ (List.mem_of_getElem? (i := 23) rfl)
theorem kw413 : Cond.methodLink RX5 55 yX5_agrees ∈ wsL_law := inR56 _ (List.mem_of_getElem? (i := 21) rfl)
theorem kw414 : Cond.code yX5_addAble cX5_addAble 4 none ∈ wsL_law := inR57 _ (List.mem_of_getElem? (i := 4) rfl)
theorem kw415 : Cond.instanceMethod yX5_addAble ∈ wsL_law := inR57 _ (List.mem_of_getElem? (i := 2) rfl)
theorem kw416 : Cond.selects RX5 yX5_addAble yX5_addAble ∈ wsL_law := inR57 _ (List.mem_of_getElem? (i := 3) rfl)
theorem kw417 : Cond.methodLink RX5 59 yX5_addAble ∈ wsL_law := inR57 _ (List.mem_of_getElem? (i := 1) rfl)
theorem kw418 : Cond.fieldLink RX5 21 "SignedBridge$Forgers" "common" "I" ∈ wsL_law := inR7 _ (List.mem_of_getElem? (i := 23) rfl)
theorem kw419 : Cond.code yX5_mostTelling cX5_mostTelling 5 (some .int) ∈ wsL_law := inR57 _ (List.mem_of_getElem? (i := 8) rfl)
theorem kw420 : Cond.instanceMethod yX5_mostTelling ∈ wsL_law := inR57 _ (List.mem_of_getElem? (i := 6) rfl)
theorem kw421 : Cond.selects RX5 yX5_mostTelling yX5_mostTelling ∈ wsL_law := inR57 _ (List.mem_of_getElem? (i := 7) rfl)
theorem kw422 : Cond.methodLink RX5 63 yX5_mostTelling ∈ wsL_law := inR57 _ (List.mem_of_getElem? (i := 5) rfl)
theorem kw423 : Cond.fieldLink RX5 25 "SignedBridge$Forgers" "telling" "I" ∈ wsL_law := inR8 _ (List.mem_of_getElem? (i := 0) rfl)
theorem kw424 : Cond.fieldLink RX11 78 "SignedBridge" "forgers" "LSignedBridge$Forgers;" ∈ wsL_law := inR3 _ (List.mem_of_getElem? (i := 5) rfl)
theorem kw425 : Cond.code yX5_find cX5_find 9 (some .int) ∈ wsL_law := inR55 _ (List.mem_of_getElem? (i := 16) rfl)
theorem kw426 : Cond.instanceMethod yX5_find ∈ wsL_law := inR55 _ (List.mem_of_getElem? (i := 14) rfl)
theorem kw427 : Cond.selects RX5 yX5_find yX5_find ∈ wsL_law := inR55 _ (List.mem_of_getElem? (i := 15) rfl)
theorem kw428 : Cond.methodLink RX11 324 yX5_find ∈ wsL_law := inR55 _ (List.mem_of_getElem? (i := 13) rfl)
theorem kw429 : Cond.code yX8_holdWord cX8_holdWord 2 (some .int) ∈ wsL_law := inR38 _ (List.mem_of_getElem? (i := 8) rfl)
theorem kw430 : Cond.instanceMethod yX8_holdWord ∈ wsL_law := inR38 _ (List.mem_of_getElem? (i := 6) rfl)
theorem kw431 : Cond.selects RX8 yX8_holdWord yX8_holdWord ∈ wsL_law := inR38 _ (List.mem_of_getElem? (i := 7) rfl)
theorem kw432 : Cond.methodLink RX11 253 yX8_holdWord ∈ wsL_law := inR38 _ (List.mem_of_getElem? (i := 5) rfl)
theorem kw433 : Cond.fieldLink RX7 11 "SignedBridge$Sentence" "code" "[I" ∈ wsL_law := inR6 _ (List.mem_of_getElem? (i := 0) rfl)
theorem kw434 : Cond.methodLink RX7 34 arraycopyName ∈ wsL_law := inR82 _ (List.mem_of_getElem? (i := 6) rfl)
theorem kw435 : Cond.fieldLink RX7 15 "SignedBridge$Sentence" "sign" "[I" ∈ wsL_law := inR6 _ (List.mem_of_getElem? (i := 1) rfl)
theorem kw436 : Cond.fieldLink RX7 18 "SignedBridge$Sentence" "number" "[I" ∈ wsL_law := inR6 _ (List.mem_of_getElem? (i := 2) rfl)
theorem kw437 : Cond.fieldLink RX11 100 "SignedBridge" "imagePlans" "[LSignedBridge$Plan;" ∈ wsL_law := inR3 _ (List.mem_of_getElem? (i := 15) rfl)
theorem kw438 : Cond.fieldLink RX11 104 "SignedBridge" "imageStates" "[LSignedBridge$State;" ∈ wsL_law := inR3 _ (List.mem_of_getElem? (i := 16) rfl)
theorem kw439 : Cond.fieldLink RX11 107 "SignedBridge" "imageSentences" "[LSignedBridge$Sentence;" ∈ wsL_law := inR3 _ (List.mem_of_getElem? (i := 17) rfl)
theorem kw440 : Cond.code yX7_copyOf cX7_copyOf 2 none ∈ wsL_law := inR82 _ (List.mem_of_getElem? (i := 5) rfl)
theorem kw441 : Cond.instanceMethod yX7_copyOf ∈ wsL_law := inR82 _ (List.mem_of_getElem? (i := 3) rfl)
theorem kw442 : Cond.selects RX7 yX7_copyOf yX7_copyOf ∈ wsL_law := inR82 _ (List.mem_of_getElem? (i := 4) rfl)
theorem kw443 : Cond.methodLink RX11 395 yX7_copyOf ∈ wsL_law := inR82 _ (List.mem_of_getElem? (i := 2) rfl)
theorem kw444 : Cond.fieldLink RX11 111 "SignedBridge" "imageKept" "[Z" ∈ wsL_law := inR3 _ (List.mem_of_getElem? (i := 19) rfl)
theorem kw445 : Cond.methodLink RX1 3 objectInit ∈ wsL_law := inR6 _ (List.mem_of_getElem? (i := 7) rfl)
theorem kw446 : Cond.fieldLink RX1 11 "SignedBridge$Book" "deeds" "[I" ∈ wsL_law := inR6 _ (List.mem_of_getElem? (i := 8) rfl)
theorem kw447 : Cond.fieldLink RX1 15 "SignedBridge$Book" "who" "[I" ∈ wsL_law := inR6 _ (List.mem_of_getElem? (i := 9) rfl)
theorem kw448 : Cond.fieldLink RX1 18 "SignedBridge$Book" "first" "[I" ∈ wsL_law := inR6 _ (List.mem_of_getElem? (i := 10) rfl)
theorem kw449 : Cond.fieldLink RX1 21 "SignedBridge$Book" "second" "[I" ∈ wsL_law := inR6 _ (List.mem_of_getElem? (i := 11) rfl)
theorem kw450 : Cond.methodLink RX6 3 objectInit ∈ wsL_law := inR4 _ (List.mem_of_getElem? (i := 9) rfl)
theorem kw451 : Cond.arrayClass .long ∈ wsL_law := inR1 _ (List.mem_of_getElem? (i := 6) rfl)
theorem kw452 : Cond.methodLink RX6 40 yX6_clear ∈ wsL_law := inR4 _ (List.mem_of_getElem? (i := 19) rfl)
theorem kw453 : Cond.methodLink RX2 3 objectInit ∈ wsL_law := inR4 _ (List.mem_of_getElem? (i := 3) rfl)
theorem kw454 : Cond.classLink RX2 9 RX6 ∈ wsL_law := inR4 _ (List.mem_of_getElem? (i := 4) rfl)
theorem kw455 : Cond.code yX6_init cX6_init 1 none ∈ wsL_law := inR4 _ (List.mem_of_getElem? (i := 8) rfl)
theorem kw456 : Cond.instanceMethod yX6_init ∈ wsL_law := inR4 _ (List.mem_of_getElem? (i := 7) rfl)
theorem kw457 : Cond.methodLink RX2 11 yX6_init ∈ wsL_law := inR4 _ (List.mem_of_getElem? (i := 6) rfl)
theorem kw458 : Cond.methodLink RX3 3 objectInit ∈ wsL_law := inR7 _ (List.mem_of_getElem? (i := 10) rfl)
theorem kw459 : Cond.classLink RX3 9 RX8 ∈ wsL_law := inR7 _ (List.mem_of_getElem? (i := 11) rfl)
theorem kw460 : Cond.methodLink RX3 11 yX8_init ∈ wsL_law := inR7 _ (List.mem_of_getElem? (i := 16) rfl)
theorem kw461 : Cond.fieldLink RX3 12 "SignedBridge$Cut" "trial" "LSignedBridge$State;" ∈ wsL_law := inR7 _ (List.mem_of_getElem? (i := 12) rfl)
theorem kw462 : Cond.fieldLink RX3 18 "SignedBridge$Cut" "possible" "[I" ∈ wsL_law := inR7 _ (List.mem_of_getElem? (i := 13) rfl)
theorem kw463 : Cond.fieldLink RX3 22 "SignedBridge$Cut" "need" "[I" ∈ wsL_law := inR7 _ (List.mem_of_getElem? (i := 14) rfl)
theorem kw464 : Cond.fieldLink RX3 25 "SignedBridge$Cut" "places" "[I" ∈ wsL_law := inR7 _ (List.mem_of_getElem? (i := 15) rfl)
theorem kw465 : Cond.methodLink RX4 3 objectInit ∈ wsL_law := inR8 _ (List.mem_of_getElem? (i := 3) rfl)
theorem kw466 : Cond.classLink RX4 9 RX8 ∈ wsL_law := inR8 _ (List.mem_of_getElem? (i := 4) rfl)
theorem kw467 : Cond.methodLink RX4 11 yX8_init ∈ wsL_law := inR8 _ (List.mem_of_getElem? (i := 8) rfl)
theorem kw468 : Cond.fieldLink RX4 12 "SignedBridge$Forecast" "trial" "LSignedBridge$State;" ∈ wsL_law := inR8 _ (List.mem_of_getElem? (i := 5) rfl)
theorem kw469 : Cond.fieldLink RX4 18 "SignedBridge$Forecast" "second" "LSignedBridge$State;" ∈ wsL_law := inR8 _ (List.mem_of_getElem? (i := 6) rfl)
theorem kw470 : Cond.fieldLink RX4 21 "SignedBridge$Forecast" "order" "[I" ∈ wsL_law := inR8 _ (List.mem_of_getElem? (i := 7) rfl)
theorem kw471 : Cond.methodLink RX5 3 objectInit ∈ wsL_law := inR7 _ (List.mem_of_getElem? (i := 19) rfl)
theorem kw472 : Cond.fieldLink RX5 9 "SignedBridge$Forgers" "possible" "[I" ∈ wsL_law := inR7 _ (List.mem_of_getElem? (i := 20) rfl)
theorem kw473 : Cond.fieldLink RX5 15 "SignedBridge$Forgers" "forged" "[I" ∈ wsL_law := inR7 _ (List.mem_of_getElem? (i := 21) rfl)
theorem kw474 : Cond.methodLink RX7 3 objectInit ∈ wsL_law := inR5 _ (List.mem_of_getElem? (i := 23) rfl)
theorem kw475 : Cond.fieldLink RX7 21 "SignedBridge$Sentence" "delayed" "[I" ∈ wsL_law := inR6 _ (List.mem_of_getElem? (i := 3) rfl)
theorem kw476 : Cond.fieldLink RX7 24 "SignedBridge$Sentence" "stack" "[I" ∈ wsL_law := inR6 _ (List.mem_of_getElem? (i := 4) rfl)
theorem kw477 : Cond.methodLink RX9 3 objectInit ∈ wsL_law := inR3 _ (List.mem_of_getElem? (i := 22) rfl)
theorem kw478 : Cond.methodLink RX11 1 objectInit ∈ wsL_law := inR1 _ (List.mem_of_getElem? (i := 10) rfl)
theorem kw479 : Cond.classLink RX11 7 RX9 ∈ wsL_law := inR1 _ (List.mem_of_getElem? (i := 13) rfl)
theorem kw480 : Cond.code yX9_init cX9_init 1 none ∈ wsL_law := inR3 _ (List.mem_of_getElem? (i := 21) rfl)
theorem kw481 : Cond.instanceMethod yX9_init ∈ wsL_law := inR3 _ (List.mem_of_getElem? (i := 20) rfl)
theorem kw482 : Cond.classLink RX11 16 RX2 ∈ wsL_law := inR1 _ (List.mem_of_getElem? (i := 17) rfl)
theorem kw483 : Cond.code yX2_init cX2_init 1 none ∈ wsL_law := inR4 _ (List.mem_of_getElem? (i := 2) rfl)
theorem kw484 : Cond.instanceMethod yX2_init ∈ wsL_law := inR4 _ (List.mem_of_getElem? (i := 1) rfl)
theorem kw485 : Cond.classLink RX11 23 RX6 ∈ wsL_law := inR1 _ (List.mem_of_getElem? (i := 21) rfl)
theorem kw486 : Cond.methodLink RX11 25 yX6_init ∈ wsL_law := inR5 _ (List.mem_of_getElem? (i := 9) rfl)
theorem kw487 : Cond.classLink RX11 30 RX8 ∈ wsL_law := inR2 _ (List.mem_of_getElem? (i := 1) rfl)
theorem kw488 : Cond.methodLink RX11 32 yX8_init ∈ wsL_law := inR5 _ (List.mem_of_getElem? (i := 10) rfl)
theorem kw489 : Cond.classLink RX11 37 RX7 ∈ wsL_law := inR2 _ (List.mem_of_getElem? (i := 5) rfl)
theorem kw490 : Cond.code yX7_init cX7_init 1 none ∈ wsL_law := inR5 _ (List.mem_of_getElem? (i := 22) rfl)
theorem kw491 : Cond.instanceMethod yX7_init ∈ wsL_law := inR5 _ (List.mem_of_getElem? (i := 21) rfl)
theorem kw492 : Cond.fieldLink RX11 44 "SignedBridge" "sentenceDraft" "LSignedBridge$Sentence;" ∈ wsL_law := inR2 _ (List.mem_of_getElem? (i := 9) rfl)
theorem kw493 : Cond.classLink RX11 47 RX1 ∈ wsL_law := inR2 _ (List.mem_of_getElem? (i := 10) rfl)
theorem kw494 : Cond.code yX1_init cX1_init 1 none ∈ wsL_law := inR6 _ (List.mem_of_getElem? (i := 6) rfl)
theorem kw495 : Cond.instanceMethod yX1_init ∈ wsL_law := inR6 _ (List.mem_of_getElem? (i := 5) rfl)
theorem kw496 : Cond.classLink RX11 54 RX10 ∈ wsL_law := inR2 _ (List.mem_of_getElem? (i := 14) rfl)
theorem kw497 : Cond.code yX10_init cX10_init 1 none ∈ wsL_law := inR6 _ (List.mem_of_getElem? (i := 14) rfl)
theorem kw498 : Cond.instanceMethod yX10_init ∈ wsL_law := inR6 _ (List.mem_of_getElem? (i := 13) rfl)
theorem kw499 : Cond.classLink RX11 61 RX0 ∈ wsL_law := inR2 _ (List.mem_of_getElem? (i := 18) rfl)
theorem kw500 : Cond.code yX0_init cX0_init 1 none ∈ wsL_law := inR6 _ (List.mem_of_getElem? (i := 22) rfl)
theorem kw501 : Cond.instanceMethod yX0_init ∈ wsL_law := inR6 _ (List.mem_of_getElem? (i := 21) rfl)
theorem kw502 : Cond.methodLink RX11 63 yX0_init ∈ wsL_law := inR6 _ (List.mem_of_getElem? (i := 20) rfl)
theorem kw503 : Cond.classLink RX11 68 RX3 ∈ wsL_law := inR2 _ (List.mem_of_getElem? (i := 22) rfl)
theorem kw504 : Cond.code yX3_init cX3_init 1 none ∈ wsL_law := inR7 _ (List.mem_of_getElem? (i := 9) rfl)
theorem kw505 : Cond.instanceMethod yX3_init ∈ wsL_law := inR7 _ (List.mem_of_getElem? (i := 8) rfl)
theorem kw506 : Cond.classLink RX11 75 RX5 ∈ wsL_law := inR3 _ (List.mem_of_getElem? (i := 2) rfl)
theorem kw507 : Cond.code yX5_init cX5_init 1 none ∈ wsL_law := inR7 _ (List.mem_of_getElem? (i := 18) rfl)
theorem kw508 : Cond.instanceMethod yX5_init ∈ wsL_law := inR7 _ (List.mem_of_getElem? (i := 17) rfl)
theorem kw509 : Cond.classLink RX11 82 RX4 ∈ wsL_law := inR3 _ (List.mem_of_getElem? (i := 6) rfl)
theorem kw510 : Cond.code yX4_init cX4_init 1 none ∈ wsL_law := inR8 _ (List.mem_of_getElem? (i := 2) rfl)
theorem kw511 : Cond.instanceMethod yX4_init ∈ wsL_law := inR8 _ (List.mem_of_getElem? (i := 1) rfl)
theorem kw512 : Cond.classLink RX11 89 RJ4 ∈ wsL_law := inR3 _ (List.mem_of_getElem? (i := 10) rfl)
theorem kw513 : Cond.code yJ4_init_da8c8 cJ4_init_da8c8 1 none ∈ wsL_law := inR8 _ (List.mem_of_getElem? (i := 11) rfl)
theorem kw514 : Cond.instanceMethod yJ4_init_da8c8 ∈ wsL_law := inR8 _ (List.mem_of_getElem? (i := 10) rfl)
theorem kw515 : Cond.methodLink RX11 91 yJ4_init_da8c8 ∈ wsL_law := inR8 _ (List.mem_of_getElem? (i := 9) rfl)
theorem kw516 : Cond.arrayClass .boolean ∈ wsL_law := inR3 _ (List.mem_of_getElem? (i := 18) rfl)
theorem kw517 : Cond.fieldLink RX4 25 "SignedBridge$Plan" "signers" "I" ∈ wsL_law := inR49 _ (List.mem_of_getElem? (i := 17) rfl)
theorem kw518 : Cond.methodLink RX4 31 yX8_copyOf ∈ wsL_law := inR49 _ (List.mem_of_getElem? (i := 19) rfl)
theorem kw519 : Cond.fieldLink RX4 35 "SignedBridge$State" "owner" "[I" ∈ wsL_law := inR49 _ (List.mem_of_getElem? (i := 18) rfl)
theorem kw520 : Cond.methodLink RX4 38 yX8_makeGap ∈ wsL_law := inR49 _ (List.mem_of_getElem? (i := 20) rfl)
theorem kw521 : Cond.methodLink RX4 42 yX10_ableLoads ∈ wsL_law := inR49 _ (List.mem_of_getElem? (i := 21) rfl)
theorem kw522 : Cond.methodLink RX4 48 yJ6_bitCount_0f7a4 ∈ wsL_law := inR50 _ (List.mem_of_getElem? (i := 2) rfl)
theorem kw523 : Cond.code yX4_findKeystone cX4_findKeystone 8 (some .int) ∈ wsL_law := inR49 _ (List.mem_of_getElem? (i := 16) rfl)
theorem kw524 : Cond.instanceMethod yX4_findKeystone ∈ wsL_law := inR49 _ (List.mem_of_getElem? (i := 14) rfl)
theorem kw525 : Cond.selects RX4 yX4_findKeystone yX4_findKeystone ∈ wsL_law := inR49 _ (List.mem_of_getElem? (i := 15) rfl)
theorem kw526 : Cond.methodLink RX11 294 yX4_findKeystone ∈ wsL_law := inR49 _ (List.mem_of_getElem? (i := 13) rfl)
theorem kw527 : Cond.code yX4_findLast cX4_findLast 7 (some .int) ∈ wsL_law := inR60 _ (List.mem_of_getElem? (i := 2) rfl)
theorem kw528 : Cond.instanceMethod yX4_findLast ∈ wsL_law := inR60 _ (List.mem_of_getElem? (i := 0) rfl)
theorem kw529 : Cond.selects RX4 yX4_findLast yX4_findLast ∈ wsL_law := inR60 _ (List.mem_of_getElem? (i := 1) rfl)
theorem kw530 : Cond.methodLink RX11 337 yX4_findLast ∈ wsL_law := inR59 _ (List.mem_of_getElem? (i := 23) rfl)
theorem kw531 : Cond.code yX4_findLaw cX4_findLaw 9 (some .int) ∈ wsL_law := inR58 _ (List.mem_of_getElem? (i := 21) rfl)
theorem kw532 : Cond.instanceMethod yX4_findLaw ∈ wsL_law := inR58 _ (List.mem_of_getElem? (i := 19) rfl)
theorem kw533 : Cond.selects RX4 yX4_findLaw yX4_findLaw ∈ wsL_law := inR58 _ (List.mem_of_getElem? (i := 20) rfl)
theorem kw534 : Cond.methodLink RX11 333 yX4_findLaw ∈ wsL_law := inR58 _ (List.mem_of_getElem? (i := 18) rfl)
theorem kw535 : Cond.code yX10_mostWeight cX10_mostWeight 4 (some .int) ∈ wsL_law := inR46 _ (List.mem_of_getElem? (i := 4) rfl)
theorem kw536 : Cond.instanceMethod yX10_mostWeight ∈ wsL_law := inR46 _ (List.mem_of_getElem? (i := 2) rfl)
theorem kw537 : Cond.selects RX10 yX10_mostWeight yX10_mostWeight ∈ wsL_law := inR46 _ (List.mem_of_getElem? (i := 3) rfl)
theorem kw538 : Cond.methodLink RX11 285 yX10_mostWeight ∈ wsL_law := inR46 _ (List.mem_of_getElem? (i := 1) rfl)
theorem kw539 : Cond.classLink RX11 154 "java/util/NoSuchElementException" ∈ wsL_law := inR27 _ (List.mem_of_getElem? (i := 17) rfl)
theorem kw540 : Cond.initialized "java/util/NoSuchElementException" ∈ wsL_law := inR27 _ (List.mem_of_getElem? (i := 18) rfl)
theorem kw541 : Cond.fieldLink RX11 204 "SignedBridge$Plan" "weight" "[I" ∈ wsL_law := inR32 _ (List.mem_of_getElem? (i := 4) rfl)
theorem kw542 : Cond.fieldLink RX11 207 "SignedBridge$Plan" "wide" "[I" ∈ wsL_law := inR32 _ (List.mem_of_getElem? (i := 5) rfl)
theorem kw543 : Cond.fieldLink RX11 210 "SignedBridge$State" "fallen" "I" ∈ wsL_law := inR32 _ (List.mem_of_getElem? (i := 6) rfl)
theorem kw544 : Cond.fieldLink RX11 213 "SignedBridge$State" "crossed" "[I" ∈ wsL_law := inR32 _ (List.mem_of_getElem? (i := 7) rfl)
theorem kw545 : Cond.fieldLink RX11 216 "SignedBridge$State" "day" "I" ∈ wsL_law := inR33 _ (List.mem_of_getElem? (i := 1) rfl)
theorem kw546 : Cond.code yX8_deadBits cX8_deadBits 4 (some .int) ∈ wsL_law := inR33 _ (List.mem_of_getElem? (i := 6) rfl)
theorem kw547 : Cond.instanceMethod yX8_deadBits ∈ wsL_law := inR33 _ (List.mem_of_getElem? (i := 4) rfl)
theorem kw548 : Cond.selects RX8 yX8_deadBits yX8_deadBits ∈ wsL_law := inR33 _ (List.mem_of_getElem? (i := 5) rfl)
theorem kw549 : Cond.methodLink RX11 219 yX8_deadBits ∈ wsL_law := inR33 _ (List.mem_of_getElem? (i := 3) rfl)
theorem kw550 : Cond.code yX8_countPlanks cX8_countPlanks 3 (some .int) ∈ wsL_law := inR33 _ (List.mem_of_getElem? (i := 12) rfl)
theorem kw551 : Cond.instanceMethod yX8_countPlanks ∈ wsL_law := inR33 _ (List.mem_of_getElem? (i := 10) rfl)
theorem kw552 : Cond.selects RX8 yX8_countPlanks yX8_countPlanks ∈ wsL_law := inR33 _ (List.mem_of_getElem? (i := 11) rfl)
theorem kw553 : Cond.methodLink RX11 223 yX8_countPlanks ∈ wsL_law := inR33 _ (List.mem_of_getElem? (i := 9) rfl)
theorem kw554 : Cond.code yX8_countCrossings cX8_countCrossings 3 (some .int) ∈ wsL_law := inR33 _ (List.mem_of_getElem? (i := 16) rfl)
theorem kw555 : Cond.instanceMethod yX8_countCrossings ∈ wsL_law := inR33 _ (List.mem_of_getElem? (i := 14) rfl)
theorem kw556 : Cond.selects RX8 yX8_countCrossings yX8_countCrossings ∈ wsL_law := inR33 _ (List.mem_of_getElem? (i := 15) rfl)
theorem kw557 : Cond.methodLink RX11 227 yX8_countCrossings ∈ wsL_law := inR33 _ (List.mem_of_getElem? (i := 13) rfl)
theorem kw558 : Cond.fieldLink RX11 230 "SignedBridge$State" "burnt" "I" ∈ wsL_law := inR33 _ (List.mem_of_getElem? (i := 2) rfl)
theorem kw559 : Cond.code yX10_bearInAll cX10_bearInAll 5 (some .int) ∈ wsL_law := inR33 _ (List.mem_of_getElem? (i := 20) rfl)
theorem kw560 : Cond.instanceMethod yX10_bearInAll ∈ wsL_law := inR33 _ (List.mem_of_getElem? (i := 18) rfl)
theorem kw561 : Cond.selects RX10 yX10_bearInAll yX10_bearInAll ∈ wsL_law := inR33 _ (List.mem_of_getElem? (i := 19) rfl)
theorem kw562 : Cond.methodLink RX11 233 yX10_bearInAll ∈ wsL_law := inR33 _ (List.mem_of_getElem? (i := 17) rfl)
theorem kw563 : Cond.code yX4_countOdds cX4_countOdds 9 (some .int) ∈ wsL_law := inR71 _ (List.mem_of_getElem? (i := 2) rfl)
theorem kw564 : Cond.instanceMethod yX4_countOdds ∈ wsL_law := inR71 _ (List.mem_of_getElem? (i := 0) rfl)
theorem kw565 : Cond.selects RX4 yX4_countOdds yX4_countOdds ∈ wsL_law := inR71 _ (List.mem_of_getElem? (i := 1) rfl)
theorem kw566 : Cond.methodLink RX11 375 yX4_countOdds ∈ wsL_law := inR70 _ (List.mem_of_getElem? (i := 23) rfl)
theorem kw567 : Cond.fieldLink RX4 54 "SignedBridge$Plan" "loads" "I" ∈ wsL_law := inR54 _ (List.mem_of_getElem? (i := 2) rfl)
theorem kw568 : Cond.fieldLink RX4 57 "SignedBridge$State" "fallen" "I" ∈ wsL_law := inR54 _ (List.mem_of_getElem? (i := 3) rfl)
theorem kw569 : Cond.fieldLink RX4 60 "SignedBridge$Forecast" "orderSize" "I" ∈ wsL_law := inR54 _ (List.mem_of_getElem? (i := 4) rfl)
theorem kw570 : Cond.code yX4_nextLoad cX4_nextLoad 7 (some .int) ∈ wsL_law := inR54 _ (List.mem_of_getElem? (i := 8) rfl)
theorem kw571 : Cond.instanceMethod yX4_nextLoad ∈ wsL_law := inR54 _ (List.mem_of_getElem? (i := 6) rfl)
theorem kw572 : Cond.selects RX4 yX4_nextLoad yX4_nextLoad ∈ wsL_law := inR54 _ (List.mem_of_getElem? (i := 7) rfl)
theorem kw573 : Cond.methodLink RX4 63 yX4_nextLoad ∈ wsL_law := inR54 _ (List.mem_of_getElem? (i := 5) rfl)
theorem kw574 : Cond.code yX4_findOrder cX4_findOrder 8 (some .int) ∈ wsL_law := inR54 _ (List.mem_of_getElem? (i := 1) rfl)
theorem kw575 : Cond.instanceMethod yX4_findOrder ∈ wsL_law := inR53 _ (List.mem_of_getElem? (i := 23) rfl)
theorem kw576 : Cond.selects RX4 yX4_findOrder yX4_findOrder ∈ wsL_law := inR54 _ (List.mem_of_getElem? (i := 0) rfl)
theorem kw577 : Cond.methodLink RX11 315 yX4_findOrder ∈ wsL_law := inR53 _ (List.mem_of_getElem? (i := 22) rfl)
theorem kw578 : Cond.fieldLink RX11 318 "SignedBridge$Forecast" "orderSize" "I" ∈ wsL_law := inR55 _ (List.mem_of_getElem? (i := 3) rfl)
theorem kw579 : Cond.fieldLink RX11 321 "SignedBridge$Forecast" "order" "[I" ∈ wsL_law := inR55 _ (List.mem_of_getElem? (i := 4) rfl)
theorem kw580 : Cond.code yX10_findSafest cX10_findSafest 5 (some .int) ∈ wsL_law := inR44 _ (List.mem_of_getElem? (i := 10) rfl)
theorem kw581 : Cond.instanceMethod yX10_findSafest ∈ wsL_law := inR44 _ (List.mem_of_getElem? (i := 8) rfl)
theorem kw582 : Cond.selects RX10 yX10_findSafest yX10_findSafest ∈ wsL_law := inR44 _ (List.mem_of_getElem? (i := 9) rfl)
theorem kw583 : Cond.methodLink RX11 276 yX10_findSafest ∈ wsL_law := inR44 _ (List.mem_of_getElem? (i := 7) rfl)
theorem kw584 : Cond.fieldLink RX11 282 "SignedBridge$Ways" "steps" "[I" ∈ wsL_law := inR45 _ (List.mem_of_getElem? (i := 12) rfl)
theorem kw585 : Cond.fieldLink RX11 185 "SignedBridge$State" "owner" "[I" ∈ wsL_law := inR29 _ (List.mem_of_getElem? (i := 22) rfl)
theorem kw586 : Cond.fieldLink RX11 164 "SignedBridge$Plan" "forgers" "I" ∈ wsL_law := inR27 _ (List.mem_of_getElem? (i := 21) rfl)
theorem kw587 : Cond.methodLink RX11 188 yX10_bearing ∈ wsL_law := inR30 _ (List.mem_of_getElem? (i := 12) rfl)
theorem kw588 : Cond.methodLink RX11 192 Lib.Math.max.name ∈ wsL_law := inR29 _ (List.mem_of_getElem? (i := 23) rfl)
theorem kw589 : Cond.fieldLink RX11 198 "SignedBridge$State" "singed" "[I" ∈ wsL_law := inR30 _ (List.mem_of_getElem? (i := 2) rfl)
theorem kw590 : Cond.code yJ4_setLength_d00df cJ4_setLength_d00df 2 none ∈ wsL_law := inR61 _ (List.mem_of_getElem? (i := 5) rfl)
theorem kw591 : Cond.instanceMethod yJ4_setLength_d00df ∈ wsL_law := inR61 _ (List.mem_of_getElem? (i := 3) rfl)
theorem kw592 : Cond.selects RJ4 yJ4_setLength_d00df yJ4_setLength_d00df ∈ wsL_law := inR61 _ (List.mem_of_getElem? (i := 4) rfl)
theorem kw593 : Cond.methodLink RX11 343 yJ4_setLength_d00df ∈ wsL_law := inR61 _ (List.mem_of_getElem? (i := 2) rfl)
theorem kw594 : Cond.code yJ4_append_cf468 cJ4_append_cf468 2 (some (.object "java/lang/StringBuilder")) ∈ wsL_law := inR63 _ (List.mem_of_getElem? (i := 17) rfl)
theorem kw595 : Cond.instanceMethod yJ4_append_cf468 ∈ wsL_law := inR63 _ (List.mem_of_getElem? (i := 15) rfl)
theorem kw596 : Cond.selects RJ4 yJ4_append_cf468 yJ4_append_cf468 ∈ wsL_law := inR63 _ (List.mem_of_getElem? (i := 16) rfl)
theorem kw597 : Cond.methodLink RX11 346 yJ4_append_cf468 ∈ wsL_law := inR63 _ (List.mem_of_getElem? (i := 14) rfl)
theorem kw598 : Cond.code yJ4_append_15ec4 cJ4_append_15ec4 2 (some (.object "java/lang/StringBuilder")) ∈ wsL_law := inR65 _ (List.mem_of_getElem? (i := 6) rfl)
theorem kw599 : Cond.instanceMethod yJ4_append_15ec4 ∈ wsL_law := inR65 _ (List.mem_of_getElem? (i := 4) rfl)
theorem kw600 : Cond.selects RJ4 yJ4_append_15ec4 yJ4_append_15ec4 ∈ wsL_law := inR65 _ (List.mem_of_getElem? (i := 5) rfl)
theorem kw601 : Cond.methodLink RX11 352 yJ4_append_15ec4 ∈ wsL_law := inR65 _ (List.mem_of_getElem? (i := 3) rfl)
theorem kw602 : Cond.fieldLink RX11 355 "SignedBridge$Plan" "signerNames" "[J" ∈ wsL_law := inR61 _ (List.mem_of_getElem? (i := 1) rfl)
theorem kw603 : Cond.code yX11_writeName cX11_writeName 5 none ∈ wsL_law := inR67 _ (List.mem_of_getElem? (i := 8) rfl)
theorem kw604 : Cond.instanceMethod yX11_writeName ∈ wsL_law := inR67 _ (List.mem_of_getElem? (i := 6) rfl)
theorem kw605 : Cond.selects RX11 yX11_writeName yX11_writeName ∈ wsL_law := inR67 _ (List.mem_of_getElem? (i := 7) rfl)
theorem kw606 : Cond.methodLink RX11 359 yX11_writeName ∈ wsL_law := inR67 _ (List.mem_of_getElem? (i := 5) rfl)
theorem kw607 : Cond.fieldLink RX11 389 "SignedBridge$Sentence" "ones" "I" ∈ wsL_law := inR75 _ (List.mem_of_getElem? (i := 21) rfl)
theorem kw608 : Cond.code yX7_judge cX7_judge 6 (some .int) ∈ wsL_law := inR80 _ (List.mem_of_getElem? (i := 9) rfl)
theorem kw609 : Cond.instanceMethod yX7_judge ∈ wsL_law := inR80 _ (List.mem_of_getElem? (i := 7) rfl)
theorem kw610 : Cond.selects RX7 yX7_judge yX7_judge ∈ wsL_law := inR80 _ (List.mem_of_getElem? (i := 8) rfl)
theorem kw611 : Cond.methodLink RX11 392 yX7_judge ∈ wsL_law := inR80 _ (List.mem_of_getElem? (i := 6) rfl)
theorem kw612 : Cond.fieldLink RX7 99 "SignedBridge$Tokens" "kind" "I" ∈ wsL_law := inR76 _ (List.mem_of_getElem? (i := 13) rfl)
theorem kw613 : Cond.fieldLink RX7 102 "SignedBridge$Tokens" "value" "I" ∈ wsL_law := inR76 _ (List.mem_of_getElem? (i := 14) rfl)
theorem kw614 : Cond.code yX9_isSignOf cX9_isSignOf 2 (some .boolean) ∈ wsL_law := inR20 _ (List.mem_of_getElem? (i := 11) rfl)
theorem kw615 : Cond.instanceMethod yX9_isSignOf ∈ wsL_law := inR20 _ (List.mem_of_getElem? (i := 9) rfl)
theorem kw616 : Cond.selects RX9 yX9_isSignOf yX9_isSignOf ∈ wsL_law := inR20 _ (List.mem_of_getElem? (i := 10) rfl)
theorem kw617 : Cond.methodLink RX7 84 yX9_isSignOf ∈ wsL_law := inR76 _ (List.mem_of_getElem? (i := 15) rfl)
theorem kw618 : Cond.code yX7_beginsOne cX7_beginsOne 1 (some .boolean) ∈ wsL_law := inR76 _ (List.mem_of_getElem? (i := 12) rfl)
theorem kw619 : Cond.static yX7_beginsOne ∈ wsL_law := inR76 _ (List.mem_of_getElem? (i := 11) rfl)
theorem kw620 : Cond.methodLink RX7 78 yX7_beginsOne ∈ wsL_law := inR76 _ (List.mem_of_getElem? (i := 10) rfl)
theorem kw621 : Cond.methodLink RX7 67 yX9_refuse ∈ wsL_law := inR76 _ (List.mem_of_getElem? (i := 16) rfl)
theorem kw622 : Cond.fieldLink RX7 46 "SignedBridge$Sentence" "within" "I" ∈ wsL_law := inR76 _ (List.mem_of_getElem? (i := 3) rfl)
theorem kw623 : Cond.code yX9_isKey cX9_isKey 2 (some .boolean) ∈ wsL_law := inR18 _ (List.mem_of_getElem? (i := 8) rfl)
theorem kw624 : Cond.instanceMethod yX9_isKey ∈ wsL_law := inR18 _ (List.mem_of_getElem? (i := 6) rfl)
theorem kw625 : Cond.selects RX9 yX9_isKey yX9_isKey ∈ wsL_law := inR18 _ (List.mem_of_getElem? (i := 7) rfl)
theorem kw626 : Cond.methodLink RX7 81 yX9_isKey ∈ wsL_law := inR76 _ (List.mem_of_getElem? (i := 17) rfl)
theorem kw627 : Cond.code yX7_readSaying cX7_readSaying 5 (some .boolean) ∈ wsL_law := inR76 _ (List.mem_of_getElem? (i := 21) rfl)
theorem kw628 : Cond.instanceMethod yX7_readSaying ∈ wsL_law := inR76 _ (List.mem_of_getElem? (i := 19) rfl)
theorem kw629 : Cond.selects RX7 yX7_readSaying yX7_readSaying ∈ wsL_law := inR76 _ (List.mem_of_getElem? (i := 20) rfl)
theorem kw630 : Cond.methodLink RX7 87 yX7_readSaying ∈ wsL_law := inR76 _ (List.mem_of_getElem? (i := 18) rfl)
theorem kw631 : Cond.code yX7_settleNots cX7_settleNots 2 (some .boolean) ∈ wsL_law := inR77 _ (List.mem_of_getElem? (i := 12) rfl)
theorem kw632 : Cond.instanceMethod yX7_settleNots ∈ wsL_law := inR77 _ (List.mem_of_getElem? (i := 10) rfl)
theorem kw633 : Cond.selects RX7 yX7_settleNots yX7_settleNots ∈ wsL_law := inR77 _ (List.mem_of_getElem? (i := 11) rfl)
theorem kw634 : Cond.methodLink RX7 90 yX7_settleNots ∈ wsL_law := inR77 _ (List.mem_of_getElem? (i := 9) rfl)
theorem kw635 : Cond.code yX7_delay cX7_delay 2 none ∈ wsL_law := inR77 _ (List.mem_of_getElem? (i := 16) rfl)
theorem kw636 : Cond.instanceMethod yX7_delay ∈ wsL_law := inR77 _ (List.mem_of_getElem? (i := 14) rfl)
theorem kw637 : Cond.selects RX7 yX7_delay yX7_delay ∈ wsL_law := inR77 _ (List.mem_of_getElem? (i := 15) rfl)
theorem kw638 : Cond.methodLink RX7 93 yX7_delay ∈ wsL_law := inR77 _ (List.mem_of_getElem? (i := 13) rfl)
theorem kw639 : Cond.methodLink RX7 96 yX9_advance ∈ wsL_law := inR76 _ (List.mem_of_getElem? (i := 23) rfl)
theorem kw640 : Cond.methodLink RX7 40 yX7_forget ∈ wsL_law := inR76 _ (List.mem_of_getElem? (i := 4) rfl)
theorem kw641 : Cond.fieldLink RX7 43 "SignedBridge$Sentence" "delays" "I" ∈ wsL_law := inR76 _ (List.mem_of_getElem? (i := 2) rfl)
theorem kw642 : Cond.methodLink RX7 49 yX9_begin ∈ wsL_law := inR76 _ (List.mem_of_getElem? (i := 5) rfl)
theorem kw643 : Cond.code yX7_readOne cX7_readOne 5 (some .boolean) ∈ wsL_law := inR76 _ (List.mem_of_getElem? (i := 9) rfl)
theorem kw644 : Cond.instanceMethod yX7_readOne ∈ wsL_law := inR76 _ (List.mem_of_getElem? (i := 7) rfl)
theorem kw645 : Cond.selects RX7 yX7_readOne yX7_readOne ∈ wsL_law := inR76 _ (List.mem_of_getElem? (i := 8) rfl)
theorem kw646 : Cond.methodLink RX7 55 yX7_readOne ∈ wsL_law := inR76 _ (List.mem_of_getElem? (i := 6) rfl)
theorem kw647 : Cond.code yX7_closeBrackets cX7_closeBrackets 3 none ∈ wsL_law := inR77 _ (List.mem_of_getElem? (i := 20) rfl)
theorem kw648 : Cond.instanceMethod yX7_closeBrackets ∈ wsL_law := inR77 _ (List.mem_of_getElem? (i := 18) rfl)
theorem kw649 : Cond.selects RX7 yX7_closeBrackets yX7_closeBrackets ∈ wsL_law := inR77 _ (List.mem_of_getElem? (i := 19) rfl)
theorem kw650 : Cond.methodLink RX7 59 yX7_closeBrackets ∈ wsL_law := inR77 _ (List.mem_of_getElem? (i := 17) rfl)
theorem kw651 : Cond.code yX7_readJoin cX7_readJoin 2 (some .boolean) ∈ wsL_law := inR78 _ (List.mem_of_getElem? (i := 4) rfl)
theorem kw652 : Cond.instanceMethod yX7_readJoin ∈ wsL_law := inR78 _ (List.mem_of_getElem? (i := 2) rfl)
theorem kw653 : Cond.selects RX7 yX7_readJoin yX7_readJoin ∈ wsL_law := inR78 _ (List.mem_of_getElem? (i := 3) rfl)
theorem kw654 : Cond.methodLink RX7 63 yX7_readJoin ∈ wsL_law := inR78 _ (List.mem_of_getElem? (i := 1) rfl)
theorem kw655 : Cond.code yX7_settle cX7_settle 4 none ∈ wsL_law := inR78 _ (List.mem_of_getElem? (i := 0) rfl)
theorem kw656 : Cond.instanceMethod yX7_settle ∈ wsL_law := inR77 _ (List.mem_of_getElem? (i := 22) rfl)
theorem kw657 : Cond.selects RX7 yX7_settle yX7_settle ∈ wsL_law := inR77 _ (List.mem_of_getElem? (i := 23) rfl)
theorem kw658 : Cond.methodLink RX7 71 yX7_settle ∈ wsL_law := inR77 _ (List.mem_of_getElem? (i := 21) rfl)
theorem kw659 : Cond.methodLink RX7 74 yX9_takeEnd ∈ wsL_law := inR78 _ (List.mem_of_getElem? (i := 5) rfl)
theorem kw660 : Cond.code yX7_read cX7_read 5 (some .boolean) ∈ wsL_law := inR76 _ (List.mem_of_getElem? (i := 1) rfl)
theorem kw661 : Cond.instanceMethod yX7_read ∈ wsL_law := inR75 _ (List.mem_of_getElem? (i := 23) rfl)
theorem kw662 : Cond.selects RX7 yX7_read yX7_read ∈ wsL_law := inR76 _ (List.mem_of_getElem? (i := 0) rfl)
theorem kw663 : Cond.methodLink RX11 388 yX7_read ∈ wsL_law := inR75 _ (List.mem_of_getElem? (i := 22) rfl)
theorem kw664 : Cond.code yX8_putPlank cX8_putPlank 3 (some .int) ∈ wsL_law := inR35 _ (List.mem_of_getElem? (i := 0) rfl)
theorem kw665 : Cond.instanceMethod yX8_putPlank ∈ wsL_law := inR34 _ (List.mem_of_getElem? (i := 22) rfl)
theorem kw666 : Cond.selects RX8 yX8_putPlank yX8_putPlank ∈ wsL_law := inR34 _ (List.mem_of_getElem? (i := 23) rfl)
theorem kw667 : Cond.methodLink RX11 240 yX8_putPlank ∈ wsL_law := inR34 _ (List.mem_of_getElem? (i := 21) rfl)
theorem kw668 : Cond.fieldLink RX11 157 "SignedBridge$State" "earnest" "[I" ∈ wsL_law := inR27 _ (List.mem_of_getElem? (i := 19) rfl)
theorem kw669 : Cond.fieldLink RX11 161 "SignedBridge$Plan" "miles" "[I" ∈ wsL_law := inR27 _ (List.mem_of_getElem? (i := 20) rfl)
theorem kw670 : Cond.fieldLink RX11 166 "SignedBridge$Plan" "heir" "[I" ∈ wsL_law := inR27 _ (List.mem_of_getElem? (i := 22) rfl)
theorem kw671 : Cond.fieldLink RX11 169 "SignedBridge$Plan" "loves" "[I" ∈ wsL_law := inR27 _ (List.mem_of_getElem? (i := 23) rfl)
theorem kw672 : Cond.methodLink RX11 172 yX8_lives ∈ wsL_law := inR28 _ (List.mem_of_getElem? (i := 7) rfl)
theorem kw673 : Cond.fieldLink RX11 175 "SignedBridge$State" "held" "[I" ∈ wsL_law := inR28 _ (List.mem_of_getElem? (i := 0) rfl)
theorem kw674 : Cond.fieldLink RX11 178 "SignedBridge$State" "died" "[I" ∈ wsL_law := inR28 _ (List.mem_of_getElem? (i := 1) rfl)
theorem kw675 : Cond.fieldLink RX11 327 "SignedBridge$Forgers" "common" "I" ∈ wsL_law := inR58 _ (List.mem_of_getElem? (i := 0) rfl)
theorem kw676 : Cond.fieldLink RX11 330 "SignedBridge$Forgers" "telling" "I" ∈ wsL_law := inR58 _ (List.mem_of_getElem? (i := 9) rfl)
theorem kw677 : Cond.fieldLink RX11 385 "SignedBridge$Book" "verdict" "[I" ∈ wsL_law := inR75 _ (List.mem_of_getElem? (i := 12) rfl)
theorem kw678 : Cond.code yX10_countOnPath cX10_countOnPath 9 (some .int) ∈ wsL_law := inR60 _ (List.mem_of_getElem? (i := 16) rfl)
theorem kw679 : Cond.instanceMethod yX10_countOnPath ∈ wsL_law := inR60 _ (List.mem_of_getElem? (i := 14) rfl)
theorem kw680 : Cond.selects RX10 yX10_countOnPath yX10_countOnPath ∈ wsL_law := inR60 _ (List.mem_of_getElem? (i := 15) rfl)
theorem kw681 : Cond.methodLink RX11 340 yX10_countOnPath ∈ wsL_law := inR60 _ (List.mem_of_getElem? (i := 13) rfl)
theorem kw682 : Cond.fieldLink RX12 127 "SignedBridgeModel" "whose" "[I" ∈ wsL_law := inR9 _ (List.mem_of_getElem? (i := 19) rfl)
theorem kw683 : Cond.fieldLink RX12 98 "SignedBridgeModel" "now" "[I" ∈ wsL_law := inR9 _ (List.mem_of_getElem? (i := 10) rfl)
theorem kw684 : Cond.fieldLink RX12 267 "SignedBridgeModel" "forging" "I" ∈ wsL_law := inR31 _ (List.mem_of_getElem? (i := 12) rfl)
theorem kw685 : Cond.code yX12_has cX12_has 2 (some .boolean) ∈ wsL_law := inR26 _ (List.mem_of_getElem? (i := 6) rfl)
theorem kw686 : Cond.initialized RX12 ∈ wsL_law := inR1 _ (List.mem_of_getElem? (i := 5) rfl)
theorem kw687 : Cond.static yX12_has ∈ wsL_law := inR26 _ (List.mem_of_getElem? (i := 5) rfl)
theorem kw688 : Cond.methodLink RX12 225 yX12_has ∈ wsL_law := inR26 _ (List.mem_of_getElem? (i := 4) rfl)
theorem kw689 : Cond.code yX12_hasPath cX12_hasPath 2 (some .boolean) ∈ wsL_law := inR41 _ (List.mem_of_getElem? (i := 1) rfl)
theorem kw690 : Cond.instanceMethod yX12_hasPath ∈ wsL_law := inR40 _ (List.mem_of_getElem? (i := 23) rfl)
theorem kw691 : Cond.selects RX12 yX12_hasPath yX12_hasPath ∈ wsL_law := inR41 _ (List.mem_of_getElem? (i := 0) rfl)
theorem kw692 : Cond.methodLink RX12 334 yX12_hasPath ∈ wsL_law := inR40 _ (List.mem_of_getElem? (i := 22) rfl)
theorem kw693 : Cond.fieldLink RX12 1 "SignedBridgeModel" "thrown" "I" ∈ wsL_law := inR11 _ (List.mem_of_getElem? (i := 12) rfl)
theorem kw694 : Cond.code yX12_layWhose cX12_layWhose 2 none ∈ wsL_law := inR31 _ (List.mem_of_getElem? (i := 11) rfl)
theorem kw695 : Cond.instanceMethod yX12_layWhose ∈ wsL_law := inR31 _ (List.mem_of_getElem? (i := 9) rfl)
theorem kw696 : Cond.selects RX12 yX12_layWhose yX12_layWhose ∈ wsL_law := inR31 _ (List.mem_of_getElem? (i := 10) rfl)
theorem kw697 : Cond.methodLink RX12 292 yX12_layWhose ∈ wsL_law := inR31 _ (List.mem_of_getElem? (i := 8) rfl)
theorem kw698 : Cond.code yX12_pathsNow cX12_pathsNow 3 (some .int) ∈ wsL_law := inR50 _ (List.mem_of_getElem? (i := 16) rfl)
theorem kw699 : Cond.instanceMethod yX12_pathsNow ∈ wsL_law := inR50 _ (List.mem_of_getElem? (i := 14) rfl)
theorem kw700 : Cond.selects RX12 yX12_pathsNow yX12_pathsNow ∈ wsL_law := inR50 _ (List.mem_of_getElem? (i := 15) rfl)
theorem kw701 : Cond.methodLink RX12 383 yX12_pathsNow ∈ wsL_law := inR50 _ (List.mem_of_getElem? (i := 13) rfl)
theorem kw702 : Cond.fieldLink RX12 380 "SignedBridgeModel" "askedRows" "I" ∈ wsL_law := inR48 _ (List.mem_of_getElem? (i := 14) rfl)
theorem kw703 : Cond.code yX12_isIn cX12_isIn 3 (some .boolean) ∈ wsL_law := inR24 _ (List.mem_of_getElem? (i := 16) rfl)
theorem kw704 : Cond.static yX12_isIn ∈ wsL_law := inR24 _ (List.mem_of_getElem? (i := 15) rfl)
theorem kw705 : Cond.methodLink RX12 75 yX12_isIn ∈ wsL_law := inR24 _ (List.mem_of_getElem? (i := 14) rfl)
theorem kw706 : Cond.fieldLink RX12 142 "SignedBridgeModel" "asked" "[I" ∈ wsL_law := inR10 _ (List.mem_of_getElem? (i := 0) rfl)
theorem kw707 : Cond.code yX12_isLoad cX12_isLoad 2 (some .boolean) ∈ wsL_law := inR32 _ (List.mem_of_getElem? (i := 20) rfl)
theorem kw708 : Cond.instanceMethod yX12_isLoad ∈ wsL_law := inR32 _ (List.mem_of_getElem? (i := 18) rfl)
theorem kw709 : Cond.selects RX12 yX12_isLoad yX12_isLoad ∈ wsL_law := inR32 _ (List.mem_of_getElem? (i := 19) rfl)
theorem kw710 : Cond.methodLink RX12 295 yX12_isLoad ∈ wsL_law := inR32 _ (List.mem_of_getElem? (i := 17) rfl)
theorem kw711 : Cond.constant RX12 308 (100000) ∈ wsL_law := inR41 _ (List.mem_of_getElem? (i := 10) rfl)
theorem kw712 : Cond.code yX12_follows cX12_follows 2 (some .boolean) ∈ wsL_law := inR41 _ (List.mem_of_getElem? (i := 21) rfl)
theorem kw713 : Cond.static yX12_follows ∈ wsL_law := inR41 _ (List.mem_of_getElem? (i := 20) rfl)
theorem kw714 : Cond.methodLink RX12 309 yX12_follows ∈ wsL_law := inR41 _ (List.mem_of_getElem? (i := 19) rfl)
theorem kw715 : Cond.fieldLink RX12 136 "SignedBridgeModel" "price" "[I" ∈ wsL_law := inR9 _ (List.mem_of_getElem? (i := 22) rfl)
theorem kw716 : Cond.code yX12_least cX12_least 2 (some .int) ∈ wsL_law := inR37 _ (List.mem_of_getElem? (i := 12) rfl)
theorem kw717 : Cond.static yX12_least ∈ wsL_law := inR37 _ (List.mem_of_getElem? (i := 11) rfl)
theorem kw718 : Cond.methodLink RX12 312 yX12_least ∈ wsL_law := inR37 _ (List.mem_of_getElem? (i := 10) rfl)
theorem kw719 : Cond.code yX12_priceAt cX12_priceAt 5 (some .int) ∈ wsL_law := inR48 _ (List.mem_of_getElem? (i := 18) rfl)
theorem kw720 : Cond.instanceMethod yX12_priceAt ∈ wsL_law := inR48 _ (List.mem_of_getElem? (i := 16) rfl)
theorem kw721 : Cond.selects RX12 yX12_priceAt yX12_priceAt ∈ wsL_law := inR48 _ (List.mem_of_getElem? (i := 17) rfl)
theorem kw722 : Cond.methodLink RX12 377 yX12_priceAt ∈ wsL_law := inR48 _ (List.mem_of_getElem? (i := 15) rfl)
theorem kw723 : Cond.fieldLink RX12 139 "SignedBridgeModel" "signs" "[I" ∈ wsL_law := inR9 _ (List.mem_of_getElem? (i := 23) rfl)
theorem kw724 : Cond.fieldLink RX12 30 "SignedBridgeModel" "kind" "I" ∈ wsL_law := inR22 _ (List.mem_of_getElem? (i := 0) rfl)
theorem kw725 : Cond.fieldLink RX12 66 "SignedBridgeModel" "fault" "I" ∈ wsL_law := inR22 _ (List.mem_of_getElem? (i := 9) rfl)
theorem kw726 : Cond.fieldLink RX12 24 "SignedBridgeModel" "from" "I" ∈ wsL_law := inR22 _ (List.mem_of_getElem? (i := 19) rfl)
theorem kw727 : Cond.fieldLink RX12 69 "SignedBridgeModel" "place" "I" ∈ wsL_law := inR22 _ (List.mem_of_getElem? (i := 1) rfl)
theorem kw728 : Cond.code yX12_besides cX12_besides 3 (some .int) ∈ wsL_law := inR31 _ (List.mem_of_getElem? (i := 20) rfl)
theorem kw729 : Cond.instanceMethod yX12_besides ∈ wsL_law := inR31 _ (List.mem_of_getElem? (i := 18) rfl)
theorem kw730 : Cond.selects RX12 yX12_besides yX12_besides ∈ wsL_law := inR31 _ (List.mem_of_getElem? (i := 19) rfl)
theorem kw731 : Cond.methodLink RX12 270 yX12_besides ∈ wsL_law := inR31 _ (List.mem_of_getElem? (i := 17) rfl)
theorem kw732 : Cond.fieldLink RX12 21 "SignedBridgeModel" "to" "I" ∈ wsL_law := inR22 _ (List.mem_of_getElem? (i := 10) rfl)
theorem kw733 : Cond.fieldLink RX12 18 "SignedBridgeModel" "size" "I" ∈ wsL_law := inR22 _ (List.mem_of_getElem? (i := 7) rfl)
theorem kw734 : Cond.fieldLink RX12 7 "SignedBridgeModel" "tape" "[I" ∈ wsL_law := inR9 _ (List.mem_of_getElem? (i := 9) rfl)
theorem kw735 : Cond.fieldLink RX12 27 "SignedBridgeModel" "limit" "I" ∈ wsL_law := inR22 _ (List.mem_of_getElem? (i := 8) rfl)
theorem kw736 : Cond.code yX12_isLetter cX12_isLetter 1 (some .boolean) ∈ wsL_law := inR23 _ (List.mem_of_getElem? (i := 3) rfl)
theorem kw737 : Cond.static yX12_isLetter ∈ wsL_law := inR23 _ (List.mem_of_getElem? (i := 2) rfl)
theorem kw738 : Cond.methodLink RX12 33 yX12_isLetter ∈ wsL_law := inR23 _ (List.mem_of_getElem? (i := 1) rfl)
theorem kw739 : Cond.code yX12_isDigit cX12_isDigit 1 (some .boolean) ∈ wsL_law := inR23 _ (List.mem_of_getElem? (i := 6) rfl)
theorem kw740 : Cond.static yX12_isDigit ∈ wsL_law := inR23 _ (List.mem_of_getElem? (i := 5) rfl)
theorem kw741 : Cond.methodLink RX12 37 yX12_isDigit ∈ wsL_law := inR23 _ (List.mem_of_getElem? (i := 4) rfl)
theorem kw742 : Cond.fieldLink RX12 40 "SignedBridgeModel" "sign" "I" ∈ wsL_law := inR22 _ (List.mem_of_getElem? (i := 20) rfl)
theorem kw743 : Cond.fieldLink RX12 43 "SignedBridgeModel" "word" "J" ∈ wsL_law := inR22 _ (List.mem_of_getElem? (i := 21) rfl)
theorem kw744 : Cond.fieldLink RX12 47 "SignedBridgeModel" "number" "I" ∈ wsL_law := inR22 _ (List.mem_of_getElem? (i := 22) rfl)
theorem kw745 : Cond.code yX12_tapeAt cX12_tapeAt 2 (some .int) ∈ wsL_law := inR23 _ (List.mem_of_getElem? (i := 10) rfl)
theorem kw746 : Cond.instanceMethod yX12_tapeAt ∈ wsL_law := inR23 _ (List.mem_of_getElem? (i := 8) rfl)
theorem kw747 : Cond.selects RX12 yX12_tapeAt yX12_tapeAt ∈ wsL_law := inR23 _ (List.mem_of_getElem? (i := 9) rfl)
theorem kw748 : Cond.methodLink RX12 50 yX12_tapeAt ∈ wsL_law := inR23 _ (List.mem_of_getElem? (i := 7) rfl)
theorem kw749 : Cond.constantLong RX12 54 (27) ∈ wsL_law := inR22 _ (List.mem_of_getElem? (i := 23) rfl)
theorem kw750 : Cond.constantLong RX12 56 (96) ∈ wsL_law := inR23 _ (List.mem_of_getElem? (i := 0) rfl)
theorem kw751 : Cond.fieldLink RX12 11 "SignedBridgeModel" "taped" "I" ∈ wsL_law := inR11 _ (List.mem_of_getElem? (i := 13) rfl)
theorem kw752 : Cond.code yX12_take cX12_take 2 (some .int) ∈ wsL_law := inR22 _ (List.mem_of_getElem? (i := 14) rfl)
theorem kw753 : Cond.instanceMethod yX12_take ∈ wsL_law := inR22 _ (List.mem_of_getElem? (i := 12) rfl)
theorem kw754 : Cond.selects RX12 yX12_take yX12_take ∈ wsL_law := inR22 _ (List.mem_of_getElem? (i := 13) rfl)
theorem kw755 : Cond.methodLink RX12 89 yX12_take ∈ wsL_law := inR22 _ (List.mem_of_getElem? (i := 11) rfl)
theorem kw756 : Cond.code yX12_go cX12_go 5 none ∈ wsL_law := inR22 _ (List.mem_of_getElem? (i := 18) rfl)
theorem kw757 : Cond.instanceMethod yX12_go ∈ wsL_law := inR22 _ (List.mem_of_getElem? (i := 16) rfl)
theorem kw758 : Cond.selects RX12 yX12_go yX12_go ∈ wsL_law := inR22 _ (List.mem_of_getElem? (i := 17) rfl)
theorem kw759 : Cond.methodLink RX12 82 yX12_go ∈ wsL_law := inR22 _ (List.mem_of_getElem? (i := 15) rfl)
theorem kw760 : Cond.fieldLink RX12 110 "SignedBridgeModel" "aside" "[I" ∈ wsL_law := inR9 _ (List.mem_of_getElem? (i := 14) rfl)
theorem kw761 : Cond.fieldLink RX12 258 "SignedBridgeModel" "snapMany" "I" ∈ wsL_law := inR22 _ (List.mem_of_getElem? (i := 2) rfl)
theorem kw762 : Cond.fieldLink RX12 107 "SignedBridgeModel" "snaps" "[I" ∈ wsL_law := inR9 _ (List.mem_of_getElem? (i := 13) rfl)
theorem kw763 : Cond.code yX12_snap cX12_snap 2 none ∈ wsL_law := inR35 _ (List.mem_of_getElem? (i := 21) rfl)
theorem kw764 : Cond.instanceMethod yX12_snap ∈ wsL_law := inR35 _ (List.mem_of_getElem? (i := 19) rfl)
theorem kw765 : Cond.selects RX12 yX12_snap yX12_snap ∈ wsL_law := inR35 _ (List.mem_of_getElem? (i := 20) rfl)
theorem kw766 : Cond.methodLink RX12 343 yX12_snap ∈ wsL_law := inR35 _ (List.mem_of_getElem? (i := 18) rfl)
theorem kw767 : Cond.code yX12_takeBack cX12_takeBack 2 none ∈ wsL_law := inR59 _ (List.mem_of_getElem? (i := 18) rfl)
theorem kw768 : Cond.instanceMethod yX12_takeBack ∈ wsL_law := inR59 _ (List.mem_of_getElem? (i := 16) rfl)
theorem kw769 : Cond.selects RX12 yX12_takeBack yX12_takeBack ∈ wsL_law := inR59 _ (List.mem_of_getElem? (i := 17) rfl)
theorem kw770 : Cond.methodLink RX12 415 yX12_takeBack ∈ wsL_law := inR59 _ (List.mem_of_getElem? (i := 15) rfl)
theorem kw771 : Cond.code yX12_begin cX12_begin 2 none ∈ wsL_law := inR22 _ (List.mem_of_getElem? (i := 6) rfl)
theorem kw772 : Cond.instanceMethod yX12_begin ∈ wsL_law := inR22 _ (List.mem_of_getElem? (i := 4) rfl)
theorem kw773 : Cond.selects RX12 yX12_begin yX12_begin ∈ wsL_law := inR22 _ (List.mem_of_getElem? (i := 5) rfl)
theorem kw774 : Cond.methodLink RX12 249 yX12_begin ∈ wsL_law := inR22 _ (List.mem_of_getElem? (i := 3) rfl)
theorem kw775 : Cond.fieldLink RX12 450 "SignedBridgeModel" "lineMany" "I" ∈ wsL_law := inR73 _ (List.mem_of_getElem? (i := 22) rfl)
theorem kw776 : Cond.code yX12_readBookLine cX12_readBookLine 1 (some .boolean) ∈ wsL_law := inR74 _ (List.mem_of_getElem? (i := 3) rfl)
theorem kw777 : Cond.instanceMethod yX12_readBookLine ∈ wsL_law := inR74 _ (List.mem_of_getElem? (i := 1) rfl)
theorem kw778 : Cond.selects RX12 yX12_readBookLine yX12_readBookLine ∈ wsL_law := inR74 _ (List.mem_of_getElem? (i := 2) rfl)
theorem kw779 : Cond.methodLink RX12 456 yX12_readBookLine ∈ wsL_law := inR74 _ (List.mem_of_getElem? (i := 0) rfl)
theorem kw780 : Cond.code yX12_layAside cX12_layAside 2 none ∈ wsL_law := inR59 _ (List.mem_of_getElem? (i := 10) rfl)
theorem kw781 : Cond.instanceMethod yX12_layAside ∈ wsL_law := inR59 _ (List.mem_of_getElem? (i := 8) rfl)
theorem kw782 : Cond.selects RX12 yX12_layAside yX12_layAside ∈ wsL_law := inR59 _ (List.mem_of_getElem? (i := 9) rfl)
theorem kw783 : Cond.methodLink RX12 409 yX12_layAside ∈ wsL_law := inR59 _ (List.mem_of_getElem? (i := 7) rfl)
theorem kw784 : Cond.code yX12_whyLine cX12_whyLine 4 (some .int) ∈ wsL_law := inR74 _ (List.mem_of_getElem? (i := 23) rfl)
theorem kw785 : Cond.instanceMethod yX12_whyLine ∈ wsL_law := inR74 _ (List.mem_of_getElem? (i := 21) rfl)
theorem kw786 : Cond.selects RX12 yX12_whyLine yX12_whyLine ∈ wsL_law := inR74 _ (List.mem_of_getElem? (i := 22) rfl)
theorem kw787 : Cond.methodLink RX12 459 yX12_whyLine ∈ wsL_law := inR74 _ (List.mem_of_getElem? (i := 20) rfl)
theorem kw788 : Cond.fieldLink RX12 175 "SignedBridgeModel" "line" "[I" ∈ wsL_law := inR10 _ (List.mem_of_getElem? (i := 11) rfl)
theorem kw789 : Cond.code yX12_live cX12_live 4 none ∈ wsL_law := inR75 _ (List.mem_of_getElem? (i := 3) rfl)
theorem kw790 : Cond.instanceMethod yX12_live ∈ wsL_law := inR75 _ (List.mem_of_getElem? (i := 1) rfl)
theorem kw791 : Cond.selects RX12 yX12_live yX12_live ∈ wsL_law := inR75 _ (List.mem_of_getElem? (i := 2) rfl)
theorem kw792 : Cond.methodLink RX12 462 yX12_live ∈ wsL_law := inR75 _ (List.mem_of_getElem? (i := 0) rfl)
theorem kw793 : Cond.fieldLink RX12 178 "SignedBridgeModel" "written" "[I" ∈ wsL_law := inR10 _ (List.mem_of_getElem? (i := 12) rfl)
theorem kw794 : Cond.fieldLink RX12 465 "SignedBridgeModel" "hasWritten" "Z" ∈ wsL_law := inR73 _ (List.mem_of_getElem? (i := 23) rfl)
theorem kw795 : Cond.code yX12_stay cX12_stay 4 none ∈ wsL_law := inR75 _ (List.mem_of_getElem? (i := 7) rfl)
theorem kw796 : Cond.instanceMethod yX12_stay ∈ wsL_law := inR75 _ (List.mem_of_getElem? (i := 5) rfl)
theorem kw797 : Cond.selects RX12 yX12_stay yX12_stay ∈ wsL_law := inR75 _ (List.mem_of_getElem? (i := 6) rfl)
theorem kw798 : Cond.methodLink RX12 468 yX12_stay ∈ wsL_law := inR75 _ (List.mem_of_getElem? (i := 4) rfl)
theorem kw799 : Cond.code yX12_isSigner cX12_isSigner 2 (some .boolean) ∈ wsL_law := inR28 _ (List.mem_of_getElem? (i := 18) rfl)
theorem kw800 : Cond.instanceMethod yX12_isSigner ∈ wsL_law := inR28 _ (List.mem_of_getElem? (i := 16) rfl)
theorem kw801 : Cond.selects RX12 yX12_isSigner yX12_isSigner ∈ wsL_law := inR28 _ (List.mem_of_getElem? (i := 17) rfl)
theorem kw802 : Cond.methodLink RX12 277 yX12_isSigner ∈ wsL_law := inR28 _ (List.mem_of_getElem? (i := 15) rfl)
theorem kw803 : Cond.code yX12_isDead cX12_isDead 2 (some .boolean) ∈ wsL_law := inR29 _ (List.mem_of_getElem? (i := 2) rfl)
theorem kw804 : Cond.instanceMethod yX12_isDead ∈ wsL_law := inR29 _ (List.mem_of_getElem? (i := 0) rfl)
theorem kw805 : Cond.selects RX12 yX12_isDead yX12_isDead ∈ wsL_law := inR29 _ (List.mem_of_getElem? (i := 1) rfl)
theorem kw806 : Cond.methodLink RX12 283 yX12_isDead ∈ wsL_law := inR28 _ (List.mem_of_getElem? (i := 23) rfl)
theorem kw807 : Cond.fieldLink RX12 101 "SignedBridgeModel" "read" "[I" ∈ wsL_law := inR9 _ (List.mem_of_getElem? (i := 11) rfl)
theorem kw808 : Cond.code yX12_startRead cX12_startRead 2 none ∈ wsL_law := inR10 _ (List.mem_of_getElem? (i := 17) rfl)
theorem kw809 : Cond.instanceMethod yX12_startRead ∈ wsL_law := inR10 _ (List.mem_of_getElem? (i := 15) rfl)
theorem kw810 : Cond.selects RX12 yX12_startRead yX12_startRead ∈ wsL_law := inR10 _ (List.mem_of_getElem? (i := 16) rfl)
theorem kw811 : Cond.methodLink RX12 184 yX12_startRead ∈ wsL_law := inR10 _ (List.mem_of_getElem? (i := 14) rfl)
theorem kw812 : Cond.fieldLink RX12 198 "SignedBridgeModel" "hasRows" "Z" ∈ wsL_law := inR21 _ (List.mem_of_getElem? (i := 21) rfl)
theorem kw813 : Cond.fieldLink RX12 246 "SignedBridgeModel" "hasKeeps" "Z" ∈ wsL_law := inR21 _ (List.mem_of_getElem? (i := 22) rfl)
theorem kw814 : Cond.fieldLink RX12 202 "SignedBridgeModel" "hasPlank" "Z" ∈ wsL_law := inR21 _ (List.mem_of_getElem? (i := 23) rfl)
theorem kw815 : Cond.code yX12_readLine cX12_readLine 1 (some .boolean) ∈ wsL_law := inR23 _ (List.mem_of_getElem? (i := 14) rfl)
theorem kw816 : Cond.instanceMethod yX12_readLine ∈ wsL_law := inR23 _ (List.mem_of_getElem? (i := 12) rfl)
theorem kw817 : Cond.selects RX12 yX12_readLine yX12_readLine ∈ wsL_law := inR23 _ (List.mem_of_getElem? (i := 13) rfl)
theorem kw818 : Cond.methodLink RX12 252 yX12_readLine ∈ wsL_law := inR23 _ (List.mem_of_getElem? (i := 11) rfl)
theorem kw819 : Cond.code yX12_readEnd cX12_readEnd 1 (some .boolean) ∈ wsL_law := inR26 _ (List.mem_of_getElem? (i := 18) rfl)
theorem kw820 : Cond.instanceMethod yX12_readEnd ∈ wsL_law := inR26 _ (List.mem_of_getElem? (i := 16) rfl)
theorem kw821 : Cond.selects RX12 yX12_readEnd yX12_readEnd ∈ wsL_law := inR26 _ (List.mem_of_getElem? (i := 17) rfl)
theorem kw822 : Cond.methodLink RX12 255 yX12_readEnd ∈ wsL_law := inR26 _ (List.mem_of_getElem? (i := 15) rfl)
theorem kw823 : Cond.fieldLink RX12 113 "SignedBridgeModel" "name" "[J" ∈ wsL_law := inR9 _ (List.mem_of_getElem? (i := 15) rfl)
theorem kw824 : Cond.fieldLink RX12 117 "SignedBridgeModel" "readName" "[J" ∈ wsL_law := inR9 _ (List.mem_of_getElem? (i := 16) rfl)
theorem kw825 : Cond.code yX12_startSo cX12_startSo 2 none ∈ wsL_law := inR10 _ (List.mem_of_getElem? (i := 21) rfl)
theorem kw826 : Cond.instanceMethod yX12_startSo ∈ wsL_law := inR10 _ (List.mem_of_getElem? (i := 19) rfl)
theorem kw827 : Cond.selects RX12 yX12_startSo yX12_startSo ∈ wsL_law := inR10 _ (List.mem_of_getElem? (i := 20) rfl)
theorem kw828 : Cond.methodLink RX12 187 yX12_startSo ∈ wsL_law := inR10 _ (List.mem_of_getElem? (i := 18) rfl)
theorem kw829 : Cond.code yX12_isRow cX12_isRow 2 (some .boolean) ∈ wsL_law := inR31 _ (List.mem_of_getElem? (i := 7) rfl)
theorem kw830 : Cond.instanceMethod yX12_isRow ∈ wsL_law := inR31 _ (List.mem_of_getElem? (i := 5) rfl)
theorem kw831 : Cond.selects RX12 yX12_isRow yX12_isRow ∈ wsL_law := inR31 _ (List.mem_of_getElem? (i := 6) rfl)
theorem kw832 : Cond.methodLink RX12 261 yX12_isRow ∈ wsL_law := inR31 _ (List.mem_of_getElem? (i := 4) rfl)
theorem kw833 : Cond.code yX12_isPlace cX12_isPlace 3 (some .boolean) ∈ wsL_law := inR31 _ (List.mem_of_getElem? (i := 3) rfl)
theorem kw834 : Cond.instanceMethod yX12_isPlace ∈ wsL_law := inR31 _ (List.mem_of_getElem? (i := 1) rfl)
theorem kw835 : Cond.selects RX12 yX12_isPlace yX12_isPlace ∈ wsL_law := inR31 _ (List.mem_of_getElem? (i := 2) rfl)
theorem kw836 : Cond.methodLink RX12 289 yX12_isPlace ∈ wsL_law := inR31 _ (List.mem_of_getElem? (i := 0) rfl)
theorem kw837 : Cond.code yX12_doBurn cX12_doBurn 2 none ∈ wsL_law := inR37 _ (List.mem_of_getElem? (i := 1) rfl)
theorem kw838 : Cond.instanceMethod yX12_doBurn ∈ wsL_law := inR36 _ (List.mem_of_getElem? (i := 23) rfl)
theorem kw839 : Cond.selects RX12 yX12_doBurn yX12_doBurn ∈ wsL_law := inR37 _ (List.mem_of_getElem? (i := 0) rfl)
theorem kw840 : Cond.methodLink RX12 349 yX12_doBurn ∈ wsL_law := inR36 _ (List.mem_of_getElem? (i := 22) rfl)
theorem kw841 : Cond.fieldLink RX12 418 "SignedBridgeModel" "texts" "I" ∈ wsL_law := inR67 _ (List.mem_of_getElem? (i := 22) rfl)
theorem kw842 : Cond.fieldLink RX12 172 "SignedBridgeModel" "text" "[I" ∈ wsL_law := inR10 _ (List.mem_of_getElem? (i := 10) rfl)
theorem kw843 : Cond.code yX12_doCross cX12_doCross 2 (some .int) ∈ wsL_law := inR40 _ (List.mem_of_getElem? (i := 21) rfl)
theorem kw844 : Cond.instanceMethod yX12_doCross ∈ wsL_law := inR40 _ (List.mem_of_getElem? (i := 19) rfl)
theorem kw845 : Cond.selects RX12 yX12_doCross yX12_doCross ∈ wsL_law := inR40 _ (List.mem_of_getElem? (i := 20) rfl)
theorem kw846 : Cond.methodLink RX12 358 yX12_doCross ∈ wsL_law := inR40 _ (List.mem_of_getElem? (i := 18) rfl)
theorem kw847 : Cond.code yX12_canCut cX12_canCut 8 (some .boolean) ∈ wsL_law := inR53 _ (List.mem_of_getElem? (i := 7) rfl)
theorem kw848 : Cond.instanceMethod yX12_canCut ∈ wsL_law := inR53 _ (List.mem_of_getElem? (i := 5) rfl)
theorem kw849 : Cond.selects RX12 yX12_canCut yX12_canCut ∈ wsL_law := inR53 _ (List.mem_of_getElem? (i := 6) rfl)
theorem kw850 : Cond.methodLink RX12 386 yX12_canCut ∈ wsL_law := inR53 _ (List.mem_of_getElem? (i := 4) rfl)
theorem kw851 : Cond.fieldLink RX12 390 "SignedBridgeModel" "cuts" "I" ∈ wsL_law := inR53 _ (List.mem_of_getElem? (i := 3) rfl)
theorem kw852 : Cond.fieldLink RX12 151 "SignedBridgeModel" "cutAt" "[I" ∈ wsL_law := inR10 _ (List.mem_of_getElem? (i := 3) rfl)
theorem kw853 : Cond.fieldLink RX12 148 "SignedBridgeModel" "cutting" "[I" ∈ wsL_law := inR10 _ (List.mem_of_getElem? (i := 2) rfl)
theorem kw854 : Cond.code yX12_inherit cX12_inherit 4 none ∈ wsL_law := inR43 _ (List.mem_of_getElem? (i := 18) rfl)
theorem kw855 : Cond.instanceMethod yX12_inherit ∈ wsL_law := inR43 _ (List.mem_of_getElem? (i := 16) rfl)
theorem kw856 : Cond.selects RX12 yX12_inherit yX12_inherit ∈ wsL_law := inR43 _ (List.mem_of_getElem? (i := 17) rfl)
theorem kw857 : Cond.methodLink RX12 361 yX12_inherit ∈ wsL_law := inR43 _ (List.mem_of_getElem? (i := 15) rfl)
theorem kw858 : Cond.code yX12_oneDay cX12_oneDay 2 none ∈ wsL_law := inR43 _ (List.mem_of_getElem? (i := 14) rfl)
theorem kw859 : Cond.instanceMethod yX12_oneDay ∈ wsL_law := inR43 _ (List.mem_of_getElem? (i := 12) rfl)
theorem kw860 : Cond.selects RX12 yX12_oneDay yX12_oneDay ∈ wsL_law := inR43 _ (List.mem_of_getElem? (i := 13) rfl)
theorem kw861 : Cond.methodLink RX12 364 yX12_oneDay ∈ wsL_law := inR43 _ (List.mem_of_getElem? (i := 11) rfl)
theorem kw862 : Cond.code yX12_passDays cX12_passDays 4 (some .int) ∈ wsL_law := inR43 _ (List.mem_of_getElem? (i := 10) rfl)
theorem kw863 : Cond.instanceMethod yX12_passDays ∈ wsL_law := inR43 _ (List.mem_of_getElem? (i := 8) rfl)
theorem kw864 : Cond.selects RX12 yX12_passDays yX12_passDays ∈ wsL_law := inR43 _ (List.mem_of_getElem? (i := 9) rfl)
theorem kw865 : Cond.methodLink RX12 367 yX12_passDays ∈ wsL_law := inR43 _ (List.mem_of_getElem? (i := 7) rfl)
theorem kw866 : Cond.code yX12_doDie cX12_doDie 2 none ∈ wsL_law := inR39 _ (List.mem_of_getElem? (i := 8) rfl)
theorem kw867 : Cond.instanceMethod yX12_doDie ∈ wsL_law := inR39 _ (List.mem_of_getElem? (i := 6) rfl)
theorem kw868 : Cond.selects RX12 yX12_doDie yX12_doDie ∈ wsL_law := inR39 _ (List.mem_of_getElem? (i := 7) rfl)
theorem kw869 : Cond.methodLink RX12 355 yX12_doDie ∈ wsL_law := inR39 _ (List.mem_of_getElem? (i := 5) rfl)
theorem kw870 : Cond.code yX12_drawDays cX12_drawDays 6 (some .int) ∈ wsL_law := inR70 _ (List.mem_of_getElem? (i := 8) rfl)
theorem kw871 : Cond.instanceMethod yX12_drawDays ∈ wsL_law := inR70 _ (List.mem_of_getElem? (i := 6) rfl)
theorem kw872 : Cond.selects RX12 yX12_drawDays yX12_drawDays ∈ wsL_law := inR70 _ (List.mem_of_getElem? (i := 7) rfl)
theorem kw873 : Cond.methodLink RX12 438 yX12_drawDays ∈ wsL_law := inR70 _ (List.mem_of_getElem? (i := 5) rfl)
theorem kw874 : Cond.code yX12_come cX12_come 3 none ∈ wsL_law := inR11 _ (List.mem_of_getElem? (i := 17) rfl)
theorem kw875 : Cond.instanceMethod yX12_come ∈ wsL_law := inR11 _ (List.mem_of_getElem? (i := 15) rfl)
theorem kw876 : Cond.selects RX12 yX12_come yX12_come ∈ wsL_law := inR11 _ (List.mem_of_getElem? (i := 16) rfl)
theorem kw877 : Cond.methodLink RX12 14 yX12_come ∈ wsL_law := inR11 _ (List.mem_of_getElem? (i := 14) rfl)
theorem kw878 : Cond.fieldLink RX12 163 "SignedBridgeModel" "passes" "[I" ∈ wsL_law := inR10 _ (List.mem_of_getElem? (i := 7) rfl)
theorem kw879 : Cond.code yX12_loadsOver cX12_loadsOver 3 (some .int) ∈ wsL_law := inR57 _ (List.mem_of_getElem? (i := 19) rfl)
theorem kw880 : Cond.instanceMethod yX12_loadsOver ∈ wsL_law := inR57 _ (List.mem_of_getElem? (i := 17) rfl)
theorem kw881 : Cond.selects RX12 yX12_loadsOver yX12_loadsOver ∈ wsL_law := inR57 _ (List.mem_of_getElem? (i := 18) rfl)
theorem kw882 : Cond.methodLink RX12 406 yX12_loadsOver ∈ wsL_law := inR57 _ (List.mem_of_getElem? (i := 16) rfl)
theorem kw883 : Cond.fieldLink RX12 166 "SignedBridgeModel" "surely" "I" ∈ wsL_law := inR10 _ (List.mem_of_getElem? (i := 8) rfl)
theorem kw884 : Cond.fieldLink RX12 169 "SignedBridgeModel" "tells" "I" ∈ wsL_law := inR10 _ (List.mem_of_getElem? (i := 9) rfl)
theorem kw885 : Cond.code yX12_size cX12_size 1 (some .int) ∈ wsL_law := inR42 _ (List.mem_of_getElem? (i := 0) rfl)
theorem kw886 : Cond.static yX12_size ∈ wsL_law := inR41 _ (List.mem_of_getElem? (i := 23) rfl)
theorem kw887 : Cond.methodLink RX12 302 yX12_size ∈ wsL_law := inR41 _ (List.mem_of_getElem? (i := 22) rfl)
theorem kw888 : Cond.code yX12_whyHold cX12_whyHold 2 (some .int) ∈ wsL_law := inR38 _ (List.mem_of_getElem? (i := 16) rfl)
theorem kw889 : Cond.instanceMethod yX12_whyHold ∈ wsL_law := inR38 _ (List.mem_of_getElem? (i := 14) rfl)
theorem kw890 : Cond.selects RX12 yX12_whyHold yX12_whyHold ∈ wsL_law := inR38 _ (List.mem_of_getElem? (i := 15) rfl)
theorem kw891 : Cond.methodLink RX12 352 yX12_whyHold ∈ wsL_law := inR38 _ (List.mem_of_getElem? (i := 13) rfl)
theorem kw892 : Cond.fieldLink RX12 104 "SignedBridgeModel" "kept" "[I" ∈ wsL_law := inR9 _ (List.mem_of_getElem? (i := 12) rfl)
theorem kw893 : Cond.fieldLink RX12 120 "SignedBridgeModel" "keptName" "[J" ∈ wsL_law := inR9 _ (List.mem_of_getElem? (i := 17) rfl)
theorem kw894 : Cond.fieldLink RX12 123 "SignedBridgeModel" "isKept" "[Z" ∈ wsL_law := inR9 _ (List.mem_of_getElem? (i := 18) rfl)
theorem kw895 : Cond.methodLink RX12 93 objectInit ∈ wsL_law := inR9 _ (List.mem_of_getElem? (i := 8) rfl)
theorem kw896 : Cond.fieldLink RX12 130 "SignedBridgeModel" "best" "[I" ∈ wsL_law := inR9 _ (List.mem_of_getElem? (i := 20) rfl)
theorem kw897 : Cond.fieldLink RX12 133 "SignedBridgeModel" "path" "[I" ∈ wsL_law := inR9 _ (List.mem_of_getElem? (i := 21) rfl)
theorem kw898 : Cond.fieldLink RX12 145 "SignedBridgeModel" "trying" "[I" ∈ wsL_law := inR10 _ (List.mem_of_getElem? (i := 1) rfl)
theorem kw899 : Cond.fieldLink RX12 154 "SignedBridgeModel" "order" "[I" ∈ wsL_law := inR10 _ (List.mem_of_getElem? (i := 4) rfl)
theorem kw900 : Cond.fieldLink RX12 157 "SignedBridgeModel" "ordered" "[I" ∈ wsL_law := inR10 _ (List.mem_of_getElem? (i := 5) rfl)
theorem kw901 : Cond.fieldLink RX12 160 "SignedBridgeModel" "held" "[I" ∈ wsL_law := inR10 _ (List.mem_of_getElem? (i := 6) rfl)
theorem kw902 : Cond.fieldLink RX12 181 "SignedBridgeModel" "node" "[I" ∈ wsL_law := inR10 _ (List.mem_of_getElem? (i := 13) rfl)
theorem kw903 : Cond.code yX12_wordOf cX12_wordOf 1 (some .long) ∈ wsL_law := inR23 _ (List.mem_of_getElem? (i := 21) rfl)
theorem kw904 : Cond.static yX12_wordOf ∈ wsL_law := inR23 _ (List.mem_of_getElem? (i := 20) rfl)
theorem kw905 : Cond.methodLink RX12 62 yX12_wordOf ∈ wsL_law := inR23 _ (List.mem_of_getElem? (i := 19) rfl)
theorem kw906 : Cond.code yX12_goesOn cX12_goesOn 4 (some .int) ∈ wsL_law := inR59 _ (List.mem_of_getElem? (i := 14) rfl)
theorem kw907 : Cond.instanceMethod yX12_goesOn ∈ wsL_law := inR59 _ (List.mem_of_getElem? (i := 12) rfl)
theorem kw908 : Cond.selects RX12 yX12_goesOn yX12_goesOn ∈ wsL_law := inR59 _ (List.mem_of_getElem? (i := 13) rfl)
theorem kw909 : Cond.methodLink RX12 412 yX12_goesOn ∈ wsL_law := inR59 _ (List.mem_of_getElem? (i := 11) rfl)
theorem kw910 : Cond.code yX12_bearsAt cX12_bearsAt 4 (some .int) ∈ wsL_law := inR31 _ (List.mem_of_getElem? (i := 16) rfl)
theorem kw911 : Cond.instanceMethod yX12_bearsAt ∈ wsL_law := inR31 _ (List.mem_of_getElem? (i := 14) rfl)
theorem kw912 : Cond.selects RX12 yX12_bearsAt yX12_bearsAt ∈ wsL_law := inR31 _ (List.mem_of_getElem? (i := 15) rfl)
theorem kw913 : Cond.methodLink RX12 274 yX12_bearsAt ∈ wsL_law := inR31 _ (List.mem_of_getElem? (i := 13) rfl)
theorem kw914 : Cond.code yX12_sumAt cX12_sumAt 6 (some .int) ∈ wsL_law := inR41 _ (List.mem_of_getElem? (i := 18) rfl)
theorem kw915 : Cond.instanceMethod yX12_sumAt ∈ wsL_law := inR41 _ (List.mem_of_getElem? (i := 16) rfl)
theorem kw916 : Cond.selects RX12 yX12_sumAt yX12_sumAt ∈ wsL_law := inR41 _ (List.mem_of_getElem? (i := 17) rfl)
theorem kw917 : Cond.methodLink RX12 298 yX12_sumAt ∈ wsL_law := inR41 _ (List.mem_of_getElem? (i := 15) rfl)
theorem kw918 : Cond.code yX12_refuse cX12_refuse 1 (some .int) ∈ wsL_law := inR28 _ (List.mem_of_getElem? (i := 22) rfl)
theorem kw919 : Cond.instanceMethod yX12_refuse ∈ wsL_law := inR28 _ (List.mem_of_getElem? (i := 20) rfl)
theorem kw920 : Cond.selects RX12 yX12_refuse yX12_refuse ∈ wsL_law := inR28 _ (List.mem_of_getElem? (i := 21) rfl)
theorem kw921 : Cond.methodLink RX12 280 yX12_refuse ∈ wsL_law := inR28 _ (List.mem_of_getElem? (i := 19) rfl)
theorem kw922 : Cond.code yX12_places cX12_places 1 (some .int) ∈ wsL_law := inR29 _ (List.mem_of_getElem? (i := 10) rfl)
theorem kw923 : Cond.instanceMethod yX12_places ∈ wsL_law := inR29 _ (List.mem_of_getElem? (i := 8) rfl)
theorem kw924 : Cond.selects RX12 yX12_places yX12_places ∈ wsL_law := inR29 _ (List.mem_of_getElem? (i := 9) rfl)
theorem kw925 : Cond.methodLink RX12 264 yX12_places ∈ wsL_law := inR29 _ (List.mem_of_getElem? (i := 7) rfl)
theorem kw926 : Cond.fieldLink RX12 393 "SignedBridgeModel" "crossMost" "I" ∈ wsL_law := inR54 _ (List.mem_of_getElem? (i := 14) rfl)
theorem kw927 : Cond.code yX12_orderFrom cX12_orderFrom 8 none ∈ wsL_law := inR54 _ (List.mem_of_getElem? (i := 22) rfl)
theorem kw928 : Cond.instanceMethod yX12_orderFrom ∈ wsL_law := inR54 _ (List.mem_of_getElem? (i := 20) rfl)
theorem kw929 : Cond.selects RX12 yX12_orderFrom yX12_orderFrom ∈ wsL_law := inR54 _ (List.mem_of_getElem? (i := 21) rfl)
theorem kw930 : Cond.methodLink RX12 396 yX12_orderFrom ∈ wsL_law := inR54 _ (List.mem_of_getElem? (i := 19) rfl)
theorem kw931 : Cond.code yX12_bits cX12_bits 3 (some .int) ∈ wsL_law := inR54 _ (List.mem_of_getElem? (i := 18) rfl)
theorem kw932 : Cond.static yX12_bits ∈ wsL_law := inR54 _ (List.mem_of_getElem? (i := 17) rfl)
theorem kw933 : Cond.methodLink RX12 400 yX12_bits ∈ wsL_law := inR54 _ (List.mem_of_getElem? (i := 16) rfl)
theorem kw934 : Cond.fieldLink RX12 403 "SignedBridgeModel" "orderMany" "I" ∈ wsL_law := inR54 _ (List.mem_of_getElem? (i := 15) rfl)
theorem kw935 : Cond.code yX12_layPath cX12_layPath 5 (some .boolean) ∈ wsL_law := inR45 _ (List.mem_of_getElem? (i := 20) rfl)
theorem kw936 : Cond.instanceMethod yX12_layPath ∈ wsL_law := inR45 _ (List.mem_of_getElem? (i := 18) rfl)
theorem kw937 : Cond.selects RX12 yX12_layPath yX12_layPath ∈ wsL_law := inR45 _ (List.mem_of_getElem? (i := 19) rfl)
theorem kw938 : Cond.methodLink RX12 322 yX12_layPath ∈ wsL_law := inR45 _ (List.mem_of_getElem? (i := 17) rfl)
theorem kw939 : Cond.code yX12_writeWord cX12_writeWord 3 none ∈ wsL_law := inR68 _ (List.mem_of_getElem? (i := 6) rfl)
theorem kw940 : Cond.instanceMethod yX12_writeWord ∈ wsL_law := inR68 _ (List.mem_of_getElem? (i := 4) rfl)
theorem kw941 : Cond.selects RX12 yX12_writeWord yX12_writeWord ∈ wsL_law := inR68 _ (List.mem_of_getElem? (i := 5) rfl)
theorem kw942 : Cond.methodLink RX12 421 yX12_writeWord ∈ wsL_law := inR68 _ (List.mem_of_getElem? (i := 3) rfl)
theorem kw943 : Cond.code yX12_write cX12_write 2 none ∈ wsL_law := inR68 _ (List.mem_of_getElem? (i := 2) rfl)
theorem kw944 : Cond.instanceMethod yX12_write ∈ wsL_law := inR68 _ (List.mem_of_getElem? (i := 0) rfl)
theorem kw945 : Cond.selects RX12 yX12_write yX12_write ∈ wsL_law := inR68 _ (List.mem_of_getElem? (i := 1) rfl)
theorem kw946 : Cond.methodLink RX12 425 yX12_write ∈ wsL_law := inR67 _ (List.mem_of_getElem? (i := 23) rfl)
theorem kw947 : Cond.code yX12_spelt cX12_spelt 9 (some .long) ∈ wsL_law := inR24 _ (List.mem_of_getElem? (i := 0) rfl)
theorem kw948 : Cond.static yX12_spelt ∈ wsL_law := inR23 _ (List.mem_of_getElem? (i := 23) rfl)
theorem kw949 : Cond.methodLink RX12 58 yX12_spelt ∈ wsL_law := inR23 _ (List.mem_of_getElem? (i := 22) rfl)
theorem kw950 : Cond.code yX12_isSign cX12_isSign 2 (some .boolean) ∈ wsL_law := inR26 _ (List.mem_of_getElem? (i := 22) rfl)
theorem kw951 : Cond.instanceMethod yX12_isSign ∈ wsL_law := inR26 _ (List.mem_of_getElem? (i := 20) rfl)
theorem kw952 : Cond.selects RX12 yX12_isSign yX12_isSign ∈ wsL_law := inR26 _ (List.mem_of_getElem? (i := 21) rfl)
theorem kw953 : Cond.methodLink RX12 86 yX12_isSign ∈ wsL_law := inR26 _ (List.mem_of_getElem? (i := 19) rfl)
theorem kw954 : Cond.code yX12_isWord cX12_isWord 2 (some .boolean) ∈ wsL_law := inR23 _ (List.mem_of_getElem? (i := 18) rfl)
theorem kw955 : Cond.instanceMethod yX12_isWord ∈ wsL_law := inR23 _ (List.mem_of_getElem? (i := 16) rfl)
theorem kw956 : Cond.selects RX12 yX12_isWord yX12_isWord ∈ wsL_law := inR23 _ (List.mem_of_getElem? (i := 17) rfl)
theorem kw957 : Cond.methodLink RX12 219 yX12_isWord ∈ wsL_law := inR23 _ (List.mem_of_getElem? (i := 15) rfl)
theorem kw958 : Cond.code yX12_bad cX12_bad 2 (some .boolean) ∈ wsL_law := inR24 _ (List.mem_of_getElem? (i := 8) rfl)
theorem kw959 : Cond.instanceMethod yX12_bad ∈ wsL_law := inR24 _ (List.mem_of_getElem? (i := 6) rfl)
theorem kw960 : Cond.selects RX12 yX12_bad yX12_bad ∈ wsL_law := inR24 _ (List.mem_of_getElem? (i := 7) rfl)
theorem kw961 : Cond.methodLink RX12 72 yX12_bad ∈ wsL_law := inR24 _ (List.mem_of_getElem? (i := 5) rfl)
theorem kw962 : Cond.fieldLink RX12 487 "SignedBridgeModel" "onesMany" "I" ∈ wsL_law := inR78 _ (List.mem_of_getElem? (i := 11) rfl)
theorem kw963 : Cond.fieldLink RX12 490 "SignedBridgeModel" "within" "I" ∈ wsL_law := inR78 _ (List.mem_of_getElem? (i := 12) rfl)
theorem kw964 : Cond.code yX12_readBracket cX12_readBracket 1 (some .boolean) ∈ wsL_law := inR79 _ (List.mem_of_getElem? (i := 5) rfl)
theorem kw965 : Cond.instanceMethod yX12_readBracket ∈ wsL_law := inR79 _ (List.mem_of_getElem? (i := 9) rfl)
theorem kw966 : Cond.selects RX12 yX12_readBracket yX12_readBracket ∈ wsL_law := inR79 _ (List.mem_of_getElem? (i := 10) rfl)
theorem kw967 : Cond.methodLink RX12 493 yX12_readBracket ∈ wsL_law := inR79 _ (List.mem_of_getElem? (i := 8) rfl)
theorem kw968 : Cond.code yX12_readNot cX12_readNot 1 (some .boolean) ∈ wsL_law := inR79 _ (List.mem_of_getElem? (i := 6) rfl)
theorem kw969 : Cond.instanceMethod yX12_readNot ∈ wsL_law := inR79 _ (List.mem_of_getElem? (i := 12) rfl)
theorem kw970 : Cond.selects RX12 yX12_readNot yX12_readNot ∈ wsL_law := inR79 _ (List.mem_of_getElem? (i := 13) rfl)
theorem kw971 : Cond.methodLink RX12 496 yX12_readNot ∈ wsL_law := inR79 _ (List.mem_of_getElem? (i := 11) rfl)
theorem kw972 : Cond.code yX12_saysOne cX12_saysOne 6 (some .int) ∈ wsL_law := inR79 _ (List.mem_of_getElem? (i := 0) rfl)
theorem kw973 : Cond.instanceMethod yX12_saysOne ∈ wsL_law := inR78 _ (List.mem_of_getElem? (i := 22) rfl)
theorem kw974 : Cond.selects RX12 yX12_saysOne yX12_saysOne ∈ wsL_law := inR78 _ (List.mem_of_getElem? (i := 23) rfl)
theorem kw975 : Cond.methodLink RX12 481 yX12_saysOne ∈ wsL_law := inR78 _ (List.mem_of_getElem? (i := 21) rfl)
theorem kw976 : Cond.fieldLink RX12 478 "SignedBridgeModel" "top" "I" ∈ wsL_law := inR78 _ (List.mem_of_getElem? (i := 13) rfl)
theorem kw977 : Cond.code yX12_readOf cX12_readOf 2 (some .boolean) ∈ wsL_law := inR79 _ (List.mem_of_getElem? (i := 17) rfl)
theorem kw978 : Cond.instanceMethod yX12_readOf ∈ wsL_law := inR79 _ (List.mem_of_getElem? (i := 15) rfl)
theorem kw979 : Cond.selects RX12 yX12_readOf yX12_readOf ∈ wsL_law := inR79 _ (List.mem_of_getElem? (i := 16) rfl)
theorem kw980 : Cond.methodLink RX12 499 yX12_readOf ∈ wsL_law := inR79 _ (List.mem_of_getElem? (i := 14) rfl)
theorem kw981 : Cond.code yX12_readCompare cX12_readCompare 3 (some .boolean) ∈ wsL_law := inR80 _ (List.mem_of_getElem? (i := 1) rfl)
theorem kw982 : Cond.instanceMethod yX12_readCompare ∈ wsL_law := inR79 _ (List.mem_of_getElem? (i := 23) rfl)
theorem kw983 : Cond.selects RX12 yX12_readCompare yX12_readCompare ∈ wsL_law := inR80 _ (List.mem_of_getElem? (i := 0) rfl)
theorem kw984 : Cond.methodLink RX12 502 yX12_readCompare ∈ wsL_law := inR79 _ (List.mem_of_getElem? (i := 22) rfl)
theorem kw985 : Cond.code yX12_readSaid cX12_readSaid 4 (some .boolean) ∈ wsL_law := inR79 _ (List.mem_of_getElem? (i := 7) rfl)
theorem kw986 : Cond.instanceMethod yX12_readSaid ∈ wsL_law := inR79 _ (List.mem_of_getElem? (i := 3) rfl)
theorem kw987 : Cond.selects RX12 yX12_readSaid yX12_readSaid ∈ wsL_law := inR79 _ (List.mem_of_getElem? (i := 4) rfl)
theorem kw988 : Cond.methodLink RX12 484 yX12_readSaid ∈ wsL_law := inR79 _ (List.mem_of_getElem? (i := 2) rfl)
theorem kw989 : Cond.code yX12_readAnd cX12_readAnd 2 (some .boolean) ∈ wsL_law := inR79 _ (List.mem_of_getElem? (i := 1) rfl)
theorem kw990 : Cond.instanceMethod yX12_readAnd ∈ wsL_law := inR78 _ (List.mem_of_getElem? (i := 19) rfl)
theorem kw991 : Cond.selects RX12 yX12_readAnd yX12_readAnd ∈ wsL_law := inR78 _ (List.mem_of_getElem? (i := 20) rfl)
theorem kw992 : Cond.methodLink RX12 475 yX12_readAnd ∈ wsL_law := inR78 _ (List.mem_of_getElem? (i := 18) rfl)
theorem kw993 : Cond.code yX12_holds_ cX12_holds_ 8 (some .boolean) ∈ wsL_law := inR81 _ (List.mem_of_getElem? (i := 17) rfl)
theorem kw994 : Cond.instanceMethod yX12_holds_ ∈ wsL_law := inR81 _ (List.mem_of_getElem? (i := 15) rfl)
theorem kw995 : Cond.selects RX12 yX12_holds_ yX12_holds_ ∈ wsL_law := inR81 _ (List.mem_of_getElem? (i := 16) rfl)
theorem kw996 : Cond.methodLink RX12 511 yX12_holds_ ∈ wsL_law := inR81 _ (List.mem_of_getElem? (i := 14) rfl)
theorem kw997 : Cond.fieldLink RX12 472 "SignedBridgeModel" "nodes" "I" ∈ wsL_law := inR78 _ (List.mem_of_getElem? (i := 10) rfl)
theorem kw998 : Cond.code yX12_readOr cX12_readOr 2 (some .boolean) ∈ wsL_law := inR78 _ (List.mem_of_getElem? (i := 17) rfl)
theorem kw999 : Cond.instanceMethod yX12_readOr ∈ wsL_law := inR78 _ (List.mem_of_getElem? (i := 15) rfl)
theorem kw1000 : Cond.selects RX12 yX12_readOr yX12_readOr ∈ wsL_law := inR78 _ (List.mem_of_getElem? (i := 16) rfl)
theorem kw1001 : Cond.methodLink RX12 505 yX12_readOr ∈ wsL_law := inR78 _ (List.mem_of_getElem? (i := 14) rfl)
theorem kw1002 : Cond.code yX12_whySign cX12_whySign 3 (some .int) ∈ wsL_law := inR35 _ (List.mem_of_getElem? (i := 17) rfl)
theorem kw1003 : Cond.instanceMethod yX12_whySign ∈ wsL_law := inR35 _ (List.mem_of_getElem? (i := 15) rfl)
theorem kw1004 : Cond.selects RX12 yX12_whySign yX12_whySign ∈ wsL_law := inR35 _ (List.mem_of_getElem? (i := 16) rfl)
theorem kw1005 : Cond.methodLink RX12 340 yX12_whySign ∈ wsL_law := inR35 _ (List.mem_of_getElem? (i := 14) rfl)
theorem kw1006 : Cond.code yX12_doSign cX12_doSign 3 none ∈ wsL_law := inR36 _ (List.mem_of_getElem? (i := 1) rfl)
theorem kw1007 : Cond.instanceMethod yX12_doSign ∈ wsL_law := inR35 _ (List.mem_of_getElem? (i := 23) rfl)
theorem kw1008 : Cond.selects RX12 yX12_doSign yX12_doSign ∈ wsL_law := inR36 _ (List.mem_of_getElem? (i := 0) rfl)
theorem kw1009 : Cond.methodLink RX12 346 yX12_doSign ∈ wsL_law := inR35 _ (List.mem_of_getElem? (i := 22) rfl)
theorem kw1010 : Cond.code yX12_planksOf cX12_planksOf 4 (some .int) ∈ wsL_law := inR29 _ (List.mem_of_getElem? (i := 6) rfl)
theorem kw1011 : Cond.instanceMethod yX12_planksOf ∈ wsL_law := inR29 _ (List.mem_of_getElem? (i := 4) rfl)
theorem kw1012 : Cond.selects RX12 yX12_planksOf yX12_planksOf ∈ wsL_law := inR29 _ (List.mem_of_getElem? (i := 5) rfl)
theorem kw1013 : Cond.methodLink RX12 286 yX12_planksOf ∈ wsL_law := inR29 _ (List.mem_of_getElem? (i := 3) rfl)
theorem kw1014 : Cond.code yX12_bestOf cX12_bestOf 4 (some .int) ∈ wsL_law := inR41 _ (List.mem_of_getElem? (i := 5) rfl)
theorem kw1015 : Cond.instanceMethod yX12_bestOf ∈ wsL_law := inR41 _ (List.mem_of_getElem? (i := 3) rfl)
theorem kw1016 : Cond.selects RX12 yX12_bestOf yX12_bestOf ∈ wsL_law := inR41 _ (List.mem_of_getElem? (i := 4) rfl)
theorem kw1017 : Cond.methodLink RX12 319 yX12_bestOf ∈ wsL_law := inR41 _ (List.mem_of_getElem? (i := 2) rfl)
theorem kw1018 : Cond.instanceMethod yX11_signer ∈ wsL_law := inR27 _ (List.mem_of_getElem? (i := 14) rfl)
theorem kw1019 : Cond.selects RX11 yX11_signer yX11_signer ∈ wsL_law := inR27 _ (List.mem_of_getElem? (i := 15) rfl)
theorem kw1020 : Cond.code yX11_signer cX11_signer 3 (some .int) ∈ wsL_law := inR27 _ (List.mem_of_getElem? (i := 16) rfl)
theorem kw1021 : Cond.methodLink RL 7 yX11_signer ∈ wsL_law := inR27 _ (List.mem_of_getElem? (i := 13) rfl)
theorem kw1022 : Cond.classLink RL 13 "java/util/NoSuchElementException" ∈ wsL_law := inR27 _ (List.mem_of_getElem? (i := 12) rfl)
theorem kw1023 : Cond.instanceMethod yX11_plank ∈ wsL_law := inR29 _ (List.mem_of_getElem? (i := 19) rfl)
theorem kw1024 : Cond.selects RX11 yX11_plank yX11_plank ∈ wsL_law := inR29 _ (List.mem_of_getElem? (i := 20) rfl)
theorem kw1025 : Cond.code yX11_plank cX11_plank 5 (some .int) ∈ wsL_law := inR29 _ (List.mem_of_getElem? (i := 21) rfl)
theorem kw1026 : Cond.methodLink RL 15 yX11_plank ∈ wsL_law := inR29 _ (List.mem_of_getElem? (i := 18) rfl)
theorem kw1027 : Cond.instanceMethod yX11_load ∈ wsL_law := inR32 _ (List.mem_of_getElem? (i := 1) rfl)
theorem kw1028 : Cond.selects RX11 yX11_load yX11_load ∈ wsL_law := inR32 _ (List.mem_of_getElem? (i := 2) rfl)
theorem kw1029 : Cond.code yX11_load cX11_load 3 (some .int) ∈ wsL_law := inR32 _ (List.mem_of_getElem? (i := 3) rfl)
theorem kw1030 : Cond.methodLink RL 19 yX11_load ∈ wsL_law := inR32 _ (List.mem_of_getElem? (i := 0) rfl)
theorem kw1031 : Cond.classLink RL 8 RX11 ∈ wsL_law := inR1 _ (List.mem_of_getElem? (i := 0) rfl)
theorem kw1032 : Cond.code yX11_init cX11_init 2 none ∈ wsL_law := inR1 _ (List.mem_of_getElem? (i := 9) rfl)
theorem kw1033 : Cond.instanceMethod yX11_init ∈ wsL_law := inR1 _ (List.mem_of_getElem? (i := 8) rfl)
theorem kw1034 : Cond.methodLink RL 22 yX11_init ∈ wsL_law := inR1 _ (List.mem_of_getElem? (i := 7) rfl)
theorem kw1035 : Cond.classLink RL 23 RX12 ∈ wsL_law := inR1 _ (List.mem_of_getElem? (i := 3) rfl)
theorem kw1036 : Cond.code yX12_init cX12_init 2 none ∈ wsL_law := inR9 _ (List.mem_of_getElem? (i := 7) rfl)
theorem kw1037 : Cond.instanceMethod yX12_init ∈ wsL_law := inR9 _ (List.mem_of_getElem? (i := 6) rfl)
theorem kw1038 : Cond.methodLink RL 25 yX12_init ∈ wsL_law := inR9 _ (List.mem_of_getElem? (i := 5) rfl)
theorem kw1039 : Cond.code yX11_feed cX11_feed 6 (some .int) ∈ wsL_law := inR11 _ (List.mem_of_getElem? (i := 1) rfl)
theorem kw1040 : Cond.instanceMethod yX11_feed ∈ wsL_law := inR10 _ (List.mem_of_getElem? (i := 23) rfl)
theorem kw1041 : Cond.selects RX11 yX11_feed yX11_feed ∈ wsL_law := inR11 _ (List.mem_of_getElem? (i := 0) rfl)
theorem kw1042 : Cond.methodLink RL 26 yX11_feed ∈ wsL_law := inR10 _ (List.mem_of_getElem? (i := 22) rfl)
theorem kw1043 : Cond.code yX12_feed cX12_feed 6 (some .int) ∈ wsL_law := inR11 _ (List.mem_of_getElem? (i := 11) rfl)
theorem kw1044 : Cond.instanceMethod yX12_feed ∈ wsL_law := inR11 _ (List.mem_of_getElem? (i := 9) rfl)
theorem kw1045 : Cond.selects RX12 yX12_feed yX12_feed ∈ wsL_law := inR11 _ (List.mem_of_getElem? (i := 10) rfl)
theorem kw1046 : Cond.methodLink RL 30 yX12_feed ∈ wsL_law := inR11 _ (List.mem_of_getElem? (i := 8) rfl)
theorem kw1047 : Cond.code yX11_end cX11_end 2 (some .boolean) ∈ wsL_law := inR11 _ (List.mem_of_getElem? (i := 21) rfl)
theorem kw1048 : Cond.instanceMethod yX11_end ∈ wsL_law := inR11 _ (List.mem_of_getElem? (i := 19) rfl)
theorem kw1049 : Cond.selects RX11 yX11_end yX11_end ∈ wsL_law := inR11 _ (List.mem_of_getElem? (i := 20) rfl)
theorem kw1050 : Cond.methodLink RL 31 yX11_end ∈ wsL_law := inR11 _ (List.mem_of_getElem? (i := 18) rfl)
theorem kw1051 : Cond.code yX12_end cX12_end 2 (some .boolean) ∈ wsL_law := inR12 _ (List.mem_of_getElem? (i := 1) rfl)
theorem kw1052 : Cond.instanceMethod yX12_end ∈ wsL_law := inR11 _ (List.mem_of_getElem? (i := 23) rfl)
theorem kw1053 : Cond.selects RX12 yX12_end yX12_end ∈ wsL_law := inR12 _ (List.mem_of_getElem? (i := 0) rfl)
theorem kw1054 : Cond.methodLink RL 35 yX12_end ∈ wsL_law := inR11 _ (List.mem_of_getElem? (i := 22) rfl)
theorem kw1055 : Cond.code yX11_bridge cX11_bridge 2 (some .int) ∈ wsL_law := inR12 _ (List.mem_of_getElem? (i := 5) rfl)
theorem kw1056 : Cond.instanceMethod yX11_bridge ∈ wsL_law := inR12 _ (List.mem_of_getElem? (i := 3) rfl)
theorem kw1057 : Cond.selects RX11 yX11_bridge yX11_bridge ∈ wsL_law := inR12 _ (List.mem_of_getElem? (i := 4) rfl)
theorem kw1058 : Cond.methodLink RL 36 yX11_bridge ∈ wsL_law := inR12 _ (List.mem_of_getElem? (i := 2) rfl)
theorem kw1059 : Cond.code yX12_bridge cX12_bridge 3 (some .int) ∈ wsL_law := inR21 _ (List.mem_of_getElem? (i := 20) rfl)
theorem kw1060 : Cond.instanceMethod yX12_bridge ∈ wsL_law := inR21 _ (List.mem_of_getElem? (i := 18) rfl)
theorem kw1061 : Cond.selects RX12 yX12_bridge yX12_bridge ∈ wsL_law := inR21 _ (List.mem_of_getElem? (i := 19) rfl)
theorem kw1062 : Cond.methodLink RL 40 yX12_bridge ∈ wsL_law := inR21 _ (List.mem_of_getElem? (i := 17) rfl)
theorem kw1063 : Cond.code yX11_fault cX11_fault 1 (some .int) ∈ wsL_law := inR27 _ (List.mem_of_getElem? (i := 2) rfl)
theorem kw1064 : Cond.instanceMethod yX11_fault ∈ wsL_law := inR27 _ (List.mem_of_getElem? (i := 0) rfl)
theorem kw1065 : Cond.selects RX11 yX11_fault yX11_fault ∈ wsL_law := inR27 _ (List.mem_of_getElem? (i := 1) rfl)
theorem kw1066 : Cond.methodLink RL 41 yX11_fault ∈ wsL_law := inR26 _ (List.mem_of_getElem? (i := 23) rfl)
theorem kw1067 : Cond.code yX12_fault cX12_fault 1 (some .int) ∈ wsL_law := inR27 _ (List.mem_of_getElem? (i := 7) rfl)
theorem kw1068 : Cond.instanceMethod yX12_fault ∈ wsL_law := inR27 _ (List.mem_of_getElem? (i := 5) rfl)
theorem kw1069 : Cond.selects RX12 yX12_fault yX12_fault ∈ wsL_law := inR27 _ (List.mem_of_getElem? (i := 6) rfl)
theorem kw1070 : Cond.methodLink RL 44 yX12_fault ∈ wsL_law := inR27 _ (List.mem_of_getElem? (i := 4) rfl)
theorem kw1071 : Cond.static yL_signer ∈ wsL_law := inR27 _ (List.mem_of_getElem? (i := 9) rfl)
theorem kw1072 : Cond.initialized RL ∈ wsL_law := inR27 _ (List.mem_of_getElem? (i := 10) rfl)
theorem kw1073 : Cond.codeWith yL_signer cL_signer 5 (some .int) [(0, 10, 13, 13)] ∈ wsL_law := inR27 _ (List.mem_of_getElem? (i := 11) rfl)
theorem kw1074 : Cond.methodLink RL 45 yL_signer ∈ wsL_law := inR27 _ (List.mem_of_getElem? (i := 8) rfl)
theorem kw1075 : Cond.code yX12_signer cX12_signer 3 (some .int) ∈ wsL_law := inR28 _ (List.mem_of_getElem? (i := 14) rfl)
theorem kw1076 : Cond.instanceMethod yX12_signer ∈ wsL_law := inR28 _ (List.mem_of_getElem? (i := 12) rfl)
theorem kw1077 : Cond.selects RX12 yX12_signer yX12_signer ∈ wsL_law := inR28 _ (List.mem_of_getElem? (i := 13) rfl)
theorem kw1078 : Cond.methodLink RL 50 yX12_signer ∈ wsL_law := inR28 _ (List.mem_of_getElem? (i := 11) rfl)
theorem kw1079 : Cond.code yX12_thrown cX12_thrown 1 (some .int) ∈ wsL_law := inR29 _ (List.mem_of_getElem? (i := 14) rfl)
theorem kw1080 : Cond.instanceMethod yX12_thrown ∈ wsL_law := inR29 _ (List.mem_of_getElem? (i := 12) rfl)
theorem kw1081 : Cond.selects RX12 yX12_thrown yX12_thrown ∈ wsL_law := inR29 _ (List.mem_of_getElem? (i := 13) rfl)
theorem kw1082 : Cond.methodLink RL 51 yX12_thrown ∈ wsL_law := inR29 _ (List.mem_of_getElem? (i := 11) rfl)
theorem kw1083 : Cond.static yL_plank ∈ wsL_law := inR29 _ (List.mem_of_getElem? (i := 16) rfl)
theorem kw1084 : Cond.codeWith yL_plank cL_plank 6 (some .int) [(0, 12, 15, 13)] ∈ wsL_law := inR29 _ (List.mem_of_getElem? (i := 17) rfl)
theorem kw1085 : Cond.methodLink RL 54 yL_plank ∈ wsL_law := inR29 _ (List.mem_of_getElem? (i := 15) rfl)
theorem kw1086 : Cond.code yX12_plank cX12_plank 5 (some .int) ∈ wsL_law := inR30 _ (List.mem_of_getElem? (i := 23) rfl)
theorem kw1087 : Cond.instanceMethod yX12_plank ∈ wsL_law := inR30 _ (List.mem_of_getElem? (i := 21) rfl)
theorem kw1088 : Cond.selects RX12 yX12_plank yX12_plank ∈ wsL_law := inR30 _ (List.mem_of_getElem? (i := 22) rfl)
theorem kw1089 : Cond.methodLink RL 57 yX12_plank ∈ wsL_law := inR30 _ (List.mem_of_getElem? (i := 20) rfl)
theorem kw1090 : Cond.static yL_load ∈ wsL_law := inR31 _ (List.mem_of_getElem? (i := 22) rfl)
theorem kw1091 : Cond.codeWith yL_load cL_load 5 (some .int) [(0, 10, 13, 13)] ∈ wsL_law := inR31 _ (List.mem_of_getElem? (i := 23) rfl)
theorem kw1092 : Cond.methodLink RL 58 yL_load ∈ wsL_law := inR31 _ (List.mem_of_getElem? (i := 21) rfl)
theorem kw1093 : Cond.code yX12_load cX12_load 3 (some .int) ∈ wsL_law := inR32 _ (List.mem_of_getElem? (i := 16) rfl)
theorem kw1094 : Cond.instanceMethod yX12_load ∈ wsL_law := inR32 _ (List.mem_of_getElem? (i := 14) rfl)
theorem kw1095 : Cond.selects RX12 yX12_load yX12_load ∈ wsL_law := inR32 _ (List.mem_of_getElem? (i := 15) rfl)
theorem kw1096 : Cond.methodLink RL 60 yX12_load ∈ wsL_law := inR32 _ (List.mem_of_getElem? (i := 13) rfl)
theorem kw1097 : Cond.code yX11_now cX11_now 2 (some .int) ∈ wsL_law := inR33 _ (List.mem_of_getElem? (i := 0) rfl)
theorem kw1098 : Cond.instanceMethod yX11_now ∈ wsL_law := inR32 _ (List.mem_of_getElem? (i := 22) rfl)
theorem kw1099 : Cond.selects RX11 yX11_now yX11_now ∈ wsL_law := inR32 _ (List.mem_of_getElem? (i := 23) rfl)
theorem kw1100 : Cond.methodLink RL 61 yX11_now ∈ wsL_law := inR32 _ (List.mem_of_getElem? (i := 21) rfl)
theorem kw1101 : Cond.code yX12_now cX12_now 4 (some .int) ∈ wsL_law := inR34 _ (List.mem_of_getElem? (i := 7) rfl)
theorem kw1102 : Cond.instanceMethod yX12_now ∈ wsL_law := inR34 _ (List.mem_of_getElem? (i := 5) rfl)
theorem kw1103 : Cond.selects RX12 yX12_now yX12_now ∈ wsL_law := inR34 _ (List.mem_of_getElem? (i := 6) rfl)
theorem kw1104 : Cond.methodLink RL 65 yX12_now ∈ wsL_law := inR34 _ (List.mem_of_getElem? (i := 4) rfl)
theorem kw1105 : Cond.code yX11_sign cX11_sign 4 (some .int) ∈ wsL_law := inR34 _ (List.mem_of_getElem? (i := 11) rfl)
theorem kw1106 : Cond.instanceMethod yX11_sign ∈ wsL_law := inR34 _ (List.mem_of_getElem? (i := 9) rfl)
theorem kw1107 : Cond.selects RX11 yX11_sign yX11_sign ∈ wsL_law := inR34 _ (List.mem_of_getElem? (i := 10) rfl)
theorem kw1108 : Cond.methodLink RL 66 yX11_sign ∈ wsL_law := inR34 _ (List.mem_of_getElem? (i := 8) rfl)
theorem kw1109 : Cond.code yX12_sign cX12_sign 5 (some .int) ∈ wsL_law := inR35 _ (List.mem_of_getElem? (i := 13) rfl)
theorem kw1110 : Cond.instanceMethod yX12_sign ∈ wsL_law := inR35 _ (List.mem_of_getElem? (i := 11) rfl)
theorem kw1111 : Cond.selects RX12 yX12_sign yX12_sign ∈ wsL_law := inR35 _ (List.mem_of_getElem? (i := 12) rfl)
theorem kw1112 : Cond.methodLink RL 69 yX12_sign ∈ wsL_law := inR35 _ (List.mem_of_getElem? (i := 10) rfl)
theorem kw1113 : Cond.code yX11_burn cX11_burn 3 (some .int) ∈ wsL_law := inR36 _ (List.mem_of_getElem? (i := 5) rfl)
theorem kw1114 : Cond.instanceMethod yX11_burn ∈ wsL_law := inR36 _ (List.mem_of_getElem? (i := 3) rfl)
theorem kw1115 : Cond.selects RX11 yX11_burn yX11_burn ∈ wsL_law := inR36 _ (List.mem_of_getElem? (i := 4) rfl)
theorem kw1116 : Cond.methodLink RL 70 yX11_burn ∈ wsL_law := inR36 _ (List.mem_of_getElem? (i := 2) rfl)
theorem kw1117 : Cond.code yX12_burn cX12_burn 3 (some .int) ∈ wsL_law := inR36 _ (List.mem_of_getElem? (i := 21) rfl)
theorem kw1118 : Cond.instanceMethod yX12_burn ∈ wsL_law := inR36 _ (List.mem_of_getElem? (i := 19) rfl)
theorem kw1119 : Cond.selects RX12 yX12_burn yX12_burn ∈ wsL_law := inR36 _ (List.mem_of_getElem? (i := 20) rfl)
theorem kw1120 : Cond.methodLink RL 73 yX12_burn ∈ wsL_law := inR36 _ (List.mem_of_getElem? (i := 18) rfl)
theorem kw1121 : Cond.code yX11_breaks cX11_breaks 2 (some .int) ∈ wsL_law := inR37 _ (List.mem_of_getElem? (i := 16) rfl)
theorem kw1122 : Cond.instanceMethod yX11_breaks ∈ wsL_law := inR37 _ (List.mem_of_getElem? (i := 14) rfl)
theorem kw1123 : Cond.selects RX11 yX11_breaks yX11_breaks ∈ wsL_law := inR37 _ (List.mem_of_getElem? (i := 15) rfl)
theorem kw1124 : Cond.methodLink RL 74 yX11_breaks ∈ wsL_law := inR37 _ (List.mem_of_getElem? (i := 13) rfl)
theorem kw1125 : Cond.code yX12_breaks cX12_breaks 2 (some .int) ∈ wsL_law := inR38 _ (List.mem_of_getElem? (i := 0) rfl)
theorem kw1126 : Cond.instanceMethod yX12_breaks ∈ wsL_law := inR37 _ (List.mem_of_getElem? (i := 22) rfl)
theorem kw1127 : Cond.selects RX12 yX12_breaks yX12_breaks ∈ wsL_law := inR37 _ (List.mem_of_getElem? (i := 23) rfl)
theorem kw1128 : Cond.methodLink RL 77 yX12_breaks ∈ wsL_law := inR37 _ (List.mem_of_getElem? (i := 21) rfl)
theorem kw1129 : Cond.code yX11_holds cX11_holds 2 (some .int) ∈ wsL_law := inR38 _ (List.mem_of_getElem? (i := 4) rfl)
theorem kw1130 : Cond.instanceMethod yX11_holds ∈ wsL_law := inR38 _ (List.mem_of_getElem? (i := 2) rfl)
theorem kw1131 : Cond.selects RX11 yX11_holds yX11_holds ∈ wsL_law := inR38 _ (List.mem_of_getElem? (i := 3) rfl)
theorem kw1132 : Cond.methodLink RL 78 yX11_holds ∈ wsL_law := inR38 _ (List.mem_of_getElem? (i := 1) rfl)
theorem kw1133 : Cond.code yX12_holds cX12_holds 3 (some .int) ∈ wsL_law := inR38 _ (List.mem_of_getElem? (i := 12) rfl)
theorem kw1134 : Cond.instanceMethod yX12_holds ∈ wsL_law := inR38 _ (List.mem_of_getElem? (i := 10) rfl)
theorem kw1135 : Cond.selects RX12 yX12_holds yX12_holds ∈ wsL_law := inR38 _ (List.mem_of_getElem? (i := 11) rfl)
theorem kw1136 : Cond.methodLink RL 81 yX12_holds ∈ wsL_law := inR38 _ (List.mem_of_getElem? (i := 9) rfl)
theorem kw1137 : Cond.code yX11_die cX11_die 2 (some .int) ∈ wsL_law := inR38 _ (List.mem_of_getElem? (i := 20) rfl)
theorem kw1138 : Cond.instanceMethod yX11_die ∈ wsL_law := inR38 _ (List.mem_of_getElem? (i := 18) rfl)
theorem kw1139 : Cond.selects RX11 yX11_die yX11_die ∈ wsL_law := inR38 _ (List.mem_of_getElem? (i := 19) rfl)
theorem kw1140 : Cond.methodLink RL 82 yX11_die ∈ wsL_law := inR38 _ (List.mem_of_getElem? (i := 17) rfl)
theorem kw1141 : Cond.code yX12_die cX12_die 2 (some .int) ∈ wsL_law := inR39 _ (List.mem_of_getElem? (i := 4) rfl)
theorem kw1142 : Cond.instanceMethod yX12_die ∈ wsL_law := inR39 _ (List.mem_of_getElem? (i := 2) rfl)
theorem kw1143 : Cond.selects RX12 yX12_die yX12_die ∈ wsL_law := inR39 _ (List.mem_of_getElem? (i := 3) rfl)
theorem kw1144 : Cond.methodLink RL 85 yX12_die ∈ wsL_law := inR39 _ (List.mem_of_getElem? (i := 1) rfl)
theorem kw1145 : Cond.code yX11_cross cX11_cross 3 (some .int) ∈ wsL_law := inR39 _ (List.mem_of_getElem? (i := 12) rfl)
theorem kw1146 : Cond.instanceMethod yX11_cross ∈ wsL_law := inR39 _ (List.mem_of_getElem? (i := 10) rfl)
theorem kw1147 : Cond.selects RX11 yX11_cross yX11_cross ∈ wsL_law := inR39 _ (List.mem_of_getElem? (i := 11) rfl)
theorem kw1148 : Cond.methodLink RL 86 yX11_cross ∈ wsL_law := inR39 _ (List.mem_of_getElem? (i := 9) rfl)
theorem kw1149 : Cond.code yX12_cross cX12_cross 2 (some .int) ∈ wsL_law := inR40 _ (List.mem_of_getElem? (i := 17) rfl)
theorem kw1150 : Cond.instanceMethod yX12_cross ∈ wsL_law := inR40 _ (List.mem_of_getElem? (i := 15) rfl)
theorem kw1151 : Cond.selects RX12 yX12_cross yX12_cross ∈ wsL_law := inR40 _ (List.mem_of_getElem? (i := 16) rfl)
theorem kw1152 : Cond.methodLink RL 89 yX12_cross ∈ wsL_law := inR40 _ (List.mem_of_getElem? (i := 14) rfl)
theorem kw1153 : Cond.code yX11_days cX11_days 3 (some .int) ∈ wsL_law := inR42 _ (List.mem_of_getElem? (i := 12) rfl)
theorem kw1154 : Cond.instanceMethod yX11_days ∈ wsL_law := inR42 _ (List.mem_of_getElem? (i := 10) rfl)
theorem kw1155 : Cond.selects RX11 yX11_days yX11_days ∈ wsL_law := inR42 _ (List.mem_of_getElem? (i := 11) rfl)
theorem kw1156 : Cond.methodLink RL 90 yX11_days ∈ wsL_law := inR42 _ (List.mem_of_getElem? (i := 9) rfl)
theorem kw1157 : Cond.code yX12_days cX12_days 2 (some .int) ∈ wsL_law := inR43 _ (List.mem_of_getElem? (i := 6) rfl)
theorem kw1158 : Cond.instanceMethod yX12_days ∈ wsL_law := inR43 _ (List.mem_of_getElem? (i := 4) rfl)
theorem kw1159 : Cond.selects RX12 yX12_days yX12_days ∈ wsL_law := inR43 _ (List.mem_of_getElem? (i := 5) rfl)
theorem kw1160 : Cond.methodLink RL 93 yX12_days ∈ wsL_law := inR43 _ (List.mem_of_getElem? (i := 3) rfl)
theorem kw1161 : Cond.code yX11_undo cX11_undo 1 (some .int) ∈ wsL_law := inR43 _ (List.mem_of_getElem? (i := 22) rfl)
theorem kw1162 : Cond.instanceMethod yX11_undo ∈ wsL_law := inR43 _ (List.mem_of_getElem? (i := 20) rfl)
theorem kw1163 : Cond.selects RX11 yX11_undo yX11_undo ∈ wsL_law := inR43 _ (List.mem_of_getElem? (i := 21) rfl)
theorem kw1164 : Cond.methodLink RL 94 yX11_undo ∈ wsL_law := inR43 _ (List.mem_of_getElem? (i := 19) rfl)
theorem kw1165 : Cond.code yX12_undo cX12_undo 2 (some .int) ∈ wsL_law := inR44 _ (List.mem_of_getElem? (i := 2) rfl)
theorem kw1166 : Cond.instanceMethod yX12_undo ∈ wsL_law := inR44 _ (List.mem_of_getElem? (i := 0) rfl)
theorem kw1167 : Cond.selects RX12 yX12_undo yX12_undo ∈ wsL_law := inR44 _ (List.mem_of_getElem? (i := 1) rfl)
theorem kw1168 : Cond.methodLink RL 97 yX12_undo ∈ wsL_law := inR43 _ (List.mem_of_getElem? (i := 23) rfl)
theorem kw1169 : Cond.code yX11_spare cX11_spare 2 (some .int) ∈ wsL_law := inR44 _ (List.mem_of_getElem? (i := 6) rfl)
theorem kw1170 : Cond.instanceMethod yX11_spare ∈ wsL_law := inR44 _ (List.mem_of_getElem? (i := 4) rfl)
theorem kw1171 : Cond.selects RX11 yX11_spare yX11_spare ∈ wsL_law := inR44 _ (List.mem_of_getElem? (i := 5) rfl)
theorem kw1172 : Cond.methodLink RL 98 yX11_spare ∈ wsL_law := inR44 _ (List.mem_of_getElem? (i := 3) rfl)
theorem kw1173 : Cond.code yX12_spare cX12_spare 2 (some .int) ∈ wsL_law := inR45 _ (List.mem_of_getElem? (i := 7) rfl)
theorem kw1174 : Cond.instanceMethod yX12_spare ∈ wsL_law := inR45 _ (List.mem_of_getElem? (i := 5) rfl)
theorem kw1175 : Cond.selects RX12 yX12_spare yX12_spare ∈ wsL_law := inR45 _ (List.mem_of_getElem? (i := 6) rfl)
theorem kw1176 : Cond.methodLink RL 101 yX12_spare ∈ wsL_law := inR45 _ (List.mem_of_getElem? (i := 4) rfl)
theorem kw1177 : Cond.code yX11_path cX11_path 3 (some .int) ∈ wsL_law := inR45 _ (List.mem_of_getElem? (i := 11) rfl)
theorem kw1178 : Cond.instanceMethod yX11_path ∈ wsL_law := inR45 _ (List.mem_of_getElem? (i := 9) rfl)
theorem kw1179 : Cond.selects RX11 yX11_path yX11_path ∈ wsL_law := inR45 _ (List.mem_of_getElem? (i := 10) rfl)
theorem kw1180 : Cond.methodLink RL 102 yX11_path ∈ wsL_law := inR45 _ (List.mem_of_getElem? (i := 8) rfl)
theorem kw1181 : Cond.code yX12_path cX12_path 3 (some .int) ∈ wsL_law := inR45 _ (List.mem_of_getElem? (i := 16) rfl)
theorem kw1182 : Cond.instanceMethod yX12_path ∈ wsL_law := inR45 _ (List.mem_of_getElem? (i := 14) rfl)
theorem kw1183 : Cond.selects RX12 yX12_path yX12_path ∈ wsL_law := inR45 _ (List.mem_of_getElem? (i := 15) rfl)
theorem kw1184 : Cond.methodLink RL 105 yX12_path ∈ wsL_law := inR45 _ (List.mem_of_getElem? (i := 13) rfl)
theorem kw1185 : Cond.code yX11_limit cX11_limit 2 (some .int) ∈ wsL_law := inR46 _ (List.mem_of_getElem? (i := 0) rfl)
theorem kw1186 : Cond.instanceMethod yX11_limit ∈ wsL_law := inR45 _ (List.mem_of_getElem? (i := 22) rfl)
theorem kw1187 : Cond.selects RX11 yX11_limit yX11_limit ∈ wsL_law := inR45 _ (List.mem_of_getElem? (i := 23) rfl)
theorem kw1188 : Cond.methodLink RL 106 yX11_limit ∈ wsL_law := inR45 _ (List.mem_of_getElem? (i := 21) rfl)
theorem kw1189 : Cond.code yX12_limit cX12_limit 6 (some .int) ∈ wsL_law := inR46 _ (List.mem_of_getElem? (i := 8) rfl)
theorem kw1190 : Cond.instanceMethod yX12_limit ∈ wsL_law := inR46 _ (List.mem_of_getElem? (i := 6) rfl)
theorem kw1191 : Cond.selects RX12 yX12_limit yX12_limit ∈ wsL_law := inR46 _ (List.mem_of_getElem? (i := 7) rfl)
theorem kw1192 : Cond.methodLink RL 109 yX12_limit ∈ wsL_law := inR46 _ (List.mem_of_getElem? (i := 5) rfl)
theorem kw1193 : Cond.code yX11_asks cX11_asks 2 (some .int) ∈ wsL_law := inR46 _ (List.mem_of_getElem? (i := 12) rfl)
theorem kw1194 : Cond.instanceMethod yX11_asks ∈ wsL_law := inR46 _ (List.mem_of_getElem? (i := 10) rfl)
theorem kw1195 : Cond.selects RX11 yX11_asks yX11_asks ∈ wsL_law := inR46 _ (List.mem_of_getElem? (i := 11) rfl)
theorem kw1196 : Cond.methodLink RL 110 yX11_asks ∈ wsL_law := inR46 _ (List.mem_of_getElem? (i := 9) rfl)
theorem kw1197 : Cond.code yX12_asks cX12_asks 9 (some .int) ∈ wsL_law := inR48 _ (List.mem_of_getElem? (i := 13) rfl)
theorem kw1198 : Cond.instanceMethod yX12_asks ∈ wsL_law := inR48 _ (List.mem_of_getElem? (i := 11) rfl)
theorem kw1199 : Cond.selects RX12 yX12_asks yX12_asks ∈ wsL_law := inR48 _ (List.mem_of_getElem? (i := 12) rfl)
theorem kw1200 : Cond.methodLink RL 113 yX12_asks ∈ wsL_law := inR48 _ (List.mem_of_getElem? (i := 10) rfl)
theorem kw1201 : Cond.code yX11_asked cX11_asked 3 (some .int) ∈ wsL_law := inR49 _ (List.mem_of_getElem? (i := 3) rfl)
theorem kw1202 : Cond.instanceMethod yX11_asked ∈ wsL_law := inR49 _ (List.mem_of_getElem? (i := 1) rfl)
theorem kw1203 : Cond.selects RX11 yX11_asked yX11_asked ∈ wsL_law := inR49 _ (List.mem_of_getElem? (i := 2) rfl)
theorem kw1204 : Cond.methodLink RL 114 yX11_asked ∈ wsL_law := inR49 _ (List.mem_of_getElem? (i := 0) rfl)
theorem kw1205 : Cond.code yX12_asked cX12_asked 3 (some .int) ∈ wsL_law := inR49 _ (List.mem_of_getElem? (i := 8) rfl)
theorem kw1206 : Cond.instanceMethod yX12_asked ∈ wsL_law := inR49 _ (List.mem_of_getElem? (i := 6) rfl)
theorem kw1207 : Cond.selects RX12 yX12_asked yX12_asked ∈ wsL_law := inR49 _ (List.mem_of_getElem? (i := 7) rfl)
theorem kw1208 : Cond.methodLink RL 117 yX12_asked ∈ wsL_law := inR49 _ (List.mem_of_getElem? (i := 5) rfl)
theorem kw1209 : Cond.code yX11_keystone cX11_keystone 1 (some .int) ∈ wsL_law := inR49 _ (List.mem_of_getElem? (i := 12) rfl)
theorem kw1210 : Cond.instanceMethod yX11_keystone ∈ wsL_law := inR49 _ (List.mem_of_getElem? (i := 10) rfl)
theorem kw1211 : Cond.selects RX11 yX11_keystone yX11_keystone ∈ wsL_law := inR49 _ (List.mem_of_getElem? (i := 11) rfl)
theorem kw1212 : Cond.methodLink RL 118 yX11_keystone ∈ wsL_law := inR49 _ (List.mem_of_getElem? (i := 9) rfl)
theorem kw1213 : Cond.code yX12_keystone cX12_keystone 5 (some .int) ∈ wsL_law := inR50 _ (List.mem_of_getElem? (i := 12) rfl)
theorem kw1214 : Cond.instanceMethod yX12_keystone ∈ wsL_law := inR50 _ (List.mem_of_getElem? (i := 10) rfl)
theorem kw1215 : Cond.selects RX12 yX12_keystone yX12_keystone ∈ wsL_law := inR50 _ (List.mem_of_getElem? (i := 11) rfl)
theorem kw1216 : Cond.methodLink RL 121 yX12_keystone ∈ wsL_law := inR50 _ (List.mem_of_getElem? (i := 9) rfl)
theorem kw1217 : Cond.code yX11_able cX11_able 1 (some .int) ∈ wsL_law := inR50 _ (List.mem_of_getElem? (i := 20) rfl)
theorem kw1218 : Cond.instanceMethod yX11_able ∈ wsL_law := inR50 _ (List.mem_of_getElem? (i := 18) rfl)
theorem kw1219 : Cond.selects RX11 yX11_able yX11_able ∈ wsL_law := inR50 _ (List.mem_of_getElem? (i := 19) rfl)
theorem kw1220 : Cond.methodLink RL 122 yX11_able ∈ wsL_law := inR50 _ (List.mem_of_getElem? (i := 17) rfl)
theorem kw1221 : Cond.code yX12_able cX12_able 1 (some .int) ∈ wsL_law := inR51 _ (List.mem_of_getElem? (i := 2) rfl)
theorem kw1222 : Cond.instanceMethod yX12_able ∈ wsL_law := inR51 _ (List.mem_of_getElem? (i := 0) rfl)
theorem kw1223 : Cond.selects RX12 yX12_able yX12_able ∈ wsL_law := inR51 _ (List.mem_of_getElem? (i := 1) rfl)
theorem kw1224 : Cond.methodLink RL 125 yX12_able ∈ wsL_law := inR50 _ (List.mem_of_getElem? (i := 23) rfl)
theorem kw1225 : Cond.code yX11_cut cX11_cut 2 (some .int) ∈ wsL_law := inR51 _ (List.mem_of_getElem? (i := 6) rfl)
theorem kw1226 : Cond.instanceMethod yX11_cut ∈ wsL_law := inR51 _ (List.mem_of_getElem? (i := 4) rfl)
theorem kw1227 : Cond.selects RX11 yX11_cut yX11_cut ∈ wsL_law := inR51 _ (List.mem_of_getElem? (i := 5) rfl)
theorem kw1228 : Cond.methodLink RL 126 yX11_cut ∈ wsL_law := inR51 _ (List.mem_of_getElem? (i := 3) rfl)
theorem kw1229 : Cond.code yX12_cut cX12_cut 4 (some .int) ∈ wsL_law := inR53 _ (List.mem_of_getElem? (i := 2) rfl)
theorem kw1230 : Cond.instanceMethod yX12_cut ∈ wsL_law := inR53 _ (List.mem_of_getElem? (i := 0) rfl)
theorem kw1231 : Cond.selects RX12 yX12_cut yX12_cut ∈ wsL_law := inR53 _ (List.mem_of_getElem? (i := 1) rfl)
theorem kw1232 : Cond.methodLink RL 129 yX12_cut ∈ wsL_law := inR52 _ (List.mem_of_getElem? (i := 23) rfl)
theorem kw1233 : Cond.code yX11_cutAt cX11_cutAt 2 (some .int) ∈ wsL_law := inR53 _ (List.mem_of_getElem? (i := 11) rfl)
theorem kw1234 : Cond.instanceMethod yX11_cutAt ∈ wsL_law := inR53 _ (List.mem_of_getElem? (i := 9) rfl)
theorem kw1235 : Cond.selects RX11 yX11_cutAt yX11_cutAt ∈ wsL_law := inR53 _ (List.mem_of_getElem? (i := 10) rfl)
theorem kw1236 : Cond.methodLink RL 130 yX11_cutAt ∈ wsL_law := inR53 _ (List.mem_of_getElem? (i := 8) rfl)
theorem kw1237 : Cond.code yX12_cutAt cX12_cutAt 2 (some .int) ∈ wsL_law := inR53 _ (List.mem_of_getElem? (i := 17) rfl)
theorem kw1238 : Cond.instanceMethod yX12_cutAt ∈ wsL_law := inR53 _ (List.mem_of_getElem? (i := 15) rfl)
theorem kw1239 : Cond.selects RX12 yX12_cutAt yX12_cutAt ∈ wsL_law := inR53 _ (List.mem_of_getElem? (i := 16) rfl)
theorem kw1240 : Cond.methodLink RL 133 yX12_cutAt ∈ wsL_law := inR53 _ (List.mem_of_getElem? (i := 14) rfl)
theorem kw1241 : Cond.code yX11_order cX11_order 1 (some .int) ∈ wsL_law := inR53 _ (List.mem_of_getElem? (i := 21) rfl)
theorem kw1242 : Cond.instanceMethod yX11_order ∈ wsL_law := inR53 _ (List.mem_of_getElem? (i := 19) rfl)
theorem kw1243 : Cond.selects RX11 yX11_order yX11_order ∈ wsL_law := inR53 _ (List.mem_of_getElem? (i := 20) rfl)
theorem kw1244 : Cond.methodLink RL 134 yX11_order ∈ wsL_law := inR53 _ (List.mem_of_getElem? (i := 18) rfl)
theorem kw1245 : Cond.code yX12_order cX12_order 2 (some .int) ∈ wsL_law := inR54 _ (List.mem_of_getElem? (i := 13) rfl)
theorem kw1246 : Cond.instanceMethod yX12_order ∈ wsL_law := inR54 _ (List.mem_of_getElem? (i := 11) rfl)
theorem kw1247 : Cond.selects RX12 yX12_order yX12_order ∈ wsL_law := inR54 _ (List.mem_of_getElem? (i := 12) rfl)
theorem kw1248 : Cond.methodLink RL 137 yX12_order ∈ wsL_law := inR54 _ (List.mem_of_getElem? (i := 10) rfl)
theorem kw1249 : Cond.code yX11_orderAt cX11_orderAt 2 (some .int) ∈ wsL_law := inR55 _ (List.mem_of_getElem? (i := 2) rfl)
theorem kw1250 : Cond.instanceMethod yX11_orderAt ∈ wsL_law := inR55 _ (List.mem_of_getElem? (i := 0) rfl)
theorem kw1251 : Cond.selects RX11 yX11_orderAt yX11_orderAt ∈ wsL_law := inR55 _ (List.mem_of_getElem? (i := 1) rfl)
theorem kw1252 : Cond.methodLink RL 138 yX11_orderAt ∈ wsL_law := inR54 _ (List.mem_of_getElem? (i := 23) rfl)
theorem kw1253 : Cond.code yX12_orderAt cX12_orderAt 2 (some .int) ∈ wsL_law := inR55 _ (List.mem_of_getElem? (i := 8) rfl)
theorem kw1254 : Cond.instanceMethod yX12_orderAt ∈ wsL_law := inR55 _ (List.mem_of_getElem? (i := 6) rfl)
theorem kw1255 : Cond.selects RX12 yX12_orderAt yX12_orderAt ∈ wsL_law := inR55 _ (List.mem_of_getElem? (i := 7) rfl)
theorem kw1256 : Cond.methodLink RL 141 yX12_orderAt ∈ wsL_law := inR55 _ (List.mem_of_getElem? (i := 5) rfl)
theorem kw1257 : Cond.code yX11_forgers cX11_forgers 2 (some .int) ∈ wsL_law := inR55 _ (List.mem_of_getElem? (i := 12) rfl)
theorem kw1258 : Cond.instanceMethod yX11_forgers ∈ wsL_law := inR55 _ (List.mem_of_getElem? (i := 10) rfl)
theorem kw1259 : Cond.selects RX11 yX11_forgers yX11_forgers ∈ wsL_law := inR55 _ (List.mem_of_getElem? (i := 11) rfl)
theorem kw1260 : Cond.methodLink RL 142 yX11_forgers ∈ wsL_law := inR55 _ (List.mem_of_getElem? (i := 9) rfl)
theorem kw1261 : Cond.code yX12_forgers cX12_forgers 8 (some .int) ∈ wsL_law := inR57 _ (List.mem_of_getElem? (i := 15) rfl)
theorem kw1262 : Cond.instanceMethod yX12_forgers ∈ wsL_law := inR57 _ (List.mem_of_getElem? (i := 13) rfl)
theorem kw1263 : Cond.selects RX12 yX12_forgers yX12_forgers ∈ wsL_law := inR57 _ (List.mem_of_getElem? (i := 14) rfl)
theorem kw1264 : Cond.methodLink RL 145 yX12_forgers ∈ wsL_law := inR57 _ (List.mem_of_getElem? (i := 12) rfl)
theorem kw1265 : Cond.code yX11_surely cX11_surely 1 (some .int) ∈ wsL_law := inR57 _ (List.mem_of_getElem? (i := 23) rfl)
theorem kw1266 : Cond.instanceMethod yX11_surely ∈ wsL_law := inR57 _ (List.mem_of_getElem? (i := 21) rfl)
theorem kw1267 : Cond.selects RX11 yX11_surely yX11_surely ∈ wsL_law := inR57 _ (List.mem_of_getElem? (i := 22) rfl)
theorem kw1268 : Cond.methodLink RL 146 yX11_surely ∈ wsL_law := inR57 _ (List.mem_of_getElem? (i := 20) rfl)
theorem kw1269 : Cond.code yX12_surely cX12_surely 1 (some .int) ∈ wsL_law := inR58 _ (List.mem_of_getElem? (i := 4) rfl)
theorem kw1270 : Cond.instanceMethod yX12_surely ∈ wsL_law := inR58 _ (List.mem_of_getElem? (i := 2) rfl)
theorem kw1271 : Cond.selects RX12 yX12_surely yX12_surely ∈ wsL_law := inR58 _ (List.mem_of_getElem? (i := 3) rfl)
theorem kw1272 : Cond.methodLink RL 149 yX12_surely ∈ wsL_law := inR58 _ (List.mem_of_getElem? (i := 1) rfl)
theorem kw1273 : Cond.code yX11_tells cX11_tells 1 (some .int) ∈ wsL_law := inR58 _ (List.mem_of_getElem? (i := 8) rfl)
theorem kw1274 : Cond.instanceMethod yX11_tells ∈ wsL_law := inR58 _ (List.mem_of_getElem? (i := 6) rfl)
theorem kw1275 : Cond.selects RX11 yX11_tells yX11_tells ∈ wsL_law := inR58 _ (List.mem_of_getElem? (i := 7) rfl)
theorem kw1276 : Cond.methodLink RL 150 yX11_tells ∈ wsL_law := inR58 _ (List.mem_of_getElem? (i := 5) rfl)
theorem kw1277 : Cond.code yX12_tells cX12_tells 1 (some .int) ∈ wsL_law := inR58 _ (List.mem_of_getElem? (i := 13) rfl)
theorem kw1278 : Cond.instanceMethod yX12_tells ∈ wsL_law := inR58 _ (List.mem_of_getElem? (i := 11) rfl)
theorem kw1279 : Cond.selects RX12 yX12_tells yX12_tells ∈ wsL_law := inR58 _ (List.mem_of_getElem? (i := 12) rfl)
theorem kw1280 : Cond.methodLink RL 153 yX12_tells ∈ wsL_law := inR58 _ (List.mem_of_getElem? (i := 10) rfl)
theorem kw1281 : Cond.code yX11_law cX11_law 3 (some .int) ∈ wsL_law := inR58 _ (List.mem_of_getElem? (i := 17) rfl)
theorem kw1282 : Cond.instanceMethod yX11_law ∈ wsL_law := inR58 _ (List.mem_of_getElem? (i := 15) rfl)
theorem kw1283 : Cond.selects RX11 yX11_law yX11_law ∈ wsL_law := inR58 _ (List.mem_of_getElem? (i := 16) rfl)
theorem kw1284 : Cond.methodLink RL 154 yX11_law ∈ wsL_law := inR58 _ (List.mem_of_getElem? (i := 14) rfl)
theorem kw1285 : Cond.code yX12_law cX12_law 6 (some .int) ∈ wsL_law := inR59 _ (List.mem_of_getElem? (i := 6) rfl)
theorem kw1286 : Cond.instanceMethod yX12_law ∈ wsL_law := inR59 _ (List.mem_of_getElem? (i := 4) rfl)
theorem kw1287 : Cond.selects RX12 yX12_law yX12_law ∈ wsL_law := inR59 _ (List.mem_of_getElem? (i := 5) rfl)
theorem kw1288 : Cond.methodLink RL 157 yX12_law ∈ wsL_law := inR59 _ (List.mem_of_getElem? (i := 3) rfl)
theorem kw1289 : Cond.code yX11_lasts cX11_lasts 2 (some .int) ∈ wsL_law := inR59 _ (List.mem_of_getElem? (i := 22) rfl)
theorem kw1290 : Cond.instanceMethod yX11_lasts ∈ wsL_law := inR59 _ (List.mem_of_getElem? (i := 20) rfl)
theorem kw1291 : Cond.selects RX11 yX11_lasts yX11_lasts ∈ wsL_law := inR59 _ (List.mem_of_getElem? (i := 21) rfl)
theorem kw1292 : Cond.methodLink RL 158 yX11_lasts ∈ wsL_law := inR59 _ (List.mem_of_getElem? (i := 19) rfl)
theorem kw1293 : Cond.code yX12_lasts cX12_lasts 4 (some .int) ∈ wsL_law := inR60 _ (List.mem_of_getElem? (i := 8) rfl)
theorem kw1294 : Cond.instanceMethod yX12_lasts ∈ wsL_law := inR60 _ (List.mem_of_getElem? (i := 6) rfl)
theorem kw1295 : Cond.selects RX12 yX12_lasts yX12_lasts ∈ wsL_law := inR60 _ (List.mem_of_getElem? (i := 7) rfl)
theorem kw1296 : Cond.methodLink RL 161 yX12_lasts ∈ wsL_law := inR60 _ (List.mem_of_getElem? (i := 5) rfl)
theorem kw1297 : Cond.code yX11_toll cX11_toll 3 (some .int) ∈ wsL_law := inR60 _ (List.mem_of_getElem? (i := 12) rfl)
theorem kw1298 : Cond.instanceMethod yX11_toll ∈ wsL_law := inR60 _ (List.mem_of_getElem? (i := 10) rfl)
theorem kw1299 : Cond.selects RX11 yX11_toll yX11_toll ∈ wsL_law := inR60 _ (List.mem_of_getElem? (i := 11) rfl)
theorem kw1300 : Cond.methodLink RL 162 yX11_toll ∈ wsL_law := inR60 _ (List.mem_of_getElem? (i := 9) rfl)
theorem kw1301 : Cond.code yX12_toll cX12_toll 6 (some .int) ∈ wsL_law := inR60 _ (List.mem_of_getElem? (i := 20) rfl)
theorem kw1302 : Cond.instanceMethod yX12_toll ∈ wsL_law := inR60 _ (List.mem_of_getElem? (i := 18) rfl)
theorem kw1303 : Cond.selects RX12 yX12_toll yX12_toll ∈ wsL_law := inR60 _ (List.mem_of_getElem? (i := 19) rfl)
theorem kw1304 : Cond.methodLink RL 165 yX12_toll ∈ wsL_law := inR60 _ (List.mem_of_getElem? (i := 17) rfl)
theorem kw1305 : Cond.code yX11_plate cX11_plate 4 (some .int) ∈ wsL_law := inR61 _ (List.mem_of_getElem? (i := 0) rfl)
theorem kw1306 : Cond.instanceMethod yX11_plate ∈ wsL_law := inR60 _ (List.mem_of_getElem? (i := 22) rfl)
theorem kw1307 : Cond.selects RX11 yX11_plate yX11_plate ∈ wsL_law := inR60 _ (List.mem_of_getElem? (i := 23) rfl)
theorem kw1308 : Cond.methodLink RL 166 yX11_plate ∈ wsL_law := inR60 _ (List.mem_of_getElem? (i := 21) rfl)
theorem kw1309 : Cond.code yX12_plate cX12_plate 4 (some .int) ∈ wsL_law := inR67 _ (List.mem_of_getElem? (i := 21) rfl)
theorem kw1310 : Cond.instanceMethod yX12_plate ∈ wsL_law := inR67 _ (List.mem_of_getElem? (i := 19) rfl)
theorem kw1311 : Cond.selects RX12 yX12_plate yX12_plate ∈ wsL_law := inR67 _ (List.mem_of_getElem? (i := 20) rfl)
theorem kw1312 : Cond.methodLink RL 169 yX12_plate ∈ wsL_law := inR67 _ (List.mem_of_getElem? (i := 18) rfl)
theorem kw1313 : Cond.code yX11_byteAt cX11_byteAt 2 (some .int) ∈ wsL_law := inR68 _ (List.mem_of_getElem? (i := 10) rfl)
theorem kw1314 : Cond.instanceMethod yX11_byteAt ∈ wsL_law := inR68 _ (List.mem_of_getElem? (i := 8) rfl)
theorem kw1315 : Cond.selects RX11 yX11_byteAt yX11_byteAt ∈ wsL_law := inR68 _ (List.mem_of_getElem? (i := 9) rfl)
theorem kw1316 : Cond.methodLink RL 170 yX11_byteAt ∈ wsL_law := inR68 _ (List.mem_of_getElem? (i := 7) rfl)
theorem kw1317 : Cond.code yX12_byteAt cX12_byteAt 2 (some .int) ∈ wsL_law := inR69 _ (List.mem_of_getElem? (i := 1) rfl)
theorem kw1318 : Cond.instanceMethod yX12_byteAt ∈ wsL_law := inR68 _ (List.mem_of_getElem? (i := 23) rfl)
theorem kw1319 : Cond.selects RX12 yX12_byteAt yX12_byteAt ∈ wsL_law := inR69 _ (List.mem_of_getElem? (i := 0) rfl)
theorem kw1320 : Cond.methodLink RL 173 yX12_byteAt ∈ wsL_law := inR68 _ (List.mem_of_getElem? (i := 22) rfl)
theorem kw1321 : Cond.code yX11_drawn cX11_drawn 4 (some .int) ∈ wsL_law := inR69 _ (List.mem_of_getElem? (i := 5) rfl)
theorem kw1322 : Cond.instanceMethod yX11_drawn ∈ wsL_law := inR69 _ (List.mem_of_getElem? (i := 3) rfl)
theorem kw1323 : Cond.selects RX11 yX11_drawn yX11_drawn ∈ wsL_law := inR69 _ (List.mem_of_getElem? (i := 4) rfl)
theorem kw1324 : Cond.methodLink RL 174 yX11_drawn ∈ wsL_law := inR69 _ (List.mem_of_getElem? (i := 2) rfl)
theorem kw1325 : Cond.code yX12_drawn cX12_drawn 3 (some .int) ∈ wsL_law := inR70 _ (List.mem_of_getElem? (i := 4) rfl)
theorem kw1326 : Cond.instanceMethod yX12_drawn ∈ wsL_law := inR70 _ (List.mem_of_getElem? (i := 2) rfl)
theorem kw1327 : Cond.selects RX12 yX12_drawn yX12_drawn ∈ wsL_law := inR70 _ (List.mem_of_getElem? (i := 3) rfl)
theorem kw1328 : Cond.methodLink RL 177 yX12_drawn ∈ wsL_law := inR70 _ (List.mem_of_getElem? (i := 1) rfl)
theorem kw1329 : Cond.code yX11_odds cX11_odds 4 (some .int) ∈ wsL_law := inR70 _ (List.mem_of_getElem? (i := 22) rfl)
theorem kw1330 : Cond.instanceMethod yX11_odds ∈ wsL_law := inR70 _ (List.mem_of_getElem? (i := 20) rfl)
theorem kw1331 : Cond.selects RX11 yX11_odds yX11_odds ∈ wsL_law := inR70 _ (List.mem_of_getElem? (i := 21) rfl)
theorem kw1332 : Cond.methodLink RL 178 yX11_odds ∈ wsL_law := inR70 _ (List.mem_of_getElem? (i := 19) rfl)
theorem kw1333 : Cond.code yX12_odds cX12_odds 6 (some .int) ∈ wsL_law := inR71 _ (List.mem_of_getElem? (i := 7) rfl)
theorem kw1334 : Cond.instanceMethod yX12_odds ∈ wsL_law := inR71 _ (List.mem_of_getElem? (i := 5) rfl)
theorem kw1335 : Cond.selects RX12 yX12_odds yX12_odds ∈ wsL_law := inR71 _ (List.mem_of_getElem? (i := 6) rfl)
theorem kw1336 : Cond.methodLink RL 181 yX12_odds ∈ wsL_law := inR71 _ (List.mem_of_getElem? (i := 4) rfl)
theorem kw1337 : Cond.code yX11_book cX11_book 4 (some .int) ∈ wsL_law := inR71 _ (List.mem_of_getElem? (i := 11) rfl)
theorem kw1338 : Cond.instanceMethod yX11_book ∈ wsL_law := inR71 _ (List.mem_of_getElem? (i := 9) rfl)
theorem kw1339 : Cond.selects RX11 yX11_book yX11_book ∈ wsL_law := inR71 _ (List.mem_of_getElem? (i := 10) rfl)
theorem kw1340 : Cond.methodLink RL 182 yX11_book ∈ wsL_law := inR71 _ (List.mem_of_getElem? (i := 8) rfl)
theorem kw1341 : Cond.code yX12_book cX12_book 4 (some .int) ∈ wsL_law := inR73 _ (List.mem_of_getElem? (i := 21) rfl)
theorem kw1342 : Cond.instanceMethod yX12_book ∈ wsL_law := inR73 _ (List.mem_of_getElem? (i := 19) rfl)
theorem kw1343 : Cond.selects RX12 yX12_book yX12_book ∈ wsL_law := inR73 _ (List.mem_of_getElem? (i := 20) rfl)
theorem kw1344 : Cond.methodLink RL 185 yX12_book ∈ wsL_law := inR73 _ (List.mem_of_getElem? (i := 18) rfl)
theorem kw1345 : Cond.code yX11_told cX11_told 2 (some .int) ∈ wsL_law := inR75 _ (List.mem_of_getElem? (i := 11) rfl)
theorem kw1346 : Cond.instanceMethod yX11_told ∈ wsL_law := inR75 _ (List.mem_of_getElem? (i := 9) rfl)
theorem kw1347 : Cond.selects RX11 yX11_told yX11_told ∈ wsL_law := inR75 _ (List.mem_of_getElem? (i := 10) rfl)
theorem kw1348 : Cond.methodLink RL 186 yX11_told ∈ wsL_law := inR75 _ (List.mem_of_getElem? (i := 8) rfl)
theorem kw1349 : Cond.code yX12_told cX12_told 2 (some .int) ∈ wsL_law := inR75 _ (List.mem_of_getElem? (i := 16) rfl)
theorem kw1350 : Cond.instanceMethod yX12_told ∈ wsL_law := inR75 _ (List.mem_of_getElem? (i := 14) rfl)
theorem kw1351 : Cond.selects RX12 yX12_told yX12_told ∈ wsL_law := inR75 _ (List.mem_of_getElem? (i := 15) rfl)
theorem kw1352 : Cond.methodLink RL 189 yX12_told ∈ wsL_law := inR75 _ (List.mem_of_getElem? (i := 13) rfl)
theorem kw1353 : Cond.code yX11_sentence cX11_sentence 3 (some .int) ∈ wsL_law := inR75 _ (List.mem_of_getElem? (i := 20) rfl)
theorem kw1354 : Cond.instanceMethod yX11_sentence ∈ wsL_law := inR75 _ (List.mem_of_getElem? (i := 18) rfl)
theorem kw1355 : Cond.selects RX11 yX11_sentence yX11_sentence ∈ wsL_law := inR75 _ (List.mem_of_getElem? (i := 19) rfl)
theorem kw1356 : Cond.methodLink RL 190 yX11_sentence ∈ wsL_law := inR75 _ (List.mem_of_getElem? (i := 17) rfl)
theorem kw1357 : Cond.code yX12_sentence cX12_sentence 2 (some .int) ∈ wsL_law := inR78 _ (List.mem_of_getElem? (i := 9) rfl)
theorem kw1358 : Cond.instanceMethod yX12_sentence ∈ wsL_law := inR78 _ (List.mem_of_getElem? (i := 7) rfl)
theorem kw1359 : Cond.selects RX12 yX12_sentence yX12_sentence ∈ wsL_law := inR78 _ (List.mem_of_getElem? (i := 8) rfl)
theorem kw1360 : Cond.methodLink RL 193 yX12_sentence ∈ wsL_law := inR78 _ (List.mem_of_getElem? (i := 6) rfl)
theorem kw1361 : Cond.code yX11_said cX11_said 5 (some .int) ∈ wsL_law := inR80 _ (List.mem_of_getElem? (i := 5) rfl)
theorem kw1362 : Cond.instanceMethod yX11_said ∈ wsL_law := inR80 _ (List.mem_of_getElem? (i := 3) rfl)
theorem kw1363 : Cond.selects RX11 yX11_said yX11_said ∈ wsL_law := inR80 _ (List.mem_of_getElem? (i := 4) rfl)
theorem kw1364 : Cond.methodLink RL 194 yX11_said ∈ wsL_law := inR80 _ (List.mem_of_getElem? (i := 2) rfl)
theorem kw1365 : Cond.code yX12_said cX12_said 4 (some .int) ∈ wsL_law := inR81 _ (List.mem_of_getElem? (i := 13) rfl)
theorem kw1366 : Cond.instanceMethod yX12_said ∈ wsL_law := inR81 _ (List.mem_of_getElem? (i := 11) rfl)
theorem kw1367 : Cond.selects RX12 yX12_said yX12_said ∈ wsL_law := inR81 _ (List.mem_of_getElem? (i := 12) rfl)
theorem kw1368 : Cond.methodLink RL 197 yX12_said ∈ wsL_law := inR81 _ (List.mem_of_getElem? (i := 10) rfl)
theorem kw1369 : Cond.code yX11_image cX11_image 2 (some .boolean) ∈ wsL_law := inR82 _ (List.mem_of_getElem? (i := 1) rfl)
theorem kw1370 : Cond.instanceMethod yX11_image ∈ wsL_law := inR81 _ (List.mem_of_getElem? (i := 23) rfl)
theorem kw1371 : Cond.selects RX11 yX11_image yX11_image ∈ wsL_law := inR82 _ (List.mem_of_getElem? (i := 0) rfl)
theorem kw1372 : Cond.methodLink RL 198 yX11_image ∈ wsL_law := inR81 _ (List.mem_of_getElem? (i := 22) rfl)
theorem kw1373 : Cond.code yX12_image cX12_image 3 (some .boolean) ∈ wsL_law := inR82 _ (List.mem_of_getElem? (i := 10) rfl)
theorem kw1374 : Cond.instanceMethod yX12_image ∈ wsL_law := inR82 _ (List.mem_of_getElem? (i := 8) rfl)
theorem kw1375 : Cond.selects RX12 yX12_image yX12_image ∈ wsL_law := inR82 _ (List.mem_of_getElem? (i := 9) rfl)
theorem kw1376 : Cond.methodLink RL 201 yX12_image ∈ wsL_law := inR82 _ (List.mem_of_getElem? (i := 7) rfl)
theorem kw1377 : Cond.code yX11_restore cX11_restore 2 (some .boolean) ∈ wsL_law := inR82 _ (List.mem_of_getElem? (i := 14) rfl)
theorem kw1378 : Cond.instanceMethod yX11_restore ∈ wsL_law := inR82 _ (List.mem_of_getElem? (i := 12) rfl)
theorem kw1379 : Cond.selects RX11 yX11_restore yX11_restore ∈ wsL_law := inR82 _ (List.mem_of_getElem? (i := 13) rfl)
theorem kw1380 : Cond.methodLink RL 202 yX11_restore ∈ wsL_law := inR82 _ (List.mem_of_getElem? (i := 11) rfl)
theorem kw1381 : Cond.code yX12_restore cX12_restore 3 (some .boolean) ∈ wsL_law := inR82 _ (List.mem_of_getElem? (i := 18) rfl)
theorem kw1382 : Cond.instanceMethod yX12_restore ∈ wsL_law := inR82 _ (List.mem_of_getElem? (i := 16) rfl)
theorem kw1383 : Cond.selects RX12 yX12_restore yX12_restore ∈ wsL_law := inR82 _ (List.mem_of_getElem? (i := 17) rfl)
theorem kw1384 : Cond.methodLink RL 205 yX12_restore ∈ wsL_law := inR82 _ (List.mem_of_getElem? (i := 15) rfl)
theorem kw1385 : Cond.code yX11_count cX11_count 2 (some .int) ∈ wsL_law := inR82 _ (List.mem_of_getElem? (i := 22) rfl)
theorem kw1386 : Cond.instanceMethod yX11_count ∈ wsL_law := inR82 _ (List.mem_of_getElem? (i := 20) rfl)
theorem kw1387 : Cond.selects RX11 yX11_count yX11_count ∈ wsL_law := inR82 _ (List.mem_of_getElem? (i := 21) rfl)
theorem kw1388 : Cond.methodLink RL 206 yX11_count ∈ wsL_law := inR82 _ (List.mem_of_getElem? (i := 19) rfl)
theorem kw1389 : Cond.code yX12_count cX12_count 2 (some .int) ∈ wsL_law := inR83 _ (List.mem_of_getElem? (i := 4) rfl)
theorem kw1390 : Cond.instanceMethod yX12_count ∈ wsL_law := inR83 _ (List.mem_of_getElem? (i := 2) rfl)
theorem kw1391 : Cond.selects RX12 yX12_count yX12_count ∈ wsL_law := inR83 _ (List.mem_of_getElem? (i := 3) rfl)
theorem kw1392 : Cond.methodLink RL 209 yX12_count ∈ wsL_law := inR83 _ (List.mem_of_getElem? (i := 1) rfl)
theorem kw1393 : Cond.instantiable RJ4 4 ∈ wsL_law := inR3 _ (List.mem_of_getElem? (i := 11) rfl)
theorem kw1394 : Cond.instantiable RX0 5 ∈ wsL_law := inR2 _ (List.mem_of_getElem? (i := 19) rfl)
theorem kw1395 : Cond.instantiable RX1 6 ∈ wsL_law := inR2 _ (List.mem_of_getElem? (i := 11) rfl)
theorem kw1396 : Cond.instantiable RX10 4 ∈ wsL_law := inR2 _ (List.mem_of_getElem? (i := 15) rfl)
theorem kw1397 : Cond.instantiable RX11 20 ∈ wsL_law := inR1 _ (List.mem_of_getElem? (i := 1) rfl)
theorem kw1398 : Cond.instantiable RX12 60 ∈ wsL_law := inR1 _ (List.mem_of_getElem? (i := 4) rfl)
theorem kw1399 : Cond.instantiable RX2 5 ∈ wsL_law := inR1 _ (List.mem_of_getElem? (i := 18) rfl)
theorem kw1400 : Cond.instantiable RX3 5 ∈ wsL_law := inR2 _ (List.mem_of_getElem? (i := 23) rfl)
theorem kw1401 : Cond.instantiable RX4 5 ∈ wsL_law := inR3 _ (List.mem_of_getElem? (i := 7) rfl)
theorem kw1402 : Cond.instantiable RX5 5 ∈ wsL_law := inR3 _ (List.mem_of_getElem? (i := 3) rfl)
theorem kw1403 : Cond.instantiable RX6 15 ∈ wsL_law := inR1 _ (List.mem_of_getElem? (i := 22) rfl)
theorem kw1404 : Cond.instantiable RX7 9 ∈ wsL_law := inR2 _ (List.mem_of_getElem? (i := 6) rfl)
theorem kw1405 : Cond.instantiable RX8 9 ∈ wsL_law := inR2 _ (List.mem_of_getElem? (i := 2) rfl)
theorem kw1406 : Cond.instantiable RX9 13 ∈ wsL_law := inR1 _ (List.mem_of_getElem? (i := 14) rfl)
end
section
noncomputable section
def tbs (k : Nat) : List Cond := match k with
  | 0 => k2_sels lw_privs
  | 1 => tables_1_1
  | 2 => tables_1_2
  | 3 => tables_1_3
  | 4 => tables_1_4
  | 5 => tables_1_5
  | 6 => tables_1_6
  | 7 => tables_1_7
  | 8 => tables_1_8
  | 9 => tables_1_9
  | 10 => tables_1_10
  | 11 => tables_1_11
  | _ => []
theorem tbs_in (k : Nat) : ∀ w ∈ tbs k, w ∈ lw_tbl := fun w h => match k, h with
  | 0, h => List.mem_append_left _ h
  | 1, h => List.mem_append_right _ (List.mem_append_left _ h)
  | 2, h => List.mem_append_right _ (List.mem_append_right _ (List.mem_append_left _ h))
  | 3, h => List.mem_append_right _ (List.mem_append_right _ (List.mem_append_right _ (List.mem_append_left _ h)))
  | 4, h => List.mem_append_right _ (List.mem_append_right _ (List.mem_append_right _ (List.mem_append_right _ (List.mem_append_left _ h))))
  | 5, h => List.mem_append_right _ (List.mem_append_right _ (List.mem_append_right _ (List.mem_append_right _ (List.mem_append_right _ (List.mem_append_left _ h)))))
  | 6, h => List.mem_append_right _ (List.mem_append_right _ (List.mem_append_right _ (List.mem_append_right _ (List.mem_append_right _ (List.mem_append_right _ (List.mem_append_left _ h))))))
  | 7, h => List.mem_append_right _ (List.mem_append_right _ (List.mem_append_right _ (List.mem_append_right _ (List.mem_append_right _ (List.mem_append_right _ (List.mem_append_right _ (List.mem_append_left _ h)))))))
  | 8, h => List.mem_append_right _ (List.mem_append_right _ (List.mem_append_right _ (List.mem_append_right _ (List.mem_append_right _ (List.mem_append_right _ (List.mem_append_right _ (List.mem_append_right _ (List.mem_append_left _ h))))))))
  | 9, h => List.mem_append_right _ (List.mem_append_right _ (List.mem_append_right _ (List.mem_append_right _ (List.mem_append_right _ (List.mem_append_right _ (List.mem_append_right _ (List.mem_append_right _ (List.mem_append_right _ (List.mem_append_left _ h)))))))))
  | 10, h => List.mem_append_right _ (List.mem_append_right _ (List.mem_append_right _ (List.mem_append_right _ (List.mem_append_right _ (List.mem_append_right _ (List.mem_append_right _ (List.mem_append_right _ (List.mem_append_right _ (List.mem_append_right _ (List.mem_append_left _ h))))))))))
  | 11, h => List.mem_append_right _ (List.mem_append_right _ (List.mem_append_right _ (List.mem_append_right _ (List.mem_append_right _ (List.mem_append_right _ (List.mem_append_right _ (List.mem_append_right _ (List.mem_append_right _ (List.mem_append_right _ (List.mem_append_right _ (h)))))))))))
  | _ + 12, h => absurd h List.not_mem_nil
theorem tbs_of {ws : List Cond} (ps : List (Nat × Nat)) (h : ws = ps.filterMap (fun q => (tbs q.1)[q.2]?)) : ∀ w ∈ ws, w ∈ lw_tbl := by
  intro w hw
  rw [h] at hw
  obtain ⟨q, -, hq⟩ := List.mem_filterMap.mp hw
  exact tbs_in q.1 w (List.mem_of_getElem? hq)
set_option maxRecDepth 20000 in
theorem tb_r1 : ∀ w ∈ wsL_law0_r1, w ∈ lw_tbl := tbs_of [(1, 29), (1, 30), (1, 1), (7, 212), (7, 206), (1, 18), (1, 227), (1, 31), (1, 32), (1, 33), (1, 34), (1, 35), (1, 36), (1, 37), (1, 38), (1, 2), (3, 47), (1, 101), (1, 102), (1, 3), (3, 48), (2, 6), (1, 108), (1, 4)] (by decide +kernel)
set_option maxRecDepth 20000 in
theorem tb_r2 : ∀ w ∈ wsL_law0_r2, w ∈ lw_tbl := tbs_of [(3, 49), (2, 8), (2, 9), (1, 6), (3, 50), (2, 68), (2, 69), (1, 7), (3, 51), (3, 52), (2, 103), (2, 104), (1, 8), (3, 53), (2, 129), (2, 130), (1, 9), (3, 54), (2, 150), (2, 151), (1, 10), (3, 55), (2, 176), (2, 177)] (by decide +kernel)
set_option maxRecDepth 20000 in
theorem tb_r3 : ∀ w ∈ wsL_law0_r3, w ∈ lw_tbl := tbs_of [(1, 11), (3, 56), (2, 202), (2, 203), (1, 12), (3, 57), (2, 226), (2, 227), (1, 13), (3, 58), (3, 12), (3, 13), (1, 15), (3, 59), (3, 60), (3, 63), (3, 64), (3, 65), (3, 108), (3, 66), (1, 40), (1, 41), (1, 42), (1, 100)] (by decide +kernel)
set_option maxRecDepth 20000 in
theorem tb_r4 : ∀ w ∈ wsL_law0_r4, w ∈ lw_tbl := tbs_of [(1, 43), (1, 104), (1, 105), (1, 106), (1, 107), (1, 228), (1, 109), (1, 110), (1, 111), (1, 112), (1, 158), (1, 161), (1, 164), (1, 169), (1, 174), (1, 177), (1, 180), (1, 182), (1, 189), (1, 113), (1, 114), (1, 115), (1, 116), (1, 120)] (by decide +kernel)
set_option maxRecDepth 20000 in
theorem tb_r5 : ∀ w ∈ wsL_law0_r5, w ∈ lw_tbl := tbs_of [(1, 129), (1, 134), (1, 142), (1, 148), (1, 151), (1, 117), (1, 118), (1, 5), (1, 119), (2, 7), (2, 10), (2, 11), (2, 12), (2, 13), (2, 26), (2, 30), (2, 32), (2, 35), (2, 43), (2, 46), (2, 14), (2, 71), (2, 72), (2, 73)] (by decide +kernel)
set_option maxRecDepth 20000 in
theorem tb_r6 : ∀ w ∈ wsL_law0_r6, w ∈ lw_tbl := tbs_of [(2, 74), (2, 75), (2, 76), (2, 78), (2, 81), (2, 106), (2, 107), (2, 108), (2, 109), (2, 110), (2, 111), (2, 112), (2, 114), (2, 132), (2, 133), (2, 134), (2, 135), (2, 137), (2, 138), (2, 139), (2, 152), (2, 153), (2, 154), (2, 155)] (by decide +kernel)
set_option maxRecDepth 20000 in
theorem tb_r7 : ∀ w ∈ wsL_law0_r7, w ∈ lw_tbl := tbs_of [(2, 156), (2, 159), (2, 160), (2, 161), (2, 162), (2, 163), (2, 157), (2, 158), (2, 179), (2, 180), (2, 181), (2, 182), (2, 184), (2, 185), (2, 186), (2, 187), (2, 183), (2, 205), (2, 206), (2, 207), (2, 208), (2, 209), (2, 210), (2, 211)] (by decide +kernel)
set_option maxRecDepth 20000 in
theorem tb_r8 : ∀ w ∈ wsL_law0_r8, w ∈ lw_tbl := tbs_of [(2, 213), (2, 229), (2, 230), (2, 231), (2, 232), (2, 234), (2, 235), (2, 237), (2, 233), (3, 14), (3, 15), (3, 16), (3, 17), (3, 18), (1, 14), (3, 19), (3, 20), (3, 21), (3, 43), (3, 30), (3, 31), (3, 23), (3, 24), (1, 17)] (by decide +kernel)
set_option maxRecDepth 20000 in
theorem tb_r9 : ∀ w ∈ wsL_law0_r9, w ∈ lw_tbl := tbs_of [(3, 25), (3, 26), (3, 27), (3, 28), (3, 29), (7, 213), (7, 214), (7, 215), (7, 216), (7, 226), (7, 239), (8, 0), (8, 1), (8, 2), (8, 3), (8, 4), (8, 5), (8, 6), (8, 7), (8, 12), (8, 14), (8, 15), (8, 16), (8, 17)] (by decide +kernel)
set_option maxRecDepth 20000 in
theorem tb_r10 : ∀ w ∈ wsL_law0_r10, w ∈ lw_tbl := tbs_of [(8, 18), (8, 19), (8, 22), (8, 23), (8, 25), (8, 26), (8, 27), (8, 30), (8, 31), (8, 32), (8, 33), (8, 36), (8, 37), (8, 40), (7, 217), (7, 219), (0, 67), (7, 220), (7, 221), (7, 223), (0, 68), (7, 224), (3, 109), (3, 110)] (by decide +kernel)
set_option maxRecDepth 20000 in
theorem tb_r11 : ∀ w ∈ wsL_law0_r11, w ∈ lw_tbl := tbs_of [(3, 111), (3, 112), (1, 45), (3, 113), (3, 114), (3, 115), (3, 116), (1, 46), (7, 199), (7, 200), (7, 201), (7, 202), (7, 225), (7, 227), (7, 203), (7, 205), (0, 66), (7, 207), (3, 117), (3, 118), (3, 119), (3, 120), (7, 208), (7, 209)] (by decide +kernel)
set_option maxRecDepth 20000 in
theorem tb_r12 : ∀ w ∈ wsL_law0_r12, w ∈ lw_tbl := tbs_of [(7, 210), (7, 211), (3, 121), (3, 122), (3, 123), (3, 124), (1, 71), (1, 229), (3, 62), (1, 231), (3, 125), (3, 126), (3, 127), (3, 128), (1, 232), (1, 233), (1, 234), (1, 230), (1, 51), (3, 129), (3, 130), (3, 131), (3, 132), (3, 133)] (by decide +kernel)
set_option maxRecDepth 20000 in
theorem tb_r13 : ∀ w ∈ wsL_law0_r13, w ∈ lw_tbl := tbs_of [(1, 48), (1, 49), (1, 69), (3, 134), (3, 135), (3, 136), (3, 137), (3, 138), (3, 139), (1, 19), (3, 140), (1, 54), (1, 52), (1, 57), (3, 141), (3, 142), (3, 143), (3, 144), (3, 145), (3, 146), (3, 147), (3, 148), (3, 149), (3, 150)] (by decide +kernel)
set_option maxRecDepth 20000 in
theorem tb_r14 : ∀ w ∈ wsL_law0_r14, w ∈ lw_tbl := tbs_of [(3, 152), (0, 0), (3, 153), (1, 60), (3, 154), (3, 155), (3, 157), (3, 158), (3, 159), (1, 16), (3, 160), (11, 21), (3, 161), (3, 162), (3, 163), (3, 164), (3, 165), (11, 20), (3, 166), (3, 167), (1, 20), (3, 168), (3, 169), (3, 170)] (by decide +kernel)
set_option maxRecDepth 20000 in
theorem tb_r15 : ∀ w ∈ wsL_law0_r15, w ∈ lw_tbl := tbs_of [(3, 171), (3, 172), (3, 174), (3, 175), (1, 21), (3, 176), (3, 177), (3, 178), (3, 179), (3, 180), (3, 181), (3, 182), (3, 183), (3, 184), (3, 185), (3, 186), (3, 187), (3, 188), (3, 189), (3, 190), (3, 192), (3, 194), (3, 196), (3, 198)] (by decide +kernel)
set_option maxRecDepth 20000 in
theorem tb_r16 : ∀ w ∈ wsL_law0_r16, w ∈ lw_tbl := tbs_of [(0, 1), (3, 199), (3, 200), (3, 202), (0, 2), (3, 203), (1, 55), (3, 204), (3, 205), (3, 206), (3, 207), (3, 208), (3, 209), (3, 210), (3, 211), (1, 72), (3, 212), (3, 214), (0, 3), (3, 215), (1, 61), (1, 125), (3, 216), (3, 217)] (by decide +kernel)
set_option maxRecDepth 20000 in
theorem tb_r17 : ∀ w ∈ wsL_law0_r17, w ∈ lw_tbl := tbs_of [(3, 218), (3, 219), (3, 220), (1, 64), (1, 68), (3, 221), (3, 222), (3, 224), (0, 4), (3, 225), (1, 139), (1, 159), (1, 65), (1, 163), (1, 167), (1, 156), (3, 226), (3, 227), (3, 228), (3, 229), (1, 66), (3, 230), (3, 231), (3, 232)] (by decide +kernel)
set_option maxRecDepth 20000 in
theorem tb_r18 : ∀ w ∈ wsL_law0_r18, w ∈ lw_tbl := tbs_of [(3, 233), (3, 234), (3, 235), (3, 236), (3, 237), (3, 238), (3, 239), (4, 0), (4, 1), (4, 2), (4, 4), (0, 5), (4, 5), (1, 171), (1, 67), (4, 6), (4, 7), (4, 8), (4, 9), (4, 10), (4, 11), (4, 13), (0, 6), (4, 14)] (by decide +kernel)
set_option maxRecDepth 20000 in
theorem tb_r19 : ∀ w ∈ wsL_law0_r19, w ∈ lw_tbl := tbs_of [(1, 149), (1, 176), (4, 15), (4, 16), (4, 17), (4, 18), (4, 19), (4, 21), (0, 7), (4, 22), (1, 179), (4, 23), (4, 24), (4, 25), (4, 26), (4, 27), (4, 29), (0, 8), (4, 30), (1, 145), (1, 181), (1, 188), (1, 195), (4, 31)] (by decide +kernel)
set_option maxRecDepth 20000 in
theorem tb_r20 : ∀ w ∈ wsL_law0_r20, w ∈ lw_tbl := tbs_of [(4, 33), (0, 9), (4, 34), (1, 130), (4, 35), (4, 36), (4, 37), (4, 38), (4, 39), (4, 40), (4, 41), (4, 42), (4, 43), (4, 44), (4, 45), (4, 46), (4, 47), (4, 48), (4, 49), (4, 50), (4, 51), (4, 53), (4, 52), (1, 22)] (by decide +kernel)
set_option maxRecDepth 20000 in
theorem tb_r21 : ∀ w ∈ wsL_law0_r21, w ∈ lw_tbl := tbs_of [(4, 54), (4, 55), (4, 56), (4, 57), (2, 15), (2, 19), (2, 21), (1, 162), (4, 58), (1, 178), (4, 59), (4, 60), (4, 61), (4, 62), (4, 63), (2, 82), (2, 77), (8, 166), (8, 167), (8, 168), (8, 169), (8, 9), (8, 10), (8, 11)] (by decide +kernel)
set_option maxRecDepth 20000 in
theorem tb_r22 : ∀ w ∈ wsL_law0_r22, w ∈ lw_tbl := tbs_of [(7, 232), (7, 236), (8, 8), (8, 170), (8, 172), (0, 69), (8, 173), (7, 228), (7, 229), (7, 235), (7, 230), (8, 174), (8, 176), (0, 70), (8, 177), (8, 178), (8, 180), (0, 71), (8, 181), (7, 231), (7, 234), (7, 237), (7, 233), (8, 192)] (by decide +kernel)
set_option maxRecDepth 20000 in
theorem tb_r23 : ∀ w ∈ wsL_law0_r23, w ∈ lw_tbl := tbs_of [(8, 193), (8, 182), (8, 183), (8, 184), (8, 185), (8, 186), (8, 187), (8, 188), (8, 190), (0, 72), (8, 191), (8, 194), (8, 196), (0, 73), (8, 197), (8, 198), (8, 200), (0, 74), (8, 201), (8, 202), (8, 203), (8, 204), (8, 205), (8, 206)] (by decide +kernel)
set_option maxRecDepth 20000 in
theorem tb_r24 : ∀ w ∈ wsL_law0_r24, w ∈ lw_tbl := tbs_of [(8, 207), (8, 208), (8, 210), (0, 75), (8, 211), (8, 212), (8, 214), (0, 76), (8, 215), (8, 216), (8, 218), (0, 77), (8, 219), (7, 238), (8, 220), (8, 221), (8, 222), (8, 223), (8, 225), (0, 78), (8, 226), (8, 227), (8, 229), (0, 79)] (by decide +kernel)
set_option maxRecDepth 20000 in
theorem tb_r25 : ∀ w ∈ wsL_law0_r25, w ∈ lw_tbl := tbs_of [(8, 230), (8, 231), (8, 233), (0, 80), (8, 234), (8, 235), (8, 237), (0, 81), (8, 238), (8, 239), (9, 1), (0, 82), (9, 2), (9, 3), (9, 4), (9, 5), (9, 6), (9, 8), (0, 83), (9, 9), (9, 10), (9, 12), (0, 84), (9, 13)] (by decide +kernel)
set_option maxRecDepth 20000 in
theorem tb_r26 : ∀ w ∈ wsL_law0_r26, w ∈ lw_tbl := tbs_of [(9, 14), (9, 16), (0, 85), (9, 17), (9, 18), (9, 19), (9, 20), (9, 21), (9, 23), (0, 86), (9, 24), (9, 25), (9, 27), (0, 87), (9, 28), (9, 29), (9, 31), (0, 88), (9, 32), (9, 33), (9, 35), (0, 89), (9, 36), (4, 64)] (by decide +kernel)
set_option maxRecDepth 20000 in
theorem tb_r27 : ∀ w ∈ wsL_law0_r27, w ∈ lw_tbl := tbs_of [(4, 65), (4, 66), (4, 67), (1, 70), (9, 37), (9, 38), (9, 39), (9, 40), (7, 109), (7, 110), (1, 0), (7, 111), (7, 112), (7, 113), (7, 114), (7, 115), (7, 116), (7, 117), (1, 26), (2, 28), (1, 166), (1, 155), (1, 170), (1, 175)] (by decide +kernel)
set_option maxRecDepth 20000 in
theorem tb_r28 : ∀ w ∈ wsL_law0_r28, w ∈ lw_tbl := tbs_of [(2, 33), (2, 31), (4, 107), (4, 109), (0, 11), (4, 110), (1, 141), (7, 178), (4, 77), (4, 78), (4, 79), (9, 41), (9, 42), (9, 43), (9, 44), (9, 45), (9, 47), (0, 90), (9, 48), (9, 49), (9, 51), (0, 91), (9, 52), (9, 53)] (by decide +kernel)
set_option maxRecDepth 20000 in
theorem tb_r29 : ∀ w ∈ wsL_law0_r29, w ∈ lw_tbl := tbs_of [(9, 55), (0, 92), (9, 56), (9, 57), (9, 59), (0, 93), (9, 60), (9, 61), (9, 63), (0, 94), (9, 64), (7, 195), (7, 196), (7, 197), (7, 198), (7, 179), (7, 180), (7, 181), (7, 182), (7, 183), (7, 184), (7, 185), (2, 41), (7, 187)] (by decide +kernel)
set_option maxRecDepth 20000 in
theorem tb_r30 : ∀ w ∈ wsL_law0_r30, w ∈ lw_tbl := tbs_of [(4, 101), (4, 102), (2, 45), (4, 111), (4, 113), (0, 12), (4, 114), (4, 115), (4, 117), (0, 13), (4, 118), (1, 128), (7, 186), (4, 97), (4, 98), (2, 36), (2, 27), (2, 44), (4, 100), (4, 99), (9, 65), (9, 66), (9, 67), (9, 68)] (by decide +kernel)
set_option maxRecDepth 20000 in
theorem tb_r31 : ∀ w ∈ wsL_law0_r31, w ∈ lw_tbl := tbs_of [(9, 69), (9, 71), (0, 95), (9, 72), (9, 73), (9, 75), (0, 96), (9, 76), (9, 77), (9, 79), (0, 97), (9, 80), (8, 13), (9, 81), (9, 83), (0, 98), (9, 84), (9, 85), (9, 87), (0, 99), (9, 88), (7, 188), (7, 189), (7, 190)] (by decide +kernel)
set_option maxRecDepth 20000 in
theorem tb_r32 : ∀ w ∈ wsL_law0_r32, w ∈ lw_tbl := tbs_of [(7, 191), (7, 192), (7, 193), (7, 194), (1, 187), (1, 194), (2, 24), (2, 47), (4, 184), (4, 186), (0, 18), (4, 187), (1, 147), (9, 89), (9, 90), (9, 91), (9, 92), (9, 93), (9, 95), (0, 100), (9, 96), (4, 68), (4, 69), (4, 70)] (by decide +kernel)
set_option maxRecDepth 20000 in
theorem tb_r33 : ∀ w ∈ wsL_law0_r33, w ∈ lw_tbl := tbs_of [(4, 71), (2, 18), (2, 20), (4, 72), (4, 73), (4, 74), (4, 75), (1, 138), (4, 76), (4, 80), (4, 81), (4, 82), (4, 83), (4, 84), (4, 85), (4, 86), (4, 87), (4, 88), (4, 89), (4, 90), (4, 91), (1, 123), (4, 92), (4, 94)] (by decide +kernel)
set_option maxRecDepth 20000 in
theorem tb_r34 : ∀ w ∈ wsL_law0_r34, w ∈ lw_tbl := tbs_of [(0, 10), (4, 95), (1, 153), (4, 96), (9, 97), (9, 98), (9, 99), (9, 100), (4, 103), (4, 104), (4, 105), (4, 106), (4, 119), (4, 121), (0, 14), (4, 122), (3, 61), (4, 123), (4, 124), (4, 125), (4, 126), (4, 127), (4, 128), (4, 129)] (by decide +kernel)
set_option maxRecDepth 20000 in
theorem tb_r35 : ∀ w ∈ wsL_law0_r35, w ∈ lw_tbl := tbs_of [(4, 130), (4, 131), (4, 133), (0, 15), (4, 134), (4, 135), (4, 137), (0, 16), (4, 138), (4, 139), (9, 147), (9, 148), (9, 149), (9, 150), (9, 151), (9, 153), (0, 106), (9, 154), (9, 155), (9, 157), (0, 107), (9, 158), (9, 159), (9, 161)] (by decide +kernel)
set_option maxRecDepth 20000 in
theorem tb_r36 : ∀ w ∈ wsL_law0_r36, w ∈ lw_tbl := tbs_of [(0, 108), (9, 162), (4, 140), (4, 141), (4, 142), (4, 143), (4, 144), (4, 145), (4, 146), (4, 147), (4, 148), (4, 149), (4, 150), (4, 151), (4, 152), (4, 154), (0, 17), (4, 155), (9, 163), (9, 164), (9, 165), (9, 166), (9, 167), (9, 169)] (by decide +kernel)
set_option maxRecDepth 20000 in
theorem tb_r37 : ∀ w ∈ wsL_law0_r37, w ∈ lw_tbl := tbs_of [(0, 109), (9, 170), (9, 171), (9, 173), (0, 110), (9, 174), (9, 175), (9, 177), (0, 111), (9, 178), (9, 128), (9, 129), (9, 130), (4, 156), (4, 157), (4, 158), (4, 159), (4, 160), (4, 161), (4, 162), (4, 163), (9, 179), (9, 180), (9, 181)] (by decide +kernel)
set_option maxRecDepth 20000 in
theorem tb_r38 : ∀ w ∈ wsL_law0_r38, w ∈ lw_tbl := tbs_of [(9, 182), (4, 164), (4, 165), (4, 166), (4, 167), (4, 168), (4, 169), (4, 170), (4, 171), (9, 183), (9, 184), (9, 185), (9, 186), (9, 187), (9, 189), (0, 112), (9, 190), (4, 172), (4, 173), (4, 174), (4, 175), (4, 176), (4, 177), (4, 178)] (by decide +kernel)
set_option maxRecDepth 20000 in
theorem tb_r39 : ∀ w ∈ wsL_law0_r39, w ∈ lw_tbl := tbs_of [(4, 179), (9, 191), (9, 192), (9, 193), (9, 194), (9, 195), (9, 197), (0, 113), (9, 198), (4, 180), (4, 181), (4, 182), (4, 183), (4, 188), (4, 189), (4, 190), (4, 191), (2, 25), (2, 48), (1, 193), (4, 192), (4, 194), (0, 19), (4, 195)] (by decide +kernel)
set_option maxRecDepth 20000 in
theorem tb_r40 : ∀ w ∈ wsL_law0_r40, w ∈ lw_tbl := tbs_of [(1, 186), (4, 196), (4, 197), (4, 198), (4, 199), (4, 200), (4, 202), (0, 20), (4, 203), (4, 206), (4, 208), (0, 21), (4, 209), (4, 210), (9, 199), (9, 200), (9, 201), (9, 202), (9, 203), (9, 205), (0, 114), (9, 206), (9, 207), (9, 209)] (by decide +kernel)
set_option maxRecDepth 20000 in
theorem tb_r41 : ∀ w ∈ wsL_law0_r41, w ∈ lw_tbl := tbs_of [(0, 115), (9, 210), (9, 105), (9, 107), (0, 101), (9, 108), (9, 109), (9, 111), (0, 102), (9, 112), (9, 121), (9, 113), (9, 115), (0, 103), (9, 116), (9, 117), (9, 119), (0, 104), (9, 120), (9, 122), (9, 123), (9, 124), (9, 125), (9, 126)] (by decide +kernel)
set_option maxRecDepth 20000 in
theorem tb_r42 : ∀ w ∈ wsL_law0_r42, w ∈ lw_tbl := tbs_of [(9, 127), (9, 211), (9, 213), (0, 116), (9, 214), (9, 215), (9, 217), (0, 117), (9, 218), (4, 211), (4, 212), (4, 213), (4, 214), (4, 215), (4, 216), (4, 217), (4, 218), (1, 132), (4, 219), (4, 220), (4, 221), (4, 222), (1, 172), (4, 223)] (by decide +kernel)
set_option maxRecDepth 20000 in
theorem tb_r43 : ∀ w ∈ wsL_law0_r43, w ∈ lw_tbl := tbs_of [(4, 225), (0, 22), (4, 226), (9, 223), (9, 224), (9, 225), (9, 226), (9, 227), (9, 229), (0, 118), (9, 230), (9, 231), (9, 233), (0, 119), (9, 234), (9, 235), (9, 237), (0, 120), (9, 238), (4, 227), (4, 228), (4, 229), (4, 230), (9, 219)] (by decide +kernel)
set_option maxRecDepth 20000 in
theorem tb_r44 : ∀ w ∈ wsL_law0_r44, w ∈ lw_tbl := tbs_of [(9, 220), (9, 221), (9, 222), (4, 231), (4, 232), (4, 233), (4, 234), (4, 235), (4, 236), (4, 237), (4, 238), (4, 239), (5, 1), (0, 23), (5, 2), (5, 3), (5, 5), (0, 24), (5, 6), (5, 11), (5, 7), (5, 9), (0, 25), (5, 10)] (by decide +kernel)
set_option maxRecDepth 20000 in
theorem tb_r45 : ∀ w ∈ wsL_law0_r45, w ∈ lw_tbl := tbs_of [(5, 12), (5, 14), (0, 26), (5, 15), (9, 101), (9, 102), (9, 103), (9, 104), (5, 16), (5, 17), (5, 18), (5, 19), (2, 140), (9, 131), (9, 132), (9, 133), (9, 134), (9, 135), (9, 137), (0, 105), (9, 138), (5, 20), (5, 21), (5, 22)] (by decide +kernel)
set_option maxRecDepth 20000 in
theorem tb_r46 : ∀ w ∈ wsL_law0_r46, w ∈ lw_tbl := tbs_of [(5, 23), (5, 24), (5, 25), (5, 26), (5, 27), (9, 143), (9, 144), (9, 145), (9, 146), (5, 28), (5, 29), (5, 30), (5, 31), (5, 32), (5, 33), (5, 34), (5, 35), (1, 121), (1, 183), (5, 41), (5, 36), (5, 37), (5, 39), (0, 27)] (by decide +kernel)
set_option maxRecDepth 20000 in
theorem tb_r47 : ∀ w ∈ wsL_law0_r47, w ∈ lw_tbl := tbs_of [(5, 40), (1, 190), (2, 39), (5, 56), (5, 42), (5, 44), (0, 28), (5, 45), (1, 137), (5, 46), (5, 48), (0, 29), (5, 49), (1, 165), (5, 50), (5, 51), (5, 53), (0, 30), (5, 54), (1, 154), (5, 55), (5, 57), (5, 59), (0, 31)] (by decide +kernel)
set_option maxRecDepth 20000 in
theorem tb_r48 : ∀ w ∈ wsL_law0_r48, w ∈ lw_tbl := tbs_of [(5, 60), (5, 66), (5, 62), (5, 64), (0, 32), (5, 65), (5, 67), (5, 69), (0, 33), (5, 70), (9, 239), (10, 0), (10, 1), (10, 2), (8, 20), (10, 3), (10, 5), (0, 121), (10, 6), (8, 21), (10, 7), (10, 9), (0, 122), (10, 10)] (by decide +kernel)
set_option maxRecDepth 20000 in
theorem tb_r49 : ∀ w ∈ wsL_law0_r49, w ∈ lw_tbl := tbs_of [(5, 71), (5, 72), (5, 73), (5, 74), (2, 164), (10, 11), (10, 12), (10, 13), (10, 14), (5, 75), (5, 76), (5, 77), (5, 78), (5, 79), (5, 80), (5, 81), (5, 82), (1, 135), (2, 37), (5, 83), (5, 84), (5, 85), (5, 86), (5, 87)] (by decide +kernel)
set_option maxRecDepth 20000 in
theorem tb_r50 : ∀ w ∈ wsL_law0_r50, w ∈ lw_tbl := tbs_of [(5, 88), (1, 146), (5, 89), (5, 90), (1, 27), (5, 91), (5, 92), (5, 93), (5, 94), (10, 23), (10, 24), (10, 25), (10, 26), (10, 19), (10, 21), (0, 123), (10, 22), (5, 95), (5, 96), (5, 97), (5, 98), (5, 99), (5, 100), (10, 15)] (by decide +kernel)
set_option maxRecDepth 20000 in
theorem tb_r51 : ∀ w ∈ wsL_law0_r51, w ∈ lw_tbl := tbs_of [(10, 16), (10, 17), (10, 18), (5, 101), (5, 102), (5, 103), (5, 104), (5, 105), (5, 106), (5, 107), (5, 108), (1, 122), (5, 109), (5, 110), (5, 112), (0, 34), (5, 113), (2, 38), (1, 152), (1, 184), (1, 191), (5, 119), (5, 114), (5, 115)] (by decide +kernel)
set_option maxRecDepth 20000 in
theorem tb_r52 : ∀ w ∈ wsL_law0_r52, w ∈ lw_tbl := tbs_of [(5, 116), (5, 117), (5, 118), (5, 120), (5, 122), (0, 35), (5, 123), (5, 130), (5, 124), (5, 126), (0, 36), (5, 127), (5, 129), (5, 131), (5, 133), (0, 37), (5, 134), (2, 189), (5, 135), (5, 137), (5, 139), (0, 38), (5, 140), (10, 27)] (by decide +kernel)
set_option maxRecDepth 20000 in
theorem tb_r53 : ∀ w ∈ wsL_law0_r53, w ∈ lw_tbl := tbs_of [(10, 28), (10, 29), (10, 30), (8, 24), (10, 31), (10, 33), (0, 124), (10, 34), (5, 141), (5, 142), (5, 143), (5, 144), (2, 190), (2, 188), (10, 35), (10, 36), (10, 37), (10, 38), (5, 145), (5, 146), (5, 147), (5, 148), (5, 149), (5, 150)] (by decide +kernel)
set_option maxRecDepth 20000 in
theorem tb_r54 : ∀ w ∈ wsL_law0_r54, w ∈ lw_tbl := tbs_of [(5, 151), (5, 152), (1, 143), (2, 22), (2, 239), (5, 153), (5, 155), (0, 39), (5, 156), (5, 157), (10, 39), (10, 40), (10, 41), (10, 42), (8, 29), (8, 28), (10, 43), (10, 44), (10, 45), (10, 46), (10, 48), (0, 125), (10, 49), (5, 158)] (by decide +kernel)
set_option maxRecDepth 20000 in
theorem tb_r55 : ∀ w ∈ wsL_law0_r55, w ∈ lw_tbl := tbs_of [(5, 159), (5, 160), (5, 161), (3, 0), (2, 238), (10, 50), (10, 51), (10, 52), (10, 53), (5, 162), (5, 163), (5, 164), (5, 165), (5, 166), (5, 167), (5, 168), (5, 169), (1, 136), (5, 170), (5, 172), (0, 40), (5, 173), (1, 47), (1, 44)] (by decide +kernel)
set_option maxRecDepth 20000 in
theorem tb_r56 : ∀ w ∈ wsL_law0_r56, w ∈ lw_tbl := tbs_of [(1, 144), (5, 174), (5, 176), (0, 41), (5, 177), (1, 124), (2, 136), (1, 185), (1, 192), (5, 178), (5, 179), (5, 180), (5, 181), (5, 183), (0, 42), (5, 184), (2, 40), (5, 185), (5, 187), (0, 43), (5, 188), (5, 190), (5, 192), (0, 44)] (by decide +kernel)
set_option maxRecDepth 20000 in
theorem tb_r57 : ∀ w ∈ wsL_law0_r57, w ∈ lw_tbl := tbs_of [(5, 193), (5, 194), (5, 196), (0, 45), (5, 197), (5, 198), (5, 200), (0, 46), (5, 201), (5, 202), (5, 203), (5, 204), (10, 54), (10, 55), (10, 56), (10, 57), (10, 58), (10, 60), (0, 126), (10, 61), (5, 205), (5, 206), (5, 207), (5, 208)] (by decide +kernel)
set_option maxRecDepth 20000 in
theorem tb_r58 : ∀ w ∈ wsL_law0_r58, w ∈ lw_tbl := tbs_of [(2, 212), (10, 62), (10, 63), (10, 64), (10, 65), (5, 209), (5, 210), (5, 211), (5, 212), (2, 214), (10, 66), (10, 67), (10, 68), (10, 69), (5, 213), (5, 214), (5, 215), (5, 216), (5, 217), (5, 218), (5, 219), (5, 220), (5, 221), (5, 222)] (by decide +kernel)
set_option maxRecDepth 20000 in
theorem tb_r59 : ∀ w ∈ wsL_law0_r59, w ∈ lw_tbl := tbs_of [(5, 223), (5, 224), (5, 225), (10, 70), (10, 71), (10, 72), (10, 73), (10, 74), (10, 76), (0, 127), (10, 77), (10, 78), (10, 80), (0, 128), (10, 81), (10, 82), (10, 84), (0, 129), (10, 85), (5, 226), (5, 227), (5, 228), (5, 229), (5, 230)] (by decide +kernel)
set_option maxRecDepth 20000 in
theorem tb_r60 : ∀ w ∈ wsL_law0_r60, w ∈ lw_tbl := tbs_of [(5, 231), (5, 232), (5, 233), (2, 16), (1, 131), (10, 86), (10, 87), (10, 88), (10, 89), (5, 234), (5, 235), (5, 236), (5, 237), (5, 238), (5, 239), (6, 0), (6, 1), (9, 139), (9, 140), (9, 141), (9, 142), (6, 2), (6, 3), (6, 4)] (by decide +kernel)
set_option maxRecDepth 20000 in
theorem tb_r61 : ∀ w ∈ wsL_law0_r61, w ∈ lw_tbl := tbs_of [(6, 5), (1, 160), (6, 6), (6, 7), (6, 8), (6, 9), (6, 10), (10, 231), (3, 42), (6, 11), (6, 12), (3, 33), (3, 32), (6, 13), (10, 232), (6, 15), (6, 16), (6, 17), (10, 233), (6, 19), (6, 20), (6, 29)] (by decide +kernel)
set_option maxRecDepth 20000 in
theorem tb_r62 : ∀ w ∈ wsL_law0_r62, w ∈ lw_tbl := tbs_of [(6, 21), (6, 22), (1, 28), (6, 23), (6, 24), (6, 25), (6, 26), (6, 27), (6, 28), (6, 30), (6, 31), (6, 32), (6, 33), (6, 34), (6, 35), (6, 36), (6, 37), (6, 39), (6, 40), (6, 41), (6, 42), (6, 44), (6, 45), (6, 43)] (by decide +kernel)
set_option maxRecDepth 20000 in
theorem tb_r63 : ∀ w ∈ wsL_law0_r63, w ∈ lw_tbl := tbs_of [(6, 46), (6, 47), (6, 48), (6, 49), (6, 50), (6, 51), (6, 52), (6, 53), (6, 54), (6, 55), (6, 56), (6, 57), (6, 58), (6, 59), (6, 60), (6, 61), (6, 62), (6, 63), (6, 64), (10, 234), (6, 65), (6, 66), (6, 67), (6, 68)] (by decide +kernel)
set_option maxRecDepth 20000 in
theorem tb_r64 : ∀ w ∈ wsL_law0_r64, w ∈ lw_tbl := tbs_of [(6, 69), (6, 70), (10, 235), (6, 72), (6, 73), (6, 74), (6, 75), (6, 76), (6, 77), (6, 78), (6, 79), (6, 80), (6, 81), (6, 82), (6, 83), (6, 84), (6, 85), (6, 86), (6, 87), (6, 88), (6, 89), (6, 90), (6, 91)] (by decide +kernel)
set_option maxRecDepth 20000 in
theorem tb_r65 : ∀ w ∈ wsL_law0_r65, w ∈ lw_tbl := tbs_of [(6, 92), (6, 93), (6, 94), (6, 96), (6, 97), (6, 98), (6, 99), (6, 100), (10, 236), (6, 101), (6, 102), (6, 103), (10, 237), (6, 105), (6, 106), (6, 107), (6, 108), (6, 109), (6, 110), (6, 111), (6, 112), (6, 113), (6, 114)] (by decide +kernel)
set_option maxRecDepth 20000 in
theorem tb_r66 : ∀ w ∈ wsL_law0_r66, w ∈ lw_tbl := tbs_of [(6, 115), (6, 116), (6, 117), (6, 118), (6, 119), (6, 120), (6, 121), (6, 122), (6, 123), (6, 124), (6, 125), (6, 126), (6, 127), (10, 238), (6, 129), (6, 130), (6, 131), (10, 239), (6, 133), (6, 134), (6, 135), (6, 136)] (by decide +kernel)
set_option maxRecDepth 20000 in
theorem tb_r67 : ∀ w ∈ wsL_law0_r67, w ∈ lw_tbl := tbs_of [(6, 137), (6, 138), (6, 139), (6, 140), (6, 141), (6, 142), (6, 144), (0, 47), (6, 145), (6, 146), (6, 147), (6, 148), (6, 149), (6, 150), (6, 151), (11, 0), (6, 152), (6, 153), (10, 90), (10, 91), (10, 92), (10, 93), (8, 34), (10, 94)] (by decide +kernel)
set_option maxRecDepth 20000 in
theorem tb_r68 : ∀ w ∈ wsL_law0_r68, w ∈ lw_tbl := tbs_of [(10, 96), (0, 130), (10, 97), (10, 98), (10, 100), (0, 131), (10, 101), (6, 154), (6, 155), (6, 156), (6, 157), (6, 158), (6, 159), (6, 160), (6, 161), (6, 162), (11, 1), (6, 163), (6, 164), (6, 165), (6, 166), (6, 167), (10, 102), (10, 103)] (by decide +kernel)
set_option maxRecDepth 20000 in
theorem tb_r69 : ∀ w ∈ wsL_law0_r69, w ∈ lw_tbl := tbs_of [(10, 104), (10, 105), (6, 168), (6, 169), (6, 170), (6, 171), (6, 172), (6, 173), (6, 174), (6, 175), (2, 236), (6, 176), (6, 178), (0, 48), (6, 179), (1, 127), (6, 180), (6, 182), (0, 49), (6, 183), (6, 184), (6, 185), (6, 186), (6, 187)] (by decide +kernel)
set_option maxRecDepth 20000 in
theorem tb_r70 : ∀ w ∈ wsL_law0_r70, w ∈ lw_tbl := tbs_of [(6, 188), (10, 106), (10, 107), (10, 108), (10, 109), (10, 110), (10, 112), (0, 132), (10, 113), (8, 35), (10, 114), (10, 116), (0, 133), (10, 117), (10, 118), (10, 120), (0, 134), (10, 121), (10, 122), (6, 189), (6, 190), (6, 191), (6, 192), (6, 193)] (by decide +kernel)
set_option maxRecDepth 20000 in
theorem tb_r71 : ∀ w ∈ wsL_law0_r71, w ∈ lw_tbl := tbs_of [(6, 194), (6, 195), (6, 196), (6, 197), (10, 123), (10, 124), (10, 125), (10, 126), (6, 198), (6, 199), (6, 200), (6, 201), (6, 202), (6, 203), (6, 204), (6, 205), (2, 113), (1, 50), (6, 206), (6, 207), (6, 209), (0, 50), (6, 210), (1, 59)] (by decide +kernel)
set_option maxRecDepth 20000 in
theorem tb_r72 : ∀ w ∈ wsL_law0_r72, w ∈ lw_tbl := tbs_of [(1, 56), (6, 211), (6, 212), (6, 213), (6, 214), (6, 215), (6, 216), (6, 217), (6, 218), (6, 219), (6, 221), (0, 51), (6, 222), (1, 62), (6, 223), (6, 224), (6, 226), (0, 52), (6, 227), (6, 228), (6, 229), (6, 230), (6, 231), (6, 232)] (by decide +kernel)
set_option maxRecDepth 20000 in
theorem tb_r73 : ∀ w ∈ wsL_law0_r73, w ∈ lw_tbl := tbs_of [(6, 233), (2, 17), (2, 23), (6, 234), (6, 236), (0, 53), (6, 237), (1, 126), (6, 238), (6, 239), (7, 0), (7, 1), (7, 2), (7, 3), (7, 4), (7, 5), (7, 6), (7, 7), (10, 127), (10, 128), (10, 129), (10, 130), (8, 38), (8, 39)] (by decide +kernel)
set_option maxRecDepth 20000 in
theorem tb_r74 : ∀ w ∈ wsL_law0_r74, w ∈ lw_tbl := tbs_of [(10, 131), (10, 133), (0, 135), (10, 134), (10, 135), (10, 137), (0, 136), (10, 138), (10, 139), (10, 141), (0, 137), (10, 142), (10, 143), (10, 145), (0, 138), (10, 146), (10, 147), (10, 149), (0, 139), (10, 150), (10, 151), (10, 153), (0, 140), (10, 154)] (by decide +kernel)
set_option maxRecDepth 20000 in
theorem tb_r75 : ∀ w ∈ wsL_law0_r75, w ∈ lw_tbl := tbs_of [(10, 155), (10, 157), (0, 141), (10, 158), (10, 159), (10, 161), (0, 142), (10, 162), (7, 8), (7, 9), (7, 10), (7, 11), (2, 115), (10, 163), (10, 164), (10, 165), (10, 166), (7, 12), (7, 13), (7, 14), (7, 15), (2, 83), (7, 16), (7, 17)] (by decide +kernel)
set_option maxRecDepth 20000 in
theorem tb_r76 : ∀ w ∈ wsL_law0_r76, w ∈ lw_tbl := tbs_of [(7, 18), (7, 19), (2, 79), (2, 80), (7, 20), (7, 21), (7, 22), (7, 24), (0, 54), (7, 25), (7, 26), (7, 27), (7, 28), (1, 53), (1, 58), (7, 29), (7, 30), (7, 31), (7, 32), (7, 34), (0, 55), (7, 35), (1, 63), (7, 36)] (by decide +kernel)
set_option maxRecDepth 20000 in
theorem tb_r77 : ∀ w ∈ wsL_law0_r77, w ∈ lw_tbl := tbs_of [(7, 37), (7, 38), (7, 39), (7, 40), (7, 41), (7, 42), (7, 44), (0, 56), (7, 45), (7, 46), (7, 48), (0, 57), (7, 49), (7, 50), (7, 52), (0, 58), (7, 53), (7, 54), (7, 56), (0, 59), (7, 57), (7, 58), (7, 60), (0, 60)] (by decide +kernel)
set_option maxRecDepth 20000 in
theorem tb_r78 : ∀ w ∈ wsL_law0_r78, w ∈ lw_tbl := tbs_of [(7, 61), (7, 62), (7, 64), (0, 61), (7, 65), (7, 66), (10, 167), (10, 168), (10, 169), (10, 170), (8, 41), (8, 42), (8, 43), (8, 44), (10, 171), (10, 173), (0, 143), (10, 174), (10, 175), (10, 177), (0, 144), (10, 191), (10, 193), (0, 148)] (by decide +kernel)
set_option maxRecDepth 20000 in
theorem tb_r79 : ∀ w ∈ wsL_law0_r79, w ∈ lw_tbl := tbs_of [(10, 194), (10, 178), (10, 179), (10, 181), (0, 145), (10, 186), (10, 190), (10, 182), (10, 183), (10, 185), (0, 146), (10, 187), (10, 189), (0, 147), (10, 195), (10, 197), (0, 149), (10, 198), (10, 199), (10, 201), (0, 150), (10, 202), (10, 203), (10, 205)] (by decide +kernel)
set_option maxRecDepth 20000 in
theorem tb_r80 : ∀ w ∈ wsL_law0_r80, w ∈ lw_tbl := tbs_of [(0, 151), (10, 206), (7, 67), (7, 68), (7, 69), (7, 70), (7, 71), (7, 72), (7, 73), (7, 74), (1, 140), (7, 75), (7, 77), (0, 62), (7, 78), (7, 79), (7, 81), (0, 63), (7, 82), (1, 157), (1, 173), (2, 29), (2, 34), (1, 168)] (by decide +kernel)
set_option maxRecDepth 20000 in
theorem tb_r81 : ∀ w ∈ wsL_law0_r81, w ∈ lw_tbl := tbs_of [(7, 83), (7, 84), (7, 85), (7, 86), (7, 87), (2, 42), (7, 88), (7, 90), (0, 64), (7, 91), (10, 207), (10, 208), (10, 209), (10, 210), (10, 211), (10, 213), (0, 152), (10, 214), (10, 215), (10, 217), (0, 153), (10, 218), (7, 92), (7, 93)] (by decide +kernel)
set_option maxRecDepth 20000 in
theorem tb_r82 : ∀ w ∈ wsL_law0_r82, w ∈ lw_tbl := tbs_of [(7, 94), (7, 95), (7, 96), (7, 97), (7, 98), (7, 99), (7, 100), (10, 219), (10, 220), (10, 221), (10, 222), (7, 101), (7, 102), (7, 103), (7, 104), (10, 223), (10, 224), (10, 225), (10, 226), (7, 105), (7, 106), (7, 107), (7, 108), (1, 150)] (by decide +kernel)
set_option maxRecDepth 20000 in
theorem tb_r83 : ∀ w ∈ wsL_law0_r83, w ∈ lw_tbl := tbs_of [(1, 133), (10, 227), (10, 228), (10, 229), (10, 230)] (by decide +kernel)
set_option maxRecDepth 20000 in
theorem tbz_wsX110 : ∀ w ∈ wsX110, w ∈ lw_tbl := by decide +kernel
set_option maxRecDepth 20000 in
theorem tbz_wsX120 : ∀ w ∈ wsX120, w ∈ lw_tbl := by decide +kernel
set_option maxRecDepth 20000 in
theorem tbz_wsX90 : ∀ w ∈ wsX90, w ∈ lw_tbl := by decide +kernel
set_option maxRecDepth 20000 in
theorem tbz_wsX20 : ∀ w ∈ wsX20, w ∈ lw_tbl := by decide +kernel
set_option maxRecDepth 20000 in
theorem tbz_wsX60 : ∀ w ∈ wsX60, w ∈ lw_tbl := by decide +kernel
set_option maxRecDepth 20000 in
theorem tbz_wsX80 : ∀ w ∈ wsX80, w ∈ lw_tbl := by decide +kernel
set_option maxRecDepth 20000 in
theorem tbz_wsX70 : ∀ w ∈ wsX70, w ∈ lw_tbl := by decide +kernel
set_option maxRecDepth 20000 in
theorem tbz_wsX10 : ∀ w ∈ wsX10, w ∈ lw_tbl := by decide +kernel
set_option maxRecDepth 20000 in
theorem tbz_wsX100 : ∀ w ∈ wsX100, w ∈ lw_tbl := by decide +kernel
set_option maxRecDepth 20000 in
theorem tbz_wsX00 : ∀ w ∈ wsX00, w ∈ lw_tbl := by decide +kernel
set_option maxRecDepth 20000 in
theorem tbz_wsX30 : ∀ w ∈ wsX30, w ∈ lw_tbl := by decide +kernel
set_option maxRecDepth 20000 in
theorem tbz_wsX50 : ∀ w ∈ wsX50, w ∈ lw_tbl := by decide +kernel
set_option maxRecDepth 20000 in
theorem tbz_wsX40 : ∀ w ∈ wsX40, w ∈ lw_tbl := by decide +kernel
set_option maxRecDepth 20000 in
theorem tbz_wsJ40 : ∀ w ∈ wsJ40, w ∈ lw_tbl := by decide +kernel
set_option maxRecDepth 20000 in
theorem tb_nse : ∀ w ∈ (vx_at0 RX11 156 "java/util/NoSuchElementException" ["java/lang/RuntimeException", "java/lang/Exception"]).filter goodWord, w ∈ lw_tbl := by decide +kernel
theorem mem_or {a b T : List Cond} (ha : ∀ w ∈ a, w ∈ T) (hb : ∀ w ∈ b, w ∈ T) : ∀ w ∈ a ++ b, w ∈ T := fun w h => (List.mem_append.mp h).elim (ha w) (hb w)
end
end
section
noncomputable section
-- ===== THE MACHINE AS A FUNCTION: bytecode, row by row, is tied to a pure function over a world of numbered cells =====
/-- a cell: an array (its kind, its elements) or an object (its number in vwCl, its fields); references are numbers of cells -/
abbrev sC : Type := (Nat × List Value) ⊕ (Nat × List Value)
abbrev sW : Type := List sC
/-- locals, stack, cells, how many cells and slots have come -/
abbrev sS : Type := List (Nat × Value) × List Value × sW × Nat × Nat
abbrev sR : Type := Option Value × sW × Nat × Nat
abbrev sK : Type := Nat → sS → Option sR
abbrev sA : Type := sK → sS → Option sR
/-- lists by their recursors: what the kernel runs fast -/
def xg {α : Type} (l : List α) : Nat → Option α := List.rec (motive := fun _ => Nat → Option α) (fun _ => none) (fun a _ ih i => Nat.rec (motive := fun _ => Option α) (some a) (fun j _ => ih j) i) l
def xs {α : Type} (l : List α) : Nat → α → List α := List.rec (motive := fun _ => Nat → α → List α) (fun _ _ => []) (fun a t ih i v => Nat.rec (motive := fun _ => List α) (v :: t) (fun j _ => a :: ih j v) i) l
def xa {α : Type} (p : α → Bool) (l : List α) : Bool := List.rec (motive := fun _ => Bool) true (fun a _ ih => match p a with
  | true => ih
  | false => false) l
def xl {α : Type} (l : List α) : Nat := List.rec (motive := fun _ => Nat) 0 (fun _ _ ih => Nat.add ih 1) l
theorem xg_eq {α : Type} (l : List α) : ∀ i, xg l i = l[i]? := by
  induction l with
  | nil => intro i; exact (List.getElem?_nil).symm
  | cons a t ih =>
    intro i
    cases i with
    | zero => rfl
    | succ j => exact (ih j).trans (by simp)
theorem xs_eq {α : Type} (l : List α) : ∀ i v, xs l i v = l.set i v := by
  induction l with
  | nil => intro i v; rfl
  | cons a t ih =>
    intro i v
    cases i with
    | zero => rfl
    | succ j => exact congrArg (List.cons a) (ih j v)
theorem xa_eq {α : Type} (p : α → Bool) (l : List α) : xa p l = l.all p := by
  induction l with
  | nil => rfl
  | cons a t ih =>
    show (match p a with
      | true => xa p t
      | false => false) = _
    rw [List.all_cons, ih]
    cases p a <;> rfl
theorem xl_eq {α : Type} (l : List α) : xl l = l.length := by
  induction l with
  | nil => rfl
  | cons a t ih => exact congrArg (· + 1) ih
/-- a place in an array: not below 0, as a number -/
def ixN (i : Int32) : Nat := i.toBitVec.toNat
theorem ixN_ok {i : Int32} (h : ixN i < 2147483648) : ¬ i < 0 ∧ i.toNatClampNeg = ixN i := by
  have e : i.toInt = (ixN i : Int) := by
    show i.toBitVec.toInt = _
    rw [BitVec.toInt_eq_toNat_of_lt (by unfold ixN at h; omega)]
    rfl
  constructor
  · rw [Int32.lt_iff_toInt_lt, e, show (0 : Int32).toInt = 0 from rfl]
    omega
  · show i.toInt.toNat = _
    rw [e]
    exact Int.toNat_natCast _
theorem ixN_in {α : Type} {i : Int32} {vs : List α} {v : α} (h : ixN i < 2147483648) (hv : xg vs (ixN i) = some v) : vp_in i vs.length ∧ i.toNatClampNeg < vs.length ∧ vs[i.toNatClampNeg]? = some v := by
  obtain ⟨h1, h2⟩ := ixN_ok h
  rw [xg_eq] at hv
  have h3 := (List.getElem?_eq_some_iff.mp hv).1
  rw [h2]
  refine ⟨?_, h3, hv⟩
  intro z
  rcases z with z | z
  · exact h1 z
  · rw [h2] at z
    omega
/-- comparisons by numbers -/
def sN (x : Int32) : Nat := Nat.mod (Nat.add x.toBitVec.toNat 2147483648) 4294967296
theorem sN_eq (x : Int32) : sN x = (x.toBitVec.toNat + 2147483648) % 4294967296 := rfl
theorem sN_int (x : Int32) : (sN x : Int) = x.toInt + 2147483648 := by
  have h : x.toInt = x.toBitVec.toInt := rfl
  have hb := x.toBitVec.isLt
  rw [h, BitVec.toInt_eq_toNat_cond, sN_eq]
  split <;> omega
def b_eq (x y : Int32) : Bool := Nat.beq (ixN x) (ixN y)
def b_ne (x y : Int32) : Bool := match Nat.beq (ixN x) (ixN y) with
  | true => false
  | false => true
def b_lt (x y : Int32) : Bool := Nat.blt (sN x) (sN y)
def b_ge (x y : Int32) : Bool := Nat.ble (sN y) (sN x)
def b_gt (x y : Int32) : Bool := Nat.blt (sN y) (sN x)
def b_le (x y : Int32) : Bool := Nat.ble (sN x) (sN y)
theorem ixN_inj {x y : Int32} (h : ixN x = ixN y) : x = y := by
  apply Int32.toBitVec_inj.mp
  exact BitVec.eq_of_toNat_eq h
theorem b_eq_d (x y : Int32) : b_eq x y = decide (x = y) := by
  rw [Bool.eq_iff_iff, decide_eq_true_eq]
  show Nat.beq _ _ = true ↔ _
  rw [Nat.beq_eq]
  exact ⟨ixN_inj, fun h => by rw [h]⟩
theorem b_ne_d (x y : Int32) : b_ne x y = decide (¬ x = y) := by
  have h := b_eq_d x y
  unfold b_eq at h
  unfold b_ne
  rw [h]
  by_cases e : x = y <;> simp [e]
theorem b_lt_d (x y : Int32) : b_lt x y = decide (x < y) := by
  rw [Bool.eq_iff_iff, decide_eq_true_eq, Int32.lt_iff_toInt_lt]
  show Nat.blt _ _ = true ↔ _
  rw [Nat.blt_eq]
  have h1 := sN_int x
  have h2 := sN_int y
  omega
theorem b_ge_d (x y : Int32) : b_ge x y = decide (y ≤ x) := by
  rw [Bool.eq_iff_iff, decide_eq_true_eq, Int32.le_iff_toInt_le]
  show Nat.ble _ _ = true ↔ _
  rw [Nat.ble_eq]
  have h1 := sN_int x
  have h2 := sN_int y
  omega
theorem b_gt_d (x y : Int32) : b_gt x y = decide (y < x) := b_lt_d y x
theorem b_le_d (x y : Int32) : b_le x y = decide (x ≤ y) := b_ge_d y x
/-- array kinds: 0 byte, 1 int, 2 long, 3 boolean, 4 Plan, 5 Sentence, 6 State -/
abbrev mT (cy : Nat → ClassId) : List (ClassId × FieldType) := [(cy 0, .byte), (cy 1, .int), (cy 2, .long), (cy 3, .boolean), (cy 4, .object RX6), (cy 5, .object RX7), (cy 6, .object RX8)]
/-- an int that isn't known: '.float u' stands for it -/
def vi (ρ : Nat → Nat) (u : UInt32) : Int32 := Int32.ofNat (ρ (2000000 + u.toNat))
def dv (ρ : Nat → Nat) (v : Value) : Value := match v with
  | .ref k => .ref (ρ k)
  | .float u => .int (vi ρ u)
  | v => v
/-- what is known of ints that aren't known: which comparison, which one, with what: so or not; and the script -/
abbrev sKn : Type := (Nat → UInt32 → Int32 → Option Bool) × List Value
def bsem (t : Nat) (x y : Int32) : Bool := match t with
  | 0 => b_eq x y
  | 1 => b_ne x y
  | 2 => b_lt x y
  | 3 => b_ge x y
  | 4 => b_gt x y
  | 5 => b_le x y
  | 10 => b_eq y x
  | 11 => b_ne y x
  | 12 => b_lt y x
  | 13 => b_ge y x
  | 14 => b_gt y x
  | 15 => b_le y x
  | _ => false
/-- ints that are made of such ints: which operation (0: >>>, 1: &), of which one, with what: the number of what it gives -/
def kd (t : Nat) (u : UInt32) (y : Int32) : Option UInt32 := match t with
  | 0 => match Nat.blt u.toNat 90, Nat.blt y.toUInt32.toNat 32 with
    | true, true => some (UInt32.ofNat (100 + 100 * u.toNat + y.toUInt32.toNat))
    | _, _ => none
  | _ => match Nat.blt u.toNat 10000 with
    | true => match Nat.beq y.toUInt32.toNat 255 with
      | true => some (UInt32.ofNat (10000 + u.toNat))
      | false => match Nat.beq y.toUInt32.toNat 63 with
        | true => some (UInt32.ofNat (20000 + u.toNat))
        | false => none
    | false => none
def osem (t : Nat) (x y : Int32) : Int32 := match t with
  | 0 => (x.toUInt32 >>> (y.toUInt32 &&& Int32.toUInt32 31)).toInt32
  | _ => x &&& y
def kdOk (ρ : Nat → Nat) : Prop := ∀ (t : Nat) (u : UInt32) (y : Int32) (u' : UInt32), kd t u y = some u' → vi ρ u' = osem t (vi ρ u) y
def knOk (kn : sKn) (ρ : Nat → Nat) : Prop := (∀ (t : Nat) (u : UInt32) (y : Int32) (b : Bool), kn.1 t u y = some b → bsem t (vi ρ u) y = b) ∧ kdOk ρ
def di (ρ : Nat → Nat) (v : Value) : Int32 := match v with
  | .int x => x
  | .float u => vi ρ u
  | _ => 0
def dl (v : Value) : Int64 := match v with
  | .long x => x
  | _ => 0
def dr (ρ : Nat → Nat) (v : Value) : Option Nat := match v with
  | .ref k => some (ρ k)
  | _ => none
def dA (ρ : Nat → Nat) (cy : Nat → ClassId) (t : Nat) (vs : List Value) : ClassId × vp_A := (cy t, vs.length, match t with
  | 2 => .inr (.inl (fun j => dl (vs.getD j .null)))
  | 0 => .inl (fun j => di ρ (vs.getD j .null))
  | 1 => .inl (fun j => di ρ (vs.getD j .null))
  | 3 => .inl (fun j => di ρ (vs.getD j .null))
  | _ => .inr (.inr (.inr (.inr (fun j => dr ρ (vs.getD j .null))))))
def dE (ρ : Nat → Nat) (cy : Nat → ClassId) (x : sC) : va_E := match x with
  | .inl a => .inl (dA ρ cy a.1 a.2)
  | .inr o => .inr (o.1, o.2.map (dv ρ))
def dW (ρ : Nat → Nat) (cy : Nat → ClassId) (w : sW) : va_W := w.mapIdx (fun k x => (ρ k, dE ρ cy x))
def dL (ρ : Nat → Nat) (lv : List (Nat × Value)) : List (Nat × Value) := lv.map (fun q => (q.1, dv ρ q.2))
theorem dv_cat (ρ : Nat → Nat) (v : Value) : (dv ρ v).category = v.category := by cases v <;> rfl
theorem dW_get {ρ : Nat → Nat} {cy : Nat → ClassId} {w : sW} {k : Nat} {x : sC} (h : w[k]? = some x) : (dW ρ cy w)[k]? = some (ρ k, dE ρ cy x) := by
  simp [dW, h]
theorem dW_set {ρ : Nat → Nat} {cy : Nat → ClassId} {w : sW} {k : Nat} {x : sC} : dW ρ cy (w.set k x) = (dW ρ cy w).set k (ρ k, dE ρ cy x) := by
  simp [dW, List.mapIdx_set]
/-- two namings of the cells agree on the first n, and on the statics' arrays (numbers from 1000000 on) -/
def ag (n : Nat) (ρ ρ0 : Nat → Nat) : Prop := ∀ k, (k < n ∨ 1000000 ≤ k) → ρ k = ρ0 k
/-- what the static arrays hold -/
def stV (h : Nat) : List Int32 := match h with
  | 1000000 => [0, 11, 15, 15, 14, 15, 15, 15, 7, 15, 15, 15, 15, 15, 15, 15]
  | 1000001 => [7, 3, 5, 1, 6, 2, 4, 0]
  | _ => []
/-- the statics: what they hold, and that nobody writes them -/
def sE (kn : sKn) (ρ : Nat → Nat) (A : Nat → Prop) (U : State) (H : Heap) : Prop := ∃ xs : Nat → Int32, va_X (ρ 1000010) kn.2.length xs U H ∧ ρ 1000010 < H.size ∧ ¬ A (ρ 1000010) ∧ ∀ (j : Nat) (v : Value), kn.2[j]? = some v → dv ρ v = .int (xs j)
def mE (kn : sKn) (ρ : Nat → Nat) (A : Nat → Prop) (U : State) (H : Heap) : Prop :=
  va_Z "SignedBridge" "OPEN" "[I" (.ref (ρ 1000000)) A U H ∧ va_T .int (ρ 1000000) 16 (fun j => .int ((stV 1000000).getD j 0)) A U H ∧ va_Z "SignedBridge$Cut" "SETS" "[I" (.ref (ρ 1000001)) A U H ∧ va_T .int (ρ 1000001) 8 (fun j => .int ((stV 1000001).getD j 0)) A U H ∧ va_Z "java/lang/String" "COMPACT_STRINGS" "Z" (.int 1) A U H ∧ sE kn ρ A U H ∧ vx_Zq Bundle.tN "UNASSIGNED_STACK" Bundle.steD A U H ∧ vx_Zq Bundle.tN "SUPPRESSED_SENTINEL" Bundle.listD A U H ∧ vk_S 1 [3] [[103, 97, 112]] (fun _ => ρ 1000002) (fun _ => ρ 1000003) A U H
/-- nest mates' links: private constructors, the private table -/
def nestM : List (Nat × MethodName) := [(9, yX9_init), (18, yX2_init), (39, yX7_init), (49, yX1_init), (56, yX10_init), (70, yX3_init), (77, yX5_init), (84, yX4_init)]
def nestF : List (String × Nat) := [(RX10, 75), (RX0, 104), (RX3, 87), (RX5, 105)]
def nseD : List MethodName := [⟨"java/lang/RuntimeException", "<init>", "()V"⟩, ⟨"java/lang/Exception", "<init>", "()V"⟩, ⟨"java/lang/Throwable", "<init>", "()V"⟩]
def privS : List MethodName := [yJ5_ensureCapacityInternal_d00df, yJ5_putStringAt_47b60, yJ5_inflateIfNeededFor_a7421]
def mN (a : Nat) (U : State) : Prop := (∀ q ∈ nestM, va_Nw (.methodLinkNest RX11 q.1 q.2 "SignedBridge") U) ∧ (∀ q ∈ nestF, va_Nw (.fieldLinkNest q.1 q.2 "SignedBridge" "OPEN" "[I" "SignedBridge") U) ∧ va_Nw (.castable "java/util/NoSuchElementException" "java/util/NoSuchElementException") U ∧ (∀ q ∈ nseD, va_Nw (.declares q) U) ∧ (∀ q ∈ privS, va_Nw (.selects RJ4 q q) U) ∧ vk_R "SignedBridge" 350 "gap" a U
theorem mN_warm {a : Nat} {s U : State} (hW : s.WarmedH U.vm) (h : mN a s) : mN a U := ⟨fun q hq => (h.1 q hq).warmM hW, fun q hq => (h.2.1 q hq).warmF hW, h.2.2.1.warmC hW, fun q hq => (h.2.2.2.1 q hq).warmD hW, fun q hq => word_at hW (Or.inl rfl) (h.2.2.2.2.1 q hq), h.2.2.2.2.2.warm hW⟩
theorem mN_same {a : Nat} {u U : State} (hv : u.vm = U.vm) (h : mN a u) : mN a U := ⟨fun q hq => (h.1 q hq).same rfl hv, fun q hq => (h.2.1 q hq).same rfl hv, h.2.2.1.same rfl hv, fun q hq => (h.2.2.2.1 q hq).same rfl hv, fun q hq => (h.2.2.2.2.1 q hq).same rfl hv, h.2.2.2.2.2.same hv.symm⟩
def mK (kn : sKn) (dC : Nat → ClassId) (dI : Nat → Nat → Nat) (cy : Nat → ClassId) (ρ : Nat → Nat) (A : Nat → Prop) (U : State) (H : Heap) : Prop := va_K (dC, dI) vwCl (mT cy) U ∧ ((va_AO RX6 U ∧ va_AO RX7 U ∧ va_AO RX8 U) ∧ mN (ρ 1000002) U ∧ knOk kn ρ) ∧ mE kn ρ A U H
theorem vi_ag {ρ ρ' : Nat → Nat} (hρ : ∀ k, 1000000 ≤ k → ρ' k = ρ k) (u : UInt32) : vi ρ' u = vi ρ u := by
  unfold vi
  rw [hρ _ (by omega)]
theorem dv_ags {ρ ρ' : Nat → Nat} (hρ : ∀ k, 1000000 ≤ k → ρ' k = ρ k) {v : Value} {x : Int32} (h : dv ρ v = .int x) : dv ρ' v = .int x := by
  cases v with
  | int y => exact h
  | float u =>
    have h : Value.int (vi ρ u) = .int x := h
    show Value.int (vi ρ' u) = .int x
    rw [vi_ag hρ]
    exact h
  | ref k => cases h
  | long y => cases h
  | double y => cases h
  | null => cases h
  | retAddr y => cases h
theorem sE_move {kn : sKn} {ρ ρ' : Nat → Nat} {A A1 : Nat → Prop} {s U : State} {H0 H : Heap} (h : sE kn ρ A s H0) (hvm : s.vm.Alike U.vm) (hA : ∀ q, A1 q → A q) (hH : ∀ q : Nat, q < H0.size → ¬ A q → H[q]? = H0[q]?) (hρ : ∀ k, 1000000 ≤ k → ρ' k = ρ k) : sE kn ρ' A1 U H := by
  obtain ⟨xs, ⟨scr, h1, h2, h3⟩, h4, h5, h6⟩ := h
  have e1 : H[ρ 1000010]? = some scr := by rw [hH _ h4 h5]; exact h1
  refine ⟨xs, ?_, ?_, ?_, fun j v hv => dv_ags hρ (h6 j v hv)⟩
  · rw [hρ 1000010 (by decide)]
    exact ⟨scr, e1, State.isArrayOf_alike hvm h2, h3⟩
  · rw [hρ 1000010 (by decide)]
    exact (Array.getElem?_eq_some_iff.mp e1).1
  · rw [hρ 1000010 (by decide)]
    exact fun z => h5 (hA _ z)
theorem mE_move {kn : sKn} {ρ ρ' : Nat → Nat} {A A1 : Nat → Prop} {s U : State} {H0 H : Heap} (h : mE kn ρ A s H0) (hvm : s.vm.Alike U.vm) (hA : ∀ q, A1 q → A q) (hH : ∀ q : Nat, q < H0.size → ¬ A q → H[q]? = H0[q]?) (hρ : ∀ k, 1000000 ≤ k → ρ' k = ρ k) : mE kn ρ' A1 U H := by
  obtain ⟨h1, h2, h3, h4, h5, h6, h7, h8, h9⟩ := h
  unfold mE
  rw [hρ 1000000 (by decide), hρ 1000001 (by decide), hρ 1000002 (by decide), hρ 1000003 (by decide)]
  exact ⟨((h1.moved hvm).kept hH).narrow hA, ((h2.moved hvm).kept hH).narrow hA, ((h3.moved hvm).kept hH).narrow hA, ((h4.moved hvm).kept hH).narrow hA, ((h5.moved hvm).kept hH).narrow hA, sE_move h6 hvm hA hH hρ, ((h7.moved hvm).kept hH).narrow hA, ((h8.moved hvm).kept hH).narrow hA, ((h9.moved hvm).kept hH).narrow hA⟩
theorem mK_move {kn : sKn} {dC : Nat → ClassId} {dI : Nat → Nat → Nat} {cy : Nat → ClassId} {ρ ρ' : Nat → Nat} {A A1 : Nat → Prop} {s U : State} {H0 H : Heap} (h : mK kn dC dI cy ρ A s H0) (hvm : s.vm.Alike U.vm) (hN : mN (ρ 1000002) s → mN (ρ 1000002) U) (hA : ∀ q, A1 q → A q) (hH : ∀ q : Nat, q < H0.size → ¬ A q → H[q]? = H0[q]?) (hρ : ∀ k, 1000000 ≤ k → ρ' k = ρ k) : mK kn dC dI cy ρ' A1 U H :=
  ⟨va_K.moved hvm h.1, ⟨⟨h.2.1.1.1.moved hvm, h.2.1.1.2.1.moved hvm, h.2.1.1.2.2.moved hvm⟩, by rw [hρ 1000002 (by decide)]; exact hN h.2.1.2.1, ⟨fun t u y b hb => by rw [vi_ag hρ]; exact h.2.1.2.2.1 t u y b hb, fun t u y u' hb => by rw [vi_ag hρ, vi_ag hρ]; exact h.2.1.2.2.2 t u y u' hb⟩⟩, mE_move h.2.2 hvm hA hH hρ⟩
/-- what is known of the frame, and of the method that it runs -/
def mX (kn : sKn) (p : Program) (l : Launch) (e : Env) (R : Room) (s : State) (m : MethodId) (args : Array Value) (below : List Frame) (meth : Method) (c : Code) (dC : Nat → ClassId) (dI : Nat → Nat → Nat) (cy : Nat → ClassId) (A : Nat → Prop) (ρ0 : Nat → Nat) (n0 : Nat) (Qc : Array Value → State → Outcome → State → Prop) (Q : State → Prop) (cc : ByteArray) (own : String) (nL : Nat) (Ts : List Cond) (D : Nat) (ret : Option FieldType) (ini : Bool) (r : sR) : Prop :=
  CallFix p m c cc nL s args Ts own ∧ meth.sig.returnType = ret ∧ meth.locks = false ∧ mK kn dC dI cy ρ0 A s s.heap ∧ (∀ q, s.heap.size ≤ q → A q) ∧ (r.2.2.1 ≤ R.cells ∧ r.2.2.2 ≤ R.slots) ∧ (D ≤ R.frames ∧ 40 * D ≤ R.locals) ∧ (ini = true → meth.name = "<init>") ∧
  ((ret = none ∨ r.1 ≠ none) → ∀ (ρ : Nat → Nat) (H : Heap) (locs : List Loc) (t : State), ag n0 ρ ρ0 → n0 ≤ r.2.1.length → va_P (dC, dI) vwCl (dW ρ cy r.2.1) H → va_D A (dW ρ cy r.2.1) → va_S A s.heap H locs → t.heap = H → s.WarmedH t.vm → Qc args s (.returned (r.1.map (dv ρ))) t) ∧
  ((∀ t : State, MQ below Qc args s r.2.2.1 r.2.2.2 A t → Q t) ∧ l.stackTraces = false) ∧
  (ret ≠ none → r.1 = none → l.stackTraces = false ∧ c.exceptionTable.toList = [] ∧ ∃ (Q' : Array Value → State → Outcome → State → Prop) (XC : String → State → State → Prop), Q = vx_MQ below Q' XC args s r.2.2.1 r.2.2.2 A ∧ ∀ (ρ : Nat → Nat) (H : Heap) (locs : List Loc) (t : State), ag n0 ρ ρ0 → n0 ≤ r.2.1.length → va_P (dC, dI) vwCl (dW ρ cy r.2.1) H → va_D A (dW ρ cy r.2.1) → va_S A s.heap H locs → s.vm.Alike t.vm → H.size ≤ t.heap.size → (∀ q : Nat, q < H.size → t.heap[q]? = H[q]?) → XC "java/util/NoSuchElementException" s t)
/-- from here the machine comes to its end, as the function says -/
def mG (p : Program) (l : Launch) (e : Env) (R : Room) (s : State) (m : MethodId) (args : Array Value) (below : List Frame) (meth : Method) (c : Code) (dC : Nat → ClassId) (dI : Nat → Nat → Nat) (cy : Nat → ClassId) (A : Nat → Prop) (ρ0 : Nat → Nat) (n0 : Nat) (nL : Nat) (Q : State → Prop) (r : sR) (pc : Nat) (ss : sS) : Prop :=
  (ss.2.2.2.1 ≤ r.2.2.1 ∧ ss.2.2.2.2 ≤ r.2.2.2) ∧
  ∀ (H : Heap) (locs : List Loc) (ls : Array Slot) (ρ : Nat → Nat), ag n0 ρ ρ0 → n0 ≤ ss.2.2.1.length → va_P (dC, dI) vwCl (dW ρ cy ss.2.2.1) H → va_D A (dW ρ cy ss.2.2.1) → va_S A s.heap H locs → lv_has ls nL (dL ρ ss.1) →
    W p l e R s m args below meth c H locs ss.2.2.2.1 ss.2.2.2.2 Q (F0 m pc ls (ss.2.1.map (dv ρ)))
def mOk (kn : sKn) (cc : ByteArray) (own : String) (nL : Nat) (Ts : List Cond) (D : Nat) (ret : Option FieldType) (ini : Bool) (pc : Nat) (act : sA) : Prop :=
  ∀ (p : Program) (l : Launch) (e : Env) (R : Room) (s : State) (m : MethodId) (args : Array Value) (below : List Frame) (meth : Method) (c : Code) (dC : Nat → ClassId) (dI : Nat → Nat → Nat) (cy : Nat → ClassId) (A : Nat → Prop) (ρ0 : Nat → Nat) (n0 : Nat) (Qc : Array Value → State → Outcome → State → Prop) (Q : State → Prop) (r : sR),
    mX kn p l e R s m args below meth c dC dI cy A ρ0 n0 Qc Q cc own nL Ts D ret ini r → ∀ k : sK, (∀ pc' ss', k pc' ss' = some r → mG p l e R s m args below meth c dC dI cy A ρ0 n0 nL Q r pc' ss') → ∀ ss, act k ss = some r → mG p l e R s m args below meth c dC dI cy A ρ0 n0 nL Q r pc ss
-- ===== acts on the stack alone =====
def a_stk (f : List Value → Option (List Value)) (np : Nat) : sA := fun k ss => match f ss.2.1 with
  | some st => k np (ss.1, st, ss.2.2)
  | none => none
/-- a stack function is right for an instruction -/
def stkOk (cc : ByteArray) (pc np : Nat) (f : List Value → Option (List Value)) : Prop :=
  ∀ (p : Program) (l : Launch) (e : Env) (R : Room) (s : State) (m : MethodId) (args : Array Value) (below : List Frame) (meth : Method) (c : Code) (H : Heap) (locs : List Loc) (cells slots : Nat) (Q : State → Prop) (ls : Array Slot) (ρ : Nat → Nat) (st st' : List Value), p.tables.exec = Jvm.exec → c.code = cc → f st = some st' → W p l e R s m args below meth c H locs cells slots Q (F0 m np ls (st'.map (dv ρ))) → W p l e R s m args below meth c H locs cells slots Q (F0 m pc ls (st.map (dv ρ)))
theorem ok_stk {kn : sKn} {cc : ByteArray} {own : String} {nL : Nat} {Ts : List Cond} {D : Nat} {ret : Option FieldType} {ini : Bool} {pc np : Nat} {f : List Value → Option (List Value)} (hf : stkOk cc pc np f) : mOk kn cc own nL Ts D ret ini pc (a_stk f np) := by
  intro p l e R s m args below meth c dC dI cy A ρ0 n0 Qc Q r X k hk ss h
  obtain ⟨lv, st, w, nc, ns⟩ := ss
  unfold a_stk at h
  split at h
  · rename_i st' hs
    have K := hk _ _ h
    exact ⟨K.1, fun H locs ls ρ hag hn hP hD hS hl => hf p l e R s m args below meth c H locs nc ns _ ls ρ st st' X.1.1 X.1.2.1 hs (K.2 H locs ls ρ hag hn hP hD hS hl)⟩
  · cases h
theorem mK_str {kn : sKn} {dC : Nat → ClassId} {dI : Nat → Nat → Nat} {cy : Nat → ClassId} {ρ : Nat → Nat} {A : Nat → Prop} {U : State} {H : Heap} (h : mK kn dC dI cy ρ A U H) : vk_S 1 [3] [[103, 97, 112]] (fun _ => ρ 1000002) (fun _ => ρ 1000003) A U H := h.2.2.2.2.2.2.2.2.2.2
theorem mK_R {kn : sKn} {dC : Nat → ClassId} {dI : Nat → Nat → Nat} {cy : Nat → ClassId} {ρ : Nat → Nat} {A : Nat → Prop} {U : State} {H : Heap} (h : mK kn dC dI cy ρ A U H) : vk_R "SignedBridge" 350 "gap" (ρ 1000002) U := h.2.1.2.1.2.2.2.2.2
theorem mK_sel {kn : sKn} {dC : Nat → ClassId} {dI : Nat → Nat → Nat} {cy : Nat → ClassId} {ρ : Nat → Nat} {A : Nat → Prop} {U : State} {H : Heap} (h : mK kn dC dI cy ρ A U H) {q : MethodName} (hq : q ∈ privS) (a : Array Value) : (Cond.selects RJ4 q q).before a U = true := va_Nw.use rfl (h.2.1.2.1.2.2.2.2.1 q hq)
end
end
section
noncomputable section
-- ===== stack functions, each with the row that it is right =====
def q_int (v : Int32) (st : List Value) : Option (List Value) := some (.int v :: st)
def q_long (v : Int64) (st : List Value) : Option (List Value) := some (.long v :: st)
theorem s_iconst {cc : ByteArray} {pc : Nat} {n : Int} {v : Int32} (hd : decode cc pc = .ok (.iconst n, 1)) (hv : Int32.ofInt n = v) : stkOk cc pc (pc + 1) (q_int v) := by
  intro p l e R s m args below meth c H locs cells slots Q ls ρ st st' hx hb h k
  cases h
  exact lv_iconst hx hb hd hv k
theorem s_bipush {cc : ByteArray} {pc : Nat} {n : Int} {v : Int32} (hd : decode cc pc = .ok (.bipush n, 2)) (hv : (Int8.ofInt n).toInt32 = v) : stkOk cc pc (pc + 2) (q_int v) := by
  intro p l e R s m args below meth c H locs cells slots Q ls ρ st st' hx hb h k
  cases h
  exact lv_bipush hx hb hd hv k
theorem s_sipush {cc : ByteArray} {pc : Nat} {n : Int} {v : Int32} (hd : decode cc pc = .ok (.sipush n, 3)) (hv : (Int16.ofInt n).toInt32 = v) : stkOk cc pc (pc + 3) (q_int v) := by
  intro p l e R s m args below meth c H locs cells slots Q ls ρ st st' hx hb h k
  cases h
  exact lv_sipush hx hb hd hv k
theorem s_lconst {cc : ByteArray} {pc : Nat} {n : Fin 2} {v : Int64} (hd : decode cc pc = .ok (.lconst n, 1)) (hv : Int64.ofNat (n : Nat) = v) : stkOk cc pc (pc + 1) (q_long v) := by
  intro p l e R s m args below meth c H locs cells slots Q ls ρ st st' hx hb h k
  cases h
  exact lv_lconst hx hb hd hv k
def q_iadd (st : List Value) : Option (List Value) := match st with
  | .int y :: .int x :: r => some (.int (x + y) :: r)
  | _ => none
theorem s_iadd {cc : ByteArray} {pc : Nat} (hd : decode cc pc = .ok (.iadd, 1)) : stkOk cc pc (pc + 1) q_iadd := by
  intro p l e R s m args below meth c H locs cells slots Q ls ρ st st' hx hb h k
  unfold q_iadd at h
  split at h
  · cases h
    exact lv_iadd hx hb hd k
  · cases h
def q_isub (st : List Value) : Option (List Value) := match st with
  | .int y :: .int x :: r => some (.int (x - y) :: r)
  | _ => none
theorem s_isub {cc : ByteArray} {pc : Nat} (hd : decode cc pc = .ok (.isub, 1)) : stkOk cc pc (pc + 1) q_isub := by
  intro p l e R s m args below meth c H locs cells slots Q ls ρ st st' hx hb h k
  unfold q_isub at h
  split at h
  · cases h
    exact lv_isub hx hb hd k
  · cases h
def q_imul (st : List Value) : Option (List Value) := match st with
  | .int y :: .int x :: r => some (.int (x * y) :: r)
  | _ => none
theorem s_imul {cc : ByteArray} {pc : Nat} (hd : decode cc pc = .ok (.imul, 1)) : stkOk cc pc (pc + 1) q_imul := by
  intro p l e R s m args below meth c H locs cells slots Q ls ρ st st' hx hb h k
  unfold q_imul at h
  split at h
  · cases h
    exact lv_imul hx hb hd k
  · cases h
def q_iand (st : List Value) : Option (List Value) := match st with
  | .int y :: .int x :: r => some (.int (x &&& y) :: r)
  | _ => none
theorem s_iand {cc : ByteArray} {pc : Nat} (hd : decode cc pc = .ok (.iand, 1)) : stkOk cc pc (pc + 1) q_iand := by
  intro p l e R s m args below meth c H locs cells slots Q ls ρ st st' hx hb h k
  unfold q_iand at h
  split at h
  · cases h
    exact lv_iand hx hb hd k
  · cases h
def q_ior (st : List Value) : Option (List Value) := match st with
  | .int y :: .int x :: r => some (.int (x ||| y) :: r)
  | _ => none
theorem s_ior {cc : ByteArray} {pc : Nat} (hd : decode cc pc = .ok (.ior, 1)) : stkOk cc pc (pc + 1) q_ior := by
  intro p l e R s m args below meth c H locs cells slots Q ls ρ st st' hx hb h k
  unfold q_ior at h
  split at h
  · cases h
    exact lv_ior hx hb hd k
  · cases h
def q_ixor (st : List Value) : Option (List Value) := match st with
  | .int y :: .int x :: r => some (.int (x ^^^ y) :: r)
  | _ => none
theorem s_ixor {cc : ByteArray} {pc : Nat} (hd : decode cc pc = .ok (.ixor, 1)) : stkOk cc pc (pc + 1) q_ixor := by
  intro p l e R s m args below meth c H locs cells slots Q ls ρ st st' hx hb h k
  unfold q_ixor at h
  split at h
  · cases h
    exact lv_ixor hx hb hd k
  · cases h
def q_ishl (st : List Value) : Option (List Value) := match st with
  | .int y :: .int x :: r => some (.int (x <<< (y &&& 31)) :: r)
  | _ => none
theorem s_ishl {cc : ByteArray} {pc : Nat} (hd : decode cc pc = .ok (.ishl, 1)) : stkOk cc pc (pc + 1) q_ishl := by
  intro p l e R s m args below meth c H locs cells slots Q ls ρ st st' hx hb h k
  unfold q_ishl at h
  split at h
  · cases h
    exact lv_ishl hx hb hd k
  · cases h
def q_ishr (st : List Value) : Option (List Value) := match st with
  | .int y :: .int x :: r => some (.int (x >>> (y &&& 31)) :: r)
  | _ => none
theorem s_ishr {cc : ByteArray} {pc : Nat} (hd : decode cc pc = .ok (.ishr, 1)) : stkOk cc pc (pc + 1) q_ishr := by
  intro p l e R s m args below meth c H locs cells slots Q ls ρ st st' hx hb h k
  unfold q_ishr at h
  split at h
  · cases h
    exact lv_ishr hx hb hd k
  · cases h
def q_iushr (st : List Value) : Option (List Value) := match st with
  | .int y :: .int x :: r => some (.int ((x.toUInt32 >>> (y.toUInt32 &&& Int32.toUInt32 31)).toInt32) :: r)
  | _ => none
theorem s_iushr {cc : ByteArray} {pc : Nat} (hd : decode cc pc = .ok (.iushr, 1)) : stkOk cc pc (pc + 1) q_iushr := by
  intro p l e R s m args below meth c H locs cells slots Q ls ρ st st' hx hb h k
  unfold q_iushr at h
  split at h
  · cases h
    exact lv_iushr hx hb hd rfl k
  · cases h
def q_lushr (st : List Value) : Option (List Value) := match st with
  | .int y :: .long x :: r => some (.long ((x.toUInt64 >>> (y.toInt64.toUInt64 &&& Int64.toUInt64 63)).toInt64) :: r)
  | _ => none
theorem s_lushr {cc : ByteArray} {pc : Nat} (hd : decode cc pc = .ok (.lushr, 1)) : stkOk cc pc (pc + 1) q_lushr := by
  intro p l e R s m args below meth c H locs cells slots Q ls ρ st st' hx hb h k
  unfold q_lushr at h
  split at h
  · cases h
    exact lv_lushr hx hb hd rfl k
  · cases h
def q_ladd (st : List Value) : Option (List Value) := match st with
  | .long y :: .long x :: r => some (.long (x + y) :: r)
  | _ => none
theorem s_ladd {cc : ByteArray} {pc : Nat} (hd : decode cc pc = .ok (.ladd, 1)) : stkOk cc pc (pc + 1) q_ladd := by
  intro p l e R s m args below meth c H locs cells slots Q ls ρ st st' hx hb h k
  unfold q_ladd at h
  split at h
  · cases h
    exact lv_ladd hx hb hd k
  · cases h
def q_lsub (st : List Value) : Option (List Value) := match st with
  | .long y :: .long x :: r => some (.long (x - y) :: r)
  | _ => none
theorem s_lsub {cc : ByteArray} {pc : Nat} (hd : decode cc pc = .ok (.lsub, 1)) : stkOk cc pc (pc + 1) q_lsub := by
  intro p l e R s m args below meth c H locs cells slots Q ls ρ st st' hx hb h k
  unfold q_lsub at h
  split at h
  · cases h
    exact lv_lsub hx hb hd k
  · cases h
def q_lmul (st : List Value) : Option (List Value) := match st with
  | .long y :: .long x :: r => some (.long (x * y) :: r)
  | _ => none
theorem s_lmul {cc : ByteArray} {pc : Nat} (hd : decode cc pc = .ok (.lmul, 1)) : stkOk cc pc (pc + 1) q_lmul := by
  intro p l e R s m args below meth c H locs cells slots Q ls ρ st st' hx hb h k
  unfold q_lmul at h
  split at h
  · cases h
    exact lv_lmul hx hb hd k
  · cases h
def q_land (st : List Value) : Option (List Value) := match st with
  | .long y :: .long x :: r => some (.long (x &&& y) :: r)
  | _ => none
theorem s_land {cc : ByteArray} {pc : Nat} (hd : decode cc pc = .ok (.land, 1)) : stkOk cc pc (pc + 1) q_land := by
  intro p l e R s m args below meth c H locs cells slots Q ls ρ st st' hx hb h k
  unfold q_land at h
  split at h
  · cases h
    exact lv_land hx hb hd k
  · cases h
def q_idiv (st : List Value) : Option (List Value) := match st with
  | .int y :: .int x :: r => if y = 0 then none else some (.int (x / y) :: r)
  | _ => none
theorem s_idiv {cc : ByteArray} {pc : Nat} (hd : decode cc pc = .ok (.idiv, 1)) : stkOk cc pc (pc + 1) q_idiv := by
  intro p l e R s m args below meth c H locs cells slots Q ls ρ st st' hx hb h k
  unfold q_idiv at h
  split at h
  · split at h
    · cases h
    · rename_i hne
      cases h
      exact lv_idiv hx hb hd hne k
  · cases h
def q_irem (st : List Value) : Option (List Value) := match st with
  | .int y :: .int x :: r => if y = 0 then none else some (.int (x - x / y * y) :: r)
  | _ => none
theorem s_irem {cc : ByteArray} {pc : Nat} (hd : decode cc pc = .ok (.irem, 1)) : stkOk cc pc (pc + 1) q_irem := by
  intro p l e R s m args below meth c H locs cells slots Q ls ρ st st' hx hb h k
  unfold q_irem at h
  split at h
  · split at h
    · cases h
    · rename_i hne
      cases h
      exact lv_irem hx hb hd hne k
  · cases h
def q_ldiv (st : List Value) : Option (List Value) := match st with
  | .long y :: .long x :: r => if y = 0 then none else some (.long (x / y) :: r)
  | _ => none
theorem s_ldiv {cc : ByteArray} {pc : Nat} (hd : decode cc pc = .ok (.ldiv, 1)) : stkOk cc pc (pc + 1) q_ldiv := by
  intro p l e R s m args below meth c H locs cells slots Q ls ρ st st' hx hb h k
  unfold q_ldiv at h
  split at h
  · split at h
    · cases h
    · rename_i hne
      cases h
      exact lv_ldiv hx hb hd hne k
  · cases h
def q_lrem (st : List Value) : Option (List Value) := match st with
  | .long y :: .long x :: r => if y = 0 then none else some (.long (x - x / y * y) :: r)
  | _ => none
theorem s_lrem {cc : ByteArray} {pc : Nat} (hd : decode cc pc = .ok (.lrem, 1)) : stkOk cc pc (pc + 1) q_lrem := by
  intro p l e R s m args below meth c H locs cells slots Q ls ρ st st' hx hb h k
  unfold q_lrem at h
  split at h
  · split at h
    · cases h
    · rename_i hne
      cases h
      exact lv_lrem hx hb hd hne k
  · cases h
def q_ineg (st : List Value) : Option (List Value) := match st with
  | .int x :: r => some (.int (-x) :: r)
  | _ => none
theorem s_ineg {cc : ByteArray} {pc : Nat} (hd : decode cc pc = .ok (.ineg, 1)) : stkOk cc pc (pc + 1) q_ineg := by
  intro p l e R s m args below meth c H locs cells slots Q ls ρ st st' hx hb h k
  unfold q_ineg at h
  split at h
  · cases h
    exact lv_ineg hx hb hd k
  · cases h
def q_i2l (st : List Value) : Option (List Value) := match st with
  | .int x :: r => some (.long x.toInt64 :: r)
  | _ => none
theorem s_i2l {cc : ByteArray} {pc : Nat} (hd : decode cc pc = .ok (.i2l, 1)) : stkOk cc pc (pc + 1) q_i2l := by
  intro p l e R s m args below meth c H locs cells slots Q ls ρ st st' hx hb h k
  unfold q_i2l at h
  split at h
  · cases h
    exact lv_i2l hx hb hd rfl k
  · cases h
def q_l2i (st : List Value) : Option (List Value) := match st with
  | .long x :: r => some (.int x.toInt32 :: r)
  | _ => none
theorem s_l2i {cc : ByteArray} {pc : Nat} (hd : decode cc pc = .ok (.l2i, 1)) : stkOk cc pc (pc + 1) q_l2i := by
  intro p l e R s m args below meth c H locs cells slots Q ls ρ st st' hx hb h k
  unfold q_l2i at h
  split at h
  · cases h
    exact lv_l2i hx hb hd rfl k
  · cases h
def q_i2b (st : List Value) : Option (List Value) := match st with
  | .int x :: r => some (.int x.toInt8.toInt32 :: r)
  | _ => none
theorem s_i2b {cc : ByteArray} {pc : Nat} (hd : decode cc pc = .ok (.i2b, 1)) : stkOk cc pc (pc + 1) q_i2b := by
  intro p l e R s m args below meth c H locs cells slots Q ls ρ st st' hx hb h k
  unfold q_i2b at h
  split at h
  · cases h
    exact lv_i2b hx hb hd rfl k
  · cases h
def q_i2c (st : List Value) : Option (List Value) := match st with
  | .int x :: r => some (.int (x.toUInt32 % 65536).toInt32 :: r)
  | _ => none
theorem s_i2c {cc : ByteArray} {pc : Nat} (hd : decode cc pc = .ok (.i2c, 1)) : stkOk cc pc (pc + 1) q_i2c := by
  intro p l e R s m args below meth c H locs cells slots Q ls ρ st st' hx hb h k
  unfold q_i2c at h
  split at h
  · cases h
    exact lv_i2c hx hb hd rfl k
  · cases h
def q_lcmp (st : List Value) : Option (List Value) := match st with
  | .long y :: .long x :: r => some (.int (lg_cmp x y) :: r)
  | _ => none
theorem s_lcmp {cc : ByteArray} {pc : Nat} (hd : decode cc pc = .ok (.lcmp, 1)) : stkOk cc pc (pc + 1) q_lcmp := by
  intro p l e R s m args below meth c H locs cells slots Q ls ρ st st' hx hb h k
  unfold q_lcmp at h
  split at h
  · cases h
    exact W.lcmp hx hb hd k
  · cases h
def q_dup (st : List Value) : Option (List Value) := match st with
  | a :: r => if a.category = 1 then some (a :: a :: r) else none
  | _ => none
theorem s_dup {cc : ByteArray} {pc : Nat} (hd : decode cc pc = .ok (.dup, 1)) : stkOk cc pc (pc + 1) q_dup := by
  intro p l e R s m args below meth c H locs cells slots Q ls ρ st st' hx hb h k
  unfold q_dup at h
  split at h
  · split at h
    · rename_i hc
      cases h
      exact lv_dup hx hb hd (by rw [dv_cat]; exact hc) k
    · cases h
  · cases h
def q_pop (st : List Value) : Option (List Value) := match st with
  | a :: r => if a.category = 1 then some r else none
  | _ => none
theorem s_pop {cc : ByteArray} {pc : Nat} (hd : decode cc pc = .ok (.pop, 1)) : stkOk cc pc (pc + 1) q_pop := by
  intro p l e R s m args below meth c H locs cells slots Q ls ρ st st' hx hb h k
  unfold q_pop at h
  split at h
  · split at h
    · rename_i hc
      cases h
      exact lv_pop hx hb hd (by rw [dv_cat]; exact hc) k
    · cases h
  · cases h
def q_dup_x1 (st : List Value) : Option (List Value) := match st with
  | a :: b :: r => if a.category = 1 ∧ b.category = 1 then some (a :: b :: a :: r) else none
  | _ => none
theorem s_dup_x1 {cc : ByteArray} {pc : Nat} (hd : decode cc pc = .ok (.dup_x1, 1)) : stkOk cc pc (pc + 1) q_dup_x1 := by
  intro p l e R s m args below meth c H locs cells slots Q ls ρ st st' hx hb h k
  unfold q_dup_x1 at h
  split at h
  · split at h
    · rename_i hc
      cases h
      exact lv_dup_x1 hx hb hd (by rw [dv_cat]; exact hc.1) (by rw [dv_cat]; exact hc.2) k
    · cases h
  · cases h
def q_dup2 (st : List Value) : Option (List Value) := match st with
  | a :: b :: r => if a.category = 1 ∧ b.category = 1 then some (a :: b :: a :: b :: r) else none
  | _ => none
theorem s_dup2 {cc : ByteArray} {pc : Nat} (hd : decode cc pc = .ok (.dup2, 1)) : stkOk cc pc (pc + 1) q_dup2 := by
  intro p l e R s m args below meth c H locs cells slots Q ls ρ st st' hx hb h k
  unfold q_dup2 at h
  split at h
  · split at h
    · rename_i hc
      cases h
      exact lv_dup2_11 hx hb hd (by rw [dv_cat]; exact hc.1) (by rw [dv_cat]; exact hc.2) k
    · cases h
  · cases h
end
end
section
noncomputable section
-- ===== locals =====
def l_get (lv : List (Nat × Value)) (i : Nat) : Option Value := List.rec (motive := fun _ => Option Value) none (fun q _ ih => match Nat.beq q.1 i with
  | true => some q.2
  | false => ih) lv
theorem l_get_mem {lv : List (Nat × Value)} {i : Nat} {v : Value} (h : l_get lv i = some v) : (i, v) ∈ lv := by
  induction lv with
  | nil => cases h
  | cons q r ih =>
    have h : (match Nat.beq q.1 i with
      | true => some q.2
      | false => l_get r i) = some v := h
    split at h
    · rename_i e
      cases h
      rw [← Nat.eq_of_beq_eq_true e]
      exact List.mem_cons_self
    · exact List.mem_cons_of_mem _ (ih h)
theorem l_get_has {ls : Array Slot} {nL : Nat} {ρ : Nat → Nat} {lv : List (Nat × Value)} {i : Nat} {v : Value} (hl : lv_has ls nL (dL ρ lv)) (h : l_get lv i = some v) : ls[i]? = some (.val (dv ρ v)) :=
  hl.2.2 (i, dv ρ v) (List.mem_map.mpr ⟨(i, v), l_get_mem h, rfl⟩)
def a_iload (i np : Nat) : sA := fun k ss => match l_get ss.1 i with
  | some (.int x) => k np (ss.1, .int x :: ss.2.1, ss.2.2)
  | some (.float u) => k np (ss.1, .float u :: ss.2.1, ss.2.2)
  | _ => none
def a_lload (i np : Nat) : sA := fun k ss => match l_get ss.1 i with
  | some (.long x) => k np (ss.1, .long x :: ss.2.1, ss.2.2)
  | _ => none
def a_aload (i np : Nat) : sA := fun k ss => match l_get ss.1 i with
  | some (.ref x) => k np (ss.1, .ref x :: ss.2.1, ss.2.2)
  | _ => none
section OKL
variable {kn : sKn} {cc : ByteArray} {own : String} {nL : Nat} {Ts : List Cond} {D : Nat} {ret : Option FieldType} {ini : Bool} {pc : Nat}
theorem ok_iload_n {k4 : Fin 4} {i : Nat} (hd : decode cc pc = .ok (.iload_n k4, 1)) (hi : (k4 : Nat) = i) : mOk kn cc own nL Ts D ret ini pc (a_iload i (pc + 1)) := by
  intro p l e R s m args below meth c dC dI cy A ρ0 n0 Qc Q r X k hk ss h
  unfold a_iload at h
  split at h
  · rename_i x hs
    have K := hk _ _ h
    exact ⟨K.1, fun H locs ls ρ hag hn hP hD hS hl => lv_iload_n X.1.1 X.1.2.1 hd hi (l_get_has hl hs) (K.2 H locs ls ρ hag hn hP hD hS hl)⟩
  · rename_i u hs
    have K := hk _ _ h
    exact ⟨K.1, fun H locs ls ρ hag hn hP hD hS hl => lv_iload_n (x := vi ρ u) X.1.1 X.1.2.1 hd hi (l_get_has hl hs) (K.2 H locs ls ρ hag hn hP hD hS hl)⟩
  · cases h
theorem ok_iload {i : Nat} (hd : decode cc pc = .ok (.iload i, 2)) : mOk kn cc own nL Ts D ret ini pc (a_iload i (pc + 2)) := by
  intro p l e R s m args below meth c dC dI cy A ρ0 n0 Qc Q r X k hk ss h
  unfold a_iload at h
  split at h
  · rename_i x hs
    have K := hk _ _ h
    exact ⟨K.1, fun H locs ls ρ hag hn hP hD hS hl => lv_iload X.1.1 X.1.2.1 hd (l_get_has hl hs) (K.2 H locs ls ρ hag hn hP hD hS hl)⟩
  · rename_i u hs
    have K := hk _ _ h
    exact ⟨K.1, fun H locs ls ρ hag hn hP hD hS hl => lv_iload (x := vi ρ u) X.1.1 X.1.2.1 hd (l_get_has hl hs) (K.2 H locs ls ρ hag hn hP hD hS hl)⟩
  · cases h
theorem ok_lload_n {k4 : Fin 4} {i : Nat} (hd : decode cc pc = .ok (.lload_n k4, 1)) (hi : (k4 : Nat) = i) : mOk kn cc own nL Ts D ret ini pc (a_lload i (pc + 1)) := by
  intro p l e R s m args below meth c dC dI cy A ρ0 n0 Qc Q r X k hk ss h
  unfold a_lload at h
  split at h
  · rename_i x hs
    have K := hk _ _ h
    exact ⟨K.1, fun H locs ls ρ hag hn hP hD hS hl => lv_lload_n X.1.1 X.1.2.1 hd hi (l_get_has hl hs) (K.2 H locs ls ρ hag hn hP hD hS hl)⟩
  · cases h
theorem ok_lload {i : Nat} (hd : decode cc pc = .ok (.lload i, 2)) : mOk kn cc own nL Ts D ret ini pc (a_lload i (pc + 2)) := by
  intro p l e R s m args below meth c dC dI cy A ρ0 n0 Qc Q r X k hk ss h
  unfold a_lload at h
  split at h
  · rename_i x hs
    have K := hk _ _ h
    exact ⟨K.1, fun H locs ls ρ hag hn hP hD hS hl => lv_lload X.1.1 X.1.2.1 hd (l_get_has hl hs) (K.2 H locs ls ρ hag hn hP hD hS hl)⟩
  · cases h
theorem ok_aload_n {k4 : Fin 4} {i : Nat} (hd : decode cc pc = .ok (.aload_n k4, 1)) (hi : (k4 : Nat) = i) : mOk kn cc own nL Ts D ret ini pc (a_aload i (pc + 1)) := by
  intro p l e R s m args below meth c dC dI cy A ρ0 n0 Qc Q r X k hk ss h
  unfold a_aload at h
  split at h
  · rename_i x hs
    have K := hk _ _ h
    exact ⟨K.1, fun H locs ls ρ hag hn hP hD hS hl => lv_aload_n X.1.1 X.1.2.1 hd hi (l_get_has hl hs) (K.2 H locs ls ρ hag hn hP hD hS hl)⟩
  · cases h
theorem ok_aload {i : Nat} (hd : decode cc pc = .ok (.aload i, 2)) : mOk kn cc own nL Ts D ret ini pc (a_aload i (pc + 2)) := by
  intro p l e R s m args below meth c dC dI cy A ρ0 n0 Qc Q r X k hk ss h
  unfold a_aload at h
  split at h
  · rename_i x hs
    have K := hk _ _ h
    exact ⟨K.1, fun H locs ls ρ hag hn hP hD hS hl => lv_aload X.1.1 X.1.2.1 hd (l_get_has hl hs) (K.2 H locs ls ρ hag hn hP hD hS hl)⟩
  · cases h
end OKL
/-- the locals behind a store of one word, of two words -/
def l_cut (lv : List (Nat × Value)) (i : Nat) : List (Nat × Value) := List.rec (motive := fun _ => List (Nat × Value)) [] (fun q _ ih => match Nat.beq q.1 i with
  | true => ih
  | false => match Nat.beq (Nat.add q.1 1) i with
    | true => match Nat.beq q.2.category 2 with
      | true => ih
      | false => q :: ih
    | false => q :: ih) lv
theorem l_cut_eq (lv : List (Nat × Value)) (i : Nat) : l_cut lv i = lv.filter (fun q => !(q.1 == i) && !(q.1 + 1 == i && q.2.category == 2)) := by
  induction lv with
  | nil => rfl
  | cons q r ih =>
    have e : l_cut (q :: r) i = (match Nat.beq q.1 i with
      | true => l_cut r i
      | false => match Nat.beq (Nat.add q.1 1) i with
        | true => match Nat.beq q.2.category 2 with
          | true => l_cut r i
          | false => q :: l_cut r i
        | false => q :: l_cut r i) := rfl
    rw [e, ih, List.filter_cons]
    have eb : ∀ a b : Nat, Nat.beq a b = (a == b) := fun a b => by rw [Bool.eq_iff_iff, Nat.beq_eq, beq_iff_eq]
    have e1 : Nat.beq q.1 i = (q.1 == i) := eb _ _
    have e2 : Nat.beq (Nat.add q.1 1) i = (q.1 + 1 == i) := eb _ _
    have e3 : Nat.beq q.2.category 2 = (q.2.category == 2) := eb _ _
    rw [e1, e2, e3]
    cases (q.1 == i) <;> cases (q.1 + 1 == i) <;> cases (q.2.category == 2) <;> rfl
def l_put (lv : List (Nat × Value)) (i : Nat) (v : Value) : List (Nat × Value) := (i, v) :: l_cut lv i
def l_put2 (lv : List (Nat × Value)) (i : Nat) (v : Value) : List (Nat × Value) := (i, v) :: lv.filter (fun q => !(q.1 == i) && (!(q.1 == i + 1) && !(q.1 + 1 == i && q.2.category == 2)))
theorem dL_put (ρ : Nat → Nat) (lv : List (Nat × Value)) (i : Nat) (v : Value) : (i, dv ρ v) :: (dL ρ lv).filter (fun q => !(q.1 == i) && !(q.1 + 1 == i && q.2.category == 2)) = dL ρ (l_put lv i v) := by
  simp only [l_put, l_cut_eq, dL, List.map_cons, List.filter_map]
  congr 2
  apply List.filter_congr
  intro q _
  simp [Function.comp, dv_cat]
theorem dL_put2 (ρ : Nat → Nat) (lv : List (Nat × Value)) (i : Nat) (v : Value) : (i, dv ρ v) :: (dL ρ lv).filter (fun q => !(q.1 == i) && (!(q.1 == i + 1) && !(q.1 + 1 == i && q.2.category == 2))) = dL ρ (l_put2 lv i v) := by
  simp only [l_put2, dL, List.map_cons, List.filter_map]
  congr 2
  apply List.filter_congr
  intro q _
  simp [Function.comp, dv_cat]
def a_istore (i np : Nat) : sA := fun k ss => match ss.2.1 with
  | .int x :: st => k np (l_put ss.1 i (.int x), st, ss.2.2)
  | .float u :: st => k np (l_put ss.1 i (.float u), st, ss.2.2)
  | _ => none
def a_astore (i np : Nat) : sA := fun k ss => match ss.2.1 with
  | .ref x :: st => k np (l_put ss.1 i (.ref x), st, ss.2.2)
  | _ => none
def a_lstore (i np : Nat) : sA := fun k ss => match ss.2.1 with
  | .long x :: st => k np (l_put2 ss.1 i (.long x), st, ss.2.2)
  | _ => none
def a_iinc (i : Nat) (d : Int32) (np : Nat) : sA := fun k ss => match l_get ss.1 i with
  | some (.int x) => k np (l_put ss.1 i (.int (x + d)), ss.2)
  | _ => none
section OKS
variable {kn : sKn} {cc : ByteArray} {own : String} {nL : Nat} {Ts : List Cond} {D : Nat} {ret : Option FieldType} {ini : Bool} {pc : Nat}
theorem ok_istore_n {k4 : Fin 4} {i : Nat} (hd : decode cc pc = .ok (.istore_n k4, 1)) (hi : (k4 : Nat) = i) (hn : i < nL) : mOk kn cc own nL Ts D ret ini pc (a_istore i (pc + 1)) := by
  intro p l e R s m args below meth c dC dI cy A ρ0 n0 Qc Q r X k hk ss h
  obtain ⟨lv, st, w, nc, ns⟩ := ss
  unfold a_istore at h
  split at h
  · rename_i x st' hs
    have K := hk _ _ h
    dsimp only at hs
    subst hs
    exact ⟨K.1, fun H locs ls ρ hag hn0 hP hD hS hl => lv_istore_n X.1.1 X.1.2.1 hd hi hl hn (dL_put ρ lv i (.int x)) (fun ls' hl' => K.2 H locs ls' ρ hag hn0 hP hD hS hl')⟩
  · rename_i u st' hs
    have K := hk _ _ h
    dsimp only at hs
    subst hs
    exact ⟨K.1, fun H locs ls ρ hag hn0 hP hD hS hl => lv_istore_n X.1.1 X.1.2.1 hd hi hl hn (dL_put ρ lv i (.float u)) (fun ls' hl' => K.2 H locs ls' ρ hag hn0 hP hD hS hl')⟩
  · cases h
theorem ok_istore {i : Nat} (hd : decode cc pc = .ok (.istore i, 2)) (hn : i < nL) : mOk kn cc own nL Ts D ret ini pc (a_istore i (pc + 2)) := by
  intro p l e R s m args below meth c dC dI cy A ρ0 n0 Qc Q r X k hk ss h
  obtain ⟨lv, st, w, nc, ns⟩ := ss
  unfold a_istore at h
  split at h
  · rename_i x st' hs
    have K := hk _ _ h
    dsimp only at hs
    subst hs
    exact ⟨K.1, fun H locs ls ρ hag hn0 hP hD hS hl => lv_istore X.1.1 X.1.2.1 hd hl hn (dL_put ρ lv i (.int x)) (fun ls' hl' => K.2 H locs ls' ρ hag hn0 hP hD hS hl')⟩
  · rename_i u st' hs
    have K := hk _ _ h
    dsimp only at hs
    subst hs
    exact ⟨K.1, fun H locs ls ρ hag hn0 hP hD hS hl => lv_istore X.1.1 X.1.2.1 hd hl hn (dL_put ρ lv i (.float u)) (fun ls' hl' => K.2 H locs ls' ρ hag hn0 hP hD hS hl')⟩
  · cases h
theorem ok_astore_n {k4 : Fin 4} {i : Nat} (hd : decode cc pc = .ok (.astore_n k4, 1)) (hi : (k4 : Nat) = i) (hn : i < nL) : mOk kn cc own nL Ts D ret ini pc (a_astore i (pc + 1)) := by
  intro p l e R s m args below meth c dC dI cy A ρ0 n0 Qc Q r X k hk ss h
  obtain ⟨lv, st, w, nc, ns⟩ := ss
  unfold a_astore at h
  split at h
  · rename_i x st' hs
    have K := hk _ _ h
    dsimp only at hs
    subst hs
    exact ⟨K.1, fun H locs ls ρ hag hn0 hP hD hS hl => lv_astore_n X.1.1 X.1.2.1 hd hi hl hn (dL_put ρ lv i (.ref x)) (fun ls' hl' => K.2 H locs ls' ρ hag hn0 hP hD hS hl')⟩
  · cases h
theorem ok_astore {i : Nat} (hd : decode cc pc = .ok (.astore i, 2)) (hn : i < nL) : mOk kn cc own nL Ts D ret ini pc (a_astore i (pc + 2)) := by
  intro p l e R s m args below meth c dC dI cy A ρ0 n0 Qc Q r X k hk ss h
  obtain ⟨lv, st, w, nc, ns⟩ := ss
  unfold a_astore at h
  split at h
  · rename_i x st' hs
    have K := hk _ _ h
    dsimp only at hs
    subst hs
    exact ⟨K.1, fun H locs ls ρ hag hn0 hP hD hS hl => lv_astore X.1.1 X.1.2.1 hd hl hn (dL_put ρ lv i (.ref x)) (fun ls' hl' => K.2 H locs ls' ρ hag hn0 hP hD hS hl')⟩
  · cases h
theorem ok_lstore {i : Nat} (hd : decode cc pc = .ok (.lstore i, 2)) (hn : i + 1 < nL) : mOk kn cc own nL Ts D ret ini pc (a_lstore i (pc + 2)) := by
  intro p l e R s m args below meth c dC dI cy A ρ0 n0 Qc Q r X k hk ss h
  obtain ⟨lv, st, w, nc, ns⟩ := ss
  unfold a_lstore at h
  split at h
  · rename_i x st' hs
    have K := hk _ _ h
    dsimp only at hs
    subst hs
    exact ⟨K.1, fun H locs ls ρ hag hn0 hP hD hS hl => lv_lstore X.1.1 X.1.2.1 hd hl hn (dL_put2 ρ lv i (.long x)) (fun ls' hl' => K.2 H locs ls' ρ hag hn0 hP hD hS hl')⟩
  · cases h
theorem ok_iinc {i : Nat} {n : Int} {d : Int32} (hd : decode cc pc = .ok (.iinc i n, 3)) (hv : Int32.ofInt n = d) (hn : i < nL) : mOk kn cc own nL Ts D ret ini pc (a_iinc i d (pc + 3)) := by
  intro p l e R s m args below meth c dC dI cy A ρ0 n0 Qc Q r X k hk ss h
  obtain ⟨lv, st, w, nc, ns⟩ := ss
  unfold a_iinc at h
  split at h
  · rename_i x hs
    have K := hk _ _ h
    obtain ⟨j, hj⟩ := List.getElem?_of_mem (l_get_mem hs)
    exact ⟨K.1, fun H locs ls ρ hag hn0 hP hD hS hl => lv_iinc (k := j) (x := x) X.1.1 X.1.2.1 hd hl (by simp [dL, hj, dv]) (by rw [hv]) hn (dL_put ρ lv i (.int (x + d))) (fun ls' hl' => K.2 H locs ls' ρ hag hn0 hP hD hS hl')⟩
  · cases h
end OKS
-- ===== branches =====
theorem bsem_0 (x y : Int32) : bsem 0 x y = b_eq x y := rfl
theorem bsem_10 (x y : Int32) : bsem 10 x y = b_eq y x := rfl
theorem bsem_1 (x y : Int32) : bsem 1 x y = b_ne x y := rfl
theorem bsem_11 (x y : Int32) : bsem 11 x y = b_ne y x := rfl
theorem bsem_2 (x y : Int32) : bsem 2 x y = b_lt x y := rfl
theorem bsem_12 (x y : Int32) : bsem 12 x y = b_lt y x := rfl
theorem bsem_3 (x y : Int32) : bsem 3 x y = b_ge x y := rfl
theorem bsem_13 (x y : Int32) : bsem 13 x y = b_ge y x := rfl
theorem bsem_4 (x y : Int32) : bsem 4 x y = b_gt x y := rfl
theorem bsem_14 (x y : Int32) : bsem 14 x y = b_gt y x := rfl
theorem bsem_5 (x y : Int32) : bsem 5 x y = b_le x y := rfl
theorem bsem_15 (x y : Int32) : bsem 15 x y = b_le y x := rfl
def a_icmp (kn : sKn) (b : Int32 → Int32 → Bool) (t tgt np : Nat) : sA := fun k ss => match ss.2.1 with
  | .int y :: .int x :: st => match b x y with
    | true => k tgt (ss.1, st, ss.2.2)
    | false => k np (ss.1, st, ss.2.2)
  | .int y :: .float u :: st => match kn.1 t u y with
    | some true => k tgt (ss.1, st, ss.2.2)
    | some false => k np (ss.1, st, ss.2.2)
    | none => none
  | .float u :: .int x :: st => match kn.1 (t + 10) u x with
    | some true => k tgt (ss.1, st, ss.2.2)
    | some false => k np (ss.1, st, ss.2.2)
    | none => none
  | _ => none
def a_if (kn : sKn) (b : Int32 → Int32 → Bool) (t tgt np : Nat) : sA := fun k ss => match ss.2.1 with
  | .int x :: st => match b x 0 with
    | true => k tgt (ss.1, st, ss.2.2)
    | false => k np (ss.1, st, ss.2.2)
  | .float u :: st => match kn.1 t u 0 with
    | some true => k tgt (ss.1, st, ss.2.2)
    | some false => k np (ss.1, st, ss.2.2)
    | none => none
  | _ => none
def a_goto (tgt : Nat) : sA := fun k ss => k tgt ss
section OKB
variable {kn : sKn} {cc : ByteArray} {own : String} {nL : Nat} {Ts : List Cond} {D : Nat} {ret : Option FieldType} {ini : Bool} {pc : Nat}
theorem ok_goto {off : Int} {tgt : Nat} (hd : decode cc pc = .ok (.goto off, 3)) (ht : (pc : Int) + off = (tgt : Int)) : mOk kn cc own nL Ts D ret ini pc (a_goto tgt) := by
  intro p l e R s m args below meth c dC dI cy A ρ0 n0 Qc Q r X k hk ss h
  have K := hk _ _ h
  exact ⟨K.1, fun H locs ls ρ hag hn hP hD hS hl => lv_goto X.1.1 X.1.2.1 hd ht (K.2 H locs ls ρ hag hn hP hD hS hl)⟩
theorem kn_at {ρ ρ0 : Nat → Nat} {n0 t : Nat} {u : UInt32} {y : Int32} {b : Bool} (hk : knOk kn ρ0) (hag : ag n0 ρ ρ0) (h : kn.1 t u y = some b) : bsem t (vi ρ u) y = b := by
  rw [vi_ag (fun k hk => hag k (Or.inr hk))]
  exact hk.1 t u y b h
theorem okg_icmp_eq {b : Int32 → Int32 → Bool} (hbd : ∀ x y, b x y = decide (x = y)) (hbs : ∀ x y, bsem 0 x y = b x y) (hbt : ∀ x y, bsem 10 x y = b y x) {off : Int} {tgt : Nat} (hd : decode cc pc = .ok (.if_icmp .eq off, 3)) (ht : (pc : Int) + off = (tgt : Int)) : mOk kn cc own nL Ts D ret ini pc (a_icmp kn b 0 tgt (pc + 3)) := by
  intro p l e R s m args below meth c dC dI cy A ρ0 n0 Qc Q r X k hk ss h
  obtain ⟨lv, st, w, nc, ns⟩ := ss
  unfold a_icmp at h
  split at h
  · rename_i y x st' hs
    dsimp only at hs
    subst hs
    split at h
    · rename_i hb0
      have K := hk _ _ h
      refine ⟨K.1, fun H locs ls ρ hag hn hP hD hS hl => ?_⟩
      have hb := of_decide_eq_true ((hbd x y).symm.trans hb0)
      exact lv_icmp_eq X.1.1 X.1.2.1 hd ht (fun _ => K.2 H locs ls ρ hag hn hP hD hS hl) (fun z => absurd hb z)
    · rename_i hb0
      have K := hk _ _ h
      refine ⟨K.1, fun H locs ls ρ hag hn hP hD hS hl => ?_⟩
      have hb := of_decide_eq_false ((hbd x y).symm.trans hb0)
      exact lv_icmp_eq X.1.1 X.1.2.1 hd ht (fun z => absurd z hb) (fun _ => K.2 H locs ls ρ hag hn hP hD hS hl)
  · rename_i y u st' hs
    dsimp only at hs
    subst hs
    split at h
    · rename_i hb0
      have K := hk _ _ h
      refine ⟨K.1, fun H locs ls ρ hag hn hP hD hS hl => ?_⟩
      have hb := of_decide_eq_true ((hbd (vi ρ u) y).symm.trans ((hbs (vi ρ u) y).symm.trans (kn_at X.2.2.2.1.2.1.2.2 hag hb0)))
      exact lv_icmp_eq X.1.1 X.1.2.1 hd ht (fun _ => K.2 H locs ls ρ hag hn hP hD hS hl) (fun z => absurd hb z)
    · rename_i hb0
      have K := hk _ _ h
      refine ⟨K.1, fun H locs ls ρ hag hn hP hD hS hl => ?_⟩
      have hb := of_decide_eq_false ((hbd (vi ρ u) y).symm.trans ((hbs (vi ρ u) y).symm.trans (kn_at X.2.2.2.1.2.1.2.2 hag hb0)))
      exact lv_icmp_eq X.1.1 X.1.2.1 hd ht (fun z => absurd z hb) (fun _ => K.2 H locs ls ρ hag hn hP hD hS hl)
    · cases h
  · rename_i u x st' hs
    dsimp only at hs
    subst hs
    split at h
    · rename_i hb0
      have K := hk _ _ h
      refine ⟨K.1, fun H locs ls ρ hag hn hP hD hS hl => ?_⟩
      have hb := of_decide_eq_true ((hbd x (vi ρ u)).symm.trans ((hbt (vi ρ u) x).symm.trans (kn_at X.2.2.2.1.2.1.2.2 hag hb0)))
      exact lv_icmp_eq X.1.1 X.1.2.1 hd ht (fun _ => K.2 H locs ls ρ hag hn hP hD hS hl) (fun z => absurd hb z)
    · rename_i hb0
      have K := hk _ _ h
      refine ⟨K.1, fun H locs ls ρ hag hn hP hD hS hl => ?_⟩
      have hb := of_decide_eq_false ((hbd x (vi ρ u)).symm.trans ((hbt (vi ρ u) x).symm.trans (kn_at X.2.2.2.1.2.1.2.2 hag hb0)))
      exact lv_icmp_eq X.1.1 X.1.2.1 hd ht (fun z => absurd z hb) (fun _ => K.2 H locs ls ρ hag hn hP hD hS hl)
    · cases h
  · cases h
theorem ok_icmp_eq {off : Int} {tgt : Nat} (hd : decode cc pc = .ok (.if_icmp .eq off, 3)) (ht : (pc : Int) + off = (tgt : Int)) : mOk kn cc own nL Ts D ret ini pc (a_icmp kn b_eq 0 tgt (pc + 3)) := okg_icmp_eq b_eq_d bsem_0 bsem_10 hd ht
theorem okg_if_eq {b : Int32 → Int32 → Bool} (hbd : ∀ x y, b x y = decide (x = y)) (hbs : ∀ x y, bsem 0 x y = b x y) (hbt : ∀ x y, bsem 10 x y = b y x) {off : Int} {tgt : Nat} (hd : decode cc pc = .ok (.ifCond .eq off, 3)) (ht : (pc : Int) + off = (tgt : Int)) : mOk kn cc own nL Ts D ret ini pc (a_if kn b 0 tgt (pc + 3)) := by
  intro p l e R s m args below meth c dC dI cy A ρ0 n0 Qc Q r X k hk ss h
  obtain ⟨lv, st, w, nc, ns⟩ := ss
  unfold a_if at h
  split at h
  · rename_i x st' hs
    dsimp only at hs
    subst hs
    split at h
    · rename_i hb0
      have K := hk _ _ h
      refine ⟨K.1, fun H locs ls ρ hag hn hP hD hS hl => ?_⟩
      have hb := of_decide_eq_true ((hbd x 0).symm.trans hb0)
      exact lv_if_eq X.1.1 X.1.2.1 hd ht (fun _ => K.2 H locs ls ρ hag hn hP hD hS hl) (fun z => absurd hb z)
    · rename_i hb0
      have K := hk _ _ h
      refine ⟨K.1, fun H locs ls ρ hag hn hP hD hS hl => ?_⟩
      have hb := of_decide_eq_false ((hbd x 0).symm.trans hb0)
      exact lv_if_eq X.1.1 X.1.2.1 hd ht (fun z => absurd z hb) (fun _ => K.2 H locs ls ρ hag hn hP hD hS hl)
  · rename_i u st' hs
    dsimp only at hs
    subst hs
    split at h
    · rename_i hb0
      have K := hk _ _ h
      refine ⟨K.1, fun H locs ls ρ hag hn hP hD hS hl => ?_⟩
      have hb := of_decide_eq_true ((hbd (vi ρ u) 0).symm.trans ((hbs (vi ρ u) 0).symm.trans (kn_at X.2.2.2.1.2.1.2.2 hag hb0)))
      exact lv_if_eq X.1.1 X.1.2.1 hd ht (fun _ => K.2 H locs ls ρ hag hn hP hD hS hl) (fun z => absurd hb z)
    · rename_i hb0
      have K := hk _ _ h
      refine ⟨K.1, fun H locs ls ρ hag hn hP hD hS hl => ?_⟩
      have hb := of_decide_eq_false ((hbd (vi ρ u) 0).symm.trans ((hbs (vi ρ u) 0).symm.trans (kn_at X.2.2.2.1.2.1.2.2 hag hb0)))
      exact lv_if_eq X.1.1 X.1.2.1 hd ht (fun z => absurd z hb) (fun _ => K.2 H locs ls ρ hag hn hP hD hS hl)
    · cases h
  · cases h
theorem ok_if_eq {off : Int} {tgt : Nat} (hd : decode cc pc = .ok (.ifCond .eq off, 3)) (ht : (pc : Int) + off = (tgt : Int)) : mOk kn cc own nL Ts D ret ini pc (a_if kn b_eq 0 tgt (pc + 3)) := okg_if_eq b_eq_d bsem_0 bsem_10 hd ht
theorem okg_icmp_ne {b : Int32 → Int32 → Bool} (hbd : ∀ x y, b x y = decide (¬ x = y)) (hbs : ∀ x y, bsem 1 x y = b x y) (hbt : ∀ x y, bsem 11 x y = b y x) {off : Int} {tgt : Nat} (hd : decode cc pc = .ok (.if_icmp .ne off, 3)) (ht : (pc : Int) + off = (tgt : Int)) : mOk kn cc own nL Ts D ret ini pc (a_icmp kn b 1 tgt (pc + 3)) := by
  intro p l e R s m args below meth c dC dI cy A ρ0 n0 Qc Q r X k hk ss h
  obtain ⟨lv, st, w, nc, ns⟩ := ss
  unfold a_icmp at h
  split at h
  · rename_i y x st' hs
    dsimp only at hs
    subst hs
    split at h
    · rename_i hb0
      have K := hk _ _ h
      refine ⟨K.1, fun H locs ls ρ hag hn hP hD hS hl => ?_⟩
      have hb := of_decide_eq_true ((hbd x y).symm.trans hb0)
      exact lv_icmp_ne X.1.1 X.1.2.1 hd ht (fun _ => K.2 H locs ls ρ hag hn hP hD hS hl) (fun z => absurd z hb)
    · rename_i hb0
      have K := hk _ _ h
      refine ⟨K.1, fun H locs ls ρ hag hn hP hD hS hl => ?_⟩
      have hb := of_decide_eq_false ((hbd x y).symm.trans hb0)
      exact lv_icmp_ne X.1.1 X.1.2.1 hd ht (fun z => absurd z hb) (fun _ => K.2 H locs ls ρ hag hn hP hD hS hl)
  · rename_i y u st' hs
    dsimp only at hs
    subst hs
    split at h
    · rename_i hb0
      have K := hk _ _ h
      refine ⟨K.1, fun H locs ls ρ hag hn hP hD hS hl => ?_⟩
      have hb := of_decide_eq_true ((hbd (vi ρ u) y).symm.trans ((hbs (vi ρ u) y).symm.trans (kn_at X.2.2.2.1.2.1.2.2 hag hb0)))
      exact lv_icmp_ne X.1.1 X.1.2.1 hd ht (fun _ => K.2 H locs ls ρ hag hn hP hD hS hl) (fun z => absurd z hb)
    · rename_i hb0
      have K := hk _ _ h
      refine ⟨K.1, fun H locs ls ρ hag hn hP hD hS hl => ?_⟩
      have hb := of_decide_eq_false ((hbd (vi ρ u) y).symm.trans ((hbs (vi ρ u) y).symm.trans (kn_at X.2.2.2.1.2.1.2.2 hag hb0)))
      exact lv_icmp_ne X.1.1 X.1.2.1 hd ht (fun z => absurd z hb) (fun _ => K.2 H locs ls ρ hag hn hP hD hS hl)
    · cases h
  · rename_i u x st' hs
    dsimp only at hs
    subst hs
    split at h
    · rename_i hb0
      have K := hk _ _ h
      refine ⟨K.1, fun H locs ls ρ hag hn hP hD hS hl => ?_⟩
      have hb := of_decide_eq_true ((hbd x (vi ρ u)).symm.trans ((hbt (vi ρ u) x).symm.trans (kn_at X.2.2.2.1.2.1.2.2 hag hb0)))
      exact lv_icmp_ne X.1.1 X.1.2.1 hd ht (fun _ => K.2 H locs ls ρ hag hn hP hD hS hl) (fun z => absurd z hb)
    · rename_i hb0
      have K := hk _ _ h
      refine ⟨K.1, fun H locs ls ρ hag hn hP hD hS hl => ?_⟩
      have hb := of_decide_eq_false ((hbd x (vi ρ u)).symm.trans ((hbt (vi ρ u) x).symm.trans (kn_at X.2.2.2.1.2.1.2.2 hag hb0)))
      exact lv_icmp_ne X.1.1 X.1.2.1 hd ht (fun z => absurd z hb) (fun _ => K.2 H locs ls ρ hag hn hP hD hS hl)
    · cases h
  · cases h
theorem ok_icmp_ne {off : Int} {tgt : Nat} (hd : decode cc pc = .ok (.if_icmp .ne off, 3)) (ht : (pc : Int) + off = (tgt : Int)) : mOk kn cc own nL Ts D ret ini pc (a_icmp kn b_ne 1 tgt (pc + 3)) := okg_icmp_ne b_ne_d bsem_1 bsem_11 hd ht
theorem okg_if_ne {b : Int32 → Int32 → Bool} (hbd : ∀ x y, b x y = decide (¬ x = y)) (hbs : ∀ x y, bsem 1 x y = b x y) (hbt : ∀ x y, bsem 11 x y = b y x) {off : Int} {tgt : Nat} (hd : decode cc pc = .ok (.ifCond .ne off, 3)) (ht : (pc : Int) + off = (tgt : Int)) : mOk kn cc own nL Ts D ret ini pc (a_if kn b 1 tgt (pc + 3)) := by
  intro p l e R s m args below meth c dC dI cy A ρ0 n0 Qc Q r X k hk ss h
  obtain ⟨lv, st, w, nc, ns⟩ := ss
  unfold a_if at h
  split at h
  · rename_i x st' hs
    dsimp only at hs
    subst hs
    split at h
    · rename_i hb0
      have K := hk _ _ h
      refine ⟨K.1, fun H locs ls ρ hag hn hP hD hS hl => ?_⟩
      have hb := of_decide_eq_true ((hbd x 0).symm.trans hb0)
      exact lv_if_ne X.1.1 X.1.2.1 hd ht (fun _ => K.2 H locs ls ρ hag hn hP hD hS hl) (fun z => absurd z hb)
    · rename_i hb0
      have K := hk _ _ h
      refine ⟨K.1, fun H locs ls ρ hag hn hP hD hS hl => ?_⟩
      have hb := of_decide_eq_false ((hbd x 0).symm.trans hb0)
      exact lv_if_ne X.1.1 X.1.2.1 hd ht (fun z => absurd z hb) (fun _ => K.2 H locs ls ρ hag hn hP hD hS hl)
  · rename_i u st' hs
    dsimp only at hs
    subst hs
    split at h
    · rename_i hb0
      have K := hk _ _ h
      refine ⟨K.1, fun H locs ls ρ hag hn hP hD hS hl => ?_⟩
      have hb := of_decide_eq_true ((hbd (vi ρ u) 0).symm.trans ((hbs (vi ρ u) 0).symm.trans (kn_at X.2.2.2.1.2.1.2.2 hag hb0)))
      exact lv_if_ne X.1.1 X.1.2.1 hd ht (fun _ => K.2 H locs ls ρ hag hn hP hD hS hl) (fun z => absurd z hb)
    · rename_i hb0
      have K := hk _ _ h
      refine ⟨K.1, fun H locs ls ρ hag hn hP hD hS hl => ?_⟩
      have hb := of_decide_eq_false ((hbd (vi ρ u) 0).symm.trans ((hbs (vi ρ u) 0).symm.trans (kn_at X.2.2.2.1.2.1.2.2 hag hb0)))
      exact lv_if_ne X.1.1 X.1.2.1 hd ht (fun z => absurd z hb) (fun _ => K.2 H locs ls ρ hag hn hP hD hS hl)
    · cases h
  · cases h
theorem ok_if_ne {off : Int} {tgt : Nat} (hd : decode cc pc = .ok (.ifCond .ne off, 3)) (ht : (pc : Int) + off = (tgt : Int)) : mOk kn cc own nL Ts D ret ini pc (a_if kn b_ne 1 tgt (pc + 3)) := okg_if_ne b_ne_d bsem_1 bsem_11 hd ht
theorem okg_icmp_lt {b : Int32 → Int32 → Bool} (hbd : ∀ x y, b x y = decide (x < y)) (hbs : ∀ x y, bsem 2 x y = b x y) (hbt : ∀ x y, bsem 12 x y = b y x) {off : Int} {tgt : Nat} (hd : decode cc pc = .ok (.if_icmp .lt off, 3)) (ht : (pc : Int) + off = (tgt : Int)) : mOk kn cc own nL Ts D ret ini pc (a_icmp kn b 2 tgt (pc + 3)) := by
  intro p l e R s m args below meth c dC dI cy A ρ0 n0 Qc Q r X k hk ss h
  obtain ⟨lv, st, w, nc, ns⟩ := ss
  unfold a_icmp at h
  split at h
  · rename_i y x st' hs
    dsimp only at hs
    subst hs
    split at h
    · rename_i hb0
      have K := hk _ _ h
      refine ⟨K.1, fun H locs ls ρ hag hn hP hD hS hl => ?_⟩
      have hb := of_decide_eq_true ((hbd x y).symm.trans hb0)
      exact lv_icmp_lt X.1.1 X.1.2.1 hd ht (fun _ => K.2 H locs ls ρ hag hn hP hD hS hl) (fun z => absurd hb z)
    · rename_i hb0
      have K := hk _ _ h
      refine ⟨K.1, fun H locs ls ρ hag hn hP hD hS hl => ?_⟩
      have hb := of_decide_eq_false ((hbd x y).symm.trans hb0)
      exact lv_icmp_lt X.1.1 X.1.2.1 hd ht (fun z => absurd z hb) (fun _ => K.2 H locs ls ρ hag hn hP hD hS hl)
  · rename_i y u st' hs
    dsimp only at hs
    subst hs
    split at h
    · rename_i hb0
      have K := hk _ _ h
      refine ⟨K.1, fun H locs ls ρ hag hn hP hD hS hl => ?_⟩
      have hb := of_decide_eq_true ((hbd (vi ρ u) y).symm.trans ((hbs (vi ρ u) y).symm.trans (kn_at X.2.2.2.1.2.1.2.2 hag hb0)))
      exact lv_icmp_lt X.1.1 X.1.2.1 hd ht (fun _ => K.2 H locs ls ρ hag hn hP hD hS hl) (fun z => absurd hb z)
    · rename_i hb0
      have K := hk _ _ h
      refine ⟨K.1, fun H locs ls ρ hag hn hP hD hS hl => ?_⟩
      have hb := of_decide_eq_false ((hbd (vi ρ u) y).symm.trans ((hbs (vi ρ u) y).symm.trans (kn_at X.2.2.2.1.2.1.2.2 hag hb0)))
      exact lv_icmp_lt X.1.1 X.1.2.1 hd ht (fun z => absurd z hb) (fun _ => K.2 H locs ls ρ hag hn hP hD hS hl)
    · cases h
  · rename_i u x st' hs
    dsimp only at hs
    subst hs
    split at h
    · rename_i hb0
      have K := hk _ _ h
      refine ⟨K.1, fun H locs ls ρ hag hn hP hD hS hl => ?_⟩
      have hb := of_decide_eq_true ((hbd x (vi ρ u)).symm.trans ((hbt (vi ρ u) x).symm.trans (kn_at X.2.2.2.1.2.1.2.2 hag hb0)))
      exact lv_icmp_lt X.1.1 X.1.2.1 hd ht (fun _ => K.2 H locs ls ρ hag hn hP hD hS hl) (fun z => absurd hb z)
    · rename_i hb0
      have K := hk _ _ h
      refine ⟨K.1, fun H locs ls ρ hag hn hP hD hS hl => ?_⟩
      have hb := of_decide_eq_false ((hbd x (vi ρ u)).symm.trans ((hbt (vi ρ u) x).symm.trans (kn_at X.2.2.2.1.2.1.2.2 hag hb0)))
      exact lv_icmp_lt X.1.1 X.1.2.1 hd ht (fun z => absurd z hb) (fun _ => K.2 H locs ls ρ hag hn hP hD hS hl)
    · cases h
  · cases h
theorem ok_icmp_lt {off : Int} {tgt : Nat} (hd : decode cc pc = .ok (.if_icmp .lt off, 3)) (ht : (pc : Int) + off = (tgt : Int)) : mOk kn cc own nL Ts D ret ini pc (a_icmp kn b_lt 2 tgt (pc + 3)) := okg_icmp_lt b_lt_d bsem_2 bsem_12 hd ht
theorem okg_if_lt {b : Int32 → Int32 → Bool} (hbd : ∀ x y, b x y = decide (x < y)) (hbs : ∀ x y, bsem 2 x y = b x y) (hbt : ∀ x y, bsem 12 x y = b y x) {off : Int} {tgt : Nat} (hd : decode cc pc = .ok (.ifCond .lt off, 3)) (ht : (pc : Int) + off = (tgt : Int)) : mOk kn cc own nL Ts D ret ini pc (a_if kn b 2 tgt (pc + 3)) := by
  intro p l e R s m args below meth c dC dI cy A ρ0 n0 Qc Q r X k hk ss h
  obtain ⟨lv, st, w, nc, ns⟩ := ss
  unfold a_if at h
  split at h
  · rename_i x st' hs
    dsimp only at hs
    subst hs
    split at h
    · rename_i hb0
      have K := hk _ _ h
      refine ⟨K.1, fun H locs ls ρ hag hn hP hD hS hl => ?_⟩
      have hb := of_decide_eq_true ((hbd x 0).symm.trans hb0)
      exact lv_if_lt X.1.1 X.1.2.1 hd ht (fun _ => K.2 H locs ls ρ hag hn hP hD hS hl) (fun z => absurd hb z)
    · rename_i hb0
      have K := hk _ _ h
      refine ⟨K.1, fun H locs ls ρ hag hn hP hD hS hl => ?_⟩
      have hb := of_decide_eq_false ((hbd x 0).symm.trans hb0)
      exact lv_if_lt X.1.1 X.1.2.1 hd ht (fun z => absurd z hb) (fun _ => K.2 H locs ls ρ hag hn hP hD hS hl)
  · rename_i u st' hs
    dsimp only at hs
    subst hs
    split at h
    · rename_i hb0
      have K := hk _ _ h
      refine ⟨K.1, fun H locs ls ρ hag hn hP hD hS hl => ?_⟩
      have hb := of_decide_eq_true ((hbd (vi ρ u) 0).symm.trans ((hbs (vi ρ u) 0).symm.trans (kn_at X.2.2.2.1.2.1.2.2 hag hb0)))
      exact lv_if_lt X.1.1 X.1.2.1 hd ht (fun _ => K.2 H locs ls ρ hag hn hP hD hS hl) (fun z => absurd hb z)
    · rename_i hb0
      have K := hk _ _ h
      refine ⟨K.1, fun H locs ls ρ hag hn hP hD hS hl => ?_⟩
      have hb := of_decide_eq_false ((hbd (vi ρ u) 0).symm.trans ((hbs (vi ρ u) 0).symm.trans (kn_at X.2.2.2.1.2.1.2.2 hag hb0)))
      exact lv_if_lt X.1.1 X.1.2.1 hd ht (fun z => absurd z hb) (fun _ => K.2 H locs ls ρ hag hn hP hD hS hl)
    · cases h
  · cases h
theorem ok_if_lt {off : Int} {tgt : Nat} (hd : decode cc pc = .ok (.ifCond .lt off, 3)) (ht : (pc : Int) + off = (tgt : Int)) : mOk kn cc own nL Ts D ret ini pc (a_if kn b_lt 2 tgt (pc + 3)) := okg_if_lt b_lt_d bsem_2 bsem_12 hd ht
theorem okg_icmp_ge {b : Int32 → Int32 → Bool} (hbd : ∀ x y, b x y = decide (y ≤ x)) (hbs : ∀ x y, bsem 3 x y = b x y) (hbt : ∀ x y, bsem 13 x y = b y x) {off : Int} {tgt : Nat} (hd : decode cc pc = .ok (.if_icmp .ge off, 3)) (ht : (pc : Int) + off = (tgt : Int)) : mOk kn cc own nL Ts D ret ini pc (a_icmp kn b 3 tgt (pc + 3)) := by
  intro p l e R s m args below meth c dC dI cy A ρ0 n0 Qc Q r X k hk ss h
  obtain ⟨lv, st, w, nc, ns⟩ := ss
  unfold a_icmp at h
  split at h
  · rename_i y x st' hs
    dsimp only at hs
    subst hs
    split at h
    · rename_i hb0
      have K := hk _ _ h
      refine ⟨K.1, fun H locs ls ρ hag hn hP hD hS hl => ?_⟩
      have hb := of_decide_eq_true ((hbd x y).symm.trans hb0)
      exact lv_icmp_ge X.1.1 X.1.2.1 hd ht (fun _ => K.2 H locs ls ρ hag hn hP hD hS hl) (fun z => absurd hb z)
    · rename_i hb0
      have K := hk _ _ h
      refine ⟨K.1, fun H locs ls ρ hag hn hP hD hS hl => ?_⟩
      have hb := of_decide_eq_false ((hbd x y).symm.trans hb0)
      exact lv_icmp_ge X.1.1 X.1.2.1 hd ht (fun z => absurd z hb) (fun _ => K.2 H locs ls ρ hag hn hP hD hS hl)
  · rename_i y u st' hs
    dsimp only at hs
    subst hs
    split at h
    · rename_i hb0
      have K := hk _ _ h
      refine ⟨K.1, fun H locs ls ρ hag hn hP hD hS hl => ?_⟩
      have hb := of_decide_eq_true ((hbd (vi ρ u) y).symm.trans ((hbs (vi ρ u) y).symm.trans (kn_at X.2.2.2.1.2.1.2.2 hag hb0)))
      exact lv_icmp_ge X.1.1 X.1.2.1 hd ht (fun _ => K.2 H locs ls ρ hag hn hP hD hS hl) (fun z => absurd hb z)
    · rename_i hb0
      have K := hk _ _ h
      refine ⟨K.1, fun H locs ls ρ hag hn hP hD hS hl => ?_⟩
      have hb := of_decide_eq_false ((hbd (vi ρ u) y).symm.trans ((hbs (vi ρ u) y).symm.trans (kn_at X.2.2.2.1.2.1.2.2 hag hb0)))
      exact lv_icmp_ge X.1.1 X.1.2.1 hd ht (fun z => absurd z hb) (fun _ => K.2 H locs ls ρ hag hn hP hD hS hl)
    · cases h
  · rename_i u x st' hs
    dsimp only at hs
    subst hs
    split at h
    · rename_i hb0
      have K := hk _ _ h
      refine ⟨K.1, fun H locs ls ρ hag hn hP hD hS hl => ?_⟩
      have hb := of_decide_eq_true ((hbd x (vi ρ u)).symm.trans ((hbt (vi ρ u) x).symm.trans (kn_at X.2.2.2.1.2.1.2.2 hag hb0)))
      exact lv_icmp_ge X.1.1 X.1.2.1 hd ht (fun _ => K.2 H locs ls ρ hag hn hP hD hS hl) (fun z => absurd hb z)
    · rename_i hb0
      have K := hk _ _ h
      refine ⟨K.1, fun H locs ls ρ hag hn hP hD hS hl => ?_⟩
      have hb := of_decide_eq_false ((hbd x (vi ρ u)).symm.trans ((hbt (vi ρ u) x).symm.trans (kn_at X.2.2.2.1.2.1.2.2 hag hb0)))
      exact lv_icmp_ge X.1.1 X.1.2.1 hd ht (fun z => absurd z hb) (fun _ => K.2 H locs ls ρ hag hn hP hD hS hl)
    · cases h
  · cases h
theorem ok_icmp_ge {off : Int} {tgt : Nat} (hd : decode cc pc = .ok (.if_icmp .ge off, 3)) (ht : (pc : Int) + off = (tgt : Int)) : mOk kn cc own nL Ts D ret ini pc (a_icmp kn b_ge 3 tgt (pc + 3)) := okg_icmp_ge b_ge_d bsem_3 bsem_13 hd ht
theorem okg_if_ge {b : Int32 → Int32 → Bool} (hbd : ∀ x y, b x y = decide (y ≤ x)) (hbs : ∀ x y, bsem 3 x y = b x y) (hbt : ∀ x y, bsem 13 x y = b y x) {off : Int} {tgt : Nat} (hd : decode cc pc = .ok (.ifCond .ge off, 3)) (ht : (pc : Int) + off = (tgt : Int)) : mOk kn cc own nL Ts D ret ini pc (a_if kn b 3 tgt (pc + 3)) := by
  intro p l e R s m args below meth c dC dI cy A ρ0 n0 Qc Q r X k hk ss h
  obtain ⟨lv, st, w, nc, ns⟩ := ss
  unfold a_if at h
  split at h
  · rename_i x st' hs
    dsimp only at hs
    subst hs
    split at h
    · rename_i hb0
      have K := hk _ _ h
      refine ⟨K.1, fun H locs ls ρ hag hn hP hD hS hl => ?_⟩
      have hb := of_decide_eq_true ((hbd x 0).symm.trans hb0)
      exact lv_if_ge X.1.1 X.1.2.1 hd ht (fun _ => K.2 H locs ls ρ hag hn hP hD hS hl) (fun z => absurd hb z)
    · rename_i hb0
      have K := hk _ _ h
      refine ⟨K.1, fun H locs ls ρ hag hn hP hD hS hl => ?_⟩
      have hb := of_decide_eq_false ((hbd x 0).symm.trans hb0)
      exact lv_if_ge X.1.1 X.1.2.1 hd ht (fun z => absurd z hb) (fun _ => K.2 H locs ls ρ hag hn hP hD hS hl)
  · rename_i u st' hs
    dsimp only at hs
    subst hs
    split at h
    · rename_i hb0
      have K := hk _ _ h
      refine ⟨K.1, fun H locs ls ρ hag hn hP hD hS hl => ?_⟩
      have hb := of_decide_eq_true ((hbd (vi ρ u) 0).symm.trans ((hbs (vi ρ u) 0).symm.trans (kn_at X.2.2.2.1.2.1.2.2 hag hb0)))
      exact lv_if_ge X.1.1 X.1.2.1 hd ht (fun _ => K.2 H locs ls ρ hag hn hP hD hS hl) (fun z => absurd hb z)
    · rename_i hb0
      have K := hk _ _ h
      refine ⟨K.1, fun H locs ls ρ hag hn hP hD hS hl => ?_⟩
      have hb := of_decide_eq_false ((hbd (vi ρ u) 0).symm.trans ((hbs (vi ρ u) 0).symm.trans (kn_at X.2.2.2.1.2.1.2.2 hag hb0)))
      exact lv_if_ge X.1.1 X.1.2.1 hd ht (fun z => absurd z hb) (fun _ => K.2 H locs ls ρ hag hn hP hD hS hl)
    · cases h
  · cases h
theorem ok_if_ge {off : Int} {tgt : Nat} (hd : decode cc pc = .ok (.ifCond .ge off, 3)) (ht : (pc : Int) + off = (tgt : Int)) : mOk kn cc own nL Ts D ret ini pc (a_if kn b_ge 3 tgt (pc + 3)) := okg_if_ge b_ge_d bsem_3 bsem_13 hd ht
theorem okg_icmp_gt {b : Int32 → Int32 → Bool} (hbd : ∀ x y, b x y = decide (y < x)) (hbs : ∀ x y, bsem 4 x y = b x y) (hbt : ∀ x y, bsem 14 x y = b y x) {off : Int} {tgt : Nat} (hd : decode cc pc = .ok (.if_icmp .gt off, 3)) (ht : (pc : Int) + off = (tgt : Int)) : mOk kn cc own nL Ts D ret ini pc (a_icmp kn b 4 tgt (pc + 3)) := by
  intro p l e R s m args below meth c dC dI cy A ρ0 n0 Qc Q r X k hk ss h
  obtain ⟨lv, st, w, nc, ns⟩ := ss
  unfold a_icmp at h
  split at h
  · rename_i y x st' hs
    dsimp only at hs
    subst hs
    split at h
    · rename_i hb0
      have K := hk _ _ h
      refine ⟨K.1, fun H locs ls ρ hag hn hP hD hS hl => ?_⟩
      have hb := of_decide_eq_true ((hbd x y).symm.trans hb0)
      exact lv_icmp_gt X.1.1 X.1.2.1 hd ht (fun _ => K.2 H locs ls ρ hag hn hP hD hS hl) (fun z => absurd hb z)
    · rename_i hb0
      have K := hk _ _ h
      refine ⟨K.1, fun H locs ls ρ hag hn hP hD hS hl => ?_⟩
      have hb := of_decide_eq_false ((hbd x y).symm.trans hb0)
      exact lv_icmp_gt X.1.1 X.1.2.1 hd ht (fun z => absurd z hb) (fun _ => K.2 H locs ls ρ hag hn hP hD hS hl)
  · rename_i y u st' hs
    dsimp only at hs
    subst hs
    split at h
    · rename_i hb0
      have K := hk _ _ h
      refine ⟨K.1, fun H locs ls ρ hag hn hP hD hS hl => ?_⟩
      have hb := of_decide_eq_true ((hbd (vi ρ u) y).symm.trans ((hbs (vi ρ u) y).symm.trans (kn_at X.2.2.2.1.2.1.2.2 hag hb0)))
      exact lv_icmp_gt X.1.1 X.1.2.1 hd ht (fun _ => K.2 H locs ls ρ hag hn hP hD hS hl) (fun z => absurd hb z)
    · rename_i hb0
      have K := hk _ _ h
      refine ⟨K.1, fun H locs ls ρ hag hn hP hD hS hl => ?_⟩
      have hb := of_decide_eq_false ((hbd (vi ρ u) y).symm.trans ((hbs (vi ρ u) y).symm.trans (kn_at X.2.2.2.1.2.1.2.2 hag hb0)))
      exact lv_icmp_gt X.1.1 X.1.2.1 hd ht (fun z => absurd z hb) (fun _ => K.2 H locs ls ρ hag hn hP hD hS hl)
    · cases h
  · rename_i u x st' hs
    dsimp only at hs
    subst hs
    split at h
    · rename_i hb0
      have K := hk _ _ h
      refine ⟨K.1, fun H locs ls ρ hag hn hP hD hS hl => ?_⟩
      have hb := of_decide_eq_true ((hbd x (vi ρ u)).symm.trans ((hbt (vi ρ u) x).symm.trans (kn_at X.2.2.2.1.2.1.2.2 hag hb0)))
      exact lv_icmp_gt X.1.1 X.1.2.1 hd ht (fun _ => K.2 H locs ls ρ hag hn hP hD hS hl) (fun z => absurd hb z)
    · rename_i hb0
      have K := hk _ _ h
      refine ⟨K.1, fun H locs ls ρ hag hn hP hD hS hl => ?_⟩
      have hb := of_decide_eq_false ((hbd x (vi ρ u)).symm.trans ((hbt (vi ρ u) x).symm.trans (kn_at X.2.2.2.1.2.1.2.2 hag hb0)))
      exact lv_icmp_gt X.1.1 X.1.2.1 hd ht (fun z => absurd z hb) (fun _ => K.2 H locs ls ρ hag hn hP hD hS hl)
    · cases h
  · cases h
theorem ok_icmp_gt {off : Int} {tgt : Nat} (hd : decode cc pc = .ok (.if_icmp .gt off, 3)) (ht : (pc : Int) + off = (tgt : Int)) : mOk kn cc own nL Ts D ret ini pc (a_icmp kn b_gt 4 tgt (pc + 3)) := okg_icmp_gt b_gt_d bsem_4 bsem_14 hd ht
theorem okg_if_gt {b : Int32 → Int32 → Bool} (hbd : ∀ x y, b x y = decide (y < x)) (hbs : ∀ x y, bsem 4 x y = b x y) (hbt : ∀ x y, bsem 14 x y = b y x) {off : Int} {tgt : Nat} (hd : decode cc pc = .ok (.ifCond .gt off, 3)) (ht : (pc : Int) + off = (tgt : Int)) : mOk kn cc own nL Ts D ret ini pc (a_if kn b 4 tgt (pc + 3)) := by
  intro p l e R s m args below meth c dC dI cy A ρ0 n0 Qc Q r X k hk ss h
  obtain ⟨lv, st, w, nc, ns⟩ := ss
  unfold a_if at h
  split at h
  · rename_i x st' hs
    dsimp only at hs
    subst hs
    split at h
    · rename_i hb0
      have K := hk _ _ h
      refine ⟨K.1, fun H locs ls ρ hag hn hP hD hS hl => ?_⟩
      have hb := of_decide_eq_true ((hbd x 0).symm.trans hb0)
      exact lv_if_gt X.1.1 X.1.2.1 hd ht (fun _ => K.2 H locs ls ρ hag hn hP hD hS hl) (fun z => absurd hb z)
    · rename_i hb0
      have K := hk _ _ h
      refine ⟨K.1, fun H locs ls ρ hag hn hP hD hS hl => ?_⟩
      have hb := of_decide_eq_false ((hbd x 0).symm.trans hb0)
      exact lv_if_gt X.1.1 X.1.2.1 hd ht (fun z => absurd z hb) (fun _ => K.2 H locs ls ρ hag hn hP hD hS hl)
  · rename_i u st' hs
    dsimp only at hs
    subst hs
    split at h
    · rename_i hb0
      have K := hk _ _ h
      refine ⟨K.1, fun H locs ls ρ hag hn hP hD hS hl => ?_⟩
      have hb := of_decide_eq_true ((hbd (vi ρ u) 0).symm.trans ((hbs (vi ρ u) 0).symm.trans (kn_at X.2.2.2.1.2.1.2.2 hag hb0)))
      exact lv_if_gt X.1.1 X.1.2.1 hd ht (fun _ => K.2 H locs ls ρ hag hn hP hD hS hl) (fun z => absurd hb z)
    · rename_i hb0
      have K := hk _ _ h
      refine ⟨K.1, fun H locs ls ρ hag hn hP hD hS hl => ?_⟩
      have hb := of_decide_eq_false ((hbd (vi ρ u) 0).symm.trans ((hbs (vi ρ u) 0).symm.trans (kn_at X.2.2.2.1.2.1.2.2 hag hb0)))
      exact lv_if_gt X.1.1 X.1.2.1 hd ht (fun z => absurd z hb) (fun _ => K.2 H locs ls ρ hag hn hP hD hS hl)
    · cases h
  · cases h
theorem ok_if_gt {off : Int} {tgt : Nat} (hd : decode cc pc = .ok (.ifCond .gt off, 3)) (ht : (pc : Int) + off = (tgt : Int)) : mOk kn cc own nL Ts D ret ini pc (a_if kn b_gt 4 tgt (pc + 3)) := okg_if_gt b_gt_d bsem_4 bsem_14 hd ht
theorem okg_icmp_le {b : Int32 → Int32 → Bool} (hbd : ∀ x y, b x y = decide (x ≤ y)) (hbs : ∀ x y, bsem 5 x y = b x y) (hbt : ∀ x y, bsem 15 x y = b y x) {off : Int} {tgt : Nat} (hd : decode cc pc = .ok (.if_icmp .le off, 3)) (ht : (pc : Int) + off = (tgt : Int)) : mOk kn cc own nL Ts D ret ini pc (a_icmp kn b 5 tgt (pc + 3)) := by
  intro p l e R s m args below meth c dC dI cy A ρ0 n0 Qc Q r X k hk ss h
  obtain ⟨lv, st, w, nc, ns⟩ := ss
  unfold a_icmp at h
  split at h
  · rename_i y x st' hs
    dsimp only at hs
    subst hs
    split at h
    · rename_i hb0
      have K := hk _ _ h
      refine ⟨K.1, fun H locs ls ρ hag hn hP hD hS hl => ?_⟩
      have hb := of_decide_eq_true ((hbd x y).symm.trans hb0)
      exact lv_icmp_le X.1.1 X.1.2.1 hd ht (fun _ => K.2 H locs ls ρ hag hn hP hD hS hl) (fun z => absurd hb z)
    · rename_i hb0
      have K := hk _ _ h
      refine ⟨K.1, fun H locs ls ρ hag hn hP hD hS hl => ?_⟩
      have hb := of_decide_eq_false ((hbd x y).symm.trans hb0)
      exact lv_icmp_le X.1.1 X.1.2.1 hd ht (fun z => absurd z hb) (fun _ => K.2 H locs ls ρ hag hn hP hD hS hl)
  · rename_i y u st' hs
    dsimp only at hs
    subst hs
    split at h
    · rename_i hb0
      have K := hk _ _ h
      refine ⟨K.1, fun H locs ls ρ hag hn hP hD hS hl => ?_⟩
      have hb := of_decide_eq_true ((hbd (vi ρ u) y).symm.trans ((hbs (vi ρ u) y).symm.trans (kn_at X.2.2.2.1.2.1.2.2 hag hb0)))
      exact lv_icmp_le X.1.1 X.1.2.1 hd ht (fun _ => K.2 H locs ls ρ hag hn hP hD hS hl) (fun z => absurd hb z)
    · rename_i hb0
      have K := hk _ _ h
      refine ⟨K.1, fun H locs ls ρ hag hn hP hD hS hl => ?_⟩
      have hb := of_decide_eq_false ((hbd (vi ρ u) y).symm.trans ((hbs (vi ρ u) y).symm.trans (kn_at X.2.2.2.1.2.1.2.2 hag hb0)))
      exact lv_icmp_le X.1.1 X.1.2.1 hd ht (fun z => absurd z hb) (fun _ => K.2 H locs ls ρ hag hn hP hD hS hl)
    · cases h
  · rename_i u x st' hs
    dsimp only at hs
    subst hs
    split at h
    · rename_i hb0
      have K := hk _ _ h
      refine ⟨K.1, fun H locs ls ρ hag hn hP hD hS hl => ?_⟩
      have hb := of_decide_eq_true ((hbd x (vi ρ u)).symm.trans ((hbt (vi ρ u) x).symm.trans (kn_at X.2.2.2.1.2.1.2.2 hag hb0)))
      exact lv_icmp_le X.1.1 X.1.2.1 hd ht (fun _ => K.2 H locs ls ρ hag hn hP hD hS hl) (fun z => absurd hb z)
    · rename_i hb0
      have K := hk _ _ h
      refine ⟨K.1, fun H locs ls ρ hag hn hP hD hS hl => ?_⟩
      have hb := of_decide_eq_false ((hbd x (vi ρ u)).symm.trans ((hbt (vi ρ u) x).symm.trans (kn_at X.2.2.2.1.2.1.2.2 hag hb0)))
      exact lv_icmp_le X.1.1 X.1.2.1 hd ht (fun z => absurd z hb) (fun _ => K.2 H locs ls ρ hag hn hP hD hS hl)
    · cases h
  · cases h
theorem ok_icmp_le {off : Int} {tgt : Nat} (hd : decode cc pc = .ok (.if_icmp .le off, 3)) (ht : (pc : Int) + off = (tgt : Int)) : mOk kn cc own nL Ts D ret ini pc (a_icmp kn b_le 5 tgt (pc + 3)) := okg_icmp_le b_le_d bsem_5 bsem_15 hd ht
theorem okg_if_le {b : Int32 → Int32 → Bool} (hbd : ∀ x y, b x y = decide (x ≤ y)) (hbs : ∀ x y, bsem 5 x y = b x y) (hbt : ∀ x y, bsem 15 x y = b y x) {off : Int} {tgt : Nat} (hd : decode cc pc = .ok (.ifCond .le off, 3)) (ht : (pc : Int) + off = (tgt : Int)) : mOk kn cc own nL Ts D ret ini pc (a_if kn b 5 tgt (pc + 3)) := by
  intro p l e R s m args below meth c dC dI cy A ρ0 n0 Qc Q r X k hk ss h
  obtain ⟨lv, st, w, nc, ns⟩ := ss
  unfold a_if at h
  split at h
  · rename_i x st' hs
    dsimp only at hs
    subst hs
    split at h
    · rename_i hb0
      have K := hk _ _ h
      refine ⟨K.1, fun H locs ls ρ hag hn hP hD hS hl => ?_⟩
      have hb := of_decide_eq_true ((hbd x 0).symm.trans hb0)
      exact lv_if_le X.1.1 X.1.2.1 hd ht (fun _ => K.2 H locs ls ρ hag hn hP hD hS hl) (fun z => absurd hb z)
    · rename_i hb0
      have K := hk _ _ h
      refine ⟨K.1, fun H locs ls ρ hag hn hP hD hS hl => ?_⟩
      have hb := of_decide_eq_false ((hbd x 0).symm.trans hb0)
      exact lv_if_le X.1.1 X.1.2.1 hd ht (fun z => absurd z hb) (fun _ => K.2 H locs ls ρ hag hn hP hD hS hl)
  · rename_i u st' hs
    dsimp only at hs
    subst hs
    split at h
    · rename_i hb0
      have K := hk _ _ h
      refine ⟨K.1, fun H locs ls ρ hag hn hP hD hS hl => ?_⟩
      have hb := of_decide_eq_true ((hbd (vi ρ u) 0).symm.trans ((hbs (vi ρ u) 0).symm.trans (kn_at X.2.2.2.1.2.1.2.2 hag hb0)))
      exact lv_if_le X.1.1 X.1.2.1 hd ht (fun _ => K.2 H locs ls ρ hag hn hP hD hS hl) (fun z => absurd hb z)
    · rename_i hb0
      have K := hk _ _ h
      refine ⟨K.1, fun H locs ls ρ hag hn hP hD hS hl => ?_⟩
      have hb := of_decide_eq_false ((hbd (vi ρ u) 0).symm.trans ((hbs (vi ρ u) 0).symm.trans (kn_at X.2.2.2.1.2.1.2.2 hag hb0)))
      exact lv_if_le X.1.1 X.1.2.1 hd ht (fun z => absurd z hb) (fun _ => K.2 H locs ls ρ hag hn hP hD hS hl)
    · cases h
  · cases h
theorem ok_if_le {off : Int} {tgt : Nat} (hd : decode cc pc = .ok (.ifCond .le off, 3)) (ht : (pc : Int) + off = (tgt : Int)) : mOk kn cc own nL Ts D ret ini pc (a_if kn b_le 5 tgt (pc + 3)) := okg_if_le b_le_d bsem_5 bsem_15 hd ht
end OKB
end
end
section
noncomputable section
-- ===== fields =====
def ckI (v : Value) : Bool := match v with
  | .int _ => true
  | _ => false
def ckJ (v : Value) : Bool := match v with
  | .long _ => true
  | _ => false
def ckZ (v : Value) : Bool := match v with
  | .int x => x == 0 || x == 1
  | _ => false
def ckB (v : Value) : Bool := match v with
  | .int x => decide (x.toInt8.toInt32 = x) && fits .byte (.int x)
  | _ => false
def ckR (v : Value) : Bool := match v with
  | .ref _ => true
  | .null => true
  | _ => false
/-- what the check takes may lie in a field of the type -/
def ckOk (ty : FieldType) (ck : Value → Bool) : Prop := ∀ (v : Value) (ρ : Nat → Nat), ck v = true → narrow ty (dv ρ v) = dv ρ v ∧ fits ty (dv ρ v) = true
theorem ckI_ok : ckOk .int ckI := by
  intro v ρ h
  cases v <;> first | exact ⟨rfl, rfl⟩ | cases h
theorem ckJ_ok : ckOk .long ckJ := by
  intro v ρ h
  cases v <;> first | exact ⟨rfl, rfl⟩ | cases h
theorem ckZ_ok : ckOk .boolean ckZ := by
  intro v ρ h
  cases v with
  | int x =>
    have h : (x == 0 || x == 1) = true := h
    rcases (by simpa using h : x = 0 ∨ x = 1) with rfl | rfl <;> exact ⟨rfl, rfl⟩
  | _ => cases h
theorem ckB_ok : ckOk .byte ckB := by
  intro v ρ h
  cases v with
  | int x =>
    have h : (decide (x.toInt8.toInt32 = x) && fits .byte (.int x)) = true := h
    have h := Bool.and_eq_true_iff.mp h
    have e := of_decide_eq_true h.1
    refine ⟨?_, h.2⟩
    show narrow .byte (.int x) = .int x
    have := pk_nb x
    rw [e] at this
    exact this
  | _ => cases h
theorem ckR_ok {C : String} : ckOk (.object C) ckR := by
  intro v ρ h
  cases v <;> first | exact ⟨rfl, rfl⟩ | cases h
theorem ckA_ok {t : FieldType} : ckOk (.array t) ckR := by
  intro v ρ h
  cases v <;> first | exact ⟨rfl, rfl⟩ | cases h
def a_get (ci kf np : Nat) : sA := fun k ss => match ss.2.1 with
  | .ref h :: st => match xg ss.2.2.1 h with
    | some (.inr (c', fs)) => match Nat.beq c' ci with
      | true => match xg fs kf with
        | some v => k np (ss.1, v :: st, ss.2.2)
        | none => none
      | false => none
    | _ => none
  | _ => none
def a_put (ci kf : Nat) (ck : Value → Bool) (np : Nat) : sA := fun k ss => match ss.2.1 with
  | v :: .ref h :: st => match xg ss.2.2.1 h with
    | some (.inr (c', fs)) => match Nat.beq c' ci with
      | true => match xg fs kf with
        | some _ => match ck v with
          | true => k np (ss.1, st, xs ss.2.2.1 h (.inr (c', xs fs kf v)), ss.2.2.2)
          | false => none
        | none => none
      | false => none
    | _ => none
  | _ => none
theorem dW_put {ρ : Nat → Nat} {cy : Nat → ClassId} {w : sW} {h ci kf : Nat} {fs : List Value} {v : Value} : dW ρ cy (w.set h (.inr (ci, fs.set kf v))) = (dW ρ cy w).set h (ρ h, .inr (ci, (fs.map (dv ρ)).set kf (dv ρ v))) := by
  rw [dW_set]
  simp only [dE, List.map_set]
section OKF
variable {kn : sKn} {cc : ByteArray} {own : String} {nL : Nat} {Ts : List Cond} {D : Nat} {ret : Option FieldType} {ini : Bool} {pc : Nat}
theorem ok_get {C : String} {T : u_T} {N ci index : Nat} (hin : ∀ w ∈ u_ws C T N, w ∈ Ts) (hc : vwCl[ci]? = some (C, T, N)) (kf : Nat) (hk : kf < N) (hlink : Cond.fieldLink own index (T kf).1 (T kf).2.1 (T kf).2.2.1 ∈ Ts) (hd : decode cc pc = .ok (.getfield index, 3)) : mOk kn cc own nL Ts D ret ini pc (a_get ci kf (pc + 3)) := by
  intro p l e R s m args below meth c dC dI cy A ρ0 n0 Qc Q r X k hk' ss h
  obtain ⟨lv, st, w, nc, ns⟩ := ss
  unfold a_get at h
  split at h
  · rename_i h0 st' hs
    dsimp only at hs
    subst hs
    split at h
    · rename_i c' fs hw
      rw [xg_eq] at hw
      split at h
      · rename_i e'
        have e' := Nat.eq_of_beq_eq_true e'
        subst e'
        split at h
        · rename_i v hv
          rw [xg_eq] at hv
          have K := hk' _ _ h
          exact ⟨K.1, fun H locs ls ρ hag hn hP hD hS hl => va_get (D := (dC, dI)) (v := dv ρ v) X.1.1 X.1.2.1 X.1.2.2.2.2 hin X.1.2.2.2.1 X.2.2.2.1.1 hP h0 (dW_get hw) hc kf hk (X.1.2.2.2.2 _ hlink) (fun _ z => z) (by simp [hv]) hd (K.2 H locs ls ρ hag hn hP hD hS hl)⟩
        · cases h
      · cases h
    · cases h
  · cases h
theorem ok_put {C : String} {T : u_T} {N ci index : Nat} (hin : ∀ w ∈ u_ws C T N, w ∈ Ts) (hc : vwCl[ci]? = some (C, T, N)) (ty0 : Nat → FieldType) (hty : ∀ k, k < N → parseFieldDescriptor (T k).2.2.1 = some (ty0 k)) (hnm : ∀ a, a < N → ∀ b, b < N → a ≠ b → (T a).2.1 ≠ (T b).2.1) (kf : Nat) (hk : kf < N) (hlink : Cond.fieldLink own index (T kf).1 (T kf).2.1 (T kf).2.2.1 ∈ Ts) (hfin : (T kf).2.2.2 = false) {ck : Value → Bool} (hck : ckOk (ty0 kf) ck) (hd : decode cc pc = .ok (.putfield index, 3)) : mOk kn cc own nL Ts D ret ini pc (a_put ci kf ck (pc + 3)) := by
  intro p l e R s m args below meth c dC dI cy A ρ0 n0 Qc Q r X k hk' ss h
  obtain ⟨lv, st, w, nc, ns⟩ := ss
  unfold a_put at h
  split at h
  · rename_i v h0 st' hs
    dsimp only at hs
    subst hs
    split at h
    · rename_i c' fs hw
      rw [xg_eq] at hw
      split at h
      case h_2 => cases h
      rename_i e'
      have e' := Nat.eq_of_beq_eq_true e'
      subst e'
      split at h
      case h_2 => cases h
      rename_i v0 hv0
      rw [xg_eq] at hv0
      have hlen : kf < fs.length := (List.getElem?_eq_some_iff.mp hv0).1
      split at h
      · rename_i hv
        simp only [xs_eq] at h
        have K := hk' _ _ h
        refine ⟨K.1, fun H locs ls ρ hag hn hP hD hS hl => ?_⟩
        refine va_put (D := (dC, dI)) (v := dv ρ v) X.1.1 X.1.2.1 X.1.2.2.2.2 hin ty0 hty hnm X.1.2.2.2.1 X.2.2.2.1.1 hP hD hS h0 (dW_get hw) hc kf hk (X.1.2.2.2.2 _ hlink) (fun _ z => z) hfin (hty kf hk) (hck v ρ hv).1 (hck v ρ hv).2 (by simpa using hlen) hd (fun H1 locs1 hP1 hD1 hS1 => ?_)
        have e1 := dW_put (ρ := ρ) (cy := cy) (w := w) (h := h0) (ci := c') (kf := kf) (fs := fs) (v := v)
        exact K.2 H1 locs1 ls ρ hag (by simpa using hn) (by dsimp only; rw [e1]; exact hP1) (by dsimp only; rw [e1]; exact hD1) hS1 hl
      · cases h
    · cases h
  · cases h
theorem ok_putF {C : String} {T : u_T} {N ci index : Nat} (hin : ∀ w ∈ u_ws C T N, w ∈ Ts) (hc : vwCl[ci]? = some (C, T, N)) (ty0 : Nat → FieldType) (hty : ∀ k, k < N → parseFieldDescriptor (T k).2.2.1 = some (ty0 k)) (hnm : ∀ a, a < N → ∀ b, b < N → a ≠ b → (T a).2.1 ≠ (T b).2.1) (kf : Nat) (hk : kf < N) (hlink : Cond.fieldLink own index (T kf).1 (T kf).2.1 (T kf).2.2.1 ∈ Ts) (hfin : (T kf).2.2.2 = true) (hdecl : (T kf).1 = own) {ck : Value → Bool} (hck : ckOk (ty0 kf) ck) (hd : decode cc pc = .ok (.putfield index, 3)) : mOk kn cc own nL Ts D ret true pc (a_put ci kf ck (pc + 3)) := by
  intro p l e R s m args below meth c dC dI cy A ρ0 n0 Qc Q r X k hk' ss h
  obtain ⟨lv, st, w, nc, ns⟩ := ss
  unfold a_put at h
  split at h
  · rename_i v h0 st' hs
    dsimp only at hs
    subst hs
    split at h
    · rename_i c' fs hw
      rw [xg_eq] at hw
      split at h
      case h_2 => cases h
      rename_i e'
      have e' := Nat.eq_of_beq_eq_true e'
      subst e'
      split at h
      case h_2 => cases h
      rename_i v0 hv0
      rw [xg_eq] at hv0
      have hlen : kf < fs.length := (List.getElem?_eq_some_iff.mp hv0).1
      split at h
      · rename_i hv
        simp only [xs_eq] at h
        have K := hk' _ _ h
        refine ⟨K.1, fun H locs ls ρ hag hn hP hD hS hl => ?_⟩
        refine va_putF (D := (dC, dI)) (v := dv ρ v) X.1.1 X.1.2.1 X.1.2.2.2.2 hin ty0 hty hnm X.1.2.2.2.1 X.2.2.2.1.1 hP hD hS h0 (dW_get hw) hc kf hk (X.1.2.2.2.2 _ hlink) (fun _ z => z) hfin (X.2.2.2.2.2.2.2.1 rfl) hdecl (hty kf hk) (hck v ρ hv).1 (hck v ρ hv).2 (by simpa using hlen) hd (fun H1 locs1 hP1 hD1 hS1 => ?_)
        have e1 := dW_put (ρ := ρ) (cy := cy) (w := w) (h := h0) (ci := c') (kf := kf) (fs := fs) (v := v)
        exact K.2 H1 locs1 ls ρ hag (by simpa using hn) (by dsimp only; rw [e1]; exact hP1) (by dsimp only; rw [e1]; exact hD1) hS1 hl
      · cases h
    · cases h
  · cases h
end OKF
-- ===== arrays =====
/-- an element of an array of ints -/
def dq (v : Value) : Value := match v with
  | .int x => .int x
  | .float u => .float u
  | _ => .int 0
theorem dv_dq (ρ : Nat → Nat) (v : Value) : dv ρ (dq v) = .int (di ρ v) := by cases v <;> rfl
def iq (v : Value) : Bool := match v with
  | .int _ => true
  | .float _ => true
  | _ => false
theorem dv_iq (ρ : Nat → Nat) {v : Value} (h : iq v = true) : dv ρ v = .int (di ρ v) := by cases v <;> first | rfl | cases h
theorem di_set {ρ : Nat → Nat} {vs : List Value} {i : Nat} {v : Value} (h : i < vs.length) : (fun j => di ρ ((vs.set i v).getD j .null)) = upd (fun j => di ρ (vs.getD j .null)) i (di ρ v) := by
  funext j
  by_cases e : j = i
  · subst e
    simp [upd, List.getD, h]
  · have e2 : ¬ i = j := fun z => e z.symm
    simp [upd, List.getD, e, e2]
theorem dl_set {vs : List Value} {i : Nat} {x : Int64} (h : i < vs.length) : (fun j => dl ((vs.set i (.long x)).getD j .null)) = vp_updL (fun j => dl (vs.getD j .null)) i x := by
  funext j
  by_cases e : j = i
  · subst e
    simp [vp_updL, List.getD, h, dl]
  · have e2 : ¬ i = j := fun z => e z.symm
    simp [vp_updL, List.getD, e, e2]
theorem dr_set {ρ : Nat → Nat} {vs : List Value} {i x : Nat} (h : i < vs.length) : (fun j => dr ρ ((vs.set i (.ref x)).getD j .null)) = va_up (fun j => dr ρ (vs.getD j .null)) i (some (ρ x)) := by
  funext j
  by_cases e : j = i
  · subst e
    simp [va_up, List.getD, h, dr]
  · have e2 : ¬ i = j := fun z => e z.symm
    simp [va_up, List.getD, e, e2]
/-- an element of an array of references -/
def nz (v : Value) : Value := match v with
  | .ref k => .ref k
  | _ => .null
theorem nz_ok (ρ : Nat → Nat) (v : Value) : va_rf (dr ρ v) = dv ρ (nz v) := by cases v <;> rfl
def a_iald (np : Nat) : sA := fun k ss => match ss.2.1 with
  | .int i :: .ref h :: st => match xg ss.2.2.1 h with
    | some (.inl (1, vs)) => match Nat.blt (ixN i) 2147483648 with
      | true => match xg vs (ixN i) with
        | some v => k np (ss.1, dq v :: st, ss.2.2)
        | none => none
      | false => none
    | some _ => none
    | none => match Nat.blt (ixN i) 2147483648 with
      | true => match xg (stV h) (ixN i) with
        | some v => k np (ss.1, .int v :: st, ss.2.2)
        | none => none
      | false => none
  | _ => none
def a_iast (np : Nat) : sA := fun k ss => match ss.2.1 with
  | x :: .int i :: .ref h :: st => match iq x with
    | true => match xg ss.2.2.1 h with
      | some (.inl (1, vs)) => match Nat.blt (ixN i) 2147483648 with
        | true => match xg vs (ixN i) with
          | some _ => k np (ss.1, st, xs ss.2.2.1 h (.inl (1, xs vs (ixN i) x)), ss.2.2.2)
          | none => none
        | false => none
      | _ => none
    | false => none
  | _ => none
def a_bald (np : Nat) : sA := fun k ss => match ss.2.1 with
  | .int i :: .ref h :: st => match xg ss.2.2.1 h with
    | some (.inl (0, vs)) => match Nat.blt (ixN i) 2147483648 with
      | true => match xg vs (ixN i) with
        | some v => k np (ss.1, dq v :: st, ss.2.2)
        | none => none
      | false => none
    | some (.inl (3, vs)) => match Nat.blt (ixN i) 2147483648 with
      | true => match xg vs (ixN i) with
        | some v => k np (ss.1, dq v :: st, ss.2.2)
        | none => none
      | false => none
    | _ => none
  | _ => none
def a_bast (np : Nat) : sA := fun k ss => match ss.2.1 with
  | .int x :: .int i :: .ref h :: st => match xg ss.2.2.1 h with
    | some (.inl (0, vs)) => match Nat.blt (ixN i) 2147483648 with
      | true => match xg vs (ixN i) with
        | some _ => k np (ss.1, st, xs ss.2.2.1 h (.inl (0, xs vs (ixN i) (.int (vp_nar .byte x)))), ss.2.2.2)
        | none => none
      | false => none
    | some (.inl (3, vs)) => match Nat.blt (ixN i) 2147483648 with
      | true => match xg vs (ixN i) with
        | some _ => k np (ss.1, st, xs ss.2.2.1 h (.inl (3, xs vs (ixN i) (.int (vp_nar .boolean x)))), ss.2.2.2)
        | none => none
      | false => none
    | _ => none
  | _ => none
def a_lald (np : Nat) : sA := fun k ss => match ss.2.1 with
  | .int i :: .ref h :: st => match xg ss.2.2.1 h with
    | some (.inl (2, vs)) => match Nat.blt (ixN i) 2147483648 with
      | true => match xg vs (ixN i) with
        | some v => k np (ss.1, .long (dl v) :: st, ss.2.2)
        | none => none
      | false => none
    | _ => none
  | _ => none
def a_last (np : Nat) : sA := fun k ss => match ss.2.1 with
  | .long x :: .int i :: .ref h :: st => match xg ss.2.2.1 h with
    | some (.inl (2, vs)) => match Nat.blt (ixN i) 2147483648 with
      | true => match xg vs (ixN i) with
        | some _ => k np (ss.1, st, xs ss.2.2.1 h (.inl (2, xs vs (ixN i) (.long x))), ss.2.2.2)
        | none => none
      | false => none
    | _ => none
  | _ => none
def a_alen (np : Nat) : sA := fun k ss => match ss.2.1 with
  | .ref h :: st => match xg ss.2.2.1 h with
    | some (.inl (t, vs)) => match Nat.blt t 7 with
      | true => k np (ss.1, .int (Int32.ofNat (xl vs)) :: st, ss.2.2)
      | false => none
    | _ => none
  | _ => none
theorem mT_get (cy : Nat → ClassId) {t : Nat} (h : t < 7) : ∃ ty, (mT cy)[t]? = some (cy t, ty) := by
  match t, h with
  | 0, _ => exact ⟨_, rfl⟩
  | 1, _ => exact ⟨_, rfl⟩
  | 2, _ => exact ⟨_, rfl⟩
  | 3, _ => exact ⟨_, rfl⟩
  | 4, _ => exact ⟨_, rfl⟩
  | 5, _ => exact ⟨_, rfl⟩
  | 6, _ => exact ⟨_, rfl⟩
section OKA
variable {kn : sKn} {cc : ByteArray} {own : String} {nL : Nat} {Ts : List Cond} {D : Nat} {ret : Option FieldType} {ini : Bool} {pc : Nat}
theorem ok_alen (hd : decode cc pc = .ok (.arraylength, 1)) : mOk kn cc own nL Ts D ret ini pc (a_alen (pc + 1)) := by
  intro p l e R s m args below meth c dC dI cy A ρ0 n0 Qc Q r X k hk ss h
  obtain ⟨lv, st, w, nc, ns⟩ := ss
  unfold a_alen at h
  split at h
  · rename_i h0 st' hs
    dsimp only at hs
    subst hs
    split at h
    · rename_i t vs hw
      rw [xg_eq] at hw
      split at h
      · rename_i ht
        have ht := Nat.blt_eq.mp ht
        rw [xl_eq] at h
        have K := hk _ _ h
        obtain ⟨ty, hty⟩ := mT_get cy ht
        exact ⟨K.1, fun H locs ls ρ hag hn hP hD hS hl => va_alen X.1.1 X.1.2.1 X.2.2.2.1.1 hP h0 t (dW_get hw) hty rfl hd (K.2 H locs ls ρ hag hn hP hD hS hl)⟩
      · cases h
    · cases h
  · cases h
theorem ok_iald (hd : decode cc pc = .ok (.iaload, 1)) : mOk kn cc own nL Ts D ret ini pc (a_iald (pc + 1)) := by
  intro p l e R s m args below meth c dC dI cy A ρ0 n0 Qc Q r X k hk ss h
  obtain ⟨lv, st, w, nc, ns⟩ := ss
  unfold a_iald at h
  split at h
  · rename_i i h0 st' hs
    dsimp only at hs
    subst hs
    split at h
    · rename_i vs hw
      rw [xg_eq] at hw
      split at h
      case h_2 => cases h
      rename_i hb
      split at h
      case h_2 => cases h
      rename_i v hv
      obtain ⟨hin, hlt, hv⟩ := ixN_in (Nat.blt_eq.mp hb) hv
      have K := hk _ _ h
      refine ⟨K.1, fun H locs ls ρ hag hn hP hD hS hl => va_iald X.1.1 X.1.2.1 X.2.2.2.1.1 hP h0 1 (dW_get hw) rfl hin hd ?_⟩
      have G := K.2 H locs ls ρ hag hn hP hD hS hl
      dsimp only [List.map] at G ⊢
      rw [show vs.getD i.toNatClampNeg .null = v from by simp [List.getD, hv], ← dv_dq]
      exact G
    · cases h
    · split at h
      case h_2 => cases h
      rename_i hb
      split at h
      case h_2 => cases h
      rename_i v hv
      obtain ⟨hin, hlt, hv⟩ := ixN_in (Nat.blt_eq.mp hb) hv
      · have K := hk _ _ h
        have hgd : (stV h0).getD i.toNatClampNeg 0 = v := by simp [List.getD, hv]
        by_cases h1 : h0 = 1000000
        · subst h1
          exact ⟨K.1, fun H locs ls ρ hag hn hP hD hS hl => by
            have e0 : ρ 1000000 = ρ0 1000000 := hag _ (Or.inr (by decide))
            have G := va_ti (t := ρ0 1000000) X.1.1 X.1.2.1 X.2.2.2.1.2.2.2.1 hS (i := i) hin (by rw [← hgd]; rfl) hd (K.2 H locs ls ρ hag hn hP hD hS hl)
            show W p l e R s m args below meth c H locs nc ns _ (F0 m pc ls (.int i :: .ref (ρ 1000000) :: st'.map (dv ρ)))
            rw [e0]
            exact G⟩
        · by_cases h2 : h0 = 1000001
          · subst h2
            exact ⟨K.1, fun H locs ls ρ hag hn hP hD hS hl => by
              have e0 : ρ 1000001 = ρ0 1000001 := hag _ (Or.inr (by decide))
              have G := va_ti (t := ρ0 1000001) X.1.1 X.1.2.1 X.2.2.2.1.2.2.2.2.2.1 hS (i := i) hin (by rw [← hgd]; rfl) hd (K.2 H locs ls ρ hag hn hP hD hS hl)
              show W p l e R s m args below meth c H locs nc ns _ (F0 m pc ls (.int i :: .ref (ρ 1000001) :: st'.map (dv ρ)))
              rw [e0]
              exact G⟩
          · have e3 : stV h0 = [] := by
              unfold stV
              split
              · exact absurd rfl h1
              · exact absurd rfl h2
              · rfl
            rw [e3] at hlt
            exact absurd hlt (Nat.not_lt_zero _)
  · cases h
theorem ok_iast (hd : decode cc pc = .ok (.iastore, 1)) : mOk kn cc own nL Ts D ret ini pc (a_iast (pc + 1)) := by
  intro p l e R s m args below meth c dC dI cy A ρ0 n0 Qc Q r X k hk ss h
  obtain ⟨lv, st, w, nc, ns⟩ := ss
  unfold a_iast at h
  split at h
  · rename_i x i h0 st' hs
    dsimp only at hs
    subst hs
    split at h
    case h_2 => cases h
    rename_i hx
    split at h
    · rename_i vs hw
      rw [xg_eq] at hw
      split at h
      case h_2 => cases h
      rename_i hb
      split at h
      case h_2 => cases h
      rename_i v0 hv0
      obtain ⟨hin, hlt, hv⟩ := ixN_in (Nat.blt_eq.mp hb) hv0
      · simp only [xs_eq, ← (ixN_ok (Nat.blt_eq.mp hb)).2] at h
        have K := hk _ _ h
        refine ⟨K.1, fun H locs ls ρ hag hn hP hD hS hl => ?_⟩
        show W p l e R s m args below meth c H locs nc ns _ (F0 m pc ls (dv ρ x :: .int i :: .ref (ρ h0) :: st'.map (dv ρ)))
        rw [dv_iq ρ hx]
        refine va_iast X.1.1 X.1.2.1 X.2.2.2.1.1 hP hD hS h0 1 (dW_get hw) rfl hin hd (fun H1 locs1 hP1 hD1 hS1 => ?_)
        have e1 : dW ρ cy (w.set h0 (.inl (1, vs.set i.toNatClampNeg x))) = (dW ρ cy w).set h0 (ρ h0, .inl (cy 1, vs.length, .inl (upd (fun j => di ρ (vs.getD j .null)) i.toNatClampNeg (di ρ x)))) := by
          rw [dW_set, ← di_set hlt]
          simp [dE, dA]
        exact K.2 H1 locs1 ls ρ hag (by simpa using hn) (by dsimp only; rw [e1]; exact hP1) (by dsimp only; rw [e1]; exact hD1) hS1 hl
    · cases h
  · cases h
theorem ok_bald (hd : decode cc pc = .ok (.baload, 1)) : mOk kn cc own nL Ts D ret ini pc (a_bald (pc + 1)) := by
  intro p l e R s m args below meth c dC dI cy A ρ0 n0 Qc Q r X k hk ss h
  obtain ⟨lv, st, w, nc, ns⟩ := ss
  unfold a_bald at h
  split at h
  · rename_i i h0 st' hs
    dsimp only at hs
    subst hs
    split at h
    · rename_i vs hw
      rw [xg_eq] at hw
      split at h
      case h_2 => cases h
      rename_i hb
      split at h
      case h_2 => cases h
      rename_i v hv
      obtain ⟨hin, hlt, hv⟩ := ixN_in (Nat.blt_eq.mp hb) hv
      have K := hk _ _ h
      refine ⟨K.1, fun H locs ls ρ hag hn hP hD hS hl => va_bald X.1.1 X.1.2.1 X.2.2.2.1.1 hP h0 0 (dW_get hw) rfl hin hd ?_⟩
      have G := K.2 H locs ls ρ hag hn hP hD hS hl
      dsimp only [List.map] at G ⊢
      rw [show vs.getD i.toNatClampNeg .null = v from by simp [List.getD, hv], ← dv_dq]
      exact G
    · rename_i vs hw
      rw [xg_eq] at hw
      split at h
      case h_2 => cases h
      rename_i hb
      split at h
      case h_2 => cases h
      rename_i v hv
      obtain ⟨hin, hlt, hv⟩ := ixN_in (Nat.blt_eq.mp hb) hv
      have K := hk _ _ h
      refine ⟨K.1, fun H locs ls ρ hag hn hP hD hS hl => va_zald X.1.1 X.1.2.1 X.2.2.2.1.1 hP h0 3 (dW_get hw) rfl hin hd ?_⟩
      have G := K.2 H locs ls ρ hag hn hP hD hS hl
      dsimp only [List.map] at G ⊢
      rw [show vs.getD i.toNatClampNeg .null = v from by simp [List.getD, hv], ← dv_dq]
      exact G
    · cases h
  · cases h
theorem ok_bast (hd : decode cc pc = .ok (.bastore, 1)) : mOk kn cc own nL Ts D ret ini pc (a_bast (pc + 1)) := by
  intro p l e R s m args below meth c dC dI cy A ρ0 n0 Qc Q r X k hk ss h
  obtain ⟨lv, st, w, nc, ns⟩ := ss
  unfold a_bast at h
  split at h
  · rename_i x i h0 st' hs
    dsimp only at hs
    subst hs
    split at h
    · rename_i vs hw
      rw [xg_eq] at hw
      split at h
      case h_2 => cases h
      rename_i hb
      split at h
      case h_2 => cases h
      rename_i v0 hv0
      obtain ⟨hin, hlt, hv⟩ := ixN_in (Nat.blt_eq.mp hb) hv0
      · simp only [xs_eq, ← (ixN_ok (Nat.blt_eq.mp hb)).2] at h
        have K := hk _ _ h
        refine ⟨K.1, fun H locs ls ρ hag hn hP hD hS hl => ?_⟩
        refine va_bast X.1.1 X.1.2.1 X.2.2.2.1.1 hP hD hS h0 0 (dW_get hw) rfl hin hd (fun H1 locs1 hP1 hD1 hS1 => ?_)
        have e1 : dW ρ cy (w.set h0 (.inl (0, vs.set i.toNatClampNeg (.int (vp_nar .byte x))))) = (dW ρ cy w).set h0 (ρ h0, .inl (cy 0, vs.length, .inl (upd (fun j => di ρ (vs.getD j .null)) i.toNatClampNeg (vp_nar .byte x)))) := by
          rw [dW_set, ← (show (fun j => di ρ ((vs.set i.toNatClampNeg (.int (vp_nar .byte x))).getD j .null)) = upd (fun j => di ρ (vs.getD j .null)) i.toNatClampNeg (vp_nar .byte x) from di_set hlt)]
          simp [dE, dA]
        exact K.2 H1 locs1 ls ρ hag (by simpa using hn) (by dsimp only; rw [e1]; exact hP1) (by dsimp only; rw [e1]; exact hD1) hS1 hl
    · rename_i vs hw
      rw [xg_eq] at hw
      split at h
      case h_2 => cases h
      rename_i hb
      split at h
      case h_2 => cases h
      rename_i v0 hv0
      obtain ⟨hin, hlt, hv⟩ := ixN_in (Nat.blt_eq.mp hb) hv0
      · simp only [xs_eq, ← (ixN_ok (Nat.blt_eq.mp hb)).2] at h
        have K := hk _ _ h
        refine ⟨K.1, fun H locs ls ρ hag hn hP hD hS hl => ?_⟩
        refine va_zast X.1.1 X.1.2.1 X.2.2.2.1.1 hP hD hS h0 3 (dW_get hw) rfl hin hd (fun H1 locs1 hP1 hD1 hS1 => ?_)
        have e1 : dW ρ cy (w.set h0 (.inl (3, vs.set i.toNatClampNeg (.int (vp_nar .boolean x))))) = (dW ρ cy w).set h0 (ρ h0, .inl (cy 3, vs.length, .inl (upd (fun j => di ρ (vs.getD j .null)) i.toNatClampNeg (vp_nar .boolean x)))) := by
          rw [dW_set, ← (show (fun j => di ρ ((vs.set i.toNatClampNeg (.int (vp_nar .boolean x))).getD j .null)) = upd (fun j => di ρ (vs.getD j .null)) i.toNatClampNeg (vp_nar .boolean x) from di_set hlt)]
          simp [dE, dA]
        exact K.2 H1 locs1 ls ρ hag (by simpa using hn) (by dsimp only; rw [e1]; exact hP1) (by dsimp only; rw [e1]; exact hD1) hS1 hl
    · cases h
  · cases h
theorem ok_lald (hd : decode cc pc = .ok (.laload, 1)) : mOk kn cc own nL Ts D ret ini pc (a_lald (pc + 1)) := by
  intro p l e R s m args below meth c dC dI cy A ρ0 n0 Qc Q r X k hk ss h
  obtain ⟨lv, st, w, nc, ns⟩ := ss
  unfold a_lald at h
  split at h
  · rename_i i h0 st' hs
    dsimp only at hs
    subst hs
    split at h
    · rename_i vs hw
      rw [xg_eq] at hw
      split at h
      case h_2 => cases h
      rename_i hb
      split at h
      case h_2 => cases h
      rename_i v hv
      obtain ⟨hin, hlt, hv⟩ := ixN_in (Nat.blt_eq.mp hb) hv
      have K := hk _ _ h
      refine ⟨K.1, fun H locs ls ρ hag hn hP hD hS hl => va_lald X.1.1 X.1.2.1 X.2.2.2.1.1 hP h0 2 (dW_get hw) rfl hin hd ?_⟩
      dsimp only
      rw [show vs.getD i.toNatClampNeg .null = v from by simp [List.getD, hv]]
      exact K.2 H locs ls ρ hag hn hP hD hS hl
    · cases h
  · cases h
theorem ok_last (hd : decode cc pc = .ok (.lastore, 1)) : mOk kn cc own nL Ts D ret ini pc (a_last (pc + 1)) := by
  intro p l e R s m args below meth c dC dI cy A ρ0 n0 Qc Q r X k hk ss h
  obtain ⟨lv, st, w, nc, ns⟩ := ss
  unfold a_last at h
  split at h
  · rename_i x i h0 st' hs
    dsimp only at hs
    subst hs
    split at h
    · rename_i vs hw
      rw [xg_eq] at hw
      split at h
      case h_2 => cases h
      rename_i hb
      split at h
      case h_2 => cases h
      rename_i v0 hv0
      obtain ⟨hin, hlt, hv⟩ := ixN_in (Nat.blt_eq.mp hb) hv0
      · simp only [xs_eq, ← (ixN_ok (Nat.blt_eq.mp hb)).2] at h
        have K := hk _ _ h
        refine ⟨K.1, fun H locs ls ρ hag hn hP hD hS hl => ?_⟩
        refine va_last X.1.1 X.1.2.1 X.2.2.2.1.1 hP hD hS h0 2 (dW_get hw) rfl hin hd (fun H1 locs1 hP1 hD1 hS1 => ?_)
        have e1 : dW ρ cy (w.set h0 (.inl (2, vs.set i.toNatClampNeg (.long x)))) = (dW ρ cy w).set h0 (ρ h0, .inl (cy 2, vs.length, .inr (.inl (vp_updL (fun j => dl (vs.getD j .null)) i.toNatClampNeg x)))) := by
          rw [dW_set, ← dl_set hlt]
          simp [dE, dA]
        exact K.2 H1 locs1 ls ρ hag (by simpa using hn) (by dsimp only; rw [e1]; exact hP1) (by dsimp only; rw [e1]; exact hD1) hS1 hl
    · cases h
  · cases h
end OKA
end
end
section
noncomputable section
-- ===== allocation =====
def wfV (n : Nat) (v : Value) : Bool := match v with
  | .ref k => Nat.blt k n || Nat.ble 1000000 k
  | _ => true
def wfC (n : Nat) (x : sC) : Bool := match x with
  | .inl (t, vs) => match Nat.blt t 4 with
    | true => true
    | false => xa (wfV n) vs
  | .inr (_, fs) => xa (wfV n) fs
/-- no number of a cell that is not there -/
def wfD (n : Nat) (ss : sS) : Bool := match Nat.blt n 1000000 with
  | true => match xa (fun q => wfV n q.2) ss.1 with
    | true => match xa (wfV n) ss.2.1 with
      | true => xa (wfC n) ss.2.2.1
      | false => false
    | false => false
  | false => false
def wfS (ss : sS) : Bool := wfD (xl ss.2.2.1) ss
theorem dv_ag {n : Nat} {ρ ρ' : Nat → Nat} (h : ag n ρ' ρ) {v : Value} (hv : wfV n v = true) : dv ρ' v = dv ρ v := by
  cases v with
  | ref k =>
    have hv : (Nat.blt k n || Nat.ble 1000000 k) = true := hv
    simp only [Bool.or_eq_true, Nat.blt_eq, Nat.ble_eq] at hv
    show Value.ref (ρ' k) = Value.ref (ρ k)
    rw [h k hv]
  | float u =>
    show Value.int (vi ρ' u) = Value.int (vi ρ u)
    rw [vi_ag (fun k hk => h k (Or.inr hk))]
  | _ => rfl
theorem dv_agL {n : Nat} {ρ ρ' : Nat → Nat} (h : ag n ρ' ρ) {vs : List Value} (hv : vs.all (wfV n) = true) : vs.map (dv ρ') = vs.map (dv ρ) := by
  apply List.map_congr_left
  intro v hm
  exact dv_ag h (List.all_eq_true.mp hv v hm)
theorem dL_ag {n : Nat} {ρ ρ' : Nat → Nat} (h : ag n ρ' ρ) {lv : List (Nat × Value)} (hv : lv.all (fun q => wfV n q.2) = true) : dL ρ' lv = dL ρ lv := by
  apply List.map_congr_left
  intro q hm
  have := List.all_eq_true.mp hv q hm
  rw [dv_ag h this]
theorem dr_ag {n : Nat} {ρ ρ' : Nat → Nat} (h : ag n ρ' ρ) {v : Value} (hv : wfV n v = true) : dr ρ' v = dr ρ v := by
  cases v with
  | ref k =>
    have hv : (Nat.blt k n || Nat.ble 1000000 k) = true := hv
    simp only [Bool.or_eq_true, Nat.blt_eq, Nat.ble_eq] at hv
    show some (ρ' k) = some (ρ k)
    rw [h k hv]
  | _ => rfl
theorem di_ag {n : Nat} {ρ ρ' : Nat → Nat} (h : ag n ρ' ρ) (v : Value) : di ρ' v = di ρ v := by
  cases v with
  | float u => exact vi_ag (fun k hk => h k (Or.inr hk)) u
  | _ => rfl
theorem dA_agI {n : Nat} {ρ ρ' : Nat → Nat} (h : ag n ρ' ρ) (vs : List Value) : (fun j => di ρ' (vs.getD j .null)) = (fun j => di ρ (vs.getD j .null)) := funext (fun j => di_ag h _)
theorem dE_ag {n : Nat} {ρ ρ' : Nat → Nat} {cy : Nat → ClassId} (h : ag n ρ' ρ) {x : sC} (hx : wfC n x = true) : dE ρ' cy x = dE ρ cy x := by
  cases x with
  | inl a =>
    obtain ⟨t, vs⟩ := a
    have hx : (match Nat.blt t 4 with
      | true => true
      | false => xa (wfV n) vs) = true := hx
    show Sum.inl (dA ρ' cy t vs) = Sum.inl (dA ρ cy t vs)
    congr 1
    match t, hx with
    | 0, _ => simp only [dA, dA_agI h]
    | 1, _ => simp only [dA, dA_agI h]
    | 2, _ => rfl
    | 3, _ => simp only [dA, dA_agI h]
    | t + 4, hx =>
      have hv : vs.all (wfV n) = true := by
        have e : Nat.blt (t + 4) 4 = false := by
          rw [Bool.eq_false_iff]
          intro z
          have := Nat.blt_eq.mp z
          omega
        rw [e, xa_eq] at hx
        exact hx
      show (cy (t + 4), vs.length, Sum.inr (Sum.inr (Sum.inr (Sum.inr (fun j => dr ρ' (vs.getD j .null)))))) = (cy (t + 4), vs.length, Sum.inr (Sum.inr (Sum.inr (Sum.inr (fun j => dr ρ (vs.getD j .null))))))
      have ef : (fun j => dr ρ' (vs.getD j .null)) = (fun j => dr ρ (vs.getD j .null)) := by
        funext j
        apply dr_ag h
        by_cases hj : j < vs.length
        · have e : vs.getD j .null = vs[j] := by simp [List.getD, hj]
          rw [e]
          exact List.all_eq_true.mp hv _ (List.getElem_mem hj)
        · have e : vs.getD j .null = .null := by simp [List.getD, hj]
          rw [e]
          rfl
      rw [ef]
  | inr o =>
    obtain ⟨ci, fs⟩ := o
    show Sum.inr (ci, fs.map (dv ρ')) = Sum.inr (ci, fs.map (dv ρ))
    rw [dv_agL h ((xa_eq _ _).symm.trans hx)]
theorem dW_ag {n : Nat} {ρ ρ' : Nat → Nat} {cy : Nat → ClassId} (h : ag n ρ' ρ) {w : sW} (hl : w.length ≤ n) (hw : w.all (wfC n) = true) : dW ρ' cy w = dW ρ cy w := by
  apply List.ext_getElem?
  intro k
  cases hk : w[k]? with
  | none => simp [dW, hk]
  | some x =>
    rw [dW_get hk, dW_get hk, dE_ag h (List.all_eq_true.mp hw x (List.mem_of_getElem? hk)), h k (Or.inl (Nat.lt_of_lt_of_le (List.getElem?_eq_some_iff.mp hk).1 hl))]
/-- the naming with one cell more -/
def ρup (ρ : Nat → Nat) (n q : Nat) : Nat → Nat := fun k => if k = n then q else ρ k
theorem ag_up {ρ : Nat → Nat} {n q : Nat} (h : n < 1000000) : ag n (ρup ρ n q) ρ := by
  intro k hk
  have : ¬ k = n := by omega
  simp [ρup, this]
theorem ag_tr {n m : Nat} {ρ1 ρ2 ρ3 : Nat → Nat} (h : ag m ρ1 ρ2) (h2 : ag n ρ2 ρ3) (hnm : n ≤ m) : ag n ρ1 ρ3 := by
  intro k hk
  rw [h k (hk.elim (fun z => Or.inl (Nat.lt_of_lt_of_le z hnm)) Or.inr), h2 k hk]
theorem dW_new {ρ : Nat → Nat} {cy : Nat → ClassId} {w : sW} {q : Nat} {x : sC} (hl : w.length < 1000000) (hw : w.all (wfC w.length) = true) (hx : wfC w.length x = true) : dW (ρup ρ w.length q) cy (w ++ [x]) = dW ρ cy w ++ [(q, dE ρ cy x)] := by
  have e : dW (ρup ρ w.length q) cy (w ++ [x]) = dW (ρup ρ w.length q) cy w ++ [(ρup ρ w.length q w.length, dE (ρup ρ w.length q) cy x)] := by
    simp [dW]
  rw [e, dW_ag (ag_up hl) (Nat.le_refl _) hw, dE_ag (ag_up hl) hx]
  simp [ρup]
def a_new (ci np : Nat) (fs : List Value) : sA := fun k ss => if wfS ss = true then k np (ss.1, .ref (xl ss.2.2.1) :: ss.2.1, ss.2.2.1 ++ [.inr (ci, fs)], ss.2.2.2.1 + 1, ss.2.2.2.2 + fs.length) else none
/-- what a new array of a kind holds -/
def nuV (t : Nat) : Value := match t with
  | 2 => .long 0
  | 0 => .int 0
  | 1 => .int 0
  | 3 => .int 0
  | _ => .null
def a_newa (t np : Nat) : sA := fun k ss => match ss.2.1 with
  | .int n :: st => if wfS (ss.1, st, ss.2.2) = true ∧ ¬ n < 0 ∧ n.toNatClampNeg ≤ 100000 then k np (ss.1, .ref (xl ss.2.2.1) :: st, ss.2.2.1 ++ [.inl (t, List.replicate n.toNatClampNeg (nuV t))], ss.2.2.2.1 + 1, ss.2.2.2.2 + n.toNatClampNeg) else none
  | _ => none
theorem wfS_p {ss : sS} (h : wfS ss = true) : ss.2.2.1.length < 1000000 ∧ ss.1.all (fun q => wfV ss.2.2.1.length q.2) = true ∧ ss.2.1.all (wfV ss.2.2.1.length) = true ∧ ss.2.2.1.all (wfC ss.2.2.1.length) = true := by
  unfold wfS wfD at h
  simp only [xa_eq, xl_eq] at h
  split at h
  case h_2 => cases h
  rename_i h1
  split at h
  case h_2 => cases h
  rename_i h2
  split at h
  case h_2 => cases h
  rename_i h3
  exact ⟨Nat.blt_eq.mp h1, h2, h3, h⟩
theorem va_RA_one {U : State} {c1 c2 : ClassId} {ty : FieldType} (h1 : va_RA U c1 ty) (h2 : va_RA U c2 ty) : c1 = c2 := by
  cases ty with
  | object C =>
    obtain ⟨_, _, _, _, _, e1⟩ := h1
    obtain ⟨_, _, _, _, _, e2⟩ := h2
    exact Option.some.inj (e1.symm.trans e2)
  | _ => exact Option.some.inj (Eq.trans (Eq.symm h1) h2)
section OKN
variable {kn : sKn} {cc : ByteArray} {own : String} {nL : Nat} {Ts : List Cond} {D : Nat} {ret : Option FieldType} {ini : Bool} {pc : Nat}
theorem ok_new {C : String} {T : u_T} {N ci index : Nat} (hin : ∀ w ∈ u_ws C T N, w ∈ Ts) (hc : vwCl[ci]? = some (C, T, N)) (ty0 : Nat → FieldType) (hty : ∀ k, k < N → parseFieldDescriptor (T k).2.2.1 = some (ty0 k)) (hlink : Cond.classLink own index C ∈ Ts) (hinst : Cond.instantiable C N ∈ Ts) (hini : Cond.initialized C ∈ Ts) {fs : List Value} (hfs : ∀ j, j < N → defaultValue (ty0 j) = vp_V fs j) (hl : fs.length = N) (hr : fs.all (fun v => match v with | .ref _ => false | .float _ => false | _ => true) = true) (hd : decode cc pc = .ok (.new index, 3)) : mOk kn cc own nL Ts D ret ini pc (a_new ci (pc + 3) fs) := by
  intro p l e R s m args below meth c dC dI cy A ρ0 n0 Qc Q r X k hk ss h
  obtain ⟨lv, st, w, nc, ns⟩ := ss
  unfold a_new at h
  rw [xl_eq] at h
  split at h
  · rename_i hwf
    obtain ⟨w1, w2, w3, w4⟩ := wfS_p hwf
    dsimp only at w1 w2 w3 w4 h
    have K := hk _ _ h
    have hb := K.1
    dsimp only at hb
    have hnr : ∀ ρ : Nat → Nat, fs.map (dv ρ) = fs := by
      intro ρ
      conv => rhs; rw [← List.map_id fs]
      apply List.map_congr_left
      intro v hm
      have := List.all_eq_true.mp hr v hm
      cases v <;> first | rfl | cases this
    have hwx : wfC w.length (.inr (ci, fs)) = true := by
      show xa (wfV w.length) fs = true
      rw [xa_eq, List.all_eq_true]
      intro v hm
      have := List.all_eq_true.mp hr v hm
      cases v <;> first | rfl | cases this
    refine ⟨by dsimp only; omega, fun H locs ls ρ hag hn hP hD hS hl' => ?_⟩
    refine va_new (D := (dC, dI)) (ci := ci) (fs := fs) X.1.1 X.1.2.1 X.1.2.2.2.2 hin ty0 hty X.1.2.2.2.1 (X.1.2.2.2.2 _ hlink) (X.1.2.2.2.2 _ hinst) (X.1.2.2.2.2 _ hini) X.2.2.2.1.1 hP hD hS X.2.2.2.2.1 hc hfs (Nat.le_trans hb.1 X.2.2.2.2.2.1.1) (by have := X.2.2.2.2.2.1.2; dsimp only; omega) hd (fun q H1 hP1 hD1 hS1 => ?_)
    have e1 : dW (ρup ρ w.length q) cy (w ++ [.inr (ci, fs)]) = dW ρ cy w ++ [(q, .inr (ci, fs))] := by
      rw [dW_new w1 w4 hwx]
      simp only [dE, hnr]
    have K2 := K.2 H1 locs ls (ρup ρ w.length q) (ag_tr (ag_up w1) hag hn) (by dsimp only; rw [List.length_append]; exact Nat.le_trans hn (Nat.le_add_right _ _)) (by dsimp only; rw [e1]; exact hP1) (by dsimp only; rw [e1]; exact hD1) hS1 (by dsimp only; rw [dL_ag (ag_up w1) w2]; exact hl')
    dsimp only at K2
    rw [List.map_cons, dv_agL (ag_up w1) w3, hl] at K2
    have e2 : dv (ρup ρ w.length q) (.ref w.length) = .ref q := by simp [dv, ρup]
    rw [e2] at K2
    exact K2
  · cases h
theorem ok_newa {atype : ArrayType} {ty : FieldType} {t : Nat} (hty : newarray.typeOf atype = ty) (ht : ∀ cy : Nat → ClassId, (mT cy)[t]? = some (cy t, ty)) (ha : ∀ (cA : ClassId) (N : Nat) (ρ : Nat → Nat) (cy : Nat → ClassId), vp_cell cA (dA ρ cy t (List.replicate N (nuV t))).2 = arrV cA N (fun _ => defaultValue ty)) (hcb : componentBytes ty ≤ 8) (hwf : ∀ n N, wfC n (.inl (t, List.replicate N (nuV t))) = true) (hlink : Cond.arrayClass ty ∈ Ts) (hd : decode cc pc = .ok (.newarray atype, 2)) : mOk kn cc own nL Ts D ret ini pc (a_newa t (pc + 2)) := by
  intro p l e R s m args below meth c dC dI cy A ρ0 n0 Qc Q r X k hk ss h
  obtain ⟨lv, st, w, nc, ns⟩ := ss
  unfold a_newa at h
  split at h
  · rename_i n st' hs
    dsimp only at hs
    subst hs
    split at h
    · rename_i hcnd
      obtain ⟨hw0, hn0, hn1⟩ := hcnd
      obtain ⟨w1, w2, w3, w4⟩ := wfS_p hw0
      dsimp only at w1 w2 w3 w4 h
      rw [xl_eq] at h
      have K := hk _ _ h
      have hb := K.1
      dsimp only at hb
      refine ⟨by dsimp only; omega, fun H locs ls ρ hag hn hP hD hS hl' => ?_⟩
      subst hty
      refine va_newa (D := (dC, dI)) (a0 := (dA ρ cy t (List.replicate n.toNatClampNeg (nuV t))).2) X.1.1 X.1.2.1 (X.1.2.2.2.2 _ hlink) rfl X.2.2.2.1.1 hP hD hS X.2.2.2.2.1 (fun cA => ha cA _ ρ cy) hn0 rfl (by have := Nat.mul_le_mul hn1 hcb; omega) (Nat.le_trans hb.1 X.2.2.2.2.2.1.1) (Nat.le_trans hb.2 X.2.2.2.2.2.1.2) hd (fun q cA H1 hK1 hP1 hD1 hS1 => ?_)
      have ec : cA = cy t := va_RA_one (hK1.2 (mT cy).length (cA, newarray.typeOf atype) (by simp)).2 (X.2.2.2.1.1.2 t _ (ht cy)).2
      subst ec
      have e1 : dW (ρup ρ w.length q) cy (w ++ [.inl (t, List.replicate n.toNatClampNeg (nuV t))]) = dW ρ cy w ++ [(q, .inl (cy t, (dA ρ cy t (List.replicate n.toNatClampNeg (nuV t))).2))] := dW_new w1 w4 (hwf _ _)
      have K2 := K.2 H1 locs ls (ρup ρ w.length q) (ag_tr (ag_up w1) hag hn) (by dsimp only; rw [List.length_append]; exact Nat.le_trans hn (Nat.le_add_right _ _)) (by dsimp only; rw [e1]; exact hP1) (by dsimp only; rw [e1]; exact hD1) hS1 (by dsimp only; rw [dL_ag (ag_up w1) w2]; exact hl')
      dsimp only at K2
      rw [List.map_cons, dv_agL (ag_up w1) w3] at K2
      have e2 : dv (ρup ρ w.length q) (.ref w.length) = .ref q := by simp [dv, ρup]
      rw [e2] at K2
      exact K2
    · cases h
  · cases h
end OKN
end
end
section
noncomputable section
-- ===== switches, constants, statics, arrays of references, arraycopy =====
def a_table (kn : sKn) (lo hi : Int) (offs : List Nat) (dflt : Nat) : sA := fun k ss => match ss.2.1 with
  | .int x :: st => if x.toInt < lo ∨ hi < x.toInt then k dflt (ss.1, st, ss.2.2) else match offs[(x.toInt - lo).toNat]? with
    | some t => k t (ss.1, st, ss.2.2)
    | none => none
  | .float u :: st => match kn.1 2 u (Int32.ofInt lo) with
    | some true => k dflt (ss.1, st, ss.2.2)
    | _ => match kn.1 4 u (Int32.ofInt hi) with
      | some true => k dflt (ss.1, st, ss.2.2)
      | _ => none
  | _ => none
/-- the jumps of a switch, by the offsets -/
def offOk (pc : Nat) (offs : Array Int) (ts : List Nat) : Prop := ∀ (j t : Nat), ts[j]? = some t → ∃ off, offs[j]? = some off ∧ (pc : Int) + off = (t : Int)
def offB (pc : Nat) (offs : List Int) (ts : List Nat) : Bool := match offs, ts with
  | o :: os, t :: r => decide ((pc : Int) + o = (t : Int)) && offB pc os r
  | [], [] => true
  | _, _ => false
theorem offB_ok {pc : Nat} : ∀ {offs : List Int} {ts : List Nat}, offB pc offs ts = true → ∀ (j t : Nat), ts[j]? = some t → ∃ off, offs[j]? = some off ∧ (pc : Int) + off = (t : Int)
  | [], [], _, j, t, h => by simp at h
  | [], _ :: _, h, _, _, _ => by simp [offB] at h
  | _ :: _, [], h, _, _, _ => by simp [offB] at h
  | o :: os, u :: r, h, j, t, hj => by
    simp only [offB, Bool.and_eq_true, decide_eq_true_eq] at h
    match j with
    | 0 =>
      simp at hj
      subst hj
      exact ⟨o, rfl, h.1⟩
    | j + 1 =>
      have := offB_ok h.2 j t (by simpa using hj)
      simpa using this
theorem offB_arr {pc : Nat} {offs : Array Int} {ts : List Nat} (h : offB pc offs.toList ts = true) : offOk pc offs ts := by
  intro j t hj
  obtain ⟨off, h1, h2⟩ := offB_ok h j t hj
  exact ⟨off, by rw [← Array.getElem?_toList]; exact h1, h2⟩
def a_look (ps : List (Int × Nat)) (dflt : Nat) : sA := fun k ss => match ss.2.1 with
  | .int x :: st => match ps.find? (fun q => q.1 == x.toInt) with
    | some q => k q.2 (ss.1, st, ss.2.2)
    | none => k dflt (ss.1, st, ss.2.2)
  | _ => none
def a_gets (h np : Nat) : sA := fun k ss => k np (ss.1, .ref h :: ss.2.1, ss.2.2)
def a_getsI (x : Int32) (np : Nat) : sA := fun k ss => k np (ss.1, .int x :: ss.2.1, ss.2.2)
def a_aald (np : Nat) : sA := fun k ss => match ss.2.1 with
  | .int i :: .ref h :: st => match xg ss.2.2.1 h with
    | some (.inl (4, vs)) => match Nat.blt (ixN i) 2147483648 with
      | true => match xg vs (ixN i) with
        | some v => k np (ss.1, nz v :: st, ss.2.2)
        | none => none
      | false => none
    | some (.inl (5, vs)) => match Nat.blt (ixN i) 2147483648 with
      | true => match xg vs (ixN i) with
        | some v => k np (ss.1, nz v :: st, ss.2.2)
        | none => none
      | false => none
    | some (.inl (6, vs)) => match Nat.blt (ixN i) 2147483648 with
      | true => match xg vs (ixN i) with
        | some v => k np (ss.1, nz v :: st, ss.2.2)
        | none => none
      | false => none
    | _ => none
  | _ => none
/-- the law's script -/
def a_slen (kn : sKn) (np : Nat) : sA := fun k ss => match ss.2.1 with
  | .ref 1000010 :: st => k np (ss.1, .int (Int32.ofNat kn.2.length) :: st, ss.2.2)
  | _ => none
def a_sld (kn : sKn) (np : Nat) : sA := fun k ss => match ss.2.1 with
  | .int i :: .ref 1000010 :: st => if i < 0 ∨ kn.2.length ≤ i.toNatClampNeg then none else match kn.2[i.toNatClampNeg]? with
    | some v => k np (ss.1, v :: st, ss.2.2)
    | none => none
  | _ => none
/-- the class of the elements of an array of references -/
def eC (t : Nat) : Nat := t + 3
def a_aast (np : Nat) : sA := fun k ss => match ss.2.1 with
  | .ref x :: .int i :: .ref h :: st => match xg ss.2.2.1 h, xg ss.2.2.1 x with
    | some (.inl (4, vs)), some (.inr (7, _)) => match Nat.blt (ixN i) 2147483648 with
      | true => match xg vs (ixN i) with
        | some _ => k np (ss.1, st, xs ss.2.2.1 h (.inl (4, xs vs (ixN i) (.ref x))), ss.2.2.2)
        | none => none
      | false => none
    | some (.inl (5, vs)), some (.inr (8, _)) => match Nat.blt (ixN i) 2147483648 with
      | true => match xg vs (ixN i) with
        | some _ => k np (ss.1, st, xs ss.2.2.1 h (.inl (5, xs vs (ixN i) (.ref x))), ss.2.2.2)
        | none => none
      | false => none
    | some (.inl (6, vs)), some (.inr (9, _)) => match Nat.blt (ixN i) 2147483648 with
      | true => match xg vs (ixN i) with
        | some _ => k np (ss.1, st, xs ss.2.2.1 h (.inl (6, xs vs (ixN i) (.ref x))), ss.2.2.2)
        | none => none
      | false => none
    | _, _ => none
  | _ => none
section OKM
variable {kn : sKn} {cc : ByteArray} {own : String} {nL : Nat} {Ts : List Cond} {D : Nat} {ret : Option FieldType} {ini : Bool} {pc : Nat}
theorem ok_table {lo hi d : Int} {offs : Array Int} {ts : List Nat} {len dflt : Nat} (hd : decode cc pc = .ok (.tableswitch d lo hi offs, len)) (ho : offB pc offs.toList ts = true) (hdf : (pc : Int) + d = (dflt : Int)) (hlo : (Int32.ofInt lo).toInt = lo) (hhi : (Int32.ofInt hi).toInt = hi) : mOk kn cc own nL Ts D ret ini pc (a_table kn lo hi ts dflt) := by
  intro p l e R s m args below meth c dC dI cy A ρ0 n0 Qc Q r X k hk ss h
  obtain ⟨lv, st, w, nc, ns⟩ := ss
  unfold a_table at h
  split at h
  · rename_i x st' hs
    dsimp only at hs
    subst hs
    split at h
    · rename_i hx
      have K := hk _ _ h
      exact ⟨K.1, fun H locs ls ρ hag hn hP hD hS hl => lv_tableOut X.1.1 X.1.2.1 hd hx hdf (K.2 H locs ls ρ hag hn hP hD hS hl)⟩
    · rename_i hx
      split at h
      · rename_i t ht
        have K := hk _ _ h
        obtain ⟨off, h1, h2⟩ := offB_arr ho _ t ht
        exact ⟨K.1, fun H locs ls ρ hag hn hP hD hS hl => lv_tableIn X.1.1 X.1.2.1 hd (fun z => hx (Or.inl z)) (fun z => hx (Or.inr z)) h1 h2 (K.2 H locs ls ρ hag hn hP hD hS hl)⟩
      · cases h
  · rename_i u st' hs
    dsimp only at hs
    subst hs
    split at h
    · rename_i hb0
      have K := hk _ _ h
      refine ⟨K.1, fun H locs ls ρ hag hn hP hD hS hl => ?_⟩
      have hb : vi ρ u < Int32.ofInt lo := of_decide_eq_true ((b_lt_d (vi ρ u) (Int32.ofInt lo)).symm.trans ((bsem_2 (vi ρ u) (Int32.ofInt lo)).symm.trans (kn_at X.2.2.2.1.2.1.2.2 hag hb0)))
      rw [Int32.lt_iff_toInt_lt, hlo] at hb
      exact lv_tableOut X.1.1 X.1.2.1 hd (Or.inl hb) hdf (K.2 H locs ls ρ hag hn hP hD hS hl)
    · split at h
      · rename_i hb0
        have K := hk _ _ h
        refine ⟨K.1, fun H locs ls ρ hag hn hP hD hS hl => ?_⟩
        have hb : Int32.ofInt hi < vi ρ u := of_decide_eq_true ((b_gt_d (vi ρ u) (Int32.ofInt hi)).symm.trans ((bsem_4 (vi ρ u) (Int32.ofInt hi)).symm.trans (kn_at X.2.2.2.1.2.1.2.2 hag hb0)))
        rw [Int32.lt_iff_toInt_lt, hhi] at hb
        exact lv_tableOut X.1.1 X.1.2.1 hd (Or.inr hb) hdf (K.2 H locs ls ρ hag hn hP hD hS hl)
      · cases h
  · cases h
theorem ok_ldc {index : Nat} {v : Int32} (hlink : Cond.constant own index v ∈ Ts) (hd : decode cc pc = .ok (.ldc index, 2)) : mOk kn cc own nL Ts D ret ini pc (a_stk (q_int v) (pc + 2)) := by
  intro p l e R s m args below meth c dC dI cy A ρ0 n0 Qc Q r X k hk ss h
  have K := hk _ _ (show k (pc + 2) (ss.1, .int v :: ss.2.1, ss.2.2) = some r from h)
  exact ⟨K.1, fun H locs ls ρ hag hn hP hD hS hl => lv_ldc X.1.1 X.1.2.1 X.1.2.2.2.1 (X.1.2.2.2.2 _ hlink) hd (K.2 H locs ls ρ hag hn hP hD hS hl)⟩
theorem ok_ldc2 {index : Nat} {v : Int64} (hlink : Cond.constantLong own index v ∈ Ts) (hd : decode cc pc = .ok (.ldc2_w index, 3)) : mOk kn cc own nL Ts D ret ini pc (a_stk (q_long v) (pc + 3)) := by
  intro p l e R s m args below meth c dC dI cy A ρ0 n0 Qc Q r X k hk ss h
  have K := hk _ _ (show k (pc + 3) (ss.1, .long v :: ss.2.1, ss.2.2) = some r from h)
  exact ⟨K.1, fun H locs ls ρ hag hn hP hD hS hl => lv_ldc2 X.1.1 X.1.2.1 X.1.2.2.2.1 (X.1.2.2.2.2 _ hlink) hd (K.2 H locs ls ρ hag hn hP hD hS hl)⟩
theorem ok_open {index : Nat} (hlink : Cond.fieldLink own index "SignedBridge" "OPEN" "[I" ∈ Ts) (hd : decode cc pc = .ok (.getstatic index, 3)) : mOk kn cc own nL Ts D ret ini pc (a_gets 1000000 (pc + 3)) := by
  intro p l e R s m args below meth c dC dI cy A ρ0 n0 Qc Q r X k hk ss h
  have K := hk _ _ h
  refine ⟨K.1, fun H locs ls ρ hag hn hP hD hS hl => ?_⟩
  have G := K.2 H locs ls ρ hag hn hP hD hS hl
  dsimp only at G
  rw [List.map_cons, show dv ρ (.ref 1000000) = .ref (ρ 1000000) from rfl, hag 1000000 (Or.inr (by decide))] at G
  exact va_gets X.1.1 X.1.2.1 X.2.2.2.1.2.2.1 hS X.1.2.2.2.1 (X.1.2.2.2.2 _ hlink) (fun _ z => z) hd G
theorem ok_openN {index : Nat} (hlink : (own, index) ∈ nestF) (hd : decode cc pc = .ok (.getstatic index, 3)) : mOk kn cc own nL Ts D ret ini pc (a_gets 1000000 (pc + 3)) := by
  intro p l e R s m args below meth c dC dI cy A ρ0 n0 Qc Q r X k hk ss h
  have K := hk _ _ h
  refine ⟨K.1, fun H locs ls ρ hag hn hP hD hS hl => ?_⟩
  have G := K.2 H locs ls ρ hag hn hP hD hS hl
  dsimp only at G
  rw [List.map_cons, show dv ρ (.ref 1000000) = .ref (ρ 1000000) from rfl, hag 1000000 (Or.inr (by decide))] at G
  exact va_getsN X.1.1 X.1.2.1 X.2.2.2.1.2.2.1 hS X.1.2.2.2.1 (va_Nw.use rfl (X.2.2.2.1.2.1.2.1.2.1 _ hlink)) (fun _ z => z) hd G
theorem ok_sets {index : Nat} (hlink : Cond.fieldLink own index "SignedBridge$Cut" "SETS" "[I" ∈ Ts) (hd : decode cc pc = .ok (.getstatic index, 3)) : mOk kn cc own nL Ts D ret ini pc (a_gets 1000001 (pc + 3)) := by
  intro p l e R s m args below meth c dC dI cy A ρ0 n0 Qc Q r X k hk ss h
  have K := hk _ _ h
  refine ⟨K.1, fun H locs ls ρ hag hn hP hD hS hl => ?_⟩
  have G := K.2 H locs ls ρ hag hn hP hD hS hl
  dsimp only at G
  rw [List.map_cons, show dv ρ (.ref 1000001) = .ref (ρ 1000001) from rfl, hag 1000001 (Or.inr (by decide))] at G
  exact va_gets X.1.1 X.1.2.1 X.2.2.2.1.2.2.2.2.1 hS X.1.2.2.2.1 (X.1.2.2.2.2 _ hlink) (fun _ z => z) hd G
theorem ok_compact {index : Nat} (hlink : Cond.fieldLink own index "java/lang/String" "COMPACT_STRINGS" "Z" ∈ Ts) (hd : decode cc pc = .ok (.getstatic index, 3)) : mOk kn cc own nL Ts D ret ini pc (a_getsI 1 (pc + 3)) := by
  intro p l e R s m args below meth c dC dI cy A ρ0 n0 Qc Q r X k hk ss h
  have K := hk _ _ h
  exact ⟨K.1, fun H locs ls ρ hag hn hP hD hS hl => va_gets X.1.1 X.1.2.1 X.2.2.2.1.2.2.2.2.2.2.1 hS X.1.2.2.2.1 (X.1.2.2.2.2 _ hlink) (fun _ z => z) hd (K.2 H locs ls ρ hag hn hP hD hS hl)⟩
theorem ok_aald (hd : decode cc pc = .ok (.aaload, 1)) : mOk kn cc own nL Ts D ret ini pc (a_aald (pc + 1)) := by
  intro p l e R s m args below meth c dC dI cy A ρ0 n0 Qc Q r X k hk ss h
  obtain ⟨lv, st, w, nc, ns⟩ := ss
  unfold a_aald at h
  split at h
  · rename_i i h0 st' hs
    dsimp only at hs
    subst hs
    split at h
    · rename_i vs hw
      rw [xg_eq] at hw
      split at h
      case h_2 => cases h
      rename_i hb
      split at h
      case h_2 => cases h
      rename_i v hv
      obtain ⟨hin, hlt, hv⟩ := ixN_in (Nat.blt_eq.mp hb) hv
      have K := hk _ _ h
      refine ⟨K.1, fun H locs ls ρ hag hn hP hD hS hl => ?_⟩
      refine va_aldq (C := RX6) X.1.1 X.1.2.1 X.2.2.2.1.1 hP h0 4 (dW_get hw) rfl hin hd ?_
      rw [nz_ok]
      dsimp only
      rw [show vs.getD i.toNatClampNeg .null = v from by simp [List.getD, hv]]
      exact K.2 H locs ls ρ hag hn hP hD hS hl
    · rename_i vs hw
      rw [xg_eq] at hw
      split at h
      case h_2 => cases h
      rename_i hb
      split at h
      case h_2 => cases h
      rename_i v hv
      obtain ⟨hin, hlt, hv⟩ := ixN_in (Nat.blt_eq.mp hb) hv
      have K := hk _ _ h
      refine ⟨K.1, fun H locs ls ρ hag hn hP hD hS hl => ?_⟩
      refine va_aldq (C := RX7) X.1.1 X.1.2.1 X.2.2.2.1.1 hP h0 5 (dW_get hw) rfl hin hd ?_
      rw [nz_ok]
      dsimp only
      rw [show vs.getD i.toNatClampNeg .null = v from by simp [List.getD, hv]]
      exact K.2 H locs ls ρ hag hn hP hD hS hl
    · rename_i vs hw
      rw [xg_eq] at hw
      split at h
      case h_2 => cases h
      rename_i hb
      split at h
      case h_2 => cases h
      rename_i v hv
      obtain ⟨hin, hlt, hv⟩ := ixN_in (Nat.blt_eq.mp hb) hv
      have K := hk _ _ h
      refine ⟨K.1, fun H locs ls ρ hag hn hP hD hS hl => ?_⟩
      refine va_aldq (C := RX8) X.1.1 X.1.2.1 X.2.2.2.1.1 hP h0 6 (dW_get hw) rfl hin hd ?_
      rw [nz_ok]
      dsimp only
      rw [show vs.getD i.toNatClampNeg .null = v from by simp [List.getD, hv]]
      exact K.2 H locs ls ρ hag hn hP hD hS hl
    · cases h
  · cases h
theorem ok_aast (hd : decode cc pc = .ok (.aastore, 1)) : mOk kn cc own nL Ts D ret ini pc (a_aast (pc + 1)) := by
  intro p l e R s m args below meth c dC dI cy A ρ0 n0 Qc Q r X k hk ss h
  obtain ⟨lv, st, w, nc, ns⟩ := ss
  unfold a_aast at h
  split at h
  · rename_i x i h0 st' hs
    dsimp only at hs
    subst hs
    split at h
    · rename_i vs fs hw hw2
      rw [xg_eq] at hw hw2
      split at h
      case h_2 => cases h
      rename_i hb
      split at h
      case h_2 => cases h
      rename_i v0 hv0
      obtain ⟨hin, hlt, hv⟩ := ixN_in (Nat.blt_eq.mp hb) hv0
      · simp only [xs_eq, ← (ixN_ok (Nat.blt_eq.mp hb)).2] at h
        have K := hk _ _ h
        refine ⟨K.1, fun H locs ls ρ hag hn hP hD hS hl => ?_⟩
        refine va_astq (r := (RX6, TX6, 15)) X.1.1 X.1.2.1 X.2.2.2.1.1 hP hD hS h0 4 x 7 (dW_get hw) rfl (dW_get hw2) rfl hin hd (fun H1 locs1 hP1 hD1 hS1 => ?_)
        have e1 : dW ρ cy (w.set h0 (.inl (4, vs.set i.toNatClampNeg (.ref x)))) = (dW ρ cy w).set h0 (ρ h0, .inl (cy 4, vs.length, .inr (.inr (.inr (.inr (va_up (fun j => dr ρ (vs.getD j .null)) i.toNatClampNeg (some (ρ x)))))))) := by
          rw [dW_set, ← dr_set hlt]
          simp [dE, dA]
        exact K.2 H1 locs1 ls ρ hag (by simpa using hn) (by dsimp only; rw [e1]; exact hP1) (by dsimp only; rw [e1]; exact hD1) hS1 hl
    · rename_i vs fs hw hw2
      rw [xg_eq] at hw hw2
      split at h
      case h_2 => cases h
      rename_i hb
      split at h
      case h_2 => cases h
      rename_i v0 hv0
      obtain ⟨hin, hlt, hv⟩ := ixN_in (Nat.blt_eq.mp hb) hv0
      · simp only [xs_eq, ← (ixN_ok (Nat.blt_eq.mp hb)).2] at h
        have K := hk _ _ h
        refine ⟨K.1, fun H locs ls ρ hag hn hP hD hS hl => ?_⟩
        refine va_astq (r := (RX7, TX7, 9)) X.1.1 X.1.2.1 X.2.2.2.1.1 hP hD hS h0 5 x 8 (dW_get hw) rfl (dW_get hw2) rfl hin hd (fun H1 locs1 hP1 hD1 hS1 => ?_)
        have e1 : dW ρ cy (w.set h0 (.inl (5, vs.set i.toNatClampNeg (.ref x)))) = (dW ρ cy w).set h0 (ρ h0, .inl (cy 5, vs.length, .inr (.inr (.inr (.inr (va_up (fun j => dr ρ (vs.getD j .null)) i.toNatClampNeg (some (ρ x)))))))) := by
          rw [dW_set, ← dr_set hlt]
          simp [dE, dA]
        exact K.2 H1 locs1 ls ρ hag (by simpa using hn) (by dsimp only; rw [e1]; exact hP1) (by dsimp only; rw [e1]; exact hD1) hS1 hl
    · rename_i vs fs hw hw2
      rw [xg_eq] at hw hw2
      split at h
      case h_2 => cases h
      rename_i hb
      split at h
      case h_2 => cases h
      rename_i v0 hv0
      obtain ⟨hin, hlt, hv⟩ := ixN_in (Nat.blt_eq.mp hb) hv0
      · simp only [xs_eq, ← (ixN_ok (Nat.blt_eq.mp hb)).2] at h
        have K := hk _ _ h
        refine ⟨K.1, fun H locs ls ρ hag hn hP hD hS hl => ?_⟩
        refine va_astq (r := (RX8, TX8, 9)) X.1.1 X.1.2.1 X.2.2.2.1.1 hP hD hS h0 6 x 9 (dW_get hw) rfl (dW_get hw2) rfl hin hd (fun H1 locs1 hP1 hD1 hS1 => ?_)
        have e1 : dW ρ cy (w.set h0 (.inl (6, vs.set i.toNatClampNeg (.ref x)))) = (dW ρ cy w).set h0 (ρ h0, .inl (cy 6, vs.length, .inr (.inr (.inr (.inr (va_up (fun j => dr ρ (vs.getD j .null)) i.toNatClampNeg (some (ρ x)))))))) := by
          rw [dW_set, ← dr_set hlt]
          simp [dE, dA]
        exact K.2 H1 locs1 ls ρ hag (by simpa using hn) (by dsimp only; rw [e1]; exact hP1) (by dsimp only; rw [e1]; exact hD1) hS1 hl
    · cases h
  · cases h
theorem ok_slen (hd : decode cc pc = .ok (.arraylength, 1)) : mOk kn cc own nL Ts D ret ini pc (a_slen kn (pc + 1)) := by
  intro p l e R s m args below meth c dC dI cy A ρ0 n0 Qc Q r X k hk ss h
  obtain ⟨lv, st, w, nc, ns⟩ := ss
  unfold a_slen at h
  split at h
  · rename_i st' hs
    dsimp only at hs
    subst hs
    have K := hk _ _ h
    obtain ⟨xs, h1, h2, h3, h4⟩ := X.2.2.2.1.2.2.2.2.2.2.2.1
    refine ⟨K.1, fun H locs ls ρ hag hn hP hD hS hl => ?_⟩
    show W p l e R s m args below meth c H locs nc ns _ (F0 m pc ls (.ref (ρ 1000010) :: st'.map (dv ρ)))
    rw [hag 1000010 (Or.inr (by decide))]
    exact va_slen X.1.1 X.1.2.1 h1 h2 h3 hS hd (K.2 H locs ls ρ hag hn hP hD hS hl)
  · cases h
theorem ok_sld (hd : decode cc pc = .ok (.iaload, 1)) : mOk kn cc own nL Ts D ret ini pc (a_sld kn (pc + 1)) := by
  intro p l e R s m args below meth c dC dI cy A ρ0 n0 Qc Q r X k hk ss h
  obtain ⟨lv, st, w, nc, ns⟩ := ss
  unfold a_sld at h
  split at h
  · rename_i i st' hs
    dsimp only at hs
    subst hs
    split at h
    · cases h
    · rename_i hin
      split at h
      · rename_i v hv
        have K := hk _ _ h
        obtain ⟨xs, h1, h2, h3, h4⟩ := X.2.2.2.1.2.2.2.2.2.2.2.1
        refine ⟨K.1, fun H locs ls ρ hag hn hP hD hS hl => ?_⟩
        show W p l e R s m args below meth c H locs nc ns _ (F0 m pc ls (.int i :: .ref (ρ 1000010) :: st'.map (dv ρ)))
        rw [hag 1000010 (Or.inr (by decide))]
        refine va_sld X.1.1 X.1.2.1 h1 h2 h3 hS hin hd ?_
        have G := K.2 H locs ls ρ hag hn hP hD hS hl
        dsimp only at G
        rw [List.map_cons, dv_ags (fun k hk => hag k (Or.inr hk)) (h4 _ v hv)] at G
        exact G
      · cases h
  · cases h
end OKM
end
end
section
noncomputable section
-- ===== arraycopy =====
def cpyL (vs us : List Value) (sp dp n : Nat) : List Value := us.take dp ++ ((vs.drop sp).take n ++ us.drop (dp + n))
theorem cpyL_len {vs us : List Value} {sp dp n : Nat} (h1 : sp + n ≤ vs.length) (h2 : dp + n ≤ us.length) : (cpyL vs us sp dp n).length = us.length := by
  simp only [cpyL, List.length_append, List.length_take, List.length_drop]
  omega
theorem cpyL_get {vs us : List Value} {sp dp n : Nat} (h1 : sp + n ≤ vs.length) (h2 : dp + n ≤ us.length) (j : Nat) : (cpyL vs us sp dp n)[j]? = if dp ≤ j ∧ j < dp + n then vs[sp + (j - dp)]? else us[j]? := by
  unfold cpyL
  have l1 : (us.take dp).length = dp := by rw [List.length_take]; omega
  have l2 : ((vs.drop sp).take n).length = n := by rw [List.length_take, List.length_drop]; omega
  by_cases a : j < dp
  · rw [List.getElem?_append_left (by omega), List.getElem?_take_of_lt a, if_neg (by omega)]
  · rw [List.getElem?_append_right (by omega), l1]
    by_cases b : j < dp + n
    · rw [List.getElem?_append_left (by omega), List.getElem?_take_of_lt (by omega), List.getElem?_drop, if_pos (by omega)]
    · rw [List.getElem?_append_right (by omega), l2, List.getElem?_drop, if_neg (by omega)]
      congr 1
      omega
theorem di_cpy {ρ : Nat → Nat} {vs us : List Value} {sp dp n : Nat} (h1 : sp + n ≤ vs.length) (h2 : dp + n ≤ us.length) : (fun j => di ρ ((cpyL vs us sp dp n).getD j .null)) = va_cpy (fun j => di ρ (vs.getD j .null)) (fun j => di ρ (us.getD j .null)) sp dp n := by
  funext j
  simp only [va_cpy, List.getD, cpyL_get h1 h2 j]
  split <;> rfl
theorem dl_cpy {vs us : List Value} {sp dp n : Nat} (h1 : sp + n ≤ vs.length) (h2 : dp + n ≤ us.length) : (fun j => dl ((cpyL vs us sp dp n).getD j .null)) = va_cpy (fun j => dl (vs.getD j .null)) (fun j => dl (us.getD j .null)) sp dp n := by
  funext j
  simp only [va_cpy, List.getD, cpyL_get h1 h2 j]
  split <;> rfl
def a_copy (np : Nat) : sA := fun k ss => match ss.2.1 with
  | .int n :: .int dp :: .ref b :: .int sp :: .ref a :: st => match xg ss.2.2.1 a, xg ss.2.2.1 b with
    | some (.inl (1, vs)), some (.inl (1, us)) => if ¬ sp < 0 ∧ ¬ dp < 0 ∧ ¬ n < 0 ∧ sp.toNatClampNeg + n.toNatClampNeg ≤ vs.length ∧ dp.toNatClampNeg + n.toNatClampNeg ≤ us.length ∧ (st.map fun v => v.category).sum ≤ 8 then k np (ss.1, st, xs ss.2.2.1 b (.inl (1, cpyL vs us sp.toNatClampNeg dp.toNatClampNeg n.toNatClampNeg)), ss.2.2.2) else none
    | some (.inl (2, vs)), some (.inl (2, us)) => if ¬ sp < 0 ∧ ¬ dp < 0 ∧ ¬ n < 0 ∧ sp.toNatClampNeg + n.toNatClampNeg ≤ vs.length ∧ dp.toNatClampNeg + n.toNatClampNeg ≤ us.length ∧ (st.map fun v => v.category).sum ≤ 8 then k np (ss.1, st, xs ss.2.2.1 b (.inl (2, cpyL vs us sp.toNatClampNeg dp.toNatClampNeg n.toNatClampNeg)), ss.2.2.2) else none
    | _, _ => none
  | _ => none
theorem cat_map (ρ : Nat → Nat) (st : List Value) : ((st.map (dv ρ)).map fun v => v.category).sum = (st.map fun v => v.category).sum := by
  rw [List.map_map]
  congr 1
  apply List.map_congr_left
  intro v _
  exact dv_cat ρ v
theorem nfw_ok {a b : Nat} (h : a ≤ 8) (h2 : 40 ≤ b) : a + (nativeFrameWords "java/lang/System" "arraycopy" 5 + 11) ≤ b := by
  have e : nativeFrameWords "java/lang/System" "arraycopy" 5 = 7 := by decide
  rw [e]
  omega
section OKY
variable {kn : sKn} {cc : ByteArray} {own : String} {nL : Nat} {Ts : List Cond} {D : Nat} {ret : Option FieldType} {ini : Bool} {pc : Nat}
theorem ok_copy {index : Nat} (hD1 : 1 ≤ D) (hlink : Cond.methodLink own index arraycopyName ∈ Ts) (hnat : Cond.native arraycopyName ∈ Ts) (hstat : Cond.static arraycopyName ∈ Ts) (hini : Cond.initialized "java/lang/System" ∈ Ts) (hd : decode cc pc = .ok (.invokestatic index, 3)) : mOk kn cc own nL Ts D ret ini pc (a_copy (pc + 3)) := by
  intro p l e R s m args below meth c dC dI cy A ρ0 n0 Qc Q r X k hk ss h
  obtain ⟨lv, st, w, nc, ns⟩ := ss
  have hfr : 1 ≤ R.frames := Nat.le_trans hD1 X.2.2.2.2.2.2.1.1
  have hlo : 40 ≤ R.locals := Nat.le_trans (by omega) X.2.2.2.2.2.2.1.2
  unfold a_copy at h
  split at h
  · rename_i n dp b sp a st' hs
    dsimp only at hs
    subst hs
    split at h
    · rename_i vs us hw1 hw2
      rw [xg_eq] at hw1 hw2
      simp only [xs_eq] at h
      split at h
      · rename_i hc
        obtain ⟨c1, c2, c3, c4, c5, c6⟩ := hc
        have K := hk _ _ h
        refine ⟨K.1, fun H locs ls ρ hag hn hP hD hS hl => ?_⟩
        refine va_copyi (ty := .int) X.1.1 X.1.2.1 (X.1.2.2.1.trans hl.1.symm) X.1.2.2.2.1 (X.1.2.2.2.2 _ hlink) (X.1.2.2.2.2 _ hnat) (X.1.2.2.2.2 _ hstat) (X.1.2.2.2.2 _ hini) X.2.2.2.1.1 hP hD hS a b 1 1 (dW_get hw1) (dW_get hw2) rfl rfl rfl c1 c2 c3 c4 c5 (fun _ _ => rfl) hfr (nfw_ok (by rw [cat_map]; exact c6) hlo) hd (fun H1 locs1 hP1 hD1 hS1 => ?_)
        have e1 : dW ρ cy (w.set b (.inl (1, cpyL vs us sp.toNatClampNeg dp.toNatClampNeg n.toNatClampNeg))) = (dW ρ cy w).set b (ρ b, .inl (cy 1, us.length, .inl (va_cpy (fun j => di ρ (vs.getD j .null)) (fun j => di ρ (us.getD j .null)) sp.toNatClampNeg dp.toNatClampNeg n.toNatClampNeg))) := by
          rw [dW_set, ← di_cpy c4 c5]
          simp only [dE, dA, cpyL_len c4 c5]
        exact K.2 H1 locs1 ls ρ hag (by simpa using hn) (by dsimp only; rw [e1]; exact hP1) (by dsimp only; rw [e1]; exact hD1) hS1 hl
      · cases h
    · rename_i vs us hw1 hw2
      rw [xg_eq] at hw1 hw2
      simp only [xs_eq] at h
      split at h
      · rename_i hc
        obtain ⟨c1, c2, c3, c4, c5, c6⟩ := hc
        have K := hk _ _ h
        refine ⟨K.1, fun H locs ls ρ hag hn hP hD hS hl => ?_⟩
        refine va_copyl (ty := .long) X.1.1 X.1.2.1 (X.1.2.2.1.trans hl.1.symm) X.1.2.2.2.1 (X.1.2.2.2.2 _ hlink) (X.1.2.2.2.2 _ hnat) (X.1.2.2.2.2 _ hstat) (X.1.2.2.2.2 _ hini) X.2.2.2.1.1 hP hD hS a b 2 2 (dW_get hw1) (dW_get hw2) rfl rfl rfl c1 c2 c3 c4 c5 (fun _ _ => rfl) hfr (nfw_ok (by rw [cat_map]; exact c6) hlo) hd (fun H1 locs1 hP1 hD1 hS1 => ?_)
        have e1 : dW ρ cy (w.set b (.inl (2, cpyL vs us sp.toNatClampNeg dp.toNatClampNeg n.toNatClampNeg))) = (dW ρ cy w).set b (ρ b, .inl (cy 2, us.length, .inr (.inl (va_cpy (fun j => dl (vs.getD j .null)) (fun j => dl (us.getD j .null)) sp.toNatClampNeg dp.toNatClampNeg n.toNatClampNeg)))) := by
          rw [dW_set, ← dl_cpy c4 c5]
          simp only [dE, dA, cpyL_len c4 c5]
        exact K.2 H1 locs1 ls ρ hag (by simpa using hn) (by dsimp only; rw [e1]; exact hP1) (by dsimp only; rw [e1]; exact hD1) hS1 hl
      · cases h
    · cases h
  · cases h
end OKY
-- ===== returns =====
theorem w_mono {p : Program} {l : Launch} {e : Env} {R : Room} {s : State} {m : MethodId} {args : Array Value} {below : List Frame} {meth : Method} {c : Code} {H : Heap} {locs : List Loc} {cells slots : Nat} {Q Q' : State → Prop} {g : JFrame} (h : ∀ t, Q t → Q' t) (k : W p l e R s m args below meth c H locs cells slots Q g) : W p l e R s m args below meth c H locs cells slots Q' g := fun T hT X => by
  obtain ⟨t, a, b⟩ := k T hT X
  exact ⟨t, a, h t b⟩
def a_iret : sA := fun _ ss => match ss.2.1 with
  | [.int x] => some (some (.int x), ss.2.2)
  | _ => none
def a_zret : sA := fun _ ss => match ss.2.1 with
  | [.int x] => if x = 0 ∨ x = 1 then some (some (.int x), ss.2.2) else none
  | _ => none
def a_lret : sA := fun _ ss => match ss.2.1 with
  | [.long x] => some (some (.long x), ss.2.2)
  | _ => none
def a_vret : sA := fun _ ss => match ss.2.1 with
  | [] => some (none, ss.2.2)
  | _ => none
def a_aret : sA := fun _ ss => match ss.2.1 with
  | [.ref x] => some (some (.ref x), ss.2.2)
  | _ => none
def a_obj (np : Nat) : sA := fun k ss => match ss.2.1 with
  | .ref _ :: st => if (st.map fun v => v.category).sum ≤ 20 then k np (ss.1, st, ss.2.2) else none
  | _ => none
section OKR
variable {kn : sKn} {cc : ByteArray} {own : String} {nL : Nat} {Ts : List Cond} {D : Nat} {ini : Bool} {pc : Nat}
theorem ok_iret (hd : decode cc pc = .ok (.ireturn, 1)) : mOk kn cc own nL Ts D (some .int) ini pc a_iret := by
  intro p l e R s m args below meth c dC dI cy A ρ0 n0 Qc Q r X k hk ss h
  obtain ⟨lv, st, w, nc, ns⟩ := ss
  unfold a_iret at h
  split at h
  · rename_i x hs
    dsimp only at hs
    subst hs
    cases h
    have hlocks := X.2.2.1
    exact ⟨⟨Nat.le_refl _, Nat.le_refl _⟩, fun H locs ls ρ hag hn hP hD hS hl => w_mono X.2.2.2.2.2.2.2.2.2.1.1 (W.iret X.1.1 X.1.2.1 X.2.1 (fun t ht hW => X.2.2.2.2.2.2.2.2.1 (Or.inr (fun z => by cases z)) ρ H locs t hag hn hP hD hS ht hW) hS.2.2 hd)⟩
  · cases h
theorem ok_zret (hd : decode cc pc = .ok (.ireturn, 1)) : mOk kn cc own nL Ts D (some .boolean) ini pc a_zret := by
  intro p l e R s m args below meth c dC dI cy A ρ0 n0 Qc Q r X k hk ss h
  obtain ⟨lv, st, w, nc, ns⟩ := ss
  unfold a_zret at h
  split at h
  · rename_i x hs
    dsimp only at hs
    subst hs
    split at h
    · rename_i hx
      cases h
      have hlocks := X.2.2.1
      exact ⟨⟨Nat.le_refl _, Nat.le_refl _⟩, fun H locs ls ρ hag hn hP hD hS hl => w_mono X.2.2.2.2.2.2.2.2.2.1.1 (W.zret X.1.1 X.1.2.1 X.2.1 (by rcases hx with rfl | rfl <;> rfl) (fun t ht hW => X.2.2.2.2.2.2.2.2.1 (Or.inr (fun z => by cases z)) ρ H locs t hag hn hP hD hS ht hW) hS.2.2 hd)⟩
    · cases h
  · cases h
theorem ok_lret (hd : decode cc pc = .ok (.lreturn, 1)) : mOk kn cc own nL Ts D (some .long) ini pc a_lret := by
  intro p l e R s m args below meth c dC dI cy A ρ0 n0 Qc Q r X k hk ss h
  obtain ⟨lv, st, w, nc, ns⟩ := ss
  unfold a_lret at h
  split at h
  · rename_i x hs
    dsimp only at hs
    subst hs
    cases h
    have hlocks := X.2.2.1
    exact ⟨⟨Nat.le_refl _, Nat.le_refl _⟩, fun H locs ls ρ hag hn hP hD hS hl => w_mono X.2.2.2.2.2.2.2.2.2.1.1 (W.lret X.1.1 X.1.2.1 X.2.1 (fun t ht hW => X.2.2.2.2.2.2.2.2.1 (Or.inr (fun z => by cases z)) ρ H locs t hag hn hP hD hS ht hW) hS.2.2 hd)⟩
  · cases h
theorem ok_vret (hd : decode cc pc = .ok (.return_, 1)) : mOk kn cc own nL Ts D none ini pc a_vret := by
  intro p l e R s m args below meth c dC dI cy A ρ0 n0 Qc Q r X k hk ss h
  obtain ⟨lv, st, w, nc, ns⟩ := ss
  unfold a_vret at h
  split at h
  · rename_i hs
    dsimp only at hs
    subst hs
    cases h
    have hlocks := X.2.2.1
    exact ⟨⟨Nat.le_refl _, Nat.le_refl _⟩, fun H locs ls ρ hag hn hP hD hS hl => w_mono X.2.2.2.2.2.2.2.2.2.1.1 (W.vret X.1.1 X.1.2.1 X.2.1 (fun t ht hW => X.2.2.2.2.2.2.2.2.1 (Or.inl rfl) ρ H locs t hag hn hP hD hS ht hW) hS.2.2 hd)⟩
  · cases h
theorem ok_aret {rt : FieldType} (hrt : (∃ n, rt = .object n) ∨ ∃ t, rt = .array t) (hd : decode cc pc = .ok (.areturn, 1)) : mOk kn cc own nL Ts D (some rt) ini pc a_aret := by
  intro p l e R s m args below meth c dC dI cy A ρ0 n0 Qc Q r X k hk ss h
  obtain ⟨lv, st, w, nc, ns⟩ := ss
  unfold a_aret at h
  split at h
  · rename_i x hs
    dsimp only at hs
    subst hs
    cases h
    have hlocks := X.2.2.1
    exact ⟨⟨Nat.le_refl _, Nat.le_refl _⟩, fun H locs ls ρ hag hn hP hD hS hl => w_mono X.2.2.2.2.2.2.2.2.2.1.1 (W.aret (v := .ref (ρ x)) X.1.1 X.1.2.1 X.2.1 hrt (Or.inr ⟨_, rfl⟩) (fun t ht hW => X.2.2.2.2.2.2.2.2.1 (Or.inr (fun z => by cases z)) ρ H locs t hag hn hP hD hS ht hW) hS.2.2 hd)⟩
  · cases h
theorem ok_obj {ret : Option FieldType} {index : Nat} (hD1 : 1 ≤ D) (hlink : Cond.methodLink own index objectInit ∈ Ts) (hinst : Cond.instanceMethod objectInit ∈ Ts) (hcode : Cond.code objectInit ⟨#[0xb1]⟩ 1 none ∈ Ts) (hd : decode cc pc = .ok (.invokespecial index, 3)) : mOk kn cc own nL Ts D ret ini pc (a_obj (pc + 3)) := by
  intro p l e R s m args below meth c dC dI cy A ρ0 n0 Qc Q r X k hk ss h
  obtain ⟨lv, st, w, nc, ns⟩ := ss
  have hfr : 1 ≤ R.frames := Nat.le_trans hD1 X.2.2.2.2.2.2.1.1
  have hlo : 40 ≤ R.locals := Nat.le_trans (by omega) X.2.2.2.2.2.2.1.2
  unfold a_obj at h
  split at h
  · rename_i x st' hs
    dsimp only at hs
    subst hs
    split at h
    · rename_i hc
      have K := hk _ _ h
      refine ⟨K.1, fun H locs ls ρ hag hn hP hD hS hl => ?_⟩
      refine W.objInit X.1.1 X.1.2.1 X.1.2.2.2.1 (X.1.2.2.2.2 _ hlink) (X.1.2.2.2.2 _ hinst) (X.1.2.2.2.2 _ hcode) rfl (by rw [X.1.2.2.1]; exact hl.1) rfl hd hfr (by show 2 * 0 + _ + 12 ≤ _; rw [cat_map]; omega) ?_
      exact K.2 H locs ls ρ hag hn hP hD hS hl
    · cases h
  · cases h
end OKR
end
end
section
noncomputable section
-- ===== what a method does, as a function; its contract; calls =====
def mQ (dC : Nat → ClassId) (dI : Nat → Nat → Nat) (cy : Nat → ClassId) (ρ : Nat → Nat) (w : sW) (sz : Nat) (r : sR) : Array Value → State → Outcome → State → Prop := fun _ st oc t =>
  (∃ ρ' : Nat → Nat, ag w.length ρ' ρ ∧ w.length ≤ r.2.1.length ∧ oc = .returned (r.1.map (dv ρ')) ∧ va_P (dC, dI) vwCl (dW ρ' cy r.2.1) t.heap ∧ va_D (va_A (dW ρ cy w) sz) (dW ρ' cy r.2.1)) ∧ va_F (va_A (dW ρ cy w) sz) st t
def mPc (kn : sKn) (dC : Nat → ClassId) (dI : Nat → Nat → Nat) (cy : Nat → ClassId) (ρ : Nat → Nat) (av : List Value) (w : sW) (sz : Nat) : Array Value → State → Prop :=
  va_Pc (av.map (dv ρ)) (fun U => U.heap.size = sz ∧ va_P (dC, dI) vwCl (dW ρ cy w) U.heap ∧ mK kn dC dI cy ρ (va_A (dW ρ cy w) sz) U U.heap ∧ va_D (fun _ => True) (dW ρ cy w))
/-- the function f says what method y does: D calls may stand open over it -/
def mM (kn : sKn) (y : MethodName) (ws : List Cond) (D : Nat) (vd : Bool) (f : List Value → sW → Option sR) : Prop :=
  ∀ (l : Launch), l.stackTraces = false → ∀ (dC : Nat → ClassId) (dI : Nat → Nat → Nat) (cy : Nat → ClassId) (av : List Value) (w : sW) (r : sR), f av w = some r → (vd || r.1.isSome) = true → ∀ (ρ : Nat → Nat) (sz : Nat),
    Met l y ws ({ frames := D, cells := r.2.2.1, slots := r.2.2.2, locals := 40 * D }) (mPc kn dC dI cy ρ av w sz) (mQ dC dI cy ρ w sz r) r.2.2.1 r.2.2.2 (va_A (dW ρ cy w) sz)
theorem mPc_blind {kn : sKn} {dC : Nat → ClassId} {dI : Nat → Nat → Nat} {cy : Nat → ClassId} {ρ : Nat → Nat} {av : List Value} {w : sW} {sz : Nat} : FrameBlind (mPc kn dC dI cy ρ av w sz) := by
  intro a U g mk q
  obtain ⟨q0, q1, qP, qK, qD⟩ := q
  exact ⟨q0, q1, qP, mK_move (U := U.calling g mk a) qK (Vm.Alike.refl U.vm) (mN_same rfl) (fun _ z => z) (fun _ _ _ => rfl) (fun _ _ => rfl), qD⟩
theorem va_A_sub {dC : Nat → ClassId} {A : Nat → Prop} {ws : va_W} {H0 H : Heap} {locs : List Loc} (hD : va_D A ws) (hS : va_S A H0 H locs) (hA : ∀ q, H0.size ≤ q → A q) : ∀ q, va_A ws H.size q → A q := by
  intro q h
  rcases h with ⟨k, e, h⟩ | h
  · exact hD.2 k (q, e) h
  · exact hA q (Nat.le_trans hS.1 h)
theorem z_call {p : Program} {l : Launch} {e : Env} {R : Room} {s : State} {m : MethodId} {args : Array Value} {below : List Frame} {meth : Method} {c : Code} {H : Heap} {locs : List Loc} {cells slots : Nat} {Q : State → Prop} {dC : Nat → ClassId} {dI : Nat → Nat → Nat} {cy : Nat → ClassId} {A : Nat → Prop} {ρ : Nat → Nat} {w : sW} {r1 : sR} {pc : Nat} {ls : Array Slot} {st0 rest : List Value} {a : Array Value}
    (hr : va_Run p l e R s m args below meth c H locs cells slots r1.2.2.1 r1.2.2.2 (F0 m pc ls st0) rest (mQ dC dI cy ρ w H.size r1 a) (va_A (dW ρ cy w) H.size)) (hS : va_S A s.heap H locs) (hA : ∀ q, va_A (dW ρ cy w) H.size q → A q)
    (kk : ∀ (ρ' : Nat → Nat) (H1 : Heap) (locs1 : List Loc), ag w.length ρ' ρ → w.length ≤ r1.2.1.length → va_P (dC, dI) vwCl (dW ρ' cy r1.2.1) H1 → va_D A (dW ρ' cy r1.2.1) → va_S A s.heap H1 locs1 → W p l e R s m args below meth c H1 locs1 (cells + r1.2.2.1) (slots + r1.2.2.2) Q (F0 m (pc + 3) ls ((r1.1.map (dv ρ')).toList ++ rest))) : W p l e R s m args below meth c H locs cells slots Q (F0 m pc ls st0) := by
  intro T hT X
  obtain ⟨v, st₀, t, T', L, h0, X', hL, e1, e2, ⟨⟨ρ', hag, hln, hv, hp, hd⟩, hz, hk⟩, st⟩ := hr T hT X
  cases hv
  rw [h0] at hz hk
  obtain ⟨t2, a1, b1⟩ := kk ρ' T'.heap (locs ++ L) hag hln (by rw [e1]; exact hp) (hd.weaken (fun _ q _ z => hA q.1 z))
    ⟨Nat.le_trans hS.1 (by rw [e1]; exact hz), fun q h1 h2 => by rw [e1, hk q (Nat.lt_of_lt_of_le h1 hS.1) (fun z => h2 (hA q z))]; exact hS.2.1 q h1 h2, fun q hq => by
      rcases List.mem_append.mp hq with h | h
      · exact hS.2.2 q h
      · exact hA _ (hL q h)⟩ T' rfl X'
  exact ⟨t2, st t2 a1, b1⟩
/-- behind a call: what came back, over the rest -/
def a_back (vd : Bool) (k : sK) (np : Nat) (lv : List (Nat × Value)) (rest : List Value) (nc ns : Nat) (o : Option sR) : Option sR := match o with
  | some r => match vd || r.1.isSome with
    | true => k np (lv, r.1.toList ++ rest, r.2.1, nc + r.2.2.1, ns + r.2.2.2)
    | false => none
  | none => none
def c_ok (ss : sS) (na : Nat) : Bool := Nat.ble na ss.2.1.length && Nat.ble ((ss.2.1.drop na).map fun v => v.category).sum 8 && xa (fun q => wfV (xl ss.2.2.1) q.2) ss.1 && xa (wfV (xl ss.2.2.1)) (ss.2.1.drop na)
/-- a static call -/
def a_callS (vd : Bool) (f : List Value → sW → Option sR) (na np : Nat) : sA := fun k ss => match c_ok ss na with
  | true => a_back vd k np ss.1 (ss.2.1.drop na) ss.2.2.2.1 ss.2.2.2.2 (f (ss.2.1.take na).reverse ss.2.2.1)
  | false => none
/-- a call on an object: na counts it -/
def a_callV (vd : Bool) (f : List Value → sW → Option sR) (ci na np : Nat) : sA := fun k ss => match c_ok ss na with
  | true => match (ss.2.1.take na).reverse with
    | .ref h :: as => match xg ss.2.2.1 h with
      | some (.inr (c', _)) => if c' = ci then a_back vd k np ss.1 (ss.2.1.drop na) ss.2.2.2.1 ss.2.2.2.2 (f (.ref h :: as) ss.2.2.1) else none
      | _ => none
    | _ => none
  | false => none
/-- a constructor's call: na counts the object -/
def a_callI (vd : Bool) (f : List Value → sW → Option sR) (na np : Nat) : sA := fun k ss => match c_ok ss na with
  | true => match (ss.2.1.take na).reverse with
    | .ref h :: as => a_back vd k np ss.1 (ss.2.1.drop na) ss.2.2.2.1 ss.2.2.2.2 (f (.ref h :: as) ss.2.2.1)
    | _ => none
  | false => none
theorem c_ok_p {ss : sS} {na : Nat} (h : c_ok ss na = true) : na ≤ ss.2.1.length ∧ ((ss.2.1.drop na).map fun v => v.category).sum ≤ 8 ∧ ss.1.all (fun q => wfV ss.2.2.1.length q.2) = true ∧ (ss.2.1.drop na).all (wfV ss.2.2.1.length) = true := by
  unfold c_ok at h
  simp only [xa_eq, xl_eq] at h
  rw [Bool.and_eq_true, Bool.and_eq_true, Bool.and_eq_true, Nat.ble_eq, Nat.ble_eq] at h
  exact ⟨h.1.1.1, h.1.1.2, h.1.2, h.2⟩
/-- the words of a callee among the caller's -/
theorem good_ws {Ts ws' : List Cond} {y : MethodName} {cy : ByteArray} {n : Nat} {ret : Option FieldType} (hg : ∀ w ∈ Ts, goodWord w = true) (hs : ∀ w ∈ ws', w ∈ Ts) (hc : Cond.code y cy n ret ∈ Ts) : GoodIn Ts (Cond.code y cy n ret :: ws') := by
  intro w hw
  rcases List.mem_cons.mp hw with h | h
  · rw [h]
    exact ⟨hc, good_of_word (hg _ hc)⟩
  · exact ⟨hs w h, good_of_word (hg _ (hs w h))⟩
/-- the goal behind a call, out of the function's own continuation -/
theorem z_cont {p : Program} {l : Launch} {e : Env} {R : Room} {s : State} {m : MethodId} {args : Array Value} {below : List Frame} {meth : Method} {c : Code} {dC : Nat → ClassId} {dI : Nat → Nat → Nat} {cy : Nat → ClassId} {A : Nat → Prop} {ρ0 ρ ρ' : Nat → Nat} {n0 nL np nc ns : Nat} {Q : State → Prop} {r1 : sR} {lv : List (Nat × Value)} {rest : List Value} {w : sW} {H1 : Heap} {locs1 : List Loc} {ls : Array Slot}
    (K : ∀ (H : Heap) (locs : List Loc) (ls : Array Slot) (ρ : Nat → Nat), ag n0 ρ ρ0 → n0 ≤ r1.2.1.length → va_P (dC, dI) vwCl (dW ρ cy r1.2.1) H → va_D A (dW ρ cy r1.2.1) → va_S A s.heap H locs → lv_has ls nL (dL ρ lv) → W p l e R s m args below meth c H locs nc ns Q (F0 m np ls ((r1.1.toList ++ rest).map (dv ρ))))
    (hag : ag n0 ρ ρ0) (hn : n0 ≤ w.length) (hag1 : ag w.length ρ' ρ) (hln : w.length ≤ r1.2.1.length) (hP1 : va_P (dC, dI) vwCl (dW ρ' cy r1.2.1) H1) (hD1 : va_D A (dW ρ' cy r1.2.1)) (hS1 : va_S A s.heap H1 locs1) (hl : lv_has ls nL (dL ρ lv)) (k3 : lv.all (fun q => wfV w.length q.2) = true) (k4 : rest.all (wfV w.length) = true) :
    W p l e R s m args below meth c H1 locs1 nc ns Q (F0 m np ls ((r1.1.map (dv ρ')).toList ++ rest.map (dv ρ))) := by
  have G := K H1 locs1 ls ρ' (ag_tr hag1 hag hn) (Nat.le_trans hn hln) hP1 hD1 hS1 (by rw [dL_ag hag1 k3]; exact hl)
  rw [List.map_append, dv_agL hag1 k4] at G
  have e0 : r1.1.toList.map (dv ρ') = (r1.1.map (dv ρ')).toList := by cases r1.1 <;> rfl
  rw [e0] at G
  exact G
section OKC
variable {kn : sKn} {cc : ByteArray} {own : String} {nL : Nat} {Ts : List Cond} {D : Nat} {ret : Option FieldType} {ini : Bool} {pc : Nat}
theorem ok_callS {y : MethodName} {bytes : ByteArray} {maxL : Nat} {rt : Option FieldType} {ws' : List Cond} {D' index na : Nat} {vd : Bool} {f : List Value → sW → Option sR} (hM : mM kn y (Cond.code y bytes maxL rt :: ws') D' vd f) (hG : GoodIn Ts (Cond.code y bytes maxL rt :: ws')) (hDD : D' + 1 ≤ D) (hml : maxL ≤ 21) (hlink : Cond.methodLink own index y ∈ Ts) (hst : Cond.static y ∈ Ts) (hini : Cond.initialized y.cls ∈ Ts) (hy : y.cls ≠ "java/lang/invoke/MethodHandle" ∧ y.cls ≠ "java/lang/invoke/VarHandle" ∧ (parseMethodDescriptor y.desc).map (fun d => d.parameters.length) = some na) (hd : decode cc pc = .ok (.invokestatic index, 3)) : mOk kn cc own nL Ts D ret ini pc (a_callS vd f na (pc + 3)) := by
  intro p l e R s m args below meth c dC dI cy A ρ0 n0 Qc Q r X k hk ss h
  obtain ⟨lv, st, w, nc, ns⟩ := ss
  unfold a_callS at h
  split at h
  · rename_i hok
    obtain ⟨k1, k2, k3, k4⟩ := c_ok_p hok
    dsimp only at k1 k2 k3 k4 h
    unfold a_back at h
    split at h
    · rename_i r1 hf
      split at h
      case h_2 => cases h
      rename_i hvd
      have K := hk _ _ h
      have hb := K.1
      dsimp only at hb
      refine ⟨by dsimp only; omega, fun H locs ls ρ hag hn hP hD hS hl => ?_⟩
      dsimp only at hn hP hD hl ⊢
      have hsub := va_A_sub (dC := dC) hD hS X.2.2.2.2.1
      have hcw : CallB R s args own index y bytes maxL rt (Cond.code y bytes maxL rt :: ws') { frames := D', cells := r1.2.2.1, slots := r1.2.2.2, locals := 40 * D' } r1.2.2.1 r1.2.2.2 na ∧ (Cond.static y).before args s = true :=
        ⟨callB_of na X.1.2.2.2.2 hG rfl rfl rfl (X.1.2.2.2.2 _ hini) (X.1.2.2.2.2 _ hlink) hy ⟨Nat.le_trans hDD X.2.2.2.2.2.2.1.1, by have := X.2.2.2.2.2.2.1.2; show 8 + (maxL + 11) + 40 * D' ≤ _; omega⟩, X.1.2.2.2.2 _ hst⟩
      refine z_call (va_runS (As := (st.take na).reverse.map (dv ρ)) (rest := (st.drop na).map (dv ρ)) X.1 (hM l X.2.2.2.2.2.2.2.2.2.1.2 dC dI cy _ w r1 hf hvd ρ H.size) hcw ⟨mPc_blind, fun U hU hW => ⟨rfl, by rw [hU], by rw [hU]; exact hP, mK_move X.2.2.2.1 hW.alike (mN_warm hW) hsub (fun q h1 h2 => by rw [hU]; exact hS.2.1 q h1 h2) (fun k hk => hag k (Or.inr hk)), hD.weaken (fun _ _ _ _ => trivial)⟩⟩ rfl (by simp; omega) hl.1 (by show st.map (dv ρ) = _; rw [List.map_reverse, List.reverse_reverse, ← List.map_append, List.take_append_drop]) (lv_room (by rw [cat_map]; exact k2)) hd ⟨Nat.le_trans hb.1 X.2.2.2.2.2.1.1, Nat.le_trans hb.2 X.2.2.2.2.2.1.2⟩) hS hsub (fun ρ' H1 locs1 hag1 hln hP1 hD1 hS1 => ?_)
      exact z_cont K.2 hag hn hag1 hln hP1 hD1 hS1 hl k3 k4
    · cases h
  · cases h
theorem ok_callV {y : MethodName} {bytes : ByteArray} {maxL : Nat} {rt : Option FieldType} {ws' : List Cond} {D' index na ci : Nat} {C : String} {T : u_T} {N : Nat} {vd : Bool} {f : List Value → sW → Option sR} (hM : mM kn y (Cond.code y bytes maxL rt :: ws') D' vd f) (hG : GoodIn Ts (Cond.code y bytes maxL rt :: ws')) (hDD : D' + 1 ≤ D) (hml : maxL ≤ 21) (hlink : Cond.methodLink own index y ∈ Ts) (hin : Cond.instanceMethod y ∈ Ts) (hsel : Cond.selects C y y ∈ Ts) (hini : Cond.initialized y.cls ∈ Ts) (hy : y.cls ≠ "java/lang/invoke/MethodHandle" ∧ y.cls ≠ "java/lang/invoke/VarHandle" ∧ (parseMethodDescriptor y.desc).map (fun d => d.parameters.length) = some na) (hc : vwCl[ci]? = some (C, T, N)) (hd : decode cc pc = .ok (.invokevirtual index, 3)) : mOk kn cc own nL Ts D ret ini pc (a_callV vd f ci (na + 1) (pc + 3)) := by
  intro p l e R s m args below meth c dC dI cy A ρ0 n0 Qc Q r X k hk ss h
  obtain ⟨lv, st, w, nc, ns⟩ := ss
  unfold a_callV at h
  split at h
  · rename_i hok
    obtain ⟨k1, k2, k3, k4⟩ := c_ok_p hok
    dsimp only at k1 k2 k3 k4 h
    split at h
    · rename_i h0 as hst
      split at h
      · rename_i c' fs hw
        split at h
        · rename_i e'
          subst e'
          rw [xg_eq] at hw
          unfold a_back at h
          split at h
          · rename_i r1 hf
            split at h
            case h_2 => cases h
            rename_i hvd
            have K := hk _ _ h
            have hb := K.1
            dsimp only at hb
            refine ⟨by dsimp only; omega, fun H locs ls ρ hag hn hP hD hS hl => ?_⟩
            dsimp only at hn hP hD hl ⊢
            have hsub := va_A_sub (dC := dC) hD hS X.2.2.2.2.1
            have hcb : CallB R s args own index y bytes maxL rt (Cond.code y bytes maxL rt :: ws') { frames := D', cells := r1.2.2.1, slots := r1.2.2.2, locals := 40 * D' } r1.2.2.1 r1.2.2.2 na :=
              callB_of na X.1.2.2.2.2 hG rfl rfl rfl (X.1.2.2.2.2 _ hini) (X.1.2.2.2.2 _ hlink) hy ⟨Nat.le_trans hDD X.2.2.2.2.2.2.1.1, by have := X.2.2.2.2.2.2.1.2; show 8 + (maxL + 11) + 40 * D' ≤ _; omega⟩
            have hlen : as.length = na := by
              have e1 := congrArg List.length hst
              simp at e1
              omega
            have hstk : st.map (dv ρ) = (as.map (dv ρ)).reverse ++ .ref (ρ h0) :: (st.drop (na + 1)).map (dv ρ) := by
              have e1 : st.take (na + 1) = as.reverse ++ [.ref h0] := by
                have e2 := congrArg List.reverse hst
                rw [List.reverse_reverse, List.reverse_cons] at e2
                exact e2
              conv => lhs; rw [← List.take_append_drop (na + 1) st, e1]
              simp [dv]
            refine z_call (va_runV (As := as.map (dv ρ)) (b := ρ h0) (rest := (st.drop (na + 1)).map (dv ρ)) X.1 (hM l X.2.2.2.2.2.2.2.2.2.1.2 dC dI cy _ w r1 hf hvd ρ H.size) ⟨hcb, X.1.2.2.2.2 _ hin, X.1.2.2.2.2 _ hsel⟩ ⟨mPc_blind, va_recv X.2.2.2.1.1 hP hc (dW_get hw), fun U hU hW => ⟨rfl, by rw [hU], by rw [hU]; exact hP, mK_move X.2.2.2.1 hW.alike (mN_warm hW) hsub (fun q h1 h2 => by rw [hU]; exact hS.2.1 q h1 h2) (fun k hk => hag k (Or.inr hk)), hD.weaken (fun _ _ _ _ => trivial)⟩⟩ rfl (by simpa using hlen) hl.1 hstk (lv_room (by rw [cat_map]; exact k2)) hd ⟨Nat.le_trans hb.1 X.2.2.2.2.2.1.1, Nat.le_trans hb.2 X.2.2.2.2.2.1.2⟩) hS hsub (fun ρ' H1 locs1 hag1 hln hP1 hD1 hS1 => ?_)
            exact z_cont K.2 hag hn hag1 hln hP1 hD1 hS1 hl k3 k4
          · cases h
        · cases h
      · cases h
    · cases h
  · cases h
theorem ok_callI {y : MethodName} {bytes : ByteArray} {maxL : Nat} {ws' : List Cond} {D' index na : Nat} {vd : Bool} {f : List Value → sW → Option sR} (hM : mM kn y (Cond.code y bytes maxL none :: ws') D' vd f) (hG : GoodIn Ts (Cond.code y bytes maxL none :: ws')) (hDD : D' + 1 ≤ D) (hml : maxL ≤ 21) (hlink : Cond.methodLink own index y ∈ Ts) (hin : Cond.instanceMethod y ∈ Ts) (hnm : y.name = "<init>") (hini : Cond.initialized y.cls ∈ Ts) (hy : y.cls ≠ "java/lang/invoke/MethodHandle" ∧ y.cls ≠ "java/lang/invoke/VarHandle" ∧ (parseMethodDescriptor y.desc).map (fun d => d.parameters.length) = some na) (hd : decode cc pc = .ok (.invokespecial index, 3)) : mOk kn cc own nL Ts D ret ini pc (a_callI vd f (na + 1) (pc + 3)) := by
  intro p l e R s m args below meth c dC dI cy A ρ0 n0 Qc Q r X k hk ss h
  obtain ⟨lv, st, w, nc, ns⟩ := ss
  unfold a_callI at h
  split at h
  · rename_i hok
    obtain ⟨k1, k2, k3, k4⟩ := c_ok_p hok
    dsimp only at k1 k2 k3 k4 h
    split at h
    · rename_i h0 as hst
      unfold a_back at h
      split at h
      · rename_i r1 hf
        split at h
        case h_2 => cases h
        rename_i hvd
        have K := hk _ _ h
        have hb := K.1
        dsimp only at hb
        refine ⟨by dsimp only; omega, fun H locs ls ρ hag hn hP hD hS hl => ?_⟩
        dsimp only at hn hP hD hl ⊢
        have hsub := va_A_sub (dC := dC) hD hS X.2.2.2.2.1
        have hcb : CallB R s args own index y bytes maxL none (Cond.code y bytes maxL none :: ws') { frames := D', cells := r1.2.2.1, slots := r1.2.2.2, locals := 40 * D' } r1.2.2.1 r1.2.2.2 na :=
          callB_of na X.1.2.2.2.2 hG rfl rfl rfl (X.1.2.2.2.2 _ hini) (X.1.2.2.2.2 _ hlink) hy ⟨Nat.le_trans hDD X.2.2.2.2.2.2.1.1, by have := X.2.2.2.2.2.2.1.2; show 8 + (maxL + 11) + 40 * D' ≤ _; omega⟩
        have hlen : as.length = na := by
          have e1 := congrArg List.length hst
          simp at e1
          omega
        have hstk : st.map (dv ρ) = (as.map (dv ρ)).reverse ++ .ref (ρ h0) :: (st.drop (na + 1)).map (dv ρ) := by
          have e1 : st.take (na + 1) = as.reverse ++ [.ref h0] := by
            have e2 := congrArg List.reverse hst
            rw [List.reverse_reverse, List.reverse_cons] at e2
            exact e2
          conv => lhs; rw [← List.take_append_drop (na + 1) st, e1]
          simp [dv]
        refine z_call (va_runI (As := as.map (dv ρ)) (b := ρ h0) (rest := (st.drop (na + 1)).map (dv ρ)) X.1 (hM l X.2.2.2.2.2.2.2.2.2.1.2 dC dI cy _ w r1 hf hvd ρ H.size) ⟨hcb, hnm, X.1.2.2.2.2 _ hin⟩ ⟨mPc_blind, fun U hU hW => ⟨rfl, by rw [hU], by rw [hU]; exact hP, mK_move X.2.2.2.1 hW.alike (mN_warm hW) hsub (fun q h1 h2 => by rw [hU]; exact hS.2.1 q h1 h2) (fun k hk => hag k (Or.inr hk)), hD.weaken (fun _ _ _ _ => trivial)⟩⟩ rfl (by simpa using hlen) hl.1 hstk (lv_room (by rw [cat_map]; exact k2)) hd ⟨Nat.le_trans hb.1 X.2.2.2.2.2.1.1, Nat.le_trans hb.2 X.2.2.2.2.2.1.2⟩) hS hsub (fun ρ' H1 locs1 hag1 hln hP1 hD1 hS1 => ?_)
        exact z_cont K.2 hag hn hag1 hln hP1 hD1 hS1 hl k3 k4
      · cases h
    · cases h
  · cases h
theorem ok_callIN {y : MethodName} {bytes : ByteArray} {maxL : Nat} {ws' : List Cond} {D' index na : Nat} {vd : Bool} {f : List Value → sW → Option sR} (hM : mM kn y (Cond.code y bytes maxL none :: ws') D' vd f) (hG : GoodIn Ts (Cond.code y bytes maxL none :: ws')) (hDD : D' + 1 ≤ D) (hml : maxL ≤ 21) (hlink : (index, y) ∈ nestM) (hoe : own = RX11) (hin : Cond.instanceMethod y ∈ Ts) (hnm : y.name = "<init>") (hini : Cond.initialized y.cls ∈ Ts) (hy : y.cls ≠ "java/lang/invoke/MethodHandle" ∧ y.cls ≠ "java/lang/invoke/VarHandle" ∧ (parseMethodDescriptor y.desc).map (fun d => d.parameters.length) = some na) (hd : decode cc pc = .ok (.invokespecial index, 3)) : mOk kn cc own nL Ts D ret ini pc (a_callI vd f (na + 1) (pc + 3)) := by
  intro p l e R s m args below meth c dC dI cy A ρ0 n0 Qc Q r X k hk ss h
  obtain ⟨lv, st, w, nc, ns⟩ := ss
  unfold a_callI at h
  split at h
  · rename_i hok
    obtain ⟨k1, k2, k3, k4⟩ := c_ok_p hok
    dsimp only at k1 k2 k3 k4 h
    split at h
    · rename_i h0 as hst
      unfold a_back at h
      split at h
      · rename_i r1 hf
        split at h
        case h_2 => cases h
        rename_i hvd
        have K := hk _ _ h
        have hb := K.1
        dsimp only at hb
        refine ⟨by dsimp only; omega, fun H locs ls ρ hag hn hP hD hS hl => ?_⟩
        dsimp only at hn hP hD hl ⊢
        have hsub := va_A_sub (dC := dC) hD hS X.2.2.2.2.1
        have hcb : va_CN R s args own index y "SignedBridge" bytes maxL none (Cond.code y bytes maxL none :: ws') { frames := D', cells := r1.2.2.1, slots := r1.2.2.2, locals := 40 * D' } r1.2.2.1 r1.2.2.2 na :=
          va_cnB na X.1.2.2.2.2 hG rfl rfl rfl (by rw [hoe]; exact X.2.2.2.1.2.1.2.1.1 _ hlink) (X.1.2.2.2.2 _ hini) hy ⟨Nat.le_trans hDD X.2.2.2.2.2.2.1.1, by have := X.2.2.2.2.2.2.1.2; show 8 + (maxL + 11) + 40 * D' ≤ _; omega⟩
        have hlen : as.length = na := by
          have e1 := congrArg List.length hst
          simp at e1
          omega
        have hstk : st.map (dv ρ) = (as.map (dv ρ)).reverse ++ .ref (ρ h0) :: (st.drop (na + 1)).map (dv ρ) := by
          have e1 : st.take (na + 1) = as.reverse ++ [.ref h0] := by
            have e2 := congrArg List.reverse hst
            rw [List.reverse_reverse, List.reverse_cons] at e2
            exact e2
          conv => lhs; rw [← List.take_append_drop (na + 1) st, e1]
          simp [dv]
        refine z_call (va_runIN (As := as.map (dv ρ)) (b := ρ h0) (rest := (st.drop (na + 1)).map (dv ρ)) X.1 (hM l X.2.2.2.2.2.2.2.2.2.1.2 dC dI cy _ w r1 hf hvd ρ H.size) ⟨hcb, hnm, X.1.2.2.2.2 _ hin⟩ ⟨mPc_blind, fun U hU hW => ⟨rfl, by rw [hU], by rw [hU]; exact hP, mK_move X.2.2.2.1 hW.alike (mN_warm hW) hsub (fun q h1 h2 => by rw [hU]; exact hS.2.1 q h1 h2) (fun k hk => hag k (Or.inr hk)), hD.weaken (fun _ _ _ _ => trivial)⟩⟩ rfl (by simpa using hlen) hl.1 hstk (lv_room (by rw [cat_map]; exact k2)) hd ⟨Nat.le_trans hb.1 X.2.2.2.2.2.1.1, Nat.le_trans hb.2 X.2.2.2.2.2.1.2⟩) hS hsub (fun ρ' H1 locs1 hag1 hln hP1 hD1 hS1 => ?_)
        exact z_cont K.2 hag hn hag1 hln hP1 hD1 hS1 hl k3 k4
      · cases h
    · cases h
  · cases h
end OKC
end
end
section
noncomputable section
-- ===== a method: its table of acts, run from its entry =====
def t_get (tbl : List (Nat × sA)) (pc : Nat) : Option sA := List.rec (motive := fun _ => Option sA) none (fun q _ ih => match Nat.beq q.1 pc with
  | true => some q.2
  | false => ih) tbl
theorem t_get_mem {tbl : List (Nat × sA)} {pc : Nat} {a : sA} (h : t_get tbl pc = some a) : (pc, a) ∈ tbl := by
  induction tbl with
  | nil => cases h
  | cons q r ih =>
    have h : (match Nat.beq q.1 pc with
      | true => some q.2
      | false => t_get r pc) = some a := h
    split at h
    · rename_i e
      cases h
      rw [← Nat.eq_of_beq_eq_true e]
      exact List.mem_cons_self
    · exact List.mem_cons_of_mem _ (ih h)
def runT (tbl : List (Nat × sA)) (n : Nat) : sK := Nat.rec (motive := fun _ => sK) (fun _ _ => none) (fun _ ih pc ss => match t_get tbl pc with
  | some act => act ih ss
  | none => none) n
def mF (tbl : List (Nat × sA)) (nL n : Nat) (av : List Value) (w : sW) : Option sR := match Nat.ble (lg_sl av).length nL with
  | true => runT tbl n 0 (lv_args 0 av, [], w, 0, 0)
  | false => none
theorem run_ok {kn : sKn} {cc : ByteArray} {own : String} {nL : Nat} {Ts : List Cond} {D : Nat} {ret : Option FieldType} {ini : Bool} {tbl : List (Nat × sA)} (ht : ∀ q ∈ tbl, mOk kn cc own nL Ts D ret ini q.1 q.2)
    {p : Program} {l : Launch} {e : Env} {R : Room} {s : State} {m : MethodId} {args : Array Value} {below : List Frame} {meth : Method} {c : Code} {dC : Nat → ClassId} {dI : Nat → Nat → Nat} {cy : Nat → ClassId} {A : Nat → Prop} {ρ0 : Nat → Nat} {n0 : Nat} {Qc : Array Value → State → Outcome → State → Prop} {Q : State → Prop} {r : sR}
    (X : mX kn p l e R s m args below meth c dC dI cy A ρ0 n0 Qc Q cc own nL Ts D ret ini r) : ∀ (n pc : Nat) (ss : sS), runT tbl n pc ss = some r → mG p l e R s m args below meth c dC dI cy A ρ0 n0 nL Q r pc ss := by
  intro n
  induction n with
  | zero => intro pc ss h; cases h
  | succ n ih =>
    intro pc ss h
    have h : (match t_get tbl pc with
      | some act => act (runT tbl n) ss
      | none => none) = some r := h
    split at h
    · rename_i act ha
      exact ht _ (t_get_mem ha) p l e R s m args below meth c dC dI cy A ρ0 n0 Qc Q r X (runT tbl n) ih ss h
    · cases h
theorem lg_sl_len (ρ : Nat → Nat) (av : List Value) : (lg_sl (av.map (dv ρ))).length = (lg_sl av).length := by
  induction av with
  | nil => rfl
  | cons v r ih => cases v <;> simp_all [lg_sl, dv, Value.category]
theorem lv_args_dv (ρ : Nat → Nat) (av : List Value) : ∀ i, lv_args i (av.map (dv ρ)) = dL ρ (lv_args i av) := by
  induction av with
  | nil => intro i; rfl
  | cons v r ih => intro i; simp only [List.map_cons, lv_args, dL, dv_cat, ih]
/-- a table's rows are right -/
def tOk (kn : sKn) (cc : ByteArray) (own : String) (nL : Nat) (Ts : List Cond) (D : Nat) (ret : Option FieldType) (ini : Bool) (tbl : List (Nat × sA)) : Prop := ∀ q ∈ tbl, mOk kn cc own nL Ts D ret ini q.1 q.2
theorem all_c {kn : sKn} {cc : ByteArray} {own : String} {nL : Nat} {Ts : List Cond} {D : Nat} {ret : Option FieldType} {ini : Bool} {pc : Nat} {act : sA} {l : List (Nat × sA)} (h : mOk kn cc own nL Ts D ret ini pc act) (hl : tOk kn cc own nL Ts D ret ini l) : tOk kn cc own nL Ts D ret ini ((pc, act) :: l) := List.forall_mem_cons.mpr ⟨h, hl⟩
theorem all_n {kn : sKn} {cc : ByteArray} {own : String} {nL : Nat} {Ts : List Cond} {D : Nat} {ret : Option FieldType} {ini : Bool} : tOk kn cc own nL Ts D ret ini [] := fun _ h => absurd h List.not_mem_nil
theorem mM_of {kn : sKn} {y : MethodName} {cc : ByteArray} {nL : Nat} {ws' : List Cond} {D : Nat} {ret : Option FieldType} {own : String} {ini : Bool} {tbl : List (Nat × sA)} (ho : y.cls = own) (hpl : plainName y.cls = true) (hin : ini = true → y.name = "<init>") (ht : tOk kn cc own nL ws' D ret ini tbl) (n : Nat) {vd : Bool} (hvd : vd = true → ret = none) : mM kn y (Cond.code y cc nL ret :: ws') D vd (mF tbl nL n) := by
  subst ho
  intro l hst dC dI cy av w r hf hv0 ρ sz
  unfold mF at hf
  split at hf
  · rename_i hlen
    refine Met.ofW (cc := cc) (maxL := nL) (ret := ret) hpl rfl ?_
    intro p e s m args below meth c s₁ B hml hv
    obtain ⟨rfl, hsz, hP, hK, hD0⟩ := hv
    have hts := atoms_spec (ws := Cond.code y cc nL ret :: ws') B.pre
    have hown : s.vm.findClass y.cls = some m.cls := findClass_of_methodNamed B.named
    have hnm : meth.name = y.name := (name_of_methodNamed B.named B.method).1
    subst hsz
    have X : mX kn p l e (headSpec (Cond.code y cc nL ret :: ws') ({ frames := D, cells := r.2.2.1, slots := r.2.2.2, locals := 40 * D } : Room)).room s m (av.map (dv ρ)).toArray below meth c dC dI cy (va_A (dW ρ cy w) s.heap.size) ρ w.length (mQ dC dI cy ρ w s.heap.size r) (MQ below (mQ dC dI cy ρ w s.heap.size r) (av.map (dv ρ)).toArray s r.2.2.1 r.2.2.2 (va_A (dW ρ cy w) s.heap.size)) cc y.cls nL ws' D ret ini r :=
      ⟨⟨B.exec, B.bytes, hml, hown, fun w h => hts w (List.mem_cons_of_mem _ h)⟩, B.returns, B.notSynchronized, hK, fun q h => Or.inr h, ⟨Nat.le_refl _, Nat.le_refl _⟩, ⟨Nat.le_refl _, Nat.le_refl _⟩, fun h => by rw [hnm]; exact hin h, fun _ ρ' H locs t hag hln hP hD hS ht hW => ⟨⟨ρ', hag, hln, rfl, by rw [ht]; exact hP, hD⟩, hS.F ht⟩, ⟨fun _ h => h, hst⟩, fun h1 h2 => by
        rw [h2] at hv0
        cases vd with
        | false => cases hv0
        | true => exact absurd (hvd rfl) h1⟩
    have G := run_ok ht X n 0 _ hf
    have hl := lv_entry (av.map (dv ρ)) (n := nL) (by rw [lg_sl_len]; exact Nat.le_of_ble_eq_true hlen)
    rw [lg_entry_eq]
    rw [lv_args_dv] at hl
    exact G.2 s.heap [] _ ρ (fun _ _ => rfl) (Nat.le_refl _) hP hD0.self va_S.rf hl
  · cases hf
end
end
section
noncomputable section
-- ===== operations on ints that aren't known =====
/-- which of 0, 1 .. n - 1 it is, where that is known -/
def fv (kn : sKn) (u : UInt32) (n : Nat) : Option Int32 := Nat.rec (motive := fun _ => Option Int32) none (fun n ih => match kn.1 0 u (Int32.ofNat n) with
  | some true => some (Int32.ofNat n)
  | _ => ih) n
theorem fv_ok {kn : sKn} {u : UInt32} {c : Int32} (n : Nat) (h : fv kn u n = some c) : kn.1 0 u c = some true := by
  induction n with
  | zero => cases h
  | succ n ih =>
    have h : (match kn.1 0 u (Int32.ofNat n) with
      | some true => some (Int32.ofNat n)
      | _ => fv kn u n) = some c := h
    split at h
    · rename_i e
      cases h
      exact e
    · exact ih h
def a_kop (kn : sKn) (t : Nat) (q : List Value → Option (List Value)) (np : Nat) : sA := fun k ss => match ss.2.1 with
  | .int y :: .float u :: st => match kd t u y with
    | some u' => match fv kn u' 64 with
      | some c => k np (ss.1, .int c :: st, ss.2.2)
      | none => k np (ss.1, .float u' :: st, ss.2.2)
    | none => none
  | _ => a_stk q np k ss
theorem eq_of_bsem {b : Int32 → Int32 → Bool} (hbd : ∀ x y, b x y = decide (x = y)) (hbs : ∀ x y, bsem 0 x y = b x y) {x y : Int32} (h : bsem 0 x y = true) : x = y := of_decide_eq_true ((hbd x y).symm.trans ((hbs x y).symm.trans h))
theorem ok_kop {kn : sKn} {cc : ByteArray} {own : String} {nL : Nat} {Ts : List Cond} {D : Nat} {ret : Option FieldType} {ini : Bool} {pc np t : Nat} {q : List Value → Option (List Value)} (hf : stkOk cc pc np q) (hq : ∀ x y st, q (.int y :: .int x :: st) = some (.int (osem t x y) :: st)) : mOk kn cc own nL Ts D ret ini pc (a_kop kn t q np) := by
  intro p l e R s m args below meth c dC dI cy A ρ0 n0 Qc Q r X k hk ss h
  obtain ⟨lv, st, w, nc, ns⟩ := ss
  unfold a_kop at h
  split at h
  · rename_i y u st' hs
    dsimp only at hs
    subst hs
    split at h
    · rename_i u' hu
      split at h
      · rename_i c' hc
        have K := hk _ _ h
        refine ⟨K.1, fun H locs ls ρ hag hn hP hD hS hl => ?_⟩
        have e1 : vi ρ u' = osem t (vi ρ u) y := by
          rw [vi_ag (fun k hk => hag k (Or.inr hk)), vi_ag (fun k hk => hag k (Or.inr hk))]
          exact X.2.2.2.1.2.1.2.2.2 t u y u' hu
        have e2 : vi ρ u' = c' := eq_of_bsem b_eq_d bsem_0 (kn_at X.2.2.2.1.2.1.2.2 hag (fv_ok 64 hc))
        have G := K.2 H locs ls ρ hag hn hP hD hS hl
        refine hf p l e R s m args below meth c H locs nc ns _ ls ρ (.int y :: .int (vi ρ u) :: st') (.int (osem t (vi ρ u) y) :: st') X.1.1 X.1.2.1 (hq _ _ _) ?_
        rw [← e1, e2]
        exact G
      · have K := hk _ _ h
        refine ⟨K.1, fun H locs ls ρ hag hn hP hD hS hl => ?_⟩
        have e1 : vi ρ u' = osem t (vi ρ u) y := by
          rw [vi_ag (fun k hk => hag k (Or.inr hk)), vi_ag (fun k hk => hag k (Or.inr hk))]
          exact X.2.2.2.1.2.1.2.2.2 t u y u' hu
        have G := K.2 H locs ls ρ hag hn hP hD hS hl
        refine hf p l e R s m args below meth c H locs nc ns _ ls ρ (.int y :: .int (vi ρ u) :: st') (.int (osem t (vi ρ u) y) :: st') X.1.1 X.1.2.1 (hq _ _ _) ?_
        rw [← e1]
        exact G
    · cases h
  · exact ok_stk hf p l e R s m args below meth c dC dI cy A ρ0 n0 Qc Q r X k hk (lv, st, w, nc, ns) h
theorem ok_kushr {kn : sKn} {cc : ByteArray} {own : String} {nL : Nat} {Ts : List Cond} {D : Nat} {ret : Option FieldType} {ini : Bool} {pc : Nat} (hd : decode cc pc = .ok (.iushr, 1)) : mOk kn cc own nL Ts D ret ini pc (a_kop kn 0 q_iushr (pc + 1)) := ok_kop (s_iushr hd) (fun _ _ _ => rfl)
theorem ok_kand {kn : sKn} {cc : ByteArray} {own : String} {nL : Nat} {Ts : List Cond} {D : Nat} {ret : Option FieldType} {ini : Bool} {pc : Nat} (hd : decode cc pc = .ok (.iand, 1)) : mOk kn cc own nL Ts D ret ini pc (a_kop kn 1 q_iand (pc + 1)) := ok_kop (s_iand hd) (fun _ _ _ => rfl)
end
end
section
noncomputable section
-- ===== new arrays by kind; arrays of references; wide constants; what is never run =====
theorem di_rep (ρ : Nat → Nat) (N j : Nat) : di ρ ((List.replicate N (.int 0)).getD j .null) = 0 := by
  by_cases h : j < N
  · simp [List.getD, h, di]
  · simp [List.getD, h, di]
theorem dl_rep (N j : Nat) : dl ((List.replicate N (.long 0)).getD j .null) = 0 := by
  by_cases h : j < N
  · simp [List.getD, h, dl]
  · simp [List.getD, h, dl]
theorem dr_rep (ρ : Nat → Nat) (N j : Nat) : dr ρ ((List.replicate N .null).getD j .null) = none := by
  by_cases h : j < N
  · simp [List.getD, h, dr]
  · simp [List.getD, h, dr]
section OKNA
variable {kn : sKn} {cc : ByteArray} {own : String} {nL : Nat} {Ts : List Cond} {D : Nat} {ret : Option FieldType} {ini : Bool} {pc : Nat}
theorem ok_newI (hlink : Cond.arrayClass .int ∈ Ts) (hd : decode cc pc = .ok (.newarray .int, 2)) : mOk kn cc own nL Ts D ret ini pc (a_newa 1 (pc + 2)) :=
  ok_newa (ty := .int) rfl (fun _ => rfl) (fun cA N ρ cy => by simp only [dA, nuV, di_rep, vp_cell, defaultValue, List.length_replicate]) (by decide) (fun _ _ => rfl) hlink hd
theorem ok_newB (hlink : Cond.arrayClass .byte ∈ Ts) (hd : decode cc pc = .ok (.newarray .byte, 2)) : mOk kn cc own nL Ts D ret ini pc (a_newa 0 (pc + 2)) :=
  ok_newa (ty := .byte) rfl (fun _ => rfl) (fun cA N ρ cy => by simp only [dA, nuV, di_rep, vp_cell, defaultValue, List.length_replicate]) (by decide) (fun _ _ => rfl) hlink hd
theorem ok_newZ (hlink : Cond.arrayClass .boolean ∈ Ts) (hd : decode cc pc = .ok (.newarray .boolean, 2)) : mOk kn cc own nL Ts D ret ini pc (a_newa 3 (pc + 2)) :=
  ok_newa (ty := .boolean) rfl (fun _ => rfl) (fun cA N ρ cy => by simp only [dA, nuV, di_rep, vp_cell, defaultValue, List.length_replicate]) (by decide) (fun _ _ => rfl) hlink hd
theorem ok_newJ (hlink : Cond.arrayClass .long ∈ Ts) (hd : decode cc pc = .ok (.newarray .long, 2)) : mOk kn cc own nL Ts D ret ini pc (a_newa 2 (pc + 2)) :=
  ok_newa (ty := .long) rfl (fun _ => rfl) (fun cA N ρ cy => by simp only [dA, nuV, dl_rep, vp_cell, defaultValue, List.length_replicate]) (by decide) (fun _ _ => rfl) hlink hd
theorem ok_newq {C : String} {index t : Nat} (ht4 : 4 ≤ t) (ht : ∀ cy : Nat → ClassId, (mT cy)[t]? = some (cy t, .object C)) (hov : ∀ s : State, va_AO RX6 s ∧ va_AO RX7 s ∧ va_AO RX8 s → va_AO C s) (hlink : Cond.classLink own index C ∈ Ts) (hd : decode cc pc = .ok (.anewarray index, 3)) : mOk kn cc own nL Ts D ret ini pc (a_newa t (pc + 3)) := by
  intro p l e R s m args below meth c dC dI cy A ρ0 n0 Qc Q r X k hk ss h
  obtain ⟨lv, st, w, nc, ns⟩ := ss
  obtain ⟨t, rfl⟩ : ∃ u, t = u + 4 := ⟨t - 4, by omega⟩
  have hnu : nuV (t + 4) = .null := rfl
  unfold a_newa at h
  split at h
  · rename_i n st' hs
    dsimp only at hs
    subst hs
    split at h
    · rename_i hcnd
      obtain ⟨hw0, hn0, hn1⟩ := hcnd
      obtain ⟨w1, w2, w3, w4⟩ := wfS_p hw0
      dsimp only at w1 w2 w3 w4 h
      rw [xl_eq] at h
      have K := hk _ _ h
      have hb := K.1
      dsimp only at hb
      refine ⟨by dsimp only; omega, fun H locs ls ρ hag hn hP hD hS hl' => ?_⟩
      refine va_newq (D := (dC, dI)) X.1.1 X.1.2.1 X.1.2.2.2.1 (X.1.2.2.2.2 _ hlink) (hov s X.2.2.2.1.2.1.1) X.2.2.2.1.1 hP hD hS X.2.2.2.2.1 hn0 rfl (by omega) (Nat.le_trans hb.1 X.2.2.2.2.2.1.1) (Nat.le_trans hb.2 X.2.2.2.2.2.1.2) hd (fun q cA H1 hK1 hP1 hD1 hS1 => ?_)
      have ec : cA = cy (t + 4) := va_RA_one (hK1.2 (mT cy).length (cA, .object C) (by simp)).2 (X.2.2.2.1.1.2 (t + 4) _ (ht cy)).2
      subst ec
      have hwx : wfC w.length (.inl (t + 4, List.replicate n.toNatClampNeg (nuV (t + 4)))) = true := by
        show (match Nat.blt (t + 4) 4 with
          | true => true
          | false => xa (wfV w.length) (List.replicate n.toNatClampNeg (nuV (t + 4)))) = true
        rw [hnu, xa_eq]
        split
        · rfl
        · simp [wfV]
      have e1 : dW (ρup ρ w.length q) cy (w ++ [.inl (t + 4, List.replicate n.toNatClampNeg (nuV (t + 4)))]) = dW ρ cy w ++ [(q, .inl (cy (t + 4), n.toNatClampNeg, .inr (.inr (.inr (.inr (fun _ => none))))))] := by
        rw [dW_new w1 w4 hwx, hnu]
        simp only [dE, dA, dr_rep, List.length_replicate]
      have K2 := K.2 H1 locs ls (ρup ρ w.length q) (ag_tr (ag_up w1) hag hn) (by dsimp only; rw [List.length_append]; exact Nat.le_trans hn (Nat.le_add_right _ _)) (by dsimp only; rw [e1]; exact hP1) (by dsimp only; rw [e1]; exact hD1) hS1 (by dsimp only; rw [dL_ag (ag_up w1) w2]; exact hl')
      dsimp only at K2
      rw [List.map_cons, dv_agL (ag_up w1) w3] at K2
      have e2 : dv (ρup ρ w.length q) (.ref w.length) = .ref q := by simp [dv, ρup]
      rw [e2] at K2
      exact K2
    · cases h
  · cases h
theorem ok_ldcw {index : Nat} {v : Int32} (hlink : Cond.constant own index v ∈ Ts) (hd : decode cc pc = .ok (.ldc_w index, 3)) : mOk kn cc own nL Ts D ret ini pc (a_stk (q_int v) (pc + 3)) := by
  intro p l e R s m args below meth c dC dI cy A ρ0 n0 Qc Q r X k hk ss h
  have K := hk _ _ (show k (pc + 3) (ss.1, .int v :: ss.2.1, ss.2.2) = some r from h)
  exact ⟨K.1, fun H locs ls ρ hag hn hP hD hS hl => lv_ldcw X.1.1 X.1.2.1 X.1.2.2.2.1 (X.1.2.2.2.2 _ hlink) hd (K.2 H locs ls ρ hag hn hP hD hS hl)⟩
/-- what isn't told here -/
def a_none : sA := fun _ _ => none
theorem ok_none : mOk kn cc own nL Ts D ret ini pc a_none := by
  intro p l e R s m args below meth c dC dI cy A ρ0 n0 Qc Q r X k hk ss h
  cases h
/-- Math.max, Math.min, Math.abs -/
def a_mmax (np : Nat) : sA := fun k ss => match ss.2.1 with
  | .int y :: .int x :: st => if (st.map fun v => v.category).sum ≤ 8 then k np (ss.1, .int (if x < y then y else x) :: st, ss.2.2) else none
  | _ => none
def a_mmin (np : Nat) : sA := fun k ss => match ss.2.1 with
  | .int y :: .int x :: st => if (st.map fun v => v.category).sum ≤ 8 then k np (ss.1, .int (if y < x then y else x) :: st, ss.2.2) else none
  | _ => none
def a_mabs (np : Nat) : sA := fun k ss => match ss.2.1 with
  | .int x :: st => if (st.map fun v => v.category).sum ≤ 8 then k np (ss.1, .int (if 0 ≤ x then x else 0 - x) :: st, ss.2.2) else none
  | _ => none
theorem ok_mmax {index : Nat} (hD1 : 1 ≤ D) (hlink : Cond.methodLink own index Lib.Math.max.name ∈ Ts) (hst : Cond.static Lib.Math.max.name ∈ Ts) (hini : Cond.initialized "java/lang/Math" ∈ Ts) (hcode : Cond.code Lib.Math.max.name Lib.Math.max.code 2 (some .int) ∈ Ts) (hd : decode cc pc = .ok (.invokestatic index, 3)) : mOk kn cc own nL Ts D ret ini pc (a_mmax (pc + 3)) := by
  intro p l e R s m args below meth c dC dI cy A ρ0 n0 Qc Q r X k hk ss h
  obtain ⟨lv, st, w, nc, ns⟩ := ss
  have hfr : 1 ≤ R.frames := Nat.le_trans hD1 X.2.2.2.2.2.2.1.1
  have hlo : 40 ≤ R.locals := Nat.le_trans (by omega) X.2.2.2.2.2.2.1.2
  unfold a_mmax at h
  split at h
  · rename_i y x st' hs
    dsimp only at hs
    subst hs
    split at h
    · rename_i hc
      have K := hk _ _ h
      exact ⟨K.1, fun H locs ls ρ hag hn hP hD hS hl => va_mmax X.1.1 X.1.2.1 (X.1.2.2.1.trans hl.1.symm) X.1.2.2.2.1 (X.1.2.2.2.2 _ hlink) (X.1.2.2.2.2 _ hst) (X.1.2.2.2.2 _ hini) (X.1.2.2.2.2 _ hcode) hfr (by rw [cat_map]; omega) (Nat.le_trans K.1.1 X.2.2.2.2.2.1.1) (Nat.le_trans K.1.2 X.2.2.2.2.2.1.2) hd (K.2 H locs ls ρ hag hn hP hD hS hl)⟩
    · cases h
  · cases h
theorem ok_mmin {index : Nat} (hD1 : 1 ≤ D) (hlink : Cond.methodLink own index Lib.Math.min.name ∈ Ts) (hst : Cond.static Lib.Math.min.name ∈ Ts) (hini : Cond.initialized "java/lang/Math" ∈ Ts) (hcode : Cond.code Lib.Math.min.name Lib.Math.min.code 2 (some .int) ∈ Ts) (hd : decode cc pc = .ok (.invokestatic index, 3)) : mOk kn cc own nL Ts D ret ini pc (a_mmin (pc + 3)) := by
  intro p l e R s m args below meth c dC dI cy A ρ0 n0 Qc Q r X k hk ss h
  obtain ⟨lv, st, w, nc, ns⟩ := ss
  have hfr : 1 ≤ R.frames := Nat.le_trans hD1 X.2.2.2.2.2.2.1.1
  have hlo : 40 ≤ R.locals := Nat.le_trans (by omega) X.2.2.2.2.2.2.1.2
  unfold a_mmin at h
  split at h
  · rename_i y x st' hs
    dsimp only at hs
    subst hs
    split at h
    · rename_i hc
      have K := hk _ _ h
      exact ⟨K.1, fun H locs ls ρ hag hn hP hD hS hl => va_mmin X.1.1 X.1.2.1 (X.1.2.2.1.trans hl.1.symm) X.1.2.2.2.1 (X.1.2.2.2.2 _ hlink) (X.1.2.2.2.2 _ hst) (X.1.2.2.2.2 _ hini) (X.1.2.2.2.2 _ hcode) hfr (by rw [cat_map]; omega) (Nat.le_trans K.1.1 X.2.2.2.2.2.1.1) (Nat.le_trans K.1.2 X.2.2.2.2.2.1.2) hd (K.2 H locs ls ρ hag hn hP hD hS hl)⟩
    · cases h
  · cases h
theorem ok_mabs {index : Nat} (hD1 : 1 ≤ D) (hlink : Cond.methodLink own index Lib.Math.abs.name ∈ Ts) (hst : Cond.static Lib.Math.abs.name ∈ Ts) (hini : Cond.initialized "java/lang/Math" ∈ Ts) (hcode : Cond.code Lib.Math.abs.name Lib.Math.abs.code 1 (some .int) ∈ Ts) (hd : decode cc pc = .ok (.invokestatic index, 3)) : mOk kn cc own nL Ts D ret ini pc (a_mabs (pc + 3)) := by
  intro p l e R s m args below meth c dC dI cy A ρ0 n0 Qc Q r X k hk ss h
  obtain ⟨lv, st, w, nc, ns⟩ := ss
  have hfr : 1 ≤ R.frames := Nat.le_trans hD1 X.2.2.2.2.2.2.1.1
  have hlo : 40 ≤ R.locals := Nat.le_trans (by omega) X.2.2.2.2.2.2.1.2
  unfold a_mabs at h
  split at h
  · rename_i x st' hs
    dsimp only at hs
    subst hs
    split at h
    · rename_i hc
      have K := hk _ _ h
      exact ⟨K.1, fun H locs ls ρ hag hn hP hD hS hl => va_mabs X.1.1 X.1.2.1 (X.1.2.2.1.trans hl.1.symm) X.1.2.2.2.1 (X.1.2.2.2.2 _ hlink) (X.1.2.2.2.2 _ hst) (X.1.2.2.2.2 _ hini) (X.1.2.2.2.2 _ hcode) hfr (by rw [cat_map]; omega) (Nat.le_trans K.1.1 X.2.2.2.2.2.1.1) (Nat.le_trans K.1.2 X.2.2.2.2.2.1.2) hd (K.2 H locs ls ρ hag hn hP hD hS hl)⟩
    · cases h
  · cases h
end OKNA
def f_none : List Value → sW → Option sR := fun _ _ => none
theorem m_none {kn : sKn} {y : MethodName} {ws : List Cond} {D : Nat} {vd : Bool} : mM kn y ws D vd f_none := by
  intro l hst dC dI cy av w r h
  cases h
end
end
section
noncomputable section
-- ===== the String constant "gap" (number 1000002), its bytes (1000003); calls within java.lang's builder =====
def strV : List Value := [.int 103, .int 97, .int 112]
def strI (j : Nat) : Int32 := ([103, 97, 112] : List Int32).getD j 0
theorem strI_fit (j : Nat) : fits .byte (.int (strI j)) = true := by
  match j with
  | 0 => decide
  | 1 => decide
  | 2 => decide
  | n + 3 => exact (show fits .byte (.int 0) = true by decide)
theorem strI_eq (ρ : Nat → Nat) : (fun j => di ρ (strV.getD j .null)) = strI := by
  funext j
  match j with
  | 0 => rfl
  | 1 => rfl
  | 2 => rfl
  | n + 3 => rfl
theorem kn_at0 {D : va_G} {cl : List vw_C} {tys : List (ClassId × FieldType)} {s : State} {ci N : Nat} {C : String} {T : u_T} (hK : va_K D cl tys s) (hc : cl[ci]? = some (C, T, N)) : ClassAt s C (D.1 ci) := (hK.1 ci _ hc).2
theorem str_recv {kn : sKn} {dC : Nat → ClassId} {dI : Nat → Nat → Nat} {cy : Nat → ClassId} {ρ ρ0 : Nat → Nat} {A : Nat → Prop} {s : State} {H : Heap} {locs : List Loc} {n0 : Nat} (h : mK kn dC dI cy ρ0 A s s.heap) (hag : ag n0 ρ ρ0) (hS : va_S A s.heap H locs) : ∃ cell : Cell, H[ρ 1000002]? = some cell ∧ cell.vm.isStatics = false ∧ s.vm.findClass RJ0 = some cell.cls := by
  rw [hag 1000002 (Or.inr (by decide))]
  exact vk_recv (i := 0) (mK_str h) (by decide) hS
def a_ldcS (np : Nat) : sA := fun k ss => k np (ss.1, .ref 1000002 :: ss.2.1, ss.2.2)
def a_strf (v : Value) (np : Nat) : sA := fun k ss => match ss.2.1 with
  | .ref 1000002 :: st => k np (ss.1, v :: st, ss.2.2)
  | _ => none
def a_alenS (np : Nat) : sA := fun k ss => match ss.2.1 with
  | .ref 1000003 :: st => k np (ss.1, .int 3 :: st, ss.2.2)
  | _ => none
def a_ifnn (tgt np : Nat) : sA := fun k ss => match ss.2.1 with
  | .ref _ :: st => k tgt (ss.1, st, ss.2.2)
  | .null :: st => k np (ss.1, st, ss.2.2)
  | _ => none
def a_bret : sA := fun _ ss => match ss.2.1 with
  | [.int x] => match Nat.beq (ixN x) 0 with
    | true => some (some (.int 0), ss.2.2)
    | false => none
  | _ => none
def a_copyS (np : Nat) : sA := fun k ss => match ss.2.1 with
  | .int n :: .int dp :: .ref b :: .int sp :: .ref 1000003 :: st => match xg ss.2.2.1 b with
    | some (.inl (0, us)) => if ¬ sp < 0 ∧ ¬ dp < 0 ∧ ¬ n < 0 ∧ sp.toNatClampNeg + n.toNatClampNeg ≤ strV.length ∧ dp.toNatClampNeg + n.toNatClampNeg ≤ us.length ∧ (st.map fun v => v.category).sum ≤ 8 then k np (ss.1, st, xs ss.2.2.1 b (.inl (0, cpyL strV us sp.toNatClampNeg dp.toNatClampNeg n.toNatClampNeg)), ss.2.2.2) else none
    | _ => none
  | _ => none
def a_callVS (vd : Bool) (f : List Value → sW → Option sR) (na np : Nat) : sA := fun k ss => match c_ok ss na with
  | true => match (ss.2.1.take na).reverse with
    | .ref 1000002 :: as => a_back vd k np ss.1 (ss.2.1.drop na) ss.2.2.2.1 ss.2.2.2.2 (f (.ref 1000002 :: as) ss.2.2.1)
    | _ => none
  | false => none
section OKG
variable {kn : sKn} {cc : ByteArray} {own : String} {nL : Nat} {Ts : List Cond} {D : Nat} {ret : Option FieldType} {ini : Bool} {pc : Nat}
theorem ok_ldcS (hoe : own = RX11) (hd : decode cc pc = .ok (.ldc_w 350, 3)) : mOk kn cc own nL Ts D ret ini pc (a_ldcS (pc + 3)) := by
  subst hoe
  intro p l e R s m args below meth c dC dI cy A ρ0 n0 Qc Q r X k hk ss h
  obtain ⟨lv, st, w, nc, ns⟩ := ss
  have K := hk _ _ h
  refine ⟨K.1, fun H locs ls ρ hag hn hP hD hS hl => ?_⟩
  have e1 : ρ 1000002 = ρ0 1000002 := hag _ (Or.inr (by decide))
  have hR : vk_R "SignedBridge" 350 "gap" (ρ 1000002) s := by rw [e1]; exact mK_R X.2.2.2.1
  intro T hT X'
  obtain ⟨t, a1, b1⟩ := K.2 H locs ls ρ hag hn hP hD hS hl T hT X'
  exact ⟨t, Stand.ldcStringW X' X.1.1 X.1.2.2.2.1 (text := "gap") (a := ρ 1000002) hR.1 hR.2 (g := F0 m pc ls (st.map (dv ρ))) rfl (by rw [X.1.2.1]; exact hd) t a1, b1⟩
theorem ok_strV {index : Nat} (hlk : Cond.fieldLink own index "java/lang/String" "value" "[B" ∈ Ts) (hd : decode cc pc = .ok (.getfield index, 3)) : mOk kn cc own nL Ts D ret ini pc (a_strf (.ref 1000003) (pc + 3)) := by
  intro p l e R s m args below meth c dC dI cy A ρ0 n0 Qc Q r X k hk ss h
  obtain ⟨lv, st, w, nc, ns⟩ := ss
  unfold a_strf at h
  split at h
  · rename_i st' hs
    dsimp only at hs
    subst hs
    have K := hk _ _ h
    refine ⟨K.1, fun H locs ls ρ hag hn hP hD hS hl => ?_⟩
    have e1 : ρ 1000002 = ρ0 1000002 := hag _ (Or.inr (by decide))
    have e2 : ρ 1000003 = ρ0 1000003 := hag _ (Or.inr (by decide))
    have hv := (mK_str X.2.2.2.1).1 0 (by decide)
    have G : W p l e R s m args below meth c H locs nc ns Q (F0 m (pc + 3) ls (.ref (ρ 1000003) :: st'.map (dv ρ))) := K.2 H locs ls ρ hag hn hP hD hS hl
    show W p l e R s m args below meth c H locs nc ns Q (F0 m pc ls (.ref (ρ 1000002) :: st'.map (dv ρ)))
    rw [e2] at G
    rw [e1]
    exact vk_getf X.1.1 X.1.2.1 hv.2.2.1 hS X.1.2.2.2.1 (X.1.2.2.2.2 _ hlk) (fun _ h => h) hd G
  · cases h
theorem ok_strC {index : Nat} (hlk : Cond.fieldLink own index "java/lang/String" "coder" "B" ∈ Ts) (hd : decode cc pc = .ok (.getfield index, 3)) : mOk kn cc own nL Ts D ret ini pc (a_strf (.int 0) (pc + 3)) := by
  intro p l e R s m args below meth c dC dI cy A ρ0 n0 Qc Q r X k hk ss h
  obtain ⟨lv, st, w, nc, ns⟩ := ss
  unfold a_strf at h
  split at h
  · rename_i st' hs
    dsimp only at hs
    subst hs
    have K := hk _ _ h
    refine ⟨K.1, fun H locs ls ρ hag hn hP hD hS hl => ?_⟩
    have e1 : ρ 1000002 = ρ0 1000002 := hag _ (Or.inr (by decide))
    have hv := (mK_str X.2.2.2.1).1 0 (by decide)
    have G : W p l e R s m args below meth c H locs nc ns Q (F0 m (pc + 3) ls (.int 0 :: st'.map (dv ρ))) := K.2 H locs ls ρ hag hn hP hD hS hl
    show W p l e R s m args below meth c H locs nc ns Q (F0 m pc ls (.ref (ρ 1000002) :: st'.map (dv ρ)))
    rw [e1]
    exact vk_getf X.1.1 X.1.2.1 hv.2.1 hS X.1.2.2.2.1 (X.1.2.2.2.2 _ hlk) (fun _ h => h) hd G
  · cases h
theorem ok_alenS (hd : decode cc pc = .ok (.arraylength, 1)) : mOk kn cc own nL Ts D ret ini pc (a_alenS (pc + 1)) := by
  intro p l e R s m args below meth c dC dI cy A ρ0 n0 Qc Q r X k hk ss h
  obtain ⟨lv, st, w, nc, ns⟩ := ss
  unfold a_alenS at h
  split at h
  · rename_i st' hs
    dsimp only at hs
    subst hs
    have K := hk _ _ h
    refine ⟨K.1, fun H locs ls ρ hag hn hP hD hS hl => ?_⟩
    have e2 : ρ 1000003 = ρ0 1000003 := hag _ (Or.inr (by decide))
    have hv := (mK_str X.2.2.2.1).1 0 (by decide)
    have G : W p l e R s m args below meth c H locs nc ns Q (F0 m (pc + 1) ls (.int 3 :: st'.map (dv ρ))) := K.2 H locs ls ρ hag hn hP hD hS hl
    show W p l e R s m args below meth c H locs nc ns Q (F0 m pc ls (.ref (ρ 1000003) :: st'.map (dv ρ)))
    rw [e2]
    exact va_tlen X.1.1 X.1.2.1 hv.2.2.2 hS (v := 3) rfl hd G
  · cases h
theorem ok_ifnn {off : Int} {tgt : Nat} (hd : decode cc pc = .ok (.ifnonnull off, 3)) (ht : (pc : Int) + off = (tgt : Int)) : mOk kn cc own nL Ts D ret ini pc (a_ifnn tgt (pc + 3)) := by
  intro p l e R s m args below meth c dC dI cy A ρ0 n0 Qc Q r X k hk ss h
  obtain ⟨lv, st, w, nc, ns⟩ := ss
  unfold a_ifnn at h
  split at h
  · rename_i x st' hs
    dsimp only at hs
    subst hs
    have K := hk _ _ h
    exact ⟨K.1, fun H locs ls ρ hag hn hP hD hS hl => lv_ifnonnull X.1.1 X.1.2.1 hd ht (K.2 H locs ls ρ hag hn hP hD hS hl)⟩
  · rename_i st' hs
    dsimp only at hs
    subst hs
    have K := hk _ _ h
    exact ⟨K.1, fun H locs ls ρ hag hn hP hD hS hl => lv_ifnonnullN X.1.1 X.1.2.1 hd (K.2 H locs ls ρ hag hn hP hD hS hl)⟩
  · cases h
theorem ok_bret (hd : decode cc pc = .ok (.ireturn, 1)) : mOk kn cc own nL Ts D (some .byte) ini pc a_bret := by
  intro p l e R s m args below meth c dC dI cy A ρ0 n0 Qc Q r X k hk ss h
  obtain ⟨lv, st, w, nc, ns⟩ := ss
  unfold a_bret at h
  split at h
  · rename_i x hs
    dsimp only at hs
    subst hs
    split at h
    · rename_i hx
      have hx : x = 0 := ixN_inj (Nat.eq_of_beq_eq_true hx)
      subst hx
      cases h
      have hlocks := X.2.2.1
      exact ⟨⟨Nat.le_refl _, Nat.le_refl _⟩, fun H locs ls ρ hag hn hP hD hS hl => w_mono X.2.2.2.2.2.2.2.2.2.1.1 (W.zret X.1.1 X.1.2.1 X.2.1 rfl (fun t ht hW => X.2.2.2.2.2.2.2.2.1 (Or.inr (fun z => by cases z)) ρ H locs t hag hn hP hD hS ht hW) hS.2.2 hd)⟩
    · cases h
  · cases h
theorem ok_copyS {index : Nat} (hD1 : 1 ≤ D) (hlink : Cond.methodLink own index arraycopyName ∈ Ts) (hnat : Cond.native arraycopyName ∈ Ts) (hstat : Cond.static arraycopyName ∈ Ts) (hini : Cond.initialized "java/lang/System" ∈ Ts) (hd : decode cc pc = .ok (.invokestatic index, 3)) : mOk kn cc own nL Ts D ret ini pc (a_copyS (pc + 3)) := by
  intro p l e R s m args below meth c dC dI cy A ρ0 n0 Qc Q r X k hk ss h
  obtain ⟨lv, st, w, nc, ns⟩ := ss
  have hfr : 1 ≤ R.frames := Nat.le_trans hD1 X.2.2.2.2.2.2.1.1
  have hlo : 40 ≤ R.locals := Nat.le_trans (by omega) X.2.2.2.2.2.2.1.2
  unfold a_copyS at h
  split at h
  · rename_i n dp b sp st' hs
    dsimp only at hs
    subst hs
    split at h
    · rename_i us hw2
      rw [xg_eq] at hw2
      simp only [xs_eq] at h
      split at h
      · rename_i hc
        obtain ⟨c1, c2, c3, c4, c5, c6⟩ := hc
        have K := hk _ _ h
        refine ⟨K.1, fun H locs ls ρ hag hn hP hD hS hl => ?_⟩
        have e2 : ρ 1000003 = ρ0 1000003 := hag _ (Or.inr (by decide))
        have hv : va_T .byte (ρ0 1000003) 3 (fun j => .int (strI j)) A s s.heap := ((mK_str X.2.2.2.1).1 0 (by decide)).2.2.2
        rw [← e2] at hv
        refine vk_copyt X.1.1 X.1.2.1 (X.1.2.2.1.trans hl.1.symm) X.1.2.2.2.1 (X.1.2.2.2.2 _ hlink) (X.1.2.2.2.2 _ hnat) (X.1.2.2.2.2 _ hstat) (X.1.2.2.2.2 _ hini) X.2.2.2.1.1 hP hD hS hv b 0 (dW_get hw2) rfl c1 c2 c3 c4 c5 (fun i _ => strI_fit _) hfr (nfw_ok (by rw [cat_map]; exact c6) hlo) hd (fun H1 locs1 hP1 hD1 hS1 => ?_)
        have e1 : dW ρ cy (w.set b (.inl (0, cpyL strV us sp.toNatClampNeg dp.toNatClampNeg n.toNatClampNeg))) = (dW ρ cy w).set b (ρ b, .inl (cy 0, us.length, .inl (va_cpy strI (fun j => di ρ (us.getD j .null)) sp.toNatClampNeg dp.toNatClampNeg n.toNatClampNeg))) := by
          rw [dW_set, ← strI_eq ρ, ← di_cpy c4 c5]
          simp only [dE, dA, cpyL_len c4 c5]
        exact K.2 H1 locs1 ls ρ hag (by simpa using hn) (by dsimp only; rw [e1]; exact hP1) (by dsimp only; rw [e1]; exact hD1) hS1 hl
      · cases h
    · cases h
  · cases h
theorem ok_callVP {y : MethodName} {bytes : ByteArray} {maxL : Nat} {rt : Option FieldType} {ws' : List Cond} {D' index na ci : Nat} {T : u_T} {N : Nat} {vd : Bool} {f : List Value → sW → Option sR} (hM : mM kn y (Cond.code y bytes maxL rt :: ws') D' vd f) (hG : GoodIn Ts (Cond.code y bytes maxL rt :: ws')) (hDD : D' + 1 ≤ D) (hml : maxL ≤ 21) (hlink : Cond.methodLink own index y ∈ Ts) (hin : Cond.instanceMethod y ∈ Ts) (hsel : y ∈ privS) (hini : Cond.initialized y.cls ∈ Ts) (hy : y.cls ≠ "java/lang/invoke/MethodHandle" ∧ y.cls ≠ "java/lang/invoke/VarHandle" ∧ (parseMethodDescriptor y.desc).map (fun d => d.parameters.length) = some na) (hc : vwCl[ci]? = some (RJ4, T, N)) (hd : decode cc pc = .ok (.invokevirtual index, 3)) : mOk kn cc own nL Ts D ret ini pc (a_callV vd f ci (na + 1) (pc + 3)) := by
  intro p l e R s m args below meth c dC dI cy A ρ0 n0 Qc Q r X k hk ss h
  obtain ⟨lv, st, w, nc, ns⟩ := ss
  unfold a_callV at h
  split at h
  · rename_i hok
    obtain ⟨k1, k2, k3, k4⟩ := c_ok_p hok
    dsimp only at k1 k2 k3 k4 h
    split at h
    · rename_i h0 as hst
      split at h
      · rename_i c' fs hw
        split at h
        · rename_i e'
          subst e'
          rw [xg_eq] at hw
          unfold a_back at h
          split at h
          · rename_i r1 hf
            split at h
            case h_2 => cases h
            rename_i hvd
            have K := hk _ _ h
            have hb := K.1
            dsimp only at hb
            refine ⟨by dsimp only; omega, fun H locs ls ρ hag hn hP hD hS hl => ?_⟩
            dsimp only at hn hP hD hl ⊢
            have hsub := va_A_sub (dC := dC) hD hS X.2.2.2.2.1
            have hcb : CallB R s args own index y bytes maxL rt (Cond.code y bytes maxL rt :: ws') { frames := D', cells := r1.2.2.1, slots := r1.2.2.2, locals := 40 * D' } r1.2.2.1 r1.2.2.2 na :=
              callB_of na X.1.2.2.2.2 hG rfl rfl rfl (X.1.2.2.2.2 _ hini) (X.1.2.2.2.2 _ hlink) hy ⟨Nat.le_trans hDD X.2.2.2.2.2.2.1.1, by have := X.2.2.2.2.2.2.1.2; show 8 + (maxL + 11) + 40 * D' ≤ _; omega⟩
            have hlen : as.length = na := by
              have e1 := congrArg List.length hst
              simp at e1
              omega
            have hstk : st.map (dv ρ) = (as.map (dv ρ)).reverse ++ .ref (ρ h0) :: (st.drop (na + 1)).map (dv ρ) := by
              have e1 : st.take (na + 1) = as.reverse ++ [.ref h0] := by
                have e2 := congrArg List.reverse hst
                rw [List.reverse_reverse, List.reverse_cons] at e2
                exact e2
              conv => lhs; rw [← List.take_append_drop (na + 1) st, e1]
              simp [dv]
            refine z_call (va_runV (As := as.map (dv ρ)) (b := ρ h0) (rest := (st.drop (na + 1)).map (dv ρ)) X.1 (hM l X.2.2.2.2.2.2.2.2.2.1.2 dC dI cy _ w r1 hf hvd ρ H.size) ⟨hcb, X.1.2.2.2.2 _ hin, mK_sel X.2.2.2.1 hsel args⟩ ⟨mPc_blind, va_recv X.2.2.2.1.1 hP hc (dW_get hw), fun U hU hW => ⟨rfl, by rw [hU], by rw [hU]; exact hP, mK_move X.2.2.2.1 hW.alike (mN_warm hW) hsub (fun q h1 h2 => by rw [hU]; exact hS.2.1 q h1 h2) (fun k hk => hag k (Or.inr hk)), hD.weaken (fun _ _ _ _ => trivial)⟩⟩ rfl (by simpa using hlen) hl.1 hstk (lv_room (by rw [cat_map]; exact k2)) hd ⟨Nat.le_trans hb.1 X.2.2.2.2.2.1.1, Nat.le_trans hb.2 X.2.2.2.2.2.1.2⟩) hS hsub (fun ρ' H1 locs1 hag1 hln hP1 hD1 hS1 => ?_)
            exact z_cont K.2 hag hn hag1 hln hP1 hD1 hS1 hl k3 k4
          · cases h
        · cases h
      · cases h
    · cases h
  · cases h
theorem ok_callSup {y : MethodName} {bytes : ByteArray} {maxL : Nat} {rt : Option FieldType} {ws' : List Cond} {D' index na ci : Nat} {C : String} {T : u_T} {N : Nat} {vd : Bool} {f : List Value → sW → Option sR} (hM : mM kn y (Cond.code y bytes maxL rt :: ws') D' vd f) (hG : GoodIn Ts (Cond.code y bytes maxL rt :: ws')) (hDD : D' + 1 ≤ D) (hml : maxL ≤ 21) (hlink : Cond.methodLink own index y ∈ Ts) (hin : Cond.instanceMethod y ∈ Ts) (hsam : Cond.sameMethod y.cls y.cls y.name y.desc ∈ Ts) (hsup : Cond.superclass own y.cls ∈ Ts) (hno : y.name ≠ "<init>") (hini : Cond.initialized y.cls ∈ Ts) (hy : y.cls ≠ "java/lang/invoke/MethodHandle" ∧ y.cls ≠ "java/lang/invoke/VarHandle" ∧ (parseMethodDescriptor y.desc).map (fun d => d.parameters.length) = some na) (hc : vwCl[ci]? = some (C, T, N)) (hd : decode cc pc = .ok (.invokespecial index, 3)) : mOk kn cc own nL Ts D ret ini pc (a_callV vd f ci (na + 1) (pc + 3)) := by
  intro p l e R s m args below meth c dC dI cy A ρ0 n0 Qc Q r X k hk ss h
  obtain ⟨lv, st, w, nc, ns⟩ := ss
  unfold a_callV at h
  split at h
  · rename_i hok
    obtain ⟨k1, k2, k3, k4⟩ := c_ok_p hok
    dsimp only at k1 k2 k3 k4 h
    split at h
    · rename_i h0 as hst
      split at h
      · rename_i c' fs hw
        split at h
        · rename_i e'
          subst e'
          rw [xg_eq] at hw
          unfold a_back at h
          split at h
          · rename_i r1 hf
            split at h
            case h_2 => cases h
            rename_i hvd
            have K := hk _ _ h
            have hb := K.1
            dsimp only at hb
            refine ⟨by dsimp only; omega, fun H locs ls ρ hag hn hP hD hS hl => ?_⟩
            dsimp only at hn hP hD hl ⊢
            have hsub := va_A_sub (dC := dC) hD hS X.2.2.2.2.1
            have hcs : va_CS R s args own index y bytes maxL rt (Cond.code y bytes maxL rt :: ws') { frames := D', cells := r1.2.2.1, slots := r1.2.2.2, locals := 40 * D' } r1.2.2.1 r1.2.2.2 na := by
              have hcm : Cond.code y bytes maxL rt ∈ Cond.code y bytes maxL rt :: ws' := List.mem_cons_self
              refine ⟨⟨rfl, rfl, Nat.le_trans hDD X.2.2.2.2.2.2.1.1, by have := X.2.2.2.2.2.2.1.2; show 8 + (maxL + 11) + 40 * D' ≤ _; omega, pay_in X.1.2.2.2.2 hG, hcm⟩, X.1.2.2.2.2 _ hlink, X.1.2.2.2.2 _ hsam, X.1.2.2.2.2 _ hsup, X.1.2.2.2.2 _ hin, X.1.2.2.2.2 _ hini, X.1.2.2.2.2 _ (hG _ hcm).1, hno, fun sig h => ?_⟩
              have h2 := hy.2.2
              rw [h] at h2
              exact (Option.some.inj h2).symm
            have hlen : as.length = na := by
              have e1 := congrArg List.length hst
              simp at e1
              omega
            have hstk : st.map (dv ρ) = (as.map (dv ρ)).reverse ++ .ref (ρ h0) :: (st.drop (na + 1)).map (dv ρ) := by
              have e1 : st.take (na + 1) = as.reverse ++ [.ref h0] := by
                have e2 := congrArg List.reverse hst
                rw [List.reverse_reverse, List.reverse_cons] at e2
                exact e2
              conv => lhs; rw [← List.take_append_drop (na + 1) st, e1]
              simp [dv]
            refine z_call (va_runSU (kn_at0 X.2.2.2.1.1 hc) (As := as.map (dv ρ)) (b := ρ h0) (rest := (st.drop (na + 1)).map (dv ρ)) X.1 (hM l X.2.2.2.2.2.2.2.2.2.1.2 dC dI cy _ w r1 hf hvd ρ H.size) hcs ⟨mPc_blind, va_recv X.2.2.2.1.1 hP hc (dW_get hw), fun U hU hW => ⟨rfl, by rw [hU], by rw [hU]; exact hP, mK_move X.2.2.2.1 hW.alike (mN_warm hW) hsub (fun q h1 h2 => by rw [hU]; exact hS.2.1 q h1 h2) (fun k hk => hag k (Or.inr hk)), hD.weaken (fun _ _ _ _ => trivial)⟩⟩ rfl (by simpa using hlen) hl.1 hstk (lv_room (by rw [cat_map]; exact k2)) hd ⟨Nat.le_trans hb.1 X.2.2.2.2.2.1.1, Nat.le_trans hb.2 X.2.2.2.2.2.1.2⟩) hS hsub (fun ρ' H1 locs1 hag1 hln hP1 hD1 hS1 => ?_)
            exact z_cont K.2 hag hn hag1 hln hP1 hD1 hS1 hl k3 k4
          · cases h
        · cases h
      · cases h
    · cases h
  · cases h
theorem ok_callVS {y : MethodName} {bytes : ByteArray} {maxL : Nat} {rt : Option FieldType} {ws' : List Cond} {D' index na : Nat} {vd : Bool} {f : List Value → sW → Option sR} (hM : mM kn y (Cond.code y bytes maxL rt :: ws') D' vd f) (hG : GoodIn Ts (Cond.code y bytes maxL rt :: ws')) (hDD : D' + 1 ≤ D) (hml : maxL ≤ 21) (hlink : Cond.methodLink own index y ∈ Ts) (hin : Cond.instanceMethod y ∈ Ts) (hsel : Cond.selects RJ0 y y ∈ Ts) (hini : Cond.initialized y.cls ∈ Ts) (hy : y.cls ≠ "java/lang/invoke/MethodHandle" ∧ y.cls ≠ "java/lang/invoke/VarHandle" ∧ (parseMethodDescriptor y.desc).map (fun d => d.parameters.length) = some na) (hd : decode cc pc = .ok (.invokevirtual index, 3)) : mOk kn cc own nL Ts D ret ini pc (a_callVS vd f (na + 1) (pc + 3)) := by
  intro p l e R s m args below meth c dC dI cy A ρ0 n0 Qc Q r X k hk ss h
  obtain ⟨lv, st, w, nc, ns⟩ := ss
  unfold a_callVS at h
  split at h
  · rename_i hok
    obtain ⟨k1, k2, k3, k4⟩ := c_ok_p hok
    dsimp only at k1 k2 k3 k4 h
    split at h
    · rename_i as hst
      unfold a_back at h
      split at h
      · rename_i r1 hf
        split at h
        case h_2 => cases h
        rename_i hvd
        have K := hk _ _ h
        have hb := K.1
        dsimp only at hb
        refine ⟨by dsimp only; omega, fun H locs ls ρ hag hn hP hD hS hl => ?_⟩
        dsimp only at hn hP hD hl ⊢
        have hsub := va_A_sub (dC := dC) hD hS X.2.2.2.2.1
        have hcb : CallB R s args own index y bytes maxL rt (Cond.code y bytes maxL rt :: ws') { frames := D', cells := r1.2.2.1, slots := r1.2.2.2, locals := 40 * D' } r1.2.2.1 r1.2.2.2 na :=
          callB_of na X.1.2.2.2.2 hG rfl rfl rfl (X.1.2.2.2.2 _ hini) (X.1.2.2.2.2 _ hlink) hy ⟨Nat.le_trans hDD X.2.2.2.2.2.2.1.1, by have := X.2.2.2.2.2.2.1.2; show 8 + (maxL + 11) + 40 * D' ≤ _; omega⟩
        have hlen : as.length = na := by
          have e1 := congrArg List.length hst
          simp at e1
          omega
        have hstk : st.map (dv ρ) = (as.map (dv ρ)).reverse ++ .ref (ρ 1000002) :: (st.drop (na + 1)).map (dv ρ) := by
          have e1 : st.take (na + 1) = as.reverse ++ [.ref 1000002] := by
            have e2 := congrArg List.reverse hst
            rw [List.reverse_reverse, List.reverse_cons] at e2
            exact e2
          conv => lhs; rw [← List.take_append_drop (na + 1) st, e1]
          simp [dv]
        refine z_call (va_runV (As := as.map (dv ρ)) (b := ρ 1000002) (rest := (st.drop (na + 1)).map (dv ρ)) X.1 (hM l X.2.2.2.2.2.2.2.2.2.1.2 dC dI cy _ w r1 hf hvd ρ H.size) ⟨hcb, X.1.2.2.2.2 _ hin, X.1.2.2.2.2 _ hsel⟩ ⟨mPc_blind, str_recv X.2.2.2.1 hag hS, fun U hU hW => ⟨rfl, by rw [hU], by rw [hU]; exact hP, mK_move X.2.2.2.1 hW.alike (mN_warm hW) hsub (fun q h1 h2 => by rw [hU]; exact hS.2.1 q h1 h2) (fun k hk => hag k (Or.inr hk)), hD.weaken (fun _ _ _ _ => trivial)⟩⟩ rfl (by simpa using hlen) hl.1 hstk (lv_room (by rw [cat_map]; exact k2)) hd ⟨Nat.le_trans hb.1 X.2.2.2.2.2.1.1, Nat.le_trans hb.2 X.2.2.2.2.2.1.2⟩) hS hsub (fun ρ' H1 locs1 hag1 hln hP1 hD1 hS1 => ?_)
        exact z_cont K.2 hag hn hag1 hln hP1 hD1 hS1 hl k3 k4
      · cases h
    · cases h
  · cases h
end OKG
/-- a private method is the one that is run, on whatever object -/
theorem sel_priv {C : String} {y : MethodName} {s : State} {args : Array Value} {n : Nat} (hy : y.cls ≠ "java/lang/invoke/MethodHandle" ∧ y.cls ≠ "java/lang/invoke/VarHandle") (hins : (Cond.instantiable C n).before args s = true) (hself : (Cond.selects y.cls y y).before args s = true) (hpriv : (Cond.privateMethod y).before args s = true) (hinst : (Cond.instanceMethod y).before args s = true) : (Cond.selects C y y).before args s = true := by
  obtain ⟨c, k, hc, hk, -, hniab, -, -⟩ := Cond.instantiable_spec hins
  obtain ⟨mk, methM, hnamed, hmethM, -, -⟩ := Cond.instanceMethod_spec hinst
  have hfound : s.methodFound? y.cls y.name y.desc = some mk := State.methodFound?_of_named hnamed hy
  have hsel : selectMethod {} s.vm c mk = .method mk := selectMethod_private hmethM (Cond.privateMethod_at hpriv mk methM hnamed hmethM)
  have hcls : s.vm.findClass y.cls = some mk.cls := findClass_of_methodNamed hnamed
  have hsel0 : selectMethod {} s.vm mk.cls mk = .method mk := selectMethod_private hmethM (Cond.privateMethod_at hpriv mk methM hnamed hmethM)
  simp only [Cond.before, Cond.holds, Cond.value, hcls, hfound, hnamed, hsel0] at hself
  simp only [Cond.before, Cond.holds, Cond.value, hc, hfound, hnamed, hsel]
  exact hself
end
end
section
noncomputable section
-- ===== methods that throw NoSuchElementException; a call of such a one where it is caught =====
theorem table_nil {c : Code} (h : ∀ x ∈ c.exceptionTable.toList, False) : c.exceptionTable.toList = [] := List.eq_nil_iff_forall_not_mem.mpr h
abbrev NSE : String := "java/util/NoSuchElementException"
abbrev nseN : List String := ["java/lang/RuntimeException", "java/lang/Exception"]
def a_throw : sA := fun _ ss => match Nat.ble (ss.2.1.map fun v => v.category).sum 8 with
  | true => some (none, ss.2.2.1, ss.2.2.2.1 + 1, ss.2.2.2.2 + 6)
  | false => none
theorem nse_ng : ∀ w ∈ (vx_at0 RX11 156 NSE nseN).filter (fun w => !goodWord w), w ∈ Cond.castable NSE NSE :: nseD.map Cond.declares := by decide +kernel
theorem nse_ot : ∀ w ∈ Cond.classLink RX11 154 NSE :: Cond.initialized NSE :: vx_at0 RX11 156 NSE nseN, vx_ot w = true := by decide +kernel
theorem ok_throw {kn : sKn} {cc : ByteArray} {nL : Nat} {Ts : List Cond} {D : Nat} {ini : Bool} {pc : Nat} (hD6 : 6 ≤ D) (hk : Cond.classLink RX11 154 NSE ∈ Ts) (hini : Cond.initialized NSE ∈ Ts) (hat : ∀ w ∈ (vx_at0 RX11 156 NSE nseN).filter goodWord, w ∈ Ts) (d0 : decode cc pc = .ok (.new 154, 3)) (d3 : decode cc (pc + 3) = .ok (.dup, 1)) (d4 : decode cc (pc + 4) = .ok (.invokespecial 156, 3)) (d7 : decode cc (pc + 7) = .ok (.athrow, 1)) : mOk kn cc RX11 nL Ts D (some .int) ini pc a_throw := by
  intro p l e R s m args below meth c dC dI cy A ρ0 n0 Qc Q r X k hk' ss h
  obtain ⟨lv, st, w, nc, ns⟩ := ss
  unfold a_throw at h
  split at h
  · rename_i hc
    have hc := Nat.ble_eq.mp hc
    cases h
    obtain ⟨hl, htb, Q', XC, rfl, hx⟩ := X.2.2.2.2.2.2.2.2.2.2 (fun z => by cases z) rfl
    refine ⟨⟨Nat.le_add_right _ _, Nat.le_add_right _ _⟩, fun H locs ls ρ hag hn hP hD hS hl' => ?_⟩
    have hfr := X.2.2.2.2.2.2.1.1
    have hlo := X.2.2.2.2.2.2.1.2
    dsimp only at hc hl' ⊢
    exact vx_throw0 (own := RX11) (cls := NSE) (names := nseN) (ik := 154) (ic := 156) X.1.1 X.1.2.1 hl X.1.2.2.2.1 (by decide +kernel) (by decide +kernel) (X.1.2.2.2.2 _ hk) (X.1.2.2.2.2 _ hini) (vx_hat (fun w hw => X.1.2.2.2.2 _ (hat w hw)) nse_ng (vx_c (va_Nw.use rfl X.2.2.2.1.2.1.2.1.2.2.1) (fun w hw => by
      obtain ⟨q, hq, rfl⟩ := List.mem_map.mp hw
      exact va_Nw.use rfl (X.2.2.2.1.2.1.2.1.2.2.2.1 q hq)))) nse_ot X.2.2.2.1.2.2.2.2.2.2.2.2.1 X.2.2.2.1.2.2.2.2.2.2.2.2.2.1 hS (hl'.1.trans X.1.2.2.1.symm) d0 d3 d4 d7 (by rw [htb]; intro x hx; cases hx) (by show 2 + 3 < _; omega) (by rw [cat_map]; show _ + (13 * (2 + 1) + 42) ≤ _; omega) X.2.2.2.2.2.1.1 X.2.2.2.2.2.1.2 X.2.2.1 (fun t h1 h2 h3 => hx ρ H locs t hag hn hP hD hS h1 h2 h3) hS.2.2 (Nat.le_refl _) (Nat.le_refl _)
  · cases h
/-- where a method has thrown: what is so then -/
def mQx (dC : Nat → ClassId) (dI : Nat → Nat → Nat) (cy : Nat → ClassId) (ρ : Nat → Nat) (w : sW) (sz : Nat) (r : sR) : String → State → State → Prop := fun E st t =>
  r.1 = none ∧ E = NSE ∧ (∃ ρ' : Nat → Nat, ag w.length ρ' ρ ∧ w.length ≤ r.2.1.length ∧ va_P (dC, dI) vwCl (dW ρ' cy r.2.1) t.heap ∧ va_D (va_A (dW ρ cy w) sz) (dW ρ' cy r.2.1)) ∧ va_F (va_A (dW ρ cy w) sz) st t
/-- the function f says what method y does, which answers an int or throws (the answer is none then) -/
def mV (kn : sKn) (y : MethodName) (ws : List Cond) (D : Nat) (f : List Value → sW → Option sR) : Prop :=
  ∀ (l : Launch) (dC : Nat → ClassId) (dI : Nat → Nat → Nat) (cy : Nat → ClassId) (av : List Value) (w : sW) (r : sR), l.stackTraces = false → f av w = some r → ∀ (ρ : Nat → Nat) (sz : Nat),
    vx_Met l y ws ({ frames := D, cells := r.2.2.1, slots := r.2.2.2, locals := 40 * D }) (mPc kn dC dI cy ρ av w sz) (fun a st o t => r.1 ≠ none ∧ mQ dC dI cy ρ w sz r a st o t) (mQx dC dI cy ρ w sz r) r.2.2.1 r.2.2.2 (va_A (dW ρ cy w) sz)
theorem va_K_P_old {A : Nat → Prop} {dC : Nat → ClassId} {dI : Nat → Nat → Nat} {ws : va_W} {H H1 : Heap} (hP : va_P (dC, dI) vwCl ws H) (h : ∀ q : Nat, q < H.size → H1[q]? = H[q]?) : va_P (dC, dI) vwCl ws H1 := hP.kept (fun k q hk => h q.1 (hP k q hk).lt)
theorem mV_of {kn : sKn} {y : MethodName} {cc : ByteArray} {nL : Nat} {ws' : List Cond} {D : Nat} {own : String} {tbl : List (Nat × sA)} (ho : y.cls = own) (hpl : plainName y.cls = true) (ht : tOk kn cc own nL ws' D (some .int) false tbl) (n : Nat) : mV kn y (Cond.code y cc nL (some .int) :: ws') D (mF tbl nL n) := by
  subst ho
  intro l dC dI cy av w r hst hf ρ sz
  unfold mF at hf
  split at hf
  · rename_i hlen
    refine vx_ofW (cc := cc) (maxL := nL) (ret := some .int) hpl rfl ?_
    intro p e s m args below meth c s₁ B hml htab hv
    obtain ⟨rfl, hsz, hP, hK, hD0⟩ := hv
    have hts := atoms_spec (ws := Cond.code y cc nL (some .int) :: ws') B.pre
    have hown : s.vm.findClass y.cls = some m.cls := findClass_of_methodNamed B.named
    subst hsz
    have X : mX kn p l e (headSpec (Cond.code y cc nL (some .int) :: ws') ({ frames := D, cells := r.2.2.1, slots := r.2.2.2, locals := 40 * D } : Room)).room s m (av.map (dv ρ)).toArray below meth c dC dI cy (va_A (dW ρ cy w) s.heap.size) ρ w.length (fun a st o t => r.1 ≠ none ∧ mQ dC dI cy ρ w s.heap.size r a st o t) (vx_MQ below (fun a st o t => r.1 ≠ none ∧ mQ dC dI cy ρ w s.heap.size r a st o t) (mQx dC dI cy ρ w s.heap.size r) (av.map (dv ρ)).toArray s r.2.2.1 r.2.2.2 (va_A (dW ρ cy w) s.heap.size)) cc y.cls nL ws' D (some .int) false r :=
      ⟨⟨B.exec, B.bytes, hml, hown, fun w h => hts w (List.mem_cons_of_mem _ h)⟩, B.returns, B.notSynchronized, hK, fun q h => Or.inr h, ⟨Nat.le_refl _, Nat.le_refl _⟩, ⟨Nat.le_refl _, Nat.le_refl _⟩, (fun h => by cases h), (fun hne ρ' H locs t hag hln hP hD hS ht hW => ⟨hne.elim (fun z => by cases z) id, ⟨ρ', hag, hln, rfl, by rw [ht]; exact hP, hD⟩, hS.F ht⟩), ⟨(fun t ⟨o, b1, b2, b3, b4⟩ => ⟨o, b1, b2, Or.inl ⟨b3, b4⟩⟩), hst⟩, fun _ h2 => ⟨hst, table_nil htab, _, _, rfl, fun ρ' H locs t hag hln hP hD hS h1 h3 h4 => ⟨h2, rfl, ⟨ρ', hag, hln, va_K_P_old (A := fun _ => True) hP h4, hD⟩, Nat.le_trans hS.1 h3, fun q g1 g2 => (h4 q (Nat.lt_of_lt_of_le g1 hS.1)).trans (hS.2.1 q g1 g2)⟩⟩⟩
    have G := run_ok ht X n 0 _ hf
    have hl := lv_entry (av.map (dv ρ)) (n := nL) (by rw [lg_sl_len]; exact Nat.le_of_ble_eq_true hlen)
    rw [lg_entry_eq]
    rw [lv_args_dv] at hl
    exact G.2 s.heap [] _ ρ (fun _ _ => rfl) (Nat.le_refl _) hP hD0.self va_S.rf hl
  · cases hf
-- ===== a method with a table of one row =====
/-- an act is right in a method whose table is [x] -/
def mOkT (x : ExceptionTableEntry) (kn : sKn) (cc : ByteArray) (own : String) (nL : Nat) (Ts : List Cond) (D : Nat) (ret : Option FieldType) (ini : Bool) (pc : Nat) (act : sA) : Prop :=
  ∀ (p : Program) (l : Launch) (e : Env) (R : Room) (s : State) (m : MethodId) (args : Array Value) (below : List Frame) (meth : Method) (c : Code) (dC : Nat → ClassId) (dI : Nat → Nat → Nat) (cy : Nat → ClassId) (A : Nat → Prop) (ρ0 : Nat → Nat) (n0 : Nat) (Qc : Array Value → State → Outcome → State → Prop) (Q : State → Prop) (r : sR), c.exceptionTable.toList = [x] →
    mX kn p l e R s m args below meth c dC dI cy A ρ0 n0 Qc Q cc own nL Ts D ret ini r → ∀ k : sK, (∀ pc' ss', k pc' ss' = some r → mG p l e R s m args below meth c dC dI cy A ρ0 n0 nL Q r pc' ss') → ∀ ss, act k ss = some r → mG p l e R s m args below meth c dC dI cy A ρ0 n0 nL Q r pc ss
theorem ok_T {x : ExceptionTableEntry} {kn : sKn} {cc : ByteArray} {own : String} {nL : Nat} {Ts : List Cond} {D : Nat} {ret : Option FieldType} {ini : Bool} {pc : Nat} {act : sA} (h : mOk kn cc own nL Ts D ret ini pc act) : mOkT x kn cc own nL Ts D ret ini pc act := fun p l e R s m args below meth c dC dI cy A ρ0 n0 Qc Q r _ X k hk ss hs => h p l e R s m args below meth c dC dI cy A ρ0 n0 Qc Q r X k hk ss hs
def tOkT (x : ExceptionTableEntry) (kn : sKn) (cc : ByteArray) (own : String) (nL : Nat) (Ts : List Cond) (D : Nat) (ret : Option FieldType) (ini : Bool) (tbl : List (Nat × sA)) : Prop := ∀ q ∈ tbl, mOkT x kn cc own nL Ts D ret ini q.1 q.2
theorem alT_c {x : ExceptionTableEntry} {kn : sKn} {cc : ByteArray} {own : String} {nL : Nat} {Ts : List Cond} {D : Nat} {ret : Option FieldType} {ini : Bool} {pc : Nat} {act : sA} {l : List (Nat × sA)} (h : mOkT x kn cc own nL Ts D ret ini pc act) (hl : tOkT x kn cc own nL Ts D ret ini l) : tOkT x kn cc own nL Ts D ret ini ((pc, act) :: l) := List.forall_mem_cons.mpr ⟨h, hl⟩
theorem alT_n {x : ExceptionTableEntry} {kn : sKn} {cc : ByteArray} {own : String} {nL : Nat} {Ts : List Cond} {D : Nat} {ret : Option FieldType} {ini : Bool} : tOkT x kn cc own nL Ts D ret ini [] := fun _ h => absurd h List.not_mem_nil
theorem run_okT {x : ExceptionTableEntry} {kn : sKn} {cc : ByteArray} {own : String} {nL : Nat} {Ts : List Cond} {D : Nat} {ret : Option FieldType} {ini : Bool} {tbl : List (Nat × sA)} (ht : tOkT x kn cc own nL Ts D ret ini tbl)
    {p : Program} {l : Launch} {e : Env} {R : Room} {s : State} {m : MethodId} {args : Array Value} {below : List Frame} {meth : Method} {c : Code} {dC : Nat → ClassId} {dI : Nat → Nat → Nat} {cy : Nat → ClassId} {A : Nat → Prop} {ρ0 : Nat → Nat} {n0 : Nat} {Qc : Array Value → State → Outcome → State → Prop} {Q : State → Prop} {r : sR} (hx : c.exceptionTable.toList = [x])
    (X : mX kn p l e R s m args below meth c dC dI cy A ρ0 n0 Qc Q cc own nL Ts D ret ini r) : ∀ (n pc : Nat) (ss : sS), runT tbl n pc ss = some r → mG p l e R s m args below meth c dC dI cy A ρ0 n0 nL Q r pc ss := by
  intro n
  induction n with
  | zero => intro pc ss h; cases h
  | succ n ih =>
    intro pc ss h
    have h : (match t_get tbl pc with
      | some act => act (runT tbl n) ss
      | none => none) = some r := h
    split at h
    · rename_i act ha
      exact ht _ (t_get_mem ha) p l e R s m args below meth c dC dI cy A ρ0 n0 Qc Q r hx X (runT tbl n) ih ss h
    · cases h
theorem z_callX {p : Program} {l : Launch} {e : Env} {R : Room} {s : State} {m : MethodId} {args : Array Value} {below : List Frame} {meth : Method} {c : Code} {H : Heap} {locs : List Loc} {cells slots : Nat} {Q : State → Prop} {dC : Nat → ClassId} {dI : Nat → Nat → Nat} {cy : Nat → ClassId} {A : Nat → Prop} {ρ : Nat → Nat} {w : sW} {r1 : sR} {pc : Nat} {ls : Array Slot} {st0 rest : List Value} {a : Array Value}
    (hr : vx_Run p l e R s m args below meth c H locs cells slots r1.2.2.1 r1.2.2.2 (F0 m pc ls st0) rest (fun st o t => r1.1 ≠ none ∧ mQ dC dI cy ρ w H.size r1 a st o t) (mQx dC dI cy ρ w H.size r1) (va_A (dW ρ cy w) H.size)) (hS : va_S A s.heap H locs) (hA : ∀ q, va_A (dW ρ cy w) H.size q → A q)
    (kk : r1.1 ≠ none → ∀ (ρ' : Nat → Nat) (H1 : Heap) (locs1 : List Loc), ag w.length ρ' ρ → w.length ≤ r1.2.1.length → va_P (dC, dI) vwCl (dW ρ' cy r1.2.1) H1 → va_D A (dW ρ' cy r1.2.1) → va_S A s.heap H1 locs1 → W p l e R s m args below meth c H1 locs1 (cells + r1.2.2.1) (slots + r1.2.2.2) Q (F0 m (pc + 3) ls ((r1.1.map (dv ρ')).toList ++ rest)))
    (kx : r1.1 = none → ∀ (ρ' : Nat → Nat) (H1 : Heap) (locs1 : List Loc) (q : Addr) (ce : Cell), ag w.length ρ' ρ → w.length ≤ r1.2.1.length → va_P (dC, dI) vwCl (dW ρ' cy r1.2.1) H1 → va_D A (dW ρ' cy r1.2.1) → va_S A s.heap H1 locs1 → H1[q]? = some ce → ce.vm = .none → s.vm.findClass NSE = some ce.cls → vx_W p l e R s m args below meth c H1 locs1 (cells + r1.2.2.1) (slots + r1.2.2.2) Q (F0 m pc ls rest) q) :
    W p l e R s m args below meth c H locs cells slots Q (F0 m pc ls st0) := by
  intro T hT X
  have hSS : ∀ (t T' : State) (L : List Loc) (st₀ : State), st₀.heap = H → T'.heap = t.heap → (∀ q ∈ L, va_A (dW ρ cy w) H.size q.base) → st₀.heap.size ≤ t.heap.size → (∀ q : Nat, q < st₀.heap.size → ¬ va_A (dW ρ cy w) H.size q → t.heap[q]? = st₀.heap[q]?) → va_S A s.heap T'.heap (locs ++ L) := by
    intro t T' L st₀ h0 e1 hL hz hk
    rw [h0] at hz hk
    exact ⟨Nat.le_trans hS.1 (by rw [e1]; exact hz), fun q h1 h2 => by rw [e1, hk q (Nat.lt_of_lt_of_le h1 hS.1) (fun z => h2 (hA q z))]; exact hS.2.1 q h1 h2, fun q hq => by
      rcases List.mem_append.mp hq with h | h
      · exact hS.2.2 q h
      · exact hA _ (hL q h)⟩
  rcases hr T hT X with ⟨v, st₀, t, T', L, h0, X', hL, e1, e2, ⟨hne, ⟨ρ', hag, hln, hv, hp, hd⟩, hz, hk⟩, st⟩ | ⟨q, st₀, t, T', L, E, ce, h0, X', hL, e1, e2, ⟨hn, rfl, ⟨ρ', hag, hln, hp, hd⟩, hz, hk⟩, hce, hcv, hcl, st⟩
  · cases hv
    obtain ⟨t2, a1, b1⟩ := kk hne ρ' T'.heap (locs ++ L) hag hln (by rw [e1]; exact hp) (hd.weaken (fun _ q _ z => hA q.1 z)) (hSS t T' L st₀ h0 e1 hL hz hk) T' rfl X'
    exact ⟨t2, st t2 a1, b1⟩
  · obtain ⟨t2, a1, b1⟩ := kx hn ρ' T'.heap (locs ++ L) q ce hag hln (by rw [e1]; exact hp) (hd.weaken (fun _ q _ z => hA q.1 z)) (hSS t T' L st₀ h0 e1 hL hz hk) (by rw [e1]; exact hce) hcv hcl T' rfl X'
    exact ⟨t2, st.trans a1, b1⟩
def a_callVX (f : List Value → sW → Option sR) (ci na np hp : Nat) : sA := fun k ss => match c_ok ss na with
  | true => match (ss.2.1.take na).reverse with
    | .ref h :: as => match xg ss.2.2.1 h with
      | some (.inr (c', _)) => if c' = ci then match f (.ref h :: as) ss.2.2.1 with
        | some r => match r.1 with
          | some v => k np (ss.1, v :: ss.2.1.drop na, r.2.1, ss.2.2.2.1 + r.2.2.1, ss.2.2.2.2 + r.2.2.2)
          | none => match xa (wfC (xl r.2.1)) r.2.1 with
            | true => match Nat.blt (xl r.2.1) 999999 with
              | true => k hp (ss.1, [.ref 999999], r.2.1, ss.2.2.2.1 + r.2.2.1, ss.2.2.2.2 + r.2.2.2)
              | false => none
            | false => none
        | none => none
        else none
      | _ => none
    | _ => none
  | false => none
theorem ok_callVX {x : ExceptionTableEntry} {kn : sKn} {cc : ByteArray} {own : String} {nL : Nat} {Ts : List Cond} {D : Nat} {ret : Option FieldType} {ini : Bool} {pc : Nat} {y : MethodName} {bytes : ByteArray} {maxL : Nat} {ws' : List Cond} {D' index na ci : Nat} {C : String} {T : u_T} {N : Nat} {f : List Value → sW → Option sR} (hM : mV kn y (Cond.code y bytes maxL (some .int) :: ws') D' f) (hG : GoodIn Ts (Cond.code y bytes maxL (some .int) :: ws')) (hDD : D' + 1 ≤ D) (hml : maxL ≤ 21) (hlink : Cond.methodLink own index y ∈ Ts) (hin : Cond.instanceMethod y ∈ Ts) (hsel : Cond.selects C y y ∈ Ts) (hini : Cond.initialized y.cls ∈ Ts) (hy : y.cls ≠ "java/lang/invoke/MethodHandle" ∧ y.cls ≠ "java/lang/invoke/VarHandle" ∧ (parseMethodDescriptor y.desc).map (fun d => d.parameters.length) = some na) (hc : vwCl[ci]? = some (C, T, N)) (hd : decode cc pc = .ok (.invokevirtual index, 3)) (hcov : covers x pc = true) (h0 : x.catchType ≠ 0) (hcl : Cond.classLink own x.catchType NSE ∈ Ts) : mOkT x kn cc own nL Ts D ret ini pc (a_callVX f ci (na + 1) (pc + 3) x.handlerPc) := by
  intro p l e R s m args below meth c dC dI cy A ρ0 n0 Qc Q r hx X k hk ss h
  obtain ⟨lv, st, w, nc, ns⟩ := ss
  unfold a_callVX at h
  split at h
  case h_2 => cases h
  rename_i hok
  obtain ⟨k1, k2, k3, k4⟩ := c_ok_p hok
  dsimp only at k1 k2 k3 k4 h
  split at h
  case h_2 => cases h
  rename_i h0' as hst
  split at h
  case h_2 => cases h
  rename_i c' fs hw
  rw [xg_eq] at hw
  split at h
  case isFalse => cases h
  rename_i e'
  subst e'
  split at h
  case h_2 => cases h
  rename_i r1 hf
  have hbase : (nc ≤ r.2.2.1 ∧ ns ≤ r.2.2.2) ∧ nc + r1.2.2.1 ≤ r.2.2.1 ∧ ns + r1.2.2.2 ≤ r.2.2.2 := by
    split at h
    · have hb := (hk _ _ h).1
      dsimp only at hb
      omega
    · split at h
      case h_2 => cases h
      split at h
      case h_2 => cases h
      have hb := (hk _ _ h).1
      dsimp only at hb
      omega
  refine ⟨hbase.1, fun H locs ls ρ hag hn hP hD hS hl => ?_⟩
  dsimp only at hn hP hD hl ⊢
  have hsub := va_A_sub (dC := dC) hD hS X.2.2.2.2.1
  have hcb : CallB R s args own index y bytes maxL (some .int) (Cond.code y bytes maxL (some .int) :: ws') { frames := D', cells := r1.2.2.1, slots := r1.2.2.2, locals := 40 * D' } r1.2.2.1 r1.2.2.2 na :=
    callB_of na X.1.2.2.2.2 hG rfl rfl rfl (X.1.2.2.2.2 _ hini) (X.1.2.2.2.2 _ hlink) hy ⟨Nat.le_trans hDD X.2.2.2.2.2.2.1.1, by have := X.2.2.2.2.2.2.1.2; show 8 + (maxL + 11) + 40 * D' ≤ _; omega⟩
  have hlen : as.length = na := by
    have e1 := congrArg List.length hst
    simp at e1
    omega
  have hstk : st.map (dv ρ) = (as.map (dv ρ)).reverse ++ .ref (ρ h0') :: (st.drop (na + 1)).map (dv ρ) := by
    have e1 : st.take (na + 1) = as.reverse ++ [.ref h0'] := by
      have e2 := congrArg List.reverse hst
      rw [List.reverse_reverse, List.reverse_cons] at e2
      exact e2
    conv => lhs; rw [← List.take_append_drop (na + 1) st, e1]
    simp [dv]
  refine z_callX (vx_runV (As := as.map (dv ρ)) (b := ρ h0') (rest := (st.drop (na + 1)).map (dv ρ)) X.1 (hM l dC dI cy _ w r1 X.2.2.2.2.2.2.2.2.2.1.2 hf ρ H.size) ⟨hcb, X.1.2.2.2.2 _ hin, X.1.2.2.2.2 _ hsel⟩ ⟨mPc_blind, va_recv X.2.2.2.1.1 hP hc (dW_get hw), fun U hU hW => ⟨rfl, by rw [hU], by rw [hU]; exact hP, mK_move X.2.2.2.1 hW.alike (mN_warm hW) hsub (fun q h1 h2 => by rw [hU]; exact hS.2.1 q h1 h2) (fun k hk => hag k (Or.inr hk)), hD.weaken (fun _ _ _ _ => trivial)⟩⟩ rfl (by simpa using hlen) hl.1 hstk (lv_room (by rw [cat_map]; exact k2)) hd ⟨Nat.le_trans hbase.2.1 X.2.2.2.2.2.1.1, Nat.le_trans hbase.2.2 X.2.2.2.2.2.1.2⟩) hS hsub ?_ ?_
  · intro hne ρ' H1 locs1 hag1 hln hP1 hD1 hS1
    split at h
    · rename_i v hv
      have K := hk _ _ h
      have G := z_cont (r1 := r1) (rest := st.drop (na + 1)) (w := w) (H1 := H1) (locs1 := locs1) (ls := ls) (by rw [hv]; exact K.2) hag hn hag1 hln hP1 hD1 hS1 hl k3 k4
      exact G
    · rename_i hv
      exact absurd hv hne
  · intro hnone ρ' H1 locs1 q ce hag1 hln hP1 hD1 hS1 hce hcv hcls
    rw [hnone] at h
    dsimp only at h
    split at h
    case h_2 => cases h
    rename_i hwf
    split at h
    case h_2 => cases h
    rename_i hlt
    rw [xa_eq, xl_eq] at hwf
    rw [xl_eq] at hlt
    have hlt := Nat.blt_eq.mp hlt
    have K := hk _ _ h
    have hagq : ag r1.2.1.length (ρup ρ' 999999 q) ρ' := by
      intro k hk
      have : ¬ k = 999999 := by omega
      simp [ρup, this]
    have e1 := dW_ag (cy := cy) hagq (Nat.le_refl _) hwf
    have G := K.2 H1 locs1 ls (ρup ρ' 999999 q) (ag_tr hagq (ag_tr hag1 hag hn) (Nat.le_trans hn hln)) (Nat.le_trans hn hln) (by dsimp only; rw [e1]; exact hP1) (by dsimp only; rw [e1]; exact hD1) hS1 (by dsimp only; rw [dL_ag (ag_tr hagq hag1 hln) k3]; exact hl)
    have e2 : dv (ρup ρ' 999999 q) (.ref 999999) = .ref q := by simp [dv, ρup]
    dsimp only [List.map] at G
    rw [e2] at G
    exact vx_catch1 X.1.2.2.2.1 x hx hcov h0 (X.1.2.2.2.2 _ hcl) (va_Nw.use rfl X.2.2.2.1.2.1.2.1.2.2.1) hce hcv hcls G
end
end
section
noncomputable section
-- ===== a method with a table of one row that always answers; its call =====
theorem z_ofWH {l : Launch} {y : MethodName} {ws ws' : List Cond} {rm : Room} {Pc : Array Value → State → Prop} {Qc : Array Value → State → Outcome → State → Prop} {mc ms : Nat} {free : Addr → Prop} {cc : ByteArray} {maxL : Nat} {ret : Option FieldType} {hh : List (Nat × Nat × Nat × Nat)}
    (hy : plainName y.cls = true) (hw : ws = Cond.codeWith y cc maxL ret hh :: ws')
    (body : ∀ p e s m args below meth c s₁, BodyLoose p l y (headSpec ws rm) cc maxL ret e s m args below meth c s₁ → c.maxLocals = maxL → Pc args s →
      W p l e (headSpec ws rm).room s m args below meth c s.heap [] 0 0 (MQ below Qc args s mc ms free) (entryFrame m args maxL)) : Met l y ws rm Pc Qc mc ms free := by
  refine MetFree.of_bodyS (code := cc) (maxLocals := maxL) (ret := ret) hy ?_ ?_
  · intro args s m h hn
    obtain ⟨m9, meth, c, hn9, h1, h2, h3, h4, -, h5, h6, -⟩ := Cond.codeWith_spec (atoms_spec (ws := ws) h _ (by rw [hw]; exact List.mem_cons_self))
    cases hn.symm.trans hn9
    exact ⟨meth, c, h1, h2, h3, h4, h5, h6⟩
  · intro p e s m args below meth c s₁ B hml hP _
    have hh0 : s₁.heap = s.heap := by rw [B.state]; rfl
    obtain ⟨t, a1, o, b1, b2, b3⟩ := body p e s m args below meth c s₁ B hml hP s₁ hh0 (Stand.of_body B)
    exact ⟨t, o, a1, b1, b2, ⟨b3.1, b3.2⟩⟩
theorem mM_ofH {kn : sKn} {y : MethodName} {cc : ByteArray} {nL : Nat} {ws' : List Cond} {D : Nat} {rt : FieldType} {own : String} {hh : List (Nat × Nat × Nat × Nat)} {x : ExceptionTableEntry} {tbl : List (Nat × sA)} (ho : y.cls = own) (hpl : plainName y.cls = true) (hx : tableOf hh = [x]) (ht : tOkT x kn cc own nL ws' D (some rt) false tbl) (n : Nat) : mM kn y (Cond.codeWith y cc nL (some rt) hh :: ws') D false (mF tbl nL n) := by
  subst ho
  intro l hst dC dI cy av w r hf hv0 ρ sz
  unfold mF at hf
  split at hf
  · rename_i hlen
    refine z_ofWH (cc := cc) (maxL := nL) (ret := some rt) (hh := hh) hpl rfl ?_
    intro p e s m args below meth c s₁ B hml hv
    obtain ⟨rfl, hsz, hP, hK, hD0⟩ := hv
    have hts := atoms_spec (ws := Cond.codeWith y cc nL (some rt) hh :: ws') B.pre
    have hown : s.vm.findClass y.cls = some m.cls := findClass_of_methodNamed B.named
    have htab : c.exceptionTable.toList = [x] := (vx_table (x := y) B (hts _ List.mem_cons_self)).trans hx
    subst hsz
    have X : mX kn p l e (headSpec (Cond.codeWith y cc nL (some rt) hh :: ws') ({ frames := D, cells := r.2.2.1, slots := r.2.2.2, locals := 40 * D } : Room)).room s m (av.map (dv ρ)).toArray below meth c dC dI cy (va_A (dW ρ cy w) s.heap.size) ρ w.length (mQ dC dI cy ρ w s.heap.size r) (MQ below (mQ dC dI cy ρ w s.heap.size r) (av.map (dv ρ)).toArray s r.2.2.1 r.2.2.2 (va_A (dW ρ cy w) s.heap.size)) cc y.cls nL ws' D (some rt) false r :=
      ⟨⟨B.exec, B.bytes, hml, hown, fun w h => hts w (List.mem_cons_of_mem _ h)⟩, B.returns, B.notSynchronized, hK, fun q h => Or.inr h, ⟨Nat.le_refl _, Nat.le_refl _⟩, ⟨Nat.le_refl _, Nat.le_refl _⟩, (fun h => by cases h), (fun _ ρ' H locs t hag hln hP hD hS ht hW => ⟨⟨ρ', hag, hln, rfl, by rw [ht]; exact hP, hD⟩, hS.F ht⟩), ⟨fun _ h => h, hst⟩, fun h1 h2 => by
        rw [h2] at hv0
        cases hv0⟩
    have G := run_okT ht htab X n 0 _ hf
    have hl := lv_entry (av.map (dv ρ)) (n := nL) (by rw [lg_sl_len]; exact Nat.le_of_ble_eq_true hlen)
    rw [lg_entry_eq]
    rw [lv_args_dv] at hl
    exact G.2 s.heap [] _ ρ (fun _ _ => rfl) (Nat.le_refl _) hP hD0.self va_S.rf hl
  · cases hf
theorem good_wsW {Ts ws' : List Cond} {y : MethodName} {cy : ByteArray} {n : Nat} {ret : Option FieldType} {hh : List (Nat × Nat × Nat × Nat)} (hg : ∀ w ∈ Ts, goodWord w = true) (hs : ∀ w ∈ ws', w ∈ Ts) (hc : Cond.codeWith y cy n ret hh ∈ Ts) : GoodIn Ts (Cond.codeWith y cy n ret hh :: ws') := by
  intro w hw
  rcases List.mem_cons.mp hw with h | h
  · rw [h]
    exact ⟨hc, good_of_word (hg _ hc)⟩
  · exact ⟨hs w h, good_of_word (hg _ (hs w h))⟩
theorem ok_callSW {kn : sKn} {cc : ByteArray} {own : String} {nL : Nat} {Ts : List Cond} {D : Nat} {ret : Option FieldType} {ini : Bool} {pc : Nat} {y : MethodName} {bytes : ByteArray} {maxL : Nat} {rt : Option FieldType} {hh : List (Nat × Nat × Nat × Nat)} {ws' : List Cond} {D' index na : Nat} {vd : Bool} {f : List Value → sW → Option sR} (hM : mM kn y (Cond.codeWith y bytes maxL rt hh :: ws') D' vd f) (hG : GoodIn Ts (Cond.codeWith y bytes maxL rt hh :: ws')) (hDD : D' + 1 ≤ D) (hml : maxL ≤ 21) (hlink : Cond.methodLink own index y ∈ Ts) (hst : Cond.static y ∈ Ts) (hini : Cond.initialized y.cls ∈ Ts) (hy : y.cls ≠ "java/lang/invoke/MethodHandle" ∧ y.cls ≠ "java/lang/invoke/VarHandle" ∧ (parseMethodDescriptor y.desc).map (fun d => d.parameters.length) = some na) (hd : decode cc pc = .ok (.invokestatic index, 3)) : mOk kn cc own nL Ts D ret ini pc (a_callS vd f na (pc + 3)) := by
  intro p l e R s m args below meth c dC dI cy A ρ0 n0 Qc Q r X k hk ss h
  obtain ⟨lv, st, w, nc, ns⟩ := ss
  unfold a_callS at h
  split at h
  · rename_i hok
    obtain ⟨k1, k2, k3, k4⟩ := c_ok_p hok
    dsimp only at k1 k2 k3 k4 h
    unfold a_back at h
    split at h
    · rename_i r1 hf
      split at h
      case h_2 => cases h
      rename_i hvd
      have K := hk _ _ h
      have hb := K.1
      dsimp only at hb
      refine ⟨by dsimp only; omega, fun H locs ls ρ hag hn hP hD hS hl => ?_⟩
      dsimp only at hn hP hD hl ⊢
      have hsub := va_A_sub (dC := dC) hD hS X.2.2.2.2.1
      have hcm : Cond.codeWith y bytes maxL rt hh ∈ (Cond.codeWith y bytes maxL rt hh :: ws') := List.mem_cons_self
      have hcw : vx_CSW R s args own index y bytes maxL rt hh (Cond.codeWith y bytes maxL rt hh :: ws') { frames := D', cells := r1.2.2.1, slots := r1.2.2.2, locals := 40 * D' } r1.2.2.1 r1.2.2.2 na :=
        ⟨⟨rfl, rfl, Nat.le_trans hDD X.2.2.2.2.2.2.1.1, by have := X.2.2.2.2.2.2.1.2; show 8 + (maxL + 11) + 40 * D' ≤ _; omega, pay_in X.1.2.2.2.2 hG, hcm⟩, X.1.2.2.2.2 _ (hG _ hcm).1, X.1.2.2.2.2 _ hini, ⟨hy.1, hy.2.1⟩, fun sig hs => by
          have h2 := hy.2.2
          rw [hs] at h2
          exact (Option.some.inj h2).symm, X.1.2.2.2.2 _ hlink, X.1.2.2.2.2 _ hst⟩
      refine z_call (vx_runSW (As := (st.take na).reverse.map (dv ρ)) (rest := (st.drop na).map (dv ρ)) X.1 (hM l X.2.2.2.2.2.2.2.2.2.1.2 dC dI cy _ w r1 hf hvd ρ H.size) hcw ⟨mPc_blind, fun U hU hW => ⟨rfl, by rw [hU], by rw [hU]; exact hP, mK_move X.2.2.2.1 hW.alike (mN_warm hW) hsub (fun q h1 h2 => by rw [hU]; exact hS.2.1 q h1 h2) (fun k hk => hag k (Or.inr hk)), hD.weaken (fun _ _ _ _ => trivial)⟩⟩ rfl (by simp; omega) hl.1 (by show st.map (dv ρ) = _; rw [List.map_reverse, List.reverse_reverse, ← List.map_append, List.take_append_drop]) (lv_room (by rw [cat_map]; exact k2)) hd ⟨Nat.le_trans hb.1 X.2.2.2.2.2.1.1, Nat.le_trans hb.2 X.2.2.2.2.2.1.2⟩) hS hsub (fun ρ' H1 locs1 hag1 hln hP1 hD1 hS1 => ?_)
      exact z_cont K.2 hag hn hag1 hln hP1 hD1 hS1 hl k3 k4
    · cases h
  · cases h
end
end
