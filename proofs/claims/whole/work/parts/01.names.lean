-- ===== PART A: goes FIRST, ahead of the names: the tables' words, and 'selects' of the private methods out of them =====
/-- a private method of a class that the tables say can be made, by its rows of tables_1 -/
def lw_okq (q : MethodName × Nat) : Prop := (q.1.cls ≠ "java/lang/invoke/MethodHandle" ∧ q.1.cls ≠ "java/lang/invoke/VarHandle") ∧ Cond.instantiable q.1.cls q.2 ∈ tables_1 ∧ Cond.privateMethod q.1 ∈ tables_1 ∧ Cond.instanceMethod q.1 ∈ tables_1
theorem lw_p0 : lw_okq (⟨"QuarterTurn$Pipe", "lowerBeside", "(I)I"⟩, 15) := ⟨⟨by decide +kernel, by decide +kernel⟩, List.mem_of_getElem? (i := 101) (by decide +kernel), List.mem_of_getElem? (i := 372) (by decide +kernel), List.mem_of_getElem? (i := 373) (by decide +kernel)⟩
theorem lw_p1 : lw_okq (⟨"QuarterTurn$Pipe", "letDrip", "(LQuarterTurn$Joint;)V"⟩, 15) := ⟨⟨by decide +kernel, by decide +kernel⟩, List.mem_of_getElem? (i := 101) (by decide +kernel), List.mem_of_getElem? (i := 458) (by decide +kernel), List.mem_of_getElem? (i := 459) (by decide +kernel)⟩
theorem lw_p2 : lw_okq (⟨"QuarterTurn$Pipe", "shakeLoose", "(LQuarterTurn$Joint;)V"⟩, 15) := ⟨⟨by decide +kernel, by decide +kernel⟩, List.mem_of_getElem? (i := 101) (by decide +kernel), List.mem_of_getElem? (i := 464) (by decide +kernel), List.mem_of_getElem? (i := 465) (by decide +kernel)⟩
theorem lw_p3 : lw_okq (⟨"QuarterTurn", "apartFrom", "(LQuarterTurn$Sheet;I)I"⟩, 11) := ⟨⟨by decide +kernel, by decide +kernel⟩, List.mem_of_getElem? (i := 19) (by decide +kernel), List.mem_of_getElem? (i := 568) (by decide +kernel), List.mem_of_getElem? (i := 569) (by decide +kernel)⟩
theorem lw_p4 : lw_okq (⟨"QuarterTurn$Reader", "advance", "()V"⟩, 7) := ⟨⟨by decide +kernel, by decide +kernel⟩, List.mem_of_getElem? (i := 69) (by decide +kernel), List.mem_of_getElem? (i := 612) (by decide +kernel), List.mem_of_getElem? (i := 613) (by decide +kernel)⟩
theorem lw_p5 : lw_okq (⟨"QuarterTurn$Reader", "sortAt", "(I)I"⟩, 7) := ⟨⟨by decide +kernel, by decide +kernel⟩, List.mem_of_getElem? (i := 69) (by decide +kernel), List.mem_of_getElem? (i := 616) (by decide +kernel), List.mem_of_getElem? (i := 617) (by decide +kernel)⟩
theorem lw_p6 : lw_okq (⟨"QuarterTurn$Reader", "readWord", "()V"⟩, 7) := ⟨⟨by decide +kernel, by decide +kernel⟩, List.mem_of_getElem? (i := 69) (by decide +kernel), List.mem_of_getElem? (i := 620) (by decide +kernel), List.mem_of_getElem? (i := 621) (by decide +kernel)⟩
theorem lw_p7 : lw_okq (⟨"QuarterTurn$Reader", "readKey", "()Z"⟩, 7) := ⟨⟨by decide +kernel, by decide +kernel⟩, List.mem_of_getElem? (i := 69) (by decide +kernel), List.mem_of_getElem? (i := 624) (by decide +kernel), List.mem_of_getElem? (i := 625) (by decide +kernel)⟩
theorem lw_p8 : lw_okq (⟨"QuarterTurn$Reader", "isWord", "(Ljava/lang/String;)Z"⟩, 7) := ⟨⟨by decide +kernel, by decide +kernel⟩, List.mem_of_getElem? (i := 69) (by decide +kernel), List.mem_of_getElem? (i := 629) (by decide +kernel), List.mem_of_getElem? (i := 630) (by decide +kernel)⟩
theorem lw_p9 : lw_okq (⟨"QuarterTurn$Reader", "readLevel", "(III)Z"⟩, 7) := ⟨⟨by decide +kernel, by decide +kernel⟩, List.mem_of_getElem? (i := 69) (by decide +kernel), List.mem_of_getElem? (i := 683) (by decide +kernel), List.mem_of_getElem? (i := 684) (by decide +kernel)⟩
theorem lw_p10 : lw_okq (⟨"QuarterTurn$Reader", "readPiece", "(II)Z"⟩, 7) := ⟨⟨by decide +kernel, by decide +kernel⟩, List.mem_of_getElem? (i := 69) (by decide +kernel), List.mem_of_getElem? (i := 687) (by decide +kernel), List.mem_of_getElem? (i := 688) (by decide +kernel)⟩
theorem lw_p11 : lw_okq (⟨"QuarterTurn$Reader", "nameStep", "()I"⟩, 7) := ⟨⟨by decide +kernel, by decide +kernel⟩, List.mem_of_getElem? (i := 69) (by decide +kernel), List.mem_of_getElem? (i := 695) (by decide +kernel), List.mem_of_getElem? (i := 696) (by decide +kernel)⟩
theorem lw_p12 : lw_okq (⟨"QuarterTurn$Reader", "joinsAt", "(I)Z"⟩, 7) := ⟨⟨by decide +kernel, by decide +kernel⟩, List.mem_of_getElem? (i := 69) (by decide +kernel), List.mem_of_getElem? (i := 758) (by decide +kernel), List.mem_of_getElem? (i := 759) (by decide +kernel)⟩
theorem lw_p13 : lw_okq (⟨"QuarterTurn", "toldRight", "(III)Z"⟩, 11) := ⟨⟨by decide +kernel, by decide +kernel⟩, List.mem_of_getElem? (i := 19) (by decide +kernel), List.mem_of_getElem? (i := 845) (by decide +kernel), List.mem_of_getElem? (i := 846) (by decide +kernel)⟩
theorem lw_p14 : lw_okq (⟨"QuarterTurnModel", "comes", "(IIII)I"⟩, 36) := ⟨⟨by decide +kernel, by decide +kernel⟩, List.mem_of_getElem? (i := 861) (by decide +kernel), List.mem_of_getElem? (i := 991) (by decide +kernel), List.mem_of_getElem? (i := 992) (by decide +kernel)⟩
theorem lw_p15 : lw_okq (⟨"QuarterTurnModel", "put", "(III)V"⟩, 36) := ⟨⟨by decide +kernel, by decide +kernel⟩, List.mem_of_getElem? (i := 861) (by decide +kernel), List.mem_of_getElem? (i := 995) (by decide +kernel), List.mem_of_getElem? (i := 996) (by decide +kernel)⟩
def lw_privs_1 : List (MethodName × Nat) := [(⟨"QuarterTurn$Pipe", "lowerBeside", "(I)I"⟩, 15), (⟨"QuarterTurn$Pipe", "letDrip", "(LQuarterTurn$Joint;)V"⟩, 15), (⟨"QuarterTurn$Pipe", "shakeLoose", "(LQuarterTurn$Joint;)V"⟩, 15), (⟨"QuarterTurn", "apartFrom", "(LQuarterTurn$Sheet;I)I"⟩, 11), (⟨"QuarterTurn$Reader", "advance", "()V"⟩, 7), (⟨"QuarterTurn$Reader", "sortAt", "(I)I"⟩, 7), (⟨"QuarterTurn$Reader", "readWord", "()V"⟩, 7), (⟨"QuarterTurn$Reader", "readKey", "()Z"⟩, 7), (⟨"QuarterTurn$Reader", "isWord", "(Ljava/lang/String;)Z"⟩, 7), (⟨"QuarterTurn$Reader", "readLevel", "(III)Z"⟩, 7), (⟨"QuarterTurn$Reader", "readPiece", "(II)Z"⟩, 7), (⟨"QuarterTurn$Reader", "nameStep", "()I"⟩, 7), (⟨"QuarterTurn$Reader", "joinsAt", "(I)Z"⟩, 7), (⟨"QuarterTurn", "toldRight", "(III)Z"⟩, 11), (⟨"QuarterTurnModel", "comes", "(IIII)I"⟩, 36), (⟨"QuarterTurnModel", "put", "(III)V"⟩, 36)]
theorem lw_r1 : ∀ q ∈ lw_privs_1, lw_okq q := List.forall_mem_cons.mpr ⟨lw_p0, List.forall_mem_cons.mpr ⟨lw_p1, List.forall_mem_cons.mpr ⟨lw_p2, List.forall_mem_cons.mpr ⟨lw_p3, List.forall_mem_cons.mpr ⟨lw_p4, List.forall_mem_cons.mpr ⟨lw_p5, List.forall_mem_cons.mpr ⟨lw_p6, List.forall_mem_cons.mpr ⟨lw_p7, List.forall_mem_cons.mpr ⟨lw_p8, List.forall_mem_cons.mpr ⟨lw_p9, List.forall_mem_cons.mpr ⟨lw_p10, List.forall_mem_cons.mpr ⟨lw_p11, List.forall_mem_cons.mpr ⟨lw_p12, List.forall_mem_cons.mpr ⟨lw_p13, List.forall_mem_cons.mpr ⟨lw_p14, List.forall_mem_cons.mpr ⟨lw_p15, fun _ h => absurd h List.not_mem_nil⟩⟩⟩⟩⟩⟩⟩⟩⟩⟩⟩⟩⟩⟩⟩⟩
theorem lw_p16 : lw_okq (⟨"QuarterTurnModel", "isJoint", "(I)Z"⟩, 36) := ⟨⟨by decide +kernel, by decide +kernel⟩, List.mem_of_getElem? (i := 861) (by decide +kernel), List.mem_of_getElem? (i := 1003) (by decide +kernel), List.mem_of_getElem? (i := 1004) (by decide +kernel)⟩
theorem lw_p17 : lw_okq (⟨"QuarterTurnModel", "of", "(II)I"⟩, 36) := ⟨⟨by decide +kernel, by decide +kernel⟩, List.mem_of_getElem? (i := 861) (by decide +kernel), List.mem_of_getElem? (i := 1007) (by decide +kernel), List.mem_of_getElem? (i := 1008) (by decide +kernel)⟩
theorem lw_p18 : lw_okq (⟨"QuarterTurnModel", "gripOf", "(I)I"⟩, 36) := ⟨⟨by decide +kernel, by decide +kernel⟩, List.mem_of_getElem? (i := 861) (by decide +kernel), List.mem_of_getElem? (i := 1011) (by decide +kernel), List.mem_of_getElem? (i := 1012) (by decide +kernel)⟩
theorem lw_p19 : lw_okq (⟨"QuarterTurnModel", "leaksOf", "(I)I"⟩, 36) := ⟨⟨by decide +kernel, by decide +kernel⟩, List.mem_of_getElem? (i := 861) (by decide +kernel), List.mem_of_getElem? (i := 1018) (by decide +kernel), List.mem_of_getElem? (i := 1019) (by decide +kernel)⟩
theorem lw_p20 : lw_okq (⟨"QuarterTurnModel", "dripsOf", "(I)I"⟩, 36) := ⟨⟨by decide +kernel, by decide +kernel⟩, List.mem_of_getElem? (i := 861) (by decide +kernel), List.mem_of_getElem? (i := 1022) (by decide +kernel), List.mem_of_getElem? (i := 1023) (by decide +kernel)⟩
theorem lw_p21 : lw_okq (⟨"QuarterTurnModel", "counts", "(I)I"⟩, 36) := ⟨⟨by decide +kernel, by decide +kernel⟩, List.mem_of_getElem? (i := 861) (by decide +kernel), List.mem_of_getElem? (i := 1026) (by decide +kernel), List.mem_of_getElem? (i := 1027) (by decide +kernel)⟩
theorem lw_p22 : lw_okq (⟨"QuarterTurnModel", "worksOut", "(I)I"⟩, 36) := ⟨⟨by decide +kernel, by decide +kernel⟩, List.mem_of_getElem? (i := 861) (by decide +kernel), List.mem_of_getElem? (i := 1030) (by decide +kernel), List.mem_of_getElem? (i := 1031) (by decide +kernel)⟩
theorem lw_p23 : lw_okq (⟨"QuarterTurnModel", "bearsOf", "(I)I"⟩, 36) := ⟨⟨by decide +kernel, by decide +kernel⟩, List.mem_of_getElem? (i := 861) (by decide +kernel), List.mem_of_getElem? (i := 1037) (by decide +kernel), List.mem_of_getElem? (i := 1038) (by decide +kernel)⟩
theorem lw_p24 : lw_okq (⟨"QuarterTurnModel", "hangsAt", "(I)I"⟩, 36) := ⟨⟨by decide +kernel, by decide +kernel⟩, List.mem_of_getElem? (i := 861) (by decide +kernel), List.mem_of_getElem? (i := 1041) (by decide +kernel), List.mem_of_getElem? (i := 1042) (by decide +kernel)⟩
theorem lw_p25 : lw_okq (⟨"QuarterTurnModel", "runsTo", "(I)I"⟩, 36) := ⟨⟨by decide +kernel, by decide +kernel⟩, List.mem_of_getElem? (i := 861) (by decide +kernel), List.mem_of_getElem? (i := 1045) (by decide +kernel), List.mem_of_getElem? (i := 1046) (by decide +kernel)⟩
theorem lw_p26 : lw_okq (⟨"QuarterTurnModel", "worthOf", "(I)I"⟩, 36) := ⟨⟨by decide +kernel, by decide +kernel⟩, List.mem_of_getElem? (i := 861) (by decide +kernel), List.mem_of_getElem? (i := 1049) (by decide +kernel), List.mem_of_getElem? (i := 1050) (by decide +kernel)⟩
theorem lw_p27 : lw_okq (⟨"QuarterTurnModel", "swaps", "(II)I"⟩, 36) := ⟨⟨by decide +kernel, by decide +kernel⟩, List.mem_of_getElem? (i := 861) (by decide +kernel), List.mem_of_getElem? (i := 1065) (by decide +kernel), List.mem_of_getElem? (i := 1066) (by decide +kernel)⟩
theorem lw_p28 : lw_okq (⟨"QuarterTurnModel", "quarterOn", "(I)V"⟩, 36) := ⟨⟨by decide +kernel, by decide +kernel⟩, List.mem_of_getElem? (i := 861) (by decide +kernel), List.mem_of_getElem? (i := 1077) (by decide +kernel), List.mem_of_getElem? (i := 1078) (by decide +kernel)⟩
theorem lw_p29 : lw_okq (⟨"QuarterTurnModel", "tightens", "(II)V"⟩, 36) := ⟨⟨by decide +kernel, by decide +kernel⟩, List.mem_of_getElem? (i := 861) (by decide +kernel), List.mem_of_getElem? (i := 1081) (by decide +kernel), List.mem_of_getElem? (i := 1082) (by decide +kernel)⟩
theorem lw_p30 : lw_okq (⟨"QuarterTurnModel", "draw", "()I"⟩, 36) := ⟨⟨by decide +kernel, by decide +kernel⟩, List.mem_of_getElem? (i := 861) (by decide +kernel), List.mem_of_getElem? (i := 1085) (by decide +kernel), List.mem_of_getElem? (i := 1086) (by decide +kernel)⟩
theorem lw_p31 : lw_okq (⟨"QuarterTurnModel", "goesOn", "(I)V"⟩, 36) := ⟨⟨by decide +kernel, by decide +kernel⟩, List.mem_of_getElem? (i := 861) (by decide +kernel), List.mem_of_getElem? (i := 1110) (by decide +kernel), List.mem_of_getElem? (i := 1111) (by decide +kernel)⟩
def lw_privs_2 : List (MethodName × Nat) := [(⟨"QuarterTurnModel", "isJoint", "(I)Z"⟩, 36), (⟨"QuarterTurnModel", "of", "(II)I"⟩, 36), (⟨"QuarterTurnModel", "gripOf", "(I)I"⟩, 36), (⟨"QuarterTurnModel", "leaksOf", "(I)I"⟩, 36), (⟨"QuarterTurnModel", "dripsOf", "(I)I"⟩, 36), (⟨"QuarterTurnModel", "counts", "(I)I"⟩, 36), (⟨"QuarterTurnModel", "worksOut", "(I)I"⟩, 36), (⟨"QuarterTurnModel", "bearsOf", "(I)I"⟩, 36), (⟨"QuarterTurnModel", "hangsAt", "(I)I"⟩, 36), (⟨"QuarterTurnModel", "runsTo", "(I)I"⟩, 36), (⟨"QuarterTurnModel", "worthOf", "(I)I"⟩, 36), (⟨"QuarterTurnModel", "swaps", "(II)I"⟩, 36), (⟨"QuarterTurnModel", "quarterOn", "(I)V"⟩, 36), (⟨"QuarterTurnModel", "tightens", "(II)V"⟩, 36), (⟨"QuarterTurnModel", "draw", "()I"⟩, 36), (⟨"QuarterTurnModel", "goesOn", "(I)V"⟩, 36)]
theorem lw_r2 : ∀ q ∈ lw_privs_2, lw_okq q := List.forall_mem_cons.mpr ⟨lw_p16, List.forall_mem_cons.mpr ⟨lw_p17, List.forall_mem_cons.mpr ⟨lw_p18, List.forall_mem_cons.mpr ⟨lw_p19, List.forall_mem_cons.mpr ⟨lw_p20, List.forall_mem_cons.mpr ⟨lw_p21, List.forall_mem_cons.mpr ⟨lw_p22, List.forall_mem_cons.mpr ⟨lw_p23, List.forall_mem_cons.mpr ⟨lw_p24, List.forall_mem_cons.mpr ⟨lw_p25, List.forall_mem_cons.mpr ⟨lw_p26, List.forall_mem_cons.mpr ⟨lw_p27, List.forall_mem_cons.mpr ⟨lw_p28, List.forall_mem_cons.mpr ⟨lw_p29, List.forall_mem_cons.mpr ⟨lw_p30, List.forall_mem_cons.mpr ⟨lw_p31, fun _ h => absurd h List.not_mem_nil⟩⟩⟩⟩⟩⟩⟩⟩⟩⟩⟩⟩⟩⟩⟩⟩
theorem lw_p32 : lw_okq (⟨"QuarterTurnModel", "hour", "()V"⟩, 36) := ⟨⟨by decide +kernel, by decide +kernel⟩, List.mem_of_getElem? (i := 861) (by decide +kernel), List.mem_of_getElem? (i := 1114) (by decide +kernel), List.mem_of_getElem? (i := 1115) (by decide +kernel)⟩
theorem lw_p33 : lw_okq (⟨"QuarterTurnModel", "drips", "(I)V"⟩, 36) := ⟨⟨by decide +kernel, by decide +kernel⟩, List.mem_of_getElem? (i := 861) (by decide +kernel), List.mem_of_getElem? (i := 1118) (by decide +kernel), List.mem_of_getElem? (i := 1119) (by decide +kernel)⟩
theorem lw_p34 : lw_okq (⟨"QuarterTurnModel", "leaksOfAll", "()I"⟩, 36) := ⟨⟨by decide +kernel, by decide +kernel⟩, List.mem_of_getElem? (i := 861) (by decide +kernel), List.mem_of_getElem? (i := 1126) (by decide +kernel), List.mem_of_getElem? (i := 1127) (by decide +kernel)⟩
theorem lw_p35 : lw_okq (⟨"QuarterTurnModel", "cracked", "()I"⟩, 36) := ⟨⟨by decide +kernel, by decide +kernel⟩, List.mem_of_getElem? (i := 861) (by decide +kernel), List.mem_of_getElem? (i := 1130) (by decide +kernel), List.mem_of_getElem? (i := 1131) (by decide +kernel)⟩
theorem lw_p36 : lw_okq (⟨"QuarterTurnModel", "tightOfAll", "()I"⟩, 36) := ⟨⟨by decide +kernel, by decide +kernel⟩, List.mem_of_getElem? (i := 861) (by decide +kernel), List.mem_of_getElem? (i := 1134) (by decide +kernel), List.mem_of_getElem? (i := 1135) (by decide +kernel)⟩
theorem lw_p37 : lw_okq (⟨"QuarterTurnModel", "thinks", "()V"⟩, 36) := ⟨⟨by decide +kernel, by decide +kernel⟩, List.mem_of_getElem? (i := 861) (by decide +kernel), List.mem_of_getElem? (i := 1150) (by decide +kernel), List.mem_of_getElem? (i := 1151) (by decide +kernel)⟩
theorem lw_p38 : lw_okq (⟨"QuarterTurnModel", "forgets", "()V"⟩, 36) := ⟨⟨by decide +kernel, by decide +kernel⟩, List.mem_of_getElem? (i := 861) (by decide +kernel), List.mem_of_getElem? (i := 1154) (by decide +kernel), List.mem_of_getElem? (i := 1155) (by decide +kernel)⟩
theorem lw_p39 : lw_okq (⟨"QuarterTurnModel", "putsBack", "()V"⟩, 36) := ⟨⟨by decide +kernel, by decide +kernel⟩, List.mem_of_getElem? (i := 861) (by decide +kernel), List.mem_of_getElem? (i := 1159) (by decide +kernel), List.mem_of_getElem? (i := 1160) (by decide +kernel)⟩
theorem lw_p40 : lw_okq (⟨"QuarterTurnModel", "sees", "(II)V"⟩, 36) := ⟨⟨by decide +kernel, by decide +kernel⟩, List.mem_of_getElem? (i := 861) (by decide +kernel), List.mem_of_getElem? (i := 1163) (by decide +kernel), List.mem_of_getElem? (i := 1164) (by decide +kernel)⟩
theorem lw_p41 : lw_okq (⟨"QuarterTurnModel", "dropsBehind", "(I)I"⟩, 36) := ⟨⟨by decide +kernel, by decide +kernel⟩, List.mem_of_getElem? (i := 861) (by decide +kernel), List.mem_of_getElem? (i := 1186) (by decide +kernel), List.mem_of_getElem? (i := 1187) (by decide +kernel)⟩
theorem lw_p42 : lw_okq (⟨"QuarterTurnModel", "go", "()V"⟩, 36) := ⟨⟨by decide +kernel, by decide +kernel⟩, List.mem_of_getElem? (i := 861) (by decide +kernel), List.mem_of_getElem? (i := 1230) (by decide +kernel), List.mem_of_getElem? (i := 1231) (by decide +kernel)⟩
theorem lw_p43 : lw_okq (⟨"QuarterTurnModel", "isLetter", "(I)Z"⟩, 36) := ⟨⟨by decide +kernel, by decide +kernel⟩, List.mem_of_getElem? (i := 861) (by decide +kernel), List.mem_of_getElem? (i := 1234) (by decide +kernel), List.mem_of_getElem? (i := 1235) (by decide +kernel)⟩
theorem lw_p44 : lw_okq (⟨"QuarterTurnModel", "isFigure", "(I)Z"⟩, 36) := ⟨⟨by decide +kernel, by decide +kernel⟩, List.mem_of_getElem? (i := 861) (by decide +kernel), List.mem_of_getElem? (i := 1238) (by decide +kernel), List.mem_of_getElem? (i := 1239) (by decide +kernel)⟩
theorem lw_p45 : lw_okq (⟨"QuarterTurnModel", "takesKey", "()Z"⟩, 36) := ⟨⟨by decide +kernel, by decide +kernel⟩, List.mem_of_getElem? (i := 861) (by decide +kernel), List.mem_of_getElem? (i := 1242) (by decide +kernel), List.mem_of_getElem? (i := 1243) (by decide +kernel)⟩
theorem lw_p46 : lw_okq (⟨"QuarterTurnModel", "takesE", "()Z"⟩, 36) := ⟨⟨by decide +kernel, by decide +kernel⟩, List.mem_of_getElem? (i := 861) (by decide +kernel), List.mem_of_getElem? (i := 1246) (by decide +kernel), List.mem_of_getElem? (i := 1247) (by decide +kernel)⟩
theorem lw_p47 : lw_okq (⟨"QuarterTurnModel", "takesPart", "()Z"⟩, 36) := ⟨⟨by decide +kernel, by decide +kernel⟩, List.mem_of_getElem? (i := 861) (by decide +kernel), List.mem_of_getElem? (i := 1250) (by decide +kernel), List.mem_of_getElem? (i := 1251) (by decide +kernel)⟩
def lw_privs_3 : List (MethodName × Nat) := [(⟨"QuarterTurnModel", "hour", "()V"⟩, 36), (⟨"QuarterTurnModel", "drips", "(I)V"⟩, 36), (⟨"QuarterTurnModel", "leaksOfAll", "()I"⟩, 36), (⟨"QuarterTurnModel", "cracked", "()I"⟩, 36), (⟨"QuarterTurnModel", "tightOfAll", "()I"⟩, 36), (⟨"QuarterTurnModel", "thinks", "()V"⟩, 36), (⟨"QuarterTurnModel", "forgets", "()V"⟩, 36), (⟨"QuarterTurnModel", "putsBack", "()V"⟩, 36), (⟨"QuarterTurnModel", "sees", "(II)V"⟩, 36), (⟨"QuarterTurnModel", "dropsBehind", "(I)I"⟩, 36), (⟨"QuarterTurnModel", "go", "()V"⟩, 36), (⟨"QuarterTurnModel", "isLetter", "(I)Z"⟩, 36), (⟨"QuarterTurnModel", "isFigure", "(I)Z"⟩, 36), (⟨"QuarterTurnModel", "takesKey", "()Z"⟩, 36), (⟨"QuarterTurnModel", "takesE", "()Z"⟩, 36), (⟨"QuarterTurnModel", "takesPart", "()Z"⟩, 36)]
theorem lw_r3 : ∀ q ∈ lw_privs_3, lw_okq q := List.forall_mem_cons.mpr ⟨lw_p32, List.forall_mem_cons.mpr ⟨lw_p33, List.forall_mem_cons.mpr ⟨lw_p34, List.forall_mem_cons.mpr ⟨lw_p35, List.forall_mem_cons.mpr ⟨lw_p36, List.forall_mem_cons.mpr ⟨lw_p37, List.forall_mem_cons.mpr ⟨lw_p38, List.forall_mem_cons.mpr ⟨lw_p39, List.forall_mem_cons.mpr ⟨lw_p40, List.forall_mem_cons.mpr ⟨lw_p41, List.forall_mem_cons.mpr ⟨lw_p42, List.forall_mem_cons.mpr ⟨lw_p43, List.forall_mem_cons.mpr ⟨lw_p44, List.forall_mem_cons.mpr ⟨lw_p45, List.forall_mem_cons.mpr ⟨lw_p46, List.forall_mem_cons.mpr ⟨lw_p47, fun _ h => absurd h List.not_mem_nil⟩⟩⟩⟩⟩⟩⟩⟩⟩⟩⟩⟩⟩⟩⟩⟩
theorem lw_p48 : lw_okq (⟨"QuarterTurnModel", "nameOf", "(I)I"⟩, 36) := ⟨⟨by decide +kernel, by decide +kernel⟩, List.mem_of_getElem? (i := 861) (by decide +kernel), List.mem_of_getElem? (i := 1254) (by decide +kernel), List.mem_of_getElem? (i := 1255) (by decide +kernel)⟩
theorem lw_p49 : lw_okq (⟨"QuarterTurnModel", "settle", "(I)V"⟩, 36) := ⟨⟨by decide +kernel, by decide +kernel⟩, List.mem_of_getElem? (i := 861) (by decide +kernel), List.mem_of_getElem? (i := 1258) (by decide +kernel), List.mem_of_getElem? (i := 1259) (by decide +kernel)⟩
theorem lw_p50 : lw_okq (⟨"QuarterTurnModel", "notsOpen", "()I"⟩, 36) := ⟨⟨by decide +kernel, by decide +kernel⟩, List.mem_of_getElem? (i := 861) (by decide +kernel), List.mem_of_getElem? (i := 1265) (by decide +kernel), List.mem_of_getElem? (i := 1266) (by decide +kernel)⟩
theorem lw_p51 : lw_okq (⟨"QuarterTurnModel", "signHere", "()I"⟩, 36) := ⟨⟨by decide +kernel, by decide +kernel⟩, List.mem_of_getElem? (i := 861) (by decide +kernel), List.mem_of_getElem? (i := 1269) (by decide +kernel), List.mem_of_getElem? (i := 1270) (by decide +kernel)⟩
def lw_privs_4 : List (MethodName × Nat) := [(⟨"QuarterTurnModel", "nameOf", "(I)I"⟩, 36), (⟨"QuarterTurnModel", "settle", "(I)V"⟩, 36), (⟨"QuarterTurnModel", "notsOpen", "()I"⟩, 36), (⟨"QuarterTurnModel", "signHere", "()I"⟩, 36)]
theorem lw_r4 : ∀ q ∈ lw_privs_4, lw_okq q := List.forall_mem_cons.mpr ⟨lw_p48, List.forall_mem_cons.mpr ⟨lw_p49, List.forall_mem_cons.mpr ⟨lw_p50, List.forall_mem_cons.mpr ⟨lw_p51, fun _ h => absurd h List.not_mem_nil⟩⟩⟩⟩
def lw_privs : List (MethodName × Nat) := lw_privs_1 ++ (lw_privs_2 ++ (lw_privs_3 ++ (lw_privs_4)))
def lw_tbl : List Cond := k2_sels lw_privs ++ tables_1
theorem lw_privs_ok : ∀ q ∈ lw_privs, lw_okq q := by
  show ∀ q ∈ lw_privs_1 ++ (lw_privs_2 ++ (lw_privs_3 ++ (lw_privs_4))), lw_okq q
  exact List.forall_mem_append.mpr ⟨lw_r1, List.forall_mem_append.mpr ⟨lw_r2, List.forall_mem_append.mpr ⟨lw_r3, lw_r4⟩⟩⟩
/-! names: classes, fields, types; methods: bytes and names (out of the printed names) -/
def RX0 : String := "QuarterTurn$Joint"
def TX0 : u_T := fun k => match k with
  | 0 => ("QuarterTurn$Joint", "kind", "I", false)
  | 1 => ("QuarterTurn$Joint", "tight", "I", false)
  | 2 => ("QuarterTurn$Joint", "ring", "I", false)
  | 3 => ("QuarterTurn$Joint", "dirt", "I", false)
  | 4 => ("QuarterTurn$Joint", "slant", "I", false)
  | 5 => ("QuarterTurn$Joint", "tape", "I", false)
  | 6 => ("QuarterTurn$Joint", "high", "I", false)
  | _ => ("QuarterTurn$Joint", "swollen", "I", false)
def tyX0 : Nat → FieldType := fun k => match k with
  | 0 => .int
  | 1 => .int
  | 2 => .int
  | 3 => .int
  | 4 => .int
  | 5 => .int
  | 6 => .int
  | _ => .int
abbrev wsX00 : List Cond := u_ws RX0 TX0 8
theorem nmX0 : ∀ a, a < 8 → ∀ b, b < 8 → a ≠ b → (TX0 a).2.1 ≠ (TX0 b).2.1 := by decide +kernel
theorem tyX0_ok : ∀ k, k < 8 → parseFieldDescriptor (TX0 k).2.2.1 = some (tyX0 k) := by decide +kernel
def RX1 : String := "QuarterTurn$Laws"
def TX1 : u_T := fun k => match k with
  | 0 => ("QuarterTurn$Laws", "texts", "[LQuarterTurn$Text;", true)
  | _ => ("QuarterTurn$Laws", "stack", "[I", true)
def tyX1 : Nat → FieldType := fun k => match k with
  | 0 => .array (.object "QuarterTurn$Text")
  | _ => .array .int
abbrev wsX10 : List Cond := u_ws RX1 TX1 2
theorem nmX1 : ∀ a, a < 2 → ∀ b, b < 2 → a ≠ b → (TX1 a).2.1 ≠ (TX1 b).2.1 := by decide +kernel
theorem tyX1_ok : ∀ k, k < 2 → parseFieldDescriptor (TX1 k).2.2.1 = some (tyX1 k) := by decide +kernel
def RX2 : String := "QuarterTurn$Pipe"
def TX2 : u_T := fun k => match k with
  | 0 => ("QuarterTurn$Pipe", "laws", "LQuarterTurn$Laws;", true)
  | 1 => ("QuarterTurn$Pipe", "joints", "[LQuarterTurn$Joint;", true)
  | 2 => ("QuarterTurn$Pipe", "counting", "[I", true)
  | 3 => ("QuarterTurn$Pipe", "many", "I", false)
  | 4 => ("QuarterTurn$Pipe", "hot", "I", false)
  | 5 => ("QuarterTurn$Pipe", "shake", "I", false)
  | 6 => ("QuarterTurn$Pipe", "pot", "I", false)
  | 7 => ("QuarterTurn$Pipe", "drops", "I", false)
  | 8 => ("QuarterTurn$Pipe", "in", "I", false)
  | 9 => ("QuarterTurn$Pipe", "flood", "I", false)
  | 10 => ("QuarterTurn$Pipe", "cracks", "I", false)
  | 11 => ("QuarterTurn$Pipe", "shaken", "I", false)
  | 12 => ("QuarterTurn$Pipe", "hour", "I", false)
  | 13 => ("QuarterTurn$Pipe", "z", "I", false)
  | _ => ("QuarterTurn$Pipe", "texts", "I", false)
def tyX2 : Nat → FieldType := fun k => match k with
  | 0 => .object "QuarterTurn$Laws"
  | 1 => .array (.object "QuarterTurn$Joint")
  | 2 => .array .int
  | 3 => .int
  | 4 => .int
  | 5 => .int
  | 6 => .int
  | 7 => .int
  | 8 => .int
  | 9 => .int
  | 10 => .int
  | 11 => .int
  | 12 => .int
  | 13 => .int
  | _ => .int
abbrev wsX20 : List Cond := u_ws RX2 TX2 15
theorem nmX2 : ∀ a, a < 15 → ∀ b, b < 15 → a ≠ b → (TX2 a).2.1 ≠ (TX2 b).2.1 := by decide +kernel
theorem tyX2_ok : ∀ k, k < 15 → parseFieldDescriptor (TX2 k).2.2.1 = some (tyX2 k) := by decide +kernel
def RX3 : String := "QuarterTurn$Reader"
def TX3 : u_T := fun k => match k with
  | 0 => ("QuarterTurn$Reader", "bytes", "[I", true)
  | 1 => ("QuarterTurn$Reader", "draft", "LQuarterTurn$Text;", true)
  | 2 => ("QuarterTurn$Reader", "length", "I", false)
  | 3 => ("QuarterTurn$Reader", "sort", "I", false)
  | 4 => ("QuarterTurn$Reader", "place", "I", false)
  | 5 => ("QuarterTurn$Reader", "behind", "I", false)
  | _ => ("QuarterTurn$Reader", "value", "I", false)
def tyX3 : Nat → FieldType := fun k => match k with
  | 0 => .array .int
  | 1 => .object "QuarterTurn$Text"
  | 2 => .int
  | 3 => .int
  | 4 => .int
  | 5 => .int
  | _ => .int
abbrev wsX30 : List Cond := u_ws RX3 TX3 7
theorem nmX3 : ∀ a, a < 7 → ∀ b, b < 7 → a ≠ b → (TX3 a).2.1 ≠ (TX3 b).2.1 := by decide +kernel
theorem tyX3_ok : ∀ k, k < 7 → parseFieldDescriptor (TX3 k).2.2.1 = some (tyX3 k) := by decide +kernel
def RX4 : String := "QuarterTurn$Sheet"
def TX4 : u_T := fun k => match k with
  | 0 => ("QuarterTurn$Sheet", "places", "[I", true)
  | 1 => ("QuarterTurn$Sheet", "sort", "I", false)
  | _ => ("QuarterTurn$Sheet", "size", "I", false)
def tyX4 : Nat → FieldType := fun k => match k with
  | 0 => .array .int
  | 1 => .int
  | _ => .int
abbrev wsX40 : List Cond := u_ws RX4 TX4 3
theorem nmX4 : ∀ a, a < 3 → ∀ b, b < 3 → a ≠ b → (TX4 a).2.1 ≠ (TX4 b).2.1 := by decide +kernel
theorem tyX4_ok : ∀ k, k < 3 → parseFieldDescriptor (TX4 k).2.2.1 = some (tyX4 k) := by decide +kernel
def RX5 : String := "QuarterTurn$Slot"
def TX5 : u_T := fun k => match k with
  | 0 => ("QuarterTurn$Slot", "joint", "LQuarterTurn$Joint;", true)
  | 1 => ("QuarterTurn$Slot", "sheet", "LQuarterTurn$Sheet;", true)
  | 2 => ("QuarterTurn$Slot", "holds", "I", false)
  | _ => ("QuarterTurn$Slot", "number", "I", false)
def tyX5 : Nat → FieldType := fun k => match k with
  | 0 => .object "QuarterTurn$Joint"
  | 1 => .object "QuarterTurn$Sheet"
  | 2 => .int
  | _ => .int
abbrev wsX50 : List Cond := u_ws RX5 TX5 4
theorem nmX5 : ∀ a, a < 4 → ∀ b, b < 4 → a ≠ b → (TX5 a).2.1 ≠ (TX5 b).2.1 := by decide +kernel
theorem tyX5_ok : ∀ k, k < 4 → parseFieldDescriptor (TX5 k).2.2.1 = some (tyX5 k) := by decide +kernel
def RX6 : String := "QuarterTurn$Text"
def TX6 : u_T := fun k => match k with
  | 0 => ("QuarterTurn$Text", "steps", "[I", true)
  | 1 => ("QuarterTurn$Text", "key", "I", false)
  | 2 => ("QuarterTurn$Text", "size", "I", false)
  | _ => ("QuarterTurn$Text", "pieces", "I", false)
def tyX6 : Nat → FieldType := fun k => match k with
  | 0 => .array .int
  | 1 => .int
  | 2 => .int
  | _ => .int
abbrev wsX60 : List Cond := u_ws RX6 TX6 4
theorem nmX6 : ∀ a, a < 4 → ∀ b, b < 4 → a ≠ b → (TX6 a).2.1 ≠ (TX6 b).2.1 := by decide +kernel
theorem tyX6_ok : ∀ k, k < 4 → parseFieldDescriptor (TX6 k).2.2.1 = some (tyX6 k) := by decide +kernel
def RX7 : String := "QuarterTurn"
def TX7 : u_T := fun k => match k with
  | 0 => ("QuarterTurn", "laws", "LQuarterTurn$Laws;", true)
  | 1 => ("QuarterTurn", "reader", "LQuarterTurn$Reader;", true)
  | 2 => ("QuarterTurn", "now", "LQuarterTurn$Pipe;", true)
  | 3 => ("QuarterTurn", "image", "LQuarterTurn$Pipe;", true)
  | 4 => ("QuarterTurn", "thought", "LQuarterTurn$Pipe;", true)
  | 5 => ("QuarterTurn", "imaged", "Z", false)
  | 6 => ("QuarterTurn", "sheets", "[LQuarterTurn$Sheet;", true)
  | 7 => ("QuarterTurn", "slots", "[LQuarterTurn$Slot;", true)
  | 8 => ("QuarterTurn", "waiting", "[I", true)
  | 9 => ("QuarterTurn", "waits", "I", false)
  | _ => ("QuarterTurn", "least", "LQuarterTurn$Least;", true)
def tyX7 : Nat → FieldType := fun k => match k with
  | 0 => .object "QuarterTurn$Laws"
  | 1 => .object "QuarterTurn$Reader"
  | 2 => .object "QuarterTurn$Pipe"
  | 3 => .object "QuarterTurn$Pipe"
  | 4 => .object "QuarterTurn$Pipe"
  | 5 => .boolean
  | 6 => .array (.object "QuarterTurn$Sheet")
  | 7 => .array (.object "QuarterTurn$Slot")
  | 8 => .array .int
  | 9 => .int
  | _ => .object "QuarterTurn$Least"
abbrev wsX70 : List Cond := u_ws RX7 TX7 11
theorem nmX7 : ∀ a, a < 11 → ∀ b, b < 11 → a ≠ b → (TX7 a).2.1 ≠ (TX7 b).2.1 := by decide +kernel
theorem tyX7_ok : ∀ k, k < 11 → parseFieldDescriptor (TX7 k).2.2.1 = some (tyX7 k) := by decide +kernel
def RX8 : String := "QuarterTurnModel"
def TX8 : u_T := fun k => match k with
  | 0 => ("QuarterTurnModel", "now", "[I", true)
  | 1 => ("QuarterTurnModel", "image", "[I", true)
  | 2 => ("QuarterTurnModel", "aside", "[I", true)
  | 3 => ("QuarterTurnModel", "hasImage", "Z", false)
  | 4 => ("QuarterTurnModel", "before", "[I", true)
  | 5 => ("QuarterTurnModel", "best", "I", false)
  | 6 => ("QuarterTurnModel", "least", "I", false)
  | 7 => ("QuarterTurnModel", "differ", "[J", true)
  | 8 => ("QuarterTurnModel", "tape", "[I", true)
  | 9 => ("QuarterTurnModel", "taped", "I", false)
  | 10 => ("QuarterTurnModel", "next", "I", false)
  | 11 => ("QuarterTurnModel", "from", "I", false)
  | 12 => ("QuarterTurnModel", "token", "I", false)
  | 13 => ("QuarterTurnModel", "value", "I", false)
  | 14 => ("QuarterTurnModel", "ended", "I", false)
  | 15 => ("QuarterTurnModel", "key", "I", false)
  | 16 => ("QuarterTurnModel", "keys", "[C", true)
  | 17 => ("QuarterTurnModel", "keyAt", "[I", true)
  | 18 => ("QuarterTurnModel", "code", "[I", true)
  | 19 => ("QuarterTurnModel", "codes", "I", false)
  | 20 => ("QuarterTurnModel", "atoms", "I", false)
  | 21 => ("QuarterTurnModel", "waits", "[I", true)
  | 22 => ("QuarterTurnModel", "held", "I", false)
  | 23 => ("QuarterTurnModel", "tested", "[Z", true)
  | 24 => ("QuarterTurnModel", "stack", "[I", true)
  | 25 => ("QuarterTurnModel", "facts", "[I", true)
  | 26 => ("QuarterTurnModel", "sorts", "[I", true)
  | 27 => ("QuarterTurnModel", "sizes", "[I", true)
  | 28 => ("QuarterTurnModel", "cells", "[I", true)
  | 29 => ("QuarterTurnModel", "holds", "[I", true)
  | 30 => ("QuarterTurnModel", "holdsA", "[I", true)
  | 31 => ("QuarterTurnModel", "holdsB", "[I", true)
  | 32 => ("QuarterTurnModel", "heldCells", "[I", true)
  | 33 => ("QuarterTurnModel", "moved", "[I", true)
  | 34 => ("QuarterTurnModel", "tells", "[I", true)
  | _ => ("QuarterTurnModel", "waiting", "I", false)
def tyX8 : Nat → FieldType := fun k => match k with
  | 0 => .array .int
  | 1 => .array .int
  | 2 => .array .int
  | 3 => .boolean
  | 4 => .array .int
  | 5 => .int
  | 6 => .int
  | 7 => .array .long
  | 8 => .array .int
  | 9 => .int
  | 10 => .int
  | 11 => .int
  | 12 => .int
  | 13 => .int
  | 14 => .int
  | 15 => .int
  | 16 => .array .char
  | 17 => .array .int
  | 18 => .array .int
  | 19 => .int
  | 20 => .int
  | 21 => .array .int
  | 22 => .int
  | 23 => .array .boolean
  | 24 => .array .int
  | 25 => .array .int
  | 26 => .array .int
  | 27 => .array .int
  | 28 => .array .int
  | 29 => .array .int
  | 30 => .array .int
  | 31 => .array .int
  | 32 => .array .int
  | 33 => .array .int
  | 34 => .array .int
  | _ => .int
abbrev wsX80 : List Cond := u_ws RX8 TX8 36
theorem nmX8 : ∀ a, a < 36 → ∀ b, b < 36 → a ≠ b → (TX8 a).2.1 ≠ (TX8 b).2.1 := by decide +kernel
theorem tyX8_ok : ∀ k, k < 36 → parseFieldDescriptor (TX8 k).2.2.1 = some (tyX8 k) := by decide +kernel
def RX9 : String := "QuarterTurn$Least"
def TX9 : u_T := fun k => match k with
  | 0 => ("QuarterTurn$Least", "which", "I", false)
  | _ => ("QuarterTurn$Least", "number", "I", false)
def tyX9 : Nat → FieldType := fun k => match k with
  | 0 => .int
  | _ => .int
abbrev wsX90 : List Cond := u_ws RX9 TX9 2
theorem nmX9 : ∀ a, a < 2 → ∀ b, b < 2 → a ≠ b → (TX9 a).2.1 ≠ (TX9 b).2.1 := by decide +kernel
theorem tyX9_ok : ∀ k, k < 2 → parseFieldDescriptor (TX9 k).2.2.1 = some (tyX9 k) := by decide +kernel
abbrev vwCl : List vw_C := [(RX0, TX0, 8), (RX1, TX1, 2), (RX2, TX2, 15), (RX3, TX3, 7), (RX4, TX4, 3), (RX5, TX5, 4), (RX6, TX6, 4), (RX7, TX7, 11), (RX8, TX8, 36), (RX9, TX9, 2)]
abbrev cX0_init : ByteArray := prog_2_method_1_code
def yX0_init : MethodName := ⟨RX0, "<init>", "()V"⟩
abbrev cX0_begin : ByteArray := prog_2_method_2_code
def yX0_begin : MethodName := ⟨RX0, "begin", "(IIII)V"⟩
abbrev cX0_takeFrom : ByteArray := prog_2_method_3_code
def yX0_takeFrom : MethodName := ⟨RX0, "takeFrom", "(LQuarterTurn$Joint;)V"⟩
abbrev cX0_given : ByteArray := prog_2_method_4_code
def yX0_given : MethodName := ⟨RX0, "given", "(I)I"⟩
abbrev cX0_give : ByteArray := prog_2_method_5_code
def yX0_give : MethodName := ⟨RX0, "give", "(II)V"⟩
abbrev cX0_tighten : ByteArray := prog_2_method_6_code
def yX0_tighten : MethodName := ⟨RX0, "tighten", "(I)V"⟩
abbrev cX0_mendBy : ByteArray := prog_2_method_7_code
def yX0_mendBy : MethodName := ⟨RX0, "mendBy", "(I)V"⟩
abbrev cX0_grip : ByteArray := prog_2_method_8_code
def yX0_grip : MethodName := ⟨RX0, "grip", "(I)I"⟩
abbrev cX0_bears : ByteArray := prog_2_method_9_code
def yX0_bears : MethodName := ⟨RX0, "bears", "()I"⟩
abbrev cX0_worth : ByteArray := prog_2_method_10_code
def yX0_worth : MethodName := ⟨RX0, "worth", "()I"⟩
abbrev cX1_init : ByteArray := prog_3_method_1_code
def yX1_init : MethodName := ⟨RX1, "<init>", "()V"⟩
abbrev cX1_gives : ByteArray := prog_3_method_2_code
def yX1_gives : MethodName := ⟨RX1, "gives", "(IIII)I"⟩
abbrev cX1_joined : ByteArray := prog_3_method_3_code
def yX1_joined : MethodName := ⟨RX1, "joined", "(III)I"⟩
abbrev cX2_init : ByteArray := prog_5_method_1_code
def yX2_init : MethodName := ⟨RX2, "<init>", "(LQuarterTurn$Laws;)V"⟩
abbrev cX2_takeFrom : ByteArray := prog_5_method_2_code
def yX2_takeFrom : MethodName := ⟨RX2, "takeFrom", "(LQuarterTurn$Pipe;)V"⟩
abbrev cX2_has : ByteArray := prog_5_method_3_code
def yX2_has : MethodName := ⟨RX2, "has", "(I)Z"⟩
abbrev cX2_add : ByteArray := prog_5_method_4_code
def yX2_add : MethodName := ⟨RX2, "add", "(IIII)I"⟩
abbrev cX2_draw : ByteArray := prog_5_method_5_code
def yX2_draw : MethodName := ⟨RX2, "draw", "()I"⟩
abbrev cX2_quarterMore : ByteArray := prog_5_method_6_code
def yX2_quarterMore : MethodName := ⟨RX2, "quarterMore", "(LQuarterTurn$Joint;)V"⟩
abbrev cX2_leaks : ByteArray := prog_5_method_7_code
def yX2_leaks : MethodName := ⟨RX2, "leaks", "(LQuarterTurn$Joint;)I"⟩
abbrev cX2_leaksOfAll : ByteArray := prog_5_method_8_code
def yX2_leaksOfAll : MethodName := ⟨RX2, "leaksOfAll", "()I"⟩
abbrev cX2_tightOfAll : ByteArray := prog_5_method_9_code
def yX2_tightOfAll : MethodName := ⟨RX2, "tightOfAll", "()I"⟩
abbrev cX2_crackedOnes : ByteArray := prog_5_method_10_code
def yX2_crackedOnes : MethodName := ⟨RX2, "crackedOnes", "()I"⟩
abbrev cX2_hangsAt : ByteArray := prog_5_method_11_code
def yX2_hangsAt : MethodName := ⟨RX2, "hangsAt", "(I)I"⟩
abbrev cX2_lowerBeside : ByteArray := prog_5_method_12_code
def yX2_lowerBeside : MethodName := ⟨RX2, "lowerBeside", "(I)I"⟩
abbrev cX2_passHours : ByteArray := prog_5_method_13_code
def yX2_passHours : MethodName := ⟨RX2, "passHours", "(I)V"⟩
abbrev cX2_passHour : ByteArray := prog_5_method_14_code
def yX2_passHour : MethodName := ⟨RX2, "passHour", "()V"⟩
abbrev cX2_letDrip : ByteArray := prog_5_method_15_code
def yX2_letDrip : MethodName := ⟨RX2, "letDrip", "(LQuarterTurn$Joint;)V"⟩
abbrev cX2_shakeLoose : ByteArray := prog_5_method_16_code
def yX2_shakeLoose : MethodName := ⟨RX2, "shakeLoose", "(LQuarterTurn$Joint;)V"⟩
abbrev cX3_init : ByteArray := prog_6_method_1_code
def yX3_init : MethodName := ⟨RX3, "<init>", "()V"⟩
abbrev cX3_append : ByteArray := prog_6_method_2_code
def yX3_append : MethodName := ⟨RX3, "append", "(I)V"⟩
abbrev cX3_faultOfTape : ByteArray := prog_6_method_3_code
def yX3_faultOfTape : MethodName := ⟨RX3, "faultOfTape", "()I"⟩
abbrev cX3_advance : ByteArray := prog_6_method_4_code
def yX3_advance : MethodName := ⟨RX3, "advance", "()V"⟩
abbrev cX3_readWord : ByteArray := prog_6_method_5_code
def yX3_readWord : MethodName := ⟨RX3, "readWord", "()V"⟩
abbrev cX3_sortAt : ByteArray := prog_6_method_6_code
def yX3_sortAt : MethodName := ⟨RX3, "sortAt", "(I)I"⟩
abbrev cX3_readKey : ByteArray := prog_6_method_7_code
def yX3_readKey : MethodName := ⟨RX3, "readKey", "()Z"⟩
abbrev cX3_isWord : ByteArray := prog_6_method_8_code
def yX3_isWord : MethodName := ⟨RX3, "isWord", "(Ljava/lang/String;)Z"⟩
abbrev cX3_readLevel : ByteArray := prog_6_method_9_code
def yX3_readLevel : MethodName := ⟨RX3, "readLevel", "(III)Z"⟩
abbrev cX3_joinsAt : ByteArray := prog_6_method_10_code
def yX3_joinsAt : MethodName := ⟨RX3, "joinsAt", "(I)Z"⟩
abbrev cX3_readPiece : ByteArray := prog_6_method_11_code
def yX3_readPiece : MethodName := ⟨RX3, "readPiece", "(II)Z"⟩
abbrev cX3_nameStep : ByteArray := prog_6_method_12_code
def yX3_nameStep : MethodName := ⟨RX3, "nameStep", "()I"⟩
abbrev cX4_init : ByteArray := prog_7_method_1_code
def yX4_init : MethodName := ⟨RX4, "<init>", "()V"⟩
abbrev cX4_become : ByteArray := prog_7_method_2_code
def yX4_become : MethodName := ⟨RX4, "become", "(II)V"⟩
abbrev cX4_takeFrom : ByteArray := prog_7_method_3_code
def yX4_takeFrom : MethodName := ⟨RX4, "takeFrom", "(LQuarterTurn$Sheet;)V"⟩
abbrev cX4_isMissing : ByteArray := prog_7_method_4_code
def yX4_isMissing : MethodName := ⟨RX4, "isMissing", "()Z"⟩
abbrev cX4_has : ByteArray := prog_7_method_5_code
def yX4_has : MethodName := ⟨RX4, "has", "(I)Z"⟩
abbrev cX4_hasRow : ByteArray := prog_7_method_6_code
def yX4_hasRow : MethodName := ⟨RX4, "hasRow", "(II)Z"⟩
abbrev cX4_isNumber : ByteArray := prog_7_method_7_code
def yX4_isNumber : MethodName := ⟨RX4, "isNumber", "(I)Z"⟩
abbrev cX5_init : ByteArray := prog_8_method_1_code
def yX5_init : MethodName := ⟨RX5, "<init>", "()V"⟩
abbrev cX6_init : ByteArray := prog_9_method_1_code
def yX6_init : MethodName := ⟨RX6, "<init>", "()V"⟩
abbrev cX6_takeFrom : ByteArray := prog_9_method_2_code
def yX6_takeFrom : MethodName := ⟨RX6, "takeFrom", "(LQuarterTurn$Text;)V"⟩
abbrev cX6_put : ByteArray := prog_9_method_3_code
def yX6_put : MethodName := ⟨RX6, "put", "(I)V"⟩
abbrev cX7_init : ByteArray := prog_1_method_1_code
def yX7_init : MethodName := ⟨RX7, "<init>", "()V"⟩
abbrev cX7_joint : ByteArray := prog_1_method_2_code
def yX7_joint : MethodName := ⟨RX7, "joint", "(IIII)I"⟩
abbrev cX7_told : ByteArray := prog_1_method_3_code
def yX7_told : MethodName := ⟨RX7, "told", "(II)I"⟩
abbrev cX7_as : ByteArray := prog_1_method_4_code
def yX7_as : MethodName := ⟨RX7, "as", "(II)I"⟩
abbrev cX7_turns : ByteArray := prog_1_method_5_code
def yX7_turns : MethodName := ⟨RX7, "turns", "(II)I"⟩
abbrev cX7_set : ByteArray := prog_1_method_6_code
def yX7_set : MethodName := ⟨RX7, "set", "(III)I"⟩
abbrev cX7_turn : ByteArray := prog_1_method_7_code
def yX7_turn : MethodName := ⟨RX7, "turn", "(II)I"⟩
abbrev cX7_rule : ByteArray := prog_1_method_8_code
def yX7_rule : MethodName := ⟨RX7, "rule", "(II)I"⟩
abbrev cX7_empty : ByteArray := prog_1_method_9_code
def yX7_empty : MethodName := ⟨RX7, "empty", "()I"⟩
abbrev cX7_deal : ByteArray := prog_1_method_10_code
def yX7_deal : MethodName := ⟨RX7, "deal", "(I)I"⟩
abbrev cX7_seed : ByteArray := prog_1_method_11_code
def yX7_seed : MethodName := ⟨RX7, "seed", "(I)I"⟩
abbrev cX7_hours : ByteArray := prog_1_method_12_code
def yX7_hours : MethodName := ⟨RX7, "hours", "(I)I"⟩
abbrev cX7_sink : ByteArray := prog_1_method_13_code
def yX7_sink : MethodName := ⟨RX7, "sink", "(I)I"⟩
abbrev cX7_seen : ByteArray := prog_1_method_14_code
def yX7_seen : MethodName := ⟨RX7, "seen", "(I)I"⟩
abbrev cX7_from : ByteArray := prog_1_method_15_code
def yX7_from : MethodName := ⟨RX7, "from", "(I)I"⟩
abbrev cX7_quarter : ByteArray := prog_1_method_16_code
def yX7_quarter : MethodName := ⟨RX7, "quarter", "(II)I"⟩
abbrev cX7_behind : ByteArray := prog_1_method_17_code
def yX7_behind : MethodName := ⟨RX7, "behind", "(II)I"⟩
abbrev cX7_full : ByteArray := prog_1_method_18_code
def yX7_full : MethodName := ⟨RX7, "full", "()I"⟩
abbrev cX7_shut : ByteArray := prog_1_method_19_code
def yX7_shut : MethodName := ⟨RX7, "shut", "(I)I"⟩
abbrev cX7_mend : ByteArray := prog_1_method_20_code
def yX7_mend : MethodName := ⟨RX7, "mend", "(III)I"⟩
abbrev cX7_first : ByteArray := prog_1_method_21_code
def yX7_first : MethodName := ⟨RX7, "first", "(II)I"⟩
abbrev cX7_becomes : ByteArray := prog_1_method_22_code
def yX7_becomes : MethodName := ⟨RX7, "becomes", "(III)I"⟩
abbrev cX7_loose : ByteArray := prog_1_method_23_code
def yX7_loose : MethodName := ⟨RX7, "loose", "(II)I"⟩
abbrev cX7_whose : ByteArray := prog_1_method_24_code
def yX7_whose : MethodName := ⟨RX7, "whose", "(II)I"⟩
abbrev cX7_fee : ByteArray := prog_1_method_25_code
def yX7_fee : MethodName := ⟨RX7, "fee", "()I"⟩
abbrev cX7_fine : ByteArray := prog_1_method_26_code
def yX7_fine : MethodName := ⟨RX7, "fine", "(I)I"⟩
abbrev cX7_feed : ByteArray := prog_1_method_27_code
def yX7_feed : MethodName := ⟨RX7, "feed", "(III)I"⟩
abbrev cX7_trim : ByteArray := prog_1_method_28_code
def yX7_trim : MethodName := ⟨RX7, "trim", "(I)I"⟩
abbrev cX7_text : ByteArray := prog_1_method_29_code
def yX7_text : MethodName := ⟨RX7, "text", "()I"⟩
abbrev cX7_textTold : ByteArray := prog_1_method_30_code
def yX7_textTold : MethodName := ⟨RX7, "textTold", "(II)I"⟩
abbrev cX7_why : ByteArray := prog_1_method_31_code
def yX7_why : MethodName := ⟨RX7, "why", "(I)I"⟩
abbrev cX7_sheet : ByteArray := prog_1_method_32_code
def yX7_sheet : MethodName := ⟨RX7, "sheet", "(III)I"⟩
abbrev cX7_mark : ByteArray := prog_1_method_33_code
def yX7_mark : MethodName := ⟨RX7, "mark", "(III)I"⟩
abbrev cX7_pour : ByteArray := prog_1_method_34_code
def yX7_pour : MethodName := ⟨RX7, "pour", "(I)I"⟩
abbrev cX7_reads : ByteArray := prog_1_method_35_code
def yX7_reads : MethodName := ⟨RX7, "reads", "(I)I"⟩
abbrev cX7_copy : ByteArray := prog_1_method_36_code
def yX7_copy : MethodName := ⟨RX7, "copy", "(IIIII)I"⟩
abbrev cX7_lay : ByteArray := prog_1_method_37_code
def yX7_lay : MethodName := ⟨RX7, "lay", "(III)I"⟩
abbrev cX7_ask : ByteArray := prog_1_method_38_code
def yX7_ask : MethodName := ⟨RX7, "ask", "(II)I"⟩
abbrev cX7_item : ByteArray := prog_1_method_39_code
def yX7_item : MethodName := ⟨RX7, "item", "(II)I"⟩
abbrev cX7_rest : ByteArray := prog_1_method_40_code
def yX7_rest : MethodName := ⟨RX7, "rest", "(II)I"⟩
abbrev cX7_tell : ByteArray := prog_1_method_41_code
def yX7_tell : MethodName := ⟨RX7, "tell", "(I)I"⟩
abbrev cX7_check : ByteArray := prog_1_method_42_code
def yX7_check : MethodName := ⟨RX7, "check", "(I)I"⟩
abbrev cX7_keep : ByteArray := prog_1_method_43_code
def yX7_keep : MethodName := ⟨RX7, "keep", "()I"⟩
abbrev cX7_back : ByteArray := prog_1_method_44_code
def yX7_back : MethodName := ⟨RX7, "back", "()I"⟩
abbrev cX7_count : ByteArray := prog_1_method_45_code
def yX7_count : MethodName := ⟨RX7, "count", "(I)I"⟩
abbrev cX7_within : ByteArray := prog_1_method_46_code
def yX7_within : MethodName := ⟨RX7, "within", "(II)Z"⟩
abbrev cX7_held : ByteArray := prog_1_method_47_code
def yX7_held : MethodName := ⟨RX7, "held", "(II)I"⟩
abbrev cX7_isKind : ByteArray := prog_1_method_48_code
def yX7_isKind : MethodName := ⟨RX7, "isKind", "(I)Z"⟩
abbrev cX7_isSheet : ByteArray := prog_1_method_49_code
def yX7_isSheet : MethodName := ⟨RX7, "isSheet", "(I)Z"⟩
abbrev cX7_isSlot : ByteArray := prog_1_method_50_code
def yX7_isSlot : MethodName := ⟨RX7, "isSlot", "(I)Z"⟩
abbrev cX7_isSpan : ByteArray := prog_1_method_51_code
def yX7_isSpan : MethodName := ⟨RX7, "isSpan", "(I)Z"⟩
abbrev cX7_canBeSet : ByteArray := prog_1_method_52_code
def yX7_canBeSet : MethodName := ⟨RX7, "canBeSet", "(I)Z"⟩
abbrev cX7_isOf : ByteArray := prog_1_method_53_code
def yX7_isOf : MethodName := ⟨RX7, "isOf", "(II)Z"⟩
abbrev cX7_apartFrom : ByteArray := prog_1_method_54_code
def yX7_apartFrom : MethodName := ⟨RX7, "apartFrom", "(LQuarterTurn$Sheet;I)I"⟩
abbrev cX7_toldRight : ByteArray := prog_1_method_55_code
def yX7_toldRight : MethodName := ⟨RX7, "toldRight", "(III)Z"⟩
abbrev cX8_init : ByteArray := prog_11_method_1_code
def yX8_init : MethodName := ⟨RX8, "<init>", "()V"⟩
abbrev cX8_in : ByteArray := prog_11_method_2_code
def yX8_in : MethodName := ⟨RX8, "in", "(III)Z"⟩
abbrev cX8_within : ByteArray := prog_11_method_3_code
def yX8_within : MethodName := ⟨RX8, "within", "(III)I"⟩
abbrev cX8_copyAll : ByteArray := prog_11_method_4_code
def yX8_copyAll : MethodName := ⟨RX8, "copyAll", "([I[I)V"⟩
abbrev cX8_isJoint : ByteArray := prog_11_method_5_code
def yX8_isJoint : MethodName := ⟨RX8, "isJoint", "(I)Z"⟩
abbrev cX8_of : ByteArray := prog_11_method_6_code
def yX8_of : MethodName := ⟨RX8, "of", "(II)I"⟩
abbrev cX8_put : ByteArray := prog_11_method_7_code
def yX8_put : MethodName := ⟨RX8, "put", "(III)V"⟩
abbrev cX8_swaps : ByteArray := prog_11_method_8_code
def yX8_swaps : MethodName := ⟨RX8, "swaps", "(II)I"⟩
abbrev cX8_comes : ByteArray := prog_11_method_9_code
def yX8_comes : MethodName := ⟨RX8, "comes", "(IIII)I"⟩
abbrev cX8_isOf : ByteArray := prog_11_method_10_code
def yX8_isOf : MethodName := ⟨RX8, "isOf", "(II)Z"⟩
abbrev cX8_joint : ByteArray := prog_11_method_11_code
def yX8_joint : MethodName := ⟨RX8, "joint", "(IIII)I"⟩
abbrev cX8_gripOf : ByteArray := prog_11_method_12_code
def yX8_gripOf : MethodName := ⟨RX8, "gripOf", "(I)I"⟩
abbrev cX8_dripsOf : ByteArray := prog_11_method_13_code
def yX8_dripsOf : MethodName := ⟨RX8, "dripsOf", "(I)I"⟩
abbrev cX8_leaksOf : ByteArray := prog_11_method_14_code
def yX8_leaksOf : MethodName := ⟨RX8, "leaksOf", "(I)I"⟩
abbrev cX8_bearsOf : ByteArray := prog_11_method_15_code
def yX8_bearsOf : MethodName := ⟨RX8, "bearsOf", "(I)I"⟩
abbrev cX8_worthOf : ByteArray := prog_11_method_16_code
def yX8_worthOf : MethodName := ⟨RX8, "worthOf", "(I)I"⟩
abbrev cX8_runsTo : ByteArray := prog_11_method_17_code
def yX8_runsTo : MethodName := ⟨RX8, "runsTo", "(I)I"⟩
abbrev cX8_hangsAt : ByteArray := prog_11_method_18_code
def yX8_hangsAt : MethodName := ⟨RX8, "hangsAt", "(I)I"⟩
abbrev cX8_told : ByteArray := prog_11_method_19_code
def yX8_told : MethodName := ⟨RX8, "told", "(II)I"⟩
abbrev cX8_isUnder : ByteArray := prog_11_method_20_code
def yX8_isUnder : MethodName := ⟨RX8, "isUnder", "(II)Z"⟩
abbrev cX8_as : ByteArray := prog_11_method_21_code
def yX8_as : MethodName := ⟨RX8, "as", "(II)I"⟩
abbrev cX8_turns : ByteArray := prog_11_method_22_code
def yX8_turns : MethodName := ⟨RX8, "turns", "(II)I"⟩
abbrev cX8_set : ByteArray := prog_11_method_23_code
def yX8_set : MethodName := ⟨RX8, "set", "(III)I"⟩
abbrev cX8_draw : ByteArray := prog_11_method_24_code
def yX8_draw : MethodName := ⟨RX8, "draw", "()I"⟩
abbrev cX8_tightens : ByteArray := prog_11_method_25_code
def yX8_tightens : MethodName := ⟨RX8, "tightens", "(II)V"⟩
abbrev cX8_quarterOn : ByteArray := prog_11_method_26_code
def yX8_quarterOn : MethodName := ⟨RX8, "quarterOn", "(I)V"⟩
abbrev cX8_turn : ByteArray := prog_11_method_27_code
def yX8_turn : MethodName := ⟨RX8, "turn", "(II)I"⟩
abbrev cX8_rule : ByteArray := prog_11_method_28_code
def yX8_rule : MethodName := ⟨RX8, "rule", "(II)I"⟩
abbrev cX8_empty : ByteArray := prog_11_method_29_code
def yX8_empty : MethodName := ⟨RX8, "empty", "()I"⟩
abbrev cX8_deal : ByteArray := prog_11_method_30_code
def yX8_deal : MethodName := ⟨RX8, "deal", "(I)I"⟩
abbrev cX8_seed : ByteArray := prog_11_method_31_code
def yX8_seed : MethodName := ⟨RX8, "seed", "(I)I"⟩
abbrev cX8_drips : ByteArray := prog_11_method_32_code
def yX8_drips : MethodName := ⟨RX8, "drips", "(I)V"⟩
abbrev cX8_hour : ByteArray := prog_11_method_33_code
def yX8_hour : MethodName := ⟨RX8, "hour", "()V"⟩
abbrev cX8_goesOn : ByteArray := prog_11_method_34_code
def yX8_goesOn : MethodName := ⟨RX8, "goesOn", "(I)V"⟩
abbrev cX8_hours : ByteArray := prog_11_method_35_code
def yX8_hours : MethodName := ⟨RX8, "hours", "(I)I"⟩
abbrev cX8_leaksOfAll : ByteArray := prog_11_method_36_code
def yX8_leaksOfAll : MethodName := ⟨RX8, "leaksOfAll", "()I"⟩
abbrev cX8_tightOfAll : ByteArray := prog_11_method_37_code
def yX8_tightOfAll : MethodName := ⟨RX8, "tightOfAll", "()I"⟩
abbrev cX8_cracked : ByteArray := prog_11_method_38_code
def yX8_cracked : MethodName := ⟨RX8, "cracked", "()I"⟩
abbrev cX8_sink : ByteArray := prog_11_method_39_code
def yX8_sink : MethodName := ⟨RX8, "sink", "(I)I"⟩
abbrev cX8_seen : ByteArray := prog_11_method_40_code
def yX8_seen : MethodName := ⟨RX8, "seen", "(I)I"⟩
abbrev cX8_from : ByteArray := prog_11_method_41_code
def yX8_from : MethodName := ⟨RX8, "from", "(I)I"⟩
abbrev cX8_thinks : ByteArray := prog_11_method_42_code
def yX8_thinks : MethodName := ⟨RX8, "thinks", "()V"⟩
abbrev cX8_putsBack : ByteArray := prog_11_method_43_code
def yX8_putsBack : MethodName := ⟨RX8, "putsBack", "()V"⟩
abbrev cX8_forgets : ByteArray := prog_11_method_44_code
def yX8_forgets : MethodName := ⟨RX8, "forgets", "()V"⟩
abbrev cX8_sees : ByteArray := prog_11_method_45_code
def yX8_sees : MethodName := ⟨RX8, "sees", "(II)V"⟩
abbrev cX8_quarter : ByteArray := prog_11_method_46_code
def yX8_quarter : MethodName := ⟨RX8, "quarter", "(II)I"⟩
abbrev cX8_behind : ByteArray := prog_11_method_47_code
def yX8_behind : MethodName := ⟨RX8, "behind", "(II)I"⟩
abbrev cX8_full : ByteArray := prog_11_method_48_code
def yX8_full : MethodName := ⟨RX8, "full", "()I"⟩
abbrev cX8_shut : ByteArray := prog_11_method_49_code
def yX8_shut : MethodName := ⟨RX8, "shut", "(I)I"⟩
abbrev cX8_dropsBehind : ByteArray := prog_11_method_50_code
def yX8_dropsBehind : MethodName := ⟨RX8, "dropsBehind", "(I)I"⟩
abbrev cX8_areAsked : ByteArray := prog_11_method_51_code
def yX8_areAsked : MethodName := ⟨RX8, "areAsked", "(II)Z"⟩
abbrev cX8_mend : ByteArray := prog_11_method_52_code
def yX8_mend : MethodName := ⟨RX8, "mend", "(III)I"⟩
abbrev cX8_first : ByteArray := prog_11_method_53_code
def yX8_first : MethodName := ⟨RX8, "first", "(II)I"⟩
abbrev cX8_becomes : ByteArray := prog_11_method_54_code
def yX8_becomes : MethodName := ⟨RX8, "becomes", "(III)I"⟩
abbrev cX8_loose : ByteArray := prog_11_method_55_code
def yX8_loose : MethodName := ⟨RX8, "loose", "(II)I"⟩
abbrev cX8_whose : ByteArray := prog_11_method_56_code
def yX8_whose : MethodName := ⟨RX8, "whose", "(II)I"⟩
abbrev cX8_fee : ByteArray := prog_11_method_57_code
def yX8_fee : MethodName := ⟨RX8, "fee", "()I"⟩
abbrev cX8_fine : ByteArray := prog_11_method_58_code
def yX8_fine : MethodName := ⟨RX8, "fine", "(I)I"⟩
abbrev cX8_feed : ByteArray := prog_11_method_59_code
def yX8_feed : MethodName := ⟨RX8, "feed", "(III)I"⟩
abbrev cX8_trim : ByteArray := prog_11_method_60_code
def yX8_trim : MethodName := ⟨RX8, "trim", "(I)I"⟩
abbrev cX8_isLetter : ByteArray := prog_11_method_61_code
def yX8_isLetter : MethodName := ⟨RX8, "isLetter", "(I)Z"⟩
abbrev cX8_isFigure : ByteArray := prog_11_method_62_code
def yX8_isFigure : MethodName := ⟨RX8, "isFigure", "(I)Z"⟩
abbrev cX8_go : ByteArray := prog_11_method_63_code
def yX8_go : MethodName := ⟨RX8, "go", "()V"⟩
abbrev cX8_takesKey : ByteArray := prog_11_method_64_code
def yX8_takesKey : MethodName := ⟨RX8, "takesKey", "()Z"⟩
abbrev cX8_nameOf : ByteArray := prog_11_method_65_code
def yX8_nameOf : MethodName := ⟨RX8, "nameOf", "(I)I"⟩
abbrev cX8_rank : ByteArray := prog_11_method_66_code
def yX8_rank : MethodName := ⟨RX8, "rank", "(I)I"⟩
abbrev cX8_settle : ByteArray := prog_11_method_67_code
def yX8_settle : MethodName := ⟨RX8, "settle", "(I)V"⟩
abbrev cX8_signHere : ByteArray := prog_11_method_68_code
def yX8_signHere : MethodName := ⟨RX8, "signHere", "()I"⟩
abbrev cX8_takesPart : ByteArray := prog_11_method_69_code
def yX8_takesPart : MethodName := ⟨RX8, "takesPart", "()Z"⟩
abbrev cX8_takesE : ByteArray := prog_11_method_70_code
def yX8_takesE : MethodName := ⟨RX8, "takesE", "()Z"⟩
abbrev cX8_notsOpen : ByteArray := prog_11_method_71_code
def yX8_notsOpen : MethodName := ⟨RX8, "notsOpen", "()I"⟩
abbrev cX8_text : ByteArray := prog_11_method_72_code
def yX8_text : MethodName := ⟨RX8, "text", "()I"⟩
abbrev cX8_textTold : ByteArray := prog_11_method_73_code
def yX8_textTold : MethodName := ⟨RX8, "textTold", "(II)I"⟩
abbrev cX8_counts : ByteArray := prog_11_method_74_code
def yX8_counts : MethodName := ⟨RX8, "counts", "(I)I"⟩
abbrev cX8_why : ByteArray := prog_11_method_75_code
def yX8_why : MethodName := ⟨RX8, "why", "(I)I"⟩
abbrev cX8_two : ByteArray := prog_11_method_76_code
def yX8_two : MethodName := ⟨RX8, "two", "(III)I"⟩
abbrev cX8_worksOut : ByteArray := prog_11_method_77_code
def yX8_worksOut : MethodName := ⟨RX8, "worksOut", "(I)I"⟩
abbrev cX8_isSheet : ByteArray := prog_11_method_78_code
def yX8_isSheet : MethodName := ⟨RX8, "isSheet", "(I)Z"⟩
abbrev cX8_isSlot : ByteArray := prog_11_method_79_code
def yX8_isSlot : MethodName := ⟨RX8, "isSlot", "(I)Z"⟩
abbrev cX8_sheet : ByteArray := prog_11_method_80_code
def yX8_sheet : MethodName := ⟨RX8, "sheet", "(III)I"⟩
abbrev cX8_mark : ByteArray := prog_11_method_81_code
def yX8_mark : MethodName := ⟨RX8, "mark", "(III)I"⟩
abbrev cX8_pour : ByteArray := prog_11_method_82_code
def yX8_pour : MethodName := ⟨RX8, "pour", "(I)I"⟩
abbrev cX8_reads : ByteArray := prog_11_method_83_code
def yX8_reads : MethodName := ⟨RX8, "reads", "(I)I"⟩
abbrev cX8_copy : ByteArray := prog_11_method_84_code
def yX8_copy : MethodName := ⟨RX8, "copy", "(IIIII)I"⟩
abbrev cX8_lay : ByteArray := prog_11_method_85_code
def yX8_lay : MethodName := ⟨RX8, "lay", "(III)I"⟩
abbrev cX8_ask : ByteArray := prog_11_method_86_code
def yX8_ask : MethodName := ⟨RX8, "ask", "(II)I"⟩
abbrev cX8_item : ByteArray := prog_11_method_87_code
def yX8_item : MethodName := ⟨RX8, "item", "(II)I"⟩
abbrev cX8_rest : ByteArray := prog_11_method_88_code
def yX8_rest : MethodName := ⟨RX8, "rest", "(II)I"⟩
abbrev cX8_tell : ByteArray := prog_11_method_89_code
def yX8_tell : MethodName := ⟨RX8, "tell", "(I)I"⟩
abbrev cX8_check : ByteArray := prog_11_method_90_code
def yX8_check : MethodName := ⟨RX8, "check", "(I)I"⟩
abbrev cX8_keep : ByteArray := prog_11_method_91_code
def yX8_keep : MethodName := ⟨RX8, "keep", "()I"⟩
abbrev cX8_back : ByteArray := prog_11_method_92_code
def yX8_back : MethodName := ⟨RX8, "back", "()I"⟩
abbrev cX8_count : ByteArray := prog_11_method_93_code
def yX8_count : MethodName := ⟨RX8, "count", "(I)I"⟩
abbrev cJ0_length_8abf5 : ByteArray := prog_14_method_54_code
def yJ0_length_8abf5 : MethodName := ⟨"java/lang/String", "length", "()I"⟩
abbrev cJ0_charAt_5068e : ByteArray := prog_14_method_56_code
def yJ0_charAt_5068e : MethodName := ⟨"java/lang/String", "charAt", "(I)C"⟩
abbrev cJ0_indexOf_0f7a4 : ByteArray := prog_14_method_79_code
def yJ0_indexOf_0f7a4 : MethodName := ⟨"java/lang/String", "indexOf", "(I)I"⟩
abbrev cJ0_indexOf_7cf53 : ByteArray := prog_14_method_80_code
def yJ0_indexOf_7cf53 : MethodName := ⟨"java/lang/String", "indexOf", "(II)I"⟩
abbrev cJ0_coder_7d493 : ByteArray := prog_14_method_152_code
def yJ0_coder_7d493 : MethodName := ⟨"java/lang/String", "coder", "()B"⟩
abbrev cJ0_isLatin1_aae02 : ByteArray := prog_14_method_154_code
def yJ0_isLatin1_aae02 : MethodName := ⟨"java/lang/String", "isLatin1", "()Z"⟩
abbrev cJ0_checkIndex_df160 : ByteArray := prog_14_method_155_code
def yJ0_checkIndex_df160 : MethodName := ⟨"java/lang/String", "checkIndex", "(II)V"⟩
abbrev cJ1_charAt_3b067 : ByteArray := prog_15_method_2_code
def yJ1_charAt_3b067 : MethodName := ⟨"java/lang/StringLatin1", "charAt", "([BI)C"⟩
abbrev cJ1_canEncode_9a6ad : ByteArray := prog_15_method_4_code
def yJ1_canEncode_9a6ad : MethodName := ⟨"java/lang/StringLatin1", "canEncode", "(I)Z"⟩
abbrev cJ1_indexOf_4cfef : ByteArray := prog_15_method_22_code
def yJ1_indexOf_4cfef : MethodName := ⟨"java/lang/StringLatin1", "indexOf", "([BIII)I"⟩
abbrev cJ1_indexOfChar_4cfef : ByteArray := prog_15_method_23_code
def yJ1_indexOfChar_4cfef : MethodName := ⟨"java/lang/StringLatin1", "indexOfChar", "([BIII)I"⟩
abbrev cJ3_checkIndex_8e157 : ByteArray := prog_18_method_11_code
def yJ3_checkIndex_8e157 : MethodName := ⟨"jdk/internal/util/Preconditions", "checkIndex", "(IILjava/util/function/BiFunction;)I"⟩
abbrev cX9_init : ByteArray := prog_4_method_1_code
def yX9_init : MethodName := ⟨RX9, "<init>", "()V"⟩
abbrev cX9_begin : ByteArray := prog_4_method_2_code
def yX9_begin : MethodName := ⟨RX9, "begin", "()V"⟩
abbrev cX9_look : ByteArray := prog_4_method_3_code
def yX9_look : MethodName := ⟨RX9, "look", "(II)V"⟩
abbrev cX9_found : ByteArray := prog_4_method_4_code
def yX9_found : MethodName := ⟨RX9, "found", "(I)I"⟩
def RL : String := "QuarterTurnLaw"
abbrev cL_law : ByteArray := code
def yL_law : MethodName := ⟨RL, "law", "([I)Z"⟩
