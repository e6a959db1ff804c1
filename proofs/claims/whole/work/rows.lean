section
-- ===== PART A: goes FIRST, ahead of the names: the tables' words, and 'selects' of the private methods out of them =====
/-- a private method of a class that the tables say can be made, by its rows of tables_1 -/
def lw_okq (q : MethodName × Nat) : Prop := (q.1.cls ≠ "java/lang/invoke/MethodHandle" ∧ q.1.cls ≠ "java/lang/invoke/VarHandle") ∧ Cond.instantiable q.1.cls q.2 ∈ tables_1 ∧ Cond.privateMethod q.1 ∈ tables_1 ∧ Cond.instanceMethod q.1 ∈ tables_1
theorem lw_p0 : lw_okq (⟨"QuarterTurn$Pipe", "lowerBeside", "(I)I"⟩, 15) := ⟨⟨by decide +kernel, by decide +kernel⟩, List.mem_of_getElem? (i := 100) (by decide +kernel), List.mem_of_getElem? (i := 356) (by decide +kernel), List.mem_of_getElem? (i := 357) (by decide +kernel)⟩
theorem lw_p1 : lw_okq (⟨"QuarterTurn$Pipe", "letDrip", "(LQuarterTurn$Joint;)V"⟩, 15) := ⟨⟨by decide +kernel, by decide +kernel⟩, List.mem_of_getElem? (i := 100) (by decide +kernel), List.mem_of_getElem? (i := 442) (by decide +kernel), List.mem_of_getElem? (i := 443) (by decide +kernel)⟩
theorem lw_p2 : lw_okq (⟨"QuarterTurn$Pipe", "shakeLoose", "(LQuarterTurn$Joint;)V"⟩, 15) := ⟨⟨by decide +kernel, by decide +kernel⟩, List.mem_of_getElem? (i := 100) (by decide +kernel), List.mem_of_getElem? (i := 448) (by decide +kernel), List.mem_of_getElem? (i := 449) (by decide +kernel)⟩
theorem lw_p3 : lw_okq (⟨"QuarterTurn", "apartFrom", "(LQuarterTurn$Sheet;I)I"⟩, 10) := ⟨⟨by decide +kernel, by decide +kernel⟩, List.mem_of_getElem? (i := 18) (by decide +kernel), List.mem_of_getElem? (i := 539) (by decide +kernel), List.mem_of_getElem? (i := 540) (by decide +kernel)⟩
theorem lw_p4 : lw_okq (⟨"QuarterTurn$Reader", "advance", "()V"⟩, 7) := ⟨⟨by decide +kernel, by decide +kernel⟩, List.mem_of_getElem? (i := 68) (by decide +kernel), List.mem_of_getElem? (i := 582) (by decide +kernel), List.mem_of_getElem? (i := 583) (by decide +kernel)⟩
theorem lw_p5 : lw_okq (⟨"QuarterTurn$Reader", "sortAt", "(I)I"⟩, 7) := ⟨⟨by decide +kernel, by decide +kernel⟩, List.mem_of_getElem? (i := 68) (by decide +kernel), List.mem_of_getElem? (i := 586) (by decide +kernel), List.mem_of_getElem? (i := 587) (by decide +kernel)⟩
theorem lw_p6 : lw_okq (⟨"QuarterTurn$Reader", "readWord", "()V"⟩, 7) := ⟨⟨by decide +kernel, by decide +kernel⟩, List.mem_of_getElem? (i := 68) (by decide +kernel), List.mem_of_getElem? (i := 590) (by decide +kernel), List.mem_of_getElem? (i := 591) (by decide +kernel)⟩
theorem lw_p7 : lw_okq (⟨"QuarterTurn$Reader", "readKey", "()Z"⟩, 7) := ⟨⟨by decide +kernel, by decide +kernel⟩, List.mem_of_getElem? (i := 68) (by decide +kernel), List.mem_of_getElem? (i := 594) (by decide +kernel), List.mem_of_getElem? (i := 595) (by decide +kernel)⟩
theorem lw_p8 : lw_okq (⟨"QuarterTurn$Reader", "isWord", "(Ljava/lang/String;)Z"⟩, 7) := ⟨⟨by decide +kernel, by decide +kernel⟩, List.mem_of_getElem? (i := 68) (by decide +kernel), List.mem_of_getElem? (i := 599) (by decide +kernel), List.mem_of_getElem? (i := 600) (by decide +kernel)⟩
theorem lw_p9 : lw_okq (⟨"QuarterTurn$Reader", "readLevel", "(III)Z"⟩, 7) := ⟨⟨by decide +kernel, by decide +kernel⟩, List.mem_of_getElem? (i := 68) (by decide +kernel), List.mem_of_getElem? (i := 653) (by decide +kernel), List.mem_of_getElem? (i := 654) (by decide +kernel)⟩
theorem lw_p10 : lw_okq (⟨"QuarterTurn$Reader", "readPiece", "(II)Z"⟩, 7) := ⟨⟨by decide +kernel, by decide +kernel⟩, List.mem_of_getElem? (i := 68) (by decide +kernel), List.mem_of_getElem? (i := 657) (by decide +kernel), List.mem_of_getElem? (i := 658) (by decide +kernel)⟩
theorem lw_p11 : lw_okq (⟨"QuarterTurn$Reader", "nameStep", "()I"⟩, 7) := ⟨⟨by decide +kernel, by decide +kernel⟩, List.mem_of_getElem? (i := 68) (by decide +kernel), List.mem_of_getElem? (i := 665) (by decide +kernel), List.mem_of_getElem? (i := 666) (by decide +kernel)⟩
theorem lw_p12 : lw_okq (⟨"QuarterTurn$Reader", "joinsAt", "(I)Z"⟩, 7) := ⟨⟨by decide +kernel, by decide +kernel⟩, List.mem_of_getElem? (i := 68) (by decide +kernel), List.mem_of_getElem? (i := 728) (by decide +kernel), List.mem_of_getElem? (i := 729) (by decide +kernel)⟩
theorem lw_p13 : lw_okq (⟨"QuarterTurn", "toldRight", "(III)Z"⟩, 10) := ⟨⟨by decide +kernel, by decide +kernel⟩, List.mem_of_getElem? (i := 18) (by decide +kernel), List.mem_of_getElem? (i := 815) (by decide +kernel), List.mem_of_getElem? (i := 816) (by decide +kernel)⟩
theorem lw_p14 : lw_okq (⟨"QuarterTurnModel", "comes", "(IIII)I"⟩, 36) := ⟨⟨by decide +kernel, by decide +kernel⟩, List.mem_of_getElem? (i := 831) (by decide +kernel), List.mem_of_getElem? (i := 961) (by decide +kernel), List.mem_of_getElem? (i := 962) (by decide +kernel)⟩
theorem lw_p15 : lw_okq (⟨"QuarterTurnModel", "put", "(III)V"⟩, 36) := ⟨⟨by decide +kernel, by decide +kernel⟩, List.mem_of_getElem? (i := 831) (by decide +kernel), List.mem_of_getElem? (i := 965) (by decide +kernel), List.mem_of_getElem? (i := 966) (by decide +kernel)⟩
def lw_privs_1 : List (MethodName × Nat) := [(⟨"QuarterTurn$Pipe", "lowerBeside", "(I)I"⟩, 15), (⟨"QuarterTurn$Pipe", "letDrip", "(LQuarterTurn$Joint;)V"⟩, 15), (⟨"QuarterTurn$Pipe", "shakeLoose", "(LQuarterTurn$Joint;)V"⟩, 15), (⟨"QuarterTurn", "apartFrom", "(LQuarterTurn$Sheet;I)I"⟩, 10), (⟨"QuarterTurn$Reader", "advance", "()V"⟩, 7), (⟨"QuarterTurn$Reader", "sortAt", "(I)I"⟩, 7), (⟨"QuarterTurn$Reader", "readWord", "()V"⟩, 7), (⟨"QuarterTurn$Reader", "readKey", "()Z"⟩, 7), (⟨"QuarterTurn$Reader", "isWord", "(Ljava/lang/String;)Z"⟩, 7), (⟨"QuarterTurn$Reader", "readLevel", "(III)Z"⟩, 7), (⟨"QuarterTurn$Reader", "readPiece", "(II)Z"⟩, 7), (⟨"QuarterTurn$Reader", "nameStep", "()I"⟩, 7), (⟨"QuarterTurn$Reader", "joinsAt", "(I)Z"⟩, 7), (⟨"QuarterTurn", "toldRight", "(III)Z"⟩, 10), (⟨"QuarterTurnModel", "comes", "(IIII)I"⟩, 36), (⟨"QuarterTurnModel", "put", "(III)V"⟩, 36)]
theorem lw_r1 : ∀ q ∈ lw_privs_1, lw_okq q := List.forall_mem_cons.mpr ⟨lw_p0, List.forall_mem_cons.mpr ⟨lw_p1, List.forall_mem_cons.mpr ⟨lw_p2, List.forall_mem_cons.mpr ⟨lw_p3, List.forall_mem_cons.mpr ⟨lw_p4, List.forall_mem_cons.mpr ⟨lw_p5, List.forall_mem_cons.mpr ⟨lw_p6, List.forall_mem_cons.mpr ⟨lw_p7, List.forall_mem_cons.mpr ⟨lw_p8, List.forall_mem_cons.mpr ⟨lw_p9, List.forall_mem_cons.mpr ⟨lw_p10, List.forall_mem_cons.mpr ⟨lw_p11, List.forall_mem_cons.mpr ⟨lw_p12, List.forall_mem_cons.mpr ⟨lw_p13, List.forall_mem_cons.mpr ⟨lw_p14, List.forall_mem_cons.mpr ⟨lw_p15, fun _ h => absurd h List.not_mem_nil⟩⟩⟩⟩⟩⟩⟩⟩⟩⟩⟩⟩⟩⟩⟩⟩
theorem lw_p16 : lw_okq (⟨"QuarterTurnModel", "isJoint", "(I)Z"⟩, 36) := ⟨⟨by decide +kernel, by decide +kernel⟩, List.mem_of_getElem? (i := 831) (by decide +kernel), List.mem_of_getElem? (i := 973) (by decide +kernel), List.mem_of_getElem? (i := 974) (by decide +kernel)⟩
theorem lw_p17 : lw_okq (⟨"QuarterTurnModel", "of", "(II)I"⟩, 36) := ⟨⟨by decide +kernel, by decide +kernel⟩, List.mem_of_getElem? (i := 831) (by decide +kernel), List.mem_of_getElem? (i := 977) (by decide +kernel), List.mem_of_getElem? (i := 978) (by decide +kernel)⟩
theorem lw_p18 : lw_okq (⟨"QuarterTurnModel", "gripOf", "(I)I"⟩, 36) := ⟨⟨by decide +kernel, by decide +kernel⟩, List.mem_of_getElem? (i := 831) (by decide +kernel), List.mem_of_getElem? (i := 981) (by decide +kernel), List.mem_of_getElem? (i := 982) (by decide +kernel)⟩
theorem lw_p19 : lw_okq (⟨"QuarterTurnModel", "leaksOf", "(I)I"⟩, 36) := ⟨⟨by decide +kernel, by decide +kernel⟩, List.mem_of_getElem? (i := 831) (by decide +kernel), List.mem_of_getElem? (i := 988) (by decide +kernel), List.mem_of_getElem? (i := 989) (by decide +kernel)⟩
theorem lw_p20 : lw_okq (⟨"QuarterTurnModel", "dripsOf", "(I)I"⟩, 36) := ⟨⟨by decide +kernel, by decide +kernel⟩, List.mem_of_getElem? (i := 831) (by decide +kernel), List.mem_of_getElem? (i := 992) (by decide +kernel), List.mem_of_getElem? (i := 993) (by decide +kernel)⟩
theorem lw_p21 : lw_okq (⟨"QuarterTurnModel", "counts", "(I)I"⟩, 36) := ⟨⟨by decide +kernel, by decide +kernel⟩, List.mem_of_getElem? (i := 831) (by decide +kernel), List.mem_of_getElem? (i := 996) (by decide +kernel), List.mem_of_getElem? (i := 997) (by decide +kernel)⟩
theorem lw_p22 : lw_okq (⟨"QuarterTurnModel", "worksOut", "(I)I"⟩, 36) := ⟨⟨by decide +kernel, by decide +kernel⟩, List.mem_of_getElem? (i := 831) (by decide +kernel), List.mem_of_getElem? (i := 1000) (by decide +kernel), List.mem_of_getElem? (i := 1001) (by decide +kernel)⟩
theorem lw_p23 : lw_okq (⟨"QuarterTurnModel", "bearsOf", "(I)I"⟩, 36) := ⟨⟨by decide +kernel, by decide +kernel⟩, List.mem_of_getElem? (i := 831) (by decide +kernel), List.mem_of_getElem? (i := 1007) (by decide +kernel), List.mem_of_getElem? (i := 1008) (by decide +kernel)⟩
theorem lw_p24 : lw_okq (⟨"QuarterTurnModel", "hangsAt", "(I)I"⟩, 36) := ⟨⟨by decide +kernel, by decide +kernel⟩, List.mem_of_getElem? (i := 831) (by decide +kernel), List.mem_of_getElem? (i := 1011) (by decide +kernel), List.mem_of_getElem? (i := 1012) (by decide +kernel)⟩
theorem lw_p25 : lw_okq (⟨"QuarterTurnModel", "runsTo", "(I)I"⟩, 36) := ⟨⟨by decide +kernel, by decide +kernel⟩, List.mem_of_getElem? (i := 831) (by decide +kernel), List.mem_of_getElem? (i := 1015) (by decide +kernel), List.mem_of_getElem? (i := 1016) (by decide +kernel)⟩
theorem lw_p26 : lw_okq (⟨"QuarterTurnModel", "worthOf", "(I)I"⟩, 36) := ⟨⟨by decide +kernel, by decide +kernel⟩, List.mem_of_getElem? (i := 831) (by decide +kernel), List.mem_of_getElem? (i := 1019) (by decide +kernel), List.mem_of_getElem? (i := 1020) (by decide +kernel)⟩
theorem lw_p27 : lw_okq (⟨"QuarterTurnModel", "swaps", "(II)I"⟩, 36) := ⟨⟨by decide +kernel, by decide +kernel⟩, List.mem_of_getElem? (i := 831) (by decide +kernel), List.mem_of_getElem? (i := 1035) (by decide +kernel), List.mem_of_getElem? (i := 1036) (by decide +kernel)⟩
theorem lw_p28 : lw_okq (⟨"QuarterTurnModel", "quarterOn", "(I)V"⟩, 36) := ⟨⟨by decide +kernel, by decide +kernel⟩, List.mem_of_getElem? (i := 831) (by decide +kernel), List.mem_of_getElem? (i := 1047) (by decide +kernel), List.mem_of_getElem? (i := 1048) (by decide +kernel)⟩
theorem lw_p29 : lw_okq (⟨"QuarterTurnModel", "tightens", "(II)V"⟩, 36) := ⟨⟨by decide +kernel, by decide +kernel⟩, List.mem_of_getElem? (i := 831) (by decide +kernel), List.mem_of_getElem? (i := 1051) (by decide +kernel), List.mem_of_getElem? (i := 1052) (by decide +kernel)⟩
theorem lw_p30 : lw_okq (⟨"QuarterTurnModel", "draw", "()I"⟩, 36) := ⟨⟨by decide +kernel, by decide +kernel⟩, List.mem_of_getElem? (i := 831) (by decide +kernel), List.mem_of_getElem? (i := 1055) (by decide +kernel), List.mem_of_getElem? (i := 1056) (by decide +kernel)⟩
theorem lw_p31 : lw_okq (⟨"QuarterTurnModel", "goesOn", "(I)V"⟩, 36) := ⟨⟨by decide +kernel, by decide +kernel⟩, List.mem_of_getElem? (i := 831) (by decide +kernel), List.mem_of_getElem? (i := 1080) (by decide +kernel), List.mem_of_getElem? (i := 1081) (by decide +kernel)⟩
def lw_privs_2 : List (MethodName × Nat) := [(⟨"QuarterTurnModel", "isJoint", "(I)Z"⟩, 36), (⟨"QuarterTurnModel", "of", "(II)I"⟩, 36), (⟨"QuarterTurnModel", "gripOf", "(I)I"⟩, 36), (⟨"QuarterTurnModel", "leaksOf", "(I)I"⟩, 36), (⟨"QuarterTurnModel", "dripsOf", "(I)I"⟩, 36), (⟨"QuarterTurnModel", "counts", "(I)I"⟩, 36), (⟨"QuarterTurnModel", "worksOut", "(I)I"⟩, 36), (⟨"QuarterTurnModel", "bearsOf", "(I)I"⟩, 36), (⟨"QuarterTurnModel", "hangsAt", "(I)I"⟩, 36), (⟨"QuarterTurnModel", "runsTo", "(I)I"⟩, 36), (⟨"QuarterTurnModel", "worthOf", "(I)I"⟩, 36), (⟨"QuarterTurnModel", "swaps", "(II)I"⟩, 36), (⟨"QuarterTurnModel", "quarterOn", "(I)V"⟩, 36), (⟨"QuarterTurnModel", "tightens", "(II)V"⟩, 36), (⟨"QuarterTurnModel", "draw", "()I"⟩, 36), (⟨"QuarterTurnModel", "goesOn", "(I)V"⟩, 36)]
theorem lw_r2 : ∀ q ∈ lw_privs_2, lw_okq q := List.forall_mem_cons.mpr ⟨lw_p16, List.forall_mem_cons.mpr ⟨lw_p17, List.forall_mem_cons.mpr ⟨lw_p18, List.forall_mem_cons.mpr ⟨lw_p19, List.forall_mem_cons.mpr ⟨lw_p20, List.forall_mem_cons.mpr ⟨lw_p21, List.forall_mem_cons.mpr ⟨lw_p22, List.forall_mem_cons.mpr ⟨lw_p23, List.forall_mem_cons.mpr ⟨lw_p24, List.forall_mem_cons.mpr ⟨lw_p25, List.forall_mem_cons.mpr ⟨lw_p26, List.forall_mem_cons.mpr ⟨lw_p27, List.forall_mem_cons.mpr ⟨lw_p28, List.forall_mem_cons.mpr ⟨lw_p29, List.forall_mem_cons.mpr ⟨lw_p30, List.forall_mem_cons.mpr ⟨lw_p31, fun _ h => absurd h List.not_mem_nil⟩⟩⟩⟩⟩⟩⟩⟩⟩⟩⟩⟩⟩⟩⟩⟩
theorem lw_p32 : lw_okq (⟨"QuarterTurnModel", "hour", "()V"⟩, 36) := ⟨⟨by decide +kernel, by decide +kernel⟩, List.mem_of_getElem? (i := 831) (by decide +kernel), List.mem_of_getElem? (i := 1084) (by decide +kernel), List.mem_of_getElem? (i := 1085) (by decide +kernel)⟩
theorem lw_p33 : lw_okq (⟨"QuarterTurnModel", "drips", "(I)V"⟩, 36) := ⟨⟨by decide +kernel, by decide +kernel⟩, List.mem_of_getElem? (i := 831) (by decide +kernel), List.mem_of_getElem? (i := 1088) (by decide +kernel), List.mem_of_getElem? (i := 1089) (by decide +kernel)⟩
theorem lw_p34 : lw_okq (⟨"QuarterTurnModel", "leaksOfAll", "()I"⟩, 36) := ⟨⟨by decide +kernel, by decide +kernel⟩, List.mem_of_getElem? (i := 831) (by decide +kernel), List.mem_of_getElem? (i := 1096) (by decide +kernel), List.mem_of_getElem? (i := 1097) (by decide +kernel)⟩
theorem lw_p35 : lw_okq (⟨"QuarterTurnModel", "cracked", "()I"⟩, 36) := ⟨⟨by decide +kernel, by decide +kernel⟩, List.mem_of_getElem? (i := 831) (by decide +kernel), List.mem_of_getElem? (i := 1100) (by decide +kernel), List.mem_of_getElem? (i := 1101) (by decide +kernel)⟩
theorem lw_p36 : lw_okq (⟨"QuarterTurnModel", "tightOfAll", "()I"⟩, 36) := ⟨⟨by decide +kernel, by decide +kernel⟩, List.mem_of_getElem? (i := 831) (by decide +kernel), List.mem_of_getElem? (i := 1104) (by decide +kernel), List.mem_of_getElem? (i := 1105) (by decide +kernel)⟩
theorem lw_p37 : lw_okq (⟨"QuarterTurnModel", "thinks", "()V"⟩, 36) := ⟨⟨by decide +kernel, by decide +kernel⟩, List.mem_of_getElem? (i := 831) (by decide +kernel), List.mem_of_getElem? (i := 1120) (by decide +kernel), List.mem_of_getElem? (i := 1121) (by decide +kernel)⟩
theorem lw_p38 : lw_okq (⟨"QuarterTurnModel", "forgets", "()V"⟩, 36) := ⟨⟨by decide +kernel, by decide +kernel⟩, List.mem_of_getElem? (i := 831) (by decide +kernel), List.mem_of_getElem? (i := 1124) (by decide +kernel), List.mem_of_getElem? (i := 1125) (by decide +kernel)⟩
theorem lw_p39 : lw_okq (⟨"QuarterTurnModel", "putsBack", "()V"⟩, 36) := ⟨⟨by decide +kernel, by decide +kernel⟩, List.mem_of_getElem? (i := 831) (by decide +kernel), List.mem_of_getElem? (i := 1129) (by decide +kernel), List.mem_of_getElem? (i := 1130) (by decide +kernel)⟩
theorem lw_p40 : lw_okq (⟨"QuarterTurnModel", "sees", "(II)V"⟩, 36) := ⟨⟨by decide +kernel, by decide +kernel⟩, List.mem_of_getElem? (i := 831) (by decide +kernel), List.mem_of_getElem? (i := 1133) (by decide +kernel), List.mem_of_getElem? (i := 1134) (by decide +kernel)⟩
theorem lw_p41 : lw_okq (⟨"QuarterTurnModel", "dropsBehind", "(I)I"⟩, 36) := ⟨⟨by decide +kernel, by decide +kernel⟩, List.mem_of_getElem? (i := 831) (by decide +kernel), List.mem_of_getElem? (i := 1156) (by decide +kernel), List.mem_of_getElem? (i := 1157) (by decide +kernel)⟩
theorem lw_p42 : lw_okq (⟨"QuarterTurnModel", "go", "()V"⟩, 36) := ⟨⟨by decide +kernel, by decide +kernel⟩, List.mem_of_getElem? (i := 831) (by decide +kernel), List.mem_of_getElem? (i := 1200) (by decide +kernel), List.mem_of_getElem? (i := 1201) (by decide +kernel)⟩
theorem lw_p43 : lw_okq (⟨"QuarterTurnModel", "isLetter", "(I)Z"⟩, 36) := ⟨⟨by decide +kernel, by decide +kernel⟩, List.mem_of_getElem? (i := 831) (by decide +kernel), List.mem_of_getElem? (i := 1204) (by decide +kernel), List.mem_of_getElem? (i := 1205) (by decide +kernel)⟩
theorem lw_p44 : lw_okq (⟨"QuarterTurnModel", "isFigure", "(I)Z"⟩, 36) := ⟨⟨by decide +kernel, by decide +kernel⟩, List.mem_of_getElem? (i := 831) (by decide +kernel), List.mem_of_getElem? (i := 1208) (by decide +kernel), List.mem_of_getElem? (i := 1209) (by decide +kernel)⟩
theorem lw_p45 : lw_okq (⟨"QuarterTurnModel", "takesKey", "()Z"⟩, 36) := ⟨⟨by decide +kernel, by decide +kernel⟩, List.mem_of_getElem? (i := 831) (by decide +kernel), List.mem_of_getElem? (i := 1212) (by decide +kernel), List.mem_of_getElem? (i := 1213) (by decide +kernel)⟩
theorem lw_p46 : lw_okq (⟨"QuarterTurnModel", "takesE", "()Z"⟩, 36) := ⟨⟨by decide +kernel, by decide +kernel⟩, List.mem_of_getElem? (i := 831) (by decide +kernel), List.mem_of_getElem? (i := 1216) (by decide +kernel), List.mem_of_getElem? (i := 1217) (by decide +kernel)⟩
theorem lw_p47 : lw_okq (⟨"QuarterTurnModel", "takesPart", "()Z"⟩, 36) := ⟨⟨by decide +kernel, by decide +kernel⟩, List.mem_of_getElem? (i := 831) (by decide +kernel), List.mem_of_getElem? (i := 1220) (by decide +kernel), List.mem_of_getElem? (i := 1221) (by decide +kernel)⟩
def lw_privs_3 : List (MethodName × Nat) := [(⟨"QuarterTurnModel", "hour", "()V"⟩, 36), (⟨"QuarterTurnModel", "drips", "(I)V"⟩, 36), (⟨"QuarterTurnModel", "leaksOfAll", "()I"⟩, 36), (⟨"QuarterTurnModel", "cracked", "()I"⟩, 36), (⟨"QuarterTurnModel", "tightOfAll", "()I"⟩, 36), (⟨"QuarterTurnModel", "thinks", "()V"⟩, 36), (⟨"QuarterTurnModel", "forgets", "()V"⟩, 36), (⟨"QuarterTurnModel", "putsBack", "()V"⟩, 36), (⟨"QuarterTurnModel", "sees", "(II)V"⟩, 36), (⟨"QuarterTurnModel", "dropsBehind", "(I)I"⟩, 36), (⟨"QuarterTurnModel", "go", "()V"⟩, 36), (⟨"QuarterTurnModel", "isLetter", "(I)Z"⟩, 36), (⟨"QuarterTurnModel", "isFigure", "(I)Z"⟩, 36), (⟨"QuarterTurnModel", "takesKey", "()Z"⟩, 36), (⟨"QuarterTurnModel", "takesE", "()Z"⟩, 36), (⟨"QuarterTurnModel", "takesPart", "()Z"⟩, 36)]
theorem lw_r3 : ∀ q ∈ lw_privs_3, lw_okq q := List.forall_mem_cons.mpr ⟨lw_p32, List.forall_mem_cons.mpr ⟨lw_p33, List.forall_mem_cons.mpr ⟨lw_p34, List.forall_mem_cons.mpr ⟨lw_p35, List.forall_mem_cons.mpr ⟨lw_p36, List.forall_mem_cons.mpr ⟨lw_p37, List.forall_mem_cons.mpr ⟨lw_p38, List.forall_mem_cons.mpr ⟨lw_p39, List.forall_mem_cons.mpr ⟨lw_p40, List.forall_mem_cons.mpr ⟨lw_p41, List.forall_mem_cons.mpr ⟨lw_p42, List.forall_mem_cons.mpr ⟨lw_p43, List.forall_mem_cons.mpr ⟨lw_p44, List.forall_mem_cons.mpr ⟨lw_p45, List.forall_mem_cons.mpr ⟨lw_p46, List.forall_mem_cons.mpr ⟨lw_p47, fun _ h => absurd h List.not_mem_nil⟩⟩⟩⟩⟩⟩⟩⟩⟩⟩⟩⟩⟩⟩⟩⟩
theorem lw_p48 : lw_okq (⟨"QuarterTurnModel", "nameOf", "(I)I"⟩, 36) := ⟨⟨by decide +kernel, by decide +kernel⟩, List.mem_of_getElem? (i := 831) (by decide +kernel), List.mem_of_getElem? (i := 1224) (by decide +kernel), List.mem_of_getElem? (i := 1225) (by decide +kernel)⟩
theorem lw_p49 : lw_okq (⟨"QuarterTurnModel", "settle", "(I)V"⟩, 36) := ⟨⟨by decide +kernel, by decide +kernel⟩, List.mem_of_getElem? (i := 831) (by decide +kernel), List.mem_of_getElem? (i := 1228) (by decide +kernel), List.mem_of_getElem? (i := 1229) (by decide +kernel)⟩
theorem lw_p50 : lw_okq (⟨"QuarterTurnModel", "notsOpen", "()I"⟩, 36) := ⟨⟨by decide +kernel, by decide +kernel⟩, List.mem_of_getElem? (i := 831) (by decide +kernel), List.mem_of_getElem? (i := 1235) (by decide +kernel), List.mem_of_getElem? (i := 1236) (by decide +kernel)⟩
theorem lw_p51 : lw_okq (⟨"QuarterTurnModel", "signHere", "()I"⟩, 36) := ⟨⟨by decide +kernel, by decide +kernel⟩, List.mem_of_getElem? (i := 831) (by decide +kernel), List.mem_of_getElem? (i := 1239) (by decide +kernel), List.mem_of_getElem? (i := 1240) (by decide +kernel)⟩
def lw_privs_4 : List (MethodName × Nat) := [(⟨"QuarterTurnModel", "nameOf", "(I)I"⟩, 36), (⟨"QuarterTurnModel", "settle", "(I)V"⟩, 36), (⟨"QuarterTurnModel", "notsOpen", "()I"⟩, 36), (⟨"QuarterTurnModel", "signHere", "()I"⟩, 36)]
theorem lw_r4 : ∀ q ∈ lw_privs_4, lw_okq q := List.forall_mem_cons.mpr ⟨lw_p48, List.forall_mem_cons.mpr ⟨lw_p49, List.forall_mem_cons.mpr ⟨lw_p50, List.forall_mem_cons.mpr ⟨lw_p51, fun _ h => absurd h List.not_mem_nil⟩⟩⟩⟩
def lw_privs : List (MethodName × Nat) := lw_privs_1 ++ (lw_privs_2 ++ (lw_privs_3 ++ (lw_privs_4)))
def lw_tbl : List Cond := k2_sels lw_privs ++ tables_1
theorem lw_privs_ok : ∀ q ∈ lw_privs, lw_okq q := by
  show ∀ q ∈ lw_privs_1 ++ (lw_privs_2 ++ (lw_privs_3 ++ (lw_privs_4))), lw_okq q
  exact List.forall_mem_append.mpr ⟨lw_r1, List.forall_mem_append.mpr ⟨lw_r2, List.forall_mem_append.mpr ⟨lw_r3, lw_r4⟩⟩⟩
/-! names: classes, fields, types; methods: bytes and names (out of the printed names) -/
def RX0 : String := "QuarterTurn$Joint"
def TX0 : u_T := fun k => match k with
  | 0 => ("QuarterTurn$Joint", "kind", "I", false)
  | 1 => ("QuarterTurn$Joint", "tight", "I", false)
  | 2 => ("QuarterTurn$Joint", "ring", "I", false)
  | 3 => ("QuarterTurn$Joint", "dirt", "I", false)
  | 4 => ("QuarterTurn$Joint", "slant", "I", false)
  | 5 => ("QuarterTurn$Joint", "tape", "I", false)
  | 6 => ("QuarterTurn$Joint", "high", "I", false)
  | _ => ("QuarterTurn$Joint", "swollen", "I", false)
def tyX0 : Nat → FieldType := fun k => match k with
  | 0 => .int
  | 1 => .int
  | 2 => .int
  | 3 => .int
  | 4 => .int
  | 5 => .int
  | 6 => .int
  | _ => .int
abbrev wsX00 : List Cond := u_ws RX0 TX0 8
theorem nmX0 : ∀ a, a < 8 → ∀ b, b < 8 → a ≠ b → (TX0 a).2.1 ≠ (TX0 b).2.1 := by decide +kernel
theorem tyX0_ok : ∀ k, k < 8 → parseFieldDescriptor (TX0 k).2.2.1 = some (tyX0 k) := by decide +kernel
def RX1 : String := "QuarterTurn$Laws"
def TX1 : u_T := fun k => match k with
  | 0 => ("QuarterTurn$Laws", "texts", "[LQuarterTurn$Text;", true)
  | _ => ("QuarterTurn$Laws", "stack", "[I", true)
def tyX1 : Nat → FieldType := fun k => match k with
  | 0 => .array (.object "QuarterTurn$Text")
  | _ => .array .int
abbrev wsX10 : List Cond := u_ws RX1 TX1 2
theorem nmX1 : ∀ a, a < 2 → ∀ b, b < 2 → a ≠ b → (TX1 a).2.1 ≠ (TX1 b).2.1 := by decide +kernel
theorem tyX1_ok : ∀ k, k < 2 → parseFieldDescriptor (TX1 k).2.2.1 = some (tyX1 k) := by decide +kernel
def RX2 : String := "QuarterTurn$Pipe"
def TX2 : u_T := fun k => match k with
  | 0 => ("QuarterTurn$Pipe", "laws", "LQuarterTurn$Laws;", true)
  | 1 => ("QuarterTurn$Pipe", "joints", "[LQuarterTurn$Joint;", true)
  | 2 => ("QuarterTurn$Pipe", "counting", "[I", true)
  | 3 => ("QuarterTurn$Pipe", "many", "I", false)
  | 4 => ("QuarterTurn$Pipe", "hot", "I", false)
  | 5 => ("QuarterTurn$Pipe", "shake", "I", false)
  | 6 => ("QuarterTurn$Pipe", "pot", "I", false)
  | 7 => ("QuarterTurn$Pipe", "drops", "I", false)
  | 8 => ("QuarterTurn$Pipe", "in", "I", false)
  | 9 => ("QuarterTurn$Pipe", "flood", "I", false)
  | 10 => ("QuarterTurn$Pipe", "cracks", "I", false)
  | 11 => ("QuarterTurn$Pipe", "shaken", "I", false)
  | 12 => ("QuarterTurn$Pipe", "hour", "I", false)
  | 13 => ("QuarterTurn$Pipe", "z", "I", false)
  | _ => ("QuarterTurn$Pipe", "texts", "I", false)
def tyX2 : Nat → FieldType := fun k => match k with
  | 0 => .object "QuarterTurn$Laws"
  | 1 => .array (.object "QuarterTurn$Joint")
  | 2 => .array .int
  | 3 => .int
  | 4 => .int
  | 5 => .int
  | 6 => .int
  | 7 => .int
  | 8 => .int
  | 9 => .int
  | 10 => .int
  | 11 => .int
  | 12 => .int
  | 13 => .int
  | _ => .int
abbrev wsX20 : List Cond := u_ws RX2 TX2 15
theorem nmX2 : ∀ a, a < 15 → ∀ b, b < 15 → a ≠ b → (TX2 a).2.1 ≠ (TX2 b).2.1 := by decide +kernel
theorem tyX2_ok : ∀ k, k < 15 → parseFieldDescriptor (TX2 k).2.2.1 = some (tyX2 k) := by decide +kernel
def RX3 : String := "QuarterTurn$Reader"
def TX3 : u_T := fun k => match k with
  | 0 => ("QuarterTurn$Reader", "bytes", "[I", true)
  | 1 => ("QuarterTurn$Reader", "draft", "LQuarterTurn$Text;", true)
  | 2 => ("QuarterTurn$Reader", "length", "I", false)
  | 3 => ("QuarterTurn$Reader", "sort", "I", false)
  | 4 => ("QuarterTurn$Reader", "place", "I", false)
  | 5 => ("QuarterTurn$Reader", "behind", "I", false)
  | _ => ("QuarterTurn$Reader", "value", "I", false)
def tyX3 : Nat → FieldType := fun k => match k with
  | 0 => .array .int
  | 1 => .object "QuarterTurn$Text"
  | 2 => .int
  | 3 => .int
  | 4 => .int
  | 5 => .int
  | _ => .int
abbrev wsX30 : List Cond := u_ws RX3 TX3 7
theorem nmX3 : ∀ a, a < 7 → ∀ b, b < 7 → a ≠ b → (TX3 a).2.1 ≠ (TX3 b).2.1 := by decide +kernel
theorem tyX3_ok : ∀ k, k < 7 → parseFieldDescriptor (TX3 k).2.2.1 = some (tyX3 k) := by decide +kernel
def RX4 : String := "QuarterTurn$Sheet"
def TX4 : u_T := fun k => match k with
  | 0 => ("QuarterTurn$Sheet", "places", "[I", true)
  | 1 => ("QuarterTurn$Sheet", "sort", "I", false)
  | _ => ("QuarterTurn$Sheet", "size", "I", false)
def tyX4 : Nat → FieldType := fun k => match k with
  | 0 => .array .int
  | 1 => .int
  | _ => .int
abbrev wsX40 : List Cond := u_ws RX4 TX4 3
theorem nmX4 : ∀ a, a < 3 → ∀ b, b < 3 → a ≠ b → (TX4 a).2.1 ≠ (TX4 b).2.1 := by decide +kernel
theorem tyX4_ok : ∀ k, k < 3 → parseFieldDescriptor (TX4 k).2.2.1 = some (tyX4 k) := by decide +kernel
def RX5 : String := "QuarterTurn$Slot"
def TX5 : u_T := fun k => match k with
  | 0 => ("QuarterTurn$Slot", "joint", "LQuarterTurn$Joint;", true)
  | 1 => ("QuarterTurn$Slot", "sheet", "LQuarterTurn$Sheet;", true)
  | 2 => ("QuarterTurn$Slot", "holds", "I", false)
  | _ => ("QuarterTurn$Slot", "number", "I", false)
def tyX5 : Nat → FieldType := fun k => match k with
  | 0 => .object "QuarterTurn$Joint"
  | 1 => .object "QuarterTurn$Sheet"
  | 2 => .int
  | _ => .int
abbrev wsX50 : List Cond := u_ws RX5 TX5 4
theorem nmX5 : ∀ a, a < 4 → ∀ b, b < 4 → a ≠ b → (TX5 a).2.1 ≠ (TX5 b).2.1 := by decide +kernel
theorem tyX5_ok : ∀ k, k < 4 → parseFieldDescriptor (TX5 k).2.2.1 = some (tyX5 k) := by decide +kernel
def RX6 : String := "QuarterTurn$Text"
def TX6 : u_T := fun k => match k with
  | 0 => ("QuarterTurn$Text", "steps", "[I", true)
  | 1 => ("QuarterTurn$Text", "key", "I", false)
  | 2 => ("QuarterTurn$Text", "size", "I", false)
  | _ => ("QuarterTurn$Text", "pieces", "I", false)
def tyX6 : Nat → FieldType := fun k => match k with
  | 0 => .array .int
  | 1 => .int
  | 2 => .int
  | _ => .int
abbrev wsX60 : List Cond := u_ws RX6 TX6 4
theorem nmX6 : ∀ a, a < 4 → ∀ b, b < 4 → a ≠ b → (TX6 a).2.1 ≠ (TX6 b).2.1 := by decide +kernel
theorem tyX6_ok : ∀ k, k < 4 → parseFieldDescriptor (TX6 k).2.2.1 = some (tyX6 k) := by decide +kernel
def RX7 : String := "QuarterTurn"
def TX7 : u_T := fun k => match k with
  | 0 => ("QuarterTurn", "laws", "LQuarterTurn$Laws;", true)
  | 1 => ("QuarterTurn", "reader", "LQuarterTurn$Reader;", true)
  | 2 => ("QuarterTurn", "now", "LQuarterTurn$Pipe;", true)
  | 3 => ("QuarterTurn", "image", "LQuarterTurn$Pipe;", true)
  | 4 => ("QuarterTurn", "thought", "LQuarterTurn$Pipe;", true)
  | 5 => ("QuarterTurn", "imaged", "Z", false)
  | 6 => ("QuarterTurn", "sheets", "[LQuarterTurn$Sheet;", true)
  | 7 => ("QuarterTurn", "slots", "[LQuarterTurn$Slot;", true)
  | 8 => ("QuarterTurn", "waiting", "[I", true)
  | _ => ("QuarterTurn", "waits", "I", false)
def tyX7 : Nat → FieldType := fun k => match k with
  | 0 => .object "QuarterTurn$Laws"
  | 1 => .object "QuarterTurn$Reader"
  | 2 => .object "QuarterTurn$Pipe"
  | 3 => .object "QuarterTurn$Pipe"
  | 4 => .object "QuarterTurn$Pipe"
  | 5 => .boolean
  | 6 => .array (.object "QuarterTurn$Sheet")
  | 7 => .array (.object "QuarterTurn$Slot")
  | 8 => .array .int
  | _ => .int
abbrev wsX70 : List Cond := u_ws RX7 TX7 10
theorem nmX7 : ∀ a, a < 10 → ∀ b, b < 10 → a ≠ b → (TX7 a).2.1 ≠ (TX7 b).2.1 := by decide +kernel
theorem tyX7_ok : ∀ k, k < 10 → parseFieldDescriptor (TX7 k).2.2.1 = some (tyX7 k) := by decide +kernel
def RX8 : String := "QuarterTurnModel"
def TX8 : u_T := fun k => match k with
  | 0 => ("QuarterTurnModel", "now", "[I", true)
  | 1 => ("QuarterTurnModel", "image", "[I", true)
  | 2 => ("QuarterTurnModel", "aside", "[I", true)
  | 3 => ("QuarterTurnModel", "hasImage", "Z", false)
  | 4 => ("QuarterTurnModel", "before", "[I", true)
  | 5 => ("QuarterTurnModel", "best", "I", false)
  | 6 => ("QuarterTurnModel", "least", "I", false)
  | 7 => ("QuarterTurnModel", "differ", "[J", true)
  | 8 => ("QuarterTurnModel", "tape", "[I", true)
  | 9 => ("QuarterTurnModel", "taped", "I", false)
  | 10 => ("QuarterTurnModel", "next", "I", false)
  | 11 => ("QuarterTurnModel", "from", "I", false)
  | 12 => ("QuarterTurnModel", "token", "I", false)
  | 13 => ("QuarterTurnModel", "value", "I", false)
  | 14 => ("QuarterTurnModel", "ended", "I", false)
  | 15 => ("QuarterTurnModel", "key", "I", false)
  | 16 => ("QuarterTurnModel", "keys", "[C", true)
  | 17 => ("QuarterTurnModel", "keyAt", "[I", true)
  | 18 => ("QuarterTurnModel", "code", "[I", true)
  | 19 => ("QuarterTurnModel", "codes", "I", false)
  | 20 => ("QuarterTurnModel", "atoms", "I", false)
  | 21 => ("QuarterTurnModel", "waits", "[I", true)
  | 22 => ("QuarterTurnModel", "held", "I", false)
  | 23 => ("QuarterTurnModel", "tested", "[Z", true)
  | 24 => ("QuarterTurnModel", "stack", "[I", true)
  | 25 => ("QuarterTurnModel", "facts", "[I", true)
  | 26 => ("QuarterTurnModel", "sorts", "[I", true)
  | 27 => ("QuarterTurnModel", "sizes", "[I", true)
  | 28 => ("QuarterTurnModel", "cells", "[I", true)
  | 29 => ("QuarterTurnModel", "holds", "[I", true)
  | 30 => ("QuarterTurnModel", "holdsA", "[I", true)
  | 31 => ("QuarterTurnModel", "holdsB", "[I", true)
  | 32 => ("QuarterTurnModel", "heldCells", "[I", true)
  | 33 => ("QuarterTurnModel", "moved", "[I", true)
  | 34 => ("QuarterTurnModel", "tells", "[I", true)
  | _ => ("QuarterTurnModel", "waiting", "I", false)
def tyX8 : Nat → FieldType := fun k => match k with
  | 0 => .array .int
  | 1 => .array .int
  | 2 => .array .int
  | 3 => .boolean
  | 4 => .array .int
  | 5 => .int
  | 6 => .int
  | 7 => .array .long
  | 8 => .array .int
  | 9 => .int
  | 10 => .int
  | 11 => .int
  | 12 => .int
  | 13 => .int
  | 14 => .int
  | 15 => .int
  | 16 => .array .char
  | 17 => .array .int
  | 18 => .array .int
  | 19 => .int
  | 20 => .int
  | 21 => .array .int
  | 22 => .int
  | 23 => .array .boolean
  | 24 => .array .int
  | 25 => .array .int
  | 26 => .array .int
  | 27 => .array .int
  | 28 => .array .int
  | 29 => .array .int
  | 30 => .array .int
  | 31 => .array .int
  | 32 => .array .int
  | 33 => .array .int
  | 34 => .array .int
  | _ => .int
abbrev wsX80 : List Cond := u_ws RX8 TX8 36
theorem nmX8 : ∀ a, a < 36 → ∀ b, b < 36 → a ≠ b → (TX8 a).2.1 ≠ (TX8 b).2.1 := by decide +kernel
theorem tyX8_ok : ∀ k, k < 36 → parseFieldDescriptor (TX8 k).2.2.1 = some (tyX8 k) := by decide +kernel
abbrev vwCl : List vw_C := [(RX0, TX0, 8), (RX1, TX1, 2), (RX2, TX2, 15), (RX3, TX3, 7), (RX4, TX4, 3), (RX5, TX5, 4), (RX6, TX6, 4), (RX7, TX7, 10), (RX8, TX8, 36)]
abbrev cX0_init : ByteArray := prog_2_method_1_code
def yX0_init : MethodName := ⟨RX0, "<init>", "()V"⟩
abbrev cX0_begin : ByteArray := prog_2_method_2_code
def yX0_begin : MethodName := ⟨RX0, "begin", "(IIII)V"⟩
abbrev cX0_takeFrom : ByteArray := prog_2_method_3_code
def yX0_takeFrom : MethodName := ⟨RX0, "takeFrom", "(LQuarterTurn$Joint;)V"⟩
abbrev cX0_given : ByteArray := prog_2_method_4_code
def yX0_given : MethodName := ⟨RX0, "given", "(I)I"⟩
abbrev cX0_give : ByteArray := prog_2_method_5_code
def yX0_give : MethodName := ⟨RX0, "give", "(II)V"⟩
abbrev cX0_tighten : ByteArray := prog_2_method_6_code
def yX0_tighten : MethodName := ⟨RX0, "tighten", "(I)V"⟩
abbrev cX0_mendBy : ByteArray := prog_2_method_7_code
def yX0_mendBy : MethodName := ⟨RX0, "mendBy", "(I)V"⟩
abbrev cX0_grip : ByteArray := prog_2_method_8_code
def yX0_grip : MethodName := ⟨RX0, "grip", "(I)I"⟩
abbrev cX0_bears : ByteArray := prog_2_method_9_code
def yX0_bears : MethodName := ⟨RX0, "bears", "()I"⟩
abbrev cX0_worth : ByteArray := prog_2_method_10_code
def yX0_worth : MethodName := ⟨RX0, "worth", "()I"⟩
abbrev cX1_init : ByteArray := prog_3_method_1_code
def yX1_init : MethodName := ⟨RX1, "<init>", "()V"⟩
abbrev cX1_gives : ByteArray := prog_3_method_2_code
def yX1_gives : MethodName := ⟨RX1, "gives", "(IIII)I"⟩
abbrev cX1_joined : ByteArray := prog_3_method_3_code
def yX1_joined : MethodName := ⟨RX1, "joined", "(III)I"⟩
abbrev cX2_init : ByteArray := prog_4_method_1_code
def yX2_init : MethodName := ⟨RX2, "<init>", "(LQuarterTurn$Laws;)V"⟩
abbrev cX2_takeFrom : ByteArray := prog_4_method_2_code
def yX2_takeFrom : MethodName := ⟨RX2, "takeFrom", "(LQuarterTurn$Pipe;)V"⟩
abbrev cX2_has : ByteArray := prog_4_method_3_code
def yX2_has : MethodName := ⟨RX2, "has", "(I)Z"⟩
abbrev cX2_add : ByteArray := prog_4_method_4_code
def yX2_add : MethodName := ⟨RX2, "add", "(IIII)I"⟩
abbrev cX2_draw : ByteArray := prog_4_method_5_code
def yX2_draw : MethodName := ⟨RX2, "draw", "()I"⟩
abbrev cX2_quarterMore : ByteArray := prog_4_method_6_code
def yX2_quarterMore : MethodName := ⟨RX2, "quarterMore", "(LQuarterTurn$Joint;)V"⟩
abbrev cX2_leaks : ByteArray := prog_4_method_7_code
def yX2_leaks : MethodName := ⟨RX2, "leaks", "(LQuarterTurn$Joint;)I"⟩
abbrev cX2_leaksOfAll : ByteArray := prog_4_method_8_code
def yX2_leaksOfAll : MethodName := ⟨RX2, "leaksOfAll", "()I"⟩
abbrev cX2_tightOfAll : ByteArray := prog_4_method_9_code
def yX2_tightOfAll : MethodName := ⟨RX2, "tightOfAll", "()I"⟩
abbrev cX2_crackedOnes : ByteArray := prog_4_method_10_code
def yX2_crackedOnes : MethodName := ⟨RX2, "crackedOnes", "()I"⟩
abbrev cX2_hangsAt : ByteArray := prog_4_method_11_code
def yX2_hangsAt : MethodName := ⟨RX2, "hangsAt", "(I)I"⟩
abbrev cX2_lowerBeside : ByteArray := prog_4_method_12_code
def yX2_lowerBeside : MethodName := ⟨RX2, "lowerBeside", "(I)I"⟩
abbrev cX2_passHours : ByteArray := prog_4_method_13_code
def yX2_passHours : MethodName := ⟨RX2, "passHours", "(I)V"⟩
abbrev cX2_passHour : ByteArray := prog_4_method_14_code
def yX2_passHour : MethodName := ⟨RX2, "passHour", "()V"⟩
abbrev cX2_letDrip : ByteArray := prog_4_method_15_code
def yX2_letDrip : MethodName := ⟨RX2, "letDrip", "(LQuarterTurn$Joint;)V"⟩
abbrev cX2_shakeLoose : ByteArray := prog_4_method_16_code
def yX2_shakeLoose : MethodName := ⟨RX2, "shakeLoose", "(LQuarterTurn$Joint;)V"⟩
abbrev cX3_init : ByteArray := prog_5_method_1_code
def yX3_init : MethodName := ⟨RX3, "<init>", "()V"⟩
abbrev cX3_append : ByteArray := prog_5_method_2_code
def yX3_append : MethodName := ⟨RX3, "append", "(I)V"⟩
abbrev cX3_faultOfTape : ByteArray := prog_5_method_3_code
def yX3_faultOfTape : MethodName := ⟨RX3, "faultOfTape", "()I"⟩
abbrev cX3_advance : ByteArray := prog_5_method_4_code
def yX3_advance : MethodName := ⟨RX3, "advance", "()V"⟩
abbrev cX3_readWord : ByteArray := prog_5_method_5_code
def yX3_readWord : MethodName := ⟨RX3, "readWord", "()V"⟩
abbrev cX3_sortAt : ByteArray := prog_5_method_6_code
def yX3_sortAt : MethodName := ⟨RX3, "sortAt", "(I)I"⟩
abbrev cX3_readKey : ByteArray := prog_5_method_7_code
def yX3_readKey : MethodName := ⟨RX3, "readKey", "()Z"⟩
abbrev cX3_isWord : ByteArray := prog_5_method_8_code
def yX3_isWord : MethodName := ⟨RX3, "isWord", "(Ljava/lang/String;)Z"⟩
abbrev cX3_readLevel : ByteArray := prog_5_method_9_code
def yX3_readLevel : MethodName := ⟨RX3, "readLevel", "(III)Z"⟩
abbrev cX3_joinsAt : ByteArray := prog_5_method_10_code
def yX3_joinsAt : MethodName := ⟨RX3, "joinsAt", "(I)Z"⟩
abbrev cX3_readPiece : ByteArray := prog_5_method_11_code
def yX3_readPiece : MethodName := ⟨RX3, "readPiece", "(II)Z"⟩
abbrev cX3_nameStep : ByteArray := prog_5_method_12_code
def yX3_nameStep : MethodName := ⟨RX3, "nameStep", "()I"⟩
abbrev cX4_init : ByteArray := prog_6_method_1_code
def yX4_init : MethodName := ⟨RX4, "<init>", "()V"⟩
abbrev cX4_become : ByteArray := prog_6_method_2_code
def yX4_become : MethodName := ⟨RX4, "become", "(II)V"⟩
abbrev cX4_takeFrom : ByteArray := prog_6_method_3_code
def yX4_takeFrom : MethodName := ⟨RX4, "takeFrom", "(LQuarterTurn$Sheet;)V"⟩
abbrev cX4_isMissing : ByteArray := prog_6_method_4_code
def yX4_isMissing : MethodName := ⟨RX4, "isMissing", "()Z"⟩
abbrev cX4_has : ByteArray := prog_6_method_5_code
def yX4_has : MethodName := ⟨RX4, "has", "(I)Z"⟩
abbrev cX4_hasRow : ByteArray := prog_6_method_6_code
def yX4_hasRow : MethodName := ⟨RX4, "hasRow", "(II)Z"⟩
abbrev cX4_isNumber : ByteArray := prog_6_method_7_code
def yX4_isNumber : MethodName := ⟨RX4, "isNumber", "(I)Z"⟩
abbrev cX5_init : ByteArray := prog_7_method_1_code
def yX5_init : MethodName := ⟨RX5, "<init>", "()V"⟩
abbrev cX6_init : ByteArray := prog_8_method_1_code
def yX6_init : MethodName := ⟨RX6, "<init>", "()V"⟩
abbrev cX6_takeFrom : ByteArray := prog_8_method_2_code
def yX6_takeFrom : MethodName := ⟨RX6, "takeFrom", "(LQuarterTurn$Text;)V"⟩
abbrev cX6_put : ByteArray := prog_8_method_3_code
def yX6_put : MethodName := ⟨RX6, "put", "(I)V"⟩
abbrev cX7_init : ByteArray := prog_1_method_1_code
def yX7_init : MethodName := ⟨RX7, "<init>", "()V"⟩
abbrev cX7_joint : ByteArray := prog_1_method_2_code
def yX7_joint : MethodName := ⟨RX7, "joint", "(IIII)I"⟩
abbrev cX7_told : ByteArray := prog_1_method_3_code
def yX7_told : MethodName := ⟨RX7, "told", "(II)I"⟩
abbrev cX7_as : ByteArray := prog_1_method_4_code
def yX7_as : MethodName := ⟨RX7, "as", "(II)I"⟩
abbrev cX7_turns : ByteArray := prog_1_method_5_code
def yX7_turns : MethodName := ⟨RX7, "turns", "(II)I"⟩
abbrev cX7_set : ByteArray := prog_1_method_6_code
def yX7_set : MethodName := ⟨RX7, "set", "(III)I"⟩
abbrev cX7_turn : ByteArray := prog_1_method_7_code
def yX7_turn : MethodName := ⟨RX7, "turn", "(II)I"⟩
abbrev cX7_rule : ByteArray := prog_1_method_8_code
def yX7_rule : MethodName := ⟨RX7, "rule", "(II)I"⟩
abbrev cX7_empty : ByteArray := prog_1_method_9_code
def yX7_empty : MethodName := ⟨RX7, "empty", "()I"⟩
abbrev cX7_deal : ByteArray := prog_1_method_10_code
def yX7_deal : MethodName := ⟨RX7, "deal", "(I)I"⟩
abbrev cX7_seed : ByteArray := prog_1_method_11_code
def yX7_seed : MethodName := ⟨RX7, "seed", "(I)I"⟩
abbrev cX7_hours : ByteArray := prog_1_method_12_code
def yX7_hours : MethodName := ⟨RX7, "hours", "(I)I"⟩
abbrev cX7_sink : ByteArray := prog_1_method_13_code
def yX7_sink : MethodName := ⟨RX7, "sink", "(I)I"⟩
abbrev cX7_seen : ByteArray := prog_1_method_14_code
def yX7_seen : MethodName := ⟨RX7, "seen", "(I)I"⟩
abbrev cX7_from : ByteArray := prog_1_method_15_code
def yX7_from : MethodName := ⟨RX7, "from", "(I)I"⟩
abbrev cX7_quarter : ByteArray := prog_1_method_16_code
def yX7_quarter : MethodName := ⟨RX7, "quarter", "(II)I"⟩
abbrev cX7_behind : ByteArray := prog_1_method_17_code
def yX7_behind : MethodName := ⟨RX7, "behind", "(II)I"⟩
abbrev cX7_full : ByteArray := prog_1_method_18_code
def yX7_full : MethodName := ⟨RX7, "full", "()I"⟩
abbrev cX7_shut : ByteArray := prog_1_method_19_code
def yX7_shut : MethodName := ⟨RX7, "shut", "(I)I"⟩
abbrev cX7_mend : ByteArray := prog_1_method_20_code
def yX7_mend : MethodName := ⟨RX7, "mend", "(III)I"⟩
abbrev cX7_first : ByteArray := prog_1_method_21_code
def yX7_first : MethodName := ⟨RX7, "first", "(II)I"⟩
abbrev cX7_becomes : ByteArray := prog_1_method_22_code
def yX7_becomes : MethodName := ⟨RX7, "becomes", "(III)I"⟩
abbrev cX7_loose : ByteArray := prog_1_method_23_code
def yX7_loose : MethodName := ⟨RX7, "loose", "(II)I"⟩
abbrev cX7_whose : ByteArray := prog_1_method_24_code
def yX7_whose : MethodName := ⟨RX7, "whose", "(II)I"⟩
abbrev cX7_fee : ByteArray := prog_1_method_25_code
def yX7_fee : MethodName := ⟨RX7, "fee", "()I"⟩
abbrev cX7_fine : ByteArray := prog_1_method_26_code
def yX7_fine : MethodName := ⟨RX7, "fine", "(I)I"⟩
abbrev cX7_feed : ByteArray := prog_1_method_27_code
def yX7_feed : MethodName := ⟨RX7, "feed", "(III)I"⟩
abbrev cX7_trim : ByteArray := prog_1_method_28_code
def yX7_trim : MethodName := ⟨RX7, "trim", "(I)I"⟩
abbrev cX7_text : ByteArray := prog_1_method_29_code
def yX7_text : MethodName := ⟨RX7, "text", "()I"⟩
abbrev cX7_textTold : ByteArray := prog_1_method_30_code
def yX7_textTold : MethodName := ⟨RX7, "textTold", "(II)I"⟩
abbrev cX7_why : ByteArray := prog_1_method_31_code
def yX7_why : MethodName := ⟨RX7, "why", "(I)I"⟩
abbrev cX7_sheet : ByteArray := prog_1_method_32_code
def yX7_sheet : MethodName := ⟨RX7, "sheet", "(III)I"⟩
abbrev cX7_mark : ByteArray := prog_1_method_33_code
def yX7_mark : MethodName := ⟨RX7, "mark", "(III)I"⟩
abbrev cX7_pour : ByteArray := prog_1_method_34_code
def yX7_pour : MethodName := ⟨RX7, "pour", "(I)I"⟩
abbrev cX7_reads : ByteArray := prog_1_method_35_code
def yX7_reads : MethodName := ⟨RX7, "reads", "(I)I"⟩
abbrev cX7_copy : ByteArray := prog_1_method_36_code
def yX7_copy : MethodName := ⟨RX7, "copy", "(IIIII)I"⟩
abbrev cX7_lay : ByteArray := prog_1_method_37_code
def yX7_lay : MethodName := ⟨RX7, "lay", "(III)I"⟩
abbrev cX7_ask : ByteArray := prog_1_method_38_code
def yX7_ask : MethodName := ⟨RX7, "ask", "(II)I"⟩
abbrev cX7_item : ByteArray := prog_1_method_39_code
def yX7_item : MethodName := ⟨RX7, "item", "(II)I"⟩
abbrev cX7_rest : ByteArray := prog_1_method_40_code
def yX7_rest : MethodName := ⟨RX7, "rest", "(II)I"⟩
abbrev cX7_tell : ByteArray := prog_1_method_41_code
def yX7_tell : MethodName := ⟨RX7, "tell", "(I)I"⟩
abbrev cX7_check : ByteArray := prog_1_method_42_code
def yX7_check : MethodName := ⟨RX7, "check", "(I)I"⟩
abbrev cX7_keep : ByteArray := prog_1_method_43_code
def yX7_keep : MethodName := ⟨RX7, "keep", "()I"⟩
abbrev cX7_back : ByteArray := prog_1_method_44_code
def yX7_back : MethodName := ⟨RX7, "back", "()I"⟩
abbrev cX7_count : ByteArray := prog_1_method_45_code
def yX7_count : MethodName := ⟨RX7, "count", "(I)I"⟩
abbrev cX7_within : ByteArray := prog_1_method_46_code
def yX7_within : MethodName := ⟨RX7, "within", "(II)Z"⟩
abbrev cX7_held : ByteArray := prog_1_method_47_code
def yX7_held : MethodName := ⟨RX7, "held", "(II)I"⟩
abbrev cX7_isKind : ByteArray := prog_1_method_48_code
def yX7_isKind : MethodName := ⟨RX7, "isKind", "(I)Z"⟩
abbrev cX7_isSheet : ByteArray := prog_1_method_49_code
def yX7_isSheet : MethodName := ⟨RX7, "isSheet", "(I)Z"⟩
abbrev cX7_isSlot : ByteArray := prog_1_method_50_code
def yX7_isSlot : MethodName := ⟨RX7, "isSlot", "(I)Z"⟩
abbrev cX7_isSpan : ByteArray := prog_1_method_51_code
def yX7_isSpan : MethodName := ⟨RX7, "isSpan", "(I)Z"⟩
abbrev cX7_canBeSet : ByteArray := prog_1_method_52_code
def yX7_canBeSet : MethodName := ⟨RX7, "canBeSet", "(I)Z"⟩
abbrev cX7_isOf : ByteArray := prog_1_method_53_code
def yX7_isOf : MethodName := ⟨RX7, "isOf", "(II)Z"⟩
abbrev cX7_apartFrom : ByteArray := prog_1_method_54_code
def yX7_apartFrom : MethodName := ⟨RX7, "apartFrom", "(LQuarterTurn$Sheet;I)I"⟩
abbrev cX7_toldRight : ByteArray := prog_1_method_55_code
def yX7_toldRight : MethodName := ⟨RX7, "toldRight", "(III)Z"⟩
abbrev cX8_init : ByteArray := prog_10_method_1_code
def yX8_init : MethodName := ⟨RX8, "<init>", "()V"⟩
abbrev cX8_in : ByteArray := prog_10_method_2_code
def yX8_in : MethodName := ⟨RX8, "in", "(III)Z"⟩
abbrev cX8_within : ByteArray := prog_10_method_3_code
def yX8_within : MethodName := ⟨RX8, "within", "(III)I"⟩
abbrev cX8_copyAll : ByteArray := prog_10_method_4_code
def yX8_copyAll : MethodName := ⟨RX8, "copyAll", "([I[I)V"⟩
abbrev cX8_isJoint : ByteArray := prog_10_method_5_code
def yX8_isJoint : MethodName := ⟨RX8, "isJoint", "(I)Z"⟩
abbrev cX8_of : ByteArray := prog_10_method_6_code
def yX8_of : MethodName := ⟨RX8, "of", "(II)I"⟩
abbrev cX8_put : ByteArray := prog_10_method_7_code
def yX8_put : MethodName := ⟨RX8, "put", "(III)V"⟩
abbrev cX8_swaps : ByteArray := prog_10_method_8_code
def yX8_swaps : MethodName := ⟨RX8, "swaps", "(II)I"⟩
abbrev cX8_comes : ByteArray := prog_10_method_9_code
def yX8_comes : MethodName := ⟨RX8, "comes", "(IIII)I"⟩
abbrev cX8_isOf : ByteArray := prog_10_method_10_code
def yX8_isOf : MethodName := ⟨RX8, "isOf", "(II)Z"⟩
abbrev cX8_joint : ByteArray := prog_10_method_11_code
def yX8_joint : MethodName := ⟨RX8, "joint", "(IIII)I"⟩
abbrev cX8_gripOf : ByteArray := prog_10_method_12_code
def yX8_gripOf : MethodName := ⟨RX8, "gripOf", "(I)I"⟩
abbrev cX8_dripsOf : ByteArray := prog_10_method_13_code
def yX8_dripsOf : MethodName := ⟨RX8, "dripsOf", "(I)I"⟩
abbrev cX8_leaksOf : ByteArray := prog_10_method_14_code
def yX8_leaksOf : MethodName := ⟨RX8, "leaksOf", "(I)I"⟩
abbrev cX8_bearsOf : ByteArray := prog_10_method_15_code
def yX8_bearsOf : MethodName := ⟨RX8, "bearsOf", "(I)I"⟩
abbrev cX8_worthOf : ByteArray := prog_10_method_16_code
def yX8_worthOf : MethodName := ⟨RX8, "worthOf", "(I)I"⟩
abbrev cX8_runsTo : ByteArray := prog_10_method_17_code
def yX8_runsTo : MethodName := ⟨RX8, "runsTo", "(I)I"⟩
abbrev cX8_hangsAt : ByteArray := prog_10_method_18_code
def yX8_hangsAt : MethodName := ⟨RX8, "hangsAt", "(I)I"⟩
abbrev cX8_told : ByteArray := prog_10_method_19_code
def yX8_told : MethodName := ⟨RX8, "told", "(II)I"⟩
abbrev cX8_isUnder : ByteArray := prog_10_method_20_code
def yX8_isUnder : MethodName := ⟨RX8, "isUnder", "(II)Z"⟩
abbrev cX8_as : ByteArray := prog_10_method_21_code
def yX8_as : MethodName := ⟨RX8, "as", "(II)I"⟩
abbrev cX8_turns : ByteArray := prog_10_method_22_code
def yX8_turns : MethodName := ⟨RX8, "turns", "(II)I"⟩
abbrev cX8_set : ByteArray := prog_10_method_23_code
def yX8_set : MethodName := ⟨RX8, "set", "(III)I"⟩
abbrev cX8_draw : ByteArray := prog_10_method_24_code
def yX8_draw : MethodName := ⟨RX8, "draw", "()I"⟩
abbrev cX8_tightens : ByteArray := prog_10_method_25_code
def yX8_tightens : MethodName := ⟨RX8, "tightens", "(II)V"⟩
abbrev cX8_quarterOn : ByteArray := prog_10_method_26_code
def yX8_quarterOn : MethodName := ⟨RX8, "quarterOn", "(I)V"⟩
abbrev cX8_turn : ByteArray := prog_10_method_27_code
def yX8_turn : MethodName := ⟨RX8, "turn", "(II)I"⟩
abbrev cX8_rule : ByteArray := prog_10_method_28_code
def yX8_rule : MethodName := ⟨RX8, "rule", "(II)I"⟩
abbrev cX8_empty : ByteArray := prog_10_method_29_code
def yX8_empty : MethodName := ⟨RX8, "empty", "()I"⟩
abbrev cX8_deal : ByteArray := prog_10_method_30_code
def yX8_deal : MethodName := ⟨RX8, "deal", "(I)I"⟩
abbrev cX8_seed : ByteArray := prog_10_method_31_code
def yX8_seed : MethodName := ⟨RX8, "seed", "(I)I"⟩
abbrev cX8_drips : ByteArray := prog_10_method_32_code
def yX8_drips : MethodName := ⟨RX8, "drips", "(I)V"⟩
abbrev cX8_hour : ByteArray := prog_10_method_33_code
def yX8_hour : MethodName := ⟨RX8, "hour", "()V"⟩
abbrev cX8_goesOn : ByteArray := prog_10_method_34_code
def yX8_goesOn : MethodName := ⟨RX8, "goesOn", "(I)V"⟩
abbrev cX8_hours : ByteArray := prog_10_method_35_code
def yX8_hours : MethodName := ⟨RX8, "hours", "(I)I"⟩
abbrev cX8_leaksOfAll : ByteArray := prog_10_method_36_code
def yX8_leaksOfAll : MethodName := ⟨RX8, "leaksOfAll", "()I"⟩
abbrev cX8_tightOfAll : ByteArray := prog_10_method_37_code
def yX8_tightOfAll : MethodName := ⟨RX8, "tightOfAll", "()I"⟩
abbrev cX8_cracked : ByteArray := prog_10_method_38_code
def yX8_cracked : MethodName := ⟨RX8, "cracked", "()I"⟩
abbrev cX8_sink : ByteArray := prog_10_method_39_code
def yX8_sink : MethodName := ⟨RX8, "sink", "(I)I"⟩
abbrev cX8_seen : ByteArray := prog_10_method_40_code
def yX8_seen : MethodName := ⟨RX8, "seen", "(I)I"⟩
abbrev cX8_from : ByteArray := prog_10_method_41_code
def yX8_from : MethodName := ⟨RX8, "from", "(I)I"⟩
abbrev cX8_thinks : ByteArray := prog_10_method_42_code
def yX8_thinks : MethodName := ⟨RX8, "thinks", "()V"⟩
abbrev cX8_putsBack : ByteArray := prog_10_method_43_code
def yX8_putsBack : MethodName := ⟨RX8, "putsBack", "()V"⟩
abbrev cX8_forgets : ByteArray := prog_10_method_44_code
def yX8_forgets : MethodName := ⟨RX8, "forgets", "()V"⟩
abbrev cX8_sees : ByteArray := prog_10_method_45_code
def yX8_sees : MethodName := ⟨RX8, "sees", "(II)V"⟩
abbrev cX8_quarter : ByteArray := prog_10_method_46_code
def yX8_quarter : MethodName := ⟨RX8, "quarter", "(II)I"⟩
abbrev cX8_behind : ByteArray := prog_10_method_47_code
def yX8_behind : MethodName := ⟨RX8, "behind", "(II)I"⟩
abbrev cX8_full : ByteArray := prog_10_method_48_code
def yX8_full : MethodName := ⟨RX8, "full", "()I"⟩
abbrev cX8_shut : ByteArray := prog_10_method_49_code
def yX8_shut : MethodName := ⟨RX8, "shut", "(I)I"⟩
abbrev cX8_dropsBehind : ByteArray := prog_10_method_50_code
def yX8_dropsBehind : MethodName := ⟨RX8, "dropsBehind", "(I)I"⟩
abbrev cX8_areAsked : ByteArray := prog_10_method_51_code
def yX8_areAsked : MethodName := ⟨RX8, "areAsked", "(II)Z"⟩
abbrev cX8_mend : ByteArray := prog_10_method_52_code
def yX8_mend : MethodName := ⟨RX8, "mend", "(III)I"⟩
abbrev cX8_first : ByteArray := prog_10_method_53_code
def yX8_first : MethodName := ⟨RX8, "first", "(II)I"⟩
abbrev cX8_becomes : ByteArray := prog_10_method_54_code
def yX8_becomes : MethodName := ⟨RX8, "becomes", "(III)I"⟩
abbrev cX8_loose : ByteArray := prog_10_method_55_code
def yX8_loose : MethodName := ⟨RX8, "loose", "(II)I"⟩
abbrev cX8_whose : ByteArray := prog_10_method_56_code
def yX8_whose : MethodName := ⟨RX8, "whose", "(II)I"⟩
abbrev cX8_fee : ByteArray := prog_10_method_57_code
def yX8_fee : MethodName := ⟨RX8, "fee", "()I"⟩
abbrev cX8_fine : ByteArray := prog_10_method_58_code
def yX8_fine : MethodName := ⟨RX8, "fine", "(I)I"⟩
abbrev cX8_feed : ByteArray := prog_10_method_59_code
def yX8_feed : MethodName := ⟨RX8, "feed", "(III)I"⟩
abbrev cX8_trim : ByteArray := prog_10_method_60_code
def yX8_trim : MethodName := ⟨RX8, "trim", "(I)I"⟩
abbrev cX8_isLetter : ByteArray := prog_10_method_61_code
def yX8_isLetter : MethodName := ⟨RX8, "isLetter", "(I)Z"⟩
abbrev cX8_isFigure : ByteArray := prog_10_method_62_code
def yX8_isFigure : MethodName := ⟨RX8, "isFigure", "(I)Z"⟩
abbrev cX8_go : ByteArray := prog_10_method_63_code
def yX8_go : MethodName := ⟨RX8, "go", "()V"⟩
abbrev cX8_takesKey : ByteArray := prog_10_method_64_code
def yX8_takesKey : MethodName := ⟨RX8, "takesKey", "()Z"⟩
abbrev cX8_nameOf : ByteArray := prog_10_method_65_code
def yX8_nameOf : MethodName := ⟨RX8, "nameOf", "(I)I"⟩
abbrev cX8_rank : ByteArray := prog_10_method_66_code
def yX8_rank : MethodName := ⟨RX8, "rank", "(I)I"⟩
abbrev cX8_settle : ByteArray := prog_10_method_67_code
def yX8_settle : MethodName := ⟨RX8, "settle", "(I)V"⟩
abbrev cX8_signHere : ByteArray := prog_10_method_68_code
def yX8_signHere : MethodName := ⟨RX8, "signHere", "()I"⟩
abbrev cX8_takesPart : ByteArray := prog_10_method_69_code
def yX8_takesPart : MethodName := ⟨RX8, "takesPart", "()Z"⟩
abbrev cX8_takesE : ByteArray := prog_10_method_70_code
def yX8_takesE : MethodName := ⟨RX8, "takesE", "()Z"⟩
abbrev cX8_notsOpen : ByteArray := prog_10_method_71_code
def yX8_notsOpen : MethodName := ⟨RX8, "notsOpen", "()I"⟩
abbrev cX8_text : ByteArray := prog_10_method_72_code
def yX8_text : MethodName := ⟨RX8, "text", "()I"⟩
abbrev cX8_textTold : ByteArray := prog_10_method_73_code
def yX8_textTold : MethodName := ⟨RX8, "textTold", "(II)I"⟩
abbrev cX8_counts : ByteArray := prog_10_method_74_code
def yX8_counts : MethodName := ⟨RX8, "counts", "(I)I"⟩
abbrev cX8_why : ByteArray := prog_10_method_75_code
def yX8_why : MethodName := ⟨RX8, "why", "(I)I"⟩
abbrev cX8_two : ByteArray := prog_10_method_76_code
def yX8_two : MethodName := ⟨RX8, "two", "(III)I"⟩
abbrev cX8_worksOut : ByteArray := prog_10_method_77_code
def yX8_worksOut : MethodName := ⟨RX8, "worksOut", "(I)I"⟩
abbrev cX8_isSheet : ByteArray := prog_10_method_78_code
def yX8_isSheet : MethodName := ⟨RX8, "isSheet", "(I)Z"⟩
abbrev cX8_isSlot : ByteArray := prog_10_method_79_code
def yX8_isSlot : MethodName := ⟨RX8, "isSlot", "(I)Z"⟩
abbrev cX8_sheet : ByteArray := prog_10_method_80_code
def yX8_sheet : MethodName := ⟨RX8, "sheet", "(III)I"⟩
abbrev cX8_mark : ByteArray := prog_10_method_81_code
def yX8_mark : MethodName := ⟨RX8, "mark", "(III)I"⟩
abbrev cX8_pour : ByteArray := prog_10_method_82_code
def yX8_pour : MethodName := ⟨RX8, "pour", "(I)I"⟩
abbrev cX8_reads : ByteArray := prog_10_method_83_code
def yX8_reads : MethodName := ⟨RX8, "reads", "(I)I"⟩
abbrev cX8_copy : ByteArray := prog_10_method_84_code
def yX8_copy : MethodName := ⟨RX8, "copy", "(IIIII)I"⟩
abbrev cX8_lay : ByteArray := prog_10_method_85_code
def yX8_lay : MethodName := ⟨RX8, "lay", "(III)I"⟩
abbrev cX8_ask : ByteArray := prog_10_method_86_code
def yX8_ask : MethodName := ⟨RX8, "ask", "(II)I"⟩
abbrev cX8_item : ByteArray := prog_10_method_87_code
def yX8_item : MethodName := ⟨RX8, "item", "(II)I"⟩
abbrev cX8_rest : ByteArray := prog_10_method_88_code
def yX8_rest : MethodName := ⟨RX8, "rest", "(II)I"⟩
abbrev cX8_tell : ByteArray := prog_10_method_89_code
def yX8_tell : MethodName := ⟨RX8, "tell", "(I)I"⟩
abbrev cX8_check : ByteArray := prog_10_method_90_code
def yX8_check : MethodName := ⟨RX8, "check", "(I)I"⟩
abbrev cX8_keep : ByteArray := prog_10_method_91_code
def yX8_keep : MethodName := ⟨RX8, "keep", "()I"⟩
abbrev cX8_back : ByteArray := prog_10_method_92_code
def yX8_back : MethodName := ⟨RX8, "back", "()I"⟩
abbrev cX8_count : ByteArray := prog_10_method_93_code
def yX8_count : MethodName := ⟨RX8, "count", "(I)I"⟩
abbrev cJ0_length_8abf5 : ByteArray := prog_13_method_54_code
def yJ0_length_8abf5 : MethodName := ⟨"java/lang/String", "length", "()I"⟩
abbrev cJ0_charAt_5068e : ByteArray := prog_13_method_56_code
def yJ0_charAt_5068e : MethodName := ⟨"java/lang/String", "charAt", "(I)C"⟩
abbrev cJ0_indexOf_0f7a4 : ByteArray := prog_13_method_79_code
def yJ0_indexOf_0f7a4 : MethodName := ⟨"java/lang/String", "indexOf", "(I)I"⟩
abbrev cJ0_indexOf_7cf53 : ByteArray := prog_13_method_80_code
def yJ0_indexOf_7cf53 : MethodName := ⟨"java/lang/String", "indexOf", "(II)I"⟩
abbrev cJ0_coder_7d493 : ByteArray := prog_13_method_152_code
def yJ0_coder_7d493 : MethodName := ⟨"java/lang/String", "coder", "()B"⟩
abbrev cJ0_isLatin1_aae02 : ByteArray := prog_13_method_154_code
def yJ0_isLatin1_aae02 : MethodName := ⟨"java/lang/String", "isLatin1", "()Z"⟩
abbrev cJ0_checkIndex_df160 : ByteArray := prog_13_method_155_code
def yJ0_checkIndex_df160 : MethodName := ⟨"java/lang/String", "checkIndex", "(II)V"⟩
abbrev cJ1_charAt_3b067 : ByteArray := prog_14_method_2_code
def yJ1_charAt_3b067 : MethodName := ⟨"java/lang/StringLatin1", "charAt", "([BI)C"⟩
abbrev cJ1_canEncode_9a6ad : ByteArray := prog_14_method_4_code
def yJ1_canEncode_9a6ad : MethodName := ⟨"java/lang/StringLatin1", "canEncode", "(I)Z"⟩
abbrev cJ1_indexOf_4cfef : ByteArray := prog_14_method_22_code
def yJ1_indexOf_4cfef : MethodName := ⟨"java/lang/StringLatin1", "indexOf", "([BIII)I"⟩
abbrev cJ1_indexOfChar_4cfef : ByteArray := prog_14_method_23_code
def yJ1_indexOfChar_4cfef : MethodName := ⟨"java/lang/StringLatin1", "indexOfChar", "([BIII)I"⟩
abbrev cJ3_checkIndex_8e157 : ByteArray := prog_17_method_11_code
def yJ3_checkIndex_8e157 : MethodName := ⟨"jdk/internal/util/Preconditions", "checkIndex", "(IILjava/util/function/BiFunction;)I"⟩
def RL : String := "QuarterTurnLaw"
abbrev cL_law : ByteArray := code
def yL_law : MethodName := ⟨RL, "law", "([I)Z"⟩
end
section
/-! A SMALL MACHINE: what the methods do, as a function over a memory of numbered cells. Cells 0 .. 15 lie outside (0 the script, 1 UNDER, 2 .. 7 texts, 8 .. 13 their bytes, 14 a thing of the JDK's); from 16 on the cells that were made, in order. -/
/-- a row of code: instruction, three numbers, a constant, a switch's table, places of words -/
abbrev qs_Row : Type := Instr × Nat × Nat × Nat × Int32 × List (Int32 × Nat) × List Nat
/-- (how many cells, how many slots), kinds, sizes, links (0 a number, 1 null, k + 2 cell k), ints, longs -/
abbrev qs_M : Type := (Nat × Nat) × (Nat → Nat) × (Nat → Nat) × (Nat → Nat → Nat) × (Nat → Nat → Int32) × (Nat → Nat → Int64)
abbrev qs_R : Type := Option Value × qs_M
abbrev qs_L : Type := List (Option Value)
def qs_n (m : qs_M) : Nat := m.1.1
def qs_z (m : qs_M) : Nat := m.1.2
def qs_kd (m : qs_M) : Nat → Nat := m.2.1
def qs_sz (m : qs_M) : Nat → Nat := m.2.2.1
def qs_lk (m : qs_M) : Nat → Nat → Nat := m.2.2.2.1
def qs_i (m : qs_M) : Nat → Nat → Int32 := m.2.2.2.2.1
def qs_l (m : qs_M) : Nat → Nat → Int64 := m.2.2.2.2.2
/-- an int is written -/
def qs_wi (m : qs_M) (k j : Nat) (x : Int32) : qs_M := (m.1, m.2.1, m.2.2.1, m.2.2.2.1, (fun a b => if a = k ∧ b = j then x else m.2.2.2.2.1 a b), m.2.2.2.2.2)
/-- a long is written -/
def qs_wj (m : qs_M) (k j : Nat) (x : Int64) : qs_M := (m.1, m.2.1, m.2.2.1, m.2.2.2.1, m.2.2.2.2.1, (fun a b => if a = k ∧ b = j then x else m.2.2.2.2.2 a b))
/-- a link is written -/
def qs_wl (m : qs_M) (k j : Nat) (x : Nat) : qs_M := (m.1, m.2.1, m.2.2.1, (fun a b => if a = k ∧ b = j then x else m.2.2.2.1 a b), m.2.2.2.2.1, m.2.2.2.2.2)
/-- ints of a row are copied -/
def qs_cp (m : qs_M) (r1 r2 : Nat) (sp dp n : Nat) : qs_M := (m.1, m.2.1, m.2.2.1, m.2.2.2.1, (fun a b => if a = r2 ∧ dp ≤ b ∧ b < dp + n then m.2.2.2.2.1 r1 (sp + (b - dp)) else m.2.2.2.2.1 a b), m.2.2.2.2.2)
/-- which slots of a new cell are links -/
def qs_dl (t j : Nat) : Nat := match t with
  | 1 => if j < 2 then 1 else 0
  | 2 => if j < 3 then 1 else 0
  | 3 => if j < 2 then 1 else 0
  | 4 => if j < 1 then 1 else 0
  | 5 => if j < 2 then 1 else 0
  | 6 => if j < 1 then 1 else 0
  | 7 => if j < 5 then 1 else if j = 5 then 0 else if j < 9 then 1 else 0
  | 8 => if j < 3 then 1 else if j < 4 then 0 else if j < 5 then 1 else if j < 7 then 0 else if j < 9 then 1 else if j < 16 then 0 else if j < 19 then 1 else if j < 21 then 0 else if j < 22 then 1 else if j < 23 then 0 else if j < 35 then 1 else 0
  | _ => if 30 ≤ t then 1 else 0
/-- how many fields a class's objects have -/
def qs_nf (t : Nat) : Nat := match t with
  | 0 => 8
  | 1 => 2
  | 2 => 15
  | 3 => 7
  | 4 => 3
  | 5 => 4
  | 6 => 4
  | 7 => 10
  | _ => 36
/-- a new cell of kind t and size s -/
def qs_nw (m : qs_M) (t s : Nat) : qs_M := ((m.1.1 + 1, m.1.2 + s), (fun a => if a = 16 + m.1.1 then t else m.2.1 a), (fun a => if a = 16 + m.1.1 then s else m.2.2.1 a), (fun a b => if a = 16 + m.1.1 then qs_dl t b else m.2.2.2.1 a b), (fun a b => if a = 16 + m.1.1 then 0 else m.2.2.2.2.1 a b), (fun a b => if a = 16 + m.1.1 then 0 else m.2.2.2.2.2 a b))
def qs_get : qs_L → Nat → Option Value
  | [], _ => none
  | h :: _, 0 => h
  | _ :: r, n + 1 => qs_get r n
def qs_w2 : Option Value → Bool
  | some (.long _) => true
  | some (.double _) => true
  | _ => false
def qs_put : qs_L → Nat → Value → qs_L
  | [], _, _ => []
  | _ :: r, 0, v => some v :: r
  | h :: r, 1, v => (bif qs_w2 h then none else h) :: qs_put r 0 v
  | h :: r, n + 2, v => h :: qs_put r (n + 1) v
def qs_clr : qs_L → qs_L
  | [] => []
  | _ :: r => none :: r
def qs_put2 : qs_L → Nat → Value → qs_L
  | [], _, _ => []
  | _ :: r, 0, v => some v :: qs_clr r
  | h :: r, 1, v => (bif qs_w2 h then none else h) :: qs_put2 r 0 v
  | h :: r, n + 2, v => h :: qs_put2 r (n + 1) v
def qs_pop : Nat → List Value → List Value → Option (List Value × List Value)
  | 0, st, acc => some (acc, st)
  | n + 1, v :: st, acc => qs_pop n st (v :: acc)
  | _ + 1, [], _ => none
def qs_sum : List Value → Nat
  | [] => 0
  | v :: r => v.category + qs_sum r
def qs_sw {ρ : Type} (x : Int32) : List (Int32 × Nat) → Nat → (Nat → ρ) → ρ
  | [], d, k => k d
  | (v, t) :: r, d, k => if x = v then k t else qs_sw x r d k
def qs_bI (x : Option qs_R) (f : Int32 → qs_M → Option qs_R) : Option qs_R := match x with
  | some (some (.int r), m) => f r m
  | _ => none
def qs_bV (x : Option qs_R) (f : qs_M → Option qs_R) : Option qs_R := match x with
  | some (none, m) => f m
  | _ => none
def qs_con (rk : Nat) (x : Option qs_R) (f : List Value → qs_M → Option qs_R) : Option qs_R := match rk with
  | 0 => qs_bV x (fun m => f [] m)
  | _ => qs_bI x (fun r m => f [.int r] m)
def qs_max (x y : Int32) : Int32 := if x < y then y else x
def qs_min (x y : Int32) : Int32 := if y < x then y else x
def qs_abs (x : Int32) : Int32 := if 0 ≤ x then x else 0 - x
/-- one instruction: it fails (fl), returns (rt), calls (cl) or goes on (k) -/
def qs_stp {ρ : Type} (rk : Nat) (fl : ρ) (rt : qs_R → ρ) (cl : Nat → Nat → List Value → qs_M → Nat → qs_L → List Value → ρ) (k : Nat → qs_L → List Value → qs_M → ρ) (pc : Nat) (L : qs_L) (st : List Value) (m : qs_M) (i : Instr) (a b c : Nat) (v : Int32) (sw : List (Int32 × Nat)) : ρ :=
  match i with
  | .iconst _ => k (pc + 1) L (.int v :: st) m
  | .bipush _ => k (pc + 2) L (.int v :: st) m
  | .sipush _ => k (pc + 3) L (.int v :: st) m
  | .lconst _ => k (pc + 1) L (.long 0 :: st) m
  | .ldc _ => match a with
    | 0 => k (pc + 2) L (.int v :: st) m
    | q + 1 => k (pc + 2) L (.ref (q + 1) :: st) m
  | .ldc_w _ => k (pc + 3) L (.int v :: st) m
  | .iload_n _ => match qs_get L a with
    | some (.int x) => k (pc + 1) L (.int x :: st) m
    | _ => fl
  | .iload _ => match qs_get L a with
    | some (.int x) => k (pc + 2) L (.int x :: st) m
    | _ => fl
  | .aload_n _ => match qs_get L a with
    | some (.ref x) => k (pc + 1) L (.ref x :: st) m
    | _ => fl
  | .aload _ => match qs_get L a with
    | some (.ref x) => k (pc + 2) L (.ref x :: st) m
    | _ => fl
  | .lload _ => match qs_get L a with
    | some (.long x) => k (pc + 2) L (.long x :: st) m
    | _ => fl
  | .istore_n _ => match st with
    | .int x :: st => k (pc + 1) (qs_put L a (.int x)) st m
    | _ => fl
  | .istore _ => match st with
    | .int x :: st => k (pc + 2) (qs_put L a (.int x)) st m
    | _ => fl
  | .astore_n _ => match st with
    | .ref x :: st => k (pc + 1) (qs_put L a (.ref x)) st m
    | _ => fl
  | .astore _ => match st with
    | .ref x :: st => k (pc + 2) (qs_put L a (.ref x)) st m
    | _ => fl
  | .lstore _ => match st with
    | .long x :: st => k (pc + 2) (qs_put2 L a (.long x)) st m
    | _ => fl
  | .iinc _ _ => match qs_get L a with
    | some (.int x) => k (pc + 3) (qs_put L a (.int (x + v))) st m
    | _ => fl
  | .iadd => match st with
    | .int y :: .int x :: st => k (pc + 1) L (.int (x + y) :: st) m
    | _ => fl
  | .isub => match st with
    | .int y :: .int x :: st => k (pc + 1) L (.int (x - y) :: st) m
    | _ => fl
  | .imul => match st with
    | .int y :: .int x :: st => k (pc + 1) L (.int (x * y) :: st) m
    | _ => fl
  | .iand => match st with
    | .int y :: .int x :: st => k (pc + 1) L (.int (x &&& y) :: st) m
    | _ => fl
  | .ior => match st with
    | .int y :: .int x :: st => k (pc + 1) L (.int (x ||| y) :: st) m
    | _ => fl
  | .ishl => match st with
    | .int y :: .int x :: st => k (pc + 1) L (.int (x <<< (y &&& 31)) :: st) m
    | _ => fl
  | .ishr => match st with
    | .int y :: .int x :: st => k (pc + 1) L (.int (x >>> (y &&& 31)) :: st) m
    | _ => fl
  | .iushr => match st with
    | .int y :: .int x :: st => k (pc + 1) L (.int (x.toUInt32 >>> (y.toUInt32 &&& Int32.toUInt32 31)).toInt32 :: st) m
    | _ => fl
  | .idiv => match st with
    | .int y :: .int x :: st => if y = 0 then fl else k (pc + 1) L (.int (x / y) :: st) m
    | _ => fl
  | .irem => match st with
    | .int y :: .int x :: st => if y = 0 then fl else k (pc + 1) L (.int (x - x / y * y) :: st) m
    | _ => fl
  | .ineg => match st with
    | .int x :: st => k (pc + 1) L (.int (-x) :: st) m
    | _ => fl
  | .i2c => match st with
    | .int x :: st => k (pc + 1) L (.int (x.toUInt32 % 65536).toInt32 :: st) m
    | _ => fl
  | .i2s => match st with
    | .int x :: st => k (pc + 1) L (.int x.toInt16.toInt32 :: st) m
    | _ => fl
  | .i2b => match st with
    | .int x :: st => k (pc + 1) L (.int x.toInt8.toInt32 :: st) m
    | _ => fl
  | .i2l => match st with
    | .int x :: st => k (pc + 1) L (.long x.toInt64 :: st) m
    | _ => fl
  | .l2i => match st with
    | .long x :: st => k (pc + 1) L (.int x.toInt32 :: st) m
    | _ => fl
  | .ladd => match st with
    | .long y :: .long x :: st => k (pc + 1) L (.long (x + y) :: st) m
    | _ => fl
  | .lsub => match st with
    | .long y :: .long x :: st => k (pc + 1) L (.long (x - y) :: st) m
    | _ => fl
  | .lneg => match st with
    | .long x :: st => k (pc + 1) L (.long (-x) :: st) m
    | _ => fl
  | .lcmp => match st with
    | .long y :: .long x :: st => k (pc + 1) L (.int (lg_cmp x y) :: st) m
    | _ => fl
  | .dup => match st with
    | x :: st => if x.category = 1 then k (pc + 1) L (x :: x :: st) m else fl
    | _ => fl
  | .pop => match st with
    | x :: st => if x.category = 1 then k (pc + 1) L st m else fl
    | _ => fl
  | .dup2 => match st with
    | x :: y :: st => if x.category = 1 ∧ y.category = 1 then k (pc + 1) L (x :: y :: x :: y :: st) m else fl
    | _ => fl
  | .ifCond cd _ => match st with
    | .int x :: st => match cd with
      | .eq => if x = 0 then k a L st m else k (pc + 3) L st m
      | .ne => if x = 0 then k (pc + 3) L st m else k a L st m
      | .lt => if x < 0 then k a L st m else k (pc + 3) L st m
      | .ge => if 0 ≤ x then k a L st m else k (pc + 3) L st m
      | .gt => if 0 < x then k a L st m else k (pc + 3) L st m
      | .le => if x ≤ 0 then k a L st m else k (pc + 3) L st m
    | _ => fl
  | .if_icmp cd _ => match st with
    | .int y :: .int x :: st => match cd with
      | .eq => if x = y then k a L st m else k (pc + 3) L st m
      | .ne => if x = y then k (pc + 3) L st m else k a L st m
      | .lt => if x < y then k a L st m else k (pc + 3) L st m
      | .ge => if y ≤ x then k a L st m else k (pc + 3) L st m
      | .gt => if y < x then k a L st m else k (pc + 3) L st m
      | .le => if x ≤ y then k a L st m else k (pc + 3) L st m
    | _ => fl
  | .goto _ => k a L st m
  | .tableswitch _ _ _ _ => match st with
    | .int x :: st => qs_sw x sw a (fun t => k t L st m)
    | _ => fl
  | .lookupswitch _ _ => match st with
    | .int x :: st => qs_sw x sw a (fun t => k t L st m)
    | _ => fl
  | .getfield _ => match st with
    | .ref r :: st => match c with
      | 1 => if qs_kd m r = a ∧ 2 ≤ qs_lk m r b then k (pc + 3) L (.ref (qs_lk m r b - 2) :: st) m else fl
      | _ => if qs_kd m r = a ∧ qs_lk m r b = 0 then k (pc + 3) L (.int (qs_i m r b) :: st) m else fl
    | _ => fl
  | .putfield _ => match st with
    | .int x :: .ref r :: st => match c with
      | 0 => if qs_kd m r = a ∧ qs_lk m r b = 0 then k (pc + 3) L st (qs_wi m r b x) else fl
      | 2 => if qs_kd m r = a ∧ qs_lk m r b = 0 ∧ (x = 0 ∨ x = 1) then k (pc + 3) L st (qs_wi m r b x) else fl
      | _ => fl
    | .ref q :: .ref r :: st => match c with
      | 1 => if qs_kd m r = a ∧ qs_lk m r b = 1 ∧ 16 ≤ q then k (pc + 3) L st (qs_wl m r b (q + 2)) else fl
      | _ => fl
    | _ => fl
  | .getstatic _ => match a with
    | 0 => k (pc + 3) L (.int v :: st) m
    | q + 1 => k (pc + 3) L (.ref (q + 1) :: st) m
  | .iaload => match st with
    | .int x :: .ref r :: st => if qs_kd m r = a ∧ 0 ≤ x ∧ x.toNatClampNeg < qs_sz m r then k (pc + 1) L (.int (qs_i m r x.toNatClampNeg) :: st) m else fl
    | _ => fl
  | .baload => match st with
    | .int x :: .ref r :: st => if qs_kd m r = a ∧ 0 ≤ x ∧ x.toNatClampNeg < qs_sz m r then k (pc + 1) L (.int (qs_i m r x.toNatClampNeg) :: st) m else fl
    | _ => fl
  | .caload => match st with
    | .int x :: .ref r :: st => if qs_kd m r = 22 ∧ 0 ≤ x ∧ x.toNatClampNeg < qs_sz m r then k (pc + 1) L (.int (qs_i m r x.toNatClampNeg) :: st) m else fl
    | _ => fl
  | .laload => match st with
    | .int x :: .ref r :: st => if qs_kd m r = 23 ∧ 0 ≤ x ∧ x.toNatClampNeg < qs_sz m r then k (pc + 1) L (.long (qs_l m r x.toNatClampNeg) :: st) m else fl
    | _ => fl
  | .aaload => match st with
    | .int x :: .ref r :: st => if (30 ≤ qs_kd m r ∧ qs_kd m r < 40) ∧ (0 ≤ x ∧ x.toNatClampNeg < qs_sz m r) ∧ 18 ≤ qs_lk m r x.toNatClampNeg then k (pc + 1) L (.ref (qs_lk m r x.toNatClampNeg - 2) :: st) m else fl
    | _ => fl
  | .iastore => match st with
    | .int y :: .int x :: .ref r :: st => if qs_kd m r = 20 ∧ 0 ≤ x ∧ x.toNatClampNeg < qs_sz m r then k (pc + 1) L st (qs_wi m r x.toNatClampNeg y) else fl
    | _ => fl
  | .bastore => match st with
    | .int y :: .int x :: .ref r :: st => if (qs_kd m r = 21 ∧ 0 ≤ x ∧ x.toNatClampNeg < qs_sz m r) ∧ (y = 0 ∨ y = 1) then k (pc + 1) L st (qs_wi m r x.toNatClampNeg y) else fl
    | _ => fl
  | .castore => match st with
    | .int y :: .int x :: .ref r :: st => if (qs_kd m r = 22 ∧ 0 ≤ x ∧ x.toNatClampNeg < qs_sz m r) ∧ vp_nar .char y = y then k (pc + 1) L st (qs_wi m r x.toNatClampNeg y) else fl
    | _ => fl
  | .lastore => match st with
    | .long y :: .int x :: .ref r :: st => if qs_kd m r = 23 ∧ 0 ≤ x ∧ x.toNatClampNeg < qs_sz m r then k (pc + 1) L st (qs_wj m r x.toNatClampNeg y) else fl
    | _ => fl
  | .aastore => match st with
    | .ref q :: .int x :: .ref r :: st => if (qs_kd m q < 9 ∧ qs_kd m r = qs_kd m q + 30) ∧ 0 ≤ x ∧ x.toNatClampNeg < qs_sz m r then k (pc + 1) L st (qs_wl m r x.toNatClampNeg (q + 2)) else fl
    | _ => fl
  | .arraylength => match st with
    | .ref r :: st => if qs_kd m r = a then k (pc + 1) L (.int (Int32.ofNat (qs_sz m r)) :: st) m else fl
    | _ => fl
  | .new _ => k (pc + 3) L (.ref (16 + qs_n m) :: st) (qs_nw m a (qs_nf a))
  | .newarray _ => match st with
    | .int x :: st => if 0 ≤ x ∧ x.toNatClampNeg ≤ 100000 then k (pc + 2) L (.ref (16 + qs_n m) :: st) (qs_nw m a x.toNatClampNeg) else fl
    | _ => fl
  | .anewarray _ => match st with
    | .int x :: st => if 0 ≤ x ∧ x.toNatClampNeg ≤ 100000 then k (pc + 3) L (.ref (16 + qs_n m) :: st) (qs_nw m a x.toNatClampNeg) else fl
    | _ => fl
  | .invokestatic _ => bif Nat.blt a 1000 then match qs_pop (b / 8) st [] with
      | some (as, rest) => if qs_sum rest ≤ 8 ∧ qs_sum as = b / 8 then cl (b % 8) a as m (pc + 3) L rest else fl
      | none => fl
    else bif a == 1001 then match st with
      | .int n :: .int dp :: .ref r2 :: .int sp :: .ref r1 :: st => if (qs_kd m r1 = 20 ∧ qs_kd m r2 = 20) ∧ (0 ≤ sp ∧ 0 ≤ dp ∧ 0 ≤ n) ∧ (sp.toNatClampNeg + n.toNatClampNeg ≤ qs_sz m r1 ∧ dp.toNatClampNeg + n.toNatClampNeg ≤ qs_sz m r2) ∧ qs_sum st ≤ 8 then k (pc + 3) L st (qs_cp m r1 r2 sp.toNatClampNeg dp.toNatClampNeg n.toNatClampNeg) else fl
      | _ => fl
    else bif a == 1002 then match st with
      | .int y :: .int x :: st => if qs_sum st ≤ 8 then k (pc + 3) L (.int (qs_max x y) :: st) m else fl
      | _ => fl
    else bif a == 1003 then match st with
      | .int y :: .int x :: st => if qs_sum st ≤ 8 then k (pc + 3) L (.int (qs_min x y) :: st) m else fl
      | _ => fl
    else match st with
      | .int x :: st => if qs_sum st ≤ 8 then k (pc + 3) L (.int (qs_abs x) :: st) m else fl
      | _ => fl
  | .invokevirtual _ => match qs_pop (b / 8) st [] with
    | some (as, .ref r :: rest) => if qs_sum rest ≤ 8 ∧ qs_sum as = b / 8 then if qs_kd m r = c then cl (b % 8) a (.ref r :: as) m (pc + 3) L rest else fl else fl
    | _ => fl
  | .invokespecial _ => bif a == 1000 then match st with
      | .ref r :: st => if qs_sum st ≤ 8 ∧ 16 ≤ r then k (pc + 3) L st m else fl
      | _ => fl
    else match qs_pop (b / 8) st [] with
      | some (as, .ref r :: rest) => if qs_sum rest ≤ 8 ∧ qs_sum as = b / 8 then if 16 ≤ r then cl 0 a (.ref r :: as) m (pc + 3) L rest else fl else fl
      | _ => fl
  | .ireturn => match st with
    | [.int x] => match rk with
      | 1 => rt (some (.int x), m)
      | 2 => if x = 0 ∨ x = 1 then rt (some (.int x), m) else fl
      | 3 => if narrow .char (.int x) = .int x then rt (some (.int x), m) else fl
      | 4 => if narrow .byte (.int x) = .int x then rt (some (.int x), m) else fl
      | _ => fl
    | _ => fl
  | .return_ => match st, rk with
    | [], 0 => rt (none, m)
    | _, _ => fl
  | _ => fl
def qs_step (rk : Nat) (call : Nat → List Value → qs_M → Option qs_R) (pc : Nat) (L : qs_L) (st : List Value) (m : qs_M) (i : Instr) (a b c : Nat) (v : Int32) (sw : List (Int32 × Nat)) (k : Nat → qs_L → List Value → qs_M → Option qs_R) : Option qs_R :=
  qs_stp rk none some (fun e M as m pc L rest => qs_con e (call M as m) (fun vs m => k pc L (vs ++ rest) m)) k pc L st m i a b c v sw
def qs_init (n : Nat) (as : List Value) : qs_L := as.map some ++ List.replicate (n - as.length) none
def qs_fetch (cd : List (List (Option qs_Row))) (pc : Nat) : Option qs_Row := match cd[pc / 16]? with
  | some ch => match ch[pc % 16]? with
    | some r => r
    | none => none
  | none => none
/-- a method: its class, name, bytes, locals, what it returns; static 0, instance 1, constructor 2; how many arguments; what it returns (0 nothing, 1 int, 2 boolean, 3 char, 4 byte); its code; places of its words -/
abbrev qs_E : Type := String × MethodName × ByteArray × Nat × Option FieldType × Nat × Nat × Nat × List (List (Option qs_Row)) × List Nat
def qe_own (E : qs_E) : String := E.1
def qe_y (E : qs_E) : MethodName := E.2.1
def qe_b (E : qs_E) : ByteArray := E.2.2.1
def qe_ml (E : qs_E) : Nat := E.2.2.2.1
def qe_rt (E : qs_E) : Option FieldType := E.2.2.2.2.1
def qe_kd (E : qs_E) : Nat := E.2.2.2.2.2.1
def qe_na (E : qs_E) : Nat := E.2.2.2.2.2.2.1
def qe_rk (E : qs_E) : Nat := E.2.2.2.2.2.2.2.1
def qe_cd (E : qs_E) : List (List (Option qs_Row)) := E.2.2.2.2.2.2.2.2.1
def qe_pl (E : qs_E) : List Nat := E.2.2.2.2.2.2.2.2.2
end
section
/-! the code of the methods, row by row -/
def qc_0 : List (List (Option qs_Row)) := [[some (.aload_n 0, 0, 0, 0, 0, [], []), some (.invokespecial 3, 1000, 0, 0, 0, [], [1111]), none, none, some (.return_, 0, 0, 0, 0, [], []), none, none, none, none, none, none, none, none, none, none, none]]
/-- X0_init -/
def qm_0 : qs_E := (RX0, yX0_init, cX0_init, 1, none, 2, 0, 0, qc_0, [1110, 1109, 1006])
def qc_1 : List (List (Option qs_Row)) := [[some (.aload_n 0, 0, 0, 0, 0, [], []), some (.iload_n 1, 1, 0, 0, 0, [], []), some (.putfield 9, 0, 0, 0, 0, [], [1112]), none, none, some (.aload_n 0, 0, 0, 0, 0, [], []), some (.iload_n 2, 2, 0, 0, 0, [], []), some (.putfield 15, 0, 1, 0, 0, [], [1115]), none, none, some (.aload_n 0, 0, 0, 0, 0, [], []), some (.iload_n 3, 3, 0, 0, 0, [], []), some (.putfield 18, 0, 2, 0, 0, [], [1118]), none, none, some (.aload_n 0, 0, 0, 0, 0, [], [])],
  [some (.iload 4, 4, 0, 0, 0, [], []), none, some (.putfield 21, 0, 6, 0, 0, [], [1126]), none, none, some (.aload_n 0, 0, 0, 0, 0, [], []), some (.iconst 0, 0, 0, 0, 0, [], []), some (.putfield 24, 0, 3, 0, 0, [], [1120]), none, none, some (.aload_n 0, 0, 0, 0, 0, [], []), some (.iconst 0, 0, 0, 0, 0, [], []), some (.putfield 27, 0, 4, 0, 0, [], [1122]), none, none, some (.aload_n 0, 0, 0, 0, 0, [], [])],
  [some (.iconst 0, 0, 0, 0, 0, [], []), some (.putfield 30, 0, 5, 0, 0, [], [1124]), none, none, some (.aload_n 0, 0, 0, 0, 0, [], []), some (.iconst 0, 0, 0, 0, 0, [], []), some (.putfield 33, 0, 7, 0, 0, [], [1128]), none, none, some (.return_, 0, 0, 0, 0, [], []), none, none, none, none, none, none]]
/-- X0_begin -/
def qm_1 : qs_E := (RX0, yX0_begin, cX0_begin, 5, none, 1, 4, 0, qc_1, [2065, 2063, 1006, 2064])
def qc_2 : List (List (Option qs_Row)) := [[some (.aload_n 0, 0, 0, 0, 0, [], []), some (.aload_n 1, 1, 0, 0, 0, [], []), some (.getfield 9, 0, 0, 0, 0, [], [1112]), none, none, some (.aload_n 1, 1, 0, 0, 0, [], []), some (.getfield 15, 0, 1, 0, 0, [], [1115]), none, none, some (.aload_n 1, 1, 0, 0, 0, [], []), some (.getfield 18, 0, 2, 0, 0, [], [1118]), none, none, some (.aload_n 1, 1, 0, 0, 0, [], []), some (.getfield 21, 0, 6, 0, 0, [], [1126]), none],
  [none, some (.invokevirtual 36, 1, 32, 0, 0, [], [3008, 0]), none, none, some (.aload_n 0, 0, 0, 0, 0, [], []), some (.aload_n 1, 1, 0, 0, 0, [], []), some (.getfield 24, 0, 3, 0, 0, [], [1120]), none, none, some (.putfield 24, 0, 3, 0, 0, [], [1120]), none, none, some (.aload_n 0, 0, 0, 0, 0, [], []), some (.aload_n 1, 1, 0, 0, 0, [], []), some (.getfield 27, 0, 4, 0, 0, [], [1122]), none],
  [none, some (.putfield 27, 0, 4, 0, 0, [], [1122]), none, none, some (.aload_n 0, 0, 0, 0, 0, [], []), some (.aload_n 1, 1, 0, 0, 0, [], []), some (.getfield 30, 0, 5, 0, 0, [], [1124]), none, none, some (.putfield 30, 0, 5, 0, 0, [], [1124]), none, none, some (.aload_n 0, 0, 0, 0, 0, [], []), some (.aload_n 1, 1, 0, 0, 0, [], []), some (.getfield 33, 0, 7, 0, 0, [], [1128]), none],
  [none, some (.putfield 33, 0, 7, 0, 0, [], [1128]), none, none, some (.return_, 0, 0, 0, 0, [], []), none, none, none, none, none, none, none, none, none, none, none]]
/-- X0_takeFrom -/
def qm_2 : qs_E := (RX0, yX0_takeFrom, cX0_takeFrom, 2, none, 1, 1, 0, qc_2, [3007, 3005, 1006, 3006])
def qc_3 : List (List (Option qs_Row)) := [[some (.iload_n 1, 1, 0, 0, 0, [], []), some (.tableswitch 51 2 5 #[31, 36, 41, 46], 52, 31, 0, 0, [(2, 32), (3, 37), (4, 42), (5, 47)], []), none, none, none, none, none, none, none, none, none, none, none, none, none, none],
  [none, none, none, none, none, none, none, none, none, none, none, none, none, none, none, none],
  [some (.aload_n 0, 0, 0, 0, 0, [], []), some (.getfield 18, 0, 2, 0, 0, [], [1118]), none, none, some (.ireturn, 0, 0, 0, 0, [], []), some (.aload_n 0, 0, 0, 0, 0, [], []), some (.getfield 24, 0, 3, 0, 0, [], [1120]), none, none, some (.ireturn, 0, 0, 0, 0, [], []), some (.aload_n 0, 0, 0, 0, 0, [], []), some (.getfield 27, 0, 4, 0, 0, [], [1122]), none, none, some (.ireturn, 0, 0, 0, 0, [], []), some (.aload_n 0, 0, 0, 0, 0, [], [])],
  [some (.getfield 30, 0, 5, 0, 0, [], [1124]), none, none, some (.ireturn, 0, 0, 0, 0, [], []), some (.aload_n 0, 0, 0, 0, 0, [], []), some (.getfield 21, 0, 6, 0, 0, [], [1126]), none, none, some (.ireturn, 0, 0, 0, 0, [], []), none, none, none, none, none, none, none]]
/-- X0_given -/
def qm_3 : qs_E := (RX0, yX0_given, cX0_given, 2, some .int, 1, 1, 1, qc_3, [2130, 2128, 1006, 2129])
def qc_4 : List (List (Option qs_Row)) := [[some (.iload_n 1, 1, 0, 0, 0, [], []), some (.tableswitch 63 2 5 #[31, 39, 47, 55], 64, 31, 0, 0, [(2, 32), (3, 40), (4, 48), (5, 56)], []), none, none, none, none, none, none, none, none, none, none, none, none, none, none],
  [none, none, none, none, none, none, none, none, none, none, none, none, none, none, none, none],
  [some (.aload_n 0, 0, 0, 0, 0, [], []), some (.iload_n 2, 2, 0, 0, 0, [], []), some (.putfield 18, 0, 2, 0, 0, [], [1118]), none, none, some (.goto 32, 69, 0, 0, 0, [], []), none, none, some (.aload_n 0, 0, 0, 0, 0, [], []), some (.iload_n 2, 2, 0, 0, 0, [], []), some (.putfield 24, 0, 3, 0, 0, [], [1120]), none, none, some (.goto 24, 69, 0, 0, 0, [], []), none, none],
  [some (.aload_n 0, 0, 0, 0, 0, [], []), some (.iload_n 2, 2, 0, 0, 0, [], []), some (.putfield 27, 0, 4, 0, 0, [], [1122]), none, none, some (.goto 16, 69, 0, 0, 0, [], []), none, none, some (.aload_n 0, 0, 0, 0, 0, [], []), some (.iload_n 2, 2, 0, 0, 0, [], []), some (.putfield 30, 0, 5, 0, 0, [], [1124]), none, none, some (.goto 8, 69, 0, 0, 0, [], []), none, none],
  [some (.aload_n 0, 0, 0, 0, 0, [], []), some (.iload_n 2, 2, 0, 0, 0, [], []), some (.putfield 21, 0, 6, 0, 0, [], [1126]), none, none, some (.return_, 0, 0, 0, 0, [], []), none, none, none, none, none, none, none, none, none, none]]
/-- X0_give -/
def qm_4 : qs_E := (RX0, yX0_give, cX0_give, 3, none, 1, 2, 0, qc_4, [2148, 2146, 1006, 2147])
def qc_5 : List (List (Option qs_Row)) := [[some (.aload_n 0, 0, 0, 0, 0, [], []), some (.aload_n 0, 0, 0, 0, 0, [], []), some (.getfield 15, 0, 1, 0, 0, [], [1115]), none, none, some (.iload_n 1, 1, 0, 0, 0, [], []), some (.iadd, 0, 0, 0, 0, [], []), some (.bipush 40, 0, 0, 0, 40, [], []), none, some (.invokestatic 40, 98, 17, 0, 0, [], [2157, 1]), none, none, some (.putfield 15, 0, 1, 0, 0, [], [1115]), none, none, some (.return_, 0, 0, 0, 0, [], [])]]
/-- X0_tighten -/
def qm_5 : qs_E := (RX0, yX0_tighten, cX0_tighten, 2, none, 1, 1, 0, qc_5, [2156, 2154, 1006, 2155])
def qc_6 : List (List (Option qs_Row)) := [[some (.iload_n 1, 1, 0, 0, 0, [], []), some (.tableswitch 51 0 2 #[27, 35, 43], 52, 27, 0, 0, [(0, 28), (1, 36), (2, 44)], []), none, none, none, none, none, none, none, none, none, none, none, none, none, none],
  [none, none, none, none, none, none, none, none, none, none, none, none, some (.aload_n 0, 0, 0, 0, 0, [], []), some (.iconst 0, 0, 0, 0, 0, [], []), some (.putfield 18, 0, 2, 0, 0, [], [1118]), none],
  [none, some (.goto 34, 67, 0, 0, 0, [], []), none, none, some (.aload_n 0, 0, 0, 0, 0, [], []), some (.iconst 0, 0, 0, 0, 0, [], []), some (.putfield 24, 0, 3, 0, 0, [], [1120]), none, none, some (.goto 26, 67, 0, 0, 0, [], []), none, none, some (.aload_n 0, 0, 0, 0, 0, [], []), some (.iconst 0, 0, 0, 0, 0, [], []), some (.putfield 27, 0, 4, 0, 0, [], [1122]), none],
  [none, some (.goto 18, 67, 0, 0, 0, [], []), none, none, some (.aload_n 0, 0, 0, 0, 0, [], []), some (.bipush 9, 0, 0, 0, 9, [], []), none, some (.aload_n 0, 0, 0, 0, 0, [], []), some (.getfield 30, 0, 5, 0, 0, [], [1124]), none, none, some (.iconst 1, 0, 0, 0, 1, [], []), some (.iadd, 0, 0, 0, 0, [], []), some (.invokestatic 44, 1003, 0, 0, 0, [], [3033]), none, none],
  [some (.putfield 30, 0, 5, 0, 0, [], [1124]), none, none, some (.return_, 0, 0, 0, 0, [], []), none, none, none, none, none, none, none, none, none, none, none, none]]
/-- X0_mendBy -/
def qm_6 : qs_E := (RX0, yX0_mendBy, cX0_mendBy, 2, none, 1, 1, 0, qc_6, [3032, 3030, 1006, 3031])
def qc_7 : List (List (Option qs_Row)) := [[some (.iconst 0, 0, 0, 0, 0, [], []), some (.aload_n 0, 0, 0, 0, 0, [], []), some (.getfield 15, 0, 1, 0, 0, [], [1115]), none, none, some (.iconst 2, 0, 0, 0, 2, [], []), some (.iload_n 1, 1, 0, 0, 0, [], []), some (.imul, 0, 0, 0, 0, [], []), some (.isub, 0, 0, 0, 0, [], []), some (.invokestatic 49, 1002, 0, 0, 0, [], [2078]), none, none, some (.aload_n 0, 0, 0, 0, 0, [], []), some (.getfield 30, 0, 5, 0, 0, [], [1124]), none, none],
  [some (.iconst 2, 0, 0, 0, 2, [], []), some (.idiv, 0, 0, 0, 0, [], []), some (.iadd, 0, 0, 0, 0, [], []), some (.ireturn, 0, 0, 0, 0, [], []), none, none, none, none, none, none, none, none, none, none, none, none]]
/-- X0_grip -/
def qm_7 : qs_E := (RX0, yX0_grip, cX0_grip, 2, some .int, 1, 1, 1, qc_7, [2077, 2075, 1006, 2076])
def qc_8 : List (List (Option qs_Row)) := [[some (.bipush 25, 0, 0, 0, 25, [], []), none, some (.aload_n 0, 0, 0, 0, 0, [], []), some (.getfield 18, 0, 2, 0, 0, [], [1118]), none, none, some (.iconst 2, 0, 0, 0, 2, [], []), some (.idiv, 0, 0, 0, 0, [], []), some (.isub, 0, 0, 0, 0, [], []), some (.istore_n 1, 1, 0, 0, 0, [], []), some (.aload_n 0, 0, 0, 0, 0, [], []), some (.getfield 9, 0, 0, 0, 0, [], [1112]), none, none, some (.iconst 5, 0, 0, 0, 5, [], []), some (.if_icmp .ne 6, 21, 0, 0, 0, [], [])],
  [none, none, some (.bipush 40, 0, 0, 0, 40, [], []), none, some (.ireturn, 0, 0, 0, 0, [], []), some (.aload_n 0, 0, 0, 0, 0, [], []), some (.getfield 9, 0, 0, 0, 0, [], [1112]), none, none, some (.iconst 1, 0, 0, 0, 1, [], []), some (.invokestatic 52, 104, 18, 0, 0, [], [2110, 1]), none, none, some (.ifCond .eq 7, 36, 0, 0, 0, [], []), none, none],
  [some (.iload_n 1, 1, 0, 0, 0, [], []), some (.iconst 4, 0, 0, 0, 4, [], []), some (.isub, 0, 0, 0, 0, [], []), some (.ireturn, 0, 0, 0, 0, [], []), some (.aload_n 0, 0, 0, 0, 0, [], []), some (.getfield 9, 0, 0, 0, 0, [], [1112]), none, none, some (.iconst 2, 0, 0, 0, 2, [], []), some (.invokestatic 52, 104, 18, 0, 0, [], [2110, 1]), none, none, some (.ifCond .eq 14, 58, 0, 0, 0, [], []), none, none, some (.iconst 0, 0, 0, 0, 0, [], [])],
  [some (.iload_n 1, 1, 0, 0, 0, [], []), some (.aload_n 0, 0, 0, 0, 0, [], []), some (.getfield 27, 0, 4, 0, 0, [], [1122]), none, none, some (.isub, 0, 0, 0, 0, [], []), some (.invokestatic 49, 1002, 0, 0, 0, [], [2078]), none, none, some (.ireturn, 0, 0, 0, 0, [], []), some (.iload_n 1, 1, 0, 0, 0, [], []), some (.ireturn, 0, 0, 0, 0, [], []), none, none, none, none]]
/-- X0_bears -/
def qm_8 : qs_E := (RX0, yX0_bears, cX0_bears, 2, some .int, 1, 0, 1, qc_8, [2109, 2107, 1006, 2108])
def qc_9 : List (List (Option qs_Row)) := [[some (.aload_n 0, 0, 0, 0, 0, [], []), some (.getfield 9, 0, 0, 0, 0, [], [1112]), none, none, some (.tableswitch 73 1 5 #[36, 52, 43, 60, 71], 77, 36, 0, 0, [(1, 40), (2, 56), (3, 47), (4, 64), (5, 75)], []), none, none, none, none, none, none, none, none, none, none, none],
  [none, none, none, none, none, none, none, none, none, none, none, none, none, none, none, none],
  [none, none, none, none, none, none, none, none, some (.aload_n 0, 0, 0, 0, 0, [], []), some (.getfield 15, 0, 1, 0, 0, [], [1115]), none, none, some (.iconst 3, 0, 0, 0, 3, [], []), some (.iadd, 0, 0, 0, 0, [], []), some (.ireturn, 0, 0, 0, 0, [], []), some (.iconst 2, 0, 0, 0, 2, [], [])],
  [some (.aload_n 0, 0, 0, 0, 0, [], []), some (.getfield 15, 0, 1, 0, 0, [], [1115]), none, none, some (.iconst 3, 0, 0, 0, 3, [], []), some (.iadd, 0, 0, 0, 0, [], []), some (.imul, 0, 0, 0, 0, [], []), some (.ireturn, 0, 0, 0, 0, [], []), some (.bipush 40, 0, 0, 0, 40, [], []), none, some (.aload_n 0, 0, 0, 0, 0, [], []), some (.getfield 15, 0, 1, 0, 0, [], [1115]), none, none, some (.isub, 0, 0, 0, 0, [], []), some (.ireturn, 0, 0, 0, 0, [], [])],
  [some (.bipush 40, 0, 0, 0, 40, [], []), none, some (.aload_n 0, 0, 0, 0, 0, [], []), some (.getfield 15, 0, 1, 0, 0, [], [1115]), none, none, some (.isub, 0, 0, 0, 0, [], []), some (.bipush 6, 0, 0, 0, 6, [], []), none, some (.isub, 0, 0, 0, 0, [], []), some (.ireturn, 0, 0, 0, 0, [], []), some (.iconst 1, 0, 0, 0, 1, [], []), some (.ireturn, 0, 0, 0, 0, [], []), some (.aload_n 0, 0, 0, 0, 0, [], []), some (.getfield 15, 0, 1, 0, 0, [], [1115]), none],
  [none, some (.ireturn, 0, 0, 0, 0, [], []), none, none, none, none, none, none, none, none, none, none, none, none, none, none]]
/-- X0_worth -/
def qm_9 : qs_E := (RX0, yX0_worth, cX0_worth, 1, some .int, 1, 0, 1, qc_9, [2123, 2121, 1006, 2122])
def qc_10 : List (List (Option qs_Row)) := [[some (.aload_n 0, 0, 0, 0, 0, [], []), some (.invokespecial 3, 1000, 0, 0, 0, [], [1030]), none, none, some (.aload_n 0, 0, 0, 0, 0, [], []), some (.bipush 14, 0, 0, 0, 14, [], []), none, some (.anewarray 9, 36, 0, 0, 0, [], [1031]), none, none, some (.putfield 11, 1, 0, 1, 0, [], [1059]), none, none, some (.aload_n 0, 0, 0, 0, 0, [], []), some (.bipush 96, 0, 0, 0, 96, [], []), none],
  [some (.newarray .int, 20, 0, 0, 0, [], []), none, some (.putfield 17, 1, 1, 1, 0, [], [1061]), none, none, some (.iconst 0, 0, 0, 0, 0, [], []), some (.istore_n 1, 1, 0, 0, 0, [], []), some (.iload_n 1, 1, 0, 0, 0, [], []), some (.bipush 14, 0, 0, 0, 14, [], []), none, some (.if_icmp .ge 22, 48, 0, 0, 0, [], []), none, none, some (.aload_n 0, 0, 0, 0, 0, [], []), some (.getfield 11, 1, 0, 1, 0, [], [1059]), none],
  [none, some (.iload_n 1, 1, 0, 0, 0, [], []), some (.new 9, 6, 0, 0, 0, [], [1031]), none, none, some (.dup, 0, 0, 0, 0, [], []), some (.invokespecial 21, 49, 0, 6, 0, [], [1034, 0]), none, none, some (.aastore, 0, 0, 0, 0, [], []), some (.iinc 1 1, 1, 0, 0, 1, [], []), none, none, some (.goto (-22), 23, 0, 0, 0, [], []), none, none],
  [some (.return_, 0, 0, 0, 0, [], []), none, none, none, none, none, none, none, none, none, none, none, none, none, none, none]]
/-- X1_init -/
def qm_10 : qs_E := (RX1, yX1_init, cX1_init, 2, none, 2, 0, 0, qc_10, [1029, 1028, 1002])
def qc_11 : List (List (Option qs_Row)) := [[some (.iload_n 1, 1, 0, 0, 0, [], []), some (.bipush 13, 0, 0, 0, 13, [], []), none, some (.invokestatic 22, 97, 18, 0, 0, [], [2093, 1]), none, none, some (.ifCond .ne 5, 11, 0, 0, 0, [], []), none, none, some (.iconst 0, 0, 0, 0, 0, [], []), some (.ireturn, 0, 0, 0, 0, [], []), some (.aload_n 0, 0, 0, 0, 0, [], []), some (.getfield 11, 1, 0, 1, 0, [], [1059]), none, none, some (.iload_n 1, 1, 0, 0, 0, [], [])],
  [some (.aaload, 0, 0, 0, 0, [], []), some (.astore 5, 5, 0, 0, 0, [], []), none, some (.iconst 0, 0, 0, 0, 0, [], []), some (.istore 6, 6, 0, 0, 0, [], []), none, some (.iconst 0, 0, 0, 0, 0, [], []), some (.istore 7, 7, 0, 0, 0, [], []), none, some (.iload 7, 7, 0, 0, 0, [], []), none, some (.aload 5, 5, 0, 0, 0, [], []), none, some (.getfield 26, 6, 2, 0, 0, [], [1044]), none, none],
  [some (.if_icmp .ge 170, 202, 0, 0, 0, [], []), none, none, some (.iload 7, 7, 0, 0, 0, [], []), none, some (.bipush 96, 0, 0, 0, 96, [], []), none, some (.if_icmp .ge 163, 202, 0, 0, 0, [], []), none, none, some (.iload 6, 6, 0, 0, 0, [], []), none, some (.bipush 96, 0, 0, 0, 96, [], []), none, some (.if_icmp .ge 156, 202, 0, 0, 0, [], []), none],
  [none, some (.aload 5, 5, 0, 0, 0, [], []), none, some (.getfield 30, 6, 0, 1, 0, [], [1039]), none, none, some (.iload 7, 7, 0, 0, 0, [], []), none, some (.iaload, 20, 0, 0, 0, [], []), some (.istore 8, 8, 0, 0, 0, [], []), none, some (.iload 8, 8, 0, 0, 0, [], []), none, some (.bipush (-3), 0, 0, 0, (-3), [], []), none, some (.if_icmp .lt 49, 112, 0, 0, 0, [], [])],
  [none, none, some (.aload_n 0, 0, 0, 0, 0, [], []), some (.getfield 17, 1, 1, 1, 0, [], [1061]), none, none, some (.iload 6, 6, 0, 0, 0, [], []), none, some (.iload 8, 8, 0, 0, 0, [], []), none, some (.ifCond .lt 8, 82, 0, 0, 0, [], []), none, none, some (.iload 8, 8, 0, 0, 0, [], []), none, some (.goto 26, 105, 0, 0, 0, [], [])],
  [none, none, some (.iload 8, 8, 0, 0, 0, [], []), none, some (.iconst (-1), 0, 0, 0, (-1), [], []), some (.if_icmp .ne 7, 92, 0, 0, 0, [], []), none, none, some (.iload_n 2, 2, 0, 0, 0, [], []), some (.goto 16, 105, 0, 0, 0, [], []), none, none, some (.iload 8, 8, 0, 0, 0, [], []), none, some (.bipush (-2), 0, 0, 0, (-2), [], []), none],
  [some (.if_icmp .ne 7, 103, 0, 0, 0, [], []), none, none, some (.iload_n 3, 3, 0, 0, 0, [], []), some (.goto 5, 105, 0, 0, 0, [], []), none, none, some (.iload 4, 4, 0, 0, 0, [], []), none, some (.iastore, 0, 0, 0, 0, [], []), some (.iinc 6 1, 6, 0, 0, 1, [], []), none, none, some (.goto 87, 196, 0, 0, 0, [], []), none, none],
  [some (.iload 8, 8, 0, 0, 0, [], []), none, some (.bipush (-33), 0, 0, 0, (-33), [], []), none, some (.if_icmp .ne 38, 154, 0, 0, 0, [], []), none, none, some (.iload 6, 6, 0, 0, 0, [], []), none, some (.iconst 1, 0, 0, 0, 1, [], []), some (.if_icmp .lt 74, 196, 0, 0, 0, [], []), none, none, some (.aload_n 0, 0, 0, 0, 0, [], []), some (.getfield 17, 1, 1, 1, 0, [], [1061]), none],
  [none, some (.iload 6, 6, 0, 0, 0, [], []), none, some (.iconst 1, 0, 0, 0, 1, [], []), some (.isub, 0, 0, 0, 0, [], []), some (.aload_n 0, 0, 0, 0, 0, [], []), some (.getfield 17, 1, 1, 1, 0, [], [1061]), none, none, some (.iload 6, 6, 0, 0, 0, [], []), none, some (.iconst 1, 0, 0, 0, 1, [], []), some (.isub, 0, 0, 0, 0, [], []), some (.iaload, 20, 0, 0, 0, [], []), some (.ifCond .ne 7, 149, 0, 0, 0, [], []), none],
  [none, some (.iconst 1, 0, 0, 0, 1, [], []), some (.goto 4, 150, 0, 0, 0, [], []), none, none, some (.iconst 0, 0, 0, 0, 0, [], []), some (.iastore, 0, 0, 0, 0, [], []), some (.goto 45, 196, 0, 0, 0, [], []), none, none, some (.iload 6, 6, 0, 0, 0, [], []), none, some (.iconst 2, 0, 0, 0, 2, [], []), some (.if_icmp .lt 39, 196, 0, 0, 0, [], []), none, none],
  [some (.aload_n 0, 0, 0, 0, 0, [], []), some (.getfield 17, 1, 1, 1, 0, [], [1061]), none, none, some (.iload 6, 6, 0, 0, 0, [], []), none, some (.iconst 2, 0, 0, 0, 2, [], []), some (.isub, 0, 0, 0, 0, [], []), some (.aload_n 0, 0, 0, 0, 0, [], []), some (.getfield 17, 1, 1, 1, 0, [], [1061]), none, none, some (.iload 6, 6, 0, 0, 0, [], []), none, some (.iconst 2, 0, 0, 0, 2, [], []), some (.isub, 0, 0, 0, 0, [], [])],
  [some (.iaload, 20, 0, 0, 0, [], []), some (.iload 8, 8, 0, 0, 0, [], []), none, some (.ineg, 0, 0, 0, 0, [], []), some (.aload_n 0, 0, 0, 0, 0, [], []), some (.getfield 17, 1, 1, 1, 0, [], [1061]), none, none, some (.iload 6, 6, 0, 0, 0, [], []), none, some (.iconst 1, 0, 0, 0, 1, [], []), some (.isub, 0, 0, 0, 0, [], []), some (.iaload, 20, 0, 0, 0, [], []), some (.invokestatic 33, 12, 25, 0, 0, [], [2094, 0]), none, none],
  [some (.iastore, 0, 0, 0, 0, [], []), some (.iinc 6 (-1), 6, 0, 0, (-1), [], []), none, none, some (.iinc 7 1, 7, 0, 0, 1, [], []), none, none, some (.goto (-174), 25, 0, 0, 0, [], []), none, none, some (.aload_n 0, 0, 0, 0, 0, [], []), some (.getfield 17, 1, 1, 1, 0, [], [1061]), none, none, some (.iconst 0, 0, 0, 0, 0, [], []), some (.iaload, 20, 0, 0, 0, [], [])],
  [some (.ireturn, 0, 0, 0, 0, [], []), none, none, none, none, none, none, none, none, none, none, none, none, none, none, none]]
/-- X1_gives -/
def qm_11 : qs_E := (RX1, yX1_gives, cX1_gives, 9, some .int, 1, 4, 1, qc_11, [2092, 2090, 1002, 2091])
def qc_12 : List (List (Option qs_Row)) := [[some (.iload_n 1, 1, 0, 0, 0, [], []), some (.lookupswitch 148 #[(38, 89), (42, 144), (43, 136), (45, 140), (60, 103), (61, 114), (62, 125), (124, 75)], 149, 75, 0, 0, [(38, 90), (42, 145), (43, 137), (45, 141), (60, 104), (61, 115), (62, 126), (124, 76)], []), none, none, none, none, none, none, none, none, none, none, none, none, none, none],
  [none, none, none, none, none, none, none, none, none, none, none, none, none, none, none, none],
  [none, none, none, none, none, none, none, none, none, none, none, none, none, none, none, none],
  [none, none, none, none, none, none, none, none, none, none, none, none, none, none, none, none],
  [none, none, none, none, none, none, none, none, none, none, none, none, some (.iload_n 0, 0, 0, 0, 0, [], []), some (.ifCond .ne 7, 84, 0, 0, 0, [], []), none, none],
  [some (.iload_n 2, 2, 0, 0, 0, [], []), some (.ifCond .eq 7, 88, 0, 0, 0, [], []), none, none, some (.iconst 1, 0, 0, 0, 1, [], []), some (.goto 4, 89, 0, 0, 0, [], []), none, none, some (.iconst 0, 0, 0, 0, 0, [], []), some (.ireturn, 0, 0, 0, 0, [], []), some (.iload_n 0, 0, 0, 0, 0, [], []), some (.ifCond .eq 11, 102, 0, 0, 0, [], []), none, none, some (.iload_n 2, 2, 0, 0, 0, [], []), some (.ifCond .eq 7, 102, 0, 0, 0, [], [])],
  [none, none, some (.iconst 1, 0, 0, 0, 1, [], []), some (.goto 4, 103, 0, 0, 0, [], []), none, none, some (.iconst 0, 0, 0, 0, 0, [], []), some (.ireturn, 0, 0, 0, 0, [], []), some (.iload_n 0, 0, 0, 0, 0, [], []), some (.iload_n 2, 2, 0, 0, 0, [], []), some (.if_icmp .ge 7, 113, 0, 0, 0, [], []), none, none, some (.iconst 1, 0, 0, 0, 1, [], []), some (.goto 4, 114, 0, 0, 0, [], []), none],
  [none, some (.iconst 0, 0, 0, 0, 0, [], []), some (.ireturn, 0, 0, 0, 0, [], []), some (.iload_n 0, 0, 0, 0, 0, [], []), some (.iload_n 2, 2, 0, 0, 0, [], []), some (.if_icmp .ne 7, 124, 0, 0, 0, [], []), none, none, some (.iconst 1, 0, 0, 0, 1, [], []), some (.goto 4, 125, 0, 0, 0, [], []), none, none, some (.iconst 0, 0, 0, 0, 0, [], []), some (.ireturn, 0, 0, 0, 0, [], []), some (.iload_n 0, 0, 0, 0, 0, [], []), some (.iload_n 2, 2, 0, 0, 0, [], [])],
  [some (.if_icmp .le 7, 135, 0, 0, 0, [], []), none, none, some (.iconst 1, 0, 0, 0, 1, [], []), some (.goto 4, 136, 0, 0, 0, [], []), none, none, some (.iconst 0, 0, 0, 0, 0, [], []), some (.ireturn, 0, 0, 0, 0, [], []), some (.iload_n 0, 0, 0, 0, 0, [], []), some (.iload_n 2, 2, 0, 0, 0, [], []), some (.iadd, 0, 0, 0, 0, [], []), some (.ireturn, 0, 0, 0, 0, [], []), some (.iload_n 0, 0, 0, 0, 0, [], []), some (.iload_n 2, 2, 0, 0, 0, [], []), some (.isub, 0, 0, 0, 0, [], [])],
  [some (.ireturn, 0, 0, 0, 0, [], []), some (.iload_n 0, 0, 0, 0, 0, [], []), some (.iload_n 2, 2, 0, 0, 0, [], []), some (.imul, 0, 0, 0, 0, [], []), some (.ireturn, 0, 0, 0, 0, [], []), some (.iload_n 2, 2, 0, 0, 0, [], []), some (.ifCond .ne 7, 157, 0, 0, 0, [], []), none, none, some (.iconst 0, 0, 0, 0, 0, [], []), some (.goto 6, 160, 0, 0, 0, [], []), none, none, some (.iload_n 0, 0, 0, 0, 0, [], []), some (.iload_n 2, 2, 0, 0, 0, [], []), some (.idiv, 0, 0, 0, 0, [], [])],
  [some (.ireturn, 0, 0, 0, 0, [], []), none, none, none, none, none, none, none, none, none, none, none, none, none, none, none]]
/-- X1_joined -/
def qm_12 : qs_E := (RX1, yX1_joined, cX1_joined, 3, some .int, 0, 3, 1, qc_12, [2096, 2095, 1002])
def qc_13 : List (List (Option qs_Row)) := [[some (.aload_n 0, 0, 0, 0, 0, [], []), some (.invokespecial 3, 1000, 0, 0, 0, [], [1104]), none, none, some (.aload_n 0, 0, 0, 0, 0, [], []), some (.bipush 8, 0, 0, 0, 8, [], []), none, some (.anewarray 9, 30, 0, 0, 0, [], [1105]), none, none, some (.putfield 11, 2, 1, 1, 0, [], [1149]), none, none, some (.aload_n 0, 0, 0, 0, 0, [], []), some (.iconst 3, 0, 0, 0, 3, [], []), some (.newarray .int, 20, 0, 0, 0, [], [])],
  [none, some (.putfield 17, 2, 2, 1, 0, [], [1151]), none, none, some (.aload_n 0, 0, 0, 0, 0, [], []), some (.bipush 20, 0, 0, 0, 20, [], []), none, some (.putfield 21, 2, 5, 0, 0, [], [1157]), none, none, some (.aload_n 0, 0, 0, 0, 0, [], []), some (.sipush 2000, 0, 0, 0, 2000, [], []), none, none, some (.putfield 25, 2, 6, 0, 0, [], [1159]), none],
  [none, some (.aload_n 0, 0, 0, 0, 0, [], []), some (.iconst 1, 0, 0, 0, 1, [], []), some (.putfield 28, 2, 13, 0, 0, [], [1173]), none, none, some (.aload_n 0, 0, 0, 0, 0, [], []), some (.aload_n 1, 1, 0, 0, 0, [], []), some (.putfield 31, 2, 0, 1, 0, [], [1148]), none, none, some (.iconst 0, 0, 0, 0, 0, [], []), some (.istore_n 2, 2, 0, 0, 0, [], []), some (.iload_n 2, 2, 0, 0, 0, [], []), some (.bipush 8, 0, 0, 0, 8, [], []), none],
  [some (.if_icmp .ge 22, 70, 0, 0, 0, [], []), none, none, some (.aload_n 0, 0, 0, 0, 0, [], []), some (.getfield 11, 2, 1, 1, 0, [], [1149]), none, none, some (.iload_n 2, 2, 0, 0, 0, [], []), some (.new 9, 0, 0, 0, 0, [], [1105]), none, none, some (.dup, 0, 0, 0, 0, [], []), some (.invokespecial 35, 0, 0, 0, 0, [], [1108, 0]), none, none, some (.aastore, 0, 0, 0, 0, [], [])],
  [some (.iinc 2 1, 2, 0, 0, 1, [], []), none, none, some (.goto (-22), 45, 0, 0, 0, [], []), none, none, some (.iconst 0, 0, 0, 0, 0, [], []), some (.istore_n 2, 2, 0, 0, 0, [], []), some (.iload_n 2, 2, 0, 0, 0, [], []), some (.iconst 3, 0, 0, 0, 3, [], []), some (.if_icmp .ge 16, 90, 0, 0, 0, [], []), none, none, some (.aload_n 0, 0, 0, 0, 0, [], []), some (.getfield 17, 2, 2, 1, 0, [], [1151]), none],
  [none, some (.iload_n 2, 2, 0, 0, 0, [], []), some (.iconst (-1), 0, 0, 0, (-1), [], []), some (.iastore, 0, 0, 0, 0, [], []), some (.iinc 2 1, 2, 0, 0, 1, [], []), none, none, some (.goto (-15), 72, 0, 0, 0, [], []), none, none, some (.return_, 0, 0, 0, 0, [], []), none, none, none, none, none]]
/-- X2_init -/
def qm_13 : qs_E := (RX2, yX2_init, cX2_init, 3, none, 2, 1, 0, qc_13, [1103, 1102, 1005])
def qc_14 : List (List (Option qs_Row)) := [[some (.aload_n 0, 0, 0, 0, 0, [], []), some (.aload_n 1, 1, 0, 0, 0, [], []), some (.getfield 36, 2, 3, 0, 0, [], [1153]), none, none, some (.putfield 36, 2, 3, 0, 0, [], [1153]), none, none, some (.aload_n 0, 0, 0, 0, 0, [], []), some (.aload_n 1, 1, 0, 0, 0, [], []), some (.getfield 39, 2, 4, 0, 0, [], [1155]), none, none, some (.putfield 39, 2, 4, 0, 0, [], [1155]), none, none],
  [some (.aload_n 0, 0, 0, 0, 0, [], []), some (.aload_n 1, 1, 0, 0, 0, [], []), some (.getfield 21, 2, 5, 0, 0, [], [1157]), none, none, some (.putfield 21, 2, 5, 0, 0, [], [1157]), none, none, some (.aload_n 0, 0, 0, 0, 0, [], []), some (.aload_n 1, 1, 0, 0, 0, [], []), some (.getfield 25, 2, 6, 0, 0, [], [1159]), none, none, some (.putfield 25, 2, 6, 0, 0, [], [1159]), none, none],
  [some (.aload_n 0, 0, 0, 0, 0, [], []), some (.aload_n 1, 1, 0, 0, 0, [], []), some (.getfield 42, 2, 7, 0, 0, [], [1161]), none, none, some (.putfield 42, 2, 7, 0, 0, [], [1161]), none, none, some (.aload_n 0, 0, 0, 0, 0, [], []), some (.aload_n 1, 1, 0, 0, 0, [], []), some (.getfield 45, 2, 8, 0, 0, [], [1163]), none, none, some (.putfield 45, 2, 8, 0, 0, [], [1163]), none, none],
  [some (.aload_n 0, 0, 0, 0, 0, [], []), some (.aload_n 1, 1, 0, 0, 0, [], []), some (.getfield 48, 2, 9, 0, 0, [], [1165]), none, none, some (.putfield 48, 2, 9, 0, 0, [], [1165]), none, none, some (.aload_n 0, 0, 0, 0, 0, [], []), some (.aload_n 1, 1, 0, 0, 0, [], []), some (.getfield 51, 2, 10, 0, 0, [], [1167]), none, none, some (.putfield 51, 2, 10, 0, 0, [], [1167]), none, none],
  [some (.aload_n 0, 0, 0, 0, 0, [], []), some (.aload_n 1, 1, 0, 0, 0, [], []), some (.getfield 54, 2, 11, 0, 0, [], [1169]), none, none, some (.putfield 54, 2, 11, 0, 0, [], [1169]), none, none, some (.aload_n 0, 0, 0, 0, 0, [], []), some (.aload_n 1, 1, 0, 0, 0, [], []), some (.getfield 57, 2, 12, 0, 0, [], [1171]), none, none, some (.putfield 57, 2, 12, 0, 0, [], [1171]), none, none],
  [some (.aload_n 0, 0, 0, 0, 0, [], []), some (.aload_n 1, 1, 0, 0, 0, [], []), some (.getfield 28, 2, 13, 0, 0, [], [1173]), none, none, some (.putfield 28, 2, 13, 0, 0, [], [1173]), none, none, some (.aload_n 0, 0, 0, 0, 0, [], []), some (.aload_n 1, 1, 0, 0, 0, [], []), some (.getfield 60, 2, 14, 0, 0, [], [1175]), none, none, some (.putfield 60, 2, 14, 0, 0, [], [1175]), none, none],
  [some (.iconst 0, 0, 0, 0, 0, [], []), some (.istore_n 2, 2, 0, 0, 0, [], []), some (.iload_n 2, 2, 0, 0, 0, [], []), some (.aload_n 0, 0, 0, 0, 0, [], []), some (.getfield 36, 2, 3, 0, 0, [], [1153]), none, none, some (.if_icmp .ge 24, 127, 0, 0, 0, [], []), none, none, some (.aload_n 0, 0, 0, 0, 0, [], []), some (.getfield 11, 2, 1, 1, 0, [], [1149]), none, none, some (.iload_n 2, 2, 0, 0, 0, [], []), some (.aaload, 0, 0, 0, 0, [], [])],
  [some (.aload_n 1, 1, 0, 0, 0, [], []), some (.getfield 11, 2, 1, 1, 0, [], [1149]), none, none, some (.iload_n 2, 2, 0, 0, 0, [], []), some (.aaload, 0, 0, 0, 0, [], []), some (.invokevirtual 63, 2, 8, 0, 0, [], [3004, 0]), none, none, some (.iinc 2 1, 2, 0, 0, 1, [], []), none, none, some (.goto (-26), 98, 0, 0, 0, [], []), none, none, some (.iconst 0, 0, 0, 0, 0, [], [])],
  [some (.istore_n 2, 2, 0, 0, 0, [], []), some (.iload_n 2, 2, 0, 0, 0, [], []), some (.iconst 3, 0, 0, 0, 3, [], []), some (.if_icmp .ge 21, 152, 0, 0, 0, [], []), none, none, some (.aload_n 0, 0, 0, 0, 0, [], []), some (.getfield 17, 2, 2, 1, 0, [], [1151]), none, none, some (.iload_n 2, 2, 0, 0, 0, [], []), some (.aload_n 1, 1, 0, 0, 0, [], []), some (.getfield 17, 2, 2, 1, 0, [], [1151]), none, none, some (.iload_n 2, 2, 0, 0, 0, [], [])],
  [some (.iaload, 20, 0, 0, 0, [], []), some (.iastore, 0, 0, 0, 0, [], []), some (.iinc 2 1, 2, 0, 0, 1, [], []), none, none, some (.goto (-20), 129, 0, 0, 0, [], []), none, none, some (.return_, 0, 0, 0, 0, [], []), none, none, none, none, none, none, none]]
/-- X2_takeFrom -/
def qm_14 : qs_E := (RX2, yX2_takeFrom, cX2_takeFrom, 3, none, 1, 1, 0, qc_14, [3003, 3001, 1005, 3002])
def qc_15 : List (List (Option qs_Row)) := [[some (.iload_n 1, 1, 0, 0, 0, [], []), some (.ifCond .lt 15, 16, 0, 0, 0, [], []), none, none, some (.iload_n 1, 1, 0, 0, 0, [], []), some (.aload_n 0, 0, 0, 0, 0, [], []), some (.getfield 36, 2, 3, 0, 0, [], [1153]), none, none, some (.if_icmp .ge 7, 16, 0, 0, 0, [], []), none, none, some (.iconst 1, 0, 0, 0, 1, [], []), some (.goto 4, 17, 0, 0, 0, [], []), none, none],
  [some (.iconst 0, 0, 0, 0, 0, [], []), some (.ireturn, 0, 0, 0, 0, [], []), none, none, none, none, none, none, none, none, none, none, none, none, none, none]]
/-- X2_has -/
def qm_15 : qs_E := (RX2, yX2_has, cX2_has, 2, some .boolean, 1, 1, 2, qc_15, [2073, 2071, 1005, 2072])
def qc_16 : List (List (Option qs_Row)) := [[some (.aload_n 0, 0, 0, 0, 0, [], []), some (.getfield 36, 2, 3, 0, 0, [], [1153]), none, none, some (.istore 5, 5, 0, 0, 0, [], []), none, some (.iload 5, 5, 0, 0, 0, [], []), none, some (.bipush 8, 0, 0, 0, 8, [], []), none, some (.if_icmp .lt 6, 16, 0, 0, 0, [], []), none, none, some (.ldc 67, 0, 0, 0, (-1000000003), [], [2061]), none, some (.ireturn, 0, 0, 0, 0, [], [])],
  [some (.aload_n 0, 0, 0, 0, 0, [], []), some (.getfield 11, 2, 1, 1, 0, [], [1149]), none, none, some (.iload 5, 5, 0, 0, 0, [], []), none, some (.aaload, 0, 0, 0, 0, [], []), some (.iload_n 1, 1, 0, 0, 0, [], []), some (.iload_n 2, 2, 0, 0, 0, [], []), some (.iload_n 3, 3, 0, 0, 0, [], []), some (.iload 4, 4, 0, 0, 0, [], []), none, some (.invokevirtual 68, 1, 32, 0, 0, [], [2062, 0]), none, none, some (.aload_n 0, 0, 0, 0, 0, [], [])],
  [some (.iload 5, 5, 0, 0, 0, [], []), none, some (.iconst 1, 0, 0, 0, 1, [], []), some (.iadd, 0, 0, 0, 0, [], []), some (.putfield 36, 2, 3, 0, 0, [], [1153]), none, none, some (.iload 5, 5, 0, 0, 0, [], []), none, some (.ireturn, 0, 0, 0, 0, [], []), none, none, none, none, none, none]]
/-- X2_add -/
def qm_16 : qs_E := (RX2, yX2_add, cX2_add, 6, some .int, 1, 4, 1, qc_16, [2060, 2058, 1005, 2059])
def qc_17 : List (List (Option qs_Row)) := [[some (.aload_n 0, 0, 0, 0, 0, [], []), some (.aload_n 0, 0, 0, 0, 0, [], []), some (.getfield 28, 2, 13, 0, 0, [], [1173]), none, none, some (.ldc 72, 0, 0, 0, 1103515245, [], [2168]), none, some (.imul, 0, 0, 0, 0, [], []), some (.sipush 12345, 0, 0, 0, 12345, [], []), none, none, some (.iadd, 0, 0, 0, 0, [], []), some (.putfield 28, 2, 13, 0, 0, [], [1173]), none, none, some (.aload_n 0, 0, 0, 0, 0, [], [])],
  [some (.getfield 28, 2, 13, 0, 0, [], [1173]), none, none, some (.bipush 8, 0, 0, 0, 8, [], []), none, some (.iushr, 0, 0, 0, 0, [], []), some (.ireturn, 0, 0, 0, 0, [], []), none, none, none, none, none, none, none, none, none]]
/-- X2_draw -/
def qm_17 : qs_E := (RX2, yX2_draw, cX2_draw, 1, some .int, 1, 0, 1, qc_17, [2167, 2165, 1005, 2166])
def qc_18 : List (List (Option qs_Row)) := [[some (.aload_n 1, 1, 0, 0, 0, [], []), some (.iconst 1, 0, 0, 0, 1, [], []), some (.invokevirtual 73, 5, 8, 0, 0, [], [2162, 0]), none, none, some (.aload_n 1, 1, 0, 0, 0, [], []), some (.getfield 77, 0, 1, 0, 0, [], [1117]), none, none, some (.aload_n 1, 1, 0, 0, 0, [], []), some (.invokevirtual 80, 8, 1, 0, 0, [], [2163, 0]), none, none, some (.isub, 0, 0, 0, 0, [], []), some (.istore_n 2, 2, 0, 0, 0, [], []), some (.iload_n 2, 2, 0, 0, 0, [], [])],
  [some (.ifCond .le 32, 48, 0, 0, 0, [], []), none, none, some (.aload_n 0, 0, 0, 0, 0, [], []), some (.invokevirtual 84, 17, 1, 2, 0, [], [2164, 0]), none, none, some (.bipush 100, 0, 0, 0, 100, [], []), none, some (.irem, 0, 0, 0, 0, [], []), some (.bipush 10, 0, 0, 0, 10, [], []), none, some (.iload_n 2, 2, 0, 0, 0, [], []), some (.imul, 0, 0, 0, 0, [], []), some (.if_icmp .ge 18, 48, 0, 0, 0, [], []), none],
  [none, some (.aload_n 1, 1, 0, 0, 0, [], []), some (.iconst 5, 0, 0, 0, 5, [], []), some (.putfield 87, 0, 0, 0, 0, [], [1114]), none, none, some (.aload_n 0, 0, 0, 0, 0, [], []), some (.dup, 0, 0, 0, 0, [], []), some (.getfield 51, 2, 10, 0, 0, [], [1167]), none, none, some (.iconst 1, 0, 0, 0, 1, [], []), some (.iadd, 0, 0, 0, 0, [], []), some (.putfield 51, 2, 10, 0, 0, [], [1167]), none, none],
  [some (.return_, 0, 0, 0, 0, [], []), none, none, none, none, none, none, none, none, none, none, none, none, none, none, none]]
/-- X2_quarterMore -/
def qm_18 : qs_E := (RX2, yX2_quarterMore, cX2_quarterMore, 3, none, 1, 1, 0, qc_18, [2161, 2159, 1005, 2160])
def qc_19 : List (List (Option qs_Row)) := [[some (.aload_n 1, 1, 0, 0, 0, [], []), some (.getfield 87, 0, 0, 0, 0, [], [1114]), none, none, some (.iconst 5, 0, 0, 0, 5, [], []), some (.if_icmp .ne 6, 11, 0, 0, 0, [], []), none, none, some (.bipush 60, 0, 0, 0, 60, [], []), none, some (.ireturn, 0, 0, 0, 0, [], []), some (.aload_n 1, 1, 0, 0, 0, [], []), some (.aload_n 0, 0, 0, 0, 0, [], []), some (.getfield 39, 2, 4, 0, 0, [], [1155]), none, none],
  [some (.invokevirtual 90, 7, 9, 0, 0, [], [2085, 0]), none, none, some (.istore_n 2, 2, 0, 0, 0, [], []), some (.aload_n 0, 0, 0, 0, 0, [], []), some (.getfield 17, 2, 2, 1, 0, [], [1151]), none, none, some (.iconst 0, 0, 0, 0, 0, [], []), some (.iaload, 20, 0, 0, 0, [], []), some (.istore_n 3, 3, 0, 0, 0, [], []), some (.iload_n 3, 3, 0, 0, 0, [], []), some (.ifCond .ge 13, 41, 0, 0, 0, [], []), none, none, some (.iload_n 2, 2, 0, 0, 0, [], [])],
  [some (.bipush 10, 0, 0, 0, 10, [], []), none, some (.isub, 0, 0, 0, 0, [], []), some (.invokestatic 94, 1004, 0, 0, 0, [], [2086]), none, none, some (.goto 20, 58, 0, 0, 0, [], []), none, none, some (.aload_n 0, 0, 0, 0, 0, [], []), some (.getfield 31, 2, 0, 1, 0, [], [1148]), none, none, some (.iload_n 3, 3, 0, 0, 0, [], []), some (.iload_n 2, 2, 0, 0, 0, [], []), some (.aload_n 1, 1, 0, 0, 0, [], [])],
  [some (.getfield 99, 0, 2, 0, 0, [], [1119]), none, none, some (.aload_n 1, 1, 0, 0, 0, [], []), some (.getfield 102, 0, 5, 0, 0, [], [1125]), none, none, some (.invokevirtual 105, 11, 33, 1, 0, [], [2089, 0]), none, none, some (.istore 4, 4, 0, 0, 0, [], []), none, some (.iload 4, 4, 0, 0, 0, [], []), none, some (.bipush 99, 0, 0, 0, 99, [], []), none],
  [some (.invokestatic 111, 98, 17, 0, 0, [], [2097, 1]), none, none, some (.istore 5, 5, 0, 0, 0, [], []), none, some (.aload_n 1, 1, 0, 0, 0, [], []), some (.getfield 87, 0, 0, 0, 0, [], [1114]), none, none, some (.iconst 1, 0, 0, 0, 1, [], []), some (.invokestatic 115, 104, 18, 0, 0, [], [2100, 1]), none, none, some (.ifCond .eq 14, 91, 0, 0, 0, [], []), none, none],
  [some (.iload 5, 5, 0, 0, 0, [], []), none, some (.aload_n 1, 1, 0, 0, 0, [], []), some (.getfield 99, 0, 2, 0, 0, [], [1119]), none, none, some (.iconst 5, 0, 0, 0, 5, [], []), some (.idiv, 0, 0, 0, 0, [], []), some (.iadd, 0, 0, 0, 0, [], []), some (.istore 5, 5, 0, 0, 0, [], []), none, some (.aload_n 1, 1, 0, 0, 0, [], []), some (.getfield 87, 0, 0, 0, 0, [], [1114]), none, none, some (.iconst 3, 0, 0, 0, 3, [], [])],
  [some (.if_icmp .ne 18, 114, 0, 0, 0, [], []), none, none, some (.iload 5, 5, 0, 0, 0, [], []), none, some (.iconst 2, 0, 0, 0, 2, [], []), some (.iconst 0, 0, 0, 0, 0, [], []), some (.iload_n 2, 2, 0, 0, 0, [], []), some (.bipush 12, 0, 0, 0, 12, [], []), none, some (.isub, 0, 0, 0, 0, [], []), some (.invokestatic 119, 1002, 0, 0, 0, [], [2105]), none, none, some (.imul, 0, 0, 0, 0, [], []), some (.iadd, 0, 0, 0, 0, [], [])],
  [some (.istore 5, 5, 0, 0, 0, [], []), none, some (.aload_n 1, 1, 0, 0, 0, [], []), some (.getfield 87, 0, 0, 0, 0, [], [1114]), none, none, some (.iconst 2, 0, 0, 0, 2, [], []), some (.invokestatic 115, 104, 18, 0, 0, [], [2100, 1]), none, none, some (.ifCond .eq 12, 134, 0, 0, 0, [], []), none, none, some (.iload 5, 5, 0, 0, 0, [], []), none, some (.aload_n 1, 1, 0, 0, 0, [], [])],
  [some (.getfield 122, 0, 4, 0, 0, [], [1123]), none, none, some (.iadd, 0, 0, 0, 0, [], []), some (.istore 5, 5, 0, 0, 0, [], []), none, some (.aload_n 1, 1, 0, 0, 0, [], []), some (.getfield 87, 0, 0, 0, 0, [], [1114]), none, none, some (.iconst 4, 0, 0, 0, 4, [], []), some (.if_icmp .ne 12, 151, 0, 0, 0, [], []), none, none, some (.iload 5, 5, 0, 0, 0, [], []), none],
  [some (.aload_n 1, 1, 0, 0, 0, [], []), some (.getfield 125, 0, 3, 0, 0, [], [1121]), none, none, some (.iadd, 0, 0, 0, 0, [], []), some (.istore 5, 5, 0, 0, 0, [], []), none, some (.iconst 0, 0, 0, 0, 0, [], []), some (.iload 5, 5, 0, 0, 0, [], []), none, some (.aload_n 1, 1, 0, 0, 0, [], []), some (.getfield 128, 0, 7, 0, 0, [], [1130]), none, none, some (.isub, 0, 0, 0, 0, [], []), some (.invokestatic 119, 1002, 0, 0, 0, [], [2105])],
  [none, none, some (.ireturn, 0, 0, 0, 0, [], []), none, none, none, none, none, none, none, none, none, none, none, none, none]]
/-- X2_leaks -/
def qm_19 : qs_E := (RX2, yX2_leaks, cX2_leaks, 6, some .int, 1, 1, 1, qc_19, [2084, 2082, 1005, 2083])
def qc_20 : List (List (Option qs_Row)) := [[some (.iconst 0, 0, 0, 0, 0, [], []), some (.istore_n 1, 1, 0, 0, 0, [], []), some (.iconst 0, 0, 0, 0, 0, [], []), some (.istore_n 2, 2, 0, 0, 0, [], []), some (.iload_n 2, 2, 0, 0, 0, [], []), some (.aload_n 0, 0, 0, 0, 0, [], []), some (.getfield 36, 2, 3, 0, 0, [], [1153]), none, none, some (.if_icmp .ge 22, 31, 0, 0, 0, [], []), none, none, some (.iload_n 1, 1, 0, 0, 0, [], []), some (.aload_n 0, 0, 0, 0, 0, [], []), some (.aload_n 0, 0, 0, 0, 0, [], []), some (.getfield 11, 2, 1, 1, 0, [], [1149])],
  [none, none, some (.iload_n 2, 2, 0, 0, 0, [], []), some (.aaload, 0, 0, 0, 0, [], []), some (.invokevirtual 131, 19, 9, 2, 0, [], [2205, 0]), none, none, some (.iadd, 0, 0, 0, 0, [], []), some (.istore_n 1, 1, 0, 0, 0, [], []), some (.iinc 2 1, 2, 0, 0, 1, [], []), none, none, some (.goto (-24), 4, 0, 0, 0, [], []), none, none, some (.iload_n 1, 1, 0, 0, 0, [], [])],
  [some (.ireturn, 0, 0, 0, 0, [], []), none, none, none, none, none, none, none, none, none, none, none, none, none, none, none]]
/-- X2_leaksOfAll -/
def qm_20 : qs_E := (RX2, yX2_leaksOfAll, cX2_leaksOfAll, 3, some .int, 1, 0, 1, qc_20, [2218, 2216, 1005, 2217])
def qc_21 : List (List (Option qs_Row)) := [[some (.iconst 0, 0, 0, 0, 0, [], []), some (.istore_n 1, 1, 0, 0, 0, [], []), some (.iconst 0, 0, 0, 0, 0, [], []), some (.istore_n 2, 2, 0, 0, 0, [], []), some (.iload_n 2, 2, 0, 0, 0, [], []), some (.aload_n 0, 0, 0, 0, 0, [], []), some (.getfield 36, 2, 3, 0, 0, [], [1153]), none, none, some (.if_icmp .ge 21, 30, 0, 0, 0, [], []), none, none, some (.iload_n 1, 1, 0, 0, 0, [], []), some (.aload_n 0, 0, 0, 0, 0, [], []), some (.getfield 11, 2, 1, 1, 0, [], [1149]), none],
  [none, some (.iload_n 2, 2, 0, 0, 0, [], []), some (.aaload, 0, 0, 0, 0, [], []), some (.getfield 77, 0, 1, 0, 0, [], [1117]), none, none, some (.iadd, 0, 0, 0, 0, [], []), some (.istore_n 1, 1, 0, 0, 0, [], []), some (.iinc 2 1, 2, 0, 0, 1, [], []), none, none, some (.goto (-23), 4, 0, 0, 0, [], []), none, none, some (.iload_n 1, 1, 0, 0, 0, [], []), some (.ireturn, 0, 0, 0, 0, [], [])]]
/-- X2_tightOfAll -/
def qm_21 : qs_E := (RX2, yX2_tightOfAll, cX2_tightOfAll, 3, some .int, 1, 0, 1, qc_21, [2226, 2224, 1005, 2225])
def qc_22 : List (List (Option qs_Row)) := [[some (.iconst 0, 0, 0, 0, 0, [], []), some (.istore_n 1, 1, 0, 0, 0, [], []), some (.iconst 0, 0, 0, 0, 0, [], []), some (.istore_n 2, 2, 0, 0, 0, [], []), some (.iload_n 2, 2, 0, 0, 0, [], []), some (.aload_n 0, 0, 0, 0, 0, [], []), some (.getfield 36, 2, 3, 0, 0, [], [1153]), none, none, some (.if_icmp .ge 28, 37, 0, 0, 0, [], []), none, none, some (.aload_n 0, 0, 0, 0, 0, [], []), some (.getfield 11, 2, 1, 1, 0, [], [1149]), none, none],
  [some (.iload_n 2, 2, 0, 0, 0, [], []), some (.aaload, 0, 0, 0, 0, [], []), some (.getfield 87, 0, 0, 0, 0, [], [1114]), none, none, some (.iconst 5, 0, 0, 0, 5, [], []), some (.if_icmp .ne 9, 31, 0, 0, 0, [], []), none, none, some (.iload_n 1, 1, 0, 0, 0, [], []), some (.iconst 1, 0, 0, 0, 1, [], []), some (.iload_n 2, 2, 0, 0, 0, [], []), some (.ishl, 0, 0, 0, 0, [], []), some (.ior, 0, 0, 0, 0, [], []), some (.istore_n 1, 1, 0, 0, 0, [], []), some (.iinc 2 1, 2, 0, 0, 1, [], [])],
  [none, none, some (.goto (-30), 4, 0, 0, 0, [], []), none, none, some (.iload_n 1, 1, 0, 0, 0, [], []), some (.ireturn, 0, 0, 0, 0, [], []), none, none, none, none, none, none, none, none, none]]
/-- X2_crackedOnes -/
def qm_22 : qs_E := (RX2, yX2_crackedOnes, cX2_crackedOnes, 3, some .int, 1, 0, 1, qc_22, [2222, 2220, 1005, 2221])
def qc_23 : List (List (Option qs_Row)) := [[some (.iload_n 1, 1, 0, 0, 0, [], []), some (.istore_n 2, 2, 0, 0, 0, [], []), some (.iconst 0, 0, 0, 0, 0, [], []), some (.istore_n 3, 3, 0, 0, 0, [], []), some (.iload_n 3, 3, 0, 0, 0, [], []), some (.aload_n 0, 0, 0, 0, 0, [], []), some (.getfield 36, 2, 3, 0, 0, [], [1153]), none, none, some (.if_icmp .ge 15, 24, 0, 0, 0, [], []), none, none, some (.aload_n 0, 0, 0, 0, 0, [], []), some (.iload_n 2, 2, 0, 0, 0, [], []), some (.invokevirtual 135, 24, 9, 2, 0, [], [2115, 0]), none],
  [none, some (.istore_n 2, 2, 0, 0, 0, [], []), some (.iinc 3 1, 3, 0, 0, 1, [], []), none, none, some (.goto (-17), 4, 0, 0, 0, [], []), none, none, some (.iload_n 2, 2, 0, 0, 0, [], []), some (.ireturn, 0, 0, 0, 0, [], []), none, none, none, none, none, none]]
/-- X2_hangsAt -/
def qm_23 : qs_E := (RX2, yX2_hangsAt, cX2_hangsAt, 4, some .int, 1, 1, 1, qc_23, [2114, 2112, 1005, 2113])
def qc_24 : List (List (Option qs_Row)) := [[some (.iload_n 1, 1, 0, 0, 0, [], []), some (.istore_n 2, 2, 0, 0, 0, [], []), some (.aload_n 0, 0, 0, 0, 0, [], []), some (.iload_n 1, 1, 0, 0, 0, [], []), some (.iconst 1, 0, 0, 0, 1, [], []), some (.isub, 0, 0, 0, 0, [], []), some (.invokevirtual 138, 15, 10, 2, 0, [], [2119, 0]), none, none, some (.ifCond .eq 30, 39, 0, 0, 0, [], []), none, none, some (.aload_n 0, 0, 0, 0, 0, [], []), some (.getfield 11, 2, 1, 1, 0, [], [1149]), none, none],
  [some (.iload_n 1, 1, 0, 0, 0, [], []), some (.iconst 1, 0, 0, 0, 1, [], []), some (.isub, 0, 0, 0, 0, [], []), some (.aaload, 0, 0, 0, 0, [], []), some (.getfield 142, 0, 6, 0, 0, [], [1127]), none, none, some (.aload_n 0, 0, 0, 0, 0, [], []), some (.getfield 11, 2, 1, 1, 0, [], [1149]), none, none, some (.iload_n 2, 2, 0, 0, 0, [], []), some (.aaload, 0, 0, 0, 0, [], []), some (.getfield 142, 0, 6, 0, 0, [], [1127]), none, none],
  [some (.if_icmp .ge 7, 39, 0, 0, 0, [], []), none, none, some (.iload_n 1, 1, 0, 0, 0, [], []), some (.iconst 1, 0, 0, 0, 1, [], []), some (.isub, 0, 0, 0, 0, [], []), some (.istore_n 2, 2, 0, 0, 0, [], []), some (.aload_n 0, 0, 0, 0, 0, [], []), some (.iload_n 1, 1, 0, 0, 0, [], []), some (.iconst 1, 0, 0, 0, 1, [], []), some (.iadd, 0, 0, 0, 0, [], []), some (.invokevirtual 138, 15, 10, 2, 0, [], [2119, 0]), none, none, some (.ifCond .eq 30, 76, 0, 0, 0, [], []), none],
  [none, some (.aload_n 0, 0, 0, 0, 0, [], []), some (.getfield 11, 2, 1, 1, 0, [], [1149]), none, none, some (.iload_n 1, 1, 0, 0, 0, [], []), some (.iconst 1, 0, 0, 0, 1, [], []), some (.iadd, 0, 0, 0, 0, [], []), some (.aaload, 0, 0, 0, 0, [], []), some (.getfield 142, 0, 6, 0, 0, [], [1127]), none, none, some (.aload_n 0, 0, 0, 0, 0, [], []), some (.getfield 11, 2, 1, 1, 0, [], [1149]), none, none],
  [some (.iload_n 2, 2, 0, 0, 0, [], []), some (.aaload, 0, 0, 0, 0, [], []), some (.getfield 142, 0, 6, 0, 0, [], [1127]), none, none, some (.if_icmp .ge 7, 76, 0, 0, 0, [], []), none, none, some (.iload_n 1, 1, 0, 0, 0, [], []), some (.iconst 1, 0, 0, 0, 1, [], []), some (.iadd, 0, 0, 0, 0, [], []), some (.istore_n 2, 2, 0, 0, 0, [], []), some (.iload_n 2, 2, 0, 0, 0, [], []), some (.ireturn, 0, 0, 0, 0, [], []), none, none]]
/-- X2_lowerBeside -/
def qm_24 : qs_E := (RX2, yX2_lowerBeside, cX2_lowerBeside, 3, some .int, 1, 1, 1, qc_24, [2118, 2117, 1005, 0])
def qc_25 : List (List (Option qs_Row)) := [[some (.iconst 0, 0, 0, 0, 0, [], []), some (.istore_n 2, 2, 0, 0, 0, [], []), some (.iload_n 2, 2, 0, 0, 0, [], []), some (.iload_n 1, 1, 0, 0, 0, [], []), some (.if_icmp .ge 13, 17, 0, 0, 0, [], []), none, none, some (.aload_n 0, 0, 0, 0, 0, [], []), some (.invokevirtual 145, 26, 0, 2, 0, [], [2197, 0]), none, none, some (.iinc 2 1, 2, 0, 0, 1, [], []), none, none, some (.goto (-12), 2, 0, 0, 0, [], []), none],
  [none, some (.return_, 0, 0, 0, 0, [], []), none, none, none, none, none, none, none, none, none, none, none, none, none, none]]
/-- X2_passHours -/
def qm_25 : qs_E := (RX2, yX2_passHours, cX2_passHours, 3, none, 1, 1, 0, qc_25, [2196, 2194, 1005, 2195])
def qc_26 : List (List (Option qs_Row)) := [[some (.iconst 0, 0, 0, 0, 0, [], []), some (.istore_n 1, 1, 0, 0, 0, [], []), some (.iload_n 1, 1, 0, 0, 0, [], []), some (.aload_n 0, 0, 0, 0, 0, [], []), some (.getfield 36, 2, 3, 0, 0, [], [1153]), none, none, some (.if_icmp .ge 19, 26, 0, 0, 0, [], []), none, none, some (.aload_n 0, 0, 0, 0, 0, [], []), some (.aload_n 0, 0, 0, 0, 0, [], []), some (.getfield 11, 2, 1, 1, 0, [], [1149]), none, none, some (.iload_n 1, 1, 0, 0, 0, [], [])],
  [some (.aaload, 0, 0, 0, 0, [], []), some (.invokevirtual 148, 27, 8, 2, 0, [], [2201, 0]), none, none, some (.iinc 1 1, 1, 0, 0, 1, [], []), none, none, some (.goto (-21), 2, 0, 0, 0, [], []), none, none, some (.aload_n 0, 0, 0, 0, 0, [], []), some (.invokevirtual 84, 17, 1, 2, 0, [], [2164, 0]), none, none, some (.bipush 100, 0, 0, 0, 100, [], []), none],
  [some (.irem, 0, 0, 0, 0, [], []), some (.aload_n 0, 0, 0, 0, 0, [], []), some (.getfield 21, 2, 5, 0, 0, [], [1157]), none, none, some (.if_icmp .ge 28, 65, 0, 0, 0, [], []), none, none, some (.aload_n 0, 0, 0, 0, 0, [], []), some (.getfield 36, 2, 3, 0, 0, [], [1153]), none, none, some (.ifCond .le 21, 65, 0, 0, 0, [], []), none, none, some (.aload_n 0, 0, 0, 0, 0, [], [])],
  [some (.aload_n 0, 0, 0, 0, 0, [], []), some (.getfield 11, 2, 1, 1, 0, [], [1149]), none, none, some (.aload_n 0, 0, 0, 0, 0, [], []), some (.invokevirtual 84, 17, 1, 2, 0, [], [2164, 0]), none, none, some (.aload_n 0, 0, 0, 0, 0, [], []), some (.getfield 36, 2, 3, 0, 0, [], [1153]), none, none, some (.irem, 0, 0, 0, 0, [], []), some (.aaload, 0, 0, 0, 0, [], []), some (.invokevirtual 151, 28, 8, 2, 0, [], [2207, 0]), none],
  [none, some (.aload_n 0, 0, 0, 0, 0, [], []), some (.getfield 57, 2, 12, 0, 0, [], [1171]), none, none, some (.bipush 6, 0, 0, 0, 6, [], []), none, some (.irem, 0, 0, 0, 0, [], []), some (.iconst 5, 0, 0, 0, 5, [], []), some (.if_icmp .ne 13, 86, 0, 0, 0, [], []), none, none, some (.aload_n 0, 0, 0, 0, 0, [], []), some (.iconst 1, 0, 0, 0, 1, [], []), some (.aload_n 0, 0, 0, 0, 0, [], []), some (.getfield 39, 2, 4, 0, 0, [], [1155])],
  [none, none, some (.isub, 0, 0, 0, 0, [], []), some (.putfield 39, 2, 4, 0, 0, [], [1155]), none, none, some (.aload_n 0, 0, 0, 0, 0, [], []), some (.dup, 0, 0, 0, 0, [], []), some (.getfield 57, 2, 12, 0, 0, [], [1171]), none, none, some (.iconst 1, 0, 0, 0, 1, [], []), some (.iadd, 0, 0, 0, 0, [], []), some (.putfield 57, 2, 12, 0, 0, [], [1171]), none, none],
  [some (.return_, 0, 0, 0, 0, [], []), none, none, none, none, none, none, none, none, none, none, none, none, none, none, none]]
/-- X2_passHour -/
def qm_26 : qs_E := (RX2, yX2_passHour, cX2_passHour, 2, none, 1, 0, 0, qc_26, [2200, 2198, 1005, 2199])
def qc_27 : List (List (Option qs_Row)) := [[some (.aload_n 0, 0, 0, 0, 0, [], []), some (.aload_n 1, 1, 0, 0, 0, [], []), some (.invokevirtual 131, 19, 9, 2, 0, [], [2205, 0]), none, none, some (.istore_n 2, 2, 0, 0, 0, [], []), some (.iload_n 2, 2, 0, 0, 0, [], []), some (.iconst 0, 0, 0, 0, 0, [], []), some (.aload_n 0, 0, 0, 0, 0, [], []), some (.getfield 25, 2, 6, 0, 0, [], [1159]), none, none, some (.aload_n 0, 0, 0, 0, 0, [], []), some (.getfield 45, 2, 8, 0, 0, [], [1163]), none, none],
  [some (.isub, 0, 0, 0, 0, [], []), some (.invokestatic 119, 1002, 0, 0, 0, [], [2105]), none, none, some (.invokestatic 154, 1003, 0, 0, 0, [], [2206]), none, none, some (.istore_n 3, 3, 0, 0, 0, [], []), some (.aload_n 0, 0, 0, 0, 0, [], []), some (.dup, 0, 0, 0, 0, [], []), some (.getfield 42, 2, 7, 0, 0, [], [1161]), none, none, some (.iload_n 2, 2, 0, 0, 0, [], []), some (.iadd, 0, 0, 0, 0, [], []), some (.putfield 42, 2, 7, 0, 0, [], [1161])],
  [none, none, some (.aload_n 0, 0, 0, 0, 0, [], []), some (.dup, 0, 0, 0, 0, [], []), some (.getfield 45, 2, 8, 0, 0, [], [1163]), none, none, some (.iload_n 3, 3, 0, 0, 0, [], []), some (.iadd, 0, 0, 0, 0, [], []), some (.putfield 45, 2, 8, 0, 0, [], [1163]), none, none, some (.aload_n 0, 0, 0, 0, 0, [], []), some (.dup, 0, 0, 0, 0, [], []), some (.getfield 48, 2, 9, 0, 0, [], [1165]), none],
  [none, some (.iload_n 2, 2, 0, 0, 0, [], []), some (.iload_n 3, 3, 0, 0, 0, [], []), some (.isub, 0, 0, 0, 0, [], []), some (.iadd, 0, 0, 0, 0, [], []), some (.putfield 48, 2, 9, 0, 0, [], [1165]), none, none, some (.iload_n 2, 2, 0, 0, 0, [], []), some (.iconst 1, 0, 0, 0, 1, [], []), some (.if_icmp .lt 23, 81, 0, 0, 0, [], []), none, none, some (.iload_n 2, 2, 0, 0, 0, [], []), some (.iconst 3, 0, 0, 0, 3, [], []), some (.if_icmp .gt 18, 81, 0, 0, 0, [], [])],
  [none, none, some (.aload_n 1, 1, 0, 0, 0, [], []), some (.bipush 9, 0, 0, 0, 9, [], []), none, some (.aload_n 1, 1, 0, 0, 0, [], []), some (.getfield 128, 0, 7, 0, 0, [], [1130]), none, none, some (.iconst 1, 0, 0, 0, 1, [], []), some (.iadd, 0, 0, 0, 0, [], []), some (.invokestatic 154, 1003, 0, 0, 0, [], [2206]), none, none, some (.putfield 128, 0, 7, 0, 0, [], [1130]), none],
  [none, some (.return_, 0, 0, 0, 0, [], []), none, none, none, none, none, none, none, none, none, none, none, none, none, none]]
/-- X2_letDrip -/
def qm_27 : qs_E := (RX2, yX2_letDrip, cX2_letDrip, 4, none, 1, 1, 0, qc_27, [2204, 2203, 1005, 1])
def qc_28 : List (List (Option qs_Row)) := [[some (.aload_n 1, 1, 0, 0, 0, [], []), some (.iconst (-1), 0, 0, 0, (-1), [], []), some (.invokevirtual 73, 5, 8, 0, 0, [], [2162, 0]), none, none, some (.aload_n 1, 1, 0, 0, 0, [], []), some (.iconst 0, 0, 0, 0, 0, [], []), some (.putfield 128, 0, 7, 0, 0, [], [1130]), none, none, some (.aload_n 0, 0, 0, 0, 0, [], []), some (.dup, 0, 0, 0, 0, [], []), some (.getfield 54, 2, 11, 0, 0, [], [1169]), none, none, some (.iconst 1, 0, 0, 0, 1, [], [])],
  [some (.iadd, 0, 0, 0, 0, [], []), some (.putfield 54, 2, 11, 0, 0, [], [1169]), none, none, some (.return_, 0, 0, 0, 0, [], []), none, none, none, none, none, none, none, none, none, none, none]]
/-- X2_shakeLoose -/
def qm_28 : qs_E := (RX2, yX2_shakeLoose, cX2_shakeLoose, 2, none, 1, 1, 0, qc_28, [2210, 2209, 1005, 2])
def qc_29 : List (List (Option qs_Row)) := [[some (.aload_n 0, 0, 0, 0, 0, [], []), some (.invokespecial 3, 1000, 0, 0, 0, [], [1072]), none, none, some (.aload_n 0, 0, 0, 0, 0, [], []), some (.bipush 96, 0, 0, 0, 96, [], []), none, some (.newarray .int, 20, 0, 0, 0, [], []), none, some (.putfield 9, 3, 0, 1, 0, [], [1075]), none, none, some (.aload_n 0, 0, 0, 0, 0, [], []), some (.new 15, 6, 0, 0, 0, [], [1073]), none, none],
  [some (.dup, 0, 0, 0, 0, [], []), some (.invokespecial 17, 49, 0, 6, 0, [], [1074, 0]), none, none, some (.putfield 18, 3, 1, 1, 0, [], [1076]), none, none, some (.return_, 0, 0, 0, 0, [], []), none, none, none, none, none, none, none, none]]
/-- X3_init -/
def qm_29 : qs_E := (RX3, yX3_init, cX3_init, 1, none, 2, 0, 0, qc_29, [1071, 1070, 1004])
def qc_30 : List (List (Option qs_Row)) := [[some (.bipush 24, 0, 0, 0, 24, [], []), none, some (.istore_n 2, 2, 0, 0, 0, [], []), some (.iload_n 2, 2, 0, 0, 0, [], []), some (.ifCond .lt 44, 48, 0, 0, 0, [], []), none, none, some (.aload_n 0, 0, 0, 0, 0, [], []), some (.getfield 22, 3, 2, 0, 0, [], [1078]), none, none, some (.bipush 96, 0, 0, 0, 96, [], []), none, some (.if_icmp .ge 35, 48, 0, 0, 0, [], []), none, none],
  [some (.aload_n 0, 0, 0, 0, 0, [], []), some (.getfield 9, 3, 0, 1, 0, [], [1075]), none, none, some (.aload_n 0, 0, 0, 0, 0, [], []), some (.getfield 22, 3, 2, 0, 0, [], [1078]), none, none, some (.iload_n 1, 1, 0, 0, 0, [], []), some (.iload_n 2, 2, 0, 0, 0, [], []), some (.iushr, 0, 0, 0, 0, [], []), some (.sipush 255, 0, 0, 0, 255, [], []), none, none, some (.iand, 0, 0, 0, 0, [], []), some (.iastore, 0, 0, 0, 0, [], [])],
  [some (.aload_n 0, 0, 0, 0, 0, [], []), some (.dup, 0, 0, 0, 0, [], []), some (.getfield 22, 3, 2, 0, 0, [], [1078]), none, none, some (.iconst 1, 0, 0, 0, 1, [], []), some (.iadd, 0, 0, 0, 0, [], []), some (.putfield 22, 3, 2, 0, 0, [], [1078]), none, none, some (.iinc 2 (-8), 2, 0, 0, (-8), [], []), none, none, some (.goto (-42), 3, 0, 0, 0, [], []), none, none],
  [some (.return_, 0, 0, 0, 0, [], []), none, none, none, none, none, none, none, none, none, none, none, none, none, none, none]]
/-- X3_append -/
def qm_30 : qs_E := (RX3, yX3_append, cX3_append, 3, none, 1, 1, 0, qc_30, [3088, 3086, 1004, 3087])
def qc_31 : List (List (Option qs_Row)) := [[some (.aload_n 0, 0, 0, 0, 0, [], []), some (.getfield 18, 3, 1, 1, 0, [], [1076]), none, none, some (.iconst 0, 0, 0, 0, 0, [], []), some (.putfield 26, 6, 2, 0, 0, [], [1045]), none, none, some (.aload_n 0, 0, 0, 0, 0, [], []), some (.getfield 18, 3, 1, 1, 0, [], [1076]), none, none, some (.iconst 0, 0, 0, 0, 0, [], []), some (.putfield 29, 6, 3, 0, 0, [], [1047]), none, none],
  [some (.aload_n 0, 0, 0, 0, 0, [], []), some (.iconst 0, 0, 0, 0, 0, [], []), some (.putfield 32, 3, 3, 0, 0, [], [1080]), none, none, some (.aload_n 0, 0, 0, 0, 0, [], []), some (.iconst 0, 0, 0, 0, 0, [], []), some (.putfield 35, 3, 5, 0, 0, [], [1082]), none, none, some (.aload_n 0, 0, 0, 0, 0, [], []), some (.invokevirtual 38, 32, 0, 3, 0, [], [3101, 0]), none, none, some (.aload_n 0, 0, 0, 0, 0, [], []), some (.invokevirtual 41, 35, 2, 3, 0, [], [3113, 0])],
  [none, none, some (.ifCond .eq 25, 59, 0, 0, 0, [], []), none, none, some (.aload_n 0, 0, 0, 0, 0, [], []), some (.iconst 0, 0, 0, 0, 0, [], []), some (.iconst 0, 0, 0, 0, 0, [], []), some (.iconst 0, 0, 0, 0, 0, [], []), some (.invokevirtual 45, 37, 26, 3, 0, [], [3172, 0]), none, none, some (.ifCond .eq 15, 59, 0, 0, 0, [], []), none, none, some (.aload_n 0, 0, 0, 0, 0, [], [])],
  [some (.getfield 32, 3, 3, 0, 0, [], [1080]), none, none, some (.ifCond .ne 8, 59, 0, 0, 0, [], []), none, none, some (.ldc 49, 0, 0, 0, (-1000000005), [], [3188]), none, some (.goto 7, 63, 0, 0, 0, [], []), none, none, some (.aload_n 0, 0, 0, 0, 0, [], []), some (.getfield 50, 3, 4, 0, 0, [], [1081]), none, none, some (.ireturn, 0, 0, 0, 0, [], [])]]
/-- X3_faultOfTape -/
def qm_31 : qs_E := (RX3, yX3_faultOfTape, cX3_faultOfTape, 1, some .int, 1, 0, 1, qc_31, [3100, 3098, 1004, 3099])
def qc_32 : List (List (Option qs_Row)) := [[some (.aload_n 0, 0, 0, 0, 0, [], []), some (.getfield 32, 3, 3, 0, 0, [], [1080]), none, none, some (.iconst 1, 0, 0, 0, 1, [], []), some (.if_icmp .eq 11, 16, 0, 0, 0, [], []), none, none, some (.aload_n 0, 0, 0, 0, 0, [], []), some (.getfield 32, 3, 3, 0, 0, [], [1080]), none, none, some (.iconst 2, 0, 0, 0, 2, [], []), some (.if_icmp .ne 7, 20, 0, 0, 0, [], []), none, none],
  [some (.iconst 1, 0, 0, 0, 1, [], []), some (.goto 4, 21, 0, 0, 0, [], []), none, none, some (.iconst 0, 0, 0, 0, 0, [], []), some (.istore_n 1, 1, 0, 0, 0, [], []), some (.aload_n 0, 0, 0, 0, 0, [], []), some (.getfield 35, 3, 5, 0, 0, [], [1082]), none, none, some (.istore_n 2, 2, 0, 0, 0, [], []), some (.aload_n 0, 0, 0, 0, 0, [], []), some (.iload_n 2, 2, 0, 0, 0, [], []), some (.putfield 50, 3, 4, 0, 0, [], [1081]), none, none],
  [some (.aload_n 0, 0, 0, 0, 0, [], []), some (.getfield 50, 3, 4, 0, 0, [], [1081]), none, none, some (.aload_n 0, 0, 0, 0, 0, [], []), some (.getfield 22, 3, 2, 0, 0, [], [1078]), none, none, some (.if_icmp .ge 39, 79, 0, 0, 0, [], []), none, none, some (.aload_n 0, 0, 0, 0, 0, [], []), some (.getfield 50, 3, 4, 0, 0, [], [1081]), none, none, some (.bipush 96, 0, 0, 0, 96, [], [])],
  [none, some (.if_icmp .ge 30, 79, 0, 0, 0, [], []), none, none, some (.aload_n 0, 0, 0, 0, 0, [], []), some (.getfield 9, 3, 0, 1, 0, [], [1075]), none, none, some (.aload_n 0, 0, 0, 0, 0, [], []), some (.getfield 50, 3, 4, 0, 0, [], [1081]), none, none, some (.iaload, 20, 0, 0, 0, [], []), some (.bipush 32, 0, 0, 0, 32, [], []), none, some (.if_icmp .ne 16, 79, 0, 0, 0, [], [])],
  [none, none, some (.aload_n 0, 0, 0, 0, 0, [], []), some (.dup, 0, 0, 0, 0, [], []), some (.getfield 50, 3, 4, 0, 0, [], [1081]), none, none, some (.iconst 1, 0, 0, 0, 1, [], []), some (.iadd, 0, 0, 0, 0, [], []), some (.putfield 50, 3, 4, 0, 0, [], [1081]), none, none, some (.goto (-44), 32, 0, 0, 0, [], []), none, none, some (.aload_n 0, 0, 0, 0, 0, [], [])],
  [some (.aload_n 0, 0, 0, 0, 0, [], []), some (.aload_n 0, 0, 0, 0, 0, [], []), some (.getfield 50, 3, 4, 0, 0, [], [1081]), none, none, some (.invokevirtual 53, 34, 9, 3, 0, [], [3105, 0]), none, none, some (.putfield 32, 3, 3, 0, 0, [], [1080]), none, none, some (.aload_n 0, 0, 0, 0, 0, [], []), some (.iconst 0, 0, 0, 0, 0, [], []), some (.putfield 57, 3, 6, 0, 0, [], [1083]), none, none],
  [some (.aload_n 0, 0, 0, 0, 0, [], []), some (.aload_n 0, 0, 0, 0, 0, [], []), some (.getfield 50, 3, 4, 0, 0, [], [1081]), none, none, some (.putfield 35, 3, 5, 0, 0, [], [1082]), none, none, some (.aload_n 0, 0, 0, 0, 0, [], []), some (.getfield 32, 3, 3, 0, 0, [], [1080]), none, none, some (.iconst 3, 0, 0, 0, 3, [], []), some (.if_icmp .ne 29, 138, 0, 0, 0, [], []), none, none],
  [some (.aload_n 0, 0, 0, 0, 0, [], []), some (.aload_n 0, 0, 0, 0, 0, [], []), some (.getfield 9, 3, 0, 1, 0, [], [1075]), none, none, some (.aload_n 0, 0, 0, 0, 0, [], []), some (.getfield 50, 3, 4, 0, 0, [], [1081]), none, none, some (.iaload, 20, 0, 0, 0, [], []), some (.putfield 57, 3, 6, 0, 0, [], [1083]), none, none, some (.aload_n 0, 0, 0, 0, 0, [], []), some (.aload_n 0, 0, 0, 0, 0, [], []), some (.getfield 50, 3, 4, 0, 0, [], [1081])],
  [none, none, some (.iconst 1, 0, 0, 0, 1, [], []), some (.iadd, 0, 0, 0, 0, [], []), some (.putfield 35, 3, 5, 0, 0, [], [1082]), none, none, some (.goto 62, 197, 0, 0, 0, [], []), none, none, some (.aload_n 0, 0, 0, 0, 0, [], []), some (.getfield 32, 3, 3, 0, 0, [], [1080]), none, none, some (.ifCond .eq 55, 197, 0, 0, 0, [], []), none],
  [none, some (.aload_n 0, 0, 0, 0, 0, [], []), some (.invokevirtual 60, 33, 0, 3, 0, [], [3109, 0]), none, none, some (.aload_n 0, 0, 0, 0, 0, [], []), some (.getfield 32, 3, 3, 0, 0, [], [1080]), none, none, some (.iconst 2, 0, 0, 0, 2, [], []), some (.if_icmp .ne 20, 174, 0, 0, 0, [], []), none, none, some (.aload_n 0, 0, 0, 0, 0, [], []), some (.getfield 35, 3, 5, 0, 0, [], [1082]), none],
  [none, some (.aload_n 0, 0, 0, 0, 0, [], []), some (.getfield 50, 3, 4, 0, 0, [], [1081]), none, none, some (.isub, 0, 0, 0, 0, [], []), some (.iconst 4, 0, 0, 0, 4, [], []), some (.if_icmp .le 7, 174, 0, 0, 0, [], []), none, none, some (.iconst 1, 0, 0, 0, 1, [], []), some (.goto 4, 175, 0, 0, 0, [], []), none, none, some (.iconst 0, 0, 0, 0, 0, [], []), some (.istore_n 3, 3, 0, 0, 0, [], [])],
  [some (.iload_n 3, 3, 0, 0, 0, [], []), some (.ifCond .ne 15, 192, 0, 0, 0, [], []), none, none, some (.iload_n 1, 1, 0, 0, 0, [], []), some (.ifCond .eq 16, 197, 0, 0, 0, [], []), none, none, some (.aload_n 0, 0, 0, 0, 0, [], []), some (.getfield 50, 3, 4, 0, 0, [], [1081]), none, none, some (.iload_n 2, 2, 0, 0, 0, [], []), some (.if_icmp .ne 8, 197, 0, 0, 0, [], []), none, none],
  [some (.aload_n 0, 0, 0, 0, 0, [], []), some (.iconst 4, 0, 0, 0, 4, [], []), some (.putfield 32, 3, 3, 0, 0, [], [1080]), none, none, some (.return_, 0, 0, 0, 0, [], []), none, none, none, none, none, none, none, none, none, none]]
/-- X3_advance -/
def qm_32 : qs_E := (RX3, yX3_advance, cX3_advance, 4, none, 1, 0, 0, qc_32, [3104, 3103, 1004, 4])
def qc_33 : List (List (Option qs_Row)) := [[some (.aload_n 0, 0, 0, 0, 0, [], []), some (.getfield 35, 3, 5, 0, 0, [], [1082]), none, none, some (.aload_n 0, 0, 0, 0, 0, [], []), some (.getfield 22, 3, 2, 0, 0, [], [1078]), none, none, some (.if_icmp .ge 84, 92, 0, 0, 0, [], []), none, none, some (.aload_n 0, 0, 0, 0, 0, [], []), some (.getfield 35, 3, 5, 0, 0, [], [1082]), none, none, some (.bipush 96, 0, 0, 0, 96, [], [])],
  [none, some (.if_icmp .ge 75, 92, 0, 0, 0, [], []), none, none, some (.aload_n 0, 0, 0, 0, 0, [], []), some (.aload_n 0, 0, 0, 0, 0, [], []), some (.getfield 35, 3, 5, 0, 0, [], [1082]), none, none, some (.invokevirtual 53, 34, 9, 3, 0, [], [3105, 0]), none, none, some (.aload_n 0, 0, 0, 0, 0, [], []), some (.getfield 32, 3, 3, 0, 0, [], [1080]), none, none],
  [some (.if_icmp .ne 60, 92, 0, 0, 0, [], []), none, none, some (.aload_n 0, 0, 0, 0, 0, [], []), some (.aload_n 0, 0, 0, 0, 0, [], []), some (.getfield 32, 3, 3, 0, 0, [], [1080]), none, none, some (.iconst 2, 0, 0, 0, 2, [], []), some (.if_icmp .ne 26, 67, 0, 0, 0, [], []), none, none, some (.aload_n 0, 0, 0, 0, 0, [], []), some (.getfield 57, 3, 6, 0, 0, [], [1083]), none, none],
  [some (.bipush 10, 0, 0, 0, 10, [], []), none, some (.imul, 0, 0, 0, 0, [], []), some (.aload_n 0, 0, 0, 0, 0, [], []), some (.getfield 9, 3, 0, 1, 0, [], [1075]), none, none, some (.aload_n 0, 0, 0, 0, 0, [], []), some (.getfield 35, 3, 5, 0, 0, [], [1082]), none, none, some (.iaload, 20, 0, 0, 0, [], []), some (.bipush 48, 0, 0, 0, 48, [], []), none, some (.isub, 0, 0, 0, 0, [], []), some (.iadd, 0, 0, 0, 0, [], [])],
  [some (.goto 12, 76, 0, 0, 0, [], []), none, none, some (.aload_n 0, 0, 0, 0, 0, [], []), some (.getfield 9, 3, 0, 1, 0, [], [1075]), none, none, some (.aload_n 0, 0, 0, 0, 0, [], []), some (.getfield 35, 3, 5, 0, 0, [], [1082]), none, none, some (.iaload, 20, 0, 0, 0, [], []), some (.putfield 57, 3, 6, 0, 0, [], [1083]), none, none, some (.aload_n 0, 0, 0, 0, 0, [], [])],
  [some (.dup, 0, 0, 0, 0, [], []), some (.getfield 35, 3, 5, 0, 0, [], [1082]), none, none, some (.iconst 1, 0, 0, 0, 1, [], []), some (.iadd, 0, 0, 0, 0, [], []), some (.putfield 35, 3, 5, 0, 0, [], [1082]), none, none, some (.goto (-89), 0, 0, 0, 0, [], []), none, none, some (.return_, 0, 0, 0, 0, [], []), none, none, none]]
/-- X3_readWord -/
def qm_33 : qs_E := (RX3, yX3_readWord, cX3_readWord, 1, none, 1, 0, 0, qc_33, [3112, 3111, 1004, 6])
def qc_34 : List (List (Option qs_Row)) := [[some (.iload_n 1, 1, 0, 0, 0, [], []), some (.ifCond .lt 17, 18, 0, 0, 0, [], []), none, none, some (.iload_n 1, 1, 0, 0, 0, [], []), some (.aload_n 0, 0, 0, 0, 0, [], []), some (.getfield 22, 3, 2, 0, 0, [], [1078]), none, none, some (.if_icmp .ge 9, 18, 0, 0, 0, [], []), none, none, some (.iload_n 1, 1, 0, 0, 0, [], []), some (.bipush 96, 0, 0, 0, 96, [], []), none, some (.if_icmp .lt 5, 20, 0, 0, 0, [], [])],
  [none, none, some (.iconst 0, 0, 0, 0, 0, [], []), some (.ireturn, 0, 0, 0, 0, [], []), some (.aload_n 0, 0, 0, 0, 0, [], []), some (.getfield 9, 3, 0, 1, 0, [], [1075]), none, none, some (.iload_n 1, 1, 0, 0, 0, [], []), some (.iaload, 20, 0, 0, 0, [], []), some (.istore_n 2, 2, 0, 0, 0, [], []), some (.iload_n 2, 2, 0, 0, 0, [], []), some (.bipush 97, 0, 0, 0, 97, [], []), none, some (.if_icmp .lt 13, 43, 0, 0, 0, [], []), none],
  [none, some (.iload_n 2, 2, 0, 0, 0, [], []), some (.bipush 122, 0, 0, 0, 122, [], []), none, some (.if_icmp .gt 7, 43, 0, 0, 0, [], []), none, none, some (.iconst 1, 0, 0, 0, 1, [], []), some (.goto 20, 60, 0, 0, 0, [], []), none, none, some (.iload_n 2, 2, 0, 0, 0, [], []), some (.bipush 48, 0, 0, 0, 48, [], []), none, some (.if_icmp .lt 13, 59, 0, 0, 0, [], []), none],
  [none, some (.iload_n 2, 2, 0, 0, 0, [], []), some (.bipush 57, 0, 0, 0, 57, [], []), none, some (.if_icmp .gt 7, 59, 0, 0, 0, [], []), none, none, some (.iconst 2, 0, 0, 0, 2, [], []), some (.goto 4, 60, 0, 0, 0, [], []), none, none, some (.iconst 3, 0, 0, 0, 3, [], []), some (.ireturn, 0, 0, 0, 0, [], []), none, none, none]]
/-- X3_sortAt -/
def qm_34 : qs_E := (RX3, yX3_sortAt, cX3_sortAt, 3, some .int, 1, 1, 1, qc_34, [3108, 3107, 1004, 5])
def qc_35 : List (List (Option qs_Row)) := [[some (.aload_n 0, 0, 0, 0, 0, [], []), some (.ldc 63, 2, 0, 0, 0, [], [3117]), none, some (.invokevirtual 65, 36, 10, 3, 0, [], [3118, 0]), none, none, some (.ifCond .eq 14, 20, 0, 0, 0, [], []), none, none, some (.aload_n 0, 0, 0, 0, 0, [], []), some (.getfield 18, 3, 1, 1, 0, [], [1076]), none, none, some (.iconst 0, 0, 0, 0, 0, [], []), some (.putfield 69, 6, 1, 0, 0, [], [1041]), none],
  [none, some (.goto 45, 62, 0, 0, 0, [], []), none, none, some (.aload_n 0, 0, 0, 0, 0, [], []), some (.ldc 72, 3, 0, 0, 0, [], [3170]), none, some (.invokevirtual 65, 36, 10, 3, 0, [], [3118, 0]), none, none, some (.ifCond .eq 14, 40, 0, 0, 0, [], []), none, none, some (.aload_n 0, 0, 0, 0, 0, [], []), some (.getfield 18, 3, 1, 1, 0, [], [1076]), none],
  [none, some (.iconst 1, 0, 0, 0, 1, [], []), some (.putfield 69, 6, 1, 0, 0, [], [1041]), none, none, some (.goto 25, 62, 0, 0, 0, [], []), none, none, some (.aload_n 0, 0, 0, 0, 0, [], []), some (.ldc 74, 4, 0, 0, 0, [], [3171]), none, some (.invokevirtual 65, 36, 10, 3, 0, [], [3118, 0]), none, none, some (.ifCond .eq 14, 60, 0, 0, 0, [], []), none],
  [none, some (.aload_n 0, 0, 0, 0, 0, [], []), some (.getfield 18, 3, 1, 1, 0, [], [1076]), none, none, some (.iconst 2, 0, 0, 0, 2, [], []), some (.putfield 69, 6, 1, 0, 0, [], [1041]), none, none, some (.goto 5, 62, 0, 0, 0, [], []), none, none, some (.iconst 0, 0, 0, 0, 0, [], []), some (.ireturn, 0, 0, 0, 0, [], []), some (.aload_n 0, 0, 0, 0, 0, [], []), some (.invokevirtual 38, 32, 0, 3, 0, [], [3101, 0])],
  [none, none, some (.iconst 1, 0, 0, 0, 1, [], []), some (.ireturn, 0, 0, 0, 0, [], []), none, none, none, none, none, none, none, none, none, none, none, none]]
/-- X3_readKey -/
def qm_35 : qs_E := (RX3, yX3_readKey, cX3_readKey, 1, some .boolean, 1, 0, 2, qc_35, [3116, 3115, 1004, 7])
def qc_36 : List (List (Option qs_Row)) := [[some (.aload_n 0, 0, 0, 0, 0, [], []), some (.getfield 32, 3, 3, 0, 0, [], [1080]), none, none, some (.iconst 1, 0, 0, 0, 1, [], []), some (.if_icmp .ne 19, 24, 0, 0, 0, [], []), none, none, some (.aload_n 0, 0, 0, 0, 0, [], []), some (.getfield 35, 3, 5, 0, 0, [], [1082]), none, none, some (.aload_n 0, 0, 0, 0, 0, [], []), some (.getfield 50, 3, 4, 0, 0, [], [1081]), none, none],
  [some (.isub, 0, 0, 0, 0, [], []), some (.aload_n 1, 1, 0, 0, 0, [], []), some (.invokevirtual 76, 200, 1, 90, 0, [], [3122, 0]), none, none, some (.if_icmp .eq 5, 26, 0, 0, 0, [], []), none, none, some (.iconst 0, 0, 0, 0, 0, [], []), some (.ireturn, 0, 0, 0, 0, [], []), some (.iconst 0, 0, 0, 0, 0, [], []), some (.istore_n 2, 2, 0, 0, 0, [], []), some (.iload_n 2, 2, 0, 0, 0, [], []), some (.aload_n 1, 1, 0, 0, 0, [], []), some (.invokevirtual 76, 200, 1, 90, 0, [], [3122, 0]), none],
  [none, some (.if_icmp .ge 41, 74, 0, 0, 0, [], []), none, none, some (.aload_n 0, 0, 0, 0, 0, [], []), some (.getfield 50, 3, 4, 0, 0, [], [1081]), none, none, some (.iload_n 2, 2, 0, 0, 0, [], []), some (.iadd, 0, 0, 0, 0, [], []), some (.bipush 96, 0, 0, 0, 96, [], []), none, some (.if_icmp .ge 30, 74, 0, 0, 0, [], []), none, none, some (.aload_n 0, 0, 0, 0, 0, [], [])],
  [some (.getfield 9, 3, 0, 1, 0, [], [1075]), none, none, some (.aload_n 0, 0, 0, 0, 0, [], []), some (.getfield 50, 3, 4, 0, 0, [], [1081]), none, none, some (.iload_n 2, 2, 0, 0, 0, [], []), some (.iadd, 0, 0, 0, 0, [], []), some (.iaload, 20, 0, 0, 0, [], []), some (.aload_n 1, 1, 0, 0, 0, [], []), some (.iload_n 2, 2, 0, 0, 0, [], []), some (.invokevirtual 81, 201, 11, 90, 0, [], [3132, 0]), none, none, some (.if_icmp .eq 5, 68, 0, 0, 0, [], [])],
  [none, none, some (.iconst 0, 0, 0, 0, 0, [], []), some (.ireturn, 0, 0, 0, 0, [], []), some (.iinc 2 1, 2, 0, 0, 1, [], []), none, none, some (.goto (-43), 28, 0, 0, 0, [], []), none, none, some (.iconst 1, 0, 0, 0, 1, [], []), some (.ireturn, 0, 0, 0, 0, [], []), none, none, none, none]]
/-- X3_isWord -/
def qm_36 : qs_E := (RX3, yX3_isWord, cX3_isWord, 3, some .boolean, 1, 1, 2, qc_36, [3121, 3120, 1004, 8])
def qc_37 : List (List (Option qs_Row)) := [[some (.iload_n 1, 1, 0, 0, 0, [], []), some (.iconst 4, 0, 0, 0, 4, [], []), some (.if_icmp .le 10, 12, 0, 0, 0, [], []), none, none, some (.aload_n 0, 0, 0, 0, 0, [], []), some (.iload_n 2, 2, 0, 0, 0, [], []), some (.iload_n 3, 3, 0, 0, 0, [], []), some (.invokevirtual 85, 39, 18, 3, 0, [], [3176, 0]), none, none, some (.ireturn, 0, 0, 0, 0, [], []), some (.aload_n 0, 0, 0, 0, 0, [], []), some (.iload_n 1, 1, 0, 0, 0, [], []), some (.iconst 1, 0, 0, 0, 1, [], []), some (.iadd, 0, 0, 0, 0, [], [])],
  [some (.iload_n 2, 2, 0, 0, 0, [], []), some (.iload_n 3, 3, 0, 0, 0, [], []), some (.invokevirtual 45, 37, 26, 3, 0, [], [3172, 0]), none, none, some (.ifCond .ne 5, 26, 0, 0, 0, [], []), none, none, some (.iconst 0, 0, 0, 0, 0, [], []), some (.ireturn, 0, 0, 0, 0, [], []), some (.iload_n 1, 1, 0, 0, 0, [], []), some (.iconst 2, 0, 0, 0, 2, [], []), some (.if_icmp .ne 7, 35, 0, 0, 0, [], []), none, none, some (.iconst 1, 0, 0, 0, 1, [], [])],
  [some (.goto 5, 37, 0, 0, 0, [], []), none, none, some (.bipush 96, 0, 0, 0, 96, [], []), none, some (.istore 4, 4, 0, 0, 0, [], []), none, some (.iconst 0, 0, 0, 0, 0, [], []), some (.istore 5, 5, 0, 0, 0, [], []), none, some (.iload 5, 5, 0, 0, 0, [], []), none, some (.iload 4, 4, 0, 0, 0, [], []), none, some (.if_icmp .ge 51, 97, 0, 0, 0, [], []), none],
  [none, some (.aload_n 0, 0, 0, 0, 0, [], []), some (.iload_n 1, 1, 0, 0, 0, [], []), some (.invokevirtual 89, 38, 10, 3, 0, [], [4007, 0]), none, none, some (.ifCond .eq 43, 97, 0, 0, 0, [], []), none, none, some (.aload_n 0, 0, 0, 0, 0, [], []), some (.getfield 57, 3, 6, 0, 0, [], [1083]), none, none, some (.istore 6, 6, 0, 0, 0, [], []), none, some (.aload_n 0, 0, 0, 0, 0, [], [])],
  [some (.invokevirtual 38, 32, 0, 3, 0, [], [3101, 0]), none, none, some (.aload_n 0, 0, 0, 0, 0, [], []), some (.iload_n 1, 1, 0, 0, 0, [], []), some (.iconst 1, 0, 0, 0, 1, [], []), some (.iadd, 0, 0, 0, 0, [], []), some (.iload_n 2, 2, 0, 0, 0, [], []), some (.iload_n 3, 3, 0, 0, 0, [], []), some (.invokevirtual 45, 37, 26, 3, 0, [], [3172, 0]), none, none, some (.ifCond .ne 5, 81, 0, 0, 0, [], []), none, none, some (.iconst 0, 0, 0, 0, 0, [], [])],
  [some (.ireturn, 0, 0, 0, 0, [], []), some (.aload_n 0, 0, 0, 0, 0, [], []), some (.getfield 18, 3, 1, 1, 0, [], [1076]), none, none, some (.iload 6, 6, 0, 0, 0, [], []), none, some (.ineg, 0, 0, 0, 0, [], []), some (.invokevirtual 93, 51, 8, 6, 0, [], [3180, 0]), none, none, some (.iinc 5 1, 5, 0, 0, 1, [], []), none, none, some (.goto (-52), 42, 0, 0, 0, [], []), none],
  [none, some (.iconst 1, 0, 0, 0, 1, [], []), some (.ireturn, 0, 0, 0, 0, [], []), none, none, none, none, none, none, none, none, none, none, none, none, none]]
/-- X3_readLevel -/
def qm_37 : qs_E := (RX3, yX3_readLevel, cX3_readLevel, 7, some .boolean, 1, 3, 2, qc_37, [3175, 3174, 1004, 9])
def qc_38 : List (List (Option qs_Row)) := [[some (.aload_n 0, 0, 0, 0, 0, [], []), some (.getfield 32, 3, 3, 0, 0, [], [1080]), none, none, some (.iconst 3, 0, 0, 0, 3, [], []), some (.if_icmp .eq 5, 10, 0, 0, 0, [], []), none, none, some (.iconst 0, 0, 0, 0, 0, [], []), some (.ireturn, 0, 0, 0, 0, [], []), some (.iload_n 1, 1, 0, 0, 0, [], []), some (.tableswitch 116 0 3 #[29, 44, 59, 92], 127, 29, 0, 0, [(0, 40), (1, 55), (2, 70), (3, 103)], []), none, none, none, none],
  [none, none, none, none, none, none, none, none, none, none, none, none, none, none, none, none],
  [none, none, none, none, none, none, none, none, some (.aload_n 0, 0, 0, 0, 0, [], []), some (.getfield 57, 3, 6, 0, 0, [], [1083]), none, none, some (.bipush 124, 0, 0, 0, 124, [], []), none, some (.if_icmp .ne 7, 53, 0, 0, 0, [], []), none],
  [none, some (.iconst 1, 0, 0, 0, 1, [], []), some (.goto 4, 54, 0, 0, 0, [], []), none, none, some (.iconst 0, 0, 0, 0, 0, [], []), some (.ireturn, 0, 0, 0, 0, [], []), some (.aload_n 0, 0, 0, 0, 0, [], []), some (.getfield 57, 3, 6, 0, 0, [], [1083]), none, none, some (.bipush 38, 0, 0, 0, 38, [], []), none, some (.if_icmp .ne 7, 68, 0, 0, 0, [], []), none, none],
  [some (.iconst 1, 0, 0, 0, 1, [], []), some (.goto 4, 69, 0, 0, 0, [], []), none, none, some (.iconst 0, 0, 0, 0, 0, [], []), some (.ireturn, 0, 0, 0, 0, [], []), some (.aload_n 0, 0, 0, 0, 0, [], []), some (.getfield 57, 3, 6, 0, 0, [], [1083]), none, none, some (.bipush 60, 0, 0, 0, 60, [], []), none, some (.if_icmp .eq 21, 97, 0, 0, 0, [], []), none, none, some (.aload_n 0, 0, 0, 0, 0, [], [])],
  [some (.getfield 57, 3, 6, 0, 0, [], [1083]), none, none, some (.bipush 61, 0, 0, 0, 61, [], []), none, some (.if_icmp .eq 12, 97, 0, 0, 0, [], []), none, none, some (.aload_n 0, 0, 0, 0, 0, [], []), some (.getfield 57, 3, 6, 0, 0, [], [1083]), none, none, some (.bipush 62, 0, 0, 0, 62, [], []), none, some (.if_icmp .ne 7, 101, 0, 0, 0, [], []), none],
  [none, some (.iconst 1, 0, 0, 0, 1, [], []), some (.goto 4, 102, 0, 0, 0, [], []), none, none, some (.iconst 0, 0, 0, 0, 0, [], []), some (.ireturn, 0, 0, 0, 0, [], []), some (.aload_n 0, 0, 0, 0, 0, [], []), some (.getfield 57, 3, 6, 0, 0, [], [1083]), none, none, some (.bipush 43, 0, 0, 0, 43, [], []), none, some (.if_icmp .eq 12, 121, 0, 0, 0, [], []), none, none],
  [some (.aload_n 0, 0, 0, 0, 0, [], []), some (.getfield 57, 3, 6, 0, 0, [], [1083]), none, none, some (.bipush 45, 0, 0, 0, 45, [], []), none, some (.if_icmp .ne 7, 125, 0, 0, 0, [], []), none, none, some (.iconst 1, 0, 0, 0, 1, [], []), some (.goto 4, 126, 0, 0, 0, [], []), none, none, some (.iconst 0, 0, 0, 0, 0, [], []), some (.ireturn, 0, 0, 0, 0, [], []), some (.aload_n 0, 0, 0, 0, 0, [], [])],
  [some (.getfield 57, 3, 6, 0, 0, [], [1083]), none, none, some (.bipush 42, 0, 0, 0, 42, [], []), none, some (.if_icmp .eq 12, 145, 0, 0, 0, [], []), none, none, some (.aload_n 0, 0, 0, 0, 0, [], []), some (.getfield 57, 3, 6, 0, 0, [], [1083]), none, none, some (.bipush 47, 0, 0, 0, 47, [], []), none, some (.if_icmp .ne 7, 149, 0, 0, 0, [], []), none],
  [none, some (.iconst 1, 0, 0, 0, 1, [], []), some (.goto 4, 150, 0, 0, 0, [], []), none, none, some (.iconst 0, 0, 0, 0, 0, [], []), some (.ireturn, 0, 0, 0, 0, [], []), none, none, none, none, none, none, none, none, none]]
/-- X3_joinsAt -/
def qm_38 : qs_E := (RX3, yX3_joinsAt, cX3_joinsAt, 2, some .boolean, 1, 1, 2, qc_38, [4010, 4009, 1004, 12])
def qc_39 : List (List (Option qs_Row)) := [[some (.aload_n 0, 0, 0, 0, 0, [], []), some (.getfield 32, 3, 3, 0, 0, [], [1080]), none, none, some (.iconst 3, 0, 0, 0, 3, [], []), some (.if_icmp .ne 59, 64, 0, 0, 0, [], []), none, none, some (.aload_n 0, 0, 0, 0, 0, [], []), some (.getfield 57, 3, 6, 0, 0, [], [1083]), none, none, some (.bipush 40, 0, 0, 0, 40, [], []), none, some (.if_icmp .ne 50, 64, 0, 0, 0, [], []), none],
  [none, some (.iload_n 1, 1, 0, 0, 0, [], []), some (.bipush 8, 0, 0, 0, 8, [], []), none, some (.if_icmp .ge 44, 64, 0, 0, 0, [], []), none, none, some (.aload_n 0, 0, 0, 0, 0, [], []), some (.invokevirtual 38, 32, 0, 3, 0, [], [3101, 0]), none, none, some (.aload_n 0, 0, 0, 0, 0, [], []), some (.iconst 0, 0, 0, 0, 0, [], []), some (.iload_n 1, 1, 0, 0, 0, [], []), some (.iconst 1, 0, 0, 0, 1, [], []), some (.iadd, 0, 0, 0, 0, [], [])],
  [some (.iload_n 2, 2, 0, 0, 0, [], []), some (.invokevirtual 45, 37, 26, 3, 0, [], [3172, 0]), none, none, some (.ifCond .eq 20, 56, 0, 0, 0, [], []), none, none, some (.aload_n 0, 0, 0, 0, 0, [], []), some (.getfield 32, 3, 3, 0, 0, [], [1080]), none, none, some (.iconst 3, 0, 0, 0, 3, [], []), some (.if_icmp .ne 12, 56, 0, 0, 0, [], []), none, none, some (.aload_n 0, 0, 0, 0, 0, [], [])],
  [some (.getfield 57, 3, 6, 0, 0, [], [1083]), none, none, some (.bipush 41, 0, 0, 0, 41, [], []), none, some (.if_icmp .eq 5, 58, 0, 0, 0, [], []), none, none, some (.iconst 0, 0, 0, 0, 0, [], []), some (.ireturn, 0, 0, 0, 0, [], []), some (.aload_n 0, 0, 0, 0, 0, [], []), some (.invokevirtual 38, 32, 0, 3, 0, [], [3101, 0]), none, none, some (.iconst 1, 0, 0, 0, 1, [], []), some (.ireturn, 0, 0, 0, 0, [], [])],
  [some (.aload_n 0, 0, 0, 0, 0, [], []), some (.getfield 32, 3, 3, 0, 0, [], [1080]), none, none, some (.iconst 3, 0, 0, 0, 3, [], []), some (.if_icmp .ne 46, 115, 0, 0, 0, [], []), none, none, some (.aload_n 0, 0, 0, 0, 0, [], []), some (.getfield 57, 3, 6, 0, 0, [], [1083]), none, none, some (.bipush 33, 0, 0, 0, 33, [], []), none, some (.if_icmp .ne 37, 115, 0, 0, 0, [], []), none],
  [none, some (.iload_n 2, 2, 0, 0, 0, [], []), some (.bipush 8, 0, 0, 0, 8, [], []), none, some (.if_icmp .ge 31, 115, 0, 0, 0, [], []), none, none, some (.aload_n 0, 0, 0, 0, 0, [], []), some (.invokevirtual 38, 32, 0, 3, 0, [], [3101, 0]), none, none, some (.aload_n 0, 0, 0, 0, 0, [], []), some (.iload_n 1, 1, 0, 0, 0, [], []), some (.iload_n 2, 2, 0, 0, 0, [], []), some (.iconst 1, 0, 0, 0, 1, [], []), some (.iadd, 0, 0, 0, 0, [], [])],
  [some (.invokevirtual 85, 39, 18, 3, 0, [], [3176, 0]), none, none, some (.ifCond .ne 5, 104, 0, 0, 0, [], []), none, none, some (.iconst 0, 0, 0, 0, 0, [], []), some (.ireturn, 0, 0, 0, 0, [], []), some (.aload_n 0, 0, 0, 0, 0, [], []), some (.getfield 18, 3, 1, 1, 0, [], [1076]), none, none, some (.bipush (-33), 0, 0, 0, (-33), [], []), none, some (.invokevirtual 93, 51, 8, 6, 0, [], [3180, 0]), none],
  [none, some (.iconst 1, 0, 0, 0, 1, [], []), some (.ireturn, 0, 0, 0, 0, [], []), some (.aload_n 0, 0, 0, 0, 0, [], []), some (.getfield 32, 3, 3, 0, 0, [], [1080]), none, none, some (.iconst 2, 0, 0, 0, 2, [], []), some (.if_icmp .ne 10, 130, 0, 0, 0, [], []), none, none, some (.aload_n 0, 0, 0, 0, 0, [], []), some (.getfield 57, 3, 6, 0, 0, [], [1083]), none, none, some (.goto 7, 134, 0, 0, 0, [], [])],
  [none, none, some (.aload_n 0, 0, 0, 0, 0, [], []), some (.invokevirtual 97, 40, 1, 3, 0, [], [3184, 0]), none, none, some (.istore_n 3, 3, 0, 0, 0, [], []), some (.iload_n 3, 3, 0, 0, 0, [], []), some (.ldc 49, 0, 0, 0, (-1000000005), [], [3188]), none, some (.if_icmp .ne 5, 143, 0, 0, 0, [], []), none, none, some (.iconst 0, 0, 0, 0, 0, [], []), some (.ireturn, 0, 0, 0, 0, [], []), some (.aload_n 0, 0, 0, 0, 0, [], [])],
  [some (.getfield 18, 3, 1, 1, 0, [], [1076]), none, none, some (.iload_n 3, 3, 0, 0, 0, [], []), some (.invokevirtual 93, 51, 8, 6, 0, [], [3180, 0]), none, none, some (.aload_n 0, 0, 0, 0, 0, [], []), some (.getfield 18, 3, 1, 1, 0, [], [1076]), none, none, some (.dup, 0, 0, 0, 0, [], []), some (.getfield 29, 6, 3, 0, 0, [], [1047]), none, none, some (.iconst 1, 0, 0, 0, 1, [], [])],
  [some (.iadd, 0, 0, 0, 0, [], []), some (.putfield 29, 6, 3, 0, 0, [], [1047]), none, none, some (.aload_n 0, 0, 0, 0, 0, [], []), some (.invokevirtual 38, 32, 0, 3, 0, [], [3101, 0]), none, none, some (.iconst 1, 0, 0, 0, 1, [], []), some (.ireturn, 0, 0, 0, 0, [], []), none, none, none, none, none, none]]
/-- X3_readPiece -/
def qm_39 : qs_E := (RX3, yX3_readPiece, cX3_readPiece, 4, some .boolean, 1, 2, 2, qc_39, [3179, 3178, 1004, 10])
def qc_40 : List (List (Option qs_Row)) := [[some (.aload_n 0, 0, 0, 0, 0, [], []), some (.getfield 32, 3, 3, 0, 0, [], [1080]), none, none, some (.iconst 1, 0, 0, 0, 1, [], []), some (.if_icmp .ne 16, 21, 0, 0, 0, [], []), none, none, some (.aload_n 0, 0, 0, 0, 0, [], []), some (.getfield 35, 3, 5, 0, 0, [], [1082]), none, none, some (.aload_n 0, 0, 0, 0, 0, [], []), some (.getfield 50, 3, 4, 0, 0, [], [1081]), none, none],
  [some (.isub, 0, 0, 0, 0, [], []), some (.iconst 1, 0, 0, 0, 1, [], []), some (.if_icmp .eq 6, 24, 0, 0, 0, [], []), none, none, some (.ldc 49, 0, 0, 0, (-1000000005), [], [3188]), none, some (.ireturn, 0, 0, 0, 0, [], []), some (.aload_n 0, 0, 0, 0, 0, [], []), some (.getfield 18, 3, 1, 1, 0, [], [1076]), none, none, some (.getfield 69, 6, 1, 0, 0, [], [1041]), none, none, some (.ifCond .ne 8, 39, 0, 0, 0, [], [])],
  [none, none, some (.ldc 100, 5, 0, 0, 0, [], [3189]), none, some (.goto 21, 57, 0, 0, 0, [], []), none, none, some (.aload_n 0, 0, 0, 0, 0, [], []), some (.getfield 18, 3, 1, 1, 0, [], [1076]), none, none, some (.getfield 69, 6, 1, 0, 0, [], [1041]), none, none, some (.iconst 1, 0, 0, 0, 1, [], []), some (.if_icmp .ne 8, 55, 0, 0, 0, [], [])],
  [none, none, some (.ldc 102, 6, 0, 0, 0, [], [3190]), none, some (.goto 5, 57, 0, 0, 0, [], []), none, none, some (.ldc 104, 7, 0, 0, 0, [], [3191]), none, some (.astore_n 1, 1, 0, 0, 0, [], []), some (.aload_n 1, 1, 0, 0, 0, [], []), some (.aload_n 0, 0, 0, 0, 0, [], []), some (.getfield 57, 3, 6, 0, 0, [], [1083]), none, none, some (.i2c, 0, 0, 0, 0, [], [])],
  [some (.invokevirtual 106, 202, 9, 90, 0, [], [3192, 0]), none, none, some (.istore_n 2, 2, 0, 0, 0, [], []), some (.iload_n 2, 2, 0, 0, 0, [], []), some (.ifCond .ge 8, 77, 0, 0, 0, [], []), none, none, some (.ldc 49, 0, 0, 0, (-1000000005), [], [3188]), none, some (.goto 6, 80, 0, 0, 0, [], []), none, none, some (.iconst (-1), 0, 0, 0, (-1), [], []), some (.iload_n 2, 2, 0, 0, 0, [], []), some (.isub, 0, 0, 0, 0, [], [])],
  [some (.ireturn, 0, 0, 0, 0, [], []), none, none, none, none, none, none, none, none, none, none, none, none, none, none, none]]
/-- X3_nameStep -/
def qm_40 : qs_E := (RX3, yX3_nameStep, cX3_nameStep, 3, some .int, 1, 0, 1, qc_40, [3187, 3186, 1004, 11])
def qc_41 : List (List (Option qs_Row)) := [[some (.aload_n 0, 0, 0, 0, 0, [], []), some (.invokespecial 3, 1000, 0, 0, 0, [], [1216]), none, none, some (.aload_n 0, 0, 0, 0, 0, [], []), some (.bipush 24, 0, 0, 0, 24, [], []), none, some (.newarray .int, 20, 0, 0, 0, [], []), none, some (.putfield 9, 4, 0, 1, 0, [], [1217]), none, none, some (.aload_n 0, 0, 0, 0, 0, [], []), some (.iconst (-1), 0, 0, 0, (-1), [], []), some (.putfield 15, 4, 1, 0, 0, [], [1219]), none],
  [none, some (.return_, 0, 0, 0, 0, [], []), none, none, none, none, none, none, none, none, none, none, none, none, none, none]]
/-- X4_init -/
def qm_41 : qs_E := (RX4, yX4_init, cX4_init, 1, none, 2, 0, 0, qc_41, [1215, 1214, 1007])
def qc_42 : List (List (Option qs_Row)) := [[some (.aload_n 0, 0, 0, 0, 0, [], []), some (.iload_n 1, 1, 0, 0, 0, [], []), some (.putfield 15, 4, 1, 0, 0, [], [1219]), none, none, some (.aload_n 0, 0, 0, 0, 0, [], []), some (.iload_n 2, 2, 0, 0, 0, [], []), some (.putfield 19, 4, 2, 0, 0, [], [1221]), none, none, some (.iconst 0, 0, 0, 0, 0, [], []), some (.istore_n 3, 3, 0, 0, 0, [], []), some (.iload_n 3, 3, 0, 0, 0, [], []), some (.bipush 24, 0, 0, 0, 24, [], []), none, some (.if_icmp .ge 16, 31, 0, 0, 0, [], [])],
  [none, none, some (.aload_n 0, 0, 0, 0, 0, [], []), some (.getfield 9, 4, 0, 1, 0, [], [1217]), none, none, some (.iload_n 3, 3, 0, 0, 0, [], []), some (.iconst 0, 0, 0, 0, 0, [], []), some (.iastore, 0, 0, 0, 0, [], []), some (.iinc 3 1, 3, 0, 0, 1, [], []), none, none, some (.goto (-16), 12, 0, 0, 0, [], []), none, none, some (.return_, 0, 0, 0, 0, [], [])]]
/-- X4_become -/
def qm_42 : qs_E := (RX4, yX4_become, cX4_become, 4, none, 1, 2, 0, qc_42, [4031, 4029, 1007, 4030])
def qc_43 : List (List (Option qs_Row)) := [[some (.aload_n 0, 0, 0, 0, 0, [], []), some (.aload_n 1, 1, 0, 0, 0, [], []), some (.getfield 15, 4, 1, 0, 0, [], [1219]), none, none, some (.putfield 15, 4, 1, 0, 0, [], [1219]), none, none, some (.aload_n 0, 0, 0, 0, 0, [], []), some (.aload_n 1, 1, 0, 0, 0, [], []), some (.getfield 19, 4, 2, 0, 0, [], [1221]), none, none, some (.putfield 19, 4, 2, 0, 0, [], [1221]), none, none],
  [some (.iconst 0, 0, 0, 0, 0, [], []), some (.istore_n 2, 2, 0, 0, 0, [], []), some (.iload_n 2, 2, 0, 0, 0, [], []), some (.bipush 24, 0, 0, 0, 24, [], []), none, some (.if_icmp .ge 21, 42, 0, 0, 0, [], []), none, none, some (.aload_n 0, 0, 0, 0, 0, [], []), some (.getfield 9, 4, 0, 1, 0, [], [1217]), none, none, some (.iload_n 2, 2, 0, 0, 0, [], []), some (.aload_n 1, 1, 0, 0, 0, [], []), some (.getfield 9, 4, 0, 1, 0, [], [1217]), none],
  [none, some (.iload_n 2, 2, 0, 0, 0, [], []), some (.iaload, 20, 0, 0, 0, [], []), some (.iastore, 0, 0, 0, 0, [], []), some (.iinc 2 1, 2, 0, 0, 1, [], []), none, none, some (.goto (-21), 18, 0, 0, 0, [], []), none, none, some (.return_, 0, 0, 0, 0, [], []), none, none, none, none, none]]
/-- X4_takeFrom -/
def qm_43 : qs_E := (RX4, yX4_takeFrom, cX4_takeFrom, 3, none, 1, 1, 0, qc_43, [4072, 4070, 1007, 4071])
def qc_44 : List (List (Option qs_Row)) := [[some (.aload_n 0, 0, 0, 0, 0, [], []), some (.getfield 15, 4, 1, 0, 0, [], [1219]), none, none, some (.iconst (-1), 0, 0, 0, (-1), [], []), some (.if_icmp .ne 7, 12, 0, 0, 0, [], []), none, none, some (.iconst 1, 0, 0, 0, 1, [], []), some (.goto 4, 13, 0, 0, 0, [], []), none, none, some (.iconst 0, 0, 0, 0, 0, [], []), some (.ireturn, 0, 0, 0, 0, [], []), none, none]]
/-- X4_isMissing -/
def qm_44 : qs_E := (RX4, yX4_isMissing, cX4_isMissing, 1, some .boolean, 1, 0, 2, qc_44, [3056, 3054, 1007, 3055])
def qc_45 : List (List (Option qs_Row)) := [[some (.iload_n 1, 1, 0, 0, 0, [], []), some (.ifCond .lt 15, 16, 0, 0, 0, [], []), none, none, some (.iload_n 1, 1, 0, 0, 0, [], []), some (.aload_n 0, 0, 0, 0, 0, [], []), some (.getfield 19, 4, 2, 0, 0, [], [1221]), none, none, some (.if_icmp .ge 7, 16, 0, 0, 0, [], []), none, none, some (.iconst 1, 0, 0, 0, 1, [], []), some (.goto 4, 17, 0, 0, 0, [], []), none, none],
  [some (.iconst 0, 0, 0, 0, 0, [], []), some (.ireturn, 0, 0, 0, 0, [], []), none, none, none, none, none, none, none, none, none, none, none, none, none, none]]
/-- X4_has -/
def qm_45 : qs_E := (RX4, yX4_has, cX4_has, 2, some .boolean, 1, 1, 2, qc_45, [3069, 3067, 1007, 3068])
def qc_46 : List (List (Option qs_Row)) := [[some (.iload_n 1, 1, 0, 0, 0, [], []), some (.ifCond .lt 21, 22, 0, 0, 0, [], []), none, none, some (.iload_n 2, 2, 0, 0, 0, [], []), some (.ifCond .lt 17, 22, 0, 0, 0, [], []), none, none, some (.iload_n 2, 2, 0, 0, 0, [], []), some (.aload_n 0, 0, 0, 0, 0, [], []), some (.getfield 19, 4, 2, 0, 0, [], [1221]), none, none, some (.iload_n 1, 1, 0, 0, 0, [], []), some (.isub, 0, 0, 0, 0, [], []), some (.if_icmp .gt 7, 22, 0, 0, 0, [], [])],
  [none, none, some (.iconst 1, 0, 0, 0, 1, [], []), some (.goto 4, 23, 0, 0, 0, [], []), none, none, some (.iconst 0, 0, 0, 0, 0, [], []), some (.ireturn, 0, 0, 0, 0, [], []), none, none, none, none, none, none, none, none]]
/-- X4_hasRow -/
def qm_46 : qs_E := (RX4, yX4_hasRow, cX4_hasRow, 3, some .boolean, 1, 2, 2, qc_46, [4057, 4055, 1007, 4056])
def qc_47 : List (List (Option qs_Row)) := [[some (.aload_n 0, 0, 0, 0, 0, [], []), some (.iload_n 1, 1, 0, 0, 0, [], []), some (.invokevirtual 22, 45, 10, 4, 0, [], [3066, 0]), none, none, some (.ifCond .eq 18, 23, 0, 0, 0, [], []), none, none, some (.aload_n 0, 0, 0, 0, 0, [], []), some (.getfield 9, 4, 0, 1, 0, [], [1217]), none, none, some (.iload_n 1, 1, 0, 0, 0, [], []), some (.iaload, 20, 0, 0, 0, [], []), some (.ldc 26, 0, 0, 0, (-1000000005), [], [3070]), none],
  [some (.if_icmp .eq 7, 23, 0, 0, 0, [], []), none, none, some (.iconst 1, 0, 0, 0, 1, [], []), some (.goto 4, 24, 0, 0, 0, [], []), none, none, some (.iconst 0, 0, 0, 0, 0, [], []), some (.ireturn, 0, 0, 0, 0, [], []), none, none, none, none, none, none, none]]
/-- X4_isNumber -/
def qm_47 : qs_E := (RX4, yX4_isNumber, cX4_isNumber, 2, some .boolean, 1, 1, 2, qc_47, [3065, 3063, 1007, 3064])
def qc_48 : List (List (Option qs_Row)) := [[some (.aload_n 0, 0, 0, 0, 0, [], []), some (.invokespecial 1, 1000, 0, 0, 0, [], [1234]), none, none, some (.aload_n 0, 0, 0, 0, 0, [], []), some (.new 7, 0, 0, 0, 0, [], [1235]), none, none, some (.dup, 0, 0, 0, 0, [], []), some (.invokespecial 9, 0, 0, 0, 0, [], [1236, 0]), none, none, some (.putfield 10, 5, 0, 1, 0, [], [1239]), none, none, some (.aload_n 0, 0, 0, 0, 0, [], [])],
  [some (.new 16, 4, 0, 0, 0, [], [1237]), none, none, some (.dup, 0, 0, 0, 0, [], []), some (.invokespecial 18, 41, 0, 4, 0, [], [1238, 0]), none, none, some (.putfield 19, 5, 1, 1, 0, [], [2001]), none, none, some (.return_, 0, 0, 0, 0, [], []), none, none, none, none, none]]
/-- X5_init -/
def qm_48 : qs_E := (RX5, yX5_init, cX5_init, 1, none, 2, 0, 0, qc_48, [1233, 1232, 1008])
def qc_49 : List (List (Option qs_Row)) := [[some (.aload_n 0, 0, 0, 0, 0, [], []), some (.invokespecial 3, 1000, 0, 0, 0, [], [1037]), none, none, some (.aload_n 0, 0, 0, 0, 0, [], []), some (.bipush 96, 0, 0, 0, 96, [], []), none, some (.newarray .int, 20, 0, 0, 0, [], []), none, some (.putfield 9, 6, 0, 1, 0, [], [1038]), none, none, some (.return_, 0, 0, 0, 0, [], []), none, none, none]]
/-- X6_init -/
def qm_49 : qs_E := (RX6, yX6_init, cX6_init, 1, none, 2, 0, 0, qc_49, [1036, 1035, 1003])
def qc_50 : List (List (Option qs_Row)) := [[some (.aload_n 0, 0, 0, 0, 0, [], []), some (.aload_n 1, 1, 0, 0, 0, [], []), some (.getfield 15, 6, 1, 0, 0, [], [1040]), none, none, some (.putfield 15, 6, 1, 0, 0, [], [1040]), none, none, some (.aload_n 0, 0, 0, 0, 0, [], []), some (.aload_n 1, 1, 0, 0, 0, [], []), some (.getfield 19, 6, 2, 0, 0, [], [1043]), none, none, some (.putfield 19, 6, 2, 0, 0, [], [1043]), none, none],
  [some (.aload_n 0, 0, 0, 0, 0, [], []), some (.aload_n 1, 1, 0, 0, 0, [], []), some (.getfield 22, 6, 3, 0, 0, [], [1046]), none, none, some (.putfield 22, 6, 3, 0, 0, [], [1046]), none, none, some (.iconst 0, 0, 0, 0, 0, [], []), some (.istore_n 2, 2, 0, 0, 0, [], []), some (.iload_n 2, 2, 0, 0, 0, [], []), some (.aload_n 0, 0, 0, 0, 0, [], []), some (.getfield 19, 6, 2, 0, 0, [], [1043]), none, none, some (.if_icmp .ge 27, 58, 0, 0, 0, [], [])],
  [none, none, some (.iload_n 2, 2, 0, 0, 0, [], []), some (.bipush 96, 0, 0, 0, 96, [], []), none, some (.if_icmp .ge 21, 58, 0, 0, 0, [], []), none, none, some (.aload_n 0, 0, 0, 0, 0, [], []), some (.getfield 9, 6, 0, 1, 0, [], [1038]), none, none, some (.iload_n 2, 2, 0, 0, 0, [], []), some (.aload_n 1, 1, 0, 0, 0, [], []), some (.getfield 9, 6, 0, 1, 0, [], [1038]), none],
  [none, some (.iload_n 2, 2, 0, 0, 0, [], []), some (.iaload, 20, 0, 0, 0, [], []), some (.iastore, 0, 0, 0, 0, [], []), some (.iinc 2 1, 2, 0, 0, 1, [], []), none, none, some (.goto (-29), 26, 0, 0, 0, [], []), none, none, some (.return_, 0, 0, 0, 0, [], []), none, none, none, none, none]]
/-- X6_takeFrom -/
def qm_50 : qs_E := (RX6, yX6_takeFrom, cX6_takeFrom, 3, none, 1, 1, 0, qc_50, [4014, 4012, 1003, 4013])
def qc_51 : List (List (Option qs_Row)) := [[some (.aload_n 0, 0, 0, 0, 0, [], []), some (.getfield 19, 6, 2, 0, 0, [], [1043]), none, none, some (.bipush 96, 0, 0, 0, 96, [], []), none, some (.if_icmp .lt 4, 10, 0, 0, 0, [], []), none, none, some (.return_, 0, 0, 0, 0, [], []), some (.aload_n 0, 0, 0, 0, 0, [], []), some (.getfield 9, 6, 0, 1, 0, [], [1038]), none, none, some (.aload_n 0, 0, 0, 0, 0, [], []), some (.getfield 19, 6, 2, 0, 0, [], [1043])],
  [none, none, some (.iload_n 1, 1, 0, 0, 0, [], []), some (.iastore, 0, 0, 0, 0, [], []), some (.aload_n 0, 0, 0, 0, 0, [], []), some (.dup, 0, 0, 0, 0, [], []), some (.getfield 19, 6, 2, 0, 0, [], [1043]), none, none, some (.iconst 1, 0, 0, 0, 1, [], []), some (.iadd, 0, 0, 0, 0, [], []), some (.putfield 19, 6, 2, 0, 0, [], [1043]), none, none, some (.return_, 0, 0, 0, 0, [], []), none]]
/-- X6_put -/
def qm_51 : qs_E := (RX6, yX6_put, cX6_put, 2, none, 1, 1, 0, qc_51, [3183, 3181, 1003, 3182])
def qc_52 : List (List (Option qs_Row)) := [[some (.aload_n 0, 0, 0, 0, 0, [], []), some (.invokespecial 1, 1000, 0, 0, 0, [], [1022]), none, none, some (.aload_n 0, 0, 0, 0, 0, [], []), some (.new 7, 1, 0, 0, 0, [], [1025]), none, none, some (.dup, 0, 0, 0, 0, [], []), some (.invokespecial 9, 10, 0, 1, 0, [], [1027, 0]), none, none, some (.putfield 10, 7, 0, 1, 0, [], [2014]), none, none, some (.aload_n 0, 0, 0, 0, 0, [], [])],
  [some (.new 16, 3, 0, 0, 0, [], [1067]), none, none, some (.dup, 0, 0, 0, 0, [], []), some (.invokespecial 18, 29, 0, 3, 0, [], [1069, 0]), none, none, some (.putfield 19, 7, 1, 1, 0, [], [2015]), none, none, some (.aload_n 0, 0, 0, 0, 0, [], []), some (.new 23, 2, 0, 0, 0, [], [1099]), none, none, some (.dup, 0, 0, 0, 0, [], []), some (.aload_n 0, 0, 0, 0, 0, [], [])],
  [some (.getfield 10, 7, 0, 1, 0, [], [2014]), none, none, some (.invokespecial 25, 13, 8, 2, 0, [], [1101, 0]), none, none, some (.putfield 28, 7, 2, 1, 0, [], [2016]), none, none, some (.aload_n 0, 0, 0, 0, 0, [], []), some (.new 23, 2, 0, 0, 0, [], [1099]), none, none, some (.dup, 0, 0, 0, 0, [], []), some (.aload_n 0, 0, 0, 0, 0, [], []), some (.getfield 10, 7, 0, 1, 0, [], [2014])],
  [none, none, some (.invokespecial 25, 13, 8, 2, 0, [], [1101, 0]), none, none, some (.putfield 32, 7, 3, 1, 0, [], [2017]), none, none, some (.aload_n 0, 0, 0, 0, 0, [], []), some (.new 23, 2, 0, 0, 0, [], [1099]), none, none, some (.dup, 0, 0, 0, 0, [], []), some (.aload_n 0, 0, 0, 0, 0, [], []), some (.getfield 10, 7, 0, 1, 0, [], [2014]), none],
  [none, some (.invokespecial 25, 13, 8, 2, 0, [], [1101, 0]), none, none, some (.putfield 35, 7, 4, 1, 0, [], [2018]), none, none, some (.aload_n 0, 0, 0, 0, 0, [], []), some (.iconst 4, 0, 0, 0, 4, [], []), some (.anewarray 38, 34, 0, 0, 0, [], [1208]), none, none, some (.putfield 40, 7, 6, 1, 0, [], [2020]), none, none, some (.aload_n 0, 0, 0, 0, 0, [], [])],
  [some (.iconst 5, 0, 0, 0, 5, [], []), some (.anewarray 44, 35, 0, 0, 0, [], [1210]), none, none, some (.putfield 46, 7, 7, 1, 0, [], [2021]), none, none, some (.aload_n 0, 0, 0, 0, 0, [], []), some (.bipush 60, 0, 0, 0, 60, [], []), none, some (.newarray .int, 20, 0, 0, 0, [], []), none, some (.putfield 50, 7, 8, 1, 0, [], [2022]), none, none, some (.iconst 0, 0, 0, 0, 0, [], [])],
  [some (.istore_n 1, 1, 0, 0, 0, [], []), some (.iload_n 1, 1, 0, 0, 0, [], []), some (.iconst 4, 0, 0, 0, 4, [], []), some (.if_icmp .ge 22, 121, 0, 0, 0, [], []), none, none, some (.aload_n 0, 0, 0, 0, 0, [], []), some (.getfield 40, 7, 6, 1, 0, [], [2020]), none, none, some (.iload_n 1, 1, 0, 0, 0, [], []), some (.new 38, 4, 0, 0, 0, [], [1208]), none, none, some (.dup, 0, 0, 0, 0, [], []), some (.invokespecial 54, 41, 0, 4, 0, [], [1213, 0])],
  [none, none, some (.aastore, 0, 0, 0, 0, [], []), some (.iinc 1 1, 1, 0, 0, 1, [], []), none, none, some (.goto (-21), 97, 0, 0, 0, [], []), none, none, some (.iconst 0, 0, 0, 0, 0, [], []), some (.istore_n 1, 1, 0, 0, 0, [], []), some (.iload_n 1, 1, 0, 0, 0, [], []), some (.iconst 5, 0, 0, 0, 5, [], []), some (.if_icmp .ge 22, 147, 0, 0, 0, [], []), none, none],
  [some (.aload_n 0, 0, 0, 0, 0, [], []), some (.getfield 46, 7, 7, 1, 0, [], [2021]), none, none, some (.iload_n 1, 1, 0, 0, 0, [], []), some (.new 44, 5, 0, 0, 0, [], [1210]), none, none, some (.dup, 0, 0, 0, 0, [], []), some (.invokespecial 55, 48, 0, 5, 0, [], [1231, 0]), none, none, some (.aastore, 0, 0, 0, 0, [], []), some (.iinc 1 1, 1, 0, 0, 1, [], []), none, none],
  [some (.goto (-21), 123, 0, 0, 0, [], []), none, none, some (.return_, 0, 0, 0, 0, [], []), none, none, none, none, none, none, none, none, none, none, none, none]]
/-- X7_init -/
def qm_52 : qs_E := (RX7, yX7_init, cX7_init, 2, none, 2, 0, 0, qc_52, [1021, 1020, 1001])
def qc_53 : List (List (Option qs_Row)) := [[some (.iload_n 1, 1, 0, 0, 0, [], []), some (.invokestatic 56, 99, 10, 0, 0, [], [2049, 0]), none, none, some (.ifCond .eq 31, 35, 0, 0, 0, [], []), none, none, some (.iload_n 2, 2, 0, 0, 0, [], []), some (.bipush 40, 0, 0, 0, 40, [], []), none, some (.invokestatic 60, 97, 18, 0, 0, [], [2052, 0]), none, none, some (.ifCond .eq 22, 35, 0, 0, 0, [], []), none, none],
  [some (.iload_n 3, 3, 0, 0, 0, [], []), some (.bipush 40, 0, 0, 0, 40, [], []), none, some (.invokestatic 60, 97, 18, 0, 0, [], [2052, 0]), none, none, some (.ifCond .eq 13, 35, 0, 0, 0, [], []), none, none, some (.iload 4, 4, 0, 0, 0, [], []), none, some (.bipush 9, 0, 0, 0, 9, [], []), none, some (.invokestatic 60, 97, 18, 0, 0, [], [2052, 0]), none, none],
  [some (.ifCond .ne 6, 38, 0, 0, 0, [], []), none, none, some (.ldc 64, 0, 0, 0, (-1000000001), [], [2055]), none, some (.ireturn, 0, 0, 0, 0, [], []), some (.aload_n 0, 0, 0, 0, 0, [], []), some (.getfield 28, 7, 2, 1, 0, [], [2016]), none, none, some (.getfield 65, 2, 3, 0, 0, [], [1154]), none, none, some (.bipush 8, 0, 0, 0, 8, [], []), none, some (.if_icmp .lt 6, 53, 0, 0, 0, [], [])],
  [none, none, some (.ldc 69, 0, 0, 0, (-1000000003), [], [2056]), none, some (.ireturn, 0, 0, 0, 0, [], []), some (.aload_n 0, 0, 0, 0, 0, [], []), some (.getfield 28, 7, 2, 1, 0, [], [2016]), none, none, some (.iload_n 1, 1, 0, 0, 0, [], []), some (.iload_n 2, 2, 0, 0, 0, [], []), some (.iload_n 3, 3, 0, 0, 0, [], []), some (.iload 4, 4, 0, 0, 0, [], []), none, some (.invokevirtual 70, 16, 33, 2, 0, [], [2057, 0]), none],
  [none, some (.ireturn, 0, 0, 0, 0, [], []), none, none, none, none, none, none, none, none, none, none, none, none, none, none]]
/-- X7_joint -/
def qm_53 : qs_E := (RX7, yX7_joint, cX7_joint, 5, some .int, 1, 4, 1, qc_53, [2048, 2046, 1001, 2047])
def qc_54 : List (List (Option qs_Row)) := [[some (.aload_n 0, 0, 0, 0, 0, [], []), some (.getfield 28, 7, 2, 1, 0, [], [2016]), none, none, some (.iload_n 1, 1, 0, 0, 0, [], []), some (.invokevirtual 74, 15, 10, 2, 0, [], [2070, 0]), none, none, some (.ifCond .ne 6, 14, 0, 0, 0, [], []), none, none, some (.ldc 64, 0, 0, 0, (-1000000001), [], [2055]), none, some (.ireturn, 0, 0, 0, 0, [], []), some (.aload_n 0, 0, 0, 0, 0, [], []), some (.getfield 28, 7, 2, 1, 0, [], [2016])],
  [none, none, some (.getfield 77, 2, 1, 1, 0, [], [1150]), none, none, some (.iload_n 1, 1, 0, 0, 0, [], []), some (.aaload, 0, 0, 0, 0, [], []), some (.astore_n 3, 3, 0, 0, 0, [], []), some (.iload_n 2, 2, 0, 0, 0, [], []), some (.tableswitch 122 0 12 #[67, 72, 122, 122, 122, 122, 122, 77, 82, 94, 103, 108, 117], 147, 67, 0, 0, [(0, 92), (1, 97), (2, 147), (3, 147), (4, 147), (5, 147), (6, 147), (7, 102), (8, 107), (9, 119), (10, 128), (11, 133), (12, 142)], []), none, none, none, none, none, none],
  [none, none, none, none, none, none, none, none, none, none, none, none, none, none, none, none],
  [none, none, none, none, none, none, none, none, none, none, none, none, none, none, none, none],
  [none, none, none, none, none, none, none, none, none, none, none, none, none, none, none, none],
  [none, none, none, none, none, none, none, none, none, none, none, none, some (.aload_n 3, 3, 0, 0, 0, [], []), some (.getfield 81, 0, 0, 0, 0, [], [1113]), none, none],
  [some (.ireturn, 0, 0, 0, 0, [], []), some (.aload_n 3, 3, 0, 0, 0, [], []), some (.getfield 86, 0, 1, 0, 0, [], [1116]), none, none, some (.ireturn, 0, 0, 0, 0, [], []), some (.aload_n 3, 3, 0, 0, 0, [], []), some (.getfield 89, 0, 7, 0, 0, [], [1129]), none, none, some (.ireturn, 0, 0, 0, 0, [], []), some (.aload_n 3, 3, 0, 0, 0, [], []), some (.aload_n 0, 0, 0, 0, 0, [], []), some (.getfield 28, 7, 2, 1, 0, [], [2016]), none, none],
  [some (.getfield 92, 2, 4, 0, 0, [], [1156]), none, none, some (.invokevirtual 95, 7, 9, 0, 0, [], [2074, 0]), none, none, some (.ireturn, 0, 0, 0, 0, [], []), some (.aload_n 0, 0, 0, 0, 0, [], []), some (.getfield 28, 7, 2, 1, 0, [], [2016]), none, none, some (.aload_n 3, 3, 0, 0, 0, [], []), some (.invokevirtual 99, 19, 9, 2, 0, [], [2081, 0]), none, none, some (.ireturn, 0, 0, 0, 0, [], [])],
  [some (.aload_n 3, 3, 0, 0, 0, [], []), some (.invokevirtual 103, 8, 1, 0, 0, [], [2106, 0]), none, none, some (.ireturn, 0, 0, 0, 0, [], []), some (.aload_n 0, 0, 0, 0, 0, [], []), some (.getfield 28, 7, 2, 1, 0, [], [2016]), none, none, some (.iload_n 1, 1, 0, 0, 0, [], []), some (.invokevirtual 107, 23, 9, 2, 0, [], [2111, 0]), none, none, some (.ireturn, 0, 0, 0, 0, [], []), some (.aload_n 3, 3, 0, 0, 0, [], []), some (.invokevirtual 110, 9, 1, 0, 0, [], [2120, 0])],
  [none, none, some (.ireturn, 0, 0, 0, 0, [], []), some (.iload_n 2, 2, 0, 0, 0, [], []), some (.invokestatic 113, 103, 10, 0, 0, [], [2124, 0]), none, none, some (.ifCond .eq 11, 162, 0, 0, 0, [], []), none, none, some (.aload_n 3, 3, 0, 0, 0, [], []), some (.iload_n 2, 2, 0, 0, 0, [], []), some (.invokevirtual 116, 3, 9, 0, 0, [], [2127, 0]), none, none, some (.goto 5, 164, 0, 0, 0, [], [])],
  [none, none, some (.ldc 64, 0, 0, 0, (-1000000001), [], [2055]), none, some (.ireturn, 0, 0, 0, 0, [], []), none, none, none, none, none, none, none, none, none, none, none]]
/-- X7_told -/
def qm_54 : qs_E := (RX7, yX7_told, cX7_told, 4, some .int, 1, 2, 1, qc_54, [2069, 2067, 1001, 2068])
def qc_55 : List (List (Option qs_Row)) := [[some (.aload_n 0, 0, 0, 0, 0, [], []), some (.getfield 28, 7, 2, 1, 0, [], [2016]), none, none, some (.iload_n 1, 1, 0, 0, 0, [], []), some (.invokevirtual 74, 15, 10, 2, 0, [], [2070, 0]), none, none, some (.ifCond .eq 10, 18, 0, 0, 0, [], []), none, none, some (.iload_n 2, 2, 0, 0, 0, [], []), some (.invokestatic 56, 99, 10, 0, 0, [], [2049, 0]), none, none, some (.ifCond .ne 6, 21, 0, 0, 0, [], [])],
  [none, none, some (.ldc 64, 0, 0, 0, (-1000000001), [], [2055]), none, some (.ireturn, 0, 0, 0, 0, [], []), some (.aload_n 0, 0, 0, 0, 0, [], []), some (.getfield 28, 7, 2, 1, 0, [], [2016]), none, none, some (.getfield 77, 2, 1, 1, 0, [], [1150]), none, none, some (.iload_n 1, 1, 0, 0, 0, [], []), some (.aaload, 0, 0, 0, 0, [], []), some (.astore_n 3, 3, 0, 0, 0, [], []), some (.aload_n 3, 3, 0, 0, 0, [], [])],
  [some (.getfield 81, 0, 0, 0, 0, [], [1113]), none, none, some (.iload_n 2, 2, 0, 0, 0, [], []), some (.invokestatic 119, 104, 18, 0, 0, [], [2135, 0]), none, none, some (.ifCond .eq 10, 49, 0, 0, 0, [], []), none, none, some (.aload_n 3, 3, 0, 0, 0, [], []), some (.getfield 86, 0, 1, 0, 0, [], [1116]), none, none, some (.goto 5, 51, 0, 0, 0, [], []), none],
  [none, some (.ldc 122, 0, 0, 0, (-1000000012), [], [2136]), none, some (.ireturn, 0, 0, 0, 0, [], []), none, none, none, none, none, none, none, none, none, none, none, none]]
/-- X7_as -/
def qm_55 : qs_E := (RX7, yX7_as, cX7_as, 4, some .int, 1, 2, 1, qc_55, [2134, 2132, 1001, 2133])
def qc_56 : List (List (Option qs_Row)) := [[some (.aload_n 0, 0, 0, 0, 0, [], []), some (.getfield 28, 7, 2, 1, 0, [], [2016]), none, none, some (.iload_n 1, 1, 0, 0, 0, [], []), some (.invokevirtual 74, 15, 10, 2, 0, [], [2070, 0]), none, none, some (.ifCond .eq 10, 18, 0, 0, 0, [], []), none, none, some (.iload_n 2, 2, 0, 0, 0, [], []), some (.invokestatic 56, 99, 10, 0, 0, [], [2049, 0]), none, none, some (.ifCond .ne 6, 21, 0, 0, 0, [], [])],
  [none, none, some (.ldc 64, 0, 0, 0, (-1000000001), [], [2055]), none, some (.ireturn, 0, 0, 0, 0, [], []), some (.aload_n 0, 0, 0, 0, 0, [], []), some (.getfield 28, 7, 2, 1, 0, [], [2016]), none, none, some (.getfield 77, 2, 1, 1, 0, [], [1150]), none, none, some (.iload_n 1, 1, 0, 0, 0, [], []), some (.aaload, 0, 0, 0, 0, [], []), some (.astore_n 3, 3, 0, 0, 0, [], []), some (.aload_n 3, 3, 0, 0, 0, [], [])],
  [some (.getfield 81, 0, 0, 0, 0, [], [1113]), none, none, some (.istore 4, 4, 0, 0, 0, [], []), none, some (.aload_n 3, 3, 0, 0, 0, [], []), some (.iload_n 2, 2, 0, 0, 0, [], []), some (.putfield 81, 0, 0, 0, 0, [], [1113]), none, none, some (.iload 4, 4, 0, 0, 0, [], []), none, some (.ireturn, 0, 0, 0, 0, [], []), none, none, none]]
/-- X7_turns -/
def qm_56 : qs_E := (RX7, yX7_turns, cX7_turns, 5, some .int, 1, 2, 1, qc_56, [2140, 2138, 1001, 2139])
def qc_57 : List (List (Option qs_Row)) := [[some (.aload_n 0, 0, 0, 0, 0, [], []), some (.getfield 28, 7, 2, 1, 0, [], [2016]), none, none, some (.iload_n 1, 1, 0, 0, 0, [], []), some (.invokevirtual 74, 15, 10, 2, 0, [], [2070, 0]), none, none, some (.ifCond .eq 29, 37, 0, 0, 0, [], []), none, none, some (.iload_n 2, 2, 0, 0, 0, [], []), some (.invokestatic 113, 103, 10, 0, 0, [], [2124, 0]), none, none, some (.ifCond .eq 22, 37, 0, 0, 0, [], [])],
  [none, none, some (.iload_n 3, 3, 0, 0, 0, [], []), some (.iload_n 2, 2, 0, 0, 0, [], []), some (.iconst 2, 0, 0, 0, 2, [], []), some (.if_icmp .ne 8, 29, 0, 0, 0, [], []), none, none, some (.bipush 40, 0, 0, 0, 40, [], []), none, some (.goto 5, 31, 0, 0, 0, [], []), none, none, some (.bipush 9, 0, 0, 0, 9, [], []), none, some (.invokestatic 60, 97, 18, 0, 0, [], [2052, 0])],
  [none, none, some (.ifCond .ne 6, 40, 0, 0, 0, [], []), none, none, some (.ldc 64, 0, 0, 0, (-1000000001), [], [2055]), none, some (.ireturn, 0, 0, 0, 0, [], []), some (.aload_n 0, 0, 0, 0, 0, [], []), some (.getfield 28, 7, 2, 1, 0, [], [2016]), none, none, some (.getfield 77, 2, 1, 1, 0, [], [1150]), none, none, some (.iload_n 1, 1, 0, 0, 0, [], [])],
  [some (.aaload, 0, 0, 0, 0, [], []), some (.astore 4, 4, 0, 0, 0, [], []), none, some (.aload 4, 4, 0, 0, 0, [], []), none, some (.iload_n 2, 2, 0, 0, 0, [], []), some (.invokevirtual 116, 3, 9, 0, 0, [], [2127, 0]), none, none, some (.istore 5, 5, 0, 0, 0, [], []), none, some (.aload 4, 4, 0, 0, 0, [], []), none, some (.iload_n 2, 2, 0, 0, 0, [], []), some (.iload_n 3, 3, 0, 0, 0, [], []), some (.invokevirtual 123, 4, 16, 0, 0, [], [2145, 0])],
  [none, none, some (.iload 5, 5, 0, 0, 0, [], []), none, some (.ireturn, 0, 0, 0, 0, [], []), none, none, none, none, none, none, none, none, none, none, none]]
/-- X7_set -/
def qm_57 : qs_E := (RX7, yX7_set, cX7_set, 6, some .int, 1, 3, 1, qc_57, [2144, 2142, 1001, 2143])
def qc_58 : List (List (Option qs_Row)) := [[some (.aload_n 0, 0, 0, 0, 0, [], []), some (.getfield 28, 7, 2, 1, 0, [], [2016]), none, none, some (.iload_n 1, 1, 0, 0, 0, [], []), some (.invokevirtual 74, 15, 10, 2, 0, [], [2070, 0]), none, none, some (.ifCond .eq 19, 27, 0, 0, 0, [], []), none, none, some (.iload_n 2, 2, 0, 0, 0, [], []), some (.bipush (-9), 0, 0, 0, (-9), [], []), none, some (.if_icmp .lt 13, 27, 0, 0, 0, [], []), none],
  [none, some (.iload_n 2, 2, 0, 0, 0, [], []), some (.bipush 9, 0, 0, 0, 9, [], []), none, some (.if_icmp .gt 7, 27, 0, 0, 0, [], []), none, none, some (.iload_n 2, 2, 0, 0, 0, [], []), some (.ifCond .ne 6, 30, 0, 0, 0, [], []), none, none, some (.ldc 64, 0, 0, 0, (-1000000001), [], [2055]), none, some (.ireturn, 0, 0, 0, 0, [], []), some (.aload_n 0, 0, 0, 0, 0, [], []), some (.getfield 28, 7, 2, 1, 0, [], [2016])],
  [none, none, some (.getfield 77, 2, 1, 1, 0, [], [1150]), none, none, some (.iload_n 1, 1, 0, 0, 0, [], []), some (.aaload, 0, 0, 0, 0, [], []), some (.astore_n 3, 3, 0, 0, 0, [], []), some (.iload_n 2, 2, 0, 0, 0, [], []), some (.ifCond .ge 8, 49, 0, 0, 0, [], []), none, none, some (.aload_n 3, 3, 0, 0, 0, [], []), some (.iload_n 2, 2, 0, 0, 0, [], []), some (.invokevirtual 127, 5, 8, 0, 0, [], [2153, 0]), none],
  [none, some (.iconst 0, 0, 0, 0, 0, [], []), some (.istore 4, 4, 0, 0, 0, [], []), none, some (.iload 4, 4, 0, 0, 0, [], []), none, some (.iload_n 2, 2, 0, 0, 0, [], []), some (.if_icmp .ge 17, 72, 0, 0, 0, [], []), none, none, some (.aload_n 0, 0, 0, 0, 0, [], []), some (.getfield 28, 7, 2, 1, 0, [], [2016]), none, none, some (.aload_n 3, 3, 0, 0, 0, [], []), some (.invokevirtual 131, 18, 8, 2, 0, [], [2158, 0])],
  [none, none, some (.iinc 4 1, 4, 0, 0, 1, [], []), none, none, some (.goto (-17), 52, 0, 0, 0, [], []), none, none, some (.aload_n 3, 3, 0, 0, 0, [], []), some (.getfield 86, 0, 1, 0, 0, [], [1116]), none, none, some (.ireturn, 0, 0, 0, 0, [], []), none, none, none]]
/-- X7_turn -/
def qm_58 : qs_E := (RX7, yX7_turn, cX7_turn, 5, some .int, 1, 2, 1, qc_58, [2152, 2150, 1001, 2151])
def qc_59 : List (List (Option qs_Row)) := [[some (.iload_n 1, 1, 0, 0, 0, [], []), some (.iconst 2, 0, 0, 0, 2, [], []), some (.invokestatic 60, 97, 18, 0, 0, [], [2052, 0]), none, none, some (.ifCond .eq 31, 36, 0, 0, 0, [], []), none, none, some (.iload_n 2, 2, 0, 0, 0, [], []), some (.iload_n 1, 1, 0, 0, 0, [], []), some (.ifCond .ne 7, 17, 0, 0, 0, [], []), none, none, some (.iconst 1, 0, 0, 0, 1, [], []), some (.goto 16, 30, 0, 0, 0, [], []), none],
  [none, some (.iload_n 1, 1, 0, 0, 0, [], []), some (.iconst 1, 0, 0, 0, 1, [], []), some (.if_icmp .ne 8, 27, 0, 0, 0, [], []), none, none, some (.bipush 100, 0, 0, 0, 100, [], []), none, some (.goto 6, 30, 0, 0, 0, [], []), none, none, some (.sipush 9999, 0, 0, 0, 9999, [], []), none, none, some (.invokestatic 60, 97, 18, 0, 0, [], [2052, 0]), none],
  [none, some (.ifCond .ne 6, 39, 0, 0, 0, [], []), none, none, some (.ldc 64, 0, 0, 0, (-1000000001), [], [2055]), none, some (.ireturn, 0, 0, 0, 0, [], []), some (.iload_n 1, 1, 0, 0, 0, [], []), some (.ifCond .ne 22, 62, 0, 0, 0, [], []), none, none, some (.aload_n 0, 0, 0, 0, 0, [], []), some (.getfield 28, 7, 2, 1, 0, [], [2016]), none, none, some (.getfield 92, 2, 4, 0, 0, [], [1156])],
  [none, none, some (.istore_n 3, 3, 0, 0, 0, [], []), some (.aload_n 0, 0, 0, 0, 0, [], []), some (.getfield 28, 7, 2, 1, 0, [], [2016]), none, none, some (.iload_n 2, 2, 0, 0, 0, [], []), some (.putfield 92, 2, 4, 0, 0, [], [1156]), none, none, some (.goto 43, 102, 0, 0, 0, [], []), none, none, some (.iload_n 1, 1, 0, 0, 0, [], []), some (.iconst 1, 0, 0, 0, 1, [], [])],
  [some (.if_icmp .ne 22, 86, 0, 0, 0, [], []), none, none, some (.aload_n 0, 0, 0, 0, 0, [], []), some (.getfield 28, 7, 2, 1, 0, [], [2016]), none, none, some (.getfield 135, 2, 5, 0, 0, [], [1158]), none, none, some (.istore_n 3, 3, 0, 0, 0, [], []), some (.aload_n 0, 0, 0, 0, 0, [], []), some (.getfield 28, 7, 2, 1, 0, [], [2016]), none, none, some (.iload_n 2, 2, 0, 0, 0, [], [])],
  [some (.putfield 135, 2, 5, 0, 0, [], [1158]), none, none, some (.goto 19, 102, 0, 0, 0, [], []), none, none, some (.aload_n 0, 0, 0, 0, 0, [], []), some (.getfield 28, 7, 2, 1, 0, [], [2016]), none, none, some (.getfield 138, 2, 6, 0, 0, [], [1160]), none, none, some (.istore_n 3, 3, 0, 0, 0, [], []), some (.aload_n 0, 0, 0, 0, 0, [], []), some (.getfield 28, 7, 2, 1, 0, [], [2016])],
  [none, none, some (.iload_n 2, 2, 0, 0, 0, [], []), some (.putfield 138, 2, 6, 0, 0, [], [1160]), none, none, some (.iload_n 3, 3, 0, 0, 0, [], []), some (.ireturn, 0, 0, 0, 0, [], []), none, none, none, none, none, none, none, none]]
/-- X7_rule -/
def qm_59 : qs_E := (RX7, yX7_rule, cX7_rule, 4, some .int, 1, 2, 1, qc_59, [2172, 2170, 1001, 2171])
def qc_60 : List (List (Option qs_Row)) := [[some (.aload_n 0, 0, 0, 0, 0, [], []), some (.getfield 28, 7, 2, 1, 0, [], [2016]), none, none, some (.getfield 141, 2, 8, 0, 0, [], [1164]), none, none, some (.istore_n 1, 1, 0, 0, 0, [], []), some (.aload_n 0, 0, 0, 0, 0, [], []), some (.getfield 28, 7, 2, 1, 0, [], [2016]), none, none, some (.iconst 0, 0, 0, 0, 0, [], []), some (.putfield 141, 2, 8, 0, 0, [], [1164]), none, none],
  [some (.iload_n 1, 1, 0, 0, 0, [], []), some (.ireturn, 0, 0, 0, 0, [], []), none, none, none, none, none, none, none, none, none, none, none, none, none, none]]
/-- X7_empty -/
def qm_60 : qs_E := (RX7, yX7_empty, cX7_empty, 2, some .int, 1, 0, 1, qc_60, [2176, 2174, 1001, 2175])
def qc_61 : List (List (Option qs_Row)) := [[some (.iload_n 1, 1, 0, 0, 0, [], []), some (.iconst 1, 0, 0, 0, 1, [], []), some (.if_icmp .lt 9, 11, 0, 0, 0, [], []), none, none, some (.iload_n 1, 1, 0, 0, 0, [], []), some (.bipush 8, 0, 0, 0, 8, [], []), none, some (.if_icmp .le 6, 14, 0, 0, 0, [], []), none, none, some (.ldc 64, 0, 0, 0, (-1000000001), [], [2055]), none, some (.ireturn, 0, 0, 0, 0, [], []), some (.iload_n 1, 1, 0, 0, 0, [], []), some (.bipush 8, 0, 0, 0, 8, [], [])],
  [none, some (.aload_n 0, 0, 0, 0, 0, [], []), some (.getfield 28, 7, 2, 1, 0, [], [2016]), none, none, some (.getfield 65, 2, 3, 0, 0, [], [1154]), none, none, some (.isub, 0, 0, 0, 0, [], []), some (.invokestatic 144, 1003, 0, 0, 0, [], [2181]), none, none, some (.istore_n 2, 2, 0, 0, 0, [], []), some (.iconst 0, 0, 0, 0, 0, [], []), some (.istore_n 3, 3, 0, 0, 0, [], []), some (.iload_n 3, 3, 0, 0, 0, [], [])],
  [some (.iload_n 2, 2, 0, 0, 0, [], []), some (.if_icmp .ge 73, 106, 0, 0, 0, [], []), none, none, some (.aload_n 0, 0, 0, 0, 0, [], []), some (.getfield 28, 7, 2, 1, 0, [], [2016]), none, none, some (.invokevirtual 150, 17, 1, 2, 0, [], [2184, 0]), none, none, some (.bipush 6, 0, 0, 0, 6, [], []), none, some (.irem, 0, 0, 0, 0, [], []), some (.istore 4, 4, 0, 0, 0, [], []), none],
  [some (.aload_n 0, 0, 0, 0, 0, [], []), some (.getfield 28, 7, 2, 1, 0, [], [2016]), none, none, some (.invokevirtual 150, 17, 1, 2, 0, [], [2184, 0]), none, none, some (.bipush 20, 0, 0, 0, 20, [], []), none, some (.irem, 0, 0, 0, 0, [], []), some (.istore 5, 5, 0, 0, 0, [], []), none, some (.aload_n 0, 0, 0, 0, 0, [], []), some (.getfield 28, 7, 2, 1, 0, [], [2016]), none, none],
  [some (.invokevirtual 150, 17, 1, 2, 0, [], [2184, 0]), none, none, some (.bipush 30, 0, 0, 0, 30, [], []), none, some (.irem, 0, 0, 0, 0, [], []), some (.istore 6, 6, 0, 0, 0, [], []), none, some (.aload_n 0, 0, 0, 0, 0, [], []), some (.getfield 28, 7, 2, 1, 0, [], [2016]), none, none, some (.invokevirtual 150, 17, 1, 2, 0, [], [2184, 0]), none, none, some (.bipush 10, 0, 0, 0, 10, [], [])],
  [none, some (.irem, 0, 0, 0, 0, [], []), some (.istore 7, 7, 0, 0, 0, [], []), none, some (.aload_n 0, 0, 0, 0, 0, [], []), some (.getfield 28, 7, 2, 1, 0, [], [2016]), none, none, some (.iload 4, 4, 0, 0, 0, [], []), none, some (.iload 5, 5, 0, 0, 0, [], []), none, some (.iload 6, 6, 0, 0, 0, [], []), none, some (.iload 7, 7, 0, 0, 0, [], []), none],
  [some (.invokevirtual 70, 16, 33, 2, 0, [], [2057, 0]), none, none, some (.pop, 0, 0, 0, 0, [], []), some (.iinc 3 1, 3, 0, 0, 1, [], []), none, none, some (.goto (-72), 31, 0, 0, 0, [], []), none, none, some (.iload_n 2, 2, 0, 0, 0, [], []), some (.ireturn, 0, 0, 0, 0, [], []), none, none, none, none]]
/-- X7_deal -/
def qm_61 : qs_E := (RX7, yX7_deal, cX7_deal, 8, some .int, 1, 1, 1, qc_61, [2180, 2178, 1001, 2179])
def qc_62 : List (List (Option qs_Row)) := [[some (.aload_n 0, 0, 0, 0, 0, [], []), some (.getfield 28, 7, 2, 1, 0, [], [2016]), none, none, some (.getfield 153, 2, 13, 0, 0, [], [1174]), none, none, some (.istore_n 2, 2, 0, 0, 0, [], []), some (.aload_n 0, 0, 0, 0, 0, [], []), some (.getfield 28, 7, 2, 1, 0, [], [2016]), none, none, some (.iload_n 1, 1, 0, 0, 0, [], []), some (.putfield 153, 2, 13, 0, 0, [], [1174]), none, none],
  [some (.iload_n 2, 2, 0, 0, 0, [], []), some (.ireturn, 0, 0, 0, 0, [], []), none, none, none, none, none, none, none, none, none, none, none, none, none, none]]
/-- X7_seed -/
def qm_62 : qs_E := (RX7, yX7_seed, cX7_seed, 3, some .int, 1, 1, 1, qc_62, [2188, 2186, 1001, 2187])
def qc_63 : List (List (Option qs_Row)) := [[some (.iload_n 1, 1, 0, 0, 0, [], []), some (.iconst 1, 0, 0, 0, 1, [], []), some (.if_icmp .lt 9, 11, 0, 0, 0, [], []), none, none, some (.iload_n 1, 1, 0, 0, 0, [], []), some (.bipush 100, 0, 0, 0, 100, [], []), none, some (.if_icmp .le 6, 14, 0, 0, 0, [], []), none, none, some (.ldc 64, 0, 0, 0, (-1000000001), [], [2055]), none, some (.ireturn, 0, 0, 0, 0, [], []), some (.aload_n 0, 0, 0, 0, 0, [], []), some (.getfield 28, 7, 2, 1, 0, [], [2016])],
  [none, none, some (.getfield 156, 2, 7, 0, 0, [], [1162]), none, none, some (.istore_n 2, 2, 0, 0, 0, [], []), some (.aload_n 0, 0, 0, 0, 0, [], []), some (.getfield 28, 7, 2, 1, 0, [], [2016]), none, none, some (.iload_n 1, 1, 0, 0, 0, [], []), some (.sipush 9999, 0, 0, 0, 9999, [], []), none, none, some (.aload_n 0, 0, 0, 0, 0, [], []), some (.getfield 28, 7, 2, 1, 0, [], [2016])],
  [none, none, some (.getfield 159, 2, 12, 0, 0, [], [1172]), none, none, some (.isub, 0, 0, 0, 0, [], []), some (.invokestatic 144, 1003, 0, 0, 0, [], [2181]), none, none, some (.invokevirtual 162, 25, 8, 2, 0, [], [2193, 0]), none, none, some (.aload_n 0, 0, 0, 0, 0, [], []), some (.getfield 28, 7, 2, 1, 0, [], [2016]), none, none],
  [some (.getfield 156, 2, 7, 0, 0, [], [1162]), none, none, some (.iload_n 2, 2, 0, 0, 0, [], []), some (.isub, 0, 0, 0, 0, [], []), some (.ireturn, 0, 0, 0, 0, [], []), none, none, none, none, none, none, none, none, none, none]]
/-- X7_hours -/
def qm_63 : qs_E := (RX7, yX7_hours, cX7_hours, 3, some .int, 1, 1, 1, qc_63, [2192, 2190, 1001, 2191])
def qc_64 : List (List (Option qs_Row)) := [[some (.iload_n 1, 1, 0, 0, 0, [], []), some (.tableswitch 123 0 8 #[51, 59, 67, 75, 83, 91, 99, 107, 115], 124, 51, 0, 0, [(0, 52), (1, 60), (2, 68), (3, 76), (4, 84), (5, 92), (6, 100), (7, 108), (8, 116)], []), none, none, none, none, none, none, none, none, none, none, none, none, none, none],
  [none, none, none, none, none, none, none, none, none, none, none, none, none, none, none, none],
  [none, none, none, none, none, none, none, none, none, none, none, none, none, none, none, none],
  [none, none, none, none, some (.aload_n 0, 0, 0, 0, 0, [], []), some (.getfield 28, 7, 2, 1, 0, [], [2016]), none, none, some (.getfield 156, 2, 7, 0, 0, [], [1162]), none, none, some (.ireturn, 0, 0, 0, 0, [], []), some (.aload_n 0, 0, 0, 0, 0, [], []), some (.getfield 28, 7, 2, 1, 0, [], [2016]), none, none],
  [some (.getfield 141, 2, 8, 0, 0, [], [1164]), none, none, some (.ireturn, 0, 0, 0, 0, [], []), some (.aload_n 0, 0, 0, 0, 0, [], []), some (.getfield 28, 7, 2, 1, 0, [], [2016]), none, none, some (.getfield 165, 2, 9, 0, 0, [], [1166]), none, none, some (.ireturn, 0, 0, 0, 0, [], []), some (.aload_n 0, 0, 0, 0, 0, [], []), some (.getfield 28, 7, 2, 1, 0, [], [2016]), none, none],
  [some (.getfield 168, 2, 10, 0, 0, [], [1168]), none, none, some (.ireturn, 0, 0, 0, 0, [], []), some (.aload_n 0, 0, 0, 0, 0, [], []), some (.getfield 28, 7, 2, 1, 0, [], [2016]), none, none, some (.getfield 171, 2, 11, 0, 0, [], [1170]), none, none, some (.ireturn, 0, 0, 0, 0, [], []), some (.aload_n 0, 0, 0, 0, 0, [], []), some (.getfield 28, 7, 2, 1, 0, [], [2016]), none, none],
  [some (.getfield 92, 2, 4, 0, 0, [], [1156]), none, none, some (.ireturn, 0, 0, 0, 0, [], []), some (.aload_n 0, 0, 0, 0, 0, [], []), some (.getfield 28, 7, 2, 1, 0, [], [2016]), none, none, some (.invokevirtual 174, 20, 1, 2, 0, [], [2215, 0]), none, none, some (.ireturn, 0, 0, 0, 0, [], []), some (.aload_n 0, 0, 0, 0, 0, [], []), some (.getfield 28, 7, 2, 1, 0, [], [2016]), none, none],
  [some (.invokevirtual 177, 22, 1, 2, 0, [], [2219, 0]), none, none, some (.ireturn, 0, 0, 0, 0, [], []), some (.aload_n 0, 0, 0, 0, 0, [], []), some (.getfield 28, 7, 2, 1, 0, [], [2016]), none, none, some (.invokevirtual 180, 21, 1, 2, 0, [], [2223, 0]), none, none, some (.ireturn, 0, 0, 0, 0, [], []), some (.ldc 64, 0, 0, 0, (-1000000001), [], [2055]), none, some (.ireturn, 0, 0, 0, 0, [], []), none]]
/-- X7_sink -/
def qm_64 : qs_E := (RX7, yX7_sink, cX7_sink, 2, some .int, 1, 1, 1, qc_64, [2214, 2212, 1001, 2213])
def qc_65 : List (List (Option qs_Row)) := [[some (.aload_n 0, 0, 0, 0, 0, [], []), some (.getfield 28, 7, 2, 1, 0, [], [2016]), none, none, some (.iload_n 1, 1, 0, 0, 0, [], []), some (.invokevirtual 74, 15, 10, 2, 0, [], [2070, 0]), none, none, some (.ifCond .ne 6, 14, 0, 0, 0, [], []), none, none, some (.ldc 64, 0, 0, 0, (-1000000001), [], [2055]), none, some (.ireturn, 0, 0, 0, 0, [], []), some (.iconst 0, 0, 0, 0, 0, [], []), some (.istore_n 2, 2, 0, 0, 0, [], [])],
  [some (.iconst 0, 0, 0, 0, 0, [], []), some (.istore_n 3, 3, 0, 0, 0, [], []), some (.iload_n 3, 3, 0, 0, 0, [], []), some (.aload_n 0, 0, 0, 0, 0, [], []), some (.getfield 28, 7, 2, 1, 0, [], [2016]), none, none, some (.getfield 65, 2, 3, 0, 0, [], [1154]), none, none, some (.if_icmp .ge 40, 66, 0, 0, 0, [], []), none, none, some (.aload_n 0, 0, 0, 0, 0, [], []), some (.getfield 28, 7, 2, 1, 0, [], [2016]), none],
  [none, some (.iload_n 3, 3, 0, 0, 0, [], []), some (.invokevirtual 107, 23, 9, 2, 0, [], [2111, 0]), none, none, some (.iload_n 1, 1, 0, 0, 0, [], []), some (.if_icmp .ne 22, 60, 0, 0, 0, [], []), none, none, some (.iload_n 2, 2, 0, 0, 0, [], []), some (.aload_n 0, 0, 0, 0, 0, [], []), some (.getfield 28, 7, 2, 1, 0, [], [2016]), none, none, some (.aload_n 0, 0, 0, 0, 0, [], []), some (.getfield 28, 7, 2, 1, 0, [], [2016])],
  [none, none, some (.getfield 77, 2, 1, 1, 0, [], [1150]), none, none, some (.iload_n 3, 3, 0, 0, 0, [], []), some (.aaload, 0, 0, 0, 0, [], []), some (.invokevirtual 99, 19, 9, 2, 0, [], [2081, 0]), none, none, some (.iadd, 0, 0, 0, 0, [], []), some (.istore_n 2, 2, 0, 0, 0, [], []), some (.iinc 3 1, 3, 0, 0, 1, [], []), none, none, some (.goto (-45), 18, 0, 0, 0, [], [])],
  [none, none, some (.iload_n 2, 2, 0, 0, 0, [], []), some (.ireturn, 0, 0, 0, 0, [], []), none, none, none, none, none, none, none, none, none, none, none, none]]
/-- X7_seen -/
def qm_65 : qs_E := (RX7, yX7_seen, cX7_seen, 4, some .int, 1, 1, 1, qc_65, [2230, 2228, 1001, 2229])
def qc_66 : List (List (Option qs_Row)) := [[some (.aload_n 0, 0, 0, 0, 0, [], []), some (.getfield 28, 7, 2, 1, 0, [], [2016]), none, none, some (.iload_n 1, 1, 0, 0, 0, [], []), some (.invokevirtual 74, 15, 10, 2, 0, [], [2070, 0]), none, none, some (.ifCond .ne 6, 14, 0, 0, 0, [], []), none, none, some (.ldc 64, 0, 0, 0, (-1000000001), [], [2055]), none, some (.ireturn, 0, 0, 0, 0, [], []), some (.iconst 0, 0, 0, 0, 0, [], []), some (.istore_n 2, 2, 0, 0, 0, [], [])],
  [some (.iconst 0, 0, 0, 0, 0, [], []), some (.istore_n 3, 3, 0, 0, 0, [], []), some (.iload_n 3, 3, 0, 0, 0, [], []), some (.aload_n 0, 0, 0, 0, 0, [], []), some (.getfield 28, 7, 2, 1, 0, [], [2016]), none, none, some (.getfield 65, 2, 3, 0, 0, [], [1154]), none, none, some (.if_icmp .ge 27, 53, 0, 0, 0, [], []), none, none, some (.aload_n 0, 0, 0, 0, 0, [], []), some (.getfield 28, 7, 2, 1, 0, [], [2016]), none],
  [none, some (.iload_n 3, 3, 0, 0, 0, [], []), some (.invokevirtual 107, 23, 9, 2, 0, [], [2111, 0]), none, none, some (.iload_n 1, 1, 0, 0, 0, [], []), some (.if_icmp .ne 9, 47, 0, 0, 0, [], []), none, none, some (.iload_n 2, 2, 0, 0, 0, [], []), some (.iconst 1, 0, 0, 0, 1, [], []), some (.iload_n 3, 3, 0, 0, 0, [], []), some (.ishl, 0, 0, 0, 0, [], []), some (.ior, 0, 0, 0, 0, [], []), some (.istore_n 2, 2, 0, 0, 0, [], []), some (.iinc 3 1, 3, 0, 0, 1, [], [])],
  [none, none, some (.goto (-32), 18, 0, 0, 0, [], []), none, none, some (.iload_n 2, 2, 0, 0, 0, [], []), some (.ireturn, 0, 0, 0, 0, [], []), none, none, none, none, none, none, none, none, none]]
/-- X7_from -/
def qm_66 : qs_E := (RX7, yX7_from, cX7_from, 4, some .int, 1, 1, 1, qc_66, [2234, 2232, 1001, 2233])
def qc_67 : List (List (Option qs_Row)) := [[some (.aload_n 0, 0, 0, 0, 0, [], []), some (.getfield 28, 7, 2, 1, 0, [], [2016]), none, none, some (.iload_n 1, 1, 0, 0, 0, [], []), some (.invokevirtual 74, 15, 10, 2, 0, [], [2070, 0]), none, none, some (.ifCond .eq 11, 19, 0, 0, 0, [], []), none, none, some (.iload_n 2, 2, 0, 0, 0, [], []), some (.iconst 1, 0, 0, 0, 1, [], []), some (.invokestatic 60, 97, 18, 0, 0, [], [2052, 0]), none, none],
  [some (.ifCond .ne 6, 22, 0, 0, 0, [], []), none, none, some (.ldc 64, 0, 0, 0, (-1000000001), [], [2055]), none, some (.ireturn, 0, 0, 0, 0, [], []), some (.ldc 183, 0, 0, 0, (-1000000005), [], [2239]), none, some (.istore_n 3, 3, 0, 0, 0, [], []), some (.iconst 0, 0, 0, 0, 0, [], []), some (.istore 4, 4, 0, 0, 0, [], []), none, some (.bipush (-9), 0, 0, 0, (-9), [], []), none, some (.istore 5, 5, 0, 0, 0, [], []), none],
  [some (.iload 5, 5, 0, 0, 0, [], []), none, some (.bipush 9, 0, 0, 0, 9, [], []), none, some (.if_icmp .gt 63, 99, 0, 0, 0, [], []), none, none, some (.aload_n 0, 0, 0, 0, 0, [], []), some (.getfield 35, 7, 4, 1, 0, [], [2018]), none, none, some (.aload_n 0, 0, 0, 0, 0, [], []), some (.getfield 28, 7, 2, 1, 0, [], [2016]), none, none, some (.invokevirtual 184, 14, 8, 2, 0, [], [3000, 0])],
  [none, none, some (.aload_n 0, 0, 0, 0, 0, [], []), some (.getfield 35, 7, 4, 1, 0, [], [2018]), none, none, some (.getfield 77, 2, 1, 1, 0, [], [1150]), none, none, some (.iload_n 1, 1, 0, 0, 0, [], []), some (.aaload, 0, 0, 0, 0, [], []), some (.iload 5, 5, 0, 0, 0, [], []), none, some (.invokevirtual 127, 5, 8, 0, 0, [], [2153, 0]), none, none],
  [some (.aload_n 0, 0, 0, 0, 0, [], []), some (.getfield 35, 7, 4, 1, 0, [], [2018]), none, none, some (.invokevirtual 174, 20, 1, 2, 0, [], [2215, 0]), none, none, some (.istore 6, 6, 0, 0, 0, [], []), none, some (.iload_n 3, 3, 0, 0, 0, [], []), some (.ldc 183, 0, 0, 0, (-1000000005), [], [2239]), none, some (.if_icmp .eq 10, 86, 0, 0, 0, [], []), none, none, some (.iload 6, 6, 0, 0, 0, [], [])],
  [none, some (.iload 4, 4, 0, 0, 0, [], []), none, some (.if_icmp .ge 10, 93, 0, 0, 0, [], []), none, none, some (.iload 5, 5, 0, 0, 0, [], []), none, some (.istore_n 3, 3, 0, 0, 0, [], []), some (.iload 6, 6, 0, 0, 0, [], []), none, some (.istore 4, 4, 0, 0, 0, [], []), none, some (.iinc 5 1, 5, 0, 0, 1, [], []), none, none],
  [some (.goto (-64), 32, 0, 0, 0, [], []), none, none, some (.iload_n 2, 2, 0, 0, 0, [], []), some (.ifCond .ne 7, 107, 0, 0, 0, [], []), none, none, some (.iload_n 3, 3, 0, 0, 0, [], []), some (.goto 5, 109, 0, 0, 0, [], []), none, none, some (.iload 4, 4, 0, 0, 0, [], []), none, some (.ireturn, 0, 0, 0, 0, [], []), none, none]]
/-- X7_quarter -/
def qm_67 : qs_E := (RX7, yX7_quarter, cX7_quarter, 7, some .int, 1, 2, 1, qc_67, [2238, 2236, 1001, 2237])
def qc_68 : List (List (Option qs_Row)) := [[some (.iload_n 1, 1, 0, 0, 0, [], []), some (.bipush 100, 0, 0, 0, 100, [], []), none, some (.invokestatic 60, 97, 18, 0, 0, [], [2052, 0]), none, none, some (.ifCond .eq 25, 31, 0, 0, 0, [], []), none, none, some (.iload_n 2, 2, 0, 0, 0, [], []), some (.ifCond .lt 21, 31, 0, 0, 0, [], []), none, none, some (.iload_n 2, 2, 0, 0, 0, [], []), some (.iconst 2, 0, 0, 0, 2, [], []), some (.if_icmp .le 19, 34, 0, 0, 0, [], [])],
  [none, none, some (.aload_n 0, 0, 0, 0, 0, [], []), some (.getfield 28, 7, 2, 1, 0, [], [2016]), none, none, some (.iload_n 2, 2, 0, 0, 0, [], []), some (.iconst 3, 0, 0, 0, 3, [], []), some (.isub, 0, 0, 0, 0, [], []), some (.invokevirtual 74, 15, 10, 2, 0, [], [2070, 0]), none, none, some (.ifCond .ne 6, 34, 0, 0, 0, [], []), none, none, some (.ldc 64, 0, 0, 0, (-1000000001), [], [2055])],
  [none, some (.ireturn, 0, 0, 0, 0, [], []), some (.aload_n 0, 0, 0, 0, 0, [], []), some (.getfield 35, 7, 4, 1, 0, [], [2018]), none, none, some (.aload_n 0, 0, 0, 0, 0, [], []), some (.getfield 28, 7, 2, 1, 0, [], [2016]), none, none, some (.invokevirtual 184, 14, 8, 2, 0, [], [3000, 0]), none, none, some (.aload_n 0, 0, 0, 0, 0, [], []), some (.getfield 35, 7, 4, 1, 0, [], [2018]), none],
  [none, some (.iload_n 1, 1, 0, 0, 0, [], []), some (.invokevirtual 162, 25, 8, 2, 0, [], [2193, 0]), none, none, some (.iload_n 2, 2, 0, 0, 0, [], []), some (.tableswitch 50 0 2 #[26, 34, 42], 104, 26, 0, 0, [(0, 80), (1, 88), (2, 96)], []), none, none, none, none, none, none, none, none, none],
  [none, none, none, none, none, none, none, none, none, none, none, none, none, none, none, none],
  [some (.aload_n 0, 0, 0, 0, 0, [], []), some (.getfield 35, 7, 4, 1, 0, [], [2018]), none, none, some (.getfield 156, 2, 7, 0, 0, [], [1162]), none, none, some (.ireturn, 0, 0, 0, 0, [], []), some (.aload_n 0, 0, 0, 0, 0, [], []), some (.getfield 35, 7, 4, 1, 0, [], [2018]), none, none, some (.getfield 165, 2, 9, 0, 0, [], [1166]), none, none, some (.ireturn, 0, 0, 0, 0, [], [])],
  [some (.aload_n 0, 0, 0, 0, 0, [], []), some (.getfield 35, 7, 4, 1, 0, [], [2018]), none, none, some (.getfield 141, 2, 8, 0, 0, [], [1164]), none, none, some (.ireturn, 0, 0, 0, 0, [], []), some (.aload_n 0, 0, 0, 0, 0, [], []), some (.getfield 35, 7, 4, 1, 0, [], [2018]), none, none, some (.aload_n 0, 0, 0, 0, 0, [], []), some (.getfield 35, 7, 4, 1, 0, [], [2018]), none, none],
  [some (.getfield 77, 2, 1, 1, 0, [], [1150]), none, none, some (.iload_n 2, 2, 0, 0, 0, [], []), some (.iconst 3, 0, 0, 0, 3, [], []), some (.isub, 0, 0, 0, 0, [], []), some (.aaload, 0, 0, 0, 0, [], []), some (.invokevirtual 99, 19, 9, 2, 0, [], [2081, 0]), none, none, some (.ireturn, 0, 0, 0, 0, [], []), none, none, none, none, none]]
/-- X7_behind -/
def qm_68 : qs_E := (RX7, yX7_behind, cX7_behind, 3, some .int, 1, 2, 1, qc_68, [3012, 3010, 1001, 3011])
def qc_69 : List (List (Option qs_Row)) := [[some (.aload_n 0, 0, 0, 0, 0, [], []), some (.getfield 35, 7, 4, 1, 0, [], [2018]), none, none, some (.aload_n 0, 0, 0, 0, 0, [], []), some (.getfield 28, 7, 2, 1, 0, [], [2016]), none, none, some (.invokevirtual 184, 14, 8, 2, 0, [], [3000, 0]), none, none, some (.iconst 0, 0, 0, 0, 0, [], []), some (.istore_n 1, 1, 0, 0, 0, [], []), some (.iload_n 1, 1, 0, 0, 0, [], []), some (.sipush 200, 0, 0, 0, 200, [], []), none],
  [none, some (.if_icmp .gt 35, 52, 0, 0, 0, [], []), none, none, some (.aload_n 0, 0, 0, 0, 0, [], []), some (.getfield 35, 7, 4, 1, 0, [], [2018]), none, none, some (.getfield 141, 2, 8, 0, 0, [], [1164]), none, none, some (.aload_n 0, 0, 0, 0, 0, [], []), some (.getfield 35, 7, 4, 1, 0, [], [2018]), none, none, some (.getfield 138, 2, 6, 0, 0, [], [1160])],
  [none, none, some (.if_icmp .lt 5, 39, 0, 0, 0, [], []), none, none, some (.iload_n 1, 1, 0, 0, 0, [], []), some (.ireturn, 0, 0, 0, 0, [], []), some (.aload_n 0, 0, 0, 0, 0, [], []), some (.getfield 35, 7, 4, 1, 0, [], [2018]), none, none, some (.invokevirtual 188, 26, 0, 2, 0, [], [3017, 0]), none, none, some (.iinc 1 1, 1, 0, 0, 1, [], []), none],
  [none, some (.goto (-36), 13, 0, 0, 0, [], []), none, none, some (.ldc 183, 0, 0, 0, (-1000000005), [], [2239]), none, some (.ireturn, 0, 0, 0, 0, [], []), none, none, none, none, none, none, none, none, none]]
/-- X7_full -/
def qm_69 : qs_E := (RX7, yX7_full, cX7_full, 2, some .int, 1, 0, 1, qc_69, [3016, 3014, 1001, 3015])
def qc_70 : List (List (Option qs_Row)) := [[some (.aload_n 0, 0, 0, 0, 0, [], []), some (.getfield 28, 7, 2, 1, 0, [], [2016]), none, none, some (.iload_n 1, 1, 0, 0, 0, [], []), some (.invokevirtual 74, 15, 10, 2, 0, [], [2070, 0]), none, none, some (.ifCond .ne 6, 14, 0, 0, 0, [], []), none, none, some (.ldc 64, 0, 0, 0, (-1000000001), [], [2055]), none, some (.ireturn, 0, 0, 0, 0, [], []), some (.aload_n 0, 0, 0, 0, 0, [], []), some (.getfield 35, 7, 4, 1, 0, [], [2018])],
  [none, none, some (.aload_n 0, 0, 0, 0, 0, [], []), some (.getfield 28, 7, 2, 1, 0, [], [2016]), none, none, some (.invokevirtual 184, 14, 8, 2, 0, [], [3000, 0]), none, none, some (.iconst 0, 0, 0, 0, 0, [], []), some (.istore_n 2, 2, 0, 0, 0, [], []), some (.iload_n 2, 2, 0, 0, 0, [], []), some (.sipush 200, 0, 0, 0, 200, [], []), none, none, some (.if_icmp .gt 37, 68, 0, 0, 0, [], [])],
  [none, none, some (.aload_n 0, 0, 0, 0, 0, [], []), some (.getfield 35, 7, 4, 1, 0, [], [2018]), none, none, some (.aload_n 0, 0, 0, 0, 0, [], []), some (.getfield 35, 7, 4, 1, 0, [], [2018]), none, none, some (.getfield 77, 2, 1, 1, 0, [], [1150]), none, none, some (.iload_n 1, 1, 0, 0, 0, [], []), some (.aaload, 0, 0, 0, 0, [], []), some (.invokevirtual 99, 19, 9, 2, 0, [], [2081, 0])],
  [none, none, some (.ifCond .ne 5, 55, 0, 0, 0, [], []), none, none, some (.iload_n 2, 2, 0, 0, 0, [], []), some (.ireturn, 0, 0, 0, 0, [], []), some (.aload_n 0, 0, 0, 0, 0, [], []), some (.getfield 35, 7, 4, 1, 0, [], [2018]), none, none, some (.invokevirtual 188, 26, 0, 2, 0, [], [3017, 0]), none, none, some (.iinc 2 1, 2, 0, 0, 1, [], []), none],
  [none, some (.goto (-38), 27, 0, 0, 0, [], []), none, none, some (.ldc 183, 0, 0, 0, (-1000000005), [], [2239]), none, some (.ireturn, 0, 0, 0, 0, [], []), none, none, none, none, none, none, none, none, none]]
/-- X7_shut -/
def qm_70 : qs_E := (RX7, yX7_shut, cX7_shut, 3, some .int, 1, 1, 1, qc_70, [3021, 3019, 1001, 3020])
def qc_71 : List (List (Option qs_Row)) := [[some (.aload_n 0, 0, 0, 0, 0, [], []), some (.getfield 28, 7, 2, 1, 0, [], [2016]), none, none, some (.iload_n 1, 1, 0, 0, 0, [], []), some (.invokevirtual 74, 15, 10, 2, 0, [], [2070, 0]), none, none, some (.ifCond .eq 18, 26, 0, 0, 0, [], []), none, none, some (.iload_n 2, 2, 0, 0, 0, [], []), some (.invokestatic 191, 102, 10, 0, 0, [], [3026, 0]), none, none, some (.ifCond .eq 11, 26, 0, 0, 0, [], [])],
  [none, none, some (.iload_n 3, 3, 0, 0, 0, [], []), some (.iconst 1, 0, 0, 0, 1, [], []), some (.invokestatic 60, 97, 18, 0, 0, [], [2052, 0]), none, none, some (.ifCond .ne 6, 29, 0, 0, 0, [], []), none, none, some (.ldc 64, 0, 0, 0, (-1000000001), [], [2055]), none, some (.ireturn, 0, 0, 0, 0, [], []), some (.ldc 183, 0, 0, 0, (-1000000005), [], [2239]), none, some (.istore 4, 4, 0, 0, 0, [], [])],
  [none, some (.iconst 0, 0, 0, 0, 0, [], []), some (.istore 5, 5, 0, 0, 0, [], []), none, some (.iconst 0, 0, 0, 0, 0, [], []), some (.istore 6, 6, 0, 0, 0, [], []), none, some (.iload 6, 6, 0, 0, 0, [], []), none, some (.iconst 3, 0, 0, 0, 3, [], []), some (.if_icmp .gt 74, 116, 0, 0, 0, [], []), none, none, some (.aload_n 0, 0, 0, 0, 0, [], []), some (.getfield 35, 7, 4, 1, 0, [], [2018]), none],
  [none, some (.aload_n 0, 0, 0, 0, 0, [], []), some (.getfield 28, 7, 2, 1, 0, [], [2016]), none, none, some (.invokevirtual 184, 14, 8, 2, 0, [], [3000, 0]), none, none, some (.aload_n 0, 0, 0, 0, 0, [], []), some (.getfield 35, 7, 4, 1, 0, [], [2018]), none, none, some (.getfield 77, 2, 1, 1, 0, [], [1150]), none, none, some (.iload_n 1, 1, 0, 0, 0, [], [])],
  [some (.aaload, 0, 0, 0, 0, [], []), some (.iload 6, 6, 0, 0, 0, [], []), none, some (.invokevirtual 194, 6, 8, 0, 0, [], [3029, 0]), none, none, some (.aload_n 0, 0, 0, 0, 0, [], []), some (.getfield 35, 7, 4, 1, 0, [], [2018]), none, none, some (.iload_n 2, 2, 0, 0, 0, [], []), some (.invokevirtual 162, 25, 8, 2, 0, [], [2193, 0]), none, none, some (.iload 4, 4, 0, 0, 0, [], []), none],
  [some (.ldc 183, 0, 0, 0, (-1000000005), [], [2239]), none, some (.if_icmp .eq 15, 97, 0, 0, 0, [], []), none, none, some (.aload_n 0, 0, 0, 0, 0, [], []), some (.getfield 35, 7, 4, 1, 0, [], [2018]), none, none, some (.getfield 156, 2, 7, 0, 0, [], [1162]), none, none, some (.iload 5, 5, 0, 0, 0, [], []), none, some (.if_icmp .ge 16, 110, 0, 0, 0, [], []), none],
  [none, some (.iload 6, 6, 0, 0, 0, [], []), none, some (.istore 4, 4, 0, 0, 0, [], []), none, some (.aload_n 0, 0, 0, 0, 0, [], []), some (.getfield 35, 7, 4, 1, 0, [], [2018]), none, none, some (.getfield 156, 2, 7, 0, 0, [], [1162]), none, none, some (.istore 5, 5, 0, 0, 0, [], []), none, some (.iinc 6 1, 6, 0, 0, 1, [], []), none],
  [none, some (.goto (-74), 39, 0, 0, 0, [], []), none, none, some (.iload_n 3, 3, 0, 0, 0, [], []), some (.ifCond .ne 8, 125, 0, 0, 0, [], []), none, none, some (.iload 4, 4, 0, 0, 0, [], []), none, some (.goto 5, 127, 0, 0, 0, [], []), none, none, some (.iload 5, 5, 0, 0, 0, [], []), none, some (.ireturn, 0, 0, 0, 0, [], [])]]
/-- X7_mend -/
def qm_71 : qs_E := (RX7, yX7_mend, cX7_mend, 7, some .int, 1, 3, 1, qc_71, [3025, 3023, 1001, 3024])
def qc_72 : List (List (Option qs_Row)) := [[some (.iload_n 1, 1, 0, 0, 0, [], []), some (.invokestatic 191, 102, 10, 0, 0, [], [3026, 0]), none, none, some (.ifCond .eq 11, 15, 0, 0, 0, [], []), none, none, some (.iload_n 2, 2, 0, 0, 0, [], []), some (.iconst 1, 0, 0, 0, 1, [], []), some (.invokestatic 60, 97, 18, 0, 0, [], [2052, 0]), none, none, some (.ifCond .ne 6, 18, 0, 0, 0, [], []), none, none, some (.ldc 64, 0, 0, 0, (-1000000001), [], [2055])],
  [none, some (.ireturn, 0, 0, 0, 0, [], []), some (.ldc 183, 0, 0, 0, (-1000000005), [], [2239]), none, some (.istore_n 3, 3, 0, 0, 0, [], []), some (.ldc 183, 0, 0, 0, (-1000000005), [], [2239]), none, some (.istore 4, 4, 0, 0, 0, [], []), none, some (.iconst 0, 0, 0, 0, 0, [], []), some (.istore 5, 5, 0, 0, 0, [], []), none, some (.iload 5, 5, 0, 0, 0, [], []), none, some (.aload_n 0, 0, 0, 0, 0, [], []), some (.getfield 28, 7, 2, 1, 0, [], [2016])],
  [none, none, some (.getfield 65, 2, 3, 0, 0, [], [1154]), none, none, some (.if_icmp .ge 72, 109, 0, 0, 0, [], []), none, none, some (.aload_n 0, 0, 0, 0, 0, [], []), some (.getfield 35, 7, 4, 1, 0, [], [2018]), none, none, some (.aload_n 0, 0, 0, 0, 0, [], []), some (.getfield 28, 7, 2, 1, 0, [], [2016]), none, none],
  [some (.invokevirtual 184, 14, 8, 2, 0, [], [3000, 0]), none, none, some (.aload_n 0, 0, 0, 0, 0, [], []), some (.getfield 35, 7, 4, 1, 0, [], [2018]), none, none, some (.getfield 77, 2, 1, 1, 0, [], [1150]), none, none, some (.iload 5, 5, 0, 0, 0, [], []), none, some (.aaload, 0, 0, 0, 0, [], []), some (.iconst 1, 0, 0, 0, 1, [], []), some (.invokevirtual 127, 5, 8, 0, 0, [], [2153, 0]), none],
  [none, some (.aload_n 0, 0, 0, 0, 0, [], []), some (.getfield 35, 7, 4, 1, 0, [], [2018]), none, none, some (.iload_n 1, 1, 0, 0, 0, [], []), some (.invokevirtual 162, 25, 8, 2, 0, [], [2193, 0]), none, none, some (.iload_n 3, 3, 0, 0, 0, [], []), some (.ldc 183, 0, 0, 0, (-1000000005), [], [2239]), none, some (.if_icmp .eq 15, 91, 0, 0, 0, [], []), none, none, some (.aload_n 0, 0, 0, 0, 0, [], [])],
  [some (.getfield 35, 7, 4, 1, 0, [], [2018]), none, none, some (.getfield 156, 2, 7, 0, 0, [], [1162]), none, none, some (.iload 4, 4, 0, 0, 0, [], []), none, some (.if_icmp .ge 15, 103, 0, 0, 0, [], []), none, none, some (.iload 5, 5, 0, 0, 0, [], []), none, some (.istore_n 3, 3, 0, 0, 0, [], []), some (.aload_n 0, 0, 0, 0, 0, [], []), some (.getfield 35, 7, 4, 1, 0, [], [2018])],
  [none, none, some (.getfield 156, 2, 7, 0, 0, [], [1162]), none, none, some (.istore 4, 4, 0, 0, 0, [], []), none, some (.iinc 5 1, 5, 0, 0, 1, [], []), none, none, some (.goto (-78), 28, 0, 0, 0, [], []), none, none, some (.iload_n 2, 2, 0, 0, 0, [], []), some (.ifCond .ne 7, 117, 0, 0, 0, [], []), none],
  [none, some (.iload_n 3, 3, 0, 0, 0, [], []), some (.goto 5, 119, 0, 0, 0, [], []), none, none, some (.iload 4, 4, 0, 0, 0, [], []), none, some (.ireturn, 0, 0, 0, 0, [], []), none, none, none, none, none, none, none, none]]
/-- X7_first -/
def qm_72 : qs_E := (RX7, yX7_first, cX7_first, 6, some .int, 1, 2, 1, qc_72, [3037, 3035, 1001, 3036])
def qc_73 : List (List (Option qs_Row)) := [[some (.aload_n 0, 0, 0, 0, 0, [], []), some (.getfield 28, 7, 2, 1, 0, [], [2016]), none, none, some (.iload_n 1, 1, 0, 0, 0, [], []), some (.invokevirtual 74, 15, 10, 2, 0, [], [2070, 0]), none, none, some (.ifCond .eq 18, 26, 0, 0, 0, [], []), none, none, some (.iload_n 2, 2, 0, 0, 0, [], []), some (.invokestatic 191, 102, 10, 0, 0, [], [3026, 0]), none, none, some (.ifCond .eq 11, 26, 0, 0, 0, [], [])],
  [none, none, some (.iload_n 3, 3, 0, 0, 0, [], []), some (.iconst 1, 0, 0, 0, 1, [], []), some (.invokestatic 60, 97, 18, 0, 0, [], [2052, 0]), none, none, some (.ifCond .ne 6, 29, 0, 0, 0, [], []), none, none, some (.ldc 64, 0, 0, 0, (-1000000001), [], [2055]), none, some (.ireturn, 0, 0, 0, 0, [], []), some (.ldc 183, 0, 0, 0, (-1000000005), [], [2239]), none, some (.istore 4, 4, 0, 0, 0, [], [])],
  [none, some (.iconst 0, 0, 0, 0, 0, [], []), some (.istore 5, 5, 0, 0, 0, [], []), none, some (.iconst 0, 0, 0, 0, 0, [], []), some (.istore 6, 6, 0, 0, 0, [], []), none, some (.iload 6, 6, 0, 0, 0, [], []), none, some (.bipush 6, 0, 0, 0, 6, [], []), none, some (.if_icmp .ge 74, 117, 0, 0, 0, [], []), none, none, some (.aload_n 0, 0, 0, 0, 0, [], []), some (.getfield 35, 7, 4, 1, 0, [], [2018])],
  [none, none, some (.aload_n 0, 0, 0, 0, 0, [], []), some (.getfield 28, 7, 2, 1, 0, [], [2016]), none, none, some (.invokevirtual 184, 14, 8, 2, 0, [], [3000, 0]), none, none, some (.aload_n 0, 0, 0, 0, 0, [], []), some (.getfield 35, 7, 4, 1, 0, [], [2018]), none, none, some (.getfield 77, 2, 1, 1, 0, [], [1150]), none, none],
  [some (.iload_n 1, 1, 0, 0, 0, [], []), some (.aaload, 0, 0, 0, 0, [], []), some (.iload 6, 6, 0, 0, 0, [], []), none, some (.putfield 81, 0, 0, 0, 0, [], [1113]), none, none, some (.aload_n 0, 0, 0, 0, 0, [], []), some (.getfield 35, 7, 4, 1, 0, [], [2018]), none, none, some (.iload_n 2, 2, 0, 0, 0, [], []), some (.invokevirtual 162, 25, 8, 2, 0, [], [2193, 0]), none, none, some (.iload 4, 4, 0, 0, 0, [], [])],
  [none, some (.ldc 183, 0, 0, 0, (-1000000005), [], [2239]), none, some (.if_icmp .eq 15, 98, 0, 0, 0, [], []), none, none, some (.aload_n 0, 0, 0, 0, 0, [], []), some (.getfield 35, 7, 4, 1, 0, [], [2018]), none, none, some (.getfield 156, 2, 7, 0, 0, [], [1162]), none, none, some (.iload 5, 5, 0, 0, 0, [], []), none, some (.if_icmp .ge 16, 111, 0, 0, 0, [], [])],
  [none, none, some (.iload 6, 6, 0, 0, 0, [], []), none, some (.istore 4, 4, 0, 0, 0, [], []), none, some (.aload_n 0, 0, 0, 0, 0, [], []), some (.getfield 35, 7, 4, 1, 0, [], [2018]), none, none, some (.getfield 156, 2, 7, 0, 0, [], [1162]), none, none, some (.istore 5, 5, 0, 0, 0, [], []), none, some (.iinc 6 1, 6, 0, 0, 1, [], [])],
  [none, none, some (.goto (-75), 39, 0, 0, 0, [], []), none, none, some (.iload_n 3, 3, 0, 0, 0, [], []), some (.ifCond .ne 8, 126, 0, 0, 0, [], []), none, none, some (.iload 4, 4, 0, 0, 0, [], []), none, some (.goto 5, 128, 0, 0, 0, [], []), none, none, some (.iload 5, 5, 0, 0, 0, [], []), none],
  [some (.ireturn, 0, 0, 0, 0, [], []), none, none, none, none, none, none, none, none, none, none, none, none, none, none, none]]
/-- X7_becomes -/
def qm_73 : qs_E := (RX7, yX7_becomes, cX7_becomes, 7, some .int, 1, 3, 1, qc_73, [3041, 3039, 1001, 3040])
def qc_74 : List (List (Option qs_Row)) := [[some (.iload_n 1, 1, 0, 0, 0, [], []), some (.invokestatic 191, 102, 10, 0, 0, [], [3026, 0]), none, none, some (.ifCond .eq 11, 15, 0, 0, 0, [], []), none, none, some (.iload_n 2, 2, 0, 0, 0, [], []), some (.iconst 1, 0, 0, 0, 1, [], []), some (.invokestatic 60, 97, 18, 0, 0, [], [2052, 0]), none, none, some (.ifCond .ne 6, 18, 0, 0, 0, [], []), none, none, some (.ldc 64, 0, 0, 0, (-1000000001), [], [2055])],
  [none, some (.ireturn, 0, 0, 0, 0, [], []), some (.ldc 183, 0, 0, 0, (-1000000005), [], [2239]), none, some (.istore_n 3, 3, 0, 0, 0, [], []), some (.ldc 183, 0, 0, 0, (-1000000005), [], [2239]), none, some (.istore 4, 4, 0, 0, 0, [], []), none, some (.iconst 0, 0, 0, 0, 0, [], []), some (.istore 5, 5, 0, 0, 0, [], []), none, some (.iload 5, 5, 0, 0, 0, [], []), none, some (.aload_n 0, 0, 0, 0, 0, [], []), some (.getfield 28, 7, 2, 1, 0, [], [2016])],
  [none, none, some (.getfield 65, 2, 3, 0, 0, [], [1154]), none, none, some (.if_icmp .ge 71, 108, 0, 0, 0, [], []), none, none, some (.aload_n 0, 0, 0, 0, 0, [], []), some (.getfield 35, 7, 4, 1, 0, [], [2018]), none, none, some (.aload_n 0, 0, 0, 0, 0, [], []), some (.getfield 28, 7, 2, 1, 0, [], [2016]), none, none],
  [some (.invokevirtual 184, 14, 8, 2, 0, [], [3000, 0]), none, none, some (.aload_n 0, 0, 0, 0, 0, [], []), some (.getfield 35, 7, 4, 1, 0, [], [2018]), none, none, some (.getfield 77, 2, 1, 1, 0, [], [1150]), none, none, some (.iload 5, 5, 0, 0, 0, [], []), none, some (.aaload, 0, 0, 0, 0, [], []), some (.iconst (-1), 0, 0, 0, (-1), [], []), some (.invokevirtual 127, 5, 8, 0, 0, [], [2153, 0]), none],
  [none, some (.aload_n 0, 0, 0, 0, 0, [], []), some (.getfield 35, 7, 4, 1, 0, [], [2018]), none, none, some (.iload_n 1, 1, 0, 0, 0, [], []), some (.invokevirtual 162, 25, 8, 2, 0, [], [2193, 0]), none, none, some (.aload_n 0, 0, 0, 0, 0, [], []), some (.getfield 35, 7, 4, 1, 0, [], [2018]), none, none, some (.invokevirtual 180, 21, 1, 2, 0, [], [2223, 0]), none, none],
  [some (.istore 6, 6, 0, 0, 0, [], []), none, some (.iload_n 3, 3, 0, 0, 0, [], []), some (.ldc 183, 0, 0, 0, (-1000000005), [], [2239]), none, some (.if_icmp .eq 10, 95, 0, 0, 0, [], []), none, none, some (.iload 6, 6, 0, 0, 0, [], []), none, some (.iload 4, 4, 0, 0, 0, [], []), none, some (.if_icmp .ge 10, 102, 0, 0, 0, [], []), none, none, some (.iload 5, 5, 0, 0, 0, [], [])],
  [none, some (.istore_n 3, 3, 0, 0, 0, [], []), some (.iload 6, 6, 0, 0, 0, [], []), none, some (.istore 4, 4, 0, 0, 0, [], []), none, some (.iinc 5 1, 5, 0, 0, 1, [], []), none, none, some (.goto (-77), 28, 0, 0, 0, [], []), none, none, some (.iload_n 2, 2, 0, 0, 0, [], []), some (.ifCond .ne 7, 116, 0, 0, 0, [], []), none, none],
  [some (.iload_n 3, 3, 0, 0, 0, [], []), some (.goto 5, 118, 0, 0, 0, [], []), none, none, some (.iload 4, 4, 0, 0, 0, [], []), none, some (.ireturn, 0, 0, 0, 0, [], []), none, none, none, none, none, none, none, none, none]]
/-- X7_loose -/
def qm_74 : qs_E := (RX7, yX7_loose, cX7_loose, 7, some .int, 1, 2, 1, qc_74, [3045, 3043, 1001, 3044])
def qc_75 : List (List (Option qs_Row)) := [[some (.iload_n 1, 1, 0, 0, 0, [], []), some (.invokestatic 197, 100, 10, 0, 0, [], [3050, 0]), none, none, some (.ifCond .eq 11, 15, 0, 0, 0, [], []), none, none, some (.iload_n 2, 2, 0, 0, 0, [], []), some (.iconst 1, 0, 0, 0, 1, [], []), some (.invokestatic 60, 97, 18, 0, 0, [], [2052, 0]), none, none, some (.ifCond .ne 6, 18, 0, 0, 0, [], []), none, none, some (.ldc 64, 0, 0, 0, (-1000000001), [], [2055])],
  [none, some (.ireturn, 0, 0, 0, 0, [], []), some (.aload_n 0, 0, 0, 0, 0, [], []), some (.getfield 40, 7, 6, 1, 0, [], [2020]), none, none, some (.iload_n 1, 1, 0, 0, 0, [], []), some (.aaload, 0, 0, 0, 0, [], []), some (.astore_n 3, 3, 0, 0, 0, [], []), some (.aload_n 3, 3, 0, 0, 0, [], []), some (.invokevirtual 200, 44, 2, 4, 0, [], [3053, 0]), none, none, some (.ifCond .eq 6, 35, 0, 0, 0, [], []), none, none],
  [some (.ldc 204, 0, 0, 0, (-1000000011), [], [3057]), none, some (.ireturn, 0, 0, 0, 0, [], []), some (.ldc 183, 0, 0, 0, (-1000000005), [], [2239]), none, some (.istore 4, 4, 0, 0, 0, [], []), none, some (.ldc 183, 0, 0, 0, (-1000000005), [], [2239]), none, some (.istore 5, 5, 0, 0, 0, [], []), none, some (.iconst 0, 0, 0, 0, 0, [], []), some (.istore 6, 6, 0, 0, 0, [], []), none, some (.iload 6, 6, 0, 0, 0, [], []), none],
  [some (.aload_n 0, 0, 0, 0, 0, [], []), some (.getfield 28, 7, 2, 1, 0, [], [2016]), none, none, some (.getfield 65, 2, 3, 0, 0, [], [1154]), none, none, some (.if_icmp .ge 40, 95, 0, 0, 0, [], []), none, none, some (.aload_n 0, 0, 0, 0, 0, [], []), some (.aload_n 3, 3, 0, 0, 0, [], []), some (.iload 6, 6, 0, 0, 0, [], []), none, some (.invokevirtual 205, 105, 17, 7, 0, [], [3058, 0]), none],
  [none, some (.istore 7, 7, 0, 0, 0, [], []), none, some (.iload 4, 4, 0, 0, 0, [], []), none, some (.ldc 183, 0, 0, 0, (-1000000005), [], [2239]), none, some (.if_icmp .eq 10, 81, 0, 0, 0, [], []), none, none, some (.iload 7, 7, 0, 0, 0, [], []), none, some (.iload 5, 5, 0, 0, 0, [], []), none, some (.if_icmp .ge 11, 89, 0, 0, 0, [], []), none],
  [none, some (.iload 6, 6, 0, 0, 0, [], []), none, some (.istore 4, 4, 0, 0, 0, [], []), none, some (.iload 7, 7, 0, 0, 0, [], []), none, some (.istore 5, 5, 0, 0, 0, [], []), none, some (.iinc 6 1, 6, 0, 0, 1, [], []), none, none, some (.goto (-46), 46, 0, 0, 0, [], []), none, none, some (.iload_n 2, 2, 0, 0, 0, [], [])],
  [some (.ifCond .ne 8, 104, 0, 0, 0, [], []), none, none, some (.iload 4, 4, 0, 0, 0, [], []), none, some (.goto 5, 106, 0, 0, 0, [], []), none, none, some (.iload 5, 5, 0, 0, 0, [], []), none, some (.ireturn, 0, 0, 0, 0, [], []), none, none, none, none, none]]
/-- X7_whose -/
def qm_75 : qs_E := (RX7, yX7_whose, cX7_whose, 8, some .int, 1, 2, 1, qc_75, [3049, 3047, 1001, 3048])
def qc_76 : List (List (Option qs_Row)) := [[some (.aload_n 0, 0, 0, 0, 0, [], []), some (.getfield 28, 7, 2, 1, 0, [], [2016]), none, none, some (.getfield 209, 2, 2, 1, 0, [], [1152]), none, none, some (.iconst 1, 0, 0, 0, 1, [], []), some (.iaload, 20, 0, 0, 0, [], []), some (.istore_n 1, 1, 0, 0, 0, [], []), some (.iload_n 1, 1, 0, 0, 0, [], []), some (.ifCond .ge 13, 24, 0, 0, 0, [], []), none, none, some (.aload_n 0, 0, 0, 0, 0, [], []), some (.getfield 28, 7, 2, 1, 0, [], [2016])],
  [none, none, some (.getfield 156, 2, 7, 0, 0, [], [1162]), none, none, some (.goto 26, 47, 0, 0, 0, [], []), none, none, some (.aload_n 0, 0, 0, 0, 0, [], []), some (.getfield 10, 7, 0, 1, 0, [], [2014]), none, none, some (.iload_n 1, 1, 0, 0, 0, [], []), some (.aload_n 0, 0, 0, 0, 0, [], []), some (.getfield 28, 7, 2, 1, 0, [], [2016]), none],
  [none, some (.getfield 156, 2, 7, 0, 0, [], [1162]), none, none, some (.aload_n 0, 0, 0, 0, 0, [], []), some (.getfield 28, 7, 2, 1, 0, [], [2016]), none, none, some (.getfield 165, 2, 9, 0, 0, [], [1166]), none, none, some (.iconst 0, 0, 0, 0, 0, [], []), some (.invokevirtual 212, 11, 33, 1, 0, [], [3076, 0]), none, none, some (.ireturn, 0, 0, 0, 0, [], [])]]
/-- X7_fee -/
def qm_76 : qs_E := (RX7, yX7_fee, cX7_fee, 2, some .int, 1, 0, 1, qc_76, [3075, 3073, 1001, 3074])
def qc_77 : List (List (Option qs_Row)) := [[some (.aload_n 0, 0, 0, 0, 0, [], []), some (.getfield 28, 7, 2, 1, 0, [], [2016]), none, none, some (.iload_n 1, 1, 0, 0, 0, [], []), some (.invokevirtual 74, 15, 10, 2, 0, [], [2070, 0]), none, none, some (.ifCond .ne 6, 14, 0, 0, 0, [], []), none, none, some (.ldc 64, 0, 0, 0, (-1000000001), [], [2055]), none, some (.ireturn, 0, 0, 0, 0, [], []), some (.aload_n 0, 0, 0, 0, 0, [], []), some (.getfield 28, 7, 2, 1, 0, [], [2016])],
  [none, none, some (.getfield 77, 2, 1, 1, 0, [], [1150]), none, none, some (.iload_n 1, 1, 0, 0, 0, [], []), some (.aaload, 0, 0, 0, 0, [], []), some (.astore_n 2, 2, 0, 0, 0, [], []), some (.aload_n 0, 0, 0, 0, 0, [], []), some (.getfield 28, 7, 2, 1, 0, [], [2016]), none, none, some (.getfield 209, 2, 2, 1, 0, [], [1152]), none, none, some (.iconst 2, 0, 0, 0, 2, [], [])],
  [some (.iaload, 20, 0, 0, 0, [], []), some (.istore_n 3, 3, 0, 0, 0, [], []), some (.iload_n 3, 3, 0, 0, 0, [], []), some (.ifCond .ge 10, 45, 0, 0, 0, [], []), none, none, some (.aload_n 2, 2, 0, 0, 0, [], []), some (.getfield 86, 0, 1, 0, 0, [], [1116]), none, none, some (.goto 20, 62, 0, 0, 0, [], []), none, none, some (.aload_n 0, 0, 0, 0, 0, [], []), some (.getfield 10, 7, 0, 1, 0, [], [2014]), none],
  [none, some (.iload_n 3, 3, 0, 0, 0, [], []), some (.aload_n 2, 2, 0, 0, 0, [], []), some (.getfield 86, 0, 1, 0, 0, [], [1116]), none, none, some (.aload_n 2, 2, 0, 0, 0, [], []), some (.getfield 89, 0, 7, 0, 0, [], [1129]), none, none, some (.iconst 0, 0, 0, 0, 0, [], []), some (.invokevirtual 212, 11, 33, 1, 0, [], [3076, 0]), none, none, some (.ireturn, 0, 0, 0, 0, [], []), none]]
/-- X7_fine -/
def qm_77 : qs_E := (RX7, yX7_fine, cX7_fine, 4, some .int, 1, 1, 1, qc_77, [3080, 3078, 1001, 3079])
def qc_78 : List (List (Option qs_Row)) := [[some (.aload_n 0, 0, 0, 0, 0, [], []), some (.getfield 19, 7, 1, 1, 0, [], [2015]), none, none, some (.getfield 215, 3, 2, 0, 0, [], [1079]), none, none, some (.bipush 84, 0, 0, 0, 84, [], []), none, some (.if_icmp .le 6, 15, 0, 0, 0, [], []), none, none, some (.ldc 69, 0, 0, 0, (-1000000003), [], [2056]), none, some (.ireturn, 0, 0, 0, 0, [], []), some (.aload_n 0, 0, 0, 0, 0, [], [])],
  [some (.getfield 19, 7, 1, 1, 0, [], [2015]), none, none, some (.iload_n 1, 1, 0, 0, 0, [], []), some (.invokevirtual 218, 30, 8, 3, 0, [], [3085, 0]), none, none, some (.aload_n 0, 0, 0, 0, 0, [], []), some (.getfield 19, 7, 1, 1, 0, [], [2015]), none, none, some (.iload_n 2, 2, 0, 0, 0, [], []), some (.invokevirtual 218, 30, 8, 3, 0, [], [3085, 0]), none, none, some (.aload_n 0, 0, 0, 0, 0, [], [])],
  [some (.getfield 19, 7, 1, 1, 0, [], [2015]), none, none, some (.iload_n 3, 3, 0, 0, 0, [], []), some (.invokevirtual 218, 30, 8, 3, 0, [], [3085, 0]), none, none, some (.aload_n 0, 0, 0, 0, 0, [], []), some (.getfield 19, 7, 1, 1, 0, [], [2015]), none, none, some (.getfield 215, 3, 2, 0, 0, [], [1079]), none, none, some (.ireturn, 0, 0, 0, 0, [], []), none]]
/-- X7_feed -/
def qm_78 : qs_E := (RX7, yX7_feed, cX7_feed, 4, some .int, 1, 3, 1, qc_78, [3084, 3082, 1001, 3083])
def qc_79 : List (List (Option qs_Row)) := [[some (.iload_n 1, 1, 0, 0, 0, [], []), some (.aload_n 0, 0, 0, 0, 0, [], []), some (.getfield 19, 7, 1, 1, 0, [], [2015]), none, none, some (.getfield 215, 3, 2, 0, 0, [], [1079]), none, none, some (.invokestatic 60, 97, 18, 0, 0, [], [2052, 0]), none, none, some (.ifCond .ne 6, 17, 0, 0, 0, [], []), none, none, some (.ldc 64, 0, 0, 0, (-1000000001), [], [2055]), none],
  [some (.ireturn, 0, 0, 0, 0, [], []), some (.aload_n 0, 0, 0, 0, 0, [], []), some (.getfield 19, 7, 1, 1, 0, [], [2015]), none, none, some (.iload_n 1, 1, 0, 0, 0, [], []), some (.putfield 215, 3, 2, 0, 0, [], [1079]), none, none, some (.iload_n 1, 1, 0, 0, 0, [], []), some (.ireturn, 0, 0, 0, 0, [], []), none, none, none, none, none]]
/-- X7_trim -/
def qm_79 : qs_E := (RX7, yX7_trim, cX7_trim, 2, some .int, 1, 1, 1, qc_79, [3092, 3090, 1001, 3091])
def qc_80 : List (List (Option qs_Row)) := [[some (.aload_n 0, 0, 0, 0, 0, [], []), some (.getfield 19, 7, 1, 1, 0, [], [2015]), none, none, some (.invokevirtual 221, 31, 1, 3, 0, [], [3097, 0]), none, none, some (.istore_n 1, 1, 0, 0, 0, [], []), some (.aload_n 0, 0, 0, 0, 0, [], []), some (.getfield 19, 7, 1, 1, 0, [], [2015]), none, none, some (.iconst 0, 0, 0, 0, 0, [], []), some (.putfield 215, 3, 2, 0, 0, [], [1079]), none, none],
  [some (.iload_n 1, 1, 0, 0, 0, [], []), some (.ldc 183, 0, 0, 0, (-1000000005), [], [2239]), none, some (.if_icmp .eq 8, 27, 0, 0, 0, [], []), none, none, some (.bipush (-100), 0, 0, 0, (-100), [], []), none, some (.iload_n 1, 1, 0, 0, 0, [], []), some (.isub, 0, 0, 0, 0, [], []), some (.ireturn, 0, 0, 0, 0, [], []), some (.aload_n 0, 0, 0, 0, 0, [], []), some (.getfield 28, 7, 2, 1, 0, [], [2016]), none, none, some (.getfield 224, 2, 14, 0, 0, [], [1176])],
  [none, none, some (.istore_n 2, 2, 0, 0, 0, [], []), some (.iload_n 2, 2, 0, 0, 0, [], []), some (.bipush 13, 0, 0, 0, 13, [], []), none, some (.invokestatic 60, 97, 18, 0, 0, [], [2052, 0]), none, none, some (.ifCond .ne 6, 47, 0, 0, 0, [], []), none, none, some (.ldc 69, 0, 0, 0, (-1000000003), [], [2056]), none, some (.ireturn, 0, 0, 0, 0, [], []), some (.aload_n 0, 0, 0, 0, 0, [], [])],
  [some (.getfield 10, 7, 0, 1, 0, [], [2014]), none, none, some (.getfield 227, 1, 0, 1, 0, [], [1060]), none, none, some (.iload_n 2, 2, 0, 0, 0, [], []), some (.aaload, 0, 0, 0, 0, [], []), some (.aload_n 0, 0, 0, 0, 0, [], []), some (.getfield 19, 7, 1, 1, 0, [], [2015]), none, none, some (.getfield 230, 3, 1, 1, 0, [], [1077]), none, none, some (.invokevirtual 234, 50, 8, 6, 0, [], [4011, 0])],
  [none, none, some (.aload_n 0, 0, 0, 0, 0, [], []), some (.getfield 28, 7, 2, 1, 0, [], [2016]), none, none, some (.getfield 209, 2, 2, 1, 0, [], [1152]), none, none, some (.aload_n 0, 0, 0, 0, 0, [], []), some (.getfield 19, 7, 1, 1, 0, [], [2015]), none, none, some (.getfield 230, 3, 1, 1, 0, [], [1077]), none, none],
  [some (.getfield 239, 6, 1, 0, 0, [], [1042]), none, none, some (.iload_n 2, 2, 0, 0, 0, [], []), some (.iastore, 0, 0, 0, 0, [], []), some (.aload_n 0, 0, 0, 0, 0, [], []), some (.getfield 28, 7, 2, 1, 0, [], [2016]), none, none, some (.iload_n 2, 2, 0, 0, 0, [], []), some (.iconst 1, 0, 0, 0, 1, [], []), some (.iadd, 0, 0, 0, 0, [], []), some (.putfield 224, 2, 14, 0, 0, [], [1176]), none, none, some (.iload_n 2, 2, 0, 0, 0, [], [])],
  [some (.ireturn, 0, 0, 0, 0, [], []), none, none, none, none, none, none, none, none, none, none, none, none, none, none, none]]
/-- X7_text -/
def qm_80 : qs_E := (RX7, yX7_text, cX7_text, 3, some .int, 1, 0, 1, qc_80, [3096, 3094, 1001, 3095])
def qc_81 : List (List (Option qs_Row)) := [[some (.iload_n 1, 1, 0, 0, 0, [], []), some (.ifCond .lt 22, 23, 0, 0, 0, [], []), none, none, some (.iload_n 1, 1, 0, 0, 0, [], []), some (.aload_n 0, 0, 0, 0, 0, [], []), some (.getfield 28, 7, 2, 1, 0, [], [2016]), none, none, some (.getfield 224, 2, 14, 0, 0, [], [1176]), none, none, some (.if_icmp .ge 11, 23, 0, 0, 0, [], []), none, none, some (.iload_n 2, 2, 0, 0, 0, [], [])],
  [some (.iconst 1, 0, 0, 0, 1, [], []), some (.invokestatic 60, 97, 18, 0, 0, [], [2052, 0]), none, none, some (.ifCond .ne 6, 26, 0, 0, 0, [], []), none, none, some (.ldc 64, 0, 0, 0, (-1000000001), [], [2055]), none, some (.ireturn, 0, 0, 0, 0, [], []), some (.aload_n 0, 0, 0, 0, 0, [], []), some (.getfield 10, 7, 0, 1, 0, [], [2014]), none, none, some (.getfield 227, 1, 0, 1, 0, [], [1060]), none],
  [none, some (.iload_n 1, 1, 0, 0, 0, [], []), some (.aaload, 0, 0, 0, 0, [], []), some (.astore_n 3, 3, 0, 0, 0, [], []), some (.iload_n 2, 2, 0, 0, 0, [], []), some (.ifCond .ne 10, 47, 0, 0, 0, [], []), none, none, some (.aload_n 3, 3, 0, 0, 0, [], []), some (.getfield 239, 6, 1, 0, 0, [], [1042]), none, none, some (.goto 7, 51, 0, 0, 0, [], []), none, none, some (.aload_n 3, 3, 0, 0, 0, [], [])],
  [some (.getfield 242, 6, 3, 0, 0, [], [1048]), none, none, some (.ireturn, 0, 0, 0, 0, [], []), none, none, none, none, none, none, none, none, none, none, none, none]]
/-- X7_textTold -/
def qm_81 : qs_E := (RX7, yX7_textTold, cX7_textTold, 4, some .int, 1, 2, 1, qc_81, [4019, 4017, 1001, 4018])
def qc_82 : List (List (Option qs_Row)) := [[some (.iload_n 1, 1, 0, 0, 0, [], []), some (.ifCond .lt 8, 9, 0, 0, 0, [], []), none, none, some (.iload_n 1, 1, 0, 0, 0, [], []), some (.iconst 3, 0, 0, 0, 3, [], []), some (.if_icmp .lt 6, 12, 0, 0, 0, [], []), none, none, some (.ldc 64, 0, 0, 0, (-1000000001), [], [2055]), none, some (.ireturn, 0, 0, 0, 0, [], []), some (.aload_n 0, 0, 0, 0, 0, [], []), some (.getfield 28, 7, 2, 1, 0, [], [2016]), none, none],
  [some (.getfield 209, 2, 2, 1, 0, [], [1152]), none, none, some (.iload_n 1, 1, 0, 0, 0, [], []), some (.iaload, 20, 0, 0, 0, [], []), some (.istore_n 2, 2, 0, 0, 0, [], []), some (.iload_n 2, 2, 0, 0, 0, [], []), some (.ifCond .ge 8, 31, 0, 0, 0, [], []), none, none, some (.ldc 183, 0, 0, 0, (-1000000005), [], [2239]), none, some (.goto 4, 32, 0, 0, 0, [], []), none, none, some (.iload_n 2, 2, 0, 0, 0, [], [])],
  [some (.ireturn, 0, 0, 0, 0, [], []), none, none, none, none, none, none, none, none, none, none, none, none, none, none, none]]
/-- X7_why -/
def qm_82 : qs_E := (RX7, yX7_why, cX7_why, 3, some .int, 1, 1, 1, qc_82, [4023, 4021, 1001, 4022])
def qc_83 : List (List (Option qs_Row)) := [[some (.iload_n 1, 1, 0, 0, 0, [], []), some (.invokestatic 197, 100, 10, 0, 0, [], [3050, 0]), none, none, some (.ifCond .eq 13, 17, 0, 0, 0, [], []), none, none, some (.iload_n 2, 2, 0, 0, 0, [], []), some (.iconst (-1), 0, 0, 0, (-1), [], []), some (.if_icmp .lt 8, 17, 0, 0, 0, [], []), none, none, some (.iload_n 2, 2, 0, 0, 0, [], []), some (.iconst 1, 0, 0, 0, 1, [], []), some (.if_icmp .le 6, 20, 0, 0, 0, [], []), none],
  [none, some (.ldc 64, 0, 0, 0, (-1000000001), [], [2055]), none, some (.ireturn, 0, 0, 0, 0, [], []), some (.iload_n 2, 2, 0, 0, 0, [], []), some (.iconst (-1), 0, 0, 0, (-1), [], []), some (.if_icmp .ne 16, 38, 0, 0, 0, [], []), none, none, some (.aload_n 0, 0, 0, 0, 0, [], []), some (.getfield 40, 7, 6, 1, 0, [], [2020]), none, none, some (.iload_n 1, 1, 0, 0, 0, [], []), some (.aaload, 0, 0, 0, 0, [], []), some (.iconst (-1), 0, 0, 0, (-1), [], [])],
  [some (.iconst 0, 0, 0, 0, 0, [], []), some (.invokevirtual 245, 42, 16, 4, 0, [], [4028, 0]), none, none, some (.iconst 0, 0, 0, 0, 0, [], []), some (.ireturn, 0, 0, 0, 0, [], []), some (.iload_n 3, 3, 0, 0, 0, [], []), some (.bipush 24, 0, 0, 0, 24, [], []), none, some (.if_icmp .le 6, 47, 0, 0, 0, [], []), none, none, some (.ldc 64, 0, 0, 0, (-1000000001), [], [2055]), none, some (.ireturn, 0, 0, 0, 0, [], []), some (.iload_n 3, 3, 0, 0, 0, [], [])],
  [some (.ifCond .ge 6, 54, 0, 0, 0, [], []), none, none, some (.ldc 248, 0, 0, 0, (-1000000014), [], [4032]), none, some (.ireturn, 0, 0, 0, 0, [], []), some (.aload_n 0, 0, 0, 0, 0, [], []), some (.getfield 40, 7, 6, 1, 0, [], [2020]), none, none, some (.iload_n 1, 1, 0, 0, 0, [], []), some (.aaload, 0, 0, 0, 0, [], []), some (.iload_n 2, 2, 0, 0, 0, [], []), some (.iload_n 3, 3, 0, 0, 0, [], []), some (.invokevirtual 245, 42, 16, 4, 0, [], [4028, 0]), none],
  [none, some (.iload_n 3, 3, 0, 0, 0, [], []), some (.ireturn, 0, 0, 0, 0, [], []), none, none, none, none, none, none, none, none, none, none, none, none, none]]
/-- X7_sheet -/
def qm_83 : qs_E := (RX7, yX7_sheet, cX7_sheet, 4, some .int, 1, 3, 1, qc_83, [4027, 4025, 1001, 4026])
def qc_84 : List (List (Option qs_Row)) := [[some (.iload_n 1, 1, 0, 0, 0, [], []), some (.invokestatic 197, 100, 10, 0, 0, [], [3050, 0]), none, none, some (.ifCond .ne 6, 10, 0, 0, 0, [], []), none, none, some (.ldc 64, 0, 0, 0, (-1000000001), [], [2055]), none, some (.ireturn, 0, 0, 0, 0, [], []), some (.aload_n 0, 0, 0, 0, 0, [], []), some (.getfield 40, 7, 6, 1, 0, [], [2020]), none, none, some (.iload_n 1, 1, 0, 0, 0, [], []), some (.aaload, 0, 0, 0, 0, [], [])],
  [some (.astore 4, 4, 0, 0, 0, [], []), none, some (.aload 4, 4, 0, 0, 0, [], []), none, some (.invokevirtual 200, 44, 2, 4, 0, [], [3053, 0]), none, none, some (.ifCond .eq 6, 29, 0, 0, 0, [], []), none, none, some (.ldc 204, 0, 0, 0, (-1000000011), [], [3057]), none, some (.ireturn, 0, 0, 0, 0, [], []), some (.aload 4, 4, 0, 0, 0, [], []), none, some (.iload_n 2, 2, 0, 0, 0, [], [])],
  [some (.invokevirtual 249, 45, 10, 4, 0, [], [4037, 0]), none, none, some (.ifCond .ne 6, 41, 0, 0, 0, [], []), none, none, some (.ldc 250, 0, 0, 0, (-1000000013), [], [4038]), none, some (.ireturn, 0, 0, 0, 0, [], []), some (.aload 4, 4, 0, 0, 0, [], []), none, some (.getfield 251, 4, 1, 0, 0, [], [1220]), none, none, some (.ifCond .ne 24, 70, 0, 0, 0, [], []), none],
  [none, some (.iload_n 3, 3, 0, 0, 0, [], []), some (.ldc 183, 0, 0, 0, (-1000000005), [], [2239]), none, some (.if_icmp .ne 6, 58, 0, 0, 0, [], []), none, none, some (.ldc 122, 0, 0, 0, (-1000000012), [], [2136]), none, some (.ireturn, 0, 0, 0, 0, [], []), some (.aload 4, 4, 0, 0, 0, [], []), none, some (.getfield 254, 4, 0, 1, 0, [], [1218]), none, none, some (.iload_n 2, 2, 0, 0, 0, [], [])],
  [some (.iload_n 3, 3, 0, 0, 0, [], []), some (.i2s, 0, 0, 0, 0, [], []), some (.iastore, 0, 0, 0, 0, [], []), some (.goto 34, 101, 0, 0, 0, [], []), none, none, some (.iload_n 3, 3, 0, 0, 0, [], []), some (.ldc 183, 0, 0, 0, (-1000000005), [], [2239]), none, some (.if_icmp .eq 20, 93, 0, 0, 0, [], []), none, none, some (.iload_n 3, 3, 0, 0, 0, [], []), some (.ldc_w 257, 0, 0, 0, (-99999), [], [4039]), none, none],
  [some (.if_icmp .lt 10, 90, 0, 0, 0, [], []), none, none, some (.iload_n 3, 3, 0, 0, 0, [], []), some (.ldc_w 258, 0, 0, 0, 99999, [], [4040]), none, none, some (.if_icmp .le 6, 93, 0, 0, 0, [], []), none, none, some (.ldc 64, 0, 0, 0, (-1000000001), [], [2055]), none, some (.ireturn, 0, 0, 0, 0, [], []), some (.aload 4, 4, 0, 0, 0, [], []), none, some (.getfield 254, 4, 0, 1, 0, [], [1218])],
  [none, none, some (.iload_n 2, 2, 0, 0, 0, [], []), some (.iload_n 3, 3, 0, 0, 0, [], []), some (.iastore, 0, 0, 0, 0, [], []), some (.iconst 1, 0, 0, 0, 1, [], []), some (.ireturn, 0, 0, 0, 0, [], []), none, none, none, none, none, none, none, none, none]]
/-- X7_mark -/
def qm_84 : qs_E := (RX7, yX7_mark, cX7_mark, 5, some .int, 1, 3, 1, qc_84, [4036, 4034, 1001, 4035])
def qc_85 : List (List (Option qs_Row)) := [[some (.iload_n 1, 1, 0, 0, 0, [], []), some (.invokestatic 197, 100, 10, 0, 0, [], [3050, 0]), none, none, some (.ifCond .ne 6, 10, 0, 0, 0, [], []), none, none, some (.ldc 64, 0, 0, 0, (-1000000001), [], [2055]), none, some (.ireturn, 0, 0, 0, 0, [], []), some (.aload_n 0, 0, 0, 0, 0, [], []), some (.getfield 40, 7, 6, 1, 0, [], [2020]), none, none, some (.iload_n 1, 1, 0, 0, 0, [], []), some (.aaload, 0, 0, 0, 0, [], [])],
  [some (.astore_n 2, 2, 0, 0, 0, [], []), some (.aload_n 2, 2, 0, 0, 0, [], []), some (.invokevirtual 200, 44, 2, 4, 0, [], [3053, 0]), none, none, some (.ifCond .eq 6, 27, 0, 0, 0, [], []), none, none, some (.ldc 204, 0, 0, 0, (-1000000011), [], [3057]), none, some (.ireturn, 0, 0, 0, 0, [], []), some (.iconst 0, 0, 0, 0, 0, [], []), some (.istore_n 3, 3, 0, 0, 0, [], []), some (.iconst 0, 0, 0, 0, 0, [], []), some (.istore 4, 4, 0, 0, 0, [], []), none],
  [some (.iload 4, 4, 0, 0, 0, [], []), none, some (.aload_n 0, 0, 0, 0, 0, [], []), some (.getfield 28, 7, 2, 1, 0, [], [2016]), none, none, some (.getfield 65, 2, 3, 0, 0, [], [1154]), none, none, some (.if_icmp .ge 77, 118, 0, 0, 0, [], []), none, none, some (.iload 4, 4, 0, 0, 0, [], []), none, some (.aload_n 2, 2, 0, 0, 0, [], []), some (.getfield 259, 4, 2, 0, 0, [], [1222])],
  [none, none, some (.if_icmp .ge 68, 118, 0, 0, 0, [], []), none, none, some (.aload_n 2, 2, 0, 0, 0, [], []), some (.getfield 254, 4, 0, 1, 0, [], [1218]), none, none, some (.iload 4, 4, 0, 0, 0, [], []), none, some (.iaload, 20, 0, 0, 0, [], []), some (.bipush 40, 0, 0, 0, 40, [], []), none, some (.invokestatic 262, 98, 17, 0, 0, [], [4045, 0]), none],
  [none, some (.istore 5, 5, 0, 0, 0, [], []), none, some (.aload_n 2, 2, 0, 0, 0, [], []), some (.iload 4, 4, 0, 0, 0, [], []), none, some (.invokevirtual 265, 47, 10, 4, 0, [], [3062, 0]), none, none, some (.ifCond .eq 39, 112, 0, 0, 0, [], []), none, none, some (.aload_n 0, 0, 0, 0, 0, [], []), some (.getfield 28, 7, 2, 1, 0, [], [2016]), none, none],
  [some (.getfield 77, 2, 1, 1, 0, [], [1150]), none, none, some (.iload 4, 4, 0, 0, 0, [], []), none, some (.aaload, 0, 0, 0, 0, [], []), some (.getfield 86, 0, 1, 0, 0, [], [1116]), none, none, some (.iload 5, 5, 0, 0, 0, [], []), none, some (.if_icmp .eq 21, 112, 0, 0, 0, [], []), none, none, some (.aload_n 0, 0, 0, 0, 0, [], []), some (.getfield 28, 7, 2, 1, 0, [], [2016])],
  [none, none, some (.getfield 77, 2, 1, 1, 0, [], [1150]), none, none, some (.iload 4, 4, 0, 0, 0, [], []), none, some (.aaload, 0, 0, 0, 0, [], []), some (.iload 5, 5, 0, 0, 0, [], []), none, some (.putfield 86, 0, 1, 0, 0, [], [1116]), none, none, some (.iinc 3 1, 3, 0, 0, 1, [], []), none, none],
  [some (.iinc 4 1, 4, 0, 0, 1, [], []), none, none, some (.goto (-83), 32, 0, 0, 0, [], []), none, none, some (.iload_n 3, 3, 0, 0, 0, [], []), some (.ireturn, 0, 0, 0, 0, [], []), none, none, none, none, none, none, none, none]]
/-- X7_pour -/
def qm_85 : qs_E := (RX7, yX7_pour, cX7_pour, 6, some .int, 1, 1, 1, qc_85, [4044, 4042, 1001, 4043])
def qc_86 : List (List (Option qs_Row)) := [[some (.iload_n 1, 1, 0, 0, 0, [], []), some (.invokestatic 197, 100, 10, 0, 0, [], [3050, 0]), none, none, some (.ifCond .ne 6, 10, 0, 0, 0, [], []), none, none, some (.ldc 64, 0, 0, 0, (-1000000001), [], [2055]), none, some (.ireturn, 0, 0, 0, 0, [], []), some (.aload_n 0, 0, 0, 0, 0, [], []), some (.getfield 40, 7, 6, 1, 0, [], [2020]), none, none, some (.iload_n 1, 1, 0, 0, 0, [], []), some (.aaload, 0, 0, 0, 0, [], [])],
  [some (.astore_n 2, 2, 0, 0, 0, [], []), some (.aload_n 2, 2, 0, 0, 0, [], []), some (.invokevirtual 200, 44, 2, 4, 0, [], [3053, 0]), none, none, some (.ifCond .eq 6, 27, 0, 0, 0, [], []), none, none, some (.ldc 204, 0, 0, 0, (-1000000011), [], [3057]), none, some (.ireturn, 0, 0, 0, 0, [], []), some (.iconst 0, 0, 0, 0, 0, [], []), some (.istore_n 3, 3, 0, 0, 0, [], []), some (.iload_n 3, 3, 0, 0, 0, [], []), some (.aload_n 2, 2, 0, 0, 0, [], []), some (.getfield 259, 4, 2, 0, 0, [], [1222])],
  [none, none, some (.if_icmp .ge 55, 89, 0, 0, 0, [], []), none, none, some (.aload_n 2, 2, 0, 0, 0, [], []), some (.iload_n 3, 3, 0, 0, 0, [], []), some (.invokevirtual 265, 47, 10, 4, 0, [], [3062, 0]), none, none, some (.ifCond .eq 41, 83, 0, 0, 0, [], []), none, none, some (.aload_n 0, 0, 0, 0, 0, [], []), some (.getfield 28, 7, 2, 1, 0, [], [2016]), none],
  [none, some (.iload_n 3, 3, 0, 0, 0, [], []), some (.invokevirtual 74, 15, 10, 2, 0, [], [2070, 0]), none, none, some (.ifCond .eq 28, 81, 0, 0, 0, [], []), none, none, some (.aload_n 2, 2, 0, 0, 0, [], []), some (.getfield 254, 4, 0, 1, 0, [], [1218]), none, none, some (.iload_n 3, 3, 0, 0, 0, [], []), some (.iaload, 20, 0, 0, 0, [], []), some (.aload_n 0, 0, 0, 0, 0, [], []), some (.getfield 28, 7, 2, 1, 0, [], [2016])],
  [none, none, some (.aload_n 0, 0, 0, 0, 0, [], []), some (.getfield 28, 7, 2, 1, 0, [], [2016]), none, none, some (.getfield 77, 2, 1, 1, 0, [], [1150]), none, none, some (.iload_n 3, 3, 0, 0, 0, [], []), some (.aaload, 0, 0, 0, 0, [], []), some (.invokevirtual 99, 19, 9, 2, 0, [], [2081, 0]), none, none, some (.if_icmp .eq 5, 83, 0, 0, 0, [], []), none],
  [none, some (.iload_n 3, 3, 0, 0, 0, [], []), some (.ireturn, 0, 0, 0, 0, [], []), some (.iinc 3 1, 3, 0, 0, 1, [], []), none, none, some (.goto (-57), 29, 0, 0, 0, [], []), none, none, some (.ldc 183, 0, 0, 0, (-1000000005), [], [2239]), none, some (.ireturn, 0, 0, 0, 0, [], []), none, none, none, none]]
/-- X7_reads -/
def qm_86 : qs_E := (RX7, yX7_reads, cX7_reads, 4, some .int, 1, 1, 1, qc_86, [4049, 4047, 1001, 4048])
def qc_87 : List (List (Option qs_Row)) := [[some (.iload_n 1, 1, 0, 0, 0, [], []), some (.invokestatic 197, 100, 10, 0, 0, [], [3050, 0]), none, none, some (.ifCond .eq 10, 14, 0, 0, 0, [], []), none, none, some (.iload_n 3, 3, 0, 0, 0, [], []), some (.invokestatic 197, 100, 10, 0, 0, [], [3050, 0]), none, none, some (.ifCond .ne 6, 17, 0, 0, 0, [], []), none, none, some (.ldc 64, 0, 0, 0, (-1000000001), [], [2055]), none],
  [some (.ireturn, 0, 0, 0, 0, [], []), some (.aload_n 0, 0, 0, 0, 0, [], []), some (.getfield 40, 7, 6, 1, 0, [], [2020]), none, none, some (.iload_n 1, 1, 0, 0, 0, [], []), some (.aaload, 0, 0, 0, 0, [], []), some (.astore 6, 6, 0, 0, 0, [], []), none, some (.aload_n 0, 0, 0, 0, 0, [], []), some (.getfield 40, 7, 6, 1, 0, [], [2020]), none, none, some (.iload_n 3, 3, 0, 0, 0, [], []), some (.aaload, 0, 0, 0, 0, [], []), some (.astore 7, 7, 0, 0, 0, [], [])],
  [none, some (.aload 6, 6, 0, 0, 0, [], []), none, some (.invokevirtual 200, 44, 2, 4, 0, [], [3053, 0]), none, none, some (.ifCond .ne 11, 49, 0, 0, 0, [], []), none, none, some (.aload 7, 7, 0, 0, 0, [], []), none, some (.invokevirtual 200, 44, 2, 4, 0, [], [3053, 0]), none, none, some (.ifCond .eq 6, 52, 0, 0, 0, [], []), none],
  [none, some (.ldc 204, 0, 0, 0, (-1000000011), [], [3057]), none, some (.ireturn, 0, 0, 0, 0, [], []), some (.aload 6, 6, 0, 0, 0, [], []), none, some (.getfield 251, 4, 1, 0, 0, [], [1220]), none, none, some (.aload 7, 7, 0, 0, 0, [], []), none, some (.getfield 251, 4, 1, 0, 0, [], [1220]), none, none, some (.if_icmp .eq 6, 68, 0, 0, 0, [], []), none],
  [none, some (.ldc 122, 0, 0, 0, (-1000000012), [], [2136]), none, some (.ireturn, 0, 0, 0, 0, [], []), some (.aload 6, 6, 0, 0, 0, [], []), none, some (.iload_n 2, 2, 0, 0, 0, [], []), some (.iload 5, 5, 0, 0, 0, [], []), none, some (.invokevirtual 268, 46, 18, 4, 0, [], [4054, 0]), none, none, some (.ifCond .eq 15, 91, 0, 0, 0, [], []), none, none, some (.aload 7, 7, 0, 0, 0, [], [])],
  [none, some (.iload 4, 4, 0, 0, 0, [], []), none, some (.iload 5, 5, 0, 0, 0, [], []), none, some (.invokevirtual 268, 46, 18, 4, 0, [], [4054, 0]), none, none, some (.ifCond .ne 6, 94, 0, 0, 0, [], []), none, none, some (.ldc 250, 0, 0, 0, (-1000000013), [], [4038]), none, some (.ireturn, 0, 0, 0, 0, [], []), some (.aload 6, 6, 0, 0, 0, [], []), none],
  [some (.getfield 254, 4, 0, 1, 0, [], [1218]), none, none, some (.iload_n 2, 2, 0, 0, 0, [], []), some (.aload 7, 7, 0, 0, 0, [], []), none, some (.getfield 254, 4, 0, 1, 0, [], [1218]), none, none, some (.iload 4, 4, 0, 0, 0, [], []), none, some (.iload 5, 5, 0, 0, 0, [], []), none, some (.invokestatic 271, 1001, 0, 0, 0, [], [4058]), none, none],
  [some (.iload 5, 5, 0, 0, 0, [], []), none, some (.ireturn, 0, 0, 0, 0, [], []), none, none, none, none, none, none, none, none, none, none, none, none, none]]
/-- X7_copy -/
def qm_87 : qs_E := (RX7, yX7_copy, cX7_copy, 8, some .int, 1, 5, 1, qc_87, [4053, 4051, 1001, 4052])
def qc_88 : List (List (Option qs_Row)) := [[some (.iload_n 1, 1, 0, 0, 0, [], []), some (.invokestatic 277, 101, 10, 0, 0, [], [4065, 0]), none, none, some (.ifCond .eq 11, 15, 0, 0, 0, [], []), none, none, some (.iload_n 2, 2, 0, 0, 0, [], []), some (.iconst 3, 0, 0, 0, 3, [], []), some (.invokestatic 60, 97, 18, 0, 0, [], [2052, 0]), none, none, some (.ifCond .ne 6, 18, 0, 0, 0, [], []), none, none, some (.ldc 64, 0, 0, 0, (-1000000001), [], [2055])],
  [none, some (.ireturn, 0, 0, 0, 0, [], []), some (.iload_n 2, 2, 0, 0, 0, [], []), some (.iconst 1, 0, 0, 0, 1, [], []), some (.if_icmp .ne 14, 34, 0, 0, 0, [], []), none, none, some (.aload_n 0, 0, 0, 0, 0, [], []), some (.getfield 28, 7, 2, 1, 0, [], [2016]), none, none, some (.iload_n 3, 3, 0, 0, 0, [], []), some (.invokevirtual 74, 15, 10, 2, 0, [], [2070, 0]), none, none, some (.ifCond .eq 15, 46, 0, 0, 0, [], [])],
  [none, none, some (.iload_n 2, 2, 0, 0, 0, [], []), some (.iconst 2, 0, 0, 0, 2, [], []), some (.if_icmp .ne 13, 49, 0, 0, 0, [], []), none, none, some (.iload_n 3, 3, 0, 0, 0, [], []), some (.invokestatic 197, 100, 10, 0, 0, [], [3050, 0]), none, none, some (.ifCond .ne 6, 49, 0, 0, 0, [], []), none, none, some (.ldc 64, 0, 0, 0, (-1000000001), [], [2055]), none],
  [some (.ireturn, 0, 0, 0, 0, [], []), some (.iload_n 2, 2, 0, 0, 0, [], []), some (.iconst 2, 0, 0, 0, 2, [], []), some (.if_icmp .ne 18, 69, 0, 0, 0, [], []), none, none, some (.aload_n 0, 0, 0, 0, 0, [], []), some (.getfield 40, 7, 6, 1, 0, [], [2020]), none, none, some (.iload_n 3, 3, 0, 0, 0, [], []), some (.aaload, 0, 0, 0, 0, [], []), some (.invokevirtual 200, 44, 2, 4, 0, [], [3053, 0]), none, none, some (.ifCond .eq 6, 69, 0, 0, 0, [], [])],
  [none, none, some (.ldc 204, 0, 0, 0, (-1000000011), [], [3057]), none, some (.ireturn, 0, 0, 0, 0, [], []), some (.aload_n 0, 0, 0, 0, 0, [], []), some (.getfield 46, 7, 7, 1, 0, [], [2021]), none, none, some (.iload_n 1, 1, 0, 0, 0, [], []), some (.aaload, 0, 0, 0, 0, [], []), some (.astore 4, 4, 0, 0, 0, [], []), none, some (.aload 4, 4, 0, 0, 0, [], []), none, some (.getfield 280, 5, 2, 0, 0, [], [2003])],
  [none, none, some (.istore 5, 5, 0, 0, 0, [], []), none, some (.aload 4, 4, 0, 0, 0, [], []), none, some (.iload_n 2, 2, 0, 0, 0, [], []), some (.putfield 280, 5, 2, 0, 0, [], [2003]), none, none, some (.iload_n 2, 2, 0, 0, 0, [], []), some (.iconst 1, 0, 0, 0, 1, [], []), some (.if_icmp .ne 20, 112, 0, 0, 0, [], []), none, none, some (.aload 4, 4, 0, 0, 0, [], [])],
  [none, some (.getfield 283, 5, 0, 1, 0, [], [2000]), none, none, some (.aload_n 0, 0, 0, 0, 0, [], []), some (.getfield 28, 7, 2, 1, 0, [], [2016]), none, none, some (.getfield 77, 2, 1, 1, 0, [], [1150]), none, none, some (.iload_n 3, 3, 0, 0, 0, [], []), some (.aaload, 0, 0, 0, 0, [], []), some (.invokevirtual 287, 2, 8, 0, 0, [], [4068, 0]), none, none],
  [some (.iload_n 2, 2, 0, 0, 0, [], []), some (.iconst 2, 0, 0, 0, 2, [], []), some (.if_icmp .ne 17, 131, 0, 0, 0, [], []), none, none, some (.aload 4, 4, 0, 0, 0, [], []), none, some (.getfield 289, 5, 1, 1, 0, [], [2002]), none, none, some (.aload_n 0, 0, 0, 0, 0, [], []), some (.getfield 40, 7, 6, 1, 0, [], [2020]), none, none, some (.iload_n 3, 3, 0, 0, 0, [], []), some (.aaload, 0, 0, 0, 0, [], [])],
  [some (.invokevirtual 293, 43, 8, 4, 0, [], [4069, 0]), none, none, some (.iload_n 2, 2, 0, 0, 0, [], []), some (.iconst 3, 0, 0, 0, 3, [], []), some (.if_icmp .ne 9, 142, 0, 0, 0, [], []), none, none, some (.aload 4, 4, 0, 0, 0, [], []), none, some (.iload_n 3, 3, 0, 0, 0, [], []), some (.putfield 296, 5, 3, 0, 0, [], [2004]), none, none, some (.iload 5, 5, 0, 0, 0, [], []), none],
  [some (.ireturn, 0, 0, 0, 0, [], []), none, none, none, none, none, none, none, none, none, none, none, none, none, none, none]]
/-- X7_lay -/
def qm_88 : qs_E := (RX7, yX7_lay, cX7_lay, 6, some .int, 1, 3, 1, qc_88, [4064, 4062, 1001, 4063])
def qc_89 : List (List (Option qs_Row)) := [[some (.iload_n 1, 1, 0, 0, 0, [], []), some (.invokestatic 277, 101, 10, 0, 0, [], [4065, 0]), none, none, some (.ifCond .eq 10, 14, 0, 0, 0, [], []), none, none, some (.iload_n 2, 2, 0, 0, 0, [], []), some (.invokestatic 56, 99, 10, 0, 0, [], [2049, 0]), none, none, some (.ifCond .ne 6, 17, 0, 0, 0, [], []), none, none, some (.ldc 64, 0, 0, 0, (-1000000001), [], [2055]), none],
  [some (.ireturn, 0, 0, 0, 0, [], []), some (.aload_n 0, 0, 0, 0, 0, [], []), some (.getfield 46, 7, 7, 1, 0, [], [2021]), none, none, some (.iload_n 1, 1, 0, 0, 0, [], []), some (.aaload, 0, 0, 0, 0, [], []), some (.astore_n 3, 3, 0, 0, 0, [], []), some (.aload_n 3, 3, 0, 0, 0, [], []), some (.getfield 280, 5, 2, 0, 0, [], [2003]), none, none, some (.ifCond .ne 6, 34, 0, 0, 0, [], []), none, none, some (.ldc 204, 0, 0, 0, (-1000000011), [], [3057])],
  [none, some (.ireturn, 0, 0, 0, 0, [], []), some (.aload_n 3, 3, 0, 0, 0, [], []), some (.getfield 280, 5, 2, 0, 0, [], [2003]), none, none, some (.iconst 1, 0, 0, 0, 1, [], []), some (.if_icmp .ne 17, 56, 0, 0, 0, [], []), none, none, some (.aload_n 3, 3, 0, 0, 0, [], []), some (.getfield 283, 5, 0, 1, 0, [], [2000]), none, none, some (.getfield 81, 0, 0, 0, 0, [], [1113]), none],
  [none, some (.iload_n 2, 2, 0, 0, 0, [], []), some (.invokestatic 119, 104, 18, 0, 0, [], [2135, 0]), none, none, some (.ifCond .ne 6, 59, 0, 0, 0, [], []), none, none, some (.ldc 122, 0, 0, 0, (-1000000012), [], [2136]), none, some (.ireturn, 0, 0, 0, 0, [], []), some (.aload_n 3, 3, 0, 0, 0, [], []), some (.getfield 283, 5, 0, 1, 0, [], [2000]), none, none, some (.invokevirtual 110, 9, 1, 0, 0, [], [2120, 0])],
  [none, none, some (.ireturn, 0, 0, 0, 0, [], []), none, none, none, none, none, none, none, none, none, none, none, none, none]]
/-- X7_ask -/
def qm_89 : qs_E := (RX7, yX7_ask, cX7_ask, 4, some .int, 1, 2, 1, qc_89, [4076, 4074, 1001, 4075])
def qc_90 : List (List (Option qs_Row)) := [[some (.iload_n 1, 1, 0, 0, 0, [], []), some (.invokestatic 277, 101, 10, 0, 0, [], [4065, 0]), none, none, some (.ifCond .ne 6, 10, 0, 0, 0, [], []), none, none, some (.ldc 64, 0, 0, 0, (-1000000001), [], [2055]), none, some (.ireturn, 0, 0, 0, 0, [], []), some (.aload_n 0, 0, 0, 0, 0, [], []), some (.getfield 46, 7, 7, 1, 0, [], [2021]), none, none, some (.iload_n 1, 1, 0, 0, 0, [], []), some (.aaload, 0, 0, 0, 0, [], [])],
  [some (.astore_n 3, 3, 0, 0, 0, [], []), some (.aload_n 3, 3, 0, 0, 0, [], []), some (.getfield 280, 5, 2, 0, 0, [], [2003]), none, none, some (.ifCond .ne 6, 27, 0, 0, 0, [], []), none, none, some (.ldc 204, 0, 0, 0, (-1000000011), [], [3057]), none, some (.ireturn, 0, 0, 0, 0, [], []), some (.aload_n 3, 3, 0, 0, 0, [], []), some (.getfield 280, 5, 2, 0, 0, [], [2003]), none, none, some (.iconst 2, 0, 0, 0, 2, [], [])],
  [some (.if_icmp .eq 6, 38, 0, 0, 0, [], []), none, none, some (.ldc 122, 0, 0, 0, (-1000000012), [], [2136]), none, some (.ireturn, 0, 0, 0, 0, [], []), some (.aload_n 3, 3, 0, 0, 0, [], []), some (.getfield 289, 5, 1, 1, 0, [], [2002]), none, none, some (.iload_n 2, 2, 0, 0, 0, [], []), some (.invokevirtual 249, 45, 10, 4, 0, [], [4037, 0]), none, none, some (.ifCond .ne 6, 52, 0, 0, 0, [], []), none],
  [none, some (.ldc 250, 0, 0, 0, (-1000000013), [], [4038]), none, some (.ireturn, 0, 0, 0, 0, [], []), some (.aload_n 3, 3, 0, 0, 0, [], []), some (.getfield 289, 5, 1, 1, 0, [], [2002]), none, none, some (.iload_n 2, 2, 0, 0, 0, [], []), some (.invokevirtual 265, 47, 10, 4, 0, [], [3062, 0]), none, none, some (.ifCond .eq 15, 75, 0, 0, 0, [], []), none, none, some (.aload_n 3, 3, 0, 0, 0, [], [])],
  [some (.getfield 289, 5, 1, 1, 0, [], [2002]), none, none, some (.getfield 254, 4, 0, 1, 0, [], [1218]), none, none, some (.iload_n 2, 2, 0, 0, 0, [], []), some (.iaload, 20, 0, 0, 0, [], []), some (.goto 5, 77, 0, 0, 0, [], []), none, none, some (.ldc 122, 0, 0, 0, (-1000000012), [], [2136]), none, some (.ireturn, 0, 0, 0, 0, [], []), none, none]]
/-- X7_item -/
def qm_90 : qs_E := (RX7, yX7_item, cX7_item, 4, some .int, 1, 2, 1, qc_90, [4080, 4078, 1001, 4079])
def qc_91 : List (List (Option qs_Row)) := [[some (.iload_n 1, 1, 0, 0, 0, [], []), some (.invokestatic 277, 101, 10, 0, 0, [], [4065, 0]), none, none, some (.ifCond .ne 6, 10, 0, 0, 0, [], []), none, none, some (.ldc 64, 0, 0, 0, (-1000000001), [], [2055]), none, some (.ireturn, 0, 0, 0, 0, [], []), some (.aload_n 0, 0, 0, 0, 0, [], []), some (.getfield 46, 7, 7, 1, 0, [], [2021]), none, none, some (.iload_n 1, 1, 0, 0, 0, [], []), some (.aaload, 0, 0, 0, 0, [], [])],
  [some (.astore_n 3, 3, 0, 0, 0, [], []), some (.aload_n 3, 3, 0, 0, 0, [], []), some (.getfield 280, 5, 2, 0, 0, [], [2003]), none, none, some (.ifCond .ne 6, 27, 0, 0, 0, [], []), none, none, some (.ldc 204, 0, 0, 0, (-1000000011), [], [3057]), none, some (.ireturn, 0, 0, 0, 0, [], []), some (.aload_n 3, 3, 0, 0, 0, [], []), some (.getfield 280, 5, 2, 0, 0, [], [2003]), none, none, some (.iconst 3, 0, 0, 0, 3, [], [])],
  [some (.if_icmp .eq 6, 38, 0, 0, 0, [], []), none, none, some (.ldc 122, 0, 0, 0, (-1000000012), [], [2136]), none, some (.ireturn, 0, 0, 0, 0, [], []), some (.iload_n 2, 2, 0, 0, 0, [], []), some (.ifCond .ne 7, 46, 0, 0, 0, [], []), none, none, some (.ldc_w 299, 0, 0, 0, (-1000000002), [], [4085]), none, none, some (.ireturn, 0, 0, 0, 0, [], []), some (.aload_n 3, 3, 0, 0, 0, [], []), some (.getfield 296, 5, 3, 0, 0, [], [2004])],
  [none, none, some (.iload_n 2, 2, 0, 0, 0, [], []), some (.irem, 0, 0, 0, 0, [], []), some (.ireturn, 0, 0, 0, 0, [], []), none, none, none, none, none, none, none, none, none, none, none]]
/-- X7_rest -/
def qm_91 : qs_E := (RX7, yX7_rest, cX7_rest, 4, some .int, 1, 2, 1, qc_91, [4084, 4082, 1001, 4083])
def qc_92 : List (List (Option qs_Row)) := [[some (.aload_n 0, 0, 0, 0, 0, [], []), some (.getfield 300, 7, 9, 0, 0, [], [2023]), none, none, some (.bipush 60, 0, 0, 0, 60, [], []), none, some (.if_icmp .lt 6, 12, 0, 0, 0, [], []), none, none, some (.ldc 69, 0, 0, 0, (-1000000003), [], [2056]), none, some (.ireturn, 0, 0, 0, 0, [], []), some (.aload_n 0, 0, 0, 0, 0, [], []), some (.getfield 50, 7, 8, 1, 0, [], [2022]), none, none],
  [some (.aload_n 0, 0, 0, 0, 0, [], []), some (.getfield 300, 7, 9, 0, 0, [], [2023]), none, none, some (.iload_n 1, 1, 0, 0, 0, [], []), some (.iastore, 0, 0, 0, 0, [], []), some (.aload_n 0, 0, 0, 0, 0, [], []), some (.dup, 0, 0, 0, 0, [], []), some (.getfield 300, 7, 9, 0, 0, [], [2023]), none, none, some (.iconst 1, 0, 0, 0, 1, [], []), some (.iadd, 0, 0, 0, 0, [], []), some (.putfield 300, 7, 9, 0, 0, [], [2023]), none, none],
  [some (.aload_n 0, 0, 0, 0, 0, [], []), some (.getfield 300, 7, 9, 0, 0, [], [2023]), none, none, some (.ireturn, 0, 0, 0, 0, [], []), none, none, none, none, none, none, none, none, none, none, none]]
/-- X7_tell -/
def qm_92 : qs_E := (RX7, yX7_tell, cX7_tell, 2, some .int, 1, 1, 1, qc_92, [4089, 4087, 1001, 4088])
def qc_93 : List (List (Option qs_Row)) := [[some (.aload_n 0, 0, 0, 0, 0, [], []), some (.getfield 300, 7, 9, 0, 0, [], [2023]), none, none, some (.istore_n 2, 2, 0, 0, 0, [], []), some (.aload_n 0, 0, 0, 0, 0, [], []), some (.iconst 0, 0, 0, 0, 0, [], []), some (.putfield 300, 7, 9, 0, 0, [], [2023]), none, none, some (.iload_n 1, 1, 0, 0, 0, [], []), some (.iconst 1, 0, 0, 0, 1, [], []), some (.if_icmp .lt 9, 21, 0, 0, 0, [], []), none, none, some (.iload_n 1, 1, 0, 0, 0, [], [])],
  [some (.bipush 30, 0, 0, 0, 30, [], []), none, some (.if_icmp .le 6, 24, 0, 0, 0, [], []), none, none, some (.ldc 64, 0, 0, 0, (-1000000001), [], [2055]), none, some (.ireturn, 0, 0, 0, 0, [], []), some (.aload_n 0, 0, 0, 0, 0, [], []), some (.getfield 303, 7, 5, 2, 0, [], [2019]), none, none, some (.ifCond .ne 7, 35, 0, 0, 0, [], []), none, none, some (.ldc_w 299, 0, 0, 0, (-1000000002), [], [4085])],
  [none, none, some (.ireturn, 0, 0, 0, 0, [], []), some (.aload_n 0, 0, 0, 0, 0, [], []), some (.getfield 35, 7, 4, 1, 0, [], [2018]), none, none, some (.aload_n 0, 0, 0, 0, 0, [], []), some (.getfield 32, 7, 3, 1, 0, [], [2017]), none, none, some (.invokevirtual 184, 14, 8, 2, 0, [], [3000, 0]), none, none, some (.iload_n 1, 1, 0, 0, 0, [], []), some (.sipush 9999, 0, 0, 0, 9999, [], [])],
  [none, none, some (.aload_n 0, 0, 0, 0, 0, [], []), some (.getfield 32, 7, 3, 1, 0, [], [2017]), none, none, some (.getfield 159, 2, 12, 0, 0, [], [1172]), none, none, some (.isub, 0, 0, 0, 0, [], []), some (.invokestatic 144, 1003, 0, 0, 0, [], [2181]), none, none, some (.istore_n 3, 3, 0, 0, 0, [], []), some (.iconst 0, 0, 0, 0, 0, [], []), some (.istore 4, 4, 0, 0, 0, [], [])],
  [none, some (.iload 4, 4, 0, 0, 0, [], []), none, some (.iload_n 3, 3, 0, 0, 0, [], []), some (.if_icmp .ge 70, 138, 0, 0, 0, [], []), none, none, some (.aload_n 0, 0, 0, 0, 0, [], []), some (.getfield 35, 7, 4, 1, 0, [], [2018]), none, none, some (.invokevirtual 188, 26, 0, 2, 0, [], [3017, 0]), none, none, some (.aload_n 0, 0, 0, 0, 0, [], []), some (.iload_n 2, 2, 0, 0, 0, [], [])],
  [some (.iconst 2, 0, 0, 0, 2, [], []), some (.iload 4, 4, 0, 0, 0, [], []), none, some (.imul, 0, 0, 0, 0, [], []), some (.aload_n 0, 0, 0, 0, 0, [], []), some (.getfield 35, 7, 4, 1, 0, [], [2018]), none, none, some (.getfield 156, 2, 7, 0, 0, [], [1162]), none, none, some (.invokevirtual 307, 106, 26, 7, 0, [], [4094, 0]), none, none, some (.ifCond .ne 10, 104, 0, 0, 0, [], []), none],
  [none, some (.iconst 1, 0, 0, 0, 1, [], []), some (.iconst 2, 0, 0, 0, 2, [], []), some (.iload 4, 4, 0, 0, 0, [], []), none, some (.imul, 0, 0, 0, 0, [], []), some (.iadd, 0, 0, 0, 0, [], []), some (.ireturn, 0, 0, 0, 0, [], []), some (.aload_n 0, 0, 0, 0, 0, [], []), some (.iload_n 2, 2, 0, 0, 0, [], []), some (.iconst 2, 0, 0, 0, 2, [], []), some (.iload 4, 4, 0, 0, 0, [], []), none, some (.imul, 0, 0, 0, 0, [], []), some (.iconst 1, 0, 0, 0, 1, [], []), some (.iadd, 0, 0, 0, 0, [], [])],
  [some (.aload_n 0, 0, 0, 0, 0, [], []), some (.getfield 35, 7, 4, 1, 0, [], [2018]), none, none, some (.invokevirtual 180, 21, 1, 2, 0, [], [2223, 0]), none, none, some (.invokevirtual 307, 106, 26, 7, 0, [], [4094, 0]), none, none, some (.ifCond .ne 10, 132, 0, 0, 0, [], []), none, none, some (.iconst 2, 0, 0, 0, 2, [], []), some (.iconst 2, 0, 0, 0, 2, [], []), some (.iload 4, 4, 0, 0, 0, [], [])],
  [none, some (.imul, 0, 0, 0, 0, [], []), some (.iadd, 0, 0, 0, 0, [], []), some (.ireturn, 0, 0, 0, 0, [], []), some (.iinc 4 1, 4, 0, 0, 1, [], []), none, none, some (.goto (-70), 65, 0, 0, 0, [], []), none, none, some (.iload_n 2, 2, 0, 0, 0, [], []), some (.iconst 2, 0, 0, 0, 2, [], []), some (.iload_n 3, 3, 0, 0, 0, [], []), some (.imul, 0, 0, 0, 0, [], []), some (.if_icmp .le 11, 153, 0, 0, 0, [], []), none],
  [none, some (.iconst 1, 0, 0, 0, 1, [], []), some (.iconst 2, 0, 0, 0, 2, [], []), some (.iload_n 3, 3, 0, 0, 0, [], []), some (.imul, 0, 0, 0, 0, [], []), some (.iadd, 0, 0, 0, 0, [], []), some (.goto 4, 154, 0, 0, 0, [], []), none, none, some (.iconst 0, 0, 0, 0, 0, [], []), some (.ireturn, 0, 0, 0, 0, [], []), none, none, none, none, none]]
/-- X7_check -/
def qm_93 : qs_E := (RX7, yX7_check, cX7_check, 5, some .int, 1, 1, 1, qc_93, [4093, 4091, 1001, 4092])
def qc_94 : List (List (Option qs_Row)) := [[some (.aload_n 0, 0, 0, 0, 0, [], []), some (.getfield 32, 7, 3, 1, 0, [], [2017]), none, none, some (.aload_n 0, 0, 0, 0, 0, [], []), some (.getfield 28, 7, 2, 1, 0, [], [2016]), none, none, some (.invokevirtual 184, 14, 8, 2, 0, [], [3000, 0]), none, none, some (.aload_n 0, 0, 0, 0, 0, [], []), some (.iconst 1, 0, 0, 0, 1, [], []), some (.putfield 303, 7, 5, 2, 0, [], [2019]), none, none],
  [some (.aload_n 0, 0, 0, 0, 0, [], []), some (.getfield 28, 7, 2, 1, 0, [], [2016]), none, none, some (.getfield 65, 2, 3, 0, 0, [], [1154]), none, none, some (.ireturn, 0, 0, 0, 0, [], []), none, none, none, none, none, none, none, none]]
/-- X7_keep -/
def qm_94 : qs_E := (RX7, yX7_keep, cX7_keep, 1, some .int, 1, 0, 1, qc_94, [4101, 4099, 1001, 4100])
def qc_95 : List (List (Option qs_Row)) := [[some (.aload_n 0, 0, 0, 0, 0, [], []), some (.getfield 303, 7, 5, 2, 0, [], [2019]), none, none, some (.ifCond .ne 7, 11, 0, 0, 0, [], []), none, none, some (.ldc_w 299, 0, 0, 0, (-1000000002), [], [4085]), none, none, some (.ireturn, 0, 0, 0, 0, [], []), some (.aload_n 0, 0, 0, 0, 0, [], []), some (.getfield 28, 7, 2, 1, 0, [], [2016]), none, none, some (.aload_n 0, 0, 0, 0, 0, [], [])],
  [some (.getfield 32, 7, 3, 1, 0, [], [2017]), none, none, some (.invokevirtual 184, 14, 8, 2, 0, [], [3000, 0]), none, none, some (.aload_n 0, 0, 0, 0, 0, [], []), some (.getfield 28, 7, 2, 1, 0, [], [2016]), none, none, some (.getfield 65, 2, 3, 0, 0, [], [1154]), none, none, some (.ireturn, 0, 0, 0, 0, [], []), none, none]]
/-- X7_back -/
def qm_95 : qs_E := (RX7, yX7_back, cX7_back, 1, some .int, 1, 0, 1, qc_95, [4105, 4103, 1001, 4104])
def qc_96 : List (List (Option qs_Row)) := [[some (.iload_n 1, 1, 0, 0, 0, [], []), some (.tableswitch 108 0 7 #[47, 55, 63, 71, 79, 87, 92, 100], 109, 47, 0, 0, [(0, 48), (1, 56), (2, 64), (3, 72), (4, 80), (5, 88), (6, 93), (7, 101)], []), none, none, none, none, none, none, none, none, none, none, none, none, none, none],
  [none, none, none, none, none, none, none, none, none, none, none, none, none, none, none, none],
  [none, none, none, none, none, none, none, none, none, none, none, none, none, none, none, none],
  [some (.aload_n 0, 0, 0, 0, 0, [], []), some (.getfield 28, 7, 2, 1, 0, [], [2016]), none, none, some (.getfield 65, 2, 3, 0, 0, [], [1154]), none, none, some (.ireturn, 0, 0, 0, 0, [], []), some (.aload_n 0, 0, 0, 0, 0, [], []), some (.getfield 28, 7, 2, 1, 0, [], [2016]), none, none, some (.getfield 159, 2, 12, 0, 0, [], [1172]), none, none, some (.ireturn, 0, 0, 0, 0, [], [])],
  [some (.aload_n 0, 0, 0, 0, 0, [], []), some (.getfield 28, 7, 2, 1, 0, [], [2016]), none, none, some (.getfield 135, 2, 5, 0, 0, [], [1158]), none, none, some (.ireturn, 0, 0, 0, 0, [], []), some (.aload_n 0, 0, 0, 0, 0, [], []), some (.getfield 28, 7, 2, 1, 0, [], [2016]), none, none, some (.getfield 138, 2, 6, 0, 0, [], [1160]), none, none, some (.ireturn, 0, 0, 0, 0, [], [])],
  [some (.aload_n 0, 0, 0, 0, 0, [], []), some (.getfield 28, 7, 2, 1, 0, [], [2016]), none, none, some (.getfield 224, 2, 14, 0, 0, [], [1176]), none, none, some (.ireturn, 0, 0, 0, 0, [], []), some (.aload_n 0, 0, 0, 0, 0, [], []), some (.getfield 300, 7, 9, 0, 0, [], [2023]), none, none, some (.ireturn, 0, 0, 0, 0, [], []), some (.aload_n 0, 0, 0, 0, 0, [], []), some (.getfield 19, 7, 1, 1, 0, [], [2015]), none],
  [none, some (.getfield 215, 3, 2, 0, 0, [], [1079]), none, none, some (.ireturn, 0, 0, 0, 0, [], []), some (.aload_n 0, 0, 0, 0, 0, [], []), some (.getfield 28, 7, 2, 1, 0, [], [2016]), none, none, some (.getfield 153, 2, 13, 0, 0, [], [1174]), none, none, some (.ireturn, 0, 0, 0, 0, [], []), some (.ldc 64, 0, 0, 0, (-1000000001), [], [2055]), none, some (.ireturn, 0, 0, 0, 0, [], [])]]
/-- X7_count -/
def qm_96 : qs_E := (RX7, yX7_count, cX7_count, 2, some .int, 1, 1, 1, qc_96, [4109, 4107, 1001, 4108])
def qc_97 : List (List (Option qs_Row)) := [[some (.iload_n 0, 0, 0, 0, 0, [], []), some (.ifCond .lt 12, 13, 0, 0, 0, [], []), none, none, some (.iload_n 0, 0, 0, 0, 0, [], []), some (.iload_n 1, 1, 0, 0, 0, [], []), some (.if_icmp .gt 7, 13, 0, 0, 0, [], []), none, none, some (.iconst 1, 0, 0, 0, 1, [], []), some (.goto 4, 14, 0, 0, 0, [], []), none, none, some (.iconst 0, 0, 0, 0, 0, [], []), some (.ireturn, 0, 0, 0, 0, [], []), none]]
/-- X7_within -/
def qm_97 : qs_E := (RX7, yX7_within, cX7_within, 2, some .boolean, 0, 2, 2, qc_97, [2054, 2053, 1001])
def qc_98 : List (List (Option qs_Row)) := [[some (.iload_n 0, 0, 0, 0, 0, [], []), some (.ifCond .ge 7, 8, 0, 0, 0, [], []), none, none, some (.iconst 0, 0, 0, 0, 0, [], []), some (.goto 13, 18, 0, 0, 0, [], []), none, none, some (.iload_n 0, 0, 0, 0, 0, [], []), some (.iload_n 1, 1, 0, 0, 0, [], []), some (.if_icmp .le 7, 17, 0, 0, 0, [], []), none, none, some (.iload_n 1, 1, 0, 0, 0, [], []), some (.goto 4, 18, 0, 0, 0, [], []), none],
  [none, some (.iload_n 0, 0, 0, 0, 0, [], []), some (.ireturn, 0, 0, 0, 0, [], []), none, none, none, none, none, none, none, none, none, none, none, none, none]]
/-- X7_held -/
def qm_98 : qs_E := (RX7, yX7_held, cX7_held, 2, some .int, 0, 2, 1, qc_98, [2099, 2098, 1001])
def qc_99 : List (List (Option qs_Row)) := [[some (.iload_n 0, 0, 0, 0, 0, [], []), some (.ifCond .lt 13, 14, 0, 0, 0, [], []), none, none, some (.iload_n 0, 0, 0, 0, 0, [], []), some (.bipush 6, 0, 0, 0, 6, [], []), none, some (.if_icmp .ge 7, 14, 0, 0, 0, [], []), none, none, some (.iconst 1, 0, 0, 0, 1, [], []), some (.goto 4, 15, 0, 0, 0, [], []), none, none, some (.iconst 0, 0, 0, 0, 0, [], []), some (.ireturn, 0, 0, 0, 0, [], [])]]
/-- X7_isKind -/
def qm_99 : qs_E := (RX7, yX7_isKind, cX7_isKind, 1, some .boolean, 0, 1, 2, qc_99, [2051, 2050, 1001])
def qc_100 : List (List (Option qs_Row)) := [[some (.iload_n 0, 0, 0, 0, 0, [], []), some (.ifCond .lt 12, 13, 0, 0, 0, [], []), none, none, some (.iload_n 0, 0, 0, 0, 0, [], []), some (.iconst 4, 0, 0, 0, 4, [], []), some (.if_icmp .ge 7, 13, 0, 0, 0, [], []), none, none, some (.iconst 1, 0, 0, 0, 1, [], []), some (.goto 4, 14, 0, 0, 0, [], []), none, none, some (.iconst 0, 0, 0, 0, 0, [], []), some (.ireturn, 0, 0, 0, 0, [], []), none]]
/-- X7_isSheet -/
def qm_100 : qs_E := (RX7, yX7_isSheet, cX7_isSheet, 1, some .boolean, 0, 1, 2, qc_100, [3052, 3051, 1001])
def qc_101 : List (List (Option qs_Row)) := [[some (.iload_n 0, 0, 0, 0, 0, [], []), some (.ifCond .lt 12, 13, 0, 0, 0, [], []), none, none, some (.iload_n 0, 0, 0, 0, 0, [], []), some (.iconst 5, 0, 0, 0, 5, [], []), some (.if_icmp .ge 7, 13, 0, 0, 0, [], []), none, none, some (.iconst 1, 0, 0, 0, 1, [], []), some (.goto 4, 14, 0, 0, 0, [], []), none, none, some (.iconst 0, 0, 0, 0, 0, [], []), some (.ireturn, 0, 0, 0, 0, [], []), none]]
/-- X7_isSlot -/
def qm_101 : qs_E := (RX7, yX7_isSlot, cX7_isSlot, 1, some .boolean, 0, 1, 2, qc_101, [4067, 4066, 1001])
def qc_102 : List (List (Option qs_Row)) := [[some (.iload_n 0, 0, 0, 0, 0, [], []), some (.iconst 1, 0, 0, 0, 1, [], []), some (.if_icmp .lt 13, 15, 0, 0, 0, [], []), none, none, some (.iload_n 0, 0, 0, 0, 0, [], []), some (.bipush 60, 0, 0, 0, 60, [], []), none, some (.if_icmp .gt 7, 15, 0, 0, 0, [], []), none, none, some (.iconst 1, 0, 0, 0, 1, [], []), some (.goto 4, 16, 0, 0, 0, [], []), none, none, some (.iconst 0, 0, 0, 0, 0, [], [])],
  [some (.ireturn, 0, 0, 0, 0, [], []), none, none, none, none, none, none, none, none, none, none, none, none, none, none, none]]
/-- X7_isSpan -/
def qm_102 : qs_E := (RX7, yX7_isSpan, cX7_isSpan, 1, some .boolean, 0, 1, 2, qc_102, [3028, 3027, 1001])
def qc_103 : List (List (Option qs_Row)) := [[some (.iload_n 0, 0, 0, 0, 0, [], []), some (.iconst 2, 0, 0, 0, 2, [], []), some (.if_icmp .lt 13, 15, 0, 0, 0, [], []), none, none, some (.iload_n 0, 0, 0, 0, 0, [], []), some (.bipush 6, 0, 0, 0, 6, [], []), none, some (.if_icmp .gt 7, 15, 0, 0, 0, [], []), none, none, some (.iconst 1, 0, 0, 0, 1, [], []), some (.goto 4, 16, 0, 0, 0, [], []), none, none, some (.iconst 0, 0, 0, 0, 0, [], [])],
  [some (.ireturn, 0, 0, 0, 0, [], []), none, none, none, none, none, none, none, none, none, none, none, none, none, none, none]]
/-- X7_canBeSet -/
def qm_103 : qs_E := (RX7, yX7_canBeSet, cX7_canBeSet, 1, some .boolean, 0, 1, 2, qc_103, [2126, 2125, 1001])
def qc_104 : List (List (Option qs_Row)) := [[some (.iload_n 0, 0, 0, 0, 0, [], []), some (.istore_n 2, 2, 0, 0, 0, [], []), some (.iconst 0, 0, 0, 0, 0, [], []), some (.istore_n 3, 3, 0, 0, 0, [], []), some (.iload_n 3, 3, 0, 0, 0, [], []), some (.bipush 6, 0, 0, 0, 6, [], []), none, some (.if_icmp .ge 29, 36, 0, 0, 0, [], []), none, none, some (.iload_n 2, 2, 0, 0, 0, [], []), some (.invokestatic 56, 99, 10, 0, 0, [], [2049, 0]), none, none, some (.ifCond .eq 22, 36, 0, 0, 0, [], []), none],
  [none, some (.iload_n 2, 2, 0, 0, 0, [], []), some (.iload_n 1, 1, 0, 0, 0, [], []), some (.if_icmp .ne 5, 24, 0, 0, 0, [], []), none, none, some (.iconst 1, 0, 0, 0, 1, [], []), some (.ireturn, 0, 0, 0, 0, [], []), some (.getstatic 311, 1, 0, 0, 0, [], [2103]), none, none, some (.iload_n 2, 2, 0, 0, 0, [], []), some (.iaload, 25, 0, 0, 0, [], []), some (.istore_n 2, 2, 0, 0, 0, [], []), some (.iinc 3 1, 3, 0, 0, 1, [], []), none],
  [none, some (.goto (-29), 4, 0, 0, 0, [], []), none, none, some (.iconst 0, 0, 0, 0, 0, [], []), some (.ireturn, 0, 0, 0, 0, [], []), none, none, none, none, none, none, none, none, none, none]]
/-- X7_isOf -/
def qm_104 : qs_E := (RX7, yX7_isOf, cX7_isOf, 4, some .boolean, 0, 2, 2, qc_104, [2102, 2101, 1001])
def qc_105 : List (List (Option qs_Row)) := [[some (.aload_n 0, 0, 0, 0, 0, [], []), some (.getfield 35, 7, 4, 1, 0, [], [2018]), none, none, some (.aload_n 0, 0, 0, 0, 0, [], []), some (.getfield 28, 7, 2, 1, 0, [], [2016]), none, none, some (.invokevirtual 184, 14, 8, 2, 0, [], [3000, 0]), none, none, some (.iconst 0, 0, 0, 0, 0, [], []), some (.istore_n 3, 3, 0, 0, 0, [], []), some (.iconst 0, 0, 0, 0, 0, [], []), some (.istore 4, 4, 0, 0, 0, [], []), none],
  [some (.iload 4, 4, 0, 0, 0, [], []), none, some (.aload_n 1, 1, 0, 0, 0, [], []), some (.getfield 259, 4, 2, 0, 0, [], [1222]), none, none, some (.if_icmp .ge 55, 77, 0, 0, 0, [], []), none, none, some (.aload_n 1, 1, 0, 0, 0, [], []), some (.iload 4, 4, 0, 0, 0, [], []), none, some (.invokevirtual 265, 47, 10, 4, 0, [], [3062, 0]), none, none, some (.ifCond .eq 33, 64, 0, 0, 0, [], [])],
  [none, none, some (.iload_n 3, 3, 0, 0, 0, [], []), some (.aload_n 0, 0, 0, 0, 0, [], []), some (.getfield 35, 7, 4, 1, 0, [], [2018]), none, none, some (.aload_n 0, 0, 0, 0, 0, [], []), some (.getfield 35, 7, 4, 1, 0, [], [2018]), none, none, some (.getfield 77, 2, 1, 1, 0, [], [1150]), none, none, some (.iload_n 2, 2, 0, 0, 0, [], []), some (.aaload, 0, 0, 0, 0, [], [])],
  [some (.invokevirtual 99, 19, 9, 2, 0, [], [2081, 0]), none, none, some (.aload_n 1, 1, 0, 0, 0, [], []), some (.getfield 254, 4, 0, 1, 0, [], [1218]), none, none, some (.iload 4, 4, 0, 0, 0, [], []), none, some (.iaload, 20, 0, 0, 0, [], []), some (.isub, 0, 0, 0, 0, [], []), some (.invokestatic 314, 1004, 0, 0, 0, [], [3071]), none, none, some (.iadd, 0, 0, 0, 0, [], []), some (.istore_n 3, 3, 0, 0, 0, [], [])],
  [some (.aload_n 0, 0, 0, 0, 0, [], []), some (.getfield 35, 7, 4, 1, 0, [], [2018]), none, none, some (.invokevirtual 188, 26, 0, 2, 0, [], [3017, 0]), none, none, some (.iinc 4 1, 4, 0, 0, 1, [], []), none, none, some (.goto (-58), 16, 0, 0, 0, [], []), none, none, some (.iload_n 3, 3, 0, 0, 0, [], []), some (.ireturn, 0, 0, 0, 0, [], []), none]]
/-- X7_apartFrom -/
def qm_105 : qs_E := (RX7, yX7_apartFrom, cX7_apartFrom, 5, some .int, 1, 2, 1, qc_105, [3061, 3060, 1001, 3])
def qc_106 : List (List (Option qs_Row)) := [[some (.iload_n 2, 2, 0, 0, 0, [], []), some (.iload_n 1, 1, 0, 0, 0, [], []), some (.if_icmp .ge 23, 25, 0, 0, 0, [], []), none, none, some (.iload_n 2, 2, 0, 0, 0, [], []), some (.bipush 60, 0, 0, 0, 60, [], []), none, some (.if_icmp .ge 17, 25, 0, 0, 0, [], []), none, none, some (.aload_n 0, 0, 0, 0, 0, [], []), some (.getfield 50, 7, 8, 1, 0, [], [2022]), none, none, some (.iload_n 2, 2, 0, 0, 0, [], [])],
  [some (.iaload, 20, 0, 0, 0, [], []), some (.iload_n 3, 3, 0, 0, 0, [], []), some (.if_icmp .ne 7, 25, 0, 0, 0, [], []), none, none, some (.iconst 1, 0, 0, 0, 1, [], []), some (.goto 4, 26, 0, 0, 0, [], []), none, none, some (.iconst 0, 0, 0, 0, 0, [], []), some (.ireturn, 0, 0, 0, 0, [], []), none, none, none, none, none]]
/-- X7_toldRight -/
def qm_106 : qs_E := (RX7, yX7_toldRight, cX7_toldRight, 4, some .boolean, 1, 3, 2, qc_106, [4097, 4096, 1001, 13])
def qc_107 : List (List (Option qs_Row)) := [[some (.aload_n 0, 0, 0, 0, 0, [], []), some (.invokespecial 1, 1000, 0, 0, 0, [], [4115]), none, none, some (.aload_n 0, 0, 0, 0, 0, [], []), some (.sipush 1448, 0, 0, 0, 1448, [], []), none, none, some (.newarray .int, 20, 0, 0, 0, [], []), none, some (.putfield 9, 8, 0, 1, 0, [], [4116]), none, none, some (.aload_n 0, 0, 0, 0, 0, [], []), some (.sipush 1448, 0, 0, 0, 1448, [], []), none],
  [none, some (.newarray .int, 20, 0, 0, 0, [], []), none, some (.putfield 13, 8, 1, 1, 0, [], [4117]), none, none, some (.aload_n 0, 0, 0, 0, 0, [], []), some (.sipush 1448, 0, 0, 0, 1448, [], []), none, none, some (.newarray .int, 20, 0, 0, 0, [], []), none, some (.putfield 16, 8, 2, 1, 0, [], [4118]), none, none, some (.aload_n 0, 0, 0, 0, 0, [], [])],
  [some (.bipush 76, 0, 0, 0, 76, [], []), none, some (.newarray .int, 20, 0, 0, 0, [], []), none, some (.putfield 19, 8, 4, 1, 0, [], [4120]), none, none, some (.aload_n 0, 0, 0, 0, 0, [], []), some (.bipush 8, 0, 0, 0, 8, [], []), none, some (.newarray .long, 23, 0, 0, 0, [], []), none, some (.putfield 22, 8, 7, 1, 0, [], [4123]), none, none, some (.aload_n 0, 0, 0, 0, 0, [], [])],
  [some (.bipush 96, 0, 0, 0, 96, [], []), none, some (.newarray .int, 20, 0, 0, 0, [], []), none, some (.putfield 26, 8, 8, 1, 0, [], [4124]), none, none, some (.aload_n 0, 0, 0, 0, 0, [], []), some (.bipush 11, 0, 0, 0, 11, [], []), none, some (.newarray .char, 22, 0, 0, 0, [], []), none, some (.dup, 0, 0, 0, 0, [], []), some (.iconst 0, 0, 0, 0, 0, [], []), some (.bipush 108, 0, 0, 0, 108, [], []), none],
  [some (.castore, 0, 0, 0, 0, [], []), some (.dup, 0, 0, 0, 0, [], []), some (.iconst 1, 0, 0, 0, 1, [], []), some (.bipush 101, 0, 0, 0, 101, [], []), none, some (.castore, 0, 0, 0, 0, [], []), some (.dup, 0, 0, 0, 0, [], []), some (.iconst 2, 0, 0, 0, 2, [], []), some (.bipush 97, 0, 0, 0, 97, [], []), none, some (.castore, 0, 0, 0, 0, [], []), some (.dup, 0, 0, 0, 0, [], []), some (.iconst 3, 0, 0, 0, 3, [], []), some (.bipush 107, 0, 0, 0, 107, [], []), none, some (.castore, 0, 0, 0, 0, [], [])],
  [some (.dup, 0, 0, 0, 0, [], []), some (.iconst 4, 0, 0, 0, 4, [], []), some (.bipush 102, 0, 0, 0, 102, [], []), none, some (.castore, 0, 0, 0, 0, [], []), some (.dup, 0, 0, 0, 0, [], []), some (.iconst 5, 0, 0, 0, 5, [], []), some (.bipush 101, 0, 0, 0, 101, [], []), none, some (.castore, 0, 0, 0, 0, [], []), some (.dup, 0, 0, 0, 0, [], []), some (.bipush 6, 0, 0, 0, 6, [], []), none, some (.bipush 101, 0, 0, 0, 101, [], []), none, some (.castore, 0, 0, 0, 0, [], [])],
  [some (.dup, 0, 0, 0, 0, [], []), some (.bipush 7, 0, 0, 0, 7, [], []), none, some (.bipush 102, 0, 0, 0, 102, [], []), none, some (.castore, 0, 0, 0, 0, [], []), some (.dup, 0, 0, 0, 0, [], []), some (.bipush 8, 0, 0, 0, 8, [], []), none, some (.bipush 105, 0, 0, 0, 105, [], []), none, some (.castore, 0, 0, 0, 0, [], []), some (.dup, 0, 0, 0, 0, [], []), some (.bipush 9, 0, 0, 0, 9, [], []), none, some (.bipush 110, 0, 0, 0, 110, [], [])],
  [none, some (.castore, 0, 0, 0, 0, [], []), some (.dup, 0, 0, 0, 0, [], []), some (.bipush 10, 0, 0, 0, 10, [], []), none, some (.bipush 101, 0, 0, 0, 101, [], []), none, some (.castore, 0, 0, 0, 0, [], []), some (.putfield 29, 8, 16, 1, 0, [], [4132]), none, none, some (.aload_n 0, 0, 0, 0, 0, [], []), some (.iconst 4, 0, 0, 0, 4, [], []), some (.newarray .int, 20, 0, 0, 0, [], []), none, some (.dup, 0, 0, 0, 0, [], [])],
  [some (.iconst 0, 0, 0, 0, 0, [], []), some (.iconst 0, 0, 0, 0, 0, [], []), some (.iastore, 0, 0, 0, 0, [], []), some (.dup, 0, 0, 0, 0, [], []), some (.iconst 1, 0, 0, 0, 1, [], []), some (.iconst 4, 0, 0, 0, 4, [], []), some (.iastore, 0, 0, 0, 0, [], []), some (.dup, 0, 0, 0, 0, [], []), some (.iconst 2, 0, 0, 0, 2, [], []), some (.bipush 7, 0, 0, 0, 7, [], []), none, some (.iastore, 0, 0, 0, 0, [], []), some (.dup, 0, 0, 0, 0, [], []), some (.iconst 3, 0, 0, 0, 3, [], []), some (.bipush 11, 0, 0, 0, 11, [], []), none],
  [some (.iastore, 0, 0, 0, 0, [], []), some (.putfield 33, 8, 17, 1, 0, [], [4133]), none, none, some (.aload_n 0, 0, 0, 0, 0, [], []), some (.bipush 96, 0, 0, 0, 96, [], []), none, some (.newarray .int, 20, 0, 0, 0, [], []), none, some (.putfield 36, 8, 18, 1, 0, [], [4134]), none, none, some (.aload_n 0, 0, 0, 0, 0, [], []), some (.bipush 96, 0, 0, 0, 96, [], []), none, some (.newarray .int, 20, 0, 0, 0, [], [])],
  [none, some (.putfield 39, 8, 21, 1, 0, [], [4137]), none, none, some (.aload_n 0, 0, 0, 0, 0, [], []), some (.bipush 10, 0, 0, 0, 10, [], []), none, some (.newarray .boolean, 21, 0, 0, 0, [], []), none, some (.putfield 42, 8, 23, 1, 0, [], [4139]), none, none, some (.aload_n 0, 0, 0, 0, 0, [], []), some (.bipush 96, 0, 0, 0, 96, [], []), none, some (.newarray .int, 20, 0, 0, 0, [], [])],
  [none, some (.putfield 46, 8, 24, 1, 0, [], [4140]), none, none, some (.aload_n 0, 0, 0, 0, 0, [], []), some (.iconst 4, 0, 0, 0, 4, [], []), some (.newarray .int, 20, 0, 0, 0, [], []), none, some (.putfield 49, 8, 25, 1, 0, [], [4141]), none, none, some (.aload_n 0, 0, 0, 0, 0, [], []), some (.iconst 4, 0, 0, 0, 4, [], []), some (.newarray .int, 20, 0, 0, 0, [], []), none, some (.dup, 0, 0, 0, 0, [], [])],
  [some (.iconst 0, 0, 0, 0, 0, [], []), some (.iconst (-1), 0, 0, 0, (-1), [], []), some (.iastore, 0, 0, 0, 0, [], []), some (.dup, 0, 0, 0, 0, [], []), some (.iconst 1, 0, 0, 0, 1, [], []), some (.iconst (-1), 0, 0, 0, (-1), [], []), some (.iastore, 0, 0, 0, 0, [], []), some (.dup, 0, 0, 0, 0, [], []), some (.iconst 2, 0, 0, 0, 2, [], []), some (.iconst (-1), 0, 0, 0, (-1), [], []), some (.iastore, 0, 0, 0, 0, [], []), some (.dup, 0, 0, 0, 0, [], []), some (.iconst 3, 0, 0, 0, 3, [], []), some (.iconst (-1), 0, 0, 0, (-1), [], []), some (.iastore, 0, 0, 0, 0, [], []), some (.putfield 52, 8, 26, 1, 0, [], [4142])],
  [none, none, some (.aload_n 0, 0, 0, 0, 0, [], []), some (.iconst 4, 0, 0, 0, 4, [], []), some (.newarray .int, 20, 0, 0, 0, [], []), none, some (.putfield 55, 8, 27, 1, 0, [], [4143]), none, none, some (.aload_n 0, 0, 0, 0, 0, [], []), some (.bipush 96, 0, 0, 0, 96, [], []), none, some (.newarray .int, 20, 0, 0, 0, [], []), none, some (.putfield 58, 8, 28, 1, 0, [], [4144]), none],
  [none, some (.aload_n 0, 0, 0, 0, 0, [], []), some (.iconst 5, 0, 0, 0, 5, [], []), some (.newarray .int, 20, 0, 0, 0, [], []), none, some (.putfield 61, 8, 29, 1, 0, [], [4145]), none, none, some (.aload_n 0, 0, 0, 0, 0, [], []), some (.iconst 5, 0, 0, 0, 5, [], []), some (.newarray .int, 20, 0, 0, 0, [], []), none, some (.putfield 64, 8, 30, 1, 0, [], [4146]), none, none, some (.aload_n 0, 0, 0, 0, 0, [], [])],
  [some (.iconst 5, 0, 0, 0, 5, [], []), some (.newarray .int, 20, 0, 0, 0, [], []), none, some (.putfield 67, 8, 31, 1, 0, [], [4147]), none, none, some (.aload_n 0, 0, 0, 0, 0, [], []), some (.bipush 120, 0, 0, 0, 120, [], []), none, some (.newarray .int, 20, 0, 0, 0, [], []), none, some (.putfield 70, 8, 32, 1, 0, [], [4148]), none, none, some (.aload_n 0, 0, 0, 0, 0, [], []), some (.bipush 24, 0, 0, 0, 24, [], [])],
  [none, some (.newarray .int, 20, 0, 0, 0, [], []), none, some (.putfield 73, 8, 33, 1, 0, [], [4149]), none, none, some (.aload_n 0, 0, 0, 0, 0, [], []), some (.bipush 60, 0, 0, 0, 60, [], []), none, some (.newarray .int, 20, 0, 0, 0, [], []), none, some (.putfield 76, 8, 34, 1, 0, [], [4150]), none, none, some (.aload_n 0, 0, 0, 0, 0, [], []), some (.getfield 9, 8, 0, 1, 0, [], [4116])],
  [none, none, some (.iconst 0, 0, 0, 0, 0, [], []), some (.iconst 1, 0, 0, 0, 1, [], []), some (.iastore, 0, 0, 0, 0, [], []), some (.aload_n 0, 0, 0, 0, 0, [], []), some (.getfield 9, 8, 0, 1, 0, [], [4116]), none, none, some (.iconst 4, 0, 0, 0, 4, [], []), some (.bipush 20, 0, 0, 0, 20, [], []), none, some (.iastore, 0, 0, 0, 0, [], []), some (.aload_n 0, 0, 0, 0, 0, [], []), some (.getfield 9, 8, 0, 1, 0, [], [4116]), none],
  [none, some (.iconst 5, 0, 0, 0, 5, [], []), some (.sipush 2000, 0, 0, 0, 2000, [], []), none, none, some (.iastore, 0, 0, 0, 0, [], []), some (.return_, 0, 0, 0, 0, [], []), none, none, none, none, none, none, none, none, none]]
/-- X8_init -/
def qm_107 : qs_E := (RX8, yX8_init, cX8_init, 1, none, 2, 0, 0, qc_107, [4114, 4113, 1009])
def qc_108 : List (List (Option qs_Row)) := [[some (.iload_n 0, 0, 0, 0, 0, [], []), some (.iload_n 1, 1, 0, 0, 0, [], []), some (.if_icmp .lt 12, 14, 0, 0, 0, [], []), none, none, some (.iload_n 0, 0, 0, 0, 0, [], []), some (.iload_n 2, 2, 0, 0, 0, [], []), some (.if_icmp .gt 7, 14, 0, 0, 0, [], []), none, none, some (.iconst 1, 0, 0, 0, 1, [], []), some (.goto 4, 15, 0, 0, 0, [], []), none, none, some (.iconst 0, 0, 0, 0, 0, [], []), some (.ireturn, 0, 0, 0, 0, [], [])]]
/-- X8_in -/
def qm_108 : qs_E := (RX8, yX8_in, cX8_in, 3, some .boolean, 0, 3, 2, qc_108, [4234, 4233, 1009])
def qc_109 : List (List (Option qs_Row)) := [[some (.iload_n 0, 0, 0, 0, 0, [], []), some (.iload_n 1, 1, 0, 0, 0, [], []), some (.if_icmp .ge 7, 9, 0, 0, 0, [], []), none, none, some (.iload_n 1, 1, 0, 0, 0, [], []), some (.goto 13, 19, 0, 0, 0, [], []), none, none, some (.iload_n 0, 0, 0, 0, 0, [], []), some (.iload_n 2, 2, 0, 0, 0, [], []), some (.if_icmp .le 7, 18, 0, 0, 0, [], []), none, none, some (.iload_n 2, 2, 0, 0, 0, [], []), some (.goto 4, 19, 0, 0, 0, [], [])],
  [none, none, some (.iload_n 0, 0, 0, 0, 0, [], []), some (.ireturn, 0, 0, 0, 0, [], []), none, none, none, none, none, none, none, none, none, none, none, none]]
/-- X8_within -/
def qm_109 : qs_E := (RX8, yX8_within, cX8_within, 3, some .int, 0, 3, 1, qc_109, [5026, 5025, 1009])
def qc_110 : List (List (Option qs_Row)) := [[some (.iconst 0, 0, 0, 0, 0, [], []), some (.istore_n 2, 2, 0, 0, 0, [], []), some (.iload_n 2, 2, 0, 0, 0, [], []), some (.sipush 1448, 0, 0, 0, 1448, [], []), none, none, some (.if_icmp .ge 15, 21, 0, 0, 0, [], []), none, none, some (.aload_n 1, 1, 0, 0, 0, [], []), some (.iload_n 2, 2, 0, 0, 0, [], []), some (.aload_n 0, 0, 0, 0, 0, [], []), some (.iload_n 2, 2, 0, 0, 0, [], []), some (.iaload, 20, 0, 0, 0, [], []), some (.iastore, 0, 0, 0, 0, [], []), some (.iinc 2 1, 2, 0, 0, 1, [], [])],
  [none, none, some (.goto (-16), 2, 0, 0, 0, [], []), none, none, some (.return_, 0, 0, 0, 0, [], []), none, none, none, none, none, none, none, none, none, none]]
/-- X8_copyAll -/
def qm_110 : qs_E := (RX8, yX8_copyAll, cX8_copyAll, 3, none, 0, 2, 0, qc_110, [6104, 6103, 1009])
def qc_111 : List (List (Option qs_Row)) := [[some (.iload_n 1, 1, 0, 0, 0, [], []), some (.iconst 0, 0, 0, 0, 0, [], []), some (.aload_n 0, 0, 0, 0, 0, [], []), some (.getfield 9, 8, 0, 1, 0, [], [4116]), none, none, some (.iconst 1, 0, 0, 0, 1, [], []), some (.iaload, 20, 0, 0, 0, [], []), some (.iconst 1, 0, 0, 0, 1, [], []), some (.isub, 0, 0, 0, 0, [], []), some (.invokestatic 79, 108, 26, 0, 0, [], [4232, 0]), none, none, some (.ireturn, 0, 0, 0, 0, [], []), none, none]]
/-- X8_isJoint -/
def qm_111 : qs_E := (RX8, yX8_isJoint, cX8_isJoint, 2, some .boolean, 1, 1, 2, qc_111, [5015, 5014, 1009, 16])
def qc_112 : List (List (Option qs_Row)) := [[some (.aload_n 0, 0, 0, 0, 0, [], []), some (.getfield 9, 8, 0, 1, 0, [], [4116]), none, none, some (.bipush 12, 0, 0, 0, 12, [], []), none, some (.bipush 8, 0, 0, 0, 8, [], []), none, some (.iload_n 1, 1, 0, 0, 0, [], []), some (.imul, 0, 0, 0, 0, [], []), some (.iadd, 0, 0, 0, 0, [], []), some (.iload_n 2, 2, 0, 0, 0, [], []), some (.iadd, 0, 0, 0, 0, [], []), some (.iaload, 20, 0, 0, 0, [], []), some (.ireturn, 0, 0, 0, 0, [], []), none]]
/-- X8_of -/
def qm_112 : qs_E := (RX8, yX8_of, cX8_of, 3, some .int, 1, 2, 1, qc_112, [5019, 5018, 1009, 17])
def qc_113 : List (List (Option qs_Row)) := [[some (.aload_n 0, 0, 0, 0, 0, [], []), some (.getfield 9, 8, 0, 1, 0, [], [4116]), none, none, some (.bipush 12, 0, 0, 0, 12, [], []), none, some (.bipush 8, 0, 0, 0, 8, [], []), none, some (.iload_n 1, 1, 0, 0, 0, [], []), some (.imul, 0, 0, 0, 0, [], []), some (.iadd, 0, 0, 0, 0, [], []), some (.iload_n 2, 2, 0, 0, 0, [], []), some (.iadd, 0, 0, 0, 0, [], []), some (.iload_n 3, 3, 0, 0, 0, [], []), some (.iastore, 0, 0, 0, 0, [], []), some (.return_, 0, 0, 0, 0, [], [])]]
/-- X8_put -/
def qm_113 : qs_E := (RX8, yX8_put, cX8_put, 4, none, 1, 3, 0, qc_113, [5007, 5006, 1009, 15])
def qc_114 : List (List (Option qs_Row)) := [[some (.aload_n 0, 0, 0, 0, 0, [], []), some (.getfield 9, 8, 0, 1, 0, [], [4116]), none, none, some (.iload_n 1, 1, 0, 0, 0, [], []), some (.iaload, 20, 0, 0, 0, [], []), some (.istore_n 3, 3, 0, 0, 0, [], []), some (.aload_n 0, 0, 0, 0, 0, [], []), some (.getfield 9, 8, 0, 1, 0, [], [4116]), none, none, some (.iload_n 1, 1, 0, 0, 0, [], []), some (.iload_n 2, 2, 0, 0, 0, [], []), some (.iastore, 0, 0, 0, 0, [], []), some (.iload_n 3, 3, 0, 0, 0, [], []), some (.ireturn, 0, 0, 0, 0, [], [])]]
/-- X8_swaps -/
def qm_114 : qs_E := (RX8, yX8_swaps, cX8_swaps, 4, some .int, 1, 2, 1, qc_114, [5077, 5076, 1009, 27])
def qc_115 : List (List (Option qs_Row)) := [[some (.aload_n 0, 0, 0, 0, 0, [], []), some (.getfield 9, 8, 0, 1, 0, [], [4116]), none, none, some (.iconst 1, 0, 0, 0, 1, [], []), some (.iaload, 20, 0, 0, 0, [], []), some (.istore 5, 5, 0, 0, 0, [], []), none, some (.aload_n 0, 0, 0, 0, 0, [], []), some (.getfield 9, 8, 0, 1, 0, [], [4116]), none, none, some (.iconst 1, 0, 0, 0, 1, [], []), some (.dup2, 0, 0, 0, 0, [], []), some (.iaload, 20, 0, 0, 0, [], []), some (.iconst 1, 0, 0, 0, 1, [], [])],
  [some (.iadd, 0, 0, 0, 0, [], []), some (.iastore, 0, 0, 0, 0, [], []), some (.iconst 0, 0, 0, 0, 0, [], []), some (.istore 6, 6, 0, 0, 0, [], []), none, some (.iload 6, 6, 0, 0, 0, [], []), none, some (.bipush 8, 0, 0, 0, 8, [], []), none, some (.if_icmp .ge 18, 43, 0, 0, 0, [], []), none, none, some (.aload_n 0, 0, 0, 0, 0, [], []), some (.iload 5, 5, 0, 0, 0, [], []), none, some (.iload 6, 6, 0, 0, 0, [], [])],
  [none, some (.iconst 0, 0, 0, 0, 0, [], []), some (.invokevirtual 83, 113, 24, 8, 0, [], [5004, 0]), none, none, some (.iinc 6 1, 6, 0, 0, 1, [], []), none, none, some (.goto (-19), 21, 0, 0, 0, [], []), none, none, some (.aload_n 0, 0, 0, 0, 0, [], []), some (.iload 5, 5, 0, 0, 0, [], []), none, some (.iconst 0, 0, 0, 0, 0, [], []), some (.iload_n 1, 1, 0, 0, 0, [], [])],
  [some (.invokevirtual 83, 113, 24, 8, 0, [], [5004, 0]), none, none, some (.aload_n 0, 0, 0, 0, 0, [], []), some (.iload 5, 5, 0, 0, 0, [], []), none, some (.iconst 1, 0, 0, 0, 1, [], []), some (.iload_n 2, 2, 0, 0, 0, [], []), some (.invokevirtual 83, 113, 24, 8, 0, [], [5004, 0]), none, none, some (.aload_n 0, 0, 0, 0, 0, [], []), some (.iload 5, 5, 0, 0, 0, [], []), none, some (.iconst 2, 0, 0, 0, 2, [], []), some (.iload_n 3, 3, 0, 0, 0, [], [])],
  [some (.invokevirtual 83, 113, 24, 8, 0, [], [5004, 0]), none, none, some (.aload_n 0, 0, 0, 0, 0, [], []), some (.iload 5, 5, 0, 0, 0, [], []), none, some (.bipush 6, 0, 0, 0, 6, [], []), none, some (.iload 4, 4, 0, 0, 0, [], []), none, some (.invokevirtual 83, 113, 24, 8, 0, [], [5004, 0]), none, none, some (.iload 5, 5, 0, 0, 0, [], []), none, some (.ireturn, 0, 0, 0, 0, [], [])]]
/-- X8_comes -/
def qm_115 : qs_E := (RX8, yX8_comes, cX8_comes, 7, some .int, 1, 4, 1, qc_115, [5003, 5002, 1009, 14])
def qc_116 : List (List (Option qs_Row)) := [[some (.iload_n 1, 1, 0, 0, 0, [], []), some (.iconst 0, 0, 0, 0, 0, [], []), some (.iload_n 0, 0, 0, 0, 0, [], []), some (.iconst 3, 0, 0, 0, 3, [], []), some (.if_icmp .ge 8, 12, 0, 0, 0, [], []), none, none, some (.bipush 40, 0, 0, 0, 40, [], []), none, some (.goto 5, 14, 0, 0, 0, [], []), none, none, some (.bipush 9, 0, 0, 0, 9, [], []), none, some (.invokestatic 79, 108, 26, 0, 0, [], [4232, 0]), none],
  [none, some (.ireturn, 0, 0, 0, 0, [], []), none, none, none, none, none, none, none, none, none, none, none, none, none, none]]
/-- X8_isOf -/
def qm_116 : qs_E := (RX8, yX8_isOf, cX8_isOf, 2, some .boolean, 0, 2, 2, qc_116, [4237, 4236, 1009])
def qc_117 : List (List (Option qs_Row)) := [[some (.iload_n 1, 1, 0, 0, 0, [], []), some (.iconst 0, 0, 0, 0, 0, [], []), some (.iconst 5, 0, 0, 0, 5, [], []), some (.invokestatic 79, 108, 26, 0, 0, [], [4232, 0]), none, none, some (.ifCond .eq 29, 35, 0, 0, 0, [], []), none, none, some (.iconst 1, 0, 0, 0, 1, [], []), some (.iload_n 2, 2, 0, 0, 0, [], []), some (.invokestatic 87, 116, 18, 0, 0, [], [4235, 0]), none, none, some (.ifCond .eq 21, 35, 0, 0, 0, [], []), none],
  [none, some (.iconst 2, 0, 0, 0, 2, [], []), some (.iload_n 3, 3, 0, 0, 0, [], []), some (.invokestatic 87, 116, 18, 0, 0, [], [4235, 0]), none, none, some (.ifCond .eq 13, 35, 0, 0, 0, [], []), none, none, some (.bipush 6, 0, 0, 0, 6, [], []), none, some (.iload 4, 4, 0, 0, 0, [], []), none, some (.invokestatic 87, 116, 18, 0, 0, [], [4235, 0]), none, none],
  [some (.ifCond .ne 6, 38, 0, 0, 0, [], []), none, none, some (.ldc 91, 0, 0, 0, (-1000000001), [], [4238]), none, some (.ireturn, 0, 0, 0, 0, [], []), some (.aload_n 0, 0, 0, 0, 0, [], []), some (.getfield 9, 8, 0, 1, 0, [], [4116]), none, none, some (.iconst 1, 0, 0, 0, 1, [], []), some (.iaload, 20, 0, 0, 0, [], []), some (.bipush 8, 0, 0, 0, 8, [], []), none, some (.if_icmp .ne 8, 54, 0, 0, 0, [], []), none],
  [none, some (.ldc 92, 0, 0, 0, (-1000000003), [], [4239]), none, some (.goto 12, 63, 0, 0, 0, [], []), none, none, some (.aload_n 0, 0, 0, 0, 0, [], []), some (.iload_n 1, 1, 0, 0, 0, [], []), some (.iload_n 2, 2, 0, 0, 0, [], []), some (.iload_n 3, 3, 0, 0, 0, [], []), some (.iload 4, 4, 0, 0, 0, [], []), none, some (.invokevirtual 93, 115, 33, 8, 0, [], [5000, 0]), none, none, some (.ireturn, 0, 0, 0, 0, [], [])]]
/-- X8_joint -/
def qm_117 : qs_E := (RX8, yX8_joint, cX8_joint, 5, some .int, 1, 4, 1, qc_117, [4231, 4229, 1009, 4230])
def qc_118 : List (List (Option qs_Row)) := [[some (.aload_n 0, 0, 0, 0, 0, [], []), some (.iload_n 1, 1, 0, 0, 0, [], []), some (.iconst 1, 0, 0, 0, 1, [], []), some (.invokevirtual 97, 112, 17, 8, 0, [], [5016, 0]), none, none, some (.iconst 2, 0, 0, 0, 2, [], []), some (.aload_n 0, 0, 0, 0, 0, [], []), some (.getfield 9, 8, 0, 1, 0, [], [4116]), none, none, some (.iconst 3, 0, 0, 0, 3, [], []), some (.iaload, 20, 0, 0, 0, [], []), some (.imul, 0, 0, 0, 0, [], []), some (.isub, 0, 0, 0, 0, [], []), some (.iconst 0, 0, 0, 0, 0, [], [])],
  [some (.bipush 40, 0, 0, 0, 40, [], []), none, some (.invokestatic 101, 109, 25, 0, 0, [], [5024, 0]), none, none, some (.aload_n 0, 0, 0, 0, 0, [], []), some (.iload_n 1, 1, 0, 0, 0, [], []), some (.iconst 5, 0, 0, 0, 5, [], []), some (.invokevirtual 97, 112, 17, 8, 0, [], [5016, 0]), none, none, some (.iconst 2, 0, 0, 0, 2, [], []), some (.idiv, 0, 0, 0, 0, [], []), some (.iadd, 0, 0, 0, 0, [], []), some (.ireturn, 0, 0, 0, 0, [], []), none]]
/-- X8_gripOf -/
def qm_118 : qs_E := (RX8, yX8_gripOf, cX8_gripOf, 2, some .int, 1, 1, 1, qc_118, [5023, 5022, 1009, 18])
def qc_119 : List (List (Option qs_Row)) := [[some (.aload_n 0, 0, 0, 0, 0, [], []), some (.iload_n 1, 1, 0, 0, 0, [], []), some (.invokevirtual 105, 118, 9, 8, 0, [], [5020, 0]), none, none, some (.istore_n 2, 2, 0, 0, 0, [], []), some (.aload_n 0, 0, 0, 0, 0, [], []), some (.iconst 0, 0, 0, 0, 0, [], []), some (.invokevirtual 109, 180, 9, 8, 0, [], [5035, 0]), none, none, some (.istore_n 3, 3, 0, 0, 0, [], []), some (.aload_n 0, 0, 0, 0, 0, [], []), some (.getfield 49, 8, 25, 1, 0, [], [4141]), none, none],
  [some (.iconst 0, 0, 0, 0, 0, [], []), some (.iload_n 2, 2, 0, 0, 0, [], []), some (.iastore, 0, 0, 0, 0, [], []), some (.aload_n 0, 0, 0, 0, 0, [], []), some (.getfield 49, 8, 25, 1, 0, [], [4141]), none, none, some (.iconst 1, 0, 0, 0, 1, [], []), some (.aload_n 0, 0, 0, 0, 0, [], []), some (.iload_n 1, 1, 0, 0, 0, [], []), some (.iconst 2, 0, 0, 0, 2, [], []), some (.invokevirtual 97, 112, 17, 8, 0, [], [5016, 0]), none, none, some (.iastore, 0, 0, 0, 0, [], []), some (.aload_n 0, 0, 0, 0, 0, [], [])],
  [some (.getfield 49, 8, 25, 1, 0, [], [4141]), none, none, some (.iconst 2, 0, 0, 0, 2, [], []), some (.aload_n 0, 0, 0, 0, 0, [], []), some (.iload_n 1, 1, 0, 0, 0, [], []), some (.iconst 5, 0, 0, 0, 5, [], []), some (.invokevirtual 97, 112, 17, 8, 0, [], [5016, 0]), none, none, some (.iastore, 0, 0, 0, 0, [], []), some (.iload_n 3, 3, 0, 0, 0, [], []), some (.ifCond .ge 23, 67, 0, 0, 0, [], []), none, none, some (.iload_n 2, 2, 0, 0, 0, [], [])],
  [some (.bipush 10, 0, 0, 0, 10, [], []), none, some (.if_icmp .le 10, 60, 0, 0, 0, [], []), none, none, some (.iload_n 2, 2, 0, 0, 0, [], []), some (.bipush 10, 0, 0, 0, 10, [], []), none, some (.isub, 0, 0, 0, 0, [], []), some (.goto 21, 78, 0, 0, 0, [], []), none, none, some (.bipush 10, 0, 0, 0, 10, [], []), none, some (.iload_n 2, 2, 0, 0, 0, [], []), some (.isub, 0, 0, 0, 0, [], [])],
  [some (.goto 14, 78, 0, 0, 0, [], []), none, none, some (.aload_n 0, 0, 0, 0, 0, [], []), some (.iload_n 3, 3, 0, 0, 0, [], []), some (.invokevirtual 112, 183, 9, 8, 0, [], [5039, 0]), none, none, some (.iconst 0, 0, 0, 0, 0, [], []), some (.bipush 99, 0, 0, 0, 99, [], []), none, some (.invokestatic 101, 109, 25, 0, 0, [], [5024, 0]), none, none, some (.istore 4, 4, 0, 0, 0, [], []), none],
  [some (.aload_n 0, 0, 0, 0, 0, [], []), some (.iload_n 1, 1, 0, 0, 0, [], []), some (.iconst 0, 0, 0, 0, 0, [], []), some (.invokevirtual 97, 112, 17, 8, 0, [], [5016, 0]), none, none, some (.tableswitch 98 1 4 #[30, 42, 52, 81], 184, 30, 0, 0, [(1, 116), (2, 128), (3, 138), (4, 167)], []), none, none, none, none, none, none, none, none, none],
  [none, none, none, none, none, none, none, none, none, none, none, none, none, none, none, none],
  [none, none, none, none, some (.iload 4, 4, 0, 0, 0, [], []), none, some (.aload_n 0, 0, 0, 0, 0, [], []), some (.iload_n 1, 1, 0, 0, 0, [], []), some (.iconst 2, 0, 0, 0, 2, [], []), some (.invokevirtual 97, 112, 17, 8, 0, [], [5016, 0]), none, none, some (.iconst 5, 0, 0, 0, 5, [], []), some (.idiv, 0, 0, 0, 0, [], []), some (.iadd, 0, 0, 0, 0, [], []), some (.ireturn, 0, 0, 0, 0, [], [])],
  [some (.iload 4, 4, 0, 0, 0, [], []), none, some (.aload_n 0, 0, 0, 0, 0, [], []), some (.iload_n 1, 1, 0, 0, 0, [], []), some (.iconst 4, 0, 0, 0, 4, [], []), some (.invokevirtual 97, 112, 17, 8, 0, [], [5016, 0]), none, none, some (.iadd, 0, 0, 0, 0, [], []), some (.ireturn, 0, 0, 0, 0, [], []), some (.iload 4, 4, 0, 0, 0, [], []), none, some (.aload_n 0, 0, 0, 0, 0, [], []), some (.iload_n 1, 1, 0, 0, 0, [], []), some (.iconst 2, 0, 0, 0, 2, [], []), some (.invokevirtual 97, 112, 17, 8, 0, [], [5016, 0])],
  [none, none, some (.iconst 5, 0, 0, 0, 5, [], []), some (.idiv, 0, 0, 0, 0, [], []), some (.iadd, 0, 0, 0, 0, [], []), some (.iload_n 2, 2, 0, 0, 0, [], []), some (.bipush 12, 0, 0, 0, 12, [], []), none, some (.if_icmp .le 12, 164, 0, 0, 0, [], []), none, none, some (.iconst 2, 0, 0, 0, 2, [], []), some (.iload_n 2, 2, 0, 0, 0, [], []), some (.bipush 12, 0, 0, 0, 12, [], []), none, some (.isub, 0, 0, 0, 0, [], [])],
  [some (.imul, 0, 0, 0, 0, [], []), some (.goto 4, 165, 0, 0, 0, [], []), none, none, some (.iconst 0, 0, 0, 0, 0, [], []), some (.iadd, 0, 0, 0, 0, [], []), some (.ireturn, 0, 0, 0, 0, [], []), some (.iload 4, 4, 0, 0, 0, [], []), none, some (.aload_n 0, 0, 0, 0, 0, [], []), some (.iload_n 1, 1, 0, 0, 0, [], []), some (.iconst 4, 0, 0, 0, 4, [], []), some (.invokevirtual 97, 112, 17, 8, 0, [], [5016, 0]), none, none, some (.iadd, 0, 0, 0, 0, [], [])],
  [some (.aload_n 0, 0, 0, 0, 0, [], []), some (.iload_n 1, 1, 0, 0, 0, [], []), some (.iconst 3, 0, 0, 0, 3, [], []), some (.invokevirtual 97, 112, 17, 8, 0, [], [5016, 0]), none, none, some (.iadd, 0, 0, 0, 0, [], []), some (.ireturn, 0, 0, 0, 0, [], []), some (.iload 4, 4, 0, 0, 0, [], []), none, some (.ireturn, 0, 0, 0, 0, [], []), none, none, none, none, none]]
/-- X8_dripsOf -/
def qm_119 : qs_E := (RX8, yX8_dripsOf, cX8_dripsOf, 5, some .int, 1, 1, 1, qc_119, [5034, 5033, 1009, 20])
def qc_120 : List (List (Option qs_Row)) := [[some (.aload_n 0, 0, 0, 0, 0, [], []), some (.iload_n 1, 1, 0, 0, 0, [], []), some (.iconst 0, 0, 0, 0, 0, [], []), some (.invokevirtual 97, 112, 17, 8, 0, [], [5016, 0]), none, none, some (.iconst 5, 0, 0, 0, 5, [], []), some (.if_icmp .ne 8, 15, 0, 0, 0, [], []), none, none, some (.bipush 60, 0, 0, 0, 60, [], []), none, some (.goto 23, 35, 0, 0, 0, [], []), none, none, some (.aload_n 0, 0, 0, 0, 0, [], [])],
  [some (.iload_n 1, 1, 0, 0, 0, [], []), some (.invokevirtual 115, 119, 9, 8, 0, [], [5031, 0]), none, none, some (.aload_n 0, 0, 0, 0, 0, [], []), some (.iload_n 1, 1, 0, 0, 0, [], []), some (.bipush 7, 0, 0, 0, 7, [], []), none, some (.invokevirtual 97, 112, 17, 8, 0, [], [5016, 0]), none, none, some (.isub, 0, 0, 0, 0, [], []), some (.iconst 0, 0, 0, 0, 0, [], []), some (.sipush 9999, 0, 0, 0, 9999, [], []), none, none],
  [some (.invokestatic 101, 109, 25, 0, 0, [], [5024, 0]), none, none, some (.ireturn, 0, 0, 0, 0, [], []), none, none, none, none, none, none, none, none, none, none, none, none]]
/-- X8_leaksOf -/
def qm_120 : qs_E := (RX8, yX8_leaksOf, cX8_leaksOf, 2, some .int, 1, 1, 1, qc_120, [5030, 5029, 1009, 19])
def qc_121 : List (List (Option qs_Row)) := [[some (.bipush 25, 0, 0, 0, 25, [], []), none, some (.aload_n 0, 0, 0, 0, 0, [], []), some (.iload_n 1, 1, 0, 0, 0, [], []), some (.iconst 2, 0, 0, 0, 2, [], []), some (.invokevirtual 97, 112, 17, 8, 0, [], [5016, 0]), none, none, some (.iconst 2, 0, 0, 0, 2, [], []), some (.idiv, 0, 0, 0, 0, [], []), some (.isub, 0, 0, 0, 0, [], []), some (.istore_n 2, 2, 0, 0, 0, [], []), some (.aload_n 0, 0, 0, 0, 0, [], []), some (.iload_n 1, 1, 0, 0, 0, [], []), some (.iconst 0, 0, 0, 0, 0, [], []), some (.invokevirtual 97, 112, 17, 8, 0, [], [5016, 0])],
  [none, none, some (.tableswitch 56 1 5 #[34, 38, 34, 38, 53], 74, 34, 0, 0, [(1, 52), (2, 56), (3, 52), (4, 56), (5, 71)], []), none, none, none, none, none, none, none, none, none, none, none, none, none],
  [none, none, none, none, none, none, none, none, none, none, none, none, none, none, none, none],
  [none, none, none, none, some (.iload_n 2, 2, 0, 0, 0, [], []), some (.iconst 4, 0, 0, 0, 4, [], []), some (.isub, 0, 0, 0, 0, [], []), some (.ireturn, 0, 0, 0, 0, [], []), some (.iload_n 2, 2, 0, 0, 0, [], []), some (.aload_n 0, 0, 0, 0, 0, [], []), some (.iload_n 1, 1, 0, 0, 0, [], []), some (.iconst 4, 0, 0, 0, 4, [], []), some (.invokevirtual 97, 112, 17, 8, 0, [], [5016, 0]), none, none, some (.isub, 0, 0, 0, 0, [], [])],
  [some (.iconst 0, 0, 0, 0, 0, [], []), some (.bipush 40, 0, 0, 0, 40, [], []), none, some (.invokestatic 101, 109, 25, 0, 0, [], [5024, 0]), none, none, some (.ireturn, 0, 0, 0, 0, [], []), some (.bipush 40, 0, 0, 0, 40, [], []), none, some (.ireturn, 0, 0, 0, 0, [], []), some (.iload_n 2, 2, 0, 0, 0, [], []), some (.ireturn, 0, 0, 0, 0, [], []), none, none, none, none]]
/-- X8_bearsOf -/
def qm_121 : qs_E := (RX8, yX8_bearsOf, cX8_bearsOf, 3, some .int, 1, 1, 1, qc_121, [5049, 5048, 1009, 23])
def qc_122 : List (List (Option qs_Row)) := [[some (.aload_n 0, 0, 0, 0, 0, [], []), some (.iload_n 1, 1, 0, 0, 0, [], []), some (.iconst 1, 0, 0, 0, 1, [], []), some (.invokevirtual 97, 112, 17, 8, 0, [], [5016, 0]), none, none, some (.istore_n 2, 2, 0, 0, 0, [], []), some (.aload_n 0, 0, 0, 0, 0, [], []), some (.iload_n 1, 1, 0, 0, 0, [], []), some (.iconst 0, 0, 0, 0, 0, [], []), some (.invokevirtual 97, 112, 17, 8, 0, [], [5016, 0]), none, none, some (.tableswitch 57 1 5 #[35, 39, 44, 50, 55], 70, 35, 0, 0, [(1, 48), (2, 52), (3, 57), (4, 63), (5, 68)], []), none, none],
  [none, none, none, none, none, none, none, none, none, none, none, none, none, none, none, none],
  [none, none, none, none, none, none, none, none, none, none, none, none, none, none, none, none],
  [some (.iload_n 2, 2, 0, 0, 0, [], []), some (.iconst 3, 0, 0, 0, 3, [], []), some (.iadd, 0, 0, 0, 0, [], []), some (.ireturn, 0, 0, 0, 0, [], []), some (.bipush 40, 0, 0, 0, 40, [], []), none, some (.iload_n 2, 2, 0, 0, 0, [], []), some (.isub, 0, 0, 0, 0, [], []), some (.ireturn, 0, 0, 0, 0, [], []), some (.iconst 2, 0, 0, 0, 2, [], []), some (.iload_n 2, 2, 0, 0, 0, [], []), some (.iconst 3, 0, 0, 0, 3, [], []), some (.iadd, 0, 0, 0, 0, [], []), some (.imul, 0, 0, 0, 0, [], []), some (.ireturn, 0, 0, 0, 0, [], []), some (.bipush 34, 0, 0, 0, 34, [], [])],
  [none, some (.iload_n 2, 2, 0, 0, 0, [], []), some (.isub, 0, 0, 0, 0, [], []), some (.ireturn, 0, 0, 0, 0, [], []), some (.iconst 1, 0, 0, 0, 1, [], []), some (.ireturn, 0, 0, 0, 0, [], []), some (.iload_n 2, 2, 0, 0, 0, [], []), some (.ireturn, 0, 0, 0, 0, [], []), none, none, none, none, none, none, none, none]]
/-- X8_worthOf -/
def qm_122 : qs_E := (RX8, yX8_worthOf, cX8_worthOf, 3, some .int, 1, 1, 1, qc_122, [5061, 5060, 1009, 26])
def qc_123 : List (List (Option qs_Row)) := [[some (.iload_n 1, 1, 0, 0, 0, [], []), some (.istore_n 2, 2, 0, 0, 0, [], []), some (.iload_n 1, 1, 0, 0, 0, [], []), some (.ifCond .le 26, 29, 0, 0, 0, [], []), none, none, some (.aload_n 0, 0, 0, 0, 0, [], []), some (.iload_n 1, 1, 0, 0, 0, [], []), some (.iconst 1, 0, 0, 0, 1, [], []), some (.isub, 0, 0, 0, 0, [], []), some (.bipush 6, 0, 0, 0, 6, [], []), none, some (.invokevirtual 97, 112, 17, 8, 0, [], [5016, 0]), none, none, some (.aload_n 0, 0, 0, 0, 0, [], [])],
  [some (.iload_n 1, 1, 0, 0, 0, [], []), some (.bipush 6, 0, 0, 0, 6, [], []), none, some (.invokevirtual 97, 112, 17, 8, 0, [], [5016, 0]), none, none, some (.if_icmp .ge 7, 29, 0, 0, 0, [], []), none, none, some (.iload_n 1, 1, 0, 0, 0, [], []), some (.iconst 1, 0, 0, 0, 1, [], []), some (.isub, 0, 0, 0, 0, [], []), some (.istore_n 2, 2, 0, 0, 0, [], []), some (.aload_n 0, 0, 0, 0, 0, [], []), some (.iload_n 1, 1, 0, 0, 0, [], []), some (.iconst 1, 0, 0, 0, 1, [], [])],
  [some (.iadd, 0, 0, 0, 0, [], []), some (.invokevirtual 118, 111, 10, 8, 0, [], [5012, 0]), none, none, some (.ifCond .eq 26, 62, 0, 0, 0, [], []), none, none, some (.aload_n 0, 0, 0, 0, 0, [], []), some (.iload_n 1, 1, 0, 0, 0, [], []), some (.iconst 1, 0, 0, 0, 1, [], []), some (.iadd, 0, 0, 0, 0, [], []), some (.bipush 6, 0, 0, 0, 6, [], []), none, some (.invokevirtual 97, 112, 17, 8, 0, [], [5016, 0]), none, none],
  [some (.aload_n 0, 0, 0, 0, 0, [], []), some (.iload_n 2, 2, 0, 0, 0, [], []), some (.bipush 6, 0, 0, 0, 6, [], []), none, some (.invokevirtual 97, 112, 17, 8, 0, [], [5016, 0]), none, none, some (.if_icmp .ge 7, 62, 0, 0, 0, [], []), none, none, some (.iload_n 1, 1, 0, 0, 0, [], []), some (.iconst 1, 0, 0, 0, 1, [], []), some (.iadd, 0, 0, 0, 0, [], []), some (.istore_n 2, 2, 0, 0, 0, [], []), some (.iload_n 2, 2, 0, 0, 0, [], []), some (.ireturn, 0, 0, 0, 0, [], [])]]
/-- X8_runsTo -/
def qm_123 : qs_E := (RX8, yX8_runsTo, cX8_runsTo, 3, some .int, 1, 1, 1, qc_123, [5057, 5056, 1009, 25])
def qc_124 : List (List (Option qs_Row)) := [[some (.iload_n 1, 1, 0, 0, 0, [], []), some (.istore_n 2, 2, 0, 0, 0, [], []), some (.aload_n 0, 0, 0, 0, 0, [], []), some (.iload_n 2, 2, 0, 0, 0, [], []), some (.invokevirtual 122, 123, 9, 8, 0, [], [5054, 0]), none, none, some (.iload_n 2, 2, 0, 0, 0, [], []), some (.if_icmp .eq 12, 20, 0, 0, 0, [], []), none, none, some (.aload_n 0, 0, 0, 0, 0, [], []), some (.iload_n 2, 2, 0, 0, 0, [], []), some (.invokevirtual 122, 123, 9, 8, 0, [], [5054, 0]), none, none],
  [some (.istore_n 2, 2, 0, 0, 0, [], []), some (.goto (-15), 2, 0, 0, 0, [], []), none, none, some (.iload_n 2, 2, 0, 0, 0, [], []), some (.ireturn, 0, 0, 0, 0, [], []), none, none, none, none, none, none, none, none, none, none]]
/-- X8_hangsAt -/
def qm_124 : qs_E := (RX8, yX8_hangsAt, cX8_hangsAt, 3, some .int, 1, 1, 1, qc_124, [5053, 5052, 1009, 24])
def qc_125 : List (List (Option qs_Row)) := [[some (.aload_n 0, 0, 0, 0, 0, [], []), some (.iload_n 1, 1, 0, 0, 0, [], []), some (.invokevirtual 118, 111, 10, 8, 0, [], [5012, 0]), none, none, some (.ifCond .ne 6, 11, 0, 0, 0, [], []), none, none, some (.ldc 91, 0, 0, 0, (-1000000001), [], [4238]), none, some (.ireturn, 0, 0, 0, 0, [], []), some (.iload_n 2, 2, 0, 0, 0, [], []), some (.tableswitch 105 0 12 #[68, 68, 68, 68, 68, 68, 68, 68, 75, 81, 87, 93, 99], 117, 68, 0, 0, [(0, 80), (1, 80), (2, 80), (3, 80), (4, 80), (5, 80), (6, 80), (7, 80), (8, 87), (9, 93), (10, 99), (11, 105), (12, 111)], []), none, none, none],
  [none, none, none, none, none, none, none, none, none, none, none, none, none, none, none, none],
  [none, none, none, none, none, none, none, none, none, none, none, none, none, none, none, none],
  [none, none, none, none, none, none, none, none, none, none, none, none, none, none, none, none],
  [none, none, none, none, none, none, none, none, none, none, none, none, none, none, none, none],
  [some (.aload_n 0, 0, 0, 0, 0, [], []), some (.iload_n 1, 1, 0, 0, 0, [], []), some (.iload_n 2, 2, 0, 0, 0, [], []), some (.invokevirtual 97, 112, 17, 8, 0, [], [5016, 0]), none, none, some (.ireturn, 0, 0, 0, 0, [], []), some (.aload_n 0, 0, 0, 0, 0, [], []), some (.iload_n 1, 1, 0, 0, 0, [], []), some (.invokevirtual 105, 118, 9, 8, 0, [], [5020, 0]), none, none, some (.ireturn, 0, 0, 0, 0, [], []), some (.aload_n 0, 0, 0, 0, 0, [], []), some (.iload_n 1, 1, 0, 0, 0, [], []), some (.invokevirtual 125, 120, 9, 8, 0, [], [5027, 0])],
  [none, none, some (.ireturn, 0, 0, 0, 0, [], []), some (.aload_n 0, 0, 0, 0, 0, [], []), some (.iload_n 1, 1, 0, 0, 0, [], []), some (.invokevirtual 128, 121, 9, 8, 0, [], [5046, 0]), none, none, some (.ireturn, 0, 0, 0, 0, [], []), some (.aload_n 0, 0, 0, 0, 0, [], []), some (.iload_n 1, 1, 0, 0, 0, [], []), some (.invokevirtual 131, 124, 9, 8, 0, [], [5050, 0]), none, none, some (.ireturn, 0, 0, 0, 0, [], []), some (.aload_n 0, 0, 0, 0, 0, [], [])],
  [some (.iload_n 1, 1, 0, 0, 0, [], []), some (.invokevirtual 134, 122, 9, 8, 0, [], [5058, 0]), none, none, some (.ireturn, 0, 0, 0, 0, [], []), some (.ldc 91, 0, 0, 0, (-1000000001), [], [4238]), none, some (.ireturn, 0, 0, 0, 0, [], []), none, none, none, none, none, none, none, none]]
/-- X8_told -/
def qm_125 : qs_E := (RX8, yX8_told, cX8_told, 3, some .int, 1, 2, 1, qc_125, [5011, 5009, 1009, 5010])
def qc_126 : List (List (Option qs_Row)) := [[some (.iload_n 1, 1, 0, 0, 0, [], []), some (.ifCond .eq 28, 29, 0, 0, 0, [], []), none, none, some (.iload_n 0, 0, 0, 0, 0, [], []), some (.iload_n 1, 1, 0, 0, 0, [], []), some (.if_icmp .eq 23, 29, 0, 0, 0, [], []), none, none, some (.iload_n 1, 1, 0, 0, 0, [], []), some (.iconst 1, 0, 0, 0, 1, [], []), some (.if_icmp .ne 8, 19, 0, 0, 0, [], []), none, none, some (.iload_n 0, 0, 0, 0, 0, [], []), some (.iconst 3, 0, 0, 0, 3, [], [])],
  [some (.if_icmp .eq 13, 29, 0, 0, 0, [], []), none, none, some (.iload_n 1, 1, 0, 0, 0, [], []), some (.iconst 2, 0, 0, 0, 2, [], []), some (.if_icmp .ne 12, 33, 0, 0, 0, [], []), none, none, some (.iload_n 0, 0, 0, 0, 0, [], []), some (.iconst 4, 0, 0, 0, 4, [], []), some (.if_icmp .ne 7, 33, 0, 0, 0, [], []), none, none, some (.iconst 1, 0, 0, 0, 1, [], []), some (.goto 4, 34, 0, 0, 0, [], []), none],
  [none, some (.iconst 0, 0, 0, 0, 0, [], []), some (.ireturn, 0, 0, 0, 0, [], []), none, none, none, none, none, none, none, none, none, none, none, none, none]]
/-- X8_isUnder -/
def qm_126 : qs_E := (RX8, yX8_isUnder, cX8_isUnder, 2, some .boolean, 0, 2, 2, qc_126, [5068, 5067, 1009])
def qc_127 : List (List (Option qs_Row)) := [[some (.aload_n 0, 0, 0, 0, 0, [], []), some (.iload_n 1, 1, 0, 0, 0, [], []), some (.invokevirtual 118, 111, 10, 8, 0, [], [5012, 0]), none, none, some (.ifCond .eq 12, 17, 0, 0, 0, [], []), none, none, some (.iload_n 2, 2, 0, 0, 0, [], []), some (.iconst 0, 0, 0, 0, 0, [], []), some (.iconst 5, 0, 0, 0, 5, [], []), some (.invokestatic 79, 108, 26, 0, 0, [], [4232, 0]), none, none, some (.ifCond .ne 6, 20, 0, 0, 0, [], []), none],
  [none, some (.ldc 91, 0, 0, 0, (-1000000001), [], [4238]), none, some (.ireturn, 0, 0, 0, 0, [], []), some (.aload_n 0, 0, 0, 0, 0, [], []), some (.iload_n 1, 1, 0, 0, 0, [], []), some (.iconst 0, 0, 0, 0, 0, [], []), some (.invokevirtual 97, 112, 17, 8, 0, [], [5016, 0]), none, none, some (.iload_n 2, 2, 0, 0, 0, [], []), some (.invokestatic 137, 126, 18, 0, 0, [], [5066, 0]), none, none, some (.ifCond .eq 12, 42, 0, 0, 0, [], []), none],
  [none, some (.aload_n 0, 0, 0, 0, 0, [], []), some (.iload_n 1, 1, 0, 0, 0, [], []), some (.iconst 1, 0, 0, 0, 1, [], []), some (.invokevirtual 97, 112, 17, 8, 0, [], [5016, 0]), none, none, some (.goto 5, 44, 0, 0, 0, [], []), none, none, some (.ldc 140, 0, 0, 0, (-1000000012), [], [5069]), none, some (.ireturn, 0, 0, 0, 0, [], []), none, none, none]]
/-- X8_as -/
def qm_127 : qs_E := (RX8, yX8_as, cX8_as, 3, some .int, 1, 2, 1, qc_127, [5065, 5063, 1009, 5064])
def qc_128 : List (List (Option qs_Row)) := [[some (.aload_n 0, 0, 0, 0, 0, [], []), some (.iload_n 1, 1, 0, 0, 0, [], []), some (.invokevirtual 118, 111, 10, 8, 0, [], [5012, 0]), none, none, some (.ifCond .eq 27, 32, 0, 0, 0, [], []), none, none, some (.iload_n 2, 2, 0, 0, 0, [], []), some (.iconst 0, 0, 0, 0, 0, [], []), some (.iconst 5, 0, 0, 0, 5, [], []), some (.invokestatic 79, 108, 26, 0, 0, [], [4232, 0]), none, none, some (.ifCond .eq 18, 32, 0, 0, 0, [], []), none],
  [none, some (.aload_n 0, 0, 0, 0, 0, [], []), some (.bipush 12, 0, 0, 0, 12, [], []), none, some (.bipush 8, 0, 0, 0, 8, [], []), none, some (.iload_n 1, 1, 0, 0, 0, [], []), some (.imul, 0, 0, 0, 0, [], []), some (.iadd, 0, 0, 0, 0, [], []), some (.iload_n 2, 2, 0, 0, 0, [], []), some (.invokevirtual 141, 114, 17, 8, 0, [], [5074, 0]), none, none, some (.goto 5, 34, 0, 0, 0, [], []), none, none],
  [some (.ldc 91, 0, 0, 0, (-1000000001), [], [4238]), none, some (.ireturn, 0, 0, 0, 0, [], []), none, none, none, none, none, none, none, none, none, none, none, none, none]]
/-- X8_turns -/
def qm_128 : qs_E := (RX8, yX8_turns, cX8_turns, 3, some .int, 1, 2, 1, qc_128, [5073, 5071, 1009, 5072])
def qc_129 : List (List (Option qs_Row)) := [[some (.aload_n 0, 0, 0, 0, 0, [], []), some (.iload_n 1, 1, 0, 0, 0, [], []), some (.invokevirtual 118, 111, 10, 8, 0, [], [5012, 0]), none, none, some (.ifCond .eq 38, 43, 0, 0, 0, [], []), none, none, some (.iload_n 2, 2, 0, 0, 0, [], []), some (.iconst 2, 0, 0, 0, 2, [], []), some (.bipush 6, 0, 0, 0, 6, [], []), none, some (.invokestatic 79, 108, 26, 0, 0, [], [4232, 0]), none, none, some (.ifCond .eq 28, 43, 0, 0, 0, [], [])],
  [none, none, some (.iload_n 2, 2, 0, 0, 0, [], []), some (.iload_n 3, 3, 0, 0, 0, [], []), some (.invokestatic 87, 116, 18, 0, 0, [], [4235, 0]), none, none, some (.ifCond .eq 20, 43, 0, 0, 0, [], []), none, none, some (.aload_n 0, 0, 0, 0, 0, [], []), some (.bipush 12, 0, 0, 0, 12, [], []), none, some (.bipush 8, 0, 0, 0, 8, [], []), none, some (.iload_n 1, 1, 0, 0, 0, [], [])],
  [some (.imul, 0, 0, 0, 0, [], []), some (.iadd, 0, 0, 0, 0, [], []), some (.iload_n 2, 2, 0, 0, 0, [], []), some (.iadd, 0, 0, 0, 0, [], []), some (.iload_n 3, 3, 0, 0, 0, [], []), some (.invokevirtual 141, 114, 17, 8, 0, [], [5074, 0]), none, none, some (.goto 5, 45, 0, 0, 0, [], []), none, none, some (.ldc 91, 0, 0, 0, (-1000000001), [], [4238]), none, some (.ireturn, 0, 0, 0, 0, [], []), none, none]]
/-- X8_set -/
def qm_129 : qs_E := (RX8, yX8_set, cX8_set, 4, some .int, 1, 3, 1, qc_129, [5081, 5079, 1009, 5080])
def qc_130 : List (List (Option qs_Row)) := [[some (.aload_n 0, 0, 0, 0, 0, [], []), some (.getfield 9, 8, 0, 1, 0, [], [4116]), none, none, some (.iconst 0, 0, 0, 0, 0, [], []), some (.aload_n 0, 0, 0, 0, 0, [], []), some (.getfield 9, 8, 0, 1, 0, [], [4116]), none, none, some (.iconst 0, 0, 0, 0, 0, [], []), some (.iaload, 20, 0, 0, 0, [], []), some (.ldc 144, 0, 0, 0, 1103515245, [], [5098]), none, some (.imul, 0, 0, 0, 0, [], []), some (.sipush 12345, 0, 0, 0, 12345, [], []), none],
  [none, some (.iadd, 0, 0, 0, 0, [], []), some (.iastore, 0, 0, 0, 0, [], []), some (.aload_n 0, 0, 0, 0, 0, [], []), some (.getfield 9, 8, 0, 1, 0, [], [4116]), none, none, some (.iconst 0, 0, 0, 0, 0, [], []), some (.iaload, 20, 0, 0, 0, [], []), some (.bipush 8, 0, 0, 0, 8, [], []), none, some (.iushr, 0, 0, 0, 0, [], []), some (.ireturn, 0, 0, 0, 0, [], []), none, none, none]]
/-- X8_draw -/
def qm_130 : qs_E := (RX8, yX8_draw, cX8_draw, 1, some .int, 1, 0, 1, qc_130, [5097, 5096, 1009, 30])
def qc_131 : List (List (Option qs_Row)) := [[some (.aload_n 0, 0, 0, 0, 0, [], []), some (.iload_n 1, 1, 0, 0, 0, [], []), some (.iconst 1, 0, 0, 0, 1, [], []), some (.aload_n 0, 0, 0, 0, 0, [], []), some (.iload_n 1, 1, 0, 0, 0, [], []), some (.iconst 1, 0, 0, 0, 1, [], []), some (.invokevirtual 97, 112, 17, 8, 0, [], [5016, 0]), none, none, some (.iload_n 2, 2, 0, 0, 0, [], []), some (.iadd, 0, 0, 0, 0, [], []), some (.iconst 0, 0, 0, 0, 0, [], []), some (.bipush 40, 0, 0, 0, 40, [], []), none, some (.invokestatic 101, 109, 25, 0, 0, [], [5024, 0]), none],
  [none, some (.invokevirtual 83, 113, 24, 8, 0, [], [5004, 0]), none, none, some (.return_, 0, 0, 0, 0, [], []), none, none, none, none, none, none, none, none, none, none, none]]
/-- X8_tightens -/
def qm_131 : qs_E := (RX8, yX8_tightens, cX8_tightens, 3, none, 1, 2, 0, qc_131, [5093, 5092, 1009, 29])
def qc_132 : List (List (Option qs_Row)) := [[some (.aload_n 0, 0, 0, 0, 0, [], []), some (.iload_n 1, 1, 0, 0, 0, [], []), some (.iconst 1, 0, 0, 0, 1, [], []), some (.invokevirtual 145, 131, 16, 8, 0, [], [5090, 0]), none, none, some (.aload_n 0, 0, 0, 0, 0, [], []), some (.iload_n 1, 1, 0, 0, 0, [], []), some (.iconst 1, 0, 0, 0, 1, [], []), some (.invokevirtual 97, 112, 17, 8, 0, [], [5016, 0]), none, none, some (.aload_n 0, 0, 0, 0, 0, [], []), some (.iload_n 1, 1, 0, 0, 0, [], []), some (.invokevirtual 128, 121, 9, 8, 0, [], [5046, 0]), none],
  [none, some (.isub, 0, 0, 0, 0, [], []), some (.istore_n 2, 2, 0, 0, 0, [], []), some (.iload_n 2, 2, 0, 0, 0, [], []), some (.ifCond .le 35, 55, 0, 0, 0, [], []), none, none, some (.aload_n 0, 0, 0, 0, 0, [], []), some (.invokevirtual 149, 130, 1, 8, 0, [], [5094, 0]), none, none, some (.bipush 100, 0, 0, 0, 100, [], []), none, some (.irem, 0, 0, 0, 0, [], []), some (.bipush 10, 0, 0, 0, 10, [], []), none],
  [some (.iload_n 2, 2, 0, 0, 0, [], []), some (.imul, 0, 0, 0, 0, [], []), some (.if_icmp .ge 21, 55, 0, 0, 0, [], []), none, none, some (.aload_n 0, 0, 0, 0, 0, [], []), some (.iload_n 1, 1, 0, 0, 0, [], []), some (.iconst 0, 0, 0, 0, 0, [], []), some (.iconst 5, 0, 0, 0, 5, [], []), some (.invokevirtual 83, 113, 24, 8, 0, [], [5004, 0]), none, none, some (.aload_n 0, 0, 0, 0, 0, [], []), some (.getfield 9, 8, 0, 1, 0, [], [4116]), none, none],
  [some (.bipush 9, 0, 0, 0, 9, [], []), none, some (.dup2, 0, 0, 0, 0, [], []), some (.iaload, 20, 0, 0, 0, [], []), some (.iconst 1, 0, 0, 0, 1, [], []), some (.iadd, 0, 0, 0, 0, [], []), some (.iastore, 0, 0, 0, 0, [], []), some (.return_, 0, 0, 0, 0, [], []), none, none, none, none, none, none, none, none]]
/-- X8_quarterOn -/
def qm_132 : qs_E := (RX8, yX8_quarterOn, cX8_quarterOn, 3, none, 1, 1, 0, qc_132, [5089, 5088, 1009, 28])
def qc_133 : List (List (Option qs_Row)) := [[some (.aload_n 0, 0, 0, 0, 0, [], []), some (.iload_n 1, 1, 0, 0, 0, [], []), some (.invokevirtual 118, 111, 10, 8, 0, [], [5012, 0]), none, none, some (.ifCond .eq 18, 23, 0, 0, 0, [], []), none, none, some (.iload_n 2, 2, 0, 0, 0, [], []), some (.bipush (-9), 0, 0, 0, (-9), [], []), none, some (.bipush 9, 0, 0, 0, 9, [], []), none, some (.invokestatic 79, 108, 26, 0, 0, [], [4232, 0]), none, none],
  [some (.ifCond .eq 7, 23, 0, 0, 0, [], []), none, none, some (.iload_n 2, 2, 0, 0, 0, [], []), some (.ifCond .ne 6, 26, 0, 0, 0, [], []), none, none, some (.ldc 91, 0, 0, 0, (-1000000001), [], [4238]), none, some (.ireturn, 0, 0, 0, 0, [], []), some (.iconst 0, 0, 0, 0, 0, [], []), some (.istore_n 3, 3, 0, 0, 0, [], []), some (.iload_n 3, 3, 0, 0, 0, [], []), some (.iload_n 2, 2, 0, 0, 0, [], []), some (.if_icmp .ge 14, 44, 0, 0, 0, [], []), none],
  [none, some (.aload_n 0, 0, 0, 0, 0, [], []), some (.iload_n 1, 1, 0, 0, 0, [], []), some (.invokevirtual 153, 132, 8, 8, 0, [], [5086, 0]), none, none, some (.iinc 3 1, 3, 0, 0, 1, [], []), none, none, some (.goto (-13), 28, 0, 0, 0, [], []), none, none, some (.iload_n 2, 2, 0, 0, 0, [], []), some (.ifCond .ge 9, 54, 0, 0, 0, [], []), none, none],
  [some (.aload_n 0, 0, 0, 0, 0, [], []), some (.iload_n 1, 1, 0, 0, 0, [], []), some (.iload_n 2, 2, 0, 0, 0, [], []), some (.invokevirtual 145, 131, 16, 8, 0, [], [5090, 0]), none, none, some (.aload_n 0, 0, 0, 0, 0, [], []), some (.iload_n 1, 1, 0, 0, 0, [], []), some (.iconst 1, 0, 0, 0, 1, [], []), some (.invokevirtual 97, 112, 17, 8, 0, [], [5016, 0]), none, none, some (.ireturn, 0, 0, 0, 0, [], []), none, none, none]]
/-- X8_turn -/
def qm_133 : qs_E := (RX8, yX8_turn, cX8_turn, 4, some .int, 1, 2, 1, qc_133, [5085, 5083, 1009, 5084])
def qc_134 : List (List (Option qs_Row)) := [[some (.iload_n 1, 1, 0, 0, 0, [], []), some (.iconst 0, 0, 0, 0, 0, [], []), some (.iconst 2, 0, 0, 0, 2, [], []), some (.invokestatic 79, 108, 26, 0, 0, [], [4232, 0]), none, none, some (.ifCond .eq 43, 49, 0, 0, 0, [], []), none, none, some (.iload_n 2, 2, 0, 0, 0, [], []), some (.iconst 0, 0, 0, 0, 0, [], []), some (.iload_n 1, 1, 0, 0, 0, [], []), some (.ifCond .ne 7, 19, 0, 0, 0, [], []), none, none, some (.iconst 1, 0, 0, 0, 1, [], [])],
  [some (.goto 16, 32, 0, 0, 0, [], []), none, none, some (.iload_n 1, 1, 0, 0, 0, [], []), some (.iconst 1, 0, 0, 0, 1, [], []), some (.if_icmp .ne 8, 29, 0, 0, 0, [], []), none, none, some (.bipush 100, 0, 0, 0, 100, [], []), none, some (.goto 6, 32, 0, 0, 0, [], []), none, none, some (.sipush 9999, 0, 0, 0, 9999, [], []), none, none],
  [some (.invokestatic 79, 108, 26, 0, 0, [], [4232, 0]), none, none, some (.ifCond .eq 14, 49, 0, 0, 0, [], []), none, none, some (.aload_n 0, 0, 0, 0, 0, [], []), some (.iconst 3, 0, 0, 0, 3, [], []), some (.iload_n 1, 1, 0, 0, 0, [], []), some (.iadd, 0, 0, 0, 0, [], []), some (.iload_n 2, 2, 0, 0, 0, [], []), some (.invokevirtual 141, 114, 17, 8, 0, [], [5074, 0]), none, none, some (.goto 5, 51, 0, 0, 0, [], []), none],
  [none, some (.ldc 91, 0, 0, 0, (-1000000001), [], [4238]), none, some (.ireturn, 0, 0, 0, 0, [], []), none, none, none, none, none, none, none, none, none, none, none, none]]
/-- X8_rule -/
def qm_134 : qs_E := (RX8, yX8_rule, cX8_rule, 3, some .int, 1, 2, 1, qc_134, [5102, 5100, 1009, 5101])
def qc_135 : List (List (Option qs_Row)) := [[some (.aload_n 0, 0, 0, 0, 0, [], []), some (.bipush 7, 0, 0, 0, 7, [], []), none, some (.iconst 0, 0, 0, 0, 0, [], []), some (.invokevirtual 141, 114, 17, 8, 0, [], [5074, 0]), none, none, some (.ireturn, 0, 0, 0, 0, [], []), none, none, none, none, none, none, none, none]]
/-- X8_empty -/
def qm_135 : qs_E := (RX8, yX8_empty, cX8_empty, 1, some .int, 1, 0, 1, qc_135, [5106, 5104, 1009, 5105])
def qc_136 : List (List (Option qs_Row)) := [[some (.iload_n 1, 1, 0, 0, 0, [], []), some (.iconst 1, 0, 0, 0, 1, [], []), some (.bipush 8, 0, 0, 0, 8, [], []), none, some (.invokestatic 79, 108, 26, 0, 0, [], [4232, 0]), none, none, some (.ifCond .ne 6, 13, 0, 0, 0, [], []), none, none, some (.ldc 91, 0, 0, 0, (-1000000001), [], [4238]), none, some (.ireturn, 0, 0, 0, 0, [], []), some (.iconst 0, 0, 0, 0, 0, [], []), some (.istore_n 2, 2, 0, 0, 0, [], []), some (.iload_n 2, 2, 0, 0, 0, [], [])],
  [some (.iload_n 1, 1, 0, 0, 0, [], []), some (.if_icmp .ge 64, 81, 0, 0, 0, [], []), none, none, some (.aload_n 0, 0, 0, 0, 0, [], []), some (.getfield 9, 8, 0, 1, 0, [], [4116]), none, none, some (.iconst 1, 0, 0, 0, 1, [], []), some (.iaload, 20, 0, 0, 0, [], []), some (.bipush 8, 0, 0, 0, 8, [], []), none, some (.if_icmp .ge 53, 81, 0, 0, 0, [], []), none, none, some (.aload_n 0, 0, 0, 0, 0, [], [])],
  [some (.invokevirtual 149, 130, 1, 8, 0, [], [5094, 0]), none, none, some (.bipush 6, 0, 0, 0, 6, [], []), none, some (.irem, 0, 0, 0, 0, [], []), some (.istore_n 3, 3, 0, 0, 0, [], []), some (.aload_n 0, 0, 0, 0, 0, [], []), some (.invokevirtual 149, 130, 1, 8, 0, [], [5094, 0]), none, none, some (.bipush 20, 0, 0, 0, 20, [], []), none, some (.irem, 0, 0, 0, 0, [], []), some (.istore 4, 4, 0, 0, 0, [], []), none],
  [some (.aload_n 0, 0, 0, 0, 0, [], []), some (.invokevirtual 149, 130, 1, 8, 0, [], [5094, 0]), none, none, some (.bipush 30, 0, 0, 0, 30, [], []), none, some (.irem, 0, 0, 0, 0, [], []), some (.istore 5, 5, 0, 0, 0, [], []), none, some (.aload_n 0, 0, 0, 0, 0, [], []), some (.iload_n 3, 3, 0, 0, 0, [], []), some (.iload 4, 4, 0, 0, 0, [], []), none, some (.iload 5, 5, 0, 0, 0, [], []), none, some (.aload_n 0, 0, 0, 0, 0, [], [])],
  [some (.invokevirtual 149, 130, 1, 8, 0, [], [5094, 0]), none, none, some (.bipush 10, 0, 0, 0, 10, [], []), none, some (.irem, 0, 0, 0, 0, [], []), some (.invokevirtual 93, 115, 33, 8, 0, [], [5000, 0]), none, none, some (.istore 6, 6, 0, 0, 0, [], []), none, some (.iinc 2 1, 2, 0, 0, 1, [], []), none, none, some (.goto (-63), 15, 0, 0, 0, [], []), none],
  [none, some (.iload_n 2, 2, 0, 0, 0, [], []), some (.ireturn, 0, 0, 0, 0, [], []), none, none, none, none, none, none, none, none, none, none, none, none, none]]
/-- X8_deal -/
def qm_136 : qs_E := (RX8, yX8_deal, cX8_deal, 7, some .int, 1, 1, 1, qc_136, [5110, 5108, 1009, 5109])
def qc_137 : List (List (Option qs_Row)) := [[some (.aload_n 0, 0, 0, 0, 0, [], []), some (.iconst 0, 0, 0, 0, 0, [], []), some (.iload_n 1, 1, 0, 0, 0, [], []), some (.invokevirtual 141, 114, 17, 8, 0, [], [5074, 0]), none, none, some (.ireturn, 0, 0, 0, 0, [], []), none, none, none, none, none, none, none, none, none]]
/-- X8_seed -/
def qm_137 : qs_E := (RX8, yX8_seed, cX8_seed, 2, some .int, 1, 1, 1, qc_137, [5114, 5112, 1009, 5113])
def qc_138 : List (List (Option qs_Row)) := [[some (.aload_n 0, 0, 0, 0, 0, [], []), some (.iload_n 1, 1, 0, 0, 0, [], []), some (.invokevirtual 125, 120, 9, 8, 0, [], [5027, 0]), none, none, some (.istore_n 2, 2, 0, 0, 0, [], []), some (.aload_n 0, 0, 0, 0, 0, [], []), some (.getfield 9, 8, 0, 1, 0, [], [4116]), none, none, some (.iconst 5, 0, 0, 0, 5, [], []), some (.iaload, 20, 0, 0, 0, [], []), some (.aload_n 0, 0, 0, 0, 0, [], []), some (.getfield 9, 8, 0, 1, 0, [], [4116]), none, none],
  [some (.bipush 7, 0, 0, 0, 7, [], []), none, some (.iaload, 20, 0, 0, 0, [], []), some (.isub, 0, 0, 0, 0, [], []), some (.iconst 0, 0, 0, 0, 0, [], []), some (.iload_n 2, 2, 0, 0, 0, [], []), some (.invokestatic 101, 109, 25, 0, 0, [], [5024, 0]), none, none, some (.istore_n 3, 3, 0, 0, 0, [], []), some (.aload_n 0, 0, 0, 0, 0, [], []), some (.getfield 9, 8, 0, 1, 0, [], [4116]), none, none, some (.bipush 6, 0, 0, 0, 6, [], []), none],
  [some (.dup2, 0, 0, 0, 0, [], []), some (.iaload, 20, 0, 0, 0, [], []), some (.iload_n 2, 2, 0, 0, 0, [], []), some (.iadd, 0, 0, 0, 0, [], []), some (.iastore, 0, 0, 0, 0, [], []), some (.aload_n 0, 0, 0, 0, 0, [], []), some (.getfield 9, 8, 0, 1, 0, [], [4116]), none, none, some (.bipush 7, 0, 0, 0, 7, [], []), none, some (.dup2, 0, 0, 0, 0, [], []), some (.iaload, 20, 0, 0, 0, [], []), some (.iload_n 3, 3, 0, 0, 0, [], []), some (.iadd, 0, 0, 0, 0, [], []), some (.iastore, 0, 0, 0, 0, [], [])],
  [some (.aload_n 0, 0, 0, 0, 0, [], []), some (.getfield 9, 8, 0, 1, 0, [], [4116]), none, none, some (.bipush 8, 0, 0, 0, 8, [], []), none, some (.dup2, 0, 0, 0, 0, [], []), some (.iaload, 20, 0, 0, 0, [], []), some (.iload_n 2, 2, 0, 0, 0, [], []), some (.iload_n 3, 3, 0, 0, 0, [], []), some (.isub, 0, 0, 0, 0, [], []), some (.iadd, 0, 0, 0, 0, [], []), some (.iastore, 0, 0, 0, 0, [], []), some (.iload_n 2, 2, 0, 0, 0, [], []), some (.iconst 1, 0, 0, 0, 1, [], []), some (.iconst 3, 0, 0, 0, 3, [], [])],
  [some (.invokestatic 79, 108, 26, 0, 0, [], [4232, 0]), none, none, some (.ifCond .eq 25, 92, 0, 0, 0, [], []), none, none, some (.aload_n 0, 0, 0, 0, 0, [], []), some (.iload_n 1, 1, 0, 0, 0, [], []), some (.bipush 7, 0, 0, 0, 7, [], []), none, some (.aload_n 0, 0, 0, 0, 0, [], []), some (.iload_n 1, 1, 0, 0, 0, [], []), some (.bipush 7, 0, 0, 0, 7, [], []), none, some (.invokevirtual 97, 112, 17, 8, 0, [], [5016, 0]), none],
  [none, some (.iconst 1, 0, 0, 0, 1, [], []), some (.iadd, 0, 0, 0, 0, [], []), some (.iconst 0, 0, 0, 0, 0, [], []), some (.bipush 9, 0, 0, 0, 9, [], []), none, some (.invokestatic 101, 109, 25, 0, 0, [], [5024, 0]), none, none, some (.invokevirtual 83, 113, 24, 8, 0, [], [5004, 0]), none, none, some (.return_, 0, 0, 0, 0, [], []), none, none, none]]
/-- X8_drips -/
def qm_138 : qs_E := (RX8, yX8_drips, cX8_drips, 4, none, 1, 1, 0, qc_138, [5130, 5129, 1009, 33])
def qc_139 : List (List (Option qs_Row)) := [[some (.iconst 0, 0, 0, 0, 0, [], []), some (.istore_n 1, 1, 0, 0, 0, [], []), some (.iload_n 1, 1, 0, 0, 0, [], []), some (.aload_n 0, 0, 0, 0, 0, [], []), some (.getfield 9, 8, 0, 1, 0, [], [4116]), none, none, some (.iconst 1, 0, 0, 0, 1, [], []), some (.iaload, 20, 0, 0, 0, [], []), some (.if_icmp .ge 14, 23, 0, 0, 0, [], []), none, none, some (.aload_n 0, 0, 0, 0, 0, [], []), some (.iload_n 1, 1, 0, 0, 0, [], []), some (.invokevirtual 157, 138, 8, 8, 0, [], [5127, 0]), none],
  [none, some (.iinc 1 1, 1, 0, 0, 1, [], []), none, none, some (.goto (-18), 2, 0, 0, 0, [], []), none, none, some (.aload_n 0, 0, 0, 0, 0, [], []), some (.invokevirtual 149, 130, 1, 8, 0, [], [5094, 0]), none, none, some (.bipush 100, 0, 0, 0, 100, [], []), none, some (.irem, 0, 0, 0, 0, [], []), some (.aload_n 0, 0, 0, 0, 0, [], []), some (.getfield 9, 8, 0, 1, 0, [], [4116])],
  [none, none, some (.iconst 4, 0, 0, 0, 4, [], []), some (.iaload, 20, 0, 0, 0, [], []), some (.if_icmp .ge 7, 43, 0, 0, 0, [], []), none, none, some (.iconst 1, 0, 0, 0, 1, [], []), some (.goto 4, 44, 0, 0, 0, [], []), none, none, some (.iconst 0, 0, 0, 0, 0, [], []), some (.istore_n 1, 1, 0, 0, 0, [], []), some (.iload_n 1, 1, 0, 0, 0, [], []), some (.ifCond .eq 49, 95, 0, 0, 0, [], []), none],
  [none, some (.aload_n 0, 0, 0, 0, 0, [], []), some (.getfield 9, 8, 0, 1, 0, [], [4116]), none, none, some (.iconst 1, 0, 0, 0, 1, [], []), some (.iaload, 20, 0, 0, 0, [], []), some (.ifCond .le 40, 95, 0, 0, 0, [], []), none, none, some (.aload_n 0, 0, 0, 0, 0, [], []), some (.invokevirtual 149, 130, 1, 8, 0, [], [5094, 0]), none, none, some (.aload_n 0, 0, 0, 0, 0, [], []), some (.getfield 9, 8, 0, 1, 0, [], [4116])],
  [none, none, some (.iconst 1, 0, 0, 0, 1, [], []), some (.iaload, 20, 0, 0, 0, [], []), some (.irem, 0, 0, 0, 0, [], []), some (.istore_n 2, 2, 0, 0, 0, [], []), some (.aload_n 0, 0, 0, 0, 0, [], []), some (.iload_n 2, 2, 0, 0, 0, [], []), some (.iconst (-1), 0, 0, 0, (-1), [], []), some (.invokevirtual 145, 131, 16, 8, 0, [], [5090, 0]), none, none, some (.aload_n 0, 0, 0, 0, 0, [], []), some (.iload_n 2, 2, 0, 0, 0, [], []), some (.bipush 7, 0, 0, 0, 7, [], []), none],
  [some (.iconst 0, 0, 0, 0, 0, [], []), some (.invokevirtual 83, 113, 24, 8, 0, [], [5004, 0]), none, none, some (.aload_n 0, 0, 0, 0, 0, [], []), some (.getfield 9, 8, 0, 1, 0, [], [4116]), none, none, some (.bipush 10, 0, 0, 0, 10, [], []), none, some (.dup2, 0, 0, 0, 0, [], []), some (.iaload, 20, 0, 0, 0, [], []), some (.iconst 1, 0, 0, 0, 1, [], []), some (.iadd, 0, 0, 0, 0, [], []), some (.iastore, 0, 0, 0, 0, [], []), some (.aload_n 0, 0, 0, 0, 0, [], [])],
  [some (.getfield 9, 8, 0, 1, 0, [], [4116]), none, none, some (.iconst 3, 0, 0, 0, 3, [], []), some (.aload_n 0, 0, 0, 0, 0, [], []), some (.getfield 9, 8, 0, 1, 0, [], [4116]), none, none, some (.iconst 2, 0, 0, 0, 2, [], []), some (.iaload, 20, 0, 0, 0, [], []), some (.bipush 6, 0, 0, 0, 6, [], []), none, some (.irem, 0, 0, 0, 0, [], []), some (.iconst 5, 0, 0, 0, 5, [], []), some (.if_icmp .ne 14, 124, 0, 0, 0, [], []), none],
  [none, some (.iconst 1, 0, 0, 0, 1, [], []), some (.aload_n 0, 0, 0, 0, 0, [], []), some (.getfield 9, 8, 0, 1, 0, [], [4116]), none, none, some (.iconst 3, 0, 0, 0, 3, [], []), some (.iaload, 20, 0, 0, 0, [], []), some (.isub, 0, 0, 0, 0, [], []), some (.goto 9, 130, 0, 0, 0, [], []), none, none, some (.aload_n 0, 0, 0, 0, 0, [], []), some (.getfield 9, 8, 0, 1, 0, [], [4116]), none, none],
  [some (.iconst 3, 0, 0, 0, 3, [], []), some (.iaload, 20, 0, 0, 0, [], []), some (.iastore, 0, 0, 0, 0, [], []), some (.aload_n 0, 0, 0, 0, 0, [], []), some (.getfield 9, 8, 0, 1, 0, [], [4116]), none, none, some (.iconst 2, 0, 0, 0, 2, [], []), some (.dup2, 0, 0, 0, 0, [], []), some (.iaload, 20, 0, 0, 0, [], []), some (.iconst 1, 0, 0, 0, 1, [], []), some (.iadd, 0, 0, 0, 0, [], []), some (.iastore, 0, 0, 0, 0, [], []), some (.return_, 0, 0, 0, 0, [], []), none, none]]
/-- X8_hour -/
def qm_139 : qs_E := (RX8, yX8_hour, cX8_hour, 3, none, 1, 0, 0, qc_139, [5126, 5125, 1009, 32])
def qc_140 : List (List (Option qs_Row)) := [[some (.iconst 0, 0, 0, 0, 0, [], []), some (.istore_n 2, 2, 0, 0, 0, [], []), some (.iload_n 2, 2, 0, 0, 0, [], []), some (.iload_n 1, 1, 0, 0, 0, [], []), some (.if_icmp .ge 13, 17, 0, 0, 0, [], []), none, none, some (.aload_n 0, 0, 0, 0, 0, [], []), some (.invokevirtual 160, 139, 0, 8, 0, [], [5123, 0]), none, none, some (.iinc 2 1, 2, 0, 0, 1, [], []), none, none, some (.goto (-12), 2, 0, 0, 0, [], []), none],
  [none, some (.return_, 0, 0, 0, 0, [], []), none, none, none, none, none, none, none, none, none, none, none, none, none, none]]
/-- X8_goesOn -/
def qm_140 : qs_E := (RX8, yX8_goesOn, cX8_goesOn, 3, none, 1, 1, 0, qc_140, [5122, 5121, 1009, 31])
def qc_141 : List (List (Option qs_Row)) := [[some (.iload_n 1, 1, 0, 0, 0, [], []), some (.iconst 1, 0, 0, 0, 1, [], []), some (.bipush 100, 0, 0, 0, 100, [], []), none, some (.invokestatic 79, 108, 26, 0, 0, [], [4232, 0]), none, none, some (.ifCond .ne 6, 13, 0, 0, 0, [], []), none, none, some (.ldc 91, 0, 0, 0, (-1000000001), [], [4238]), none, some (.ireturn, 0, 0, 0, 0, [], []), some (.aload_n 0, 0, 0, 0, 0, [], []), some (.getfield 9, 8, 0, 1, 0, [], [4116]), none],
  [none, some (.bipush 6, 0, 0, 0, 6, [], []), none, some (.iaload, 20, 0, 0, 0, [], []), some (.istore_n 2, 2, 0, 0, 0, [], []), some (.aload_n 0, 0, 0, 0, 0, [], []), some (.sipush 9999, 0, 0, 0, 9999, [], []), none, none, some (.aload_n 0, 0, 0, 0, 0, [], []), some (.getfield 9, 8, 0, 1, 0, [], [4116]), none, none, some (.iconst 2, 0, 0, 0, 2, [], []), some (.iaload, 20, 0, 0, 0, [], []), some (.isub, 0, 0, 0, 0, [], [])],
  [some (.iconst 0, 0, 0, 0, 0, [], []), some (.iload_n 1, 1, 0, 0, 0, [], []), some (.invokestatic 101, 109, 25, 0, 0, [], [5024, 0]), none, none, some (.invokevirtual 163, 140, 8, 8, 0, [], [5119, 0]), none, none, some (.aload_n 0, 0, 0, 0, 0, [], []), some (.getfield 9, 8, 0, 1, 0, [], [4116]), none, none, some (.bipush 6, 0, 0, 0, 6, [], []), none, some (.iaload, 20, 0, 0, 0, [], []), some (.iload_n 2, 2, 0, 0, 0, [], [])],
  [some (.isub, 0, 0, 0, 0, [], []), some (.ireturn, 0, 0, 0, 0, [], []), none, none, none, none, none, none, none, none, none, none, none, none, none, none]]
/-- X8_hours -/
def qm_141 : qs_E := (RX8, yX8_hours, cX8_hours, 3, some .int, 1, 1, 1, qc_141, [5118, 5116, 1009, 5117])
def qc_142 : List (List (Option qs_Row)) := [[some (.iconst 0, 0, 0, 0, 0, [], []), some (.istore_n 1, 1, 0, 0, 0, [], []), some (.iconst 0, 0, 0, 0, 0, [], []), some (.istore_n 2, 2, 0, 0, 0, [], []), some (.iload_n 2, 2, 0, 0, 0, [], []), some (.aload_n 0, 0, 0, 0, 0, [], []), some (.getfield 9, 8, 0, 1, 0, [], [4116]), none, none, some (.iconst 1, 0, 0, 0, 1, [], []), some (.iaload, 20, 0, 0, 0, [], []), some (.if_icmp .ge 17, 28, 0, 0, 0, [], []), none, none, some (.iload_n 1, 1, 0, 0, 0, [], []), some (.aload_n 0, 0, 0, 0, 0, [], [])],
  [some (.iload_n 2, 2, 0, 0, 0, [], []), some (.invokevirtual 125, 120, 9, 8, 0, [], [5027, 0]), none, none, some (.iadd, 0, 0, 0, 0, [], []), some (.istore_n 1, 1, 0, 0, 0, [], []), some (.iinc 2 1, 2, 0, 0, 1, [], []), none, none, some (.goto (-21), 4, 0, 0, 0, [], []), none, none, some (.iload_n 1, 1, 0, 0, 0, [], []), some (.ireturn, 0, 0, 0, 0, [], []), none, none]]
/-- X8_leaksOfAll -/
def qm_142 : qs_E := (RX8, yX8_leaksOfAll, cX8_leaksOfAll, 3, some .int, 1, 0, 1, qc_142, [5138, 5137, 1009, 34])
def qc_143 : List (List (Option qs_Row)) := [[some (.iconst 0, 0, 0, 0, 0, [], []), some (.istore_n 1, 1, 0, 0, 0, [], []), some (.iconst 0, 0, 0, 0, 0, [], []), some (.istore_n 2, 2, 0, 0, 0, [], []), some (.iload_n 2, 2, 0, 0, 0, [], []), some (.aload_n 0, 0, 0, 0, 0, [], []), some (.getfield 9, 8, 0, 1, 0, [], [4116]), none, none, some (.iconst 1, 0, 0, 0, 1, [], []), some (.iaload, 20, 0, 0, 0, [], []), some (.if_icmp .ge 18, 29, 0, 0, 0, [], []), none, none, some (.iload_n 1, 1, 0, 0, 0, [], []), some (.aload_n 0, 0, 0, 0, 0, [], [])],
  [some (.iload_n 2, 2, 0, 0, 0, [], []), some (.iconst 1, 0, 0, 0, 1, [], []), some (.invokevirtual 97, 112, 17, 8, 0, [], [5016, 0]), none, none, some (.iadd, 0, 0, 0, 0, [], []), some (.istore_n 1, 1, 0, 0, 0, [], []), some (.iinc 2 1, 2, 0, 0, 1, [], []), none, none, some (.goto (-22), 4, 0, 0, 0, [], []), none, none, some (.iload_n 1, 1, 0, 0, 0, [], []), some (.ireturn, 0, 0, 0, 0, [], []), none]]
/-- X8_tightOfAll -/
def qm_143 : qs_E := (RX8, yX8_tightOfAll, cX8_tightOfAll, 3, some .int, 1, 0, 1, qc_143, [5146, 5145, 1009, 36])
def qc_144 : List (List (Option qs_Row)) := [[some (.iconst 0, 0, 0, 0, 0, [], []), some (.istore_n 1, 1, 0, 0, 0, [], []), some (.iconst 0, 0, 0, 0, 0, [], []), some (.istore_n 2, 2, 0, 0, 0, [], []), some (.iload_n 2, 2, 0, 0, 0, [], []), some (.aload_n 0, 0, 0, 0, 0, [], []), some (.getfield 9, 8, 0, 1, 0, [], [4116]), none, none, some (.iconst 1, 0, 0, 0, 1, [], []), some (.iaload, 20, 0, 0, 0, [], []), some (.if_icmp .ge 29, 40, 0, 0, 0, [], []), none, none, some (.iload_n 1, 1, 0, 0, 0, [], []), some (.aload_n 0, 0, 0, 0, 0, [], [])],
  [some (.iload_n 2, 2, 0, 0, 0, [], []), some (.iconst 0, 0, 0, 0, 0, [], []), some (.invokevirtual 97, 112, 17, 8, 0, [], [5016, 0]), none, none, some (.iconst 5, 0, 0, 0, 5, [], []), some (.if_icmp .ne 9, 31, 0, 0, 0, [], []), none, none, some (.iconst 1, 0, 0, 0, 1, [], []), some (.iload_n 2, 2, 0, 0, 0, [], []), some (.ishl, 0, 0, 0, 0, [], []), some (.goto 4, 32, 0, 0, 0, [], []), none, none, some (.iconst 0, 0, 0, 0, 0, [], [])],
  [some (.ior, 0, 0, 0, 0, [], []), some (.istore_n 1, 1, 0, 0, 0, [], []), some (.iinc 2 1, 2, 0, 0, 1, [], []), none, none, some (.goto (-33), 4, 0, 0, 0, [], []), none, none, some (.iload_n 1, 1, 0, 0, 0, [], []), some (.ireturn, 0, 0, 0, 0, [], []), none, none, none, none, none, none]]
/-- X8_cracked -/
def qm_144 : qs_E := (RX8, yX8_cracked, cX8_cracked, 3, some .int, 1, 0, 1, qc_144, [5142, 5141, 1009, 35])
def qc_145 : List (List (Option qs_Row)) := [[some (.iload_n 1, 1, 0, 0, 0, [], []), some (.tableswitch 83 0 8 #[51, 51, 51, 51, 51, 61, 68, 73, 78], 84, 51, 0, 0, [(0, 52), (1, 52), (2, 52), (3, 52), (4, 52), (5, 62), (6, 69), (7, 74), (8, 79)], []), none, none, none, none, none, none, none, none, none, none, none, none, none, none],
  [none, none, none, none, none, none, none, none, none, none, none, none, none, none, none, none],
  [none, none, none, none, none, none, none, none, none, none, none, none, none, none, none, none],
  [none, none, none, none, some (.aload_n 0, 0, 0, 0, 0, [], []), some (.getfield 9, 8, 0, 1, 0, [], [4116]), none, none, some (.bipush 6, 0, 0, 0, 6, [], []), none, some (.iload_n 1, 1, 0, 0, 0, [], []), some (.iadd, 0, 0, 0, 0, [], []), some (.iaload, 20, 0, 0, 0, [], []), some (.ireturn, 0, 0, 0, 0, [], []), some (.aload_n 0, 0, 0, 0, 0, [], []), some (.getfield 9, 8, 0, 1, 0, [], [4116])],
  [none, none, some (.iconst 3, 0, 0, 0, 3, [], []), some (.iaload, 20, 0, 0, 0, [], []), some (.ireturn, 0, 0, 0, 0, [], []), some (.aload_n 0, 0, 0, 0, 0, [], []), some (.invokevirtual 166, 142, 1, 8, 0, [], [5135, 0]), none, none, some (.ireturn, 0, 0, 0, 0, [], []), some (.aload_n 0, 0, 0, 0, 0, [], []), some (.invokevirtual 169, 144, 1, 8, 0, [], [5139, 0]), none, none, some (.ireturn, 0, 0, 0, 0, [], []), some (.aload_n 0, 0, 0, 0, 0, [], [])],
  [some (.invokevirtual 172, 143, 1, 8, 0, [], [5143, 0]), none, none, some (.ireturn, 0, 0, 0, 0, [], []), some (.ldc 91, 0, 0, 0, (-1000000001), [], [4238]), none, some (.ireturn, 0, 0, 0, 0, [], []), none, none, none, none, none, none, none, none, none]]
/-- X8_sink -/
def qm_145 : qs_E := (RX8, yX8_sink, cX8_sink, 2, some .int, 1, 1, 1, qc_145, [5134, 5132, 1009, 5133])
def qc_146 : List (List (Option qs_Row)) := [[some (.aload_n 0, 0, 0, 0, 0, [], []), some (.iload_n 1, 1, 0, 0, 0, [], []), some (.invokevirtual 118, 111, 10, 8, 0, [], [5012, 0]), none, none, some (.ifCond .ne 6, 11, 0, 0, 0, [], []), none, none, some (.ldc 91, 0, 0, 0, (-1000000001), [], [4238]), none, some (.ireturn, 0, 0, 0, 0, [], []), some (.iconst 0, 0, 0, 0, 0, [], []), some (.istore_n 2, 2, 0, 0, 0, [], []), some (.iconst 0, 0, 0, 0, 0, [], []), some (.istore_n 3, 3, 0, 0, 0, [], []), some (.iload_n 3, 3, 0, 0, 0, [], [])],
  [some (.aload_n 0, 0, 0, 0, 0, [], []), some (.getfield 9, 8, 0, 1, 0, [], [4116]), none, none, some (.iconst 1, 0, 0, 0, 1, [], []), some (.iaload, 20, 0, 0, 0, [], []), some (.if_icmp .ge 30, 52, 0, 0, 0, [], []), none, none, some (.iload_n 2, 2, 0, 0, 0, [], []), some (.aload_n 0, 0, 0, 0, 0, [], []), some (.iload_n 3, 3, 0, 0, 0, [], []), some (.invokevirtual 131, 124, 9, 8, 0, [], [5050, 0]), none, none, some (.iload_n 1, 1, 0, 0, 0, [], [])],
  [some (.if_icmp .ne 11, 43, 0, 0, 0, [], []), none, none, some (.aload_n 0, 0, 0, 0, 0, [], []), some (.iload_n 3, 3, 0, 0, 0, [], []), some (.invokevirtual 125, 120, 9, 8, 0, [], [5027, 0]), none, none, some (.goto 4, 44, 0, 0, 0, [], []), none, none, some (.iconst 0, 0, 0, 0, 0, [], []), some (.iadd, 0, 0, 0, 0, [], []), some (.istore_n 2, 2, 0, 0, 0, [], []), some (.iinc 3 1, 3, 0, 0, 1, [], []), none],
  [none, some (.goto (-34), 15, 0, 0, 0, [], []), none, none, some (.iload_n 2, 2, 0, 0, 0, [], []), some (.ireturn, 0, 0, 0, 0, [], []), none, none, none, none, none, none, none, none, none, none]]
/-- X8_seen -/
def qm_146 : qs_E := (RX8, yX8_seen, cX8_seen, 4, some .int, 1, 1, 1, qc_146, [5150, 5148, 1009, 5149])
def qc_147 : List (List (Option qs_Row)) := [[some (.aload_n 0, 0, 0, 0, 0, [], []), some (.iload_n 1, 1, 0, 0, 0, [], []), some (.invokevirtual 118, 111, 10, 8, 0, [], [5012, 0]), none, none, some (.ifCond .ne 6, 11, 0, 0, 0, [], []), none, none, some (.ldc 91, 0, 0, 0, (-1000000001), [], [4238]), none, some (.ireturn, 0, 0, 0, 0, [], []), some (.iconst 0, 0, 0, 0, 0, [], []), some (.istore_n 2, 2, 0, 0, 0, [], []), some (.iconst 0, 0, 0, 0, 0, [], []), some (.istore_n 3, 3, 0, 0, 0, [], []), some (.iload_n 3, 3, 0, 0, 0, [], [])],
  [some (.aload_n 0, 0, 0, 0, 0, [], []), some (.getfield 9, 8, 0, 1, 0, [], [4116]), none, none, some (.iconst 1, 0, 0, 0, 1, [], []), some (.iaload, 20, 0, 0, 0, [], []), some (.if_icmp .ge 28, 50, 0, 0, 0, [], []), none, none, some (.iload_n 2, 2, 0, 0, 0, [], []), some (.aload_n 0, 0, 0, 0, 0, [], []), some (.iload_n 3, 3, 0, 0, 0, [], []), some (.invokevirtual 131, 124, 9, 8, 0, [], [5050, 0]), none, none, some (.iload_n 1, 1, 0, 0, 0, [], [])],
  [some (.if_icmp .ne 9, 41, 0, 0, 0, [], []), none, none, some (.iconst 1, 0, 0, 0, 1, [], []), some (.iload_n 3, 3, 0, 0, 0, [], []), some (.ishl, 0, 0, 0, 0, [], []), some (.goto 4, 42, 0, 0, 0, [], []), none, none, some (.iconst 0, 0, 0, 0, 0, [], []), some (.ior, 0, 0, 0, 0, [], []), some (.istore_n 2, 2, 0, 0, 0, [], []), some (.iinc 3 1, 3, 0, 0, 1, [], []), none, none, some (.goto (-32), 15, 0, 0, 0, [], [])],
  [none, none, some (.iload_n 2, 2, 0, 0, 0, [], []), some (.ireturn, 0, 0, 0, 0, [], []), none, none, none, none, none, none, none, none, none, none, none, none]]
/-- X8_from -/
def qm_147 : qs_E := (RX8, yX8_from, cX8_from, 4, some .int, 1, 1, 1, qc_147, [5154, 5152, 1009, 5153])
def qc_148 : List (List (Option qs_Row)) := [[some (.iconst 0, 0, 0, 0, 0, [], []), some (.istore_n 1, 1, 0, 0, 0, [], []), some (.iload_n 1, 1, 0, 0, 0, [], []), some (.bipush 76, 0, 0, 0, 76, [], []), none, some (.if_icmp .ge 21, 26, 0, 0, 0, [], []), none, none, some (.aload_n 0, 0, 0, 0, 0, [], []), some (.getfield 19, 8, 4, 1, 0, [], [4120]), none, none, some (.iload_n 1, 1, 0, 0, 0, [], []), some (.aload_n 0, 0, 0, 0, 0, [], []), some (.getfield 9, 8, 0, 1, 0, [], [4116]), none],
  [none, some (.iload_n 1, 1, 0, 0, 0, [], []), some (.iaload, 20, 0, 0, 0, [], []), some (.iastore, 0, 0, 0, 0, [], []), some (.iinc 1 1, 1, 0, 0, 1, [], []), none, none, some (.goto (-21), 2, 0, 0, 0, [], []), none, none, some (.return_, 0, 0, 0, 0, [], []), none, none, none, none, none]]
/-- X8_thinks -/
def qm_148 : qs_E := (RX8, yX8_thinks, cX8_thinks, 2, none, 1, 0, 0, qc_148, [5162, 5161, 1009, 37])
def qc_149 : List (List (Option qs_Row)) := [[some (.iconst 0, 0, 0, 0, 0, [], []), some (.istore_n 1, 1, 0, 0, 0, [], []), some (.iload_n 1, 1, 0, 0, 0, [], []), some (.bipush 76, 0, 0, 0, 76, [], []), none, some (.if_icmp .ge 21, 26, 0, 0, 0, [], []), none, none, some (.aload_n 0, 0, 0, 0, 0, [], []), some (.getfield 9, 8, 0, 1, 0, [], [4116]), none, none, some (.iload_n 1, 1, 0, 0, 0, [], []), some (.aload_n 0, 0, 0, 0, 0, [], []), some (.getfield 19, 8, 4, 1, 0, [], [4120]), none],
  [none, some (.iload_n 1, 1, 0, 0, 0, [], []), some (.iaload, 20, 0, 0, 0, [], []), some (.iastore, 0, 0, 0, 0, [], []), some (.iinc 1 1, 1, 0, 0, 1, [], []), none, none, some (.goto (-21), 2, 0, 0, 0, [], []), none, none, some (.return_, 0, 0, 0, 0, [], []), none, none, none, none, none]]
/-- X8_putsBack -/
def qm_149 : qs_E := (RX8, yX8_putsBack, cX8_putsBack, 2, none, 1, 0, 0, qc_149, [5171, 5170, 1009, 39])
def qc_150 : List (List (Option qs_Row)) := [[some (.aload_n 0, 0, 0, 0, 0, [], []), some (.ldc 175, 0, 0, 0, (-1000000005), [], [5167]), none, some (.putfield 176, 8, 5, 0, 0, [], [4121]), none, none, some (.aload_n 0, 0, 0, 0, 0, [], []), some (.ldc 175, 0, 0, 0, (-1000000005), [], [5167]), none, some (.putfield 180, 8, 6, 0, 0, [], [4122]), none, none, some (.return_, 0, 0, 0, 0, [], []), none, none, none]]
/-- X8_forgets -/
def qm_150 : qs_E := (RX8, yX8_forgets, cX8_forgets, 1, none, 1, 0, 0, qc_150, [5166, 5165, 1009, 38])
def qc_151 : List (List (Option qs_Row)) := [[some (.aload_n 0, 0, 0, 0, 0, [], []), some (.getfield 176, 8, 5, 0, 0, [], [4121]), none, none, some (.ldc 175, 0, 0, 0, (-1000000005), [], [5167]), none, some (.if_icmp .eq 11, 17, 0, 0, 0, [], []), none, none, some (.iload_n 2, 2, 0, 0, 0, [], []), some (.aload_n 0, 0, 0, 0, 0, [], []), some (.getfield 180, 8, 6, 0, 0, [], [4122]), none, none, some (.if_icmp .ge 13, 27, 0, 0, 0, [], []), none],
  [none, some (.aload_n 0, 0, 0, 0, 0, [], []), some (.iload_n 1, 1, 0, 0, 0, [], []), some (.putfield 176, 8, 5, 0, 0, [], [4121]), none, none, some (.aload_n 0, 0, 0, 0, 0, [], []), some (.iload_n 2, 2, 0, 0, 0, [], []), some (.putfield 180, 8, 6, 0, 0, [], [4122]), none, none, some (.return_, 0, 0, 0, 0, [], []), none, none, none, none]]
/-- X8_sees -/
def qm_151 : qs_E := (RX8, yX8_sees, cX8_sees, 3, none, 1, 2, 0, qc_151, [5175, 5174, 1009, 40])
def qc_152 : List (List (Option qs_Row)) := [[some (.aload_n 0, 0, 0, 0, 0, [], []), some (.iload_n 1, 1, 0, 0, 0, [], []), some (.invokevirtual 118, 111, 10, 8, 0, [], [5012, 0]), none, none, some (.ifCond .eq 12, 17, 0, 0, 0, [], []), none, none, some (.iload_n 2, 2, 0, 0, 0, [], []), some (.iconst 0, 0, 0, 0, 0, [], []), some (.iconst 1, 0, 0, 0, 1, [], []), some (.invokestatic 79, 108, 26, 0, 0, [], [4232, 0]), none, none, some (.ifCond .ne 6, 20, 0, 0, 0, [], []), none],
  [none, some (.ldc 91, 0, 0, 0, (-1000000001), [], [4238]), none, some (.ireturn, 0, 0, 0, 0, [], []), some (.aload_n 0, 0, 0, 0, 0, [], []), some (.invokevirtual 183, 148, 0, 8, 0, [], [5159, 0]), none, none, some (.aload_n 0, 0, 0, 0, 0, [], []), some (.invokevirtual 186, 150, 0, 8, 0, [], [5163, 0]), none, none, some (.bipush (-9), 0, 0, 0, (-9), [], []), none, some (.istore_n 3, 3, 0, 0, 0, [], []), some (.iload_n 3, 3, 0, 0, 0, [], [])],
  [some (.bipush 10, 0, 0, 0, 10, [], []), none, some (.if_icmp .ge 32, 66, 0, 0, 0, [], []), none, none, some (.aload_n 0, 0, 0, 0, 0, [], []), some (.iload_n 1, 1, 0, 0, 0, [], []), some (.iload_n 3, 3, 0, 0, 0, [], []), some (.invokevirtual 145, 131, 16, 8, 0, [], [5090, 0]), none, none, some (.aload_n 0, 0, 0, 0, 0, [], []), some (.invokevirtual 166, 142, 1, 8, 0, [], [5135, 0]), none, none, some (.istore 4, 4, 0, 0, 0, [], [])],
  [none, some (.aload_n 0, 0, 0, 0, 0, [], []), some (.invokevirtual 189, 149, 0, 8, 0, [], [5168, 0]), none, none, some (.aload_n 0, 0, 0, 0, 0, [], []), some (.iload_n 3, 3, 0, 0, 0, [], []), some (.iload 4, 4, 0, 0, 0, [], []), none, some (.invokevirtual 192, 151, 16, 8, 0, [], [5172, 0]), none, none, some (.iinc 3 1, 3, 0, 0, 1, [], []), none, none, some (.goto (-32), 31, 0, 0, 0, [], [])],
  [none, none, some (.iload_n 2, 2, 0, 0, 0, [], []), some (.ifCond .ne 10, 77, 0, 0, 0, [], []), none, none, some (.aload_n 0, 0, 0, 0, 0, [], []), some (.getfield 176, 8, 5, 0, 0, [], [4121]), none, none, some (.goto 7, 81, 0, 0, 0, [], []), none, none, some (.aload_n 0, 0, 0, 0, 0, [], []), some (.getfield 180, 8, 6, 0, 0, [], [4122]), none],
  [none, some (.ireturn, 0, 0, 0, 0, [], []), none, none, none, none, none, none, none, none, none, none, none, none, none, none]]
/-- X8_quarter -/
def qm_152 : qs_E := (RX8, yX8_quarter, cX8_quarter, 5, some .int, 1, 2, 1, qc_152, [5158, 5156, 1009, 5157])
def qc_153 : List (List (Option qs_Row)) := [[some (.iload_n 1, 1, 0, 0, 0, [], []), some (.iconst 0, 0, 0, 0, 0, [], []), some (.bipush 100, 0, 0, 0, 100, [], []), none, some (.invokestatic 79, 108, 26, 0, 0, [], [4232, 0]), none, none, some (.ifCond .eq 22, 29, 0, 0, 0, [], []), none, none, some (.iload_n 2, 2, 0, 0, 0, [], []), some (.ifCond .lt 18, 29, 0, 0, 0, [], []), none, none, some (.iload_n 2, 2, 0, 0, 0, [], []), some (.iconst 2, 0, 0, 0, 2, [], [])],
  [some (.if_icmp .le 16, 32, 0, 0, 0, [], []), none, none, some (.aload_n 0, 0, 0, 0, 0, [], []), some (.iload_n 2, 2, 0, 0, 0, [], []), some (.iconst 3, 0, 0, 0, 3, [], []), some (.isub, 0, 0, 0, 0, [], []), some (.invokevirtual 118, 111, 10, 8, 0, [], [5012, 0]), none, none, some (.ifCond .ne 6, 32, 0, 0, 0, [], []), none, none, some (.ldc 91, 0, 0, 0, (-1000000001), [], [4238]), none, some (.ireturn, 0, 0, 0, 0, [], [])],
  [some (.aload_n 0, 0, 0, 0, 0, [], []), some (.invokevirtual 183, 148, 0, 8, 0, [], [5159, 0]), none, none, some (.aload_n 0, 0, 0, 0, 0, [], []), some (.iload_n 1, 1, 0, 0, 0, [], []), some (.invokevirtual 163, 140, 8, 8, 0, [], [5119, 0]), none, none, some (.iload_n 2, 2, 0, 0, 0, [], []), some (.ifCond .ne 13, 55, 0, 0, 0, [], []), none, none, some (.aload_n 0, 0, 0, 0, 0, [], []), some (.getfield 9, 8, 0, 1, 0, [], [4116]), none],
  [none, some (.bipush 6, 0, 0, 0, 6, [], []), none, some (.iaload, 20, 0, 0, 0, [], []), some (.goto 40, 92, 0, 0, 0, [], []), none, none, some (.iload_n 2, 2, 0, 0, 0, [], []), some (.iconst 1, 0, 0, 0, 1, [], []), some (.if_icmp .ne 13, 70, 0, 0, 0, [], []), none, none, some (.aload_n 0, 0, 0, 0, 0, [], []), some (.getfield 9, 8, 0, 1, 0, [], [4116]), none, none],
  [some (.bipush 8, 0, 0, 0, 8, [], []), none, some (.iaload, 20, 0, 0, 0, [], []), some (.goto 25, 92, 0, 0, 0, [], []), none, none, some (.iload_n 2, 2, 0, 0, 0, [], []), some (.iconst 2, 0, 0, 0, 2, [], []), some (.if_icmp .ne 13, 85, 0, 0, 0, [], []), none, none, some (.aload_n 0, 0, 0, 0, 0, [], []), some (.getfield 9, 8, 0, 1, 0, [], [4116]), none, none, some (.bipush 7, 0, 0, 0, 7, [], [])],
  [none, some (.iaload, 20, 0, 0, 0, [], []), some (.goto 10, 92, 0, 0, 0, [], []), none, none, some (.aload_n 0, 0, 0, 0, 0, [], []), some (.iload_n 2, 2, 0, 0, 0, [], []), some (.iconst 3, 0, 0, 0, 3, [], []), some (.isub, 0, 0, 0, 0, [], []), some (.invokevirtual 125, 120, 9, 8, 0, [], [5027, 0]), none, none, some (.istore_n 3, 3, 0, 0, 0, [], []), some (.aload_n 0, 0, 0, 0, 0, [], []), some (.invokevirtual 189, 149, 0, 8, 0, [], [5168, 0]), none],
  [none, some (.iload_n 3, 3, 0, 0, 0, [], []), some (.ireturn, 0, 0, 0, 0, [], []), none, none, none, none, none, none, none, none, none, none, none, none, none]]
/-- X8_behind -/
def qm_153 : qs_E := (RX8, yX8_behind, cX8_behind, 4, some .int, 1, 2, 1, qc_153, [5179, 5177, 1009, 5178])
def qc_154 : List (List (Option qs_Row)) := [[some (.aload_n 0, 0, 0, 0, 0, [], []), some (.invokevirtual 183, 148, 0, 8, 0, [], [5159, 0]), none, none, some (.iconst 0, 0, 0, 0, 0, [], []), some (.istore_n 1, 1, 0, 0, 0, [], []), some (.iload_n 1, 1, 0, 0, 0, [], []), some (.sipush 200, 0, 0, 0, 200, [], []), none, none, some (.if_icmp .gt 29, 39, 0, 0, 0, [], []), none, none, some (.aload_n 0, 0, 0, 0, 0, [], []), some (.getfield 9, 8, 0, 1, 0, [], [4116]), none],
  [none, some (.bipush 7, 0, 0, 0, 7, [], []), none, some (.iaload, 20, 0, 0, 0, [], []), some (.aload_n 0, 0, 0, 0, 0, [], []), some (.getfield 9, 8, 0, 1, 0, [], [4116]), none, none, some (.iconst 5, 0, 0, 0, 5, [], []), some (.iaload, 20, 0, 0, 0, [], []), some (.if_icmp .ge 13, 39, 0, 0, 0, [], []), none, none, some (.aload_n 0, 0, 0, 0, 0, [], []), some (.invokevirtual 160, 139, 0, 8, 0, [], [5123, 0]), none],
  [none, some (.iinc 1 1, 1, 0, 0, 1, [], []), none, none, some (.goto (-30), 6, 0, 0, 0, [], []), none, none, some (.aload_n 0, 0, 0, 0, 0, [], []), some (.invokevirtual 189, 149, 0, 8, 0, [], [5168, 0]), none, none, some (.iload_n 1, 1, 0, 0, 0, [], []), some (.sipush 200, 0, 0, 0, 200, [], []), none, none, some (.if_icmp .le 8, 55, 0, 0, 0, [], [])],
  [none, none, some (.ldc 175, 0, 0, 0, (-1000000005), [], [5167]), none, some (.goto 4, 56, 0, 0, 0, [], []), none, none, some (.iload_n 1, 1, 0, 0, 0, [], []), some (.ireturn, 0, 0, 0, 0, [], []), none, none, none, none, none, none, none]]
/-- X8_full -/
def qm_154 : qs_E := (RX8, yX8_full, cX8_full, 2, some .int, 1, 0, 1, qc_154, [5183, 5181, 1009, 5182])
def qc_155 : List (List (Option qs_Row)) := [[some (.aload_n 0, 0, 0, 0, 0, [], []), some (.iload_n 1, 1, 0, 0, 0, [], []), some (.invokevirtual 118, 111, 10, 8, 0, [], [5012, 0]), none, none, some (.ifCond .ne 6, 11, 0, 0, 0, [], []), none, none, some (.ldc 91, 0, 0, 0, (-1000000001), [], [4238]), none, some (.ireturn, 0, 0, 0, 0, [], []), some (.aload_n 0, 0, 0, 0, 0, [], []), some (.invokevirtual 183, 148, 0, 8, 0, [], [5159, 0]), none, none, some (.iconst 0, 0, 0, 0, 0, [], [])],
  [some (.istore_n 2, 2, 0, 0, 0, [], []), some (.iload_n 2, 2, 0, 0, 0, [], []), some (.sipush 200, 0, 0, 0, 200, [], []), none, none, some (.if_icmp .gt 21, 42, 0, 0, 0, [], []), none, none, some (.aload_n 0, 0, 0, 0, 0, [], []), some (.iload_n 1, 1, 0, 0, 0, [], []), some (.invokevirtual 125, 120, 9, 8, 0, [], [5027, 0]), none, none, some (.ifCond .le 13, 42, 0, 0, 0, [], []), none, none],
  [some (.aload_n 0, 0, 0, 0, 0, [], []), some (.invokevirtual 160, 139, 0, 8, 0, [], [5123, 0]), none, none, some (.iinc 2 1, 2, 0, 0, 1, [], []), none, none, some (.goto (-22), 17, 0, 0, 0, [], []), none, none, some (.aload_n 0, 0, 0, 0, 0, [], []), some (.invokevirtual 189, 149, 0, 8, 0, [], [5168, 0]), none, none, some (.iload_n 2, 2, 0, 0, 0, [], []), some (.sipush 200, 0, 0, 0, 200, [], [])],
  [none, none, some (.if_icmp .le 8, 58, 0, 0, 0, [], []), none, none, some (.ldc 175, 0, 0, 0, (-1000000005), [], [5167]), none, some (.goto 4, 59, 0, 0, 0, [], []), none, none, some (.iload_n 2, 2, 0, 0, 0, [], []), some (.ireturn, 0, 0, 0, 0, [], []), none, none, none, none]]
/-- X8_shut -/
def qm_155 : qs_E := (RX8, yX8_shut, cX8_shut, 3, some .int, 1, 1, 1, qc_155, [5187, 5185, 1009, 5186])
def qc_156 : List (List (Option qs_Row)) := [[some (.aload_n 0, 0, 0, 0, 0, [], []), some (.iload_n 1, 1, 0, 0, 0, [], []), some (.invokevirtual 163, 140, 8, 8, 0, [], [5119, 0]), none, none, some (.aload_n 0, 0, 0, 0, 0, [], []), some (.getfield 9, 8, 0, 1, 0, [], [4116]), none, none, some (.bipush 6, 0, 0, 0, 6, [], []), none, some (.iaload, 20, 0, 0, 0, [], []), some (.istore_n 2, 2, 0, 0, 0, [], []), some (.aload_n 0, 0, 0, 0, 0, [], []), some (.invokevirtual 189, 149, 0, 8, 0, [], [5168, 0]), none],
  [none, some (.iload_n 2, 2, 0, 0, 0, [], []), some (.ireturn, 0, 0, 0, 0, [], []), none, none, none, none, none, none, none, none, none, none, none, none, none]]
/-- X8_dropsBehind -/
def qm_156 : qs_E := (RX8, yX8_dropsBehind, cX8_dropsBehind, 3, some .int, 1, 1, 1, qc_156, [5198, 5197, 1009, 41])
def qc_157 : List (List (Option qs_Row)) := [[some (.iload_n 0, 0, 0, 0, 0, [], []), some (.iconst 1, 0, 0, 0, 1, [], []), some (.bipush 60, 0, 0, 0, 60, [], []), none, some (.invokestatic 79, 108, 26, 0, 0, [], [4232, 0]), none, none, some (.ifCond .eq 16, 23, 0, 0, 0, [], []), none, none, some (.iload_n 1, 1, 0, 0, 0, [], []), some (.iconst 0, 0, 0, 0, 0, [], []), some (.iconst 1, 0, 0, 0, 1, [], []), some (.invokestatic 79, 108, 26, 0, 0, [], [4232, 0]), none, none],
  [some (.ifCond .eq 7, 23, 0, 0, 0, [], []), none, none, some (.iconst 1, 0, 0, 0, 1, [], []), some (.goto 4, 24, 0, 0, 0, [], []), none, none, some (.iconst 0, 0, 0, 0, 0, [], []), some (.ireturn, 0, 0, 0, 0, [], []), none, none, none, none, none, none, none]]
/-- X8_areAsked -/
def qm_157 : qs_E := (RX8, yX8_areAsked, cX8_areAsked, 2, some .boolean, 0, 2, 2, qc_157, [5194, 5193, 1009])
def qc_158 : List (List (Option qs_Row)) := [[some (.aload_n 0, 0, 0, 0, 0, [], []), some (.iload_n 1, 1, 0, 0, 0, [], []), some (.invokevirtual 118, 111, 10, 8, 0, [], [5012, 0]), none, none, some (.ifCond .eq 11, 16, 0, 0, 0, [], []), none, none, some (.iload_n 2, 2, 0, 0, 0, [], []), some (.iload_n 3, 3, 0, 0, 0, [], []), some (.invokestatic 195, 157, 18, 0, 0, [], [5192, 0]), none, none, some (.ifCond .ne 6, 19, 0, 0, 0, [], []), none, none],
  [some (.ldc 91, 0, 0, 0, (-1000000001), [], [4238]), none, some (.ireturn, 0, 0, 0, 0, [], []), some (.aload_n 0, 0, 0, 0, 0, [], []), some (.invokevirtual 183, 148, 0, 8, 0, [], [5159, 0]), none, none, some (.aload_n 0, 0, 0, 0, 0, [], []), some (.invokevirtual 186, 150, 0, 8, 0, [], [5163, 0]), none, none, some (.iconst 0, 0, 0, 0, 0, [], []), some (.istore 4, 4, 0, 0, 0, [], []), none, some (.iload 4, 4, 0, 0, 0, [], []), none],
  [some (.iconst 4, 0, 0, 0, 4, [], []), some (.if_icmp .ge 59, 92, 0, 0, 0, [], []), none, none, some (.iload 4, 4, 0, 0, 0, [], []), none, some (.iconst 3, 0, 0, 0, 3, [], []), some (.if_icmp .ne 26, 65, 0, 0, 0, [], []), none, none, some (.aload_n 0, 0, 0, 0, 0, [], []), some (.iload_n 1, 1, 0, 0, 0, [], []), some (.iconst 5, 0, 0, 0, 5, [], []), some (.aload_n 0, 0, 0, 0, 0, [], []), some (.iload_n 1, 1, 0, 0, 0, [], []), some (.iconst 5, 0, 0, 0, 5, [], [])],
  [some (.invokevirtual 97, 112, 17, 8, 0, [], [5016, 0]), none, none, some (.iconst 1, 0, 0, 0, 1, [], []), some (.iadd, 0, 0, 0, 0, [], []), some (.iconst 0, 0, 0, 0, 0, [], []), some (.bipush 9, 0, 0, 0, 9, [], []), none, some (.invokestatic 101, 109, 25, 0, 0, [], [5024, 0]), none, none, some (.invokevirtual 83, 113, 24, 8, 0, [], [5004, 0]), none, none, some (.goto 13, 75, 0, 0, 0, [], []), none],
  [none, some (.aload_n 0, 0, 0, 0, 0, [], []), some (.iload_n 1, 1, 0, 0, 0, [], []), some (.iconst 2, 0, 0, 0, 2, [], []), some (.iload 4, 4, 0, 0, 0, [], []), none, some (.iadd, 0, 0, 0, 0, [], []), some (.iconst 0, 0, 0, 0, 0, [], []), some (.invokevirtual 83, 113, 24, 8, 0, [], [5004, 0]), none, none, some (.aload_n 0, 0, 0, 0, 0, [], []), some (.iload 4, 4, 0, 0, 0, [], []), none, some (.aload_n 0, 0, 0, 0, 0, [], []), some (.iload_n 2, 2, 0, 0, 0, [], [])],
  [some (.invokevirtual 198, 156, 9, 8, 0, [], [5195, 0]), none, none, some (.invokevirtual 192, 151, 16, 8, 0, [], [5172, 0]), none, none, some (.iinc 4 1, 4, 0, 0, 1, [], []), none, none, some (.goto (-59), 30, 0, 0, 0, [], []), none, none, some (.iload_n 3, 3, 0, 0, 0, [], []), some (.ifCond .ne 10, 103, 0, 0, 0, [], []), none, none],
  [some (.aload_n 0, 0, 0, 0, 0, [], []), some (.getfield 176, 8, 5, 0, 0, [], [4121]), none, none, some (.goto 7, 107, 0, 0, 0, [], []), none, none, some (.aload_n 0, 0, 0, 0, 0, [], []), some (.getfield 180, 8, 6, 0, 0, [], [4122]), none, none, some (.ireturn, 0, 0, 0, 0, [], []), none, none, none, none]]
/-- X8_mend -/
def qm_158 : qs_E := (RX8, yX8_mend, cX8_mend, 5, some .int, 1, 3, 1, qc_158, [5191, 5189, 1009, 5190])
def qc_159 : List (List (Option qs_Row)) := [[some (.iload_n 1, 1, 0, 0, 0, [], []), some (.iload_n 2, 2, 0, 0, 0, [], []), some (.invokestatic 195, 157, 18, 0, 0, [], [5192, 0]), none, none, some (.ifCond .ne 6, 11, 0, 0, 0, [], []), none, none, some (.ldc 91, 0, 0, 0, (-1000000001), [], [4238]), none, some (.ireturn, 0, 0, 0, 0, [], []), some (.aload_n 0, 0, 0, 0, 0, [], []), some (.invokevirtual 183, 148, 0, 8, 0, [], [5159, 0]), none, none, some (.aload_n 0, 0, 0, 0, 0, [], [])],
  [some (.invokevirtual 186, 150, 0, 8, 0, [], [5163, 0]), none, none, some (.iconst 0, 0, 0, 0, 0, [], []), some (.istore_n 3, 3, 0, 0, 0, [], []), some (.iload_n 3, 3, 0, 0, 0, [], []), some (.aload_n 0, 0, 0, 0, 0, [], []), some (.getfield 9, 8, 0, 1, 0, [], [4116]), none, none, some (.iconst 1, 0, 0, 0, 1, [], []), some (.iaload, 20, 0, 0, 0, [], []), some (.if_icmp .ge 25, 53, 0, 0, 0, [], []), none, none, some (.aload_n 0, 0, 0, 0, 0, [], [])],
  [some (.iload_n 3, 3, 0, 0, 0, [], []), some (.iconst 1, 0, 0, 0, 1, [], []), some (.invokevirtual 145, 131, 16, 8, 0, [], [5090, 0]), none, none, some (.aload_n 0, 0, 0, 0, 0, [], []), some (.iload_n 3, 3, 0, 0, 0, [], []), some (.aload_n 0, 0, 0, 0, 0, [], []), some (.iload_n 1, 1, 0, 0, 0, [], []), some (.invokevirtual 198, 156, 9, 8, 0, [], [5195, 0]), none, none, some (.invokevirtual 192, 151, 16, 8, 0, [], [5172, 0]), none, none, some (.iinc 3 1, 3, 0, 0, 1, [], [])],
  [none, none, some (.goto (-29), 21, 0, 0, 0, [], []), none, none, some (.iload_n 2, 2, 0, 0, 0, [], []), some (.ifCond .ne 10, 64, 0, 0, 0, [], []), none, none, some (.aload_n 0, 0, 0, 0, 0, [], []), some (.getfield 176, 8, 5, 0, 0, [], [4121]), none, none, some (.goto 7, 68, 0, 0, 0, [], []), none, none],
  [some (.aload_n 0, 0, 0, 0, 0, [], []), some (.getfield 180, 8, 6, 0, 0, [], [4122]), none, none, some (.ireturn, 0, 0, 0, 0, [], []), none, none, none, none, none, none, none, none, none, none, none]]
/-- X8_first -/
def qm_159 : qs_E := (RX8, yX8_first, cX8_first, 4, some .int, 1, 2, 1, qc_159, [5202, 5200, 1009, 5201])
def qc_160 : List (List (Option qs_Row)) := [[some (.aload_n 0, 0, 0, 0, 0, [], []), some (.iload_n 1, 1, 0, 0, 0, [], []), some (.invokevirtual 118, 111, 10, 8, 0, [], [5012, 0]), none, none, some (.ifCond .eq 11, 16, 0, 0, 0, [], []), none, none, some (.iload_n 2, 2, 0, 0, 0, [], []), some (.iload_n 3, 3, 0, 0, 0, [], []), some (.invokestatic 195, 157, 18, 0, 0, [], [5192, 0]), none, none, some (.ifCond .ne 6, 19, 0, 0, 0, [], []), none, none],
  [some (.ldc 91, 0, 0, 0, (-1000000001), [], [4238]), none, some (.ireturn, 0, 0, 0, 0, [], []), some (.aload_n 0, 0, 0, 0, 0, [], []), some (.invokevirtual 183, 148, 0, 8, 0, [], [5159, 0]), none, none, some (.aload_n 0, 0, 0, 0, 0, [], []), some (.invokevirtual 186, 150, 0, 8, 0, [], [5163, 0]), none, none, some (.iconst 0, 0, 0, 0, 0, [], []), some (.istore 4, 4, 0, 0, 0, [], []), none, some (.iload 4, 4, 0, 0, 0, [], []), none],
  [some (.bipush 6, 0, 0, 0, 6, [], []), none, some (.if_icmp .ge 28, 62, 0, 0, 0, [], []), none, none, some (.aload_n 0, 0, 0, 0, 0, [], []), some (.iload_n 1, 1, 0, 0, 0, [], []), some (.iconst 0, 0, 0, 0, 0, [], []), some (.iload 4, 4, 0, 0, 0, [], []), none, some (.invokevirtual 83, 113, 24, 8, 0, [], [5004, 0]), none, none, some (.aload_n 0, 0, 0, 0, 0, [], []), some (.iload 4, 4, 0, 0, 0, [], []), none],
  [some (.aload_n 0, 0, 0, 0, 0, [], []), some (.iload_n 2, 2, 0, 0, 0, [], []), some (.invokevirtual 198, 156, 9, 8, 0, [], [5195, 0]), none, none, some (.invokevirtual 192, 151, 16, 8, 0, [], [5172, 0]), none, none, some (.iinc 4 1, 4, 0, 0, 1, [], []), none, none, some (.goto (-29), 30, 0, 0, 0, [], []), none, none, some (.iload_n 3, 3, 0, 0, 0, [], []), some (.ifCond .ne 10, 73, 0, 0, 0, [], [])],
  [none, none, some (.aload_n 0, 0, 0, 0, 0, [], []), some (.getfield 176, 8, 5, 0, 0, [], [4121]), none, none, some (.goto 7, 77, 0, 0, 0, [], []), none, none, some (.aload_n 0, 0, 0, 0, 0, [], []), some (.getfield 180, 8, 6, 0, 0, [], [4122]), none, none, some (.ireturn, 0, 0, 0, 0, [], []), none, none]]
/-- X8_becomes -/
def qm_160 : qs_E := (RX8, yX8_becomes, cX8_becomes, 5, some .int, 1, 3, 1, qc_160, [5206, 5204, 1009, 5205])
def qc_161 : List (List (Option qs_Row)) := [[some (.iload_n 1, 1, 0, 0, 0, [], []), some (.iload_n 2, 2, 0, 0, 0, [], []), some (.invokestatic 195, 157, 18, 0, 0, [], [5192, 0]), none, none, some (.ifCond .ne 6, 11, 0, 0, 0, [], []), none, none, some (.ldc 91, 0, 0, 0, (-1000000001), [], [4238]), none, some (.ireturn, 0, 0, 0, 0, [], []), some (.aload_n 0, 0, 0, 0, 0, [], []), some (.invokevirtual 183, 148, 0, 8, 0, [], [5159, 0]), none, none, some (.aload_n 0, 0, 0, 0, 0, [], [])],
  [some (.invokevirtual 186, 150, 0, 8, 0, [], [5163, 0]), none, none, some (.iconst 0, 0, 0, 0, 0, [], []), some (.istore_n 3, 3, 0, 0, 0, [], []), some (.iload_n 3, 3, 0, 0, 0, [], []), some (.aload_n 0, 0, 0, 0, 0, [], []), some (.getfield 9, 8, 0, 1, 0, [], [4116]), none, none, some (.iconst 1, 0, 0, 0, 1, [], []), some (.iaload, 20, 0, 0, 0, [], []), some (.if_icmp .ge 37, 65, 0, 0, 0, [], []), none, none, some (.aload_n 0, 0, 0, 0, 0, [], [])],
  [some (.iload_n 3, 3, 0, 0, 0, [], []), some (.iconst (-1), 0, 0, 0, (-1), [], []), some (.invokevirtual 145, 131, 16, 8, 0, [], [5090, 0]), none, none, some (.aload_n 0, 0, 0, 0, 0, [], []), some (.iload_n 1, 1, 0, 0, 0, [], []), some (.invokevirtual 163, 140, 8, 8, 0, [], [5119, 0]), none, none, some (.aload_n 0, 0, 0, 0, 0, [], []), some (.invokevirtual 172, 143, 1, 8, 0, [], [5143, 0]), none, none, some (.istore 4, 4, 0, 0, 0, [], []), none],
  [some (.aload_n 0, 0, 0, 0, 0, [], []), some (.invokevirtual 189, 149, 0, 8, 0, [], [5168, 0]), none, none, some (.aload_n 0, 0, 0, 0, 0, [], []), some (.iload_n 3, 3, 0, 0, 0, [], []), some (.iload 4, 4, 0, 0, 0, [], []), none, some (.invokevirtual 192, 151, 16, 8, 0, [], [5172, 0]), none, none, some (.iinc 3 1, 3, 0, 0, 1, [], []), none, none, some (.goto (-41), 21, 0, 0, 0, [], []), none],
  [none, some (.iload_n 2, 2, 0, 0, 0, [], []), some (.ifCond .ne 10, 76, 0, 0, 0, [], []), none, none, some (.aload_n 0, 0, 0, 0, 0, [], []), some (.getfield 176, 8, 5, 0, 0, [], [4121]), none, none, some (.goto 7, 80, 0, 0, 0, [], []), none, none, some (.aload_n 0, 0, 0, 0, 0, [], []), some (.getfield 180, 8, 6, 0, 0, [], [4122]), none, none],
  [some (.ireturn, 0, 0, 0, 0, [], []), none, none, none, none, none, none, none, none, none, none, none, none, none, none, none]]
/-- X8_loose -/
def qm_161 : qs_E := (RX8, yX8_loose, cX8_loose, 5, some .int, 1, 2, 1, qc_161, [5210, 5208, 1009, 5209])
def qc_162 : List (List (Option qs_Row)) := [[some (.iload_n 1, 1, 0, 0, 0, [], []), some (.invokestatic 201, 184, 10, 0, 0, [], [5215, 0]), none, none, some (.ifCond .eq 12, 16, 0, 0, 0, [], []), none, none, some (.iload_n 2, 2, 0, 0, 0, [], []), some (.iconst 0, 0, 0, 0, 0, [], []), some (.iconst 1, 0, 0, 0, 1, [], []), some (.invokestatic 79, 108, 26, 0, 0, [], [4232, 0]), none, none, some (.ifCond .ne 6, 19, 0, 0, 0, [], []), none, none],
  [some (.ldc 91, 0, 0, 0, (-1000000001), [], [4238]), none, some (.ireturn, 0, 0, 0, 0, [], []), some (.aload_n 0, 0, 0, 0, 0, [], []), some (.getfield 52, 8, 26, 1, 0, [], [4142]), none, none, some (.iload_n 1, 1, 0, 0, 0, [], []), some (.iaload, 20, 0, 0, 0, [], []), some (.ifCond .ge 6, 31, 0, 0, 0, [], []), none, none, some (.ldc 204, 0, 0, 0, (-1000000011), [], [5218]), none, some (.ireturn, 0, 0, 0, 0, [], []), some (.aload_n 0, 0, 0, 0, 0, [], [])],
  [some (.invokevirtual 183, 148, 0, 8, 0, [], [5159, 0]), none, none, some (.aload_n 0, 0, 0, 0, 0, [], []), some (.getfield 9, 8, 0, 1, 0, [], [4116]), none, none, some (.iconst 1, 0, 0, 0, 1, [], []), some (.iaload, 20, 0, 0, 0, [], []), some (.istore_n 3, 3, 0, 0, 0, [], []), some (.iconst 0, 0, 0, 0, 0, [], []), some (.istore 4, 4, 0, 0, 0, [], []), none, some (.iload 4, 4, 0, 0, 0, [], []), none, some (.iload_n 3, 3, 0, 0, 0, [], [])],
  [some (.if_icmp .ge 17, 65, 0, 0, 0, [], []), none, none, some (.aload_n 0, 0, 0, 0, 0, [], []), some (.getfield 22, 8, 7, 1, 0, [], [4123]), none, none, some (.iload 4, 4, 0, 0, 0, [], []), none, some (.lconst 0, 0, 0, 0, 0, [], []), some (.lastore, 0, 0, 0, 0, [], []), some (.iinc 4 1, 4, 0, 0, 1, [], []), none, none, some (.goto (-17), 45, 0, 0, 0, [], []), none],
  [none, some (.iconst 0, 0, 0, 0, 0, [], []), some (.istore 4, 4, 0, 0, 0, [], []), none, some (.iload 4, 4, 0, 0, 0, [], []), none, some (.aload_n 0, 0, 0, 0, 0, [], []), some (.getfield 55, 8, 27, 1, 0, [], [4143]), none, none, some (.iload_n 1, 1, 0, 0, 0, [], []), some (.iaload, 20, 0, 0, 0, [], []), some (.if_icmp .ge 91, 167, 0, 0, 0, [], []), none, none, some (.aload_n 0, 0, 0, 0, 0, [], [])],
  [some (.getfield 58, 8, 28, 1, 0, [], [4144]), none, none, some (.bipush 24, 0, 0, 0, 24, [], []), none, some (.iload_n 1, 1, 0, 0, 0, [], []), some (.imul, 0, 0, 0, 0, [], []), some (.iload 4, 4, 0, 0, 0, [], []), none, some (.iadd, 0, 0, 0, 0, [], []), some (.iaload, 20, 0, 0, 0, [], []), some (.istore 5, 5, 0, 0, 0, [], []), none, some (.iconst 0, 0, 0, 0, 0, [], []), some (.istore 6, 6, 0, 0, 0, [], []), none],
  [some (.iload 6, 6, 0, 0, 0, [], []), none, some (.iload_n 3, 3, 0, 0, 0, [], []), some (.if_icmp .ge 58, 157, 0, 0, 0, [], []), none, none, some (.iload 5, 5, 0, 0, 0, [], []), none, some (.i2l, 0, 0, 0, 0, [], []), some (.aload_n 0, 0, 0, 0, 0, [], []), some (.iload 6, 6, 0, 0, 0, [], []), none, some (.invokevirtual 125, 120, 9, 8, 0, [], [5027, 0]), none, none, some (.i2l, 0, 0, 0, 0, [], [])],
  [some (.lsub, 0, 0, 0, 0, [], []), some (.lstore 7, 7, 0, 0, 0, [], []), none, some (.aload_n 0, 0, 0, 0, 0, [], []), some (.getfield 22, 8, 7, 1, 0, [], [4123]), none, none, some (.iload 6, 6, 0, 0, 0, [], []), none, some (.dup2, 0, 0, 0, 0, [], []), some (.laload, 0, 0, 0, 0, [], []), some (.iload 5, 5, 0, 0, 0, [], []), none, some (.ldc 175, 0, 0, 0, (-1000000005), [], [5167]), none, some (.if_icmp .ne 7, 134, 0, 0, 0, [], [])],
  [none, none, some (.lconst 0, 0, 0, 0, 0, [], []), some (.goto 18, 149, 0, 0, 0, [], []), none, none, some (.lload 7, 7, 0, 0, 0, [], []), none, some (.lconst 0, 0, 0, 0, 0, [], []), some (.lcmp, 0, 0, 0, 0, [], []), some (.ifCond .ge 9, 147, 0, 0, 0, [], []), none, none, some (.lload 7, 7, 0, 0, 0, [], []), none, some (.lneg, 0, 0, 0, 0, [], [])],
  [some (.goto 5, 149, 0, 0, 0, [], []), none, none, some (.lload 7, 7, 0, 0, 0, [], []), none, some (.ladd, 0, 0, 0, 0, [], []), some (.lastore, 0, 0, 0, 0, [], []), some (.iinc 6 1, 6, 0, 0, 1, [], []), none, none, some (.goto (-58), 96, 0, 0, 0, [], []), none, none, some (.aload_n 0, 0, 0, 0, 0, [], []), some (.invokevirtual 160, 139, 0, 8, 0, [], [5123, 0]), none],
  [none, some (.iinc 4 1, 4, 0, 0, 1, [], []), none, none, some (.goto (-96), 68, 0, 0, 0, [], []), none, none, some (.aload_n 0, 0, 0, 0, 0, [], []), some (.invokevirtual 189, 149, 0, 8, 0, [], [5168, 0]), none, none, some (.iconst 0, 0, 0, 0, 0, [], []), some (.istore 4, 4, 0, 0, 0, [], []), none, some (.iconst 1, 0, 0, 0, 1, [], []), some (.istore 5, 5, 0, 0, 0, [], [])],
  [none, some (.iload 5, 5, 0, 0, 0, [], []), none, some (.iload_n 3, 3, 0, 0, 0, [], []), some (.if_icmp .ge 36, 216, 0, 0, 0, [], []), none, none, some (.aload_n 0, 0, 0, 0, 0, [], []), some (.getfield 22, 8, 7, 1, 0, [], [4123]), none, none, some (.iload 5, 5, 0, 0, 0, [], []), none, some (.laload, 0, 0, 0, 0, [], []), some (.aload_n 0, 0, 0, 0, 0, [], []), some (.getfield 22, 8, 7, 1, 0, [], [4123])],
  [none, none, some (.iload 4, 4, 0, 0, 0, [], []), none, some (.laload, 0, 0, 0, 0, [], []), some (.lcmp, 0, 0, 0, 0, [], []), some (.ifCond .ge 8, 206, 0, 0, 0, [], []), none, none, some (.iload 5, 5, 0, 0, 0, [], []), none, some (.goto 5, 208, 0, 0, 0, [], []), none, none, some (.iload 4, 4, 0, 0, 0, [], []), none],
  [some (.istore 4, 4, 0, 0, 0, [], []), none, some (.iinc 5 1, 5, 0, 0, 1, [], []), none, none, some (.goto (-36), 177, 0, 0, 0, [], []), none, none, some (.iload_n 3, 3, 0, 0, 0, [], []), some (.ifCond .ne 8, 225, 0, 0, 0, [], []), none, none, some (.ldc 175, 0, 0, 0, (-1000000005), [], [5167]), none, some (.goto 20, 242, 0, 0, 0, [], []), none],
  [none, some (.iload_n 2, 2, 0, 0, 0, [], []), some (.ifCond .ne 8, 234, 0, 0, 0, [], []), none, none, some (.iload 4, 4, 0, 0, 0, [], []), none, some (.goto 11, 242, 0, 0, 0, [], []), none, none, some (.aload_n 0, 0, 0, 0, 0, [], []), some (.getfield 22, 8, 7, 1, 0, [], [4123]), none, none, some (.iload 4, 4, 0, 0, 0, [], []), none],
  [some (.laload, 0, 0, 0, 0, [], []), some (.l2i, 0, 0, 0, 0, [], []), some (.ireturn, 0, 0, 0, 0, [], []), none, none, none, none, none, none, none, none, none, none, none, none, none]]
/-- X8_whose -/
def qm_162 : qs_E := (RX8, yX8_whose, cX8_whose, 9, some .int, 1, 2, 1, qc_162, [5214, 5212, 1009, 5213])
def qc_163 : List (List (Option qs_Row)) := [[some (.aload_n 0, 0, 0, 0, 0, [], []), some (.iconst 1, 0, 0, 0, 1, [], []), some (.invokevirtual 109, 180, 9, 8, 0, [], [5035, 0]), none, none, some (.istore_n 1, 1, 0, 0, 0, [], []), some (.aload_n 0, 0, 0, 0, 0, [], []), some (.getfield 49, 8, 25, 1, 0, [], [4141]), none, none, some (.iconst 0, 0, 0, 0, 0, [], []), some (.aload_n 0, 0, 0, 0, 0, [], []), some (.getfield 9, 8, 0, 1, 0, [], [4116]), none, none, some (.bipush 6, 0, 0, 0, 6, [], [])],
  [none, some (.iaload, 20, 0, 0, 0, [], []), some (.iastore, 0, 0, 0, 0, [], []), some (.aload_n 0, 0, 0, 0, 0, [], []), some (.getfield 49, 8, 25, 1, 0, [], [4141]), none, none, some (.iconst 1, 0, 0, 0, 1, [], []), some (.aload_n 0, 0, 0, 0, 0, [], []), some (.getfield 9, 8, 0, 1, 0, [], [4116]), none, none, some (.bipush 8, 0, 0, 0, 8, [], []), none, some (.iaload, 20, 0, 0, 0, [], []), some (.iastore, 0, 0, 0, 0, [], [])],
  [some (.iload_n 1, 1, 0, 0, 0, [], []), some (.ifCond .ge 13, 46, 0, 0, 0, [], []), none, none, some (.aload_n 0, 0, 0, 0, 0, [], []), some (.getfield 9, 8, 0, 1, 0, [], [4116]), none, none, some (.bipush 6, 0, 0, 0, 6, [], []), none, some (.iaload, 20, 0, 0, 0, [], []), some (.goto 8, 51, 0, 0, 0, [], []), none, none, some (.aload_n 0, 0, 0, 0, 0, [], []), some (.iload_n 1, 1, 0, 0, 0, [], [])],
  [some (.invokevirtual 112, 183, 9, 8, 0, [], [5039, 0]), none, none, some (.ireturn, 0, 0, 0, 0, [], []), none, none, none, none, none, none, none, none, none, none, none, none]]
/-- X8_fee -/
def qm_163 : qs_E := (RX8, yX8_fee, cX8_fee, 2, some .int, 1, 0, 1, qc_163, [5222, 5220, 1009, 5221])
def qc_164 : List (List (Option qs_Row)) := [[some (.aload_n 0, 0, 0, 0, 0, [], []), some (.iload_n 1, 1, 0, 0, 0, [], []), some (.invokevirtual 118, 111, 10, 8, 0, [], [5012, 0]), none, none, some (.ifCond .ne 6, 11, 0, 0, 0, [], []), none, none, some (.ldc 91, 0, 0, 0, (-1000000001), [], [4238]), none, some (.ireturn, 0, 0, 0, 0, [], []), some (.aload_n 0, 0, 0, 0, 0, [], []), some (.iconst 2, 0, 0, 0, 2, [], []), some (.invokevirtual 109, 180, 9, 8, 0, [], [5035, 0]), none, none],
  [some (.istore_n 2, 2, 0, 0, 0, [], []), some (.aload_n 0, 0, 0, 0, 0, [], []), some (.getfield 49, 8, 25, 1, 0, [], [4141]), none, none, some (.iconst 0, 0, 0, 0, 0, [], []), some (.aload_n 0, 0, 0, 0, 0, [], []), some (.iload_n 1, 1, 0, 0, 0, [], []), some (.iconst 1, 0, 0, 0, 1, [], []), some (.invokevirtual 97, 112, 17, 8, 0, [], [5016, 0]), none, none, some (.iastore, 0, 0, 0, 0, [], []), some (.aload_n 0, 0, 0, 0, 0, [], []), some (.getfield 49, 8, 25, 1, 0, [], [4141]), none],
  [none, some (.iconst 1, 0, 0, 0, 1, [], []), some (.aload_n 0, 0, 0, 0, 0, [], []), some (.iload_n 1, 1, 0, 0, 0, [], []), some (.bipush 7, 0, 0, 0, 7, [], []), none, some (.invokevirtual 97, 112, 17, 8, 0, [], [5016, 0]), none, none, some (.iastore, 0, 0, 0, 0, [], []), some (.iload_n 2, 2, 0, 0, 0, [], []), some (.ifCond .ge 12, 55, 0, 0, 0, [], []), none, none, some (.aload_n 0, 0, 0, 0, 0, [], []), some (.iload_n 1, 1, 0, 0, 0, [], [])],
  [some (.iconst 1, 0, 0, 0, 1, [], []), some (.invokevirtual 97, 112, 17, 8, 0, [], [5016, 0]), none, none, some (.goto 8, 60, 0, 0, 0, [], []), none, none, some (.aload_n 0, 0, 0, 0, 0, [], []), some (.iload_n 2, 2, 0, 0, 0, [], []), some (.invokevirtual 112, 183, 9, 8, 0, [], [5039, 0]), none, none, some (.ireturn, 0, 0, 0, 0, [], []), none, none, none]]
/-- X8_fine -/
def qm_164 : qs_E := (RX8, yX8_fine, cX8_fine, 3, some .int, 1, 1, 1, qc_164, [5226, 5224, 1009, 5225])
def qc_165 : List (List (Option qs_Row)) := [[some (.aload_n 0, 0, 0, 0, 0, [], []), some (.getfield 205, 8, 9, 0, 0, [], [4125]), none, none, some (.bipush 12, 0, 0, 0, 12, [], []), none, some (.iadd, 0, 0, 0, 0, [], []), some (.bipush 96, 0, 0, 0, 96, [], []), none, some (.if_icmp .le 6, 15, 0, 0, 0, [], []), none, none, some (.ldc 92, 0, 0, 0, (-1000000003), [], [4239]), none, some (.ireturn, 0, 0, 0, 0, [], []), some (.iconst 0, 0, 0, 0, 0, [], [])],
  [some (.istore 4, 4, 0, 0, 0, [], []), none, some (.iload 4, 4, 0, 0, 0, [], []), none, some (.bipush 12, 0, 0, 0, 12, [], []), none, some (.if_icmp .ge 62, 84, 0, 0, 0, [], []), none, none, some (.iload 4, 4, 0, 0, 0, [], []), none, some (.iconst 4, 0, 0, 0, 4, [], []), some (.if_icmp .ge 7, 35, 0, 0, 0, [], []), none, none, some (.iload_n 1, 1, 0, 0, 0, [], [])],
  [some (.goto 15, 47, 0, 0, 0, [], []), none, none, some (.iload 4, 4, 0, 0, 0, [], []), none, some (.bipush 8, 0, 0, 0, 8, [], []), none, some (.if_icmp .ge 7, 46, 0, 0, 0, [], []), none, none, some (.iload_n 2, 2, 0, 0, 0, [], []), some (.goto 4, 47, 0, 0, 0, [], []), none, none, some (.iload_n 3, 3, 0, 0, 0, [], []), some (.istore 5, 5, 0, 0, 0, [], [])],
  [none, some (.aload_n 0, 0, 0, 0, 0, [], []), some (.getfield 26, 8, 8, 1, 0, [], [4124]), none, none, some (.aload_n 0, 0, 0, 0, 0, [], []), some (.getfield 205, 8, 9, 0, 0, [], [4125]), none, none, some (.iload 4, 4, 0, 0, 0, [], []), none, some (.iadd, 0, 0, 0, 0, [], []), some (.iload 5, 5, 0, 0, 0, [], []), none, some (.bipush 24, 0, 0, 0, 24, [], []), none],
  [some (.bipush 8, 0, 0, 0, 8, [], []), none, some (.iload 4, 4, 0, 0, 0, [], []), none, some (.iconst 4, 0, 0, 0, 4, [], []), some (.irem, 0, 0, 0, 0, [], []), some (.imul, 0, 0, 0, 0, [], []), some (.isub, 0, 0, 0, 0, [], []), some (.ishr, 0, 0, 0, 0, [], []), some (.sipush 255, 0, 0, 0, 255, [], []), none, none, some (.iand, 0, 0, 0, 0, [], []), some (.iastore, 0, 0, 0, 0, [], []), some (.iinc 4 1, 4, 0, 0, 1, [], []), none],
  [none, some (.goto (-63), 18, 0, 0, 0, [], []), none, none, some (.aload_n 0, 0, 0, 0, 0, [], []), some (.dup, 0, 0, 0, 0, [], []), some (.getfield 205, 8, 9, 0, 0, [], [4125]), none, none, some (.bipush 12, 0, 0, 0, 12, [], []), none, some (.iadd, 0, 0, 0, 0, [], []), some (.putfield 205, 8, 9, 0, 0, [], [4125]), none, none, some (.aload_n 0, 0, 0, 0, 0, [], [])],
  [some (.getfield 205, 8, 9, 0, 0, [], [4125]), none, none, some (.ireturn, 0, 0, 0, 0, [], []), none, none, none, none, none, none, none, none, none, none, none, none]]
/-- X8_feed -/
def qm_165 : qs_E := (RX8, yX8_feed, cX8_feed, 6, some .int, 1, 3, 1, qc_165, [5230, 5228, 1009, 5229])
def qc_166 : List (List (Option qs_Row)) := [[some (.iload_n 1, 1, 0, 0, 0, [], []), some (.iconst 0, 0, 0, 0, 0, [], []), some (.aload_n 0, 0, 0, 0, 0, [], []), some (.getfield 205, 8, 9, 0, 0, [], [4125]), none, none, some (.invokestatic 79, 108, 26, 0, 0, [], [4232, 0]), none, none, some (.ifCond .ne 6, 15, 0, 0, 0, [], []), none, none, some (.ldc 91, 0, 0, 0, (-1000000001), [], [4238]), none, some (.ireturn, 0, 0, 0, 0, [], []), some (.aload_n 0, 0, 0, 0, 0, [], [])],
  [some (.iload_n 1, 1, 0, 0, 0, [], []), some (.putfield 205, 8, 9, 0, 0, [], [4125]), none, none, some (.iload_n 1, 1, 0, 0, 0, [], []), some (.ireturn, 0, 0, 0, 0, [], []), none, none, none, none, none, none, none, none, none, none]]
/-- X8_trim -/
def qm_166 : qs_E := (RX8, yX8_trim, cX8_trim, 2, some .int, 1, 1, 1, qc_166, [5234, 5232, 1009, 5233])
def qc_167 : List (List (Option qs_Row)) := [[some (.iload_n 1, 1, 0, 0, 0, [], []), some (.aload_n 0, 0, 0, 0, 0, [], []), some (.getfield 205, 8, 9, 0, 0, [], [4125]), none, none, some (.if_icmp .ge 29, 34, 0, 0, 0, [], []), none, none, some (.aload_n 0, 0, 0, 0, 0, [], []), some (.getfield 26, 8, 8, 1, 0, [], [4124]), none, none, some (.iload_n 1, 1, 0, 0, 0, [], []), some (.iaload, 20, 0, 0, 0, [], []), some (.bipush 97, 0, 0, 0, 97, [], []), none],
  [some (.if_icmp .lt 18, 34, 0, 0, 0, [], []), none, none, some (.aload_n 0, 0, 0, 0, 0, [], []), some (.getfield 26, 8, 8, 1, 0, [], [4124]), none, none, some (.iload_n 1, 1, 0, 0, 0, [], []), some (.iaload, 20, 0, 0, 0, [], []), some (.bipush 122, 0, 0, 0, 122, [], []), none, some (.if_icmp .gt 7, 34, 0, 0, 0, [], []), none, none, some (.iconst 1, 0, 0, 0, 1, [], []), some (.goto 4, 35, 0, 0, 0, [], [])],
  [none, none, some (.iconst 0, 0, 0, 0, 0, [], []), some (.ireturn, 0, 0, 0, 0, [], []), none, none, none, none, none, none, none, none, none, none, none, none]]
/-- X8_isLetter -/
def qm_167 : qs_E := (RX8, yX8_isLetter, cX8_isLetter, 2, some .boolean, 1, 1, 2, qc_167, [6006, 6005, 1009, 43])
def qc_168 : List (List (Option qs_Row)) := [[some (.iload_n 1, 1, 0, 0, 0, [], []), some (.aload_n 0, 0, 0, 0, 0, [], []), some (.getfield 205, 8, 9, 0, 0, [], [4125]), none, none, some (.if_icmp .ge 29, 34, 0, 0, 0, [], []), none, none, some (.aload_n 0, 0, 0, 0, 0, [], []), some (.getfield 26, 8, 8, 1, 0, [], [4124]), none, none, some (.iload_n 1, 1, 0, 0, 0, [], []), some (.iaload, 20, 0, 0, 0, [], []), some (.bipush 48, 0, 0, 0, 48, [], []), none],
  [some (.if_icmp .lt 18, 34, 0, 0, 0, [], []), none, none, some (.aload_n 0, 0, 0, 0, 0, [], []), some (.getfield 26, 8, 8, 1, 0, [], [4124]), none, none, some (.iload_n 1, 1, 0, 0, 0, [], []), some (.iaload, 20, 0, 0, 0, [], []), some (.bipush 57, 0, 0, 0, 57, [], []), none, some (.if_icmp .gt 7, 34, 0, 0, 0, [], []), none, none, some (.iconst 1, 0, 0, 0, 1, [], []), some (.goto 4, 35, 0, 0, 0, [], [])],
  [none, none, some (.iconst 0, 0, 0, 0, 0, [], []), some (.ireturn, 0, 0, 0, 0, [], []), none, none, none, none, none, none, none, none, none, none, none, none]]
/-- X8_isFigure -/
def qm_168 : qs_E := (RX8, yX8_isFigure, cX8_isFigure, 2, some .boolean, 1, 1, 2, qc_168, [6010, 6009, 1009, 44])
def qc_169 : List (List (Option qs_Row)) := [[some (.aload_n 0, 0, 0, 0, 0, [], []), some (.getfield 208, 8, 10, 0, 0, [], [4126]), none, none, some (.aload_n 0, 0, 0, 0, 0, [], []), some (.getfield 205, 8, 9, 0, 0, [], [4125]), none, none, some (.if_icmp .ge 30, 38, 0, 0, 0, [], []), none, none, some (.aload_n 0, 0, 0, 0, 0, [], []), some (.getfield 26, 8, 8, 1, 0, [], [4124]), none, none, some (.aload_n 0, 0, 0, 0, 0, [], [])],
  [some (.getfield 208, 8, 10, 0, 0, [], [4126]), none, none, some (.iaload, 20, 0, 0, 0, [], []), some (.bipush 32, 0, 0, 0, 32, [], []), none, some (.if_icmp .ne 16, 38, 0, 0, 0, [], []), none, none, some (.aload_n 0, 0, 0, 0, 0, [], []), some (.dup, 0, 0, 0, 0, [], []), some (.getfield 208, 8, 10, 0, 0, [], [4126]), none, none, some (.iconst 1, 0, 0, 0, 1, [], []), some (.iadd, 0, 0, 0, 0, [], [])],
  [some (.putfield 208, 8, 10, 0, 0, [], [4126]), none, none, some (.goto (-35), 0, 0, 0, 0, [], []), none, none, some (.aload_n 0, 0, 0, 0, 0, [], []), some (.aload_n 0, 0, 0, 0, 0, [], []), some (.getfield 208, 8, 10, 0, 0, [], [4126]), none, none, some (.putfield 211, 8, 11, 0, 0, [], [4127]), none, none, some (.aload_n 0, 0, 0, 0, 0, [], []), some (.getfield 211, 8, 11, 0, 0, [], [4127])],
  [none, none, some (.aload_n 0, 0, 0, 0, 0, [], []), some (.getfield 214, 8, 14, 0, 0, [], [4130]), none, none, some (.if_icmp .ne 7, 61, 0, 0, 0, [], []), none, none, some (.iconst 1, 0, 0, 0, 1, [], []), some (.goto 4, 62, 0, 0, 0, [], []), none, none, some (.iconst 0, 0, 0, 0, 0, [], []), some (.istore_n 1, 1, 0, 0, 0, [], []), some (.aload_n 0, 0, 0, 0, 0, [], [])],
  [some (.getfield 211, 8, 11, 0, 0, [], [4127]), none, none, some (.aload_n 0, 0, 0, 0, 0, [], []), some (.getfield 205, 8, 9, 0, 0, [], [4125]), none, none, some (.if_icmp .ne 11, 82, 0, 0, 0, [], []), none, none, some (.aload_n 0, 0, 0, 0, 0, [], []), some (.iconst 0, 0, 0, 0, 0, [], []), some (.putfield 217, 8, 12, 0, 0, [], [4128]), none, none, some (.goto 224, 303, 0, 0, 0, [], [])],
  [none, none, some (.aload_n 0, 0, 0, 0, 0, [], []), some (.aload_n 0, 0, 0, 0, 0, [], []), some (.getfield 211, 8, 11, 0, 0, [], [4127]), none, none, some (.invokevirtual 220, 167, 10, 8, 0, [], [6003, 0]), none, none, some (.ifCond .eq 64, 154, 0, 0, 0, [], []), none, none, some (.aload_n 0, 0, 0, 0, 0, [], []), some (.aload_n 0, 0, 0, 0, 0, [], []), some (.getfield 208, 8, 10, 0, 0, [], [4126])],
  [none, none, some (.invokevirtual 220, 167, 10, 8, 0, [], [6003, 0]), none, none, some (.ifCond .eq 16, 117, 0, 0, 0, [], []), none, none, some (.aload_n 0, 0, 0, 0, 0, [], []), some (.dup, 0, 0, 0, 0, [], []), some (.getfield 208, 8, 10, 0, 0, [], [4126]), none, none, some (.iconst 1, 0, 0, 0, 1, [], []), some (.iadd, 0, 0, 0, 0, [], []), some (.putfield 208, 8, 10, 0, 0, [], [4126])],
  [none, none, some (.goto (-21), 93, 0, 0, 0, [], []), none, none, some (.aload_n 0, 0, 0, 0, 0, [], []), some (.iload_n 1, 1, 0, 0, 0, [], []), some (.ifCond .eq 7, 126, 0, 0, 0, [], []), none, none, some (.iconst 4, 0, 0, 0, 4, [], []), some (.goto 4, 127, 0, 0, 0, [], []), none, none, some (.iconst 1, 0, 0, 0, 1, [], []), some (.putfield 217, 8, 12, 0, 0, [], [4128])],
  [none, none, some (.aload_n 0, 0, 0, 0, 0, [], []), some (.aload_n 0, 0, 0, 0, 0, [], []), some (.getfield 26, 8, 8, 1, 0, [], [4124]), none, none, some (.aload_n 0, 0, 0, 0, 0, [], []), some (.getfield 211, 8, 11, 0, 0, [], [4127]), none, none, some (.iaload, 20, 0, 0, 0, [], []), some (.putfield 223, 8, 13, 0, 0, [], [4129]), none, none, some (.aload_n 0, 0, 0, 0, 0, [], [])],
  [some (.aload_n 0, 0, 0, 0, 0, [], []), some (.getfield 208, 8, 10, 0, 0, [], [4126]), none, none, some (.putfield 214, 8, 14, 0, 0, [], [4130]), none, none, some (.goto 152, 303, 0, 0, 0, [], []), none, none, some (.aload_n 0, 0, 0, 0, 0, [], []), some (.aload_n 0, 0, 0, 0, 0, [], []), some (.getfield 211, 8, 11, 0, 0, [], [4127]), none, none, some (.invokevirtual 226, 168, 10, 8, 0, [], [6007, 0])],
  [none, none, some (.ifCond .eq 113, 275, 0, 0, 0, [], []), none, none, some (.aload_n 0, 0, 0, 0, 0, [], []), some (.iconst 0, 0, 0, 0, 0, [], []), some (.putfield 223, 8, 13, 0, 0, [], [4129]), none, none, some (.aload_n 0, 0, 0, 0, 0, [], []), some (.aload_n 0, 0, 0, 0, 0, [], []), some (.getfield 208, 8, 10, 0, 0, [], [4126]), none, none, some (.invokevirtual 226, 168, 10, 8, 0, [], [6007, 0])],
  [none, none, some (.ifCond .eq 60, 238, 0, 0, 0, [], []), none, none, some (.aload_n 0, 0, 0, 0, 0, [], []), some (.aload_n 0, 0, 0, 0, 0, [], []), some (.getfield 208, 8, 10, 0, 0, [], [4126]), none, none, some (.aload_n 0, 0, 0, 0, 0, [], []), some (.getfield 211, 8, 11, 0, 0, [], [4127]), none, none, some (.isub, 0, 0, 0, 0, [], []), some (.iconst 4, 0, 0, 0, 4, [], [])],
  [some (.if_icmp .ge 26, 218, 0, 0, 0, [], []), none, none, some (.bipush 10, 0, 0, 0, 10, [], []), none, some (.aload_n 0, 0, 0, 0, 0, [], []), some (.getfield 223, 8, 13, 0, 0, [], [4129]), none, none, some (.imul, 0, 0, 0, 0, [], []), some (.aload_n 0, 0, 0, 0, 0, [], []), some (.getfield 26, 8, 8, 1, 0, [], [4124]), none, none, some (.aload_n 0, 0, 0, 0, 0, [], []), some (.getfield 208, 8, 10, 0, 0, [], [4126])],
  [none, none, some (.iaload, 20, 0, 0, 0, [], []), some (.iadd, 0, 0, 0, 0, [], []), some (.bipush 48, 0, 0, 0, 48, [], []), none, some (.isub, 0, 0, 0, 0, [], []), some (.goto 7, 222, 0, 0, 0, [], []), none, none, some (.aload_n 0, 0, 0, 0, 0, [], []), some (.getfield 223, 8, 13, 0, 0, [], [4129]), none, none, some (.putfield 223, 8, 13, 0, 0, [], [4129]), none],
  [none, some (.aload_n 0, 0, 0, 0, 0, [], []), some (.dup, 0, 0, 0, 0, [], []), some (.getfield 208, 8, 10, 0, 0, [], [4126]), none, none, some (.iconst 1, 0, 0, 0, 1, [], []), some (.iadd, 0, 0, 0, 0, [], []), some (.putfield 208, 8, 10, 0, 0, [], [4126]), none, none, some (.goto (-65), 170, 0, 0, 0, [], []), none, none, some (.aload_n 0, 0, 0, 0, 0, [], []), some (.iload_n 1, 1, 0, 0, 0, [], [])],
  [some (.ifCond .ne 16, 256, 0, 0, 0, [], []), none, none, some (.aload_n 0, 0, 0, 0, 0, [], []), some (.getfield 208, 8, 10, 0, 0, [], [4126]), none, none, some (.aload_n 0, 0, 0, 0, 0, [], []), some (.getfield 211, 8, 11, 0, 0, [], [4127]), none, none, some (.isub, 0, 0, 0, 0, [], []), some (.iconst 4, 0, 0, 0, 4, [], []), some (.if_icmp .le 7, 260, 0, 0, 0, [], []), none, none],
  [some (.iconst 4, 0, 0, 0, 4, [], []), some (.goto 4, 261, 0, 0, 0, [], []), none, none, some (.iconst 2, 0, 0, 0, 2, [], []), some (.putfield 217, 8, 12, 0, 0, [], [4128]), none, none, some (.aload_n 0, 0, 0, 0, 0, [], []), some (.aload_n 0, 0, 0, 0, 0, [], []), some (.getfield 208, 8, 10, 0, 0, [], [4126]), none, none, some (.putfield 214, 8, 14, 0, 0, [], [4130]), none, none],
  [some (.goto 31, 303, 0, 0, 0, [], []), none, none, some (.aload_n 0, 0, 0, 0, 0, [], []), some (.iconst 3, 0, 0, 0, 3, [], []), some (.putfield 217, 8, 12, 0, 0, [], [4128]), none, none, some (.aload_n 0, 0, 0, 0, 0, [], []), some (.aload_n 0, 0, 0, 0, 0, [], []), some (.getfield 26, 8, 8, 1, 0, [], [4124]), none, none, some (.aload_n 0, 0, 0, 0, 0, [], []), some (.getfield 211, 8, 11, 0, 0, [], [4127]), none],
  [none, some (.iaload, 20, 0, 0, 0, [], []), some (.putfield 223, 8, 13, 0, 0, [], [4129]), none, none, some (.aload_n 0, 0, 0, 0, 0, [], []), some (.dup, 0, 0, 0, 0, [], []), some (.getfield 208, 8, 10, 0, 0, [], [4126]), none, none, some (.iconst 1, 0, 0, 0, 1, [], []), some (.iadd, 0, 0, 0, 0, [], []), some (.putfield 208, 8, 10, 0, 0, [], [4126]), none, none, some (.return_, 0, 0, 0, 0, [], [])]]
/-- X8_go -/
def qm_169 : qs_E := (RX8, yX8_go, cX8_go, 2, none, 1, 0, 0, qc_169, [6002, 6001, 1009, 42])
def qc_170 : List (List (Option qs_Row)) := [[some (.aload_n 0, 0, 0, 0, 0, [], []), some (.getfield 217, 8, 12, 0, 0, [], [4128]), none, none, some (.iconst 1, 0, 0, 0, 1, [], []), some (.if_icmp .eq 5, 10, 0, 0, 0, [], []), none, none, some (.iconst 0, 0, 0, 0, 0, [], []), some (.ireturn, 0, 0, 0, 0, [], []), some (.iconst 0, 0, 0, 0, 0, [], []), some (.istore_n 1, 1, 0, 0, 0, [], []), some (.iload_n 1, 1, 0, 0, 0, [], []), some (.iconst 3, 0, 0, 0, 3, [], []), some (.if_icmp .ge 113, 127, 0, 0, 0, [], []), none],
  [none, some (.aload_n 0, 0, 0, 0, 0, [], []), some (.getfield 33, 8, 17, 1, 0, [], [4133]), none, none, some (.iload_n 1, 1, 0, 0, 0, [], []), some (.iconst 1, 0, 0, 0, 1, [], []), some (.iadd, 0, 0, 0, 0, [], []), some (.iaload, 20, 0, 0, 0, [], []), some (.aload_n 0, 0, 0, 0, 0, [], []), some (.getfield 33, 8, 17, 1, 0, [], [4133]), none, none, some (.iload_n 1, 1, 0, 0, 0, [], []), some (.iaload, 20, 0, 0, 0, [], []), some (.isub, 0, 0, 0, 0, [], [])],
  [some (.istore_n 2, 2, 0, 0, 0, [], []), some (.iload_n 2, 2, 0, 0, 0, [], []), some (.aload_n 0, 0, 0, 0, 0, [], []), some (.getfield 208, 8, 10, 0, 0, [], [4126]), none, none, some (.aload_n 0, 0, 0, 0, 0, [], []), some (.getfield 211, 8, 11, 0, 0, [], [4127]), none, none, some (.isub, 0, 0, 0, 0, [], []), some (.if_icmp .ne 7, 50, 0, 0, 0, [], []), none, none, some (.iconst 1, 0, 0, 0, 1, [], []), some (.goto 4, 51, 0, 0, 0, [], [])],
  [none, none, some (.iconst 0, 0, 0, 0, 0, [], []), some (.istore_n 3, 3, 0, 0, 0, [], []), some (.iconst 0, 0, 0, 0, 0, [], []), some (.istore 4, 4, 0, 0, 0, [], []), none, some (.iload 4, 4, 0, 0, 0, [], []), none, some (.iload_n 2, 2, 0, 0, 0, [], []), some (.if_icmp .ge 48, 106, 0, 0, 0, [], []), none, none, some (.iload_n 3, 3, 0, 0, 0, [], []), some (.ifCond .eq 44, 106, 0, 0, 0, [], []), none],
  [none, some (.aload_n 0, 0, 0, 0, 0, [], []), some (.getfield 26, 8, 8, 1, 0, [], [4124]), none, none, some (.aload_n 0, 0, 0, 0, 0, [], []), some (.getfield 211, 8, 11, 0, 0, [], [4127]), none, none, some (.iload 4, 4, 0, 0, 0, [], []), none, some (.iadd, 0, 0, 0, 0, [], []), some (.iaload, 20, 0, 0, 0, [], []), some (.aload_n 0, 0, 0, 0, 0, [], []), some (.getfield 29, 8, 16, 1, 0, [], [4132]), none],
  [none, some (.aload_n 0, 0, 0, 0, 0, [], []), some (.getfield 33, 8, 17, 1, 0, [], [4133]), none, none, some (.iload_n 1, 1, 0, 0, 0, [], []), some (.iaload, 20, 0, 0, 0, [], []), some (.iload 4, 4, 0, 0, 0, [], []), none, some (.iadd, 0, 0, 0, 0, [], []), some (.caload, 0, 0, 0, 0, [], []), some (.if_icmp .ne 7, 98, 0, 0, 0, [], []), none, none, some (.iconst 1, 0, 0, 0, 1, [], []), some (.goto 4, 99, 0, 0, 0, [], [])],
  [none, none, some (.iconst 0, 0, 0, 0, 0, [], []), some (.istore_n 3, 3, 0, 0, 0, [], []), some (.iinc 4 1, 4, 0, 0, 1, [], []), none, none, some (.goto (-48), 55, 0, 0, 0, [], []), none, none, some (.iload_n 3, 3, 0, 0, 0, [], []), some (.ifCond .eq 14, 121, 0, 0, 0, [], []), none, none, some (.aload_n 0, 0, 0, 0, 0, [], []), some (.iload_n 1, 1, 0, 0, 0, [], [])],
  [some (.putfield 229, 8, 15, 0, 0, [], [4131]), none, none, some (.aload_n 0, 0, 0, 0, 0, [], []), some (.invokevirtual 232, 169, 0, 8, 0, [], [5239, 0]), none, none, some (.iconst 1, 0, 0, 0, 1, [], []), some (.ireturn, 0, 0, 0, 0, [], []), some (.iinc 1 1, 1, 0, 0, 1, [], []), none, none, some (.goto (-112), 12, 0, 0, 0, [], []), none, none, some (.iconst 0, 0, 0, 0, 0, [], [])],
  [some (.ireturn, 0, 0, 0, 0, [], []), none, none, none, none, none, none, none, none, none, none, none, none, none, none, none]]
/-- X8_takesKey -/
def qm_170 : qs_E := (RX8, yX8_takesKey, cX8_takesKey, 5, some .boolean, 1, 0, 2, qc_170, [6014, 6013, 1009, 45])
def qc_171 : List (List (Option qs_Row)) := [[some (.aload_n 0, 0, 0, 0, 0, [], []), some (.getfield 229, 8, 15, 0, 0, [], [4131]), none, none, some (.lookupswitch 82 #[(0, 28), (1, 60)], 86, 28, 0, 0, [(0, 32), (1, 64)], []), none, none, none, none, none, none, none, none, none, none, none],
  [none, none, none, none, none, none, none, none, none, none, none, none, none, none, none, none],
  [some (.iload_n 1, 1, 0, 0, 0, [], []), some (.bipush 103, 0, 0, 0, 103, [], []), none, some (.if_icmp .ne 7, 42, 0, 0, 0, [], []), none, none, some (.iconst 0, 0, 0, 0, 0, [], []), some (.goto 24, 63, 0, 0, 0, [], []), none, none, some (.iload_n 1, 1, 0, 0, 0, [], []), some (.bipush 114, 0, 0, 0, 114, [], []), none, some (.if_icmp .ne 7, 52, 0, 0, 0, [], []), none, none],
  [some (.iconst 1, 0, 0, 0, 1, [], []), some (.goto 14, 63, 0, 0, 0, [], []), none, none, some (.iload_n 1, 1, 0, 0, 0, [], []), some (.bipush 97, 0, 0, 0, 97, [], []), none, some (.if_icmp .ne 7, 62, 0, 0, 0, [], []), none, none, some (.iconst 2, 0, 0, 0, 2, [], []), some (.goto 4, 63, 0, 0, 0, [], []), none, none, some (.iconst (-1), 0, 0, 0, (-1), [], []), some (.ireturn, 0, 0, 0, 0, [], [])],
  [some (.iload_n 1, 1, 0, 0, 0, [], []), some (.bipush 100, 0, 0, 0, 100, [], []), none, some (.if_icmp .ne 7, 74, 0, 0, 0, [], []), none, none, some (.iconst 0, 0, 0, 0, 0, [], []), some (.goto 14, 85, 0, 0, 0, [], []), none, none, some (.iload_n 1, 1, 0, 0, 0, [], []), some (.bipush 102, 0, 0, 0, 102, [], []), none, some (.if_icmp .ne 7, 84, 0, 0, 0, [], []), none, none],
  [some (.iconst 1, 0, 0, 0, 1, [], []), some (.goto 4, 85, 0, 0, 0, [], []), none, none, some (.iconst (-1), 0, 0, 0, (-1), [], []), some (.ireturn, 0, 0, 0, 0, [], []), some (.iload_n 1, 1, 0, 0, 0, [], []), some (.bipush 116, 0, 0, 0, 116, [], []), none, some (.if_icmp .ne 7, 96, 0, 0, 0, [], []), none, none, some (.iconst 0, 0, 0, 0, 0, [], []), some (.goto 14, 107, 0, 0, 0, [], []), none, none],
  [some (.iload_n 1, 1, 0, 0, 0, [], []), some (.bipush 115, 0, 0, 0, 115, [], []), none, some (.if_icmp .ne 7, 106, 0, 0, 0, [], []), none, none, some (.iconst 1, 0, 0, 0, 1, [], []), some (.goto 4, 107, 0, 0, 0, [], []), none, none, some (.iconst (-1), 0, 0, 0, (-1), [], []), some (.ireturn, 0, 0, 0, 0, [], []), none, none, none, none]]
/-- X8_nameOf -/
def qm_171 : qs_E := (RX8, yX8_nameOf, cX8_nameOf, 2, some .int, 1, 1, 1, qc_171, [6026, 6025, 1009, 48])
def qc_172 : List (List (Option qs_Row)) := [[some (.iload_n 0, 0, 0, 0, 0, [], []), some (.iconst (-1), 0, 0, 0, (-1), [], []), some (.if_icmp .ne 7, 9, 0, 0, 0, [], []), none, none, some (.iconst 1, 0, 0, 0, 1, [], []), some (.goto 45, 51, 0, 0, 0, [], []), none, none, some (.iload_n 0, 0, 0, 0, 0, [], []), some (.bipush (-2), 0, 0, 0, (-2), [], []), none, some (.if_icmp .ne 7, 19, 0, 0, 0, [], []), none, none, some (.iconst 2, 0, 0, 0, 2, [], [])],
  [some (.goto 35, 51, 0, 0, 0, [], []), none, none, some (.iload_n 0, 0, 0, 0, 0, [], []), some (.bipush (-5), 0, 0, 0, (-5), [], []), none, some (.if_icmp .lt 7, 29, 0, 0, 0, [], []), none, none, some (.iconst 3, 0, 0, 0, 3, [], []), some (.goto 25, 51, 0, 0, 0, [], []), none, none, some (.iload_n 0, 0, 0, 0, 0, [], []), some (.bipush (-7), 0, 0, 0, (-7), [], []), none],
  [some (.if_icmp .lt 7, 39, 0, 0, 0, [], []), none, none, some (.iconst 4, 0, 0, 0, 4, [], []), some (.goto 15, 51, 0, 0, 0, [], []), none, none, some (.iload_n 0, 0, 0, 0, 0, [], []), some (.bipush (-9), 0, 0, 0, (-9), [], []), none, some (.if_icmp .lt 7, 49, 0, 0, 0, [], []), none, none, some (.iconst 5, 0, 0, 0, 5, [], []), some (.goto 5, 51, 0, 0, 0, [], []), none],
  [none, some (.bipush 6, 0, 0, 0, 6, [], []), none, some (.ireturn, 0, 0, 0, 0, [], []), none, none, none, none, none, none, none, none, none, none, none, none]]
/-- X8_rank -/
def qm_172 : qs_E := (RX8, yX8_rank, cX8_rank, 1, some .int, 0, 1, 1, qc_172, [6033, 6032, 1009])
def qc_173 : List (List (Option qs_Row)) := [[some (.aload_n 0, 0, 0, 0, 0, [], []), some (.getfield 235, 8, 22, 0, 0, [], [4138]), none, none, some (.ifCond .le 78, 82, 0, 0, 0, [], []), none, none, some (.aload_n 0, 0, 0, 0, 0, [], []), some (.getfield 39, 8, 21, 1, 0, [], [4137]), none, none, some (.aload_n 0, 0, 0, 0, 0, [], []), some (.getfield 235, 8, 22, 0, 0, [], [4138]), none, none, some (.iconst 1, 0, 0, 0, 1, [], [])],
  [some (.isub, 0, 0, 0, 0, [], []), some (.iaload, 20, 0, 0, 0, [], []), some (.bipush (-11), 0, 0, 0, (-11), [], []), none, some (.if_icmp .eq 62, 82, 0, 0, 0, [], []), none, none, some (.aload_n 0, 0, 0, 0, 0, [], []), some (.getfield 39, 8, 21, 1, 0, [], [4137]), none, none, some (.aload_n 0, 0, 0, 0, 0, [], []), some (.getfield 235, 8, 22, 0, 0, [], [4138]), none, none, some (.iconst 1, 0, 0, 0, 1, [], [])],
  [some (.isub, 0, 0, 0, 0, [], []), some (.iaload, 20, 0, 0, 0, [], []), some (.invokestatic 238, 172, 9, 0, 0, [], [6031, 0]), none, none, some (.iload_n 1, 1, 0, 0, 0, [], []), some (.if_icmp .lt 44, 82, 0, 0, 0, [], []), none, none, some (.aload_n 0, 0, 0, 0, 0, [], []), some (.dup, 0, 0, 0, 0, [], []), some (.getfield 235, 8, 22, 0, 0, [], [4138]), none, none, some (.iconst 1, 0, 0, 0, 1, [], []), some (.isub, 0, 0, 0, 0, [], [])],
  [some (.putfield 235, 8, 22, 0, 0, [], [4138]), none, none, some (.aload_n 0, 0, 0, 0, 0, [], []), some (.getfield 36, 8, 18, 1, 0, [], [4134]), none, none, some (.aload_n 0, 0, 0, 0, 0, [], []), some (.getfield 241, 8, 19, 0, 0, [], [4135]), none, none, some (.aload_n 0, 0, 0, 0, 0, [], []), some (.getfield 39, 8, 21, 1, 0, [], [4137]), none, none, some (.aload_n 0, 0, 0, 0, 0, [], [])],
  [some (.getfield 235, 8, 22, 0, 0, [], [4138]), none, none, some (.iaload, 20, 0, 0, 0, [], []), some (.iastore, 0, 0, 0, 0, [], []), some (.aload_n 0, 0, 0, 0, 0, [], []), some (.dup, 0, 0, 0, 0, [], []), some (.getfield 241, 8, 19, 0, 0, [], [4135]), none, none, some (.iconst 1, 0, 0, 0, 1, [], []), some (.iadd, 0, 0, 0, 0, [], []), some (.putfield 241, 8, 19, 0, 0, [], [4135]), none, none, some (.goto (-79), 0, 0, 0, 0, [], [])],
  [none, none, some (.return_, 0, 0, 0, 0, [], []), none, none, none, none, none, none, none, none, none, none, none, none, none]]
/-- X8_settle -/
def qm_173 : qs_E := (RX8, yX8_settle, cX8_settle, 2, none, 1, 1, 0, qc_173, [6030, 6029, 1009, 49])
def qc_174 : List (List (Option qs_Row)) := [[some (.aload_n 0, 0, 0, 0, 0, [], []), some (.getfield 217, 8, 12, 0, 0, [], [4128]), none, none, some (.iconst 3, 0, 0, 0, 3, [], []), some (.if_icmp .eq 5, 10, 0, 0, 0, [], []), none, none, some (.iconst 0, 0, 0, 0, 0, [], []), some (.ireturn, 0, 0, 0, 0, [], []), some (.aload_n 0, 0, 0, 0, 0, [], []), some (.getfield 223, 8, 13, 0, 0, [], [4129]), none, none, some (.lookupswitch 108 #[(38, 84), (42, 102), (43, 96), (45, 99), (47, 105), (60, 87), (61, 90), (62, 93), (124, 82)], 122, 82, 0, 0, [(38, 98), (42, 116), (43, 110), (45, 113), (47, 119), (60, 101), (61, 104), (62, 107), (124, 96)], []), none],
  [none, none, none, none, none, none, none, none, none, none, none, none, none, none, none, none],
  [none, none, none, none, none, none, none, none, none, none, none, none, none, none, none, none],
  [none, none, none, none, none, none, none, none, none, none, none, none, none, none, none, none],
  [none, none, none, none, none, none, none, none, none, none, none, none, none, none, none, none],
  [none, none, none, none, none, none, none, none, none, none, none, none, none, none, none, none],
  [some (.iconst (-1), 0, 0, 0, (-1), [], []), some (.ireturn, 0, 0, 0, 0, [], []), some (.bipush (-2), 0, 0, 0, (-2), [], []), none, some (.ireturn, 0, 0, 0, 0, [], []), some (.bipush (-3), 0, 0, 0, (-3), [], []), none, some (.ireturn, 0, 0, 0, 0, [], []), some (.bipush (-4), 0, 0, 0, (-4), [], []), none, some (.ireturn, 0, 0, 0, 0, [], []), some (.bipush (-5), 0, 0, 0, (-5), [], []), none, some (.ireturn, 0, 0, 0, 0, [], []), some (.bipush (-6), 0, 0, 0, (-6), [], []), none],
  [some (.ireturn, 0, 0, 0, 0, [], []), some (.bipush (-7), 0, 0, 0, (-7), [], []), none, some (.ireturn, 0, 0, 0, 0, [], []), some (.bipush (-8), 0, 0, 0, (-8), [], []), none, some (.ireturn, 0, 0, 0, 0, [], []), some (.bipush (-9), 0, 0, 0, (-9), [], []), none, some (.ireturn, 0, 0, 0, 0, [], []), some (.iconst 0, 0, 0, 0, 0, [], []), some (.ireturn, 0, 0, 0, 0, [], []), none, none, none, none]]
/-- X8_signHere -/
def qm_174 : qs_E := (RX8, yX8_signHere, cX8_signHere, 1, some .int, 1, 0, 1, qc_174, [6041, 6040, 1009, 51])
def qc_175 : List (List (Option qs_Row)) := [[some (.aload_n 0, 0, 0, 0, 0, [], []), some (.getfield 217, 8, 12, 0, 0, [], [4128]), none, none, some (.iconst 1, 0, 0, 0, 1, [], []), some (.if_icmp .ne 31, 36, 0, 0, 0, [], []), none, none, some (.aload_n 0, 0, 0, 0, 0, [], []), some (.getfield 208, 8, 10, 0, 0, [], [4126]), none, none, some (.aload_n 0, 0, 0, 0, 0, [], []), some (.getfield 211, 8, 11, 0, 0, [], [4127]), none, none],
  [some (.isub, 0, 0, 0, 0, [], []), some (.iconst 1, 0, 0, 0, 1, [], []), some (.if_icmp .ne 18, 36, 0, 0, 0, [], []), none, none, some (.aload_n 0, 0, 0, 0, 0, [], []), some (.aload_n 0, 0, 0, 0, 0, [], []), some (.getfield 223, 8, 13, 0, 0, [], [4129]), none, none, some (.invokevirtual 244, 171, 9, 8, 0, [], [6023, 0]), none, none, some (.ifCond .lt 7, 36, 0, 0, 0, [], []), none, none],
  [some (.iconst 1, 0, 0, 0, 1, [], []), some (.goto 4, 37, 0, 0, 0, [], []), none, none, some (.iconst 0, 0, 0, 0, 0, [], []), some (.istore_n 1, 1, 0, 0, 0, [], []), some (.aload_n 0, 0, 0, 0, 0, [], []), some (.getfield 217, 8, 12, 0, 0, [], [4128]), none, none, some (.iconst 2, 0, 0, 0, 2, [], []), some (.if_icmp .eq 9, 52, 0, 0, 0, [], []), none, none, some (.iload_n 1, 1, 0, 0, 0, [], []), some (.ifCond .ne 5, 52, 0, 0, 0, [], [])],
  [none, none, some (.iconst 0, 0, 0, 0, 0, [], []), some (.ireturn, 0, 0, 0, 0, [], []), some (.aload_n 0, 0, 0, 0, 0, [], []), some (.getfield 36, 8, 18, 1, 0, [], [4134]), none, none, some (.aload_n 0, 0, 0, 0, 0, [], []), some (.getfield 241, 8, 19, 0, 0, [], [4135]), none, none, some (.aload_n 0, 0, 0, 0, 0, [], []), some (.getfield 217, 8, 12, 0, 0, [], [4128]), none, none],
  [some (.iconst 2, 0, 0, 0, 2, [], []), some (.if_icmp .ne 10, 75, 0, 0, 0, [], []), none, none, some (.aload_n 0, 0, 0, 0, 0, [], []), some (.getfield 223, 8, 13, 0, 0, [], [4129]), none, none, some (.goto 15, 87, 0, 0, 0, [], []), none, none, some (.sipush 10000, 0, 0, 0, 10000, [], []), none, none, some (.aload_n 0, 0, 0, 0, 0, [], []), some (.aload_n 0, 0, 0, 0, 0, [], [])],
  [some (.getfield 223, 8, 13, 0, 0, [], [4129]), none, none, some (.invokevirtual 244, 171, 9, 8, 0, [], [6023, 0]), none, none, some (.iadd, 0, 0, 0, 0, [], []), some (.iastore, 0, 0, 0, 0, [], []), some (.aload_n 0, 0, 0, 0, 0, [], []), some (.dup, 0, 0, 0, 0, [], []), some (.getfield 241, 8, 19, 0, 0, [], [4135]), none, none, some (.iconst 1, 0, 0, 0, 1, [], []), some (.iadd, 0, 0, 0, 0, [], []), some (.putfield 241, 8, 19, 0, 0, [], [4135])],
  [none, none, some (.aload_n 0, 0, 0, 0, 0, [], []), some (.dup, 0, 0, 0, 0, [], []), some (.getfield 247, 8, 20, 0, 0, [], [4136]), none, none, some (.iconst 1, 0, 0, 0, 1, [], []), some (.iadd, 0, 0, 0, 0, [], []), some (.putfield 247, 8, 20, 0, 0, [], [4136]), none, none, some (.aload_n 0, 0, 0, 0, 0, [], []), some (.bipush 6, 0, 0, 0, 6, [], []), none, some (.invokevirtual 250, 173, 8, 8, 0, [], [6027, 0])],
  [none, none, some (.aload_n 0, 0, 0, 0, 0, [], []), some (.invokevirtual 232, 169, 0, 8, 0, [], [5239, 0]), none, none, some (.iconst 1, 0, 0, 0, 1, [], []), some (.ireturn, 0, 0, 0, 0, [], []), none, none, none, none, none, none, none, none]]
/-- X8_takesPart -/
def qm_175 : qs_E := (RX8, yX8_takesPart, cX8_takesPart, 2, some .boolean, 1, 0, 2, qc_175, [6022, 6021, 1009, 47])
def qc_176 : List (List (Option qs_Row)) := [[some (.iconst 0, 0, 0, 0, 0, [], []), some (.istore_n 1, 1, 0, 0, 0, [], []), some (.iconst 0, 0, 0, 0, 0, [], []), some (.istore_n 2, 2, 0, 0, 0, [], []), some (.iconst 1, 0, 0, 0, 1, [], []), some (.istore_n 3, 3, 0, 0, 0, [], []), some (.aload_n 0, 0, 0, 0, 0, [], []), some (.iconst 0, 0, 0, 0, 0, [], []), some (.putfield 241, 8, 19, 0, 0, [], [4135]), none, none, some (.aload_n 0, 0, 0, 0, 0, [], []), some (.iconst 0, 0, 0, 0, 0, [], []), some (.putfield 247, 8, 20, 0, 0, [], [4136]), none, none],
  [some (.aload_n 0, 0, 0, 0, 0, [], []), some (.iconst 0, 0, 0, 0, 0, [], []), some (.putfield 235, 8, 22, 0, 0, [], [4138]), none, none, some (.aload_n 0, 0, 0, 0, 0, [], []), some (.getfield 42, 8, 23, 1, 0, [], [4139]), none, none, some (.iconst 0, 0, 0, 0, 0, [], []), some (.iconst 0, 0, 0, 0, 0, [], []), some (.bastore, 0, 0, 0, 0, [], []), some (.iload_n 3, 3, 0, 0, 0, [], []), some (.ifCond .ne 10, 39, 0, 0, 0, [], []), none, none],
  [some (.aload_n 0, 0, 0, 0, 0, [], []), some (.getfield 217, 8, 12, 0, 0, [], [4128]), none, none, some (.ifCond .eq 309, 345, 0, 0, 0, [], []), none, none, some (.iload_n 3, 3, 0, 0, 0, [], []), some (.ifCond .eq 140, 180, 0, 0, 0, [], []), none, none, some (.aload_n 0, 0, 0, 0, 0, [], []), some (.getfield 217, 8, 12, 0, 0, [], [4128]), none, none, some (.iconst 3, 0, 0, 0, 3, [], [])],
  [some (.if_icmp .ne 49, 97, 0, 0, 0, [], []), none, none, some (.aload_n 0, 0, 0, 0, 0, [], []), some (.getfield 223, 8, 13, 0, 0, [], [4129]), none, none, some (.bipush 33, 0, 0, 0, 33, [], []), none, some (.if_icmp .ne 40, 97, 0, 0, 0, [], []), none, none, some (.iload_n 2, 2, 0, 0, 0, [], []), some (.bipush 8, 0, 0, 0, 8, [], []), none, some (.if_icmp .ge 34, 97, 0, 0, 0, [], [])],
  [none, none, some (.aload_n 0, 0, 0, 0, 0, [], []), some (.getfield 39, 8, 21, 1, 0, [], [4137]), none, none, some (.aload_n 0, 0, 0, 0, 0, [], []), some (.getfield 235, 8, 22, 0, 0, [], [4138]), none, none, some (.bipush (-10), 0, 0, 0, (-10), [], []), none, some (.iastore, 0, 0, 0, 0, [], []), some (.aload_n 0, 0, 0, 0, 0, [], []), some (.dup, 0, 0, 0, 0, [], []), some (.getfield 235, 8, 22, 0, 0, [], [4138])],
  [none, none, some (.iconst 1, 0, 0, 0, 1, [], []), some (.iadd, 0, 0, 0, 0, [], []), some (.putfield 235, 8, 22, 0, 0, [], [4138]), none, none, some (.iinc 2 1, 2, 0, 0, 1, [], []), none, none, some (.aload_n 0, 0, 0, 0, 0, [], []), some (.invokevirtual 232, 169, 0, 8, 0, [], [5239, 0]), none, none, some (.goto 78, 172, 0, 0, 0, [], []), none],
  [none, some (.aload_n 0, 0, 0, 0, 0, [], []), some (.getfield 217, 8, 12, 0, 0, [], [4128]), none, none, some (.iconst 3, 0, 0, 0, 3, [], []), some (.if_icmp .ne 56, 158, 0, 0, 0, [], []), none, none, some (.aload_n 0, 0, 0, 0, 0, [], []), some (.getfield 223, 8, 13, 0, 0, [], [4129]), none, none, some (.bipush 40, 0, 0, 0, 40, [], []), none, some (.if_icmp .ne 47, 158, 0, 0, 0, [], [])],
  [none, none, some (.iload_n 1, 1, 0, 0, 0, [], []), some (.bipush 8, 0, 0, 0, 8, [], []), none, some (.if_icmp .ge 41, 158, 0, 0, 0, [], []), none, none, some (.aload_n 0, 0, 0, 0, 0, [], []), some (.getfield 39, 8, 21, 1, 0, [], [4137]), none, none, some (.aload_n 0, 0, 0, 0, 0, [], []), some (.getfield 235, 8, 22, 0, 0, [], [4138]), none, none],
  [some (.bipush (-11), 0, 0, 0, (-11), [], []), none, some (.iastore, 0, 0, 0, 0, [], []), some (.aload_n 0, 0, 0, 0, 0, [], []), some (.dup, 0, 0, 0, 0, [], []), some (.getfield 235, 8, 22, 0, 0, [], [4138]), none, none, some (.iconst 1, 0, 0, 0, 1, [], []), some (.iadd, 0, 0, 0, 0, [], []), some (.putfield 235, 8, 22, 0, 0, [], [4138]), none, none, some (.iinc 1 1, 1, 0, 0, 1, [], []), none, none],
  [some (.aload_n 0, 0, 0, 0, 0, [], []), some (.getfield 42, 8, 23, 1, 0, [], [4139]), none, none, some (.iload_n 1, 1, 0, 0, 0, [], []), some (.iconst 0, 0, 0, 0, 0, [], []), some (.bastore, 0, 0, 0, 0, [], []), some (.aload_n 0, 0, 0, 0, 0, [], []), some (.invokevirtual 232, 169, 0, 8, 0, [], [5239, 0]), none, none, some (.goto 17, 172, 0, 0, 0, [], []), none, none, some (.aload_n 0, 0, 0, 0, 0, [], []), some (.invokevirtual 253, 175, 2, 8, 0, [], [6019, 0])],
  [none, none, some (.ifCond .eq 8, 170, 0, 0, 0, [], []), none, none, some (.iconst 0, 0, 0, 0, 0, [], []), some (.istore_n 3, 3, 0, 0, 0, [], []), some (.goto 5, 172, 0, 0, 0, [], []), none, none, some (.iconst 0, 0, 0, 0, 0, [], []), some (.ireturn, 0, 0, 0, 0, [], []), some (.aload_n 0, 0, 0, 0, 0, [], []), some (.invokevirtual 257, 177, 1, 8, 0, [], [6034, 0]), none, none],
  [some (.istore_n 2, 2, 0, 0, 0, [], []), some (.goto (-149), 28, 0, 0, 0, [], []), none, none, some (.aload_n 0, 0, 0, 0, 0, [], []), some (.getfield 217, 8, 12, 0, 0, [], [4128]), none, none, some (.iconst 3, 0, 0, 0, 3, [], []), some (.if_icmp .ne 52, 237, 0, 0, 0, [], []), none, none, some (.aload_n 0, 0, 0, 0, 0, [], []), some (.getfield 223, 8, 13, 0, 0, [], [4129]), none, none],
  [some (.bipush 41, 0, 0, 0, 41, [], []), none, some (.if_icmp .ne 43, 237, 0, 0, 0, [], []), none, none, some (.iload_n 1, 1, 0, 0, 0, [], []), some (.ifCond .le 39, 237, 0, 0, 0, [], []), none, none, some (.aload_n 0, 0, 0, 0, 0, [], []), some (.iconst 0, 0, 0, 0, 0, [], []), some (.invokevirtual 250, 173, 8, 8, 0, [], [6027, 0]), none, none, some (.aload_n 0, 0, 0, 0, 0, [], []), some (.dup, 0, 0, 0, 0, [], [])],
  [some (.getfield 235, 8, 22, 0, 0, [], [4138]), none, none, some (.iconst 1, 0, 0, 0, 1, [], []), some (.isub, 0, 0, 0, 0, [], []), some (.putfield 235, 8, 22, 0, 0, [], [4138]), none, none, some (.iinc 1 (-1), 1, 0, 0, (-1), [], []), none, none, some (.aload_n 0, 0, 0, 0, 0, [], []), some (.bipush 6, 0, 0, 0, 6, [], []), none, some (.invokevirtual 250, 173, 8, 8, 0, [], [6027, 0]), none],
  [none, some (.aload_n 0, 0, 0, 0, 0, [], []), some (.invokevirtual 257, 177, 1, 8, 0, [], [6034, 0]), none, none, some (.istore_n 2, 2, 0, 0, 0, [], []), some (.aload_n 0, 0, 0, 0, 0, [], []), some (.invokevirtual 232, 169, 0, 8, 0, [], [5239, 0]), none, none, some (.goto (-206), 28, 0, 0, 0, [], []), none, none, some (.aload_n 0, 0, 0, 0, 0, [], []), some (.invokevirtual 260, 174, 1, 8, 0, [], [6038, 0]), none],
  [none, some (.istore 4, 4, 0, 0, 0, [], []), none, some (.iload 4, 4, 0, 0, 0, [], []), none, some (.ifCond .eq 21, 266, 0, 0, 0, [], []), none, none, some (.iload 4, 4, 0, 0, 0, [], []), none, some (.invokestatic 238, 172, 9, 0, 0, [], [6031, 0]), none, none, some (.iconst 3, 0, 0, 0, 3, [], []), some (.if_icmp .ne 14, 268, 0, 0, 0, [], []), none],
  [none, some (.aload_n 0, 0, 0, 0, 0, [], []), some (.getfield 42, 8, 23, 1, 0, [], [4139]), none, none, some (.iload_n 1, 1, 0, 0, 0, [], []), some (.baload, 21, 0, 0, 0, [], []), some (.ifCond .eq 5, 268, 0, 0, 0, [], []), none, none, some (.iconst 0, 0, 0, 0, 0, [], []), some (.ireturn, 0, 0, 0, 0, [], []), some (.aload_n 0, 0, 0, 0, 0, [], []), some (.getfield 42, 8, 23, 1, 0, [], [4139]), none, none],
  [some (.iload_n 1, 1, 0, 0, 0, [], []), some (.iload 4, 4, 0, 0, 0, [], []), none, some (.invokestatic 238, 172, 9, 0, 0, [], [6031, 0]), none, none, some (.iconst 3, 0, 0, 0, 3, [], []), some (.if_icmp .eq 21, 300, 0, 0, 0, [], []), none, none, some (.iload 4, 4, 0, 0, 0, [], []), none, some (.invokestatic 238, 172, 9, 0, 0, [], [6031, 0]), none, none, some (.iconst 3, 0, 0, 0, 3, [], [])],
  [some (.if_icmp .le 16, 304, 0, 0, 0, [], []), none, none, some (.aload_n 0, 0, 0, 0, 0, [], []), some (.getfield 42, 8, 23, 1, 0, [], [4139]), none, none, some (.iload_n 1, 1, 0, 0, 0, [], []), some (.baload, 21, 0, 0, 0, [], []), some (.ifCond .eq 7, 304, 0, 0, 0, [], []), none, none, some (.iconst 1, 0, 0, 0, 1, [], []), some (.goto 4, 305, 0, 0, 0, [], []), none, none],
  [some (.iconst 0, 0, 0, 0, 0, [], []), some (.bastore, 0, 0, 0, 0, [], []), some (.aload_n 0, 0, 0, 0, 0, [], []), some (.iload 4, 4, 0, 0, 0, [], []), none, some (.invokestatic 238, 172, 9, 0, 0, [], [6031, 0]), none, none, some (.invokevirtual 250, 173, 8, 8, 0, [], [6027, 0]), none, none, some (.aload_n 0, 0, 0, 0, 0, [], []), some (.getfield 39, 8, 21, 1, 0, [], [4137]), none, none, some (.aload_n 0, 0, 0, 0, 0, [], [])],
  [some (.getfield 235, 8, 22, 0, 0, [], [4138]), none, none, some (.iload 4, 4, 0, 0, 0, [], []), none, some (.iastore, 0, 0, 0, 0, [], []), some (.aload_n 0, 0, 0, 0, 0, [], []), some (.dup, 0, 0, 0, 0, [], []), some (.getfield 235, 8, 22, 0, 0, [], [4138]), none, none, some (.iconst 1, 0, 0, 0, 1, [], []), some (.iadd, 0, 0, 0, 0, [], []), some (.putfield 235, 8, 22, 0, 0, [], [4138]), none, none],
  [some (.iconst 1, 0, 0, 0, 1, [], []), some (.istore_n 3, 3, 0, 0, 0, [], []), some (.aload_n 0, 0, 0, 0, 0, [], []), some (.invokevirtual 232, 169, 0, 8, 0, [], [5239, 0]), none, none, some (.goto (-314), 28, 0, 0, 0, [], []), none, none, some (.aload_n 0, 0, 0, 0, 0, [], []), some (.iconst 0, 0, 0, 0, 0, [], []), some (.invokevirtual 250, 173, 8, 8, 0, [], [6027, 0]), none, none, some (.iload_n 1, 1, 0, 0, 0, [], []), some (.ifCond .ne 7, 358, 0, 0, 0, [], [])],
  [none, none, some (.iconst 1, 0, 0, 0, 1, [], []), some (.goto 4, 359, 0, 0, 0, [], []), none, none, some (.iconst 0, 0, 0, 0, 0, [], []), some (.ireturn, 0, 0, 0, 0, [], []), none, none, none, none, none, none, none, none]]
/-- X8_takesE -/
def qm_176 : qs_E := (RX8, yX8_takesE, cX8_takesE, 5, some .boolean, 1, 0, 2, qc_176, [6018, 6017, 1009, 46])
def qc_177 : List (List (Option qs_Row)) := [[some (.iconst 0, 0, 0, 0, 0, [], []), some (.istore_n 1, 1, 0, 0, 0, [], []), some (.iconst 0, 0, 0, 0, 0, [], []), some (.istore_n 2, 2, 0, 0, 0, [], []), some (.iload_n 2, 2, 0, 0, 0, [], []), some (.aload_n 0, 0, 0, 0, 0, [], []), some (.getfield 235, 8, 22, 0, 0, [], [4138]), none, none, some (.if_icmp .ge 28, 37, 0, 0, 0, [], []), none, none, some (.iload_n 1, 1, 0, 0, 0, [], []), some (.aload_n 0, 0, 0, 0, 0, [], []), some (.getfield 39, 8, 21, 1, 0, [], [4137]), none],
  [none, some (.iload_n 2, 2, 0, 0, 0, [], []), some (.iaload, 20, 0, 0, 0, [], []), some (.bipush (-10), 0, 0, 0, (-10), [], []), none, some (.if_icmp .ne 7, 28, 0, 0, 0, [], []), none, none, some (.iconst 1, 0, 0, 0, 1, [], []), some (.goto 4, 29, 0, 0, 0, [], []), none, none, some (.iconst 0, 0, 0, 0, 0, [], []), some (.iadd, 0, 0, 0, 0, [], []), some (.istore_n 1, 1, 0, 0, 0, [], []), some (.iinc 2 1, 2, 0, 0, 1, [], [])],
  [none, none, some (.goto (-30), 4, 0, 0, 0, [], []), none, none, some (.iload_n 1, 1, 0, 0, 0, [], []), some (.ireturn, 0, 0, 0, 0, [], []), none, none, none, none, none, none, none, none, none]]
/-- X8_notsOpen -/
def qm_177 : qs_E := (RX8, yX8_notsOpen, cX8_notsOpen, 3, some .int, 1, 0, 1, qc_177, [6037, 6036, 1009, 50])
def qc_178 : List (List (Option qs_Row)) := [[some (.aload_n 0, 0, 0, 0, 0, [], []), some (.iconst 0, 0, 0, 0, 0, [], []), some (.putfield 208, 8, 10, 0, 0, [], [4126]), none, none, some (.aload_n 0, 0, 0, 0, 0, [], []), some (.iconst (-1), 0, 0, 0, (-1), [], []), some (.putfield 214, 8, 14, 0, 0, [], [4130]), none, none, some (.aload_n 0, 0, 0, 0, 0, [], []), some (.invokevirtual 232, 169, 0, 8, 0, [], [5239, 0]), none, none, some (.aload_n 0, 0, 0, 0, 0, [], []), some (.invokevirtual 263, 170, 2, 8, 0, [], [6011, 0])],
  [none, none, some (.ifCond .eq 14, 32, 0, 0, 0, [], []), none, none, some (.aload_n 0, 0, 0, 0, 0, [], []), some (.invokevirtual 266, 176, 2, 8, 0, [], [6015, 0]), none, none, some (.ifCond .eq 7, 32, 0, 0, 0, [], []), none, none, some (.iconst 1, 0, 0, 0, 1, [], []), some (.goto 4, 33, 0, 0, 0, [], []), none, none],
  [some (.iconst 0, 0, 0, 0, 0, [], []), some (.istore_n 1, 1, 0, 0, 0, [], []), some (.aload_n 0, 0, 0, 0, 0, [], []), some (.iconst 0, 0, 0, 0, 0, [], []), some (.putfield 205, 8, 9, 0, 0, [], [4125]), none, none, some (.iload_n 1, 1, 0, 0, 0, [], []), some (.ifCond .ne 11, 51, 0, 0, 0, [], []), none, none, some (.bipush (-100), 0, 0, 0, (-100), [], []), none, some (.aload_n 0, 0, 0, 0, 0, [], []), some (.getfield 211, 8, 11, 0, 0, [], [4127]), none],
  [none, some (.isub, 0, 0, 0, 0, [], []), some (.ireturn, 0, 0, 0, 0, [], []), some (.aload_n 0, 0, 0, 0, 0, [], []), some (.getfield 9, 8, 0, 1, 0, [], [4116]), none, none, some (.bipush 11, 0, 0, 0, 11, [], []), none, some (.iaload, 20, 0, 0, 0, [], []), some (.bipush 14, 0, 0, 0, 14, [], []), none, some (.if_icmp .ne 6, 66, 0, 0, 0, [], []), none, none, some (.ldc 92, 0, 0, 0, (-1000000003), [], [4239])],
  [none, some (.ireturn, 0, 0, 0, 0, [], []), some (.aload_n 0, 0, 0, 0, 0, [], []), some (.getfield 9, 8, 0, 1, 0, [], [4116]), none, none, some (.bipush 11, 0, 0, 0, 11, [], []), none, some (.iaload, 20, 0, 0, 0, [], []), some (.istore_n 2, 2, 0, 0, 0, [], []), some (.aload_n 0, 0, 0, 0, 0, [], []), some (.getfield 9, 8, 0, 1, 0, [], [4116]), none, none, some (.bipush 76, 0, 0, 0, 76, [], []), none],
  [some (.iconst 2, 0, 0, 0, 2, [], []), some (.iload_n 2, 2, 0, 0, 0, [], []), some (.imul, 0, 0, 0, 0, [], []), some (.iadd, 0, 0, 0, 0, [], []), some (.sipush 1000, 0, 0, 0, 1000, [], []), none, none, some (.aload_n 0, 0, 0, 0, 0, [], []), some (.getfield 229, 8, 15, 0, 0, [], [4131]), none, none, some (.imul, 0, 0, 0, 0, [], []), some (.aload_n 0, 0, 0, 0, 0, [], []), some (.getfield 241, 8, 19, 0, 0, [], [4135]), none, none],
  [some (.iadd, 0, 0, 0, 0, [], []), some (.iastore, 0, 0, 0, 0, [], []), some (.aload_n 0, 0, 0, 0, 0, [], []), some (.getfield 9, 8, 0, 1, 0, [], [4116]), none, none, some (.bipush 76, 0, 0, 0, 76, [], []), none, some (.iconst 2, 0, 0, 0, 2, [], []), some (.iload_n 2, 2, 0, 0, 0, [], []), some (.imul, 0, 0, 0, 0, [], []), some (.iadd, 0, 0, 0, 0, [], []), some (.iconst 1, 0, 0, 0, 1, [], []), some (.iadd, 0, 0, 0, 0, [], []), some (.aload_n 0, 0, 0, 0, 0, [], []), some (.getfield 247, 8, 20, 0, 0, [], [4136])],
  [none, none, some (.iastore, 0, 0, 0, 0, [], []), some (.iconst 0, 0, 0, 0, 0, [], []), some (.istore_n 3, 3, 0, 0, 0, [], []), some (.iload_n 3, 3, 0, 0, 0, [], []), some (.aload_n 0, 0, 0, 0, 0, [], []), some (.getfield 241, 8, 19, 0, 0, [], [4135]), none, none, some (.if_icmp .ge 29, 151, 0, 0, 0, [], []), none, none, some (.aload_n 0, 0, 0, 0, 0, [], []), some (.getfield 9, 8, 0, 1, 0, [], [4116]), none],
  [none, some (.bipush 104, 0, 0, 0, 104, [], []), none, some (.bipush 96, 0, 0, 0, 96, [], []), none, some (.iload_n 2, 2, 0, 0, 0, [], []), some (.imul, 0, 0, 0, 0, [], []), some (.iadd, 0, 0, 0, 0, [], []), some (.iload_n 3, 3, 0, 0, 0, [], []), some (.iadd, 0, 0, 0, 0, [], []), some (.aload_n 0, 0, 0, 0, 0, [], []), some (.getfield 36, 8, 18, 1, 0, [], [4134]), none, none, some (.iload_n 3, 3, 0, 0, 0, [], []), some (.iaload, 20, 0, 0, 0, [], [])],
  [some (.iastore, 0, 0, 0, 0, [], []), some (.iinc 3 1, 3, 0, 0, 1, [], []), none, none, some (.goto (-31), 117, 0, 0, 0, [], []), none, none, some (.aload_n 0, 0, 0, 0, 0, [], []), some (.getfield 9, 8, 0, 1, 0, [], [4116]), none, none, some (.bipush 11, 0, 0, 0, 11, [], []), none, some (.dup2, 0, 0, 0, 0, [], []), some (.iaload, 20, 0, 0, 0, [], []), some (.iconst 1, 0, 0, 0, 1, [], [])],
  [some (.iadd, 0, 0, 0, 0, [], []), some (.iastore, 0, 0, 0, 0, [], []), some (.iload_n 2, 2, 0, 0, 0, [], []), some (.ireturn, 0, 0, 0, 0, [], []), none, none, none, none, none, none, none, none, none, none, none, none]]
/-- X8_text -/
def qm_178 : qs_E := (RX8, yX8_text, cX8_text, 4, some .int, 1, 0, 1, qc_178, [5238, 5236, 1009, 5237])
def qc_179 : List (List (Option qs_Row)) := [[some (.iload_n 1, 1, 0, 0, 0, [], []), some (.iconst 0, 0, 0, 0, 0, [], []), some (.aload_n 0, 0, 0, 0, 0, [], []), some (.getfield 9, 8, 0, 1, 0, [], [4116]), none, none, some (.bipush 11, 0, 0, 0, 11, [], []), none, some (.iaload, 20, 0, 0, 0, [], []), some (.iconst 1, 0, 0, 0, 1, [], []), some (.isub, 0, 0, 0, 0, [], []), some (.invokestatic 79, 108, 26, 0, 0, [], [4232, 0]), none, none, some (.ifCond .eq 12, 26, 0, 0, 0, [], []), none],
  [none, some (.iload_n 2, 2, 0, 0, 0, [], []), some (.iconst 0, 0, 0, 0, 0, [], []), some (.iconst 1, 0, 0, 0, 1, [], []), some (.invokestatic 79, 108, 26, 0, 0, [], [4232, 0]), none, none, some (.ifCond .ne 6, 29, 0, 0, 0, [], []), none, none, some (.ldc 91, 0, 0, 0, (-1000000001), [], [4238]), none, some (.ireturn, 0, 0, 0, 0, [], []), some (.iload_n 2, 2, 0, 0, 0, [], []), some (.ifCond .ne 21, 51, 0, 0, 0, [], []), none],
  [none, some (.aload_n 0, 0, 0, 0, 0, [], []), some (.getfield 9, 8, 0, 1, 0, [], [4116]), none, none, some (.bipush 76, 0, 0, 0, 76, [], []), none, some (.iconst 2, 0, 0, 0, 2, [], []), some (.iload_n 1, 1, 0, 0, 0, [], []), some (.imul, 0, 0, 0, 0, [], []), some (.iadd, 0, 0, 0, 0, [], []), some (.iaload, 20, 0, 0, 0, [], []), some (.sipush 1000, 0, 0, 0, 1000, [], []), none, none, some (.idiv, 0, 0, 0, 0, [], [])],
  [some (.goto 16, 64, 0, 0, 0, [], []), none, none, some (.aload_n 0, 0, 0, 0, 0, [], []), some (.getfield 9, 8, 0, 1, 0, [], [4116]), none, none, some (.bipush 76, 0, 0, 0, 76, [], []), none, some (.iconst 2, 0, 0, 0, 2, [], []), some (.iload_n 1, 1, 0, 0, 0, [], []), some (.imul, 0, 0, 0, 0, [], []), some (.iadd, 0, 0, 0, 0, [], []), some (.iconst 1, 0, 0, 0, 1, [], []), some (.iadd, 0, 0, 0, 0, [], []), some (.iaload, 20, 0, 0, 0, [], [])],
  [some (.ireturn, 0, 0, 0, 0, [], []), none, none, none, none, none, none, none, none, none, none, none, none, none, none, none]]
/-- X8_textTold -/
def qm_179 : qs_E := (RX8, yX8_textTold, cX8_textTold, 3, some .int, 1, 2, 1, qc_179, [6045, 6043, 1009, 6044])
def qc_180 : List (List (Option qs_Row)) := [[some (.aload_n 0, 0, 0, 0, 0, [], []), some (.getfield 9, 8, 0, 1, 0, [], [4116]), none, none, some (.bipush 11, 0, 0, 0, 11, [], []), none, some (.iaload, 20, 0, 0, 0, [], []), some (.iconst 1, 0, 0, 0, 1, [], []), some (.isub, 0, 0, 0, 0, [], []), some (.istore_n 2, 2, 0, 0, 0, [], []), some (.iload_n 2, 2, 0, 0, 0, [], []), some (.ifCond .lt 30, 41, 0, 0, 0, [], []), none, none, some (.aload_n 0, 0, 0, 0, 0, [], []), some (.getfield 9, 8, 0, 1, 0, [], [4116])],
  [none, none, some (.bipush 76, 0, 0, 0, 76, [], []), none, some (.iconst 2, 0, 0, 0, 2, [], []), some (.iload_n 2, 2, 0, 0, 0, [], []), some (.imul, 0, 0, 0, 0, [], []), some (.iadd, 0, 0, 0, 0, [], []), some (.iaload, 20, 0, 0, 0, [], []), some (.sipush 1000, 0, 0, 0, 1000, [], []), none, none, some (.idiv, 0, 0, 0, 0, [], []), some (.iload_n 1, 1, 0, 0, 0, [], []), some (.if_icmp .ne 5, 35, 0, 0, 0, [], []), none],
  [none, some (.iload_n 2, 2, 0, 0, 0, [], []), some (.ireturn, 0, 0, 0, 0, [], []), some (.iinc 2 (-1), 2, 0, 0, (-1), [], []), none, none, some (.goto (-28), 10, 0, 0, 0, [], []), none, none, some (.iconst (-1), 0, 0, 0, (-1), [], []), some (.ireturn, 0, 0, 0, 0, [], []), none, none, none, none, none]]
/-- X8_counts -/
def qm_180 : qs_E := (RX8, yX8_counts, cX8_counts, 3, some .int, 1, 1, 1, qc_180, [5038, 5037, 1009, 21])
def qc_181 : List (List (Option qs_Row)) := [[some (.iload_n 1, 1, 0, 0, 0, [], []), some (.iconst 0, 0, 0, 0, 0, [], []), some (.iconst 2, 0, 0, 0, 2, [], []), some (.invokestatic 79, 108, 26, 0, 0, [], [4232, 0]), none, none, some (.ifCond .ne 6, 12, 0, 0, 0, [], []), none, none, some (.ldc 91, 0, 0, 0, (-1000000001), [], [4238]), none, some (.ireturn, 0, 0, 0, 0, [], []), some (.aload_n 0, 0, 0, 0, 0, [], []), some (.iload_n 1, 1, 0, 0, 0, [], []), some (.invokevirtual 109, 180, 9, 8, 0, [], [5035, 0]), none],
  [none, some (.istore_n 2, 2, 0, 0, 0, [], []), some (.iload_n 2, 2, 0, 0, 0, [], []), some (.ifCond .ge 8, 27, 0, 0, 0, [], []), none, none, some (.ldc 175, 0, 0, 0, (-1000000005), [], [5167]), none, some (.goto 4, 28, 0, 0, 0, [], []), none, none, some (.iload_n 2, 2, 0, 0, 0, [], []), some (.ireturn, 0, 0, 0, 0, [], []), none, none, none]]
/-- X8_why -/
def qm_181 : qs_E := (RX8, yX8_why, cX8_why, 3, some .int, 1, 1, 1, qc_181, [6049, 6047, 1009, 6048])
def qc_182 : List (List (Option qs_Row)) := [[some (.iload_n 0, 0, 0, 0, 0, [], []), some (.tableswitch 120 (-8) (-1) #[116, 112, 108, 97, 86, 75, 61, 47], 121, 47, 0, 0, [((-8), 117), ((-7), 113), ((-6), 109), ((-5), 98), ((-4), 87), ((-3), 76), ((-2), 62), ((-1), 48)], []), none, none, none, none, none, none, none, none, none, none, none, none, none, none],
  [none, none, none, none, none, none, none, none, none, none, none, none, none, none, none, none],
  [none, none, none, none, none, none, none, none, none, none, none, none, none, none, none, none],
  [some (.iload_n 1, 1, 0, 0, 0, [], []), some (.ifCond .ne 7, 56, 0, 0, 0, [], []), none, none, some (.iload_n 2, 2, 0, 0, 0, [], []), some (.ifCond .eq 7, 60, 0, 0, 0, [], []), none, none, some (.iconst 1, 0, 0, 0, 1, [], []), some (.goto 4, 61, 0, 0, 0, [], []), none, none, some (.iconst 0, 0, 0, 0, 0, [], []), some (.ireturn, 0, 0, 0, 0, [], []), some (.iload_n 1, 1, 0, 0, 0, [], []), some (.ifCond .eq 11, 74, 0, 0, 0, [], [])],
  [none, none, some (.iload_n 2, 2, 0, 0, 0, [], []), some (.ifCond .eq 7, 74, 0, 0, 0, [], []), none, none, some (.iconst 1, 0, 0, 0, 1, [], []), some (.goto 4, 75, 0, 0, 0, [], []), none, none, some (.iconst 0, 0, 0, 0, 0, [], []), some (.ireturn, 0, 0, 0, 0, [], []), some (.iload_n 1, 1, 0, 0, 0, [], []), some (.iload_n 2, 2, 0, 0, 0, [], []), some (.if_icmp .ge 7, 85, 0, 0, 0, [], []), none],
  [none, some (.iconst 1, 0, 0, 0, 1, [], []), some (.goto 4, 86, 0, 0, 0, [], []), none, none, some (.iconst 0, 0, 0, 0, 0, [], []), some (.ireturn, 0, 0, 0, 0, [], []), some (.iload_n 1, 1, 0, 0, 0, [], []), some (.iload_n 2, 2, 0, 0, 0, [], []), some (.if_icmp .ne 7, 96, 0, 0, 0, [], []), none, none, some (.iconst 1, 0, 0, 0, 1, [], []), some (.goto 4, 97, 0, 0, 0, [], []), none, none],
  [some (.iconst 0, 0, 0, 0, 0, [], []), some (.ireturn, 0, 0, 0, 0, [], []), some (.iload_n 1, 1, 0, 0, 0, [], []), some (.iload_n 2, 2, 0, 0, 0, [], []), some (.if_icmp .le 7, 107, 0, 0, 0, [], []), none, none, some (.iconst 1, 0, 0, 0, 1, [], []), some (.goto 4, 108, 0, 0, 0, [], []), none, none, some (.iconst 0, 0, 0, 0, 0, [], []), some (.ireturn, 0, 0, 0, 0, [], []), some (.iload_n 1, 1, 0, 0, 0, [], []), some (.iload_n 2, 2, 0, 0, 0, [], []), some (.iadd, 0, 0, 0, 0, [], [])],
  [some (.ireturn, 0, 0, 0, 0, [], []), some (.iload_n 1, 1, 0, 0, 0, [], []), some (.iload_n 2, 2, 0, 0, 0, [], []), some (.isub, 0, 0, 0, 0, [], []), some (.ireturn, 0, 0, 0, 0, [], []), some (.iload_n 1, 1, 0, 0, 0, [], []), some (.iload_n 2, 2, 0, 0, 0, [], []), some (.imul, 0, 0, 0, 0, [], []), some (.ireturn, 0, 0, 0, 0, [], []), some (.iload_n 2, 2, 0, 0, 0, [], []), some (.ifCond .ne 7, 129, 0, 0, 0, [], []), none, none, some (.iconst 0, 0, 0, 0, 0, [], []), some (.goto 6, 132, 0, 0, 0, [], []), none],
  [none, some (.iload_n 1, 1, 0, 0, 0, [], []), some (.iload_n 2, 2, 0, 0, 0, [], []), some (.idiv, 0, 0, 0, 0, [], []), some (.ireturn, 0, 0, 0, 0, [], []), none, none, none, none, none, none, none, none, none, none, none]]
/-- X8_two -/
def qm_182 : qs_E := (RX8, yX8_two, cX8_two, 3, some .int, 0, 3, 1, qc_182, [5045, 5044, 1009])
def qc_183 : List (List (Option qs_Row)) := [[some (.iconst 0, 0, 0, 0, 0, [], []), some (.istore_n 2, 2, 0, 0, 0, [], []), some (.aload_n 0, 0, 0, 0, 0, [], []), some (.getfield 9, 8, 0, 1, 0, [], [4116]), none, none, some (.bipush 76, 0, 0, 0, 76, [], []), none, some (.iconst 2, 0, 0, 0, 2, [], []), some (.iload_n 1, 1, 0, 0, 0, [], []), some (.imul, 0, 0, 0, 0, [], []), some (.iadd, 0, 0, 0, 0, [], []), some (.iaload, 20, 0, 0, 0, [], []), some (.sipush 1000, 0, 0, 0, 1000, [], []), none, none],
  [some (.irem, 0, 0, 0, 0, [], []), some (.istore_n 3, 3, 0, 0, 0, [], []), some (.iconst 0, 0, 0, 0, 0, [], []), some (.istore 4, 4, 0, 0, 0, [], []), none, some (.iload 4, 4, 0, 0, 0, [], []), none, some (.iload_n 3, 3, 0, 0, 0, [], []), some (.if_icmp .ge 131, 155, 0, 0, 0, [], []), none, none, some (.aload_n 0, 0, 0, 0, 0, [], []), some (.getfield 9, 8, 0, 1, 0, [], [4116]), none, none, some (.bipush 104, 0, 0, 0, 104, [], [])],
  [none, some (.bipush 96, 0, 0, 0, 96, [], []), none, some (.iload_n 1, 1, 0, 0, 0, [], []), some (.imul, 0, 0, 0, 0, [], []), some (.iadd, 0, 0, 0, 0, [], []), some (.iload 4, 4, 0, 0, 0, [], []), none, some (.iadd, 0, 0, 0, 0, [], []), some (.iaload, 20, 0, 0, 0, [], []), some (.istore 5, 5, 0, 0, 0, [], []), none, some (.iload 5, 5, 0, 0, 0, [], []), none, some (.ifCond .lt 39, 85, 0, 0, 0, [], []), none],
  [none, some (.aload_n 0, 0, 0, 0, 0, [], []), some (.getfield 46, 8, 24, 1, 0, [], [4140]), none, none, some (.iload_n 2, 2, 0, 0, 0, [], []), some (.iload 5, 5, 0, 0, 0, [], []), none, some (.sipush 10000, 0, 0, 0, 10000, [], []), none, none, some (.if_icmp .ge 8, 67, 0, 0, 0, [], []), none, none, some (.iload 5, 5, 0, 0, 0, [], []), none],
  [some (.goto 14, 78, 0, 0, 0, [], []), none, none, some (.aload_n 0, 0, 0, 0, 0, [], []), some (.getfield 49, 8, 25, 1, 0, [], [4141]), none, none, some (.iload 5, 5, 0, 0, 0, [], []), none, some (.sipush 10000, 0, 0, 0, 10000, [], []), none, none, some (.isub, 0, 0, 0, 0, [], []), some (.iaload, 20, 0, 0, 0, [], []), some (.iastore, 0, 0, 0, 0, [], []), some (.iinc 2 1, 2, 0, 0, 1, [], [])],
  [none, none, some (.goto 67, 149, 0, 0, 0, [], []), none, none, some (.iload 5, 5, 0, 0, 0, [], []), none, some (.bipush (-10), 0, 0, 0, (-10), [], []), none, some (.if_icmp .ne 30, 119, 0, 0, 0, [], []), none, none, some (.aload_n 0, 0, 0, 0, 0, [], []), some (.getfield 46, 8, 24, 1, 0, [], [4140]), none, none],
  [some (.iload_n 2, 2, 0, 0, 0, [], []), some (.iconst 1, 0, 0, 0, 1, [], []), some (.isub, 0, 0, 0, 0, [], []), some (.aload_n 0, 0, 0, 0, 0, [], []), some (.getfield 46, 8, 24, 1, 0, [], [4140]), none, none, some (.iload_n 2, 2, 0, 0, 0, [], []), some (.iconst 1, 0, 0, 0, 1, [], []), some (.isub, 0, 0, 0, 0, [], []), some (.iaload, 20, 0, 0, 0, [], []), some (.ifCond .ne 7, 114, 0, 0, 0, [], []), none, none, some (.iconst 1, 0, 0, 0, 1, [], []), some (.goto 4, 115, 0, 0, 0, [], [])],
  [none, none, some (.iconst 0, 0, 0, 0, 0, [], []), some (.iastore, 0, 0, 0, 0, [], []), some (.goto 33, 149, 0, 0, 0, [], []), none, none, some (.iinc 2 (-1), 2, 0, 0, (-1), [], []), none, none, some (.aload_n 0, 0, 0, 0, 0, [], []), some (.getfield 46, 8, 24, 1, 0, [], [4140]), none, none, some (.iload_n 2, 2, 0, 0, 0, [], []), some (.iconst 1, 0, 0, 0, 1, [], [])],
  [some (.isub, 0, 0, 0, 0, [], []), some (.iload 5, 5, 0, 0, 0, [], []), none, some (.aload_n 0, 0, 0, 0, 0, [], []), some (.getfield 46, 8, 24, 1, 0, [], [4140]), none, none, some (.iload_n 2, 2, 0, 0, 0, [], []), some (.iconst 1, 0, 0, 0, 1, [], []), some (.isub, 0, 0, 0, 0, [], []), some (.iaload, 20, 0, 0, 0, [], []), some (.aload_n 0, 0, 0, 0, 0, [], []), some (.getfield 46, 8, 24, 1, 0, [], [4140]), none, none, some (.iload_n 2, 2, 0, 0, 0, [], [])],
  [some (.iaload, 20, 0, 0, 0, [], []), some (.invokestatic 269, 182, 25, 0, 0, [], [5043, 0]), none, none, some (.iastore, 0, 0, 0, 0, [], []), some (.iinc 4 1, 4, 0, 0, 1, [], []), none, none, some (.goto (-131), 21, 0, 0, 0, [], []), none, none, some (.aload_n 0, 0, 0, 0, 0, [], []), some (.getfield 46, 8, 24, 1, 0, [], [4140]), none, none, some (.iconst 0, 0, 0, 0, 0, [], [])],
  [some (.iaload, 20, 0, 0, 0, [], []), some (.ireturn, 0, 0, 0, 0, [], []), none, none, none, none, none, none, none, none, none, none, none, none, none, none]]
/-- X8_worksOut -/
def qm_183 : qs_E := (RX8, yX8_worksOut, cX8_worksOut, 6, some .int, 1, 1, 1, qc_183, [5042, 5041, 1009, 22])
def qc_184 : List (List (Option qs_Row)) := [[some (.iload_n 0, 0, 0, 0, 0, [], []), some (.iconst 0, 0, 0, 0, 0, [], []), some (.iconst 3, 0, 0, 0, 3, [], []), some (.invokestatic 79, 108, 26, 0, 0, [], [4232, 0]), none, none, some (.ireturn, 0, 0, 0, 0, [], []), none, none, none, none, none, none, none, none, none]]
/-- X8_isSheet -/
def qm_184 : qs_E := (RX8, yX8_isSheet, cX8_isSheet, 1, some .boolean, 0, 1, 2, qc_184, [5217, 5216, 1009])
def qc_185 : List (List (Option qs_Row)) := [[some (.iload_n 0, 0, 0, 0, 0, [], []), some (.iconst 0, 0, 0, 0, 0, [], []), some (.iconst 4, 0, 0, 0, 4, [], []), some (.invokestatic 79, 108, 26, 0, 0, [], [4232, 0]), none, none, some (.ireturn, 0, 0, 0, 0, [], []), none, none, none, none, none, none, none, none, none]]
/-- X8_isSlot -/
def qm_185 : qs_E := (RX8, yX8_isSlot, cX8_isSlot, 1, some .boolean, 0, 1, 2, qc_185, [6080, 6079, 1009])
def qc_186 : List (List (Option qs_Row)) := [[some (.iload_n 1, 1, 0, 0, 0, [], []), some (.invokestatic 201, 184, 10, 0, 0, [], [5215, 0]), none, none, some (.ifCond .eq 22, 26, 0, 0, 0, [], []), none, none, some (.iload_n 2, 2, 0, 0, 0, [], []), some (.iconst (-1), 0, 0, 0, (-1), [], []), some (.iconst 1, 0, 0, 0, 1, [], []), some (.invokestatic 79, 108, 26, 0, 0, [], [4232, 0]), none, none, some (.ifCond .eq 13, 26, 0, 0, 0, [], []), none, none],
  [some (.iload_n 2, 2, 0, 0, 0, [], []), some (.ifCond .lt 12, 29, 0, 0, 0, [], []), none, none, some (.iload_n 3, 3, 0, 0, 0, [], []), some (.bipush 24, 0, 0, 0, 24, [], []), none, some (.if_icmp .le 6, 29, 0, 0, 0, [], []), none, none, some (.ldc 91, 0, 0, 0, (-1000000001), [], [4238]), none, some (.ireturn, 0, 0, 0, 0, [], []), some (.iload_n 2, 2, 0, 0, 0, [], []), some (.ifCond .lt 11, 41, 0, 0, 0, [], []), none],
  [none, some (.iload_n 3, 3, 0, 0, 0, [], []), some (.ifCond .ge 7, 41, 0, 0, 0, [], []), none, none, some (.ldc_w 272, 0, 0, 0, (-1000000014), [], [6054]), none, none, some (.ireturn, 0, 0, 0, 0, [], []), some (.aload_n 0, 0, 0, 0, 0, [], []), some (.getfield 52, 8, 26, 1, 0, [], [4142]), none, none, some (.iload_n 1, 1, 0, 0, 0, [], []), some (.iload_n 2, 2, 0, 0, 0, [], []), some (.iastore, 0, 0, 0, 0, [], [])],
  [some (.aload_n 0, 0, 0, 0, 0, [], []), some (.getfield 55, 8, 27, 1, 0, [], [4143]), none, none, some (.iload_n 1, 1, 0, 0, 0, [], []), some (.iload_n 2, 2, 0, 0, 0, [], []), some (.ifCond .ge 7, 61, 0, 0, 0, [], []), none, none, some (.iconst 0, 0, 0, 0, 0, [], []), some (.goto 4, 62, 0, 0, 0, [], []), none, none, some (.iload_n 3, 3, 0, 0, 0, [], []), some (.iastore, 0, 0, 0, 0, [], []), some (.iconst 0, 0, 0, 0, 0, [], [])],
  [some (.istore 4, 4, 0, 0, 0, [], []), none, some (.iload 4, 4, 0, 0, 0, [], []), none, some (.bipush 24, 0, 0, 0, 24, [], []), none, some (.if_icmp .ge 22, 92, 0, 0, 0, [], []), none, none, some (.aload_n 0, 0, 0, 0, 0, [], []), some (.getfield 58, 8, 28, 1, 0, [], [4144]), none, none, some (.bipush 24, 0, 0, 0, 24, [], []), none, some (.iload_n 1, 1, 0, 0, 0, [], [])],
  [some (.imul, 0, 0, 0, 0, [], []), some (.iload 4, 4, 0, 0, 0, [], []), none, some (.iadd, 0, 0, 0, 0, [], []), some (.iconst 0, 0, 0, 0, 0, [], []), some (.iastore, 0, 0, 0, 0, [], []), some (.iinc 4 1, 4, 0, 0, 1, [], []), none, none, some (.goto (-23), 66, 0, 0, 0, [], []), none, none, some (.aload_n 0, 0, 0, 0, 0, [], []), some (.getfield 55, 8, 27, 1, 0, [], [4143]), none, none],
  [some (.iload_n 1, 1, 0, 0, 0, [], []), some (.iaload, 20, 0, 0, 0, [], []), some (.ireturn, 0, 0, 0, 0, [], []), none, none, none, none, none, none, none, none, none, none, none, none, none]]
/-- X8_sheet -/
def qm_186 : qs_E := (RX8, yX8_sheet, cX8_sheet, 5, some .int, 1, 3, 1, qc_186, [6053, 6051, 1009, 6052])
def qc_187 : List (List (Option qs_Row)) := [[some (.iload_n 1, 1, 0, 0, 0, [], []), some (.invokestatic 201, 184, 10, 0, 0, [], [5215, 0]), none, none, some (.ifCond .ne 6, 10, 0, 0, 0, [], []), none, none, some (.ldc 91, 0, 0, 0, (-1000000001), [], [4238]), none, some (.ireturn, 0, 0, 0, 0, [], []), some (.aload_n 0, 0, 0, 0, 0, [], []), some (.getfield 52, 8, 26, 1, 0, [], [4142]), none, none, some (.iload_n 1, 1, 0, 0, 0, [], []), some (.iaload, 20, 0, 0, 0, [], [])],
  [some (.ifCond .ge 6, 22, 0, 0, 0, [], []), none, none, some (.ldc 204, 0, 0, 0, (-1000000011), [], [5218]), none, some (.ireturn, 0, 0, 0, 0, [], []), some (.iload_n 2, 2, 0, 0, 0, [], []), some (.iconst 0, 0, 0, 0, 0, [], []), some (.aload_n 0, 0, 0, 0, 0, [], []), some (.getfield 55, 8, 27, 1, 0, [], [4143]), none, none, some (.iload_n 1, 1, 0, 0, 0, [], []), some (.iaload, 20, 0, 0, 0, [], []), some (.iconst 1, 0, 0, 0, 1, [], []), some (.isub, 0, 0, 0, 0, [], [])],
  [some (.invokestatic 79, 108, 26, 0, 0, [], [4232, 0]), none, none, some (.ifCond .ne 7, 42, 0, 0, 0, [], []), none, none, some (.ldc_w 273, 0, 0, 0, (-1000000013), [], [6059]), none, none, some (.ireturn, 0, 0, 0, 0, [], []), some (.aload_n 0, 0, 0, 0, 0, [], []), some (.getfield 52, 8, 26, 1, 0, [], [4142]), none, none, some (.iload_n 1, 1, 0, 0, 0, [], []), some (.iaload, 20, 0, 0, 0, [], [])],
  [some (.ifCond .ne 12, 60, 0, 0, 0, [], []), none, none, some (.iload_n 3, 3, 0, 0, 0, [], []), some (.ldc 175, 0, 0, 0, (-1000000005), [], [5167]), none, some (.if_icmp .ne 6, 60, 0, 0, 0, [], []), none, none, some (.ldc 140, 0, 0, 0, (-1000000012), [], [5069]), none, some (.ireturn, 0, 0, 0, 0, [], []), some (.aload_n 0, 0, 0, 0, 0, [], []), some (.getfield 52, 8, 26, 1, 0, [], [4142]), none, none],
  [some (.iload_n 1, 1, 0, 0, 0, [], []), some (.iaload, 20, 0, 0, 0, [], []), some (.iconst 1, 0, 0, 0, 1, [], []), some (.if_icmp .ne 25, 92, 0, 0, 0, [], []), none, none, some (.iload_n 3, 3, 0, 0, 0, [], []), some (.ldc 175, 0, 0, 0, (-1000000005), [], [5167]), none, some (.if_icmp .eq 19, 92, 0, 0, 0, [], []), none, none, some (.iload_n 3, 3, 0, 0, 0, [], []), some (.ldc_w 274, 0, 0, 0, (-99999), [], [6060]), none, none],
  [some (.ldc_w 275, 0, 0, 0, 99999, [], [6061]), none, none, some (.invokestatic 79, 108, 26, 0, 0, [], [4232, 0]), none, none, some (.ifCond .ne 6, 92, 0, 0, 0, [], []), none, none, some (.ldc 91, 0, 0, 0, (-1000000001), [], [4238]), none, some (.ireturn, 0, 0, 0, 0, [], []), some (.aload_n 0, 0, 0, 0, 0, [], []), some (.getfield 58, 8, 28, 1, 0, [], [4144]), none, none],
  [some (.bipush 24, 0, 0, 0, 24, [], []), none, some (.iload_n 1, 1, 0, 0, 0, [], []), some (.imul, 0, 0, 0, 0, [], []), some (.iload_n 2, 2, 0, 0, 0, [], []), some (.iadd, 0, 0, 0, 0, [], []), some (.aload_n 0, 0, 0, 0, 0, [], []), some (.getfield 52, 8, 26, 1, 0, [], [4142]), none, none, some (.iload_n 1, 1, 0, 0, 0, [], []), some (.iaload, 20, 0, 0, 0, [], []), some (.ifCond .ne 8, 116, 0, 0, 0, [], []), none, none, some (.iload_n 3, 3, 0, 0, 0, [], [])],
  [some (.i2s, 0, 0, 0, 0, [], []), some (.goto 4, 117, 0, 0, 0, [], []), none, none, some (.iload_n 3, 3, 0, 0, 0, [], []), some (.iastore, 0, 0, 0, 0, [], []), some (.iconst 1, 0, 0, 0, 1, [], []), some (.ireturn, 0, 0, 0, 0, [], []), none, none, none, none, none, none, none, none]]
/-- X8_mark -/
def qm_187 : qs_E := (RX8, yX8_mark, cX8_mark, 4, some .int, 1, 3, 1, qc_187, [6058, 6056, 1009, 6057])
def qc_188 : List (List (Option qs_Row)) := [[some (.iload_n 1, 1, 0, 0, 0, [], []), some (.invokestatic 201, 184, 10, 0, 0, [], [5215, 0]), none, none, some (.ifCond .ne 6, 10, 0, 0, 0, [], []), none, none, some (.ldc 91, 0, 0, 0, (-1000000001), [], [4238]), none, some (.ireturn, 0, 0, 0, 0, [], []), some (.aload_n 0, 0, 0, 0, 0, [], []), some (.getfield 52, 8, 26, 1, 0, [], [4142]), none, none, some (.iload_n 1, 1, 0, 0, 0, [], []), some (.iaload, 20, 0, 0, 0, [], [])],
  [some (.ifCond .ge 6, 22, 0, 0, 0, [], []), none, none, some (.ldc 204, 0, 0, 0, (-1000000011), [], [5218]), none, some (.ireturn, 0, 0, 0, 0, [], []), some (.iconst 0, 0, 0, 0, 0, [], []), some (.istore_n 2, 2, 0, 0, 0, [], []), some (.iconst 0, 0, 0, 0, 0, [], []), some (.istore_n 3, 3, 0, 0, 0, [], []), some (.iload_n 3, 3, 0, 0, 0, [], []), some (.aload_n 0, 0, 0, 0, 0, [], []), some (.getfield 55, 8, 27, 1, 0, [], [4143]), none, none, some (.iload_n 1, 1, 0, 0, 0, [], [])],
  [some (.iaload, 20, 0, 0, 0, [], []), some (.if_icmp .ge 86, 119, 0, 0, 0, [], []), none, none, some (.iload_n 3, 3, 0, 0, 0, [], []), some (.aload_n 0, 0, 0, 0, 0, [], []), some (.getfield 9, 8, 0, 1, 0, [], [4116]), none, none, some (.iconst 1, 0, 0, 0, 1, [], []), some (.iaload, 20, 0, 0, 0, [], []), some (.if_icmp .ge 76, 119, 0, 0, 0, [], []), none, none, some (.aload_n 0, 0, 0, 0, 0, [], []), some (.getfield 58, 8, 28, 1, 0, [], [4144])],
  [none, none, some (.bipush 24, 0, 0, 0, 24, [], []), none, some (.iload_n 1, 1, 0, 0, 0, [], []), some (.imul, 0, 0, 0, 0, [], []), some (.iload_n 3, 3, 0, 0, 0, [], []), some (.iadd, 0, 0, 0, 0, [], []), some (.iaload, 20, 0, 0, 0, [], []), some (.istore 4, 4, 0, 0, 0, [], []), none, some (.iload 4, 4, 0, 0, 0, [], []), none, some (.ldc 175, 0, 0, 0, (-1000000005), [], [5167]), none, some (.if_icmp .ne 12, 75, 0, 0, 0, [], [])],
  [none, none, some (.aload_n 0, 0, 0, 0, 0, [], []), some (.iload_n 3, 3, 0, 0, 0, [], []), some (.iconst 1, 0, 0, 0, 1, [], []), some (.invokevirtual 97, 112, 17, 8, 0, [], [5016, 0]), none, none, some (.goto 11, 83, 0, 0, 0, [], []), none, none, some (.iload 4, 4, 0, 0, 0, [], []), none, some (.iconst 0, 0, 0, 0, 0, [], []), some (.bipush 40, 0, 0, 0, 40, [], []), none],
  [some (.invokestatic 101, 109, 25, 0, 0, [], [5024, 0]), none, none, some (.istore 5, 5, 0, 0, 0, [], []), none, some (.iload_n 2, 2, 0, 0, 0, [], []), some (.aload_n 0, 0, 0, 0, 0, [], []), some (.bipush 12, 0, 0, 0, 12, [], []), none, some (.bipush 8, 0, 0, 0, 8, [], []), none, some (.iload_n 3, 3, 0, 0, 0, [], []), some (.imul, 0, 0, 0, 0, [], []), some (.iadd, 0, 0, 0, 0, [], []), some (.iconst 1, 0, 0, 0, 1, [], []), some (.iadd, 0, 0, 0, 0, [], [])],
  [some (.iload 5, 5, 0, 0, 0, [], []), none, some (.invokevirtual 141, 114, 17, 8, 0, [], [5074, 0]), none, none, some (.iload 5, 5, 0, 0, 0, [], []), none, some (.if_icmp .ne 7, 110, 0, 0, 0, [], []), none, none, some (.iconst 0, 0, 0, 0, 0, [], []), some (.goto 4, 111, 0, 0, 0, [], []), none, none, some (.iconst 1, 0, 0, 0, 1, [], []), some (.iadd, 0, 0, 0, 0, [], [])],
  [some (.istore_n 2, 2, 0, 0, 0, [], []), some (.iinc 3 1, 3, 0, 0, 1, [], []), none, none, some (.goto (-90), 26, 0, 0, 0, [], []), none, none, some (.iload_n 2, 2, 0, 0, 0, [], []), some (.ireturn, 0, 0, 0, 0, [], []), none, none, none, none, none, none, none]]
/-- X8_pour -/
def qm_188 : qs_E := (RX8, yX8_pour, cX8_pour, 6, some .int, 1, 1, 1, qc_188, [6065, 6063, 1009, 6064])
def qc_189 : List (List (Option qs_Row)) := [[some (.iload_n 1, 1, 0, 0, 0, [], []), some (.invokestatic 201, 184, 10, 0, 0, [], [5215, 0]), none, none, some (.ifCond .ne 6, 10, 0, 0, 0, [], []), none, none, some (.ldc 91, 0, 0, 0, (-1000000001), [], [4238]), none, some (.ireturn, 0, 0, 0, 0, [], []), some (.aload_n 0, 0, 0, 0, 0, [], []), some (.getfield 52, 8, 26, 1, 0, [], [4142]), none, none, some (.iload_n 1, 1, 0, 0, 0, [], []), some (.iaload, 20, 0, 0, 0, [], [])],
  [some (.ifCond .ge 6, 22, 0, 0, 0, [], []), none, none, some (.ldc 204, 0, 0, 0, (-1000000011), [], [5218]), none, some (.ireturn, 0, 0, 0, 0, [], []), some (.iconst 0, 0, 0, 0, 0, [], []), some (.istore_n 2, 2, 0, 0, 0, [], []), some (.iload_n 2, 2, 0, 0, 0, [], []), some (.aload_n 0, 0, 0, 0, 0, [], []), some (.getfield 55, 8, 27, 1, 0, [], [4143]), none, none, some (.iload_n 1, 1, 0, 0, 0, [], []), some (.iaload, 20, 0, 0, 0, [], []), some (.if_icmp .ge 46, 77, 0, 0, 0, [], [])],
  [none, none, some (.aload_n 0, 0, 0, 0, 0, [], []), some (.getfield 58, 8, 28, 1, 0, [], [4144]), none, none, some (.bipush 24, 0, 0, 0, 24, [], []), none, some (.iload_n 1, 1, 0, 0, 0, [], []), some (.imul, 0, 0, 0, 0, [], []), some (.iload_n 2, 2, 0, 0, 0, [], []), some (.iadd, 0, 0, 0, 0, [], []), some (.iaload, 20, 0, 0, 0, [], []), some (.istore_n 3, 3, 0, 0, 0, [], []), some (.iload_n 3, 3, 0, 0, 0, [], []), some (.ldc 175, 0, 0, 0, (-1000000005), [], [5167])],
  [none, some (.if_icmp .eq 22, 71, 0, 0, 0, [], []), none, none, some (.aload_n 0, 0, 0, 0, 0, [], []), some (.iload_n 2, 2, 0, 0, 0, [], []), some (.invokevirtual 118, 111, 10, 8, 0, [], [5012, 0]), none, none, some (.ifCond .eq 12, 69, 0, 0, 0, [], []), none, none, some (.iload_n 3, 3, 0, 0, 0, [], []), some (.aload_n 0, 0, 0, 0, 0, [], []), some (.iload_n 2, 2, 0, 0, 0, [], []), some (.invokevirtual 125, 120, 9, 8, 0, [], [5027, 0])],
  [none, none, some (.if_icmp .eq 5, 71, 0, 0, 0, [], []), none, none, some (.iload_n 2, 2, 0, 0, 0, [], []), some (.ireturn, 0, 0, 0, 0, [], []), some (.iinc 2 1, 2, 0, 0, 1, [], []), none, none, some (.goto (-50), 24, 0, 0, 0, [], []), none, none, some (.ldc 175, 0, 0, 0, (-1000000005), [], [5167]), none, some (.ireturn, 0, 0, 0, 0, [], [])]]
/-- X8_reads -/
def qm_189 : qs_E := (RX8, yX8_reads, cX8_reads, 4, some .int, 1, 1, 1, qc_189, [6069, 6067, 1009, 6068])
def qc_190 : List (List (Option qs_Row)) := [[some (.iload_n 1, 1, 0, 0, 0, [], []), some (.invokestatic 201, 184, 10, 0, 0, [], [5215, 0]), none, none, some (.ifCond .eq 10, 14, 0, 0, 0, [], []), none, none, some (.iload_n 3, 3, 0, 0, 0, [], []), some (.invokestatic 201, 184, 10, 0, 0, [], [5215, 0]), none, none, some (.ifCond .ne 6, 17, 0, 0, 0, [], []), none, none, some (.ldc 91, 0, 0, 0, (-1000000001), [], [4238]), none],
  [some (.ireturn, 0, 0, 0, 0, [], []), some (.aload_n 0, 0, 0, 0, 0, [], []), some (.getfield 52, 8, 26, 1, 0, [], [4142]), none, none, some (.iload_n 1, 1, 0, 0, 0, [], []), some (.iaload, 20, 0, 0, 0, [], []), some (.ifCond .lt 12, 35, 0, 0, 0, [], []), none, none, some (.aload_n 0, 0, 0, 0, 0, [], []), some (.getfield 52, 8, 26, 1, 0, [], [4142]), none, none, some (.iload_n 3, 3, 0, 0, 0, [], []), some (.iaload, 20, 0, 0, 0, [], [])],
  [some (.ifCond .ge 6, 38, 0, 0, 0, [], []), none, none, some (.ldc 204, 0, 0, 0, (-1000000011), [], [5218]), none, some (.ireturn, 0, 0, 0, 0, [], []), some (.aload_n 0, 0, 0, 0, 0, [], []), some (.getfield 52, 8, 26, 1, 0, [], [4142]), none, none, some (.iload_n 1, 1, 0, 0, 0, [], []), some (.iaload, 20, 0, 0, 0, [], []), some (.aload_n 0, 0, 0, 0, 0, [], []), some (.getfield 52, 8, 26, 1, 0, [], [4142]), none, none],
  [some (.iload_n 3, 3, 0, 0, 0, [], []), some (.iaload, 20, 0, 0, 0, [], []), some (.if_icmp .eq 6, 56, 0, 0, 0, [], []), none, none, some (.ldc 140, 0, 0, 0, (-1000000012), [], [5069]), none, some (.ireturn, 0, 0, 0, 0, [], []), some (.iload_n 2, 2, 0, 0, 0, [], []), some (.ifCond .lt 40, 97, 0, 0, 0, [], []), none, none, some (.iload 4, 4, 0, 0, 0, [], []), none, some (.ifCond .lt 35, 97, 0, 0, 0, [], []), none],
  [none, some (.iload 5, 5, 0, 0, 0, [], []), none, some (.ifCond .lt 30, 97, 0, 0, 0, [], []), none, none, some (.iload_n 2, 2, 0, 0, 0, [], []), some (.aload_n 0, 0, 0, 0, 0, [], []), some (.getfield 55, 8, 27, 1, 0, [], [4143]), none, none, some (.iload_n 1, 1, 0, 0, 0, [], []), some (.iaload, 20, 0, 0, 0, [], []), some (.iload 5, 5, 0, 0, 0, [], []), none, some (.isub, 0, 0, 0, 0, [], [])],
  [some (.if_icmp .gt 17, 97, 0, 0, 0, [], []), none, none, some (.iload 4, 4, 0, 0, 0, [], []), none, some (.aload_n 0, 0, 0, 0, 0, [], []), some (.getfield 55, 8, 27, 1, 0, [], [4143]), none, none, some (.iload_n 3, 3, 0, 0, 0, [], []), some (.iaload, 20, 0, 0, 0, [], []), some (.iload 5, 5, 0, 0, 0, [], []), none, some (.isub, 0, 0, 0, 0, [], []), some (.if_icmp .le 7, 101, 0, 0, 0, [], []), none],
  [none, some (.ldc_w 273, 0, 0, 0, (-1000000013), [], [6059]), none, none, some (.ireturn, 0, 0, 0, 0, [], []), some (.iconst 0, 0, 0, 0, 0, [], []), some (.istore 6, 6, 0, 0, 0, [], []), none, some (.iload 6, 6, 0, 0, 0, [], []), none, some (.iload 5, 5, 0, 0, 0, [], []), none, some (.if_icmp .ge 30, 138, 0, 0, 0, [], []), none, none, some (.aload_n 0, 0, 0, 0, 0, [], [])],
  [some (.getfield 73, 8, 33, 1, 0, [], [4149]), none, none, some (.iload 6, 6, 0, 0, 0, [], []), none, some (.aload_n 0, 0, 0, 0, 0, [], []), some (.getfield 58, 8, 28, 1, 0, [], [4144]), none, none, some (.bipush 24, 0, 0, 0, 24, [], []), none, some (.iload_n 1, 1, 0, 0, 0, [], []), some (.imul, 0, 0, 0, 0, [], []), some (.iload_n 2, 2, 0, 0, 0, [], []), some (.iadd, 0, 0, 0, 0, [], []), some (.iload 6, 6, 0, 0, 0, [], [])],
  [none, some (.iadd, 0, 0, 0, 0, [], []), some (.iaload, 20, 0, 0, 0, [], []), some (.iastore, 0, 0, 0, 0, [], []), some (.iinc 6 1, 6, 0, 0, 1, [], []), none, none, some (.goto (-31), 104, 0, 0, 0, [], []), none, none, some (.iconst 0, 0, 0, 0, 0, [], []), some (.istore 6, 6, 0, 0, 0, [], []), none, some (.iload 6, 6, 0, 0, 0, [], []), none, some (.iload 5, 5, 0, 0, 0, [], [])],
  [none, some (.if_icmp .ge 31, 176, 0, 0, 0, [], []), none, none, some (.aload_n 0, 0, 0, 0, 0, [], []), some (.getfield 58, 8, 28, 1, 0, [], [4144]), none, none, some (.bipush 24, 0, 0, 0, 24, [], []), none, some (.iload_n 3, 3, 0, 0, 0, [], []), some (.imul, 0, 0, 0, 0, [], []), some (.iload 4, 4, 0, 0, 0, [], []), none, some (.iadd, 0, 0, 0, 0, [], []), some (.iload 6, 6, 0, 0, 0, [], [])],
  [none, some (.iadd, 0, 0, 0, 0, [], []), some (.aload_n 0, 0, 0, 0, 0, [], []), some (.getfield 73, 8, 33, 1, 0, [], [4149]), none, none, some (.iload 6, 6, 0, 0, 0, [], []), none, some (.iaload, 20, 0, 0, 0, [], []), some (.iastore, 0, 0, 0, 0, [], []), some (.iinc 6 1, 6, 0, 0, 1, [], []), none, none, some (.goto (-32), 141, 0, 0, 0, [], []), none, none],
  [some (.iload 5, 5, 0, 0, 0, [], []), none, some (.ireturn, 0, 0, 0, 0, [], []), none, none, none, none, none, none, none, none, none, none, none, none, none]]
/-- X8_copy -/
def qm_190 : qs_E := (RX8, yX8_copy, cX8_copy, 7, some .int, 1, 5, 1, qc_190, [6073, 6071, 1009, 6072])
def qc_191 : List (List (Option qs_Row)) := [[some (.iload_n 1, 1, 0, 0, 0, [], []), some (.invokestatic 276, 185, 10, 0, 0, [], [6078, 0]), none, none, some (.ifCond .eq 37, 41, 0, 0, 0, [], []), none, none, some (.iload_n 2, 2, 0, 0, 0, [], []), some (.iconst 0, 0, 0, 0, 0, [], []), some (.iconst 3, 0, 0, 0, 3, [], []), some (.invokestatic 79, 108, 26, 0, 0, [], [4232, 0]), none, none, some (.ifCond .eq 28, 41, 0, 0, 0, [], []), none, none],
  [some (.iload_n 2, 2, 0, 0, 0, [], []), some (.iconst 1, 0, 0, 0, 1, [], []), some (.if_icmp .ne 11, 29, 0, 0, 0, [], []), none, none, some (.aload_n 0, 0, 0, 0, 0, [], []), some (.iload_n 3, 3, 0, 0, 0, [], []), some (.invokevirtual 118, 111, 10, 8, 0, [], [5012, 0]), none, none, some (.ifCond .eq 15, 41, 0, 0, 0, [], []), none, none, some (.iload_n 2, 2, 0, 0, 0, [], []), some (.iconst 2, 0, 0, 0, 2, [], []), some (.if_icmp .ne 13, 44, 0, 0, 0, [], [])],
  [none, none, some (.iload_n 3, 3, 0, 0, 0, [], []), some (.invokestatic 201, 184, 10, 0, 0, [], [5215, 0]), none, none, some (.ifCond .ne 6, 44, 0, 0, 0, [], []), none, none, some (.ldc 91, 0, 0, 0, (-1000000001), [], [4238]), none, some (.ireturn, 0, 0, 0, 0, [], []), some (.iload_n 2, 2, 0, 0, 0, [], []), some (.iconst 2, 0, 0, 0, 2, [], []), some (.if_icmp .ne 15, 61, 0, 0, 0, [], []), none],
  [none, some (.aload_n 0, 0, 0, 0, 0, [], []), some (.getfield 52, 8, 26, 1, 0, [], [4142]), none, none, some (.iload_n 3, 3, 0, 0, 0, [], []), some (.iaload, 20, 0, 0, 0, [], []), some (.ifCond .ge 6, 61, 0, 0, 0, [], []), none, none, some (.ldc 204, 0, 0, 0, (-1000000011), [], [5218]), none, some (.ireturn, 0, 0, 0, 0, [], []), some (.aload_n 0, 0, 0, 0, 0, [], []), some (.getfield 61, 8, 29, 1, 0, [], [4145]), none],
  [none, some (.iload_n 1, 1, 0, 0, 0, [], []), some (.iaload, 20, 0, 0, 0, [], []), some (.istore 4, 4, 0, 0, 0, [], []), none, some (.aload_n 0, 0, 0, 0, 0, [], []), some (.getfield 61, 8, 29, 1, 0, [], [4145]), none, none, some (.iload_n 1, 1, 0, 0, 0, [], []), some (.iload_n 2, 2, 0, 0, 0, [], []), some (.iastore, 0, 0, 0, 0, [], []), some (.aload_n 0, 0, 0, 0, 0, [], []), some (.getfield 64, 8, 30, 1, 0, [], [4146]), none, none],
  [some (.iload_n 1, 1, 0, 0, 0, [], []), some (.iload_n 2, 2, 0, 0, 0, [], []), some (.iconst 1, 0, 0, 0, 1, [], []), some (.if_icmp .ne 12, 95, 0, 0, 0, [], []), none, none, some (.aload_n 0, 0, 0, 0, 0, [], []), some (.iload_n 3, 3, 0, 0, 0, [], []), some (.iconst 0, 0, 0, 0, 0, [], []), some (.invokevirtual 97, 112, 17, 8, 0, [], [5016, 0]), none, none, some (.goto 18, 110, 0, 0, 0, [], []), none, none, some (.iload_n 2, 2, 0, 0, 0, [], [])],
  [some (.iconst 2, 0, 0, 0, 2, [], []), some (.if_icmp .ne 12, 109, 0, 0, 0, [], []), none, none, some (.aload_n 0, 0, 0, 0, 0, [], []), some (.getfield 55, 8, 27, 1, 0, [], [4143]), none, none, some (.iload_n 3, 3, 0, 0, 0, [], []), some (.iaload, 20, 0, 0, 0, [], []), some (.goto 4, 110, 0, 0, 0, [], []), none, none, some (.iload_n 3, 3, 0, 0, 0, [], []), some (.iastore, 0, 0, 0, 0, [], []), some (.aload_n 0, 0, 0, 0, 0, [], [])],
  [some (.getfield 67, 8, 31, 1, 0, [], [4147]), none, none, some (.iload_n 1, 1, 0, 0, 0, [], []), some (.iload_n 2, 2, 0, 0, 0, [], []), some (.iconst 1, 0, 0, 0, 1, [], []), some (.if_icmp .ne 11, 129, 0, 0, 0, [], []), none, none, some (.aload_n 0, 0, 0, 0, 0, [], []), some (.iload_n 3, 3, 0, 0, 0, [], []), some (.invokevirtual 134, 122, 9, 8, 0, [], [5058, 0]), none, none, some (.goto 4, 130, 0, 0, 0, [], []), none],
  [none, some (.iconst 0, 0, 0, 0, 0, [], []), some (.iastore, 0, 0, 0, 0, [], []), some (.iconst 0, 0, 0, 0, 0, [], []), some (.istore 5, 5, 0, 0, 0, [], []), none, some (.iload 5, 5, 0, 0, 0, [], []), none, some (.bipush 24, 0, 0, 0, 24, [], []), none, some (.if_icmp .ge 38, 176, 0, 0, 0, [], []), none, none, some (.iload_n 2, 2, 0, 0, 0, [], []), some (.iconst 2, 0, 0, 0, 2, [], []), some (.if_icmp .ne 33, 176, 0, 0, 0, [], [])],
  [none, none, some (.aload_n 0, 0, 0, 0, 0, [], []), some (.getfield 70, 8, 32, 1, 0, [], [4148]), none, none, some (.bipush 24, 0, 0, 0, 24, [], []), none, some (.iload_n 1, 1, 0, 0, 0, [], []), some (.imul, 0, 0, 0, 0, [], []), some (.iload 5, 5, 0, 0, 0, [], []), none, some (.iadd, 0, 0, 0, 0, [], []), some (.aload_n 0, 0, 0, 0, 0, [], []), some (.getfield 58, 8, 28, 1, 0, [], [4144]), none],
  [none, some (.bipush 24, 0, 0, 0, 24, [], []), none, some (.iload_n 3, 3, 0, 0, 0, [], []), some (.imul, 0, 0, 0, 0, [], []), some (.iload 5, 5, 0, 0, 0, [], []), none, some (.iadd, 0, 0, 0, 0, [], []), some (.iaload, 20, 0, 0, 0, [], []), some (.iastore, 0, 0, 0, 0, [], []), some (.iinc 5 1, 5, 0, 0, 1, [], []), none, none, some (.goto (-39), 134, 0, 0, 0, [], []), none, none],
  [some (.iload 4, 4, 0, 0, 0, [], []), none, some (.ireturn, 0, 0, 0, 0, [], []), none, none, none, none, none, none, none, none, none, none, none, none, none]]
/-- X8_lay -/
def qm_191 : qs_E := (RX8, yX8_lay, cX8_lay, 6, some .int, 1, 3, 1, qc_191, [6077, 6075, 1009, 6076])
def qc_192 : List (List (Option qs_Row)) := [[some (.iload_n 1, 1, 0, 0, 0, [], []), some (.invokestatic 276, 185, 10, 0, 0, [], [6078, 0]), none, none, some (.ifCond .eq 12, 16, 0, 0, 0, [], []), none, none, some (.iload_n 2, 2, 0, 0, 0, [], []), some (.iconst 0, 0, 0, 0, 0, [], []), some (.iconst 5, 0, 0, 0, 5, [], []), some (.invokestatic 79, 108, 26, 0, 0, [], [4232, 0]), none, none, some (.ifCond .ne 6, 19, 0, 0, 0, [], []), none, none],
  [some (.ldc 91, 0, 0, 0, (-1000000001), [], [4238]), none, some (.ireturn, 0, 0, 0, 0, [], []), some (.aload_n 0, 0, 0, 0, 0, [], []), some (.getfield 61, 8, 29, 1, 0, [], [4145]), none, none, some (.iload_n 1, 1, 0, 0, 0, [], []), some (.iaload, 20, 0, 0, 0, [], []), some (.ifCond .ne 6, 31, 0, 0, 0, [], []), none, none, some (.ldc 204, 0, 0, 0, (-1000000011), [], [5218]), none, some (.ireturn, 0, 0, 0, 0, [], []), some (.aload_n 0, 0, 0, 0, 0, [], [])],
  [some (.getfield 61, 8, 29, 1, 0, [], [4145]), none, none, some (.iload_n 1, 1, 0, 0, 0, [], []), some (.iaload, 20, 0, 0, 0, [], []), some (.iconst 1, 0, 0, 0, 1, [], []), some (.if_icmp .ne 25, 63, 0, 0, 0, [], []), none, none, some (.aload_n 0, 0, 0, 0, 0, [], []), some (.getfield 64, 8, 30, 1, 0, [], [4146]), none, none, some (.iload_n 1, 1, 0, 0, 0, [], []), some (.iaload, 20, 0, 0, 0, [], []), some (.iload_n 2, 2, 0, 0, 0, [], [])],
  [some (.invokestatic 137, 126, 18, 0, 0, [], [5066, 0]), none, none, some (.ifCond .eq 12, 63, 0, 0, 0, [], []), none, none, some (.aload_n 0, 0, 0, 0, 0, [], []), some (.getfield 67, 8, 31, 1, 0, [], [4147]), none, none, some (.iload_n 1, 1, 0, 0, 0, [], []), some (.iaload, 20, 0, 0, 0, [], []), some (.goto 5, 65, 0, 0, 0, [], []), none, none, some (.ldc 140, 0, 0, 0, (-1000000012), [], [5069])],
  [none, some (.ireturn, 0, 0, 0, 0, [], []), none, none, none, none, none, none, none, none, none, none, none, none, none, none]]
/-- X8_ask -/
def qm_192 : qs_E := (RX8, yX8_ask, cX8_ask, 3, some .int, 1, 2, 1, qc_192, [6084, 6082, 1009, 6083])
def qc_193 : List (List (Option qs_Row)) := [[some (.iload_n 1, 1, 0, 0, 0, [], []), some (.invokestatic 276, 185, 10, 0, 0, [], [6078, 0]), none, none, some (.ifCond .ne 6, 10, 0, 0, 0, [], []), none, none, some (.ldc 91, 0, 0, 0, (-1000000001), [], [4238]), none, some (.ireturn, 0, 0, 0, 0, [], []), some (.aload_n 0, 0, 0, 0, 0, [], []), some (.getfield 61, 8, 29, 1, 0, [], [4145]), none, none, some (.iload_n 1, 1, 0, 0, 0, [], []), some (.iaload, 20, 0, 0, 0, [], [])],
  [some (.ifCond .ne 6, 22, 0, 0, 0, [], []), none, none, some (.ldc 204, 0, 0, 0, (-1000000011), [], [5218]), none, some (.ireturn, 0, 0, 0, 0, [], []), some (.aload_n 0, 0, 0, 0, 0, [], []), some (.getfield 61, 8, 29, 1, 0, [], [4145]), none, none, some (.iload_n 1, 1, 0, 0, 0, [], []), some (.iaload, 20, 0, 0, 0, [], []), some (.iconst 2, 0, 0, 0, 2, [], []), some (.if_icmp .eq 6, 35, 0, 0, 0, [], []), none, none],
  [some (.ldc 140, 0, 0, 0, (-1000000012), [], [5069]), none, some (.ireturn, 0, 0, 0, 0, [], []), some (.iload_n 2, 2, 0, 0, 0, [], []), some (.iconst 0, 0, 0, 0, 0, [], []), some (.aload_n 0, 0, 0, 0, 0, [], []), some (.getfield 64, 8, 30, 1, 0, [], [4146]), none, none, some (.iload_n 1, 1, 0, 0, 0, [], []), some (.iaload, 20, 0, 0, 0, [], []), some (.iconst 1, 0, 0, 0, 1, [], []), some (.isub, 0, 0, 0, 0, [], []), some (.invokestatic 79, 108, 26, 0, 0, [], [4232, 0]), none, none],
  [some (.ifCond .ne 7, 55, 0, 0, 0, [], []), none, none, some (.ldc_w 273, 0, 0, 0, (-1000000013), [], [6059]), none, none, some (.ireturn, 0, 0, 0, 0, [], []), some (.aload_n 0, 0, 0, 0, 0, [], []), some (.getfield 70, 8, 32, 1, 0, [], [4148]), none, none, some (.bipush 24, 0, 0, 0, 24, [], []), none, some (.iload_n 1, 1, 0, 0, 0, [], []), some (.imul, 0, 0, 0, 0, [], []), some (.iload_n 2, 2, 0, 0, 0, [], [])],
  [some (.iadd, 0, 0, 0, 0, [], []), some (.iaload, 20, 0, 0, 0, [], []), some (.istore_n 3, 3, 0, 0, 0, [], []), some (.iload_n 3, 3, 0, 0, 0, [], []), some (.ldc 175, 0, 0, 0, (-1000000005), [], [5167]), none, some (.if_icmp .ne 8, 78, 0, 0, 0, [], []), none, none, some (.ldc 140, 0, 0, 0, (-1000000012), [], [5069]), none, some (.goto 4, 79, 0, 0, 0, [], []), none, none, some (.iload_n 3, 3, 0, 0, 0, [], []), some (.ireturn, 0, 0, 0, 0, [], [])]]
/-- X8_item -/
def qm_193 : qs_E := (RX8, yX8_item, cX8_item, 4, some .int, 1, 2, 1, qc_193, [6088, 6086, 1009, 6087])
def qc_194 : List (List (Option qs_Row)) := [[some (.iload_n 1, 1, 0, 0, 0, [], []), some (.invokestatic 276, 185, 10, 0, 0, [], [6078, 0]), none, none, some (.ifCond .ne 6, 10, 0, 0, 0, [], []), none, none, some (.ldc 91, 0, 0, 0, (-1000000001), [], [4238]), none, some (.ireturn, 0, 0, 0, 0, [], []), some (.aload_n 0, 0, 0, 0, 0, [], []), some (.getfield 61, 8, 29, 1, 0, [], [4145]), none, none, some (.iload_n 1, 1, 0, 0, 0, [], []), some (.iaload, 20, 0, 0, 0, [], [])],
  [some (.ifCond .ne 6, 22, 0, 0, 0, [], []), none, none, some (.ldc 204, 0, 0, 0, (-1000000011), [], [5218]), none, some (.ireturn, 0, 0, 0, 0, [], []), some (.aload_n 0, 0, 0, 0, 0, [], []), some (.getfield 61, 8, 29, 1, 0, [], [4145]), none, none, some (.iload_n 1, 1, 0, 0, 0, [], []), some (.iaload, 20, 0, 0, 0, [], []), some (.iconst 3, 0, 0, 0, 3, [], []), some (.if_icmp .eq 6, 35, 0, 0, 0, [], []), none, none],
  [some (.ldc 140, 0, 0, 0, (-1000000012), [], [5069]), none, some (.ireturn, 0, 0, 0, 0, [], []), some (.iload_n 2, 2, 0, 0, 0, [], []), some (.ifCond .ne 9, 45, 0, 0, 0, [], []), none, none, some (.ldc_w 279, 0, 0, 0, (-1000000002), [], [6093]), none, none, some (.goto 20, 62, 0, 0, 0, [], []), none, none, some (.iload_n 2, 2, 0, 0, 0, [], []), some (.iconst (-1), 0, 0, 0, (-1), [], []), some (.if_icmp .ne 7, 54, 0, 0, 0, [], [])],
  [none, none, some (.iconst 0, 0, 0, 0, 0, [], []), some (.goto 11, 62, 0, 0, 0, [], []), none, none, some (.aload_n 0, 0, 0, 0, 0, [], []), some (.getfield 64, 8, 30, 1, 0, [], [4146]), none, none, some (.iload_n 1, 1, 0, 0, 0, [], []), some (.iaload, 20, 0, 0, 0, [], []), some (.iload_n 2, 2, 0, 0, 0, [], []), some (.irem, 0, 0, 0, 0, [], []), some (.ireturn, 0, 0, 0, 0, [], []), none]]
/-- X8_rest -/
def qm_194 : qs_E := (RX8, yX8_rest, cX8_rest, 3, some .int, 1, 2, 1, qc_194, [6092, 6090, 1009, 6091])
def qc_195 : List (List (Option qs_Row)) := [[some (.aload_n 0, 0, 0, 0, 0, [], []), some (.getfield 280, 8, 35, 0, 0, [], [4151]), none, none, some (.bipush 60, 0, 0, 0, 60, [], []), none, some (.if_icmp .ne 6, 12, 0, 0, 0, [], []), none, none, some (.ldc 92, 0, 0, 0, (-1000000003), [], [4239]), none, some (.ireturn, 0, 0, 0, 0, [], []), some (.aload_n 0, 0, 0, 0, 0, [], []), some (.getfield 76, 8, 34, 1, 0, [], [4150]), none, none],
  [some (.aload_n 0, 0, 0, 0, 0, [], []), some (.getfield 280, 8, 35, 0, 0, [], [4151]), none, none, some (.iload_n 1, 1, 0, 0, 0, [], []), some (.iastore, 0, 0, 0, 0, [], []), some (.aload_n 0, 0, 0, 0, 0, [], []), some (.dup, 0, 0, 0, 0, [], []), some (.getfield 280, 8, 35, 0, 0, [], [4151]), none, none, some (.iconst 1, 0, 0, 0, 1, [], []), some (.iadd, 0, 0, 0, 0, [], []), some (.putfield 280, 8, 35, 0, 0, [], [4151]), none, none],
  [some (.aload_n 0, 0, 0, 0, 0, [], []), some (.getfield 280, 8, 35, 0, 0, [], [4151]), none, none, some (.ireturn, 0, 0, 0, 0, [], []), none, none, none, none, none, none, none, none, none, none, none]]
/-- X8_tell -/
def qm_195 : qs_E := (RX8, yX8_tell, cX8_tell, 2, some .int, 1, 1, 1, qc_195, [6097, 6095, 1009, 6096])
def qc_196 : List (List (Option qs_Row)) := [[some (.aload_n 0, 0, 0, 0, 0, [], []), some (.getfield 280, 8, 35, 0, 0, [], [4151]), none, none, some (.istore_n 2, 2, 0, 0, 0, [], []), some (.aload_n 0, 0, 0, 0, 0, [], []), some (.iconst 0, 0, 0, 0, 0, [], []), some (.putfield 280, 8, 35, 0, 0, [], [4151]), none, none, some (.iload_n 1, 1, 0, 0, 0, [], []), some (.iconst 1, 0, 0, 0, 1, [], []), some (.bipush 30, 0, 0, 0, 30, [], []), none, some (.invokestatic 79, 108, 26, 0, 0, [], [4232, 0]), none],
  [none, some (.ifCond .ne 6, 23, 0, 0, 0, [], []), none, none, some (.ldc 91, 0, 0, 0, (-1000000001), [], [4238]), none, some (.ireturn, 0, 0, 0, 0, [], []), some (.aload_n 0, 0, 0, 0, 0, [], []), some (.getfield 283, 8, 3, 2, 0, [], [4119]), none, none, some (.ifCond .ne 7, 34, 0, 0, 0, [], []), none, none, some (.ldc_w 279, 0, 0, 0, (-1000000002), [], [6093]), none],
  [none, some (.ireturn, 0, 0, 0, 0, [], []), some (.aload_n 0, 0, 0, 0, 0, [], []), some (.getfield 9, 8, 0, 1, 0, [], [4116]), none, none, some (.aload_n 0, 0, 0, 0, 0, [], []), some (.getfield 16, 8, 2, 1, 0, [], [4118]), none, none, some (.invokestatic 287, 110, 16, 0, 0, [], [6102, 0]), none, none, some (.aload_n 0, 0, 0, 0, 0, [], []), some (.getfield 13, 8, 1, 1, 0, [], [4117]), none],
  [none, some (.aload_n 0, 0, 0, 0, 0, [], []), some (.getfield 9, 8, 0, 1, 0, [], [4116]), none, none, some (.invokestatic 287, 110, 16, 0, 0, [], [6102, 0]), none, none, some (.iconst 2, 0, 0, 0, 2, [], []), some (.sipush 9999, 0, 0, 0, 9999, [], []), none, none, some (.aload_n 0, 0, 0, 0, 0, [], []), some (.getfield 9, 8, 0, 1, 0, [], [4116]), none, none],
  [some (.iconst 2, 0, 0, 0, 2, [], []), some (.iaload, 20, 0, 0, 0, [], []), some (.isub, 0, 0, 0, 0, [], []), some (.iconst 0, 0, 0, 0, 0, [], []), some (.iload_n 1, 1, 0, 0, 0, [], []), some (.invokestatic 101, 109, 25, 0, 0, [], [5024, 0]), none, none, some (.imul, 0, 0, 0, 0, [], []), some (.istore_n 3, 3, 0, 0, 0, [], []), some (.iconst 0, 0, 0, 0, 0, [], []), some (.istore 4, 4, 0, 0, 0, [], []), none, some (.iconst 0, 0, 0, 0, 0, [], []), some (.istore 5, 5, 0, 0, 0, [], []), none],
  [some (.iconst 2, 0, 0, 0, 2, [], []), some (.iload 5, 5, 0, 0, 0, [], []), none, some (.imul, 0, 0, 0, 0, [], []), some (.iload_n 3, 3, 0, 0, 0, [], []), some (.if_icmp .ge 96, 181, 0, 0, 0, [], []), none, none, some (.iload 4, 4, 0, 0, 0, [], []), none, some (.iconst 2, 0, 0, 0, 2, [], []), some (.iload 5, 5, 0, 0, 0, [], []), none, some (.imul, 0, 0, 0, 0, [], []), some (.if_icmp .ne 87, 181, 0, 0, 0, [], []), none],
  [none, some (.aload_n 0, 0, 0, 0, 0, [], []), some (.invokevirtual 160, 139, 0, 8, 0, [], [5123, 0]), none, none, some (.iload 4, 4, 0, 0, 0, [], []), none, some (.iload 4, 4, 0, 0, 0, [], []), none, some (.iload_n 2, 2, 0, 0, 0, [], []), some (.if_icmp .ge 24, 130, 0, 0, 0, [], []), none, none, some (.aload_n 0, 0, 0, 0, 0, [], []), some (.getfield 76, 8, 34, 1, 0, [], [4150]), none],
  [none, some (.iload 4, 4, 0, 0, 0, [], []), none, some (.iaload, 20, 0, 0, 0, [], []), some (.aload_n 0, 0, 0, 0, 0, [], []), some (.getfield 9, 8, 0, 1, 0, [], [4116]), none, none, some (.bipush 6, 0, 0, 0, 6, [], []), none, some (.iaload, 20, 0, 0, 0, [], []), some (.if_icmp .ne 7, 130, 0, 0, 0, [], []), none, none, some (.iconst 1, 0, 0, 0, 1, [], []), some (.goto 4, 131, 0, 0, 0, [], [])],
  [none, none, some (.iconst 0, 0, 0, 0, 0, [], []), some (.iadd, 0, 0, 0, 0, [], []), some (.istore 4, 4, 0, 0, 0, [], []), none, some (.iload 4, 4, 0, 0, 0, [], []), none, some (.iload 4, 4, 0, 0, 0, [], []), none, some (.iconst 2, 0, 0, 0, 2, [], []), some (.iload 5, 5, 0, 0, 0, [], []), none, some (.imul, 0, 0, 0, 0, [], []), some (.iconst 1, 0, 0, 0, 1, [], []), some (.iadd, 0, 0, 0, 0, [], [])],
  [some (.if_icmp .ne 27, 171, 0, 0, 0, [], []), none, none, some (.iload 4, 4, 0, 0, 0, [], []), none, some (.iload_n 2, 2, 0, 0, 0, [], []), some (.if_icmp .ge 21, 171, 0, 0, 0, [], []), none, none, some (.aload_n 0, 0, 0, 0, 0, [], []), some (.getfield 76, 8, 34, 1, 0, [], [4150]), none, none, some (.iload 4, 4, 0, 0, 0, [], []), none, some (.iaload, 20, 0, 0, 0, [], [])],
  [some (.aload_n 0, 0, 0, 0, 0, [], []), some (.invokevirtual 172, 143, 1, 8, 0, [], [5143, 0]), none, none, some (.if_icmp .ne 7, 171, 0, 0, 0, [], []), none, none, some (.iconst 1, 0, 0, 0, 1, [], []), some (.goto 4, 172, 0, 0, 0, [], []), none, none, some (.iconst 0, 0, 0, 0, 0, [], []), some (.iadd, 0, 0, 0, 0, [], []), some (.istore 4, 4, 0, 0, 0, [], []), none, some (.iinc 5 1, 5, 0, 0, 1, [], [])],
  [none, none, some (.goto (-98), 80, 0, 0, 0, [], []), none, none, some (.aload_n 0, 0, 0, 0, 0, [], []), some (.getfield 16, 8, 2, 1, 0, [], [4118]), none, none, some (.aload_n 0, 0, 0, 0, 0, [], []), some (.getfield 9, 8, 0, 1, 0, [], [4116]), none, none, some (.invokestatic 287, 110, 16, 0, 0, [], [6102, 0]), none, none],
  [some (.iload 4, 4, 0, 0, 0, [], []), none, some (.iload_n 2, 2, 0, 0, 0, [], []), some (.if_icmp .ne 13, 208, 0, 0, 0, [], []), none, none, some (.iload 4, 4, 0, 0, 0, [], []), none, some (.iload_n 3, 3, 0, 0, 0, [], []), some (.if_icmp .ne 7, 208, 0, 0, 0, [], []), none, none, some (.iconst 0, 0, 0, 0, 0, [], []), some (.goto 7, 212, 0, 0, 0, [], []), none, none],
  [some (.iconst 1, 0, 0, 0, 1, [], []), some (.iload 4, 4, 0, 0, 0, [], []), none, some (.iadd, 0, 0, 0, 0, [], []), some (.ireturn, 0, 0, 0, 0, [], []), none, none, none, none, none, none, none, none, none, none, none]]
/-- X8_check -/
def qm_196 : qs_E := (RX8, yX8_check, cX8_check, 6, some .int, 1, 1, 1, qc_196, [6101, 6099, 1009, 6100])
def qc_197 : List (List (Option qs_Row)) := [[some (.aload_n 0, 0, 0, 0, 0, [], []), some (.getfield 9, 8, 0, 1, 0, [], [4116]), none, none, some (.aload_n 0, 0, 0, 0, 0, [], []), some (.getfield 13, 8, 1, 1, 0, [], [4117]), none, none, some (.invokestatic 287, 110, 16, 0, 0, [], [6102, 0]), none, none, some (.aload_n 0, 0, 0, 0, 0, [], []), some (.iconst 1, 0, 0, 0, 1, [], []), some (.putfield 283, 8, 3, 2, 0, [], [4119]), none, none],
  [some (.aload_n 0, 0, 0, 0, 0, [], []), some (.getfield 9, 8, 0, 1, 0, [], [4116]), none, none, some (.iconst 1, 0, 0, 0, 1, [], []), some (.iaload, 20, 0, 0, 0, [], []), some (.ireturn, 0, 0, 0, 0, [], []), none, none, none, none, none, none, none, none, none]]
/-- X8_keep -/
def qm_197 : qs_E := (RX8, yX8_keep, cX8_keep, 1, some .int, 1, 0, 1, qc_197, [6108, 6106, 1009, 6107])
def qc_198 : List (List (Option qs_Row)) := [[some (.aload_n 0, 0, 0, 0, 0, [], []), some (.getfield 283, 8, 3, 2, 0, [], [4119]), none, none, some (.ifCond .ne 7, 11, 0, 0, 0, [], []), none, none, some (.ldc_w 279, 0, 0, 0, (-1000000002), [], [6093]), none, none, some (.ireturn, 0, 0, 0, 0, [], []), some (.aload_n 0, 0, 0, 0, 0, [], []), some (.getfield 13, 8, 1, 1, 0, [], [4117]), none, none, some (.aload_n 0, 0, 0, 0, 0, [], [])],
  [some (.getfield 9, 8, 0, 1, 0, [], [4116]), none, none, some (.invokestatic 287, 110, 16, 0, 0, [], [6102, 0]), none, none, some (.aload_n 0, 0, 0, 0, 0, [], []), some (.getfield 9, 8, 0, 1, 0, [], [4116]), none, none, some (.iconst 1, 0, 0, 0, 1, [], []), some (.iaload, 20, 0, 0, 0, [], []), some (.ireturn, 0, 0, 0, 0, [], []), none, none, none]]
/-- X8_back -/
def qm_198 : qs_E := (RX8, yX8_back, cX8_back, 1, some .int, 1, 0, 1, qc_198, [6112, 6110, 1009, 6111])
def qc_199 : List (List (Option qs_Row)) := [[some (.iload_n 1, 1, 0, 0, 0, [], []), some (.tableswitch 100 0 7 #[47, 54, 61, 68, 75, 83, 88, 93], 101, 47, 0, 0, [(0, 48), (1, 55), (2, 62), (3, 69), (4, 76), (5, 84), (6, 89), (7, 94)], []), none, none, none, none, none, none, none, none, none, none, none, none, none, none],
  [none, none, none, none, none, none, none, none, none, none, none, none, none, none, none, none],
  [none, none, none, none, none, none, none, none, none, none, none, none, none, none, none, none],
  [some (.aload_n 0, 0, 0, 0, 0, [], []), some (.getfield 9, 8, 0, 1, 0, [], [4116]), none, none, some (.iconst 1, 0, 0, 0, 1, [], []), some (.iaload, 20, 0, 0, 0, [], []), some (.ireturn, 0, 0, 0, 0, [], []), some (.aload_n 0, 0, 0, 0, 0, [], []), some (.getfield 9, 8, 0, 1, 0, [], [4116]), none, none, some (.iconst 2, 0, 0, 0, 2, [], []), some (.iaload, 20, 0, 0, 0, [], []), some (.ireturn, 0, 0, 0, 0, [], []), some (.aload_n 0, 0, 0, 0, 0, [], []), some (.getfield 9, 8, 0, 1, 0, [], [4116])],
  [none, none, some (.iconst 4, 0, 0, 0, 4, [], []), some (.iaload, 20, 0, 0, 0, [], []), some (.ireturn, 0, 0, 0, 0, [], []), some (.aload_n 0, 0, 0, 0, 0, [], []), some (.getfield 9, 8, 0, 1, 0, [], [4116]), none, none, some (.iconst 5, 0, 0, 0, 5, [], []), some (.iaload, 20, 0, 0, 0, [], []), some (.ireturn, 0, 0, 0, 0, [], []), some (.aload_n 0, 0, 0, 0, 0, [], []), some (.getfield 9, 8, 0, 1, 0, [], [4116]), none, none],
  [some (.bipush 11, 0, 0, 0, 11, [], []), none, some (.iaload, 20, 0, 0, 0, [], []), some (.ireturn, 0, 0, 0, 0, [], []), some (.aload_n 0, 0, 0, 0, 0, [], []), some (.getfield 280, 8, 35, 0, 0, [], [4151]), none, none, some (.ireturn, 0, 0, 0, 0, [], []), some (.aload_n 0, 0, 0, 0, 0, [], []), some (.getfield 205, 8, 9, 0, 0, [], [4125]), none, none, some (.ireturn, 0, 0, 0, 0, [], []), some (.aload_n 0, 0, 0, 0, 0, [], []), some (.getfield 9, 8, 0, 1, 0, [], [4116])],
  [none, none, some (.iconst 0, 0, 0, 0, 0, [], []), some (.iaload, 20, 0, 0, 0, [], []), some (.ireturn, 0, 0, 0, 0, [], []), some (.ldc 91, 0, 0, 0, (-1000000001), [], [4238]), none, some (.ireturn, 0, 0, 0, 0, [], []), none, none, none, none, none, none, none, none]]
/-- X8_count -/
def qm_199 : qs_E := (RX8, yX8_count, cX8_count, 2, some .int, 1, 1, 1, qc_199, [6116, 6114, 1009, 6115])
def qc_200 : List (List (Option qs_Row)) := [[some (.aload_n 0, 0, 0, 0, 0, [], []), some (.getfield 9, 90, 0, 1, 0, [], [6117]), none, none, some (.arraylength, 24, 0, 0, 0, [], []), some (.aload_n 0, 0, 0, 0, 0, [], []), some (.invokevirtual 335, 204, 4, 90, 0, [], [3126, 0]), none, none, some (.ishr, 0, 0, 0, 0, [], []), some (.ireturn, 0, 0, 0, 0, [], []), none, none, none, none, none]]
/-- J0_length_8abf5 -/
def qm_200 : qs_E := ("java/lang/String", yJ0_length_8abf5, cJ0_length_8abf5, 1, some .int, 1, 0, 1, qc_200, [3125, 3123, 1011, 3124])
def qc_201 : List (List (Option qs_Row)) := [[some (.aload_n 0, 0, 0, 0, 0, [], []), some (.invokevirtual 492, 205, 2, 90, 0, [], [3136, 0]), none, none, some (.ifCond .eq 12, 16, 0, 0, 0, [], []), none, none, some (.aload_n 0, 0, 0, 0, 0, [], []), some (.getfield 9, 90, 0, 1, 0, [], [6117]), none, none, some (.iload_n 1, 1, 0, 0, 0, [], []), some (.invokestatic 495, 207, 19, 0, 0, [], [3140, 0]), none, none, some (.ireturn, 0, 0, 0, 0, [], [])],
  [some (.aload_n 0, 0, 0, 0, 0, [], []), some (.getfield 9, 90, 0, 1, 0, [], [6117]), none, none, some (.iload_n 1, 1, 0, 0, 0, [], []), none, none, none, some (.ireturn, 0, 0, 0, 0, [], []), none, none, none, none, none, none, none]]
/-- J0_charAt_5068e -/
def qm_201 : qs_E := ("java/lang/String", yJ0_charAt_5068e, cJ0_charAt_5068e, 2, some .char, 1, 1, 3, qc_201, [3135, 3133, 1011, 3134])
def qc_202 : List (List (Option qs_Row)) := [[some (.aload_n 0, 0, 0, 0, 0, [], []), some (.iload_n 1, 1, 0, 0, 0, [], []), some (.iconst 0, 0, 0, 0, 0, [], []), some (.invokevirtual 633, 203, 17, 90, 0, [], [3196, 0]), none, none, some (.ireturn, 0, 0, 0, 0, [], []), none, none, none, none, none, none, none, none, none]]
/-- J0_indexOf_0f7a4 -/
def qm_202 : qs_E := ("java/lang/String", yJ0_indexOf_0f7a4, cJ0_indexOf_0f7a4, 2, some .int, 1, 1, 1, qc_202, [3195, 3193, 1011, 3194])
def qc_203 : List (List (Option qs_Row)) := [[some (.aload_n 0, 0, 0, 0, 0, [], []), some (.invokevirtual 492, 205, 2, 90, 0, [], [3136, 0]), none, none, some (.ifCond .eq 19, 23, 0, 0, 0, [], []), none, none, some (.aload_n 0, 0, 0, 0, 0, [], []), some (.getfield 9, 90, 0, 1, 0, [], [6117]), none, none, some (.iload_n 1, 1, 0, 0, 0, [], []), some (.iload_n 2, 2, 0, 0, 0, [], []), some (.aload_n 0, 0, 0, 0, 0, [], []), some (.invokevirtual 505, 200, 1, 90, 0, [], [3200, 0]), none],
  [none, some (.invokestatic 637, 209, 33, 0, 0, [], [3201, 0]), none, none, some (.goto 16, 36, 0, 0, 0, [], []), none, none, some (.aload_n 0, 0, 0, 0, 0, [], []), some (.getfield 9, 90, 0, 1, 0, [], [6117]), none, none, some (.iload_n 1, 1, 0, 0, 0, [], []), some (.iload_n 2, 2, 0, 0, 0, [], []), some (.aload_n 0, 0, 0, 0, 0, [], []), some (.invokevirtual 505, 200, 1, 90, 0, [], [3200, 0]), none],
  [none, none, none, none, some (.ireturn, 0, 0, 0, 0, [], []), none, none, none, none, none, none, none, none, none, none, none]]
/-- J0_indexOf_7cf53 -/
def qm_203 : qs_E := ("java/lang/String", yJ0_indexOf_7cf53, cJ0_indexOf_7cf53, 3, some .int, 1, 2, 1, qc_203, [3199, 3197, 1011, 3198])
def qc_204 : List (List (Option qs_Row)) := [[some (.getstatic 38, 0, 0, 0, 1, [], [3130]), none, none, some (.ifCond .eq 10, 13, 0, 0, 0, [], []), none, none, some (.aload_n 0, 0, 0, 0, 0, [], []), some (.getfield 15, 90, 1, 0, 0, [], [6118]), none, none, some (.goto 4, 14, 0, 0, 0, [], []), none, none, some (.iconst 1, 0, 0, 0, 1, [], []), some (.ireturn, 0, 0, 0, 0, [], []), none]]
/-- J0_coder_7d493 -/
def qm_204 : qs_E := ("java/lang/String", yJ0_coder_7d493, cJ0_coder_7d493, 1, some .byte, 1, 0, 4, qc_204, [3129, 3127, 1011, 3128])
def qc_205 : List (List (Option qs_Row)) := [[some (.getstatic 38, 0, 0, 0, 1, [], [3130]), none, none, some (.ifCond .eq 14, 17, 0, 0, 0, [], []), none, none, some (.aload_n 0, 0, 0, 0, 0, [], []), some (.getfield 15, 90, 1, 0, 0, [], [6118]), none, none, some (.ifCond .ne 7, 17, 0, 0, 0, [], []), none, none, some (.iconst 1, 0, 0, 0, 1, [], []), some (.goto 4, 18, 0, 0, 0, [], []), none],
  [none, some (.iconst 0, 0, 0, 0, 0, [], []), some (.ireturn, 0, 0, 0, 0, [], []), none, none, none, none, none, none, none, none, none, none, none, none, none]]
/-- J0_isLatin1_aae02 -/
def qm_205 : qs_E := ("java/lang/String", yJ0_isLatin1_aae02, cJ0_isLatin1_aae02, 1, some .boolean, 1, 0, 2, qc_205, [3139, 3137, 1011, 3138])
def qc_206 : List (List (Option qs_Row)) := [[some (.iload_n 0, 0, 0, 0, 0, [], []), some (.iload_n 1, 1, 0, 0, 0, [], []), some (.getstatic 1053, 14, 0, 0, 0, [], [3146]), none, none, some (.invokestatic 1059, 211, 25, 0, 0, [], [3148, 0]), none, none, some (.pop, 0, 0, 0, 0, [], []), some (.return_, 0, 0, 0, 0, [], []), none, none, none, none, none, none]]
/-- J0_checkIndex_df160 -/
def qm_206 : qs_E := ("java/lang/String", yJ0_checkIndex_df160, cJ0_checkIndex_df160, 2, none, 0, 2, 0, qc_206, [3145, 3144, 1011])
def qc_207 : List (List (Option qs_Row)) := [[some (.iload_n 1, 1, 0, 0, 0, [], []), some (.aload_n 0, 0, 0, 0, 0, [], []), some (.arraylength, 24, 0, 0, 0, [], []), some (.invokestatic 9, 206, 16, 0, 0, [], [3143, 0]), none, none, some (.aload_n 0, 0, 0, 0, 0, [], []), some (.iload_n 1, 1, 0, 0, 0, [], []), some (.baload, 24, 0, 0, 0, [], []), some (.sipush 255, 0, 0, 0, 255, [], []), none, none, some (.iand, 0, 0, 0, 0, [], []), some (.i2c, 0, 0, 0, 0, [], []), some (.ireturn, 0, 0, 0, 0, [], []), none]]
/-- J1_charAt_3b067 -/
def qm_207 : qs_E := ("java/lang/StringLatin1", yJ1_charAt_3b067, cJ1_charAt_3b067, 2, some .char, 0, 2, 3, qc_207, [3142, 3141, 1012])
def qc_208 : List (List (Option qs_Row)) := [[some (.iload_n 0, 0, 0, 0, 0, [], []), some (.ifCond .lt 14, 15, 0, 0, 0, [], []), none, none, some (.iload_n 0, 0, 0, 0, 0, [], []), some (.sipush 255, 0, 0, 0, 255, [], []), none, none, some (.if_icmp .gt 7, 15, 0, 0, 0, [], []), none, none, some (.iconst 1, 0, 0, 0, 1, [], []), some (.goto 4, 16, 0, 0, 0, [], []), none, none, some (.iconst 0, 0, 0, 0, 0, [], [])],
  [some (.ireturn, 0, 0, 0, 0, [], []), none, none, none, none, none, none, none, none, none, none, none, none, none, none, none]]
/-- J1_canEncode_9a6ad -/
def qm_208 : qs_E := ("java/lang/StringLatin1", yJ1_canEncode_9a6ad, cJ1_canEncode_9a6ad, 1, some .boolean, 0, 1, 2, qc_208, [3206, 3205, 1012])
def qc_209 : List (List (Option qs_Row)) := [[some (.iload_n 1, 1, 0, 0, 0, [], []), some (.invokestatic 88, 208, 10, 0, 0, [], [3204, 0]), none, none, some (.ifCond .ne 5, 9, 0, 0, 0, [], []), none, none, some (.iconst (-1), 0, 0, 0, (-1), [], []), some (.ireturn, 0, 0, 0, 0, [], []), some (.iload_n 2, 2, 0, 0, 0, [], []), some (.iconst 0, 0, 0, 0, 0, [], []), some (.invokestatic 92, 1002, 0, 0, 0, [], [3207]), none, none, some (.istore_n 2, 2, 0, 0, 0, [], []), some (.iload_n 3, 3, 0, 0, 0, [], [])],
  [some (.aload_n 0, 0, 0, 0, 0, [], []), some (.arraylength, 24, 0, 0, 0, [], []), some (.invokestatic 38, 1003, 0, 0, 0, [], [3208]), none, none, some (.istore_n 3, 3, 0, 0, 0, [], []), some (.iload_n 2, 2, 0, 0, 0, [], []), some (.iload_n 3, 3, 0, 0, 0, [], []), some (.if_icmp .lt 5, 29, 0, 0, 0, [], []), none, none, some (.iconst (-1), 0, 0, 0, (-1), [], []), some (.ireturn, 0, 0, 0, 0, [], []), some (.aload_n 0, 0, 0, 0, 0, [], []), some (.iload_n 1, 1, 0, 0, 0, [], []), some (.iload_n 2, 2, 0, 0, 0, [], [])],
  [some (.iload_n 3, 3, 0, 0, 0, [], []), some (.invokestatic 95, 210, 33, 0, 0, [], [3209, 0]), none, none, some (.ireturn, 0, 0, 0, 0, [], []), none, none, none, none, none, none, none, none, none, none, none]]
/-- J1_indexOf_4cfef -/
def qm_209 : qs_E := ("java/lang/StringLatin1", yJ1_indexOf_4cfef, cJ1_indexOf_4cfef, 4, some .int, 0, 4, 1, qc_209, [3203, 3202, 1012])
def qc_210 : List (List (Option qs_Row)) := [[some (.iload_n 1, 1, 0, 0, 0, [], []), some (.i2b, 0, 0, 0, 0, [], []), some (.istore 4, 4, 0, 0, 0, [], []), none, some (.iload_n 2, 2, 0, 0, 0, [], []), some (.istore 5, 5, 0, 0, 0, [], []), none, some (.iload 5, 5, 0, 0, 0, [], []), none, some (.iload_n 3, 3, 0, 0, 0, [], []), some (.if_icmp .ge 21, 31, 0, 0, 0, [], []), none, none, some (.aload_n 0, 0, 0, 0, 0, [], []), some (.iload 5, 5, 0, 0, 0, [], []), none],
  [some (.baload, 24, 0, 0, 0, [], []), some (.iload 4, 4, 0, 0, 0, [], []), none, some (.if_icmp .ne 6, 25, 0, 0, 0, [], []), none, none, some (.iload 5, 5, 0, 0, 0, [], []), none, some (.ireturn, 0, 0, 0, 0, [], []), some (.iinc 5 1, 5, 0, 0, 1, [], []), none, none, some (.goto (-21), 7, 0, 0, 0, [], []), none, none, some (.iconst (-1), 0, 0, 0, (-1), [], [])],
  [some (.ireturn, 0, 0, 0, 0, [], []), none, none, none, none, none, none, none, none, none, none, none, none, none, none, none]]
/-- J1_indexOfChar_4cfef -/
def qm_210 : qs_E := ("java/lang/StringLatin1", yJ1_indexOfChar_4cfef, cJ1_indexOfChar_4cfef, 6, some .int, 0, 4, 1, qc_210, [3211, 3210, 1012])
def qc_211 : List (List (Option qs_Row)) := [[some (.iload_n 0, 0, 0, 0, 0, [], []), some (.ifCond .lt 8, 9, 0, 0, 0, [], []), none, none, some (.iload_n 0, 0, 0, 0, 0, [], []), some (.iload_n 1, 1, 0, 0, 0, [], []), some (.if_icmp .lt 10, 16, 0, 0, 0, [], []), none, none, some (.aload_n 2, 2, 0, 0, 0, [], []), some (.iload_n 0, 0, 0, 0, 0, [], []), some (.iload_n 1, 1, 0, 0, 0, [], []), none, none, none, none],
  [some (.iload_n 0, 0, 0, 0, 0, [], []), some (.ireturn, 0, 0, 0, 0, [], []), none, none, none, none, none, none, none, none, none, none, none, none, none, none]]
/-- J3_checkIndex_8e157 -/
def qm_211 : qs_E := ("jdk/internal/util/Preconditions", yJ3_checkIndex_8e157, cJ3_checkIndex_8e157, 3, some .int, 0, 3, 1, qc_211, [3150, 3149, 1013])
def qc_224_0 : List (List (Option qs_Row)) := [[some (.new 7, 7, 0, 0, 0, [], [1017]), none, none, some (.dup, 0, 0, 0, 0, [], []), some (.invokespecial 9, 52, 0, 7, 0, [], [1019, 0]), none, none, some (.astore_n 1, 1, 0, 0, 0, [], []), some (.new 10, 8, 0, 0, 0, [], [4110]), none, none, some (.dup, 0, 0, 0, 0, [], []), some (.invokespecial 12, 107, 0, 8, 0, [], [4112, 0]), none, none, some (.astore_n 2, 2, 0, 0, 0, [], [])],
  [some (.iconst 0, 0, 0, 0, 0, [], []), some (.istore_n 3, 3, 0, 0, 0, [], []), some (.iload_n 3, 3, 0, 0, 0, [], []), some (.aload_n 0, 0, 0, 0, 0, [], []), some (.arraylength, 2600, 0, 0, 0, [], []), some (.bipush 6, 0, 0, 0, 6, [], []), none, some (.isub, 0, 0, 0, 0, [], []), some (.if_icmp .gt 1508, 1532, 0, 0, 0, [], []), none, none, some (.aload_n 0, 0, 0, 0, 0, [], []), some (.iload_n 3, 3, 0, 0, 0, [], []), some (.iaload, 2600, 0, 0, 0, [], []), some (.bipush 63, 0, 0, 0, 63, [], []), none],
  [some (.iand, 0, 0, 0, 0, [], []), some (.tableswitch 1493 0 43 #[191, 244, 277, 310, 343, 386, 419, 452, 465, 488, 511, 534, 557, 580, 603, 636, 669, 682, 705, 748, 781, 824, 857, 890, 903, 926, 969, 992, 1005, 1038, 1061, 1104, 1147, 1170, 1193, 1256, 1299, 1332, 1365, 1398, 1421, 1444, 1457, 1470], 1526, 191, 0, 0, [(0, 224), (1, 277), (2, 310), (3, 343), (4, 376), (5, 419), (6, 452), (7, 485), (8, 498), (9, 521), (10, 544), (11, 567), (12, 590), (13, 613), (14, 636), (15, 669), (16, 702), (17, 715), (18, 738), (19, 781), (20, 814), (21, 857), (22, 890), (23, 923), (24, 936), (25, 959), (26, 1002), (27, 1025), (28, 1038), (29, 1071), (30, 1094), (31, 1137), (32, 1180), (33, 1203), (34, 1226), (35, 1289), (36, 1332), (37, 1365), (38, 1398), (39, 1431), (40, 1454), (41, 1477), (42, 1490), (43, 1503)], []), none, none, none, none, none, none, none, none, none, none, none, none, none, none],
  [none, none, none, none, none, none, none, none, none, none, none, none, none, none, none, none],
  [none, none, none, none, none, none, none, none, none, none, none, none, none, none, none, none],
  [none, none, none, none, none, none, none, none, none, none, none, none, none, none, none, none]]
def qc_224_1 : List (List (Option qs_Row)) := [[none, none, none, none, none, none, none, none, none, none, none, none, none, none, none, none],
  [none, none, none, none, none, none, none, none, none, none, none, none, none, none, none, none],
  [none, none, none, none, none, none, none, none, none, none, none, none, none, none, none, none],
  [none, none, none, none, none, none, none, none, none, none, none, none, none, none, none, none],
  [none, none, none, none, none, none, none, none, none, none, none, none, none, none, none, none],
  [none, none, none, none, none, none, none, none, none, none, none, none, none, none, none, none]]
def qc_224_2 : List (List (Option qs_Row)) := [[none, none, none, none, none, none, none, none, none, none, none, none, none, none, none, none],
  [none, none, none, none, none, none, none, none, none, none, none, none, none, none, none, none],
  [some (.aload_n 1, 1, 0, 0, 0, [], []), some (.aload_n 0, 0, 0, 0, 0, [], []), some (.iload_n 3, 3, 0, 0, 0, [], []), some (.iconst 1, 0, 0, 0, 1, [], []), some (.iadd, 0, 0, 0, 0, [], []), some (.iaload, 2600, 0, 0, 0, [], []), some (.aload_n 0, 0, 0, 0, 0, [], []), some (.iload_n 3, 3, 0, 0, 0, [], []), some (.iconst 2, 0, 0, 0, 2, [], []), some (.iadd, 0, 0, 0, 0, [], []), some (.iaload, 2600, 0, 0, 0, [], []), some (.aload_n 0, 0, 0, 0, 0, [], []), some (.iload_n 3, 3, 0, 0, 0, [], []), some (.iconst 3, 0, 0, 0, 3, [], []), some (.iadd, 0, 0, 0, 0, [], []), some (.iaload, 2600, 0, 0, 0, [], [])],
  [some (.aload_n 0, 0, 0, 0, 0, [], []), some (.iload_n 3, 3, 0, 0, 0, [], []), some (.iconst 4, 0, 0, 0, 4, [], []), some (.iadd, 0, 0, 0, 0, [], []), some (.iaload, 2600, 0, 0, 0, [], []), some (.invokevirtual 13, 53, 33, 7, 0, [], [2045, 0]), none, none, some (.aload_n 2, 2, 0, 0, 0, [], []), some (.aload_n 0, 0, 0, 0, 0, [], []), some (.iload_n 3, 3, 0, 0, 0, [], []), some (.iconst 1, 0, 0, 0, 1, [], []), some (.iadd, 0, 0, 0, 0, [], []), some (.iaload, 2600, 0, 0, 0, [], []), some (.aload_n 0, 0, 0, 0, 0, [], []), some (.iload_n 3, 3, 0, 0, 0, [], [])],
  [some (.iconst 2, 0, 0, 0, 2, [], []), some (.iadd, 0, 0, 0, 0, [], []), some (.iaload, 2600, 0, 0, 0, [], []), some (.aload_n 0, 0, 0, 0, 0, [], []), some (.iload_n 3, 3, 0, 0, 0, [], []), some (.iconst 3, 0, 0, 0, 3, [], []), some (.iadd, 0, 0, 0, 0, [], []), some (.iaload, 2600, 0, 0, 0, [], []), some (.aload_n 0, 0, 0, 0, 0, [], []), some (.iload_n 3, 3, 0, 0, 0, [], []), some (.iconst 4, 0, 0, 0, 4, [], []), some (.iadd, 0, 0, 0, 0, [], []), some (.iaload, 2600, 0, 0, 0, [], []), some (.invokevirtual 17, 117, 33, 8, 0, [], [4228, 0]), none, none],
  [some (.if_icmp .eq 1254, 1526, 0, 0, 0, [], []), none, none, some (.iconst 0, 0, 0, 0, 0, [], []), some (.ireturn, 0, 0, 0, 0, [], []), some (.aload_n 1, 1, 0, 0, 0, [], []), some (.aload_n 0, 0, 0, 0, 0, [], []), some (.iload_n 3, 3, 0, 0, 0, [], []), some (.iconst 1, 0, 0, 0, 1, [], []), some (.iadd, 0, 0, 0, 0, [], []), some (.iaload, 2600, 0, 0, 0, [], []), some (.aload_n 0, 0, 0, 0, 0, [], []), some (.iload_n 3, 3, 0, 0, 0, [], []), some (.iconst 2, 0, 0, 0, 2, [], []), some (.iadd, 0, 0, 0, 0, [], []), some (.iaload, 2600, 0, 0, 0, [], [])]]
def qc_224_3 : List (List (Option qs_Row)) := [[some (.invokevirtual 18, 54, 17, 7, 0, [], [2066, 0]), none, none, some (.aload_n 2, 2, 0, 0, 0, [], []), some (.aload_n 0, 0, 0, 0, 0, [], []), some (.iload_n 3, 3, 0, 0, 0, [], []), some (.iconst 1, 0, 0, 0, 1, [], []), some (.iadd, 0, 0, 0, 0, [], []), some (.iaload, 2600, 0, 0, 0, [], []), some (.aload_n 0, 0, 0, 0, 0, [], []), some (.iload_n 3, 3, 0, 0, 0, [], []), some (.iconst 2, 0, 0, 0, 2, [], []), some (.iadd, 0, 0, 0, 0, [], []), some (.iaload, 2600, 0, 0, 0, [], []), some (.invokevirtual 22, 125, 17, 8, 0, [], [5008, 0]), none],
  [none, some (.if_icmp .eq 1221, 1526, 0, 0, 0, [], []), none, none, some (.iconst 0, 0, 0, 0, 0, [], []), some (.ireturn, 0, 0, 0, 0, [], []), some (.aload_n 1, 1, 0, 0, 0, [], []), some (.aload_n 0, 0, 0, 0, 0, [], []), some (.iload_n 3, 3, 0, 0, 0, [], []), some (.iconst 1, 0, 0, 0, 1, [], []), some (.iadd, 0, 0, 0, 0, [], []), some (.iaload, 2600, 0, 0, 0, [], []), some (.aload_n 0, 0, 0, 0, 0, [], []), some (.iload_n 3, 3, 0, 0, 0, [], []), some (.iconst 2, 0, 0, 0, 2, [], []), some (.iadd, 0, 0, 0, 0, [], [])],
  [some (.iaload, 2600, 0, 0, 0, [], []), some (.invokevirtual 23, 55, 17, 7, 0, [], [2131, 0]), none, none, some (.aload_n 2, 2, 0, 0, 0, [], []), some (.aload_n 0, 0, 0, 0, 0, [], []), some (.iload_n 3, 3, 0, 0, 0, [], []), some (.iconst 1, 0, 0, 0, 1, [], []), some (.iadd, 0, 0, 0, 0, [], []), some (.iaload, 2600, 0, 0, 0, [], []), some (.aload_n 0, 0, 0, 0, 0, [], []), some (.iload_n 3, 3, 0, 0, 0, [], []), some (.iconst 2, 0, 0, 0, 2, [], []), some (.iadd, 0, 0, 0, 0, [], []), some (.iaload, 2600, 0, 0, 0, [], []), some (.invokevirtual 26, 127, 17, 8, 0, [], [5062, 0])],
  [none, none, some (.if_icmp .eq 1188, 1526, 0, 0, 0, [], []), none, none, some (.iconst 0, 0, 0, 0, 0, [], []), some (.ireturn, 0, 0, 0, 0, [], []), some (.aload_n 1, 1, 0, 0, 0, [], []), some (.aload_n 0, 0, 0, 0, 0, [], []), some (.iload_n 3, 3, 0, 0, 0, [], []), some (.iconst 1, 0, 0, 0, 1, [], []), some (.iadd, 0, 0, 0, 0, [], []), some (.iaload, 2600, 0, 0, 0, [], []), some (.aload_n 0, 0, 0, 0, 0, [], []), some (.iload_n 3, 3, 0, 0, 0, [], []), some (.iconst 2, 0, 0, 0, 2, [], [])],
  [some (.iadd, 0, 0, 0, 0, [], []), some (.iaload, 2600, 0, 0, 0, [], []), some (.invokevirtual 27, 56, 17, 7, 0, [], [2137, 0]), none, none, some (.aload_n 2, 2, 0, 0, 0, [], []), some (.aload_n 0, 0, 0, 0, 0, [], []), some (.iload_n 3, 3, 0, 0, 0, [], []), some (.iconst 1, 0, 0, 0, 1, [], []), some (.iadd, 0, 0, 0, 0, [], []), some (.iaload, 2600, 0, 0, 0, [], []), some (.aload_n 0, 0, 0, 0, 0, [], []), some (.iload_n 3, 3, 0, 0, 0, [], []), some (.iconst 2, 0, 0, 0, 2, [], []), some (.iadd, 0, 0, 0, 0, [], []), some (.iaload, 2600, 0, 0, 0, [], [])],
  [some (.invokevirtual 30, 128, 17, 8, 0, [], [5070, 0]), none, none, some (.if_icmp .eq 1155, 1526, 0, 0, 0, [], []), none, none, some (.iconst 0, 0, 0, 0, 0, [], []), some (.ireturn, 0, 0, 0, 0, [], []), some (.aload_n 1, 1, 0, 0, 0, [], []), some (.aload_n 0, 0, 0, 0, 0, [], []), some (.iload_n 3, 3, 0, 0, 0, [], []), some (.iconst 1, 0, 0, 0, 1, [], []), some (.iadd, 0, 0, 0, 0, [], []), some (.iaload, 2600, 0, 0, 0, [], []), some (.aload_n 0, 0, 0, 0, 0, [], []), some (.iload_n 3, 3, 0, 0, 0, [], [])]]
def qc_224_4 : List (List (Option qs_Row)) := [[some (.iconst 2, 0, 0, 0, 2, [], []), some (.iadd, 0, 0, 0, 0, [], []), some (.iaload, 2600, 0, 0, 0, [], []), some (.aload_n 0, 0, 0, 0, 0, [], []), some (.iload_n 3, 3, 0, 0, 0, [], []), some (.iconst 3, 0, 0, 0, 3, [], []), some (.iadd, 0, 0, 0, 0, [], []), some (.iaload, 2600, 0, 0, 0, [], []), some (.invokevirtual 31, 57, 25, 7, 0, [], [2141, 0]), none, none, some (.aload_n 2, 2, 0, 0, 0, [], []), some (.aload_n 0, 0, 0, 0, 0, [], []), some (.iload_n 3, 3, 0, 0, 0, [], []), some (.iconst 1, 0, 0, 0, 1, [], []), some (.iadd, 0, 0, 0, 0, [], [])],
  [some (.iaload, 2600, 0, 0, 0, [], []), some (.aload_n 0, 0, 0, 0, 0, [], []), some (.iload_n 3, 3, 0, 0, 0, [], []), some (.iconst 2, 0, 0, 0, 2, [], []), some (.iadd, 0, 0, 0, 0, [], []), some (.iaload, 2600, 0, 0, 0, [], []), some (.aload_n 0, 0, 0, 0, 0, [], []), some (.iload_n 3, 3, 0, 0, 0, [], []), some (.iconst 3, 0, 0, 0, 3, [], []), some (.iadd, 0, 0, 0, 0, [], []), some (.iaload, 2600, 0, 0, 0, [], []), some (.invokevirtual 35, 129, 25, 8, 0, [], [5078, 0]), none, none, some (.if_icmp .eq 1112, 1526, 0, 0, 0, [], []), none],
  [none, some (.iconst 0, 0, 0, 0, 0, [], []), some (.ireturn, 0, 0, 0, 0, [], []), some (.aload_n 1, 1, 0, 0, 0, [], []), some (.aload_n 0, 0, 0, 0, 0, [], []), some (.iload_n 3, 3, 0, 0, 0, [], []), some (.iconst 1, 0, 0, 0, 1, [], []), some (.iadd, 0, 0, 0, 0, [], []), some (.iaload, 2600, 0, 0, 0, [], []), some (.aload_n 0, 0, 0, 0, 0, [], []), some (.iload_n 3, 3, 0, 0, 0, [], []), some (.iconst 2, 0, 0, 0, 2, [], []), some (.iadd, 0, 0, 0, 0, [], []), some (.iaload, 2600, 0, 0, 0, [], []), some (.invokevirtual 36, 58, 17, 7, 0, [], [2149, 0]), none],
  [none, some (.aload_n 2, 2, 0, 0, 0, [], []), some (.aload_n 0, 0, 0, 0, 0, [], []), some (.iload_n 3, 3, 0, 0, 0, [], []), some (.iconst 1, 0, 0, 0, 1, [], []), some (.iadd, 0, 0, 0, 0, [], []), some (.iaload, 2600, 0, 0, 0, [], []), some (.aload_n 0, 0, 0, 0, 0, [], []), some (.iload_n 3, 3, 0, 0, 0, [], []), some (.iconst 2, 0, 0, 0, 2, [], []), some (.iadd, 0, 0, 0, 0, [], []), some (.iaload, 2600, 0, 0, 0, [], []), some (.invokevirtual 39, 133, 17, 8, 0, [], [5082, 0]), none, none, some (.if_icmp .eq 1079, 1526, 0, 0, 0, [], [])],
  [none, none, some (.iconst 0, 0, 0, 0, 0, [], []), some (.ireturn, 0, 0, 0, 0, [], []), some (.aload_n 1, 1, 0, 0, 0, [], []), some (.aload_n 0, 0, 0, 0, 0, [], []), some (.iload_n 3, 3, 0, 0, 0, [], []), some (.iconst 1, 0, 0, 0, 1, [], []), some (.iadd, 0, 0, 0, 0, [], []), some (.iaload, 2600, 0, 0, 0, [], []), some (.aload_n 0, 0, 0, 0, 0, [], []), some (.iload_n 3, 3, 0, 0, 0, [], []), some (.iconst 2, 0, 0, 0, 2, [], []), some (.iadd, 0, 0, 0, 0, [], []), some (.iaload, 2600, 0, 0, 0, [], []), some (.invokevirtual 40, 59, 17, 7, 0, [], [2169, 0])],
  [none, none, some (.aload_n 2, 2, 0, 0, 0, [], []), some (.aload_n 0, 0, 0, 0, 0, [], []), some (.iload_n 3, 3, 0, 0, 0, [], []), some (.iconst 1, 0, 0, 0, 1, [], []), some (.iadd, 0, 0, 0, 0, [], []), some (.iaload, 2600, 0, 0, 0, [], []), some (.aload_n 0, 0, 0, 0, 0, [], []), some (.iload_n 3, 3, 0, 0, 0, [], []), some (.iconst 2, 0, 0, 0, 2, [], []), some (.iadd, 0, 0, 0, 0, [], []), some (.iaload, 2600, 0, 0, 0, [], []), some (.invokevirtual 43, 134, 17, 8, 0, [], [5099, 0]), none, none]]
def qc_224_5 : List (List (Option qs_Row)) := [[some (.if_icmp .eq 1046, 1526, 0, 0, 0, [], []), none, none, some (.iconst 0, 0, 0, 0, 0, [], []), some (.ireturn, 0, 0, 0, 0, [], []), some (.aload_n 1, 1, 0, 0, 0, [], []), some (.invokevirtual 44, 60, 1, 7, 0, [], [2173, 0]), none, none, some (.aload_n 2, 2, 0, 0, 0, [], []), some (.invokevirtual 48, 135, 1, 8, 0, [], [5103, 0]), none, none, some (.if_icmp .eq 1033, 1526, 0, 0, 0, [], []), none, none],
  [some (.iconst 0, 0, 0, 0, 0, [], []), some (.ireturn, 0, 0, 0, 0, [], []), some (.aload_n 1, 1, 0, 0, 0, [], []), some (.aload_n 0, 0, 0, 0, 0, [], []), some (.iload_n 3, 3, 0, 0, 0, [], []), some (.iconst 1, 0, 0, 0, 1, [], []), some (.iadd, 0, 0, 0, 0, [], []), some (.iaload, 2600, 0, 0, 0, [], []), some (.invokevirtual 49, 61, 9, 7, 0, [], [2177, 0]), none, none, some (.aload_n 2, 2, 0, 0, 0, [], []), some (.aload_n 0, 0, 0, 0, 0, [], []), some (.iload_n 3, 3, 0, 0, 0, [], []), some (.iconst 1, 0, 0, 0, 1, [], []), some (.iadd, 0, 0, 0, 0, [], [])],
  [some (.iaload, 2600, 0, 0, 0, [], []), some (.invokevirtual 53, 136, 9, 8, 0, [], [5107, 0]), none, none, some (.if_icmp .eq 1010, 1526, 0, 0, 0, [], []), none, none, some (.iconst 0, 0, 0, 0, 0, [], []), some (.ireturn, 0, 0, 0, 0, [], []), some (.aload_n 1, 1, 0, 0, 0, [], []), some (.aload_n 0, 0, 0, 0, 0, [], []), some (.iload_n 3, 3, 0, 0, 0, [], []), some (.iconst 1, 0, 0, 0, 1, [], []), some (.iadd, 0, 0, 0, 0, [], []), some (.iaload, 2600, 0, 0, 0, [], []), some (.invokevirtual 54, 62, 9, 7, 0, [], [2185, 0])],
  [none, none, some (.aload_n 2, 2, 0, 0, 0, [], []), some (.aload_n 0, 0, 0, 0, 0, [], []), some (.iload_n 3, 3, 0, 0, 0, [], []), some (.iconst 1, 0, 0, 0, 1, [], []), some (.iadd, 0, 0, 0, 0, [], []), some (.iaload, 2600, 0, 0, 0, [], []), some (.invokevirtual 57, 137, 9, 8, 0, [], [5111, 0]), none, none, some (.if_icmp .eq 987, 1526, 0, 0, 0, [], []), none, none, some (.iconst 0, 0, 0, 0, 0, [], []), some (.ireturn, 0, 0, 0, 0, [], [])],
  [some (.aload_n 1, 1, 0, 0, 0, [], []), some (.aload_n 0, 0, 0, 0, 0, [], []), some (.iload_n 3, 3, 0, 0, 0, [], []), some (.iconst 1, 0, 0, 0, 1, [], []), some (.iadd, 0, 0, 0, 0, [], []), some (.iaload, 2600, 0, 0, 0, [], []), some (.invokevirtual 58, 63, 9, 7, 0, [], [2189, 0]), none, none, some (.aload_n 2, 2, 0, 0, 0, [], []), some (.aload_n 0, 0, 0, 0, 0, [], []), some (.iload_n 3, 3, 0, 0, 0, [], []), some (.iconst 1, 0, 0, 0, 1, [], []), some (.iadd, 0, 0, 0, 0, [], []), some (.iaload, 2600, 0, 0, 0, [], []), some (.invokevirtual 61, 141, 9, 8, 0, [], [5115, 0])],
  [none, none, some (.if_icmp .eq 964, 1526, 0, 0, 0, [], []), none, none, some (.iconst 0, 0, 0, 0, 0, [], []), some (.ireturn, 0, 0, 0, 0, [], []), some (.aload_n 1, 1, 0, 0, 0, [], []), some (.aload_n 0, 0, 0, 0, 0, [], []), some (.iload_n 3, 3, 0, 0, 0, [], []), some (.iconst 1, 0, 0, 0, 1, [], []), some (.iadd, 0, 0, 0, 0, [], []), some (.iaload, 2600, 0, 0, 0, [], []), some (.invokevirtual 62, 64, 9, 7, 0, [], [2211, 0]), none, none]]
def qc_224_6 : List (List (Option qs_Row)) := [[some (.aload_n 2, 2, 0, 0, 0, [], []), some (.aload_n 0, 0, 0, 0, 0, [], []), some (.iload_n 3, 3, 0, 0, 0, [], []), some (.iconst 1, 0, 0, 0, 1, [], []), some (.iadd, 0, 0, 0, 0, [], []), some (.iaload, 2600, 0, 0, 0, [], []), some (.invokevirtual 65, 145, 9, 8, 0, [], [5131, 0]), none, none, some (.if_icmp .eq 941, 1526, 0, 0, 0, [], []), none, none, some (.iconst 0, 0, 0, 0, 0, [], []), some (.ireturn, 0, 0, 0, 0, [], []), some (.aload_n 1, 1, 0, 0, 0, [], []), some (.aload_n 0, 0, 0, 0, 0, [], [])],
  [some (.iload_n 3, 3, 0, 0, 0, [], []), some (.iconst 1, 0, 0, 0, 1, [], []), some (.iadd, 0, 0, 0, 0, [], []), some (.iaload, 2600, 0, 0, 0, [], []), some (.invokevirtual 66, 65, 9, 7, 0, [], [2227, 0]), none, none, some (.aload_n 2, 2, 0, 0, 0, [], []), some (.aload_n 0, 0, 0, 0, 0, [], []), some (.iload_n 3, 3, 0, 0, 0, [], []), some (.iconst 1, 0, 0, 0, 1, [], []), some (.iadd, 0, 0, 0, 0, [], []), some (.iaload, 2600, 0, 0, 0, [], []), some (.invokevirtual 69, 146, 9, 8, 0, [], [5147, 0]), none, none],
  [some (.if_icmp .eq 918, 1526, 0, 0, 0, [], []), none, none, some (.iconst 0, 0, 0, 0, 0, [], []), some (.ireturn, 0, 0, 0, 0, [], []), some (.aload_n 1, 1, 0, 0, 0, [], []), some (.aload_n 0, 0, 0, 0, 0, [], []), some (.iload_n 3, 3, 0, 0, 0, [], []), some (.iconst 1, 0, 0, 0, 1, [], []), some (.iadd, 0, 0, 0, 0, [], []), some (.iaload, 2600, 0, 0, 0, [], []), some (.invokevirtual 70, 66, 9, 7, 0, [], [2231, 0]), none, none, some (.aload_n 2, 2, 0, 0, 0, [], []), some (.aload_n 0, 0, 0, 0, 0, [], [])],
  [some (.iload_n 3, 3, 0, 0, 0, [], []), some (.iconst 1, 0, 0, 0, 1, [], []), some (.iadd, 0, 0, 0, 0, [], []), some (.iaload, 2600, 0, 0, 0, [], []), some (.invokevirtual 73, 147, 9, 8, 0, [], [5151, 0]), none, none, some (.if_icmp .eq 895, 1526, 0, 0, 0, [], []), none, none, some (.iconst 0, 0, 0, 0, 0, [], []), some (.ireturn, 0, 0, 0, 0, [], []), some (.aload_n 1, 1, 0, 0, 0, [], []), some (.aload_n 0, 0, 0, 0, 0, [], []), some (.iload_n 3, 3, 0, 0, 0, [], []), some (.iconst 1, 0, 0, 0, 1, [], [])],
  [some (.iadd, 0, 0, 0, 0, [], []), some (.iaload, 2600, 0, 0, 0, [], []), some (.aload_n 0, 0, 0, 0, 0, [], []), some (.iload_n 3, 3, 0, 0, 0, [], []), some (.iconst 2, 0, 0, 0, 2, [], []), some (.iadd, 0, 0, 0, 0, [], []), some (.iaload, 2600, 0, 0, 0, [], []), some (.invokevirtual 74, 67, 17, 7, 0, [], [2235, 0]), none, none, some (.aload_n 2, 2, 0, 0, 0, [], []), some (.aload_n 0, 0, 0, 0, 0, [], []), some (.iload_n 3, 3, 0, 0, 0, [], []), some (.iconst 1, 0, 0, 0, 1, [], []), some (.iadd, 0, 0, 0, 0, [], []), some (.iaload, 2600, 0, 0, 0, [], [])],
  [some (.aload_n 0, 0, 0, 0, 0, [], []), some (.iload_n 3, 3, 0, 0, 0, [], []), some (.iconst 2, 0, 0, 0, 2, [], []), some (.iadd, 0, 0, 0, 0, [], []), some (.iaload, 2600, 0, 0, 0, [], []), some (.invokevirtual 77, 152, 17, 8, 0, [], [5155, 0]), none, none, some (.if_icmp .eq 862, 1526, 0, 0, 0, [], []), none, none, some (.iconst 0, 0, 0, 0, 0, [], []), some (.ireturn, 0, 0, 0, 0, [], []), some (.aload_n 1, 1, 0, 0, 0, [], []), some (.aload_n 0, 0, 0, 0, 0, [], []), some (.iload_n 3, 3, 0, 0, 0, [], [])]]
def qc_224_7 : List (List (Option qs_Row)) := [[some (.iconst 1, 0, 0, 0, 1, [], []), some (.iadd, 0, 0, 0, 0, [], []), some (.iaload, 2600, 0, 0, 0, [], []), some (.aload_n 0, 0, 0, 0, 0, [], []), some (.iload_n 3, 3, 0, 0, 0, [], []), some (.iconst 2, 0, 0, 0, 2, [], []), some (.iadd, 0, 0, 0, 0, [], []), some (.iaload, 2600, 0, 0, 0, [], []), some (.invokevirtual 78, 68, 17, 7, 0, [], [3009, 0]), none, none, some (.aload_n 2, 2, 0, 0, 0, [], []), some (.aload_n 0, 0, 0, 0, 0, [], []), some (.iload_n 3, 3, 0, 0, 0, [], []), some (.iconst 1, 0, 0, 0, 1, [], []), some (.iadd, 0, 0, 0, 0, [], [])],
  [some (.iaload, 2600, 0, 0, 0, [], []), some (.aload_n 0, 0, 0, 0, 0, [], []), some (.iload_n 3, 3, 0, 0, 0, [], []), some (.iconst 2, 0, 0, 0, 2, [], []), some (.iadd, 0, 0, 0, 0, [], []), some (.iaload, 2600, 0, 0, 0, [], []), some (.invokevirtual 81, 153, 17, 8, 0, [], [5176, 0]), none, none, some (.if_icmp .eq 829, 1526, 0, 0, 0, [], []), none, none, some (.iconst 0, 0, 0, 0, 0, [], []), some (.ireturn, 0, 0, 0, 0, [], []), some (.aload_n 1, 1, 0, 0, 0, [], []), some (.invokevirtual 82, 69, 1, 7, 0, [], [3013, 0])],
  [none, none, some (.aload_n 2, 2, 0, 0, 0, [], []), some (.invokevirtual 85, 154, 1, 8, 0, [], [5180, 0]), none, none, some (.if_icmp .eq 816, 1526, 0, 0, 0, [], []), none, none, some (.iconst 0, 0, 0, 0, 0, [], []), some (.ireturn, 0, 0, 0, 0, [], []), some (.aload_n 1, 1, 0, 0, 0, [], []), some (.aload_n 0, 0, 0, 0, 0, [], []), some (.iload_n 3, 3, 0, 0, 0, [], []), some (.iconst 1, 0, 0, 0, 1, [], []), some (.iadd, 0, 0, 0, 0, [], [])],
  [some (.iaload, 2600, 0, 0, 0, [], []), some (.invokevirtual 86, 70, 9, 7, 0, [], [3018, 0]), none, none, some (.aload_n 2, 2, 0, 0, 0, [], []), some (.aload_n 0, 0, 0, 0, 0, [], []), some (.iload_n 3, 3, 0, 0, 0, [], []), some (.iconst 1, 0, 0, 0, 1, [], []), some (.iadd, 0, 0, 0, 0, [], []), some (.iaload, 2600, 0, 0, 0, [], []), some (.invokevirtual 89, 155, 9, 8, 0, [], [5184, 0]), none, none, some (.if_icmp .eq 793, 1526, 0, 0, 0, [], []), none, none],
  [some (.iconst 0, 0, 0, 0, 0, [], []), some (.ireturn, 0, 0, 0, 0, [], []), some (.aload_n 1, 1, 0, 0, 0, [], []), some (.aload_n 0, 0, 0, 0, 0, [], []), some (.iload_n 3, 3, 0, 0, 0, [], []), some (.iconst 1, 0, 0, 0, 1, [], []), some (.iadd, 0, 0, 0, 0, [], []), some (.iaload, 2600, 0, 0, 0, [], []), some (.aload_n 0, 0, 0, 0, 0, [], []), some (.iload_n 3, 3, 0, 0, 0, [], []), some (.iconst 2, 0, 0, 0, 2, [], []), some (.iadd, 0, 0, 0, 0, [], []), some (.iaload, 2600, 0, 0, 0, [], []), some (.aload_n 0, 0, 0, 0, 0, [], []), some (.iload_n 3, 3, 0, 0, 0, [], []), some (.iconst 3, 0, 0, 0, 3, [], [])],
  [some (.iadd, 0, 0, 0, 0, [], []), some (.iaload, 2600, 0, 0, 0, [], []), some (.invokevirtual 90, 71, 25, 7, 0, [], [3022, 0]), none, none, some (.aload_n 2, 2, 0, 0, 0, [], []), some (.aload_n 0, 0, 0, 0, 0, [], []), some (.iload_n 3, 3, 0, 0, 0, [], []), some (.iconst 1, 0, 0, 0, 1, [], []), some (.iadd, 0, 0, 0, 0, [], []), some (.iaload, 2600, 0, 0, 0, [], []), some (.aload_n 0, 0, 0, 0, 0, [], []), some (.iload_n 3, 3, 0, 0, 0, [], []), some (.iconst 2, 0, 0, 0, 2, [], []), some (.iadd, 0, 0, 0, 0, [], []), some (.iaload, 2600, 0, 0, 0, [], [])]]
def qc_224_8 : List (List (Option qs_Row)) := [[some (.aload_n 0, 0, 0, 0, 0, [], []), some (.iload_n 3, 3, 0, 0, 0, [], []), some (.iconst 3, 0, 0, 0, 3, [], []), some (.iadd, 0, 0, 0, 0, [], []), some (.iaload, 2600, 0, 0, 0, [], []), some (.invokevirtual 93, 158, 25, 8, 0, [], [5188, 0]), none, none, some (.if_icmp .eq 750, 1526, 0, 0, 0, [], []), none, none, some (.iconst 0, 0, 0, 0, 0, [], []), some (.ireturn, 0, 0, 0, 0, [], []), some (.aload_n 1, 1, 0, 0, 0, [], []), some (.aload_n 0, 0, 0, 0, 0, [], []), some (.iload_n 3, 3, 0, 0, 0, [], [])],
  [some (.iconst 1, 0, 0, 0, 1, [], []), some (.iadd, 0, 0, 0, 0, [], []), some (.iaload, 2600, 0, 0, 0, [], []), some (.aload_n 0, 0, 0, 0, 0, [], []), some (.iload_n 3, 3, 0, 0, 0, [], []), some (.iconst 2, 0, 0, 0, 2, [], []), some (.iadd, 0, 0, 0, 0, [], []), some (.iaload, 2600, 0, 0, 0, [], []), some (.invokevirtual 94, 72, 17, 7, 0, [], [3034, 0]), none, none, some (.aload_n 2, 2, 0, 0, 0, [], []), some (.aload_n 0, 0, 0, 0, 0, [], []), some (.iload_n 3, 3, 0, 0, 0, [], []), some (.iconst 1, 0, 0, 0, 1, [], []), some (.iadd, 0, 0, 0, 0, [], [])],
  [some (.iaload, 2600, 0, 0, 0, [], []), some (.aload_n 0, 0, 0, 0, 0, [], []), some (.iload_n 3, 3, 0, 0, 0, [], []), some (.iconst 2, 0, 0, 0, 2, [], []), some (.iadd, 0, 0, 0, 0, [], []), some (.iaload, 2600, 0, 0, 0, [], []), some (.invokevirtual 97, 159, 17, 8, 0, [], [5199, 0]), none, none, some (.if_icmp .eq 717, 1526, 0, 0, 0, [], []), none, none, some (.iconst 0, 0, 0, 0, 0, [], []), some (.ireturn, 0, 0, 0, 0, [], []), some (.aload_n 1, 1, 0, 0, 0, [], []), some (.aload_n 0, 0, 0, 0, 0, [], [])],
  [some (.iload_n 3, 3, 0, 0, 0, [], []), some (.iconst 1, 0, 0, 0, 1, [], []), some (.iadd, 0, 0, 0, 0, [], []), some (.iaload, 2600, 0, 0, 0, [], []), some (.aload_n 0, 0, 0, 0, 0, [], []), some (.iload_n 3, 3, 0, 0, 0, [], []), some (.iconst 2, 0, 0, 0, 2, [], []), some (.iadd, 0, 0, 0, 0, [], []), some (.iaload, 2600, 0, 0, 0, [], []), some (.aload_n 0, 0, 0, 0, 0, [], []), some (.iload_n 3, 3, 0, 0, 0, [], []), some (.iconst 3, 0, 0, 0, 3, [], []), some (.iadd, 0, 0, 0, 0, [], []), some (.iaload, 2600, 0, 0, 0, [], []), some (.invokevirtual 98, 73, 25, 7, 0, [], [3038, 0]), none],
  [none, some (.aload_n 2, 2, 0, 0, 0, [], []), some (.aload_n 0, 0, 0, 0, 0, [], []), some (.iload_n 3, 3, 0, 0, 0, [], []), some (.iconst 1, 0, 0, 0, 1, [], []), some (.iadd, 0, 0, 0, 0, [], []), some (.iaload, 2600, 0, 0, 0, [], []), some (.aload_n 0, 0, 0, 0, 0, [], []), some (.iload_n 3, 3, 0, 0, 0, [], []), some (.iconst 2, 0, 0, 0, 2, [], []), some (.iadd, 0, 0, 0, 0, [], []), some (.iaload, 2600, 0, 0, 0, [], []), some (.aload_n 0, 0, 0, 0, 0, [], []), some (.iload_n 3, 3, 0, 0, 0, [], []), some (.iconst 3, 0, 0, 0, 3, [], []), some (.iadd, 0, 0, 0, 0, [], [])],
  [some (.iaload, 2600, 0, 0, 0, [], []), some (.invokevirtual 101, 160, 25, 8, 0, [], [5203, 0]), none, none, some (.if_icmp .eq 674, 1526, 0, 0, 0, [], []), none, none, some (.iconst 0, 0, 0, 0, 0, [], []), some (.ireturn, 0, 0, 0, 0, [], []), some (.aload_n 1, 1, 0, 0, 0, [], []), some (.aload_n 0, 0, 0, 0, 0, [], []), some (.iload_n 3, 3, 0, 0, 0, [], []), some (.iconst 1, 0, 0, 0, 1, [], []), some (.iadd, 0, 0, 0, 0, [], []), some (.iaload, 2600, 0, 0, 0, [], []), some (.aload_n 0, 0, 0, 0, 0, [], [])]]
def qc_224_9 : List (List (Option qs_Row)) := [[some (.iload_n 3, 3, 0, 0, 0, [], []), some (.iconst 2, 0, 0, 0, 2, [], []), some (.iadd, 0, 0, 0, 0, [], []), some (.iaload, 2600, 0, 0, 0, [], []), some (.invokevirtual 102, 74, 17, 7, 0, [], [3042, 0]), none, none, some (.aload_n 2, 2, 0, 0, 0, [], []), some (.aload_n 0, 0, 0, 0, 0, [], []), some (.iload_n 3, 3, 0, 0, 0, [], []), some (.iconst 1, 0, 0, 0, 1, [], []), some (.iadd, 0, 0, 0, 0, [], []), some (.iaload, 2600, 0, 0, 0, [], []), some (.aload_n 0, 0, 0, 0, 0, [], []), some (.iload_n 3, 3, 0, 0, 0, [], []), some (.iconst 2, 0, 0, 0, 2, [], [])],
  [some (.iadd, 0, 0, 0, 0, [], []), some (.iaload, 2600, 0, 0, 0, [], []), some (.invokevirtual 105, 161, 17, 8, 0, [], [5207, 0]), none, none, some (.if_icmp .eq 641, 1526, 0, 0, 0, [], []), none, none, some (.iconst 0, 0, 0, 0, 0, [], []), some (.ireturn, 0, 0, 0, 0, [], []), some (.aload_n 1, 1, 0, 0, 0, [], []), some (.aload_n 0, 0, 0, 0, 0, [], []), some (.iload_n 3, 3, 0, 0, 0, [], []), some (.iconst 1, 0, 0, 0, 1, [], []), some (.iadd, 0, 0, 0, 0, [], []), some (.iaload, 2600, 0, 0, 0, [], [])],
  [some (.aload_n 0, 0, 0, 0, 0, [], []), some (.iload_n 3, 3, 0, 0, 0, [], []), some (.iconst 2, 0, 0, 0, 2, [], []), some (.iadd, 0, 0, 0, 0, [], []), some (.iaload, 2600, 0, 0, 0, [], []), some (.invokevirtual 106, 75, 17, 7, 0, [], [3046, 0]), none, none, some (.aload_n 2, 2, 0, 0, 0, [], []), some (.aload_n 0, 0, 0, 0, 0, [], []), some (.iload_n 3, 3, 0, 0, 0, [], []), some (.iconst 1, 0, 0, 0, 1, [], []), some (.iadd, 0, 0, 0, 0, [], []), some (.iaload, 2600, 0, 0, 0, [], []), some (.aload_n 0, 0, 0, 0, 0, [], []), some (.iload_n 3, 3, 0, 0, 0, [], [])],
  [some (.iconst 2, 0, 0, 0, 2, [], []), some (.iadd, 0, 0, 0, 0, [], []), some (.iaload, 2600, 0, 0, 0, [], []), some (.invokevirtual 109, 162, 17, 8, 0, [], [5211, 0]), none, none, some (.if_icmp .eq 608, 1526, 0, 0, 0, [], []), none, none, some (.iconst 0, 0, 0, 0, 0, [], []), some (.ireturn, 0, 0, 0, 0, [], []), some (.aload_n 1, 1, 0, 0, 0, [], []), some (.invokevirtual 110, 76, 1, 7, 0, [], [3072, 0]), none, none, some (.aload_n 2, 2, 0, 0, 0, [], [])],
  [some (.invokevirtual 113, 163, 1, 8, 0, [], [5219, 0]), none, none, some (.if_icmp .eq 595, 1526, 0, 0, 0, [], []), none, none, some (.iconst 0, 0, 0, 0, 0, [], []), some (.ireturn, 0, 0, 0, 0, [], []), some (.aload_n 1, 1, 0, 0, 0, [], []), some (.aload_n 0, 0, 0, 0, 0, [], []), some (.iload_n 3, 3, 0, 0, 0, [], []), some (.iconst 1, 0, 0, 0, 1, [], []), some (.iadd, 0, 0, 0, 0, [], []), some (.iaload, 2600, 0, 0, 0, [], []), some (.invokevirtual 114, 77, 9, 7, 0, [], [3077, 0]), none],
  [none, some (.aload_n 2, 2, 0, 0, 0, [], []), some (.aload_n 0, 0, 0, 0, 0, [], []), some (.iload_n 3, 3, 0, 0, 0, [], []), some (.iconst 1, 0, 0, 0, 1, [], []), some (.iadd, 0, 0, 0, 0, [], []), some (.iaload, 2600, 0, 0, 0, [], []), some (.invokevirtual 117, 164, 9, 8, 0, [], [5223, 0]), none, none, some (.if_icmp .eq 572, 1526, 0, 0, 0, [], []), none, none, some (.iconst 0, 0, 0, 0, 0, [], []), some (.ireturn, 0, 0, 0, 0, [], []), some (.aload_n 1, 1, 0, 0, 0, [], [])]]
def qc_224_10 : List (List (Option qs_Row)) := [[some (.aload_n 0, 0, 0, 0, 0, [], []), some (.iload_n 3, 3, 0, 0, 0, [], []), some (.iconst 1, 0, 0, 0, 1, [], []), some (.iadd, 0, 0, 0, 0, [], []), some (.iaload, 2600, 0, 0, 0, [], []), some (.aload_n 0, 0, 0, 0, 0, [], []), some (.iload_n 3, 3, 0, 0, 0, [], []), some (.iconst 2, 0, 0, 0, 2, [], []), some (.iadd, 0, 0, 0, 0, [], []), some (.iaload, 2600, 0, 0, 0, [], []), some (.aload_n 0, 0, 0, 0, 0, [], []), some (.iload_n 3, 3, 0, 0, 0, [], []), some (.iconst 3, 0, 0, 0, 3, [], []), some (.iadd, 0, 0, 0, 0, [], []), some (.iaload, 2600, 0, 0, 0, [], []), some (.invokevirtual 118, 78, 25, 7, 0, [], [3081, 0])],
  [none, none, some (.aload_n 2, 2, 0, 0, 0, [], []), some (.aload_n 0, 0, 0, 0, 0, [], []), some (.iload_n 3, 3, 0, 0, 0, [], []), some (.iconst 1, 0, 0, 0, 1, [], []), some (.iadd, 0, 0, 0, 0, [], []), some (.iaload, 2600, 0, 0, 0, [], []), some (.aload_n 0, 0, 0, 0, 0, [], []), some (.iload_n 3, 3, 0, 0, 0, [], []), some (.iconst 2, 0, 0, 0, 2, [], []), some (.iadd, 0, 0, 0, 0, [], []), some (.iaload, 2600, 0, 0, 0, [], []), some (.aload_n 0, 0, 0, 0, 0, [], []), some (.iload_n 3, 3, 0, 0, 0, [], []), some (.iconst 3, 0, 0, 0, 3, [], [])],
  [some (.iadd, 0, 0, 0, 0, [], []), some (.iaload, 2600, 0, 0, 0, [], []), some (.invokevirtual 121, 165, 25, 8, 0, [], [5227, 0]), none, none, some (.if_icmp .eq 529, 1526, 0, 0, 0, [], []), none, none, some (.iconst 0, 0, 0, 0, 0, [], []), some (.ireturn, 0, 0, 0, 0, [], []), some (.aload_n 1, 1, 0, 0, 0, [], []), some (.aload_n 0, 0, 0, 0, 0, [], []), some (.iload_n 3, 3, 0, 0, 0, [], []), some (.iconst 1, 0, 0, 0, 1, [], []), some (.iadd, 0, 0, 0, 0, [], []), some (.iaload, 2600, 0, 0, 0, [], [])],
  [some (.invokevirtual 122, 79, 9, 7, 0, [], [3089, 0]), none, none, some (.aload_n 2, 2, 0, 0, 0, [], []), some (.aload_n 0, 0, 0, 0, 0, [], []), some (.iload_n 3, 3, 0, 0, 0, [], []), some (.iconst 1, 0, 0, 0, 1, [], []), some (.iadd, 0, 0, 0, 0, [], []), some (.iaload, 2600, 0, 0, 0, [], []), some (.invokevirtual 125, 166, 9, 8, 0, [], [5231, 0]), none, none, some (.if_icmp .eq 506, 1526, 0, 0, 0, [], []), none, none, some (.iconst 0, 0, 0, 0, 0, [], [])],
  [some (.ireturn, 0, 0, 0, 0, [], []), some (.aload_n 1, 1, 0, 0, 0, [], []), some (.invokevirtual 126, 80, 1, 7, 0, [], [3093, 0]), none, none, some (.aload_n 2, 2, 0, 0, 0, [], []), some (.invokevirtual 129, 178, 1, 8, 0, [], [5235, 0]), none, none, some (.if_icmp .eq 493, 1526, 0, 0, 0, [], []), none, none, some (.iconst 0, 0, 0, 0, 0, [], []), some (.ireturn, 0, 0, 0, 0, [], []), some (.aload_n 1, 1, 0, 0, 0, [], []), some (.aload_n 0, 0, 0, 0, 0, [], [])],
  [some (.iload_n 3, 3, 0, 0, 0, [], []), some (.iconst 1, 0, 0, 0, 1, [], []), some (.iadd, 0, 0, 0, 0, [], []), some (.iaload, 2600, 0, 0, 0, [], []), some (.aload_n 0, 0, 0, 0, 0, [], []), some (.iload_n 3, 3, 0, 0, 0, [], []), some (.iconst 2, 0, 0, 0, 2, [], []), some (.iadd, 0, 0, 0, 0, [], []), some (.iaload, 2600, 0, 0, 0, [], []), some (.invokevirtual 130, 81, 17, 7, 0, [], [4016, 0]), none, none, some (.aload_n 2, 2, 0, 0, 0, [], []), some (.aload_n 0, 0, 0, 0, 0, [], []), some (.iload_n 3, 3, 0, 0, 0, [], []), some (.iconst 1, 0, 0, 0, 1, [], [])]]
def qc_224_11 : List (List (Option qs_Row)) := [[some (.iadd, 0, 0, 0, 0, [], []), some (.iaload, 2600, 0, 0, 0, [], []), some (.aload_n 0, 0, 0, 0, 0, [], []), some (.iload_n 3, 3, 0, 0, 0, [], []), some (.iconst 2, 0, 0, 0, 2, [], []), some (.iadd, 0, 0, 0, 0, [], []), some (.iaload, 2600, 0, 0, 0, [], []), some (.invokevirtual 133, 179, 17, 8, 0, [], [6042, 0]), none, none, some (.if_icmp .eq 460, 1526, 0, 0, 0, [], []), none, none, some (.iconst 0, 0, 0, 0, 0, [], []), some (.ireturn, 0, 0, 0, 0, [], []), some (.aload_n 1, 1, 0, 0, 0, [], [])],
  [some (.aload_n 0, 0, 0, 0, 0, [], []), some (.iload_n 3, 3, 0, 0, 0, [], []), some (.iconst 1, 0, 0, 0, 1, [], []), some (.iadd, 0, 0, 0, 0, [], []), some (.iaload, 2600, 0, 0, 0, [], []), some (.invokevirtual 134, 82, 9, 7, 0, [], [4020, 0]), none, none, some (.aload_n 2, 2, 0, 0, 0, [], []), some (.aload_n 0, 0, 0, 0, 0, [], []), some (.iload_n 3, 3, 0, 0, 0, [], []), some (.iconst 1, 0, 0, 0, 1, [], []), some (.iadd, 0, 0, 0, 0, [], []), some (.iaload, 2600, 0, 0, 0, [], []), some (.invokevirtual 137, 181, 9, 8, 0, [], [6046, 0]), none],
  [none, some (.if_icmp .eq 437, 1526, 0, 0, 0, [], []), none, none, some (.iconst 0, 0, 0, 0, 0, [], []), some (.ireturn, 0, 0, 0, 0, [], []), some (.aload_n 1, 1, 0, 0, 0, [], []), some (.aload_n 0, 0, 0, 0, 0, [], []), some (.iload_n 3, 3, 0, 0, 0, [], []), some (.iconst 1, 0, 0, 0, 1, [], []), some (.iadd, 0, 0, 0, 0, [], []), some (.iaload, 2600, 0, 0, 0, [], []), some (.aload_n 0, 0, 0, 0, 0, [], []), some (.iload_n 3, 3, 0, 0, 0, [], []), some (.iconst 2, 0, 0, 0, 2, [], []), some (.iadd, 0, 0, 0, 0, [], [])],
  [some (.iaload, 2600, 0, 0, 0, [], []), some (.aload_n 0, 0, 0, 0, 0, [], []), some (.iload_n 3, 3, 0, 0, 0, [], []), some (.iconst 3, 0, 0, 0, 3, [], []), some (.iadd, 0, 0, 0, 0, [], []), some (.iaload, 2600, 0, 0, 0, [], []), some (.invokevirtual 138, 83, 25, 7, 0, [], [4024, 0]), none, none, some (.aload_n 2, 2, 0, 0, 0, [], []), some (.aload_n 0, 0, 0, 0, 0, [], []), some (.iload_n 3, 3, 0, 0, 0, [], []), some (.iconst 1, 0, 0, 0, 1, [], []), some (.iadd, 0, 0, 0, 0, [], []), some (.iaload, 2600, 0, 0, 0, [], []), some (.aload_n 0, 0, 0, 0, 0, [], [])],
  [some (.iload_n 3, 3, 0, 0, 0, [], []), some (.iconst 2, 0, 0, 0, 2, [], []), some (.iadd, 0, 0, 0, 0, [], []), some (.iaload, 2600, 0, 0, 0, [], []), some (.aload_n 0, 0, 0, 0, 0, [], []), some (.iload_n 3, 3, 0, 0, 0, [], []), some (.iconst 3, 0, 0, 0, 3, [], []), some (.iadd, 0, 0, 0, 0, [], []), some (.iaload, 2600, 0, 0, 0, [], []), some (.invokevirtual 141, 186, 25, 8, 0, [], [6050, 0]), none, none, some (.if_icmp .eq 394, 1526, 0, 0, 0, [], []), none, none, some (.iconst 0, 0, 0, 0, 0, [], [])],
  [some (.ireturn, 0, 0, 0, 0, [], []), some (.aload_n 1, 1, 0, 0, 0, [], []), some (.aload_n 0, 0, 0, 0, 0, [], []), some (.iload_n 3, 3, 0, 0, 0, [], []), some (.iconst 1, 0, 0, 0, 1, [], []), some (.iadd, 0, 0, 0, 0, [], []), some (.iaload, 2600, 0, 0, 0, [], []), some (.aload_n 0, 0, 0, 0, 0, [], []), some (.iload_n 3, 3, 0, 0, 0, [], []), some (.iconst 2, 0, 0, 0, 2, [], []), some (.iadd, 0, 0, 0, 0, [], []), some (.iaload, 2600, 0, 0, 0, [], []), some (.aload_n 0, 0, 0, 0, 0, [], []), some (.iload_n 3, 3, 0, 0, 0, [], []), some (.iconst 3, 0, 0, 0, 3, [], []), some (.iadd, 0, 0, 0, 0, [], [])]]
def qc_224_12 : List (List (Option qs_Row)) := [[some (.iaload, 2600, 0, 0, 0, [], []), some (.invokevirtual 142, 84, 25, 7, 0, [], [4033, 0]), none, none, some (.aload_n 2, 2, 0, 0, 0, [], []), some (.aload_n 0, 0, 0, 0, 0, [], []), some (.iload_n 3, 3, 0, 0, 0, [], []), some (.iconst 1, 0, 0, 0, 1, [], []), some (.iadd, 0, 0, 0, 0, [], []), some (.iaload, 2600, 0, 0, 0, [], []), some (.aload_n 0, 0, 0, 0, 0, [], []), some (.iload_n 3, 3, 0, 0, 0, [], []), some (.iconst 2, 0, 0, 0, 2, [], []), some (.iadd, 0, 0, 0, 0, [], []), some (.iaload, 2600, 0, 0, 0, [], []), some (.aload_n 0, 0, 0, 0, 0, [], [])],
  [some (.iload_n 3, 3, 0, 0, 0, [], []), some (.iconst 3, 0, 0, 0, 3, [], []), some (.iadd, 0, 0, 0, 0, [], []), some (.iaload, 2600, 0, 0, 0, [], []), some (.invokevirtual 145, 187, 25, 8, 0, [], [6055, 0]), none, none, some (.if_icmp .eq 351, 1526, 0, 0, 0, [], []), none, none, some (.iconst 0, 0, 0, 0, 0, [], []), some (.ireturn, 0, 0, 0, 0, [], []), some (.aload_n 1, 1, 0, 0, 0, [], []), some (.aload_n 0, 0, 0, 0, 0, [], []), some (.iload_n 3, 3, 0, 0, 0, [], []), some (.iconst 1, 0, 0, 0, 1, [], [])],
  [some (.iadd, 0, 0, 0, 0, [], []), some (.iaload, 2600, 0, 0, 0, [], []), some (.invokevirtual 146, 85, 9, 7, 0, [], [4041, 0]), none, none, some (.aload_n 2, 2, 0, 0, 0, [], []), some (.aload_n 0, 0, 0, 0, 0, [], []), some (.iload_n 3, 3, 0, 0, 0, [], []), some (.iconst 1, 0, 0, 0, 1, [], []), some (.iadd, 0, 0, 0, 0, [], []), some (.iaload, 2600, 0, 0, 0, [], []), some (.invokevirtual 149, 188, 9, 8, 0, [], [6062, 0]), none, none, some (.if_icmp .eq 328, 1526, 0, 0, 0, [], []), none],
  [none, some (.iconst 0, 0, 0, 0, 0, [], []), some (.ireturn, 0, 0, 0, 0, [], []), some (.aload_n 1, 1, 0, 0, 0, [], []), some (.aload_n 0, 0, 0, 0, 0, [], []), some (.iload_n 3, 3, 0, 0, 0, [], []), some (.iconst 1, 0, 0, 0, 1, [], []), some (.iadd, 0, 0, 0, 0, [], []), some (.iaload, 2600, 0, 0, 0, [], []), some (.invokevirtual 150, 86, 9, 7, 0, [], [4046, 0]), none, none, some (.aload_n 2, 2, 0, 0, 0, [], []), some (.aload_n 0, 0, 0, 0, 0, [], []), some (.iload_n 3, 3, 0, 0, 0, [], []), some (.iconst 1, 0, 0, 0, 1, [], [])],
  [some (.iadd, 0, 0, 0, 0, [], []), some (.iaload, 2600, 0, 0, 0, [], []), some (.invokevirtual 153, 189, 9, 8, 0, [], [6066, 0]), none, none, some (.if_icmp .eq 305, 1526, 0, 0, 0, [], []), none, none, some (.iconst 0, 0, 0, 0, 0, [], []), some (.ireturn, 0, 0, 0, 0, [], []), some (.aload_n 1, 1, 0, 0, 0, [], []), some (.aload_n 0, 0, 0, 0, 0, [], []), some (.iload_n 3, 3, 0, 0, 0, [], []), some (.iconst 1, 0, 0, 0, 1, [], []), some (.iadd, 0, 0, 0, 0, [], []), some (.iaload, 2600, 0, 0, 0, [], [])],
  [some (.aload_n 0, 0, 0, 0, 0, [], []), some (.iload_n 3, 3, 0, 0, 0, [], []), some (.iconst 2, 0, 0, 0, 2, [], []), some (.iadd, 0, 0, 0, 0, [], []), some (.iaload, 2600, 0, 0, 0, [], []), some (.aload_n 0, 0, 0, 0, 0, [], []), some (.iload_n 3, 3, 0, 0, 0, [], []), some (.iconst 3, 0, 0, 0, 3, [], []), some (.iadd, 0, 0, 0, 0, [], []), some (.iaload, 2600, 0, 0, 0, [], []), some (.aload_n 0, 0, 0, 0, 0, [], []), some (.iload_n 3, 3, 0, 0, 0, [], []), some (.iconst 4, 0, 0, 0, 4, [], []), some (.iadd, 0, 0, 0, 0, [], []), some (.iaload, 2600, 0, 0, 0, [], []), some (.aload_n 0, 0, 0, 0, 0, [], [])]]
def qc_224_13 : List (List (Option qs_Row)) := [[some (.iload_n 3, 3, 0, 0, 0, [], []), some (.iconst 5, 0, 0, 0, 5, [], []), some (.iadd, 0, 0, 0, 0, [], []), some (.iaload, 2600, 0, 0, 0, [], []), some (.invokevirtual 154, 87, 41, 7, 0, [], [4050, 0]), none, none, some (.aload_n 2, 2, 0, 0, 0, [], []), some (.aload_n 0, 0, 0, 0, 0, [], []), some (.iload_n 3, 3, 0, 0, 0, [], []), some (.iconst 1, 0, 0, 0, 1, [], []), some (.iadd, 0, 0, 0, 0, [], []), some (.iaload, 2600, 0, 0, 0, [], []), some (.aload_n 0, 0, 0, 0, 0, [], []), some (.iload_n 3, 3, 0, 0, 0, [], []), some (.iconst 2, 0, 0, 0, 2, [], [])],
  [some (.iadd, 0, 0, 0, 0, [], []), some (.iaload, 2600, 0, 0, 0, [], []), some (.aload_n 0, 0, 0, 0, 0, [], []), some (.iload_n 3, 3, 0, 0, 0, [], []), some (.iconst 3, 0, 0, 0, 3, [], []), some (.iadd, 0, 0, 0, 0, [], []), some (.iaload, 2600, 0, 0, 0, [], []), some (.aload_n 0, 0, 0, 0, 0, [], []), some (.iload_n 3, 3, 0, 0, 0, [], []), some (.iconst 4, 0, 0, 0, 4, [], []), some (.iadd, 0, 0, 0, 0, [], []), some (.iaload, 2600, 0, 0, 0, [], []), some (.aload_n 0, 0, 0, 0, 0, [], []), some (.iload_n 3, 3, 0, 0, 0, [], []), some (.iconst 5, 0, 0, 0, 5, [], []), some (.iadd, 0, 0, 0, 0, [], [])],
  [some (.iaload, 2600, 0, 0, 0, [], []), some (.invokevirtual 158, 190, 41, 8, 0, [], [6070, 0]), none, none, some (.if_icmp .eq 242, 1526, 0, 0, 0, [], []), none, none, some (.iconst 0, 0, 0, 0, 0, [], []), some (.ireturn, 0, 0, 0, 0, [], []), some (.aload_n 1, 1, 0, 0, 0, [], []), some (.aload_n 0, 0, 0, 0, 0, [], []), some (.iload_n 3, 3, 0, 0, 0, [], []), some (.iconst 1, 0, 0, 0, 1, [], []), some (.iadd, 0, 0, 0, 0, [], []), some (.iaload, 2600, 0, 0, 0, [], []), some (.aload_n 0, 0, 0, 0, 0, [], [])],
  [some (.iload_n 3, 3, 0, 0, 0, [], []), some (.iconst 2, 0, 0, 0, 2, [], []), some (.iadd, 0, 0, 0, 0, [], []), some (.iaload, 2600, 0, 0, 0, [], []), some (.aload_n 0, 0, 0, 0, 0, [], []), some (.iload_n 3, 3, 0, 0, 0, [], []), some (.iconst 3, 0, 0, 0, 3, [], []), some (.iadd, 0, 0, 0, 0, [], []), some (.iaload, 2600, 0, 0, 0, [], []), some (.invokevirtual 159, 88, 25, 7, 0, [], [4061, 0]), none, none, some (.aload_n 2, 2, 0, 0, 0, [], []), some (.aload_n 0, 0, 0, 0, 0, [], []), some (.iload_n 3, 3, 0, 0, 0, [], []), some (.iconst 1, 0, 0, 0, 1, [], [])],
  [some (.iadd, 0, 0, 0, 0, [], []), some (.iaload, 2600, 0, 0, 0, [], []), some (.aload_n 0, 0, 0, 0, 0, [], []), some (.iload_n 3, 3, 0, 0, 0, [], []), some (.iconst 2, 0, 0, 0, 2, [], []), some (.iadd, 0, 0, 0, 0, [], []), some (.iaload, 2600, 0, 0, 0, [], []), some (.aload_n 0, 0, 0, 0, 0, [], []), some (.iload_n 3, 3, 0, 0, 0, [], []), some (.iconst 3, 0, 0, 0, 3, [], []), some (.iadd, 0, 0, 0, 0, [], []), some (.iaload, 2600, 0, 0, 0, [], []), some (.invokevirtual 162, 191, 25, 8, 0, [], [6074, 0]), none, none, some (.if_icmp .eq 199, 1526, 0, 0, 0, [], [])],
  [none, none, some (.iconst 0, 0, 0, 0, 0, [], []), some (.ireturn, 0, 0, 0, 0, [], []), some (.aload_n 1, 1, 0, 0, 0, [], []), some (.aload_n 0, 0, 0, 0, 0, [], []), some (.iload_n 3, 3, 0, 0, 0, [], []), some (.iconst 1, 0, 0, 0, 1, [], []), some (.iadd, 0, 0, 0, 0, [], []), some (.iaload, 2600, 0, 0, 0, [], []), some (.aload_n 0, 0, 0, 0, 0, [], []), some (.iload_n 3, 3, 0, 0, 0, [], []), some (.iconst 2, 0, 0, 0, 2, [], []), some (.iadd, 0, 0, 0, 0, [], []), some (.iaload, 2600, 0, 0, 0, [], []), some (.invokevirtual 163, 89, 17, 7, 0, [], [4073, 0])]]
def qc_224_14 : List (List (Option qs_Row)) := [[none, none, some (.aload_n 2, 2, 0, 0, 0, [], []), some (.aload_n 0, 0, 0, 0, 0, [], []), some (.iload_n 3, 3, 0, 0, 0, [], []), some (.iconst 1, 0, 0, 0, 1, [], []), some (.iadd, 0, 0, 0, 0, [], []), some (.iaload, 2600, 0, 0, 0, [], []), some (.aload_n 0, 0, 0, 0, 0, [], []), some (.iload_n 3, 3, 0, 0, 0, [], []), some (.iconst 2, 0, 0, 0, 2, [], []), some (.iadd, 0, 0, 0, 0, [], []), some (.iaload, 2600, 0, 0, 0, [], []), some (.invokevirtual 166, 192, 17, 8, 0, [], [6081, 0]), none, none],
  [some (.if_icmp .eq 166, 1526, 0, 0, 0, [], []), none, none, some (.iconst 0, 0, 0, 0, 0, [], []), some (.ireturn, 0, 0, 0, 0, [], []), some (.aload_n 1, 1, 0, 0, 0, [], []), some (.aload_n 0, 0, 0, 0, 0, [], []), some (.iload_n 3, 3, 0, 0, 0, [], []), some (.iconst 1, 0, 0, 0, 1, [], []), some (.iadd, 0, 0, 0, 0, [], []), some (.iaload, 2600, 0, 0, 0, [], []), some (.aload_n 0, 0, 0, 0, 0, [], []), some (.iload_n 3, 3, 0, 0, 0, [], []), some (.iconst 2, 0, 0, 0, 2, [], []), some (.iadd, 0, 0, 0, 0, [], []), some (.iaload, 2600, 0, 0, 0, [], [])],
  [some (.invokevirtual 167, 90, 17, 7, 0, [], [4077, 0]), none, none, some (.aload_n 2, 2, 0, 0, 0, [], []), some (.aload_n 0, 0, 0, 0, 0, [], []), some (.iload_n 3, 3, 0, 0, 0, [], []), some (.iconst 1, 0, 0, 0, 1, [], []), some (.iadd, 0, 0, 0, 0, [], []), some (.iaload, 2600, 0, 0, 0, [], []), some (.aload_n 0, 0, 0, 0, 0, [], []), some (.iload_n 3, 3, 0, 0, 0, [], []), some (.iconst 2, 0, 0, 0, 2, [], []), some (.iadd, 0, 0, 0, 0, [], []), some (.iaload, 2600, 0, 0, 0, [], []), some (.invokevirtual 170, 193, 17, 8, 0, [], [6085, 0]), none],
  [none, some (.if_icmp .eq 133, 1526, 0, 0, 0, [], []), none, none, some (.iconst 0, 0, 0, 0, 0, [], []), some (.ireturn, 0, 0, 0, 0, [], []), some (.aload_n 1, 1, 0, 0, 0, [], []), some (.aload_n 0, 0, 0, 0, 0, [], []), some (.iload_n 3, 3, 0, 0, 0, [], []), some (.iconst 1, 0, 0, 0, 1, [], []), some (.iadd, 0, 0, 0, 0, [], []), some (.iaload, 2600, 0, 0, 0, [], []), some (.aload_n 0, 0, 0, 0, 0, [], []), some (.iload_n 3, 3, 0, 0, 0, [], []), some (.iconst 2, 0, 0, 0, 2, [], []), some (.iadd, 0, 0, 0, 0, [], [])],
  [some (.iaload, 2600, 0, 0, 0, [], []), some (.invokevirtual 171, 91, 17, 7, 0, [], [4081, 0]), none, none, some (.aload_n 2, 2, 0, 0, 0, [], []), some (.aload_n 0, 0, 0, 0, 0, [], []), some (.iload_n 3, 3, 0, 0, 0, [], []), some (.iconst 1, 0, 0, 0, 1, [], []), some (.iadd, 0, 0, 0, 0, [], []), some (.iaload, 2600, 0, 0, 0, [], []), some (.aload_n 0, 0, 0, 0, 0, [], []), some (.iload_n 3, 3, 0, 0, 0, [], []), some (.iconst 2, 0, 0, 0, 2, [], []), some (.iadd, 0, 0, 0, 0, [], []), some (.iaload, 2600, 0, 0, 0, [], []), some (.invokevirtual 174, 194, 17, 8, 0, [], [6089, 0])],
  [none, none, some (.if_icmp .eq 100, 1526, 0, 0, 0, [], []), none, none, some (.iconst 0, 0, 0, 0, 0, [], []), some (.ireturn, 0, 0, 0, 0, [], []), some (.aload_n 1, 1, 0, 0, 0, [], []), some (.aload_n 0, 0, 0, 0, 0, [], []), some (.iload_n 3, 3, 0, 0, 0, [], []), some (.iconst 1, 0, 0, 0, 1, [], []), some (.iadd, 0, 0, 0, 0, [], []), some (.iaload, 2600, 0, 0, 0, [], []), some (.invokevirtual 175, 92, 9, 7, 0, [], [4086, 0]), none, none]]
def qc_224_15 : List (List (Option qs_Row)) := [[some (.aload_n 2, 2, 0, 0, 0, [], []), some (.aload_n 0, 0, 0, 0, 0, [], []), some (.iload_n 3, 3, 0, 0, 0, [], []), some (.iconst 1, 0, 0, 0, 1, [], []), some (.iadd, 0, 0, 0, 0, [], []), some (.iaload, 2600, 0, 0, 0, [], []), some (.invokevirtual 178, 195, 9, 8, 0, [], [6094, 0]), none, none, some (.if_icmp .eq 77, 1526, 0, 0, 0, [], []), none, none, some (.iconst 0, 0, 0, 0, 0, [], []), some (.ireturn, 0, 0, 0, 0, [], []), some (.aload_n 1, 1, 0, 0, 0, [], []), some (.aload_n 0, 0, 0, 0, 0, [], [])],
  [some (.iload_n 3, 3, 0, 0, 0, [], []), some (.iconst 1, 0, 0, 0, 1, [], []), some (.iadd, 0, 0, 0, 0, [], []), some (.iaload, 2600, 0, 0, 0, [], []), some (.invokevirtual 179, 93, 9, 7, 0, [], [4090, 0]), none, none, some (.aload_n 2, 2, 0, 0, 0, [], []), some (.aload_n 0, 0, 0, 0, 0, [], []), some (.iload_n 3, 3, 0, 0, 0, [], []), some (.iconst 1, 0, 0, 0, 1, [], []), some (.iadd, 0, 0, 0, 0, [], []), some (.iaload, 2600, 0, 0, 0, [], []), some (.invokevirtual 182, 196, 9, 8, 0, [], [6098, 0]), none, none],
  [some (.if_icmp .eq 54, 1526, 0, 0, 0, [], []), none, none, some (.iconst 0, 0, 0, 0, 0, [], []), some (.ireturn, 0, 0, 0, 0, [], []), some (.aload_n 1, 1, 0, 0, 0, [], []), some (.invokevirtual 183, 94, 1, 7, 0, [], [4098, 0]), none, none, some (.aload_n 2, 2, 0, 0, 0, [], []), some (.invokevirtual 186, 197, 1, 8, 0, [], [6105, 0]), none, none, some (.if_icmp .eq 41, 1526, 0, 0, 0, [], []), none, none],
  [some (.iconst 0, 0, 0, 0, 0, [], []), some (.ireturn, 0, 0, 0, 0, [], []), some (.aload_n 1, 1, 0, 0, 0, [], []), some (.invokevirtual 187, 95, 1, 7, 0, [], [4102, 0]), none, none, some (.aload_n 2, 2, 0, 0, 0, [], []), some (.invokevirtual 190, 198, 1, 8, 0, [], [6109, 0]), none, none, some (.if_icmp .eq 28, 1526, 0, 0, 0, [], []), none, none, some (.iconst 0, 0, 0, 0, 0, [], []), some (.ireturn, 0, 0, 0, 0, [], []), some (.aload_n 1, 1, 0, 0, 0, [], [])],
  [some (.aload_n 0, 0, 0, 0, 0, [], []), some (.iload_n 3, 3, 0, 0, 0, [], []), some (.iconst 1, 0, 0, 0, 1, [], []), some (.iadd, 0, 0, 0, 0, [], []), some (.iaload, 2600, 0, 0, 0, [], []), some (.invokevirtual 191, 96, 9, 7, 0, [], [4106, 0]), none, none, some (.aload_n 2, 2, 0, 0, 0, [], []), some (.aload_n 0, 0, 0, 0, 0, [], []), some (.iload_n 3, 3, 0, 0, 0, [], []), some (.iconst 1, 0, 0, 0, 1, [], []), some (.iadd, 0, 0, 0, 0, [], []), some (.iaload, 2600, 0, 0, 0, [], []), some (.invokevirtual 194, 199, 9, 8, 0, [], [6113, 0]), none],
  [none, some (.if_icmp .eq 5, 1526, 0, 0, 0, [], []), none, none, some (.iconst 0, 0, 0, 0, 0, [], []), some (.ireturn, 0, 0, 0, 0, [], []), some (.iinc 3 6, 3, 0, 0, 6, [], []), none, none, some (.goto (-1511), 18, 0, 0, 0, [], []), none, none, some (.iconst 1, 0, 0, 0, 1, [], []), some (.ireturn, 0, 0, 0, 0, [], []), none, none]]
def qc_224 : List (List (Option qs_Row)) := qc_224_0 ++ (qc_224_1 ++ (qc_224_2 ++ (qc_224_3 ++ (qc_224_4 ++ (qc_224_5 ++ (qc_224_6 ++ (qc_224_7 ++ (qc_224_8 ++ (qc_224_9 ++ (qc_224_10 ++ (qc_224_11 ++ (qc_224_12 ++ (qc_224_13 ++ (qc_224_14 ++ (qc_224_15)))))))))))))))
/-- L_law -/
def qm_224 : qs_E := (RL, yL_law, cL_law, 4, ret, 0, 1, 2, qc_224, [])
def qm_g0 : List qs_E := [qm_0, qm_1, qm_2, qm_3, qm_4, qm_5, qm_6, qm_7, qm_8, qm_9, qm_10, qm_11, qm_12, qm_13, qm_14, qm_15]
def qm_g1 : List qs_E := [qm_16, qm_17, qm_18, qm_19, qm_20, qm_21, qm_22, qm_23, qm_24, qm_25, qm_26, qm_27, qm_28, qm_29, qm_30, qm_31]
def qm_g2 : List qs_E := [qm_32, qm_33, qm_34, qm_35, qm_36, qm_37, qm_38, qm_39, qm_40, qm_41, qm_42, qm_43, qm_44, qm_45, qm_46, qm_47]
def qm_g3 : List qs_E := [qm_48, qm_49, qm_50, qm_51, qm_52, qm_53, qm_54, qm_55, qm_56, qm_57, qm_58, qm_59, qm_60, qm_61, qm_62, qm_63]
def qm_g4 : List qs_E := [qm_64, qm_65, qm_66, qm_67, qm_68, qm_69, qm_70, qm_71, qm_72, qm_73, qm_74, qm_75, qm_76, qm_77, qm_78, qm_79]
def qm_g5 : List qs_E := [qm_80, qm_81, qm_82, qm_83, qm_84, qm_85, qm_86, qm_87, qm_88, qm_89, qm_90, qm_91, qm_92, qm_93, qm_94, qm_95]
def qm_g6 : List qs_E := [qm_96, qm_97, qm_98, qm_99, qm_100, qm_101, qm_102, qm_103, qm_104, qm_105, qm_106, qm_107, qm_108, qm_109, qm_110, qm_111]
def qm_g7 : List qs_E := [qm_112, qm_113, qm_114, qm_115, qm_116, qm_117, qm_118, qm_119, qm_120, qm_121, qm_122, qm_123, qm_124, qm_125, qm_126, qm_127]
def qm_g8 : List qs_E := [qm_128, qm_129, qm_130, qm_131, qm_132, qm_133, qm_134, qm_135, qm_136, qm_137, qm_138, qm_139, qm_140, qm_141, qm_142, qm_143]
def qm_g9 : List qs_E := [qm_144, qm_145, qm_146, qm_147, qm_148, qm_149, qm_150, qm_151, qm_152, qm_153, qm_154, qm_155, qm_156, qm_157, qm_158, qm_159]
def qm_g10 : List qs_E := [qm_160, qm_161, qm_162, qm_163, qm_164, qm_165, qm_166, qm_167, qm_168, qm_169, qm_170, qm_171, qm_172, qm_173, qm_174, qm_175]
def qm_g11 : List qs_E := [qm_176, qm_177, qm_178, qm_179, qm_180, qm_181, qm_182, qm_183, qm_184, qm_185, qm_186, qm_187, qm_188, qm_189, qm_190, qm_191]
def qm_g12 : List qs_E := [qm_192, qm_193, qm_194, qm_195, qm_196, qm_197, qm_198, qm_199, qm_200, qm_201, qm_202, qm_203, qm_204, qm_205, qm_206, qm_207]
def qm_g13 : List qs_E := [qm_208, qm_209, qm_210, qm_211]
def qm_g14 : List qs_E := [qm_224]
def qm_tab : List (List qs_E) := [qm_g0, qm_g1, qm_g2, qm_g3, qm_g4, qm_g5, qm_g6, qm_g7, qm_g8, qm_g9, qm_g10, qm_g11, qm_g12, qm_g13, qm_g14]
def qm_at (M : Nat) : Option qs_E := match qm_tab[M / 16]? with
  | some g => g[M % 16]?
  | none => none
end
section
/-! THE SMALL MACHINE RUNS: by fuel, then for as long as it takes -/
def qm_cd (M : Nat) : List (List (Option qs_Row)) := match qm_at M with
  | some E => qe_cd E
  | none => []
def qm_rk (M : Nat) : Nat := match qm_at M with
  | some E => qe_rk E
  | none => 9
def qm_ml (M : Nat) : Nat := match qm_at M with
  | some E => qe_ml E
  | none => 0
def qs_row (rk : Nat) (call : Nat → List Value → qs_M → Option qs_R) (r : Option qs_Row) (pc : Nat) (L : qs_L) (st : List Value) (m : qs_M) (k : Nat → qs_L → List Value → qs_M → Option qs_R) : Option qs_R := match r with
  | some (i, a, b, c, v, sw, _) => qs_step rk call pc L st m i a b c v sw k
  | none => none
def qs_ev : Nat → Nat → Nat → Nat → qs_L → List Value → qs_M → Option qs_R
  | 0, _, _, _, _, _, _ => none
  | n + 1, d, M, pc, L, st, m => qs_row (qm_rk M) (fun M' as m' => match d with
    | 0 => none
    | d' + 1 => qs_ev n d' M' 0 (qs_init (qm_ml M') as) [] m') (qs_fetch (qm_cd M) pc) pc L st m (fun pc' L' st' m' => qs_ev n d M pc' L' st' m')
/-- less is said on the left -/
def qs_le (x y : Option qs_R) : Prop := ∀ r, x = some r → y = some r
theorem qs_le_rfl (x : Option qs_R) : qs_le x x := fun _ h => h
theorem qs_bI_le {x y : Option qs_R} {f g : Int32 → qs_M → Option qs_R} (h : qs_le x y) (hf : ∀ r m, qs_le (f r m) (g r m)) : qs_le (qs_bI x f) (qs_bI y g) := by
  intro r hr
  unfold qs_bI at hr ⊢
  cases x with
  | none => cases hr
  | some p =>
    rw [h p rfl]
    obtain ⟨v, m⟩ := p
    cases v with
    | none => cases hr
    | some v => cases v <;> first | exact hf _ _ _ hr | cases hr
theorem qs_bV_le {x y : Option qs_R} {f g : qs_M → Option qs_R} (h : qs_le x y) (hf : ∀ m, qs_le (f m) (g m)) : qs_le (qs_bV x f) (qs_bV y g) := by
  intro r hr
  unfold qs_bV at hr ⊢
  cases x with
  | none => cases hr
  | some p =>
    rw [h p rfl]
    obtain ⟨v, m⟩ := p
    cases v with
    | none => exact hf _ _ hr
    | some v => cases hr
theorem qs_con_le {rk : Nat} {x y : Option qs_R} {f g : List Value → qs_M → Option qs_R} (h : qs_le x y) (hf : ∀ r m, qs_le (f r m) (g r m)) : qs_le (qs_con rk x f) (qs_con rk y g) := by
  unfold qs_con
  split
  · exact qs_bV_le h (fun m => hf _ m)
  · exact qs_bI_le h (fun r m => hf _ m)
theorem qs_sw_nat {ρ ρ' : Type} (f : ρ → ρ') (x : Int32) (d : Nat) (k : Nat → ρ) : ∀ sw : List (Int32 × Nat), f (qs_sw x sw d k) = qs_sw x sw d (fun t => f (k t))
  | [] => rfl
  | (v, t) :: sw => by
    unfold qs_sw
    by_cases e : x = v
    · rw [if_pos e, if_pos e]
    · rw [if_neg e, if_neg e]; exact qs_sw_nat f x d k sw
set_option maxHeartbeats 4000000 in
theorem qs_stp_nat {ρ ρ' : Type} (f : ρ → ρ') {rk : Nat} {fl : ρ} {rt : qs_R → ρ} {cl : Nat → Nat → List Value → qs_M → Nat → qs_L → List Value → ρ} {k : Nat → qs_L → List Value → qs_M → ρ} {pc : Nat} {L : qs_L} {st : List Value} {m : qs_M} {i : Instr} {a b c : Nat} {v : Int32} {sw : List (Int32 × Nat)} :
    f (qs_stp rk fl rt cl k pc L st m i a b c v sw) = qs_stp rk (f fl) (fun r => f (rt r)) (fun e M as m pc L rest => f (cl e M as m pc L rest)) (fun pc L st m => f (k pc L st m)) pc L st m i a b c v sw := by
  have key : f (match st with | .int x :: st => qs_sw x sw a (fun t => k t L st m) | _ => fl) = (match st with | .int x :: st => qs_sw x sw a (fun t => f (k t L st m)) | _ => f fl) := by
    cases st with
    | nil => rfl
    | cons q st =>
      cases q with
      | int x => exact qs_sw_nat f x a (fun t => k t L st m) sw
      | _ => rfl
  unfold qs_stp
  cases i <;> first
    | rfl
    | exact key
    | (split <;> first | rfl | (repeat' split) <;> rfl)
    | (cases hq : Nat.blt a 1000 <;> cases hq1 : (a == 1001) <;> cases hq2 : (a == 1002) <;> cases hq3 : (a == 1003) <;> simp only [cond_true, cond_false] <;> (repeat' split) <;> rfl)
    | (cases hq : (a == 1000) <;> simp only [cond_true, cond_false] <;> (repeat' split) <;> rfl)
/-- what a step asks for -/
abbrev qs_A : Type := Option (qs_R ⊕ (Nat × qs_L × List Value × qs_M) ⊕ (Nat × Nat × List Value × qs_M × Nat × qs_L × List Value))
def qs_act (rk : Nat) (pc : Nat) (L : qs_L) (st : List Value) (m : qs_M) (i : Instr) (a b c : Nat) (v : Int32) (sw : List (Int32 × Nat)) : qs_A :=
  qs_stp rk none (fun r => some (.inl r)) (fun e M as m pc L rest => some (.inr (.inr (e, M, as, m, pc, L, rest)))) (fun pc L st m => some (.inr (.inl (pc, L, st, m)))) pc L st m i a b c v sw
def qs_go (call : Nat → List Value → qs_M → Option qs_R) (k : Nat → qs_L → List Value → qs_M → Option qs_R) : qs_A → Option qs_R
  | none => none
  | some (.inl r) => some r
  | some (.inr (.inl (pc, L, st, m))) => k pc L st m
  | some (.inr (.inr (e, M, as, m, pc, L, rest))) => qs_con e (call M as m) (fun vs m => k pc L (vs ++ rest) m)
theorem qs_step_go (rk : Nat) (call : Nat → List Value → qs_M → Option qs_R) (pc : Nat) (L : qs_L) (st : List Value) (m : qs_M) (i : Instr) (a b c : Nat) (v : Int32) (sw : List (Int32 × Nat)) (k : Nat → qs_L → List Value → qs_M → Option qs_R) : qs_step rk call pc L st m i a b c v sw k = qs_go call k (qs_act rk pc L st m i a b c v sw) := by
  unfold qs_act qs_step
  have h := qs_stp_nat (qs_go call k) (rk := rk) (fl := none) (rt := fun r => some (.inl r)) (cl := fun e M as m pc L rest => some (.inr (.inr (e, M, as, m, pc, L, rest)))) (k := fun pc L st m => some (.inr (.inl (pc, L, st, m)))) (pc := pc) (L := L) (st := st) (m := m) (i := i) (a := a) (b := b) (c := c) (v := v) (sw := sw)
  exact h.symm
theorem qs_go_le {c1 c2 : Nat → List Value → qs_M → Option qs_R} {k1 k2 : Nat → qs_L → List Value → qs_M → Option qs_R} (hc : ∀ M as m, qs_le (c1 M as m) (c2 M as m)) (hk : ∀ pc L st m, qs_le (k1 pc L st m) (k2 pc L st m)) (A : qs_A) : qs_le (qs_go c1 k1 A) (qs_go c2 k2 A) := by
  unfold qs_go
  split
  · exact qs_le_rfl _
  · exact qs_le_rfl _
  · exact hk _ _ _ _
  · exact qs_con_le (hc _ _ _) (fun vs m => hk _ _ _ _)
theorem qs_step_le {rk : Nat} {c1 c2 : Nat → List Value → qs_M → Option qs_R} {k1 k2 : Nat → qs_L → List Value → qs_M → Option qs_R} (hc : ∀ M as m, qs_le (c1 M as m) (c2 M as m)) (hk : ∀ pc L st m, qs_le (k1 pc L st m) (k2 pc L st m)) {pc : Nat} {L : qs_L} {st : List Value} {m : qs_M} {i : Instr} {a b c : Nat} {v : Int32} {sw : List (Int32 × Nat)} : qs_le (qs_step rk c1 pc L st m i a b c v sw k1) (qs_step rk c2 pc L st m i a b c v sw k2) := by
  rw [qs_step_go, qs_step_go]
  exact qs_go_le hc hk _
theorem qs_con_some {e : Nat} {x : Option qs_R} {f : List Value → qs_M → Option qs_R} {r : qs_R} (h : qs_con e x f = some r) : ∃ v m, x = some (v, m) ∧ f v.toList m = some r ∧ ∀ g : List Value → qs_M → Option qs_R, qs_con e (some (v, m)) g = g v.toList m := by
  cases x with
  | none => cases e <;> cases h
  | some p =>
    obtain ⟨v, m⟩ := p
    cases e with
    | zero =>
      cases v with
      | none => exact ⟨none, m, rfl, h, fun g => rfl⟩
      | some v => cases h
    | succ e =>
      cases v with
      | none => cases h
      | some v => cases v <;> first | exact ⟨_, m, rfl, h, fun g => rfl⟩ | cases h
end
section
/-! what comes of a run, as long as it takes -/
theorem qs_row_le {rk : Nat} {c1 c2 : Nat → List Value → qs_M → Option qs_R} {k1 k2 : Nat → qs_L → List Value → qs_M → Option qs_R} (hc : ∀ M as m, qs_le (c1 M as m) (c2 M as m)) (hk : ∀ pc L st m, qs_le (k1 pc L st m) (k2 pc L st m)) {ro : Option qs_Row} {pc : Nat} {L : qs_L} {st : List Value} {m : qs_M} : qs_le (qs_row rk c1 ro pc L st m k1) (qs_row rk c2 ro pc L st m k2) := by
  unfold qs_row
  split
  · exact qs_step_le hc hk
  · exact qs_le_rfl _
def qs_cl (n d : Nat) (M : Nat) (as : List Value) (m : qs_M) : Option qs_R := match d with
  | 0 => none
  | d' + 1 => qs_ev n d' M 0 (qs_init (qm_ml M) as) [] m
theorem qs_ev_succ (n d M pc : Nat) (L : qs_L) (st : List Value) (m : qs_M) : qs_ev (n + 1) d M pc L st m = qs_row (qm_rk M) (qs_cl n d) (qs_fetch (qm_cd M) pc) pc L st m (qs_ev n d M) := rfl
theorem qs_ev_step : ∀ (n d M pc : Nat) (L : qs_L) (st : List Value) (m : qs_M), qs_le (qs_ev n d M pc L st m) (qs_ev (n + 1) d M pc L st m)
  | 0, _, _, _, _, _, _ => fun _ h => by cases h
  | n + 1, d, M, pc, L, st, m => by
    rw [qs_ev_succ n, qs_ev_succ (n + 1)]
    refine qs_row_le (fun M' as m' => ?_) (fun pc' L' st' m' => qs_ev_step n d M pc' L' st' m')
    unfold qs_cl
    cases d with
    | zero => exact qs_le_rfl _
    | succ d => exact qs_ev_step n d M' 0 _ [] m'
theorem qs_ev_mono {n n' d M pc : Nat} {L : qs_L} {st : List Value} {m : qs_M} (h : n ≤ n') : qs_le (qs_ev n d M pc L st m) (qs_ev n' d M pc L st m) := by
  induction h with
  | refl => exact qs_le_rfl _
  | step _ ih => exact fun r hr => qs_ev_step _ _ _ _ _ _ _ r (ih r hr)
/-- what comes of it -/
noncomputable def qs_EV (d M pc : Nat) (L : qs_L) (st : List Value) (m : qs_M) : Option qs_R :=
  haveI := Classical.propDecidable (∃ n r, qs_ev n d M pc L st m = some r)
  if h : ∃ n r, qs_ev n d M pc L st m = some r then some (Classical.choose (Classical.choose_spec h)) else none
theorem qs_EV_iff {d M pc : Nat} {L : qs_L} {st : List Value} {m : qs_M} {r : qs_R} : qs_EV d M pc L st m = some r ↔ ∃ n, qs_ev n d M pc L st m = some r := by
  unfold qs_EV
  constructor
  · intro h
    by_cases e : ∃ n r, qs_ev n d M pc L st m = some r
    · rw [dif_pos e] at h
      exact ⟨Classical.choose e, by rw [← h]; exact Classical.choose_spec (Classical.choose_spec e)⟩
    · rw [dif_neg e] at h; cases h
  · intro ⟨n, h⟩
    have e : ∃ n r, qs_ev n d M pc L st m = some r := ⟨n, r, h⟩
    rw [dif_pos e]
    have h2 := Classical.choose_spec (Classical.choose_spec e)
    have h3 := qs_ev_mono (Nat.le_max_left n (Classical.choose e)) r h
    have h4 := qs_ev_mono (Nat.le_max_right n (Classical.choose e)) _ h2
    rw [h3] at h4
    exact h4.symm
noncomputable def qs_call (d : Nat) (M : Nat) (as : List Value) (m : qs_M) : Option qs_R := match d with
  | 0 => none
  | d' + 1 => qs_EV d' M 0 (qs_init (qm_ml M) as) [] m
theorem qs_call_le (n d M : Nat) (as : List Value) (m : qs_M) : qs_le (qs_cl n d M as m) (qs_call d M as m) := by
  intro r h
  unfold qs_cl at h
  unfold qs_call
  cases d with
  | zero => cases h
  | succ d => exact qs_EV_iff.mpr ⟨n, h⟩
theorem qs_call_some {d M : Nat} {as : List Value} {m : qs_M} {r : qs_R} (h : qs_call d M as m = some r) : ∃ n, qs_cl n d M as m = some r := by
  unfold qs_call at h
  unfold qs_cl
  cases d with
  | zero => cases h
  | succ d => exact qs_EV_iff.mp h
theorem qs_cl_mono {n n' d M : Nat} {as : List Value} {m : qs_M} (h : n ≤ n') : qs_le (qs_cl n d M as m) (qs_cl n' d M as m) := by
  unfold qs_cl
  cases d with
  | zero => exact qs_le_rfl _
  | succ d => exact qs_ev_mono h
theorem qs_go_ct {d M : Nat} {A : qs_A} {r : qs_R} (h : qs_go (qs_call d) (qs_EV d M) A = some r) : ∃ n, qs_go (qs_cl n d) (qs_ev n d M) A = some r := by
  unfold qs_go at h ⊢
  split at h
  · cases h
  · exact ⟨0, h⟩
  · exact qs_EV_iff.mp h
  · obtain ⟨v, m2, h1, h2, h3⟩ := qs_con_some h
    obtain ⟨n1, g1⟩ := qs_call_some h1
    obtain ⟨n2, g2⟩ := qs_EV_iff.mp h2
    refine ⟨max n1 n2, ?_⟩
    rw [qs_cl_mono (Nat.le_max_left n1 n2) _ g1, h3]
    exact qs_ev_mono (Nat.le_max_right n1 n2) _ g2
/-- the run's own equation -/
theorem qs_EV_eq (d M pc : Nat) (L : qs_L) (st : List Value) (m : qs_M) : qs_EV d M pc L st m = qs_row (qm_rk M) (qs_call d) (qs_fetch (qm_cd M) pc) pc L st m (qs_EV d M) := by
  have h1 : qs_le (qs_EV d M pc L st m) (qs_row (qm_rk M) (qs_call d) (qs_fetch (qm_cd M) pc) pc L st m (qs_EV d M)) := by
    intro r h
    obtain ⟨n, hn⟩ := qs_EV_iff.mp h
    cases n with
    | zero => cases hn
    | succ n =>
      rw [qs_ev_succ] at hn
      exact qs_row_le (fun M as m => qs_call_le n d M as m) (fun pc L st m r h => qs_EV_iff.mpr ⟨n, h⟩) r hn
  have h2 : qs_le (qs_row (qm_rk M) (qs_call d) (qs_fetch (qm_cd M) pc) pc L st m (qs_EV d M)) (qs_EV d M pc L st m) := by
    intro r h
    refine qs_EV_iff.mpr ?_
    cases e : qs_fetch (qm_cd M) pc with
    | none => rw [e] at h; cases h
    | some q =>
      obtain ⟨i, a, b, c, v, sw, pl⟩ := q
      rw [e] at h
      unfold qs_row at h
      dsimp only at h
      rw [qs_step_go] at h
      obtain ⟨n, hn⟩ := qs_go_ct h
      refine ⟨n + 1, ?_⟩
      rw [qs_ev_succ, e]
      unfold qs_row
      dsimp only
      rw [qs_step_go]
      exact hn
  cases e : qs_EV d M pc L st m with
  | some r => exact (h1 r e).symm
  | none =>
    cases e2 : qs_row (qm_rk M) (qs_call d) (qs_fetch (qm_cd M) pc) pc L st m (qs_EV d M) with
    | none => rfl
    | some r => rw [h2 r e2] at e; cases e
/-- many instructions at once, up to where it is cut -/
def qs_seg (cut : List Nat) (cd : List (List (Option qs_Row))) (rk : Nat) (call : Nat → List Value → qs_M → Option qs_R) (kk : Nat → qs_L → List Value → qs_M → Option qs_R) : Nat → Nat → qs_L → List Value → qs_M → Option qs_R
  | 0, pc, L, st, m => kk pc L st m
  | n + 1, pc, L, st, m => qs_row rk call (qs_fetch cd pc) pc L st m (fun pc' L' st' m' => bif cut.elem pc' then kk pc' L' st' m' else qs_seg cut cd rk call kk n pc' L' st' m')
theorem qs_EV_seg {d M rk : Nat} {cd : List (List (Option qs_Row))} (hc : qm_cd M = cd) (hr : qm_rk M = rk) (cut : List Nat) : ∀ (n pc : Nat) (L : qs_L) (st : List Value) (m : qs_M), qs_EV d M pc L st m = qs_seg cut cd rk (qs_call d) (qs_EV d M) n pc L st m
  | 0, _, _, _, _ => rfl
  | n + 1, pc, L, st, m => by
    rw [qs_EV_eq, hc, hr]
    unfold qs_seg
    congr 1
    funext pc' L' st' m'
    cases cut.elem pc' with
    | true => rfl
    | false => exact qs_EV_seg hc hr cut n pc' L' st' m'
end
section
/-! THE TABLES ARE RIGHT: every row decodes, every word that it needs is in lw_tbl -/
def qk_tb (k : Nat) : List Jvm.Cond := match k with
  | 0 => k2_sels lw_privs
  | 1 => tables_1_1
  | 2 => tables_1_2
  | 3 => tables_1_3
  | 4 => tables_1_4
  | 5 => tables_1_5
  | _ => tables_1_6
/-- the words that stay as the machine runs on -/
def lw_gd : List Jvm.Cond := lw_tbl.filter goodWord
theorem lw_gd_good : GoodIn lw_gd lw_gd := fun w h => ⟨h, good_of_word (List.mem_filter.mp h).2⟩
theorem qk_tb_in {k : Nat} {w : Jvm.Cond} (h : w ∈ qk_tb k) : w ∈ lw_tbl := by
  have t : w ∈ tables_1 → w ∈ lw_tbl := fun h => List.mem_append_right _ h
  unfold qk_tb at h
  unfold tables_1 at t
  split at h
  · exact List.mem_append_left _ h
  · exact t (List.mem_append_left _ h)
  · exact t (List.mem_append_right _ (List.mem_append_left _ h))
  · exact t (List.mem_append_right _ (List.mem_append_right _ (List.mem_append_left _ h)))
  · exact t (List.mem_append_right _ (List.mem_append_right _ (List.mem_append_right _ (List.mem_append_left _ h))))
  · exact t (List.mem_append_right _ (List.mem_append_right _ (List.mem_append_right _ (List.mem_append_right _ (List.mem_append_left _ h)))))
  · exact t (List.mem_append_right _ (List.mem_append_right _ (List.mem_append_right _ (List.mem_append_right _ (List.mem_append_right _ h)))))
def qk_is (pl : List Nat) (j : Nat) (w : Jvm.Cond) : Bool := match pl[j]? with
  | some p => match (qk_tb (p / 1000))[p % 1000]? with
    | some u => decide (u = w) && goodWord u
    | none => false
  | none => false
theorem qk_is_in {pl : List Nat} {j : Nat} {w : Jvm.Cond} (h : qk_is pl j w = true) : w ∈ lw_gd := by
  unfold qk_is at h
  split at h
  · split at h
    · rename_i u e
      simp only [Bool.and_eq_true, decide_eq_true_eq] at h
      obtain ⟨rfl, h⟩ := h
      exact List.mem_filter.mpr ⟨qk_tb_in (List.mem_of_getElem? e), h⟩
    · cases h
  · cases h
def qk_len (i : Instr) (b : Nat) : Nat := match i with
  | .bipush _ => 2
  | .ldc _ => 2
  | .iload _ => 2
  | .aload _ => 2
  | .lload _ => 2
  | .istore _ => 2
  | .astore _ => 2
  | .lstore _ => 2
  | .newarray _ => 2
  | .sipush _ => 3
  | .ldc_w _ => 3
  | .iinc _ _ => 3
  | .ifCond _ _ => 3
  | .if_icmp _ _ => 3
  | .goto _ => 3
  | .getfield _ => 3
  | .putfield _ => 3
  | .getstatic _ => 3
  | .new _ => 3
  | .anewarray _ => 3
  | .invokestatic _ => 3
  | .invokevirtual _ => 3
  | .invokespecial _ => 3
  | .tableswitch _ _ _ _ => b
  | .lookupswitch _ _ => b
  | _ => 1
def qk_str (a : Nat) : Nat × String × List Int32 := match a with
  | 0 => (63, "leak", [108, 101, 97, 107])
  | 1 => (72, "fee", [102, 101, 101])
  | 2 => (74, "fine", [102, 105, 110, 101])
  | 3 => (100, "gra", [103, 114, 97])
  | 4 => (102, "df", [100, 102])
  | _ => (104, "ts", [116, 115])
def qt_ty (t : Nat) : Nat → FieldType := match t with
  | 0 => tyX0
  | 1 => tyX1
  | 2 => tyX2
  | 3 => tyX3
  | 4 => tyX4
  | 5 => tyX5
  | 6 => tyX6
  | 7 => tyX7
  | _ => tyX8
def qk_tsw (pc : Nat) : Int → List (Int32 × Nat) → List Int → Bool
  | _, [], [] => true
  | lo, (v, t) :: r, o :: os => decide (v.toInt = lo) && decide ((pc : Int) + o = (t : Int)) && qk_tsw pc (lo + 1) r os
  | _, _, _ => false
def qk_lsw (pc : Nat) : List (Int32 × Nat) → List (Int × Int) → Bool
  | [], [] => true
  | (v, t) :: r, (x, o) :: os => decide (v.toInt = x) && decide ((pc : Int) + o = (t : Int)) && qk_lsw pc r os
  | _, _ => false
def qk_ty (c : Nat) (ty : FieldType) : Bool := match c, ty with
  | 0, .int => true
  | 2, .boolean => true
  | 1, .object _ => true
  | 1, .array _ => true
  | _, _ => false
/-- calls of a nest mate's private methods -/
def qk_nests : List (String × Nat × MethodName) := [(RX1, 22, yX7_within), (RX2, 111, yX7_held), (RX2, 115, yX7_isOf), (RX0, 52, yX7_isOf), (RX0, 40, yX7_held)]
def qk_lnk (own : String) (i : Nat) (y : MethodName) (pl : List Nat) : Bool := match pl[1]? with
  | some 0 => qk_is pl 0 (.methodLink own i y)
  | some 1 => decide ((own, i, y) ∈ qk_nests)
  | _ => false
def qk_ins (E : qs_E) (pc : Nat) (i : Instr) (a b c : Nat) (v : Int32) (sw : List (Int32 × Nat)) (pl : List Nat) : Bool := match i with
  | .iconst n => decide (Int32.ofInt n = v)
  | .bipush n => decide ((Int8.ofInt n).toInt32 = v)
  | .sipush n => decide ((Int16.ofInt n).toInt32 = v)
  | .lconst n => decide ((n : Nat) = 0)
  | .ldc n => match a with
    | 0 => qk_is pl 0 (.constant (qe_own E) n v)
    | _ => decide (2 ≤ a ∧ a < 8) && decide (qe_own E = RX3) && decide ((qk_str (a - 2)).1 = n)
  | .ldc_w n => qk_is pl 0 (.constant (qe_own E) n v)
  | .iload_n n => decide ((n : Nat) = a)
  | .aload_n n => decide ((n : Nat) = a)
  | .istore_n n => decide ((n : Nat) = a) && decide (a < qe_ml E)
  | .astore_n n => decide ((n : Nat) = a) && decide (a < qe_ml E)
  | .iload n => decide (n = a)
  | .aload n => decide (n = a)
  | .lload n => decide (n = a)
  | .istore n => decide (n = a) && decide (a < qe_ml E)
  | .astore n => decide (n = a) && decide (a < qe_ml E)
  | .lstore n => decide (n = a) && decide (a + 1 < qe_ml E)
  | .iinc n k => decide (n = a) && decide (Int32.ofInt k = v) && decide (a < qe_ml E)
  | .ifCond _ o => decide ((pc : Int) + o = (a : Int))
  | .if_icmp _ o => decide ((pc : Int) + o = (a : Int))
  | .goto o => decide ((pc : Int) + o = (a : Int))
  | .tableswitch d lo hi offs => decide ((pc : Int) + d = (a : Int)) && decide (hi = lo + (offs.toList.length : Int) - 1) && qk_tsw pc lo sw offs.toList
  | .lookupswitch d ps => decide ((pc : Int) + d = (a : Int)) && (ps.toList.zip (ps.toList.drop 1)).all (fun (a, next) => a.1 < next.1) && qk_lsw pc sw ps.toList
  | .getfield n => match vwCl[a]? with
    | some q => decide (b < q.2.2) && qk_is pl 0 (.fieldLink (qe_own E) n (q.2.1 b).1 (q.2.1 b).2.1 (q.2.1 b).2.2.1) && qk_ty c (qt_ty a b)
    | none => decide (a = 90) && ((decide (b = 0 ∧ c = 1) && qk_is pl 0 (.fieldLink (qe_own E) n "java/lang/String" "value" "[B")) || (decide (b = 1 ∧ c = 0) && qk_is pl 0 (.fieldLink (qe_own E) n "java/lang/String" "coder" "B")))
  | .putfield n => match vwCl[a]? with
    | some q => decide (b < q.2.2) && qk_is pl 0 (.fieldLink (qe_own E) n (q.2.1 b).1 (q.2.1 b).2.1 (q.2.1 b).2.2.1) && qk_ty c (qt_ty a b) && (bif c == 1 then (decide ((q.2.1 b).2.2.2 = true) && decide ((qe_y E).name = "<init>") && decide ((q.2.1 b).1 = qe_own E)) else decide ((q.2.1 b).2.2.2 = false))
    | none => false
  | .getstatic n => match a with
    | 0 => decide (v = 1) && qk_is pl 0 (.fieldLink (qe_own E) n "java/lang/String" "COMPACT_STRINGS" "Z")
    | 1 => qk_is pl 0 (.fieldLink (qe_own E) n "QuarterTurn" "UNDER" "[I")
    | _ => decide (a = 14) && qk_is pl 0 (.fieldLink (qe_own E) n "jdk/internal/util/Preconditions" "SIOOBE_FORMATTER" "Ljava/util/function/BiFunction;")
  | .iaload => decide (a = 20 ∨ a = 25 ∨ a = 2600)
  | .baload => decide (a = 21 ∨ a = 24)
  | .arraylength => decide (a = 24 ∨ a = 2600)
  | .new n => match vwCl[a]? with
    | some q => qk_is pl 0 (.classLink (qe_own E) n q.1)
    | none => false
  | .newarray t => decide ((t = .int ∧ a = 20) ∨ (t = .boolean ∧ a = 21) ∨ (t = .char ∧ a = 22) ∨ (t = .long ∧ a = 23))
  | .anewarray n => match vwCl[a - 30]? with
    | some q => decide (30 ≤ a) && qk_is pl 0 (.classLink (qe_own E) n q.1) && decide (a = 30 ∨ a = 34 ∨ a = 35 ∨ a = 36)
    | none => false
  | .invokestatic n => bif a == 1001 then qk_is pl 0 (.methodLink (qe_own E) n arraycopyName) else bif a == 1002 then qk_is pl 0 (.methodLink (qe_own E) n Lib.Math.max.name) else bif a == 1003 then qk_is pl 0 (.methodLink (qe_own E) n Lib.Math.min.name) else bif a == 1004 then qk_is pl 0 (.methodLink (qe_own E) n Lib.Math.abs.name) else match qm_at a with
    | some F => decide (qe_kd F = 0) && decide (b = qe_na F * 8 + qe_rk F) && decide (qe_rk F < 8) && qk_lnk (qe_own E) n (qe_y F) pl && decide (a < 224)
    | none => false
  | .invokevirtual n => match qm_at a with
    | some F => decide (qe_kd F = 1) && decide (b = qe_na F * 8 + qe_rk F) && decide (qe_rk F < 8) && qk_lnk (qe_own E) n (qe_y F) pl && decide (a < 224) && (decide ((vwCl[c]?).map (fun q => q.1) = some (qe_y F).cls) || (decide (c = 90) && decide ((qe_y F).cls = "java/lang/String")))
    | none => false
  | .invokespecial n => bif a == 1000 then qk_is pl 0 (.methodLink (qe_own E) n Lib.objectInit) else match qm_at a with
    | some F => decide (qe_kd F = 2) && decide (b = qe_na F * 8) && decide (qe_rk F = 0) && qk_is pl 0 (.methodLink (qe_own E) n (qe_y F)) && decide (a < 224)
    | none => false
  | _ => true
def qk_row (E : qs_E) (pc : Nat) (r : qs_Row) : Bool := match r with
  | (i, a, b, c, v, sw, pl) => decide (decode (qe_b E) pc = .ok (i, qk_len i b)) && qk_ins E pc i a b c v sw pl
def qk_ch (E : qs_E) : Nat → List (Option qs_Row) → Bool
  | _, [] => true
  | pc, none :: r => qk_ch E (pc + 1) r
  | pc, some q :: r => qk_row E pc q && qk_ch E (pc + 1) r
def qk_chs (E : qs_E) : Nat → List (List (Option qs_Row)) → Bool
  | _, [] => true
  | c, ch :: r => qk_ch E (16 * c) ch && qk_chs E (c + 1) r
def qk_rt (rk : Nat) (rt : Option FieldType) : Bool := match rk, rt with
  | 0, none => true
  | 1, some .int => true
  | 2, some .boolean => true
  | 3, some .char => true
  | 4, some .byte => true
  | _, _ => false
def qk_ent (E : qs_E) : Bool :=
  decide ((qe_y E).cls = qe_own E) && plainName (qe_own E) && decide ((parseMethodDescriptor (qe_y E).desc).map (fun d => d.parameters.length) = some (qe_na E)) &&
  qk_is (qe_pl E) 0 (.code (qe_y E) (qe_b E) (qe_ml E) (qe_rt E)) && qk_rt (qe_rk E) (qe_rt E) && decide (qe_na E + (if qe_kd E = 0 then 0 else 1) ≤ qe_ml E ∧ qe_ml E ≤ 40) &&
  decide ((qe_y E).cls ≠ "java/lang/invoke/MethodHandle" ∧ (qe_y E).cls ≠ "java/lang/invoke/VarHandle") &&
  qk_is (qe_pl E) 2 (.initialized (qe_y E).cls) &&
  (match qe_kd E with
  | 0 => qk_is (qe_pl E) 1 (.static (qe_y E))
  | 1 => qk_is (qe_pl E) 1 (.instanceMethod (qe_y E)) && qk_is (qe_pl E) 3 (.selects (qe_y E).cls (qe_y E) (qe_y E))
  | _ => qk_is (qe_pl E) 1 (.instanceMethod (qe_y E)) && decide ((qe_y E).name = "<init>"))
theorem qk_ch_at {E : qs_E} : ∀ (ch : List (Option qs_Row)) (pc j : Nat) (r : qs_Row), qk_ch E pc ch = true → ch[j]? = some (some r) → qk_row E (pc + j) r = true
  | [], _, j, r, _, h => by simp at h
  | none :: ch, pc, 0, r, _, h => by simp at h
  | none :: ch, pc, j + 1, r, hk, h => by
    rw [List.getElem?_cons_succ] at h
    have := qk_ch_at ch (pc + 1) j r hk h
    rwa [show pc + 1 + j = pc + (j + 1) by omega] at this
  | some q :: ch, pc, 0, r, hk, h => by
    simp only [qk_ch, Bool.and_eq_true] at hk
    simp at h
    subst h
    exact hk.1
  | some q :: ch, pc, j + 1, r, hk, h => by
    simp only [qk_ch, Bool.and_eq_true] at hk
    rw [List.getElem?_cons_succ] at h
    have := qk_ch_at ch (pc + 1) j r hk.2 h
    rwa [show pc + 1 + j = pc + (j + 1) by omega] at this
theorem qk_chs_at {E : qs_E} : ∀ (cd : List (List (Option qs_Row))) (c k j : Nat) (ch : List (Option qs_Row)) (r : qs_Row), qk_chs E c cd = true → cd[k]? = some ch → ch[j]? = some (some r) → qk_row E (16 * (c + k) + j) r = true
  | [], _, k, _, _, _, _, h, _ => by simp at h
  | h0 :: cd, c, 0, j, ch, r, hk, h, h2 => by
    simp only [qk_chs, Bool.and_eq_true] at hk
    simp at h
    subst h
    exact qk_ch_at _ _ j r hk.1 h2
  | h0 :: cd, c, k + 1, j, ch, r, hk, h, h2 => by
    simp only [qk_chs, Bool.and_eq_true] at hk
    rw [List.getElem?_cons_succ] at h
    have := qk_chs_at cd (c + 1) k j ch r hk.2 h h2
    rwa [show c + 1 + k = c + (k + 1) by omega] at this
theorem qk_chs_app {E : qs_E} : ∀ (l1 l2 : List (List (Option qs_Row))) (c : Nat), qk_chs E c l1 = true → qk_chs E (c + l1.length) l2 = true → qk_chs E c (l1 ++ l2) = true
  | [], l2, c, _, h => h
  | ch :: l1, l2, c, h1, h2 => by
    simp only [qk_chs, Bool.and_eq_true, List.cons_append] at h1 ⊢
    refine ⟨h1.1, qk_chs_app l1 l2 (c + 1) h1.2 ?_⟩
    rwa [show c + 1 + l1.length = c + (ch :: l1).length by simp; omega]
theorem qk_fetch {E : qs_E} (hk : qk_chs E 0 (qe_cd E) = true) {pc : Nat} {r : qs_Row} (h : qs_fetch (qe_cd E) pc = some r) : qk_row E pc r = true := by
  unfold qs_fetch at h
  split at h
  · rename_i ch hc
    split at h
    · rename_i q hq
      subst h
      have := qk_chs_at _ 0 _ _ _ _ hk hc hq
      rwa [show 16 * (0 + pc / 16) + pc % 16 = pc by omega] at this
    · cases h
  · cases h
def qk_E (E : qs_E) : Bool := qk_chs E 0 (qe_cd E) && qk_ent E
end
section
/-! THE WORLD: how a small memory lies in the machine's heap -/
/-- the classes' tables, the arrays' classes, the outside cells' addresses, the first new address, the script's length and ints, the JDK's thing -/
abbrev qw_X : Type := va_G × (Nat → ClassId) × (Nat → Nat) × Nat × Nat × (Nat → Int32) × Value
def qx_D (X : qw_X) : va_G := X.1
def qx_c (X : qw_X) : Nat → ClassId := X.2.1
def qx_e (X : qw_X) : Nat → Nat := X.2.2.1
def qx_b (X : qw_X) : Nat := X.2.2.2.1
def qx_L (X : qw_X) : Nat := X.2.2.2.2.1
def qx_xs (X : qw_X) : Nat → Int32 := X.2.2.2.2.2.1
def qx_f (X : qw_X) : Value := X.2.2.2.2.2.2
def qw_ad (X : qw_X) (k : Nat) : Nat := if k < 16 then qx_e X k else qx_b X + (k - 16)
def qw_v (X : qw_X) : Value → Value
  | .ref k => if k = 14 then qx_f X else .ref (qw_ad X k)
  | v => v
def qw_A (X : qw_X) : Nat → Prop := fun q => qx_b X ≤ q
def qw_sv (X : qw_X) (m : qs_M) (k j : Nat) : Value := match qs_lk m k j with
  | 0 => .int (qs_i m k j)
  | 1 => .null
  | q + 2 => qw_v X (.ref q)
def qw_rf (X : qw_X) (x : Nat) : Option Nat := match x with
  | 0 => none
  | 1 => none
  | q + 2 => some (qw_ad X q)
def qw_cell (X : qw_X) (m : qs_M) (k : Nat) : va_E :=
  if qs_kd m k < 9 then .inr (qs_kd m k, (List.range (qs_nf (qs_kd m k))).map (qw_sv X m k))
  else if qs_kd m k = 23 then .inl (qx_c X 23, qs_sz m k, .inr (.inl (qs_l m k)))
  else if qs_kd m k < 30 then .inl (qx_c X (qs_kd m k), qs_sz m k, .inl (qs_i m k))
  else .inl (qx_c X (qs_kd m k), qs_sz m k, .inr (.inr (.inr (.inr (fun j => qw_rf X (qs_lk m k j))))))
def qw_ws (X : qw_X) (m : qs_M) : va_W := (List.range (qs_n m)).map (fun i => (qx_b X + i, qw_cell X m (16 + i)))
def qw_tys (X : qw_X) : List (ClassId × FieldType) := [(qx_c X 20, .int), (qx_c X 21, .boolean), (qx_c X 22, .char), (qx_c X 23, .long), (qx_c X 30, .object RX0), (qx_c X 34, .object RX4), (qx_c X 35, .object RX5), (qx_c X 36, .object RX6)]
def qw_un : List Int32 := [-1, 0, 0, 1, 2, 0]
/-- what the outside cells hold in the small memory -/
def qw_Mx (X : qw_X) (m : qs_M) : Prop :=
  qs_kd m 0 = 99 ∧
  (qs_kd m 1 = 25 ∧ qs_sz m 1 = 6 ∧ ∀ j, j < 6 → qs_i m 1 j = qw_un.getD j 0) ∧
  (∀ i, i < 6 → qs_kd m (2 + i) = 90 ∧ qs_lk m (2 + i) 0 = 8 + i + 2 ∧ qs_lk m (2 + i) 1 = 0 ∧ qs_i m (2 + i) 1 = 0) ∧
  (∀ i, i < 6 → qs_kd m (8 + i) = 24 ∧ qs_sz m (8 + i) = (qk_str i).2.2.length ∧ ∀ j, j < (qk_str i).2.2.length → qs_i m (8 + i) j = (qk_str i).2.2.getD j 0) ∧
  qs_kd m 14 = 99 ∧ qs_kd m 15 = 99
def qw_okk (t : Nat) : Prop := t < 9 ∨ (20 ≤ t ∧ t < 24) ∨ t = 30 ∨ t = 34 ∨ t = 35 ∨ t = 36
def qw_M (X : qw_X) (m : qs_M) : Prop := qw_Mx X m ∧ (∀ k, 16 + qs_n m ≤ k → qs_kd m k = 100) ∧ ∀ k, 16 ≤ k → k < 16 + qs_n m → qw_okk (qs_kd m k)
theorem qw_Mx.moved {X : qw_X} {m m' : qs_M} (h : qw_Mx X m) (hk : ∀ k, k < 16 → qs_kd m' k = qs_kd m k ∧ qs_sz m' k = qs_sz m k ∧ (∀ j, qs_lk m' k j = qs_lk m k j) ∧ ∀ j, qs_i m' k j = qs_i m k j) : qw_Mx X m' := by
  obtain ⟨a1, ⟨b1, b2, b3⟩, c, d, e1, e2⟩ := h
  refine ⟨?_, ⟨?_, ?_, ?_⟩, ?_, ?_, ?_, ?_⟩
  · rw [(hk 0 (by omega)).1]; exact a1
  · rw [(hk 1 (by omega)).1]; exact b1
  · rw [(hk 1 (by omega)).2.1]; exact b2
  · intro j hj; rw [(hk 1 (by omega)).2.2.2]; exact b3 j hj
  · intro i hi
    obtain ⟨h1, h2, h3, h4⟩ := hk (2 + i) (by omega)
    rw [h1, h3, h3, h4]; exact c i hi
  · intro i hi
    obtain ⟨h1, h2, h3, h4⟩ := hk (8 + i) (by omega)
    rw [h1, h2]
    exact ⟨(d i hi).1, (d i hi).2.1, fun j hj => by rw [h4]; exact (d i hi).2.2 j hj⟩
  · rw [(hk 14 (by omega)).1]; exact e1
  · rw [(hk 15 (by omega)).1]; exact e2
theorem qw_M.ext {X : qw_X} {m : qs_M} (h : qw_M X m) {k : Nat} (hk : k < 16) : qs_kd m k = 25 ∨ qs_kd m k = 90 ∨ qs_kd m k = 24 ∨ qs_kd m k = 99 := by
  obtain ⟨⟨a1, ⟨b1, -⟩, c, d, e1, e2⟩, -⟩ := h
  rcases (by omega : k = 0 ∨ k = 1 ∨ (2 ≤ k ∧ k < 8) ∨ (8 ≤ k ∧ k < 14) ∨ k = 14 ∨ k = 15) with rfl | rfl | ⟨h1, h2⟩ | ⟨h1, h2⟩ | rfl | rfl
  · exact Or.inr (Or.inr (Or.inr a1))
  · exact Or.inl b1
  · have := (c (k - 2) (by omega)).1
    rw [show 2 + (k - 2) = k by omega] at this
    exact Or.inr (Or.inl this)
  · have := (d (k - 8) (by omega)).1
    rw [show 8 + (k - 8) = k by omega] at this
    exact Or.inr (Or.inr (Or.inl this))
  · exact Or.inr (Or.inr (Or.inr e1))
  · exact Or.inr (Or.inr (Or.inr e2))
/-- a cell of a made kind was made -/
theorem qw_M.in {X : qw_X} {m : qs_M} (h : qw_M X m) {k : Nat} (hk : qs_kd m k < 24 ∨ (30 ≤ qs_kd m k ∧ qs_kd m k < 40)) : 16 ≤ k ∧ k - 16 < qs_n m := by
  have h1 : 16 ≤ k := by
    rcases Nat.lt_or_ge k 16 with q | q
    · rcases h.ext q with e | e | e | e <;> rw [e] at hk <;> omega
    · exact q
  refine ⟨h1, ?_⟩
  rcases Nat.lt_or_ge k (16 + qs_n m) with q | q
  · omega
  · rw [h.2.1 k q] at hk; omega
theorem qw_at {X : qw_X} {m : qs_M} {k : Nat} (h : 16 ≤ k ∧ k - 16 < qs_n m) : (qw_ws X m)[k - 16]? = some (qx_b X + (k - 16), qw_cell X m k) := by
  unfold qw_ws
  rw [List.getElem?_map, List.getElem?_range h.2]
  show some (qx_b X + (k - 16), qw_cell X m (16 + (k - 16))) = _
  rw [show 16 + (k - 16) = k by omega]
theorem qw_vr {X : qw_X} {k : Nat} (h : 16 ≤ k) : qw_v X (.ref k) = .ref (qx_b X + (k - 16)) := by
  show (if k = 14 then qx_f X else Value.ref (if k < 16 then qx_e X k else qx_b X + (k - 16))) = _
  rw [if_neg (show ¬ k = 14 by omega), if_neg (show ¬ k < 16 by omega)]
theorem qw_vi {X : qw_X} (x : Int32) : qw_v X (.int x) = .int x := rfl
theorem qw_vl {X : qw_X} (x : Int64) : qw_v X (.long x) = .long x := rfl
theorem qw_ve {X : qw_X} {k : Nat} (h : k < 14) : qw_v X (.ref k) = .ref (qx_e X k) := by
  show (if k = 14 then qx_f X else Value.ref (if k < 16 then qx_e X k else qx_b X + (k - 16))) = _
  rw [if_neg (show ¬ k = 14 by omega), if_pos (show k < 16 by omega)]
theorem qw_D {X : qw_X} {m : qs_M} : va_D (qw_A X) (qw_ws X m) := by
  have key : ∀ (k : Nat) (q : Nat × va_E), (qw_ws X m)[k]? = some q → q.1 = qx_b X + k := by
    intro k q h
    unfold qw_ws at h
    rw [List.getElem?_map] at h
    rcases Nat.lt_or_ge k (qs_n m) with hk | hk
    · rw [List.getElem?_range hk] at h
      cases h
      rfl
    · rw [List.getElem?_eq_none (by simpa using hk)] at h
      cases h
  refine ⟨fun i j p q hi hj e => ?_, fun k q hk => ?_⟩
  · rw [key i p hi, key j q hj] at e
    omega
  · show qx_b X ≤ q.1
    rw [key k q hk]
    omega
theorem qw_len {X : qw_X} {m : qs_M} : (qw_ws X m).length = qs_n m := by simp [qw_ws]
/-- one cell is another: the list is set at its place -/
theorem qw_set {X : qw_X} {m m' : qs_M} {k : Nat} {e : va_E} (hk : 16 ≤ k ∧ k - 16 < qs_n m) (hn : qs_n m' = qs_n m) (he : qw_cell X m' k = e) (ho : ∀ q, 16 ≤ q → q ≠ k → qw_cell X m' q = qw_cell X m q) : (qw_ws X m).set (k - 16) (qx_b X + (k - 16), e) = qw_ws X m' := by
  apply List.ext_getElem?
  intro i
  by_cases hi : i = k - 16
  · subst hi
    rw [List.getElem?_set_self (by rw [qw_len]; exact hk.2), qw_at ⟨hk.1, by rw [hn]; exact hk.2⟩, he]
  · rw [List.getElem?_set_ne (Ne.symm hi)]
    rcases Nat.lt_or_ge i (qs_n m) with q | q
    · have h1 := qw_at (X := X) (m := m) (k := 16 + i) ⟨by omega, by omega⟩
      have h2 := qw_at (X := X) (m := m') (k := 16 + i) ⟨by omega, by omega⟩
      rw [show 16 + i - 16 = i by omega] at h1 h2
      rw [h1, h2, ho (16 + i) (by omega) (by omega)]
    · rw [List.getElem?_eq_none (by rw [qw_len]; exact q), List.getElem?_eq_none (by rw [qw_len, hn]; exact q)]
/-- one cell more -/
theorem qw_push {X : qw_X} {m m' : qs_M} {e : va_E} (hn : qs_n m' = qs_n m + 1) (he : qw_cell X m' (16 + qs_n m) = e) (ho : ∀ q, 16 ≤ q → q < 16 + qs_n m → qw_cell X m' q = qw_cell X m q) : qw_ws X m ++ [(qx_b X + qs_n m, e)] = qw_ws X m' := by
  unfold qw_ws
  rw [hn, List.range_succ, List.map_append]
  congr 1
  · apply List.map_congr_left
    intro i hi
    rw [ho (16 + i) (by omega) (by have := List.mem_range.mp hi; omega)]
  · simp [he]
/-- the locals of the machine hold the small machine's -/
def qw_L (X : qw_X) (ls : Array Slot) (nL : Nat) (L : qs_L) : Prop := ls.size = nL ∧ lv_wf ls ∧ L.length = nL ∧ ∀ i v, qs_get L i = some v → ls[i]? = some (.val (qw_v X v))
def qw_as (X : qw_X) (L : qs_L) : List (Nat × Value) := (List.range L.length).filterMap (fun i => (qs_get L i).map (fun v => (i, qw_v X v)))
theorem qs_get_lt : ∀ {L : qs_L} {i : Nat} {v : Value}, qs_get L i = some v → i < L.length
  | [], _, _, h => by cases h
  | _ :: _, 0, _, _ => Nat.zero_lt_succ _
  | _ :: r, i + 1, v, h => Nat.succ_lt_succ (qs_get_lt (L := r) h)
theorem qw_as_in {X : qw_X} {L : qs_L} {i : Nat} {v : Value} (h : qs_get L i = some v) : (i, qw_v X v) ∈ qw_as X L := by
  unfold qw_as
  rw [List.mem_filterMap]
  exact ⟨i, List.mem_range.mpr (qs_get_lt h), by rw [h]; rfl⟩
theorem qw_L.has {X : qw_X} {ls : Array Slot} {nL : Nat} {L : qs_L} (h : qw_L X ls nL L) : lv_has ls nL (qw_as X L) := by
  refine ⟨h.1, h.2.1, fun q hq => ?_⟩
  unfold qw_as at hq
  obtain ⟨i, -, hi⟩ := List.mem_filterMap.mp hq
  cases e : qs_get L i with
  | none => rw [e] at hi; cases hi
  | some v =>
    rw [e] at hi
    cases hi
    exact h.2.2.2 i v e
theorem qs_put_len : ∀ (L : qs_L) (i : Nat) (v : Value), (qs_put L i v).length = L.length
  | [], _, _ => by simp [qs_put]
  | _ :: r, 0, v => by simp [qs_put]
  | h :: r, 1, v => by simp [qs_put, qs_put_len r 0 v]
  | h :: r, n + 2, v => by simp [qs_put, qs_put_len r (n + 1) v]
theorem qs_put_get : ∀ (L : qs_L) (i j : Nat) (v w : Value), qs_get (qs_put L i v) j = some w → (j = i ∧ w = v) ∨ (j ≠ i ∧ qs_get L j = some w ∧ ¬ (j + 1 = i ∧ qs_w2 (some w) = true))
  | [], i, j, v, w, h => by simp [qs_put, qs_get] at h
  | _ :: r, 0, 0, v, w, h => by simp [qs_put, qs_get] at h; exact Or.inl ⟨rfl, h.symm⟩
  | _ :: r, 0, j + 1, v, w, h => by simp [qs_put, qs_get] at h; exact Or.inr ⟨by omega, h, by omega⟩
  | h0 :: r, 1, 0, v, w, h => by
    simp [qs_put, qs_get] at h
    cases e : qs_w2 h0 with
    | true => rw [e] at h; cases h
    | false =>
      rw [e] at h
      simp at h
      subst h
      exact Or.inr ⟨by omega, rfl, by rw [e]; simp⟩
  | h0 :: r, 1, j + 1, v, w, h => by
    simp [qs_put, qs_get] at h
    rcases qs_put_get r 0 j v w h with ⟨h1, h2⟩ | ⟨h1, h2, h3⟩
    · exact Or.inl ⟨by omega, h2⟩
    · exact Or.inr ⟨by omega, h2, by omega⟩
  | h0 :: r, n + 2, 0, v, w, h => by
    simp [qs_put, qs_get] at h
    exact Or.inr ⟨by omega, h, by omega⟩
  | h0 :: r, n + 2, j + 1, v, w, h => by
    simp [qs_put, qs_get] at h
    rcases qs_put_get r (n + 1) j v w h with ⟨h1, h2⟩ | ⟨h1, h2, h3⟩
    · exact Or.inl ⟨by omega, h2⟩
    · exact Or.inr ⟨by omega, h2, fun q => h3 ⟨by omega, q.2⟩⟩
theorem qs_clr_len (L : qs_L) : (qs_clr L).length = L.length := by cases L <;> simp [qs_clr]
theorem qs_clr_get (L : qs_L) (j : Nat) (w : Value) (h : qs_get (qs_clr L) j = some w) : j ≠ 0 ∧ qs_get L j = some w := by
  cases L with
  | nil => cases h
  | cons a r =>
    cases j with
    | zero => cases h
    | succ j => exact ⟨by omega, h⟩
theorem qs_put2_len : ∀ (L : qs_L) (i : Nat) (v : Value), (qs_put2 L i v).length = L.length
  | [], _, _ => by simp [qs_put2]
  | _ :: r, 0, v => by simp [qs_put2, qs_clr_len]
  | h :: r, 1, v => by simp [qs_put2, qs_put2_len r 0 v]
  | h :: r, n + 2, v => by simp [qs_put2, qs_put2_len r (n + 1) v]
theorem qs_put2_get : ∀ (L : qs_L) (i j : Nat) (v w : Value), qs_get (qs_put2 L i v) j = some w → (j = i ∧ w = v) ∨ (j ≠ i ∧ j ≠ i + 1 ∧ qs_get L j = some w ∧ ¬ (j + 1 = i ∧ qs_w2 (some w) = true))
  | [], i, j, v, w, h => by simp [qs_put2, qs_get] at h
  | _ :: r, 0, 0, v, w, h => by simp [qs_put2, qs_get] at h; exact Or.inl ⟨rfl, h.symm⟩
  | _ :: r, 0, j + 1, v, w, h => by
    simp [qs_put2, qs_get] at h
    obtain ⟨h1, h2⟩ := qs_clr_get r j w h
    exact Or.inr ⟨by omega, by omega, h2, by omega⟩
  | h0 :: r, 1, 0, v, w, h => by
    simp [qs_put2, qs_get] at h
    cases e : qs_w2 h0 with
    | true => rw [e] at h; cases h
    | false =>
      rw [e] at h
      simp at h
      subst h
      exact Or.inr ⟨by omega, by omega, rfl, by rw [e]; simp⟩
  | h0 :: r, 1, j + 1, v, w, h => by
    simp [qs_put2, qs_get] at h
    rcases qs_put2_get r 0 j v w h with ⟨h1, h2⟩ | ⟨h1, h2, h3, h4⟩
    · exact Or.inl ⟨by omega, h2⟩
    · exact Or.inr ⟨by omega, by omega, h3, by omega⟩
  | h0 :: r, n + 2, 0, v, w, h => by
    simp [qs_put2, qs_get] at h
    exact Or.inr ⟨by omega, by omega, h, by omega⟩
  | h0 :: r, n + 2, j + 1, v, w, h => by
    simp [qs_put2, qs_get] at h
    rcases qs_put2_get r (n + 1) j v w h with ⟨h1, h2⟩ | ⟨h1, h2, h3, h4⟩
    · exact Or.inl ⟨by omega, h2⟩
    · exact Or.inr ⟨by omega, by omega, h3, fun q => h4 ⟨by omega, q.2⟩⟩
theorem qw_cat {X : qw_X} (hf : (qx_f X).category = 1) (v : Value) : (qw_v X v).category = v.category := by
  cases v <;> first | rfl | skip
  unfold qw_v
  simp only
  split
  · exact hf
  · rfl
theorem qw_w2 {v : Value} : qs_w2 (some v) = true ↔ v.category = 2 := by cases v <;> simp [qs_w2, Value.category]
theorem qw_L.put {X : qw_X} {ls ls' : Array Slot} {nL i : Nat} {L : qs_L} {v : Value} (hf : (qx_f X).category = 1) (h : qw_L X ls nL L) (h' : lv_has ls' nL ((i, qw_v X v) :: (qw_as X L).filter (fun q => !(q.1 == i) && !(q.1 + 1 == i && q.2.category == 2)))) : qw_L X ls' nL (qs_put L i v) := by
  refine ⟨h'.1, h'.2.1, by rw [qs_put_len]; exact h.2.2.1, fun j w hw => ?_⟩
  rcases qs_put_get L i j v w hw with ⟨rfl, rfl⟩ | ⟨h1, h2, h3⟩
  · exact h'.2.2 _ List.mem_cons_self
  · refine h'.2.2 (j, qw_v X w) (List.mem_cons_of_mem _ (List.mem_filter.mpr ⟨qw_as_in h2, ?_⟩))
    simp only [Bool.and_eq_true, Bool.not_eq_true', beq_eq_false_iff_ne, ne_eq, Bool.and_eq_false_iff]
    refine ⟨h1, ?_⟩
    by_cases e : j + 1 = i
    · refine Or.inr fun q => h3 ⟨e, qw_w2.mpr ?_⟩
      rw [qw_cat hf] at q
      exact q
    · exact Or.inl e
theorem qw_L.put2 {X : qw_X} {ls ls' : Array Slot} {nL i : Nat} {L : qs_L} {v : Value} (hf : (qx_f X).category = 1) (h : qw_L X ls nL L) (h' : lv_has ls' nL ((i, qw_v X v) :: (qw_as X L).filter (fun q => !(q.1 == i) && (!(q.1 == i + 1) && !(q.1 + 1 == i && q.2.category == 2))))) : qw_L X ls' nL (qs_put2 L i v) := by
  refine ⟨h'.1, h'.2.1, by rw [qs_put2_len]; exact h.2.2.1, fun j w hw => ?_⟩
  rcases qs_put2_get L i j v w hw with ⟨rfl, rfl⟩ | ⟨h1, h1', h2, h3⟩
  · exact h'.2.2 _ List.mem_cons_self
  · refine h'.2.2 (j, qw_v X w) (List.mem_cons_of_mem _ (List.mem_filter.mpr ⟨qw_as_in h2, ?_⟩))
    simp only [Bool.and_eq_true, Bool.not_eq_true', beq_eq_false_iff_ne, ne_eq, Bool.and_eq_false_iff]
    refine ⟨h1, h1', ?_⟩
    by_cases e : j + 1 = i
    · refine Or.inr fun q => h3 ⟨e, qw_w2.mpr ?_⟩
      rw [qw_cat hf] at q
      exact q
    · exact Or.inl e
end
section
/-! THE OUTSIDE: what the machine holds of it -/
def qw_K (X : qw_X) (U : State) : Prop := va_K (qx_D X) vwCl (qw_tys X) U
def qw_E (X : qw_X) (U : State) (H : Heap) : Prop :=
  va_T .int (qx_e X 0) (qx_L X) (fun j => .int (qx_xs X j)) (qw_A X) U H ∧
  va_Z "QuarterTurn" "UNDER" "[I" (.ref (qx_e X 1)) (qw_A X) U H ∧ va_T .int (qx_e X 1) 6 (fun j => .int (qw_un.getD j 0)) (qw_A X) U H ∧
  (∀ i, i < 6 → va_O "java/lang/String" (qx_e X (2 + i)) (qw_A X) U H ∧ va_OF "java/lang/String" "coder" "B" (.int 0) (qx_e X (2 + i)) (qw_A X) U H ∧ va_OF "java/lang/String" "value" "[B" (.ref (qx_e X (8 + i))) (qx_e X (2 + i)) (qw_A X) U H ∧ va_T .byte (qx_e X (8 + i)) (qk_str i).2.2.length (fun j => .int ((qk_str i).2.2.getD j 0)) (qw_A X) U H ∧ vk_R RX3 (qk_str i).1 (qk_str i).2.1 (qx_e X (2 + i)) U) ∧
  va_Z "java/lang/String" "COMPACT_STRINGS" "Z" (.int 1) (qw_A X) U H ∧
  va_Z "jdk/internal/util/Preconditions" "SIOOBE_FORMATTER" "Ljava/util/function/BiFunction;" (qx_f X) (qw_A X) U H ∧
  (∀ q ∈ qk_nests, va_Nw (.methodLinkNest q.1 q.2.1 q.2.2 "QuarterTurn") U) ∧ va_AO RX0 U ∧ va_AO RX4 U ∧ va_AO RX5 U ∧ va_AO RX6 U
theorem qw_E.kept {X : qw_X} {U : State} {H H1 : Heap} (h : qw_E X U H) (hq : ∀ a : Nat, a < H.size → ¬ qw_A X a → H1[a]? = H[a]?) : qw_E X U H1 := by
  obtain ⟨h1, h2, h3, h4, h5, h6, h7, h8, h9, h10, h11⟩ := h
  exact ⟨h1.kept hq, h2.kept hq, h3.kept hq, fun i hi => ⟨(h4 i hi).1.kept hq, (h4 i hi).2.1.kept hq, (h4 i hi).2.2.1.kept hq, (h4 i hi).2.2.2.1.kept hq, (h4 i hi).2.2.2.2⟩, h5.kept hq, h6.kept hq, h7, h8, h9, h10, h11⟩
theorem qw_E.warm {X : qw_X} {s U : State} {H : Heap} (hW : s.WarmedH U.vm) (h : qw_E X s H) : qw_E X U H := by
  obtain ⟨h1, h2, h3, h4, h5, h6, h7, h8, h9, h10, h11⟩ := h
  exact ⟨va_T.moved hW.alike h1, va_Z.moved hW.alike h2, va_T.moved hW.alike h3, fun i hi => ⟨va_O.moved hW.alike (h4 i hi).1, va_OF.moved hW.alike (h4 i hi).2.1, va_OF.moved hW.alike (h4 i hi).2.2.1, va_T.moved hW.alike (h4 i hi).2.2.2.1, (h4 i hi).2.2.2.2.warm hW⟩, va_Z.moved hW.alike h5, va_Z.moved hW.alike h6, fun q hq => va_Nw.warmM hW (h7 q hq), va_AO.moved hW.alike h8, va_AO.moved hW.alike h9, va_AO.moved hW.alike h10, va_AO.moved hW.alike h11⟩
theorem qw_E.same {X : qw_X} {u U : State} {H : Heap} (hv : U.vm = u.vm) (h : qw_E X u H) : qw_E X U H := by
  have hA : u.vm.Alike U.vm := by rw [hv]; exact Vm.Alike.refl _
  obtain ⟨h1, h2, h3, h4, h5, h6, h7, h8, h9, h10, h11⟩ := h
  exact ⟨va_T.moved hA h1, va_Z.moved hA h2, va_T.moved hA h3, fun i hi => ⟨va_O.moved hA (h4 i hi).1, va_OF.moved hA (h4 i hi).2.1, va_OF.moved hA (h4 i hi).2.2.1, va_T.moved hA (h4 i hi).2.2.2.1, (h4 i hi).2.2.2.2.same hv⟩, va_Z.moved hA h5, va_Z.moved hA h6, fun q hq => va_tabs rfl hv.symm (h7 q hq), va_AO.moved hA h8, va_AO.moved hA h9, va_AO.moved hA h10, va_AO.moved hA h11⟩
def qw_F (X : qw_X) : Prop := qx_f X = .null ∨ ∃ a, qx_f X = .ref a
theorem qw_F.cat {X : qw_X} (h : qw_F X) : (qx_f X).category = 1 := by
  rcases h with h | ⟨a, h⟩ <;> rw [h] <;> rfl
/-- a method's start -/
def qw_At (X : qw_X) (m : qs_M) (U : State) : Prop := U.heap.size = qx_b X + qs_n m ∧ va_P (qx_D X) vwCl (qw_ws X m) U.heap ∧ qw_K X U ∧ qw_E X U U.heap ∧ qw_M X m ∧ qw_F X
theorem qp_size {p : Program} {l : Launch} {e : Env} {R : Room} {s : State} {mid : MethodId} {args : Array Value} {below : List Frame} {meth : Method} {c : Code} {H : Heap} {locs : List Loc} {cells slots : Nat} {Q : State → Prop} {g : JFrame} (k : H.size ≤ s.heap.size + cells → W p l e R s mid args below meth c H locs cells slots Q g) : W p l e R s mid args below meth c H locs cells slots Q g := by
  intro T hT X
  refine k ?_ T hT X
  have h := X.same.2.2.1
  rw [← hT]
  exact h
theorem qw_lo {X : qw_X} {m : qs_M} {H : Heap} {D : va_G} (h : va_P D vwCl (qw_ws X m) H) (hb : qx_b X ≤ H.size) : qx_b X + qs_n m ≤ H.size := by
  rcases Nat.eq_zero_or_pos (qs_n m) with q | q
  · omega
  · have h1 := qw_at (X := X) (m := m) (k := 16 + (qs_n m - 1)) ⟨by omega, by omega⟩
    have h2 := (h _ _ h1).lt
    simp only at h2
    omega
end
section
/-! ONE INSTRUCTION OF THE SMALL MACHINE IS ONE OF THE MACHINE -/
def qp_At (p : Program) (l : Launch) (e : Env) (R : Room) (s : State) (mid : MethodId) (args : Array Value) (below : List Frame) (meth : Method) (c : Code) (Q : State → Prop) (X : qw_X) (nL n0 z0 : Nat) (pc : Nat) (L : qs_L) (st : List Value) (m : qs_M) : Prop :=
  ∀ (H : Heap) (locs : List Loc) (cells slots : Nat) (ls : Array Slot), va_P (qx_D X) vwCl (qw_ws X m) H → qw_M X m → va_S (qw_A X) s.heap H locs → qw_L X ls nL L → cells + n0 = qs_n m → slots + z0 = qs_z m → W p l e R s mid args below meth c H locs cells slots Q (F0 mid pc ls (st.map (qw_v X)))
def qp_K (p : Program) (l : Launch) (e : Env) (R : Room) (s : State) (mid : MethodId) (args : Array Value) (below : List Frame) (meth : Method) (c : Code) (Q : State → Prop) (X : qw_X) (nL n0 z0 : Nat) (pc : Nat) (L : qs_L) (st : List Value) (m : qs_M) : Prop :=
  (qs_n m ≤ n0 + R.cells ∧ qs_z m ≤ z0 + R.slots) ∧ qp_At p l e R s mid args below meth c Q X nL n0 z0 pc L st m
def qp_C (p : Program) (R : Room) (s : State) (mid : MethodId) (args : Array Value) (meth : Method) (c : Code) (X : qw_X) (E : qs_E) (nL n0 : Nat) : Prop :=
  p.tables.exec = Jvm.exec ∧ c.code = qe_b E ∧ c.maxLocals = nL ∧ s.vm.findClass (qe_own E) = some mid.cls ∧ (∀ w ∈ lw_gd, w.before args s = true) ∧ qw_K X s ∧ qw_E X s s.heap ∧ qw_F X ∧ s.heap.size = qx_b X + n0 ∧ 1 ≤ R.frames ∧ 64 ≤ R.locals ∧ nL = qe_ml E ∧ ((qe_y E).name = "<init>" → meth.name = "<init>")
theorem qp_in {x : Int32} {n : Nat} (h : 0 ≤ x ∧ x.toNatClampNeg < n) : vp_in x n := by
  intro h2
  rcases h2 with h2 | h2
  · exact absurd h.1 (Int32.not_le.mpr h2)
  · omega
theorem qw_rv {X : qw_X} (h : qw_F X) (k : Nat) : qw_v X (.ref k) = .null ∨ ∃ q, qw_v X (.ref k) = .ref q := by
  unfold qw_v
  simp only
  split
  · exact h
  · exact Or.inr ⟨_, rfl⟩
section QPA
variable {p : Program} {l : Launch} {e : Env} {R : Room} {s : State} {mid : MethodId} {args : Array Value} {below : List Frame} {meth : Method} {c : Code} {Q : State → Prop} {X : qw_X} {E : qs_E} {nL n0 z0 : Nat}
variable {pc : Nat} {L : qs_L} {st : List Value} {m : qs_M}
theorem qp_iconst (C : qp_C p R s mid args meth c X E nL n0) {n : Int} {v : Int32} (hv : Int32.ofInt n = v) (hd : decode (qe_b E) pc = .ok (.iconst n, 1)) (h : qp_K p l e R s mid args below meth c Q X nL n0 z0 (pc + 1) L (.int v :: st) m) : qp_At p l e R s mid args below meth c Q X nL n0 z0 pc L st m :=
  fun H locs cells slots ls hP hM hS hl hc hz => lv_iconst (rest := st.map (qw_v X)) C.1 C.2.1 hd hv (h.2 H locs cells slots ls hP hM hS hl hc hz)
theorem qp_bipush (C : qp_C p R s mid args meth c X E nL n0) {n : Int} {v : Int32} (hv : (Int8.ofInt n).toInt32 = v) (hd : decode (qe_b E) pc = .ok (.bipush n, 2)) (h : qp_K p l e R s mid args below meth c Q X nL n0 z0 (pc + 2) L (.int v :: st) m) : qp_At p l e R s mid args below meth c Q X nL n0 z0 pc L st m :=
  fun H locs cells slots ls hP hM hS hl hc hz => lv_bipush (rest := st.map (qw_v X)) C.1 C.2.1 hd hv (h.2 H locs cells slots ls hP hM hS hl hc hz)
theorem qp_sipush (C : qp_C p R s mid args meth c X E nL n0) {n : Int} {v : Int32} (hv : (Int16.ofInt n).toInt32 = v) (hd : decode (qe_b E) pc = .ok (.sipush n, 3)) (h : qp_K p l e R s mid args below meth c Q X nL n0 z0 (pc + 3) L (.int v :: st) m) : qp_At p l e R s mid args below meth c Q X nL n0 z0 pc L st m :=
  fun H locs cells slots ls hP hM hS hl hc hz => lv_sipush (rest := st.map (qw_v X)) C.1 C.2.1 hd hv (h.2 H locs cells slots ls hP hM hS hl hc hz)
theorem qp_lconst (C : qp_C p R s mid args meth c X E nL n0) {n : Fin 2} (hv : (n : Nat) = 0) (hd : decode (qe_b E) pc = .ok (.lconst n, 1)) (h : qp_K p l e R s mid args below meth c Q X nL n0 z0 (pc + 1) L (.long 0 :: st) m) : qp_At p l e R s mid args below meth c Q X nL n0 z0 pc L st m :=
  fun H locs cells slots ls hP hM hS hl hc hz => lv_lconst (v := 0) (rest := st.map (qw_v X)) C.1 C.2.1 hd (by rw [hv]; rfl) (h.2 H locs cells slots ls hP hM hS hl hc hz)
theorem qp_ldc (C : qp_C p R s mid args meth c X E nL n0) {n : Nat} {v : Int32} (hv : Jvm.Cond.constant (qe_own E) n v ∈ lw_gd) (hd : decode (qe_b E) pc = .ok (.ldc n, 2)) (h : qp_K p l e R s mid args below meth c Q X nL n0 z0 (pc + 2) L (.int v :: st) m) : qp_At p l e R s mid args below meth c Q X nL n0 z0 pc L st m :=
  fun H locs cells slots ls hP hM hS hl hc hz => lv_ldc (rest := st.map (qw_v X)) C.1 C.2.1 C.2.2.2.1 (C.2.2.2.2.1 _ hv) hd (h.2 H locs cells slots ls hP hM hS hl hc hz)
theorem qp_ldc_w (C : qp_C p R s mid args meth c X E nL n0) {n : Nat} {v : Int32} (hv : Jvm.Cond.constant (qe_own E) n v ∈ lw_gd) (hd : decode (qe_b E) pc = .ok (.ldc_w n, 3)) (h : qp_K p l e R s mid args below meth c Q X nL n0 z0 (pc + 3) L (.int v :: st) m) : qp_At p l e R s mid args below meth c Q X nL n0 z0 pc L st m :=
  fun H locs cells slots ls hP hM hS hl hc hz => lv_ldcw (rest := st.map (qw_v X)) C.1 C.2.1 C.2.2.2.1 (C.2.2.2.2.1 _ hv) hd (h.2 H locs cells slots ls hP hM hS hl hc hz)
theorem qp_ldcS (C : qp_C p R s mid args meth c X E nL n0) {n i : Nat} (hi : i < 6) (ho : qe_own E = RX3) (hn : (qk_str i).1 = n) (hd : decode (qe_b E) pc = .ok (.ldc n, 2)) (h : qp_K p l e R s mid args below meth c Q X nL n0 z0 (pc + 2) L (.ref (2 + i) :: st) m) : qp_At p l e R s mid args below meth c Q X nL n0 z0 pc L st m :=
  fun H locs cells slots ls hP hM hS hl hc hz => by
    have h1 := h.2 H locs cells slots ls hP hM hS hl hc hz
    rw [List.map_cons, qw_ve (by omega)] at h1
    subst hn
    exact va_ldcS (own := qe_own E) (rest := st.map (qw_v X)) C.1 C.2.1 C.2.2.2.1 (by rw [ho]; exact ((C.2.2.2.2.2.2.1).2.2.2.1 i hi).2.2.2.2) hd h1
theorem qp_iload (C : qp_C p R s mid args meth c X E nL n0) {n a : Nat} {x : Int32} (ha : n = a) (hg : qs_get L a = some (.int x)) (hd : decode (qe_b E) pc = .ok (.iload n, 2)) (h : qp_K p l e R s mid args below meth c Q X nL n0 z0 (pc + 2) L (.int x :: st) m) : qp_At p l e R s mid args below meth c Q X nL n0 z0 pc L st m :=
  fun H locs cells slots ls hP hM hS hl hc hz => lv_iload (rest := st.map (qw_v X)) C.1 C.2.1 hd (by rw [ha]; exact hl.2.2.2 a _ hg) (h.2 H locs cells slots ls hP hM hS hl hc hz)
theorem qp_iload_n (C : qp_C p R s mid args meth c X E nL n0) {n : Fin 4} {a : Nat} {x : Int32} (ha : (n : Nat) = a) (hg : qs_get L a = some (.int x)) (hd : decode (qe_b E) pc = .ok (.iload_n n, 1)) (h : qp_K p l e R s mid args below meth c Q X nL n0 z0 (pc + 1) L (.int x :: st) m) : qp_At p l e R s mid args below meth c Q X nL n0 z0 pc L st m :=
  fun H locs cells slots ls hP hM hS hl hc hz => lv_iload_n (rest := st.map (qw_v X)) C.1 C.2.1 hd ha (hl.2.2.2 a _ hg) (h.2 H locs cells slots ls hP hM hS hl hc hz)
theorem qp_lload (C : qp_C p R s mid args meth c X E nL n0) {n a : Nat} {x : Int64} (ha : n = a) (hg : qs_get L a = some (.long x)) (hd : decode (qe_b E) pc = .ok (.lload n, 2)) (h : qp_K p l e R s mid args below meth c Q X nL n0 z0 (pc + 2) L (.long x :: st) m) : qp_At p l e R s mid args below meth c Q X nL n0 z0 pc L st m :=
  fun H locs cells slots ls hP hM hS hl hc hz => lv_lload (rest := st.map (qw_v X)) C.1 C.2.1 hd (by rw [ha]; exact hl.2.2.2 a _ hg) (h.2 H locs cells slots ls hP hM hS hl hc hz)
theorem qp_aload (C : qp_C p R s mid args meth c X E nL n0) {n a : Nat} {x : Nat} (ha : n = a) (hg : qs_get L a = some (.ref x)) (hd : decode (qe_b E) pc = .ok (.aload n, 2)) (h : qp_K p l e R s mid args below meth c Q X nL n0 z0 (pc + 2) L (.ref x :: st) m) : qp_At p l e R s mid args below meth c Q X nL n0 z0 pc L st m :=
  fun H locs cells slots ls hP hM hS hl hc hz => by
    have h1 := h.2 H locs cells slots ls hP hM hS hl hc hz
    have h2 := hl.2.2.2 a _ hg
    rw [List.map_cons] at h1
    rcases qw_rv C.2.2.2.2.2.2.2.1 x with e | ⟨q, e⟩
    · rw [e] at h1
      exact lv_aloadN (rest := st.map (qw_v X)) C.1 C.2.1 hd (by rw [ha, ← e]; exact h2) h1
    · rw [e] at h1
      exact lv_aload (rest := st.map (qw_v X)) C.1 C.2.1 hd (by rw [ha, ← e]; exact h2) h1
theorem qp_aload_n (C : qp_C p R s mid args meth c X E nL n0) {n : Fin 4} {a : Nat} {x : Nat} (ha : (n : Nat) = a) (hg : qs_get L a = some (.ref x)) (hd : decode (qe_b E) pc = .ok (.aload_n n, 1)) (h : qp_K p l e R s mid args below meth c Q X nL n0 z0 (pc + 1) L (.ref x :: st) m) : qp_At p l e R s mid args below meth c Q X nL n0 z0 pc L st m :=
  fun H locs cells slots ls hP hM hS hl hc hz => by
    have h1 := h.2 H locs cells slots ls hP hM hS hl hc hz
    have h2 := hl.2.2.2 a _ hg
    rw [List.map_cons] at h1
    rcases qw_rv C.2.2.2.2.2.2.2.1 x with e | ⟨q, e⟩
    · rw [e] at h1
      exact lv_aload_nN (rest := st.map (qw_v X)) C.1 C.2.1 hd ha (by rw [← e]; exact h2) h1
    · rw [e] at h1
      exact lv_aload_n (rest := st.map (qw_v X)) C.1 C.2.1 hd ha (by rw [← e]; exact h2) h1
theorem qp_istore (C : qp_C p R s mid args meth c X E nL n0) {n a : Nat} {x : Int32} (ha : n = a) (hn : a < nL) (hd : decode (qe_b E) pc = .ok (.istore n, 2)) (h : qp_K p l e R s mid args below meth c Q X nL n0 z0 (pc + 2) (qs_put L a (.int x)) st m) : qp_At p l e R s mid args below meth c Q X nL n0 z0 pc L (.int x :: st) m :=
  fun H locs cells slots ls hP hM hS hl hc hz => by
    have hf := C.2.2.2.2.2.2.2.1.cat
    subst ha
    exact lv_istore (rest := st.map (qw_v X)) C.1 C.2.1 hd hl.has hn rfl (fun ls' hl' => h.2 H locs cells slots ls' hP hM hS (hl.put (v := .int x) hf hl') hc hz)
theorem qp_istore_n (C : qp_C p R s mid args meth c X E nL n0) {n : Fin 4} {a : Nat} {x : Int32} (ha : (n : Nat) = a) (hn : a < nL) (hd : decode (qe_b E) pc = .ok (.istore_n n, 1)) (h : qp_K p l e R s mid args below meth c Q X nL n0 z0 (pc + 1) (qs_put L a (.int x)) st m) : qp_At p l e R s mid args below meth c Q X nL n0 z0 pc L (.int x :: st) m :=
  fun H locs cells slots ls hP hM hS hl hc hz => by
    have hf := C.2.2.2.2.2.2.2.1.cat
    exact lv_istore_n (rest := st.map (qw_v X)) C.1 C.2.1 hd ha hl.has hn rfl (fun ls' hl' => h.2 H locs cells slots ls' hP hM hS (hl.put (v := .int x) hf hl') hc hz)
theorem qp_astore (C : qp_C p R s mid args meth c X E nL n0) {n a : Nat} {x : Nat} (ha : n = a) (hn : a < nL) (hd : decode (qe_b E) pc = .ok (.astore n, 2)) (h : qp_K p l e R s mid args below meth c Q X nL n0 z0 (pc + 2) (qs_put L a (.ref x)) st m) : qp_At p l e R s mid args below meth c Q X nL n0 z0 pc L (.ref x :: st) m :=
  fun H locs cells slots ls hP hM hS hl hc hz => by
    have hf := C.2.2.2.2.2.2.2.1.cat
    subst ha
    have hp := fun (ls' : Array Slot) hl' => h.2 H locs cells slots ls' hP hM hS (hl.put (v := .ref x) hf hl') hc hz
    rw [List.map_cons]
    rcases qw_rv C.2.2.2.2.2.2.2.1 x with e | ⟨q, e⟩
    · rw [e] at hp ⊢
      exact lv_astoreN (rest := st.map (qw_v X)) C.1 C.2.1 hd hl.has hn rfl hp
    · rw [e] at hp ⊢
      exact lv_astore (rest := st.map (qw_v X)) C.1 C.2.1 hd hl.has hn rfl hp
theorem qp_astore_n (C : qp_C p R s mid args meth c X E nL n0) {n : Fin 4} {a : Nat} {x : Nat} (ha : (n : Nat) = a) (hn : a < nL) (hd : decode (qe_b E) pc = .ok (.astore_n n, 1)) (h : qp_K p l e R s mid args below meth c Q X nL n0 z0 (pc + 1) (qs_put L a (.ref x)) st m) : qp_At p l e R s mid args below meth c Q X nL n0 z0 pc L (.ref x :: st) m :=
  fun H locs cells slots ls hP hM hS hl hc hz => by
    have hf := C.2.2.2.2.2.2.2.1.cat
    have hp := fun (ls' : Array Slot) hl' => h.2 H locs cells slots ls' hP hM hS (hl.put (v := .ref x) hf hl') hc hz
    rw [List.map_cons]
    rcases qw_rv C.2.2.2.2.2.2.2.1 x with e | ⟨q, e⟩
    · rw [e] at hp ⊢
      exact lv_astore_nN (rest := st.map (qw_v X)) C.1 C.2.1 hd ha hl.has hn rfl hp
    · rw [e] at hp ⊢
      exact lv_astore_n (rest := st.map (qw_v X)) C.1 C.2.1 hd ha hl.has hn rfl hp
theorem qp_lstore (C : qp_C p R s mid args meth c X E nL n0) {n a : Nat} {x : Int64} (ha : n = a) (hn : a + 1 < nL) (hd : decode (qe_b E) pc = .ok (.lstore n, 2)) (h : qp_K p l e R s mid args below meth c Q X nL n0 z0 (pc + 2) (qs_put2 L a (.long x)) st m) : qp_At p l e R s mid args below meth c Q X nL n0 z0 pc L (.long x :: st) m :=
  fun H locs cells slots ls hP hM hS hl hc hz => by
    have hf := C.2.2.2.2.2.2.2.1.cat
    subst ha
    exact lv_lstore (rest := st.map (qw_v X)) C.1 C.2.1 hd hl.has hn rfl (fun ls' hl' => h.2 H locs cells slots ls' hP hM hS (hl.put2 (v := .long x) hf hl') hc hz)
theorem qp_iinc (C : qp_C p R s mid args meth c X E nL n0) {n a : Nat} {k : Int} {x v : Int32} (ha : n = a) (hv : Int32.ofInt k = v) (hn : a < nL) (hg : qs_get L a = some (.int x)) (hd : decode (qe_b E) pc = .ok (.iinc n k, 3)) (h : qp_K p l e R s mid args below meth c Q X nL n0 z0 (pc + 3) (qs_put L a (.int (x + v))) st m) : qp_At p l e R s mid args below meth c Q X nL n0 z0 pc L st m :=
  fun H locs cells slots ls hP hM hS hl hc hz => by
    have hf := C.2.2.2.2.2.2.2.1.cat
    subst ha
    obtain ⟨q, hq⟩ := List.getElem?_of_mem (qw_as_in (X := X) hg)
    exact lv_iinc (rest := st.map (qw_v X)) C.1 C.2.1 hd hl.has hq (by rw [hv]) hn rfl (fun ls' hl' => h.2 H locs cells slots ls' hP hM hS (hl.put (v := .int (x + v)) hf hl') hc hz)
theorem qp_iadd (C : qp_C p R s mid args meth c X E nL n0) {x y : Int32} (hd : decode (qe_b E) pc = .ok (.iadd, 1)) (h : qp_K p l e R s mid args below meth c Q X nL n0 z0 (pc + 1) L (.int (x + y) :: st) m) : qp_At p l e R s mid args below meth c Q X nL n0 z0 pc L (.int y :: .int x :: st) m :=
  fun H locs cells slots ls hP hM hS hl hc hz => lv_iadd (x := x) (y := y) (rest := st.map (qw_v X)) C.1 C.2.1 hd (h.2 H locs cells slots ls hP hM hS hl hc hz)
theorem qp_isub (C : qp_C p R s mid args meth c X E nL n0) {x y : Int32} (hd : decode (qe_b E) pc = .ok (.isub, 1)) (h : qp_K p l e R s mid args below meth c Q X nL n0 z0 (pc + 1) L (.int (x - y) :: st) m) : qp_At p l e R s mid args below meth c Q X nL n0 z0 pc L (.int y :: .int x :: st) m :=
  fun H locs cells slots ls hP hM hS hl hc hz => lv_isub (x := x) (y := y) (rest := st.map (qw_v X)) C.1 C.2.1 hd (h.2 H locs cells slots ls hP hM hS hl hc hz)
theorem qp_imul (C : qp_C p R s mid args meth c X E nL n0) {x y : Int32} (hd : decode (qe_b E) pc = .ok (.imul, 1)) (h : qp_K p l e R s mid args below meth c Q X nL n0 z0 (pc + 1) L (.int (x * y) :: st) m) : qp_At p l e R s mid args below meth c Q X nL n0 z0 pc L (.int y :: .int x :: st) m :=
  fun H locs cells slots ls hP hM hS hl hc hz => lv_imul (x := x) (y := y) (rest := st.map (qw_v X)) C.1 C.2.1 hd (h.2 H locs cells slots ls hP hM hS hl hc hz)
theorem qp_iand (C : qp_C p R s mid args meth c X E nL n0) {x y : Int32} (hd : decode (qe_b E) pc = .ok (.iand, 1)) (h : qp_K p l e R s mid args below meth c Q X nL n0 z0 (pc + 1) L (.int (x &&& y) :: st) m) : qp_At p l e R s mid args below meth c Q X nL n0 z0 pc L (.int y :: .int x :: st) m :=
  fun H locs cells slots ls hP hM hS hl hc hz => lv_iand (x := x) (y := y) (rest := st.map (qw_v X)) C.1 C.2.1 hd (h.2 H locs cells slots ls hP hM hS hl hc hz)
theorem qp_ior (C : qp_C p R s mid args meth c X E nL n0) {x y : Int32} (hd : decode (qe_b E) pc = .ok (.ior, 1)) (h : qp_K p l e R s mid args below meth c Q X nL n0 z0 (pc + 1) L (.int (x ||| y) :: st) m) : qp_At p l e R s mid args below meth c Q X nL n0 z0 pc L (.int y :: .int x :: st) m :=
  fun H locs cells slots ls hP hM hS hl hc hz => lv_ior (x := x) (y := y) (rest := st.map (qw_v X)) C.1 C.2.1 hd (h.2 H locs cells slots ls hP hM hS hl hc hz)
theorem qp_ishl (C : qp_C p R s mid args meth c X E nL n0) {x y : Int32} (hd : decode (qe_b E) pc = .ok (.ishl, 1)) (h : qp_K p l e R s mid args below meth c Q X nL n0 z0 (pc + 1) L (.int (x <<< (y &&& 31)) :: st) m) : qp_At p l e R s mid args below meth c Q X nL n0 z0 pc L (.int y :: .int x :: st) m :=
  fun H locs cells slots ls hP hM hS hl hc hz => lv_ishl (x := x) (y := y) (rest := st.map (qw_v X)) C.1 C.2.1 hd (h.2 H locs cells slots ls hP hM hS hl hc hz)
theorem qp_ishr (C : qp_C p R s mid args meth c X E nL n0) {x y : Int32} (hd : decode (qe_b E) pc = .ok (.ishr, 1)) (h : qp_K p l e R s mid args below meth c Q X nL n0 z0 (pc + 1) L (.int (x >>> (y &&& 31)) :: st) m) : qp_At p l e R s mid args below meth c Q X nL n0 z0 pc L (.int y :: .int x :: st) m :=
  fun H locs cells slots ls hP hM hS hl hc hz => lv_ishr (x := x) (y := y) (rest := st.map (qw_v X)) C.1 C.2.1 hd (h.2 H locs cells slots ls hP hM hS hl hc hz)
theorem qp_iushr (C : qp_C p R s mid args meth c X E nL n0) {x y : Int32} (hd : decode (qe_b E) pc = .ok (.iushr, 1)) (h : qp_K p l e R s mid args below meth c Q X nL n0 z0 (pc + 1) L (.int (x.toUInt32 >>> (y.toUInt32 &&& Int32.toUInt32 31)).toInt32 :: st) m) : qp_At p l e R s mid args below meth c Q X nL n0 z0 pc L (.int y :: .int x :: st) m :=
  fun H locs cells slots ls hP hM hS hl hc hz => lv_iushr (x := x) (y := y) (rest := st.map (qw_v X)) C.1 C.2.1 hd rfl (h.2 H locs cells slots ls hP hM hS hl hc hz)
theorem qp_idiv (C : qp_C p R s mid args meth c X E nL n0) {x y : Int32} (hy : ¬ y = 0) (hd : decode (qe_b E) pc = .ok (.idiv, 1)) (h : qp_K p l e R s mid args below meth c Q X nL n0 z0 (pc + 1) L (.int (x / y) :: st) m) : qp_At p l e R s mid args below meth c Q X nL n0 z0 pc L (.int y :: .int x :: st) m :=
  fun H locs cells slots ls hP hM hS hl hc hz => lv_idiv (x := x) (y := y) (rest := st.map (qw_v X)) C.1 C.2.1 hd hy (h.2 H locs cells slots ls hP hM hS hl hc hz)
theorem qp_irem (C : qp_C p R s mid args meth c X E nL n0) {x y : Int32} (hy : ¬ y = 0) (hd : decode (qe_b E) pc = .ok (.irem, 1)) (h : qp_K p l e R s mid args below meth c Q X nL n0 z0 (pc + 1) L (.int (x - x / y * y) :: st) m) : qp_At p l e R s mid args below meth c Q X nL n0 z0 pc L (.int y :: .int x :: st) m :=
  fun H locs cells slots ls hP hM hS hl hc hz => lv_irem (x := x) (y := y) (rest := st.map (qw_v X)) C.1 C.2.1 hd hy (h.2 H locs cells slots ls hP hM hS hl hc hz)
theorem qp_ineg (C : qp_C p R s mid args meth c X E nL n0) {x : Int32} (hd : decode (qe_b E) pc = .ok (.ineg, 1)) (h : qp_K p l e R s mid args below meth c Q X nL n0 z0 (pc + 1) L (.int (-x) :: st) m) : qp_At p l e R s mid args below meth c Q X nL n0 z0 pc L (.int x :: st) m :=
  fun H locs cells slots ls hP hM hS hl hc hz => lv_ineg (x := x) (rest := st.map (qw_v X)) C.1 C.2.1 hd (h.2 H locs cells slots ls hP hM hS hl hc hz)
theorem qp_i2c (C : qp_C p R s mid args meth c X E nL n0) {x : Int32} (hd : decode (qe_b E) pc = .ok (.i2c, 1)) (h : qp_K p l e R s mid args below meth c Q X nL n0 z0 (pc + 1) L (.int (x.toUInt32 % 65536).toInt32 :: st) m) : qp_At p l e R s mid args below meth c Q X nL n0 z0 pc L (.int x :: st) m :=
  fun H locs cells slots ls hP hM hS hl hc hz => lv_i2c (x := x) (rest := st.map (qw_v X)) C.1 C.2.1 hd rfl (h.2 H locs cells slots ls hP hM hS hl hc hz)
theorem qp_i2s (C : qp_C p R s mid args meth c X E nL n0) {x : Int32} (hd : decode (qe_b E) pc = .ok (.i2s, 1)) (h : qp_K p l e R s mid args below meth c Q X nL n0 z0 (pc + 1) L (.int x.toInt16.toInt32 :: st) m) : qp_At p l e R s mid args below meth c Q X nL n0 z0 pc L (.int x :: st) m :=
  fun H locs cells slots ls hP hM hS hl hc hz => lv_i2s (x := x) (rest := st.map (qw_v X)) C.1 C.2.1 hd rfl (h.2 H locs cells slots ls hP hM hS hl hc hz)
theorem qp_i2b (C : qp_C p R s mid args meth c X E nL n0) {x : Int32} (hd : decode (qe_b E) pc = .ok (.i2b, 1)) (h : qp_K p l e R s mid args below meth c Q X nL n0 z0 (pc + 1) L (.int x.toInt8.toInt32 :: st) m) : qp_At p l e R s mid args below meth c Q X nL n0 z0 pc L (.int x :: st) m :=
  fun H locs cells slots ls hP hM hS hl hc hz => lv_i2b (x := x) (rest := st.map (qw_v X)) C.1 C.2.1 hd rfl (h.2 H locs cells slots ls hP hM hS hl hc hz)
theorem qp_i2l (C : qp_C p R s mid args meth c X E nL n0) {x : Int32} (hd : decode (qe_b E) pc = .ok (.i2l, 1)) (h : qp_K p l e R s mid args below meth c Q X nL n0 z0 (pc + 1) L (.long x.toInt64 :: st) m) : qp_At p l e R s mid args below meth c Q X nL n0 z0 pc L (.int x :: st) m :=
  fun H locs cells slots ls hP hM hS hl hc hz => lv_i2l (x := x) (rest := st.map (qw_v X)) C.1 C.2.1 hd rfl (h.2 H locs cells slots ls hP hM hS hl hc hz)
theorem qp_l2i (C : qp_C p R s mid args meth c X E nL n0) {x : Int64} (hd : decode (qe_b E) pc = .ok (.l2i, 1)) (h : qp_K p l e R s mid args below meth c Q X nL n0 z0 (pc + 1) L (.int x.toInt32 :: st) m) : qp_At p l e R s mid args below meth c Q X nL n0 z0 pc L (.long x :: st) m :=
  fun H locs cells slots ls hP hM hS hl hc hz => lv_l2i (x := x) (rest := st.map (qw_v X)) C.1 C.2.1 hd rfl (h.2 H locs cells slots ls hP hM hS hl hc hz)
theorem qp_ladd (C : qp_C p R s mid args meth c X E nL n0) {x y : Int64} (hd : decode (qe_b E) pc = .ok (.ladd, 1)) (h : qp_K p l e R s mid args below meth c Q X nL n0 z0 (pc + 1) L (.long (x + y) :: st) m) : qp_At p l e R s mid args below meth c Q X nL n0 z0 pc L (.long y :: .long x :: st) m :=
  fun H locs cells slots ls hP hM hS hl hc hz => lv_ladd (x := x) (y := y) (rest := st.map (qw_v X)) C.1 C.2.1 hd (h.2 H locs cells slots ls hP hM hS hl hc hz)
theorem qp_lsub (C : qp_C p R s mid args meth c X E nL n0) {x y : Int64} (hd : decode (qe_b E) pc = .ok (.lsub, 1)) (h : qp_K p l e R s mid args below meth c Q X nL n0 z0 (pc + 1) L (.long (x - y) :: st) m) : qp_At p l e R s mid args below meth c Q X nL n0 z0 pc L (.long y :: .long x :: st) m :=
  fun H locs cells slots ls hP hM hS hl hc hz => lv_lsub (x := x) (y := y) (rest := st.map (qw_v X)) C.1 C.2.1 hd (h.2 H locs cells slots ls hP hM hS hl hc hz)
theorem qp_lneg (C : qp_C p R s mid args meth c X E nL n0) {x : Int64} (hd : decode (qe_b E) pc = .ok (.lneg, 1)) (h : qp_K p l e R s mid args below meth c Q X nL n0 z0 (pc + 1) L (.long (-x) :: st) m) : qp_At p l e R s mid args below meth c Q X nL n0 z0 pc L (.long x :: st) m :=
  fun H locs cells slots ls hP hM hS hl hc hz => lv_lneg (x := x) (rest := st.map (qw_v X)) C.1 C.2.1 hd (h.2 H locs cells slots ls hP hM hS hl hc hz)
theorem qp_lcmp (C : qp_C p R s mid args meth c X E nL n0) {x y : Int64} (hd : decode (qe_b E) pc = .ok (.lcmp, 1)) (h : qp_K p l e R s mid args below meth c Q X nL n0 z0 (pc + 1) L (.int (lg_cmp x y) :: st) m) : qp_At p l e R s mid args below meth c Q X nL n0 z0 pc L (.long y :: .long x :: st) m :=
  fun H locs cells slots ls hP hM hS hl hc hz => W.lcmp (x := x) (y := y) (rest := st.map (qw_v X)) C.1 C.2.1 hd (h.2 H locs cells slots ls hP hM hS hl hc hz)
theorem qp_dup (C : qp_C p R s mid args meth c X E nL n0) {x : Value} (hx : x.category = 1) (hd : decode (qe_b E) pc = .ok (.dup, 1)) (h : qp_K p l e R s mid args below meth c Q X nL n0 z0 (pc + 1) L (x :: x :: st) m) : qp_At p l e R s mid args below meth c Q X nL n0 z0 pc L (x :: st) m :=
  fun H locs cells slots ls hP hM hS hl hc hz => lv_dup (va := qw_v X x) (rest := st.map (qw_v X)) C.1 C.2.1 hd (by rw [qw_cat C.2.2.2.2.2.2.2.1.cat]; exact hx) (h.2 H locs cells slots ls hP hM hS hl hc hz)
theorem qp_pop (C : qp_C p R s mid args meth c X E nL n0) {x : Value} (hx : x.category = 1) (hd : decode (qe_b E) pc = .ok (.pop, 1)) (h : qp_K p l e R s mid args below meth c Q X nL n0 z0 (pc + 1) L st m) : qp_At p l e R s mid args below meth c Q X nL n0 z0 pc L (x :: st) m :=
  fun H locs cells slots ls hP hM hS hl hc hz => lv_pop (va := qw_v X x) (rest := st.map (qw_v X)) C.1 C.2.1 hd (by rw [qw_cat C.2.2.2.2.2.2.2.1.cat]; exact hx) (h.2 H locs cells slots ls hP hM hS hl hc hz)
theorem qp_dup2 (C : qp_C p R s mid args meth c X E nL n0) {x y : Value} (hx : x.category = 1 ∧ y.category = 1) (hd : decode (qe_b E) pc = .ok (.dup2, 1)) (h : qp_K p l e R s mid args below meth c Q X nL n0 z0 (pc + 1) L (x :: y :: x :: y :: st) m) : qp_At p l e R s mid args below meth c Q X nL n0 z0 pc L (x :: y :: st) m :=
  fun H locs cells slots ls hP hM hS hl hc hz => lv_dup2_11 (va := qw_v X x) (vb := qw_v X y) (rest := st.map (qw_v X)) C.1 C.2.1 hd (by rw [qw_cat C.2.2.2.2.2.2.2.1.cat]; exact hx.1) (by rw [qw_cat C.2.2.2.2.2.2.2.1.cat]; exact hx.2) (h.2 H locs cells slots ls hP hM hS hl hc hz)
theorem qp_if_eq (C : qp_C p R s mid args meth c X E nL n0) {x : Int32} {o : Int} {a : Nat} (ht : (pc : Int) + o = (a : Int)) (hd : decode (qe_b E) pc = .ok (.ifCond .eq o, 3)) (h : if x = 0 then qp_K p l e R s mid args below meth c Q X nL n0 z0 a L st m else qp_K p l e R s mid args below meth c Q X nL n0 z0 (pc + 3) L st m) : qp_At p l e R s mid args below meth c Q X nL n0 z0 pc L (.int x :: st) m :=
  fun H locs cells slots ls hP hM hS hl hc hz => lv_if_eq (x := x) (rest := st.map (qw_v X)) C.1 C.2.1 hd ht (fun q => by rw [if_pos q] at h; exact h.2 H locs cells slots ls hP hM hS hl hc hz) (fun q => by rw [if_neg q] at h; exact h.2 H locs cells slots ls hP hM hS hl hc hz)
theorem qp_if_ne (C : qp_C p R s mid args meth c X E nL n0) {x : Int32} {o : Int} {a : Nat} (ht : (pc : Int) + o = (a : Int)) (hd : decode (qe_b E) pc = .ok (.ifCond .ne o, 3)) (h : if x = 0 then qp_K p l e R s mid args below meth c Q X nL n0 z0 (pc + 3) L st m else qp_K p l e R s mid args below meth c Q X nL n0 z0 a L st m) : qp_At p l e R s mid args below meth c Q X nL n0 z0 pc L (.int x :: st) m :=
  fun H locs cells slots ls hP hM hS hl hc hz => lv_if_ne (x := x) (rest := st.map (qw_v X)) C.1 C.2.1 hd ht (fun q => by rw [if_neg q] at h; exact h.2 H locs cells slots ls hP hM hS hl hc hz) (fun q => by rw [if_pos q] at h; exact h.2 H locs cells slots ls hP hM hS hl hc hz)
theorem qp_if_lt (C : qp_C p R s mid args meth c X E nL n0) {x : Int32} {o : Int} {a : Nat} (ht : (pc : Int) + o = (a : Int)) (hd : decode (qe_b E) pc = .ok (.ifCond .lt o, 3)) (h : if x < 0 then qp_K p l e R s mid args below meth c Q X nL n0 z0 a L st m else qp_K p l e R s mid args below meth c Q X nL n0 z0 (pc + 3) L st m) : qp_At p l e R s mid args below meth c Q X nL n0 z0 pc L (.int x :: st) m :=
  fun H locs cells slots ls hP hM hS hl hc hz => lv_if_lt (x := x) (rest := st.map (qw_v X)) C.1 C.2.1 hd ht (fun q => by rw [if_pos q] at h; exact h.2 H locs cells slots ls hP hM hS hl hc hz) (fun q => by rw [if_neg q] at h; exact h.2 H locs cells slots ls hP hM hS hl hc hz)
theorem qp_if_ge (C : qp_C p R s mid args meth c X E nL n0) {x : Int32} {o : Int} {a : Nat} (ht : (pc : Int) + o = (a : Int)) (hd : decode (qe_b E) pc = .ok (.ifCond .ge o, 3)) (h : if 0 ≤ x then qp_K p l e R s mid args below meth c Q X nL n0 z0 a L st m else qp_K p l e R s mid args below meth c Q X nL n0 z0 (pc + 3) L st m) : qp_At p l e R s mid args below meth c Q X nL n0 z0 pc L (.int x :: st) m :=
  fun H locs cells slots ls hP hM hS hl hc hz => lv_if_ge (x := x) (rest := st.map (qw_v X)) C.1 C.2.1 hd ht (fun q => by rw [if_pos q] at h; exact h.2 H locs cells slots ls hP hM hS hl hc hz) (fun q => by rw [if_neg q] at h; exact h.2 H locs cells slots ls hP hM hS hl hc hz)
theorem qp_if_gt (C : qp_C p R s mid args meth c X E nL n0) {x : Int32} {o : Int} {a : Nat} (ht : (pc : Int) + o = (a : Int)) (hd : decode (qe_b E) pc = .ok (.ifCond .gt o, 3)) (h : if 0 < x then qp_K p l e R s mid args below meth c Q X nL n0 z0 a L st m else qp_K p l e R s mid args below meth c Q X nL n0 z0 (pc + 3) L st m) : qp_At p l e R s mid args below meth c Q X nL n0 z0 pc L (.int x :: st) m :=
  fun H locs cells slots ls hP hM hS hl hc hz => lv_if_gt (x := x) (rest := st.map (qw_v X)) C.1 C.2.1 hd ht (fun q => by rw [if_pos q] at h; exact h.2 H locs cells slots ls hP hM hS hl hc hz) (fun q => by rw [if_neg q] at h; exact h.2 H locs cells slots ls hP hM hS hl hc hz)
theorem qp_if_le (C : qp_C p R s mid args meth c X E nL n0) {x : Int32} {o : Int} {a : Nat} (ht : (pc : Int) + o = (a : Int)) (hd : decode (qe_b E) pc = .ok (.ifCond .le o, 3)) (h : if x ≤ 0 then qp_K p l e R s mid args below meth c Q X nL n0 z0 a L st m else qp_K p l e R s mid args below meth c Q X nL n0 z0 (pc + 3) L st m) : qp_At p l e R s mid args below meth c Q X nL n0 z0 pc L (.int x :: st) m :=
  fun H locs cells slots ls hP hM hS hl hc hz => lv_if_le (x := x) (rest := st.map (qw_v X)) C.1 C.2.1 hd ht (fun q => by rw [if_pos q] at h; exact h.2 H locs cells slots ls hP hM hS hl hc hz) (fun q => by rw [if_neg q] at h; exact h.2 H locs cells slots ls hP hM hS hl hc hz)
theorem qp_icmp_eq (C : qp_C p R s mid args meth c X E nL n0) {x y : Int32} {o : Int} {a : Nat} (ht : (pc : Int) + o = (a : Int)) (hd : decode (qe_b E) pc = .ok (.if_icmp .eq o, 3)) (h : if x = y then qp_K p l e R s mid args below meth c Q X nL n0 z0 a L st m else qp_K p l e R s mid args below meth c Q X nL n0 z0 (pc + 3) L st m) : qp_At p l e R s mid args below meth c Q X nL n0 z0 pc L (.int y :: .int x :: st) m :=
  fun H locs cells slots ls hP hM hS hl hc hz => lv_icmp_eq (x := x) (y := y) (rest := st.map (qw_v X)) C.1 C.2.1 hd ht (fun q => by rw [if_pos q] at h; exact h.2 H locs cells slots ls hP hM hS hl hc hz) (fun q => by rw [if_neg q] at h; exact h.2 H locs cells slots ls hP hM hS hl hc hz)
theorem qp_icmp_ne (C : qp_C p R s mid args meth c X E nL n0) {x y : Int32} {o : Int} {a : Nat} (ht : (pc : Int) + o = (a : Int)) (hd : decode (qe_b E) pc = .ok (.if_icmp .ne o, 3)) (h : if x = y then qp_K p l e R s mid args below meth c Q X nL n0 z0 (pc + 3) L st m else qp_K p l e R s mid args below meth c Q X nL n0 z0 a L st m) : qp_At p l e R s mid args below meth c Q X nL n0 z0 pc L (.int y :: .int x :: st) m :=
  fun H locs cells slots ls hP hM hS hl hc hz => lv_icmp_ne (x := x) (y := y) (rest := st.map (qw_v X)) C.1 C.2.1 hd ht (fun q => by rw [if_neg q] at h; exact h.2 H locs cells slots ls hP hM hS hl hc hz) (fun q => by rw [if_pos q] at h; exact h.2 H locs cells slots ls hP hM hS hl hc hz)
theorem qp_icmp_lt (C : qp_C p R s mid args meth c X E nL n0) {x y : Int32} {o : Int} {a : Nat} (ht : (pc : Int) + o = (a : Int)) (hd : decode (qe_b E) pc = .ok (.if_icmp .lt o, 3)) (h : if x < y then qp_K p l e R s mid args below meth c Q X nL n0 z0 a L st m else qp_K p l e R s mid args below meth c Q X nL n0 z0 (pc + 3) L st m) : qp_At p l e R s mid args below meth c Q X nL n0 z0 pc L (.int y :: .int x :: st) m :=
  fun H locs cells slots ls hP hM hS hl hc hz => lv_icmp_lt (x := x) (y := y) (rest := st.map (qw_v X)) C.1 C.2.1 hd ht (fun q => by rw [if_pos q] at h; exact h.2 H locs cells slots ls hP hM hS hl hc hz) (fun q => by rw [if_neg q] at h; exact h.2 H locs cells slots ls hP hM hS hl hc hz)
theorem qp_icmp_ge (C : qp_C p R s mid args meth c X E nL n0) {x y : Int32} {o : Int} {a : Nat} (ht : (pc : Int) + o = (a : Int)) (hd : decode (qe_b E) pc = .ok (.if_icmp .ge o, 3)) (h : if y ≤ x then qp_K p l e R s mid args below meth c Q X nL n0 z0 a L st m else qp_K p l e R s mid args below meth c Q X nL n0 z0 (pc + 3) L st m) : qp_At p l e R s mid args below meth c Q X nL n0 z0 pc L (.int y :: .int x :: st) m :=
  fun H locs cells slots ls hP hM hS hl hc hz => lv_icmp_ge (x := x) (y := y) (rest := st.map (qw_v X)) C.1 C.2.1 hd ht (fun q => by rw [if_pos q] at h; exact h.2 H locs cells slots ls hP hM hS hl hc hz) (fun q => by rw [if_neg q] at h; exact h.2 H locs cells slots ls hP hM hS hl hc hz)
theorem qp_icmp_gt (C : qp_C p R s mid args meth c X E nL n0) {x y : Int32} {o : Int} {a : Nat} (ht : (pc : Int) + o = (a : Int)) (hd : decode (qe_b E) pc = .ok (.if_icmp .gt o, 3)) (h : if y < x then qp_K p l e R s mid args below meth c Q X nL n0 z0 a L st m else qp_K p l e R s mid args below meth c Q X nL n0 z0 (pc + 3) L st m) : qp_At p l e R s mid args below meth c Q X nL n0 z0 pc L (.int y :: .int x :: st) m :=
  fun H locs cells slots ls hP hM hS hl hc hz => lv_icmp_gt (x := x) (y := y) (rest := st.map (qw_v X)) C.1 C.2.1 hd ht (fun q => by rw [if_pos q] at h; exact h.2 H locs cells slots ls hP hM hS hl hc hz) (fun q => by rw [if_neg q] at h; exact h.2 H locs cells slots ls hP hM hS hl hc hz)
theorem qp_icmp_le (C : qp_C p R s mid args meth c X E nL n0) {x y : Int32} {o : Int} {a : Nat} (ht : (pc : Int) + o = (a : Int)) (hd : decode (qe_b E) pc = .ok (.if_icmp .le o, 3)) (h : if x ≤ y then qp_K p l e R s mid args below meth c Q X nL n0 z0 a L st m else qp_K p l e R s mid args below meth c Q X nL n0 z0 (pc + 3) L st m) : qp_At p l e R s mid args below meth c Q X nL n0 z0 pc L (.int y :: .int x :: st) m :=
  fun H locs cells slots ls hP hM hS hl hc hz => lv_icmp_le (x := x) (y := y) (rest := st.map (qw_v X)) C.1 C.2.1 hd ht (fun q => by rw [if_pos q] at h; exact h.2 H locs cells slots ls hP hM hS hl hc hz) (fun q => by rw [if_neg q] at h; exact h.2 H locs cells slots ls hP hM hS hl hc hz)
theorem qp_goto (C : qp_C p R s mid args meth c X E nL n0) {o : Int} {a : Nat} (ht : (pc : Int) + o = (a : Int)) (hd : decode (qe_b E) pc = .ok (.goto o, 3)) (h : qp_K p l e R s mid args below meth c Q X nL n0 z0 a L st m) : qp_At p l e R s mid args below meth c Q X nL n0 z0 pc L st m :=
  fun H locs cells slots ls hP hM hS hl hc hz => lv_goto (rest := st.map (qw_v X)) C.1 C.2.1 hd ht (h.2 H locs cells slots ls hP hM hS hl hc hz)
end QPA
end
section
/-! CLASSES: what the tables say of each -/
theorem qk_sub {ws : List Jvm.Cond} (ps : List Nat) (h : (decide (ws = ps.filterMap (fun p => (qk_tb (p / 1000))[p % 1000]?)) && ws.all goodWord) = true) : ∀ w ∈ ws, w ∈ lw_gd := by
  intro w hw
  simp only [Bool.and_eq_true, decide_eq_true_eq] at h
  have hg := List.all_eq_true.mp h.2 w hw
  rw [h.1] at hw
  obtain ⟨p, -, hp⟩ := List.mem_filterMap.mp hw
  exact List.mem_filter.mpr ⟨qk_tb_in (List.mem_of_getElem? hp), hg⟩
theorem qk_in (p : Nat) {w : Jvm.Cond} (h : qk_is [p] 0 w = true) : w ∈ lw_gd := qk_is_in h
def qk_Cl (a : Nat) (q : vw_C) : Prop := q.2.2 = qs_nf a ∧ (∀ w ∈ u_ws q.1 q.2.1 q.2.2, w ∈ lw_gd) ∧ (∀ k, k < q.2.2 → parseFieldDescriptor (q.2.1 k).2.2.1 = some (qt_ty a k)) ∧ (∀ x, x < q.2.2 → ∀ y, y < q.2.2 → x ≠ y → (q.2.1 x).2.1 ≠ (q.2.1 y).2.1) ∧ Cond.instantiable q.1 q.2.2 ∈ lw_gd ∧ Cond.initialized q.1 ∈ lw_gd ∧ ∀ k, k < q.2.2 → defaultValue (qt_ty a k) = (if qs_dl a k = 0 then .int 0 else .null)
theorem qk_cl0 : qk_Cl 0 (RX0, TX0, 8) := ⟨rfl, qk_sub [1131, 1133, 1135, 1137, 1139, 1141, 1143, 1145] (by decide +kernel), tyX0_ok, nmX0, qk_in 1107 (by decide +kernel), qk_in 1006 (by decide +kernel), by decide +kernel⟩
theorem qk_cl1 : qk_Cl 1 (RX1, TX1, 2) := ⟨rfl, qk_sub [1062, 1064] (by decide +kernel), tyX1_ok, nmX1, qk_in 1026 (by decide +kernel), qk_in 1002 (by decide +kernel), by decide +kernel⟩
theorem qk_cl2 : qk_Cl 2 (RX2, TX2, 15) := ⟨rfl, qk_sub [1177, 1179, 1181, 1183, 1185, 1187, 1189, 1191, 1193, 1195, 1197, 1199, 1201, 1203, 1205] (by decide +kernel), tyX2_ok, nmX2, qk_in 1100 (by decide +kernel), qk_in 1005 (by decide +kernel), by decide +kernel⟩
theorem qk_cl3 : qk_Cl 3 (RX3, TX3, 7) := ⟨rfl, qk_sub [1084, 1086, 1088, 1090, 1092, 1094, 1096] (by decide +kernel), tyX3_ok, nmX3, qk_in 1068 (by decide +kernel), qk_in 1004 (by decide +kernel), by decide +kernel⟩
theorem qk_cl4 : qk_Cl 4 (RX4, TX4, 3) := ⟨rfl, qk_sub [1223, 1225, 1227] (by decide +kernel), tyX4_ok, nmX4, qk_in 1212 (by decide +kernel), qk_in 1007 (by decide +kernel), by decide +kernel⟩
theorem qk_cl5 : qk_Cl 5 (RX5, TX5, 4) := ⟨rfl, qk_sub [2005, 2007, 2009, 2011] (by decide +kernel), tyX5_ok, nmX5, qk_in 1230 (by decide +kernel), qk_in 1008 (by decide +kernel), by decide +kernel⟩
theorem qk_cl6 : qk_Cl 6 (RX6, TX6, 4) := ⟨rfl, qk_sub [1049, 1051, 1053, 1055] (by decide +kernel), tyX6_ok, nmX6, qk_in 1033 (by decide +kernel), qk_in 1003 (by decide +kernel), by decide +kernel⟩
theorem qk_cl7 : qk_Cl 7 (RX7, TX7, 10) := ⟨rfl, qk_sub [2024, 2026, 2028, 2030, 2032, 2034, 2036, 2038, 2040, 2042] (by decide +kernel), tyX7_ok, nmX7, qk_in 1018 (by decide +kernel), qk_in 1001 (by decide +kernel), by decide +kernel⟩
theorem qk_cl8 : qk_Cl 8 (RX8, TX8, 36) := ⟨rfl, qk_sub [4152, 4154, 4156, 4158, 4160, 4162, 4164, 4166, 4168, 4170, 4172, 4174, 4176, 4178, 4180, 4182, 4184, 4186, 4188, 4190, 4192, 4194, 4196, 4198, 4200, 4202, 4204, 4206, 4208, 4210, 4212, 4214, 4216, 4218, 4220, 4222] (by decide +kernel), tyX8_ok, nmX8, qk_in 4111 (by decide +kernel), qk_in 1009 (by decide +kernel), by decide +kernel⟩
theorem qk_cls {a : Nat} {q : vw_C} (h : vwCl[a]? = some q) : a < 9 ∧ qk_Cl a q := by
  match a, h with
  | 0, h => cases h; exact ⟨by decide, qk_cl0⟩
  | 1, h => cases h; exact ⟨by decide, qk_cl1⟩
  | 2, h => cases h; exact ⟨by decide, qk_cl2⟩
  | 3, h => cases h; exact ⟨by decide, qk_cl3⟩
  | 4, h => cases h; exact ⟨by decide, qk_cl4⟩
  | 5, h => cases h; exact ⟨by decide, qk_cl5⟩
  | 6, h => cases h; exact ⟨by decide, qk_cl6⟩
  | 7, h => cases h; exact ⟨by decide, qk_cl7⟩
  | 8, h => cases h; exact ⟨by decide, qk_cl8⟩
  | a + 9, h => simp [vwCl] at h
theorem qk_ac_int : Cond.arrayClass .int ∈ lw_gd := qk_in 1058 (by decide +kernel)
theorem qk_ac_boolean : Cond.arrayClass .boolean ∈ lw_gd := qk_in 4227 (by decide +kernel)
theorem qk_ac_char : Cond.arrayClass .char ∈ lw_gd := qk_in 4226 (by decide +kernel)
theorem qk_ac_long : Cond.arrayClass .long ∈ lw_gd := qk_in 4225 (by decide +kernel)
theorem qk_oi1 : Cond.instanceMethod Lib.objectInit ∈ lw_gd := qk_in 1023 (by decide +kernel)
theorem qk_oi2 : Cond.code Lib.objectInit ⟨#[0xb1]⟩ 1 none ∈ lw_gd := qk_in 1024 (by decide +kernel)
theorem qk_cp1 : Cond.native arraycopyName ∈ lw_gd := qk_in 4060 (by decide +kernel)
theorem qk_cp2 : Cond.static arraycopyName ∈ lw_gd := qk_in 4059 (by decide +kernel)
theorem qk_cp3 : Cond.initialized "java/lang/System" ∈ lw_gd := qk_in 1016 (by decide +kernel)
theorem qk_mmax1 : Cond.static Lib.Math.max.name ∈ lw_gd := qk_in 2079 (by decide +kernel)
theorem qk_mmax2 : Cond.code Lib.Math.max.name Lib.Math.max.code 2 (some .int) ∈ lw_gd := qk_in 2080 (by decide +kernel)
theorem qk_mmin1 : Cond.static Lib.Math.min.name ∈ lw_gd := qk_in 2182 (by decide +kernel)
theorem qk_mmin2 : Cond.code Lib.Math.min.name Lib.Math.min.code 2 (some .int) ∈ lw_gd := qk_in 2183 (by decide +kernel)
theorem qk_mabs1 : Cond.static Lib.Math.abs.name ∈ lw_gd := qk_in 2087 (by decide +kernel)
theorem qk_mabs2 : Cond.code Lib.Math.abs.name Lib.Math.abs.code 1 (some .int) ∈ lw_gd := qk_in 2088 (by decide +kernel)
theorem qk_mi : Cond.initialized "java/lang/Math" ∈ lw_gd := qk_in 1010 (by decide +kernel)
/-! CELLS -/
theorem qw_cell_o {X : qw_X} {m : qs_M} {k a : Nat} (h : qs_kd m k = a) (ha : a < 9) : qw_cell X m k = .inr (a, (List.range (qs_nf a)).map (qw_sv X m k)) := by
  unfold qw_cell
  rw [h, if_pos ha]
theorem qw_cell_l {X : qw_X} {m : qs_M} {k : Nat} (h : qs_kd m k = 23) : qw_cell X m k = .inl (qx_c X 23, qs_sz m k, .inr (.inl (qs_l m k))) := by
  unfold qw_cell
  rw [h, if_neg (by decide), if_pos rfl]
theorem qw_cell_i {X : qw_X} {m : qs_M} {k a : Nat} (h : qs_kd m k = a) (ha : a = 20 ∨ a = 21 ∨ a = 22) : qw_cell X m k = .inl (qx_c X a, qs_sz m k, .inl (qs_i m k)) := by
  unfold qw_cell
  rw [h, if_neg (by omega), if_neg (by omega), if_pos (by omega)]
theorem qw_cell_q {X : qw_X} {m : qs_M} {k a : Nat} (h : qs_kd m k = a) (ha : 30 ≤ a) : qw_cell X m k = .inl (qx_c X a, qs_sz m k, .inr (.inr (.inr (.inr (fun j => qw_rf X (qs_lk m k j)))))) := by
  unfold qw_cell
  rw [h, if_neg (by omega), if_neg (by omega), if_neg (by omega)]
theorem qw_cell_cg {X : qw_X} {m m' : qs_M} {k : Nat} (h1 : qs_kd m' k = qs_kd m k) (h2 : qs_sz m' k = qs_sz m k) (h3 : qs_lk m' k = qs_lk m k) (h4 : qs_i m' k = qs_i m k) (h5 : qs_l m' k = qs_l m k) : qw_cell X m' k = qw_cell X m k := by
  have h6 : qw_sv X m' k = qw_sv X m k := by
    funext j
    unfold qw_sv
    rw [h3, h4]
  unfold qw_cell
  rw [h1, h2, h3, h4, h5, h6]
theorem qs_wi_i (m : qs_M) (k j a b : Nat) (x : Int32) : qs_i (qs_wi m k j x) a b = if a = k ∧ b = j then x else qs_i m a b := rfl
theorem qs_wl_l (m : qs_M) (k j a b : Nat) (x : Nat) : qs_lk (qs_wl m k j x) a b = if a = k ∧ b = j then x else qs_lk m a b := rfl
theorem qs_wj_l (m : qs_M) (k j a b : Nat) (x : Int64) : qs_l (qs_wj m k j x) a b = if a = k ∧ b = j then x else qs_l m a b := rfl
theorem qs_wi_ne (m : qs_M) {k j a : Nat} (x : Int32) (h : a ≠ k) : qs_i (qs_wi m k j x) a = qs_i m a := by
  funext b
  rw [qs_wi_i, if_neg (fun q => h q.1)]
theorem qs_wl_ne (m : qs_M) {k j a : Nat} (x : Nat) (h : a ≠ k) : qs_lk (qs_wl m k j x) a = qs_lk m a := by
  funext b
  rw [qs_wl_l, if_neg (fun q => h q.1)]
theorem qs_wj_ne (m : qs_M) {k j a : Nat} (x : Int64) (h : a ≠ k) : qs_l (qs_wj m k j x) a = qs_l m a := by
  funext b
  rw [qs_wj_l, if_neg (fun q => h q.1)]
theorem qs_wi_up (m : qs_M) (k j : Nat) (x : Int32) : qs_i (qs_wi m k j x) k = upd (qs_i m k) j x := by
  funext b
  rw [qs_wi_i]
  by_cases h : b = j
  · rw [if_pos ⟨rfl, h⟩]; simp [upd, h]
  · rw [if_neg (fun q => h q.2)]; simp [upd, h]
theorem qs_wj_up (m : qs_M) (k j : Nat) (x : Int64) : qs_l (qs_wj m k j x) k = vp_updL (qs_l m k) j x := by
  funext b
  rw [qs_wj_l]
  by_cases h : b = j
  · rw [if_pos ⟨rfl, h⟩]; simp [vp_updL, h]
  · rw [if_neg (fun q => h q.2)]; simp [vp_updL, h]
theorem qw_M.wi {X : qw_X} {m : qs_M} (h : qw_M X m) {k j : Nat} (x : Int32) (hk : 16 ≤ k) : qw_M X (qs_wi m k j x) :=
  ⟨h.1.moved (fun q hq => ⟨rfl, rfl, fun _ => rfl, fun b => by rw [qs_wi_ne m x (by omega)]⟩), h.2.1, h.2.2⟩
theorem qw_M.wj {X : qw_X} {m : qs_M} (h : qw_M X m) {k j : Nat} (x : Int64) : qw_M X (qs_wj m k j x) :=
  ⟨h.1.moved (fun q hq => ⟨rfl, rfl, fun _ => rfl, fun b => rfl⟩), h.2.1, h.2.2⟩
theorem qw_M.wl {X : qw_X} {m : qs_M} (h : qw_M X m) {k j : Nat} (x : Nat) (hk : 16 ≤ k) : qw_M X (qs_wl m k j x) :=
  ⟨h.1.moved (fun q hq => ⟨rfl, rfl, fun b => by rw [qs_wl_ne m x (by omega)], fun _ => rfl⟩), h.2.1, h.2.2⟩
theorem qw_M.cp {X : qw_X} {m : qs_M} (h : qw_M X m) {r1 r2 sp dp n : Nat} (hk : 16 ≤ r2) : qw_M X (qs_cp m r1 r2 sp dp n) :=
  ⟨h.1.moved (fun q hq => ⟨rfl, rfl, fun _ => rfl, fun b => if_neg (fun z => by omega)⟩), h.2.1, h.2.2⟩
theorem qw_map_set {f f' : Nat → Value} {N b : Nat} {v : Value} (hv : f' b = v) (ho : ∀ j, j ≠ b → f' j = f j) : ((List.range N).map f).set b v = (List.range N).map f' := by
  apply List.ext_getElem?
  intro i
  rcases Nat.lt_or_ge i N with q | q
  · by_cases hi : i = b
    · subst hi
      rw [List.getElem?_set_self (by simpa using q), List.getElem?_map, List.getElem?_range q]
      simp [hv]
    · rw [List.getElem?_set_ne (Ne.symm hi), List.getElem?_map, List.getElem?_map, List.getElem?_range q]
      simp [ho i hi]
  · rw [List.getElem?_eq_none (by simpa using q), List.getElem?_eq_none (by simpa using q)]
theorem qw_fs {X : qw_X} {m : qs_M} {k N b : Nat} (h : b < N) : ((List.range N).map (qw_sv X m k))[b]? = some (qw_sv X m k b) := by
  rw [List.getElem?_map, List.getElem?_range h]
  rfl
theorem qw_sv_0 {X : qw_X} {m : qs_M} {k j : Nat} (h : qs_lk m k j = 0) : qw_sv X m k j = .int (qs_i m k j) := by
  unfold qw_sv
  rw [h]
theorem qw_sv_2 {X : qw_X} {m : qs_M} {k j q : Nat} (h : qs_lk m k j = q + 2) : qw_sv X m k j = qw_v X (.ref q) := by
  unfold qw_sv
  rw [h]
theorem qw_tyi {X : qw_X} : (qw_tys X)[0]? = some (qx_c X 20, .int) := rfl
/-- kinds outside -/
theorem qw_M.k25 {X : qw_X} {m : qs_M} (h : qw_M X m) {k : Nat} (hk : qs_kd m k = 25) : k = 1 := by
  have h0 := h
  obtain ⟨⟨a1, ⟨b1, -⟩, c, d, e1, e2⟩, g1, g2⟩ := h
  rcases (by omega : k = 0 ∨ k = 1 ∨ (2 ≤ k ∧ k < 8) ∨ (8 ≤ k ∧ k < 14) ∨ k = 14 ∨ k = 15 ∨ 16 ≤ k) with q | q | ⟨h1, h2⟩ | ⟨h1, h2⟩ | rfl | rfl | q
  · subst q; omega
  · exact q
  · have := (c (k - 2) (by omega)).1
    rw [show 2 + (k - 2) = k by omega] at this
    omega
  · have := (d (k - 8) (by omega)).1
    rw [show 8 + (k - 8) = k by omega] at this
    omega
  · omega
  · omega
  · rcases Nat.lt_or_ge k (16 + qs_n m) with z | z
    · have := g2 k q z
      unfold qw_okk at this
      omega
    · have := g1 k z
      omega
theorem qw_M.k90 {X : qw_X} {m : qs_M} (h : qw_M X m) {k : Nat} (hk : qs_kd m k = 90) : ∃ i, i < 6 ∧ k = 2 + i := by
  obtain ⟨⟨a1, ⟨b1, -⟩, c, d, e1, e2⟩, g1, g2⟩ := h
  rcases (by omega : k = 0 ∨ k = 1 ∨ (2 ≤ k ∧ k < 8) ∨ (8 ≤ k ∧ k < 14) ∨ k = 14 ∨ k = 15 ∨ 16 ≤ k) with rfl | rfl | ⟨h1, h2⟩ | ⟨h1, h2⟩ | rfl | rfl | q
  · omega
  · omega
  · exact ⟨k - 2, by omega, by omega⟩
  · have := (d (k - 8) (by omega)).1
    rw [show 8 + (k - 8) = k by omega] at this
    omega
  · omega
  · omega
  · rcases Nat.lt_or_ge k (16 + qs_n m) with z | z
    · have := g2 k q z
      unfold qw_okk at this
      omega
    · have := g1 k z
      omega
theorem qw_M.k24 {X : qw_X} {m : qs_M} (h : qw_M X m) {k : Nat} (hk : qs_kd m k = 24) : ∃ i, i < 6 ∧ k = 8 + i := by
  obtain ⟨⟨a1, ⟨b1, -⟩, c, d, e1, e2⟩, g1, g2⟩ := h
  rcases (by omega : k = 0 ∨ k = 1 ∨ (2 ≤ k ∧ k < 8) ∨ (8 ≤ k ∧ k < 14) ∨ k = 14 ∨ k = 15 ∨ 16 ≤ k) with rfl | rfl | ⟨h1, h2⟩ | ⟨h1, h2⟩ | rfl | rfl | q
  · omega
  · omega
  · have := (c (k - 2) (by omega)).1
    rw [show 2 + (k - 2) = k by omega] at this
    omega
  · exact ⟨k - 8, by omega, by omega⟩
  · omega
  · omega
  · rcases Nat.lt_or_ge k (16 + qs_n m) with z | z
    · have := g2 k q z
      unfold qw_okk at this
      omega
    · have := g1 k z
      omega
theorem qw_M.k26 {X : qw_X} {m : qs_M} (h : qw_M X m) {k : Nat} (hk : qs_kd m k = 2600) : False := by
  rcases Nat.lt_or_ge k 16 with q | q
  · rcases h.ext q with e | e | e | e <;> omega
  · rcases Nat.lt_or_ge k (16 + qs_n m) with z | z
    · have := h.2.2 k q z
      unfold qw_okk at this
      omega
    · have := h.2.1 k z
      omega
theorem qw_M.okk {X : qw_X} {m : qs_M} (h : qw_M X m) {k : Nat} (hk : 30 ≤ qs_kd m k ∧ qs_kd m k < 40) : qs_kd m k = 30 ∨ qs_kd m k = 34 ∨ qs_kd m k = 35 ∨ qs_kd m k = 36 := by
  have hi := h.in (k := k) (Or.inr hk)
  have := h.2.2 k hi.1 (by omega)
  unfold qw_okk at this
  omega
section QPB
variable {p : Program} {l : Launch} {e : Env} {R : Room} {s : State} {mid : MethodId} {args : Array Value} {below : List Frame} {meth : Method} {c : Code} {Q : State → Prop} {X : qw_X} {E : qs_E} {nL n0 z0 : Nat}
variable {pc : Nat} {L : qs_L} {st : List Value} {m : qs_M}
theorem qp_get (C : qp_C p R s mid args meth c X E nL n0) {n a b r : Nat} {q : vw_C} (hq : vwCl[a]? = some q) (hb : b < q.2.2) (hw : Jvm.Cond.fieldLink (qe_own E) n (q.2.1 b).1 (q.2.1 b).2.1 (q.2.1 b).2.2.1 ∈ lw_gd) (hk : qs_kd m r = a) {v : Value} (hv : qw_sv X m r b = qw_v X v) (hd : decode (qe_b E) pc = .ok (.getfield n, 3)) (h : qp_K p l e R s mid args below meth c Q X nL n0 z0 (pc + 3) L (v :: st) m) : qp_At p l e R s mid args below meth c Q X nL n0 z0 pc L (.ref r :: st) m := by
  intro H locs cells slots ls hP hM hS hl hc hz
  obtain ⟨ha, hN, hin, hty, hnm, -⟩ := qk_cls hq
  have hi := hM.in (k := r) (Or.inl (by omega))
  have h1 := h.2 H locs cells slots ls hP hM hS hl hc hz
  rw [List.map_cons, ← hv] at h1
  rw [List.map_cons, qw_vr hi.1]
  exact va_get (own := qe_own E) (ref := (q.2.1 b).1) (C := q.1) (T := q.2.1) (N := q.2.2) (ci := a) (ws := qw_ws X m) (fs := (List.range (qs_nf a)).map (qw_sv X m r)) C.1 C.2.1 C.2.2.2.2.1 hin C.2.2.2.1 C.2.2.2.2.2.1 hP (r - 16) (by rw [qw_at hi, qw_cell_o hk ha]) hq b hb (C.2.2.2.2.1 _ hw) (fun _ z => z) (qw_fs (by omega)) hd h1
theorem qp_getS (C : qp_C p R s mid args meth c X E nL n0) {n b r : Nat} {nm ds : String} (hk : qs_kd m r = 90) {v : Value} (hb : (b = 0 ∧ nm = "value" ∧ ds = "[B" ∧ v = .ref (qs_lk m r 0 - 2)) ∨ (b = 1 ∧ nm = "coder" ∧ ds = "B" ∧ v = .int (qs_i m r 1))) (hw : Jvm.Cond.fieldLink (qe_own E) n "java/lang/String" nm ds ∈ lw_gd) (hd : decode (qe_b E) pc = .ok (.getfield n, 3)) (h : qp_K p l e R s mid args below meth c Q X nL n0 z0 (pc + 3) L (v :: st) m) : qp_At p l e R s mid args below meth c Q X nL n0 z0 pc L (.ref r :: st) m := by
  intro H locs cells slots ls hP hM hS hl hc hz
  obtain ⟨i, hi, rfl⟩ := hM.k90 hk
  have h1 := h.2 H locs cells slots ls hP hM hS hl hc hz
  obtain ⟨-, -, f3, -⟩ := hM.1
  obtain ⟨-, f4, -, f5⟩ := f3 i hi
  obtain ⟨-, g1, g2, -⟩ := (C.2.2.2.2.2.2.1).2.2.2.1 i hi
  rw [List.map_cons] at h1
  rw [List.map_cons, qw_ve (by omega)]
  rcases hb with ⟨-, rfl, rfl, rfl⟩ | ⟨-, rfl, rfl, rfl⟩
  · rw [f4, show 8 + i + 2 - 2 = 8 + i by omega, qw_ve (by omega)] at h1
    exact vk_getf C.1 C.2.1 g2 hS C.2.2.2.1 (C.2.2.2.2.1 _ hw) (fun _ z => z) hd h1
  · rw [f5] at h1
    exact vk_getf C.1 C.2.1 g1 hS C.2.2.2.1 (C.2.2.2.2.1 _ hw) (fun _ z => z) hd h1
theorem qp_put (C : qp_C p R s mid args meth c X E nL n0) {n a b r : Nat} {q : vw_C} (hq : vwCl[a]? = some q) (hb : b < q.2.2) (hw : Jvm.Cond.fieldLink (qe_own E) n (q.2.1 b).1 (q.2.1 b).2.1 (q.2.1 b).2.2.1 ∈ lw_gd) (hfin : (q.2.1 b).2.2.2 = false) (hk : qs_kd m r = a) (hlk : qs_lk m r b = 0) {x : Int32} (hn : narrow (qt_ty a b) (.int x) = .int x) (hft : fits (qt_ty a b) (.int x) = true) (hd : decode (qe_b E) pc = .ok (.putfield n, 3)) (h : qp_K p l e R s mid args below meth c Q X nL n0 z0 (pc + 3) L st (qs_wi m r b x)) : qp_At p l e R s mid args below meth c Q X nL n0 z0 pc L (.int x :: .ref r :: st) m := by
  intro H locs cells slots ls hP hM hS hl hc hz
  obtain ⟨ha, hN, hin, hty, hnm, -⟩ := qk_cls hq
  have hi := hM.in (k := r) (Or.inl (by omega))
  rw [List.map_cons, List.map_cons, qw_vr hi.1]
  refine va_put (own := qe_own E) (ref := (q.2.1 b).1) (C := q.1) (T := q.2.1) (N := q.2.2) (ci := a) (ws := qw_ws X m) (fs := (List.range (qs_nf a)).map (qw_sv X m r)) C.1 C.2.1 C.2.2.2.2.1 hin (qt_ty a) hty hnm C.2.2.2.1 C.2.2.2.2.2.1 hP qw_D hS (r - 16) (by rw [qw_at hi, qw_cell_o hk ha]) hq b hb (C.2.2.2.2.1 _ hw) (fun _ z => z) hfin (hty b hb) hn hft (by simp; omega) hd (fun H1 locs1 hP1 hD1 hS1 => ?_)
  rw [qw_map_set (f' := qw_sv X (qs_wi m r b x) r) ((qw_sv_0 (m := qs_wi m r b x) hlk).trans (by rw [qs_wi_i, if_pos ⟨rfl, rfl⟩]; rfl)) (fun j hj => by unfold qw_sv; rw [qs_wi_i, if_neg (fun z => hj z.2)]; rfl), qw_set (m' := qs_wi m r b x) hi rfl (qw_cell_o hk ha) (fun z hz1 hz2 => qw_cell_cg rfl rfl rfl (qs_wi_ne m x hz2) rfl)] at hP1
  exact h.2 H1 locs1 cells slots ls hP1 (hM.wi x hi.1) hS1 hl hc hz
theorem qp_putR (C : qp_C p R s mid args meth c X E nL n0) {n a b r k : Nat} {q : vw_C} (hq : vwCl[a]? = some q) (hb : b < q.2.2) (hw : Jvm.Cond.fieldLink (qe_own E) n (q.2.1 b).1 (q.2.1 b).2.1 (q.2.1 b).2.2.1 ∈ lw_gd) (hfin : (q.2.1 b).2.2.2 = true) (hnm1 : (qe_y E).name = "<init>") (hdc : (q.2.1 b).1 = qe_own E) (hk : qs_kd m r = a) (hk2 : 16 ≤ k) (hty1 : qk_ty 1 (qt_ty a b) = true) (hd : decode (qe_b E) pc = .ok (.putfield n, 3)) (h : qp_K p l e R s mid args below meth c Q X nL n0 z0 (pc + 3) L st (qs_wl m r b (k + 2))) : qp_At p l e R s mid args below meth c Q X nL n0 z0 pc L (.ref k :: .ref r :: st) m := by
  intro H locs cells slots ls hP hM hS hl hc hz
  obtain ⟨ha, hN, hin, hty, hnm, -⟩ := qk_cls hq
  have hi := hM.in (k := r) (Or.inl (by omega))
  rw [List.map_cons, List.map_cons, qw_vr hi.1, qw_vr hk2]
  have hnf : narrow (qt_ty a b) (.ref (qx_b X + (k - 16))) = .ref (qx_b X + (k - 16)) ∧ fits (qt_ty a b) (.ref (qx_b X + (k - 16))) = true := by
    revert hty1
    cases qt_ty a b <;> intro z <;> first | exact ⟨rfl, rfl⟩ | cases z
  refine va_putF (own := qe_own E) (ref := (q.2.1 b).1) (C := q.1) (T := q.2.1) (N := q.2.2) (ci := a) (ws := qw_ws X m) (fs := (List.range (qs_nf a)).map (qw_sv X m r)) C.1 C.2.1 C.2.2.2.2.1 hin (qt_ty a) hty hnm C.2.2.2.1 C.2.2.2.2.2.1 hP qw_D hS (r - 16) (by rw [qw_at hi, qw_cell_o hk ha]) hq b hb (C.2.2.2.2.1 _ hw) (fun _ z => z) hfin (C.2.2.2.2.2.2.2.2.2.2.2.2 hnm1) hdc (hty b hb) hnf.1 hnf.2 (by simp; omega) hd (fun H1 locs1 hP1 hD1 hS1 => ?_)
  rw [qw_map_set (f' := qw_sv X (qs_wl m r b (k + 2)) r) ((qw_sv_2 (q := k) (by rw [qs_wl_l, if_pos ⟨rfl, rfl⟩])).trans (qw_vr hk2)) (fun j hj => by unfold qw_sv; rw [qs_wl_l, if_neg (fun z => hj z.2)]; rfl), qw_set (m' := qs_wl m r b (k + 2)) hi rfl (qw_cell_o hk ha) (fun z hz1 hz2 => qw_cell_cg rfl rfl (qs_wl_ne m _ hz2) rfl rfl)] at hP1
  exact h.2 H1 locs1 cells slots ls hP1 (hM.wl _ hi.1) hS1 hl hc hz
theorem qp_iald (C : qp_C p R s mid args meth c X E nL n0) {r : Nat} {x : Int32} (hk : qs_kd m r = 20) (hx : 0 ≤ x ∧ x.toNatClampNeg < qs_sz m r) (hd : decode (qe_b E) pc = .ok (.iaload, 1)) (h : qp_K p l e R s mid args below meth c Q X nL n0 z0 (pc + 1) L (.int (qs_i m r x.toNatClampNeg) :: st) m) : qp_At p l e R s mid args below meth c Q X nL n0 z0 pc L (.int x :: .ref r :: st) m := by
  intro H locs cells slots ls hP hM hS hl hc hz
  have hi := hM.in (k := r) (Or.inl (by omega))
  rw [List.map_cons, List.map_cons, qw_vr hi.1]
  exact va_iald (ws := qw_ws X m) C.1 C.2.1 C.2.2.2.2.2.1 hP (r - 16) 0 (by rw [qw_at hi, qw_cell_i hk (Or.inl rfl)]) rfl (qp_in hx) hd (h.2 H locs cells slots ls hP hM hS hl hc hz)
theorem qp_ialdX (C : qp_C p R s mid args meth c X E nL n0) {r : Nat} {x : Int32} (hk : qs_kd m r = 25) (hx : 0 ≤ x ∧ x.toNatClampNeg < qs_sz m r) (hd : decode (qe_b E) pc = .ok (.iaload, 1)) (h : qp_K p l e R s mid args below meth c Q X nL n0 z0 (pc + 1) L (.int (qs_i m r x.toNatClampNeg) :: st) m) : qp_At p l e R s mid args below meth c Q X nL n0 z0 pc L (.int x :: .ref r :: st) m := by
  intro H locs cells slots ls hP hM hS hl hc hz
  obtain ⟨-, ⟨-, b2, b3⟩, -⟩ := hM.1
  have hE := C.2.2.2.2.2.2.1
  obtain rfl := hM.k25 hk
  rw [List.map_cons, List.map_cons, qw_ve (by omega)]
  rw [b2] at hx
  refine va_ti (v := .int (qs_i m 1 x.toNatClampNeg)) C.1 C.2.1 hE.2.2.1 hS (qp_in hx) ?_ hd (h.2 H locs cells slots ls hP hM hS hl hc hz)
  rw [b3 _ hx.2]
theorem qp_zald (C : qp_C p R s mid args meth c X E nL n0) {r : Nat} {x : Int32} (hk : qs_kd m r = 21) (hx : 0 ≤ x ∧ x.toNatClampNeg < qs_sz m r) (hd : decode (qe_b E) pc = .ok (.baload, 1)) (h : qp_K p l e R s mid args below meth c Q X nL n0 z0 (pc + 1) L (.int (qs_i m r x.toNatClampNeg) :: st) m) : qp_At p l e R s mid args below meth c Q X nL n0 z0 pc L (.int x :: .ref r :: st) m := by
  intro H locs cells slots ls hP hM hS hl hc hz
  have hi := hM.in (k := r) (Or.inl (by omega))
  rw [List.map_cons, List.map_cons, qw_vr hi.1]
  exact va_zald (ws := qw_ws X m) C.1 C.2.1 C.2.2.2.2.2.1 hP (r - 16) 1 (by rw [qw_at hi, qw_cell_i hk (Or.inr (Or.inl rfl))]) rfl (qp_in hx) hd (h.2 H locs cells slots ls hP hM hS hl hc hz)
theorem qp_baldX (C : qp_C p R s mid args meth c X E nL n0) {r : Nat} {x : Int32} (hk : qs_kd m r = 24) (hx : 0 ≤ x ∧ x.toNatClampNeg < qs_sz m r) (hd : decode (qe_b E) pc = .ok (.baload, 1)) (h : qp_K p l e R s mid args below meth c Q X nL n0 z0 (pc + 1) L (.int (qs_i m r x.toNatClampNeg) :: st) m) : qp_At p l e R s mid args below meth c Q X nL n0 z0 pc L (.int x :: .ref r :: st) m := by
  intro H locs cells slots ls hP hM hS hl hc hz
  obtain ⟨i, hi, rfl⟩ := hM.k24 hk
  obtain ⟨-, -, -, f, -⟩ := hM.1
  obtain ⟨-, f2, f3⟩ := f i hi
  have hE := ((C.2.2.2.2.2.2.1).2.2.2.1 i hi).2.2.2.1
  rw [List.map_cons, List.map_cons, qw_ve (by omega)]
  rw [f2] at hx
  refine va_tb (v := .int (qs_i m (8 + i) x.toNatClampNeg)) C.1 C.2.1 hE hS (qp_in hx) ?_ hd (h.2 H locs cells slots ls hP hM hS hl hc hz)
  rw [f3 _ hx.2]
theorem qp_cald (C : qp_C p R s mid args meth c X E nL n0) {r : Nat} {x : Int32} (hk : qs_kd m r = 22) (hx : 0 ≤ x ∧ x.toNatClampNeg < qs_sz m r) (hd : decode (qe_b E) pc = .ok (.caload, 1)) (h : qp_K p l e R s mid args below meth c Q X nL n0 z0 (pc + 1) L (.int (qs_i m r x.toNatClampNeg) :: st) m) : qp_At p l e R s mid args below meth c Q X nL n0 z0 pc L (.int x :: .ref r :: st) m := by
  intro H locs cells slots ls hP hM hS hl hc hz
  have hi := hM.in (k := r) (Or.inl (by omega))
  rw [List.map_cons, List.map_cons, qw_vr hi.1]
  exact va_cald (ws := qw_ws X m) C.1 C.2.1 C.2.2.2.2.2.1 hP (r - 16) 2 (by rw [qw_at hi, qw_cell_i hk (Or.inr (Or.inr rfl))]) rfl (qp_in hx) hd (h.2 H locs cells slots ls hP hM hS hl hc hz)
theorem qp_lald (C : qp_C p R s mid args meth c X E nL n0) {r : Nat} {x : Int32} (hk : qs_kd m r = 23) (hx : 0 ≤ x ∧ x.toNatClampNeg < qs_sz m r) (hd : decode (qe_b E) pc = .ok (.laload, 1)) (h : qp_K p l e R s mid args below meth c Q X nL n0 z0 (pc + 1) L (.long (qs_l m r x.toNatClampNeg) :: st) m) : qp_At p l e R s mid args below meth c Q X nL n0 z0 pc L (.int x :: .ref r :: st) m := by
  intro H locs cells slots ls hP hM hS hl hc hz
  have hi := hM.in (k := r) (Or.inl (by omega))
  rw [List.map_cons, List.map_cons, qw_vr hi.1]
  exact va_lald (ws := qw_ws X m) C.1 C.2.1 C.2.2.2.2.2.1 hP (r - 16) 3 (by rw [qw_at hi, qw_cell_l hk]) rfl (qp_in hx) hd (h.2 H locs cells slots ls hP hM hS hl hc hz)
theorem qp_alen (C : qp_C p R s mid args meth c X E nL n0) {r : Nat} (hk : qs_kd m r = 24) (hd : decode (qe_b E) pc = .ok (.arraylength, 1)) (h : qp_K p l e R s mid args below meth c Q X nL n0 z0 (pc + 1) L (.int (Int32.ofNat (qs_sz m r)) :: st) m) : qp_At p l e R s mid args below meth c Q X nL n0 z0 pc L (.ref r :: st) m := by
  intro H locs cells slots ls hP hM hS hl hc hz
  have hE := C.2.2.2.2.2.2.1
  have h1 := h.2 H locs cells slots ls hP hM hS hl hc hz
  obtain ⟨i, hi, rfl⟩ := hM.k24 hk
  obtain ⟨-, -, -, f, -⟩ := hM.1
  obtain ⟨-, f2, -⟩ := f i hi
  rw [List.map_cons, qw_ve (by omega)]
  rw [f2] at h1
  exact va_tlen C.1 C.2.1 (hE.2.2.2.1 i hi).2.2.2.1 hS rfl hd h1
theorem qp_iast (C : qp_C p R s mid args meth c X E nL n0) {r : Nat} {x y : Int32} (hk : qs_kd m r = 20) (hx : 0 ≤ x ∧ x.toNatClampNeg < qs_sz m r) (hd : decode (qe_b E) pc = .ok (.iastore, 1)) (h : qp_K p l e R s mid args below meth c Q X nL n0 z0 (pc + 1) L st (qs_wi m r x.toNatClampNeg y)) : qp_At p l e R s mid args below meth c Q X nL n0 z0 pc L (.int y :: .int x :: .ref r :: st) m := by
  intro H locs cells slots ls hP hM hS hl hc hz
  have hi := hM.in (k := r) (Or.inl (by omega))
  rw [List.map_cons, List.map_cons, List.map_cons, qw_vr hi.1]
  refine va_iast (ws := qw_ws X m) C.1 C.2.1 C.2.2.2.2.2.1 hP qw_D hS (r - 16) 0 (by rw [qw_at hi, qw_cell_i hk (Or.inl rfl)]) rfl (qp_in hx) hd (fun H1 locs1 hP1 hD1 hS1 => ?_)
  rw [← qs_wi_up, qw_set (X := X) (m' := qs_wi m r x.toNatClampNeg y) (e := .inl (qx_c X 20, qs_sz m r, .inl (qs_i (qs_wi m r x.toNatClampNeg y) r))) hi rfl (qw_cell_i hk (Or.inl rfl)) (fun z hz1 hz2 => qw_cell_cg rfl rfl rfl (qs_wi_ne m _ hz2) rfl)] at hP1
  exact h.2 H1 locs1 cells slots ls hP1 (hM.wi _ hi.1) hS1 hl hc hz
theorem qp_zast (C : qp_C p R s mid args meth c X E nL n0) {r : Nat} {x y : Int32} (hk : qs_kd m r = 21) (hx : 0 ≤ x ∧ x.toNatClampNeg < qs_sz m r) (hy : y = 0 ∨ y = 1) (hd : decode (qe_b E) pc = .ok (.bastore, 1)) (h : qp_K p l e R s mid args below meth c Q X nL n0 z0 (pc + 1) L st (qs_wi m r x.toNatClampNeg y)) : qp_At p l e R s mid args below meth c Q X nL n0 z0 pc L (.int y :: .int x :: .ref r :: st) m := by
  intro H locs cells slots ls hP hM hS hl hc hz
  have hi := hM.in (k := r) (Or.inl (by omega))
  rw [List.map_cons, List.map_cons, List.map_cons, qw_vr hi.1]
  refine va_zast (ws := qw_ws X m) C.1 C.2.1 C.2.2.2.2.2.1 hP qw_D hS (r - 16) 1 (by rw [qw_at hi, qw_cell_i hk (Or.inr (Or.inl rfl))]) rfl (qp_in hx) hd (fun H1 locs1 hP1 hD1 hS1 => ?_)
  rw [show vp_nar .boolean y = y by rcases hy with rfl | rfl <;> decide, ← qs_wi_up, qw_set (X := X) (m' := qs_wi m r x.toNatClampNeg y) (e := .inl (qx_c X 21, qs_sz m r, .inl (qs_i (qs_wi m r x.toNatClampNeg y) r))) hi rfl (qw_cell_i hk (Or.inr (Or.inl rfl))) (fun z hz1 hz2 => qw_cell_cg rfl rfl rfl (qs_wi_ne m _ hz2) rfl)] at hP1
  exact h.2 H1 locs1 cells slots ls hP1 (hM.wi _ hi.1) hS1 hl hc hz
theorem qp_cast (C : qp_C p R s mid args meth c X E nL n0) {r : Nat} {x y : Int32} (hk : qs_kd m r = 22) (hx : 0 ≤ x ∧ x.toNatClampNeg < qs_sz m r) (hy : vp_nar .char y = y) (hd : decode (qe_b E) pc = .ok (.castore, 1)) (h : qp_K p l e R s mid args below meth c Q X nL n0 z0 (pc + 1) L st (qs_wi m r x.toNatClampNeg y)) : qp_At p l e R s mid args below meth c Q X nL n0 z0 pc L (.int y :: .int x :: .ref r :: st) m := by
  intro H locs cells slots ls hP hM hS hl hc hz
  have hi := hM.in (k := r) (Or.inl (by omega))
  rw [List.map_cons, List.map_cons, List.map_cons, qw_vr hi.1]
  refine va_cast (ws := qw_ws X m) C.1 C.2.1 C.2.2.2.2.2.1 hP qw_D hS (r - 16) 2 (by rw [qw_at hi, qw_cell_i hk (Or.inr (Or.inr rfl))]) rfl (qp_in hx) hd (fun H1 locs1 hP1 hD1 hS1 => ?_)
  rw [hy, ← qs_wi_up, qw_set (X := X) (m' := qs_wi m r x.toNatClampNeg y) (e := .inl (qx_c X 22, qs_sz m r, .inl (qs_i (qs_wi m r x.toNatClampNeg y) r))) hi rfl (qw_cell_i hk (Or.inr (Or.inr rfl))) (fun z hz1 hz2 => qw_cell_cg rfl rfl rfl (qs_wi_ne m _ hz2) rfl)] at hP1
  exact h.2 H1 locs1 cells slots ls hP1 (hM.wi _ hi.1) hS1 hl hc hz
theorem qp_last (C : qp_C p R s mid args meth c X E nL n0) {r : Nat} {x : Int32} {y : Int64} (hk : qs_kd m r = 23) (hx : 0 ≤ x ∧ x.toNatClampNeg < qs_sz m r) (hd : decode (qe_b E) pc = .ok (.lastore, 1)) (h : qp_K p l e R s mid args below meth c Q X nL n0 z0 (pc + 1) L st (qs_wj m r x.toNatClampNeg y)) : qp_At p l e R s mid args below meth c Q X nL n0 z0 pc L (.long y :: .int x :: .ref r :: st) m := by
  intro H locs cells slots ls hP hM hS hl hc hz
  have hi := hM.in (k := r) (Or.inl (by omega))
  rw [List.map_cons, List.map_cons, List.map_cons, qw_vr hi.1]
  refine va_last (ws := qw_ws X m) C.1 C.2.1 C.2.2.2.2.2.1 hP qw_D hS (r - 16) 3 (by rw [qw_at hi, qw_cell_l hk]) rfl (qp_in hx) hd (fun H1 locs1 hP1 hD1 hS1 => ?_)
  rw [← qs_wj_up, qw_set (X := X) (m' := qs_wj m r x.toNatClampNeg y) (e := .inl (qx_c X 23, qs_sz m r, .inr (.inl (qs_l (qs_wj m r x.toNatClampNeg y) r)))) hi rfl (qw_cell_l hk) (fun z hz1 hz2 => qw_cell_cg rfl rfl rfl rfl (qs_wj_ne m _ hz2))] at hP1
  exact h.2 H1 locs1 cells slots ls hP1 (hM.wj _) hS1 hl hc hz
/-- the place of a row of references among the arrays' classes, and the class of its things -/
theorem qw_tyq {a : Nat} (h : a = 30 ∨ a = 34 ∨ a = 35 ∨ a = 36) : ∃ (t : Nat) (q : vw_C), (qw_tys X)[t]? = some (qx_c X a, .object q.1) ∧ vwCl[a - 30]? = some q ∧ ∀ {U : State} {H : Heap}, qw_E X U H → va_AO q.1 U := by
  rcases h with rfl | rfl | rfl | rfl
  · exact ⟨4, (RX0, TX0, 8), rfl, rfl, fun h => h.2.2.2.2.2.2.2.1⟩
  · exact ⟨5, (RX4, TX4, 3), rfl, rfl, fun h => h.2.2.2.2.2.2.2.2.1⟩
  · exact ⟨6, (RX5, TX5, 4), rfl, rfl, fun h => h.2.2.2.2.2.2.2.2.2.1⟩
  · exact ⟨7, (RX6, TX6, 4), rfl, rfl, fun h => h.2.2.2.2.2.2.2.2.2.2⟩
theorem qp_aald (C : qp_C p R s mid args meth c X E nL n0) {r : Nat} {x : Int32} (hk : 30 ≤ qs_kd m r ∧ qs_kd m r < 40) (hx : 0 ≤ x ∧ x.toNatClampNeg < qs_sz m r) (hlk : 18 ≤ qs_lk m r x.toNatClampNeg) (hd : decode (qe_b E) pc = .ok (.aaload, 1)) (h : qp_K p l e R s mid args below meth c Q X nL n0 z0 (pc + 1) L (.ref (qs_lk m r x.toNatClampNeg - 2) :: st) m) : qp_At p l e R s mid args below meth c Q X nL n0 z0 pc L (.int x :: .ref r :: st) m := by
  intro H locs cells slots ls hP hM hS hl hc hz
  have hi := hM.in (k := r) (Or.inr hk)
  obtain ⟨t, q, ht, -, -⟩ := qw_tyq (X := X) (hM.okk hk)
  have h1 := h.2 H locs cells slots ls hP hM hS hl hc hz
  rw [List.map_cons, qw_vr (by omega)] at h1
  rw [List.map_cons, List.map_cons, qw_vr hi.1]
  refine va_aldq (ws := qw_ws X m) C.1 C.2.1 C.2.2.2.2.2.1 hP (r - 16) t (by rw [qw_at hi, qw_cell_q rfl hk.1]) ht (qp_in hx) hd ?_
  have e1 : va_rf (qw_rf X (qs_lk m r x.toNatClampNeg)) = .ref (qx_b X + (qs_lk m r x.toNatClampNeg - 2 - 16)) := by
    generalize hy : qs_lk m r x.toNatClampNeg = y at hlk
    obtain ⟨z, rfl⟩ : ∃ z, y = z + 2 := ⟨y - 2, by omega⟩
    show Value.ref (qw_ad X z) = _
    unfold qw_ad
    rw [if_neg (show ¬ z < 16 by omega), show z + 2 - 2 = z by omega]
  rw [e1]
  exact h1
theorem qp_aast (C : qp_C p R s mid args meth c X E nL n0) {r k : Nat} {x : Int32} (hk : qs_kd m k < 9 ∧ qs_kd m r = qs_kd m k + 30) (hx : 0 ≤ x ∧ x.toNatClampNeg < qs_sz m r) (hd : decode (qe_b E) pc = .ok (.aastore, 1)) (h : qp_K p l e R s mid args below meth c Q X nL n0 z0 (pc + 1) L st (qs_wl m r x.toNatClampNeg (k + 2))) : qp_At p l e R s mid args below meth c Q X nL n0 z0 pc L (.ref k :: .int x :: .ref r :: st) m := by
  intro H locs cells slots ls hP hM hS hl hc hz
  have hi := hM.in (k := r) (Or.inr (by omega))
  have hj := hM.in (k := k) (Or.inl (by omega))
  obtain ⟨t, q, ht, hq, -⟩ := qw_tyq (X := X) (hM.okk (k := r) (by omega))
  rw [show qs_kd m r - 30 = qs_kd m k by omega] at hq
  rw [List.map_cons, List.map_cons, List.map_cons, qw_vr hi.1, qw_vr hj.1]
  refine va_astq (ws := qw_ws X m) C.1 C.2.1 C.2.2.2.2.2.1 hP qw_D hS (r - 16) t (k - 16) (qs_kd m k) (by rw [qw_at hi, qw_cell_q rfl (by omega)]) ht (by rw [qw_at hj, qw_cell_o rfl hk.1]) hq (qp_in hx) hd (fun H1 locs1 hP1 hD1 hS1 => ?_)
  have e1 : va_up (fun j => qw_rf X (qs_lk m r j)) x.toNatClampNeg (some (qx_b X + (k - 16))) = fun j => qw_rf X (qs_lk (qs_wl m r x.toNatClampNeg (k + 2)) r j) := by
    funext j
    rw [qs_wl_l]
    by_cases hjx : j = x.toNatClampNeg
    · rw [if_pos ⟨rfl, hjx⟩]
      show va_up _ _ _ j = some (qw_ad X k)
      unfold qw_ad
      rw [if_neg (show ¬ k < 16 by omega)]
      simp [va_up, hjx]
    · rw [if_neg (fun z => hjx z.2)]
      simp [va_up, hjx]
  rw [e1, qw_set (X := X) (m' := qs_wl m r x.toNatClampNeg (k + 2)) (e := .inl (qx_c X (qs_kd m r), qs_sz m r, .inr (.inr (.inr (.inr (fun j => qw_rf X (qs_lk (qs_wl m r x.toNatClampNeg (k + 2)) r j))))))) hi rfl (qw_cell_q rfl (by show 30 ≤ qs_kd m r; omega)) (fun z hz1 hz2 => qw_cell_cg rfl rfl (qs_wl_ne m _ hz2) rfl rfl)] at hP1
  exact h.2 H1 locs1 cells slots ls hP1 (hM.wl _ hi.1) hS1 hl hc hz
end QPB
end
section
/-! NEW CELLS, COPIES, SWITCHES, CALLS -/
theorem qs_nw_n (m : qs_M) (t z : Nat) : qs_n (qs_nw m t z) = qs_n m + 1 := rfl
theorem qs_nw_z (m : qs_M) (t z : Nat) : qs_z (qs_nw m t z) = qs_z m + z := rfl
theorem qs_nw_kd (m : qs_M) (t z k : Nat) : qs_kd (qs_nw m t z) k = if k = 16 + qs_n m then t else qs_kd m k := rfl
theorem qs_nw_sz (m : qs_M) (t z k : Nat) : qs_sz (qs_nw m t z) k = if k = 16 + qs_n m then z else qs_sz m k := rfl
theorem qs_nw_lk (m : qs_M) (t z k j : Nat) : qs_lk (qs_nw m t z) k j = if k = 16 + qs_n m then qs_dl t j else qs_lk m k j := rfl
theorem qs_nw_i (m : qs_M) (t z k j : Nat) : qs_i (qs_nw m t z) k j = if k = 16 + qs_n m then 0 else qs_i m k j := rfl
theorem qs_nw_l (m : qs_M) (t z k j : Nat) : qs_l (qs_nw m t z) k j = if k = 16 + qs_n m then 0 else qs_l m k j := rfl
theorem qw_M.nw {X : qw_X} {m : qs_M} (h : qw_M X m) {t z : Nat} (ht : qw_okk t) : qw_M X (qs_nw m t z) := by
  refine ⟨h.1.moved (fun k hk => ⟨?_, ?_, fun j => ?_, fun j => ?_⟩), fun k hk => ?_, fun k h1 h2 => ?_⟩
  · rw [qs_nw_kd, if_neg (by omega)]
  · rw [qs_nw_sz, if_neg (by omega)]
  · rw [qs_nw_lk, if_neg (by omega)]
  · rw [qs_nw_i, if_neg (by omega)]
  · rw [qs_nw_n] at hk
    rw [qs_nw_kd, if_neg (by omega)]
    exact h.2.1 k (by omega)
  · rw [qs_nw_n] at h2
    rw [qs_nw_kd]
    by_cases e : k = 16 + qs_n m
    · rw [if_pos e]; exact ht
    · rw [if_neg e]; exact h.2.2 k h1 (by omega)
theorem qw_nw_old {X : qw_X} (m : qs_M) (t z : Nat) (k : Nat) (h : k < 16 + qs_n m) : qw_cell X (qs_nw m t z) k = qw_cell X m k := by
  refine qw_cell_cg ?_ ?_ ?_ ?_ ?_
  · rw [qs_nw_kd, if_neg (by omega)]
  · rw [qs_nw_sz, if_neg (by omega)]
  · funext j; rw [qs_nw_lk, if_neg (by omega)]
  · funext j; rw [qs_nw_i, if_neg (by omega)]
  · funext j; rw [qs_nw_l, if_neg (by omega)]
theorem qw_fresh {X : qw_X} {m : qs_M} {D : va_G} {q1 : Nat} {e : va_E} {H1 : Heap} (hP1 : va_P D vwCl (qw_ws X m ++ [(q1, e)]) H1) (hD1 : va_D (qw_A X) (qw_ws X m ++ [(q1, e)])) (hz : H1.size ≤ qx_b X + qs_n m + 1) : q1 = qx_b X + qs_n m := by
  have hl : (qw_ws X m ++ [(q1, e)])[qs_n m]? = some (q1, e) := by
    rw [List.getElem?_append_right (by rw [qw_len]; exact Nat.le_refl _), qw_len, Nat.sub_self]
    rfl
  have h1 : q1 < H1.size := (hP1 _ _ hl).lt
  have h2 : qx_b X ≤ q1 := hD1.2 _ _ hl
  rcases Nat.lt_or_ge q1 (qx_b X + qs_n m) with q | q
  · have h3 := qw_at (X := X) (m := m) (k := 16 + (q1 - qx_b X)) ⟨by omega, by omega⟩
    rw [show 16 + (q1 - qx_b X) - 16 = q1 - qx_b X by omega] at h3
    have h4 : (qw_ws X m ++ [(q1, e)])[q1 - qx_b X]? = some (qx_b X + (q1 - qx_b X), qw_cell X m (16 + (q1 - qx_b X))) := by
      rw [List.getElem?_append_left (by rw [qw_len]; omega)]
      exact h3
    have h5 := hD1.1 _ _ _ _ h4 hl (by show qx_b X + (q1 - qx_b X) = q1; omega)
    omega
  · omega
theorem qs_dl_01 (t j : Nat) : qs_dl t j = 0 ∨ qs_dl t j = 1 := by
  unfold qs_dl
  split <;> (repeat' split) <;> omega
theorem qw_sum {X : qw_X} (hf : (qx_f X).category = 1) : ∀ st : List Value, ((st.map (qw_v X)).map fun v => v.category).sum = qs_sum st
  | [] => rfl
  | v :: st => by
    rw [List.map_cons, List.map_cons, List.sum_cons, qw_sum hf st, qw_cat hf]
    rfl
theorem qs_pop_eq : ∀ (k : Nat) (st acc as rest : List Value), qs_pop k st acc = some (as, rest) → ∃ l, as = l ++ acc ∧ st = l.reverse ++ rest ∧ l.length = k
  | 0, st, acc, as, rest, h => by
    cases h
    exact ⟨[], rfl, rfl, rfl⟩
  | k + 1, [], acc, as, rest, h => by cases h
  | k + 1, v :: st, acc, as, rest, h => by
    obtain ⟨l, h1, h2, h3⟩ := qs_pop_eq k st (v :: acc) as rest h
    exact ⟨l ++ [v], by simp [h1], by simp [h2], by simp [h3]⟩
def qc_Q (X : qw_X) (v : Option Value) (m2 : qs_M) : Array Value → State → Outcome → State → Prop := fun _ st o t =>
  o = .returned (v.map (qw_v X)) ∧ va_P (qx_D X) vwCl (qw_ws X m2) t.heap ∧ qw_M X m2 ∧ va_F (qw_A X) st t
/-- a method's contract, from a memory to a memory -/
def qc_Met (X : qw_X) (l : Launch) (d : Nat) (F : qs_E) (as : List Value) (m : qs_M) (v : Option Value) (m2 : qs_M) : Prop :=
  Met l (qe_y F) (.code (qe_y F) (qe_b F) (qe_ml F) (qe_rt F) :: lw_gd) { frames := d + 1, cells := qs_n m2 - qs_n m, slots := qs_z m2 - qs_z m, locals := 64 * (d + 1) } (va_Pc (as.map (qw_v X)) (qw_At X m)) (qc_Q X v m2) (qs_n m2 - qs_n m) (qs_z m2 - qs_z m) (qw_A X)
theorem qw_At.blind {X : qw_X} {m : qs_M} {av : List Value} : FrameBlind (va_Pc av (qw_At X m)) := by
  intro a U g mk q
  obtain ⟨q0, q1, q2, q3, q4, q5, q6⟩ := q
  exact ⟨q0, q1, q2, va_K.moved (u := U) (U := U.calling g mk a) (Vm.Alike.refl U.vm) q3, qw_E.same (u := U) (U := U.calling g mk a) rfl q4, q5, q6⟩
/-- what an entry of the table of methods says -/
theorem qk_ent_of {F : qs_E} (h : qk_ent F = true) : (qe_y F).cls = qe_own F ∧ plainName (qe_own F) = true ∧ (parseMethodDescriptor (qe_y F).desc).map (fun d => d.parameters.length) = some (qe_na F) ∧ Cond.code (qe_y F) (qe_b F) (qe_ml F) (qe_rt F) ∈ lw_gd ∧ qk_rt (qe_rk F) (qe_rt F) = true ∧ qe_na F + (if qe_kd F = 0 then 0 else 1) ≤ qe_ml F ∧ qe_ml F ≤ 40 ∧ ((qe_y F).cls ≠ "java/lang/invoke/MethodHandle" ∧ (qe_y F).cls ≠ "java/lang/invoke/VarHandle") ∧ Cond.initialized (qe_y F).cls ∈ lw_gd ∧ (qe_kd F = 0 → Cond.static (qe_y F) ∈ lw_gd) ∧ (qe_kd F = 1 → Cond.instanceMethod (qe_y F) ∈ lw_gd ∧ Cond.selects (qe_y F).cls (qe_y F) (qe_y F) ∈ lw_gd) ∧ (qe_kd F = 2 → Cond.instanceMethod (qe_y F) ∈ lw_gd ∧ (qe_y F).name = "<init>") := by
  unfold qk_ent at h
  simp only [Bool.and_eq_true, decide_eq_true_eq] at h
  obtain ⟨⟨⟨⟨⟨⟨⟨⟨h1, h2⟩, h3⟩, h4⟩, h5⟩, h6⟩, h7⟩, h8⟩, h9⟩ := h
  refine ⟨h1, h2, h3, qk_is_in h4, h5, h6.1, h6.2, h7, qk_is_in h8, fun e => ?_, fun e => ?_, fun e => ?_⟩
  · rw [e] at h9; exact qk_is_in h9
  · rw [e] at h9
    simp only [Bool.and_eq_true] at h9
    exact ⟨qk_is_in h9.1, qk_is_in h9.2⟩
  · rw [e] at h9
    simp only [Bool.and_eq_true, decide_eq_true_eq] at h9
    exact ⟨qk_is_in h9.1, h9.2⟩
theorem qk_goodF {F : qs_E} (h : qk_ent F = true) : GoodIn lw_gd (.code (qe_y F) (qe_b F) (qe_ml F) (qe_rt F) :: lw_gd) := by
  intro w hw
  rcases List.mem_cons.mp hw with rfl | hw
  · exact lw_gd_good _ (qk_ent_of h).2.2.2.1
  · exact lw_gd_good w hw
section QPC
variable {p : Program} {l : Launch} {e : Env} {R : Room} {s : State} {mid : MethodId} {args : Array Value} {below : List Frame} {meth : Method} {c : Code} {Q : State → Prop} {X : qw_X} {E : qs_E} {nL n0 z0 : Nat}
variable {pc : Nat} {L : qs_L} {st : List Value} {m : qs_M}
theorem qp_A (C : qp_C p R s mid args meth c X E nL n0) : ∀ q, s.heap.size ≤ q → qw_A X q := fun q h => by
  have := C.2.2.2.2.2.2.2.2.1
  show qx_b X ≤ q
  omega
theorem qp_new (C : qp_C p R s mid args meth c X E nL n0) {n a : Nat} {q : vw_C} (hq : vwCl[a]? = some q) (hw : Jvm.Cond.classLink (qe_own E) n q.1 ∈ lw_gd) (hd : decode (qe_b E) pc = .ok (.new n, 3)) (h : qp_K p l e R s mid args below meth c Q X nL n0 z0 (pc + 3) L (.ref (16 + qs_n m) :: st) (qs_nw m a (qs_nf a))) : qp_At p l e R s mid args below meth c Q X nL n0 z0 pc L st m := by
  intro H locs cells slots ls hP hM hS hl hc hz
  obtain ⟨ha, hN, hin, hty, hnm, hins, hini, hdf⟩ := qk_cls hq
  have hk := h.1
  rw [qs_nw_n, qs_nw_z] at hk
  refine va_new (c0 := c) (own := qe_own E) (C := q.1) (T := q.2.1) (N := q.2.2) (ci := a) (ws := qw_ws X m) (fs := (List.range (qs_nf a)).map (fun j => if qs_dl a j = 0 then .int 0 else .null)) C.1 C.2.1 C.2.2.2.2.1 hin (qt_ty a) hty C.2.2.2.1 (C.2.2.2.2.1 _ hw) (C.2.2.2.2.1 _ hins) (C.2.2.2.2.1 _ hini) C.2.2.2.2.2.1 hP qw_D hS (qp_A C) hq ?_ (by omega) (by omega) hd (fun q1 H1 hP1 hD1 hS1 => qp_size (fun hz1 => ?_))
  · intro j hj
    rw [hdf j hj]
    unfold vp_V
    rw [List.getD_eq_getElem?_getD, List.getElem?_map, List.getElem?_range (by omega)]
    rfl
  · have hb := C.2.2.2.2.2.2.2.2.1
    have e1 := qw_fresh hP1 hD1 (by omega)
    subst e1
    rw [qw_push (X := X) (m' := qs_nw m a (qs_nf a)) (qs_nw_n _ _ _) ?_ (fun k h1 h2 => qw_nw_old m a _ k h2)] at hP1
    · have h1 := h.2 H1 locs (cells + 1) (slots + q.2.2) ls hP1 (hM.nw (Or.inl ha)) hS1 hl (by rw [qs_nw_n]; omega) (by rw [qs_nw_z]; omega)
      rw [List.map_cons, qw_vr (by omega), show 16 + qs_n m - 16 = qs_n m by omega] at h1
      exact h1
    · rw [qw_cell_o (a := a) (by rw [qs_nw_kd, if_pos rfl]) ha]
      congr 3
      funext j
      rcases qs_dl_01 a j with e | e
      · rw [qw_sv_0 (by rw [qs_nw_lk, if_pos rfl, e]), if_pos e, qs_nw_i, if_pos rfl]
      · unfold qw_sv
        rw [qs_nw_lk, if_pos rfl, e]
        rfl
theorem qp_newa (C : qp_C p R s mid args meth c X E nL n0) {t : ArrayType} {a : Nat} {x : Int32} (ha : (t = .int ∧ a = 20) ∨ (t = .boolean ∧ a = 21) ∨ (t = .char ∧ a = 22) ∨ (t = .long ∧ a = 23)) (hx : 0 ≤ x ∧ x.toNatClampNeg ≤ 100000) (hd : decode (qe_b E) pc = .ok (.newarray t, 2)) (h : qp_K p l e R s mid args below meth c Q X nL n0 z0 (pc + 2) L (.ref (16 + qs_n m) :: st) (qs_nw m a x.toNatClampNeg)) : qp_At p l e R s mid args below meth c Q X nL n0 z0 pc L (.int x :: st) m := by
  intro H locs cells slots ls hP hM hS hl hc hz
  have hk := h.1
  rw [qs_nw_n, qs_nw_z] at hk
  have hb := C.2.2.2.2.2.2.2.2.1
  have hx0 : ¬ x < 0 := Int32.not_lt.mpr hx.1
  have fin : ∀ (cA : ClassId) (a0 : vp_A) (q1 : Nat) (H1 : Heap), qw_okk a → va_P (qx_D X) vwCl (qw_ws X m ++ [(q1, .inl (cA, a0))]) H1 → va_D (qw_A X) (qw_ws X m ++ [(q1, .inl (cA, a0))]) → va_S (qw_A X) s.heap H1 locs → qw_cell X (qs_nw m a x.toNatClampNeg) (16 + qs_n m) = .inl (cA, a0) → W p l e R s mid args below meth c H1 locs (cells + 1) (slots + x.toNatClampNeg) Q (F0 mid (pc + 2) ls (.ref q1 :: st.map (qw_v X))) := by
    intro cA a0 q1 H1 hok hP1 hD1 hS1 he
    refine qp_size (fun hz1 => ?_)
    have e1 := qw_fresh hP1 hD1 (by omega)
    subst e1
    rw [qw_push (X := X) (m' := qs_nw m a x.toNatClampNeg) (qs_nw_n _ _ _) he (fun k h1 h2 => qw_nw_old m a _ k h2)] at hP1
    have h1 := h.2 H1 locs (cells + 1) (slots + x.toNatClampNeg) ls hP1 (hM.nw hok) hS1 hl (by rw [qs_nw_n]; omega) (by rw [qs_nw_z]; omega)
    rw [List.map_cons, qw_vr (by omega), show 16 + qs_n m - 16 = qs_n m by omega] at h1
    exact h1
  have zi : qs_i (qs_nw m a x.toNatClampNeg) (16 + qs_n m) = fun _ => 0 := by funext j; rw [qs_nw_i, if_pos rfl]
  have zl : qs_l (qs_nw m a x.toNatClampNeg) (16 + qs_n m) = fun _ => 0 := by funext j; rw [qs_nw_l, if_pos rfl]
  have zs : qs_sz (qs_nw m a x.toNatClampNeg) (16 + qs_n m) = x.toNatClampNeg := by rw [qs_nw_sz, if_pos rfl]
  have zk : qs_kd (qs_nw m a x.toNatClampNeg) (16 + qs_n m) = a := by rw [qs_nw_kd, if_pos rfl]
  rcases ha with ⟨rfl, rfl⟩ | ⟨rfl, rfl⟩ | ⟨rfl, rfl⟩ | ⟨rfl, rfl⟩
  · refine va_newa (atype := .int) (ty := .int) (a0 := (x.toNatClampNeg, .inl (fun _ => 0))) C.1 C.2.1 (C.2.2.2.2.1 _ qk_ac_int) rfl C.2.2.2.2.2.1 hP qw_D hS (qp_A C) (fun _ => rfl) hx0 rfl (by simp only [componentBytes]; omega) (by omega) (by omega) hd (fun q1 cA H1 hK1 hP1 hD1 hS1 => ?_)
    have e2 : cA = qx_c X 20 := Option.some.inj ((show s.vm.findClass _ = some cA from (hK1.2 8 (cA, .int) rfl).2).symm.trans (show s.vm.findClass _ = some (qx_c X 20) from (C.2.2.2.2.2.1.2 0 (qx_c X 20, .int) rfl).2))
    subst e2
    exact fin _ _ q1 H1 (by unfold qw_okk; omega) hP1 hD1 hS1 (by rw [qw_cell_i zk (Or.inl rfl), zi, zs])
  · refine va_newa (atype := .boolean) (ty := .boolean) (a0 := (x.toNatClampNeg, .inl (fun _ => 0))) C.1 C.2.1 (C.2.2.2.2.1 _ qk_ac_boolean) rfl C.2.2.2.2.2.1 hP qw_D hS (qp_A C) (fun _ => rfl) hx0 rfl (by simp only [componentBytes]; omega) (by omega) (by omega) hd (fun q1 cA H1 hK1 hP1 hD1 hS1 => ?_)
    have e2 : cA = qx_c X 21 := Option.some.inj ((show s.vm.findClass _ = some cA from (hK1.2 8 (cA, .boolean) rfl).2).symm.trans (show s.vm.findClass _ = some (qx_c X 21) from (C.2.2.2.2.2.1.2 1 (qx_c X 21, .boolean) rfl).2))
    subst e2
    exact fin _ _ q1 H1 (by unfold qw_okk; omega) hP1 hD1 hS1 (by rw [qw_cell_i zk (Or.inr (Or.inl rfl)), zi, zs])
  · refine va_newa (atype := .char) (ty := .char) (a0 := (x.toNatClampNeg, .inl (fun _ => 0))) C.1 C.2.1 (C.2.2.2.2.1 _ qk_ac_char) rfl C.2.2.2.2.2.1 hP qw_D hS (qp_A C) (fun _ => rfl) hx0 rfl (by simp only [componentBytes]; omega) (by omega) (by omega) hd (fun q1 cA H1 hK1 hP1 hD1 hS1 => ?_)
    have e2 : cA = qx_c X 22 := Option.some.inj ((show s.vm.findClass _ = some cA from (hK1.2 8 (cA, .char) rfl).2).symm.trans (show s.vm.findClass _ = some (qx_c X 22) from (C.2.2.2.2.2.1.2 2 (qx_c X 22, .char) rfl).2))
    subst e2
    exact fin _ _ q1 H1 (by unfold qw_okk; omega) hP1 hD1 hS1 (by rw [qw_cell_i zk (Or.inr (Or.inr rfl)), zi, zs])
  · refine va_newa (atype := .long) (ty := .long) (a0 := (x.toNatClampNeg, .inr (.inl (fun _ => 0)))) C.1 C.2.1 (C.2.2.2.2.1 _ qk_ac_long) rfl C.2.2.2.2.2.1 hP qw_D hS (qp_A C) (fun _ => rfl) hx0 rfl (by simp only [componentBytes]; omega) (by omega) (by omega) hd (fun q1 cA H1 hK1 hP1 hD1 hS1 => ?_)
    have e2 : cA = qx_c X 23 := Option.some.inj ((show s.vm.findClass _ = some cA from (hK1.2 8 (cA, .long) rfl).2).symm.trans (show s.vm.findClass _ = some (qx_c X 23) from (C.2.2.2.2.2.1.2 3 (qx_c X 23, .long) rfl).2))
    subst e2
    exact fin _ _ q1 H1 (by unfold qw_okk; omega) hP1 hD1 hS1 (by rw [qw_cell_l zk, zl, zs])
theorem qp_newq (C : qp_C p R s mid args meth c X E nL n0) {n a : Nat} {q : vw_C} {x : Int32} (hq : vwCl[a - 30]? = some q) (ha : a = 30 ∨ a = 34 ∨ a = 35 ∨ a = 36) (hw : Jvm.Cond.classLink (qe_own E) n q.1 ∈ lw_gd) (hx : 0 ≤ x ∧ x.toNatClampNeg ≤ 100000) (hd : decode (qe_b E) pc = .ok (.anewarray n, 3)) (h : qp_K p l e R s mid args below meth c Q X nL n0 z0 (pc + 3) L (.ref (16 + qs_n m) :: st) (qs_nw m a x.toNatClampNeg)) : qp_At p l e R s mid args below meth c Q X nL n0 z0 pc L (.int x :: st) m := by
  intro H locs cells slots ls hP hM hS hl hc hz
  have hk := h.1
  rw [qs_nw_n, qs_nw_z] at hk
  have hb := C.2.2.2.2.2.2.2.2.1
  have hx0 : ¬ x < 0 := Int32.not_lt.mpr hx.1
  obtain ⟨t, q', ht, hq', hao⟩ := qw_tyq (X := X) ha
  obtain rfl : q = q' := Option.some.inj (hq.symm.trans hq')
  refine va_newq (own := qe_own E) (C := q.1) C.1 C.2.1 C.2.2.2.1 (C.2.2.2.2.1 _ hw) (hao C.2.2.2.2.2.2.1) C.2.2.2.2.2.1 hP qw_D hS (qp_A C) hx0 rfl (by omega) (by omega) (by omega) hd (fun q1 cA H1 hK1 hP1 hD1 hS1 => qp_size (fun hz1 => ?_))
  have e2 : cA = qx_c X a := by
    obtain ⟨-, -, -, -, -, g1⟩ := (hK1.2 8 (cA, .object q.1) rfl).2
    obtain ⟨-, -, -, -, -, g2⟩ := (C.2.2.2.2.2.1.2 t _ ht).2
    exact Option.some.inj (g1.symm.trans g2)
  subst e2
  have e1 := qw_fresh hP1 hD1 (by omega)
  subst e1
  rw [qw_push (X := X) (m' := qs_nw m a x.toNatClampNeg) (qs_nw_n _ _ _) ?_ (fun k h1 h2 => qw_nw_old m a _ k h2)] at hP1
  · have h1 := h.2 H1 locs (cells + 1) (slots + x.toNatClampNeg) ls hP1 (hM.nw (by unfold qw_okk; omega)) hS1 hl (by rw [qs_nw_n]; omega) (by rw [qs_nw_z]; omega)
    rw [List.map_cons, qw_vr (by omega), show 16 + qs_n m - 16 = qs_n m by omega] at h1
    exact h1
  · rw [qw_cell_q (a := a) (by rw [qs_nw_kd, if_pos rfl]) (by omega), qs_nw_sz, if_pos rfl]
    congr 7
    funext j
    rw [qs_nw_lk, if_pos rfl]
    have : qs_dl a j = 1 := by rcases ha with rfl | rfl | rfl | rfl <;> rfl
    rw [this]
    rfl
theorem qp_copy (C : qp_C p R s mid args meth c X E nL n0) {n0' : Nat} {r1 r2 : Nat} {sp dp n : Int32} (hk : qs_kd m r1 = 20 ∧ qs_kd m r2 = 20) (hx : 0 ≤ sp ∧ 0 ≤ dp ∧ 0 ≤ n) (hz0 : sp.toNatClampNeg + n.toNatClampNeg ≤ qs_sz m r1 ∧ dp.toNatClampNeg + n.toNatClampNeg ≤ qs_sz m r2) (hs : qs_sum st ≤ 8) (hw : Jvm.Cond.methodLink (qe_own E) n0' arraycopyName ∈ lw_gd) (hd : decode (qe_b E) pc = .ok (.invokestatic n0', 3)) (h : qp_K p l e R s mid args below meth c Q X nL n0 z0 (pc + 3) L st (qs_cp m r1 r2 sp.toNatClampNeg dp.toNatClampNeg n.toNatClampNeg)) : qp_At p l e R s mid args below meth c Q X nL n0 z0 pc L (.int n :: .int dp :: .ref r2 :: .int sp :: .ref r1 :: st) m := by
  intro H locs cells slots ls hP hM hS hl hc hz
  have hi := hM.in (k := r1) (Or.inl (by omega))
  have hj := hM.in (k := r2) (Or.inl (by omega))
  have hf := C.2.2.2.2.2.2.2.1.cat
  rw [List.map_cons, List.map_cons, List.map_cons, List.map_cons, List.map_cons, qw_vr hi.1, qw_vr hj.1]
  refine va_copyi (own := qe_own E) (ws := qw_ws X m) (ty := .int) C.1 C.2.1 (C.2.2.1.trans hl.1.symm) C.2.2.2.1 (C.2.2.2.2.1 _ hw) (C.2.2.2.2.1 _ qk_cp1) (C.2.2.2.2.1 _ qk_cp2) (C.2.2.2.2.1 _ qk_cp3) C.2.2.2.2.2.1 hP qw_D hS (r1 - 16) (r2 - 16) 0 0 (by rw [qw_at hi, qw_cell_i hk.1 (Or.inl rfl)]) (by rw [qw_at hj, qw_cell_i hk.2 (Or.inl rfl)]) rfl rfl rfl (Int32.not_lt.mpr hx.1) (Int32.not_lt.mpr hx.2.1) (Int32.not_lt.mpr hx.2.2) hz0.1 hz0.2 (fun _ _ => rfl) C.2.2.2.2.2.2.2.2.2.1 ?_ hd (fun H1 locs1 hP1 hD1 hS1 => ?_)
  · rw [qw_sum hf]
    have h1 := C.2.2.2.2.2.2.2.2.2.2.1
    have h2 : nativeFrameWords "java/lang/System" "arraycopy" 5 = 7 := by decide
    omega
  · have e1 : va_cpy (qs_i m r1) (qs_i m r2) sp.toNatClampNeg dp.toNatClampNeg n.toNatClampNeg = qs_i (qs_cp m r1 r2 sp.toNatClampNeg dp.toNatClampNeg n.toNatClampNeg) r2 := by
      funext j
      show _ = if r2 = r2 ∧ dp.toNatClampNeg ≤ j ∧ j < dp.toNatClampNeg + n.toNatClampNeg then _ else _
      unfold va_cpy
      by_cases e : dp.toNatClampNeg ≤ j ∧ j < dp.toNatClampNeg + n.toNatClampNeg
      · rw [if_pos e, if_pos ⟨rfl, e⟩]; rfl
      · rw [if_neg e, if_neg (fun z => e z.2)]; rfl
    rw [e1, qw_set (X := X) (m' := qs_cp m r1 r2 sp.toNatClampNeg dp.toNatClampNeg n.toNatClampNeg) (e := .inl (qx_c X 20, qs_sz m r2, .inl (qs_i (qs_cp m r1 r2 sp.toNatClampNeg dp.toNatClampNeg n.toNatClampNeg) r2))) hj rfl (qw_cell_i hk.2 (Or.inl rfl)) (fun z hz1 hz2 => qw_cell_cg rfl rfl rfl (by funext j; exact if_neg (fun y => hz2 y.1)) rfl)] at hP1
    exact h.2 H1 locs1 cells slots ls hP1 (hM.cp hj.1) hS1 hl hc hz
theorem qp_max (C : qp_C p R s mid args meth c X E nL n0) {n : Nat} {x y : Int32} (hs : qs_sum st ≤ 8) (hw : Jvm.Cond.methodLink (qe_own E) n Lib.Math.max.name ∈ lw_gd) (hd : decode (qe_b E) pc = .ok (.invokestatic n, 3)) (h : qp_K p l e R s mid args below meth c Q X nL n0 z0 (pc + 3) L (.int (qs_max x y) :: st) m) : qp_At p l e R s mid args below meth c Q X nL n0 z0 pc L (.int y :: .int x :: st) m := by
  intro H locs cells slots ls hP hM hS hl hc hz
  have h1 := C.2.2.2.2.2.2.2.2.2.2.1
  have h2 := h.1
  exact va_mmax (own := qe_own E) (rest := st.map (qw_v X)) C.1 C.2.1 (C.2.2.1.trans hl.1.symm) C.2.2.2.1 (C.2.2.2.2.1 _ hw) (C.2.2.2.2.1 _ qk_mmax1) (C.2.2.2.2.1 _ qk_mi) (C.2.2.2.2.1 _ qk_mmax2) C.2.2.2.2.2.2.2.2.2.1 (by rw [qw_sum C.2.2.2.2.2.2.2.1.cat]; omega) (by omega) (by omega) hd (h.2 H locs cells slots ls hP hM hS hl hc hz)
theorem qp_min (C : qp_C p R s mid args meth c X E nL n0) {n : Nat} {x y : Int32} (hs : qs_sum st ≤ 8) (hw : Jvm.Cond.methodLink (qe_own E) n Lib.Math.min.name ∈ lw_gd) (hd : decode (qe_b E) pc = .ok (.invokestatic n, 3)) (h : qp_K p l e R s mid args below meth c Q X nL n0 z0 (pc + 3) L (.int (qs_min x y) :: st) m) : qp_At p l e R s mid args below meth c Q X nL n0 z0 pc L (.int y :: .int x :: st) m := by
  intro H locs cells slots ls hP hM hS hl hc hz
  have h1 := C.2.2.2.2.2.2.2.2.2.2.1
  have h2 := h.1
  exact va_mmin (own := qe_own E) (rest := st.map (qw_v X)) C.1 C.2.1 (C.2.2.1.trans hl.1.symm) C.2.2.2.1 (C.2.2.2.2.1 _ hw) (C.2.2.2.2.1 _ qk_mmin1) (C.2.2.2.2.1 _ qk_mi) (C.2.2.2.2.1 _ qk_mmin2) C.2.2.2.2.2.2.2.2.2.1 (by rw [qw_sum C.2.2.2.2.2.2.2.1.cat]; omega) (by omega) (by omega) hd (h.2 H locs cells slots ls hP hM hS hl hc hz)
theorem qp_abs (C : qp_C p R s mid args meth c X E nL n0) {n : Nat} {x : Int32} (hs : qs_sum st ≤ 8) (hw : Jvm.Cond.methodLink (qe_own E) n Lib.Math.abs.name ∈ lw_gd) (hd : decode (qe_b E) pc = .ok (.invokestatic n, 3)) (h : qp_K p l e R s mid args below meth c Q X nL n0 z0 (pc + 3) L (.int (qs_abs x) :: st) m) : qp_At p l e R s mid args below meth c Q X nL n0 z0 pc L (.int x :: st) m := by
  intro H locs cells slots ls hP hM hS hl hc hz
  have h1 := C.2.2.2.2.2.2.2.2.2.2.1
  have h2 := h.1
  exact va_mabs (own := qe_own E) (rest := st.map (qw_v X)) C.1 C.2.1 (C.2.2.1.trans hl.1.symm) C.2.2.2.1 (C.2.2.2.2.1 _ hw) (C.2.2.2.2.1 _ qk_mabs1) (C.2.2.2.2.1 _ qk_mi) (C.2.2.2.2.1 _ qk_mabs2) C.2.2.2.2.2.2.2.2.2.1 (by rw [qw_sum C.2.2.2.2.2.2.2.1.cat]; omega) (by omega) (by omega) hd (h.2 H locs cells slots ls hP hM hS hl hc hz)
theorem qp_objI (C : qp_C p R s mid args meth c X E nL n0) {n r : Nat} (hs : qs_sum st ≤ 8) (hr : 16 ≤ r) (hw : Jvm.Cond.methodLink (qe_own E) n Lib.objectInit ∈ lw_gd) (hd : decode (qe_b E) pc = .ok (.invokespecial n, 3)) (h : qp_K p l e R s mid args below meth c Q X nL n0 z0 (pc + 3) L st m) : qp_At p l e R s mid args below meth c Q X nL n0 z0 pc L (.ref r :: st) m := by
  intro H locs cells slots ls hP hM hS hl hc hz
  have h1 := C.2.2.2.2.2.2.2.2.2.2.1
  rw [List.map_cons, qw_vr hr]
  exact W.objInit (own := qe_own E) (rest := st.map (qw_v X)) C.1 C.2.1 C.2.2.2.1 (C.2.2.2.2.1 _ hw) (C.2.2.2.2.1 _ qk_oi1) (C.2.2.2.2.1 _ qk_oi2) rfl (hl.1.trans C.2.2.1.symm) rfl hd C.2.2.2.2.2.2.2.2.2.1 (by show 2 * 0 + _ + 12 ≤ _; rw [qw_sum C.2.2.2.2.2.2.2.1.cat]; omega) (h.2 H locs cells slots ls hP hM hS hl hc hz)
theorem qp_tsw {a : Nat} {x : Int32} {KK : Nat → Prop} : ∀ (sw : List (Int32 × Nat)) (offs : List Int) (lo : Int), qk_tsw pc lo sw offs = true → qs_sw x sw a KK → ((x.toInt < lo ∨ lo + (offs.length : Int) ≤ x.toInt) ∧ KK a) ∨ ∃ (j : Nat) (o : Int) (t : Nat), offs[j]? = some o ∧ x.toInt = lo + (j : Int) ∧ (pc : Int) + o = (t : Int) ∧ KK t
  | [], [], lo, _, h => Or.inl ⟨by simp; omega, h⟩
  | (v, t) :: sw, o :: offs, lo, hk, h => by
    simp only [qk_tsw, Bool.and_eq_true, decide_eq_true_eq] at hk
    unfold qs_sw at h
    by_cases e : x = v
    · rw [if_pos e] at h
      exact Or.inr ⟨0, o, t, rfl, by rw [e, hk.1.1]; simp, hk.1.2, h⟩
    · rw [if_neg e] at h
      rcases qp_tsw sw offs (lo + 1) hk.2 h with ⟨h1, h2⟩ | ⟨j, o', t', h1, h2, h3, h4⟩
      · refine Or.inl ⟨?_, h2⟩
        have : x.toInt ≠ lo := fun q => e (Int32.toInt_inj.mp (by rw [q, hk.1.1]))
        simp only [List.length_cons]
        omega
      · exact Or.inr ⟨j + 1, o', t', by simpa using h1, by rw [h2]; omega, h3, h4⟩
  | [], _ :: _, _, hk, _ => by cases hk
  | (_, _) :: _, [], _, hk, _ => by cases hk
theorem qp_table (C : qp_C p R s mid args meth c X E nL n0) {d lo hi : Int} {offs : Array Int} {a len : Nat} {x : Int32} {sw : List (Int32 × Nat)} (ht : (pc : Int) + d = (a : Int)) (hh : hi = lo + (offs.toList.length : Int) - 1) (hk : qk_tsw pc lo sw offs.toList = true) (hd : decode (qe_b E) pc = .ok (.tableswitch d lo hi offs, len)) (h : qs_sw x sw a (fun t => qp_K p l e R s mid args below meth c Q X nL n0 z0 t L st m)) : qp_At p l e R s mid args below meth c Q X nL n0 z0 pc L (.int x :: st) m := by
  intro H locs cells slots ls hP hM hS hl hc hz
  rcases qp_tsw sw offs.toList lo hk h with ⟨h1, h2⟩ | ⟨j, o, t, h1, h2, h3, h4⟩
  · exact lv_tableOut (rest := st.map (qw_v X)) C.1 C.2.1 hd (by omega) ht (h2.2 H locs cells slots ls hP hM hS hl hc hz)
  · have hj := (List.getElem?_eq_some_iff.mp h1).1
    refine lv_tableIn (rest := st.map (qw_v X)) (off := o) C.1 C.2.1 hd (by omega) (by omega) ?_ h3 (h4.2 H locs cells slots ls hP hM hS hl hc hz)
    rw [h2, show (lo + (j : Int) - lo).toNat = j by omega, ← Array.getElem?_toList]
    exact h1
theorem qp_lsw {a : Nat} {x : Int32} {d : Int} (hd : (pc : Int) + d = (a : Int)) {KK : Nat → Prop} : ∀ (sw : List (Int32 × Nat)) (ps : List (Int × Int)), qk_lsw pc sw ps = true → qs_sw x sw a KK → ∃ t : Nat, (pc : Int) + Op.lookupswitch.offset ps d x.toInt = (t : Int) ∧ KK t
  | [], [], _, h => ⟨a, hd, h⟩
  | (v, t) :: sw, (y, o) :: ps, hk, h => by
    simp only [qk_lsw, Bool.and_eq_true, decide_eq_true_eq] at hk
    unfold qs_sw at h
    rw [Op.lookupswitch.offset_cons]
    by_cases e : x = v
    · rw [if_pos e] at h
      rw [if_pos (by rw [e, hk.1.1])]
      exact ⟨t, hk.1.2, h⟩
    · rw [if_neg e] at h
      rw [if_neg (fun q => e (Int32.toInt_inj.mp (by rw [hk.1.1]; exact q.symm)))]
      exact qp_lsw hd sw ps hk.2 h
  | [], _ :: _, hk, _ => by cases hk
  | (_, _) :: _, [], hk, _ => by cases hk
theorem qp_lookup (C : qp_C p R s mid args meth c X E nL n0) {d : Int} {ps : Array (Int × Int)} {a len : Nat} {x : Int32} {sw : List (Int32 × Nat)} (ht : (pc : Int) + d = (a : Int)) (hp : (ps.toList.zip (ps.toList.drop 1)).all (fun (a, next) => a.1 < next.1) = true) (hk : qk_lsw pc sw ps.toList = true) (hd : decode (qe_b E) pc = .ok (.lookupswitch d ps, len)) (h : qs_sw x sw a (fun t => qp_K p l e R s mid args below meth c Q X nL n0 z0 t L st m)) : qp_At p l e R s mid args below meth c Q X nL n0 z0 pc L (.int x :: st) m := by
  intro H locs cells slots ls hP hM hS hl hc hz
  obtain ⟨t, h1, h2⟩ := qp_lsw ht sw ps.toList hk h
  exact lv_lookup (rest := st.map (qw_v X)) C.1 C.2.1 hd hp rfl h1 (h2.2 H locs cells slots ls hP hM hS hl hc hz)
/-- behind a call -/
theorem qp_after {v : Option Value} {m2 : qs_M} {a : Array Value} {mc ms : Nat} {H : Heap} {locs : List Loc} {cells slots : Nat} {ls : Array Slot} {st0 rest : List Value} (hr : va_Run p l e R s mid args below meth c H locs cells slots mc ms (F0 mid pc ls st0) rest (qc_Q X v m2 a) (qw_A X)) (hS : va_S (qw_A X) s.heap H locs) (kk : ∀ (H1 : Heap) (locs1 : List Loc), va_P (qx_D X) vwCl (qw_ws X m2) H1 → qw_M X m2 → va_S (qw_A X) s.heap H1 locs1 → W p l e R s mid args below meth c H1 locs1 (cells + mc) (slots + ms) Q (F0 mid (pc + 3) ls ((v.map (qw_v X)).toList ++ rest))) : W p l e R s mid args below meth c H locs cells slots Q (F0 mid pc ls st0) := by
  intro T hT XX
  obtain ⟨w, st₀, t, T', L, h0, X1, hL, e1, e2, ⟨hv, hp, hM2, hz, hk⟩, hst⟩ := hr T hT XX
  cases hv
  rw [h0] at hz hk
  obtain ⟨t2, a1, b1⟩ := kk T'.heap (locs ++ L) (by rw [e1]; exact hp) hM2 ⟨Nat.le_trans hS.1 (by rw [e1]; exact hz), fun q h1 h2 => by rw [e1, hk q (Nat.lt_of_lt_of_le h1 hS.1) h2]; exact hS.2.1 q h1 h2, fun q hq => by
    rcases List.mem_append.mp hq with h | h
    · exact hS.2.2 q h
    · exact hL q h⟩ T' rfl X1
  exact ⟨t2, hst t2 a1, b1⟩
theorem qp_at (C : qp_C p R s mid args meth c X E nL n0) {H : Heap} {locs : List Loc} {cells : Nat} (hP : va_P (qx_D X) vwCl (qw_ws X m) H) (hM : qw_M X m) (hS : va_S (qw_A X) s.heap H locs) (hc : cells + n0 = qs_n m) (hsz : H.size ≤ s.heap.size + cells) : ∀ U : State, U.heap = H → s.WarmedH U.vm → qw_At X m U := by
  intro U hU hW
  have hb := C.2.2.2.2.2.2.2.2.1
  have h1 := qw_lo (X := X) (m := m) hP (by have := hS.1; omega)
  refine ⟨by rw [hU]; omega, by rw [hU]; exact hP, va_K.moved hW.alike C.2.2.2.2.2.1, ?_, hM, C.2.2.2.2.2.2.2.1⟩
  rw [hU]
  exact (C.2.2.2.2.2.2.1.kept hS.2.1).warm hW
/-- what a call gives to its caller -/
theorem qp_go (C : qp_C p R s mid args meth c X E nL n0) {F : qs_E} {v : Option Value} {m2 : qs_M} {rest : List Value} {H : Heap} {locs : List Loc} {cells slots : Nat} {ls : Array Slot} {st0 : List Value} {a : Array Value} (hmono : qs_n m ≤ qs_n m2 ∧ qs_z m ≤ qs_z m2) (hS : va_S (qw_A X) s.heap H locs) (hl : qw_L X ls nL L) (hc : cells + n0 = qs_n m) (hz : slots + z0 = qs_z m) (h : qp_K p l e R s mid args below meth c Q X nL n0 z0 (pc + 3) L (v.toList ++ rest) m2) (hr : va_Run p l e R s mid args below meth c H locs cells slots (qs_n m2 - qs_n m) (qs_z m2 - qs_z m) (F0 mid pc ls st0) (rest.map (qw_v X)) (qc_Q X v m2 a) (qw_A X)) : W p l e R s mid args below meth c H locs cells slots Q (F0 mid pc ls st0) := by
  refine qp_after hr hS (fun H1 locs1 hP1 hM2 hS1 => ?_)
  have h1 := h.2 H1 locs1 (cells + (qs_n m2 - qs_n m)) (slots + (qs_z m2 - qs_z m)) ls hP1 hM2 hS1 hl (by omega) (by omega)
  rw [List.map_append, show v.toList.map (qw_v X) = (v.map (qw_v X)).toList by cases v <;> rfl] at h1
  exact h1
theorem qp_callS (C : qp_C p R s mid args meth c X E nL n0) {n d : Nat} {F : qs_E} {as rest : List Value} {v : Option Value} {m2 : qs_M} (hR : d + 2 ≤ R.frames ∧ 64 * (d + 2) ≤ R.locals) (hF : qk_ent F = true) (hkd : qe_kd F = 0) (hlen : as.length = qe_na F) (hsum : qs_sum rest ≤ 8) (hlk : Jvm.Cond.methodLink (qe_own E) n (qe_y F) ∈ lw_gd ∨ (qe_own E, n, qe_y F) ∈ qk_nests) (hst : st = as.reverse ++ rest) (hd : decode (qe_b E) pc = .ok (.invokestatic n, 3)) (hmono : qs_n m ≤ qs_n m2 ∧ qs_z m ≤ qs_z m2) (hMet : qc_Met X l d F as m v m2) (h : qp_K p l e R s mid args below meth c Q X nL n0 z0 (pc + 3) L (v.toList ++ rest) m2) : qp_At p l e R s mid args below meth c Q X nL n0 z0 pc L st m := by
  intro H locs cells slots ls hP hM hS hl hc hz
  obtain ⟨f1, f2, f3, f4, f5, f6, f7, f8, f9, f10, -, -⟩ := qk_ent_of hF
  have hk := h.1
  have hf := C.2.2.2.2.2.2.2.1.cat
  refine qp_size (fun hsz => ?_)
  have hAt := qp_at C hP hM hS hc hsz
  have hst' : (F0 mid pc ls (st.map (qw_v X))).stack = (as.map (qw_v X)).reverse ++ rest.map (qw_v X) := by
    show st.map (qw_v X) = _
    rw [hst, List.map_append, List.map_reverse]
  have hRR : (d + 1) + 1 ≤ R.frames ∧ 8 + (qe_ml F + 11) + 64 * (d + 1) ≤ R.locals := by omega
  have hW : 2 * (F0 mid pc ls (st.map (qw_v X))).monitorRoom + ((rest.map (qw_v X)).map fun v => v.category).sum ≤ 8 := lv_room (by rw [qw_sum hf]; exact hsum)
  rcases hlk with hlk | hlk
  · exact qp_go C (F := F) hmono hS hl hc hz h (va_runS (As := as.map (qw_v X)) (rest := rest.map (qw_v X)) ⟨C.1, C.2.1, C.2.2.1, C.2.2.2.1, C.2.2.2.2.1⟩ hMet ⟨callB_of (qe_na F) C.2.2.2.2.1 (qk_goodF hF) rfl rfl rfl (C.2.2.2.2.1 _ f9) (C.2.2.2.2.1 _ hlk) ⟨f8.1, f8.2, f3⟩ hRR, C.2.2.2.2.1 _ (f10 hkd)⟩ ⟨qw_At.blind, fun U hU hW => ⟨rfl, hAt U hU hW⟩⟩ rfl (by simp [hlen]) hl.1 hst' hW hd ⟨by omega, by omega⟩)
  · have hn := C.2.2.2.2.2.2.1.2.2.2.2.2.2.1 _ hlk
    exact qp_go C (F := F) hmono hS hl hc hz h (va_runSN (As := as.map (qw_v X)) (rest := rest.map (qw_v X)) (host := "QuarterTurn") ⟨C.1, C.2.1, C.2.2.1, C.2.2.2.1, C.2.2.2.2.1⟩ hMet ⟨va_cnB (qe_na F) C.2.2.2.2.1 (qk_goodF hF) rfl rfl rfl hn (C.2.2.2.2.1 _ f9) ⟨f8.1, f8.2, f3⟩ hRR, C.2.2.2.2.1 _ (f10 hkd), trivial⟩ ⟨qw_At.blind, fun U hU hW => ⟨rfl, hAt U hU hW⟩⟩ rfl (by simp [hlen]) hl.1 hst' hW hd ⟨by omega, by omega⟩)
theorem qp_callV (C : qp_C p R s mid args meth c X E nL n0) {n d r cl : Nat} {F : qs_E} {as rest : List Value} {v : Option Value} {m2 : qs_M} (hR : d + 2 ≤ R.frames ∧ 64 * (d + 2) ≤ R.locals) (hF : qk_ent F = true) (hkd : qe_kd F = 1) (hlen : as.length = qe_na F) (hsum : qs_sum rest ≤ 8) (hlk : Jvm.Cond.methodLink (qe_own E) n (qe_y F) ∈ lw_gd ∨ (qe_own E, n, qe_y F) ∈ qk_nests) (hst : st = as.reverse ++ .ref r :: rest) (hcl : (vwCl[cl]?).map (fun q => q.1) = some (qe_y F).cls ∨ (cl = 90 ∧ (qe_y F).cls = "java/lang/String")) (hr : qs_kd m r = cl) (hd : decode (qe_b E) pc = .ok (.invokevirtual n, 3)) (hmono : qs_n m ≤ qs_n m2 ∧ qs_z m ≤ qs_z m2) (hMet : qc_Met X l d F (.ref r :: as) m v m2) (h : qp_K p l e R s mid args below meth c Q X nL n0 z0 (pc + 3) L (v.toList ++ rest) m2) : qp_At p l e R s mid args below meth c Q X nL n0 z0 pc L st m := by
  intro H locs cells slots ls hP hM hS hl hc hz
  obtain ⟨f1, f2, f3, f4, f5, f6, f7, f8, f9, -, f10, -⟩ := qk_ent_of hF
  have hk := h.1
  have hf := C.2.2.2.2.2.2.2.1.cat
  refine qp_size (fun hsz => ?_)
  have hAt := qp_at C hP hM hS hc hsz
  have hrecv : ∃ b : Nat, qw_v X (.ref r) = .ref b ∧ ∃ cellB : Cell, H[b]? = some cellB ∧ cellB.vm.isStatics = false ∧ s.vm.findClass (qe_y F).cls = some cellB.cls := by
    rcases hcl with hcl | ⟨rfl, hcl⟩
    · cases e9 : vwCl[cl]? with
      | none => rw [e9] at hcl; cases hcl
      | some q =>
        rw [e9] at hcl
        have e8 : q.1 = (qe_y F).cls := Option.some.inj hcl
        have ha := (qk_cls e9).1
        have hi := hM.in (k := r) (Or.inl (by omega))
        rw [← e8]
        exact ⟨_, qw_vr hi.1, va_recv C.2.2.2.2.2.1 hP e9 (q0 := r - 16) (by rw [qw_at hi, qw_cell_o hr ha])⟩
    · obtain ⟨i, hi, rfl⟩ := hM.k90 hr
      obtain ⟨cell, g1, g2, g3, -⟩ := ((C.2.2.2.2.2.2.1.2.2.2.1 i hi).1).kept hS.2.1
      rw [hcl]
      exact ⟨_, qw_ve (by omega), cell, g1, g2, g3⟩
  obtain ⟨b, eb, hrecv⟩ := hrecv
  have hst' : (F0 mid pc ls (st.map (qw_v X))).stack = (as.map (qw_v X)).reverse ++ .ref b :: rest.map (qw_v X) := by
    show st.map (qw_v X) = _
    rw [hst, List.map_append, List.map_reverse, List.map_cons, eb]
  have hMet' : Met l (qe_y F) (.code (qe_y F) (qe_b F) (qe_ml F) (qe_rt F) :: lw_gd) { frames := d + 1, cells := qs_n m2 - qs_n m, slots := qs_z m2 - qs_z m, locals := 64 * (d + 1) } (va_Pc (.ref b :: as.map (qw_v X)) (qw_At X m)) (qc_Q X v m2) (qs_n m2 - qs_n m) (qs_z m2 - qs_z m) (qw_A X) := by
    have := hMet
    unfold qc_Met at this
    rw [List.map_cons, eb] at this
    exact this
  have hRR : (d + 1) + 1 ≤ R.frames ∧ 8 + (qe_ml F + 11) + 64 * (d + 1) ≤ R.locals := by omega
  have hW : 2 * (F0 mid pc ls (st.map (qw_v X))).monitorRoom + ((rest.map (qw_v X)).map fun v => v.category).sum ≤ 8 := lv_room (by rw [qw_sum hf]; exact hsum)
  rcases hlk with hlk | hlk
  · exact qp_go C (F := F) hmono hS hl hc hz h (va_runV (As := as.map (qw_v X)) (rest := rest.map (qw_v X)) ⟨C.1, C.2.1, C.2.2.1, C.2.2.2.1, C.2.2.2.2.1⟩ hMet' ⟨callB_of (qe_na F) C.2.2.2.2.1 (qk_goodF hF) rfl rfl rfl (C.2.2.2.2.1 _ f9) (C.2.2.2.2.1 _ hlk) ⟨f8.1, f8.2, f3⟩ hRR, C.2.2.2.2.1 _ (f10 hkd).1, C.2.2.2.2.1 _ (f10 hkd).2⟩ ⟨qw_At.blind, hrecv, fun U hU hW => ⟨rfl, hAt U hU hW⟩⟩ rfl (by simp [hlen]) hl.1 hst' hW hd ⟨by omega, by omega⟩)
  · have hn := C.2.2.2.2.2.2.1.2.2.2.2.2.2.1 _ hlk
    exact qp_go C (F := F) hmono hS hl hc hz h (va_runVN (As := as.map (qw_v X)) (rest := rest.map (qw_v X)) (host := "QuarterTurn") ⟨C.1, C.2.1, C.2.2.1, C.2.2.2.1, C.2.2.2.2.1⟩ hMet' ⟨va_cnB (qe_na F) C.2.2.2.2.1 (qk_goodF hF) rfl rfl rfl hn (C.2.2.2.2.1 _ f9) ⟨f8.1, f8.2, f3⟩ hRR, C.2.2.2.2.1 _ (f10 hkd).1, C.2.2.2.2.1 _ (f10 hkd).2⟩ ⟨qw_At.blind, hrecv, fun U hU hW => ⟨rfl, hAt U hU hW⟩⟩ rfl (by simp [hlen]) hl.1 hst' hW hd ⟨by omega, by omega⟩)
theorem qp_callI (C : qp_C p R s mid args meth c X E nL n0) {n d r : Nat} {F : qs_E} {as rest : List Value} {v : Option Value} {m2 : qs_M} (hR : d + 2 ≤ R.frames ∧ 64 * (d + 2) ≤ R.locals) (hF : qk_ent F = true) (hkd : qe_kd F = 2) (hrk : qe_rk F = 0) (hlen : as.length = qe_na F) (hsum : qs_sum rest ≤ 8) (hlk : Jvm.Cond.methodLink (qe_own E) n (qe_y F) ∈ lw_gd) (hst : st = as.reverse ++ .ref r :: rest) (hr : 16 ≤ r) (hd : decode (qe_b E) pc = .ok (.invokespecial n, 3)) (hmono : qs_n m ≤ qs_n m2 ∧ qs_z m ≤ qs_z m2) (hMet : qc_Met X l d F (.ref r :: as) m v m2) (h : qp_K p l e R s mid args below meth c Q X nL n0 z0 (pc + 3) L (v.toList ++ rest) m2) : qp_At p l e R s mid args below meth c Q X nL n0 z0 pc L st m := by
  intro H locs cells slots ls hP hM hS hl hc hz
  obtain ⟨f1, f2, f3, f4, f5, f6, f7, f8, f9, -, -, f10⟩ := qk_ent_of hF
  have hk := h.1
  have hf := C.2.2.2.2.2.2.2.1.cat
  refine qp_size (fun hsz => ?_)
  have hAt := qp_at C hP hM hS hc hsz
  have eb := qw_vr (X := X) hr
  have hrt : qe_rt F = none := by
    rw [hrk] at f5
    cases e9 : qe_rt F with
    | none => rfl
    | some t => rw [e9] at f5; cases f5
  have hst' : (F0 mid pc ls (st.map (qw_v X))).stack = (as.map (qw_v X)).reverse ++ .ref (qx_b X + (r - 16)) :: rest.map (qw_v X) := by
    show st.map (qw_v X) = _
    rw [hst, List.map_append, List.map_reverse, List.map_cons, eb]
  have hMet' : Met l (qe_y F) (.code (qe_y F) (qe_b F) (qe_ml F) none :: lw_gd) { frames := d + 1, cells := qs_n m2 - qs_n m, slots := qs_z m2 - qs_z m, locals := 64 * (d + 1) } (va_Pc (.ref (qx_b X + (r - 16)) :: as.map (qw_v X)) (qw_At X m)) (qc_Q X v m2) (qs_n m2 - qs_n m) (qs_z m2 - qs_z m) (qw_A X) := by
    have := hMet
    unfold qc_Met at this
    rw [List.map_cons, eb, hrt] at this
    exact this
  have hRR : (d + 1) + 1 ≤ R.frames ∧ 8 + (qe_ml F + 11) + 64 * (d + 1) ≤ R.locals := by omega
  have hW : 2 * (F0 mid pc ls (st.map (qw_v X))).monitorRoom + ((rest.map (qw_v X)).map fun v => v.category).sum ≤ 8 := lv_room (by rw [qw_sum hf]; exact hsum)
  have hG := qk_goodF hF
  rw [hrt] at hG
  exact qp_go C (F := F) hmono hS hl hc hz h (va_runI (As := as.map (qw_v X)) (rest := rest.map (qw_v X)) ⟨C.1, C.2.1, C.2.2.1, C.2.2.2.1, C.2.2.2.2.1⟩ hMet' ⟨callB_of (qe_na F) C.2.2.2.2.1 hG rfl rfl rfl (C.2.2.2.2.1 _ f9) (C.2.2.2.2.1 _ hlk) ⟨f8.1, f8.2, f3⟩ hRR, (f10 hkd).2, C.2.2.2.2.1 _ (f10 hkd).1⟩ ⟨qw_At.blind, fun U hU hW => ⟨rfl, hAt U hU hW⟩⟩ rfl (by simp [hlen]) hl.1 hst' hW hd ⟨by omega, by omega⟩)
end QPC
end
section
/-! A RUN OF THE SMALL MACHINE IS A RUN OF THE MACHINE -/
/-- the end of a method: with an answer, in a memory -/
def qp_RT (p : Program) (l : Launch) (e : Env) (R : Room) (s : State) (mid : MethodId) (args : Array Value) (below : List Frame) (meth : Method) (c : Code) (Q : State → Prop) (X : qw_X) (E : qs_E) (rk n0 z0 : Nat) (r : qs_R) : Prop :=
  ∀ (H : Heap) (locs : List Loc) (cells slots : Nat) (ls : Array Slot) (pc : Nat), va_P (qx_D X) vwCl (qw_ws X r.2) H → qw_M X r.2 → va_S (qw_A X) s.heap H locs → cells + n0 = qs_n r.2 → slots + z0 = qs_z r.2 →
    (r.1 = none → rk = 0 → decode (qe_b E) pc = .ok (.return_, 1) → W p l e R s mid args below meth c H locs cells slots Q (F0 mid pc ls [])) ∧
    ∀ x : Int32, r.1 = some (.int x) → (rk = 1 ∨ (rk = 2 ∧ (x = 0 ∨ x = 1)) ∨ (rk = 3 ∧ narrow .char (.int x) = .int x) ∨ (rk = 4 ∧ narrow .byte (.int x) = .int x)) → decode (qe_b E) pc = .ok (.ireturn, 1) → W p l e R s mid args below meth c H locs cells slots Q (F0 mid pc ls [.int x])
/-- a call: what it gives, by its contract, and how it goes on -/
def qp_CL (p : Program) (l : Launch) (e : Env) (R : Room) (s : State) (mid : MethodId) (args : Array Value) (below : List Frame) (meth : Method) (c : Code) (Q : State → Prop) (X : qw_X) (nL n0 z0 : Nat) (_ M' : Nat) (as : List Value) (m : qs_M) (pc : Nat) (L : qs_L) (rest : List Value) : Prop :=
  ∃ (d : Nat) (v : Option Value) (m2 : qs_M), (d + 2 ≤ R.frames ∧ 64 * (d + 2) ≤ R.locals) ∧ (qs_n m ≤ qs_n m2 ∧ qs_z m ≤ qs_z m2) ∧ (∀ F, qm_at M' = some F → M' < 224 → qc_Met X l d F as m v m2) ∧ qp_K p l e R s mid args below meth c Q X nL n0 z0 pc L (v.toList ++ rest) m2
section QPD
variable {p : Program} {l : Launch} {e : Env} {R : Room} {s : State} {mid : MethodId} {args : Array Value} {below : List Frame} {meth : Method} {c : Code} {Q : State → Prop} {X : qw_X} {E : qs_E} {nL n0 z0 : Nat}
variable {pc : Nat} {L : qs_L} {st : List Value} {m : qs_M}
/-- which methods are right -/
def qk_All : Prop := ∀ (M : Nat) (F : qs_E), M < 224 → qm_at M = some F → qk_ent F = true
theorem qk_lnk_of {own : String} {i : Nat} {y : MethodName} {pl : List Nat} (h : qk_lnk own i y pl = true) : Jvm.Cond.methodLink own i y ∈ lw_gd ∨ (own, i, y) ∈ qk_nests := by
  unfold qk_lnk at h
  split at h
  · exact Or.inl (qk_is_in h)
  · exact Or.inr (of_decide_eq_true h)
  · cases h
theorem qk_ty_of {c : Nat} {ty : FieldType} (h : qk_ty c ty = true) : (c = 0 → ty = .int) ∧ (c = 2 → ty = .boolean) := by
  unfold qk_ty at h
  split at h <;> first | exact ⟨fun _ => rfl, fun q => absurd q (by decide)⟩ | exact ⟨fun q => absurd q (by decide), fun _ => rfl⟩ | exact ⟨fun q => absurd q (by decide), fun q => absurd q (by decide)⟩ | cases h
set_option maxHeartbeats 8000000 in
theorem qp_step (C : qp_C p R s mid args meth c X E nL n0) (hA : qk_All) {i : Instr} {a b cc : Nat} {v : Int32} {sw : List (Int32 × Nat)} {pl : List Nat} (hr : qk_row E pc (i, a, b, cc, v, sw, pl) = true) (h : qs_stp (qe_rk E) False (qp_RT p l e R s mid args below meth c Q X E (qe_rk E) n0 z0) (qp_CL p l e R s mid args below meth c Q X nL n0 z0) (qp_K p l e R s mid args below meth c Q X nL n0 z0) pc L st m i a b cc v sw) : qp_At p l e R s mid args below meth c Q X nL n0 z0 pc L st m := by
  unfold qk_row at hr
  simp only [Bool.and_eq_true, decide_eq_true_eq] at hr
  obtain ⟨hd, hi⟩ := hr
  unfold qs_stp at h
  unfold qk_ins at hi
  have hml := C.2.2.2.2.2.2.2.2.2.2.2.1
  cases i with
  | iconst n => exact qp_iconst C (of_decide_eq_true hi) hd h
  | bipush n => exact qp_bipush C (of_decide_eq_true hi) hd h
  | sipush n => exact qp_sipush C (of_decide_eq_true hi) hd h
  | lconst n => exact qp_lconst C (of_decide_eq_true hi) hd h
  | ldc n =>
    cases a with
    | zero => exact qp_ldc C (qk_is_in hi) hd h
    | succ a =>
      simp only [Bool.and_eq_true, decide_eq_true_eq] at hi
      obtain ⟨⟨h1, h2⟩, h3⟩ := hi
      obtain ⟨q, rfl⟩ : ∃ q, a = q + 1 := ⟨a - 1, by omega⟩
      rw [show q + 1 + 1 - 2 = q by omega] at h3
      have h' : qp_K p l e R s mid args below meth c Q X nL n0 z0 (pc + 2) L (.ref (2 + q) :: st) m := by
        rw [show 2 + q = q + 1 + 1 by omega]
        exact h
      exact qp_ldcS C (by omega) h2 h3 hd h'
  | ldc_w n => exact qp_ldc_w C (qk_is_in hi) hd h
  | iload_n n =>
    dsimp only at h
    split at h
    · rename_i x hg
      exact qp_iload_n C (of_decide_eq_true hi) hg hd h
    · exact h.elim
  | iload n =>
    dsimp only at h
    split at h
    · rename_i x hg
      exact qp_iload C (of_decide_eq_true hi) hg hd h
    · exact h.elim
  | lload n =>
    dsimp only at h
    split at h
    · rename_i x hg
      exact qp_lload C (of_decide_eq_true hi) hg hd h
    · exact h.elim
  | aload_n n =>
    dsimp only at h
    split at h
    · rename_i x hg
      exact qp_aload_n C (of_decide_eq_true hi) hg hd h
    · exact h.elim
  | aload n =>
    dsimp only at h
    split at h
    · rename_i x hg
      exact qp_aload C (of_decide_eq_true hi) hg hd h
    · exact h.elim
  | istore_n n =>
    simp only [Bool.and_eq_true, decide_eq_true_eq] at hi
    dsimp only at h
    split at h
    · exact qp_istore_n C hi.1 (by omega) hd h
    · exact h.elim
  | istore n =>
    simp only [Bool.and_eq_true, decide_eq_true_eq] at hi
    dsimp only at h
    split at h
    · exact qp_istore C hi.1 (by omega) hd h
    · exact h.elim
  | astore_n n =>
    simp only [Bool.and_eq_true, decide_eq_true_eq] at hi
    dsimp only at h
    split at h
    · exact qp_astore_n C hi.1 (by omega) hd h
    · exact h.elim
  | astore n =>
    simp only [Bool.and_eq_true, decide_eq_true_eq] at hi
    dsimp only at h
    split at h
    · exact qp_astore C hi.1 (by omega) hd h
    · exact h.elim
  | lstore n =>
    simp only [Bool.and_eq_true, decide_eq_true_eq] at hi
    dsimp only at h
    split at h
    · exact qp_lstore C hi.1 (by omega) hd h
    · exact h.elim
  | iinc n k =>
    simp only [Bool.and_eq_true, decide_eq_true_eq] at hi
    dsimp only at h
    split at h
    · rename_i x hg
      exact qp_iinc C hi.1.1 hi.1.2 (by omega) hg hd h
    · exact h.elim
  | iadd =>
    dsimp only at h
    split at h
    · exact qp_iadd C hd h
    · exact h.elim
  | isub =>
    dsimp only at h
    split at h
    · exact qp_isub C hd h
    · exact h.elim
  | imul =>
    dsimp only at h
    split at h
    · exact qp_imul C hd h
    · exact h.elim
  | iand =>
    dsimp only at h
    split at h
    · exact qp_iand C hd h
    · exact h.elim
  | ior =>
    dsimp only at h
    split at h
    · exact qp_ior C hd h
    · exact h.elim
  | ishl =>
    dsimp only at h
    split at h
    · exact qp_ishl C hd h
    · exact h.elim
  | ishr =>
    dsimp only at h
    split at h
    · exact qp_ishr C hd h
    · exact h.elim
  | iushr =>
    dsimp only at h
    split at h
    · exact qp_iushr C hd h
    · exact h.elim
  | ineg =>
    dsimp only at h
    split at h
    · exact qp_ineg C hd h
    · exact h.elim
  | i2c =>
    dsimp only at h
    split at h
    · exact qp_i2c C hd h
    · exact h.elim
  | i2s =>
    dsimp only at h
    split at h
    · exact qp_i2s C hd h
    · exact h.elim
  | i2b =>
    dsimp only at h
    split at h
    · exact qp_i2b C hd h
    · exact h.elim
  | i2l =>
    dsimp only at h
    split at h
    · exact qp_i2l C hd h
    · exact h.elim
  | l2i =>
    dsimp only at h
    split at h
    · exact qp_l2i C hd h
    · exact h.elim
  | ladd =>
    dsimp only at h
    split at h
    · exact qp_ladd C hd h
    · exact h.elim
  | lsub =>
    dsimp only at h
    split at h
    · exact qp_lsub C hd h
    · exact h.elim
  | lneg =>
    dsimp only at h
    split at h
    · exact qp_lneg C hd h
    · exact h.elim
  | lcmp =>
    dsimp only at h
    split at h
    · exact qp_lcmp C hd h
    · exact h.elim
  | idiv =>
    dsimp only at h
    split at h
    · split at h
      · exact h.elim
      · rename_i hy
        exact qp_idiv C hy hd h
    · exact h.elim
  | irem =>
    dsimp only at h
    split at h
    · split at h
      · exact h.elim
      · rename_i hy
        exact qp_irem C hy hd h
    · exact h.elim
  | dup =>
    dsimp only at h
    split at h
    · split at h
      · rename_i hy
        exact qp_dup C hy hd h
      · exact h.elim
    · exact h.elim
  | pop =>
    dsimp only at h
    split at h
    · split at h
      · rename_i hy
        exact qp_pop C hy hd h
      · exact h.elim
    · exact h.elim
  | dup2 =>
    dsimp only at h
    split at h
    · split at h
      · rename_i hy
        exact qp_dup2 C hy hd h
      · exact h.elim
    · exact h.elim
  | ifCond cd o =>
    have ht := of_decide_eq_true hi
    dsimp only at h
    split at h
    · cases cd with
      | eq => exact qp_if_eq C ht hd h
      | ne => exact qp_if_ne C ht hd h
      | lt => exact qp_if_lt C ht hd h
      | ge => exact qp_if_ge C ht hd h
      | gt => exact qp_if_gt C ht hd h
      | le => exact qp_if_le C ht hd h
    · exact h.elim
  | if_icmp cd o =>
    have ht := of_decide_eq_true hi
    dsimp only at h
    split at h
    · cases cd with
      | eq => exact qp_icmp_eq C ht hd h
      | ne => exact qp_icmp_ne C ht hd h
      | lt => exact qp_icmp_lt C ht hd h
      | ge => exact qp_icmp_ge C ht hd h
      | gt => exact qp_icmp_gt C ht hd h
      | le => exact qp_icmp_le C ht hd h
    · exact h.elim
  | goto o => exact qp_goto C (of_decide_eq_true hi) hd h
  | tableswitch d lo hi2 offs =>
    simp only [Bool.and_eq_true, decide_eq_true_eq] at hi
    dsimp only at h
    split at h
    · exact qp_table C hi.1.1 hi.1.2 hi.2 hd h
    · exact h.elim
  | lookupswitch d ps =>
    simp only [Bool.and_eq_true, decide_eq_true_eq] at hi
    dsimp only at h
    split at h
    · exact qp_lookup C hi.1.1 hi.1.2 hi.2 hd h
    · exact h.elim
  | getfield n =>
    dsimp only at h hi
    split at hi
    · rename_i q hq
      simp only [Bool.and_eq_true, decide_eq_true_eq] at hi
      obtain ⟨⟨h1, h2⟩, h3⟩ := hi
      split at h
      · split at h
        · split at h
          · rename_i hk
            exact qp_get C hq h1 (qk_is_in h2) hk.1 (qw_sv_2 (by omega)) hd h
          · exact h.elim
        · split at h
          · rename_i hk
            exact qp_get C hq h1 (qk_is_in h2) hk.1 (qw_sv_0 hk.2) hd h
          · exact h.elim
      · exact h.elim
    · simp only [Bool.and_eq_true, Bool.or_eq_true, decide_eq_true_eq] at hi
      obtain ⟨rfl, hi⟩ := hi
      split at h
      · rcases hi with ⟨⟨rfl, rfl⟩, hi⟩ | ⟨⟨rfl, rfl⟩, hi⟩
        · split at h
          · split at h
            · rename_i hk
              exact qp_getS C hk.1 (Or.inl ⟨rfl, rfl, rfl, rfl⟩) (qk_is_in hi) hd h
            · exact h.elim
          · rename_i hne
            exact absurd rfl hne
        · split at h
          · rename_i hne
            cases hne
          · split at h
            · rename_i hk
              exact qp_getS C hk.1 (Or.inr ⟨rfl, rfl, rfl, rfl⟩) (qk_is_in hi) hd h
            · exact h.elim
      · exact h.elim
  | putfield n =>
    dsimp only at h hi
    split at hi
    · rename_i q hq
      simp only [Bool.and_eq_true, decide_eq_true_eq] at hi
      obtain ⟨⟨⟨h1, h2⟩, h3⟩, h4⟩ := hi
      split at h
      · split at h
        · split at h
          · rename_i hk
            have e9 := (qk_ty_of h3).1 rfl
            exact qp_put C hq h1 (qk_is_in h2) (of_decide_eq_true h4) hk.1 hk.2 (by rw [e9]; rfl) (by rw [e9]; rfl) hd h
          · exact h.elim
        · split at h
          · rename_i hk
            have e9 := (qk_ty_of h3).2 rfl
            exact qp_put C hq h1 (qk_is_in h2) (of_decide_eq_true h4) hk.1 hk.2.1 (by rw [e9]; rcases hk.2.2 with e8 | e8 <;> rw [e8] <;> rfl) (by rw [e9]; rcases hk.2.2 with e8 | e8 <;> rw [e8] <;> rfl) hd h
          · exact h.elim
        · exact h.elim
      · split at h
        · split at h
          · rename_i hk
            simp only [beq_self_eq_true, cond_true, Bool.and_eq_true, decide_eq_true_eq] at h4
            exact qp_putR C hq h1 (qk_is_in h2) h4.1.1 h4.1.2 h4.2 hk.1 hk.2.2 h3 hd h
          · exact h.elim
        · exact h.elim
      · exact h.elim
    · cases hi
  | getstatic n =>
    dsimp only at h hi
    cases a with
    | zero =>
      simp only [Bool.and_eq_true, decide_eq_true_eq] at hi
      obtain ⟨rfl, hi⟩ := hi
      intro H locs cells slots ls hP hM hS hl hc hz
      exact va_gets (own := qe_own E) C.1 C.2.1 C.2.2.2.2.2.2.1.2.2.2.2.1 hS C.2.2.2.1 (C.2.2.2.2.1 _ (qk_is_in hi)) (fun _ z => z) hd (h.2 H locs cells slots ls hP hM hS hl hc hz)
    | succ a =>
      cases a with
      | zero =>
        intro H locs cells slots ls hP hM hS hl hc hz
        have h1 := h.2 H locs cells slots ls hP hM hS hl hc hz
        rw [List.map_cons, qw_ve (k := 0 + 1) (by omega)] at h1
        exact va_gets (own := qe_own E) C.1 C.2.1 C.2.2.2.2.2.2.1.2.1 hS C.2.2.2.1 (C.2.2.2.2.1 _ (qk_is_in hi)) (fun _ z => z) hd h1
      | succ a =>
        simp only [Bool.and_eq_true, decide_eq_true_eq] at hi
        obtain ⟨ha, hi⟩ := hi
        obtain rfl : a = 12 := by omega
        intro H locs cells slots ls hP hM hS hl hc hz
        exact va_gets (own := qe_own E) C.1 C.2.1 C.2.2.2.2.2.2.1.2.2.2.2.2.1 hS C.2.2.2.1 (C.2.2.2.2.1 _ (qk_is_in hi)) (fun _ z => z) hd (h.2 H locs cells slots ls hP hM hS hl hc hz)
  | iaload =>
    dsimp only at h
    have h1 := of_decide_eq_true hi
    split at h
    · split at h
      · rename_i hk
        rcases h1 with rfl | rfl | rfl
        · exact qp_iald C hk.1 hk.2 hd h
        · exact qp_ialdX C hk.1 hk.2 hd h
        · intro H locs cells slots ls hP hM hS hl hc hz
          exact (hM.k26 hk.1).elim
      · exact h.elim
    · exact h.elim
  | baload =>
    dsimp only at h
    have h1 := of_decide_eq_true hi
    split at h
    · split at h
      · rename_i hk
        rcases h1 with rfl | rfl
        · exact qp_zald C hk.1 hk.2 hd h
        · exact qp_baldX C hk.1 hk.2 hd h
      · exact h.elim
    · exact h.elim
  | caload =>
    dsimp only at h
    split at h
    · split at h
      · rename_i hk
        exact qp_cald C hk.1 hk.2 hd h
      · exact h.elim
    · exact h.elim
  | laload =>
    dsimp only at h
    split at h
    · split at h
      · rename_i hk
        exact qp_lald C hk.1 hk.2 hd h
      · exact h.elim
    · exact h.elim
  | aaload =>
    dsimp only at h
    split at h
    · split at h
      · rename_i hk
        exact qp_aald C hk.1 hk.2.1 hk.2.2 hd h
      · exact h.elim
    · exact h.elim
  | iastore =>
    dsimp only at h
    split at h
    · split at h
      · rename_i hk
        exact qp_iast C hk.1 hk.2 hd h
      · exact h.elim
    · exact h.elim
  | bastore =>
    dsimp only at h
    split at h
    · split at h
      · rename_i hk
        exact qp_zast C hk.1.1 hk.1.2 hk.2 hd h
      · exact h.elim
    · exact h.elim
  | castore =>
    dsimp only at h
    split at h
    · split at h
      · rename_i hk
        exact qp_cast C hk.1.1 hk.1.2 hk.2 hd h
      · exact h.elim
    · exact h.elim
  | lastore =>
    dsimp only at h
    split at h
    · split at h
      · rename_i hk
        exact qp_last C hk.1 hk.2 hd h
      · exact h.elim
    · exact h.elim
  | aastore =>
    dsimp only at h
    split at h
    · split at h
      · rename_i hk
        exact qp_aast C hk.1 hk.2 hd h
      · exact h.elim
    · exact h.elim
  | arraylength =>
    dsimp only at h
    have h1 := of_decide_eq_true hi
    split at h
    · split at h
      · rename_i hk
        rcases h1 with rfl | rfl
        · exact qp_alen C hk hd h
        · intro H locs cells slots ls hP hM hS hl hc hz
          exact (hM.k26 hk).elim
      · exact h.elim
    · exact h.elim
  | new n =>
    dsimp only at h hi
    split at hi
    · rename_i q hq
      exact qp_new C hq (qk_is_in hi) hd h
    · cases hi
  | newarray t =>
    dsimp only at h
    have h1 := of_decide_eq_true hi
    split at h
    · split at h
      · rename_i hk
        exact qp_newa C h1 hk hd h
      · exact h.elim
    · exact h.elim
  | anewarray n =>
    dsimp only at h hi
    split at hi
    · rename_i q hq
      simp only [Bool.and_eq_true, decide_eq_true_eq] at hi
      split at h
      · split at h
        · rename_i hk
          exact qp_newq C hq hi.2 (qk_is_in hi.1.2) hk hd h
        · exact h.elim
      · exact h.elim
    · cases hi
  | invokestatic n =>
    dsimp only at h hi
    cases e0 : Nat.blt a 1000 with
    | true =>
      have ha : a < 1000 := by simpa [Nat.blt_eq] using e0
      rw [e0, cond_true] at h
      rw [show (a == 1001) = false by simp; omega, cond_false, show (a == 1002) = false by simp; omega, cond_false, show (a == 1003) = false by simp; omega, cond_false, show (a == 1004) = false by simp; omega, cond_false] at hi
      split at hi
      · rename_i F hF
        simp only [Bool.and_eq_true, decide_eq_true_eq] at hi
        obtain ⟨⟨⟨⟨h1, h2⟩, h3⟩, h4⟩, h5⟩ := hi
        split at h
        · rename_i as rest hp
          obtain ⟨lst, e1, e2, e3⟩ := qs_pop_eq _ _ _ _ _ hp
          rw [List.append_nil] at e1
          subst e1
          split at h
          · rename_i hs
            obtain ⟨d, v2, m2, g1, g2, g4, g5⟩ := h
            intro H locs cells slots ls hP hM
            exact qp_callS C g1 (hA a F h5 hF) h1 (by omega) hs.1 (qk_lnk_of h4) e2 hd g2 (g4 F hF h5) g5 H locs cells slots ls hP hM
          · exact h.elim
        · exact h.elim
      · cases hi
    | false =>
      have ha : 1000 ≤ a := by
        rcases Nat.lt_or_ge a 1000 with q | q
        · have : Nat.blt a 1000 = true := by simpa [Nat.blt_eq] using q
          rw [e0] at this
          cases this
        · exact q
      rw [e0, cond_false] at h
      cases e1 : (a == 1001) with
      | true =>
        rw [e1, cond_true] at h hi
        split at h
        · split at h
          · rename_i hk
            exact qp_copy C hk.1 hk.2.1 hk.2.2.1 hk.2.2.2 (qk_is_in hi) hd h
          · exact h.elim
        · exact h.elim
      | false =>
        rw [e1, cond_false] at h hi
        cases e2 : (a == 1002) with
        | true =>
          rw [e2, cond_true] at h hi
          split at h
          · split at h
            · rename_i hk
              exact qp_max C hk (qk_is_in hi) hd h
            · exact h.elim
          · exact h.elim
        | false =>
          rw [e2, cond_false] at h hi
          cases e3 : (a == 1003) with
          | true =>
            rw [e3, cond_true] at h hi
            split at h
            · split at h
              · rename_i hk
                exact qp_min C hk (qk_is_in hi) hd h
              · exact h.elim
            · exact h.elim
          | false =>
            rw [e3, cond_false] at h hi
            cases e4 : (a == 1004) with
            | true =>
              rw [e4, cond_true] at hi
              split at h
              · split at h
                · rename_i hk
                  exact qp_abs C hk (qk_is_in hi) hd h
                · exact h.elim
              · exact h.elim
            | false =>
              rw [e4, cond_false] at hi
              split at hi
              · simp only [Bool.and_eq_true, decide_eq_true_eq] at hi
                omega
              · cases hi
  | invokevirtual n =>
    dsimp only at h hi
    split at hi
    · rename_i F hF
      simp only [Bool.and_eq_true, Bool.or_eq_true, decide_eq_true_eq] at hi
      obtain ⟨⟨⟨⟨⟨h1, h2⟩, h3⟩, h4⟩, h5⟩, h6⟩ := hi
      split at h
      · rename_i as r rest hp
        obtain ⟨lst, e1, e2, e3⟩ := qs_pop_eq _ _ _ _ _ hp
        rw [List.append_nil] at e1
        subst e1
        split at h
        · rename_i hs
          split at h
          · rename_i hk
            obtain ⟨d, v2, m2, g1, g2, g4, g5⟩ := h
            intro H locs cells slots ls hP hM
            exact qp_callV C g1 (hA a F h5 hF) h1 (by omega) hs.1 (qk_lnk_of h4) e2 h6 hk hd g2 (g4 F hF h5) g5 H locs cells slots ls hP hM
          · exact h.elim
        · exact h.elim
      · exact h.elim
    · cases hi
  | invokespecial n =>
    dsimp only at h hi
    cases e0 : (a == 1000) with
    | true =>
      rw [e0, cond_true] at h hi
      split at h
      · split at h
        · rename_i hk
          exact qp_objI C hk.1 hk.2 (qk_is_in hi) hd h
        · exact h.elim
      · exact h.elim
    | false =>
      rw [e0, cond_false] at h hi
      split at hi
      · rename_i F hF
        simp only [Bool.and_eq_true, decide_eq_true_eq] at hi
        obtain ⟨⟨⟨⟨h1, h2⟩, h3⟩, h4⟩, h5⟩ := hi
        split at h
        · rename_i as r rest hp
          obtain ⟨lst, e1, e2, e3⟩ := qs_pop_eq _ _ _ _ _ hp
          rw [List.append_nil] at e1
          subst e1
          split at h
          · rename_i hs
            split at h
            · rename_i hk
              obtain ⟨d, v2, m2, g1, g2, g4, g5⟩ := h
              intro H locs cells slots ls hP hM
              exact qp_callI C g1 (hA a F h5 hF) h1 h3 (by omega) hs.1 (qk_is_in h4) e2 hk hd g2 (g4 F hF h5) g5 H locs cells slots ls hP hM
            · exact h.elim
          · exact h.elim
        · exact h.elim
      · cases hi
  | ireturn =>
    dsimp only at h
    split at h
    · rename_i x
      intro H locs cells slots ls hP hM hS hl hc hz
      split at h
      · rename_i hk
        exact (h H locs cells slots ls pc hP hM hS hc hz).2 x rfl (Or.inl hk) hd
      · rename_i hk
        split at h
        · rename_i hk2
          exact (h H locs cells slots ls pc hP hM hS hc hz).2 x rfl (Or.inr (Or.inl ⟨hk, hk2⟩)) hd
        · exact h.elim
      · rename_i hk
        split at h
        · rename_i hk2
          exact (h H locs cells slots ls pc hP hM hS hc hz).2 x rfl (Or.inr (Or.inr (Or.inl ⟨hk, hk2⟩))) hd
        · exact h.elim
      · rename_i hk
        split at h
        · rename_i hk2
          exact (h H locs cells slots ls pc hP hM hS hc hz).2 x rfl (Or.inr (Or.inr (Or.inr ⟨hk, hk2⟩))) hd
        · exact h.elim
      · exact h.elim
    · exact h.elim
  | return_ =>
    dsimp only at h
    split at h
    · rename_i hk
      intro H locs cells slots ls hP hM hS hl hc hz
      exact (h H locs cells slots ls pc hP hM hS hc hz).1 rfl hk hd
    · exact h.elim
  | _ => exact h.elim
end QPD
end
section
/-! EVERY RUN, BY FUEL -/
set_option maxHeartbeats 4000000 in
theorem qs_stp_mono (rk pc : Nat) (L : qs_L) (st : List Value) (m : qs_M) (i : Instr) (a b c : Nat) (v : Int32) (sw : List (Int32 × Nat)) :
    qs_stp rk True (fun r => r.2 = m) (fun _ _ _ m1 _ _ _ => m1 = m) (fun _ _ _ m1 => qs_n m ≤ qs_n m1 ∧ qs_z m ≤ qs_z m1) pc L st m i a b c v sw := by
  have key : ∀ (x : Int32) (sw : List (Int32 × Nat)) (d : Nat), qs_sw x sw d (fun _ => qs_n m ≤ qs_n m ∧ qs_z m ≤ qs_z m) := by
    intro x sw d
    induction sw with
    | nil => exact ⟨Nat.le_refl _, Nat.le_refl _⟩
    | cons q sw ih =>
      obtain ⟨v, t⟩ := q
      unfold qs_sw
      split
      · exact ⟨Nat.le_refl _, Nat.le_refl _⟩
      · exact ih
  unfold qs_stp
  cases i <;> dsimp only <;> first
    | exact True.intro
    | exact ⟨Nat.le_refl _, Nat.le_refl _⟩
    | exact ⟨by rw [qs_nw_n]; omega, by rw [qs_nw_z]; omega⟩
    | ((repeat' split) <;> first | exact True.intro | exact ⟨Nat.le_refl _, Nat.le_refl _⟩ | rfl | exact key _ _ _ | exact ⟨by rw [qs_nw_n]; omega, by rw [qs_nw_z]; omega⟩)
    | (cases hq : Nat.blt a 1000 <;> cases hq1 : (a == 1001) <;> cases hq2 : (a == 1002) <;> cases hq3 : (a == 1003) <;> simp only [cond_true, cond_false] <;> (repeat' split) <;> first | exact True.intro | exact ⟨Nat.le_refl _, Nat.le_refl _⟩ | rfl)
    | (cases hq : (a == 1000) <;> simp only [cond_true, cond_false] <;> (repeat' split) <;> first | exact True.intro | exact ⟨Nat.le_refl _, Nat.le_refl _⟩ | rfl)
def qs_mono (m : qs_M) : qs_A → Prop
  | none => True
  | some (.inl r) => r.2 = m
  | some (.inr (.inl (_, _, _, m1))) => qs_n m ≤ qs_n m1 ∧ qs_z m ≤ qs_z m1
  | some (.inr (.inr (_, _, _, m1, _, _, _))) => m1 = m
theorem qs_act_mono (rk pc : Nat) (L : qs_L) (st : List Value) (m : qs_M) (i : Instr) (a b c : Nat) (v : Int32) (sw : List (Int32 × Nat)) : qs_mono m (qs_act rk pc L st m i a b c v sw) := by
  have h := qs_stp_mono rk pc L st m i a b c v sw
  have h2 := qs_stp_nat (qs_mono m) (rk := rk) (fl := none) (rt := fun r => some (.inl r)) (cl := fun e M as m pc L rest => some (.inr (.inr (e, M, as, m, pc, L, rest)))) (k := fun pc L st m => some (.inr (.inl (pc, L, st, m)))) (pc := pc) (L := L) (st := st) (m := m) (i := i) (a := a) (b := b) (c := c) (v := v) (sw := sw)
  unfold qs_act
  rw [h2]
  exact h
theorem qs_ev_mn : ∀ (n d M pc : Nat) (L : qs_L) (st : List Value) (m : qs_M) (r : qs_R), qs_ev n d M pc L st m = some r → qs_n m ≤ qs_n r.2 ∧ qs_z m ≤ qs_z r.2
  | 0, _, _, _, _, _, _, _, h => by cases h
  | n + 1, d, M, pc, L, st, m, r, h => by
    rw [qs_ev_succ] at h
    unfold qs_row at h
    split at h
    · rename_i i a b c v sw pl hq
      rw [qs_step_go] at h
      have hm := qs_act_mono (qm_rk M) pc L st m i a b c v sw
      generalize qs_act (qm_rk M) pc L st m i a b c v sw = A at h hm
      match A, h, hm with
      | none, h, _ => cases h
      | some (.inl r'), h, hm =>
        cases h
        have : r.2 = m := hm
        rw [this]
        exact ⟨Nat.le_refl _, Nat.le_refl _⟩
      | some (.inr (.inl (pc', L', st', m1))), h, hm =>
        have h1 := qs_ev_mn n d M pc' L' st' m1 r h
        exact ⟨Nat.le_trans hm.1 h1.1, Nat.le_trans hm.2 h1.2⟩
      | some (.inr (.inr (e, M', as, m1, pc', L', rest))), h, hm =>
        have hm1 : m1 = m := hm
        subst hm1
        have h : qs_con e (qs_cl n d M' as m1) (fun vs m => qs_ev n d M pc' L' (vs ++ rest) m) = some r := h
        obtain ⟨v2, m2, h1, h2, -⟩ := qs_con_some h
        have h3 := qs_ev_mn n d M pc' L' (v2.toList ++ rest) m2 r h2
        have h4 : qs_n m1 ≤ qs_n m2 ∧ qs_z m1 ≤ qs_z m2 := by
          unfold qs_cl at h1
          cases d with
          | zero => cases h1
          | succ d => exact qs_ev_mn n d M' 0 _ [] m1 (v2, m2) h1
        exact ⟨Nat.le_trans h4.1 h3.1, Nat.le_trans h4.2 h3.2⟩
    · cases h
end
section
/-! EVERY RUN OF EVERY METHOD -/
/-- all rows of all methods are right -/
def qk_Rows : Prop := ∀ (M : Nat) (F : qs_E) (pc : Nat) (r : qs_Row), qm_at M = some F → qs_fetch (qe_cd F) pc = some r → qk_row F pc r = true
theorem qm_cd_at {M : Nat} {F : qs_E} (h : qm_at M = some F) : qm_cd M = qe_cd F := by unfold qm_cd; rw [h]
theorem qm_rk_at {M : Nat} {F : qs_E} (h : qm_at M = some F) : qm_rk M = qe_rk F := by unfold qm_rk; rw [h]
theorem qm_ml_at {M : Nat} {F : qs_E} (h : qm_at M = some F) : qm_ml M = qe_ml F := by unfold qm_ml; rw [h]
theorem qs_len_init (n : Nat) (as : List Value) (h : as.length ≤ n) : (qs_init n as).length = n := by simp [qs_init]; omega
theorem qs_get_app : ∀ (as : List Value) (k : Nat) (i : Nat) (v : Value), qs_get (as.map some ++ List.replicate k none) i = some v → as[i]? = some v
  | [], k, i, v, h => by
    exfalso
    have : ∀ (k i : Nat), qs_get (List.replicate k none) i = none := by
      intro k
      induction k with
      | zero => intro i; rfl
      | succ k ih =>
        intro i
        cases i with
        | zero => rfl
        | succ i => exact ih i
    rw [List.map_nil, List.nil_append, this] at h
    cases h
  | a :: as, k, 0, v, h => by simpa [qs_get] using h
  | a :: as, k, i + 1, v, h => by
    have := qs_get_app as k i v h
    simpa using this
theorem lv_args_in : ∀ (vs : List Value) (k i : Nat) (v : Value), (∀ v ∈ vs, v.category = 1) → vs[i]? = some v → (k + i, v) ∈ lv_args k vs
  | [], _, i, _, _, h => by simp at h
  | a :: vs, k, 0, v, _, h => by
    simp at h
    subst h
    exact List.mem_cons_self
  | a :: vs, k, i + 1, v, hc, h => by
    unfold lv_args
    rw [if_neg (by rw [hc a List.mem_cons_self]; decide)]
    have := lv_args_in vs (k + 1) i v (fun w hw => hc w (List.mem_cons_of_mem _ hw)) (by simpa using h)
    rw [show k + 1 + i = k + (i + 1) by omega] at this
    exact List.mem_cons_of_mem _ this
theorem lg_sl_len : ∀ (vs : List Value), (∀ v ∈ vs, v.category = 1) → (lg_sl vs).length = vs.length
  | [], _ => rfl
  | a :: vs, hc => by
    have h1 := lg_sl_len vs (fun w hw => hc w (List.mem_cons_of_mem _ hw))
    unfold lg_sl at h1 ⊢
    rw [List.flatMap_cons, if_neg (by rw [hc a List.mem_cons_self]; decide), List.length_append, h1]
    simp
    omega
theorem qs_sum_cat : ∀ (as : List Value), as.length ≤ qs_sum as
  | [] => Nat.le_refl _
  | a :: as => by
    have h1 := qs_sum_cat as
    have h2 : 1 ≤ a.category := by cases a <;> simp [Value.category]
    show as.length + 1 ≤ a.category + qs_sum as
    omega
theorem qs_sum_one : ∀ (as : List Value), qs_sum as = as.length → ∀ v ∈ as, v.category = 1
  | [], _, v, hv => by cases hv
  | a :: as, h, v, hv => by
    have h1 := qs_sum_cat as
    have h2 : 1 ≤ a.category := by cases a <;> simp [Value.category]
    have h3 : a.category + qs_sum as = as.length + 1 := h
    rcases List.mem_cons.mp hv with rfl | hv
    · omega
    · exact qs_sum_one as (by omega) v hv
def qs_Sim (l : Launch) (n : Nat) : Prop := ∀ (d M pc : Nat) (L : qs_L) (st : List Value) (m : qs_M) (r : qs_R), qs_ev n d M pc L st m = some r → ∀ (E : qs_E), qm_at M = some E →
  ∀ (p : Program) (e : Env) (R : Room) (s : State) (mid : MethodId) (args : Array Value) (below : List Frame) (meth : Method) (c : Code) (Q : State → Prop) (X : qw_X) (nL n0 z0 : Nat), qp_C p R s mid args meth c X E nL n0 →
    (d + 1 ≤ R.frames ∧ 64 * (d + 1) ≤ R.locals) → (qs_n r.2 ≤ n0 + R.cells ∧ qs_z r.2 ≤ z0 + R.slots) → qp_RT p l e R s mid args below meth c Q X E (qe_rk E) n0 z0 r → qp_At p l e R s mid args below meth c Q X nL n0 z0 pc L st m
/-- what is asked of the arguments of a call -/
def qs_Args (F : qs_E) (as : List Value) : Prop := as.length = qe_na F + (if qe_kd F = 0 then 0 else 1) ∧ ∀ v ∈ as, v.category = 1
theorem qs_met {l : Launch} {n : Nat} (hA : qk_All) (hS : qs_Sim l n) {d M : Nat} {as : List Value} {m m2 : qs_M} {v : Option Value} (h : qs_ev n d M 0 (qs_init (qm_ml M) as) [] m = some (v, m2)) {F : qs_E} (hF : qm_at M = some F) (hM : M < 224) (has : qs_Args F as) (X : qw_X) : qc_Met X l d F as m v m2 := by
  obtain ⟨f1, f2, f3, f4, f5, f6, f7, f8, f9, -, -, -⟩ := qk_ent_of (hA M F hM hF)
  have hmn := qs_ev_mn _ _ _ _ _ _ _ _ h
  unfold qc_Met
  refine Met.ofW (cc := qe_b F) (maxL := qe_ml F) (ret := qe_rt F) (by rw [f1]; exact f2) rfl ?_
  intro p e s mid args below meth c s₁ B hml hv
  obtain ⟨rfl, hAt⟩ := hv
  obtain ⟨a1, a2, a3, a4, a5, a6⟩ := hAt
  have hts := atoms_spec (ws := .code (qe_y F) (qe_b F) (qe_ml F) (qe_rt F) :: lw_gd) B.pre
  have hown : s.vm.findClass (qe_own F) = some mid.cls := by rw [← f1]; exact findClass_of_methodNamed B.named
  have hnm : meth.name = (qe_y F).name := (name_of_methodNamed B.named B.method).1
  have hlocks := B.notSynchronized
  have hcat : ∀ w ∈ as.map (qw_v X), w.category = 1 := by
    intro w hw
    obtain ⟨u, hu, rfl⟩ := List.mem_map.mp hw
    rw [qw_cat a6.cat]
    exact has.2 u hu
  have hlen : (lg_sl (as.map (qw_v X))).length ≤ qe_ml F := by
    rw [lg_sl_len _ hcat, List.length_map, has.1]
    exact f6
  rw [lg_entry_eq]
  have hl := lv_entry (as.map (qw_v X)) hlen
  generalize (lg_sl (as.map (qw_v X)) ++ List.replicate (qe_ml F - (lg_sl (as.map (qw_v X))).length) Slot.unset).toArray = ls at hl ⊢
  have hL : qw_L X ls (qe_ml F) (qs_init (qm_ml M) as) := by
    rw [qm_ml_at hF]
    refine ⟨hl.1, hl.2.1, qs_len_init _ _ (by rw [has.1]; exact f6), fun i w hw => ?_⟩
    have h1 := qs_get_app as _ i w hw
    have h2 := lv_args_in (as.map (qw_v X)) 0 i (qw_v X w) hcat (by rw [List.getElem?_map, h1]; rfl)
    rw [Nat.zero_add] at h2
    exact hl.2.2 _ h2
  have hR : (headSpec (.code (qe_y F) (qe_b F) (qe_ml F) (qe_rt F) :: lw_gd) ({ frames := d + 1, cells := qs_n m2 - qs_n m, slots := qs_z m2 - qs_z m, locals := 64 * (d + 1) } : Room)).room = { frames := d + 1, cells := qs_n m2 - qs_n m, slots := qs_z m2 - qs_z m, locals := 64 * (d + 1) } := rfl
  rw [hR]
  refine hS d M 0 (qs_init (qm_ml M) as) [] m (v, m2) h F hF p e _ s mid _ below meth c _ X (qe_ml F) (qs_n m) (qs_z m) ⟨B.exec, B.bytes, hml, hown, fun w hw => hts w (List.mem_cons_of_mem _ hw), a3, a4, a6, a1, ?_, ?_, rfl, fun q => hnm.trans q⟩ ⟨Nat.le_refl _, Nat.le_refl _⟩ ⟨?_, ?_⟩ ?_ s.heap [] 0 0 ls a2 a5 va_S.rf hL (by omega) (by omega)
  · show 1 ≤ d + 1
    omega
  · show 64 ≤ 64 * (d + 1)
    omega
  · show qs_n m2 ≤ qs_n m + (qs_n m2 - qs_n m)
    omega
  · show qs_z m2 ≤ qs_z m + (qs_z m2 - qs_z m)
    omega
  · intro H locs cells slots ls' pc hP hM2 hS2 hc hz
    obtain rfl : cells = qs_n m2 - qs_n m := by
      have : cells + qs_n m = qs_n m2 := hc
      omega
    obtain rfl : slots = qs_z m2 - qs_z m := by
      have : slots + qs_z m = qs_z m2 := hz
      omega
    refine ⟨fun hv h0 hd => ?_, fun x hv hx hd => ?_⟩
    · have hv : v = none := hv
      subst hv
      rw [h0] at f5
      have hrt : qe_rt F = none := by
        cases e9 : qe_rt F with
        | none => rfl
        | some t => rw [e9] at f5; cases f5
      exact W.vret B.exec B.bytes (B.returns.trans hrt) (fun t ht hW => ⟨rfl, by rw [ht]; exact hP, hM2, hS2.F ht⟩) hS2.2.2 hd
    · have hv : v = some (.int x) := hv
      subst hv
      have hrt : ∃ ty, qe_rt F = some ty ∧ narrow ty (.int x) = .int x := by
        rcases hx with e | ⟨e, hx⟩ | ⟨e, hx⟩ | ⟨e, hx⟩ <;> rw [e] at f5 <;> unfold qk_rt at f5 <;> split at f5 <;> first
          | (cases f5; done)
          | (rename_i e8; exact absurd e8 (by decide))
          | (rename_i e8 e7; exact ⟨_, e7, rfl⟩)
          | (rename_i e8 e7; exact ⟨_, e7, by rcases hx with rfl | rfl <;> rfl⟩)
          | (rename_i e8 e7; exact ⟨_, e7, hx⟩)
          | (rename_i e8 e7; exact absurd e8 (by decide))
      obtain ⟨ty, hrt, hnr⟩ := hrt
      exact W.zret B.exec B.bytes (B.returns.trans hrt) hnr (fun t ht hW => ⟨rfl, by rw [ht]; exact hP, hM2, hS2.F ht⟩) hS2.2.2 hd
def qs_wp (RT : qs_R → Prop) (CL : Nat → Nat → List Value → qs_M → Nat → qs_L → List Value → Prop) (K : Nat → qs_L → List Value → qs_M → Prop) : qs_A → Prop
  | none => False
  | some (.inl r) => RT r
  | some (.inr (.inl (pc, L, st, m))) => K pc L st m
  | some (.inr (.inr (e, M, as, m, pc, L, rest))) => CL e M as m pc L rest
theorem qs_wp_eq {rk : Nat} {RT : qs_R → Prop} {CL : Nat → Nat → List Value → qs_M → Nat → qs_L → List Value → Prop} {K : Nat → qs_L → List Value → qs_M → Prop} {pc : Nat} {L : qs_L} {st : List Value} {m : qs_M} {i : Instr} {a b c : Nat} {v : Int32} {sw : List (Int32 × Nat)} (h : qs_wp RT CL K (qs_act rk pc L st m i a b c v sw)) : qs_stp rk False RT CL K pc L st m i a b c v sw := by
  have h2 := qs_stp_nat (qs_wp RT CL K) (rk := rk) (fl := none) (rt := fun r => some (.inl r)) (cl := fun e M as m pc L rest => some (.inr (.inr (e, M, as, m, pc, L, rest)))) (k := fun pc L st m => some (.inr (.inl (pc, L, st, m)))) (pc := pc) (L := L) (st := st) (m := m) (i := i) (a := a) (b := b) (c := c) (v := v) (sw := sw)
  unfold qs_act at h
  rw [h2] at h
  exact h
end
section
/-! calls have right arguments -/
set_option maxHeartbeats 8000000 in
theorem qs_stp_args {E : qs_E} {pc : Nat} (rk : Nat) (L : qs_L) (st : List Value) (m : qs_M) {i : Instr} {a b c : Nat} {v : Int32} {sw : List (Int32 × Nat)} {pl : List Nat} (hr : qk_row E pc (i, a, b, c, v, sw, pl) = true) :
    qs_stp rk True (fun _ => True) (fun _ M as _ _ _ _ => ∀ F, qm_at M = some F → M < 224 → qs_Args F as) (fun _ _ _ _ => True) pc L st m i a b c v sw := by
  unfold qk_row at hr
  simp only [Bool.and_eq_true, decide_eq_true_eq] at hr
  obtain ⟨-, hi⟩ := hr
  have key : ∀ (x : Int32) (sw : List (Int32 × Nat)) (d : Nat), qs_sw x sw d (fun _ => True) := by
    intro x sw d
    induction sw with
    | nil => exact True.intro
    | cons q sw ih =>
      obtain ⟨v, t⟩ := q
      unfold qs_sw
      split
      · exact True.intro
      · exact ih
  unfold qs_stp
  unfold qk_ins at hi
  cases i with
  | invokestatic n =>
    dsimp only at hi ⊢
    cases e0 : Nat.blt a 1000 with
    | true =>
      have ha : a < 1000 := by simpa [Nat.blt_eq] using e0
      rw [show (a == 1001) = false by simp; omega, cond_false, show (a == 1002) = false by simp; omega, cond_false, show (a == 1003) = false by simp; omega, cond_false, show (a == 1004) = false by simp; omega, cond_false] at hi
      rw [cond_true]
      split
      · rename_i as rest hp
        split
        · rename_i hs
          intro F hF hM
          rw [hF] at hi
          simp only [Bool.and_eq_true, decide_eq_true_eq] at hi
          obtain ⟨⟨⟨⟨h1, h2⟩, h3⟩, h4⟩, h5⟩ := hi
          obtain ⟨lst, e1, e2, e3⟩ := qs_pop_eq _ _ _ _ _ hp
          rw [List.append_nil] at e1
          subst e1
          exact ⟨by rw [if_pos h1]; omega, qs_sum_one _ (by omega)⟩
        · exact True.intro
      · exact True.intro
    | false =>
      rw [cond_false]
      cases hq1 : (a == 1001) <;> cases hq2 : (a == 1002) <;> cases hq3 : (a == 1003) <;> simp only [cond_true, cond_false] <;> (repeat' split) <;> exact True.intro
  | invokevirtual n =>
    dsimp only at hi ⊢
    split
    · rename_i as r rest hp
      split
      · rename_i hs
        split
        · intro F hF hM
          rw [hF] at hi
          simp only [Bool.and_eq_true, decide_eq_true_eq] at hi
          obtain ⟨⟨⟨⟨⟨h1, h2⟩, h3⟩, h4⟩, h5⟩, h6⟩ := hi
          obtain ⟨lst, e1, e2, e3⟩ := qs_pop_eq _ _ _ _ _ hp
          rw [List.append_nil] at e1
          subst e1
          refine ⟨by rw [if_neg (by omega), List.length_cons]; omega, fun w hw => ?_⟩
          rcases List.mem_cons.mp hw with rfl | hw
          · rfl
          · exact qs_sum_one _ (by omega) w hw
        · exact True.intro
      · exact True.intro
    · exact True.intro
  | invokespecial n =>
    dsimp only at hi ⊢
    cases e0 : (a == 1000) with
    | true =>
      rw [cond_true]
      (repeat' split) <;> exact True.intro
    | false =>
      rw [e0, cond_false] at hi
      rw [cond_false]
      split
      · rename_i as r rest hp
        split
        · rename_i hs
          split
          · intro F hF hM
            rw [hF] at hi
            simp only [Bool.and_eq_true, decide_eq_true_eq] at hi
            obtain ⟨⟨⟨⟨h1, h2⟩, h3⟩, h4⟩, h5⟩ := hi
            obtain ⟨lst, e1, e2, e3⟩ := qs_pop_eq _ _ _ _ _ hp
            rw [List.append_nil] at e1
            subst e1
            refine ⟨by rw [if_neg (by omega), List.length_cons]; omega, fun w hw => ?_⟩
            rcases List.mem_cons.mp hw with rfl | hw
            · rfl
            · exact qs_sum_one _ (by omega) w hw
          · exact True.intro
        · exact True.intro
      · exact True.intro
  | _ => dsimp only <;> first
    | exact True.intro
    | ((repeat' split) <;> first | exact True.intro | exact key _ _ _)
def qs_args : qs_A → Prop
  | some (.inr (.inr (_, M, as, _, _, _, _))) => ∀ F, qm_at M = some F → M < 224 → qs_Args F as
  | _ => True
theorem qs_act_args {E : qs_E} {pc : Nat} (rk : Nat) (L : qs_L) (st : List Value) (m : qs_M) {i : Instr} {a b c : Nat} {v : Int32} {sw : List (Int32 × Nat)} {pl : List Nat} (hr : qk_row E pc (i, a, b, c, v, sw, pl) = true) : qs_args (qs_act rk pc L st m i a b c v sw) := by
  have h := qs_stp_args rk L st m hr
  have h2 := qs_stp_nat qs_args (rk := rk) (fl := none) (rt := fun r => some (.inl r)) (cl := fun e M as m pc L rest => some (.inr (.inr (e, M, as, m, pc, L, rest)))) (k := fun pc L st m => some (.inr (.inl (pc, L, st, m)))) (pc := pc) (L := L) (st := st) (m := m) (i := i) (a := a) (b := b) (c := c) (v := v) (sw := sw)
  unfold qs_act
  rw [h2]
  exact h
end
section
/-! the simulation -/
theorem qs_sim {l : Launch} (hA : qk_All) (hRw : qk_Rows) : ∀ n, qs_Sim l n
  | 0 => by
    intro d M pc L st m r h
    cases h
  | n + 1 => by
    have ih := qs_sim (l := l) hA hRw n
    intro d M pc L st m r h E hE p e R s mid args below meth c Q X nL n0 z0 C hR hcap hRT
    rw [qs_ev_succ, qm_cd_at hE, qm_rk_at hE] at h
    unfold qs_row at h
    split at h
    · rename_i i a b c' v sw pl hq
      have hrow := hRw M E pc _ hE hq
      refine qp_step C hA hrow (qs_wp_eq ?_)
      rw [qs_step_go] at h
      have hm := qs_act_mono (qe_rk E) pc L st m i a b c' v sw
      have ha := qs_act_args (qe_rk E) L st m hrow
      generalize qs_act (qe_rk E) pc L st m i a b c' v sw = A at h hm ha ⊢
      match A, h, hm, ha with
      | none, h, _, _ => cases h
      | some (.inl r'), h, hm, _ =>
        cases h
        exact hRT
      | some (.inr (.inl (pc', L', st', m1))), h, hm, _ =>
        have h : qs_ev n d M pc' L' st' m1 = some r := h
        have h1 := qs_ev_mn _ _ _ _ _ _ _ _ h
        exact ⟨⟨by omega, by omega⟩, ih d M pc' L' st' m1 r h E hE p e R s mid args below meth c Q X nL n0 z0 C hR hcap hRT⟩
      | some (.inr (.inr (e1, M', as, m1, pc', L', rest))), h, hm, ha =>
        have hm1 : m1 = m := hm
        subst hm1
        have h : qs_con e1 (qs_cl n d M' as m1) (fun vs m => qs_ev n d M pc' L' (vs ++ rest) m) = some r := h
        obtain ⟨v2, m2, h1, h2, -⟩ := qs_con_some h
        have h3 := qs_ev_mn _ _ _ _ _ _ _ _ h2
        unfold qs_cl at h1
        cases d with
        | zero => cases h1
        | succ d =>
          have h4 := qs_ev_mn _ _ _ _ _ _ _ _ h1
          exact ⟨d, v2, m2, ⟨by omega, by omega⟩, h4, fun F hF hM => qs_met hA ih h1 hF hM (ha F hF hM) X, ⟨by omega, by omega⟩, ih (d + 1) M pc' L' (v2.toList ++ rest) m2 r h2 E hE p e R s mid args below meth c Q X nL n0 z0 C hR hcap hRT⟩
    · cases h
end
section
/-! THE LAW'S RUN: the script lies outside the memory -/
def qs_lrow (lx : Nat) (xs : Nat → Int32) (rk : Nat) (call : Nat → List Value → qs_M → Option qs_R) (ro : Option qs_Row) (pc : Nat) (L : qs_L) (st : List Value) (m : qs_M) (k : Nat → qs_L → List Value → qs_M → Option qs_R) : Option qs_R := match ro with
  | some (i, a, b, c, v, sw, _) => match i with
    | .iaload => match st with
      | .int x :: .ref 0 :: st => if 0 ≤ x ∧ x.toNatClampNeg < lx then k (pc + 1) L (.int (xs x.toNatClampNeg) :: st) m else none
      | _ => none
    | .arraylength => match st with
      | .ref 0 :: st => k (pc + 1) L (.int (Int32.ofNat lx) :: st) m
      | _ => none
    | i => qs_step rk call pc L st m i a b c v sw k
  | none => none
theorem qs_lrow_le {lx : Nat} {xs : Nat → Int32} {rk : Nat} {call : Nat → List Value → qs_M → Option qs_R} {k1 k2 : Nat → qs_L → List Value → qs_M → Option qs_R} (hk : ∀ pc L st m, qs_le (k1 pc L st m) (k2 pc L st m)) {ro : Option qs_Row} {pc : Nat} {L : qs_L} {st : List Value} {m : qs_M} : qs_le (qs_lrow lx xs rk call ro pc L st m k1) (qs_lrow lx xs rk call ro pc L st m k2) := by
  unfold qs_lrow
  split
  · split
    · split
      · split
        · exact hk _ _ _ _
        · exact qs_le_rfl _
      · exact qs_le_rfl _
    · split
      · exact hk _ _ _ _
      · exact qs_le_rfl _
    · exact qs_step_le (fun _ _ _ => qs_le_rfl _) hk
  · exact qs_le_rfl _
def qs_lev (lx : Nat) (xs : Nat → Int32) (call : Nat → List Value → qs_M → Option qs_R) : Nat → Nat → qs_L → List Value → qs_M → Option qs_R
  | 0, _, _, _, _ => none
  | n + 1, pc, L, st, m => qs_lrow lx xs 2 call (qs_fetch qc_224 pc) pc L st m (qs_lev lx xs call n)
theorem qs_lev_step {lx : Nat} {xs : Nat → Int32} {call : Nat → List Value → qs_M → Option qs_R} : ∀ (n pc : Nat) (L : qs_L) (st : List Value) (m : qs_M), qs_le (qs_lev lx xs call n pc L st m) (qs_lev lx xs call (n + 1) pc L st m)
  | 0, _, _, _, _ => fun _ h => by cases h
  | n + 1, pc, L, st, m => qs_lrow_le (fun pc' L' st' m' => qs_lev_step n pc' L' st' m')
theorem qs_lev_mono {lx : Nat} {xs : Nat → Int32} {call : Nat → List Value → qs_M → Option qs_R} {n n' pc : Nat} {L : qs_L} {st : List Value} {m : qs_M} (h : n ≤ n') : qs_le (qs_lev lx xs call n pc L st m) (qs_lev lx xs call n' pc L st m) := by
  induction h with
  | refl => exact qs_le_rfl _
  | step _ ih => exact fun r hr => qs_lev_step _ _ _ _ _ r (ih r hr)
/-- what comes of the law's run -/
noncomputable def qs_LW (lx : Nat) (xs : Nat → Int32) (d : Nat) (pc : Nat) (L : qs_L) (st : List Value) (m : qs_M) : Option qs_R :=
  haveI := Classical.propDecidable (∃ n r, qs_lev lx xs (qs_call d) n pc L st m = some r)
  if h : ∃ n r, qs_lev lx xs (qs_call d) n pc L st m = some r then some (Classical.choose (Classical.choose_spec h)) else none
theorem qs_LW_iff {lx : Nat} {xs : Nat → Int32} {d pc : Nat} {L : qs_L} {st : List Value} {m : qs_M} {r : qs_R} : qs_LW lx xs d pc L st m = some r ↔ ∃ n, qs_lev lx xs (qs_call d) n pc L st m = some r := by
  unfold qs_LW
  constructor
  · intro h
    by_cases e : ∃ n r, qs_lev lx xs (qs_call d) n pc L st m = some r
    · rw [dif_pos e] at h
      exact ⟨Classical.choose e, by rw [← h]; exact Classical.choose_spec (Classical.choose_spec e)⟩
    · rw [dif_neg e] at h; cases h
  · intro ⟨n, h⟩
    have e : ∃ n r, qs_lev lx xs (qs_call d) n pc L st m = some r := ⟨n, r, h⟩
    rw [dif_pos e]
    have h2 := Classical.choose_spec (Classical.choose_spec e)
    have h3 := qs_lev_mono (Nat.le_max_left n (Classical.choose e)) r h
    have h4 := qs_lev_mono (Nat.le_max_right n (Classical.choose e)) _ h2
    exact h4.symm.trans h3
theorem qs_LW_eq (lx : Nat) (xs : Nat → Int32) (d pc : Nat) (L : qs_L) (st : List Value) (m : qs_M) : qs_LW lx xs d pc L st m = qs_lrow lx xs 2 (qs_call d) (qs_fetch qc_224 pc) pc L st m (qs_LW lx xs d) := by
  have h1 : qs_le (qs_LW lx xs d pc L st m) (qs_lrow lx xs 2 (qs_call d) (qs_fetch qc_224 pc) pc L st m (qs_LW lx xs d)) := by
    intro r h
    obtain ⟨n, hn⟩ := qs_LW_iff.mp h
    cases n with
    | zero => cases hn
    | succ n => exact qs_lrow_le (fun pc L st m r h => qs_LW_iff.mpr ⟨n, h⟩) r hn
  have h2 : qs_le (qs_lrow lx xs 2 (qs_call d) (qs_fetch qc_224 pc) pc L st m (qs_LW lx xs d)) (qs_LW lx xs d pc L st m) := by
    intro r h
    refine qs_LW_iff.mpr ?_
    have key : ∃ n, qs_lrow lx xs 2 (qs_call d) (qs_fetch qc_224 pc) pc L st m (qs_lev lx xs (qs_call d) n) = some r := by
      have go : ∀ A : qs_A, qs_go (qs_call d) (qs_LW lx xs d) A = some r → ∃ n, qs_go (qs_call d) (qs_lev lx xs (qs_call d) n) A = some r := by
        intro A h
        match A, h with
        | none, h => cases h
        | some (.inl r'), h => exact ⟨0, h⟩
        | some (.inr (.inl (pc', L', st', m1))), h => exact qs_LW_iff.mp h
        | some (.inr (.inr (e1, M', as, m1, pc', L', rest))), h =>
          have h' : qs_con e1 (qs_call d M' as m1) (fun vs m => qs_LW lx xs d pc' L' (vs ++ rest) m) = some r := h
          obtain ⟨v2, m2, g1, g2, g3⟩ := qs_con_some h'
          obtain ⟨n, hn⟩ := qs_LW_iff.mp g2
          refine ⟨n, ?_⟩
          show qs_con e1 (qs_call d M' as m1) (fun vs m => qs_lev lx xs (qs_call d) n pc' L' (vs ++ rest) m) = some r
          rw [g1, g3]
          exact hn
      unfold qs_lrow at h ⊢
      split at h
      · rename_i i a b c v sw pl hq
        split at h
        · split at h
          · split at h
            · rename_i hx
              obtain ⟨n, hn⟩ := qs_LW_iff.mp h
              exact ⟨n, by rw [if_pos hx]; exact hn⟩
            · cases h
          · cases h
        · split at h
          · obtain ⟨n, hn⟩ := qs_LW_iff.mp h
            exact ⟨n, hn⟩
          · cases h
        · rename_i i2 h8 h9
          rw [qs_step_go] at h
          obtain ⟨n, hn⟩ := go _ h
          refine ⟨n, ?_⟩
          rw [qs_step_go]
          exact hn
      · cases h
    obtain ⟨n, hn⟩ := key
    exact ⟨n + 1, hn⟩
  cases e : qs_LW lx xs d pc L st m with
  | some r => exact (h1 r e).symm
  | none =>
    cases e2 : qs_lrow lx xs 2 (qs_call d) (qs_fetch qc_224 pc) pc L st m (qs_LW lx xs d) with
    | none => rfl
    | some r => rw [h2 r e2] at e; cases e
def qs_lseg (lx : Nat) (xs : Nat → Int32) (cut : List Nat) (call : Nat → List Value → qs_M → Option qs_R) (kk : Nat → qs_L → List Value → qs_M → Option qs_R) : Nat → Nat → qs_L → List Value → qs_M → Option qs_R
  | 0, pc, L, st, m => kk pc L st m
  | n + 1, pc, L, st, m => qs_lrow lx xs 2 call (qs_fetch qc_224 pc) pc L st m (fun pc' L' st' m' => bif cut.elem pc' then kk pc' L' st' m' else qs_lseg lx xs cut call kk n pc' L' st' m')
theorem qs_LW_seg {lx : Nat} {xs : Nat → Int32} {d : Nat} (cut : List Nat) : ∀ (n pc : Nat) (L : qs_L) (st : List Value) (m : qs_M), qs_LW lx xs d pc L st m = qs_lseg lx xs cut (qs_call d) (qs_LW lx xs d) n pc L st m
  | 0, _, _, _, _ => rfl
  | n + 1, pc, L, st, m => by
    rw [qs_LW_eq]
    unfold qs_lseg
    congr 1
    funext pc' L' st' m'
    cases cut.elem pc' with
    | true => rfl
    | false => exact qs_LW_seg cut n pc' L' st' m'
theorem qs_lev_mn {lx : Nat} {xs : Nat → Int32} {d : Nat} : ∀ (n pc : Nat) (L : qs_L) (st : List Value) (m : qs_M) (r : qs_R), qs_lev lx xs (qs_call d) n pc L st m = some r → qs_n m ≤ qs_n r.2 ∧ qs_z m ≤ qs_z r.2
  | 0, _, _, _, _, _, h => by cases h
  | n + 1, pc, L, st, m, r, h => by
    have h : qs_lrow lx xs 2 (qs_call d) (qs_fetch qc_224 pc) pc L st m (qs_lev lx xs (qs_call d) n) = some r := h
    have go : ∀ A : qs_A, qs_mono m A → qs_go (qs_call d) (qs_lev lx xs (qs_call d) n) A = some r → qs_n m ≤ qs_n r.2 ∧ qs_z m ≤ qs_z r.2 := by
      clear h
      intro A hm h
      match A, h, hm with
      | none, h, _ => cases h
      | some (.inl r'), h, hm =>
        cases h
        have hm : r.2 = m := hm
        rw [hm]
        exact ⟨Nat.le_refl _, Nat.le_refl _⟩
      | some (.inr (.inl (pc', L', st', m1))), h, hm =>
        have h1 := qs_lev_mn n _ _ _ _ r h
        exact ⟨Nat.le_trans hm.1 h1.1, Nat.le_trans hm.2 h1.2⟩
      | some (.inr (.inr (e1, M', as, m1, pc', L', rest))), h, hm =>
        have hm1 : m1 = m := hm
        subst hm1
        have h' : qs_con e1 (qs_call d M' as m1) (fun vs m => qs_lev lx xs (qs_call d) n pc' L' (vs ++ rest) m) = some r := by assumption
        obtain ⟨v2, m2, h1, h2, -⟩ := qs_con_some h'
        have h3 := qs_lev_mn n _ _ _ _ r h2
        obtain ⟨n2, h1⟩ := qs_call_some h1
        unfold qs_cl at h1
        cases d with
        | zero => cases h1
        | succ d =>
          have h4 := qs_ev_mn _ _ _ _ _ _ _ _ h1
          exact ⟨Nat.le_trans h4.1 h3.1, Nat.le_trans h4.2 h3.2⟩
    unfold qs_lrow at h
    split at h
    · split at h
      · split at h
        · split at h
          · exact qs_lev_mn n _ _ _ _ r h
          · cases h
        · cases h
      · split at h
        · exact qs_lev_mn n _ _ _ _ r h
        · cases h
      · rw [qs_step_go] at h
        exact go _ (qs_act_mono _ _ _ _ _ _ _ _ _ _ _) h
    · cases h
/-- the law's run is a run of the machine -/
theorem lw_sim {l : Launch} (hA : qk_All) (hRw : qk_Rows) {d : Nat} {p : Program} {e : Env} {R : Room} {s : State} {mid : MethodId} {args : Array Value} {below : List Frame} {meth : Method} {c : Code} {Q : State → Prop} {X : qw_X} {nL n0 z0 : Nat} (C : qp_C p R s mid args meth c X qm_224 nL n0) (hR : d + 1 ≤ R.frames ∧ 64 * (d + 1) ≤ R.locals) {r : qs_R} (hcap : qs_n r.2 ≤ n0 + R.cells ∧ qs_z r.2 ≤ z0 + R.slots) (hRT : qp_RT p l e R s mid args below meth c Q X qm_224 2 n0 z0 r) : ∀ (n pc : Nat) (L : qs_L) (st : List Value) (m : qs_M), qs_lev (qx_L X) (qx_xs X) (qs_call d) n pc L st m = some r → qp_At p l e R s mid args below meth c Q X nL n0 z0 pc L st m
  | 0, _, _, _, _, h => by cases h
  | n + 1, pc, L, st, m, h => by
    have h : qs_lrow (qx_L X) (qx_xs X) 2 (qs_call d) (qs_fetch qc_224 pc) pc L st m (qs_lev (qx_L X) (qx_xs X) (qs_call d) n) = some r := h
    have hE : qm_at 224 = some qm_224 := rfl
    unfold qs_lrow at h
    split at h
    · rename_i i a b c' v sw pl hq
      have hrow := hRw 224 qm_224 pc _ hE hq
      have hd : decode (qe_b qm_224) pc = .ok (i, qk_len i b) := by
        have h9 := hrow
        unfold qk_row at h9
        simp only [Bool.and_eq_true, decide_eq_true_eq] at h9
        exact h9.1
      have hx := C.2.2.2.2.2.2.1.1
      split at h
      · split at h
        · split at h
          · rename_i hxx
            have h1 := lw_sim hA hRw C hR hcap hRT n _ _ _ _ h
            intro H locs cells slots ls hP hM hS hl hc hz
            have h2 := h1 H locs cells slots ls hP hM hS hl hc hz
            rw [List.map_cons] at h2
            rw [List.map_cons, List.map_cons, qw_ve (by omega)]
            exact va_ti C.1 C.2.1 hx hS (qp_in hxx) rfl hd h2
          · cases h
        · cases h
      · split at h
        · have h1 := lw_sim hA hRw C hR hcap hRT n _ _ _ _ h
          intro H locs cells slots ls hP hM hS hl hc hz
          have h2 := h1 H locs cells slots ls hP hM hS hl hc hz
          rw [List.map_cons] at h2
          rw [List.map_cons, qw_ve (by omega)]
          exact va_tlen C.1 C.2.1 hx hS rfl hd h2
        · cases h
      · refine qp_step C hA hrow (qs_wp_eq ?_)
        rw [qs_step_go] at h
        have hm := qs_act_mono (qe_rk qm_224) pc L st m i a b c' v sw
        have ha := qs_act_args (qe_rk qm_224) L st m hrow
        have h : qs_go (qs_call d) (qs_lev (qx_L X) (qx_xs X) (qs_call d) n) (qs_act (qe_rk qm_224) pc L st m i a b c' v sw) = some r := h
        generalize qs_act (qe_rk qm_224) pc L st m i a b c' v sw = A at h hm ha ⊢
        match A, h, hm, ha with
        | none, h, _, _ => cases h
        | some (.inl r'), h, hm, _ =>
          cases h
          exact hRT
        | some (.inr (.inl (pc', L', st', m1))), h, hm, _ =>
          have h1 := qs_lev_mn _ _ _ _ _ _ h
          exact ⟨⟨by omega, by omega⟩, lw_sim hA hRw C hR hcap hRT n _ _ _ _ h⟩
        | some (.inr (.inr (e1, M', as, m1, pc', L', rest))), h, hm, ha =>
          have hm1 : m1 = m := hm
          subst hm1
          have h' : qs_con e1 (qs_call d M' as m1) (fun vs m => qs_lev (qx_L X) (qx_xs X) (qs_call d) n pc' L' (vs ++ rest) m) = some r := by assumption
          obtain ⟨v2, m2, h1, h2, -⟩ := qs_con_some h'
          have h3 := qs_lev_mn _ _ _ _ _ _ h2
          obtain ⟨n2, h1⟩ := qs_call_some h1
          unfold qs_cl at h1
          cases d with
          | zero => cases h1
          | succ d =>
            have h4 := qs_ev_mn _ _ _ _ _ _ _ _ h1
            exact ⟨d, v2, m2, ⟨by omega, by omega⟩, h4, fun F hF hM => qs_met hA (qs_sim hA hRw n2) h1 hF hM (ha F hF hM) X, ⟨by omega, by omega⟩, lw_sim hA hRw C hR hcap hRT n _ _ _ _ h2⟩
    · cases h
end
section
/-! runs of methods, from their entries and loop heads on (printed by a program) -/
/- J0_length_8abf5 -/
set_option maxRecDepth 20000 in
theorem bq_200_0 (d : Nat) (a0 : Nat) (m : qs_M) : qs_EV d 200 0 [some (.ref a0)] [] m = if qs_kd m a0 = 90 ∧ 2 ≤ qs_lk m a0 0 then if qs_kd m (qs_lk m a0 0 - 2) = 24 then if qs_kd m a0 = 90 then qs_bI (qs_call d 204 [.ref a0] m) (fun r1 m1 => some (some (.int ((Int32.ofNat (qs_sz m (qs_lk m a0 0 - 2))) >>> (r1 &&& 31))), m1)) else none else none else none := (qs_EV_seg (cd := qc_200) (rk := 1) rfl rfl [] 67 _ _ _ _).trans rfl
/- J0_charAt_5068e -/
set_option maxRecDepth 20000 in
theorem bq_201_0 (d : Nat) (a0 : Nat) (x1 : Int32) (m : qs_M) : qs_EV d 201 0 [some (.ref a0), some (.int x1)] [] m = if qs_kd m a0 = 90 then qs_bI (qs_call d 205 [.ref a0] m) (fun r1 m1 => if r1 = 0 then if qs_kd m1 a0 = 90 ∧ 2 ≤ qs_lk m1 a0 0 then none else none else if qs_kd m1 a0 = 90 ∧ 2 ≤ qs_lk m1 a0 0 then qs_bI (qs_call d 207 [.ref (qs_lk m1 a0 0 - 2), .int x1] m1) (fun r2 m2 => if narrow .char (.int r2) = .int r2 then some (some (.int r2), m2) else none) else none) else none := (qs_EV_seg (cd := qc_201) (rk := 3) rfl rfl [] 72 _ _ _ _).trans rfl
/- J0_indexOf_0f7a4 -/
set_option maxRecDepth 20000 in
theorem bq_202_0 (d : Nat) (a0 : Nat) (x1 : Int32) (m : qs_M) : qs_EV d 202 0 [some (.ref a0), some (.int x1)] [] m = if qs_kd m a0 = 90 then qs_bI (qs_call d 203 [.ref a0, .int x1, .int 0] m) (fun r1 m1 => some (some (.int r1), m1)) else none := (qs_EV_seg (cd := qc_202) (rk := 1) rfl rfl [] 65 _ _ _ _).trans rfl
/- J0_indexOf_7cf53 -/
set_option maxRecDepth 20000 in
theorem bq_203_0 (d : Nat) (a0 : Nat) (x1 : Int32) (x2 : Int32) (m : qs_M) : qs_EV d 203 0 [some (.ref a0), some (.int x1), some (.int x2)] [] m = if qs_kd m a0 = 90 then qs_bI (qs_call d 205 [.ref a0] m) (fun r1 m1 => if r1 = 0 then if qs_kd m1 a0 = 90 ∧ 2 ≤ qs_lk m1 a0 0 then if qs_kd m1 a0 = 90 then qs_bI (qs_call d 200 [.ref a0] m1) (fun r2 m2 => none) else none else none else if qs_kd m1 a0 = 90 ∧ 2 ≤ qs_lk m1 a0 0 then if qs_kd m1 a0 = 90 then qs_bI (qs_call d 200 [.ref a0] m1) (fun r3 m3 => qs_bI (qs_call d 209 [.ref (qs_lk m1 a0 0 - 2), .int x1, .int x2, .int r3] m3) (fun r4 m4 => some (some (.int r4), m4))) else none else none) else none := (qs_EV_seg (cd := qc_203) (rk := 1) rfl rfl [] 78 _ _ _ _).trans rfl
/- J0_coder_7d493 -/
set_option maxRecDepth 20000 in
theorem bq_204_0 (d : Nat) (a0 : Nat) (m : qs_M) : qs_EV d 204 0 [some (.ref a0)] [] m = if (1 : Int32) = 0 then if narrow .byte (.int 1) = .int 1 then some (some (.int 1), m) else none else if qs_kd m a0 = 90 ∧ qs_lk m a0 1 = 0 then if narrow .byte (.int (qs_i m a0 1)) = .int (qs_i m a0 1) then some (some (.int (qs_i m a0 1)), m) else none else none := (qs_EV_seg (cd := qc_204) (rk := 4) rfl rfl [] 67 _ _ _ _).trans rfl
/- J0_isLatin1_aae02 -/
set_option maxRecDepth 20000 in
theorem bq_205_0 (d : Nat) (a0 : Nat) (m : qs_M) : qs_EV d 205 0 [some (.ref a0)] [] m = if (1 : Int32) = 0 then if (0 : Int32) = 0 ∨ (0 : Int32) = 1 then some (some (.int 0), m) else none else if qs_kd m a0 = 90 ∧ qs_lk m a0 1 = 0 then if (qs_i m a0 1) = 0 then if (1 : Int32) = 0 ∨ (1 : Int32) = 1 then some (some (.int 1), m) else none else if (0 : Int32) = 0 ∨ (0 : Int32) = 1 then some (some (.int 0), m) else none else none := (qs_EV_seg (cd := qc_205) (rk := 2) rfl rfl [] 69 _ _ _ _).trans rfl
/- J0_checkIndex_df160 -/
set_option maxRecDepth 20000 in
theorem bq_206_0 (d : Nat) (x0 : Int32) (x1 : Int32) (m : qs_M) : qs_EV d 206 0 [some (.int x0), some (.int x1)] [] m = qs_bI (qs_call d 211 [.int x0, .int x1, .ref 14] m) (fun r1 m1 => some (none, m1)) := (qs_EV_seg (cd := qc_206) (rk := 0) rfl rfl [] 66 _ _ _ _).trans rfl
/- J1_charAt_3b067 -/
set_option maxRecDepth 20000 in
theorem bq_207_0 (d : Nat) (a0 : Nat) (x1 : Int32) (m : qs_M) : qs_EV d 207 0 [some (.ref a0), some (.int x1)] [] m = if qs_kd m a0 = 24 then qs_bV (qs_call d 206 [.int x1, .int (Int32.ofNat (qs_sz m a0))] m) (fun m1 => if qs_kd m1 a0 = 24 ∧ 0 ≤ x1 ∧ x1.toNatClampNeg < qs_sz m1 a0 then if narrow .char (.int ((((qs_i m1 a0 x1.toNatClampNeg) &&& 255).toUInt32 % 65536).toInt32)) = .int ((((qs_i m1 a0 x1.toNatClampNeg) &&& 255).toUInt32 % 65536).toInt32) then some (some (.int ((((qs_i m1 a0 x1.toNatClampNeg) &&& 255).toUInt32 % 65536).toInt32)), m1) else none else none) else none := (qs_EV_seg (cd := qc_207) (rk := 3) rfl rfl [] 71 _ _ _ _).trans rfl
/- J1_canEncode_9a6ad -/
set_option maxRecDepth 20000 in
theorem bq_208_0 (d : Nat) (x0 : Int32) (m : qs_M) : qs_EV d 208 0 [some (.int x0)] [] m = if x0 < 0 then if (0 : Int32) = 0 ∨ (0 : Int32) = 1 then some (some (.int 0), m) else none else if 255 < x0 then if (0 : Int32) = 0 ∨ (0 : Int32) = 1 then some (some (.int 0), m) else none else if (1 : Int32) = 0 ∨ (1 : Int32) = 1 then some (some (.int 1), m) else none := (qs_EV_seg (cd := qc_208) (rk := 2) rfl rfl [] 69 _ _ _ _).trans rfl
/- J1_indexOf_4cfef -/
set_option maxRecDepth 20000 in
theorem bq_209_0 (d : Nat) (a0 : Nat) (x1 : Int32) (x2 : Int32) (x3 : Int32) (m : qs_M) : qs_EV d 209 0 [some (.ref a0), some (.int x1), some (.int x2), some (.int x3)] [] m = qs_bI (qs_call d 208 [.int x1] m) (fun r1 m1 => if r1 = 0 then some (some (.int (-1)), m1) else if qs_kd m1 a0 = 24 then if (qs_max x2 0) < (qs_min x3 (Int32.ofNat (qs_sz m1 a0))) then qs_bI (qs_call d 210 [.ref a0, .int x1, .int (qs_max x2 0), .int (qs_min x3 (Int32.ofNat (qs_sz m1 a0)))] m1) (fun r2 m2 => some (some (.int r2), m2)) else some (some (.int (-1)), m1) else none) := (qs_EV_seg (cd := qc_209) (rk := 1) rfl rfl [] 85 _ _ _ _).trans rfl
/- J1_indexOfChar_4cfef -/
set_option maxRecDepth 20000 in
theorem bq_210_0 (d : Nat) (a0 : Nat) (x1 : Int32) (x2 : Int32) (x3 : Int32) (m : qs_M) : qs_EV d 210 0 [some (.ref a0), some (.int x1), some (.int x2), some (.int x3), none, none] [] m = qs_EV d 210 7 [some (.ref a0), some (.int x1), some (.int x2), some (.int x3), some (.int x1.toInt8.toInt32), some (.int x2)] [] m := (qs_EV_seg (cd := qc_210) (rk := 1) rfl rfl [7] 79 _ _ _ _).trans rfl
set_option maxRecDepth 20000 in
theorem bq_210_7 (d : Nat) (a0 : Nat) (o1 : Option Value) (o2 : Option Value) (x3 : Int32) (x4 : Int32) (x5 : Int32) (m : qs_M) : qs_EV d 210 7 [some (.ref a0), o1, o2, some (.int x3), some (.int x4), some (.int x5)] [] m = if x3 ≤ x5 then some (some (.int (-1)), m) else if qs_kd m a0 = 24 ∧ 0 ≤ x5 ∧ x5.toNatClampNeg < qs_sz m a0 then if (qs_i m a0 x5.toNatClampNeg) = x4 then some (some (.int x5), m) else qs_EV d 210 7 [some (.ref a0), o1, o2, some (.int x3), some (.int x4), some (.int (x5 + 1))] [] m else none := (qs_EV_seg (cd := qc_210) (rk := 1) rfl rfl [7] 79 _ _ _ _).trans rfl
/- J3_checkIndex_8e157 -/
set_option maxRecDepth 20000 in
theorem bq_211_0 (d : Nat) (x0 : Int32) (x1 : Int32) (a2 : Nat) (m : qs_M) : qs_EV d 211 0 [some (.int x0), some (.int x1), some (.ref a2)] [] m = if x0 < 0 then none else if x0 < x1 then some (some (.int x0), m) else none := (qs_EV_seg (cd := qc_211) (rk := 1) rfl rfl [] 70 _ _ _ _).trans rfl
end
