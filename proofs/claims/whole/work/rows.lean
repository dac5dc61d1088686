section
-- ===== PART A: goes FIRST, ahead of the names: the tables' words, and 'selects' of the private methods out of them =====
/-- a private method of a class that the tables say can be made, by its rows of tables_1 -/
def lw_okq (q : MethodName × Nat) : Prop := (q.1.cls ≠ "java/lang/invoke/MethodHandle" ∧ q.1.cls ≠ "java/lang/invoke/VarHandle") ∧ Cond.instantiable q.1.cls q.2 ∈ tables_1 ∧ Cond.privateMethod q.1 ∈ tables_1 ∧ Cond.instanceMethod q.1 ∈ tables_1
theorem lw_p0 : lw_okq (⟨"TypeChain$Reader", "nextToken", "()Z"⟩, 14) := ⟨⟨by decide +kernel, by decide +kernel⟩, List.mem_of_getElem? (i := 161) (by decide +kernel), List.mem_of_getElem? (i := 440) (by decide +kernel), List.mem_of_getElem? (i := 441) (by decide +kernel)⟩
theorem lw_p1 : lw_okq (⟨"TypeChain$Reader", "fail", "(II)Z"⟩, 14) := ⟨⟨by decide +kernel, by decide +kernel⟩, List.mem_of_getElem? (i := 161) (by decide +kernel), List.mem_of_getElem? (i := 447) (by decide +kernel), List.mem_of_getElem? (i := 448) (by decide +kernel)⟩
theorem lw_p2 : lw_okq (⟨"TypeChain$Reader", "lookBehindAll", "(LTypeChain$Rules;)Z"⟩, 14) := ⟨⟨by decide +kernel, by decide +kernel⟩, List.mem_of_getElem? (i := 161) (by decide +kernel), List.mem_of_getElem? (i := 452) (by decide +kernel), List.mem_of_getElem? (i := 453) (by decide +kernel)⟩
theorem lw_p3 : lw_okq (⟨"TypeChain$Reader", "readLine", "(LTypeChain$Rules;)Z"⟩, 14) := ⟨⟨by decide +kernel, by decide +kernel⟩, List.mem_of_getElem? (i := 161) (by decide +kernel), List.mem_of_getElem? (i := 456) (by decide +kernel), List.mem_of_getElem? (i := 457) (by decide +kernel)⟩
theorem lw_p4 : lw_okq (⟨"TypeChain$Reader", "wordOfToken", "()I"⟩, 14) := ⟨⟨by decide +kernel, by decide +kernel⟩, List.mem_of_getElem? (i := 161) (by decide +kernel), List.mem_of_getElem? (i := 460) (by decide +kernel), List.mem_of_getElem? (i := 461) (by decide +kernel)⟩
theorem lw_p5 : lw_okq (⟨"TypeChain$Reader", "isWord", "(II)Z"⟩, 14) := ⟨⟨by decide +kernel, by decide +kernel⟩, List.mem_of_getElem? (i := 161) (by decide +kernel), List.mem_of_getElem? (i := 464) (by decide +kernel), List.mem_of_getElem? (i := 465) (by decide +kernel)⟩
theorem lw_p6 : lw_okq (⟨"TypeChain$Reader", "readChain", "(LTypeChain$Chain;)Z"⟩, 14) := ⟨⟨by decide +kernel, by decide +kernel⟩, List.mem_of_getElem? (i := 161) (by decide +kernel), List.mem_of_getElem? (i := 509) (by decide +kernel), List.mem_of_getElem? (i := 510) (by decide +kernel)⟩
theorem lw_p7 : lw_okq (⟨"TypeChain$Reader", "take", "(I)Z"⟩, 14) := ⟨⟨by decide +kernel, by decide +kernel⟩, List.mem_of_getElem? (i := 161) (by decide +kernel), List.mem_of_getElem? (i := 513) (by decide +kernel), List.mem_of_getElem? (i := 514) (by decide +kernel)⟩
theorem lw_p8 : lw_okq (⟨"TypeChain$Reader", "letterAt", "(I)I"⟩, 14) := ⟨⟨by decide +kernel, by decide +kernel⟩, List.mem_of_getElem? (i := 161) (by decide +kernel), List.mem_of_getElem? (i := 517) (by decide +kernel), List.mem_of_getElem? (i := 518) (by decide +kernel)⟩
theorem lw_p9 : lw_okq (⟨"TypeChain$Reader", "readHole", "([I)Z"⟩, 14) := ⟨⟨by decide +kernel, by decide +kernel⟩, List.mem_of_getElem? (i := 161) (by decide +kernel), List.mem_of_getElem? (i := 521) (by decide +kernel), List.mem_of_getElem? (i := 522) (by decide +kernel)⟩
theorem lw_p10 : lw_okq (⟨"TypeChain$Reader", "takeNumber", "(II)Z"⟩, 14) := ⟨⟨by decide +kernel, by decide +kernel⟩, List.mem_of_getElem? (i := 161) (by decide +kernel), List.mem_of_getElem? (i := 529) (by decide +kernel), List.mem_of_getElem? (i := 530) (by decide +kernel)⟩
theorem lw_p11 : lw_okq (⟨"TypeChain$Reader", "lookLater", "(II)V"⟩, 14) := ⟨⟨by decide +kernel, by decide +kernel⟩, List.mem_of_getElem? (i := 161) (by decide +kernel), List.mem_of_getElem? (i := 533) (by decide +kernel), List.mem_of_getElem? (i := 534) (by decide +kernel)⟩
theorem lw_p12 : lw_okq (⟨"TypeChain$Reader", "readPut", "(LTypeChain$Program;)Z"⟩, 14) := ⟨⟨by decide +kernel, by decide +kernel⟩, List.mem_of_getElem? (i := 161) (by decide +kernel), List.mem_of_getElem? (i := 537) (by decide +kernel), List.mem_of_getElem? (i := 538) (by decide +kernel)⟩
theorem lw_p13 : lw_okq (⟨"TypeChain$Reader", "readNumbered", "(ILTypeChain$Rules;)Z"⟩, 14) := ⟨⟨by decide +kernel, by decide +kernel⟩, List.mem_of_getElem? (i := 161) (by decide +kernel), List.mem_of_getElem? (i := 549) (by decide +kernel), List.mem_of_getElem? (i := 550) (by decide +kernel)⟩
theorem lw_p14 : lw_okq (⟨"TypeChain", "takeRules", "()V"⟩, 11) := ⟨⟨by decide +kernel, by decide +kernel⟩, List.mem_of_getElem? (i := 22) (by decide +kernel), List.mem_of_getElem? (i := 553) (by decide +kernel), List.mem_of_getElem? (i := 554) (by decide +kernel)⟩
theorem lw_p15 : lw_okq (⟨"TypeChain", "isRow", "(I)Z"⟩, 11) := ⟨⟨by decide +kernel, by decide +kernel⟩, List.mem_of_getElem? (i := 22) (by decide +kernel), List.mem_of_getElem? (i := 578) (by decide +kernel), List.mem_of_getElem? (i := 579) (by decide +kernel)⟩
def lw_privs_1 : List (MethodName × Nat) := [(⟨"TypeChain$Reader", "nextToken", "()Z"⟩, 14), (⟨"TypeChain$Reader", "fail", "(II)Z"⟩, 14), (⟨"TypeChain$Reader", "lookBehindAll", "(LTypeChain$Rules;)Z"⟩, 14), (⟨"TypeChain$Reader", "readLine", "(LTypeChain$Rules;)Z"⟩, 14), (⟨"TypeChain$Reader", "wordOfToken", "()I"⟩, 14), (⟨"TypeChain$Reader", "isWord", "(II)Z"⟩, 14), (⟨"TypeChain$Reader", "readChain", "(LTypeChain$Chain;)Z"⟩, 14), (⟨"TypeChain$Reader", "take", "(I)Z"⟩, 14), (⟨"TypeChain$Reader", "letterAt", "(I)I"⟩, 14), (⟨"TypeChain$Reader", "readHole", "([I)Z"⟩, 14), (⟨"TypeChain$Reader", "takeNumber", "(II)Z"⟩, 14), (⟨"TypeChain$Reader", "lookLater", "(II)V"⟩, 14), (⟨"TypeChain$Reader", "readPut", "(LTypeChain$Program;)Z"⟩, 14), (⟨"TypeChain$Reader", "readNumbered", "(ILTypeChain$Rules;)Z"⟩, 14), (⟨"TypeChain", "takeRules", "()V"⟩, 11), (⟨"TypeChain", "isRow", "(I)Z"⟩, 11)]
theorem lw_r1 : ∀ q ∈ lw_privs_1, lw_okq q := List.forall_mem_cons.mpr ⟨lw_p0, List.forall_mem_cons.mpr ⟨lw_p1, List.forall_mem_cons.mpr ⟨lw_p2, List.forall_mem_cons.mpr ⟨lw_p3, List.forall_mem_cons.mpr ⟨lw_p4, List.forall_mem_cons.mpr ⟨lw_p5, List.forall_mem_cons.mpr ⟨lw_p6, List.forall_mem_cons.mpr ⟨lw_p7, List.forall_mem_cons.mpr ⟨lw_p8, List.forall_mem_cons.mpr ⟨lw_p9, List.forall_mem_cons.mpr ⟨lw_p10, List.forall_mem_cons.mpr ⟨lw_p11, List.forall_mem_cons.mpr ⟨lw_p12, List.forall_mem_cons.mpr ⟨lw_p13, List.forall_mem_cons.mpr ⟨lw_p14, List.forall_mem_cons.mpr ⟨lw_p15, fun _ h => absurd h List.not_mem_nil⟩⟩⟩⟩⟩⟩⟩⟩⟩⟩⟩⟩⟩⟩⟩⟩
theorem lw_p16 : lw_okq (⟨"TypeChain", "isColumn", "(I)Z"⟩, 11) := ⟨⟨by decide +kernel, by decide +kernel⟩, List.mem_of_getElem? (i := 22) (by decide +kernel), List.mem_of_getElem? (i := 594) (by decide +kernel), List.mem_of_getElem? (i := 595) (by decide +kernel)⟩
theorem lw_p17 : lw_okq (⟨"TypeChain$Strike", "gather", "(LTypeChain$Chain;[III)V"⟩, 9) := ⟨⟨by decide +kernel, by decide +kernel⟩, List.mem_of_getElem? (i := 236) (by decide +kernel), List.mem_of_getElem? (i := 649) (by decide +kernel), List.mem_of_getElem? (i := 650) (by decide +kernel)⟩
theorem lw_p18 : lw_okq (⟨"TypeChain$Strike", "earliestDue", "()I"⟩, 9) := ⟨⟨by decide +kernel, by decide +kernel⟩, List.mem_of_getElem? (i := 236) (by decide +kernel), List.mem_of_getElem? (i := 654) (by decide +kernel), List.mem_of_getElem? (i := 655) (by decide +kernel)⟩
theorem lw_p19 : lw_okq (⟨"TypeChain$Strike", "strikeAt", "(II)V"⟩, 9) := ⟨⟨by decide +kernel, by decide +kernel⟩, List.mem_of_getElem? (i := 236) (by decide +kernel), List.mem_of_getElem? (i := 661) (by decide +kernel), List.mem_of_getElem? (i := 662) (by decide +kernel)⟩
theorem lw_p20 : lw_okq (⟨"TypeChain$Printer", "markPage", "()V"⟩, 9) := ⟨⟨by decide +kernel, by decide +kernel⟩, List.mem_of_getElem? (i := 230) (by decide +kernel), List.mem_of_getElem? (i := 678) (by decide +kernel), List.mem_of_getElem? (i := 679) (by decide +kernel)⟩
theorem lw_p21 : lw_okq (⟨"TypeChain$Printer", "fillLine", "(LTypeChain$Program;I)V"⟩, 9) := ⟨⟨by decide +kernel, by decide +kernel⟩, List.mem_of_getElem? (i := 230) (by decide +kernel), List.mem_of_getElem? (i := 759) (by decide +kernel), List.mem_of_getElem? (i := 760) (by decide +kernel)⟩
theorem lw_p22 : lw_okq (⟨"TypeChain$Chain", "swapLetters", "(II)V"⟩, 4) := ⟨⟨by decide +kernel, by decide +kernel⟩, List.mem_of_getElem? (i := 36) (by decide +kernel), List.mem_of_getElem? (i := 788) (by decide +kernel), List.mem_of_getElem? (i := 789) (by decide +kernel)⟩
theorem lw_p23 : lw_okq (⟨"TypeChain$Trials", "ticksOfRun", "(LTypeChain$Rules;)I"⟩, 9) := ⟨⟨by decide +kernel, by decide +kernel⟩, List.mem_of_getElem? (i := 322) (by decide +kernel), List.mem_of_getElem? (i := 792) (by decide +kernel), List.mem_of_getElem? (i := 793) (by decide +kernel)⟩
theorem lw_p24 : lw_okq (⟨"TypeChain$Trials", "keepOrder", "(I)V"⟩, 9) := ⟨⟨by decide +kernel, by decide +kernel⟩, List.mem_of_getElem? (i := 322) (by decide +kernel), List.mem_of_getElem? (i := 798) (by decide +kernel), List.mem_of_getElem? (i := 799) (by decide +kernel)⟩
theorem lw_p25 : lw_okq (⟨"TypeChainModel", "firstDraft", "()V"⟩, 61) := ⟨⟨by decide +kernel, by decide +kernel⟩, List.mem_of_getElem? (i := 867) (by decide +kernel), List.mem_of_getElem? (i := 873) (by decide +kernel), List.mem_of_getElem? (i := 874) (by decide +kernel)⟩
theorem lw_p26 : lw_okq (⟨"TypeChainModel", "keepDraft", "()V"⟩, 61) := ⟨⟨by decide +kernel, by decide +kernel⟩, List.mem_of_getElem? (i := 867) (by decide +kernel), List.mem_of_getElem? (i := 877) (by decide +kernel), List.mem_of_getElem? (i := 878) (by decide +kernel)⟩
theorem lw_p27 : lw_okq (⟨"TypeChainModel", "begins", "()V"⟩, 61) := ⟨⟨by decide +kernel, by decide +kernel⟩, List.mem_of_getElem? (i := 867) (by decide +kernel), List.mem_of_getElem? (i := 881) (by decide +kernel), List.mem_of_getElem? (i := 882) (by decide +kernel)⟩
theorem lw_p28 : lw_okq (⟨"TypeChainModel", "blankPage", "()V"⟩, 61) := ⟨⟨by decide +kernel, by decide +kernel⟩, List.mem_of_getElem? (i := 867) (by decide +kernel), List.mem_of_getElem? (i := 885) (by decide +kernel), List.mem_of_getElem? (i := 886) (by decide +kernel)⟩
theorem lw_p29 : lw_okq (⟨"TypeChainModel", "next", "()V"⟩, 61) := ⟨⟨by decide +kernel, by decide +kernel⟩, List.mem_of_getElem? (i := 867) (by decide +kernel), List.mem_of_getElem? (i := 1090) (by decide +kernel), List.mem_of_getElem? (i := 1091) (by decide +kernel)⟩
theorem lw_p30 : lw_okq (⟨"TypeChainModel", "look", "(I)I"⟩, 61) := ⟨⟨by decide +kernel, by decide +kernel⟩, List.mem_of_getElem? (i := 867) (by decide +kernel), List.mem_of_getElem? (i := 1094) (by decide +kernel), List.mem_of_getElem? (i := 1095) (by decide +kernel)⟩
theorem lw_p31 : lw_okq (⟨"TypeChainModel", "wants", "(ZI)V"⟩, 61) := ⟨⟨by decide +kernel, by decide +kernel⟩, List.mem_of_getElem? (i := 867) (by decide +kernel), List.mem_of_getElem? (i := 1102) (by decide +kernel), List.mem_of_getElem? (i := 1103) (by decide +kernel)⟩
def lw_privs_2 : List (MethodName × Nat) := [(⟨"TypeChain", "isColumn", "(I)Z"⟩, 11), (⟨"TypeChain$Strike", "gather", "(LTypeChain$Chain;[III)V"⟩, 9), (⟨"TypeChain$Strike", "earliestDue", "()I"⟩, 9), (⟨"TypeChain$Strike", "strikeAt", "(II)V"⟩, 9), (⟨"TypeChain$Printer", "markPage", "()V"⟩, 9), (⟨"TypeChain$Printer", "fillLine", "(LTypeChain$Program;I)V"⟩, 9), (⟨"TypeChain$Chain", "swapLetters", "(II)V"⟩, 4), (⟨"TypeChain$Trials", "ticksOfRun", "(LTypeChain$Rules;)I"⟩, 9), (⟨"TypeChain$Trials", "keepOrder", "(I)V"⟩, 9), (⟨"TypeChainModel", "firstDraft", "()V"⟩, 61), (⟨"TypeChainModel", "keepDraft", "()V"⟩, 61), (⟨"TypeChainModel", "begins", "()V"⟩, 61), (⟨"TypeChainModel", "blankPage", "()V"⟩, 61), (⟨"TypeChainModel", "next", "()V"⟩, 61), (⟨"TypeChainModel", "look", "(I)I"⟩, 61), (⟨"TypeChainModel", "wants", "(ZI)V"⟩, 61)]
theorem lw_r2 : ∀ q ∈ lw_privs_2, lw_okq q := List.forall_mem_cons.mpr ⟨lw_p16, List.forall_mem_cons.mpr ⟨lw_p17, List.forall_mem_cons.mpr ⟨lw_p18, List.forall_mem_cons.mpr ⟨lw_p19, List.forall_mem_cons.mpr ⟨lw_p20, List.forall_mem_cons.mpr ⟨lw_p21, List.forall_mem_cons.mpr ⟨lw_p22, List.forall_mem_cons.mpr ⟨lw_p23, List.forall_mem_cons.mpr ⟨lw_p24, List.forall_mem_cons.mpr ⟨lw_p25, List.forall_mem_cons.mpr ⟨lw_p26, List.forall_mem_cons.mpr ⟨lw_p27, List.forall_mem_cons.mpr ⟨lw_p28, List.forall_mem_cons.mpr ⟨lw_p29, List.forall_mem_cons.mpr ⟨lw_p30, List.forall_mem_cons.mpr ⟨lw_p31, fun _ h => absurd h List.not_mem_nil⟩⟩⟩⟩⟩⟩⟩⟩⟩⟩⟩⟩⟩⟩⟩⟩
theorem lw_p32 : lw_okq (⟨"TypeChainModel", "readLine", "()V"⟩, 61) := ⟨⟨by decide +kernel, by decide +kernel⟩, List.mem_of_getElem? (i := 867) (by decide +kernel), List.mem_of_getElem? (i := 1106) (by decide +kernel), List.mem_of_getElem? (i := 1107) (by decide +kernel)⟩
theorem lw_p33 : lw_okq (⟨"TypeChainModel", "nameNow", "()I"⟩, 61) := ⟨⟨by decide +kernel, by decide +kernel⟩, List.mem_of_getElem? (i := 867) (by decide +kernel), List.mem_of_getElem? (i := 1110) (by decide +kernel), List.mem_of_getElem? (i := 1111) (by decide +kernel)⟩
theorem lw_p34 : lw_okq (⟨"TypeChainModel", "is", "(IIIII)Z"⟩, 61) := ⟨⟨by decide +kernel, by decide +kernel⟩, List.mem_of_getElem? (i := 867) (by decide +kernel), List.mem_of_getElem? (i := 1114) (by decide +kernel), List.mem_of_getElem? (i := 1115) (by decide +kernel)⟩
theorem lw_p35 : lw_okq (⟨"TypeChainModel", "ends2", "(II)Z"⟩, 61) := ⟨⟨by decide +kernel, by decide +kernel⟩, List.mem_of_getElem? (i := 867) (by decide +kernel), List.mem_of_getElem? (i := 1118) (by decide +kernel), List.mem_of_getElem? (i := 1119) (by decide +kernel)⟩
theorem lw_p36 : lw_okq (⟨"TypeChainModel", "readChain", "()V"⟩, 61) := ⟨⟨by decide +kernel, by decide +kernel⟩, List.mem_of_getElem? (i := 867) (by decide +kernel), List.mem_of_getElem? (i := 1122) (by decide +kernel), List.mem_of_getElem? (i := 1123) (by decide +kernel)⟩
theorem lw_p37 : lw_okq (⟨"TypeChainModel", "toLetters", "()V"⟩, 61) := ⟨⟨by decide +kernel, by decide +kernel⟩, List.mem_of_getElem? (i := 867) (by decide +kernel), List.mem_of_getElem? (i := 1126) (by decide +kernel), List.mem_of_getElem? (i := 1127) (by decide +kernel)⟩
theorem lw_p38 : lw_okq (⟨"TypeChainModel", "readNumber", "(II)I"⟩, 61) := ⟨⟨by decide +kernel, by decide +kernel⟩, List.mem_of_getElem? (i := 867) (by decide +kernel), List.mem_of_getElem? (i := 1137) (by decide +kernel), List.mem_of_getElem? (i := 1138) (by decide +kernel)⟩
theorem lw_p39 : lw_okq (⟨"TypeChainModel", "readHole", "()V"⟩, 61) := ⟨⟨by decide +kernel, by decide +kernel⟩, List.mem_of_getElem? (i := 867) (by decide +kernel), List.mem_of_getElem? (i := 1141) (by decide +kernel), List.mem_of_getElem? (i := 1142) (by decide +kernel)⟩
theorem lw_p40 : lw_okq (⟨"TypeChainModel", "asksLater", "(II)V"⟩, 61) := ⟨⟨by decide +kernel, by decide +kernel⟩, List.mem_of_getElem? (i := 867) (by decide +kernel), List.mem_of_getElem? (i := 1145) (by decide +kernel), List.mem_of_getElem? (i := 1146) (by decide +kernel)⟩
theorem lw_p41 : lw_okq (⟨"TypeChainModel", "readOrder", "(I)V"⟩, 61) := ⟨⟨by decide +kernel, by decide +kernel⟩, List.mem_of_getElem? (i := 867) (by decide +kernel), List.mem_of_getElem? (i := 1149) (by decide +kernel), List.mem_of_getElem? (i := 1150) (by decide +kernel)⟩
theorem lw_p42 : lw_okq (⟨"TypeChainModel", "isColumn", "(I)Z"⟩, 61) := ⟨⟨by decide +kernel, by decide +kernel⟩, List.mem_of_getElem? (i := 867) (by decide +kernel), List.mem_of_getElem? (i := 1179) (by decide +kernel), List.mem_of_getElem? (i := 1180) (by decide +kernel)⟩
theorem lw_p43 : lw_okq (⟨"TypeChainModel", "letterAt", "(II)I"⟩, 61) := ⟨⟨by decide +kernel, by decide +kernel⟩, List.mem_of_getElem? (i := 867) (by decide +kernel), List.mem_of_getElem? (i := 1184) (by decide +kernel), List.mem_of_getElem? (i := 1185) (by decide +kernel)⟩
theorem lw_p44 : lw_okq (⟨"TypeChainModel", "slugAt", "(II)I"⟩, 61) := ⟨⟨by decide +kernel, by decide +kernel⟩, List.mem_of_getElem? (i := 867) (by decide +kernel), List.mem_of_getElem? (i := 1188) (by decide +kernel), List.mem_of_getElem? (i := 1189) (by decide +kernel)⟩
theorem lw_p45 : lw_okq (⟨"TypeChainModel", "has", "(I)Z"⟩, 61) := ⟨⟨by decide +kernel, by decide +kernel⟩, List.mem_of_getElem? (i := 867) (by decide +kernel), List.mem_of_getElem? (i := 1197) (by decide +kernel), List.mem_of_getElem? (i := 1198) (by decide +kernel)⟩
theorem lw_p46 : lw_okq (⟨"TypeChainModel", "comesBy", "(III)I"⟩, 61) := ⟨⟨by decide +kernel, by decide +kernel⟩, List.mem_of_getElem? (i := 867) (by decide +kernel), List.mem_of_getElem? (i := 1201) (by decide +kernel), List.mem_of_getElem? (i := 1202) (by decide +kernel)⟩
theorem lw_p47 : lw_okq (⟨"TypeChainModel", "canGo", "()Z"⟩, 61) := ⟨⟨by decide +kernel, by decide +kernel⟩, List.mem_of_getElem? (i := 867) (by decide +kernel), List.mem_of_getElem? (i := 1224) (by decide +kernel), List.mem_of_getElem? (i := 1225) (by decide +kernel)⟩
def lw_privs_3 : List (MethodName × Nat) := [(⟨"TypeChainModel", "readLine", "()V"⟩, 61), (⟨"TypeChainModel", "nameNow", "()I"⟩, 61), (⟨"TypeChainModel", "is", "(IIIII)Z"⟩, 61), (⟨"TypeChainModel", "ends2", "(II)Z"⟩, 61), (⟨"TypeChainModel", "readChain", "()V"⟩, 61), (⟨"TypeChainModel", "toLetters", "()V"⟩, 61), (⟨"TypeChainModel", "readNumber", "(II)I"⟩, 61), (⟨"TypeChainModel", "readHole", "()V"⟩, 61), (⟨"TypeChainModel", "asksLater", "(II)V"⟩, 61), (⟨"TypeChainModel", "readOrder", "(I)V"⟩, 61), (⟨"TypeChainModel", "isColumn", "(I)Z"⟩, 61), (⟨"TypeChainModel", "letterAt", "(II)I"⟩, 61), (⟨"TypeChainModel", "slugAt", "(II)I"⟩, 61), (⟨"TypeChainModel", "has", "(I)Z"⟩, 61), (⟨"TypeChainModel", "comesBy", "(III)I"⟩, 61), (⟨"TypeChainModel", "canGo", "()Z"⟩, 61)]
theorem lw_r3 : ∀ q ∈ lw_privs_3, lw_okq q := List.forall_mem_cons.mpr ⟨lw_p32, List.forall_mem_cons.mpr ⟨lw_p33, List.forall_mem_cons.mpr ⟨lw_p34, List.forall_mem_cons.mpr ⟨lw_p35, List.forall_mem_cons.mpr ⟨lw_p36, List.forall_mem_cons.mpr ⟨lw_p37, List.forall_mem_cons.mpr ⟨lw_p38, List.forall_mem_cons.mpr ⟨lw_p39, List.forall_mem_cons.mpr ⟨lw_p40, List.forall_mem_cons.mpr ⟨lw_p41, List.forall_mem_cons.mpr ⟨lw_p42, List.forall_mem_cons.mpr ⟨lw_p43, List.forall_mem_cons.mpr ⟨lw_p44, List.forall_mem_cons.mpr ⟨lw_p45, List.forall_mem_cons.mpr ⟨lw_p46, List.forall_mem_cons.mpr ⟨lw_p47, fun _ h => absurd h List.not_mem_nil⟩⟩⟩⟩⟩⟩⟩⟩⟩⟩⟩⟩⟩⟩⟩⟩
theorem lw_p48 : lw_okq (⟨"TypeChainModel", "strikes", "(I)I"⟩, 61) := ⟨⟨by decide +kernel, by decide +kernel⟩, List.mem_of_getElem? (i := 867) (by decide +kernel), List.mem_of_getElem? (i := 1228) (by decide +kernel), List.mem_of_getElem? (i := 1229) (by decide +kernel)⟩
theorem lw_p49 : lw_okq (⟨"TypeChainModel", "goes", "()I"⟩, 61) := ⟨⟨by decide +kernel, by decide +kernel⟩, List.mem_of_getElem? (i := 867) (by decide +kernel), List.mem_of_getElem? (i := 1236) (by decide +kernel), List.mem_of_getElem? (i := 1237) (by decide +kernel)⟩
theorem lw_p50 : lw_okq (⟨"TypeChainModel", "shows", "(II)I"⟩, 61) := ⟨⟨by decide +kernel, by decide +kernel⟩, List.mem_of_getElem? (i := 867) (by decide +kernel), List.mem_of_getElem? (i := 1248) (by decide +kernel), List.mem_of_getElem? (i := 1249) (by decide +kernel)⟩
theorem lw_p51 : lw_okq (⟨"TypeChainModel", "moves", "(IZ)I"⟩, 61) := ⟨⟨by decide +kernel, by decide +kernel⟩, List.mem_of_getElem? (i := 867) (by decide +kernel), List.mem_of_getElem? (i := 1265) (by decide +kernel), List.mem_of_getElem? (i := 1266) (by decide +kernel)⟩
theorem lw_p52 : lw_okq (⟨"TypeChainModel", "toHole", "(I)I"⟩, 61) := ⟨⟨by decide +kernel, by decide +kernel⟩, List.mem_of_getElem? (i := 867) (by decide +kernel), List.mem_of_getElem? (i := 1274) (by decide +kernel), List.mem_of_getElem? (i := 1275) (by decide +kernel)⟩
theorem lw_p53 : lw_okq (⟨"TypeChainModel", "does", "(IZ)Z"⟩, 61) := ⟨⟨by decide +kernel, by decide +kernel⟩, List.mem_of_getElem? (i := 867) (by decide +kernel), List.mem_of_getElem? (i := 1290) (by decide +kernel), List.mem_of_getElem? (i := 1291) (by decide +kernel)⟩
theorem lw_p54 : lw_okq (⟨"TypeChainModel", "puts", "(I)V"⟩, 61) := ⟨⟨by decide +kernel, by decide +kernel⟩, List.mem_of_getElem? (i := 867) (by decide +kernel), List.mem_of_getElem? (i := 1294) (by decide +kernel), List.mem_of_getElem? (i := 1295) (by decide +kernel)⟩
theorem lw_p55 : lw_okq (⟨"TypeChainModel", "keepChain", "()V"⟩, 61) := ⟨⟨by decide +kernel, by decide +kernel⟩, List.mem_of_getElem? (i := 867) (by decide +kernel), List.mem_of_getElem? (i := 1307) (by decide +kernel), List.mem_of_getElem? (i := 1308) (by decide +kernel)⟩
theorem lw_p56 : lw_okq (⟨"TypeChainModel", "swaps", "(II)V"⟩, 61) := ⟨⟨by decide +kernel, by decide +kernel⟩, List.mem_of_getElem? (i := 867) (by decide +kernel), List.mem_of_getElem? (i := 1311) (by decide +kernel), List.mem_of_getElem? (i := 1312) (by decide +kernel)⟩
theorem lw_p57 : lw_okq (⟨"TypeChainModel", "tries", "()I"⟩, 61) := ⟨⟨by decide +kernel, by decide +kernel⟩, List.mem_of_getElem? (i := 867) (by decide +kernel), List.mem_of_getElem? (i := 1316) (by decide +kernel), List.mem_of_getElem? (i := 1317) (by decide +kernel)⟩
theorem lw_p58 : lw_okq (⟨"TypeChainModel", "goesOn", "()Z"⟩, 61) := ⟨⟨by decide +kernel, by decide +kernel⟩, List.mem_of_getElem? (i := 867) (by decide +kernel), List.mem_of_getElem? (i := 1320) (by decide +kernel), List.mem_of_getElem? (i := 1321) (by decide +kernel)⟩
theorem lw_p59 : lw_okq (⟨"TypeChainModel", "chainAgain", "()V"⟩, 61) := ⟨⟨by decide +kernel, by decide +kernel⟩, List.mem_of_getElem? (i := 867) (by decide +kernel), List.mem_of_getElem? (i := 1324) (by decide +kernel), List.mem_of_getElem? (i := 1325) (by decide +kernel)⟩
theorem lw_p60 : lw_okq (⟨"TypeChainModel", "lettersNow", "()I"⟩, 61) := ⟨⟨by decide +kernel, by decide +kernel⟩, List.mem_of_getElem? (i := 867) (by decide +kernel), List.mem_of_getElem? (i := 1351) (by decide +kernel), List.mem_of_getElem? (i := 1352) (by decide +kernel)⟩
def lw_privs_4 : List (MethodName × Nat) := [(⟨"TypeChainModel", "strikes", "(I)I"⟩, 61), (⟨"TypeChainModel", "goes", "()I"⟩, 61), (⟨"TypeChainModel", "shows", "(II)I"⟩, 61), (⟨"TypeChainModel", "moves", "(IZ)I"⟩, 61), (⟨"TypeChainModel", "toHole", "(I)I"⟩, 61), (⟨"TypeChainModel", "does", "(IZ)Z"⟩, 61), (⟨"TypeChainModel", "puts", "(I)V"⟩, 61), (⟨"TypeChainModel", "keepChain", "()V"⟩, 61), (⟨"TypeChainModel", "swaps", "(II)V"⟩, 61), (⟨"TypeChainModel", "tries", "()I"⟩, 61), (⟨"TypeChainModel", "goesOn", "()Z"⟩, 61), (⟨"TypeChainModel", "chainAgain", "()V"⟩, 61), (⟨"TypeChainModel", "lettersNow", "()I"⟩, 61)]
theorem lw_r4 : ∀ q ∈ lw_privs_4, lw_okq q := List.forall_mem_cons.mpr ⟨lw_p48, List.forall_mem_cons.mpr ⟨lw_p49, List.forall_mem_cons.mpr ⟨lw_p50, List.forall_mem_cons.mpr ⟨lw_p51, List.forall_mem_cons.mpr ⟨lw_p52, List.forall_mem_cons.mpr ⟨lw_p53, List.forall_mem_cons.mpr ⟨lw_p54, List.forall_mem_cons.mpr ⟨lw_p55, List.forall_mem_cons.mpr ⟨lw_p56, List.forall_mem_cons.mpr ⟨lw_p57, List.forall_mem_cons.mpr ⟨lw_p58, List.forall_mem_cons.mpr ⟨lw_p59, List.forall_mem_cons.mpr ⟨lw_p60, fun _ h => absurd h List.not_mem_nil⟩⟩⟩⟩⟩⟩⟩⟩⟩⟩⟩⟩⟩
def lw_privs : List (MethodName × Nat) := lw_privs_1 ++ (lw_privs_2 ++ (lw_privs_3 ++ (lw_privs_4)))
def lw_tbl : List Cond := k2_sels lw_privs ++ tables_1
theorem lw_privs_ok : ∀ q ∈ lw_privs, lw_okq q := by
  show ∀ q ∈ lw_privs_1 ++ (lw_privs_2 ++ (lw_privs_3 ++ (lw_privs_4))), lw_okq q
  exact List.forall_mem_append.mpr ⟨lw_r1, List.forall_mem_append.mpr ⟨lw_r2, List.forall_mem_append.mpr ⟨lw_r3, lw_r4⟩⟩⟩
end
section
def RX0 : String := "TypeChain$Chain"
def TX0 : u_T := fun k => match k with
  | 0 => ("TypeChain$Chain", "letters", "[I", true)
  | 1 => ("TypeChain$Chain", "size", "I", false)
  | 2 => ("TypeChain$Chain", "pitch", "I", false)
  | _ => ("TypeChain$Chain", "gap", "I", false)
def tyX0 : Nat → FieldType := fun k => match k with
  | 0 => .array .int
  | 1 => .int
  | 2 => .int
  | _ => .int
abbrev wsX00 : List Cond := u_ws RX0 TX0 4
theorem nmX0 : ∀ a, a < 4 → ∀ b, b < 4 → a ≠ b → (TX0 a).2.1 ≠ (TX0 b).2.1 := by decide +kernel
theorem tyX0_ok : ∀ k, k < 4 → parseFieldDescriptor (TX0 k).2.2.1 = some (tyX0 k) := by decide +kernel
abbrev cX0_init : ByteArray := prog_2_method_1_code
def yX0_init : MethodName := ⟨RX0, "<init>", "()V"⟩
abbrev cX0_copyFrom : ByteArray := prog_2_method_2_code
def yX0_copyFrom : MethodName := ⟨RX0, "copyFrom", "(LTypeChain$Chain;)V"⟩
abbrev cX0_slugFacing : ByteArray := prog_2_method_3_code
def yX0_slugFacing : MethodName := ⟨RX0, "slugFacing", "(II)I"⟩
abbrev cX0_letterFacing : ByteArray := prog_2_method_4_code
def yX0_letterFacing : MethodName := ⟨RX0, "letterFacing", "(II)I"⟩
abbrev cX0_nextTick : ByteArray := prog_2_method_5_code
def yX0_nextTick : MethodName := ⟨RX0, "nextTick", "(III)I"⟩
abbrev cX0_letterSet : ByteArray := prog_2_method_6_code
def yX0_letterSet : MethodName := ⟨RX0, "letterSet", "()I"⟩
abbrev cX0_sortLetters : ByteArray := prog_2_method_7_code
def yX0_sortLetters : MethodName := ⟨RX0, "sortLetters", "()V"⟩
abbrev cX0_toNextOrder : ByteArray := prog_2_method_8_code
def yX0_toNextOrder : MethodName := ⟨RX0, "toNextOrder", "()Z"⟩
abbrev cX0_swapLetters : ByteArray := prog_2_method_9_code
def yX0_swapLetters : MethodName := ⟨RX0, "swapLetters", "(II)V"⟩
def RX1 : String := "TypeChain$Page"
def TX1 : u_T := fun k => match k with
  | 0 => ("TypeChain$Page", "letters", "[I", true)
  | _ => ("TypeChain$Page", "times", "[I", true)
def tyX1 : Nat → FieldType := fun k => match k with
  | 0 => .array .int
  | _ => .array .int
abbrev wsX10 : List Cond := u_ws RX1 TX1 2
theorem nmX1 : ∀ a, a < 2 → ∀ b, b < 2 → a ≠ b → (TX1 a).2.1 ≠ (TX1 b).2.1 := by decide +kernel
theorem tyX1_ok : ∀ k, k < 2 → parseFieldDescriptor (TX1 k).2.2.1 = some (tyX1 k) := by decide +kernel
abbrev cX1_init : ByteArray := prog_3_method_1_code
def yX1_init : MethodName := ⟨RX1, "<init>", "()V"⟩
abbrev cX1_clear : ByteArray := prog_3_method_2_code
def yX1_clear : MethodName := ⟨RX1, "clear", "()V"⟩
abbrev cX1_mark : ByteArray := prog_3_method_3_code
def yX1_mark : MethodName := ⟨RX1, "mark", "(III)V"⟩
abbrev cX1_placesStruck : ByteArray := prog_3_method_4_code
def yX1_placesStruck : MethodName := ⟨RX1, "placesStruck", "(I)I"⟩
def RX2 : String := "TypeChain$Printer"
def TX2 : u_T := fun k => match k with
  | 0 => ("TypeChain$Printer", "letters", "[I", true)
  | 1 => ("TypeChain$Printer", "strike", "LTypeChain$Strike;", true)
  | 2 => ("TypeChain$Printer", "tick", "I", false)
  | 3 => ("TypeChain$Printer", "row", "I", false)
  | 4 => ("TypeChain$Printer", "pages", "I", false)
  | 5 => ("TypeChain$Printer", "linesStruck", "I", false)
  | 6 => ("TypeChain$Printer", "page", "LTypeChain$Page;", true)
  | 7 => ("TypeChain$Printer", "rules", "LTypeChain$Rules;", false)
  | _ => ("TypeChain$Printer", "chain", "LTypeChain$Chain;", false)
def tyX2 : Nat → FieldType := fun k => match k with
  | 0 => .array .int
  | 1 => .object "TypeChain$Strike"
  | 2 => .int
  | 3 => .int
  | 4 => .int
  | 5 => .int
  | 6 => .object "TypeChain$Page"
  | 7 => .object "TypeChain$Rules"
  | _ => .object "TypeChain$Chain"
abbrev wsX20 : List Cond := u_ws RX2 TX2 9
theorem nmX2 : ∀ a, a < 9 → ∀ b, b < 9 → a ≠ b → (TX2 a).2.1 ≠ (TX2 b).2.1 := by decide +kernel
theorem tyX2_ok : ∀ k, k < 9 → parseFieldDescriptor (TX2 k).2.2.1 = some (tyX2 k) := by decide +kernel
abbrev cX2_init : ByteArray := prog_4_method_1_code
def yX2_init : MethodName := ⟨RX2, "<init>", "(LTypeChain$Page;LTypeChain$Rules;LTypeChain$Chain;)V"⟩
abbrev cX2_begin : ByteArray := prog_4_method_2_code
def yX2_begin : MethodName := ⟨RX2, "begin", "(LTypeChain$Rules;LTypeChain$Chain;)V"⟩
abbrev cX2_lettersInLine : ByteArray := prog_4_method_3_code
def yX2_lettersInLine : MethodName := ⟨RX2, "lettersInLine", "()I"⟩
abbrev cX2_canStrike : ByteArray := prog_4_method_4_code
def yX2_canStrike : MethodName := ⟨RX2, "canStrike", "()Z"⟩
abbrev cX2_strikeLine : ByteArray := prog_4_method_5_code
def yX2_strikeLine : MethodName := ⟨RX2, "strikeLine", "()I"⟩
abbrev cX2_moveBy : ByteArray := prog_4_method_6_code
def yX2_moveBy : MethodName := ⟨RX2, "moveBy", "(I)I"⟩
abbrev cX2_moveToHole : ByteArray := prog_4_method_7_code
def yX2_moveToHole : MethodName := ⟨RX2, "moveToHole", "(I)I"⟩
abbrev cX2_runProgram : ByteArray := prog_4_method_8_code
def yX2_runProgram : MethodName := ⟨RX2, "runProgram", "()I"⟩
abbrev cX2_fillLine : ByteArray := prog_4_method_9_code
def yX2_fillLine : MethodName := ⟨RX2, "fillLine", "(LTypeChain$Program;I)V"⟩
abbrev cX2_markPage : ByteArray := prog_4_method_10_code
def yX2_markPage : MethodName := ⟨RX2, "markPage", "()V"⟩
def RX3 : String := "TypeChain$Program"
def TX3 : u_T := fun k => match k with
  | 0 => ("TypeChain$Program", "kinds", "[I", true)
  | 1 => ("TypeChain$Program", "numbers", "[I", true)
  | 2 => ("TypeChain$Program", "starts", "[I", true)
  | 3 => ("TypeChain$Program", "lengths", "[I", true)
  | 4 => ("TypeChain$Program", "letters", "[I", true)
  | 5 => ("TypeChain$Program", "size", "I", false)
  | _ => ("TypeChain$Program", "lettersUsed", "I", false)
def tyX3 : Nat → FieldType := fun k => match k with
  | 0 => .array .int
  | 1 => .array .int
  | 2 => .array .int
  | 3 => .array .int
  | 4 => .array .int
  | 5 => .int
  | _ => .int
abbrev wsX30 : List Cond := u_ws RX3 TX3 7
theorem nmX3 : ∀ a, a < 7 → ∀ b, b < 7 → a ≠ b → (TX3 a).2.1 ≠ (TX3 b).2.1 := by decide +kernel
theorem tyX3_ok : ∀ k, k < 7 → parseFieldDescriptor (TX3 k).2.2.1 = some (tyX3 k) := by decide +kernel
abbrev cX3_init : ByteArray := prog_5_method_1_code
def yX3_init : MethodName := ⟨RX3, "<init>", "()V"⟩
abbrev cX3_clear : ByteArray := prog_5_method_2_code
def yX3_clear : MethodName := ⟨RX3, "clear", "()V"⟩
abbrev cX3_addOrder : ByteArray := prog_5_method_3_code
def yX3_addOrder : MethodName := ⟨RX3, "addOrder", "(III)V"⟩
abbrev cX3_addLetter : ByteArray := prog_5_method_4_code
def yX3_addLetter : MethodName := ⟨RX3, "addLetter", "(I)V"⟩
abbrev cX3_letterOf : ByteArray := prog_5_method_5_code
def yX3_letterOf : MethodName := ⟨RX3, "letterOf", "(II)I"⟩
def RX4 : String := "TypeChain$Reader"
def TX4 : u_T := fun k => match k with
  | 0 => ("TypeChain$Reader", "bytes", "[B", true)
  | 1 => ("TypeChain$Reader", "length", "I", false)
  | 2 => ("TypeChain$Reader", "fault", "I", false)
  | 3 => ("TypeChain$Reader", "faultPlace", "I", false)
  | 4 => ("TypeChain$Reader", "lines", "I", false)
  | 5 => ("TypeChain$Reader", "kind", "I", false)
  | 6 => ("TypeChain$Reader", "from", "I", false)
  | 7 => ("TypeChain$Reader", "place", "I", false)
  | 8 => ("TypeChain$Reader", "number", "I", false)
  | 9 => ("TypeChain$Reader", "wordsTold", "I", false)
  | 10 => ("TypeChain$Reader", "laterFault", "[I", true)
  | 11 => ("TypeChain$Reader", "laterReach", "[I", true)
  | 12 => ("TypeChain$Reader", "laterPlace", "[I", true)
  | _ => ("TypeChain$Reader", "laterSize", "I", false)
def tyX4 : Nat → FieldType := fun k => match k with
  | 0 => .array .byte
  | 1 => .int
  | 2 => .int
  | 3 => .int
  | 4 => .int
  | 5 => .int
  | 6 => .int
  | 7 => .int
  | 8 => .int
  | 9 => .int
  | 10 => .array .int
  | 11 => .array .int
  | 12 => .array .int
  | _ => .int
abbrev wsX40 : List Cond := u_ws RX4 TX4 14
theorem nmX4 : ∀ a, a < 14 → ∀ b, b < 14 → a ≠ b → (TX4 a).2.1 ≠ (TX4 b).2.1 := by decide +kernel
theorem tyX4_ok : ∀ k, k < 14 → parseFieldDescriptor (TX4 k).2.2.1 = some (tyX4 k) := by decide +kernel
abbrev cX4_init : ByteArray := prog_6_method_1_code
def yX4_init : MethodName := ⟨RX4, "<init>", "()V"⟩
abbrev cX4_append : ByteArray := prog_6_method_2_code
def yX4_append : MethodName := ⟨RX4, "append", "(J)Z"⟩
abbrev cX4_readInto : ByteArray := prog_6_method_3_code
def yX4_readInto : MethodName := ⟨RX4, "readInto", "(LTypeChain$Rules;)Z"⟩
abbrev cX4_readLine : ByteArray := prog_6_method_4_code
def yX4_readLine : MethodName := ⟨RX4, "readLine", "(LTypeChain$Rules;)Z"⟩
abbrev cX4_readNumbered : ByteArray := prog_6_method_5_code
def yX4_readNumbered : MethodName := ⟨RX4, "readNumbered", "(ILTypeChain$Rules;)Z"⟩
abbrev cX4_readChain : ByteArray := prog_6_method_6_code
def yX4_readChain : MethodName := ⟨RX4, "readChain", "(LTypeChain$Chain;)Z"⟩
abbrev cX4_readHole : ByteArray := prog_6_method_7_code
def yX4_readHole : MethodName := ⟨RX4, "readHole", "([I)Z"⟩
abbrev cX4_readPut : ByteArray := prog_6_method_8_code
def yX4_readPut : MethodName := ⟨RX4, "readPut", "(LTypeChain$Program;)Z"⟩
abbrev cX4_lookLater : ByteArray := prog_6_method_9_code
def yX4_lookLater : MethodName := ⟨RX4, "lookLater", "(II)V"⟩
abbrev cX4_lookBehindAll : ByteArray := prog_6_method_10_code
def yX4_lookBehindAll : MethodName := ⟨RX4, "lookBehindAll", "(LTypeChain$Rules;)Z"⟩
abbrev cX4_take : ByteArray := prog_6_method_11_code
def yX4_take : MethodName := ⟨RX4, "take", "(I)Z"⟩
abbrev cX4_takeNumber : ByteArray := prog_6_method_12_code
def yX4_takeNumber : MethodName := ⟨RX4, "takeNumber", "(II)Z"⟩
abbrev cX4_nextToken : ByteArray := prog_6_method_13_code
def yX4_nextToken : MethodName := ⟨RX4, "nextToken", "()Z"⟩
abbrev cX4_kindOf : ByteArray := prog_6_method_14_code
def yX4_kindOf : MethodName := ⟨RX4, "kindOf", "(I)I"⟩
abbrev cX4_wordOfToken : ByteArray := prog_6_method_15_code
def yX4_wordOfToken : MethodName := ⟨RX4, "wordOfToken", "()I"⟩
abbrev cX4_isWord : ByteArray := prog_6_method_16_code
def yX4_isWord : MethodName := ⟨RX4, "isWord", "(II)Z"⟩
abbrev cX4_letterAt : ByteArray := prog_6_method_17_code
def yX4_letterAt : MethodName := ⟨RX4, "letterAt", "(I)I"⟩
abbrev cX4_fail : ByteArray := prog_6_method_18_code
def yX4_fail : MethodName := ⟨RX4, "fail", "(II)Z"⟩
def RX5 : String := "TypeChain$Rules"
def TX5 : u_T := fun k => match k with
  | 0 => ("TypeChain$Rules", "chain", "LTypeChain$Chain;", true)
  | 1 => ("TypeChain$Rules", "program", "LTypeChain$Program;", true)
  | 2 => ("TypeChain$Rules", "values", "[I", true)
  | _ => ("TypeChain$Rules", "channels", "[I", true)
def tyX5 : Nat → FieldType := fun k => match k with
  | 0 => .object "TypeChain$Chain"
  | 1 => .object "TypeChain$Program"
  | 2 => .array .int
  | _ => .array .int
abbrev wsX50 : List Cond := u_ws RX5 TX5 4
theorem nmX5 : ∀ a, a < 4 → ∀ b, b < 4 → a ≠ b → (TX5 a).2.1 ≠ (TX5 b).2.1 := by decide +kernel
theorem tyX5_ok : ∀ k, k < 4 → parseFieldDescriptor (TX5 k).2.2.1 = some (tyX5 k) := by decide +kernel
abbrev cX5_init : ByteArray := prog_7_method_1_code
def yX5_init : MethodName := ⟨RX5, "<init>", "()V"⟩
abbrev cX5_beAtFirst : ByteArray := prog_7_method_2_code
def yX5_beAtFirst : MethodName := ⟨RX5, "beAtFirst", "()V"⟩
abbrev cX5_settle : ByteArray := prog_7_method_3_code
def yX5_settle : MethodName := ⟨RX5, "settle", "()V"⟩
abbrev cX5_holeCount : ByteArray := prog_7_method_4_code
def yX5_holeCount : MethodName := ⟨RX5, "holeCount", "()I"⟩
abbrev cX5_rowsToHole : ByteArray := prog_7_method_5_code
def yX5_rowsToHole : MethodName := ⟨RX5, "rowsToHole", "(II)I"⟩
def RX6 : String := "TypeChain$Sheets"
def TX6 : u_T := fun k => match k with
  | 0 => ("TypeChain$Sheets", "lanes", "[I", true)
  | 1 => ("TypeChain$Sheets", "sizes", "[I", true)
  | _ => ("TypeChain$Sheets", "cells", "[I", true)
def tyX6 : Nat → FieldType := fun k => match k with
  | 0 => .array .int
  | 1 => .array .int
  | _ => .array .int
abbrev wsX60 : List Cond := u_ws RX6 TX6 3
theorem nmX6 : ∀ a, a < 3 → ∀ b, b < 3 → a ≠ b → (TX6 a).2.1 ≠ (TX6 b).2.1 := by decide +kernel
theorem tyX6_ok : ∀ k, k < 3 → parseFieldDescriptor (TX6 k).2.2.1 = some (tyX6 k) := by decide +kernel
abbrev cX6_init : ByteArray := prog_8_method_1_code
def yX6_init : MethodName := ⟨RX6, "<init>", "()V"⟩
abbrev cX6_isNothing : ByteArray := prog_8_method_2_code
def yX6_isNothing : MethodName := ⟨RX6, "isNothing", "(I)Z"⟩
abbrev cX6_hasCell : ByteArray := prog_8_method_3_code
def yX6_hasCell : MethodName := ⟨RX6, "hasCell", "(II)Z"⟩
abbrev cX6_renew : ByteArray := prog_8_method_4_code
def yX6_renew : MethodName := ⟨RX6, "renew", "(III)V"⟩
abbrev cX6_valueOf : ByteArray := prog_8_method_5_code
def yX6_valueOf : MethodName := ⟨RX6, "valueOf", "(II)I"⟩
abbrev cX6_write : ByteArray := prog_8_method_6_code
def yX6_write : MethodName := ⟨RX6, "write", "(III)V"⟩
def RX7 : String := "TypeChain$Strike"
def TX7 : u_T := fun k => match k with
  | 0 => ("TypeChain$Strike", "tickOf", "[I", true)
  | 1 => ("TypeChain$Strike", "told", "[I", true)
  | 2 => ("TypeChain$Strike", "wasMade", "Z", false)
  | 3 => ("TypeChain$Strike", "total", "I", false)
  | 4 => ("TypeChain$Strike", "most", "I", false)
  | 5 => ("TypeChain$Strike", "waited", "J", false)
  | 6 => ("TypeChain$Strike", "open", "[I", true)
  | 7 => ("TypeChain$Strike", "due", "[I", true)
  | _ => ("TypeChain$Strike", "left", "I", false)
def tyX7 : Nat → FieldType := fun k => match k with
  | 0 => .array .int
  | 1 => .array .int
  | 2 => .boolean
  | 3 => .int
  | 4 => .int
  | 5 => .long
  | 6 => .array .int
  | 7 => .array .int
  | _ => .int
abbrev wsX70 : List Cond := u_ws RX7 TX7 9
theorem nmX7 : ∀ a, a < 9 → ∀ b, b < 9 → a ≠ b → (TX7 a).2.1 ≠ (TX7 b).2.1 := by decide +kernel
theorem tyX7_ok : ∀ k, k < 9 → parseFieldDescriptor (TX7 k).2.2.1 = some (tyX7 k) := by decide +kernel
abbrev cX7_init : ByteArray := prog_9_method_1_code
def yX7_init : MethodName := ⟨RX7, "<init>", "()V"⟩
abbrev cX7_make : ByteArray := prog_9_method_2_code
def yX7_make : MethodName := ⟨RX7, "make", "(LTypeChain$Chain;[IIII)I"⟩
abbrev cX7_gather : ByteArray := prog_9_method_3_code
def yX7_gather : MethodName := ⟨RX7, "gather", "(LTypeChain$Chain;[III)V"⟩
abbrev cX7_earliestDue : ByteArray := prog_9_method_4_code
def yX7_earliestDue : MethodName := ⟨RX7, "earliestDue", "()I"⟩
abbrev cX7_strikeAt : ByteArray := prog_9_method_5_code
def yX7_strikeAt : MethodName := ⟨RX7, "strikeAt", "(II)V"⟩
abbrev cX7_shownAfterSlip : ByteArray := prog_9_method_6_code
def yX7_shownAfterSlip : MethodName := ⟨RX7, "shownAfterSlip", "(LTypeChain$Chain;II)I"⟩
abbrev cX7_fitsSlip : ByteArray := prog_9_method_7_code
def yX7_fitsSlip : MethodName := ⟨RX7, "fitsSlip", "(LTypeChain$Chain;II)Z"⟩
def RX8 : String := "TypeChain$Trials"
def TX8 : u_T := fun k => match k with
  | 0 => ("TypeChain$Trials", "printer", "LTypeChain$Printer;", true)
  | 1 => ("TypeChain$Trials", "orderLetters", "[I", true)
  | 2 => ("TypeChain$Trials", "orderTicks", "I", false)
  | 3 => ("TypeChain$Trials", "doubleTicks", "I", false)
  | 4 => ("TypeChain$Trials", "doubleLetter", "I", false)
  | 5 => ("TypeChain$Trials", "singleTicks", "I", false)
  | 6 => ("TypeChain$Trials", "chain", "LTypeChain$Chain;", true)
  | 7 => ("TypeChain$Trials", "orderKnown", "Z", false)
  | _ => ("TypeChain$Trials", "doubleKnown", "Z", false)
def tyX8 : Nat → FieldType := fun k => match k with
  | 0 => .object "TypeChain$Printer"
  | 1 => .array .int
  | 2 => .int
  | 3 => .int
  | 4 => .int
  | 5 => .int
  | 6 => .object "TypeChain$Chain"
  | 7 => .boolean
  | _ => .boolean
abbrev wsX80 : List Cond := u_ws RX8 TX8 9
theorem nmX8 : ∀ a, a < 9 → ∀ b, b < 9 → a ≠ b → (TX8 a).2.1 ≠ (TX8 b).2.1 := by decide +kernel
theorem tyX8_ok : ∀ k, k < 9 → parseFieldDescriptor (TX8 k).2.2.1 = some (tyX8 k) := by decide +kernel
abbrev cX8_init : ByteArray := prog_10_method_1_code
def yX8_init : MethodName := ⟨RX8, "<init>", "(LTypeChain$Rules;)V"⟩
abbrev cX8_forget : ByteArray := prog_10_method_2_code
def yX8_forget : MethodName := ⟨RX8, "forget", "()V"⟩
abbrev cX8_findOrder : ByteArray := prog_10_method_3_code
def yX8_findOrder : MethodName := ⟨RX8, "findOrder", "(LTypeChain$Rules;)V"⟩
abbrev cX8_keepOrder : ByteArray := prog_10_method_4_code
def yX8_keepOrder : MethodName := ⟨RX8, "keepOrder", "(I)V"⟩
abbrev cX8_findDouble : ByteArray := prog_10_method_5_code
def yX8_findDouble : MethodName := ⟨RX8, "findDouble", "(LTypeChain$Rules;)V"⟩
abbrev cX8_ticksOfRun : ByteArray := prog_10_method_6_code
def yX8_ticksOfRun : MethodName := ⟨RX8, "ticksOfRun", "(LTypeChain$Rules;)I"⟩
def RX9 : String := "TypeChain"
def TX9 : u_T := fun k => match k with
  | 0 => ("TypeChain", "rules", "LTypeChain$Rules;", false)
  | 1 => ("TypeChain", "draft", "LTypeChain$Rules;", false)
  | 2 => ("TypeChain", "reader", "LTypeChain$Reader;", true)
  | 3 => ("TypeChain", "paper", "LTypeChain$Page;", true)
  | 4 => ("TypeChain", "printer", "LTypeChain$Printer;", true)
  | 5 => ("TypeChain", "trials", "LTypeChain$Trials;", true)
  | 6 => ("TypeChain", "sheets", "LTypeChain$Sheets;", true)
  | 7 => ("TypeChain", "wasRun", "Z", false)
  | 8 => ("TypeChain", "ranTicks", "I", false)
  | 9 => ("TypeChain", "ranLines", "I", false)
  | _ => ("TypeChain", "ranEnd", "I", false)
def tyX9 : Nat → FieldType := fun k => match k with
  | 0 => .object "TypeChain$Rules"
  | 1 => .object "TypeChain$Rules"
  | 2 => .object "TypeChain$Reader"
  | 3 => .object "TypeChain$Page"
  | 4 => .object "TypeChain$Printer"
  | 5 => .object "TypeChain$Trials"
  | 6 => .object "TypeChain$Sheets"
  | 7 => .boolean
  | 8 => .int
  | 9 => .int
  | _ => .int
abbrev wsX90 : List Cond := u_ws RX9 TX9 11
theorem nmX9 : ∀ a, a < 11 → ∀ b, b < 11 → a ≠ b → (TX9 a).2.1 ≠ (TX9 b).2.1 := by decide +kernel
theorem tyX9_ok : ∀ k, k < 11 → parseFieldDescriptor (TX9 k).2.2.1 = some (tyX9 k) := by decide +kernel
abbrev cX9_init : ByteArray := prog_1_method_1_code
def yX9_init : MethodName := ⟨RX9, "<init>", "()V"⟩
abbrev cX9_feed : ByteArray := prog_1_method_2_code
def yX9_feed : MethodName := ⟨RX9, "feed", "(J)I"⟩
abbrev cX9_end : ByteArray := prog_1_method_3_code
def yX9_end : MethodName := ⟨RX9, "end", "(I)I"⟩
abbrev cX9_text : ByteArray := prog_1_method_4_code
def yX9_text : MethodName := ⟨RX9, "text", "()I"⟩
abbrev cX9_fault : ByteArray := prog_1_method_5_code
def yX9_fault : MethodName := ⟨RX9, "fault", "()I"⟩
abbrev cX9_rule : ByteArray := prog_1_method_6_code
def yX9_rule : MethodName := ⟨RX9, "rule", "(I)I"⟩
abbrev cX9_slug : ByteArray := prog_1_method_7_code
def yX9_slug : MethodName := ⟨RX9, "slug", "(I)I"⟩
abbrev cX9_holes : ByteArray := prog_1_method_8_code
def yX9_holes : MethodName := ⟨RX9, "holes", "(I)I"⟩
abbrev cX9_order : ByteArray := prog_1_method_9_code
def yX9_order : MethodName := ⟨RX9, "order", "(II)I"⟩
abbrev cX9_faces : ByteArray := prog_1_method_10_code
def yX9_faces : MethodName := ⟨RX9, "faces", "(II)I"⟩
abbrev cX9_comes : ByteArray := prog_1_method_11_code
def yX9_comes : MethodName := ⟨RX9, "comes", "(III)I"⟩
abbrev cX9_late : ByteArray := prog_1_method_12_code
def yX9_late : MethodName := ⟨RX9, "late", "(III)I"⟩
abbrev cX9_put : ByteArray := prog_1_method_13_code
def yX9_put : MethodName := ⟨RX9, "put", "(II)I"⟩
abbrev cX9_line : ByteArray := prog_1_method_14_code
def yX9_line : MethodName := ⟨RX9, "line", "(I)I"⟩
abbrev cX9_ticks : ByteArray := prog_1_method_15_code
def yX9_ticks : MethodName := ⟨RX9, "ticks", "(I)I"⟩
abbrev cX9_go : ByteArray := prog_1_method_16_code
def yX9_go : MethodName := ⟨RX9, "go", "()I"⟩
abbrev cX9_struck : ByteArray := prog_1_method_17_code
def yX9_struck : MethodName := ⟨RX9, "struck", "(I)I"⟩
abbrev cX9_slipped : ByteArray := prog_1_method_18_code
def yX9_slipped : MethodName := ⟨RX9, "slipped", "(II)I"⟩
abbrev cX9_seen : ByteArray := prog_1_method_19_code
def yX9_seen : MethodName := ⟨RX9, "seen", "(II)I"⟩
abbrev cX9_slips : ByteArray := prog_1_method_20_code
def yX9_slips : MethodName := ⟨RX9, "slips", "(I)I"⟩
abbrev cX9_space : ByteArray := prog_1_method_21_code
def yX9_space : MethodName := ⟨RX9, "space", "(I)I"⟩
abbrev cX9_skip : ByteArray := prog_1_method_22_code
def yX9_skip : MethodName := ⟨RX9, "skip", "(I)I"⟩
abbrev cX9_now : ByteArray := prog_1_method_23_code
def yX9_now : MethodName := ⟨RX9, "now", "(I)I"⟩
abbrev cX9_page : ByteArray := prog_1_method_24_code
def yX9_page : MethodName := ⟨RX9, "page", "(III)I"⟩
abbrev cX9_run : ByteArray := prog_1_method_25_code
def yX9_run : MethodName := ⟨RX9, "run", "()I"⟩
abbrev cX9_ran : ByteArray := prog_1_method_26_code
def yX9_ran : MethodName := ⟨RX9, "ran", "(I)I"⟩
abbrev cX9_best : ByteArray := prog_1_method_27_code
def yX9_best : MethodName := ⟨RX9, "best", "(I)I"⟩
abbrev cX9_twice : ByteArray := prog_1_method_28_code
def yX9_twice : MethodName := ⟨RX9, "twice", "(I)I"⟩
abbrev cX9_sheet : ByteArray := prog_1_method_29_code
def yX9_sheet : MethodName := ⟨RX9, "sheet", "(III)I"⟩
abbrev cX9_lay : ByteArray := prog_1_method_30_code
def yX9_lay : MethodName := ⟨RX9, "lay", "(III)I"⟩
abbrev cX9_read : ByteArray := prog_1_method_31_code
def yX9_read : MethodName := ⟨RX9, "read", "(III)I"⟩
abbrev cX9_count : ByteArray := prog_1_method_32_code
def yX9_count : MethodName := ⟨RX9, "count", "(I)I"⟩
abbrev cX9_takeRules : ByteArray := prog_1_method_33_code
def yX9_takeRules : MethodName := ⟨RX9, "takeRules", "()V"⟩
abbrev cX9_isColumn : ByteArray := prog_1_method_34_code
def yX9_isColumn : MethodName := ⟨RX9, "isColumn", "(I)Z"⟩
abbrev cX9_isRow : ByteArray := prog_1_method_35_code
def yX9_isRow : MethodName := ⟨RX9, "isRow", "(I)Z"⟩
abbrev cX9_isLetter : ByteArray := prog_1_method_36_code
def yX9_isLetter : MethodName := ⟨RX9, "isLetter", "(I)Z"⟩
abbrev cX9_isTick : ByteArray := prog_1_method_37_code
def yX9_isTick : MethodName := ⟨RX9, "isTick", "(I)Z"⟩
abbrev cX9_isSheet : ByteArray := prog_1_method_38_code
def yX9_isSheet : MethodName := ⟨RX9, "isSheet", "(I)Z"⟩
abbrev cX9_isLane : ByteArray := prog_1_method_39_code
def yX9_isLane : MethodName := ⟨RX9, "isLane", "(I)Z"⟩
def RX10 : String := "TypeChainModel"
def TX10 : u_T := fun k => match k with
  | 0 => ("TypeChainModel", "slugs", "I", false)
  | 1 => ("TypeChainModel", "chain", "[I", true)
  | 2 => ("TypeChainModel", "set", "[I", true)
  | 3 => ("TypeChainModel", "hole", "[I", true)
  | 4 => ("TypeChainModel", "orders", "I", false)
  | 5 => ("TypeChainModel", "act", "[I", true)
  | 6 => ("TypeChainModel", "number", "[I", true)
  | 7 => ("TypeChainModel", "lettersFrom", "[I", true)
  | 8 => ("TypeChainModel", "lettersMany", "[I", true)
  | 9 => ("TypeChainModel", "letters", "[I", true)
  | 10 => ("TypeChainModel", "dSlugs", "I", false)
  | 11 => ("TypeChainModel", "dChain", "[I", true)
  | 12 => ("TypeChainModel", "dSet", "[I", true)
  | 13 => ("TypeChainModel", "dHole", "[I", true)
  | 14 => ("TypeChainModel", "dHasHole", "Z", false)
  | 15 => ("TypeChainModel", "dOrders", "I", false)
  | 16 => ("TypeChainModel", "dAct", "[I", true)
  | 17 => ("TypeChainModel", "dNumber", "[I", true)
  | 18 => ("TypeChainModel", "dFrom", "[I", true)
  | 19 => ("TypeChainModel", "dMany", "[I", true)
  | 20 => ("TypeChainModel", "dLetters", "I", false)
  | 21 => ("TypeChainModel", "dLetter", "[I", true)
  | 22 => ("TypeChainModel", "isTold", "[Z", true)
  | 23 => ("TypeChainModel", "later", "I", false)
  | 24 => ("TypeChainModel", "laterWhat", "[I", true)
  | 25 => ("TypeChainModel", "laterAt", "[I", true)
  | 26 => ("TypeChainModel", "tape", "[I", true)
  | 27 => ("TypeChainModel", "taped", "I", false)
  | 28 => ("TypeChainModel", "pos", "I", false)
  | 29 => ("TypeChainModel", "from", "I", false)
  | 30 => ("TypeChainModel", "sort", "I", false)
  | 31 => ("TypeChainModel", "value", "I", false)
  | 32 => ("TypeChainModel", "fault", "I", false)
  | 33 => ("TypeChainModel", "wrongAt", "I", false)
  | 34 => ("TypeChainModel", "tick", "I", false)
  | 35 => ("TypeChainModel", "row", "I", false)
  | 36 => ("TypeChainModel", "pages", "I", false)
  | 37 => ("TypeChainModel", "line", "[I", true)
  | 38 => ("TypeChainModel", "print", "[I", true)
  | 39 => ("TypeChainModel", "times", "[I", true)
  | 40 => ("TypeChainModel", "at", "[I", true)
  | 41 => ("TypeChainModel", "meant", "[I", true)
  | 42 => ("TypeChainModel", "hasWaited", "[Z", true)
  | 43 => ("TypeChainModel", "busiest", "I", false)
  | 44 => ("TypeChainModel", "hasStruck", "Z", false)
  | 45 => ("TypeChainModel", "sAll", "I", false)
  | 46 => ("TypeChainModel", "sBusiest", "I", false)
  | 47 => ("TypeChainModel", "sWaited", "I", false)
  | 48 => ("TypeChainModel", "sAt", "[I", true)
  | 49 => ("TypeChainModel", "sMeant", "[I", true)
  | 50 => ("TypeChainModel", "sSeen", "[I", true)
  | 51 => ("TypeChainModel", "hasRun", "Z", false)
  | 52 => ("TypeChainModel", "rTicks", "I", false)
  | 53 => ("TypeChainModel", "rLines", "I", false)
  | 54 => ("TypeChainModel", "rEnd", "I", false)
  | 55 => ("TypeChainModel", "keptLine", "[I", true)
  | 56 => ("TypeChainModel", "keptChain", "[I", true)
  | 57 => ("TypeChainModel", "bestChain", "[I", true)
  | 58 => ("TypeChainModel", "lanes", "[I", true)
  | 59 => ("TypeChainModel", "sizes", "[I", true)
  | _ => ("TypeChainModel", "cells", "[I", true)
def tyX10 : Nat → FieldType := fun k => match k with
  | 0 => .int
  | 1 => .array .int
  | 2 => .array .int
  | 3 => .array .int
  | 4 => .int
  | 5 => .array .int
  | 6 => .array .int
  | 7 => .array .int
  | 8 => .array .int
  | 9 => .array .int
  | 10 => .int
  | 11 => .array .int
  | 12 => .array .int
  | 13 => .array .int
  | 14 => .boolean
  | 15 => .int
  | 16 => .array .int
  | 17 => .array .int
  | 18 => .array .int
  | 19 => .array .int
  | 20 => .int
  | 21 => .array .int
  | 22 => .array .boolean
  | 23 => .int
  | 24 => .array .int
  | 25 => .array .int
  | 26 => .array .int
  | 27 => .int
  | 28 => .int
  | 29 => .int
  | 30 => .int
  | 31 => .int
  | 32 => .int
  | 33 => .int
  | 34 => .int
  | 35 => .int
  | 36 => .int
  | 37 => .array .int
  | 38 => .array .int
  | 39 => .array .int
  | 40 => .array .int
  | 41 => .array .int
  | 42 => .array .boolean
  | 43 => .int
  | 44 => .boolean
  | 45 => .int
  | 46 => .int
  | 47 => .int
  | 48 => .array .int
  | 49 => .array .int
  | 50 => .array .int
  | 51 => .boolean
  | 52 => .int
  | 53 => .int
  | 54 => .int
  | 55 => .array .int
  | 56 => .array .int
  | 57 => .array .int
  | 58 => .array .int
  | 59 => .array .int
  | _ => .array .int
abbrev wsX100 : List Cond := u_ws RX10 TX10 61
theorem nmX10 : ∀ a, a < 61 → ∀ b, b < 61 → a ≠ b → (TX10 a).2.1 ≠ (TX10 b).2.1 := by decide +kernel
theorem tyX10_ok : ∀ k, k < 61 → parseFieldDescriptor (TX10 k).2.2.1 = some (tyX10 k) := by decide +kernel
abbrev cX10_init : ByteArray := prog_12_method_1_code
def yX10_init : MethodName := ⟨RX10, "<init>", "()V"⟩
abbrev cX10_in : ByteArray := prog_12_method_3_code
def yX10_in : MethodName := ⟨RX10, "in", "(JJJ)Z"⟩
abbrev cX10_countOf : ByteArray := prog_12_method_4_code
def yX10_countOf : MethodName := ⟨RX10, "countOf", "(I)I"⟩
abbrev cX10_firstDraft : ByteArray := prog_12_method_5_code
def yX10_firstDraft : MethodName := ⟨RX10, "firstDraft", "()V"⟩
abbrev cX10_keepDraft : ByteArray := prog_12_method_6_code
def yX10_keepDraft : MethodName := ⟨RX10, "keepDraft", "()V"⟩
abbrev cX10_feed : ByteArray := prog_12_method_7_code
def yX10_feed : MethodName := ⟨RX10, "feed", "(J)I"⟩
abbrev cX10_end : ByteArray := prog_12_method_8_code
def yX10_end : MethodName := ⟨RX10, "end", "(I)I"⟩
abbrev cX10_wants : ByteArray := prog_12_method_9_code
def yX10_wants : MethodName := ⟨RX10, "wants", "(ZI)V"⟩
abbrev cX10_look : ByteArray := prog_12_method_10_code
def yX10_look : MethodName := ⟨RX10, "look", "(I)I"⟩
abbrev cX10_is : ByteArray := prog_12_method_11_code
def yX10_is : MethodName := ⟨RX10, "is", "(IIIII)Z"⟩
abbrev cX10_ends2 : ByteArray := prog_12_method_12_code
def yX10_ends2 : MethodName := ⟨RX10, "ends2", "(II)Z"⟩
abbrev cX10_nameNow : ByteArray := prog_12_method_13_code
def yX10_nameNow : MethodName := ⟨RX10, "nameNow", "()I"⟩
abbrev cX10_next : ByteArray := prog_12_method_14_code
def yX10_next : MethodName := ⟨RX10, "next", "()V"⟩
abbrev cX10_readNumber : ByteArray := prog_12_method_15_code
def yX10_readNumber : MethodName := ⟨RX10, "readNumber", "(II)I"⟩
abbrev cX10_toLetters : ByteArray := prog_12_method_16_code
def yX10_toLetters : MethodName := ⟨RX10, "toLetters", "()V"⟩
abbrev cX10_readChain : ByteArray := prog_12_method_17_code
def yX10_readChain : MethodName := ⟨RX10, "readChain", "()V"⟩
abbrev cX10_asksLater : ByteArray := prog_12_method_18_code
def yX10_asksLater : MethodName := ⟨RX10, "asksLater", "(II)V"⟩
abbrev cX10_readHole : ByteArray := prog_12_method_19_code
def yX10_readHole : MethodName := ⟨RX10, "readHole", "()V"⟩
abbrev cX10_readOrder : ByteArray := prog_12_method_20_code
def yX10_readOrder : MethodName := ⟨RX10, "readOrder", "(I)V"⟩
abbrev cX10_least : ByteArray := prog_12_method_21_code
def yX10_least : MethodName := ⟨RX10, "least", "(I)I"⟩
abbrev cX10_most : ByteArray := prog_12_method_22_code
def yX10_most : MethodName := ⟨RX10, "most", "(I)I"⟩
abbrev cX10_readLine : ByteArray := prog_12_method_23_code
def yX10_readLine : MethodName := ⟨RX10, "readLine", "()V"⟩
abbrev cX10_text : ByteArray := prog_12_method_24_code
def yX10_text : MethodName := ⟨RX10, "text", "()I"⟩
abbrev cX10_fault : ByteArray := prog_12_method_25_code
def yX10_fault : MethodName := ⟨RX10, "fault", "()I"⟩
abbrev cX10_rule : ByteArray := prog_12_method_26_code
def yX10_rule : MethodName := ⟨RX10, "rule", "(I)I"⟩
abbrev cX10_slug : ByteArray := prog_12_method_27_code
def yX10_slug : MethodName := ⟨RX10, "slug", "(I)I"⟩
abbrev cX10_holes : ByteArray := prog_12_method_28_code
def yX10_holes : MethodName := ⟨RX10, "holes", "(I)I"⟩
abbrev cX10_order : ByteArray := prog_12_method_29_code
def yX10_order : MethodName := ⟨RX10, "order", "(II)I"⟩
abbrev cX10_slugAt : ByteArray := prog_12_method_30_code
def yX10_slugAt : MethodName := ⟨RX10, "slugAt", "(II)I"⟩
abbrev cX10_letterAt : ByteArray := prog_12_method_31_code
def yX10_letterAt : MethodName := ⟨RX10, "letterAt", "(II)I"⟩
abbrev cX10_isColumn : ByteArray := prog_12_method_32_code
def yX10_isColumn : MethodName := ⟨RX10, "isColumn", "(I)Z"⟩
abbrev cX10_faces : ByteArray := prog_12_method_33_code
def yX10_faces : MethodName := ⟨RX10, "faces", "(II)I"⟩
abbrev cX10_has : ByteArray := prog_12_method_34_code
def yX10_has : MethodName := ⟨RX10, "has", "(I)Z"⟩
abbrev cX10_comesBy : ByteArray := prog_12_method_35_code
def yX10_comesBy : MethodName := ⟨RX10, "comesBy", "(III)I"⟩
abbrev cX10_comes : ByteArray := prog_12_method_36_code
def yX10_comes : MethodName := ⟨RX10, "comes", "(III)I"⟩
abbrev cX10_late : ByteArray := prog_12_method_37_code
def yX10_late : MethodName := ⟨RX10, "late", "(III)I"⟩
abbrev cX10_begins : ByteArray := prog_12_method_38_code
def yX10_begins : MethodName := ⟨RX10, "begins", "()V"⟩
abbrev cX10_blankPage : ByteArray := prog_12_method_39_code
def yX10_blankPage : MethodName := ⟨RX10, "blankPage", "()V"⟩
abbrev cX10_put : ByteArray := prog_12_method_40_code
def yX10_put : MethodName := ⟨RX10, "put", "(II)I"⟩
abbrev cX10_line : ByteArray := prog_12_method_41_code
def yX10_line : MethodName := ⟨RX10, "line", "(I)I"⟩
abbrev cX10_canGo : ByteArray := prog_12_method_42_code
def yX10_canGo : MethodName := ⟨RX10, "canGo", "()Z"⟩
abbrev cX10_strikes : ByteArray := prog_12_method_43_code
def yX10_strikes : MethodName := ⟨RX10, "strikes", "(I)I"⟩
abbrev cX10_ticks : ByteArray := prog_12_method_44_code
def yX10_ticks : MethodName := ⟨RX10, "ticks", "(I)I"⟩
abbrev cX10_goes : ByteArray := prog_12_method_45_code
def yX10_goes : MethodName := ⟨RX10, "goes", "()I"⟩
abbrev cX10_go : ByteArray := prog_12_method_46_code
def yX10_go : MethodName := ⟨RX10, "go", "()I"⟩
abbrev cX10_struck : ByteArray := prog_12_method_47_code
def yX10_struck : MethodName := ⟨RX10, "struck", "(I)I"⟩
abbrev cX10_shows : ByteArray := prog_12_method_48_code
def yX10_shows : MethodName := ⟨RX10, "shows", "(II)I"⟩
abbrev cX10_slipped : ByteArray := prog_12_method_49_code
def yX10_slipped : MethodName := ⟨RX10, "slipped", "(II)I"⟩
abbrev cX10_seen : ByteArray := prog_12_method_50_code
def yX10_seen : MethodName := ⟨RX10, "seen", "(II)I"⟩
abbrev cX10_slips : ByteArray := prog_12_method_51_code
def yX10_slips : MethodName := ⟨RX10, "slips", "(I)I"⟩
abbrev cX10_moves : ByteArray := prog_12_method_52_code
def yX10_moves : MethodName := ⟨RX10, "moves", "(IZ)I"⟩
abbrev cX10_toHole : ByteArray := prog_12_method_53_code
def yX10_toHole : MethodName := ⟨RX10, "toHole", "(I)I"⟩
abbrev cX10_space : ByteArray := prog_12_method_54_code
def yX10_space : MethodName := ⟨RX10, "space", "(I)I"⟩
abbrev cX10_skip : ByteArray := prog_12_method_55_code
def yX10_skip : MethodName := ⟨RX10, "skip", "(I)I"⟩
abbrev cX10_now : ByteArray := prog_12_method_56_code
def yX10_now : MethodName := ⟨RX10, "now", "(I)I"⟩
abbrev cX10_page : ByteArray := prog_12_method_57_code
def yX10_page : MethodName := ⟨RX10, "page", "(III)I"⟩
abbrev cX10_puts : ByteArray := prog_12_method_58_code
def yX10_puts : MethodName := ⟨RX10, "puts", "(I)V"⟩
abbrev cX10_does : ByteArray := prog_12_method_59_code
def yX10_does : MethodName := ⟨RX10, "does", "(IZ)Z"⟩
abbrev cX10_run : ByteArray := prog_12_method_60_code
def yX10_run : MethodName := ⟨RX10, "run", "()I"⟩
abbrev cX10_ran : ByteArray := prog_12_method_61_code
def yX10_ran : MethodName := ⟨RX10, "ran", "(I)I"⟩
abbrev cX10_tries : ByteArray := prog_12_method_62_code
def yX10_tries : MethodName := ⟨RX10, "tries", "()I"⟩
abbrev cX10_keepChain : ByteArray := prog_12_method_63_code
def yX10_keepChain : MethodName := ⟨RX10, "keepChain", "()V"⟩
abbrev cX10_chainAgain : ByteArray := prog_12_method_64_code
def yX10_chainAgain : MethodName := ⟨RX10, "chainAgain", "()V"⟩
abbrev cX10_goesOn : ByteArray := prog_12_method_65_code
def yX10_goesOn : MethodName := ⟨RX10, "goesOn", "()Z"⟩
abbrev cX10_swaps : ByteArray := prog_12_method_66_code
def yX10_swaps : MethodName := ⟨RX10, "swaps", "(II)V"⟩
abbrev cX10_best : ByteArray := prog_12_method_67_code
def yX10_best : MethodName := ⟨RX10, "best", "(I)I"⟩
abbrev cX10_twice : ByteArray := prog_12_method_68_code
def yX10_twice : MethodName := ⟨RX10, "twice", "(I)I"⟩
abbrev cX10_isSheet : ByteArray := prog_12_method_69_code
def yX10_isSheet : MethodName := ⟨RX10, "isSheet", "(II)Z"⟩
abbrev cX10_sheet : ByteArray := prog_12_method_70_code
def yX10_sheet : MethodName := ⟨RX10, "sheet", "(III)I"⟩
abbrev cX10_lay : ByteArray := prog_12_method_71_code
def yX10_lay : MethodName := ⟨RX10, "lay", "(III)I"⟩
abbrev cX10_lettersNow : ByteArray := prog_12_method_72_code
def yX10_lettersNow : MethodName := ⟨RX10, "lettersNow", "()I"⟩
abbrev cX10_read : ByteArray := prog_12_method_73_code
def yX10_read : MethodName := ⟨RX10, "read", "(III)I"⟩
abbrev cX10_count : ByteArray := prog_12_method_74_code
def yX10_count : MethodName := ⟨RX10, "count", "(I)I"⟩
def RJ6 : String := "java/lang/Integer"
def TJ6 : u_T := fun k => match k with
  | _ => ("", "", "", false)
def tyJ6 : Nat → FieldType := fun k => match k with
  | _ => .int
abbrev wsJ60 : List Cond := u_ws RJ6 TJ6 0
theorem nmJ6 : ∀ a, a < 0 → ∀ b, b < 0 → a ≠ b → (TJ6 a).2.1 ≠ (TJ6 b).2.1 := by decide +kernel
theorem tyJ6_ok : ∀ k, k < 0 → parseFieldDescriptor (TJ6 k).2.2.1 = some (tyJ6 k) := by decide +kernel
abbrev cJ6_bitCount_0f7a4 : ByteArray := prog_13_method_49_code
def yJ6_bitCount_0f7a4 : MethodName := ⟨RJ6, "bitCount", "(I)I"⟩
def RJ13 : String := "java/lang/Long"
def TJ13 : u_T := fun k => match k with
  | _ => ("", "", "", false)
def tyJ13 : Nat → FieldType := fun k => match k with
  | _ => .int
abbrev wsJ130 : List Cond := u_ws RJ13 TJ13 0
theorem nmJ13 : ∀ a, a < 0 → ∀ b, b < 0 → a ≠ b → (TJ13 a).2.1 ≠ (TJ13 b).2.1 := by decide +kernel
theorem tyJ13_ok : ∀ k, k < 0 → parseFieldDescriptor (TJ13 k).2.2.1 = some (tyJ13 k) := by decide +kernel
abbrev cJ13_bitCount_95d88 : ByteArray := prog_14_method_50_code
def yJ13_bitCount_95d88 : MethodName := ⟨RJ13, "bitCount", "(J)I"⟩
def RJ9 : String := "java/lang/Math"
def TJ9 : u_T := fun k => match k with
  | _ => ("", "", "", false)
def tyJ9 : Nat → FieldType := fun k => match k with
  | _ => .int
abbrev wsJ90 : List Cond := u_ws RJ9 TJ9 0
theorem nmJ9 : ∀ a, a < 0 → ∀ b, b < 0 → a ≠ b → (TJ9 a).2.1 ≠ (TJ9 b).2.1 := by decide +kernel
theorem tyJ9_ok : ∀ k, k < 0 → parseFieldDescriptor (TJ9 k).2.2.1 = some (tyJ9 k) := by decide +kernel
abbrev cJ9_max_7cf53 : ByteArray := prog_15_method_65_code
def yJ9_max_7cf53 : MethodName := ⟨RJ9, "max", "(II)I"⟩
abbrev cJ9_min_7cf53 : ByteArray := prog_15_method_69_code
def yJ9_min_7cf53 : MethodName := ⟨RJ9, "min", "(II)I"⟩
def RJ0 : String := "java/lang/String"
def TJ0 : u_T := fun k => match k with
  | _ => ("", "", "", false)
def tyJ0 : Nat → FieldType := fun k => match k with
  | _ => .int
abbrev wsJ00 : List Cond := u_ws RJ0 TJ0 0
theorem nmJ0 : ∀ a, a < 0 → ∀ b, b < 0 → a ≠ b → (TJ0 a).2.1 ≠ (TJ0 b).2.1 := by decide +kernel
theorem tyJ0_ok : ∀ k, k < 0 → parseFieldDescriptor (TJ0 k).2.2.1 = some (tyJ0 k) := by decide +kernel
abbrev cJ0_charAt_5068e : ByteArray := prog_16_method_56_code
def yJ0_charAt_5068e : MethodName := ⟨RJ0, "charAt", "(I)C"⟩
abbrev cJ0_isLatin1_aae02 : ByteArray := prog_16_method_154_code
def yJ0_isLatin1_aae02 : MethodName := ⟨RJ0, "isLatin1", "()Z"⟩
abbrev cJ0_checkIndex_df160 : ByteArray := prog_16_method_155_code
def yJ0_checkIndex_df160 : MethodName := ⟨RJ0, "checkIndex", "(II)V"⟩
def RJ1 : String := "java/lang/StringLatin1"
def TJ1 : u_T := fun k => match k with
  | _ => ("", "", "", false)
def tyJ1 : Nat → FieldType := fun k => match k with
  | _ => .int
abbrev wsJ10 : List Cond := u_ws RJ1 TJ1 0
theorem nmJ1 : ∀ a, a < 0 → ∀ b, b < 0 → a ≠ b → (TJ1 a).2.1 ≠ (TJ1 b).2.1 := by decide +kernel
theorem tyJ1_ok : ∀ k, k < 0 → parseFieldDescriptor (TJ1 k).2.2.1 = some (tyJ1 k) := by decide +kernel
abbrev cJ1_charAt_3b067 : ByteArray := prog_17_method_2_code
def yJ1_charAt_3b067 : MethodName := ⟨RJ1, "charAt", "([BI)C"⟩
def RJ2 : String := "java/lang/StringUTF16"
def TJ2 : u_T := fun k => match k with
  | _ => ("", "", "", false)
def tyJ2 : Nat → FieldType := fun k => match k with
  | _ => .int
abbrev wsJ20 : List Cond := u_ws RJ2 TJ2 0
theorem nmJ2 : ∀ a, a < 0 → ∀ b, b < 0 → a ≠ b → (TJ2 a).2.1 ≠ (TJ2 b).2.1 := by decide +kernel
theorem tyJ2_ok : ∀ k, k < 0 → parseFieldDescriptor (TJ2 k).2.2.1 = some (tyJ2 k) := by decide +kernel
abbrev cJ2_getChar_3b067 : ByteArray := prog_18_method_5_code
def yJ2_getChar_3b067 : MethodName := ⟨RJ2, "getChar", "([BI)C"⟩
abbrev cJ2_length_9d52b : ByteArray := prog_18_method_6_code
def yJ2_length_9d52b : MethodName := ⟨RJ2, "length", "([B)I"⟩
abbrev cJ2_charAt_3b067 : ByteArray := prog_18_method_83_code
def yJ2_charAt_3b067 : MethodName := ⟨RJ2, "charAt", "([BI)C"⟩
abbrev cJ2_checkIndex_2214a : ByteArray := prog_18_method_91_code
def yJ2_checkIndex_2214a : MethodName := ⟨RJ2, "checkIndex", "(I[B)V"⟩
def RJ10 : String := "java/lang/System"
def TJ10 : u_T := fun k => match k with
  | _ => ("", "", "", false)
def tyJ10 : Nat → FieldType := fun k => match k with
  | _ => .int
abbrev wsJ100 : List Cond := u_ws RJ10 TJ10 0
theorem nmJ10 : ∀ a, a < 0 → ∀ b, b < 0 → a ≠ b → (TJ10 a).2.1 ≠ (TJ10 b).2.1 := by decide +kernel
theorem tyJ10_ok : ∀ k, k < 0 → parseFieldDescriptor (TJ10 k).2.2.1 = some (tyJ10 k) := by decide +kernel
def RJ7 : String := "java/util/Arrays"
def TJ7 : u_T := fun k => match k with
  | _ => ("", "", "", false)
def tyJ7 : Nat → FieldType := fun k => match k with
  | _ => .int
abbrev wsJ70 : List Cond := u_ws RJ7 TJ7 0
theorem nmJ7 : ∀ a, a < 0 → ∀ b, b < 0 → a ≠ b → (TJ7 a).2.1 ≠ (TJ7 b).2.1 := by decide +kernel
theorem tyJ7_ok : ∀ k, k < 0 → parseFieldDescriptor (TJ7 k).2.2.1 = some (tyJ7 k) := by decide +kernel
abbrev cJ7_fill_53178 : ByteArray := prog_20_method_103_code
def yJ7_fill_53178 : MethodName := ⟨RJ7, "fill", "([II)V"⟩
def RJ3 : String := "jdk/internal/util/Preconditions"
def TJ3 : u_T := fun k => match k with
  | _ => ("", "", "", false)
def tyJ3 : Nat → FieldType := fun k => match k with
  | _ => .int
abbrev wsJ30 : List Cond := u_ws RJ3 TJ3 0
theorem nmJ3 : ∀ a, a < 0 → ∀ b, b < 0 → a ≠ b → (TJ3 a).2.1 ≠ (TJ3 b).2.1 := by decide +kernel
theorem tyJ3_ok : ∀ k, k < 0 → parseFieldDescriptor (TJ3 k).2.2.1 = some (tyJ3 k) := by decide +kernel
abbrev cJ3_checkIndex_8e157 : ByteArray := prog_21_method_11_code
def yJ3_checkIndex_8e157 : MethodName := ⟨RJ3, "checkIndex", "(IILjava/util/function/BiFunction;)I"⟩
def RL : String := "TypeChainLaw"
abbrev cL_law : ByteArray := code
def yL_law : MethodName := ⟨RL, "law", "([I)Z"⟩
abbrev vwCl : List vw_C := [(RX0, TX0, 4), (RX1, TX1, 2), (RX2, TX2, 9), (RX3, TX3, 7), (RX4, TX4, 14), (RX5, TX5, 4), (RX6, TX6, 3), (RX7, TX7, 9), (RX8, TX8, 9), (RX9, TX9, 11), (RX10, TX10, 61)]
end
section
def zgw : Cond → Bool
  | .fieldLinkNest _ _ _ _ _ _ => true
  | .methodLinkNest _ _ _ _ => true
  | w => goodWord w
def zTbl (w : Cond) : Prop := w ∈ lw_tbl ∧ zgw w = true
theorem ztin1 {w : Cond} (h : w ∈ tables_1_1) : w ∈ lw_tbl := List.mem_append_right _ (show w ∈ tables_1 from List.mem_append_left _ h)
theorem ztin2 {w : Cond} (h : w ∈ tables_1_2) : w ∈ lw_tbl := List.mem_append_right _ (show w ∈ tables_1 from List.mem_append_right _ (List.mem_append_left _ h))
theorem ztin3 {w : Cond} (h : w ∈ tables_1_3) : w ∈ lw_tbl := List.mem_append_right _ (show w ∈ tables_1 from List.mem_append_right _ (List.mem_append_right _ (List.mem_append_left _ h)))
theorem ztin4 {w : Cond} (h : w ∈ tables_1_4) : w ∈ lw_tbl := List.mem_append_right _ (show w ∈ tables_1 from List.mem_append_right _ (List.mem_append_right _ (List.mem_append_right _ (List.mem_append_left _ h))))
theorem ztin5 {w : Cond} (h : w ∈ tables_1_5) : w ∈ lw_tbl := List.mem_append_right _ (show w ∈ tables_1 from List.mem_append_right _ (List.mem_append_right _ (List.mem_append_right _ (List.mem_append_right _ (List.mem_append_left _ h)))))
theorem ztin6 {w : Cond} (h : w ∈ tables_1_6) : w ∈ lw_tbl := List.mem_append_right _ (show w ∈ tables_1 from List.mem_append_right _ (List.mem_append_right _ (List.mem_append_right _ (List.mem_append_right _ (List.mem_append_right _ (h))))))
theorem ztinp {w : Cond} (h : w ∈ k2_sels lw_privs) : w ∈ lw_tbl := List.mem_append_left _ h
theorem q_0 : zTbl (Cond.initialized "TypeChainLaw") := ⟨ztin1 (List.mem_of_getElem? (i := 0) rfl), rfl⟩
theorem q_1 : zTbl (Cond.initialized "TypeChain") := ⟨ztin1 (List.mem_of_getElem? (i := 1) rfl), rfl⟩
theorem q_2 : zTbl (Cond.initialized "TypeChain$Rules") := ⟨ztin1 (List.mem_of_getElem? (i := 2) rfl), rfl⟩
theorem q_3 : zTbl (Cond.initialized "TypeChain$Chain") := ⟨ztin1 (List.mem_of_getElem? (i := 3) rfl), rfl⟩
theorem q_4 : zTbl (Cond.initialized "TypeChain$Program") := ⟨ztin1 (List.mem_of_getElem? (i := 4) rfl), rfl⟩
theorem q_5 : zTbl (Cond.initialized "java/lang/System") := ⟨ztin1 (List.mem_of_getElem? (i := 5) rfl), rfl⟩
theorem q_6 : zTbl (Cond.initialized "java/util/Arrays") := ⟨ztin1 (List.mem_of_getElem? (i := 6) rfl), rfl⟩
theorem q_7 : zTbl (Cond.initialized "java/lang/Integer") := ⟨ztin1 (List.mem_of_getElem? (i := 7) rfl), rfl⟩
theorem q_8 : zTbl (Cond.initialized "TypeChain$Reader") := ⟨ztin1 (List.mem_of_getElem? (i := 8) rfl), rfl⟩
theorem q_9 : zTbl (Cond.initialized "TypeChain$Page") := ⟨ztin1 (List.mem_of_getElem? (i := 9) rfl), rfl⟩
theorem q_10 : zTbl (Cond.initialized "TypeChain$Printer") := ⟨ztin1 (List.mem_of_getElem? (i := 10) rfl), rfl⟩
theorem q_11 : zTbl (Cond.initialized "TypeChain$Strike") := ⟨ztin1 (List.mem_of_getElem? (i := 11) rfl), rfl⟩
theorem q_12 : zTbl (Cond.initialized "TypeChain$Trials") := ⟨ztin1 (List.mem_of_getElem? (i := 12) rfl), rfl⟩
theorem q_13 : zTbl (Cond.initialized "TypeChain$Sheets") := ⟨ztin1 (List.mem_of_getElem? (i := 13) rfl), rfl⟩
theorem q_14 : zTbl (Cond.initialized "TypeChainModel") := ⟨ztin1 (List.mem_of_getElem? (i := 14) rfl), rfl⟩
theorem q_15 : zTbl (Cond.initialized "java/lang/String") := ⟨ztin1 (List.mem_of_getElem? (i := 15) rfl), rfl⟩
theorem q_16 : zTbl (Cond.initialized "java/lang/StringLatin1") := ⟨ztin1 (List.mem_of_getElem? (i := 16) rfl), rfl⟩
theorem q_17 : zTbl (Cond.initialized "jdk/internal/util/Preconditions") := ⟨ztin1 (List.mem_of_getElem? (i := 17) rfl), rfl⟩
theorem q_18 : zTbl (Cond.initialized "java/lang/StringUTF16") := ⟨ztin1 (List.mem_of_getElem? (i := 18) rfl), rfl⟩
theorem q_19 : zTbl (Cond.initialized "java/lang/Math") := ⟨ztin1 (List.mem_of_getElem? (i := 19) rfl), rfl⟩
theorem q_20 : zTbl (Cond.initialized "java/lang/Long") := ⟨ztin1 (List.mem_of_getElem? (i := 20) rfl), rfl⟩
theorem q_21 : zTbl (Cond.classLink "TypeChainLaw" (7 : Nat) "TypeChain") := ⟨ztin1 (List.mem_of_getElem? (i := 21) rfl), rfl⟩
theorem q_22 : zTbl (Cond.instantiable "TypeChain" (11 : Nat)) := ⟨ztin1 (List.mem_of_getElem? (i := 22) rfl), rfl⟩
theorem q_23 : zTbl (Cond.methodLink "TypeChainLaw" (9 : Nat) ({ cls := "TypeChain", name := "<init>", desc := "()V" } : MethodName)) := ⟨ztin1 (List.mem_of_getElem? (i := 23) rfl), rfl⟩
theorem q_24 : zTbl (Cond.instanceMethod ({ cls := "TypeChain", name := "<init>", desc := "()V" } : MethodName)) := ⟨ztin1 (List.mem_of_getElem? (i := 24) rfl), rfl⟩
theorem q_25 : zTbl (Cond.code ({ cls := "TypeChain", name := "<init>", desc := "()V" } : MethodName) prog_1_method_1_code (1 : Nat) (Option.none : Option Jvm.ClassFile.FieldType)) := ⟨ztin1 (List.mem_of_getElem? (i := 25) rfl), rfl⟩
theorem q_26 : zTbl (Cond.methodLink "TypeChain" (3 : Nat) ({ cls := "java/lang/Object", name := "<init>", desc := "()V" } : MethodName)) := ⟨ztin1 (List.mem_of_getElem? (i := 26) rfl), rfl⟩
theorem q_27 : zTbl (Cond.instanceMethod ({ cls := "java/lang/Object", name := "<init>", desc := "()V" } : MethodName)) := ⟨ztin1 (List.mem_of_getElem? (i := 27) rfl), rfl⟩
theorem q_28 : zTbl (Cond.code ({ cls := "java/lang/Object", name := "<init>", desc := "()V" } : MethodName) object_method_1_code (1 : Nat) (Option.none : Option Jvm.ClassFile.FieldType)) := ⟨ztin1 (List.mem_of_getElem? (i := 28) rfl), rfl⟩
theorem q_29 : zTbl (Cond.classLink "TypeChain" (9 : Nat) "TypeChain$Rules") := ⟨ztin1 (List.mem_of_getElem? (i := 29) rfl), rfl⟩
theorem q_30 : zTbl (Cond.instantiable "TypeChain$Rules" (4 : Nat)) := ⟨ztin1 (List.mem_of_getElem? (i := 30) rfl), rfl⟩
theorem q_31 : zTbl (Cond.methodLink "TypeChain" (11 : Nat) ({ cls := "TypeChain$Rules", name := "<init>", desc := "()V" } : MethodName)) := ⟨ztin1 (List.mem_of_getElem? (i := 31) rfl), rfl⟩
theorem q_32 : zTbl (Cond.instanceMethod ({ cls := "TypeChain$Rules", name := "<init>", desc := "()V" } : MethodName)) := ⟨ztin1 (List.mem_of_getElem? (i := 32) rfl), rfl⟩
theorem q_33 : zTbl (Cond.code ({ cls := "TypeChain$Rules", name := "<init>", desc := "()V" } : MethodName) prog_7_method_1_code (1 : Nat) (Option.none : Option Jvm.ClassFile.FieldType)) := ⟨ztin1 (List.mem_of_getElem? (i := 33) rfl), rfl⟩
theorem q_34 : zTbl (Cond.methodLink "TypeChain$Rules" (3 : Nat) ({ cls := "java/lang/Object", name := "<init>", desc := "()V" } : MethodName)) := ⟨ztin1 (List.mem_of_getElem? (i := 34) rfl), rfl⟩
theorem q_35 : zTbl (Cond.classLink "TypeChain$Rules" (9 : Nat) "TypeChain$Chain") := ⟨ztin1 (List.mem_of_getElem? (i := 35) rfl), rfl⟩
theorem q_36 : zTbl (Cond.instantiable "TypeChain$Chain" (4 : Nat)) := ⟨ztin1 (List.mem_of_getElem? (i := 36) rfl), rfl⟩
theorem q_37 : zTbl (Cond.methodLinkNest "TypeChain$Rules" (11 : Nat) ({ cls := "TypeChain$Chain", name := "<init>", desc := "()V" } : MethodName) "TypeChain") := ⟨ztin1 (List.mem_of_getElem? (i := 37) rfl), rfl⟩
theorem q_38 : zTbl (Cond.instanceMethod ({ cls := "TypeChain$Chain", name := "<init>", desc := "()V" } : MethodName)) := ⟨ztin1 (List.mem_of_getElem? (i := 38) rfl), rfl⟩
theorem q_39 : zTbl (Cond.code ({ cls := "TypeChain$Chain", name := "<init>", desc := "()V" } : MethodName) prog_2_method_1_code (1 : Nat) (Option.none : Option Jvm.ClassFile.FieldType)) := ⟨ztin1 (List.mem_of_getElem? (i := 39) rfl), rfl⟩
theorem q_40 : zTbl (Cond.methodLink "TypeChain$Chain" (3 : Nat) ({ cls := "java/lang/Object", name := "<init>", desc := "()V" } : MethodName)) := ⟨ztin1 (List.mem_of_getElem? (i := 40) rfl), rfl⟩
theorem q_41 : zTbl (Cond.fieldLink "TypeChain$Chain" (9 : Nat) "TypeChain$Chain" "letters" "[I") := ⟨ztin1 (List.mem_of_getElem? (i := 41) rfl), rfl⟩
theorem q_42 : zTbl (Cond.fieldLink "TypeChain$Rules" (51 : Nat) "TypeChain$Chain" "letters" "[I") := ⟨ztin1 (List.mem_of_getElem? (i := 42) rfl), rfl⟩
theorem q_43 : zTbl (Cond.fieldLink "TypeChain$Trials" (64 : Nat) "TypeChain$Chain" "letters" "[I") := ⟨ztin1 (List.mem_of_getElem? (i := 43) rfl), rfl⟩
theorem q_44 : zTbl (Cond.fieldLink "TypeChain$Strike" (75 : Nat) "TypeChain$Chain" "letters" "[I") := ⟨ztin1 (List.mem_of_getElem? (i := 44) rfl), rfl⟩
theorem q_45 : zTbl (Cond.fieldLink "TypeChain$Reader" (132 : Nat) "TypeChain$Chain" "letters" "[I") := ⟨ztin1 (List.mem_of_getElem? (i := 45) rfl), rfl⟩
theorem q_46 : zTbl (Cond.fieldLink "TypeChain" (102 : Nat) "TypeChain$Chain" "letters" "[I") := ⟨ztin1 (List.mem_of_getElem? (i := 46) rfl), rfl⟩
theorem q_47 : zTbl (Cond.fieldLink "TypeChain$Chain" (21 : Nat) "TypeChain$Chain" "size" "I") := ⟨ztin1 (List.mem_of_getElem? (i := 47) rfl), rfl⟩
theorem q_48 : zTbl (Cond.fieldLink "TypeChain$Rules" (47 : Nat) "TypeChain$Chain" "size" "I") := ⟨ztin1 (List.mem_of_getElem? (i := 48) rfl), rfl⟩
theorem q_49 : zTbl (Cond.fieldLink "TypeChain$Trials" (79 : Nat) "TypeChain$Chain" "size" "I") := ⟨ztin1 (List.mem_of_getElem? (i := 49) rfl), rfl⟩
theorem q_50 : zTbl (Cond.fieldLink "TypeChain$Strike" (72 : Nat) "TypeChain$Chain" "size" "I") := ⟨ztin1 (List.mem_of_getElem? (i := 50) rfl), rfl⟩
theorem q_51 : zTbl (Cond.fieldLink "TypeChain" (95 : Nat) "TypeChain$Chain" "size" "I") := ⟨ztin1 (List.mem_of_getElem? (i := 51) rfl), rfl⟩
theorem q_52 : zTbl (Cond.fieldLink "TypeChain$Reader" (141 : Nat) "TypeChain$Chain" "size" "I") := ⟨ztin1 (List.mem_of_getElem? (i := 52) rfl), rfl⟩
theorem q_53 : zTbl (Cond.fieldLink "TypeChain$Chain" (25 : Nat) "TypeChain$Chain" "pitch" "I") := ⟨ztin1 (List.mem_of_getElem? (i := 53) rfl), rfl⟩
theorem q_54 : zTbl (Cond.fieldLink "TypeChain$Rules" (63 : Nat) "TypeChain$Chain" "pitch" "I") := ⟨ztin1 (List.mem_of_getElem? (i := 54) rfl), rfl⟩
theorem q_55 : zTbl (Cond.fieldLink "TypeChain$Chain" (28 : Nat) "TypeChain$Chain" "gap" "I") := ⟨ztin1 (List.mem_of_getElem? (i := 55) rfl), rfl⟩
theorem q_56 : zTbl (Cond.fieldLink "TypeChain$Rules" (66 : Nat) "TypeChain$Chain" "gap" "I") := ⟨ztin1 (List.mem_of_getElem? (i := 56) rfl), rfl⟩
theorem q_57 : zTbl (Cond.laysFinal "TypeChain$Chain" "TypeChain$Chain" "letters" "[I") := ⟨ztin1 (List.mem_of_getElem? (i := 57) rfl), rfl⟩
theorem q_58 : Cond.soleField "TypeChain$Chain" "letters" ∈ lw_tbl := ztin1 (List.mem_of_getElem? (i := 58) rfl)
theorem q_59 : zTbl (Cond.lays "TypeChain$Chain" "TypeChain$Chain" "size" "I") := ⟨ztin1 (List.mem_of_getElem? (i := 59) rfl), rfl⟩
theorem q_60 : Cond.soleField "TypeChain$Chain" "size" ∈ lw_tbl := ztin1 (List.mem_of_getElem? (i := 60) rfl)
theorem q_61 : zTbl (Cond.lays "TypeChain$Chain" "TypeChain$Chain" "pitch" "I") := ⟨ztin1 (List.mem_of_getElem? (i := 61) rfl), rfl⟩
theorem q_62 : Cond.soleField "TypeChain$Chain" "pitch" ∈ lw_tbl := ztin1 (List.mem_of_getElem? (i := 62) rfl)
theorem q_63 : zTbl (Cond.lays "TypeChain$Chain" "TypeChain$Chain" "gap" "I") := ⟨ztin1 (List.mem_of_getElem? (i := 63) rfl), rfl⟩
theorem q_64 : Cond.soleField "TypeChain$Chain" "gap" ∈ lw_tbl := ztin1 (List.mem_of_getElem? (i := 64) rfl)
theorem q_65 : zTbl (Cond.superclass "TypeChain$Chain" "java/lang/Object") := ⟨ztin1 (List.mem_of_getElem? (i := 65) rfl), rfl⟩
theorem q_66 : zTbl (Cond.arrayClass FieldType.int) := ⟨ztin1 (List.mem_of_getElem? (i := 66) rfl), rfl⟩
theorem q_67 : zTbl (Cond.classLink "TypeChain$Rules" (18 : Nat) "TypeChain$Program") := ⟨ztin1 (List.mem_of_getElem? (i := 67) rfl), rfl⟩
theorem q_68 : zTbl (Cond.instantiable "TypeChain$Program" (7 : Nat)) := ⟨ztin1 (List.mem_of_getElem? (i := 68) rfl), rfl⟩
theorem q_69 : zTbl (Cond.methodLinkNest "TypeChain$Rules" (20 : Nat) ({ cls := "TypeChain$Program", name := "<init>", desc := "()V" } : MethodName) "TypeChain") := ⟨ztin1 (List.mem_of_getElem? (i := 69) rfl), rfl⟩
theorem q_70 : zTbl (Cond.instanceMethod ({ cls := "TypeChain$Program", name := "<init>", desc := "()V" } : MethodName)) := ⟨ztin1 (List.mem_of_getElem? (i := 70) rfl), rfl⟩
theorem q_71 : zTbl (Cond.code ({ cls := "TypeChain$Program", name := "<init>", desc := "()V" } : MethodName) prog_5_method_1_code (1 : Nat) (Option.none : Option Jvm.ClassFile.FieldType)) := ⟨ztin1 (List.mem_of_getElem? (i := 71) rfl), rfl⟩
theorem q_72 : zTbl (Cond.methodLink "TypeChain$Program" (3 : Nat) ({ cls := "java/lang/Object", name := "<init>", desc := "()V" } : MethodName)) := ⟨ztin1 (List.mem_of_getElem? (i := 72) rfl), rfl⟩
theorem q_73 : zTbl (Cond.fieldLink "TypeChain$Program" (9 : Nat) "TypeChain$Program" "kinds" "[I") := ⟨ztin1 (List.mem_of_getElem? (i := 73) rfl), rfl⟩
theorem q_74 : zTbl (Cond.fieldLink "TypeChain$Printer" (105 : Nat) "TypeChain$Program" "kinds" "[I") := ⟨ztin1 (List.mem_of_getElem? (i := 74) rfl), rfl⟩
theorem q_75 : zTbl (Cond.fieldLink "TypeChain" (112 : Nat) "TypeChain$Program" "kinds" "[I") := ⟨ztin1 (List.mem_of_getElem? (i := 75) rfl), rfl⟩
theorem q_76 : zTbl (Cond.fieldLink "TypeChain$Program" (15 : Nat) "TypeChain$Program" "numbers" "[I") := ⟨ztin1 (List.mem_of_getElem? (i := 76) rfl), rfl⟩
theorem q_77 : zTbl (Cond.fieldLink "TypeChain$Printer" (115 : Nat) "TypeChain$Program" "numbers" "[I") := ⟨ztin1 (List.mem_of_getElem? (i := 77) rfl), rfl⟩
theorem q_78 : zTbl (Cond.fieldLink "TypeChain" (115 : Nat) "TypeChain$Program" "numbers" "[I") := ⟨ztin1 (List.mem_of_getElem? (i := 78) rfl), rfl⟩
theorem q_79 : zTbl (Cond.fieldLink "TypeChain$Program" (18 : Nat) "TypeChain$Program" "starts" "[I") := ⟨ztin1 (List.mem_of_getElem? (i := 79) rfl), rfl⟩
theorem q_80 : zTbl (Cond.fieldLink "TypeChain$Program" (21 : Nat) "TypeChain$Program" "lengths" "[I") := ⟨ztin1 (List.mem_of_getElem? (i := 80) rfl), rfl⟩
theorem q_81 : zTbl (Cond.fieldLink "TypeChain$Printer" (121 : Nat) "TypeChain$Program" "lengths" "[I") := ⟨ztin1 (List.mem_of_getElem? (i := 81) rfl), rfl⟩
theorem q_82 : zTbl (Cond.fieldLink "TypeChain" (118 : Nat) "TypeChain$Program" "lengths" "[I") := ⟨ztin1 (List.mem_of_getElem? (i := 82) rfl), rfl⟩
theorem q_83 : zTbl (Cond.fieldLink "TypeChain$Program" (24 : Nat) "TypeChain$Program" "letters" "[I") := ⟨ztin1 (List.mem_of_getElem? (i := 83) rfl), rfl⟩
theorem q_84 : zTbl (Cond.fieldLink "TypeChain$Program" (27 : Nat) "TypeChain$Program" "size" "I") := ⟨ztin1 (List.mem_of_getElem? (i := 84) rfl), rfl⟩
theorem q_85 : zTbl (Cond.fieldLink "TypeChain$Reader" (81 : Nat) "TypeChain$Program" "size" "I") := ⟨ztin1 (List.mem_of_getElem? (i := 85) rfl), rfl⟩
theorem q_86 : zTbl (Cond.fieldLink "TypeChain$Trials" (97 : Nat) "TypeChain$Program" "size" "I") := ⟨ztin1 (List.mem_of_getElem? (i := 86) rfl), rfl⟩
theorem q_87 : zTbl (Cond.fieldLink "TypeChain" (90 : Nat) "TypeChain$Program" "size" "I") := ⟨ztin1 (List.mem_of_getElem? (i := 87) rfl), rfl⟩
theorem q_88 : zTbl (Cond.fieldLink "TypeChain$Printer" (100 : Nat) "TypeChain$Program" "size" "I") := ⟨ztin1 (List.mem_of_getElem? (i := 88) rfl), rfl⟩
theorem q_89 : zTbl (Cond.fieldLink "TypeChain$Program" (31 : Nat) "TypeChain$Program" "lettersUsed" "I") := ⟨ztin1 (List.mem_of_getElem? (i := 89) rfl), rfl⟩
theorem q_90 : zTbl (Cond.laysFinal "TypeChain$Program" "TypeChain$Program" "kinds" "[I") := ⟨ztin1 (List.mem_of_getElem? (i := 90) rfl), rfl⟩
theorem q_91 : Cond.soleField "TypeChain$Program" "kinds" ∈ lw_tbl := ztin1 (List.mem_of_getElem? (i := 91) rfl)
theorem q_92 : zTbl (Cond.laysFinal "TypeChain$Program" "TypeChain$Program" "numbers" "[I") := ⟨ztin1 (List.mem_of_getElem? (i := 92) rfl), rfl⟩
theorem q_93 : Cond.soleField "TypeChain$Program" "numbers" ∈ lw_tbl := ztin1 (List.mem_of_getElem? (i := 93) rfl)
theorem q_94 : zTbl (Cond.laysFinal "TypeChain$Program" "TypeChain$Program" "starts" "[I") := ⟨ztin1 (List.mem_of_getElem? (i := 94) rfl), rfl⟩
theorem q_95 : Cond.soleField "TypeChain$Program" "starts" ∈ lw_tbl := ztin1 (List.mem_of_getElem? (i := 95) rfl)
theorem q_96 : zTbl (Cond.laysFinal "TypeChain$Program" "TypeChain$Program" "lengths" "[I") := ⟨ztin1 (List.mem_of_getElem? (i := 96) rfl), rfl⟩
theorem q_97 : Cond.soleField "TypeChain$Program" "lengths" ∈ lw_tbl := ztin1 (List.mem_of_getElem? (i := 97) rfl)
theorem q_98 : zTbl (Cond.laysFinal "TypeChain$Program" "TypeChain$Program" "letters" "[I") := ⟨ztin1 (List.mem_of_getElem? (i := 98) rfl), rfl⟩
theorem q_99 : Cond.soleField "TypeChain$Program" "letters" ∈ lw_tbl := ztin1 (List.mem_of_getElem? (i := 99) rfl)
theorem q_100 : zTbl (Cond.lays "TypeChain$Program" "TypeChain$Program" "size" "I") := ⟨ztin1 (List.mem_of_getElem? (i := 100) rfl), rfl⟩
theorem q_101 : Cond.soleField "TypeChain$Program" "size" ∈ lw_tbl := ztin1 (List.mem_of_getElem? (i := 101) rfl)
theorem q_102 : zTbl (Cond.lays "TypeChain$Program" "TypeChain$Program" "lettersUsed" "I") := ⟨ztin1 (List.mem_of_getElem? (i := 102) rfl), rfl⟩
theorem q_103 : Cond.soleField "TypeChain$Program" "lettersUsed" ∈ lw_tbl := ztin1 (List.mem_of_getElem? (i := 103) rfl)
theorem q_104 : zTbl (Cond.superclass "TypeChain$Program" "java/lang/Object") := ⟨ztin1 (List.mem_of_getElem? (i := 104) rfl), rfl⟩
theorem q_105 : zTbl (Cond.methodLink "TypeChain$Rules" (32 : Nat) ({ cls := "TypeChain$Rules", name := "beAtFirst", desc := "()V" } : MethodName)) := ⟨ztin1 (List.mem_of_getElem? (i := 105) rfl), rfl⟩
theorem q_106 : zTbl (Cond.instanceMethod ({ cls := "TypeChain$Rules", name := "beAtFirst", desc := "()V" } : MethodName)) := ⟨ztin1 (List.mem_of_getElem? (i := 106) rfl), rfl⟩
theorem q_107 : zTbl (Cond.selects "TypeChain$Rules" ({ cls := "TypeChain$Rules", name := "beAtFirst", desc := "()V" } : MethodName) ({ cls := "TypeChain$Rules", name := "beAtFirst", desc := "()V" } : MethodName)) := ⟨ztin1 (List.mem_of_getElem? (i := 107) rfl), rfl⟩
theorem q_108 : zTbl (Cond.code ({ cls := "TypeChain$Rules", name := "beAtFirst", desc := "()V" } : MethodName) prog_7_method_2_code (2 : Nat) (Option.none : Option Jvm.ClassFile.FieldType)) := ⟨ztin1 (List.mem_of_getElem? (i := 108) rfl), rfl⟩
theorem q_109 : zTbl (Cond.fieldLinkNest "TypeChain$Rules" (38 : Nat) "TypeChain" "AT_FIRST" "[I" "TypeChain") := ⟨ztin1 (List.mem_of_getElem? (i := 109) rfl), rfl⟩
theorem q_110 : Cond.laysStatic "TypeChain" "AT_FIRST" "[I" ∈ lw_tbl := ztin1 (List.mem_of_getElem? (i := 110) rfl)
theorem q_111 : zTbl (Cond.methodLink "TypeChain$Rules" (41 : Nat) ({ cls := "java/lang/System", name := "arraycopy", desc := "(Ljava/lang/Object;ILjava/lang/Object;II)V" } : MethodName)) := ⟨ztin1 (List.mem_of_getElem? (i := 111) rfl), rfl⟩
theorem q_112 : zTbl (Cond.static ({ cls := "java/lang/System", name := "arraycopy", desc := "(Ljava/lang/Object;ILjava/lang/Object;II)V" } : MethodName)) := ⟨ztin1 (List.mem_of_getElem? (i := 112) rfl), rfl⟩
theorem q_113 : zTbl (Cond.native ({ cls := "java/lang/System", name := "arraycopy", desc := "(Ljava/lang/Object;ILjava/lang/Object;II)V" } : MethodName)) := ⟨ztin1 (List.mem_of_getElem? (i := 113) rfl), rfl⟩
theorem q_114 : zTbl (Cond.methodLink "TypeChain$Rules" (54 : Nat) ({ cls := "java/util/Arrays", name := "fill", desc := "([II)V" } : MethodName)) := ⟨ztin1 (List.mem_of_getElem? (i := 114) rfl), rfl⟩
theorem q_115 : zTbl (Cond.static ({ cls := "java/util/Arrays", name := "fill", desc := "([II)V" } : MethodName)) := ⟨ztin1 (List.mem_of_getElem? (i := 115) rfl), rfl⟩
theorem q_116 : zTbl (Cond.code ({ cls := "java/util/Arrays", name := "fill", desc := "([II)V" } : MethodName) prog_20_method_103_code (4 : Nat) (Option.none : Option Jvm.ClassFile.FieldType)) := ⟨ztin1 (List.mem_of_getElem? (i := 116) rfl), rfl⟩
theorem q_117 : zTbl (Cond.methodLink "TypeChain$Rules" (60 : Nat) ({ cls := "TypeChain$Program", name := "clear", desc := "()V" } : MethodName)) := ⟨ztin1 (List.mem_of_getElem? (i := 117) rfl), rfl⟩
theorem q_118 : zTbl (Cond.instanceMethod ({ cls := "TypeChain$Program", name := "clear", desc := "()V" } : MethodName)) := ⟨ztin1 (List.mem_of_getElem? (i := 118) rfl), rfl⟩
theorem q_119 : zTbl (Cond.selects "TypeChain$Program" ({ cls := "TypeChain$Program", name := "clear", desc := "()V" } : MethodName) ({ cls := "TypeChain$Program", name := "clear", desc := "()V" } : MethodName)) := ⟨ztin1 (List.mem_of_getElem? (i := 119) rfl), rfl⟩
theorem q_120 : zTbl (Cond.code ({ cls := "TypeChain$Program", name := "clear", desc := "()V" } : MethodName) prog_5_method_2_code (1 : Nat) (Option.none : Option Jvm.ClassFile.FieldType)) := ⟨ztin1 (List.mem_of_getElem? (i := 120) rfl), rfl⟩
theorem q_121 : zTbl (Cond.methodLink "TypeChain$Rules" (35 : Nat) ({ cls := "TypeChain$Rules", name := "settle", desc := "()V" } : MethodName)) := ⟨ztin1 (List.mem_of_getElem? (i := 121) rfl), rfl⟩
theorem q_122 : zTbl (Cond.instanceMethod ({ cls := "TypeChain$Rules", name := "settle", desc := "()V" } : MethodName)) := ⟨ztin1 (List.mem_of_getElem? (i := 122) rfl), rfl⟩
theorem q_123 : zTbl (Cond.selects "TypeChain$Rules" ({ cls := "TypeChain$Rules", name := "settle", desc := "()V" } : MethodName) ({ cls := "TypeChain$Rules", name := "settle", desc := "()V" } : MethodName)) := ⟨ztin1 (List.mem_of_getElem? (i := 123) rfl), rfl⟩
theorem q_124 : zTbl (Cond.code ({ cls := "TypeChain$Rules", name := "settle", desc := "()V" } : MethodName) prog_7_method_3_code (1 : Nat) (Option.none : Option Jvm.ClassFile.FieldType)) := ⟨ztin1 (List.mem_of_getElem? (i := 124) rfl), rfl⟩
theorem q_125 : zTbl (Cond.methodLink "TypeChain$Rules" (69 : Nat) ({ cls := "TypeChain$Rules", name := "holeCount", desc := "()I" } : MethodName)) := ⟨ztin1 (List.mem_of_getElem? (i := 125) rfl), rfl⟩
theorem q_126 : zTbl (Cond.instanceMethod ({ cls := "TypeChain$Rules", name := "holeCount", desc := "()I" } : MethodName)) := ⟨ztin1 (List.mem_of_getElem? (i := 126) rfl), rfl⟩
theorem q_127 : zTbl (Cond.selects "TypeChain$Rules" ({ cls := "TypeChain$Rules", name := "holeCount", desc := "()I" } : MethodName) ({ cls := "TypeChain$Rules", name := "holeCount", desc := "()I" } : MethodName)) := ⟨ztin1 (List.mem_of_getElem? (i := 127) rfl), rfl⟩
theorem q_128 : zTbl (Cond.code ({ cls := "TypeChain$Rules", name := "holeCount", desc := "()I" } : MethodName) prog_7_method_4_code (3 : Nat) (Option.some FieldType.int)) := ⟨ztin1 (List.mem_of_getElem? (i := 128) rfl), rfl⟩
theorem q_129 : zTbl (Cond.methodLink "TypeChain$Rules" (73 : Nat) ({ cls := "java/lang/Integer", name := "bitCount", desc := "(I)I" } : MethodName)) := ⟨ztin1 (List.mem_of_getElem? (i := 129) rfl), rfl⟩
theorem q_130 : zTbl (Cond.static ({ cls := "java/lang/Integer", name := "bitCount", desc := "(I)I" } : MethodName)) := ⟨ztin1 (List.mem_of_getElem? (i := 130) rfl), rfl⟩
theorem q_131 : zTbl (Cond.code ({ cls := "java/lang/Integer", name := "bitCount", desc := "(I)I" } : MethodName) prog_13_method_49_code (1 : Nat) (Option.some FieldType.int)) := ⟨ztin1 (List.mem_of_getElem? (i := 131) rfl), rfl⟩
theorem q_132 : zTbl (Cond.constant "java/lang/Integer" (265 : Nat) (1431655765 : Int32)) := ⟨ztin1 (List.mem_of_getElem? (i := 132) rfl), rfl⟩
theorem q_133 : zTbl (Cond.constant "java/lang/Integer" (266 : Nat) (858993459 : Int32)) := ⟨ztin1 (List.mem_of_getElem? (i := 133) rfl), rfl⟩
theorem q_134 : zTbl (Cond.constant "java/lang/Integer" (267 : Nat) (252645135 : Int32)) := ⟨ztin1 (List.mem_of_getElem? (i := 134) rfl), rfl⟩
theorem q_135 : zTbl (Cond.fieldLink "TypeChain$Rules" (12 : Nat) "TypeChain$Rules" "chain" "LTypeChain$Chain;") := ⟨ztin1 (List.mem_of_getElem? (i := 135) rfl), rfl⟩
theorem q_136 : zTbl (Cond.fieldLink "TypeChain" (35 : Nat) "TypeChain$Rules" "chain" "LTypeChain$Chain;") := ⟨ztin1 (List.mem_of_getElem? (i := 136) rfl), rfl⟩
theorem q_137 : zTbl (Cond.fieldLink "TypeChain$Trials" (38 : Nat) "TypeChain$Rules" "chain" "LTypeChain$Chain;") := ⟨ztin1 (List.mem_of_getElem? (i := 137) rfl), rfl⟩
theorem q_138 : zTbl (Cond.fieldLink "TypeChain$Reader" (86 : Nat) "TypeChain$Rules" "chain" "LTypeChain$Chain;") := ⟨ztin1 (List.mem_of_getElem? (i := 138) rfl), rfl⟩
theorem q_139 : zTbl (Cond.fieldLink "TypeChain$Rules" (21 : Nat) "TypeChain$Rules" "program" "LTypeChain$Program;") := ⟨ztin1 (List.mem_of_getElem? (i := 139) rfl), rfl⟩
theorem q_140 : zTbl (Cond.fieldLink "TypeChain$Reader" (77 : Nat) "TypeChain$Rules" "program" "LTypeChain$Program;") := ⟨ztin1 (List.mem_of_getElem? (i := 140) rfl), rfl⟩
theorem q_141 : zTbl (Cond.fieldLink "TypeChain$Trials" (93 : Nat) "TypeChain$Rules" "program" "LTypeChain$Program;") := ⟨ztin1 (List.mem_of_getElem? (i := 141) rfl), rfl⟩
theorem q_142 : zTbl (Cond.fieldLink "TypeChain" (86 : Nat) "TypeChain$Rules" "program" "LTypeChain$Program;") := ⟨ztin1 (List.mem_of_getElem? (i := 142) rfl), rfl⟩
theorem q_143 : zTbl (Cond.fieldLink "TypeChain$Printer" (96 : Nat) "TypeChain$Rules" "program" "LTypeChain$Program;") := ⟨ztin1 (List.mem_of_getElem? (i := 143) rfl), rfl⟩
theorem q_144 : zTbl (Cond.fieldLink "TypeChain$Rules" (25 : Nat) "TypeChain$Rules" "values" "[I") := ⟨ztin1 (List.mem_of_getElem? (i := 144) rfl), rfl⟩
theorem q_145 : zTbl (Cond.fieldLink "TypeChain$Reader" (126 : Nat) "TypeChain$Rules" "values" "[I") := ⟨ztin1 (List.mem_of_getElem? (i := 145) rfl), rfl⟩
theorem q_146 : zTbl (Cond.fieldLink "TypeChain$Printer" (76 : Nat) "TypeChain$Rules" "values" "[I") := ⟨ztin1 (List.mem_of_getElem? (i := 146) rfl), rfl⟩
theorem q_147 : zTbl (Cond.fieldLink "TypeChain" (98 : Nat) "TypeChain$Rules" "values" "[I") := ⟨ztin1 (List.mem_of_getElem? (i := 147) rfl), rfl⟩
theorem q_148 : zTbl (Cond.fieldLink "TypeChain$Rules" (29 : Nat) "TypeChain$Rules" "channels" "[I") := ⟨ztin1 (List.mem_of_getElem? (i := 148) rfl), rfl⟩
theorem q_149 : zTbl (Cond.fieldLink "TypeChain$Reader" (94 : Nat) "TypeChain$Rules" "channels" "[I") := ⟨ztin1 (List.mem_of_getElem? (i := 149) rfl), rfl⟩
theorem q_150 : zTbl (Cond.fieldLink "TypeChain" (109 : Nat) "TypeChain$Rules" "channels" "[I") := ⟨ztin1 (List.mem_of_getElem? (i := 150) rfl), rfl⟩
theorem q_151 : zTbl (Cond.laysFinal "TypeChain$Rules" "TypeChain$Rules" "chain" "LTypeChain$Chain;") := ⟨ztin1 (List.mem_of_getElem? (i := 151) rfl), rfl⟩
theorem q_152 : Cond.soleField "TypeChain$Rules" "chain" ∈ lw_tbl := ztin1 (List.mem_of_getElem? (i := 152) rfl)
theorem q_153 : zTbl (Cond.laysFinal "TypeChain$Rules" "TypeChain$Rules" "program" "LTypeChain$Program;") := ⟨ztin1 (List.mem_of_getElem? (i := 153) rfl), rfl⟩
theorem q_154 : Cond.soleField "TypeChain$Rules" "program" ∈ lw_tbl := ztin1 (List.mem_of_getElem? (i := 154) rfl)
theorem q_155 : zTbl (Cond.laysFinal "TypeChain$Rules" "TypeChain$Rules" "values" "[I") := ⟨ztin1 (List.mem_of_getElem? (i := 155) rfl), rfl⟩
theorem q_156 : Cond.soleField "TypeChain$Rules" "values" ∈ lw_tbl := ztin1 (List.mem_of_getElem? (i := 156) rfl)
theorem q_157 : zTbl (Cond.laysFinal "TypeChain$Rules" "TypeChain$Rules" "channels" "[I") := ⟨ztin1 (List.mem_of_getElem? (i := 157) rfl), rfl⟩
theorem q_158 : Cond.soleField "TypeChain$Rules" "channels" ∈ lw_tbl := ztin1 (List.mem_of_getElem? (i := 158) rfl)
theorem q_159 : zTbl (Cond.superclass "TypeChain$Rules" "java/lang/Object") := ⟨ztin1 (List.mem_of_getElem? (i := 159) rfl), rfl⟩
theorem q_160 : zTbl (Cond.classLink "TypeChain" (19 : Nat) "TypeChain$Reader") := ⟨ztin1 (List.mem_of_getElem? (i := 160) rfl), rfl⟩
theorem q_161 : zTbl (Cond.instantiable "TypeChain$Reader" (14 : Nat)) := ⟨ztin1 (List.mem_of_getElem? (i := 161) rfl), rfl⟩
theorem q_162 : zTbl (Cond.methodLinkNest "TypeChain" (21 : Nat) ({ cls := "TypeChain$Reader", name := "<init>", desc := "()V" } : MethodName) "TypeChain") := ⟨ztin1 (List.mem_of_getElem? (i := 162) rfl), rfl⟩
theorem q_163 : zTbl (Cond.instanceMethod ({ cls := "TypeChain$Reader", name := "<init>", desc := "()V" } : MethodName)) := ⟨ztin1 (List.mem_of_getElem? (i := 163) rfl), rfl⟩
theorem q_164 : zTbl (Cond.code ({ cls := "TypeChain$Reader", name := "<init>", desc := "()V" } : MethodName) prog_6_method_1_code (1 : Nat) (Option.none : Option Jvm.ClassFile.FieldType)) := ⟨ztin1 (List.mem_of_getElem? (i := 164) rfl), rfl⟩
theorem q_165 : zTbl (Cond.methodLink "TypeChain$Reader" (3 : Nat) ({ cls := "java/lang/Object", name := "<init>", desc := "()V" } : MethodName)) := ⟨ztin1 (List.mem_of_getElem? (i := 165) rfl), rfl⟩
theorem q_166 : zTbl (Cond.fieldLink "TypeChain$Reader" (9 : Nat) "TypeChain$Reader" "bytes" "[B") := ⟨ztin1 (List.mem_of_getElem? (i := 166) rfl), rfl⟩
theorem q_167 : zTbl (Cond.fieldLink "TypeChain$Reader" (25 : Nat) "TypeChain$Reader" "length" "I") := ⟨ztin1 (List.mem_of_getElem? (i := 167) rfl), rfl⟩
theorem q_168 : zTbl (Cond.fieldLink "TypeChain" (66 : Nat) "TypeChain$Reader" "length" "I") := ⟨ztin1 (List.mem_of_getElem? (i := 168) rfl), rfl⟩
theorem q_169 : zTbl (Cond.fieldLink "TypeChain$Reader" (34 : Nat) "TypeChain$Reader" "fault" "I") := ⟨ztin1 (List.mem_of_getElem? (i := 169) rfl), rfl⟩
theorem q_170 : zTbl (Cond.fieldLink "TypeChain" (83 : Nat) "TypeChain$Reader" "fault" "I") := ⟨ztin1 (List.mem_of_getElem? (i := 170) rfl), rfl⟩
theorem q_171 : zTbl (Cond.fieldLink "TypeChain" (74 : Nat) "TypeChain$Reader" "faultPlace" "I") := ⟨ztin1 (List.mem_of_getElem? (i := 171) rfl), rfl⟩
theorem q_172 : zTbl (Cond.fieldLink "TypeChain$Reader" (164 : Nat) "TypeChain$Reader" "faultPlace" "I") := ⟨ztin1 (List.mem_of_getElem? (i := 172) rfl), rfl⟩
theorem q_173 : zTbl (Cond.fieldLink "TypeChain$Reader" (40 : Nat) "TypeChain$Reader" "lines" "I") := ⟨ztin1 (List.mem_of_getElem? (i := 173) rfl), rfl⟩
theorem q_174 : zTbl (Cond.fieldLink "TypeChain" (80 : Nat) "TypeChain$Reader" "lines" "I") := ⟨ztin1 (List.mem_of_getElem? (i := 174) rfl), rfl⟩
theorem q_175 : zTbl (Cond.fieldLink "TypeChain$Reader" (53 : Nat) "TypeChain$Reader" "kind" "I") := ⟨ztin1 (List.mem_of_getElem? (i := 175) rfl), rfl⟩
theorem q_176 : zTbl (Cond.fieldLink "TypeChain$Reader" (70 : Nat) "TypeChain$Reader" "from" "I") := ⟨ztin1 (List.mem_of_getElem? (i := 176) rfl), rfl⟩
theorem q_177 : zTbl (Cond.fieldLink "TypeChain$Reader" (37 : Nat) "TypeChain$Reader" "place" "I") := ⟨ztin1 (List.mem_of_getElem? (i := 177) rfl), rfl⟩
theorem q_178 : zTbl (Cond.fieldLink "TypeChain$Reader" (129 : Nat) "TypeChain$Reader" "number" "I") := ⟨ztin1 (List.mem_of_getElem? (i := 178) rfl), rfl⟩
theorem q_179 : zTbl (Cond.fieldLink "TypeChain$Reader" (43 : Nat) "TypeChain$Reader" "wordsTold" "I") := ⟨ztin1 (List.mem_of_getElem? (i := 179) rfl), rfl⟩
theorem q_180 : zTbl (Cond.fieldLink "TypeChain$Reader" (15 : Nat) "TypeChain$Reader" "laterFault" "[I") := ⟨ztin1 (List.mem_of_getElem? (i := 180) rfl), rfl⟩
theorem q_181 : zTbl (Cond.fieldLink "TypeChain$Reader" (19 : Nat) "TypeChain$Reader" "laterReach" "[I") := ⟨ztin1 (List.mem_of_getElem? (i := 181) rfl), rfl⟩
theorem q_182 : zTbl (Cond.fieldLink "TypeChain$Reader" (22 : Nat) "TypeChain$Reader" "laterPlace" "[I") := ⟨ztin1 (List.mem_of_getElem? (i := 182) rfl), rfl⟩
theorem q_183 : zTbl (Cond.fieldLink "TypeChain$Reader" (46 : Nat) "TypeChain$Reader" "laterSize" "I") := ⟨ztin1 (List.mem_of_getElem? (i := 183) rfl), rfl⟩
theorem q_184 : zTbl (Cond.laysFinal "TypeChain$Reader" "TypeChain$Reader" "bytes" "[B") := ⟨ztin1 (List.mem_of_getElem? (i := 184) rfl), rfl⟩
theorem q_185 : Cond.soleField "TypeChain$Reader" "bytes" ∈ lw_tbl := ztin1 (List.mem_of_getElem? (i := 185) rfl)
theorem q_186 : zTbl (Cond.lays "TypeChain$Reader" "TypeChain$Reader" "length" "I") := ⟨ztin1 (List.mem_of_getElem? (i := 186) rfl), rfl⟩
theorem q_187 : Cond.soleField "TypeChain$Reader" "length" ∈ lw_tbl := ztin1 (List.mem_of_getElem? (i := 187) rfl)
theorem q_188 : zTbl (Cond.lays "TypeChain$Reader" "TypeChain$Reader" "fault" "I") := ⟨ztin1 (List.mem_of_getElem? (i := 188) rfl), rfl⟩
theorem q_189 : Cond.soleField "TypeChain$Reader" "fault" ∈ lw_tbl := ztin1 (List.mem_of_getElem? (i := 189) rfl)
theorem q_190 : zTbl (Cond.lays "TypeChain$Reader" "TypeChain$Reader" "faultPlace" "I") := ⟨ztin1 (List.mem_of_getElem? (i := 190) rfl), rfl⟩
theorem q_191 : Cond.soleField "TypeChain$Reader" "faultPlace" ∈ lw_tbl := ztin1 (List.mem_of_getElem? (i := 191) rfl)
theorem q_192 : zTbl (Cond.lays "TypeChain$Reader" "TypeChain$Reader" "lines" "I") := ⟨ztin1 (List.mem_of_getElem? (i := 192) rfl), rfl⟩
theorem q_193 : Cond.soleField "TypeChain$Reader" "lines" ∈ lw_tbl := ztin1 (List.mem_of_getElem? (i := 193) rfl)
theorem q_194 : zTbl (Cond.lays "TypeChain$Reader" "TypeChain$Reader" "kind" "I") := ⟨ztin1 (List.mem_of_getElem? (i := 194) rfl), rfl⟩
theorem q_195 : Cond.soleField "TypeChain$Reader" "kind" ∈ lw_tbl := ztin1 (List.mem_of_getElem? (i := 195) rfl)
theorem q_196 : zTbl (Cond.lays "TypeChain$Reader" "TypeChain$Reader" "from" "I") := ⟨ztin1 (List.mem_of_getElem? (i := 196) rfl), rfl⟩
theorem q_197 : Cond.soleField "TypeChain$Reader" "from" ∈ lw_tbl := ztin1 (List.mem_of_getElem? (i := 197) rfl)
theorem q_198 : zTbl (Cond.lays "TypeChain$Reader" "TypeChain$Reader" "place" "I") := ⟨ztin1 (List.mem_of_getElem? (i := 198) rfl), rfl⟩
theorem q_199 : Cond.soleField "TypeChain$Reader" "place" ∈ lw_tbl := ztin1 (List.mem_of_getElem? (i := 199) rfl)
theorem q_200 : zTbl (Cond.lays "TypeChain$Reader" "TypeChain$Reader" "number" "I") := ⟨ztin1 (List.mem_of_getElem? (i := 200) rfl), rfl⟩
theorem q_201 : Cond.soleField "TypeChain$Reader" "number" ∈ lw_tbl := ztin1 (List.mem_of_getElem? (i := 201) rfl)
theorem q_202 : zTbl (Cond.lays "TypeChain$Reader" "TypeChain$Reader" "wordsTold" "I") := ⟨ztin1 (List.mem_of_getElem? (i := 202) rfl), rfl⟩
theorem q_203 : Cond.soleField "TypeChain$Reader" "wordsTold" ∈ lw_tbl := ztin1 (List.mem_of_getElem? (i := 203) rfl)
theorem q_204 : zTbl (Cond.laysFinal "TypeChain$Reader" "TypeChain$Reader" "laterFault" "[I") := ⟨ztin1 (List.mem_of_getElem? (i := 204) rfl), rfl⟩
theorem q_205 : Cond.soleField "TypeChain$Reader" "laterFault" ∈ lw_tbl := ztin1 (List.mem_of_getElem? (i := 205) rfl)
theorem q_206 : zTbl (Cond.laysFinal "TypeChain$Reader" "TypeChain$Reader" "laterReach" "[I") := ⟨ztin1 (List.mem_of_getElem? (i := 206) rfl), rfl⟩
theorem q_207 : Cond.soleField "TypeChain$Reader" "laterReach" ∈ lw_tbl := ztin1 (List.mem_of_getElem? (i := 207) rfl)
theorem q_208 : zTbl (Cond.laysFinal "TypeChain$Reader" "TypeChain$Reader" "laterPlace" "[I") := ⟨ztin1 (List.mem_of_getElem? (i := 208) rfl), rfl⟩
theorem q_209 : Cond.soleField "TypeChain$Reader" "laterPlace" ∈ lw_tbl := ztin1 (List.mem_of_getElem? (i := 209) rfl)
theorem q_210 : zTbl (Cond.lays "TypeChain$Reader" "TypeChain$Reader" "laterSize" "I") := ⟨ztin1 (List.mem_of_getElem? (i := 210) rfl), rfl⟩
theorem q_211 : Cond.soleField "TypeChain$Reader" "laterSize" ∈ lw_tbl := ztin1 (List.mem_of_getElem? (i := 211) rfl)
theorem q_212 : zTbl (Cond.superclass "TypeChain$Reader" "java/lang/Object") := ⟨ztin1 (List.mem_of_getElem? (i := 212) rfl), rfl⟩
theorem q_213 : zTbl (Cond.arrayClass FieldType.byte) := ⟨ztin1 (List.mem_of_getElem? (i := 213) rfl), rfl⟩
theorem q_214 : zTbl (Cond.classLink "TypeChain" (26 : Nat) "TypeChain$Page") := ⟨ztin1 (List.mem_of_getElem? (i := 214) rfl), rfl⟩
theorem q_215 : zTbl (Cond.instantiable "TypeChain$Page" (2 : Nat)) := ⟨ztin1 (List.mem_of_getElem? (i := 215) rfl), rfl⟩
theorem q_216 : zTbl (Cond.methodLinkNest "TypeChain" (28 : Nat) ({ cls := "TypeChain$Page", name := "<init>", desc := "()V" } : MethodName) "TypeChain") := ⟨ztin1 (List.mem_of_getElem? (i := 216) rfl), rfl⟩
theorem q_217 : zTbl (Cond.instanceMethod ({ cls := "TypeChain$Page", name := "<init>", desc := "()V" } : MethodName)) := ⟨ztin1 (List.mem_of_getElem? (i := 217) rfl), rfl⟩
theorem q_218 : zTbl (Cond.code ({ cls := "TypeChain$Page", name := "<init>", desc := "()V" } : MethodName) prog_3_method_1_code (1 : Nat) (Option.none : Option Jvm.ClassFile.FieldType)) := ⟨ztin1 (List.mem_of_getElem? (i := 218) rfl), rfl⟩
theorem q_219 : zTbl (Cond.methodLink "TypeChain$Page" (3 : Nat) ({ cls := "java/lang/Object", name := "<init>", desc := "()V" } : MethodName)) := ⟨ztin1 (List.mem_of_getElem? (i := 219) rfl), rfl⟩
theorem q_220 : zTbl (Cond.fieldLink "TypeChain$Page" (9 : Nat) "TypeChain$Page" "letters" "[I") := ⟨ztin1 (List.mem_of_getElem? (i := 220) rfl), rfl⟩
theorem q_221 : zTbl (Cond.fieldLink "TypeChain" (214 : Nat) "TypeChain$Page" "letters" "[I") := ⟨ztin1 (List.mem_of_getElem? (i := 221) rfl), rfl⟩
theorem q_222 : zTbl (Cond.fieldLink "TypeChain$Page" (15 : Nat) "TypeChain$Page" "times" "[I") := ⟨ztin1 (List.mem_of_getElem? (i := 222) rfl), rfl⟩
theorem q_223 : zTbl (Cond.fieldLink "TypeChain" (215 : Nat) "TypeChain$Page" "times" "[I") := ⟨ztin1 (List.mem_of_getElem? (i := 223) rfl), rfl⟩
theorem q_224 : zTbl (Cond.laysFinal "TypeChain$Page" "TypeChain$Page" "letters" "[I") := ⟨ztin1 (List.mem_of_getElem? (i := 224) rfl), rfl⟩
theorem q_225 : Cond.soleField "TypeChain$Page" "letters" ∈ lw_tbl := ztin1 (List.mem_of_getElem? (i := 225) rfl)
theorem q_226 : zTbl (Cond.laysFinal "TypeChain$Page" "TypeChain$Page" "times" "[I") := ⟨ztin1 (List.mem_of_getElem? (i := 226) rfl), rfl⟩
theorem q_227 : Cond.soleField "TypeChain$Page" "times" ∈ lw_tbl := ztin1 (List.mem_of_getElem? (i := 227) rfl)
theorem q_228 : zTbl (Cond.superclass "TypeChain$Page" "java/lang/Object") := ⟨ztin1 (List.mem_of_getElem? (i := 228) rfl), rfl⟩
theorem q_229 : zTbl (Cond.classLink "TypeChain" (33 : Nat) "TypeChain$Printer") := ⟨ztin1 (List.mem_of_getElem? (i := 229) rfl), rfl⟩
theorem q_230 : zTbl (Cond.instantiable "TypeChain$Printer" (9 : Nat)) := ⟨ztin1 (List.mem_of_getElem? (i := 230) rfl), rfl⟩
theorem q_231 : zTbl (Cond.methodLink "TypeChain" (39 : Nat) ({ cls := "TypeChain$Printer", name := "<init>", desc := "(LTypeChain$Page;LTypeChain$Rules;LTypeChain$Chain;)V" } : MethodName)) := ⟨ztin1 (List.mem_of_getElem? (i := 231) rfl), rfl⟩
theorem q_232 : zTbl (Cond.instanceMethod ({ cls := "TypeChain$Printer", name := "<init>", desc := "(LTypeChain$Page;LTypeChain$Rules;LTypeChain$Chain;)V" } : MethodName)) := ⟨ztin1 (List.mem_of_getElem? (i := 232) rfl), rfl⟩
theorem q_233 : zTbl (Cond.code ({ cls := "TypeChain$Printer", name := "<init>", desc := "(LTypeChain$Page;LTypeChain$Rules;LTypeChain$Chain;)V" } : MethodName) prog_4_method_1_code (4 : Nat) (Option.none : Option Jvm.ClassFile.FieldType)) := ⟨ztin1 (List.mem_of_getElem? (i := 233) rfl), rfl⟩
theorem q_234 : zTbl (Cond.methodLink "TypeChain$Printer" (3 : Nat) ({ cls := "java/lang/Object", name := "<init>", desc := "()V" } : MethodName)) := ⟨ztin1 (List.mem_of_getElem? (i := 234) rfl), rfl⟩
theorem q_235 : zTbl (Cond.classLink "TypeChain$Printer" (15 : Nat) "TypeChain$Strike") := ⟨ztin1 (List.mem_of_getElem? (i := 235) rfl), rfl⟩
theorem q_236 : zTbl (Cond.instantiable "TypeChain$Strike" (9 : Nat)) := ⟨ztin1 (List.mem_of_getElem? (i := 236) rfl), rfl⟩
theorem q_237 : zTbl (Cond.methodLinkNest "TypeChain$Printer" (17 : Nat) ({ cls := "TypeChain$Strike", name := "<init>", desc := "()V" } : MethodName) "TypeChain") := ⟨ztin1 (List.mem_of_getElem? (i := 237) rfl), rfl⟩
theorem q_238 : zTbl (Cond.instanceMethod ({ cls := "TypeChain$Strike", name := "<init>", desc := "()V" } : MethodName)) := ⟨ztin1 (List.mem_of_getElem? (i := 238) rfl), rfl⟩
theorem q_239 : zTbl (Cond.code ({ cls := "TypeChain$Strike", name := "<init>", desc := "()V" } : MethodName) prog_9_method_1_code (1 : Nat) (Option.none : Option Jvm.ClassFile.FieldType)) := ⟨ztin1 (List.mem_of_getElem? (i := 239) rfl), rfl⟩
theorem q_240 : zTbl (Cond.methodLink "TypeChain$Strike" (3 : Nat) ({ cls := "java/lang/Object", name := "<init>", desc := "()V" } : MethodName)) := ⟨ztin2 (List.mem_of_getElem? (i := 0) rfl), rfl⟩
theorem q_241 : zTbl (Cond.fieldLink "TypeChain$Strike" (9 : Nat) "TypeChain$Strike" "tickOf" "[I") := ⟨ztin2 (List.mem_of_getElem? (i := 1) rfl), rfl⟩
theorem q_242 : zTbl (Cond.fieldLink "TypeChain" (184 : Nat) "TypeChain$Strike" "tickOf" "[I") := ⟨ztin2 (List.mem_of_getElem? (i := 2) rfl), rfl⟩
theorem q_243 : zTbl (Cond.fieldLink "TypeChain$Strike" (15 : Nat) "TypeChain$Strike" "told" "[I") := ⟨ztin2 (List.mem_of_getElem? (i := 3) rfl), rfl⟩
theorem q_244 : zTbl (Cond.fieldLink "TypeChain" (191 : Nat) "TypeChain$Strike" "told" "[I") := ⟨ztin2 (List.mem_of_getElem? (i := 4) rfl), rfl⟩
theorem q_245 : zTbl (Cond.fieldLink "TypeChain$Printer" (51 : Nat) "TypeChain$Strike" "wasMade" "Z") := ⟨ztin2 (List.mem_of_getElem? (i := 5) rfl), rfl⟩
theorem q_246 : zTbl (Cond.fieldLink "TypeChain$Strike" (50 : Nat) "TypeChain$Strike" "wasMade" "Z") := ⟨ztin2 (List.mem_of_getElem? (i := 6) rfl), rfl⟩
theorem q_247 : zTbl (Cond.fieldLink "TypeChain" (164 : Nat) "TypeChain$Strike" "wasMade" "Z") := ⟨ztin2 (List.mem_of_getElem? (i := 7) rfl), rfl⟩
theorem q_248 : zTbl (Cond.fieldLink "TypeChain$Strike" (57 : Nat) "TypeChain$Strike" "total" "I") := ⟨ztin2 (List.mem_of_getElem? (i := 8) rfl), rfl⟩
theorem q_249 : zTbl (Cond.fieldLink "TypeChain" (168 : Nat) "TypeChain$Strike" "total" "I") := ⟨ztin2 (List.mem_of_getElem? (i := 9) rfl), rfl⟩
theorem q_250 : zTbl (Cond.fieldLink "TypeChain$Strike" (54 : Nat) "TypeChain$Strike" "most" "I") := ⟨ztin2 (List.mem_of_getElem? (i := 10) rfl), rfl⟩
theorem q_251 : zTbl (Cond.fieldLink "TypeChain" (171 : Nat) "TypeChain$Strike" "most" "I") := ⟨ztin2 (List.mem_of_getElem? (i := 11) rfl), rfl⟩
theorem q_252 : zTbl (Cond.fieldLink "TypeChain$Strike" (40 : Nat) "TypeChain$Strike" "waited" "J") := ⟨ztin2 (List.mem_of_getElem? (i := 12) rfl), rfl⟩
theorem q_253 : zTbl (Cond.fieldLink "TypeChain" (174 : Nat) "TypeChain$Strike" "waited" "J") := ⟨ztin2 (List.mem_of_getElem? (i := 13) rfl), rfl⟩
theorem q_254 : zTbl (Cond.fieldLink "TypeChain$Strike" (18 : Nat) "TypeChain$Strike" "open" "[I") := ⟨ztin2 (List.mem_of_getElem? (i := 14) rfl), rfl⟩
theorem q_255 : zTbl (Cond.fieldLink "TypeChain$Strike" (21 : Nat) "TypeChain$Strike" "due" "[I") := ⟨ztin2 (List.mem_of_getElem? (i := 15) rfl), rfl⟩
theorem q_256 : zTbl (Cond.fieldLink "TypeChain$Strike" (28 : Nat) "TypeChain$Strike" "left" "I") := ⟨ztin2 (List.mem_of_getElem? (i := 16) rfl), rfl⟩
theorem q_257 : zTbl (Cond.laysFinal "TypeChain$Strike" "TypeChain$Strike" "tickOf" "[I") := ⟨ztin2 (List.mem_of_getElem? (i := 17) rfl), rfl⟩
theorem q_258 : Cond.soleField "TypeChain$Strike" "tickOf" ∈ lw_tbl := ztin2 (List.mem_of_getElem? (i := 18) rfl)
theorem q_259 : zTbl (Cond.laysFinal "TypeChain$Strike" "TypeChain$Strike" "told" "[I") := ⟨ztin2 (List.mem_of_getElem? (i := 19) rfl), rfl⟩
theorem q_260 : Cond.soleField "TypeChain$Strike" "told" ∈ lw_tbl := ztin2 (List.mem_of_getElem? (i := 20) rfl)
theorem q_261 : zTbl (Cond.lays "TypeChain$Strike" "TypeChain$Strike" "wasMade" "Z") := ⟨ztin2 (List.mem_of_getElem? (i := 21) rfl), rfl⟩
theorem q_262 : Cond.soleField "TypeChain$Strike" "wasMade" ∈ lw_tbl := ztin2 (List.mem_of_getElem? (i := 22) rfl)
theorem q_263 : zTbl (Cond.lays "TypeChain$Strike" "TypeChain$Strike" "total" "I") := ⟨ztin2 (List.mem_of_getElem? (i := 23) rfl), rfl⟩
theorem q_264 : Cond.soleField "TypeChain$Strike" "total" ∈ lw_tbl := ztin2 (List.mem_of_getElem? (i := 24) rfl)
theorem q_265 : zTbl (Cond.lays "TypeChain$Strike" "TypeChain$Strike" "most" "I") := ⟨ztin2 (List.mem_of_getElem? (i := 25) rfl), rfl⟩
theorem q_266 : Cond.soleField "TypeChain$Strike" "most" ∈ lw_tbl := ztin2 (List.mem_of_getElem? (i := 26) rfl)
theorem q_267 : zTbl (Cond.lays "TypeChain$Strike" "TypeChain$Strike" "waited" "J") := ⟨ztin2 (List.mem_of_getElem? (i := 27) rfl), rfl⟩
theorem q_268 : Cond.soleField "TypeChain$Strike" "waited" ∈ lw_tbl := ztin2 (List.mem_of_getElem? (i := 28) rfl)
theorem q_269 : zTbl (Cond.laysFinal "TypeChain$Strike" "TypeChain$Strike" "open" "[I") := ⟨ztin2 (List.mem_of_getElem? (i := 29) rfl), rfl⟩
theorem q_270 : Cond.soleField "TypeChain$Strike" "open" ∈ lw_tbl := ztin2 (List.mem_of_getElem? (i := 30) rfl)
theorem q_271 : zTbl (Cond.laysFinal "TypeChain$Strike" "TypeChain$Strike" "due" "[I") := ⟨ztin2 (List.mem_of_getElem? (i := 31) rfl), rfl⟩
theorem q_272 : Cond.soleField "TypeChain$Strike" "due" ∈ lw_tbl := ztin2 (List.mem_of_getElem? (i := 32) rfl)
theorem q_273 : zTbl (Cond.lays "TypeChain$Strike" "TypeChain$Strike" "left" "I") := ⟨ztin2 (List.mem_of_getElem? (i := 33) rfl), rfl⟩
theorem q_274 : Cond.soleField "TypeChain$Strike" "left" ∈ lw_tbl := ztin2 (List.mem_of_getElem? (i := 34) rfl)
theorem q_275 : zTbl (Cond.superclass "TypeChain$Strike" "java/lang/Object") := ⟨ztin2 (List.mem_of_getElem? (i := 35) rfl), rfl⟩
theorem q_276 : zTbl (Cond.methodLink "TypeChain$Printer" (26 : Nat) ({ cls := "TypeChain$Printer", name := "begin", desc := "(LTypeChain$Rules;LTypeChain$Chain;)V" } : MethodName)) := ⟨ztin2 (List.mem_of_getElem? (i := 36) rfl), rfl⟩
theorem q_277 : zTbl (Cond.instanceMethod ({ cls := "TypeChain$Printer", name := "begin", desc := "(LTypeChain$Rules;LTypeChain$Chain;)V" } : MethodName)) := ⟨ztin2 (List.mem_of_getElem? (i := 37) rfl), rfl⟩
theorem q_278 : zTbl (Cond.selects "TypeChain$Printer" ({ cls := "TypeChain$Printer", name := "begin", desc := "(LTypeChain$Rules;LTypeChain$Chain;)V" } : MethodName) ({ cls := "TypeChain$Printer", name := "begin", desc := "(LTypeChain$Rules;LTypeChain$Chain;)V" } : MethodName)) := ⟨ztin2 (List.mem_of_getElem? (i := 38) rfl), rfl⟩
theorem q_279 : zTbl (Cond.code ({ cls := "TypeChain$Printer", name := "begin", desc := "(LTypeChain$Rules;LTypeChain$Chain;)V" } : MethodName) prog_4_method_2_code (3 : Nat) (Option.none : Option Jvm.ClassFile.FieldType)) := ⟨ztin2 (List.mem_of_getElem? (i := 39) rfl), rfl⟩
theorem q_280 : zTbl (Cond.methodLink "TypeChain$Printer" (55 : Nat) ({ cls := "java/util/Arrays", name := "fill", desc := "([II)V" } : MethodName)) := ⟨ztin2 (List.mem_of_getElem? (i := 40) rfl), rfl⟩
theorem q_281 : zTbl (Cond.methodLink "TypeChain$Printer" (61 : Nat) ({ cls := "TypeChain$Page", name := "clear", desc := "()V" } : MethodName)) := ⟨ztin2 (List.mem_of_getElem? (i := 41) rfl), rfl⟩
theorem q_282 : zTbl (Cond.instanceMethod ({ cls := "TypeChain$Page", name := "clear", desc := "()V" } : MethodName)) := ⟨ztin2 (List.mem_of_getElem? (i := 42) rfl), rfl⟩
theorem q_283 : zTbl (Cond.selects "TypeChain$Page" ({ cls := "TypeChain$Page", name := "clear", desc := "()V" } : MethodName) ({ cls := "TypeChain$Page", name := "clear", desc := "()V" } : MethodName)) := ⟨ztin2 (List.mem_of_getElem? (i := 43) rfl), rfl⟩
theorem q_284 : zTbl (Cond.code ({ cls := "TypeChain$Page", name := "clear", desc := "()V" } : MethodName) prog_3_method_2_code (1 : Nat) (Option.none : Option Jvm.ClassFile.FieldType)) := ⟨ztin2 (List.mem_of_getElem? (i := 44) rfl), rfl⟩
theorem q_285 : zTbl (Cond.methodLink "TypeChain$Page" (18 : Nat) ({ cls := "java/util/Arrays", name := "fill", desc := "([II)V" } : MethodName)) := ⟨ztin2 (List.mem_of_getElem? (i := 45) rfl), rfl⟩
theorem q_286 : zTbl (Cond.fieldLink "TypeChain$Printer" (9 : Nat) "TypeChain$Printer" "letters" "[I") := ⟨ztin2 (List.mem_of_getElem? (i := 46) rfl), rfl⟩
theorem q_287 : zTbl (Cond.fieldLink "TypeChain" (144 : Nat) "TypeChain$Printer" "letters" "[I") := ⟨ztin2 (List.mem_of_getElem? (i := 47) rfl), rfl⟩
theorem q_288 : zTbl (Cond.fieldLink "TypeChain$Printer" (18 : Nat) "TypeChain$Printer" "strike" "LTypeChain$Strike;") := ⟨ztin2 (List.mem_of_getElem? (i := 48) rfl), rfl⟩
theorem q_289 : zTbl (Cond.fieldLink "TypeChain" (150 : Nat) "TypeChain$Printer" "strike" "LTypeChain$Strike;") := ⟨ztin2 (List.mem_of_getElem? (i := 49) rfl), rfl⟩
theorem q_290 : zTbl (Cond.fieldLink "TypeChain$Printer" (38 : Nat) "TypeChain$Printer" "tick" "I") := ⟨ztin2 (List.mem_of_getElem? (i := 50) rfl), rfl⟩
theorem q_291 : zTbl (Cond.fieldLink "TypeChain$Trials" (100 : Nat) "TypeChain$Printer" "tick" "I") := ⟨ztin2 (List.mem_of_getElem? (i := 51) rfl), rfl⟩
theorem q_292 : zTbl (Cond.fieldLink "TypeChain" (141 : Nat) "TypeChain$Printer" "tick" "I") := ⟨ztin2 (List.mem_of_getElem? (i := 52) rfl), rfl⟩
theorem q_293 : zTbl (Cond.fieldLink "TypeChain$Printer" (42 : Nat) "TypeChain$Printer" "row" "I") := ⟨ztin2 (List.mem_of_getElem? (i := 53) rfl), rfl⟩
theorem q_294 : zTbl (Cond.fieldLink "TypeChain" (205 : Nat) "TypeChain$Printer" "row" "I") := ⟨ztin2 (List.mem_of_getElem? (i := 54) rfl), rfl⟩
theorem q_295 : zTbl (Cond.fieldLink "TypeChain$Printer" (45 : Nat) "TypeChain$Printer" "pages" "I") := ⟨ztin2 (List.mem_of_getElem? (i := 55) rfl), rfl⟩
theorem q_296 : zTbl (Cond.fieldLink "TypeChain" (208 : Nat) "TypeChain$Printer" "pages" "I") := ⟨ztin2 (List.mem_of_getElem? (i := 56) rfl), rfl⟩
theorem q_297 : zTbl (Cond.fieldLink "TypeChain$Printer" (48 : Nat) "TypeChain$Printer" "linesStruck" "I") := ⟨ztin2 (List.mem_of_getElem? (i := 57) rfl), rfl⟩
theorem q_298 : zTbl (Cond.fieldLink "TypeChain" (218 : Nat) "TypeChain$Printer" "linesStruck" "I") := ⟨ztin2 (List.mem_of_getElem? (i := 58) rfl), rfl⟩
theorem q_299 : zTbl (Cond.fieldLink "TypeChain$Printer" (22 : Nat) "TypeChain$Printer" "page" "LTypeChain$Page;") := ⟨ztin2 (List.mem_of_getElem? (i := 59) rfl), rfl⟩
theorem q_300 : zTbl (Cond.fieldLink "TypeChain$Printer" (30 : Nat) "TypeChain$Printer" "rules" "LTypeChain$Rules;") := ⟨ztin2 (List.mem_of_getElem? (i := 60) rfl), rfl⟩
theorem q_301 : zTbl (Cond.fieldLink "TypeChain$Printer" (34 : Nat) "TypeChain$Printer" "chain" "LTypeChain$Chain;") := ⟨ztin2 (List.mem_of_getElem? (i := 61) rfl), rfl⟩
theorem q_302 : zTbl (Cond.laysFinal "TypeChain$Printer" "TypeChain$Printer" "letters" "[I") := ⟨ztin2 (List.mem_of_getElem? (i := 62) rfl), rfl⟩
theorem q_303 : Cond.soleField "TypeChain$Printer" "letters" ∈ lw_tbl := ztin2 (List.mem_of_getElem? (i := 63) rfl)
theorem q_304 : zTbl (Cond.laysFinal "TypeChain$Printer" "TypeChain$Printer" "strike" "LTypeChain$Strike;") := ⟨ztin2 (List.mem_of_getElem? (i := 64) rfl), rfl⟩
theorem q_305 : Cond.soleField "TypeChain$Printer" "strike" ∈ lw_tbl := ztin2 (List.mem_of_getElem? (i := 65) rfl)
theorem q_306 : zTbl (Cond.lays "TypeChain$Printer" "TypeChain$Printer" "tick" "I") := ⟨ztin2 (List.mem_of_getElem? (i := 66) rfl), rfl⟩
theorem q_307 : Cond.soleField "TypeChain$Printer" "tick" ∈ lw_tbl := ztin2 (List.mem_of_getElem? (i := 67) rfl)
theorem q_308 : zTbl (Cond.lays "TypeChain$Printer" "TypeChain$Printer" "row" "I") := ⟨ztin2 (List.mem_of_getElem? (i := 68) rfl), rfl⟩
theorem q_309 : Cond.soleField "TypeChain$Printer" "row" ∈ lw_tbl := ztin2 (List.mem_of_getElem? (i := 69) rfl)
theorem q_310 : zTbl (Cond.lays "TypeChain$Printer" "TypeChain$Printer" "pages" "I") := ⟨ztin2 (List.mem_of_getElem? (i := 70) rfl), rfl⟩
theorem q_311 : Cond.soleField "TypeChain$Printer" "pages" ∈ lw_tbl := ztin2 (List.mem_of_getElem? (i := 71) rfl)
theorem q_312 : zTbl (Cond.lays "TypeChain$Printer" "TypeChain$Printer" "linesStruck" "I") := ⟨ztin2 (List.mem_of_getElem? (i := 72) rfl), rfl⟩
theorem q_313 : Cond.soleField "TypeChain$Printer" "linesStruck" ∈ lw_tbl := ztin2 (List.mem_of_getElem? (i := 73) rfl)
theorem q_314 : zTbl (Cond.laysFinal "TypeChain$Printer" "TypeChain$Printer" "page" "LTypeChain$Page;") := ⟨ztin2 (List.mem_of_getElem? (i := 74) rfl), rfl⟩
theorem q_315 : Cond.soleField "TypeChain$Printer" "page" ∈ lw_tbl := ztin2 (List.mem_of_getElem? (i := 75) rfl)
theorem q_316 : zTbl (Cond.lays "TypeChain$Printer" "TypeChain$Printer" "rules" "LTypeChain$Rules;") := ⟨ztin2 (List.mem_of_getElem? (i := 76) rfl), rfl⟩
theorem q_317 : Cond.soleField "TypeChain$Printer" "rules" ∈ lw_tbl := ztin2 (List.mem_of_getElem? (i := 77) rfl)
theorem q_318 : zTbl (Cond.lays "TypeChain$Printer" "TypeChain$Printer" "chain" "LTypeChain$Chain;") := ⟨ztin2 (List.mem_of_getElem? (i := 78) rfl), rfl⟩
theorem q_319 : Cond.soleField "TypeChain$Printer" "chain" ∈ lw_tbl := ztin2 (List.mem_of_getElem? (i := 79) rfl)
theorem q_320 : zTbl (Cond.superclass "TypeChain$Printer" "java/lang/Object") := ⟨ztin2 (List.mem_of_getElem? (i := 80) rfl), rfl⟩
theorem q_321 : zTbl (Cond.classLink "TypeChain" (46 : Nat) "TypeChain$Trials") := ⟨ztin2 (List.mem_of_getElem? (i := 81) rfl), rfl⟩
theorem q_322 : zTbl (Cond.instantiable "TypeChain$Trials" (9 : Nat)) := ⟨ztin2 (List.mem_of_getElem? (i := 82) rfl), rfl⟩
theorem q_323 : zTbl (Cond.methodLink "TypeChain" (48 : Nat) ({ cls := "TypeChain$Trials", name := "<init>", desc := "(LTypeChain$Rules;)V" } : MethodName)) := ⟨ztin2 (List.mem_of_getElem? (i := 83) rfl), rfl⟩
theorem q_324 : zTbl (Cond.instanceMethod ({ cls := "TypeChain$Trials", name := "<init>", desc := "(LTypeChain$Rules;)V" } : MethodName)) := ⟨ztin2 (List.mem_of_getElem? (i := 84) rfl), rfl⟩
theorem q_325 : zTbl (Cond.code ({ cls := "TypeChain$Trials", name := "<init>", desc := "(LTypeChain$Rules;)V" } : MethodName) prog_10_method_1_code (2 : Nat) (Option.none : Option Jvm.ClassFile.FieldType)) := ⟨ztin2 (List.mem_of_getElem? (i := 85) rfl), rfl⟩
theorem q_326 : zTbl (Cond.methodLink "TypeChain$Trials" (3 : Nat) ({ cls := "java/lang/Object", name := "<init>", desc := "()V" } : MethodName)) := ⟨ztin2 (List.mem_of_getElem? (i := 86) rfl), rfl⟩
theorem q_327 : zTbl (Cond.classLink "TypeChain$Trials" (15 : Nat) "TypeChain$Chain") := ⟨ztin2 (List.mem_of_getElem? (i := 87) rfl), rfl⟩
theorem q_328 : zTbl (Cond.methodLinkNest "TypeChain$Trials" (17 : Nat) ({ cls := "TypeChain$Chain", name := "<init>", desc := "()V" } : MethodName) "TypeChain") := ⟨ztin2 (List.mem_of_getElem? (i := 88) rfl), rfl⟩
theorem q_329 : zTbl (Cond.classLink "TypeChain$Trials" (22 : Nat) "TypeChain$Printer") := ⟨ztin2 (List.mem_of_getElem? (i := 89) rfl), rfl⟩
theorem q_330 : zTbl (Cond.methodLink "TypeChain$Trials" (24 : Nat) ({ cls := "TypeChain$Printer", name := "<init>", desc := "(LTypeChain$Page;LTypeChain$Rules;LTypeChain$Chain;)V" } : MethodName)) := ⟨ztin2 (List.mem_of_getElem? (i := 90) rfl), rfl⟩
theorem q_331 : zTbl (Cond.fieldLink "TypeChain$Trials" (27 : Nat) "TypeChain$Trials" "printer" "LTypeChain$Printer;") := ⟨ztin2 (List.mem_of_getElem? (i := 91) rfl), rfl⟩
theorem q_332 : zTbl (Cond.fieldLink "TypeChain" (149 : Nat) "TypeChain$Trials" "printer" "LTypeChain$Printer;") := ⟨ztin2 (List.mem_of_getElem? (i := 92) rfl), rfl⟩
theorem q_333 : zTbl (Cond.fieldLink "TypeChain$Trials" (9 : Nat) "TypeChain$Trials" "orderLetters" "[I") := ⟨ztin2 (List.mem_of_getElem? (i := 93) rfl), rfl⟩
theorem q_334 : zTbl (Cond.fieldLink "TypeChain" (242 : Nat) "TypeChain$Trials" "orderLetters" "[I") := ⟨ztin2 (List.mem_of_getElem? (i := 94) rfl), rfl⟩
theorem q_335 : zTbl (Cond.fieldLink "TypeChain$Trials" (56 : Nat) "TypeChain$Trials" "orderTicks" "I") := ⟨ztin2 (List.mem_of_getElem? (i := 95) rfl), rfl⟩
theorem q_336 : zTbl (Cond.fieldLink "TypeChain" (239 : Nat) "TypeChain$Trials" "orderTicks" "I") := ⟨ztin2 (List.mem_of_getElem? (i := 96) rfl), rfl⟩
theorem q_337 : zTbl (Cond.fieldLink "TypeChain$Trials" (73 : Nat) "TypeChain$Trials" "doubleTicks" "I") := ⟨ztin2 (List.mem_of_getElem? (i := 97) rfl), rfl⟩
theorem q_338 : zTbl (Cond.fieldLink "TypeChain" (250 : Nat) "TypeChain$Trials" "doubleTicks" "I") := ⟨ztin2 (List.mem_of_getElem? (i := 98) rfl), rfl⟩
theorem q_339 : zTbl (Cond.fieldLink "TypeChain$Trials" (82 : Nat) "TypeChain$Trials" "doubleLetter" "I") := ⟨ztin2 (List.mem_of_getElem? (i := 99) rfl), rfl⟩
theorem q_340 : zTbl (Cond.fieldLink "TypeChain" (253 : Nat) "TypeChain$Trials" "doubleLetter" "I") := ⟨ztin2 (List.mem_of_getElem? (i := 100) rfl), rfl⟩
theorem q_341 : zTbl (Cond.fieldLink "TypeChain$Trials" (76 : Nat) "TypeChain$Trials" "singleTicks" "I") := ⟨ztin2 (List.mem_of_getElem? (i := 101) rfl), rfl⟩
theorem q_342 : zTbl (Cond.fieldLink "TypeChain" (256 : Nat) "TypeChain$Trials" "singleTicks" "I") := ⟨ztin2 (List.mem_of_getElem? (i := 102) rfl), rfl⟩
theorem q_343 : zTbl (Cond.fieldLink "TypeChain$Trials" (18 : Nat) "TypeChain$Trials" "chain" "LTypeChain$Chain;") := ⟨ztin2 (List.mem_of_getElem? (i := 103) rfl), rfl⟩
theorem q_344 : zTbl (Cond.fieldLink "TypeChain$Trials" (31 : Nat) "TypeChain$Trials" "orderKnown" "Z") := ⟨ztin2 (List.mem_of_getElem? (i := 104) rfl), rfl⟩
theorem q_345 : zTbl (Cond.fieldLink "TypeChain$Trials" (35 : Nat) "TypeChain$Trials" "doubleKnown" "Z") := ⟨ztin2 (List.mem_of_getElem? (i := 105) rfl), rfl⟩
theorem q_346 : zTbl (Cond.laysFinal "TypeChain$Trials" "TypeChain$Trials" "printer" "LTypeChain$Printer;") := ⟨ztin2 (List.mem_of_getElem? (i := 106) rfl), rfl⟩
theorem q_347 : Cond.soleField "TypeChain$Trials" "printer" ∈ lw_tbl := ztin2 (List.mem_of_getElem? (i := 107) rfl)
theorem q_348 : zTbl (Cond.laysFinal "TypeChain$Trials" "TypeChain$Trials" "orderLetters" "[I") := ⟨ztin2 (List.mem_of_getElem? (i := 108) rfl), rfl⟩
theorem q_349 : Cond.soleField "TypeChain$Trials" "orderLetters" ∈ lw_tbl := ztin2 (List.mem_of_getElem? (i := 109) rfl)
theorem q_350 : zTbl (Cond.lays "TypeChain$Trials" "TypeChain$Trials" "orderTicks" "I") := ⟨ztin2 (List.mem_of_getElem? (i := 110) rfl), rfl⟩
theorem q_351 : Cond.soleField "TypeChain$Trials" "orderTicks" ∈ lw_tbl := ztin2 (List.mem_of_getElem? (i := 111) rfl)
theorem q_352 : zTbl (Cond.lays "TypeChain$Trials" "TypeChain$Trials" "doubleTicks" "I") := ⟨ztin2 (List.mem_of_getElem? (i := 112) rfl), rfl⟩
theorem q_353 : Cond.soleField "TypeChain$Trials" "doubleTicks" ∈ lw_tbl := ztin2 (List.mem_of_getElem? (i := 113) rfl)
theorem q_354 : zTbl (Cond.lays "TypeChain$Trials" "TypeChain$Trials" "doubleLetter" "I") := ⟨ztin2 (List.mem_of_getElem? (i := 114) rfl), rfl⟩
theorem q_355 : Cond.soleField "TypeChain$Trials" "doubleLetter" ∈ lw_tbl := ztin2 (List.mem_of_getElem? (i := 115) rfl)
theorem q_356 : zTbl (Cond.lays "TypeChain$Trials" "TypeChain$Trials" "singleTicks" "I") := ⟨ztin2 (List.mem_of_getElem? (i := 116) rfl), rfl⟩
theorem q_357 : Cond.soleField "TypeChain$Trials" "singleTicks" ∈ lw_tbl := ztin2 (List.mem_of_getElem? (i := 117) rfl)
theorem q_358 : zTbl (Cond.laysFinal "TypeChain$Trials" "TypeChain$Trials" "chain" "LTypeChain$Chain;") := ⟨ztin2 (List.mem_of_getElem? (i := 118) rfl), rfl⟩
theorem q_359 : Cond.soleField "TypeChain$Trials" "chain" ∈ lw_tbl := ztin2 (List.mem_of_getElem? (i := 119) rfl)
theorem q_360 : zTbl (Cond.lays "TypeChain$Trials" "TypeChain$Trials" "orderKnown" "Z") := ⟨ztin2 (List.mem_of_getElem? (i := 120) rfl), rfl⟩
theorem q_361 : Cond.soleField "TypeChain$Trials" "orderKnown" ∈ lw_tbl := ztin2 (List.mem_of_getElem? (i := 121) rfl)
theorem q_362 : zTbl (Cond.lays "TypeChain$Trials" "TypeChain$Trials" "doubleKnown" "Z") := ⟨ztin2 (List.mem_of_getElem? (i := 122) rfl), rfl⟩
theorem q_363 : Cond.soleField "TypeChain$Trials" "doubleKnown" ∈ lw_tbl := ztin2 (List.mem_of_getElem? (i := 123) rfl)
theorem q_364 : zTbl (Cond.superclass "TypeChain$Trials" "java/lang/Object") := ⟨ztin2 (List.mem_of_getElem? (i := 124) rfl), rfl⟩
theorem q_365 : zTbl (Cond.classLink "TypeChain" (55 : Nat) "TypeChain$Sheets") := ⟨ztin2 (List.mem_of_getElem? (i := 125) rfl), rfl⟩
theorem q_366 : zTbl (Cond.instantiable "TypeChain$Sheets" (3 : Nat)) := ⟨ztin2 (List.mem_of_getElem? (i := 126) rfl), rfl⟩
theorem q_367 : zTbl (Cond.methodLink "TypeChain" (57 : Nat) ({ cls := "TypeChain$Sheets", name := "<init>", desc := "()V" } : MethodName)) := ⟨ztin2 (List.mem_of_getElem? (i := 127) rfl), rfl⟩
theorem q_368 : zTbl (Cond.instanceMethod ({ cls := "TypeChain$Sheets", name := "<init>", desc := "()V" } : MethodName)) := ⟨ztin2 (List.mem_of_getElem? (i := 128) rfl), rfl⟩
theorem q_369 : zTbl (Cond.code ({ cls := "TypeChain$Sheets", name := "<init>", desc := "()V" } : MethodName) prog_8_method_1_code (1 : Nat) (Option.none : Option Jvm.ClassFile.FieldType)) := ⟨ztin2 (List.mem_of_getElem? (i := 129) rfl), rfl⟩
theorem q_370 : zTbl (Cond.methodLink "TypeChain$Sheets" (3 : Nat) ({ cls := "java/lang/Object", name := "<init>", desc := "()V" } : MethodName)) := ⟨ztin2 (List.mem_of_getElem? (i := 130) rfl), rfl⟩
theorem q_371 : zTbl (Cond.methodLink "TypeChain$Sheets" (21 : Nat) ({ cls := "java/util/Arrays", name := "fill", desc := "([II)V" } : MethodName)) := ⟨ztin2 (List.mem_of_getElem? (i := 131) rfl), rfl⟩
theorem q_372 : zTbl (Cond.fieldLink "TypeChain$Sheets" (9 : Nat) "TypeChain$Sheets" "lanes" "[I") := ⟨ztin2 (List.mem_of_getElem? (i := 132) rfl), rfl⟩
theorem q_373 : zTbl (Cond.fieldLink "TypeChain" (280 : Nat) "TypeChain$Sheets" "lanes" "[I") := ⟨ztin2 (List.mem_of_getElem? (i := 133) rfl), rfl⟩
theorem q_374 : zTbl (Cond.fieldLink "TypeChain$Sheets" (15 : Nat) "TypeChain$Sheets" "sizes" "[I") := ⟨ztin2 (List.mem_of_getElem? (i := 134) rfl), rfl⟩
theorem q_375 : zTbl (Cond.fieldLink "TypeChain" (299 : Nat) "TypeChain$Sheets" "sizes" "[I") := ⟨ztin2 (List.mem_of_getElem? (i := 135) rfl), rfl⟩
theorem q_376 : zTbl (Cond.fieldLink "TypeChain$Sheets" (18 : Nat) "TypeChain$Sheets" "cells" "[I") := ⟨ztin2 (List.mem_of_getElem? (i := 136) rfl), rfl⟩
theorem q_377 : zTbl (Cond.laysFinal "TypeChain$Sheets" "TypeChain$Sheets" "lanes" "[I") := ⟨ztin2 (List.mem_of_getElem? (i := 137) rfl), rfl⟩
theorem q_378 : Cond.soleField "TypeChain$Sheets" "lanes" ∈ lw_tbl := ztin2 (List.mem_of_getElem? (i := 138) rfl)
theorem q_379 : zTbl (Cond.laysFinal "TypeChain$Sheets" "TypeChain$Sheets" "sizes" "[I") := ⟨ztin2 (List.mem_of_getElem? (i := 139) rfl), rfl⟩
theorem q_380 : Cond.soleField "TypeChain$Sheets" "sizes" ∈ lw_tbl := ztin2 (List.mem_of_getElem? (i := 140) rfl)
theorem q_381 : zTbl (Cond.laysFinal "TypeChain$Sheets" "TypeChain$Sheets" "cells" "[I") := ⟨ztin2 (List.mem_of_getElem? (i := 141) rfl), rfl⟩
theorem q_382 : Cond.soleField "TypeChain$Sheets" "cells" ∈ lw_tbl := ztin2 (List.mem_of_getElem? (i := 142) rfl)
theorem q_383 : zTbl (Cond.superclass "TypeChain$Sheets" "java/lang/Object") := ⟨ztin2 (List.mem_of_getElem? (i := 143) rfl), rfl⟩
theorem q_384 : zTbl (Cond.fieldLink "TypeChain" (12 : Nat) "TypeChain" "rules" "LTypeChain$Rules;") := ⟨ztin2 (List.mem_of_getElem? (i := 144) rfl), rfl⟩
theorem q_385 : zTbl (Cond.fieldLink "TypeChain" (16 : Nat) "TypeChain" "draft" "LTypeChain$Rules;") := ⟨ztin2 (List.mem_of_getElem? (i := 145) rfl), rfl⟩
theorem q_386 : zTbl (Cond.fieldLink "TypeChain" (22 : Nat) "TypeChain" "reader" "LTypeChain$Reader;") := ⟨ztin2 (List.mem_of_getElem? (i := 146) rfl), rfl⟩
theorem q_387 : zTbl (Cond.fieldLink "TypeChain" (29 : Nat) "TypeChain" "paper" "LTypeChain$Page;") := ⟨ztin2 (List.mem_of_getElem? (i := 147) rfl), rfl⟩
theorem q_388 : zTbl (Cond.fieldLink "TypeChain" (42 : Nat) "TypeChain" "printer" "LTypeChain$Printer;") := ⟨ztin2 (List.mem_of_getElem? (i := 148) rfl), rfl⟩
theorem q_389 : zTbl (Cond.fieldLink "TypeChain" (51 : Nat) "TypeChain" "trials" "LTypeChain$Trials;") := ⟨ztin2 (List.mem_of_getElem? (i := 149) rfl), rfl⟩
theorem q_390 : zTbl (Cond.fieldLink "TypeChain" (58 : Nat) "TypeChain" "sheets" "LTypeChain$Sheets;") := ⟨ztin2 (List.mem_of_getElem? (i := 150) rfl), rfl⟩
theorem q_391 : zTbl (Cond.fieldLink "TypeChain" (224 : Nat) "TypeChain" "wasRun" "Z") := ⟨ztin2 (List.mem_of_getElem? (i := 151) rfl), rfl⟩
theorem q_392 : zTbl (Cond.fieldLink "TypeChain" (227 : Nat) "TypeChain" "ranTicks" "I") := ⟨ztin2 (List.mem_of_getElem? (i := 152) rfl), rfl⟩
theorem q_393 : zTbl (Cond.fieldLink "TypeChain" (230 : Nat) "TypeChain" "ranLines" "I") := ⟨ztin2 (List.mem_of_getElem? (i := 153) rfl), rfl⟩
theorem q_394 : zTbl (Cond.fieldLink "TypeChain" (233 : Nat) "TypeChain" "ranEnd" "I") := ⟨ztin2 (List.mem_of_getElem? (i := 154) rfl), rfl⟩
theorem q_395 : zTbl (Cond.lays "TypeChain" "TypeChain" "rules" "LTypeChain$Rules;") := ⟨ztin2 (List.mem_of_getElem? (i := 155) rfl), rfl⟩
theorem q_396 : Cond.soleField "TypeChain" "rules" ∈ lw_tbl := ztin2 (List.mem_of_getElem? (i := 156) rfl)
theorem q_397 : zTbl (Cond.lays "TypeChain" "TypeChain" "draft" "LTypeChain$Rules;") := ⟨ztin2 (List.mem_of_getElem? (i := 157) rfl), rfl⟩
theorem q_398 : Cond.soleField "TypeChain" "draft" ∈ lw_tbl := ztin2 (List.mem_of_getElem? (i := 158) rfl)
theorem q_399 : zTbl (Cond.laysFinal "TypeChain" "TypeChain" "reader" "LTypeChain$Reader;") := ⟨ztin2 (List.mem_of_getElem? (i := 159) rfl), rfl⟩
theorem q_400 : Cond.soleField "TypeChain" "reader" ∈ lw_tbl := ztin2 (List.mem_of_getElem? (i := 160) rfl)
theorem q_401 : zTbl (Cond.laysFinal "TypeChain" "TypeChain" "paper" "LTypeChain$Page;") := ⟨ztin2 (List.mem_of_getElem? (i := 161) rfl), rfl⟩
theorem q_402 : Cond.soleField "TypeChain" "paper" ∈ lw_tbl := ztin2 (List.mem_of_getElem? (i := 162) rfl)
theorem q_403 : zTbl (Cond.laysFinal "TypeChain" "TypeChain" "printer" "LTypeChain$Printer;") := ⟨ztin2 (List.mem_of_getElem? (i := 163) rfl), rfl⟩
theorem q_404 : Cond.soleField "TypeChain" "printer" ∈ lw_tbl := ztin2 (List.mem_of_getElem? (i := 164) rfl)
theorem q_405 : zTbl (Cond.laysFinal "TypeChain" "TypeChain" "trials" "LTypeChain$Trials;") := ⟨ztin2 (List.mem_of_getElem? (i := 165) rfl), rfl⟩
theorem q_406 : Cond.soleField "TypeChain" "trials" ∈ lw_tbl := ztin2 (List.mem_of_getElem? (i := 166) rfl)
theorem q_407 : zTbl (Cond.laysFinal "TypeChain" "TypeChain" "sheets" "LTypeChain$Sheets;") := ⟨ztin2 (List.mem_of_getElem? (i := 167) rfl), rfl⟩
theorem q_408 : Cond.soleField "TypeChain" "sheets" ∈ lw_tbl := ztin2 (List.mem_of_getElem? (i := 168) rfl)
theorem q_409 : zTbl (Cond.lays "TypeChain" "TypeChain" "wasRun" "Z") := ⟨ztin2 (List.mem_of_getElem? (i := 169) rfl), rfl⟩
theorem q_410 : Cond.soleField "TypeChain" "wasRun" ∈ lw_tbl := ztin2 (List.mem_of_getElem? (i := 170) rfl)
theorem q_411 : zTbl (Cond.lays "TypeChain" "TypeChain" "ranTicks" "I") := ⟨ztin2 (List.mem_of_getElem? (i := 171) rfl), rfl⟩
theorem q_412 : Cond.soleField "TypeChain" "ranTicks" ∈ lw_tbl := ztin2 (List.mem_of_getElem? (i := 172) rfl)
theorem q_413 : zTbl (Cond.lays "TypeChain" "TypeChain" "ranLines" "I") := ⟨ztin2 (List.mem_of_getElem? (i := 173) rfl), rfl⟩
theorem q_414 : Cond.soleField "TypeChain" "ranLines" ∈ lw_tbl := ztin2 (List.mem_of_getElem? (i := 174) rfl)
theorem q_415 : zTbl (Cond.lays "TypeChain" "TypeChain" "ranEnd" "I") := ⟨ztin2 (List.mem_of_getElem? (i := 175) rfl), rfl⟩
theorem q_416 : Cond.soleField "TypeChain" "ranEnd" ∈ lw_tbl := ztin2 (List.mem_of_getElem? (i := 176) rfl)
theorem q_417 : zTbl (Cond.superclass "TypeChain" "java/lang/Object") := ⟨ztin2 (List.mem_of_getElem? (i := 177) rfl), rfl⟩
theorem q_418 : zTbl (Cond.methodLink "TypeChainLaw" (15 : Nat) ({ cls := "TypeChain", name := "feed", desc := "(J)I" } : MethodName)) := ⟨ztin2 (List.mem_of_getElem? (i := 178) rfl), rfl⟩
theorem q_419 : zTbl (Cond.instanceMethod ({ cls := "TypeChain", name := "feed", desc := "(J)I" } : MethodName)) := ⟨ztin2 (List.mem_of_getElem? (i := 179) rfl), rfl⟩
theorem q_420 : zTbl (Cond.selects "TypeChain" ({ cls := "TypeChain", name := "feed", desc := "(J)I" } : MethodName) ({ cls := "TypeChain", name := "feed", desc := "(J)I" } : MethodName)) := ⟨ztin2 (List.mem_of_getElem? (i := 180) rfl), rfl⟩
theorem q_421 : zTbl (Cond.code ({ cls := "TypeChain", name := "feed", desc := "(J)I" } : MethodName) prog_1_method_2_code (3 : Nat) (Option.some FieldType.int)) := ⟨ztin2 (List.mem_of_getElem? (i := 181) rfl), rfl⟩
theorem q_422 : zTbl (Cond.methodLink "TypeChain" (62 : Nat) ({ cls := "TypeChain$Reader", name := "append", desc := "(J)Z" } : MethodName)) := ⟨ztin2 (List.mem_of_getElem? (i := 182) rfl), rfl⟩
theorem q_423 : zTbl (Cond.instanceMethod ({ cls := "TypeChain$Reader", name := "append", desc := "(J)Z" } : MethodName)) := ⟨ztin2 (List.mem_of_getElem? (i := 183) rfl), rfl⟩
theorem q_424 : zTbl (Cond.selects "TypeChain$Reader" ({ cls := "TypeChain$Reader", name := "append", desc := "(J)Z" } : MethodName) ({ cls := "TypeChain$Reader", name := "append", desc := "(J)Z" } : MethodName)) := ⟨ztin2 (List.mem_of_getElem? (i := 184) rfl), rfl⟩
theorem q_425 : zTbl (Cond.code ({ cls := "TypeChain$Reader", name := "append", desc := "(J)Z" } : MethodName) prog_6_method_2_code (4 : Nat) (Option.some FieldType.boolean)) := ⟨ztin2 (List.mem_of_getElem? (i := 185) rfl), rfl⟩
theorem q_426 : zTbl (Cond.methodLink "TypeChainLaw" (20 : Nat) ({ cls := "TypeChain", name := "end", desc := "(I)I" } : MethodName)) := ⟨ztin2 (List.mem_of_getElem? (i := 186) rfl), rfl⟩
theorem q_427 : zTbl (Cond.instanceMethod ({ cls := "TypeChain", name := "end", desc := "(I)I" } : MethodName)) := ⟨ztin2 (List.mem_of_getElem? (i := 187) rfl), rfl⟩
theorem q_428 : zTbl (Cond.selects "TypeChain" ({ cls := "TypeChain", name := "end", desc := "(I)I" } : MethodName) ({ cls := "TypeChain", name := "end", desc := "(I)I" } : MethodName)) := ⟨ztin2 (List.mem_of_getElem? (i := 188) rfl), rfl⟩
theorem q_429 : zTbl (Cond.code ({ cls := "TypeChain", name := "end", desc := "(I)I" } : MethodName) prog_1_method_3_code (3 : Nat) (Option.some FieldType.int)) := ⟨ztin2 (List.mem_of_getElem? (i := 189) rfl), rfl⟩
theorem q_430 : zTbl (Cond.methodLink "TypeChainLaw" (25 : Nat) ({ cls := "TypeChain", name := "text", desc := "()I" } : MethodName)) := ⟨ztin2 (List.mem_of_getElem? (i := 190) rfl), rfl⟩
theorem q_431 : zTbl (Cond.instanceMethod ({ cls := "TypeChain", name := "text", desc := "()I" } : MethodName)) := ⟨ztin2 (List.mem_of_getElem? (i := 191) rfl), rfl⟩
theorem q_432 : zTbl (Cond.selects "TypeChain" ({ cls := "TypeChain", name := "text", desc := "()I" } : MethodName) ({ cls := "TypeChain", name := "text", desc := "()I" } : MethodName)) := ⟨ztin2 (List.mem_of_getElem? (i := 192) rfl), rfl⟩
theorem q_433 : zTbl (Cond.code ({ cls := "TypeChain", name := "text", desc := "()I" } : MethodName) prog_1_method_4_code (3 : Nat) (Option.some FieldType.int)) := ⟨ztin2 (List.mem_of_getElem? (i := 193) rfl), rfl⟩
theorem q_434 : zTbl (Cond.methodLink "TypeChain" (70 : Nat) ({ cls := "TypeChain$Reader", name := "readInto", desc := "(LTypeChain$Rules;)Z" } : MethodName)) := ⟨ztin2 (List.mem_of_getElem? (i := 194) rfl), rfl⟩
theorem q_435 : zTbl (Cond.instanceMethod ({ cls := "TypeChain$Reader", name := "readInto", desc := "(LTypeChain$Rules;)Z" } : MethodName)) := ⟨ztin2 (List.mem_of_getElem? (i := 195) rfl), rfl⟩
theorem q_436 : zTbl (Cond.selects "TypeChain$Reader" ({ cls := "TypeChain$Reader", name := "readInto", desc := "(LTypeChain$Rules;)Z" } : MethodName) ({ cls := "TypeChain$Reader", name := "readInto", desc := "(LTypeChain$Rules;)Z" } : MethodName)) := ⟨ztin2 (List.mem_of_getElem? (i := 196) rfl), rfl⟩
theorem q_437 : zTbl (Cond.code ({ cls := "TypeChain$Reader", name := "readInto", desc := "(LTypeChain$Rules;)Z" } : MethodName) prog_6_method_3_code (3 : Nat) (Option.some FieldType.boolean)) := ⟨ztin2 (List.mem_of_getElem? (i := 197) rfl), rfl⟩
theorem q_438 : zTbl (Cond.methodLink "TypeChain$Reader" (29 : Nat) ({ cls := "TypeChain$Rules", name := "beAtFirst", desc := "()V" } : MethodName)) := ⟨ztin2 (List.mem_of_getElem? (i := 198) rfl), rfl⟩
theorem q_439 : zTbl (Cond.methodLink "TypeChain$Reader" (49 : Nat) ({ cls := "TypeChain$Reader", name := "nextToken", desc := "()Z" } : MethodName)) := ⟨ztin2 (List.mem_of_getElem? (i := 199) rfl), rfl⟩
theorem q_440 : Cond.privateMethod ({ cls := "TypeChain$Reader", name := "nextToken", desc := "()Z" } : MethodName) ∈ lw_tbl := ztin2 (List.mem_of_getElem? (i := 200) rfl)
theorem q_441 : zTbl (Cond.instanceMethod ({ cls := "TypeChain$Reader", name := "nextToken", desc := "()Z" } : MethodName)) := ⟨ztin2 (List.mem_of_getElem? (i := 201) rfl), rfl⟩
theorem q_442 : zTbl (Cond.code ({ cls := "TypeChain$Reader", name := "nextToken", desc := "()Z" } : MethodName) prog_6_method_13_code (1 : Nat) (Option.some FieldType.boolean)) := ⟨ztin2 (List.mem_of_getElem? (i := 202) rfl), rfl⟩
theorem q_443 : zTbl (Cond.methodLink "TypeChain$Reader" (150 : Nat) ({ cls := "TypeChain$Reader", name := "kindOf", desc := "(I)I" } : MethodName)) := ⟨ztin2 (List.mem_of_getElem? (i := 203) rfl), rfl⟩
theorem q_444 : zTbl (Cond.static ({ cls := "TypeChain$Reader", name := "kindOf", desc := "(I)I" } : MethodName)) := ⟨ztin2 (List.mem_of_getElem? (i := 204) rfl), rfl⟩
theorem q_445 : zTbl (Cond.code ({ cls := "TypeChain$Reader", name := "kindOf", desc := "(I)I" } : MethodName) prog_6_method_14_code (1 : Nat) (Option.some FieldType.int)) := ⟨ztin2 (List.mem_of_getElem? (i := 205) rfl), rfl⟩
theorem q_446 : zTbl (Cond.methodLink "TypeChain$Reader" (73 : Nat) ({ cls := "TypeChain$Reader", name := "fail", desc := "(II)Z" } : MethodName)) := ⟨ztin2 (List.mem_of_getElem? (i := 206) rfl), rfl⟩
theorem q_447 : Cond.privateMethod ({ cls := "TypeChain$Reader", name := "fail", desc := "(II)Z" } : MethodName) ∈ lw_tbl := ztin2 (List.mem_of_getElem? (i := 207) rfl)
theorem q_448 : zTbl (Cond.instanceMethod ({ cls := "TypeChain$Reader", name := "fail", desc := "(II)Z" } : MethodName)) := ⟨ztin2 (List.mem_of_getElem? (i := 208) rfl), rfl⟩
theorem q_449 : zTbl (Cond.code ({ cls := "TypeChain$Reader", name := "fail", desc := "(II)Z" } : MethodName) prog_6_method_18_code (3 : Nat) (Option.some FieldType.boolean)) := ⟨ztin2 (List.mem_of_getElem? (i := 209) rfl), rfl⟩
theorem q_450 : zTbl (Cond.methodLink "TypeChain$Reader" (56 : Nat) ({ cls := "TypeChain$Rules", name := "settle", desc := "()V" } : MethodName)) := ⟨ztin2 (List.mem_of_getElem? (i := 210) rfl), rfl⟩
theorem q_451 : zTbl (Cond.methodLink "TypeChain$Reader" (59 : Nat) ({ cls := "TypeChain$Reader", name := "lookBehindAll", desc := "(LTypeChain$Rules;)Z" } : MethodName)) := ⟨ztin2 (List.mem_of_getElem? (i := 211) rfl), rfl⟩
theorem q_452 : Cond.privateMethod ({ cls := "TypeChain$Reader", name := "lookBehindAll", desc := "(LTypeChain$Rules;)Z" } : MethodName) ∈ lw_tbl := ztin2 (List.mem_of_getElem? (i := 212) rfl)
theorem q_453 : zTbl (Cond.instanceMethod ({ cls := "TypeChain$Reader", name := "lookBehindAll", desc := "(LTypeChain$Rules;)Z" } : MethodName)) := ⟨ztin2 (List.mem_of_getElem? (i := 213) rfl), rfl⟩
theorem q_454 : zTbl (Cond.code ({ cls := "TypeChain$Reader", name := "lookBehindAll", desc := "(LTypeChain$Rules;)Z" } : MethodName) prog_6_method_10_code (4 : Nat) (Option.some FieldType.boolean)) := ⟨ztin2 (List.mem_of_getElem? (i := 214) rfl), rfl⟩
theorem q_455 : zTbl (Cond.methodLink "TypeChain$Reader" (63 : Nat) ({ cls := "TypeChain$Reader", name := "readLine", desc := "(LTypeChain$Rules;)Z" } : MethodName)) := ⟨ztin2 (List.mem_of_getElem? (i := 215) rfl), rfl⟩
theorem q_456 : Cond.privateMethod ({ cls := "TypeChain$Reader", name := "readLine", desc := "(LTypeChain$Rules;)Z" } : MethodName) ∈ lw_tbl := ztin2 (List.mem_of_getElem? (i := 216) rfl)
theorem q_457 : zTbl (Cond.instanceMethod ({ cls := "TypeChain$Reader", name := "readLine", desc := "(LTypeChain$Rules;)Z" } : MethodName)) := ⟨ztin2 (List.mem_of_getElem? (i := 217) rfl), rfl⟩
theorem q_458 : zTbl (Cond.code ({ cls := "TypeChain$Reader", name := "readLine", desc := "(LTypeChain$Rules;)Z" } : MethodName) prog_6_method_4_code (4 : Nat) (Option.some FieldType.boolean)) := ⟨ztin2 (List.mem_of_getElem? (i := 218) rfl), rfl⟩
theorem q_459 : zTbl (Cond.methodLink "TypeChain$Reader" (66 : Nat) ({ cls := "TypeChain$Reader", name := "wordOfToken", desc := "()I" } : MethodName)) := ⟨ztin2 (List.mem_of_getElem? (i := 219) rfl), rfl⟩
theorem q_460 : Cond.privateMethod ({ cls := "TypeChain$Reader", name := "wordOfToken", desc := "()I" } : MethodName) ∈ lw_tbl := ztin2 (List.mem_of_getElem? (i := 220) rfl)
theorem q_461 : zTbl (Cond.instanceMethod ({ cls := "TypeChain$Reader", name := "wordOfToken", desc := "()I" } : MethodName)) := ⟨ztin2 (List.mem_of_getElem? (i := 221) rfl), rfl⟩
theorem q_462 : zTbl (Cond.code ({ cls := "TypeChain$Reader", name := "wordOfToken", desc := "()I" } : MethodName) prog_6_method_15_code (3 : Nat) (Option.some FieldType.int)) := ⟨ztin2 (List.mem_of_getElem? (i := 222) rfl), rfl⟩
theorem q_463 : zTbl (Cond.methodLink "TypeChain$Reader" (153 : Nat) ({ cls := "TypeChain$Reader", name := "isWord", desc := "(II)Z" } : MethodName)) := ⟨ztin2 (List.mem_of_getElem? (i := 223) rfl), rfl⟩
theorem q_464 : Cond.privateMethod ({ cls := "TypeChain$Reader", name := "isWord", desc := "(II)Z" } : MethodName) ∈ lw_tbl := ztin2 (List.mem_of_getElem? (i := 224) rfl)
theorem q_465 : zTbl (Cond.instanceMethod ({ cls := "TypeChain$Reader", name := "isWord", desc := "(II)Z" } : MethodName)) := ⟨ztin2 (List.mem_of_getElem? (i := 225) rfl), rfl⟩
theorem q_466 : zTbl (Cond.code ({ cls := "TypeChain$Reader", name := "isWord", desc := "(II)Z" } : MethodName) prog_6_method_16_code (5 : Nat) (Option.some FieldType.boolean)) := ⟨ztin2 (List.mem_of_getElem? (i := 226) rfl), rfl⟩
theorem q_467 : Cond.stringRef "TypeChain$Reader" (156 : Nat) "chain  pitch  gap    columnspower  start  step   rows   hole   put    go     space  skip   " ∈ lw_tbl := ztin2 (List.mem_of_getElem? (i := 227) rfl)
theorem q_468 : zTbl (Cond.methodLink "TypeChain$Reader" (158 : Nat) ({ cls := "java/lang/String", name := "charAt", desc := "(I)C" } : MethodName)) := ⟨ztin2 (List.mem_of_getElem? (i := 228) rfl), rfl⟩
theorem q_469 : zTbl (Cond.instanceMethod ({ cls := "java/lang/String", name := "charAt", desc := "(I)C" } : MethodName)) := ⟨ztin2 (List.mem_of_getElem? (i := 229) rfl), rfl⟩
theorem q_470 : zTbl (Cond.selects "java/lang/String" ({ cls := "java/lang/String", name := "charAt", desc := "(I)C" } : MethodName) ({ cls := "java/lang/String", name := "charAt", desc := "(I)C" } : MethodName)) := ⟨ztin2 (List.mem_of_getElem? (i := 230) rfl), rfl⟩
theorem q_471 : zTbl (Cond.code ({ cls := "java/lang/String", name := "charAt", desc := "(I)C" } : MethodName) prog_16_method_56_code (2 : Nat) (Option.some FieldType.char)) := ⟨ztin2 (List.mem_of_getElem? (i := 231) rfl), rfl⟩
theorem q_472 : zTbl (Cond.methodLink "java/lang/String" (492 : Nat) ({ cls := "java/lang/String", name := "isLatin1", desc := "()Z" } : MethodName)) := ⟨ztin2 (List.mem_of_getElem? (i := 232) rfl), rfl⟩
theorem q_473 : zTbl (Cond.instanceMethod ({ cls := "java/lang/String", name := "isLatin1", desc := "()Z" } : MethodName)) := ⟨ztin2 (List.mem_of_getElem? (i := 233) rfl), rfl⟩
theorem q_474 : zTbl (Cond.selects "java/lang/String" ({ cls := "java/lang/String", name := "isLatin1", desc := "()Z" } : MethodName) ({ cls := "java/lang/String", name := "isLatin1", desc := "()Z" } : MethodName)) := ⟨ztin2 (List.mem_of_getElem? (i := 234) rfl), rfl⟩
theorem q_475 : zTbl (Cond.code ({ cls := "java/lang/String", name := "isLatin1", desc := "()Z" } : MethodName) prog_16_method_154_code (1 : Nat) (Option.some FieldType.boolean)) := ⟨ztin2 (List.mem_of_getElem? (i := 235) rfl), rfl⟩
theorem q_476 : zTbl (Cond.fieldLink "java/lang/String" (38 : Nat) "java/lang/String" "COMPACT_STRINGS" "Z") := ⟨ztin2 (List.mem_of_getElem? (i := 236) rfl), rfl⟩
theorem q_477 : Cond.laysStatic "java/lang/String" "COMPACT_STRINGS" "Z" ∈ lw_tbl := ztin2 (List.mem_of_getElem? (i := 237) rfl)
theorem q_478 : zTbl (Cond.methodLink "java/lang/String" (495 : Nat) ({ cls := "java/lang/StringLatin1", name := "charAt", desc := "([BI)C" } : MethodName)) := ⟨ztin2 (List.mem_of_getElem? (i := 238) rfl), rfl⟩
theorem q_479 : zTbl (Cond.static ({ cls := "java/lang/StringLatin1", name := "charAt", desc := "([BI)C" } : MethodName)) := ⟨ztin2 (List.mem_of_getElem? (i := 239) rfl), rfl⟩
theorem q_480 : zTbl (Cond.code ({ cls := "java/lang/StringLatin1", name := "charAt", desc := "([BI)C" } : MethodName) prog_17_method_2_code (2 : Nat) (Option.some FieldType.char)) := ⟨ztin3 (List.mem_of_getElem? (i := 0) rfl), rfl⟩
theorem q_481 : zTbl (Cond.methodLink "java/lang/StringLatin1" (9 : Nat) ({ cls := "java/lang/String", name := "checkIndex", desc := "(II)V" } : MethodName)) := ⟨ztin3 (List.mem_of_getElem? (i := 1) rfl), rfl⟩
theorem q_482 : zTbl (Cond.static ({ cls := "java/lang/String", name := "checkIndex", desc := "(II)V" } : MethodName)) := ⟨ztin3 (List.mem_of_getElem? (i := 2) rfl), rfl⟩
theorem q_483 : zTbl (Cond.code ({ cls := "java/lang/String", name := "checkIndex", desc := "(II)V" } : MethodName) prog_16_method_155_code (2 : Nat) (Option.none : Option Jvm.ClassFile.FieldType)) := ⟨ztin3 (List.mem_of_getElem? (i := 3) rfl), rfl⟩
theorem q_484 : zTbl (Cond.fieldLink "java/lang/String" (1053 : Nat) "jdk/internal/util/Preconditions" "SIOOBE_FORMATTER" "Ljava/util/function/BiFunction;") := ⟨ztin3 (List.mem_of_getElem? (i := 4) rfl), rfl⟩
theorem q_485 : Cond.laysStatic "jdk/internal/util/Preconditions" "SIOOBE_FORMATTER" "Ljava/util/function/BiFunction;" ∈ lw_tbl := ztin3 (List.mem_of_getElem? (i := 5) rfl)
theorem q_486 : zTbl (Cond.methodLink "java/lang/String" (1059 : Nat) ({ cls := "jdk/internal/util/Preconditions", name := "checkIndex", desc := "(IILjava/util/function/BiFunction;)I" } : MethodName)) := ⟨ztin3 (List.mem_of_getElem? (i := 6) rfl), rfl⟩
theorem q_487 : zTbl (Cond.static ({ cls := "jdk/internal/util/Preconditions", name := "checkIndex", desc := "(IILjava/util/function/BiFunction;)I" } : MethodName)) := ⟨ztin3 (List.mem_of_getElem? (i := 7) rfl), rfl⟩
theorem q_488 : zTbl (Cond.code ({ cls := "jdk/internal/util/Preconditions", name := "checkIndex", desc := "(IILjava/util/function/BiFunction;)I" } : MethodName) prog_21_method_11_code (3 : Nat) (Option.some FieldType.int)) := ⟨ztin3 (List.mem_of_getElem? (i := 8) rfl), rfl⟩
theorem q_489 : zTbl (Cond.methodLink "java/lang/String" (498 : Nat) ({ cls := "java/lang/StringUTF16", name := "charAt", desc := "([BI)C" } : MethodName)) := ⟨ztin3 (List.mem_of_getElem? (i := 9) rfl), rfl⟩
theorem q_490 : zTbl (Cond.static ({ cls := "java/lang/StringUTF16", name := "charAt", desc := "([BI)C" } : MethodName)) := ⟨ztin3 (List.mem_of_getElem? (i := 10) rfl), rfl⟩
theorem q_491 : zTbl (Cond.code ({ cls := "java/lang/StringUTF16", name := "charAt", desc := "([BI)C" } : MethodName) prog_18_method_83_code (2 : Nat) (Option.some FieldType.char)) := ⟨ztin3 (List.mem_of_getElem? (i := 11) rfl), rfl⟩
theorem q_492 : zTbl (Cond.methodLink "java/lang/StringUTF16" (67 : Nat) ({ cls := "java/lang/StringUTF16", name := "checkIndex", desc := "(I[B)V" } : MethodName)) := ⟨ztin3 (List.mem_of_getElem? (i := 12) rfl), rfl⟩
theorem q_493 : zTbl (Cond.static ({ cls := "java/lang/StringUTF16", name := "checkIndex", desc := "(I[B)V" } : MethodName)) := ⟨ztin3 (List.mem_of_getElem? (i := 13) rfl), rfl⟩
theorem q_494 : zTbl (Cond.code ({ cls := "java/lang/StringUTF16", name := "checkIndex", desc := "(I[B)V" } : MethodName) prog_18_method_91_code (2 : Nat) (Option.none : Option Jvm.ClassFile.FieldType)) := ⟨ztin3 (List.mem_of_getElem? (i := 14) rfl), rfl⟩
theorem q_495 : zTbl (Cond.methodLink "java/lang/StringUTF16" (48 : Nat) ({ cls := "java/lang/StringUTF16", name := "length", desc := "([B)I" } : MethodName)) := ⟨ztin3 (List.mem_of_getElem? (i := 15) rfl), rfl⟩
theorem q_496 : zTbl (Cond.static ({ cls := "java/lang/StringUTF16", name := "length", desc := "([B)I" } : MethodName)) := ⟨ztin3 (List.mem_of_getElem? (i := 16) rfl), rfl⟩
theorem q_497 : zTbl (Cond.code ({ cls := "java/lang/StringUTF16", name := "length", desc := "([B)I" } : MethodName) prog_18_method_6_code (1 : Nat) (Option.some FieldType.int)) := ⟨ztin3 (List.mem_of_getElem? (i := 17) rfl), rfl⟩
theorem q_498 : zTbl (Cond.methodLink "java/lang/StringUTF16" (414 : Nat) ({ cls := "java/lang/String", name := "checkIndex", desc := "(II)V" } : MethodName)) := ⟨ztin3 (List.mem_of_getElem? (i := 18) rfl), rfl⟩
theorem q_499 : zTbl (Cond.methodLink "java/lang/StringUTF16" (71 : Nat) ({ cls := "java/lang/StringUTF16", name := "getChar", desc := "([BI)C" } : MethodName)) := ⟨ztin3 (List.mem_of_getElem? (i := 19) rfl), rfl⟩
theorem q_500 : zTbl (Cond.static ({ cls := "java/lang/StringUTF16", name := "getChar", desc := "([BI)C" } : MethodName)) := ⟨ztin3 (List.mem_of_getElem? (i := 20) rfl), rfl⟩
theorem q_501 : zTbl (Cond.code ({ cls := "java/lang/StringUTF16", name := "getChar", desc := "([BI)C" } : MethodName) prog_18_method_5_code (2 : Nat) (Option.some FieldType.char)) := ⟨ztin3 (List.mem_of_getElem? (i := 21) rfl), rfl⟩
theorem q_502 : zTbl (Cond.fieldLink "java/lang/StringUTF16" (44 : Nat) "java/lang/StringUTF16" "$assertionsDisabled" "Z") := ⟨ztin3 (List.mem_of_getElem? (i := 22) rfl), rfl⟩
theorem q_503 : Cond.laysStatic "java/lang/StringUTF16" "$assertionsDisabled" "Z" ∈ lw_tbl := ztin3 (List.mem_of_getElem? (i := 23) rfl)
theorem q_504 : zTbl (Cond.fieldLink "java/lang/StringUTF16" (59 : Nat) "java/lang/StringUTF16" "HI_BYTE_SHIFT" "I") := ⟨ztin3 (List.mem_of_getElem? (i := 24) rfl), rfl⟩
theorem q_505 : Cond.laysStatic "java/lang/StringUTF16" "HI_BYTE_SHIFT" "I" ∈ lw_tbl := ztin3 (List.mem_of_getElem? (i := 25) rfl)
theorem q_506 : zTbl (Cond.fieldLink "java/lang/StringUTF16" (63 : Nat) "java/lang/StringUTF16" "LO_BYTE_SHIFT" "I") := ⟨ztin3 (List.mem_of_getElem? (i := 26) rfl), rfl⟩
theorem q_507 : Cond.laysStatic "java/lang/StringUTF16" "LO_BYTE_SHIFT" "I" ∈ lw_tbl := ztin3 (List.mem_of_getElem? (i := 27) rfl)
theorem q_508 : zTbl (Cond.methodLink "TypeChain$Reader" (90 : Nat) ({ cls := "TypeChain$Reader", name := "readChain", desc := "(LTypeChain$Chain;)Z" } : MethodName)) := ⟨ztin3 (List.mem_of_getElem? (i := 28) rfl), rfl⟩
theorem q_509 : Cond.privateMethod ({ cls := "TypeChain$Reader", name := "readChain", desc := "(LTypeChain$Chain;)Z" } : MethodName) ∈ lw_tbl := ztin3 (List.mem_of_getElem? (i := 29) rfl)
theorem q_510 : zTbl (Cond.instanceMethod ({ cls := "TypeChain$Reader", name := "readChain", desc := "(LTypeChain$Chain;)Z" } : MethodName)) := ⟨ztin3 (List.mem_of_getElem? (i := 30) rfl), rfl⟩
theorem q_511 : zTbl (Cond.code ({ cls := "TypeChain$Reader", name := "readChain", desc := "(LTypeChain$Chain;)Z" } : MethodName) prog_6_method_6_code (4 : Nat) (Option.some FieldType.boolean)) := ⟨ztin3 (List.mem_of_getElem? (i := 31) rfl), rfl⟩
theorem q_512 : zTbl (Cond.methodLink "TypeChain$Reader" (113 : Nat) ({ cls := "TypeChain$Reader", name := "take", desc := "(I)Z" } : MethodName)) := ⟨ztin3 (List.mem_of_getElem? (i := 32) rfl), rfl⟩
theorem q_513 : Cond.privateMethod ({ cls := "TypeChain$Reader", name := "take", desc := "(I)Z" } : MethodName) ∈ lw_tbl := ztin3 (List.mem_of_getElem? (i := 33) rfl)
theorem q_514 : zTbl (Cond.instanceMethod ({ cls := "TypeChain$Reader", name := "take", desc := "(I)Z" } : MethodName)) := ⟨ztin3 (List.mem_of_getElem? (i := 34) rfl), rfl⟩
theorem q_515 : zTbl (Cond.code ({ cls := "TypeChain$Reader", name := "take", desc := "(I)Z" } : MethodName) prog_6_method_11_code (2 : Nat) (Option.some FieldType.boolean)) := ⟨ztin3 (List.mem_of_getElem? (i := 35) rfl), rfl⟩
theorem q_516 : zTbl (Cond.methodLink "TypeChain$Reader" (137 : Nat) ({ cls := "TypeChain$Reader", name := "letterAt", desc := "(I)I" } : MethodName)) := ⟨ztin3 (List.mem_of_getElem? (i := 36) rfl), rfl⟩
theorem q_517 : Cond.privateMethod ({ cls := "TypeChain$Reader", name := "letterAt", desc := "(I)I" } : MethodName) ∈ lw_tbl := ztin3 (List.mem_of_getElem? (i := 37) rfl)
theorem q_518 : zTbl (Cond.instanceMethod ({ cls := "TypeChain$Reader", name := "letterAt", desc := "(I)I" } : MethodName)) := ⟨ztin3 (List.mem_of_getElem? (i := 38) rfl), rfl⟩
theorem q_519 : zTbl (Cond.code ({ cls := "TypeChain$Reader", name := "letterAt", desc := "(I)I" } : MethodName) prog_6_method_17_code (2 : Nat) (Option.some FieldType.int)) := ⟨ztin3 (List.mem_of_getElem? (i := 39) rfl), rfl⟩
theorem q_520 : zTbl (Cond.methodLink "TypeChain$Reader" (97 : Nat) ({ cls := "TypeChain$Reader", name := "readHole", desc := "([I)Z" } : MethodName)) := ⟨ztin3 (List.mem_of_getElem? (i := 40) rfl), rfl⟩
theorem q_521 : Cond.privateMethod ({ cls := "TypeChain$Reader", name := "readHole", desc := "([I)Z" } : MethodName) ∈ lw_tbl := ztin3 (List.mem_of_getElem? (i := 41) rfl)
theorem q_522 : zTbl (Cond.instanceMethod ({ cls := "TypeChain$Reader", name := "readHole", desc := "([I)Z" } : MethodName)) := ⟨ztin3 (List.mem_of_getElem? (i := 42) rfl), rfl⟩
theorem q_523 : zTbl (Cond.code ({ cls := "TypeChain$Reader", name := "readHole", desc := "([I)Z" } : MethodName) prog_6_method_7_code (3 : Nat) (Option.some FieldType.boolean)) := ⟨ztin3 (List.mem_of_getElem? (i := 43) rfl), rfl⟩
theorem q_524 : zTbl (Cond.fieldLinkNest "TypeChain$Reader" (117 : Nat) "TypeChain" "LOW" "[I" "TypeChain") := ⟨ztin3 (List.mem_of_getElem? (i := 44) rfl), rfl⟩
theorem q_525 : Cond.laysStatic "TypeChain" "LOW" "[I" ∈ lw_tbl := ztin3 (List.mem_of_getElem? (i := 45) rfl)
theorem q_526 : zTbl (Cond.fieldLinkNest "TypeChain$Reader" (120 : Nat) "TypeChain" "HIGH" "[I" "TypeChain") := ⟨ztin3 (List.mem_of_getElem? (i := 46) rfl), rfl⟩
theorem q_527 : Cond.laysStatic "TypeChain" "HIGH" "[I" ∈ lw_tbl := ztin3 (List.mem_of_getElem? (i := 47) rfl)
theorem q_528 : zTbl (Cond.methodLink "TypeChain$Reader" (123 : Nat) ({ cls := "TypeChain$Reader", name := "takeNumber", desc := "(II)Z" } : MethodName)) := ⟨ztin3 (List.mem_of_getElem? (i := 48) rfl), rfl⟩
theorem q_529 : Cond.privateMethod ({ cls := "TypeChain$Reader", name := "takeNumber", desc := "(II)Z" } : MethodName) ∈ lw_tbl := ztin3 (List.mem_of_getElem? (i := 49) rfl)
theorem q_530 : zTbl (Cond.instanceMethod ({ cls := "TypeChain$Reader", name := "takeNumber", desc := "(II)Z" } : MethodName)) := ⟨ztin3 (List.mem_of_getElem? (i := 50) rfl), rfl⟩
theorem q_531 : zTbl (Cond.code ({ cls := "TypeChain$Reader", name := "takeNumber", desc := "(II)Z" } : MethodName) prog_6_method_12_code (4 : Nat) (Option.some FieldType.boolean)) := ⟨ztin3 (List.mem_of_getElem? (i := 51) rfl), rfl⟩
theorem q_532 : zTbl (Cond.methodLink "TypeChain$Reader" (142 : Nat) ({ cls := "TypeChain$Reader", name := "lookLater", desc := "(II)V" } : MethodName)) := ⟨ztin3 (List.mem_of_getElem? (i := 52) rfl), rfl⟩
theorem q_533 : Cond.privateMethod ({ cls := "TypeChain$Reader", name := "lookLater", desc := "(II)V" } : MethodName) ∈ lw_tbl := ztin3 (List.mem_of_getElem? (i := 53) rfl)
theorem q_534 : zTbl (Cond.instanceMethod ({ cls := "TypeChain$Reader", name := "lookLater", desc := "(II)V" } : MethodName)) := ⟨ztin3 (List.mem_of_getElem? (i := 54) rfl), rfl⟩
theorem q_535 : zTbl (Cond.code ({ cls := "TypeChain$Reader", name := "lookLater", desc := "(II)V" } : MethodName) prog_6_method_9_code (3 : Nat) (Option.none : Option Jvm.ClassFile.FieldType)) := ⟨ztin3 (List.mem_of_getElem? (i := 55) rfl), rfl⟩
theorem q_536 : zTbl (Cond.methodLink "TypeChain$Reader" (101 : Nat) ({ cls := "TypeChain$Reader", name := "readPut", desc := "(LTypeChain$Program;)Z" } : MethodName)) := ⟨ztin3 (List.mem_of_getElem? (i := 56) rfl), rfl⟩
theorem q_537 : Cond.privateMethod ({ cls := "TypeChain$Reader", name := "readPut", desc := "(LTypeChain$Program;)Z" } : MethodName) ∈ lw_tbl := ztin3 (List.mem_of_getElem? (i := 57) rfl)
theorem q_538 : zTbl (Cond.instanceMethod ({ cls := "TypeChain$Reader", name := "readPut", desc := "(LTypeChain$Program;)Z" } : MethodName)) := ⟨ztin3 (List.mem_of_getElem? (i := 58) rfl), rfl⟩
theorem q_539 : zTbl (Cond.code ({ cls := "TypeChain$Reader", name := "readPut", desc := "(LTypeChain$Program;)Z" } : MethodName) prog_6_method_8_code (4 : Nat) (Option.some FieldType.boolean)) := ⟨ztin3 (List.mem_of_getElem? (i := 59) rfl), rfl⟩
theorem q_540 : zTbl (Cond.methodLink "TypeChain$Reader" (146 : Nat) ({ cls := "TypeChain$Program", name := "addLetter", desc := "(I)V" } : MethodName)) := ⟨ztin3 (List.mem_of_getElem? (i := 60) rfl), rfl⟩
theorem q_541 : zTbl (Cond.instanceMethod ({ cls := "TypeChain$Program", name := "addLetter", desc := "(I)V" } : MethodName)) := ⟨ztin3 (List.mem_of_getElem? (i := 61) rfl), rfl⟩
theorem q_542 : zTbl (Cond.selects "TypeChain$Program" ({ cls := "TypeChain$Program", name := "addLetter", desc := "(I)V" } : MethodName) ({ cls := "TypeChain$Program", name := "addLetter", desc := "(I)V" } : MethodName)) := ⟨ztin3 (List.mem_of_getElem? (i := 62) rfl), rfl⟩
theorem q_543 : zTbl (Cond.code ({ cls := "TypeChain$Program", name := "addLetter", desc := "(I)V" } : MethodName) prog_5_method_4_code (2 : Nat) (Option.none : Option Jvm.ClassFile.FieldType)) := ⟨ztin3 (List.mem_of_getElem? (i := 63) rfl), rfl⟩
theorem q_544 : zTbl (Cond.methodLink "TypeChain$Reader" (105 : Nat) ({ cls := "TypeChain$Program", name := "addOrder", desc := "(III)V" } : MethodName)) := ⟨ztin3 (List.mem_of_getElem? (i := 64) rfl), rfl⟩
theorem q_545 : zTbl (Cond.instanceMethod ({ cls := "TypeChain$Program", name := "addOrder", desc := "(III)V" } : MethodName)) := ⟨ztin3 (List.mem_of_getElem? (i := 65) rfl), rfl⟩
theorem q_546 : zTbl (Cond.selects "TypeChain$Program" ({ cls := "TypeChain$Program", name := "addOrder", desc := "(III)V" } : MethodName) ({ cls := "TypeChain$Program", name := "addOrder", desc := "(III)V" } : MethodName)) := ⟨ztin3 (List.mem_of_getElem? (i := 66) rfl), rfl⟩
theorem q_547 : zTbl (Cond.code ({ cls := "TypeChain$Program", name := "addOrder", desc := "(III)V" } : MethodName) prog_5_method_3_code (4 : Nat) (Option.none : Option Jvm.ClassFile.FieldType)) := ⟨ztin3 (List.mem_of_getElem? (i := 67) rfl), rfl⟩
theorem q_548 : zTbl (Cond.methodLink "TypeChain$Reader" (109 : Nat) ({ cls := "TypeChain$Reader", name := "readNumbered", desc := "(ILTypeChain$Rules;)Z" } : MethodName)) := ⟨ztin3 (List.mem_of_getElem? (i := 68) rfl), rfl⟩
theorem q_549 : Cond.privateMethod ({ cls := "TypeChain$Reader", name := "readNumbered", desc := "(ILTypeChain$Rules;)Z" } : MethodName) ∈ lw_tbl := ztin3 (List.mem_of_getElem? (i := 69) rfl)
theorem q_550 : zTbl (Cond.instanceMethod ({ cls := "TypeChain$Reader", name := "readNumbered", desc := "(ILTypeChain$Rules;)Z" } : MethodName)) := ⟨ztin3 (List.mem_of_getElem? (i := 70) rfl), rfl⟩
theorem q_551 : zTbl (Cond.code ({ cls := "TypeChain$Reader", name := "readNumbered", desc := "(ILTypeChain$Rules;)Z" } : MethodName) prog_6_method_5_code (3 : Nat) (Option.some FieldType.boolean)) := ⟨ztin3 (List.mem_of_getElem? (i := 71) rfl), rfl⟩
theorem q_552 : zTbl (Cond.methodLink "TypeChain" (77 : Nat) ({ cls := "TypeChain", name := "takeRules", desc := "()V" } : MethodName)) := ⟨ztin3 (List.mem_of_getElem? (i := 72) rfl), rfl⟩
theorem q_553 : Cond.privateMethod ({ cls := "TypeChain", name := "takeRules", desc := "()V" } : MethodName) ∈ lw_tbl := ztin3 (List.mem_of_getElem? (i := 73) rfl)
theorem q_554 : zTbl (Cond.instanceMethod ({ cls := "TypeChain", name := "takeRules", desc := "()V" } : MethodName)) := ⟨ztin3 (List.mem_of_getElem? (i := 74) rfl), rfl⟩
theorem q_555 : zTbl (Cond.code ({ cls := "TypeChain", name := "takeRules", desc := "()V" } : MethodName) prog_1_method_33_code (1 : Nat) (Option.none : Option Jvm.ClassFile.FieldType)) := ⟨ztin3 (List.mem_of_getElem? (i := 75) rfl), rfl⟩
theorem q_556 : zTbl (Cond.methodLink "TypeChain" (302 : Nat) ({ cls := "TypeChain$Printer", name := "begin", desc := "(LTypeChain$Rules;LTypeChain$Chain;)V" } : MethodName)) := ⟨ztin3 (List.mem_of_getElem? (i := 76) rfl), rfl⟩
theorem q_557 : zTbl (Cond.methodLink "TypeChain" (306 : Nat) ({ cls := "TypeChain$Trials", name := "forget", desc := "()V" } : MethodName)) := ⟨ztin3 (List.mem_of_getElem? (i := 77) rfl), rfl⟩
theorem q_558 : zTbl (Cond.instanceMethod ({ cls := "TypeChain$Trials", name := "forget", desc := "()V" } : MethodName)) := ⟨ztin3 (List.mem_of_getElem? (i := 78) rfl), rfl⟩
theorem q_559 : zTbl (Cond.selects "TypeChain$Trials" ({ cls := "TypeChain$Trials", name := "forget", desc := "()V" } : MethodName) ({ cls := "TypeChain$Trials", name := "forget", desc := "()V" } : MethodName)) := ⟨ztin3 (List.mem_of_getElem? (i := 79) rfl), rfl⟩
theorem q_560 : zTbl (Cond.code ({ cls := "TypeChain$Trials", name := "forget", desc := "()V" } : MethodName) prog_10_method_2_code (1 : Nat) (Option.none : Option Jvm.ClassFile.FieldType)) := ⟨ztin3 (List.mem_of_getElem? (i := 80) rfl), rfl⟩
theorem q_561 : zTbl (Cond.methodLink "TypeChainLaw" (30 : Nat) ({ cls := "TypeChain", name := "fault", desc := "()I" } : MethodName)) := ⟨ztin3 (List.mem_of_getElem? (i := 81) rfl), rfl⟩
theorem q_562 : zTbl (Cond.instanceMethod ({ cls := "TypeChain", name := "fault", desc := "()I" } : MethodName)) := ⟨ztin3 (List.mem_of_getElem? (i := 82) rfl), rfl⟩
theorem q_563 : zTbl (Cond.selects "TypeChain" ({ cls := "TypeChain", name := "fault", desc := "()I" } : MethodName) ({ cls := "TypeChain", name := "fault", desc := "()I" } : MethodName)) := ⟨ztin3 (List.mem_of_getElem? (i := 83) rfl), rfl⟩
theorem q_564 : zTbl (Cond.code ({ cls := "TypeChain", name := "fault", desc := "()I" } : MethodName) prog_1_method_5_code (1 : Nat) (Option.some FieldType.int)) := ⟨ztin3 (List.mem_of_getElem? (i := 84) rfl), rfl⟩
theorem q_565 : zTbl (Cond.methodLink "TypeChainLaw" (34 : Nat) ({ cls := "TypeChain", name := "rule", desc := "(I)I" } : MethodName)) := ⟨ztin3 (List.mem_of_getElem? (i := 85) rfl), rfl⟩
theorem q_566 : zTbl (Cond.instanceMethod ({ cls := "TypeChain", name := "rule", desc := "(I)I" } : MethodName)) := ⟨ztin3 (List.mem_of_getElem? (i := 86) rfl), rfl⟩
theorem q_567 : zTbl (Cond.selects "TypeChain" ({ cls := "TypeChain", name := "rule", desc := "(I)I" } : MethodName) ({ cls := "TypeChain", name := "rule", desc := "(I)I" } : MethodName)) := ⟨ztin3 (List.mem_of_getElem? (i := 87) rfl), rfl⟩
theorem q_568 : zTbl (Cond.code ({ cls := "TypeChain", name := "rule", desc := "(I)I" } : MethodName) prog_1_method_6_code (2 : Nat) (Option.some FieldType.int)) := ⟨ztin3 (List.mem_of_getElem? (i := 88) rfl), rfl⟩
theorem q_569 : zTbl (Cond.methodLink "TypeChainLaw" (38 : Nat) ({ cls := "TypeChain", name := "slug", desc := "(I)I" } : MethodName)) := ⟨ztin3 (List.mem_of_getElem? (i := 89) rfl), rfl⟩
theorem q_570 : zTbl (Cond.instanceMethod ({ cls := "TypeChain", name := "slug", desc := "(I)I" } : MethodName)) := ⟨ztin3 (List.mem_of_getElem? (i := 90) rfl), rfl⟩
theorem q_571 : zTbl (Cond.selects "TypeChain" ({ cls := "TypeChain", name := "slug", desc := "(I)I" } : MethodName) ({ cls := "TypeChain", name := "slug", desc := "(I)I" } : MethodName)) := ⟨ztin3 (List.mem_of_getElem? (i := 91) rfl), rfl⟩
theorem q_572 : zTbl (Cond.code ({ cls := "TypeChain", name := "slug", desc := "(I)I" } : MethodName) prog_1_method_7_code (2 : Nat) (Option.some FieldType.int)) := ⟨ztin3 (List.mem_of_getElem? (i := 92) rfl), rfl⟩
theorem q_573 : zTbl (Cond.methodLink "TypeChainLaw" (42 : Nat) ({ cls := "TypeChain", name := "holes", desc := "(I)I" } : MethodName)) := ⟨ztin3 (List.mem_of_getElem? (i := 93) rfl), rfl⟩
theorem q_574 : zTbl (Cond.instanceMethod ({ cls := "TypeChain", name := "holes", desc := "(I)I" } : MethodName)) := ⟨ztin3 (List.mem_of_getElem? (i := 94) rfl), rfl⟩
theorem q_575 : zTbl (Cond.selects "TypeChain" ({ cls := "TypeChain", name := "holes", desc := "(I)I" } : MethodName) ({ cls := "TypeChain", name := "holes", desc := "(I)I" } : MethodName)) := ⟨ztin3 (List.mem_of_getElem? (i := 95) rfl), rfl⟩
theorem q_576 : zTbl (Cond.code ({ cls := "TypeChain", name := "holes", desc := "(I)I" } : MethodName) prog_1_method_8_code (2 : Nat) (Option.some FieldType.int)) := ⟨ztin3 (List.mem_of_getElem? (i := 96) rfl), rfl⟩
theorem q_577 : zTbl (Cond.methodLink "TypeChain" (105 : Nat) ({ cls := "TypeChain", name := "isRow", desc := "(I)Z" } : MethodName)) := ⟨ztin3 (List.mem_of_getElem? (i := 97) rfl), rfl⟩
theorem q_578 : Cond.privateMethod ({ cls := "TypeChain", name := "isRow", desc := "(I)Z" } : MethodName) ∈ lw_tbl := ztin3 (List.mem_of_getElem? (i := 98) rfl)
theorem q_579 : zTbl (Cond.instanceMethod ({ cls := "TypeChain", name := "isRow", desc := "(I)Z" } : MethodName)) := ⟨ztin3 (List.mem_of_getElem? (i := 99) rfl), rfl⟩
theorem q_580 : zTbl (Cond.code ({ cls := "TypeChain", name := "isRow", desc := "(I)Z" } : MethodName) prog_1_method_35_code (2 : Nat) (Option.some FieldType.boolean)) := ⟨ztin3 (List.mem_of_getElem? (i := 100) rfl), rfl⟩
theorem q_581 : zTbl (Cond.methodLink "TypeChainLaw" (46 : Nat) ({ cls := "TypeChain", name := "order", desc := "(II)I" } : MethodName)) := ⟨ztin3 (List.mem_of_getElem? (i := 101) rfl), rfl⟩
theorem q_582 : zTbl (Cond.instanceMethod ({ cls := "TypeChain", name := "order", desc := "(II)I" } : MethodName)) := ⟨ztin3 (List.mem_of_getElem? (i := 102) rfl), rfl⟩
theorem q_583 : zTbl (Cond.selects "TypeChain" ({ cls := "TypeChain", name := "order", desc := "(II)I" } : MethodName) ({ cls := "TypeChain", name := "order", desc := "(II)I" } : MethodName)) := ⟨ztin3 (List.mem_of_getElem? (i := 103) rfl), rfl⟩
theorem q_584 : zTbl (Cond.code ({ cls := "TypeChain", name := "order", desc := "(II)I" } : MethodName) prog_1_method_9_code (4 : Nat) (Option.some FieldType.int)) := ⟨ztin3 (List.mem_of_getElem? (i := 104) rfl), rfl⟩
theorem q_585 : zTbl (Cond.methodLink "TypeChain" (121 : Nat) ({ cls := "TypeChain$Program", name := "letterOf", desc := "(II)I" } : MethodName)) := ⟨ztin3 (List.mem_of_getElem? (i := 105) rfl), rfl⟩
theorem q_586 : zTbl (Cond.instanceMethod ({ cls := "TypeChain$Program", name := "letterOf", desc := "(II)I" } : MethodName)) := ⟨ztin3 (List.mem_of_getElem? (i := 106) rfl), rfl⟩
theorem q_587 : zTbl (Cond.selects "TypeChain$Program" ({ cls := "TypeChain$Program", name := "letterOf", desc := "(II)I" } : MethodName) ({ cls := "TypeChain$Program", name := "letterOf", desc := "(II)I" } : MethodName)) := ⟨ztin3 (List.mem_of_getElem? (i := 107) rfl), rfl⟩
theorem q_588 : zTbl (Cond.code ({ cls := "TypeChain$Program", name := "letterOf", desc := "(II)I" } : MethodName) prog_5_method_5_code (3 : Nat) (Option.some FieldType.int)) := ⟨ztin3 (List.mem_of_getElem? (i := 108) rfl), rfl⟩
theorem q_589 : zTbl (Cond.methodLink "TypeChainLaw" (51 : Nat) ({ cls := "TypeChain", name := "faces", desc := "(II)I" } : MethodName)) := ⟨ztin3 (List.mem_of_getElem? (i := 109) rfl), rfl⟩
theorem q_590 : zTbl (Cond.instanceMethod ({ cls := "TypeChain", name := "faces", desc := "(II)I" } : MethodName)) := ⟨ztin3 (List.mem_of_getElem? (i := 110) rfl), rfl⟩
theorem q_591 : zTbl (Cond.selects "TypeChain" ({ cls := "TypeChain", name := "faces", desc := "(II)I" } : MethodName) ({ cls := "TypeChain", name := "faces", desc := "(II)I" } : MethodName)) := ⟨ztin3 (List.mem_of_getElem? (i := 111) rfl), rfl⟩
theorem q_592 : zTbl (Cond.code ({ cls := "TypeChain", name := "faces", desc := "(II)I" } : MethodName) prog_1_method_10_code (3 : Nat) (Option.some FieldType.int)) := ⟨ztin3 (List.mem_of_getElem? (i := 112) rfl), rfl⟩
theorem q_593 : zTbl (Cond.methodLink "TypeChain" (125 : Nat) ({ cls := "TypeChain", name := "isColumn", desc := "(I)Z" } : MethodName)) := ⟨ztin3 (List.mem_of_getElem? (i := 113) rfl), rfl⟩
theorem q_594 : Cond.privateMethod ({ cls := "TypeChain", name := "isColumn", desc := "(I)Z" } : MethodName) ∈ lw_tbl := ztin3 (List.mem_of_getElem? (i := 114) rfl)
theorem q_595 : zTbl (Cond.instanceMethod ({ cls := "TypeChain", name := "isColumn", desc := "(I)Z" } : MethodName)) := ⟨ztin3 (List.mem_of_getElem? (i := 115) rfl), rfl⟩
theorem q_596 : zTbl (Cond.code ({ cls := "TypeChain", name := "isColumn", desc := "(I)Z" } : MethodName) prog_1_method_34_code (2 : Nat) (Option.some FieldType.boolean)) := ⟨ztin3 (List.mem_of_getElem? (i := 116) rfl), rfl⟩
theorem q_597 : zTbl (Cond.methodLink "TypeChain" (128 : Nat) ({ cls := "TypeChain", name := "isTick", desc := "(I)Z" } : MethodName)) := ⟨ztin3 (List.mem_of_getElem? (i := 117) rfl), rfl⟩
theorem q_598 : zTbl (Cond.static ({ cls := "TypeChain", name := "isTick", desc := "(I)Z" } : MethodName)) := ⟨ztin3 (List.mem_of_getElem? (i := 118) rfl), rfl⟩
theorem q_599 : zTbl (Cond.code ({ cls := "TypeChain", name := "isTick", desc := "(I)Z" } : MethodName) prog_1_method_37_code (1 : Nat) (Option.some FieldType.boolean)) := ⟨ztin3 (List.mem_of_getElem? (i := 119) rfl), rfl⟩
theorem q_600 : zTbl (Cond.constant "TypeChain" (309 : Nat) (1000000 : Int32)) := ⟨ztin3 (List.mem_of_getElem? (i := 120) rfl), rfl⟩
theorem q_601 : zTbl (Cond.methodLink "TypeChain" (131 : Nat) ({ cls := "TypeChain$Chain", name := "letterFacing", desc := "(II)I" } : MethodName)) := ⟨ztin3 (List.mem_of_getElem? (i := 121) rfl), rfl⟩
theorem q_602 : zTbl (Cond.instanceMethod ({ cls := "TypeChain$Chain", name := "letterFacing", desc := "(II)I" } : MethodName)) := ⟨ztin3 (List.mem_of_getElem? (i := 122) rfl), rfl⟩
theorem q_603 : zTbl (Cond.selects "TypeChain$Chain" ({ cls := "TypeChain$Chain", name := "letterFacing", desc := "(II)I" } : MethodName) ({ cls := "TypeChain$Chain", name := "letterFacing", desc := "(II)I" } : MethodName)) := ⟨ztin3 (List.mem_of_getElem? (i := 123) rfl), rfl⟩
theorem q_604 : zTbl (Cond.code ({ cls := "TypeChain$Chain", name := "letterFacing", desc := "(II)I" } : MethodName) prog_2_method_4_code (4 : Nat) (Option.some FieldType.int)) := ⟨ztin3 (List.mem_of_getElem? (i := 124) rfl), rfl⟩
theorem q_605 : zTbl (Cond.methodLink "TypeChain$Chain" (31 : Nat) ({ cls := "TypeChain$Chain", name := "slugFacing", desc := "(II)I" } : MethodName)) := ⟨ztin3 (List.mem_of_getElem? (i := 125) rfl), rfl⟩
theorem q_606 : zTbl (Cond.instanceMethod ({ cls := "TypeChain$Chain", name := "slugFacing", desc := "(II)I" } : MethodName)) := ⟨ztin3 (List.mem_of_getElem? (i := 126) rfl), rfl⟩
theorem q_607 : zTbl (Cond.selects "TypeChain$Chain" ({ cls := "TypeChain$Chain", name := "slugFacing", desc := "(II)I" } : MethodName) ({ cls := "TypeChain$Chain", name := "slugFacing", desc := "(II)I" } : MethodName)) := ⟨ztin3 (List.mem_of_getElem? (i := 127) rfl), rfl⟩
theorem q_608 : zTbl (Cond.code ({ cls := "TypeChain$Chain", name := "slugFacing", desc := "(II)I" } : MethodName) prog_2_method_3_code (4 : Nat) (Option.some FieldType.int)) := ⟨ztin3 (List.mem_of_getElem? (i := 128) rfl), rfl⟩
theorem q_609 : zTbl (Cond.methodLink "TypeChainLaw" (55 : Nat) ({ cls := "TypeChain", name := "comes", desc := "(III)I" } : MethodName)) := ⟨ztin3 (List.mem_of_getElem? (i := 129) rfl), rfl⟩
theorem q_610 : zTbl (Cond.instanceMethod ({ cls := "TypeChain", name := "comes", desc := "(III)I" } : MethodName)) := ⟨ztin3 (List.mem_of_getElem? (i := 130) rfl), rfl⟩
theorem q_611 : zTbl (Cond.selects "TypeChain" ({ cls := "TypeChain", name := "comes", desc := "(III)I" } : MethodName) ({ cls := "TypeChain", name := "comes", desc := "(III)I" } : MethodName)) := ⟨ztin3 (List.mem_of_getElem? (i := 131) rfl), rfl⟩
theorem q_612 : zTbl (Cond.code ({ cls := "TypeChain", name := "comes", desc := "(III)I" } : MethodName) prog_1_method_11_code (4 : Nat) (Option.some FieldType.int)) := ⟨ztin3 (List.mem_of_getElem? (i := 132) rfl), rfl⟩
theorem q_613 : zTbl (Cond.methodLink "TypeChain" (134 : Nat) ({ cls := "TypeChain", name := "isLetter", desc := "(I)Z" } : MethodName)) := ⟨ztin3 (List.mem_of_getElem? (i := 133) rfl), rfl⟩
theorem q_614 : zTbl (Cond.static ({ cls := "TypeChain", name := "isLetter", desc := "(I)Z" } : MethodName)) := ⟨ztin3 (List.mem_of_getElem? (i := 134) rfl), rfl⟩
theorem q_615 : zTbl (Cond.code ({ cls := "TypeChain", name := "isLetter", desc := "(I)Z" } : MethodName) prog_1_method_36_code (1 : Nat) (Option.some FieldType.boolean)) := ⟨ztin3 (List.mem_of_getElem? (i := 135) rfl), rfl⟩
theorem q_616 : zTbl (Cond.methodLink "TypeChain" (137 : Nat) ({ cls := "TypeChain$Chain", name := "nextTick", desc := "(III)I" } : MethodName)) := ⟨ztin3 (List.mem_of_getElem? (i := 136) rfl), rfl⟩
theorem q_617 : zTbl (Cond.instanceMethod ({ cls := "TypeChain$Chain", name := "nextTick", desc := "(III)I" } : MethodName)) := ⟨ztin3 (List.mem_of_getElem? (i := 137) rfl), rfl⟩
theorem q_618 : zTbl (Cond.selects "TypeChain$Chain" ({ cls := "TypeChain$Chain", name := "nextTick", desc := "(III)I" } : MethodName) ({ cls := "TypeChain$Chain", name := "nextTick", desc := "(III)I" } : MethodName)) := ⟨ztin3 (List.mem_of_getElem? (i := 138) rfl), rfl⟩
theorem q_619 : zTbl (Cond.code ({ cls := "TypeChain$Chain", name := "nextTick", desc := "(III)I" } : MethodName) prog_2_method_5_code (9 : Nat) (Option.some FieldType.int)) := ⟨ztin3 (List.mem_of_getElem? (i := 139) rfl), rfl⟩
theorem q_620 : zTbl (Cond.methodLink "TypeChainLaw" (60 : Nat) ({ cls := "TypeChain", name := "late", desc := "(III)I" } : MethodName)) := ⟨ztin3 (List.mem_of_getElem? (i := 140) rfl), rfl⟩
theorem q_621 : zTbl (Cond.instanceMethod ({ cls := "TypeChain", name := "late", desc := "(III)I" } : MethodName)) := ⟨ztin3 (List.mem_of_getElem? (i := 141) rfl), rfl⟩
theorem q_622 : zTbl (Cond.selects "TypeChain" ({ cls := "TypeChain", name := "late", desc := "(III)I" } : MethodName) ({ cls := "TypeChain", name := "late", desc := "(III)I" } : MethodName)) := ⟨ztin3 (List.mem_of_getElem? (i := 142) rfl), rfl⟩
theorem q_623 : zTbl (Cond.code ({ cls := "TypeChain", name := "late", desc := "(III)I" } : MethodName) prog_1_method_12_code (6 : Nat) (Option.some FieldType.int)) := ⟨ztin3 (List.mem_of_getElem? (i := 143) rfl), rfl⟩
theorem q_624 : zTbl (Cond.methodLink "TypeChainLaw" (64 : Nat) ({ cls := "TypeChain", name := "put", desc := "(II)I" } : MethodName)) := ⟨ztin3 (List.mem_of_getElem? (i := 144) rfl), rfl⟩
theorem q_625 : zTbl (Cond.instanceMethod ({ cls := "TypeChain", name := "put", desc := "(II)I" } : MethodName)) := ⟨ztin3 (List.mem_of_getElem? (i := 145) rfl), rfl⟩
theorem q_626 : zTbl (Cond.selects "TypeChain" ({ cls := "TypeChain", name := "put", desc := "(II)I" } : MethodName) ({ cls := "TypeChain", name := "put", desc := "(II)I" } : MethodName)) := ⟨ztin3 (List.mem_of_getElem? (i := 146) rfl), rfl⟩
theorem q_627 : zTbl (Cond.code ({ cls := "TypeChain", name := "put", desc := "(II)I" } : MethodName) prog_1_method_13_code (4 : Nat) (Option.some FieldType.int)) := ⟨ztin3 (List.mem_of_getElem? (i := 147) rfl), rfl⟩
theorem q_628 : zTbl (Cond.methodLink "TypeChainLaw" (68 : Nat) ({ cls := "TypeChain", name := "line", desc := "(I)I" } : MethodName)) := ⟨ztin3 (List.mem_of_getElem? (i := 148) rfl), rfl⟩
theorem q_629 : zTbl (Cond.instanceMethod ({ cls := "TypeChain", name := "line", desc := "(I)I" } : MethodName)) := ⟨ztin3 (List.mem_of_getElem? (i := 149) rfl), rfl⟩
theorem q_630 : zTbl (Cond.selects "TypeChain" ({ cls := "TypeChain", name := "line", desc := "(I)I" } : MethodName) ({ cls := "TypeChain", name := "line", desc := "(I)I" } : MethodName)) := ⟨ztin3 (List.mem_of_getElem? (i := 150) rfl), rfl⟩
theorem q_631 : zTbl (Cond.code ({ cls := "TypeChain", name := "line", desc := "(I)I" } : MethodName) prog_1_method_14_code (2 : Nat) (Option.some FieldType.int)) := ⟨ztin3 (List.mem_of_getElem? (i := 151) rfl), rfl⟩
theorem q_632 : zTbl (Cond.methodLink "TypeChainLaw" (72 : Nat) ({ cls := "TypeChain", name := "ticks", desc := "(I)I" } : MethodName)) := ⟨ztin3 (List.mem_of_getElem? (i := 152) rfl), rfl⟩
theorem q_633 : zTbl (Cond.instanceMethod ({ cls := "TypeChain", name := "ticks", desc := "(I)I" } : MethodName)) := ⟨ztin3 (List.mem_of_getElem? (i := 153) rfl), rfl⟩
theorem q_634 : zTbl (Cond.selects "TypeChain" ({ cls := "TypeChain", name := "ticks", desc := "(I)I" } : MethodName) ({ cls := "TypeChain", name := "ticks", desc := "(I)I" } : MethodName)) := ⟨ztin3 (List.mem_of_getElem? (i := 154) rfl), rfl⟩
theorem q_635 : zTbl (Cond.code ({ cls := "TypeChain", name := "ticks", desc := "(I)I" } : MethodName) prog_1_method_15_code (2 : Nat) (Option.some FieldType.int)) := ⟨ztin3 (List.mem_of_getElem? (i := 155) rfl), rfl⟩
theorem q_636 : zTbl (Cond.methodLink "TypeChain" (145 : Nat) ({ cls := "TypeChain$Printer", name := "canStrike", desc := "()Z" } : MethodName)) := ⟨ztin3 (List.mem_of_getElem? (i := 156) rfl), rfl⟩
theorem q_637 : zTbl (Cond.instanceMethod ({ cls := "TypeChain$Printer", name := "canStrike", desc := "()Z" } : MethodName)) := ⟨ztin3 (List.mem_of_getElem? (i := 157) rfl), rfl⟩
theorem q_638 : zTbl (Cond.selects "TypeChain$Printer" ({ cls := "TypeChain$Printer", name := "canStrike", desc := "()Z" } : MethodName) ({ cls := "TypeChain$Printer", name := "canStrike", desc := "()Z" } : MethodName)) := ⟨ztin3 (List.mem_of_getElem? (i := 158) rfl), rfl⟩
theorem q_639 : zTbl (Cond.code ({ cls := "TypeChain$Printer", name := "canStrike", desc := "()Z" } : MethodName) prog_4_method_4_code (3 : Nat) (Option.some FieldType.boolean)) := ⟨ztin3 (List.mem_of_getElem? (i := 159) rfl), rfl⟩
theorem q_640 : zTbl (Cond.methodLink "TypeChain$Printer" (66 : Nat) ({ cls := "TypeChain$Chain", name := "letterSet", desc := "()I" } : MethodName)) := ⟨ztin3 (List.mem_of_getElem? (i := 160) rfl), rfl⟩
theorem q_641 : zTbl (Cond.instanceMethod ({ cls := "TypeChain$Chain", name := "letterSet", desc := "()I" } : MethodName)) := ⟨ztin3 (List.mem_of_getElem? (i := 161) rfl), rfl⟩
theorem q_642 : zTbl (Cond.selects "TypeChain$Chain" ({ cls := "TypeChain$Chain", name := "letterSet", desc := "()I" } : MethodName) ({ cls := "TypeChain$Chain", name := "letterSet", desc := "()I" } : MethodName)) := ⟨ztin3 (List.mem_of_getElem? (i := 162) rfl), rfl⟩
theorem q_643 : zTbl (Cond.code ({ cls := "TypeChain$Chain", name := "letterSet", desc := "()I" } : MethodName) prog_2_method_6_code (3 : Nat) (Option.some FieldType.int)) := ⟨ztin3 (List.mem_of_getElem? (i := 163) rfl), rfl⟩
theorem q_644 : zTbl (Cond.methodLink "TypeChain" (154 : Nat) ({ cls := "TypeChain$Strike", name := "make", desc := "(LTypeChain$Chain;[IIII)I" } : MethodName)) := ⟨ztin3 (List.mem_of_getElem? (i := 164) rfl), rfl⟩
theorem q_645 : zTbl (Cond.instanceMethod ({ cls := "TypeChain$Strike", name := "make", desc := "(LTypeChain$Chain;[IIII)I" } : MethodName)) := ⟨ztin3 (List.mem_of_getElem? (i := 165) rfl), rfl⟩
theorem q_646 : zTbl (Cond.selects "TypeChain$Strike" ({ cls := "TypeChain$Strike", name := "make", desc := "(LTypeChain$Chain;[IIII)I" } : MethodName) ({ cls := "TypeChain$Strike", name := "make", desc := "(LTypeChain$Chain;[IIII)I" } : MethodName)) := ⟨ztin3 (List.mem_of_getElem? (i := 166) rfl), rfl⟩
theorem q_647 : zTbl (Cond.code ({ cls := "TypeChain$Strike", name := "make", desc := "(LTypeChain$Chain;[IIII)I" } : MethodName) prog_9_method_2_code (11 : Nat) (Option.some FieldType.int)) := ⟨ztin3 (List.mem_of_getElem? (i := 167) rfl), rfl⟩
theorem q_648 : zTbl (Cond.methodLink "TypeChain$Strike" (24 : Nat) ({ cls := "TypeChain$Strike", name := "gather", desc := "(LTypeChain$Chain;[III)V" } : MethodName)) := ⟨ztin3 (List.mem_of_getElem? (i := 168) rfl), rfl⟩
theorem q_649 : Cond.privateMethod ({ cls := "TypeChain$Strike", name := "gather", desc := "(LTypeChain$Chain;[III)V" } : MethodName) ∈ lw_tbl := ztin3 (List.mem_of_getElem? (i := 169) rfl)
theorem q_650 : zTbl (Cond.instanceMethod ({ cls := "TypeChain$Strike", name := "gather", desc := "(LTypeChain$Chain;[III)V" } : MethodName)) := ⟨ztin3 (List.mem_of_getElem? (i := 170) rfl), rfl⟩
theorem q_651 : zTbl (Cond.code ({ cls := "TypeChain$Strike", name := "gather", desc := "(LTypeChain$Chain;[III)V" } : MethodName) prog_9_method_3_code (6 : Nat) (Option.none : Option Jvm.ClassFile.FieldType)) := ⟨ztin3 (List.mem_of_getElem? (i := 171) rfl), rfl⟩
theorem q_652 : zTbl (Cond.methodLink "TypeChain$Strike" (44 : Nat) ({ cls := "TypeChain$Chain", name := "nextTick", desc := "(III)I" } : MethodName)) := ⟨ztin3 (List.mem_of_getElem? (i := 172) rfl), rfl⟩
theorem q_653 : zTbl (Cond.methodLink "TypeChain$Strike" (32 : Nat) ({ cls := "TypeChain$Strike", name := "earliestDue", desc := "()I" } : MethodName)) := ⟨ztin3 (List.mem_of_getElem? (i := 173) rfl), rfl⟩
theorem q_654 : Cond.privateMethod ({ cls := "TypeChain$Strike", name := "earliestDue", desc := "()I" } : MethodName) ∈ lw_tbl := ztin3 (List.mem_of_getElem? (i := 174) rfl)
theorem q_655 : zTbl (Cond.instanceMethod ({ cls := "TypeChain$Strike", name := "earliestDue", desc := "()I" } : MethodName)) := ⟨ztin3 (List.mem_of_getElem? (i := 175) rfl), rfl⟩
theorem q_656 : zTbl (Cond.code ({ cls := "TypeChain$Strike", name := "earliestDue", desc := "()I" } : MethodName) prog_9_method_4_code (3 : Nat) (Option.some FieldType.int)) := ⟨ztin3 (List.mem_of_getElem? (i := 176) rfl), rfl⟩
theorem q_657 : zTbl (Cond.methodLink "TypeChain$Strike" (60 : Nat) ({ cls := "java/lang/Math", name := "min", desc := "(II)I" } : MethodName)) := ⟨ztin3 (List.mem_of_getElem? (i := 177) rfl), rfl⟩
theorem q_658 : zTbl (Cond.static ({ cls := "java/lang/Math", name := "min", desc := "(II)I" } : MethodName)) := ⟨ztin3 (List.mem_of_getElem? (i := 178) rfl), rfl⟩
theorem q_659 : zTbl (Cond.code ({ cls := "java/lang/Math", name := "min", desc := "(II)I" } : MethodName) prog_15_method_69_code (2 : Nat) (Option.some FieldType.int)) := ⟨ztin3 (List.mem_of_getElem? (i := 179) rfl), rfl⟩
theorem q_660 : zTbl (Cond.methodLink "TypeChain$Strike" (36 : Nat) ({ cls := "TypeChain$Strike", name := "strikeAt", desc := "(II)V" } : MethodName)) := ⟨ztin3 (List.mem_of_getElem? (i := 180) rfl), rfl⟩
theorem q_661 : Cond.privateMethod ({ cls := "TypeChain$Strike", name := "strikeAt", desc := "(II)V" } : MethodName) ∈ lw_tbl := ztin3 (List.mem_of_getElem? (i := 181) rfl)
theorem q_662 : zTbl (Cond.instanceMethod ({ cls := "TypeChain$Strike", name := "strikeAt", desc := "(II)V" } : MethodName)) := ⟨ztin3 (List.mem_of_getElem? (i := 182) rfl), rfl⟩
theorem q_663 : zTbl (Cond.code ({ cls := "TypeChain$Strike", name := "strikeAt", desc := "(II)V" } : MethodName) prog_9_method_5_code (6 : Nat) (Option.none : Option Jvm.ClassFile.FieldType)) := ⟨ztin3 (List.mem_of_getElem? (i := 183) rfl), rfl⟩
theorem q_664 : zTbl (Cond.methodLink "TypeChain$Strike" (66 : Nat) ({ cls := "java/lang/Math", name := "max", desc := "(II)I" } : MethodName)) := ⟨ztin3 (List.mem_of_getElem? (i := 184) rfl), rfl⟩
theorem q_665 : zTbl (Cond.static ({ cls := "java/lang/Math", name := "max", desc := "(II)I" } : MethodName)) := ⟨ztin3 (List.mem_of_getElem? (i := 185) rfl), rfl⟩
theorem q_666 : zTbl (Cond.code ({ cls := "java/lang/Math", name := "max", desc := "(II)I" } : MethodName) prog_15_method_65_code (2 : Nat) (Option.some FieldType.int)) := ⟨ztin3 (List.mem_of_getElem? (i := 186) rfl), rfl⟩
theorem q_667 : zTbl (Cond.methodLink "TypeChainLaw" (76 : Nat) ({ cls := "TypeChain", name := "go", desc := "()I" } : MethodName)) := ⟨ztin3 (List.mem_of_getElem? (i := 187) rfl), rfl⟩
theorem q_668 : zTbl (Cond.instanceMethod ({ cls := "TypeChain", name := "go", desc := "()I" } : MethodName)) := ⟨ztin3 (List.mem_of_getElem? (i := 188) rfl), rfl⟩
theorem q_669 : zTbl (Cond.selects "TypeChain" ({ cls := "TypeChain", name := "go", desc := "()I" } : MethodName) ({ cls := "TypeChain", name := "go", desc := "()I" } : MethodName)) := ⟨ztin3 (List.mem_of_getElem? (i := 189) rfl), rfl⟩
theorem q_670 : zTbl (Cond.code ({ cls := "TypeChain", name := "go", desc := "()I" } : MethodName) prog_1_method_16_code (1 : Nat) (Option.some FieldType.int)) := ⟨ztin3 (List.mem_of_getElem? (i := 190) rfl), rfl⟩
theorem q_671 : zTbl (Cond.methodLink "TypeChain" (160 : Nat) ({ cls := "TypeChain$Printer", name := "strikeLine", desc := "()I" } : MethodName)) := ⟨ztin3 (List.mem_of_getElem? (i := 191) rfl), rfl⟩
theorem q_672 : zTbl (Cond.instanceMethod ({ cls := "TypeChain$Printer", name := "strikeLine", desc := "()I" } : MethodName)) := ⟨ztin3 (List.mem_of_getElem? (i := 192) rfl), rfl⟩
theorem q_673 : zTbl (Cond.selects "TypeChain$Printer" ({ cls := "TypeChain$Printer", name := "strikeLine", desc := "()I" } : MethodName) ({ cls := "TypeChain$Printer", name := "strikeLine", desc := "()I" } : MethodName)) := ⟨ztin3 (List.mem_of_getElem? (i := 193) rfl), rfl⟩
theorem q_674 : zTbl (Cond.code ({ cls := "TypeChain$Printer", name := "strikeLine", desc := "()I" } : MethodName) prog_4_method_5_code (2 : Nat) (Option.some FieldType.int)) := ⟨ztin3 (List.mem_of_getElem? (i := 194) rfl), rfl⟩
theorem q_675 : zTbl (Cond.methodLink "TypeChain$Printer" (72 : Nat) ({ cls := "TypeChain$Printer", name := "canStrike", desc := "()Z" } : MethodName)) := ⟨ztin3 (List.mem_of_getElem? (i := 195) rfl), rfl⟩
theorem q_676 : zTbl (Cond.methodLink "TypeChain$Printer" (81 : Nat) ({ cls := "TypeChain$Strike", name := "make", desc := "(LTypeChain$Chain;[IIII)I" } : MethodName)) := ⟨ztin3 (List.mem_of_getElem? (i := 196) rfl), rfl⟩
theorem q_677 : zTbl (Cond.methodLink "TypeChain$Printer" (85 : Nat) ({ cls := "TypeChain$Printer", name := "markPage", desc := "()V" } : MethodName)) := ⟨ztin3 (List.mem_of_getElem? (i := 197) rfl), rfl⟩
theorem q_678 : Cond.privateMethod ({ cls := "TypeChain$Printer", name := "markPage", desc := "()V" } : MethodName) ∈ lw_tbl := ztin3 (List.mem_of_getElem? (i := 198) rfl)
theorem q_679 : zTbl (Cond.instanceMethod ({ cls := "TypeChain$Printer", name := "markPage", desc := "()V" } : MethodName)) := ⟨ztin3 (List.mem_of_getElem? (i := 199) rfl), rfl⟩
theorem q_680 : zTbl (Cond.code ({ cls := "TypeChain$Printer", name := "markPage", desc := "()V" } : MethodName) prog_4_method_10_code (2 : Nat) (Option.none : Option Jvm.ClassFile.FieldType)) := ⟨ztin3 (List.mem_of_getElem? (i := 200) rfl), rfl⟩
theorem q_681 : zTbl (Cond.methodLink "TypeChain$Printer" (132 : Nat) ({ cls := "TypeChain$Page", name := "mark", desc := "(III)V" } : MethodName)) := ⟨ztin3 (List.mem_of_getElem? (i := 201) rfl), rfl⟩
theorem q_682 : zTbl (Cond.instanceMethod ({ cls := "TypeChain$Page", name := "mark", desc := "(III)V" } : MethodName)) := ⟨ztin3 (List.mem_of_getElem? (i := 202) rfl), rfl⟩
theorem q_683 : zTbl (Cond.selects "TypeChain$Page" ({ cls := "TypeChain$Page", name := "mark", desc := "(III)V" } : MethodName) ({ cls := "TypeChain$Page", name := "mark", desc := "(III)V" } : MethodName)) := ⟨ztin3 (List.mem_of_getElem? (i := 203) rfl), rfl⟩
theorem q_684 : zTbl (Cond.code ({ cls := "TypeChain$Page", name := "mark", desc := "(III)V" } : MethodName) prog_3_method_3_code (5 : Nat) (Option.none : Option Jvm.ClassFile.FieldType)) := ⟨ztin3 (List.mem_of_getElem? (i := 204) rfl), rfl⟩
theorem q_685 : zTbl (Cond.methodLink "TypeChainLaw" (80 : Nat) ({ cls := "TypeChain", name := "struck", desc := "(I)I" } : MethodName)) := ⟨ztin3 (List.mem_of_getElem? (i := 205) rfl), rfl⟩
theorem q_686 : zTbl (Cond.instanceMethod ({ cls := "TypeChain", name := "struck", desc := "(I)I" } : MethodName)) := ⟨ztin3 (List.mem_of_getElem? (i := 206) rfl), rfl⟩
theorem q_687 : zTbl (Cond.selects "TypeChain" ({ cls := "TypeChain", name := "struck", desc := "(I)I" } : MethodName) ({ cls := "TypeChain", name := "struck", desc := "(I)I" } : MethodName)) := ⟨ztin3 (List.mem_of_getElem? (i := 207) rfl), rfl⟩
theorem q_688 : zTbl (Cond.code ({ cls := "TypeChain", name := "struck", desc := "(I)I" } : MethodName) prog_1_method_17_code (4 : Nat) (Option.some FieldType.int)) := ⟨ztin3 (List.mem_of_getElem? (i := 208) rfl), rfl⟩
theorem q_689 : zTbl (Cond.methodLink "TypeChain" (178 : Nat) ({ cls := "java/lang/Long", name := "bitCount", desc := "(J)I" } : MethodName)) := ⟨ztin3 (List.mem_of_getElem? (i := 209) rfl), rfl⟩
theorem q_690 : zTbl (Cond.static ({ cls := "java/lang/Long", name := "bitCount", desc := "(J)I" } : MethodName)) := ⟨ztin3 (List.mem_of_getElem? (i := 210) rfl), rfl⟩
theorem q_691 : zTbl (Cond.code ({ cls := "java/lang/Long", name := "bitCount", desc := "(J)I" } : MethodName) prog_14_method_50_code (2 : Nat) (Option.some FieldType.int)) := ⟨ztin3 (List.mem_of_getElem? (i := 211) rfl), rfl⟩
theorem q_692 : zTbl (Cond.constantLong "java/lang/Long" (314 : Nat) (6148914691236517205 : Int64)) := ⟨ztin3 (List.mem_of_getElem? (i := 212) rfl), rfl⟩
theorem q_693 : zTbl (Cond.constantLong "java/lang/Long" (316 : Nat) (3689348814741910323 : Int64)) := ⟨ztin3 (List.mem_of_getElem? (i := 213) rfl), rfl⟩
theorem q_694 : zTbl (Cond.constantLong "java/lang/Long" (318 : Nat) (1085102592571150095 : Int64)) := ⟨ztin3 (List.mem_of_getElem? (i := 214) rfl), rfl⟩
theorem q_695 : zTbl (Cond.methodLink "TypeChainLaw" (84 : Nat) ({ cls := "TypeChain", name := "slipped", desc := "(II)I" } : MethodName)) := ⟨ztin3 (List.mem_of_getElem? (i := 215) rfl), rfl⟩
theorem q_696 : zTbl (Cond.instanceMethod ({ cls := "TypeChain", name := "slipped", desc := "(II)I" } : MethodName)) := ⟨ztin3 (List.mem_of_getElem? (i := 216) rfl), rfl⟩
theorem q_697 : zTbl (Cond.selects "TypeChain" ({ cls := "TypeChain", name := "slipped", desc := "(II)I" } : MethodName) ({ cls := "TypeChain", name := "slipped", desc := "(II)I" } : MethodName)) := ⟨ztin3 (List.mem_of_getElem? (i := 217) rfl), rfl⟩
theorem q_698 : zTbl (Cond.code ({ cls := "TypeChain", name := "slipped", desc := "(II)I" } : MethodName) prog_1_method_18_code (4 : Nat) (Option.some FieldType.int)) := ⟨ztin3 (List.mem_of_getElem? (i := 218) rfl), rfl⟩
theorem q_699 : zTbl (Cond.methodLink "TypeChain" (187 : Nat) ({ cls := "TypeChain$Strike", name := "shownAfterSlip", desc := "(LTypeChain$Chain;II)I" } : MethodName)) := ⟨ztin3 (List.mem_of_getElem? (i := 219) rfl), rfl⟩
theorem q_700 : zTbl (Cond.instanceMethod ({ cls := "TypeChain$Strike", name := "shownAfterSlip", desc := "(LTypeChain$Chain;II)I" } : MethodName)) := ⟨ztin3 (List.mem_of_getElem? (i := 220) rfl), rfl⟩
theorem q_701 : zTbl (Cond.selects "TypeChain$Strike" ({ cls := "TypeChain$Strike", name := "shownAfterSlip", desc := "(LTypeChain$Chain;II)I" } : MethodName) ({ cls := "TypeChain$Strike", name := "shownAfterSlip", desc := "(LTypeChain$Chain;II)I" } : MethodName)) := ⟨ztin3 (List.mem_of_getElem? (i := 221) rfl), rfl⟩
theorem q_702 : zTbl (Cond.code ({ cls := "TypeChain$Strike", name := "shownAfterSlip", desc := "(LTypeChain$Chain;II)I" } : MethodName) prog_9_method_6_code (5 : Nat) (Option.some FieldType.int)) := ⟨ztin3 (List.mem_of_getElem? (i := 222) rfl), rfl⟩
theorem q_703 : zTbl (Cond.methodLink "TypeChain$Strike" (69 : Nat) ({ cls := "TypeChain$Chain", name := "slugFacing", desc := "(II)I" } : MethodName)) := ⟨ztin3 (List.mem_of_getElem? (i := 223) rfl), rfl⟩
theorem q_704 : zTbl (Cond.methodLink "TypeChainLaw" (88 : Nat) ({ cls := "TypeChain", name := "seen", desc := "(II)I" } : MethodName)) := ⟨ztin3 (List.mem_of_getElem? (i := 224) rfl), rfl⟩
theorem q_705 : zTbl (Cond.instanceMethod ({ cls := "TypeChain", name := "seen", desc := "(II)I" } : MethodName)) := ⟨ztin3 (List.mem_of_getElem? (i := 225) rfl), rfl⟩
theorem q_706 : zTbl (Cond.selects "TypeChain" ({ cls := "TypeChain", name := "seen", desc := "(II)I" } : MethodName) ({ cls := "TypeChain", name := "seen", desc := "(II)I" } : MethodName)) := ⟨ztin3 (List.mem_of_getElem? (i := 226) rfl), rfl⟩
theorem q_707 : zTbl (Cond.code ({ cls := "TypeChain", name := "seen", desc := "(II)I" } : MethodName) prog_1_method_19_code (5 : Nat) (Option.some FieldType.int)) := ⟨ztin3 (List.mem_of_getElem? (i := 227) rfl), rfl⟩
theorem q_708 : zTbl (Cond.methodLink "TypeChainLaw" (92 : Nat) ({ cls := "TypeChain", name := "slips", desc := "(I)I" } : MethodName)) := ⟨ztin3 (List.mem_of_getElem? (i := 228) rfl), rfl⟩
theorem q_709 : zTbl (Cond.instanceMethod ({ cls := "TypeChain", name := "slips", desc := "(I)I" } : MethodName)) := ⟨ztin3 (List.mem_of_getElem? (i := 229) rfl), rfl⟩
theorem q_710 : zTbl (Cond.selects "TypeChain" ({ cls := "TypeChain", name := "slips", desc := "(I)I" } : MethodName) ({ cls := "TypeChain", name := "slips", desc := "(I)I" } : MethodName)) := ⟨ztin3 (List.mem_of_getElem? (i := 230) rfl), rfl⟩
theorem q_711 : zTbl (Cond.code ({ cls := "TypeChain", name := "slips", desc := "(I)I" } : MethodName) prog_1_method_20_code (5 : Nat) (Option.some FieldType.int)) := ⟨ztin3 (List.mem_of_getElem? (i := 231) rfl), rfl⟩
theorem q_712 : zTbl (Cond.methodLink "TypeChain" (194 : Nat) ({ cls := "TypeChain$Strike", name := "fitsSlip", desc := "(LTypeChain$Chain;II)Z" } : MethodName)) := ⟨ztin3 (List.mem_of_getElem? (i := 232) rfl), rfl⟩
theorem q_713 : zTbl (Cond.instanceMethod ({ cls := "TypeChain$Strike", name := "fitsSlip", desc := "(LTypeChain$Chain;II)Z" } : MethodName)) := ⟨ztin3 (List.mem_of_getElem? (i := 233) rfl), rfl⟩
theorem q_714 : zTbl (Cond.selects "TypeChain$Strike" ({ cls := "TypeChain$Strike", name := "fitsSlip", desc := "(LTypeChain$Chain;II)Z" } : MethodName) ({ cls := "TypeChain$Strike", name := "fitsSlip", desc := "(LTypeChain$Chain;II)Z" } : MethodName)) := ⟨ztin3 (List.mem_of_getElem? (i := 234) rfl), rfl⟩
theorem q_715 : zTbl (Cond.code ({ cls := "TypeChain$Strike", name := "fitsSlip", desc := "(LTypeChain$Chain;II)Z" } : MethodName) prog_9_method_7_code (5 : Nat) (Option.some FieldType.boolean)) := ⟨ztin3 (List.mem_of_getElem? (i := 235) rfl), rfl⟩
theorem q_716 : zTbl (Cond.methodLink "TypeChain$Strike" (78 : Nat) ({ cls := "TypeChain$Strike", name := "shownAfterSlip", desc := "(LTypeChain$Chain;II)I" } : MethodName)) := ⟨ztin3 (List.mem_of_getElem? (i := 236) rfl), rfl⟩
theorem q_717 : zTbl (Cond.methodLink "TypeChainLaw" (96 : Nat) ({ cls := "TypeChain", name := "space", desc := "(I)I" } : MethodName)) := ⟨ztin3 (List.mem_of_getElem? (i := 237) rfl), rfl⟩
theorem q_718 : zTbl (Cond.instanceMethod ({ cls := "TypeChain", name := "space", desc := "(I)I" } : MethodName)) := ⟨ztin3 (List.mem_of_getElem? (i := 238) rfl), rfl⟩
theorem q_719 : zTbl (Cond.selects "TypeChain" ({ cls := "TypeChain", name := "space", desc := "(I)I" } : MethodName) ({ cls := "TypeChain", name := "space", desc := "(I)I" } : MethodName)) := ⟨ztin3 (List.mem_of_getElem? (i := 239) rfl), rfl⟩
theorem q_720 : zTbl (Cond.code ({ cls := "TypeChain", name := "space", desc := "(I)I" } : MethodName) prog_1_method_21_code (2 : Nat) (Option.some FieldType.int)) := ⟨ztin4 (List.mem_of_getElem? (i := 0) rfl), rfl⟩
theorem q_721 : zTbl (Cond.methodLink "TypeChain" (198 : Nat) ({ cls := "TypeChain$Printer", name := "moveBy", desc := "(I)I" } : MethodName)) := ⟨ztin4 (List.mem_of_getElem? (i := 1) rfl), rfl⟩
theorem q_722 : zTbl (Cond.instanceMethod ({ cls := "TypeChain$Printer", name := "moveBy", desc := "(I)I" } : MethodName)) := ⟨ztin4 (List.mem_of_getElem? (i := 2) rfl), rfl⟩
theorem q_723 : zTbl (Cond.selects "TypeChain$Printer" ({ cls := "TypeChain$Printer", name := "moveBy", desc := "(I)I" } : MethodName) ({ cls := "TypeChain$Printer", name := "moveBy", desc := "(I)I" } : MethodName)) := ⟨ztin4 (List.mem_of_getElem? (i := 3) rfl), rfl⟩
theorem q_724 : zTbl (Cond.code ({ cls := "TypeChain$Printer", name := "moveBy", desc := "(I)I" } : MethodName) prog_4_method_6_code (4 : Nat) (Option.some FieldType.int)) := ⟨ztin4 (List.mem_of_getElem? (i := 4) rfl), rfl⟩
theorem q_725 : zTbl (Cond.methodLink "TypeChainLaw" (100 : Nat) ({ cls := "TypeChain", name := "skip", desc := "(I)I" } : MethodName)) := ⟨ztin4 (List.mem_of_getElem? (i := 5) rfl), rfl⟩
theorem q_726 : zTbl (Cond.instanceMethod ({ cls := "TypeChain", name := "skip", desc := "(I)I" } : MethodName)) := ⟨ztin4 (List.mem_of_getElem? (i := 6) rfl), rfl⟩
theorem q_727 : zTbl (Cond.selects "TypeChain" ({ cls := "TypeChain", name := "skip", desc := "(I)I" } : MethodName) ({ cls := "TypeChain", name := "skip", desc := "(I)I" } : MethodName)) := ⟨ztin4 (List.mem_of_getElem? (i := 7) rfl), rfl⟩
theorem q_728 : zTbl (Cond.code ({ cls := "TypeChain", name := "skip", desc := "(I)I" } : MethodName) prog_1_method_22_code (2 : Nat) (Option.some FieldType.int)) := ⟨ztin4 (List.mem_of_getElem? (i := 8) rfl), rfl⟩
theorem q_729 : zTbl (Cond.methodLink "TypeChain" (202 : Nat) ({ cls := "TypeChain$Printer", name := "moveToHole", desc := "(I)I" } : MethodName)) := ⟨ztin4 (List.mem_of_getElem? (i := 9) rfl), rfl⟩
theorem q_730 : zTbl (Cond.instanceMethod ({ cls := "TypeChain$Printer", name := "moveToHole", desc := "(I)I" } : MethodName)) := ⟨ztin4 (List.mem_of_getElem? (i := 10) rfl), rfl⟩
theorem q_731 : zTbl (Cond.selects "TypeChain$Printer" ({ cls := "TypeChain$Printer", name := "moveToHole", desc := "(I)I" } : MethodName) ({ cls := "TypeChain$Printer", name := "moveToHole", desc := "(I)I" } : MethodName)) := ⟨ztin4 (List.mem_of_getElem? (i := 11) rfl), rfl⟩
theorem q_732 : zTbl (Cond.code ({ cls := "TypeChain$Printer", name := "moveToHole", desc := "(I)I" } : MethodName) prog_4_method_7_code (3 : Nat) (Option.some FieldType.int)) := ⟨ztin4 (List.mem_of_getElem? (i := 12) rfl), rfl⟩
theorem q_733 : zTbl (Cond.methodLink "TypeChain$Printer" (88 : Nat) ({ cls := "TypeChain$Rules", name := "rowsToHole", desc := "(II)I" } : MethodName)) := ⟨ztin4 (List.mem_of_getElem? (i := 13) rfl), rfl⟩
theorem q_734 : zTbl (Cond.instanceMethod ({ cls := "TypeChain$Rules", name := "rowsToHole", desc := "(II)I" } : MethodName)) := ⟨ztin4 (List.mem_of_getElem? (i := 14) rfl), rfl⟩
theorem q_735 : zTbl (Cond.selects "TypeChain$Rules" ({ cls := "TypeChain$Rules", name := "rowsToHole", desc := "(II)I" } : MethodName) ({ cls := "TypeChain$Rules", name := "rowsToHole", desc := "(II)I" } : MethodName)) := ⟨ztin4 (List.mem_of_getElem? (i := 15) rfl), rfl⟩
theorem q_736 : zTbl (Cond.code ({ cls := "TypeChain$Rules", name := "rowsToHole", desc := "(II)I" } : MethodName) prog_7_method_5_code (6 : Nat) (Option.some FieldType.int)) := ⟨ztin4 (List.mem_of_getElem? (i := 16) rfl), rfl⟩
theorem q_737 : zTbl (Cond.methodLink "TypeChain$Printer" (92 : Nat) ({ cls := "TypeChain$Printer", name := "moveBy", desc := "(I)I" } : MethodName)) := ⟨ztin4 (List.mem_of_getElem? (i := 17) rfl), rfl⟩
theorem q_738 : zTbl (Cond.methodLink "TypeChainLaw" (104 : Nat) ({ cls := "TypeChain", name := "now", desc := "(I)I" } : MethodName)) := ⟨ztin4 (List.mem_of_getElem? (i := 18) rfl), rfl⟩
theorem q_739 : zTbl (Cond.instanceMethod ({ cls := "TypeChain", name := "now", desc := "(I)I" } : MethodName)) := ⟨ztin4 (List.mem_of_getElem? (i := 19) rfl), rfl⟩
theorem q_740 : zTbl (Cond.selects "TypeChain" ({ cls := "TypeChain", name := "now", desc := "(I)I" } : MethodName) ({ cls := "TypeChain", name := "now", desc := "(I)I" } : MethodName)) := ⟨ztin4 (List.mem_of_getElem? (i := 20) rfl), rfl⟩
theorem q_741 : zTbl (Cond.code ({ cls := "TypeChain", name := "now", desc := "(I)I" } : MethodName) prog_1_method_23_code (2 : Nat) (Option.some FieldType.int)) := ⟨ztin4 (List.mem_of_getElem? (i := 21) rfl), rfl⟩
theorem q_742 : zTbl (Cond.methodLink "TypeChain" (211 : Nat) ({ cls := "TypeChain$Page", name := "placesStruck", desc := "(I)I" } : MethodName)) := ⟨ztin4 (List.mem_of_getElem? (i := 22) rfl), rfl⟩
theorem q_743 : zTbl (Cond.instanceMethod ({ cls := "TypeChain$Page", name := "placesStruck", desc := "(I)I" } : MethodName)) := ⟨ztin4 (List.mem_of_getElem? (i := 23) rfl), rfl⟩
theorem q_744 : zTbl (Cond.selects "TypeChain$Page" ({ cls := "TypeChain$Page", name := "placesStruck", desc := "(I)I" } : MethodName) ({ cls := "TypeChain$Page", name := "placesStruck", desc := "(I)I" } : MethodName)) := ⟨ztin4 (List.mem_of_getElem? (i := 24) rfl), rfl⟩
theorem q_745 : zTbl (Cond.code ({ cls := "TypeChain$Page", name := "placesStruck", desc := "(I)I" } : MethodName) prog_3_method_4_code (4 : Nat) (Option.some FieldType.int)) := ⟨ztin4 (List.mem_of_getElem? (i := 25) rfl), rfl⟩
theorem q_746 : zTbl (Cond.methodLink "TypeChainLaw" (108 : Nat) ({ cls := "TypeChain", name := "page", desc := "(III)I" } : MethodName)) := ⟨ztin4 (List.mem_of_getElem? (i := 26) rfl), rfl⟩
theorem q_747 : zTbl (Cond.instanceMethod ({ cls := "TypeChain", name := "page", desc := "(III)I" } : MethodName)) := ⟨ztin4 (List.mem_of_getElem? (i := 27) rfl), rfl⟩
theorem q_748 : zTbl (Cond.selects "TypeChain" ({ cls := "TypeChain", name := "page", desc := "(III)I" } : MethodName) ({ cls := "TypeChain", name := "page", desc := "(III)I" } : MethodName)) := ⟨ztin4 (List.mem_of_getElem? (i := 28) rfl), rfl⟩
theorem q_749 : zTbl (Cond.code ({ cls := "TypeChain", name := "page", desc := "(III)I" } : MethodName) prog_1_method_24_code (5 : Nat) (Option.some FieldType.int)) := ⟨ztin4 (List.mem_of_getElem? (i := 29) rfl), rfl⟩
theorem q_750 : zTbl (Cond.methodLink "TypeChainLaw" (112 : Nat) ({ cls := "TypeChain", name := "run", desc := "()I" } : MethodName)) := ⟨ztin4 (List.mem_of_getElem? (i := 30) rfl), rfl⟩
theorem q_751 : zTbl (Cond.instanceMethod ({ cls := "TypeChain", name := "run", desc := "()I" } : MethodName)) := ⟨ztin4 (List.mem_of_getElem? (i := 31) rfl), rfl⟩
theorem q_752 : zTbl (Cond.selects "TypeChain" ({ cls := "TypeChain", name := "run", desc := "()I" } : MethodName) ({ cls := "TypeChain", name := "run", desc := "()I" } : MethodName)) := ⟨ztin4 (List.mem_of_getElem? (i := 32) rfl), rfl⟩
theorem q_753 : zTbl (Cond.code ({ cls := "TypeChain", name := "run", desc := "()I" } : MethodName) prog_1_method_25_code (4 : Nat) (Option.some FieldType.int)) := ⟨ztin4 (List.mem_of_getElem? (i := 33) rfl), rfl⟩
theorem q_754 : zTbl (Cond.methodLink "TypeChain" (221 : Nat) ({ cls := "TypeChain$Printer", name := "runProgram", desc := "()I" } : MethodName)) := ⟨ztin4 (List.mem_of_getElem? (i := 34) rfl), rfl⟩
theorem q_755 : zTbl (Cond.instanceMethod ({ cls := "TypeChain$Printer", name := "runProgram", desc := "()I" } : MethodName)) := ⟨ztin4 (List.mem_of_getElem? (i := 35) rfl), rfl⟩
theorem q_756 : zTbl (Cond.selects "TypeChain$Printer" ({ cls := "TypeChain$Printer", name := "runProgram", desc := "()I" } : MethodName) ({ cls := "TypeChain$Printer", name := "runProgram", desc := "()I" } : MethodName)) := ⟨ztin4 (List.mem_of_getElem? (i := 36) rfl), rfl⟩
theorem q_757 : zTbl (Cond.code ({ cls := "TypeChain$Printer", name := "runProgram", desc := "()I" } : MethodName) prog_4_method_8_code (4 : Nat) (Option.some FieldType.int)) := ⟨ztin4 (List.mem_of_getElem? (i := 37) rfl), rfl⟩
theorem q_758 : zTbl (Cond.methodLink "TypeChain$Printer" (108 : Nat) ({ cls := "TypeChain$Printer", name := "fillLine", desc := "(LTypeChain$Program;I)V" } : MethodName)) := ⟨ztin4 (List.mem_of_getElem? (i := 38) rfl), rfl⟩
theorem q_759 : Cond.privateMethod ({ cls := "TypeChain$Printer", name := "fillLine", desc := "(LTypeChain$Program;I)V" } : MethodName) ∈ lw_tbl := ztin4 (List.mem_of_getElem? (i := 39) rfl)
theorem q_760 : zTbl (Cond.instanceMethod ({ cls := "TypeChain$Printer", name := "fillLine", desc := "(LTypeChain$Program;I)V" } : MethodName)) := ⟨ztin4 (List.mem_of_getElem? (i := 40) rfl), rfl⟩
theorem q_761 : zTbl (Cond.code ({ cls := "TypeChain$Printer", name := "fillLine", desc := "(LTypeChain$Program;I)V" } : MethodName) prog_4_method_9_code (6 : Nat) (Option.none : Option Jvm.ClassFile.FieldType)) := ⟨ztin4 (List.mem_of_getElem? (i := 41) rfl), rfl⟩
theorem q_762 : zTbl (Cond.methodLink "TypeChain$Printer" (124 : Nat) ({ cls := "java/lang/Math", name := "min", desc := "(II)I" } : MethodName)) := ⟨ztin4 (List.mem_of_getElem? (i := 42) rfl), rfl⟩
theorem q_763 : zTbl (Cond.methodLink "TypeChain$Printer" (129 : Nat) ({ cls := "TypeChain$Program", name := "letterOf", desc := "(II)I" } : MethodName)) := ⟨ztin4 (List.mem_of_getElem? (i := 43) rfl), rfl⟩
theorem q_764 : zTbl (Cond.methodLink "TypeChain$Printer" (112 : Nat) ({ cls := "TypeChain$Printer", name := "strikeLine", desc := "()I" } : MethodName)) := ⟨ztin4 (List.mem_of_getElem? (i := 44) rfl), rfl⟩
theorem q_765 : zTbl (Cond.methodLink "TypeChain$Printer" (118 : Nat) ({ cls := "TypeChain$Printer", name := "moveToHole", desc := "(I)I" } : MethodName)) := ⟨ztin4 (List.mem_of_getElem? (i := 45) rfl), rfl⟩
theorem q_766 : zTbl (Cond.methodLink "TypeChainLaw" (116 : Nat) ({ cls := "TypeChain", name := "ran", desc := "(I)I" } : MethodName)) := ⟨ztin4 (List.mem_of_getElem? (i := 46) rfl), rfl⟩
theorem q_767 : zTbl (Cond.instanceMethod ({ cls := "TypeChain", name := "ran", desc := "(I)I" } : MethodName)) := ⟨ztin4 (List.mem_of_getElem? (i := 47) rfl), rfl⟩
theorem q_768 : zTbl (Cond.selects "TypeChain" ({ cls := "TypeChain", name := "ran", desc := "(I)I" } : MethodName) ({ cls := "TypeChain", name := "ran", desc := "(I)I" } : MethodName)) := ⟨ztin4 (List.mem_of_getElem? (i := 48) rfl), rfl⟩
theorem q_769 : zTbl (Cond.code ({ cls := "TypeChain", name := "ran", desc := "(I)I" } : MethodName) prog_1_method_26_code (2 : Nat) (Option.some FieldType.int)) := ⟨ztin4 (List.mem_of_getElem? (i := 49) rfl), rfl⟩
theorem q_770 : zTbl (Cond.methodLink "TypeChainLaw" (120 : Nat) ({ cls := "TypeChain", name := "best", desc := "(I)I" } : MethodName)) := ⟨ztin4 (List.mem_of_getElem? (i := 50) rfl), rfl⟩
theorem q_771 : zTbl (Cond.instanceMethod ({ cls := "TypeChain", name := "best", desc := "(I)I" } : MethodName)) := ⟨ztin4 (List.mem_of_getElem? (i := 51) rfl), rfl⟩
theorem q_772 : zTbl (Cond.selects "TypeChain" ({ cls := "TypeChain", name := "best", desc := "(I)I" } : MethodName) ({ cls := "TypeChain", name := "best", desc := "(I)I" } : MethodName)) := ⟨ztin4 (List.mem_of_getElem? (i := 52) rfl), rfl⟩
theorem q_773 : zTbl (Cond.code ({ cls := "TypeChain", name := "best", desc := "(I)I" } : MethodName) prog_1_method_27_code (2 : Nat) (Option.some FieldType.int)) := ⟨ztin4 (List.mem_of_getElem? (i := 53) rfl), rfl⟩
theorem q_774 : zTbl (Cond.methodLink "TypeChain" (236 : Nat) ({ cls := "TypeChain$Trials", name := "findOrder", desc := "(LTypeChain$Rules;)V" } : MethodName)) := ⟨ztin4 (List.mem_of_getElem? (i := 54) rfl), rfl⟩
theorem q_775 : zTbl (Cond.instanceMethod ({ cls := "TypeChain$Trials", name := "findOrder", desc := "(LTypeChain$Rules;)V" } : MethodName)) := ⟨ztin4 (List.mem_of_getElem? (i := 55) rfl), rfl⟩
theorem q_776 : zTbl (Cond.selects "TypeChain$Trials" ({ cls := "TypeChain$Trials", name := "findOrder", desc := "(LTypeChain$Rules;)V" } : MethodName) ({ cls := "TypeChain$Trials", name := "findOrder", desc := "(LTypeChain$Rules;)V" } : MethodName)) := ⟨ztin4 (List.mem_of_getElem? (i := 56) rfl), rfl⟩
theorem q_777 : zTbl (Cond.code ({ cls := "TypeChain$Trials", name := "findOrder", desc := "(LTypeChain$Rules;)V" } : MethodName) prog_10_method_3_code (4 : Nat) (Option.none : Option Jvm.ClassFile.FieldType)) := ⟨ztin4 (List.mem_of_getElem? (i := 57) rfl), rfl⟩
theorem q_778 : zTbl (Cond.methodLink "TypeChain$Trials" (41 : Nat) ({ cls := "TypeChain$Chain", name := "copyFrom", desc := "(LTypeChain$Chain;)V" } : MethodName)) := ⟨ztin4 (List.mem_of_getElem? (i := 58) rfl), rfl⟩
theorem q_779 : zTbl (Cond.instanceMethod ({ cls := "TypeChain$Chain", name := "copyFrom", desc := "(LTypeChain$Chain;)V" } : MethodName)) := ⟨ztin4 (List.mem_of_getElem? (i := 59) rfl), rfl⟩
theorem q_780 : zTbl (Cond.selects "TypeChain$Chain" ({ cls := "TypeChain$Chain", name := "copyFrom", desc := "(LTypeChain$Chain;)V" } : MethodName) ({ cls := "TypeChain$Chain", name := "copyFrom", desc := "(LTypeChain$Chain;)V" } : MethodName)) := ⟨ztin4 (List.mem_of_getElem? (i := 60) rfl), rfl⟩
theorem q_781 : zTbl (Cond.code ({ cls := "TypeChain$Chain", name := "copyFrom", desc := "(LTypeChain$Chain;)V" } : MethodName) prog_2_method_2_code (2 : Nat) (Option.none : Option Jvm.ClassFile.FieldType)) := ⟨ztin4 (List.mem_of_getElem? (i := 61) rfl), rfl⟩
theorem q_782 : zTbl (Cond.methodLink "TypeChain$Chain" (15 : Nat) ({ cls := "java/lang/System", name := "arraycopy", desc := "(Ljava/lang/Object;ILjava/lang/Object;II)V" } : MethodName)) := ⟨ztin4 (List.mem_of_getElem? (i := 62) rfl), rfl⟩
theorem q_783 : zTbl (Cond.methodLink "TypeChain$Trials" (45 : Nat) ({ cls := "TypeChain$Chain", name := "sortLetters", desc := "()V" } : MethodName)) := ⟨ztin4 (List.mem_of_getElem? (i := 63) rfl), rfl⟩
theorem q_784 : zTbl (Cond.instanceMethod ({ cls := "TypeChain$Chain", name := "sortLetters", desc := "()V" } : MethodName)) := ⟨ztin4 (List.mem_of_getElem? (i := 64) rfl), rfl⟩
theorem q_785 : zTbl (Cond.selects "TypeChain$Chain" ({ cls := "TypeChain$Chain", name := "sortLetters", desc := "()V" } : MethodName) ({ cls := "TypeChain$Chain", name := "sortLetters", desc := "()V" } : MethodName)) := ⟨ztin4 (List.mem_of_getElem? (i := 65) rfl), rfl⟩
theorem q_786 : zTbl (Cond.code ({ cls := "TypeChain$Chain", name := "sortLetters", desc := "()V" } : MethodName) prog_2_method_7_code (3 : Nat) (Option.none : Option Jvm.ClassFile.FieldType)) := ⟨ztin4 (List.mem_of_getElem? (i := 66) rfl), rfl⟩
theorem q_787 : zTbl (Cond.methodLink "TypeChain$Chain" (35 : Nat) ({ cls := "TypeChain$Chain", name := "swapLetters", desc := "(II)V" } : MethodName)) := ⟨ztin4 (List.mem_of_getElem? (i := 67) rfl), rfl⟩
theorem q_788 : Cond.privateMethod ({ cls := "TypeChain$Chain", name := "swapLetters", desc := "(II)V" } : MethodName) ∈ lw_tbl := ztin4 (List.mem_of_getElem? (i := 68) rfl)
theorem q_789 : zTbl (Cond.instanceMethod ({ cls := "TypeChain$Chain", name := "swapLetters", desc := "(II)V" } : MethodName)) := ⟨ztin4 (List.mem_of_getElem? (i := 69) rfl), rfl⟩
theorem q_790 : zTbl (Cond.code ({ cls := "TypeChain$Chain", name := "swapLetters", desc := "(II)V" } : MethodName) prog_2_method_9_code (4 : Nat) (Option.none : Option Jvm.ClassFile.FieldType)) := ⟨ztin4 (List.mem_of_getElem? (i := 70) rfl), rfl⟩
theorem q_791 : zTbl (Cond.methodLink "TypeChain$Trials" (48 : Nat) ({ cls := "TypeChain$Trials", name := "ticksOfRun", desc := "(LTypeChain$Rules;)I" } : MethodName)) := ⟨ztin4 (List.mem_of_getElem? (i := 71) rfl), rfl⟩
theorem q_792 : Cond.privateMethod ({ cls := "TypeChain$Trials", name := "ticksOfRun", desc := "(LTypeChain$Rules;)I" } : MethodName) ∈ lw_tbl := ztin4 (List.mem_of_getElem? (i := 72) rfl)
theorem q_793 : zTbl (Cond.instanceMethod ({ cls := "TypeChain$Trials", name := "ticksOfRun", desc := "(LTypeChain$Rules;)I" } : MethodName)) := ⟨ztin4 (List.mem_of_getElem? (i := 73) rfl), rfl⟩
theorem q_794 : zTbl (Cond.code ({ cls := "TypeChain$Trials", name := "ticksOfRun", desc := "(LTypeChain$Rules;)I" } : MethodName) prog_10_method_6_code (2 : Nat) (Option.some FieldType.int)) := ⟨ztin4 (List.mem_of_getElem? (i := 74) rfl), rfl⟩
theorem q_795 : zTbl (Cond.methodLink "TypeChain$Trials" (85 : Nat) ({ cls := "TypeChain$Printer", name := "begin", desc := "(LTypeChain$Rules;LTypeChain$Chain;)V" } : MethodName)) := ⟨ztin4 (List.mem_of_getElem? (i := 75) rfl), rfl⟩
theorem q_796 : zTbl (Cond.methodLink "TypeChain$Trials" (89 : Nat) ({ cls := "TypeChain$Printer", name := "runProgram", desc := "()I" } : MethodName)) := ⟨ztin4 (List.mem_of_getElem? (i := 76) rfl), rfl⟩
theorem q_797 : zTbl (Cond.methodLink "TypeChain$Trials" (52 : Nat) ({ cls := "TypeChain$Trials", name := "keepOrder", desc := "(I)V" } : MethodName)) := ⟨ztin4 (List.mem_of_getElem? (i := 77) rfl), rfl⟩
theorem q_798 : Cond.privateMethod ({ cls := "TypeChain$Trials", name := "keepOrder", desc := "(I)V" } : MethodName) ∈ lw_tbl := ztin4 (List.mem_of_getElem? (i := 78) rfl)
theorem q_799 : zTbl (Cond.instanceMethod ({ cls := "TypeChain$Trials", name := "keepOrder", desc := "(I)V" } : MethodName)) := ⟨ztin4 (List.mem_of_getElem? (i := 79) rfl), rfl⟩
theorem q_800 : zTbl (Cond.code ({ cls := "TypeChain$Trials", name := "keepOrder", desc := "(I)V" } : MethodName) prog_10_method_4_code (2 : Nat) (Option.none : Option Jvm.ClassFile.FieldType)) := ⟨ztin4 (List.mem_of_getElem? (i := 80) rfl), rfl⟩
theorem q_801 : zTbl (Cond.methodLink "TypeChain$Trials" (67 : Nat) ({ cls := "java/lang/System", name := "arraycopy", desc := "(Ljava/lang/Object;ILjava/lang/Object;II)V" } : MethodName)) := ⟨ztin4 (List.mem_of_getElem? (i := 81) rfl), rfl⟩
theorem q_802 : zTbl (Cond.methodLink "TypeChain$Trials" (60 : Nat) ({ cls := "TypeChain$Chain", name := "toNextOrder", desc := "()Z" } : MethodName)) := ⟨ztin4 (List.mem_of_getElem? (i := 82) rfl), rfl⟩
theorem q_803 : zTbl (Cond.instanceMethod ({ cls := "TypeChain$Chain", name := "toNextOrder", desc := "()Z" } : MethodName)) := ⟨ztin4 (List.mem_of_getElem? (i := 83) rfl), rfl⟩
theorem q_804 : zTbl (Cond.selects "TypeChain$Chain" ({ cls := "TypeChain$Chain", name := "toNextOrder", desc := "()Z" } : MethodName) ({ cls := "TypeChain$Chain", name := "toNextOrder", desc := "()Z" } : MethodName)) := ⟨ztin4 (List.mem_of_getElem? (i := 84) rfl), rfl⟩
theorem q_805 : zTbl (Cond.code ({ cls := "TypeChain$Chain", name := "toNextOrder", desc := "()Z" } : MethodName) prog_2_method_8_code (5 : Nat) (Option.some FieldType.boolean)) := ⟨ztin4 (List.mem_of_getElem? (i := 85) rfl), rfl⟩
theorem q_806 : zTbl (Cond.methodLink "TypeChainLaw" (124 : Nat) ({ cls := "TypeChain", name := "twice", desc := "(I)I" } : MethodName)) := ⟨ztin4 (List.mem_of_getElem? (i := 86) rfl), rfl⟩
theorem q_807 : zTbl (Cond.instanceMethod ({ cls := "TypeChain", name := "twice", desc := "(I)I" } : MethodName)) := ⟨ztin4 (List.mem_of_getElem? (i := 87) rfl), rfl⟩
theorem q_808 : zTbl (Cond.selects "TypeChain" ({ cls := "TypeChain", name := "twice", desc := "(I)I" } : MethodName) ({ cls := "TypeChain", name := "twice", desc := "(I)I" } : MethodName)) := ⟨ztin4 (List.mem_of_getElem? (i := 88) rfl), rfl⟩
theorem q_809 : zTbl (Cond.code ({ cls := "TypeChain", name := "twice", desc := "(I)I" } : MethodName) prog_1_method_28_code (2 : Nat) (Option.some FieldType.int)) := ⟨ztin4 (List.mem_of_getElem? (i := 89) rfl), rfl⟩
theorem q_810 : zTbl (Cond.constant "TypeChain" (245 : Nat) (-1000000 : Int32)) := ⟨ztin4 (List.mem_of_getElem? (i := 90) rfl), rfl⟩
theorem q_811 : zTbl (Cond.constant "TypeChain" (246 : Nat) (-1000002 : Int32)) := ⟨ztin4 (List.mem_of_getElem? (i := 91) rfl), rfl⟩
theorem q_812 : zTbl (Cond.methodLink "TypeChain" (247 : Nat) ({ cls := "TypeChain$Trials", name := "findDouble", desc := "(LTypeChain$Rules;)V" } : MethodName)) := ⟨ztin4 (List.mem_of_getElem? (i := 92) rfl), rfl⟩
theorem q_813 : zTbl (Cond.instanceMethod ({ cls := "TypeChain$Trials", name := "findDouble", desc := "(LTypeChain$Rules;)V" } : MethodName)) := ⟨ztin4 (List.mem_of_getElem? (i := 93) rfl), rfl⟩
theorem q_814 : zTbl (Cond.selects "TypeChain$Trials" ({ cls := "TypeChain$Trials", name := "findDouble", desc := "(LTypeChain$Rules;)V" } : MethodName) ({ cls := "TypeChain$Trials", name := "findDouble", desc := "(LTypeChain$Rules;)V" } : MethodName)) := ⟨ztin4 (List.mem_of_getElem? (i := 94) rfl), rfl⟩
theorem q_815 : zTbl (Cond.code ({ cls := "TypeChain$Trials", name := "findDouble", desc := "(LTypeChain$Rules;)V" } : MethodName) prog_10_method_5_code (4 : Nat) (Option.none : Option Jvm.ClassFile.FieldType)) := ⟨ztin4 (List.mem_of_getElem? (i := 95) rfl), rfl⟩
theorem q_816 : zTbl (Cond.constant "TypeChain" (259 : Nat) (-1000004 : Int32)) := ⟨ztin4 (List.mem_of_getElem? (i := 96) rfl), rfl⟩
theorem q_817 : zTbl (Cond.methodLink "TypeChainLaw" (128 : Nat) ({ cls := "TypeChain", name := "sheet", desc := "(III)I" } : MethodName)) := ⟨ztin4 (List.mem_of_getElem? (i := 97) rfl), rfl⟩
theorem q_818 : zTbl (Cond.instanceMethod ({ cls := "TypeChain", name := "sheet", desc := "(III)I" } : MethodName)) := ⟨ztin4 (List.mem_of_getElem? (i := 98) rfl), rfl⟩
theorem q_819 : zTbl (Cond.selects "TypeChain" ({ cls := "TypeChain", name := "sheet", desc := "(III)I" } : MethodName) ({ cls := "TypeChain", name := "sheet", desc := "(III)I" } : MethodName)) := ⟨ztin4 (List.mem_of_getElem? (i := 99) rfl), rfl⟩
theorem q_820 : zTbl (Cond.code ({ cls := "TypeChain", name := "sheet", desc := "(III)I" } : MethodName) prog_1_method_29_code (4 : Nat) (Option.some FieldType.int)) := ⟨ztin4 (List.mem_of_getElem? (i := 100) rfl), rfl⟩
theorem q_821 : zTbl (Cond.methodLink "TypeChain" (260 : Nat) ({ cls := "TypeChain", name := "isSheet", desc := "(I)Z" } : MethodName)) := ⟨ztin4 (List.mem_of_getElem? (i := 101) rfl), rfl⟩
theorem q_822 : zTbl (Cond.static ({ cls := "TypeChain", name := "isSheet", desc := "(I)Z" } : MethodName)) := ⟨ztin4 (List.mem_of_getElem? (i := 102) rfl), rfl⟩
theorem q_823 : zTbl (Cond.code ({ cls := "TypeChain", name := "isSheet", desc := "(I)Z" } : MethodName) prog_1_method_38_code (1 : Nat) (Option.some FieldType.boolean)) := ⟨ztin4 (List.mem_of_getElem? (i := 103) rfl), rfl⟩
theorem q_824 : zTbl (Cond.methodLink "TypeChain" (263 : Nat) ({ cls := "TypeChain", name := "isLane", desc := "(I)Z" } : MethodName)) := ⟨ztin4 (List.mem_of_getElem? (i := 104) rfl), rfl⟩
theorem q_825 : zTbl (Cond.static ({ cls := "TypeChain", name := "isLane", desc := "(I)Z" } : MethodName)) := ⟨ztin4 (List.mem_of_getElem? (i := 105) rfl), rfl⟩
theorem q_826 : zTbl (Cond.code ({ cls := "TypeChain", name := "isLane", desc := "(I)Z" } : MethodName) prog_1_method_39_code (1 : Nat) (Option.some FieldType.boolean)) := ⟨ztin4 (List.mem_of_getElem? (i := 106) rfl), rfl⟩
theorem q_827 : zTbl (Cond.methodLink "TypeChain" (266 : Nat) ({ cls := "TypeChain$Sheets", name := "renew", desc := "(III)V" } : MethodName)) := ⟨ztin4 (List.mem_of_getElem? (i := 107) rfl), rfl⟩
theorem q_828 : zTbl (Cond.instanceMethod ({ cls := "TypeChain$Sheets", name := "renew", desc := "(III)V" } : MethodName)) := ⟨ztin4 (List.mem_of_getElem? (i := 108) rfl), rfl⟩
theorem q_829 : zTbl (Cond.selects "TypeChain$Sheets" ({ cls := "TypeChain$Sheets", name := "renew", desc := "(III)V" } : MethodName) ({ cls := "TypeChain$Sheets", name := "renew", desc := "(III)V" } : MethodName)) := ⟨ztin4 (List.mem_of_getElem? (i := 109) rfl), rfl⟩
theorem q_830 : zTbl (Cond.code ({ cls := "TypeChain$Sheets", name := "renew", desc := "(III)V" } : MethodName) prog_8_method_4_code (5 : Nat) (Option.none : Option Jvm.ClassFile.FieldType)) := ⟨ztin4 (List.mem_of_getElem? (i := 110) rfl), rfl⟩
theorem q_831 : zTbl (Cond.methodLink "TypeChainLaw" (132 : Nat) ({ cls := "TypeChain", name := "lay", desc := "(III)I" } : MethodName)) := ⟨ztin4 (List.mem_of_getElem? (i := 111) rfl), rfl⟩
theorem q_832 : zTbl (Cond.instanceMethod ({ cls := "TypeChain", name := "lay", desc := "(III)I" } : MethodName)) := ⟨ztin4 (List.mem_of_getElem? (i := 112) rfl), rfl⟩
theorem q_833 : zTbl (Cond.selects "TypeChain" ({ cls := "TypeChain", name := "lay", desc := "(III)I" } : MethodName) ({ cls := "TypeChain", name := "lay", desc := "(III)I" } : MethodName)) := ⟨ztin4 (List.mem_of_getElem? (i := 113) rfl), rfl⟩
theorem q_834 : zTbl (Cond.code ({ cls := "TypeChain", name := "lay", desc := "(III)I" } : MethodName) prog_1_method_30_code (4 : Nat) (Option.some FieldType.int)) := ⟨ztin4 (List.mem_of_getElem? (i := 114) rfl), rfl⟩
theorem q_835 : zTbl (Cond.methodLink "TypeChain" (270 : Nat) ({ cls := "TypeChain$Sheets", name := "isNothing", desc := "(I)Z" } : MethodName)) := ⟨ztin4 (List.mem_of_getElem? (i := 115) rfl), rfl⟩
theorem q_836 : zTbl (Cond.instanceMethod ({ cls := "TypeChain$Sheets", name := "isNothing", desc := "(I)Z" } : MethodName)) := ⟨ztin4 (List.mem_of_getElem? (i := 116) rfl), rfl⟩
theorem q_837 : zTbl (Cond.selects "TypeChain$Sheets" ({ cls := "TypeChain$Sheets", name := "isNothing", desc := "(I)Z" } : MethodName) ({ cls := "TypeChain$Sheets", name := "isNothing", desc := "(I)Z" } : MethodName)) := ⟨ztin4 (List.mem_of_getElem? (i := 117) rfl), rfl⟩
theorem q_838 : zTbl (Cond.code ({ cls := "TypeChain$Sheets", name := "isNothing", desc := "(I)Z" } : MethodName) prog_8_method_2_code (2 : Nat) (Option.some FieldType.boolean)) := ⟨ztin4 (List.mem_of_getElem? (i := 118) rfl), rfl⟩
theorem q_839 : zTbl (Cond.methodLink "TypeChain" (273 : Nat) ({ cls := "TypeChain$Sheets", name := "hasCell", desc := "(II)Z" } : MethodName)) := ⟨ztin4 (List.mem_of_getElem? (i := 119) rfl), rfl⟩
theorem q_840 : zTbl (Cond.instanceMethod ({ cls := "TypeChain$Sheets", name := "hasCell", desc := "(II)Z" } : MethodName)) := ⟨ztin4 (List.mem_of_getElem? (i := 120) rfl), rfl⟩
theorem q_841 : zTbl (Cond.selects "TypeChain$Sheets" ({ cls := "TypeChain$Sheets", name := "hasCell", desc := "(II)Z" } : MethodName) ({ cls := "TypeChain$Sheets", name := "hasCell", desc := "(II)Z" } : MethodName)) := ⟨ztin4 (List.mem_of_getElem? (i := 121) rfl), rfl⟩
theorem q_842 : zTbl (Cond.code ({ cls := "TypeChain$Sheets", name := "hasCell", desc := "(II)Z" } : MethodName) prog_8_method_3_code (3 : Nat) (Option.some FieldType.boolean)) := ⟨ztin4 (List.mem_of_getElem? (i := 122) rfl), rfl⟩
theorem q_843 : zTbl (Cond.methodLink "TypeChain" (277 : Nat) ({ cls := "TypeChain$Sheets", name := "write", desc := "(III)V" } : MethodName)) := ⟨ztin4 (List.mem_of_getElem? (i := 123) rfl), rfl⟩
theorem q_844 : zTbl (Cond.instanceMethod ({ cls := "TypeChain$Sheets", name := "write", desc := "(III)V" } : MethodName)) := ⟨ztin4 (List.mem_of_getElem? (i := 124) rfl), rfl⟩
theorem q_845 : zTbl (Cond.selects "TypeChain$Sheets" ({ cls := "TypeChain$Sheets", name := "write", desc := "(III)V" } : MethodName) ({ cls := "TypeChain$Sheets", name := "write", desc := "(III)V" } : MethodName)) := ⟨ztin4 (List.mem_of_getElem? (i := 125) rfl), rfl⟩
theorem q_846 : zTbl (Cond.code ({ cls := "TypeChain$Sheets", name := "write", desc := "(III)V" } : MethodName) prog_8_method_6_code (5 : Nat) (Option.none : Option Jvm.ClassFile.FieldType)) := ⟨ztin4 (List.mem_of_getElem? (i := 126) rfl), rfl⟩
theorem q_847 : zTbl (Cond.methodLink "TypeChainLaw" (136 : Nat) ({ cls := "TypeChain", name := "read", desc := "(III)I" } : MethodName)) := ⟨ztin4 (List.mem_of_getElem? (i := 127) rfl), rfl⟩
theorem q_848 : zTbl (Cond.instanceMethod ({ cls := "TypeChain", name := "read", desc := "(III)I" } : MethodName)) := ⟨ztin4 (List.mem_of_getElem? (i := 128) rfl), rfl⟩
theorem q_849 : zTbl (Cond.selects "TypeChain" ({ cls := "TypeChain", name := "read", desc := "(III)I" } : MethodName) ({ cls := "TypeChain", name := "read", desc := "(III)I" } : MethodName)) := ⟨ztin4 (List.mem_of_getElem? (i := 129) rfl), rfl⟩
theorem q_850 : zTbl (Cond.code ({ cls := "TypeChain", name := "read", desc := "(III)I" } : MethodName) prog_1_method_31_code (7 : Nat) (Option.some FieldType.int)) := ⟨ztin4 (List.mem_of_getElem? (i := 130) rfl), rfl⟩
theorem q_851 : zTbl (Cond.methodLink "TypeChain" (283 : Nat) ({ cls := "TypeChain$Sheets", name := "valueOf", desc := "(II)I" } : MethodName)) := ⟨ztin4 (List.mem_of_getElem? (i := 131) rfl), rfl⟩
theorem q_852 : zTbl (Cond.instanceMethod ({ cls := "TypeChain$Sheets", name := "valueOf", desc := "(II)I" } : MethodName)) := ⟨ztin4 (List.mem_of_getElem? (i := 132) rfl), rfl⟩
theorem q_853 : zTbl (Cond.selects "TypeChain$Sheets" ({ cls := "TypeChain$Sheets", name := "valueOf", desc := "(II)I" } : MethodName) ({ cls := "TypeChain$Sheets", name := "valueOf", desc := "(II)I" } : MethodName)) := ⟨ztin4 (List.mem_of_getElem? (i := 133) rfl), rfl⟩
theorem q_854 : zTbl (Cond.code ({ cls := "TypeChain$Sheets", name := "valueOf", desc := "(II)I" } : MethodName) prog_8_method_5_code (3 : Nat) (Option.some FieldType.int)) := ⟨ztin4 (List.mem_of_getElem? (i := 134) rfl), rfl⟩
theorem q_855 : zTbl (Cond.methodLink "TypeChain" (286 : Nat) ({ cls := "TypeChain$Printer", name := "lettersInLine", desc := "()I" } : MethodName)) := ⟨ztin4 (List.mem_of_getElem? (i := 135) rfl), rfl⟩
theorem q_856 : zTbl (Cond.instanceMethod ({ cls := "TypeChain$Printer", name := "lettersInLine", desc := "()I" } : MethodName)) := ⟨ztin4 (List.mem_of_getElem? (i := 136) rfl), rfl⟩
theorem q_857 : zTbl (Cond.selects "TypeChain$Printer" ({ cls := "TypeChain$Printer", name := "lettersInLine", desc := "()I" } : MethodName) ({ cls := "TypeChain$Printer", name := "lettersInLine", desc := "()I" } : MethodName)) := ⟨ztin4 (List.mem_of_getElem? (i := 137) rfl), rfl⟩
theorem q_858 : zTbl (Cond.code ({ cls := "TypeChain$Printer", name := "lettersInLine", desc := "()I" } : MethodName) prog_4_method_3_code (3 : Nat) (Option.some FieldType.int)) := ⟨ztin4 (List.mem_of_getElem? (i := 138) rfl), rfl⟩
theorem q_859 : zTbl (Cond.methodLink "TypeChainLaw" (140 : Nat) ({ cls := "TypeChain", name := "count", desc := "(I)I" } : MethodName)) := ⟨ztin4 (List.mem_of_getElem? (i := 139) rfl), rfl⟩
theorem q_860 : zTbl (Cond.instanceMethod ({ cls := "TypeChain", name := "count", desc := "(I)I" } : MethodName)) := ⟨ztin4 (List.mem_of_getElem? (i := 140) rfl), rfl⟩
theorem q_861 : zTbl (Cond.selects "TypeChain" ({ cls := "TypeChain", name := "count", desc := "(I)I" } : MethodName) ({ cls := "TypeChain", name := "count", desc := "(I)I" } : MethodName)) := ⟨ztin4 (List.mem_of_getElem? (i := 141) rfl), rfl⟩
theorem q_862 : zTbl (Cond.code ({ cls := "TypeChain", name := "count", desc := "(I)I" } : MethodName) prog_1_method_32_code (2 : Nat) (Option.some FieldType.int)) := ⟨ztin4 (List.mem_of_getElem? (i := 142) rfl), rfl⟩
theorem q_863 : zTbl (Cond.methodLink "TypeChain" (289 : Nat) ({ cls := "TypeChain$Chain", name := "letterSet", desc := "()I" } : MethodName)) := ⟨ztin4 (List.mem_of_getElem? (i := 143) rfl), rfl⟩
theorem q_864 : zTbl (Cond.methodLink "TypeChain" (292 : Nat) ({ cls := "java/lang/Integer", name := "bitCount", desc := "(I)I" } : MethodName)) := ⟨ztin4 (List.mem_of_getElem? (i := 144) rfl), rfl⟩
theorem q_865 : zTbl (Cond.methodLink "TypeChain" (296 : Nat) ({ cls := "TypeChain$Rules", name := "holeCount", desc := "()I" } : MethodName)) := ⟨ztin4 (List.mem_of_getElem? (i := 145) rfl), rfl⟩
theorem q_866 : zTbl (Cond.classLink "TypeChainLaw" (10 : Nat) "TypeChainModel") := ⟨ztin4 (List.mem_of_getElem? (i := 146) rfl), rfl⟩
theorem q_867 : zTbl (Cond.instantiable "TypeChainModel" (61 : Nat)) := ⟨ztin4 (List.mem_of_getElem? (i := 147) rfl), rfl⟩
theorem q_868 : zTbl (Cond.methodLink "TypeChainLaw" (12 : Nat) ({ cls := "TypeChainModel", name := "<init>", desc := "()V" } : MethodName)) := ⟨ztin4 (List.mem_of_getElem? (i := 148) rfl), rfl⟩
theorem q_869 : zTbl (Cond.instanceMethod ({ cls := "TypeChainModel", name := "<init>", desc := "()V" } : MethodName)) := ⟨ztin4 (List.mem_of_getElem? (i := 149) rfl), rfl⟩
theorem q_870 : zTbl (Cond.code ({ cls := "TypeChainModel", name := "<init>", desc := "()V" } : MethodName) prog_12_method_1_code (2 : Nat) (Option.none : Option Jvm.ClassFile.FieldType)) := ⟨ztin4 (List.mem_of_getElem? (i := 150) rfl), rfl⟩
theorem q_871 : zTbl (Cond.methodLink "TypeChainModel" (1 : Nat) ({ cls := "java/lang/Object", name := "<init>", desc := "()V" } : MethodName)) := ⟨ztin4 (List.mem_of_getElem? (i := 151) rfl), rfl⟩
theorem q_872 : zTbl (Cond.methodLink "TypeChainModel" (116 : Nat) ({ cls := "TypeChainModel", name := "firstDraft", desc := "()V" } : MethodName)) := ⟨ztin4 (List.mem_of_getElem? (i := 152) rfl), rfl⟩
theorem q_873 : Cond.privateMethod ({ cls := "TypeChainModel", name := "firstDraft", desc := "()V" } : MethodName) ∈ lw_tbl := ztin4 (List.mem_of_getElem? (i := 153) rfl)
theorem q_874 : zTbl (Cond.instanceMethod ({ cls := "TypeChainModel", name := "firstDraft", desc := "()V" } : MethodName)) := ⟨ztin4 (List.mem_of_getElem? (i := 154) rfl), rfl⟩
theorem q_875 : zTbl (Cond.code ({ cls := "TypeChainModel", name := "firstDraft", desc := "()V" } : MethodName) prog_12_method_5_code (2 : Nat) (Option.none : Option Jvm.ClassFile.FieldType)) := ⟨ztin4 (List.mem_of_getElem? (i := 155) rfl), rfl⟩
theorem q_876 : zTbl (Cond.methodLink "TypeChainModel" (119 : Nat) ({ cls := "TypeChainModel", name := "keepDraft", desc := "()V" } : MethodName)) := ⟨ztin4 (List.mem_of_getElem? (i := 156) rfl), rfl⟩
theorem q_877 : Cond.privateMethod ({ cls := "TypeChainModel", name := "keepDraft", desc := "()V" } : MethodName) ∈ lw_tbl := ztin4 (List.mem_of_getElem? (i := 157) rfl)
theorem q_878 : zTbl (Cond.instanceMethod ({ cls := "TypeChainModel", name := "keepDraft", desc := "()V" } : MethodName)) := ⟨ztin4 (List.mem_of_getElem? (i := 158) rfl), rfl⟩
theorem q_879 : zTbl (Cond.code ({ cls := "TypeChainModel", name := "keepDraft", desc := "()V" } : MethodName) prog_12_method_6_code (2 : Nat) (Option.none : Option Jvm.ClassFile.FieldType)) := ⟨ztin4 (List.mem_of_getElem? (i := 159) rfl), rfl⟩
theorem q_880 : zTbl (Cond.methodLink "TypeChainModel" (151 : Nat) ({ cls := "TypeChainModel", name := "begins", desc := "()V" } : MethodName)) := ⟨ztin4 (List.mem_of_getElem? (i := 160) rfl), rfl⟩
theorem q_881 : Cond.privateMethod ({ cls := "TypeChainModel", name := "begins", desc := "()V" } : MethodName) ∈ lw_tbl := ztin4 (List.mem_of_getElem? (i := 161) rfl)
theorem q_882 : zTbl (Cond.instanceMethod ({ cls := "TypeChainModel", name := "begins", desc := "()V" } : MethodName)) := ⟨ztin4 (List.mem_of_getElem? (i := 162) rfl), rfl⟩
theorem q_883 : zTbl (Cond.code ({ cls := "TypeChainModel", name := "begins", desc := "()V" } : MethodName) prog_12_method_38_code (2 : Nat) (Option.none : Option Jvm.ClassFile.FieldType)) := ⟨ztin4 (List.mem_of_getElem? (i := 163) rfl), rfl⟩
theorem q_884 : zTbl (Cond.methodLink "TypeChainModel" (157 : Nat) ({ cls := "TypeChainModel", name := "blankPage", desc := "()V" } : MethodName)) := ⟨ztin4 (List.mem_of_getElem? (i := 164) rfl), rfl⟩
theorem q_885 : Cond.privateMethod ({ cls := "TypeChainModel", name := "blankPage", desc := "()V" } : MethodName) ∈ lw_tbl := ztin4 (List.mem_of_getElem? (i := 165) rfl)
theorem q_886 : zTbl (Cond.instanceMethod ({ cls := "TypeChainModel", name := "blankPage", desc := "()V" } : MethodName)) := ⟨ztin4 (List.mem_of_getElem? (i := 166) rfl), rfl⟩
theorem q_887 : zTbl (Cond.code ({ cls := "TypeChainModel", name := "blankPage", desc := "()V" } : MethodName) prog_12_method_39_code (2 : Nat) (Option.none : Option Jvm.ClassFile.FieldType)) := ⟨ztin4 (List.mem_of_getElem? (i := 167) rfl), rfl⟩
theorem q_888 : zTbl (Cond.fieldLink "TypeChainModel" (139 : Nat) "TypeChainModel" "slugs" "I") := ⟨ztin4 (List.mem_of_getElem? (i := 168) rfl), rfl⟩
theorem q_889 : zTbl (Cond.fieldLink "TypeChainModel" (7 : Nat) "TypeChainModel" "chain" "[I") := ⟨ztin4 (List.mem_of_getElem? (i := 169) rfl), rfl⟩
theorem q_890 : zTbl (Cond.fieldLink "TypeChainModel" (13 : Nat) "TypeChainModel" "set" "[I") := ⟨ztin4 (List.mem_of_getElem? (i := 170) rfl), rfl⟩
theorem q_891 : zTbl (Cond.fieldLink "TypeChainModel" (16 : Nat) "TypeChainModel" "hole" "[I") := ⟨ztin4 (List.mem_of_getElem? (i := 171) rfl), rfl⟩
theorem q_892 : zTbl (Cond.fieldLink "TypeChainModel" (142 : Nat) "TypeChainModel" "orders" "I") := ⟨ztin4 (List.mem_of_getElem? (i := 172) rfl), rfl⟩
theorem q_893 : zTbl (Cond.fieldLink "TypeChainModel" (19 : Nat) "TypeChainModel" "act" "[I") := ⟨ztin4 (List.mem_of_getElem? (i := 173) rfl), rfl⟩
theorem q_894 : zTbl (Cond.fieldLink "TypeChainModel" (22 : Nat) "TypeChainModel" "number" "[I") := ⟨ztin4 (List.mem_of_getElem? (i := 174) rfl), rfl⟩
theorem q_895 : zTbl (Cond.fieldLink "TypeChainModel" (25 : Nat) "TypeChainModel" "lettersFrom" "[I") := ⟨ztin4 (List.mem_of_getElem? (i := 175) rfl), rfl⟩
theorem q_896 : zTbl (Cond.fieldLink "TypeChainModel" (28 : Nat) "TypeChainModel" "lettersMany" "[I") := ⟨ztin4 (List.mem_of_getElem? (i := 176) rfl), rfl⟩
theorem q_897 : zTbl (Cond.fieldLink "TypeChainModel" (31 : Nat) "TypeChainModel" "letters" "[I") := ⟨ztin4 (List.mem_of_getElem? (i := 177) rfl), rfl⟩
theorem q_898 : zTbl (Cond.fieldLink "TypeChainModel" (122 : Nat) "TypeChainModel" "dSlugs" "I") := ⟨ztin4 (List.mem_of_getElem? (i := 178) rfl), rfl⟩
theorem q_899 : zTbl (Cond.fieldLink "TypeChainModel" (34 : Nat) "TypeChainModel" "dChain" "[I") := ⟨ztin4 (List.mem_of_getElem? (i := 179) rfl), rfl⟩
theorem q_900 : zTbl (Cond.fieldLink "TypeChainModel" (37 : Nat) "TypeChainModel" "dSet" "[I") := ⟨ztin4 (List.mem_of_getElem? (i := 180) rfl), rfl⟩
theorem q_901 : zTbl (Cond.fieldLink "TypeChainModel" (40 : Nat) "TypeChainModel" "dHole" "[I") := ⟨ztin4 (List.mem_of_getElem? (i := 181) rfl), rfl⟩
theorem q_902 : zTbl (Cond.fieldLink "TypeChainModel" (126 : Nat) "TypeChainModel" "dHasHole" "Z") := ⟨ztin4 (List.mem_of_getElem? (i := 182) rfl), rfl⟩
theorem q_903 : zTbl (Cond.fieldLink "TypeChainModel" (130 : Nat) "TypeChainModel" "dOrders" "I") := ⟨ztin4 (List.mem_of_getElem? (i := 183) rfl), rfl⟩
theorem q_904 : zTbl (Cond.fieldLink "TypeChainModel" (43 : Nat) "TypeChainModel" "dAct" "[I") := ⟨ztin4 (List.mem_of_getElem? (i := 184) rfl), rfl⟩
theorem q_905 : zTbl (Cond.fieldLink "TypeChainModel" (46 : Nat) "TypeChainModel" "dNumber" "[I") := ⟨ztin4 (List.mem_of_getElem? (i := 185) rfl), rfl⟩
theorem q_906 : zTbl (Cond.fieldLink "TypeChainModel" (49 : Nat) "TypeChainModel" "dFrom" "[I") := ⟨ztin4 (List.mem_of_getElem? (i := 186) rfl), rfl⟩
theorem q_907 : zTbl (Cond.fieldLink "TypeChainModel" (52 : Nat) "TypeChainModel" "dMany" "[I") := ⟨ztin4 (List.mem_of_getElem? (i := 187) rfl), rfl⟩
theorem q_908 : zTbl (Cond.fieldLink "TypeChainModel" (133 : Nat) "TypeChainModel" "dLetters" "I") := ⟨ztin4 (List.mem_of_getElem? (i := 188) rfl), rfl⟩
theorem q_909 : zTbl (Cond.fieldLink "TypeChainModel" (55 : Nat) "TypeChainModel" "dLetter" "[I") := ⟨ztin4 (List.mem_of_getElem? (i := 189) rfl), rfl⟩
theorem q_910 : zTbl (Cond.fieldLink "TypeChainModel" (58 : Nat) "TypeChainModel" "isTold" "[Z") := ⟨ztin4 (List.mem_of_getElem? (i := 190) rfl), rfl⟩
theorem q_911 : zTbl (Cond.fieldLink "TypeChainModel" (136 : Nat) "TypeChainModel" "later" "I") := ⟨ztin4 (List.mem_of_getElem? (i := 191) rfl), rfl⟩
theorem q_912 : zTbl (Cond.fieldLink "TypeChainModel" (62 : Nat) "TypeChainModel" "laterWhat" "[I") := ⟨ztin4 (List.mem_of_getElem? (i := 192) rfl), rfl⟩
theorem q_913 : zTbl (Cond.fieldLink "TypeChainModel" (65 : Nat) "TypeChainModel" "laterAt" "[I") := ⟨ztin4 (List.mem_of_getElem? (i := 193) rfl), rfl⟩
theorem q_914 : zTbl (Cond.fieldLink "TypeChainModel" (68 : Nat) "TypeChainModel" "tape" "[I") := ⟨ztin4 (List.mem_of_getElem? (i := 194) rfl), rfl⟩
theorem q_915 : zTbl (Cond.fieldLink "TypeChainModel" (160 : Nat) "TypeChainModel" "taped" "I") := ⟨ztin4 (List.mem_of_getElem? (i := 195) rfl), rfl⟩
theorem q_916 : zTbl (Cond.fieldLink "TypeChainModel" (178 : Nat) "TypeChainModel" "pos" "I") := ⟨ztin4 (List.mem_of_getElem? (i := 196) rfl), rfl⟩
theorem q_917 : zTbl (Cond.fieldLink "TypeChainModel" (172 : Nat) "TypeChainModel" "from" "I") := ⟨ztin4 (List.mem_of_getElem? (i := 197) rfl), rfl⟩
theorem q_918 : zTbl (Cond.fieldLink "TypeChainModel" (193 : Nat) "TypeChainModel" "sort" "I") := ⟨ztin4 (List.mem_of_getElem? (i := 198) rfl), rfl⟩
theorem q_919 : zTbl (Cond.fieldLink "TypeChainModel" (204 : Nat) "TypeChainModel" "value" "I") := ⟨ztin4 (List.mem_of_getElem? (i := 199) rfl), rfl⟩
theorem q_920 : zTbl (Cond.fieldLink "TypeChainModel" (169 : Nat) "TypeChainModel" "fault" "I") := ⟨ztin4 (List.mem_of_getElem? (i := 200) rfl), rfl⟩
theorem q_921 : zTbl (Cond.fieldLink "TypeChainModel" (175 : Nat) "TypeChainModel" "wrongAt" "I") := ⟨ztin4 (List.mem_of_getElem? (i := 201) rfl), rfl⟩
theorem q_922 : zTbl (Cond.fieldLink "TypeChainModel" (279 : Nat) "TypeChainModel" "tick" "I") := ⟨ztin4 (List.mem_of_getElem? (i := 202) rfl), rfl⟩
theorem q_923 : zTbl (Cond.fieldLink "TypeChainModel" (282 : Nat) "TypeChainModel" "row" "I") := ⟨ztin4 (List.mem_of_getElem? (i := 203) rfl), rfl⟩
theorem q_924 : zTbl (Cond.fieldLink "TypeChainModel" (154 : Nat) "TypeChainModel" "pages" "I") := ⟨ztin4 (List.mem_of_getElem? (i := 204) rfl), rfl⟩
theorem q_925 : zTbl (Cond.fieldLink "TypeChainModel" (71 : Nat) "TypeChainModel" "line" "[I") := ⟨ztin4 (List.mem_of_getElem? (i := 205) rfl), rfl⟩
theorem q_926 : zTbl (Cond.fieldLink "TypeChainModel" (74 : Nat) "TypeChainModel" "print" "[I") := ⟨ztin4 (List.mem_of_getElem? (i := 206) rfl), rfl⟩
theorem q_927 : zTbl (Cond.fieldLink "TypeChainModel" (77 : Nat) "TypeChainModel" "times" "[I") := ⟨ztin4 (List.mem_of_getElem? (i := 207) rfl), rfl⟩
theorem q_928 : zTbl (Cond.fieldLink "TypeChainModel" (80 : Nat) "TypeChainModel" "at" "[I") := ⟨ztin4 (List.mem_of_getElem? (i := 208) rfl), rfl⟩
theorem q_929 : zTbl (Cond.fieldLink "TypeChainModel" (83 : Nat) "TypeChainModel" "meant" "[I") := ⟨ztin4 (List.mem_of_getElem? (i := 209) rfl), rfl⟩
theorem q_930 : zTbl (Cond.fieldLink "TypeChainModel" (86 : Nat) "TypeChainModel" "hasWaited" "[Z") := ⟨ztin4 (List.mem_of_getElem? (i := 210) rfl), rfl⟩
theorem q_931 : zTbl (Cond.fieldLink "TypeChainModel" (285 : Nat) "TypeChainModel" "busiest" "I") := ⟨ztin4 (List.mem_of_getElem? (i := 211) rfl), rfl⟩
theorem q_932 : zTbl (Cond.fieldLink "TypeChainModel" (148 : Nat) "TypeChainModel" "hasStruck" "Z") := ⟨ztin4 (List.mem_of_getElem? (i := 212) rfl), rfl⟩
theorem q_933 : zTbl (Cond.fieldLink "TypeChainModel" (297 : Nat) "TypeChainModel" "sAll" "I") := ⟨ztin4 (List.mem_of_getElem? (i := 213) rfl), rfl⟩
theorem q_934 : zTbl (Cond.fieldLink "TypeChainModel" (303 : Nat) "TypeChainModel" "sBusiest" "I") := ⟨ztin4 (List.mem_of_getElem? (i := 214) rfl), rfl⟩
theorem q_935 : zTbl (Cond.fieldLink "TypeChainModel" (300 : Nat) "TypeChainModel" "sWaited" "I") := ⟨ztin4 (List.mem_of_getElem? (i := 215) rfl), rfl⟩
theorem q_936 : zTbl (Cond.fieldLink "TypeChainModel" (89 : Nat) "TypeChainModel" "sAt" "[I") := ⟨ztin4 (List.mem_of_getElem? (i := 216) rfl), rfl⟩
theorem q_937 : zTbl (Cond.fieldLink "TypeChainModel" (92 : Nat) "TypeChainModel" "sMeant" "[I") := ⟨ztin4 (List.mem_of_getElem? (i := 217) rfl), rfl⟩
theorem q_938 : zTbl (Cond.fieldLink "TypeChainModel" (95 : Nat) "TypeChainModel" "sSeen" "[I") := ⟨ztin4 (List.mem_of_getElem? (i := 218) rfl), rfl⟩
theorem q_939 : zTbl (Cond.fieldLink "TypeChainModel" (145 : Nat) "TypeChainModel" "hasRun" "Z") := ⟨ztin4 (List.mem_of_getElem? (i := 219) rfl), rfl⟩
theorem q_940 : zTbl (Cond.fieldLink "TypeChainModel" (336 : Nat) "TypeChainModel" "rTicks" "I") := ⟨ztin4 (List.mem_of_getElem? (i := 220) rfl), rfl⟩
theorem q_941 : zTbl (Cond.fieldLink "TypeChainModel" (326 : Nat) "TypeChainModel" "rLines" "I") := ⟨ztin4 (List.mem_of_getElem? (i := 221) rfl), rfl⟩
theorem q_942 : zTbl (Cond.fieldLink "TypeChainModel" (329 : Nat) "TypeChainModel" "rEnd" "I") := ⟨ztin4 (List.mem_of_getElem? (i := 222) rfl), rfl⟩
theorem q_943 : zTbl (Cond.fieldLink "TypeChainModel" (98 : Nat) "TypeChainModel" "keptLine" "[I") := ⟨ztin4 (List.mem_of_getElem? (i := 223) rfl), rfl⟩
theorem q_944 : zTbl (Cond.fieldLink "TypeChainModel" (101 : Nat) "TypeChainModel" "keptChain" "[I") := ⟨ztin4 (List.mem_of_getElem? (i := 224) rfl), rfl⟩
theorem q_945 : zTbl (Cond.fieldLink "TypeChainModel" (104 : Nat) "TypeChainModel" "bestChain" "[I") := ⟨ztin4 (List.mem_of_getElem? (i := 225) rfl), rfl⟩
theorem q_946 : zTbl (Cond.fieldLink "TypeChainModel" (107 : Nat) "TypeChainModel" "lanes" "[I") := ⟨ztin4 (List.mem_of_getElem? (i := 226) rfl), rfl⟩
theorem q_947 : zTbl (Cond.fieldLink "TypeChainModel" (110 : Nat) "TypeChainModel" "sizes" "[I") := ⟨ztin4 (List.mem_of_getElem? (i := 227) rfl), rfl⟩
theorem q_948 : zTbl (Cond.fieldLink "TypeChainModel" (113 : Nat) "TypeChainModel" "cells" "[I") := ⟨ztin4 (List.mem_of_getElem? (i := 228) rfl), rfl⟩
theorem q_949 : zTbl (Cond.lays "TypeChainModel" "TypeChainModel" "slugs" "I") := ⟨ztin4 (List.mem_of_getElem? (i := 229) rfl), rfl⟩
theorem q_950 : Cond.soleField "TypeChainModel" "slugs" ∈ lw_tbl := ztin4 (List.mem_of_getElem? (i := 230) rfl)
theorem q_951 : zTbl (Cond.laysFinal "TypeChainModel" "TypeChainModel" "chain" "[I") := ⟨ztin4 (List.mem_of_getElem? (i := 231) rfl), rfl⟩
theorem q_952 : Cond.soleField "TypeChainModel" "chain" ∈ lw_tbl := ztin4 (List.mem_of_getElem? (i := 232) rfl)
theorem q_953 : zTbl (Cond.laysFinal "TypeChainModel" "TypeChainModel" "set" "[I") := ⟨ztin4 (List.mem_of_getElem? (i := 233) rfl), rfl⟩
theorem q_954 : Cond.soleField "TypeChainModel" "set" ∈ lw_tbl := ztin4 (List.mem_of_getElem? (i := 234) rfl)
theorem q_955 : zTbl (Cond.laysFinal "TypeChainModel" "TypeChainModel" "hole" "[I") := ⟨ztin4 (List.mem_of_getElem? (i := 235) rfl), rfl⟩
theorem q_956 : Cond.soleField "TypeChainModel" "hole" ∈ lw_tbl := ztin4 (List.mem_of_getElem? (i := 236) rfl)
theorem q_957 : zTbl (Cond.lays "TypeChainModel" "TypeChainModel" "orders" "I") := ⟨ztin4 (List.mem_of_getElem? (i := 237) rfl), rfl⟩
theorem q_958 : Cond.soleField "TypeChainModel" "orders" ∈ lw_tbl := ztin4 (List.mem_of_getElem? (i := 238) rfl)
theorem q_959 : zTbl (Cond.laysFinal "TypeChainModel" "TypeChainModel" "act" "[I") := ⟨ztin4 (List.mem_of_getElem? (i := 239) rfl), rfl⟩
theorem q_960 : Cond.soleField "TypeChainModel" "act" ∈ lw_tbl := ztin5 (List.mem_of_getElem? (i := 0) rfl)
theorem q_961 : zTbl (Cond.laysFinal "TypeChainModel" "TypeChainModel" "number" "[I") := ⟨ztin5 (List.mem_of_getElem? (i := 1) rfl), rfl⟩
theorem q_962 : Cond.soleField "TypeChainModel" "number" ∈ lw_tbl := ztin5 (List.mem_of_getElem? (i := 2) rfl)
theorem q_963 : zTbl (Cond.laysFinal "TypeChainModel" "TypeChainModel" "lettersFrom" "[I") := ⟨ztin5 (List.mem_of_getElem? (i := 3) rfl), rfl⟩
theorem q_964 : Cond.soleField "TypeChainModel" "lettersFrom" ∈ lw_tbl := ztin5 (List.mem_of_getElem? (i := 4) rfl)
theorem q_965 : zTbl (Cond.laysFinal "TypeChainModel" "TypeChainModel" "lettersMany" "[I") := ⟨ztin5 (List.mem_of_getElem? (i := 5) rfl), rfl⟩
theorem q_966 : Cond.soleField "TypeChainModel" "lettersMany" ∈ lw_tbl := ztin5 (List.mem_of_getElem? (i := 6) rfl)
theorem q_967 : zTbl (Cond.laysFinal "TypeChainModel" "TypeChainModel" "letters" "[I") := ⟨ztin5 (List.mem_of_getElem? (i := 7) rfl), rfl⟩
theorem q_968 : Cond.soleField "TypeChainModel" "letters" ∈ lw_tbl := ztin5 (List.mem_of_getElem? (i := 8) rfl)
theorem q_969 : zTbl (Cond.lays "TypeChainModel" "TypeChainModel" "dSlugs" "I") := ⟨ztin5 (List.mem_of_getElem? (i := 9) rfl), rfl⟩
theorem q_970 : Cond.soleField "TypeChainModel" "dSlugs" ∈ lw_tbl := ztin5 (List.mem_of_getElem? (i := 10) rfl)
theorem q_971 : zTbl (Cond.laysFinal "TypeChainModel" "TypeChainModel" "dChain" "[I") := ⟨ztin5 (List.mem_of_getElem? (i := 11) rfl), rfl⟩
theorem q_972 : Cond.soleField "TypeChainModel" "dChain" ∈ lw_tbl := ztin5 (List.mem_of_getElem? (i := 12) rfl)
theorem q_973 : zTbl (Cond.laysFinal "TypeChainModel" "TypeChainModel" "dSet" "[I") := ⟨ztin5 (List.mem_of_getElem? (i := 13) rfl), rfl⟩
theorem q_974 : Cond.soleField "TypeChainModel" "dSet" ∈ lw_tbl := ztin5 (List.mem_of_getElem? (i := 14) rfl)
theorem q_975 : zTbl (Cond.laysFinal "TypeChainModel" "TypeChainModel" "dHole" "[I") := ⟨ztin5 (List.mem_of_getElem? (i := 15) rfl), rfl⟩
theorem q_976 : Cond.soleField "TypeChainModel" "dHole" ∈ lw_tbl := ztin5 (List.mem_of_getElem? (i := 16) rfl)
theorem q_977 : zTbl (Cond.lays "TypeChainModel" "TypeChainModel" "dHasHole" "Z") := ⟨ztin5 (List.mem_of_getElem? (i := 17) rfl), rfl⟩
theorem q_978 : Cond.soleField "TypeChainModel" "dHasHole" ∈ lw_tbl := ztin5 (List.mem_of_getElem? (i := 18) rfl)
theorem q_979 : zTbl (Cond.lays "TypeChainModel" "TypeChainModel" "dOrders" "I") := ⟨ztin5 (List.mem_of_getElem? (i := 19) rfl), rfl⟩
theorem q_980 : Cond.soleField "TypeChainModel" "dOrders" ∈ lw_tbl := ztin5 (List.mem_of_getElem? (i := 20) rfl)
theorem q_981 : zTbl (Cond.laysFinal "TypeChainModel" "TypeChainModel" "dAct" "[I") := ⟨ztin5 (List.mem_of_getElem? (i := 21) rfl), rfl⟩
theorem q_982 : Cond.soleField "TypeChainModel" "dAct" ∈ lw_tbl := ztin5 (List.mem_of_getElem? (i := 22) rfl)
theorem q_983 : zTbl (Cond.laysFinal "TypeChainModel" "TypeChainModel" "dNumber" "[I") := ⟨ztin5 (List.mem_of_getElem? (i := 23) rfl), rfl⟩
theorem q_984 : Cond.soleField "TypeChainModel" "dNumber" ∈ lw_tbl := ztin5 (List.mem_of_getElem? (i := 24) rfl)
theorem q_985 : zTbl (Cond.laysFinal "TypeChainModel" "TypeChainModel" "dFrom" "[I") := ⟨ztin5 (List.mem_of_getElem? (i := 25) rfl), rfl⟩
theorem q_986 : Cond.soleField "TypeChainModel" "dFrom" ∈ lw_tbl := ztin5 (List.mem_of_getElem? (i := 26) rfl)
theorem q_987 : zTbl (Cond.laysFinal "TypeChainModel" "TypeChainModel" "dMany" "[I") := ⟨ztin5 (List.mem_of_getElem? (i := 27) rfl), rfl⟩
theorem q_988 : Cond.soleField "TypeChainModel" "dMany" ∈ lw_tbl := ztin5 (List.mem_of_getElem? (i := 28) rfl)
theorem q_989 : zTbl (Cond.lays "TypeChainModel" "TypeChainModel" "dLetters" "I") := ⟨ztin5 (List.mem_of_getElem? (i := 29) rfl), rfl⟩
theorem q_990 : Cond.soleField "TypeChainModel" "dLetters" ∈ lw_tbl := ztin5 (List.mem_of_getElem? (i := 30) rfl)
theorem q_991 : zTbl (Cond.laysFinal "TypeChainModel" "TypeChainModel" "dLetter" "[I") := ⟨ztin5 (List.mem_of_getElem? (i := 31) rfl), rfl⟩
theorem q_992 : Cond.soleField "TypeChainModel" "dLetter" ∈ lw_tbl := ztin5 (List.mem_of_getElem? (i := 32) rfl)
theorem q_993 : zTbl (Cond.laysFinal "TypeChainModel" "TypeChainModel" "isTold" "[Z") := ⟨ztin5 (List.mem_of_getElem? (i := 33) rfl), rfl⟩
theorem q_994 : Cond.soleField "TypeChainModel" "isTold" ∈ lw_tbl := ztin5 (List.mem_of_getElem? (i := 34) rfl)
theorem q_995 : zTbl (Cond.lays "TypeChainModel" "TypeChainModel" "later" "I") := ⟨ztin5 (List.mem_of_getElem? (i := 35) rfl), rfl⟩
theorem q_996 : Cond.soleField "TypeChainModel" "later" ∈ lw_tbl := ztin5 (List.mem_of_getElem? (i := 36) rfl)
theorem q_997 : zTbl (Cond.laysFinal "TypeChainModel" "TypeChainModel" "laterWhat" "[I") := ⟨ztin5 (List.mem_of_getElem? (i := 37) rfl), rfl⟩
theorem q_998 : Cond.soleField "TypeChainModel" "laterWhat" ∈ lw_tbl := ztin5 (List.mem_of_getElem? (i := 38) rfl)
theorem q_999 : zTbl (Cond.laysFinal "TypeChainModel" "TypeChainModel" "laterAt" "[I") := ⟨ztin5 (List.mem_of_getElem? (i := 39) rfl), rfl⟩
theorem q_1000 : Cond.soleField "TypeChainModel" "laterAt" ∈ lw_tbl := ztin5 (List.mem_of_getElem? (i := 40) rfl)
theorem q_1001 : zTbl (Cond.laysFinal "TypeChainModel" "TypeChainModel" "tape" "[I") := ⟨ztin5 (List.mem_of_getElem? (i := 41) rfl), rfl⟩
theorem q_1002 : Cond.soleField "TypeChainModel" "tape" ∈ lw_tbl := ztin5 (List.mem_of_getElem? (i := 42) rfl)
theorem q_1003 : zTbl (Cond.lays "TypeChainModel" "TypeChainModel" "taped" "I") := ⟨ztin5 (List.mem_of_getElem? (i := 43) rfl), rfl⟩
theorem q_1004 : Cond.soleField "TypeChainModel" "taped" ∈ lw_tbl := ztin5 (List.mem_of_getElem? (i := 44) rfl)
theorem q_1005 : zTbl (Cond.lays "TypeChainModel" "TypeChainModel" "pos" "I") := ⟨ztin5 (List.mem_of_getElem? (i := 45) rfl), rfl⟩
theorem q_1006 : Cond.soleField "TypeChainModel" "pos" ∈ lw_tbl := ztin5 (List.mem_of_getElem? (i := 46) rfl)
theorem q_1007 : zTbl (Cond.lays "TypeChainModel" "TypeChainModel" "from" "I") := ⟨ztin5 (List.mem_of_getElem? (i := 47) rfl), rfl⟩
theorem q_1008 : Cond.soleField "TypeChainModel" "from" ∈ lw_tbl := ztin5 (List.mem_of_getElem? (i := 48) rfl)
theorem q_1009 : zTbl (Cond.lays "TypeChainModel" "TypeChainModel" "sort" "I") := ⟨ztin5 (List.mem_of_getElem? (i := 49) rfl), rfl⟩
theorem q_1010 : Cond.soleField "TypeChainModel" "sort" ∈ lw_tbl := ztin5 (List.mem_of_getElem? (i := 50) rfl)
theorem q_1011 : zTbl (Cond.lays "TypeChainModel" "TypeChainModel" "value" "I") := ⟨ztin5 (List.mem_of_getElem? (i := 51) rfl), rfl⟩
theorem q_1012 : Cond.soleField "TypeChainModel" "value" ∈ lw_tbl := ztin5 (List.mem_of_getElem? (i := 52) rfl)
theorem q_1013 : zTbl (Cond.lays "TypeChainModel" "TypeChainModel" "fault" "I") := ⟨ztin5 (List.mem_of_getElem? (i := 53) rfl), rfl⟩
theorem q_1014 : Cond.soleField "TypeChainModel" "fault" ∈ lw_tbl := ztin5 (List.mem_of_getElem? (i := 54) rfl)
theorem q_1015 : zTbl (Cond.lays "TypeChainModel" "TypeChainModel" "wrongAt" "I") := ⟨ztin5 (List.mem_of_getElem? (i := 55) rfl), rfl⟩
theorem q_1016 : Cond.soleField "TypeChainModel" "wrongAt" ∈ lw_tbl := ztin5 (List.mem_of_getElem? (i := 56) rfl)
theorem q_1017 : zTbl (Cond.lays "TypeChainModel" "TypeChainModel" "tick" "I") := ⟨ztin5 (List.mem_of_getElem? (i := 57) rfl), rfl⟩
theorem q_1018 : Cond.soleField "TypeChainModel" "tick" ∈ lw_tbl := ztin5 (List.mem_of_getElem? (i := 58) rfl)
theorem q_1019 : zTbl (Cond.lays "TypeChainModel" "TypeChainModel" "row" "I") := ⟨ztin5 (List.mem_of_getElem? (i := 59) rfl), rfl⟩
theorem q_1020 : Cond.soleField "TypeChainModel" "row" ∈ lw_tbl := ztin5 (List.mem_of_getElem? (i := 60) rfl)
theorem q_1021 : zTbl (Cond.lays "TypeChainModel" "TypeChainModel" "pages" "I") := ⟨ztin5 (List.mem_of_getElem? (i := 61) rfl), rfl⟩
theorem q_1022 : Cond.soleField "TypeChainModel" "pages" ∈ lw_tbl := ztin5 (List.mem_of_getElem? (i := 62) rfl)
theorem q_1023 : zTbl (Cond.laysFinal "TypeChainModel" "TypeChainModel" "line" "[I") := ⟨ztin5 (List.mem_of_getElem? (i := 63) rfl), rfl⟩
theorem q_1024 : Cond.soleField "TypeChainModel" "line" ∈ lw_tbl := ztin5 (List.mem_of_getElem? (i := 64) rfl)
theorem q_1025 : zTbl (Cond.laysFinal "TypeChainModel" "TypeChainModel" "print" "[I") := ⟨ztin5 (List.mem_of_getElem? (i := 65) rfl), rfl⟩
theorem q_1026 : Cond.soleField "TypeChainModel" "print" ∈ lw_tbl := ztin5 (List.mem_of_getElem? (i := 66) rfl)
theorem q_1027 : zTbl (Cond.laysFinal "TypeChainModel" "TypeChainModel" "times" "[I") := ⟨ztin5 (List.mem_of_getElem? (i := 67) rfl), rfl⟩
theorem q_1028 : Cond.soleField "TypeChainModel" "times" ∈ lw_tbl := ztin5 (List.mem_of_getElem? (i := 68) rfl)
theorem q_1029 : zTbl (Cond.laysFinal "TypeChainModel" "TypeChainModel" "at" "[I") := ⟨ztin5 (List.mem_of_getElem? (i := 69) rfl), rfl⟩
theorem q_1030 : Cond.soleField "TypeChainModel" "at" ∈ lw_tbl := ztin5 (List.mem_of_getElem? (i := 70) rfl)
theorem q_1031 : zTbl (Cond.laysFinal "TypeChainModel" "TypeChainModel" "meant" "[I") := ⟨ztin5 (List.mem_of_getElem? (i := 71) rfl), rfl⟩
theorem q_1032 : Cond.soleField "TypeChainModel" "meant" ∈ lw_tbl := ztin5 (List.mem_of_getElem? (i := 72) rfl)
theorem q_1033 : zTbl (Cond.laysFinal "TypeChainModel" "TypeChainModel" "hasWaited" "[Z") := ⟨ztin5 (List.mem_of_getElem? (i := 73) rfl), rfl⟩
theorem q_1034 : Cond.soleField "TypeChainModel" "hasWaited" ∈ lw_tbl := ztin5 (List.mem_of_getElem? (i := 74) rfl)
theorem q_1035 : zTbl (Cond.lays "TypeChainModel" "TypeChainModel" "busiest" "I") := ⟨ztin5 (List.mem_of_getElem? (i := 75) rfl), rfl⟩
theorem q_1036 : Cond.soleField "TypeChainModel" "busiest" ∈ lw_tbl := ztin5 (List.mem_of_getElem? (i := 76) rfl)
theorem q_1037 : zTbl (Cond.lays "TypeChainModel" "TypeChainModel" "hasStruck" "Z") := ⟨ztin5 (List.mem_of_getElem? (i := 77) rfl), rfl⟩
theorem q_1038 : Cond.soleField "TypeChainModel" "hasStruck" ∈ lw_tbl := ztin5 (List.mem_of_getElem? (i := 78) rfl)
theorem q_1039 : zTbl (Cond.lays "TypeChainModel" "TypeChainModel" "sAll" "I") := ⟨ztin5 (List.mem_of_getElem? (i := 79) rfl), rfl⟩
theorem q_1040 : Cond.soleField "TypeChainModel" "sAll" ∈ lw_tbl := ztin5 (List.mem_of_getElem? (i := 80) rfl)
theorem q_1041 : zTbl (Cond.lays "TypeChainModel" "TypeChainModel" "sBusiest" "I") := ⟨ztin5 (List.mem_of_getElem? (i := 81) rfl), rfl⟩
theorem q_1042 : Cond.soleField "TypeChainModel" "sBusiest" ∈ lw_tbl := ztin5 (List.mem_of_getElem? (i := 82) rfl)
theorem q_1043 : zTbl (Cond.lays "TypeChainModel" "TypeChainModel" "sWaited" "I") := ⟨ztin5 (List.mem_of_getElem? (i := 83) rfl), rfl⟩
theorem q_1044 : Cond.soleField "TypeChainModel" "sWaited" ∈ lw_tbl := ztin5 (List.mem_of_getElem? (i := 84) rfl)
theorem q_1045 : zTbl (Cond.laysFinal "TypeChainModel" "TypeChainModel" "sAt" "[I") := ⟨ztin5 (List.mem_of_getElem? (i := 85) rfl), rfl⟩
theorem q_1046 : Cond.soleField "TypeChainModel" "sAt" ∈ lw_tbl := ztin5 (List.mem_of_getElem? (i := 86) rfl)
theorem q_1047 : zTbl (Cond.laysFinal "TypeChainModel" "TypeChainModel" "sMeant" "[I") := ⟨ztin5 (List.mem_of_getElem? (i := 87) rfl), rfl⟩
theorem q_1048 : Cond.soleField "TypeChainModel" "sMeant" ∈ lw_tbl := ztin5 (List.mem_of_getElem? (i := 88) rfl)
theorem q_1049 : zTbl (Cond.laysFinal "TypeChainModel" "TypeChainModel" "sSeen" "[I") := ⟨ztin5 (List.mem_of_getElem? (i := 89) rfl), rfl⟩
theorem q_1050 : Cond.soleField "TypeChainModel" "sSeen" ∈ lw_tbl := ztin5 (List.mem_of_getElem? (i := 90) rfl)
theorem q_1051 : zTbl (Cond.lays "TypeChainModel" "TypeChainModel" "hasRun" "Z") := ⟨ztin5 (List.mem_of_getElem? (i := 91) rfl), rfl⟩
theorem q_1052 : Cond.soleField "TypeChainModel" "hasRun" ∈ lw_tbl := ztin5 (List.mem_of_getElem? (i := 92) rfl)
theorem q_1053 : zTbl (Cond.lays "TypeChainModel" "TypeChainModel" "rTicks" "I") := ⟨ztin5 (List.mem_of_getElem? (i := 93) rfl), rfl⟩
theorem q_1054 : Cond.soleField "TypeChainModel" "rTicks" ∈ lw_tbl := ztin5 (List.mem_of_getElem? (i := 94) rfl)
theorem q_1055 : zTbl (Cond.lays "TypeChainModel" "TypeChainModel" "rLines" "I") := ⟨ztin5 (List.mem_of_getElem? (i := 95) rfl), rfl⟩
theorem q_1056 : Cond.soleField "TypeChainModel" "rLines" ∈ lw_tbl := ztin5 (List.mem_of_getElem? (i := 96) rfl)
theorem q_1057 : zTbl (Cond.lays "TypeChainModel" "TypeChainModel" "rEnd" "I") := ⟨ztin5 (List.mem_of_getElem? (i := 97) rfl), rfl⟩
theorem q_1058 : Cond.soleField "TypeChainModel" "rEnd" ∈ lw_tbl := ztin5 (List.mem_of_getElem? (i := 98) rfl)
theorem q_1059 : zTbl (Cond.laysFinal "TypeChainModel" "TypeChainModel" "keptLine" "[I") := ⟨ztin5 (List.mem_of_getElem? (i := 99) rfl), rfl⟩
theorem q_1060 : Cond.soleField "TypeChainModel" "keptLine" ∈ lw_tbl := ztin5 (List.mem_of_getElem? (i := 100) rfl)
theorem q_1061 : zTbl (Cond.laysFinal "TypeChainModel" "TypeChainModel" "keptChain" "[I") := ⟨ztin5 (List.mem_of_getElem? (i := 101) rfl), rfl⟩
theorem q_1062 : Cond.soleField "TypeChainModel" "keptChain" ∈ lw_tbl := ztin5 (List.mem_of_getElem? (i := 102) rfl)
theorem q_1063 : zTbl (Cond.laysFinal "TypeChainModel" "TypeChainModel" "bestChain" "[I") := ⟨ztin5 (List.mem_of_getElem? (i := 103) rfl), rfl⟩
theorem q_1064 : Cond.soleField "TypeChainModel" "bestChain" ∈ lw_tbl := ztin5 (List.mem_of_getElem? (i := 104) rfl)
theorem q_1065 : zTbl (Cond.laysFinal "TypeChainModel" "TypeChainModel" "lanes" "[I") := ⟨ztin5 (List.mem_of_getElem? (i := 105) rfl), rfl⟩
theorem q_1066 : Cond.soleField "TypeChainModel" "lanes" ∈ lw_tbl := ztin5 (List.mem_of_getElem? (i := 106) rfl)
theorem q_1067 : zTbl (Cond.laysFinal "TypeChainModel" "TypeChainModel" "sizes" "[I") := ⟨ztin5 (List.mem_of_getElem? (i := 107) rfl), rfl⟩
theorem q_1068 : Cond.soleField "TypeChainModel" "sizes" ∈ lw_tbl := ztin5 (List.mem_of_getElem? (i := 108) rfl)
theorem q_1069 : zTbl (Cond.laysFinal "TypeChainModel" "TypeChainModel" "cells" "[I") := ⟨ztin5 (List.mem_of_getElem? (i := 109) rfl), rfl⟩
theorem q_1070 : Cond.soleField "TypeChainModel" "cells" ∈ lw_tbl := ztin5 (List.mem_of_getElem? (i := 110) rfl)
theorem q_1071 : zTbl (Cond.superclass "TypeChainModel" "java/lang/Object") := ⟨ztin5 (List.mem_of_getElem? (i := 111) rfl), rfl⟩
theorem q_1072 : zTbl (Cond.arrayClass FieldType.boolean) := ⟨ztin5 (List.mem_of_getElem? (i := 112) rfl), rfl⟩
theorem q_1073 : zTbl (Cond.methodLink "TypeChainLaw" (19 : Nat) ({ cls := "TypeChainModel", name := "feed", desc := "(J)I" } : MethodName)) := ⟨ztin5 (List.mem_of_getElem? (i := 113) rfl), rfl⟩
theorem q_1074 : zTbl (Cond.instanceMethod ({ cls := "TypeChainModel", name := "feed", desc := "(J)I" } : MethodName)) := ⟨ztin5 (List.mem_of_getElem? (i := 114) rfl), rfl⟩
theorem q_1075 : zTbl (Cond.selects "TypeChainModel" ({ cls := "TypeChainModel", name := "feed", desc := "(J)I" } : MethodName) ({ cls := "TypeChainModel", name := "feed", desc := "(J)I" } : MethodName)) := ⟨ztin5 (List.mem_of_getElem? (i := 115) rfl), rfl⟩
theorem q_1076 : zTbl (Cond.code ({ cls := "TypeChainModel", name := "feed", desc := "(J)I" } : MethodName) prog_12_method_7_code (4 : Nat) (Option.some FieldType.int)) := ⟨ztin5 (List.mem_of_getElem? (i := 116) rfl), rfl⟩
theorem q_1077 : zTbl (Cond.constantLong "TypeChainModel" (163 : Nat) (255 : Int64)) := ⟨ztin5 (List.mem_of_getElem? (i := 117) rfl), rfl⟩
theorem q_1078 : zTbl (Cond.methodLink "TypeChainLaw" (24 : Nat) ({ cls := "TypeChainModel", name := "end", desc := "(I)I" } : MethodName)) := ⟨ztin5 (List.mem_of_getElem? (i := 118) rfl), rfl⟩
theorem q_1079 : zTbl (Cond.instanceMethod ({ cls := "TypeChainModel", name := "end", desc := "(I)I" } : MethodName)) := ⟨ztin5 (List.mem_of_getElem? (i := 119) rfl), rfl⟩
theorem q_1080 : zTbl (Cond.selects "TypeChainModel" ({ cls := "TypeChainModel", name := "end", desc := "(I)I" } : MethodName) ({ cls := "TypeChainModel", name := "end", desc := "(I)I" } : MethodName)) := ⟨ztin5 (List.mem_of_getElem? (i := 120) rfl), rfl⟩
theorem q_1081 : zTbl (Cond.code ({ cls := "TypeChainModel", name := "end", desc := "(I)I" } : MethodName) prog_12_method_8_code (3 : Nat) (Option.some FieldType.int)) := ⟨ztin5 (List.mem_of_getElem? (i := 121) rfl), rfl⟩
theorem q_1082 : zTbl (Cond.methodLink "TypeChainModel" (165 : Nat) ({ cls := "TypeChainModel", name := "in", desc := "(JJJ)Z" } : MethodName)) := ⟨ztin5 (List.mem_of_getElem? (i := 122) rfl), rfl⟩
theorem q_1083 : zTbl (Cond.static ({ cls := "TypeChainModel", name := "in", desc := "(JJJ)Z" } : MethodName)) := ⟨ztin5 (List.mem_of_getElem? (i := 123) rfl), rfl⟩
theorem q_1084 : zTbl (Cond.code ({ cls := "TypeChainModel", name := "in", desc := "(JJJ)Z" } : MethodName) prog_12_method_3_code (6 : Nat) (Option.some FieldType.boolean)) := ⟨ztin5 (List.mem_of_getElem? (i := 124) rfl), rfl⟩
theorem q_1085 : zTbl (Cond.methodLink "TypeChainLaw" (29 : Nat) ({ cls := "TypeChainModel", name := "text", desc := "()I" } : MethodName)) := ⟨ztin5 (List.mem_of_getElem? (i := 125) rfl), rfl⟩
theorem q_1086 : zTbl (Cond.instanceMethod ({ cls := "TypeChainModel", name := "text", desc := "()I" } : MethodName)) := ⟨ztin5 (List.mem_of_getElem? (i := 126) rfl), rfl⟩
theorem q_1087 : zTbl (Cond.selects "TypeChainModel" ({ cls := "TypeChainModel", name := "text", desc := "()I" } : MethodName) ({ cls := "TypeChainModel", name := "text", desc := "()I" } : MethodName)) := ⟨ztin5 (List.mem_of_getElem? (i := 127) rfl), rfl⟩
theorem q_1088 : zTbl (Cond.code ({ cls := "TypeChainModel", name := "text", desc := "()I" } : MethodName) prog_12_method_24_code (4 : Nat) (Option.some FieldType.int)) := ⟨ztin5 (List.mem_of_getElem? (i := 128) rfl), rfl⟩
theorem q_1089 : zTbl (Cond.methodLink "TypeChainModel" (211 : Nat) ({ cls := "TypeChainModel", name := "next", desc := "()V" } : MethodName)) := ⟨ztin5 (List.mem_of_getElem? (i := 129) rfl), rfl⟩
theorem q_1090 : Cond.privateMethod ({ cls := "TypeChainModel", name := "next", desc := "()V" } : MethodName) ∈ lw_tbl := ztin5 (List.mem_of_getElem? (i := 130) rfl)
theorem q_1091 : zTbl (Cond.instanceMethod ({ cls := "TypeChainModel", name := "next", desc := "()V" } : MethodName)) := ⟨ztin5 (List.mem_of_getElem? (i := 131) rfl), rfl⟩
theorem q_1092 : zTbl (Cond.code ({ cls := "TypeChainModel", name := "next", desc := "()V" } : MethodName) prog_12_method_14_code (2 : Nat) (Option.none : Option Jvm.ClassFile.FieldType)) := ⟨ztin5 (List.mem_of_getElem? (i := 132) rfl), rfl⟩
theorem q_1093 : zTbl (Cond.methodLink "TypeChainModel" (181 : Nat) ({ cls := "TypeChainModel", name := "look", desc := "(I)I" } : MethodName)) := ⟨ztin5 (List.mem_of_getElem? (i := 133) rfl), rfl⟩
theorem q_1094 : Cond.privateMethod ({ cls := "TypeChainModel", name := "look", desc := "(I)I" } : MethodName) ∈ lw_tbl := ztin5 (List.mem_of_getElem? (i := 134) rfl)
theorem q_1095 : zTbl (Cond.instanceMethod ({ cls := "TypeChainModel", name := "look", desc := "(I)I" } : MethodName)) := ⟨ztin5 (List.mem_of_getElem? (i := 135) rfl), rfl⟩
theorem q_1096 : zTbl (Cond.code ({ cls := "TypeChainModel", name := "look", desc := "(I)I" } : MethodName) prog_12_method_10_code (2 : Nat) (Option.some FieldType.int)) := ⟨ztin5 (List.mem_of_getElem? (i := 136) rfl), rfl⟩
theorem q_1097 : zTbl (Cond.constantLong "TypeChainModel" (196 : Nat) (97 : Int64)) := ⟨ztin5 (List.mem_of_getElem? (i := 137) rfl), rfl⟩
theorem q_1098 : zTbl (Cond.constantLong "TypeChainModel" (198 : Nat) (122 : Int64)) := ⟨ztin5 (List.mem_of_getElem? (i := 138) rfl), rfl⟩
theorem q_1099 : zTbl (Cond.constantLong "TypeChainModel" (200 : Nat) (48 : Int64)) := ⟨ztin5 (List.mem_of_getElem? (i := 139) rfl), rfl⟩
theorem q_1100 : zTbl (Cond.constantLong "TypeChainModel" (202 : Nat) (57 : Int64)) := ⟨ztin5 (List.mem_of_getElem? (i := 140) rfl), rfl⟩
theorem q_1101 : zTbl (Cond.methodLink "TypeChainModel" (207 : Nat) ({ cls := "TypeChainModel", name := "wants", desc := "(ZI)V" } : MethodName)) := ⟨ztin5 (List.mem_of_getElem? (i := 141) rfl), rfl⟩
theorem q_1102 : Cond.privateMethod ({ cls := "TypeChainModel", name := "wants", desc := "(ZI)V" } : MethodName) ∈ lw_tbl := ztin5 (List.mem_of_getElem? (i := 142) rfl)
theorem q_1103 : zTbl (Cond.instanceMethod ({ cls := "TypeChainModel", name := "wants", desc := "(ZI)V" } : MethodName)) := ⟨ztin5 (List.mem_of_getElem? (i := 143) rfl), rfl⟩
theorem q_1104 : zTbl (Cond.code ({ cls := "TypeChainModel", name := "wants", desc := "(ZI)V" } : MethodName) prog_12_method_9_code (3 : Nat) (Option.none : Option Jvm.ClassFile.FieldType)) := ⟨ztin5 (List.mem_of_getElem? (i := 144) rfl), rfl⟩
theorem q_1105 : zTbl (Cond.methodLink "TypeChainModel" (247 : Nat) ({ cls := "TypeChainModel", name := "readLine", desc := "()V" } : MethodName)) := ⟨ztin5 (List.mem_of_getElem? (i := 145) rfl), rfl⟩
theorem q_1106 : Cond.privateMethod ({ cls := "TypeChainModel", name := "readLine", desc := "()V" } : MethodName) ∈ lw_tbl := ztin5 (List.mem_of_getElem? (i := 146) rfl)
theorem q_1107 : zTbl (Cond.instanceMethod ({ cls := "TypeChainModel", name := "readLine", desc := "()V" } : MethodName)) := ⟨ztin5 (List.mem_of_getElem? (i := 147) rfl), rfl⟩
theorem q_1108 : zTbl (Cond.code ({ cls := "TypeChainModel", name := "readLine", desc := "()V" } : MethodName) prog_12_method_23_code (2 : Nat) (Option.none : Option Jvm.ClassFile.FieldType)) := ⟨ztin5 (List.mem_of_getElem? (i := 148) rfl), rfl⟩
theorem q_1109 : zTbl (Cond.methodLink "TypeChainModel" (227 : Nat) ({ cls := "TypeChainModel", name := "nameNow", desc := "()I" } : MethodName)) := ⟨ztin5 (List.mem_of_getElem? (i := 149) rfl), rfl⟩
theorem q_1110 : Cond.privateMethod ({ cls := "TypeChainModel", name := "nameNow", desc := "()I" } : MethodName) ∈ lw_tbl := ztin5 (List.mem_of_getElem? (i := 150) rfl)
theorem q_1111 : zTbl (Cond.instanceMethod ({ cls := "TypeChainModel", name := "nameNow", desc := "()I" } : MethodName)) := ⟨ztin5 (List.mem_of_getElem? (i := 151) rfl), rfl⟩
theorem q_1112 : zTbl (Cond.code ({ cls := "TypeChainModel", name := "nameNow", desc := "()I" } : MethodName) prog_12_method_13_code (1 : Nat) (Option.some FieldType.int)) := ⟨ztin5 (List.mem_of_getElem? (i := 152) rfl), rfl⟩
theorem q_1113 : zTbl (Cond.methodLink "TypeChainModel" (185 : Nat) ({ cls := "TypeChainModel", name := "is", desc := "(IIIII)Z" } : MethodName)) := ⟨ztin5 (List.mem_of_getElem? (i := 153) rfl), rfl⟩
theorem q_1114 : Cond.privateMethod ({ cls := "TypeChainModel", name := "is", desc := "(IIIII)Z" } : MethodName) ∈ lw_tbl := ztin5 (List.mem_of_getElem? (i := 154) rfl)
theorem q_1115 : zTbl (Cond.instanceMethod ({ cls := "TypeChainModel", name := "is", desc := "(IIIII)Z" } : MethodName)) := ⟨ztin5 (List.mem_of_getElem? (i := 155) rfl), rfl⟩
theorem q_1116 : zTbl (Cond.code ({ cls := "TypeChainModel", name := "is", desc := "(IIIII)Z" } : MethodName) prog_12_method_11_code (6 : Nat) (Option.some FieldType.boolean)) := ⟨ztin5 (List.mem_of_getElem? (i := 156) rfl), rfl⟩
theorem q_1117 : zTbl (Cond.methodLink "TypeChainModel" (189 : Nat) ({ cls := "TypeChainModel", name := "ends2", desc := "(II)Z" } : MethodName)) := ⟨ztin5 (List.mem_of_getElem? (i := 157) rfl), rfl⟩
theorem q_1118 : Cond.privateMethod ({ cls := "TypeChainModel", name := "ends2", desc := "(II)Z" } : MethodName) ∈ lw_tbl := ztin5 (List.mem_of_getElem? (i := 158) rfl)
theorem q_1119 : zTbl (Cond.instanceMethod ({ cls := "TypeChainModel", name := "ends2", desc := "(II)Z" } : MethodName)) := ⟨ztin5 (List.mem_of_getElem? (i := 159) rfl), rfl⟩
theorem q_1120 : zTbl (Cond.code ({ cls := "TypeChainModel", name := "ends2", desc := "(II)Z" } : MethodName) prog_12_method_12_code (3 : Nat) (Option.some FieldType.boolean)) := ⟨ztin5 (List.mem_of_getElem? (i := 160) rfl), rfl⟩
theorem q_1121 : zTbl (Cond.methodLink "TypeChainModel" (231 : Nat) ({ cls := "TypeChainModel", name := "readChain", desc := "()V" } : MethodName)) := ⟨ztin5 (List.mem_of_getElem? (i := 161) rfl), rfl⟩
theorem q_1122 : Cond.privateMethod ({ cls := "TypeChainModel", name := "readChain", desc := "()V" } : MethodName) ∈ lw_tbl := ztin5 (List.mem_of_getElem? (i := 162) rfl)
theorem q_1123 : zTbl (Cond.instanceMethod ({ cls := "TypeChainModel", name := "readChain", desc := "()V" } : MethodName)) := ⟨ztin5 (List.mem_of_getElem? (i := 163) rfl), rfl⟩
theorem q_1124 : zTbl (Cond.code ({ cls := "TypeChainModel", name := "readChain", desc := "()V" } : MethodName) prog_12_method_17_code (3 : Nat) (Option.none : Option Jvm.ClassFile.FieldType)) := ⟨ztin5 (List.mem_of_getElem? (i := 164) rfl), rfl⟩
theorem q_1125 : zTbl (Cond.methodLink "TypeChainModel" (214 : Nat) ({ cls := "TypeChainModel", name := "toLetters", desc := "()V" } : MethodName)) := ⟨ztin5 (List.mem_of_getElem? (i := 165) rfl), rfl⟩
theorem q_1126 : Cond.privateMethod ({ cls := "TypeChainModel", name := "toLetters", desc := "()V" } : MethodName) ∈ lw_tbl := ztin5 (List.mem_of_getElem? (i := 166) rfl)
theorem q_1127 : zTbl (Cond.instanceMethod ({ cls := "TypeChainModel", name := "toLetters", desc := "()V" } : MethodName)) := ⟨ztin5 (List.mem_of_getElem? (i := 167) rfl), rfl⟩
theorem q_1128 : zTbl (Cond.code ({ cls := "TypeChainModel", name := "toLetters", desc := "()V" } : MethodName) prog_12_method_16_code (1 : Nat) (Option.none : Option Jvm.ClassFile.FieldType)) := ⟨ztin5 (List.mem_of_getElem? (i := 168) rfl), rfl⟩
theorem q_1129 : zTbl (Cond.constantLong "TypeChainModel" (217 : Nat) (2 : Int64)) := ⟨ztin5 (List.mem_of_getElem? (i := 169) rfl), rfl⟩
theorem q_1130 : zTbl (Cond.methodLink "TypeChainModel" (234 : Nat) ({ cls := "TypeChainModel", name := "least", desc := "(I)I" } : MethodName)) := ⟨ztin5 (List.mem_of_getElem? (i := 170) rfl), rfl⟩
theorem q_1131 : zTbl (Cond.static ({ cls := "TypeChainModel", name := "least", desc := "(I)I" } : MethodName)) := ⟨ztin5 (List.mem_of_getElem? (i := 171) rfl), rfl⟩
theorem q_1132 : zTbl (Cond.code ({ cls := "TypeChainModel", name := "least", desc := "(I)I" } : MethodName) prog_12_method_21_code (1 : Nat) (Option.some FieldType.int)) := ⟨ztin5 (List.mem_of_getElem? (i := 172) rfl), rfl⟩
theorem q_1133 : zTbl (Cond.methodLink "TypeChainModel" (237 : Nat) ({ cls := "TypeChainModel", name := "most", desc := "(I)I" } : MethodName)) := ⟨ztin5 (List.mem_of_getElem? (i := 173) rfl), rfl⟩
theorem q_1134 : zTbl (Cond.static ({ cls := "TypeChainModel", name := "most", desc := "(I)I" } : MethodName)) := ⟨ztin5 (List.mem_of_getElem? (i := 174) rfl), rfl⟩
theorem q_1135 : zTbl (Cond.code ({ cls := "TypeChainModel", name := "most", desc := "(I)I" } : MethodName) prog_12_method_22_code (1 : Nat) (Option.some FieldType.int)) := ⟨ztin5 (List.mem_of_getElem? (i := 175) rfl), rfl⟩
theorem q_1136 : zTbl (Cond.methodLink "TypeChainModel" (219 : Nat) ({ cls := "TypeChainModel", name := "readNumber", desc := "(II)I" } : MethodName)) := ⟨ztin5 (List.mem_of_getElem? (i := 176) rfl), rfl⟩
theorem q_1137 : Cond.privateMethod ({ cls := "TypeChainModel", name := "readNumber", desc := "(II)I" } : MethodName) ∈ lw_tbl := ztin5 (List.mem_of_getElem? (i := 177) rfl)
theorem q_1138 : zTbl (Cond.instanceMethod ({ cls := "TypeChainModel", name := "readNumber", desc := "(II)I" } : MethodName)) := ⟨ztin5 (List.mem_of_getElem? (i := 178) rfl), rfl⟩
theorem q_1139 : zTbl (Cond.code ({ cls := "TypeChainModel", name := "readNumber", desc := "(II)I" } : MethodName) prog_12_method_15_code (4 : Nat) (Option.some FieldType.int)) := ⟨ztin5 (List.mem_of_getElem? (i := 179) rfl), rfl⟩
theorem q_1140 : zTbl (Cond.methodLink "TypeChainModel" (240 : Nat) ({ cls := "TypeChainModel", name := "readHole", desc := "()V" } : MethodName)) := ⟨ztin5 (List.mem_of_getElem? (i := 180) rfl), rfl⟩
theorem q_1141 : Cond.privateMethod ({ cls := "TypeChainModel", name := "readHole", desc := "()V" } : MethodName) ∈ lw_tbl := ztin5 (List.mem_of_getElem? (i := 181) rfl)
theorem q_1142 : zTbl (Cond.instanceMethod ({ cls := "TypeChainModel", name := "readHole", desc := "()V" } : MethodName)) := ⟨ztin5 (List.mem_of_getElem? (i := 182) rfl), rfl⟩
theorem q_1143 : zTbl (Cond.code ({ cls := "TypeChainModel", name := "readHole", desc := "()V" } : MethodName) prog_12_method_19_code (4 : Nat) (Option.none : Option Jvm.ClassFile.FieldType)) := ⟨ztin5 (List.mem_of_getElem? (i := 183) rfl), rfl⟩
theorem q_1144 : zTbl (Cond.methodLink "TypeChainModel" (223 : Nat) ({ cls := "TypeChainModel", name := "asksLater", desc := "(II)V" } : MethodName)) := ⟨ztin5 (List.mem_of_getElem? (i := 184) rfl), rfl⟩
theorem q_1145 : Cond.privateMethod ({ cls := "TypeChainModel", name := "asksLater", desc := "(II)V" } : MethodName) ∈ lw_tbl := ztin5 (List.mem_of_getElem? (i := 185) rfl)
theorem q_1146 : zTbl (Cond.instanceMethod ({ cls := "TypeChainModel", name := "asksLater", desc := "(II)V" } : MethodName)) := ⟨ztin5 (List.mem_of_getElem? (i := 186) rfl), rfl⟩
theorem q_1147 : zTbl (Cond.code ({ cls := "TypeChainModel", name := "asksLater", desc := "(II)V" } : MethodName) prog_12_method_18_code (3 : Nat) (Option.none : Option Jvm.ClassFile.FieldType)) := ⟨ztin5 (List.mem_of_getElem? (i := 187) rfl), rfl⟩
theorem q_1148 : zTbl (Cond.methodLink "TypeChainModel" (243 : Nat) ({ cls := "TypeChainModel", name := "readOrder", desc := "(I)V" } : MethodName)) := ⟨ztin5 (List.mem_of_getElem? (i := 188) rfl), rfl⟩
theorem q_1149 : Cond.privateMethod ({ cls := "TypeChainModel", name := "readOrder", desc := "(I)V" } : MethodName) ∈ lw_tbl := ztin5 (List.mem_of_getElem? (i := 189) rfl)
theorem q_1150 : zTbl (Cond.instanceMethod ({ cls := "TypeChainModel", name := "readOrder", desc := "(I)V" } : MethodName)) := ⟨ztin5 (List.mem_of_getElem? (i := 190) rfl), rfl⟩
theorem q_1151 : zTbl (Cond.code ({ cls := "TypeChainModel", name := "readOrder", desc := "(I)V" } : MethodName) prog_12_method_20_code (6 : Nat) (Option.none : Option Jvm.ClassFile.FieldType)) := ⟨ztin5 (List.mem_of_getElem? (i := 191) rfl), rfl⟩
theorem q_1152 : zTbl (Cond.methodLink "TypeChainLaw" (33 : Nat) ({ cls := "TypeChainModel", name := "fault", desc := "()I" } : MethodName)) := ⟨ztin5 (List.mem_of_getElem? (i := 192) rfl), rfl⟩
theorem q_1153 : zTbl (Cond.instanceMethod ({ cls := "TypeChainModel", name := "fault", desc := "()I" } : MethodName)) := ⟨ztin5 (List.mem_of_getElem? (i := 193) rfl), rfl⟩
theorem q_1154 : zTbl (Cond.selects "TypeChainModel" ({ cls := "TypeChainModel", name := "fault", desc := "()I" } : MethodName) ({ cls := "TypeChainModel", name := "fault", desc := "()I" } : MethodName)) := ⟨ztin5 (List.mem_of_getElem? (i := 194) rfl), rfl⟩
theorem q_1155 : zTbl (Cond.code ({ cls := "TypeChainModel", name := "fault", desc := "()I" } : MethodName) prog_12_method_25_code (1 : Nat) (Option.some FieldType.int)) := ⟨ztin5 (List.mem_of_getElem? (i := 195) rfl), rfl⟩
theorem q_1156 : zTbl (Cond.methodLink "TypeChainLaw" (37 : Nat) ({ cls := "TypeChainModel", name := "rule", desc := "(I)I" } : MethodName)) := ⟨ztin5 (List.mem_of_getElem? (i := 196) rfl), rfl⟩
theorem q_1157 : zTbl (Cond.instanceMethod ({ cls := "TypeChainModel", name := "rule", desc := "(I)I" } : MethodName)) := ⟨ztin5 (List.mem_of_getElem? (i := 197) rfl), rfl⟩
theorem q_1158 : zTbl (Cond.selects "TypeChainModel" ({ cls := "TypeChainModel", name := "rule", desc := "(I)I" } : MethodName) ({ cls := "TypeChainModel", name := "rule", desc := "(I)I" } : MethodName)) := ⟨ztin5 (List.mem_of_getElem? (i := 198) rfl), rfl⟩
theorem q_1159 : zTbl (Cond.code ({ cls := "TypeChainModel", name := "rule", desc := "(I)I" } : MethodName) prog_12_method_26_code (2 : Nat) (Option.some FieldType.int)) := ⟨ztin5 (List.mem_of_getElem? (i := 199) rfl), rfl⟩
theorem q_1160 : zTbl (Cond.constantLong "TypeChainModel" (250 : Nat) (8 : Int64)) := ⟨ztin5 (List.mem_of_getElem? (i := 200) rfl), rfl⟩
theorem q_1161 : zTbl (Cond.methodLink "TypeChainLaw" (41 : Nat) ({ cls := "TypeChainModel", name := "slug", desc := "(I)I" } : MethodName)) := ⟨ztin5 (List.mem_of_getElem? (i := 201) rfl), rfl⟩
theorem q_1162 : zTbl (Cond.instanceMethod ({ cls := "TypeChainModel", name := "slug", desc := "(I)I" } : MethodName)) := ⟨ztin5 (List.mem_of_getElem? (i := 202) rfl), rfl⟩
theorem q_1163 : zTbl (Cond.selects "TypeChainModel" ({ cls := "TypeChainModel", name := "slug", desc := "(I)I" } : MethodName) ({ cls := "TypeChainModel", name := "slug", desc := "(I)I" } : MethodName)) := ⟨ztin5 (List.mem_of_getElem? (i := 203) rfl), rfl⟩
theorem q_1164 : zTbl (Cond.code ({ cls := "TypeChainModel", name := "slug", desc := "(I)I" } : MethodName) prog_12_method_27_code (2 : Nat) (Option.some FieldType.int)) := ⟨ztin5 (List.mem_of_getElem? (i := 204) rfl), rfl⟩
theorem q_1165 : zTbl (Cond.methodLink "TypeChainLaw" (45 : Nat) ({ cls := "TypeChainModel", name := "holes", desc := "(I)I" } : MethodName)) := ⟨ztin5 (List.mem_of_getElem? (i := 205) rfl), rfl⟩
theorem q_1166 : zTbl (Cond.instanceMethod ({ cls := "TypeChainModel", name := "holes", desc := "(I)I" } : MethodName)) := ⟨ztin5 (List.mem_of_getElem? (i := 206) rfl), rfl⟩
theorem q_1167 : zTbl (Cond.selects "TypeChainModel" ({ cls := "TypeChainModel", name := "holes", desc := "(I)I" } : MethodName) ({ cls := "TypeChainModel", name := "holes", desc := "(I)I" } : MethodName)) := ⟨ztin5 (List.mem_of_getElem? (i := 207) rfl), rfl⟩
theorem q_1168 : zTbl (Cond.code ({ cls := "TypeChainModel", name := "holes", desc := "(I)I" } : MethodName) prog_12_method_28_code (2 : Nat) (Option.some FieldType.int)) := ⟨ztin5 (List.mem_of_getElem? (i := 208) rfl), rfl⟩
theorem q_1169 : zTbl (Cond.methodLink "TypeChainLaw" (50 : Nat) ({ cls := "TypeChainModel", name := "order", desc := "(II)I" } : MethodName)) := ⟨ztin5 (List.mem_of_getElem? (i := 209) rfl), rfl⟩
theorem q_1170 : zTbl (Cond.instanceMethod ({ cls := "TypeChainModel", name := "order", desc := "(II)I" } : MethodName)) := ⟨ztin5 (List.mem_of_getElem? (i := 210) rfl), rfl⟩
theorem q_1171 : zTbl (Cond.selects "TypeChainModel" ({ cls := "TypeChainModel", name := "order", desc := "(II)I" } : MethodName) ({ cls := "TypeChainModel", name := "order", desc := "(II)I" } : MethodName)) := ⟨ztin5 (List.mem_of_getElem? (i := 211) rfl), rfl⟩
theorem q_1172 : zTbl (Cond.code ({ cls := "TypeChainModel", name := "order", desc := "(II)I" } : MethodName) prog_12_method_29_code (3 : Nat) (Option.some FieldType.int)) := ⟨ztin5 (List.mem_of_getElem? (i := 212) rfl), rfl⟩
theorem q_1173 : zTbl (Cond.constantLong "TypeChainModel" (252 : Nat) (10 : Int64)) := ⟨ztin5 (List.mem_of_getElem? (i := 213) rfl), rfl⟩
theorem q_1174 : zTbl (Cond.methodLink "TypeChainLaw" (54 : Nat) ({ cls := "TypeChainModel", name := "faces", desc := "(II)I" } : MethodName)) := ⟨ztin5 (List.mem_of_getElem? (i := 214) rfl), rfl⟩
theorem q_1175 : zTbl (Cond.instanceMethod ({ cls := "TypeChainModel", name := "faces", desc := "(II)I" } : MethodName)) := ⟨ztin5 (List.mem_of_getElem? (i := 215) rfl), rfl⟩
theorem q_1176 : zTbl (Cond.selects "TypeChainModel" ({ cls := "TypeChainModel", name := "faces", desc := "(II)I" } : MethodName) ({ cls := "TypeChainModel", name := "faces", desc := "(II)I" } : MethodName)) := ⟨ztin5 (List.mem_of_getElem? (i := 216) rfl), rfl⟩
theorem q_1177 : zTbl (Cond.code ({ cls := "TypeChainModel", name := "faces", desc := "(II)I" } : MethodName) prog_12_method_33_code (3 : Nat) (Option.some FieldType.int)) := ⟨ztin5 (List.mem_of_getElem? (i := 217) rfl), rfl⟩
theorem q_1178 : zTbl (Cond.methodLink "TypeChainModel" (257 : Nat) ({ cls := "TypeChainModel", name := "isColumn", desc := "(I)Z" } : MethodName)) := ⟨ztin5 (List.mem_of_getElem? (i := 218) rfl), rfl⟩
theorem q_1179 : Cond.privateMethod ({ cls := "TypeChainModel", name := "isColumn", desc := "(I)Z" } : MethodName) ∈ lw_tbl := ztin5 (List.mem_of_getElem? (i := 219) rfl)
theorem q_1180 : zTbl (Cond.instanceMethod ({ cls := "TypeChainModel", name := "isColumn", desc := "(I)Z" } : MethodName)) := ⟨ztin5 (List.mem_of_getElem? (i := 220) rfl), rfl⟩
theorem q_1181 : zTbl (Cond.code ({ cls := "TypeChainModel", name := "isColumn", desc := "(I)Z" } : MethodName) prog_12_method_32_code (2 : Nat) (Option.some FieldType.boolean)) := ⟨ztin5 (List.mem_of_getElem? (i := 221) rfl), rfl⟩
theorem q_1182 : zTbl (Cond.constantLong "TypeChainModel" (261 : Nat) (1000000 : Int64)) := ⟨ztin5 (List.mem_of_getElem? (i := 222) rfl), rfl⟩
theorem q_1183 : zTbl (Cond.methodLink "TypeChainModel" (263 : Nat) ({ cls := "TypeChainModel", name := "letterAt", desc := "(II)I" } : MethodName)) := ⟨ztin5 (List.mem_of_getElem? (i := 223) rfl), rfl⟩
theorem q_1184 : Cond.privateMethod ({ cls := "TypeChainModel", name := "letterAt", desc := "(II)I" } : MethodName) ∈ lw_tbl := ztin5 (List.mem_of_getElem? (i := 224) rfl)
theorem q_1185 : zTbl (Cond.instanceMethod ({ cls := "TypeChainModel", name := "letterAt", desc := "(II)I" } : MethodName)) := ⟨ztin5 (List.mem_of_getElem? (i := 225) rfl), rfl⟩
theorem q_1186 : zTbl (Cond.code ({ cls := "TypeChainModel", name := "letterAt", desc := "(II)I" } : MethodName) prog_12_method_31_code (4 : Nat) (Option.some FieldType.int)) := ⟨ztin5 (List.mem_of_getElem? (i := 226) rfl), rfl⟩
theorem q_1187 : zTbl (Cond.methodLink "TypeChainModel" (254 : Nat) ({ cls := "TypeChainModel", name := "slugAt", desc := "(II)I" } : MethodName)) := ⟨ztin5 (List.mem_of_getElem? (i := 227) rfl), rfl⟩
theorem q_1188 : Cond.privateMethod ({ cls := "TypeChainModel", name := "slugAt", desc := "(II)I" } : MethodName) ∈ lw_tbl := ztin5 (List.mem_of_getElem? (i := 228) rfl)
theorem q_1189 : zTbl (Cond.instanceMethod ({ cls := "TypeChainModel", name := "slugAt", desc := "(II)I" } : MethodName)) := ⟨ztin5 (List.mem_of_getElem? (i := 229) rfl), rfl⟩
theorem q_1190 : zTbl (Cond.code ({ cls := "TypeChainModel", name := "slugAt", desc := "(II)I" } : MethodName) prog_12_method_30_code (4 : Nat) (Option.some FieldType.int)) := ⟨ztin5 (List.mem_of_getElem? (i := 230) rfl), rfl⟩
theorem q_1191 : zTbl (Cond.methodLink "TypeChainLaw" (59 : Nat) ({ cls := "TypeChainModel", name := "comes", desc := "(III)I" } : MethodName)) := ⟨ztin5 (List.mem_of_getElem? (i := 231) rfl), rfl⟩
theorem q_1192 : zTbl (Cond.instanceMethod ({ cls := "TypeChainModel", name := "comes", desc := "(III)I" } : MethodName)) := ⟨ztin5 (List.mem_of_getElem? (i := 232) rfl), rfl⟩
theorem q_1193 : zTbl (Cond.selects "TypeChainModel" ({ cls := "TypeChainModel", name := "comes", desc := "(III)I" } : MethodName) ({ cls := "TypeChainModel", name := "comes", desc := "(III)I" } : MethodName)) := ⟨ztin5 (List.mem_of_getElem? (i := 233) rfl), rfl⟩
theorem q_1194 : zTbl (Cond.code ({ cls := "TypeChainModel", name := "comes", desc := "(III)I" } : MethodName) prog_12_method_36_code (4 : Nat) (Option.some FieldType.int)) := ⟨ztin5 (List.mem_of_getElem? (i := 234) rfl), rfl⟩
theorem q_1195 : zTbl (Cond.constantLong "TypeChainModel" (266 : Nat) (26 : Int64)) := ⟨ztin5 (List.mem_of_getElem? (i := 235) rfl), rfl⟩
theorem q_1196 : zTbl (Cond.methodLink "TypeChainModel" (268 : Nat) ({ cls := "TypeChainModel", name := "has", desc := "(I)Z" } : MethodName)) := ⟨ztin5 (List.mem_of_getElem? (i := 236) rfl), rfl⟩
theorem q_1197 : Cond.privateMethod ({ cls := "TypeChainModel", name := "has", desc := "(I)Z" } : MethodName) ∈ lw_tbl := ztin5 (List.mem_of_getElem? (i := 237) rfl)
theorem q_1198 : zTbl (Cond.instanceMethod ({ cls := "TypeChainModel", name := "has", desc := "(I)Z" } : MethodName)) := ⟨ztin5 (List.mem_of_getElem? (i := 238) rfl), rfl⟩
theorem q_1199 : zTbl (Cond.code ({ cls := "TypeChainModel", name := "has", desc := "(I)Z" } : MethodName) prog_12_method_34_code (4 : Nat) (Option.some FieldType.boolean)) := ⟨ztin5 (List.mem_of_getElem? (i := 239) rfl), rfl⟩
theorem q_1200 : zTbl (Cond.methodLink "TypeChainModel" (271 : Nat) ({ cls := "TypeChainModel", name := "comesBy", desc := "(III)I" } : MethodName)) := ⟨ztin6 (List.mem_of_getElem? (i := 0) rfl), rfl⟩
theorem q_1201 : Cond.privateMethod ({ cls := "TypeChainModel", name := "comesBy", desc := "(III)I" } : MethodName) ∈ lw_tbl := ztin6 (List.mem_of_getElem? (i := 1) rfl)
theorem q_1202 : zTbl (Cond.instanceMethod ({ cls := "TypeChainModel", name := "comesBy", desc := "(III)I" } : MethodName)) := ⟨ztin6 (List.mem_of_getElem? (i := 2) rfl), rfl⟩
theorem q_1203 : zTbl (Cond.code ({ cls := "TypeChainModel", name := "comesBy", desc := "(III)I" } : MethodName) prog_12_method_35_code (5 : Nat) (Option.some FieldType.int)) := ⟨ztin6 (List.mem_of_getElem? (i := 3) rfl), rfl⟩
theorem q_1204 : zTbl (Cond.methodLink "TypeChainLaw" (63 : Nat) ({ cls := "TypeChainModel", name := "late", desc := "(III)I" } : MethodName)) := ⟨ztin6 (List.mem_of_getElem? (i := 4) rfl), rfl⟩
theorem q_1205 : zTbl (Cond.instanceMethod ({ cls := "TypeChainModel", name := "late", desc := "(III)I" } : MethodName)) := ⟨ztin6 (List.mem_of_getElem? (i := 5) rfl), rfl⟩
theorem q_1206 : zTbl (Cond.selects "TypeChainModel" ({ cls := "TypeChainModel", name := "late", desc := "(III)I" } : MethodName) ({ cls := "TypeChainModel", name := "late", desc := "(III)I" } : MethodName)) := ⟨ztin6 (List.mem_of_getElem? (i := 6) rfl), rfl⟩
theorem q_1207 : zTbl (Cond.code ({ cls := "TypeChainModel", name := "late", desc := "(III)I" } : MethodName) prog_12_method_37_code (5 : Nat) (Option.some FieldType.int)) := ⟨ztin6 (List.mem_of_getElem? (i := 7) rfl), rfl⟩
theorem q_1208 : zTbl (Cond.constantLong "TypeChainModel" (275 : Nat) (-20 : Int64)) := ⟨ztin6 (List.mem_of_getElem? (i := 8) rfl), rfl⟩
theorem q_1209 : zTbl (Cond.constantLong "TypeChainModel" (277 : Nat) (20 : Int64)) := ⟨ztin6 (List.mem_of_getElem? (i := 9) rfl), rfl⟩
theorem q_1210 : zTbl (Cond.methodLink "TypeChainLaw" (67 : Nat) ({ cls := "TypeChainModel", name := "put", desc := "(II)I" } : MethodName)) := ⟨ztin6 (List.mem_of_getElem? (i := 10) rfl), rfl⟩
theorem q_1211 : zTbl (Cond.instanceMethod ({ cls := "TypeChainModel", name := "put", desc := "(II)I" } : MethodName)) := ⟨ztin6 (List.mem_of_getElem? (i := 11) rfl), rfl⟩
theorem q_1212 : zTbl (Cond.selects "TypeChainModel" ({ cls := "TypeChainModel", name := "put", desc := "(II)I" } : MethodName) ({ cls := "TypeChainModel", name := "put", desc := "(II)I" } : MethodName)) := ⟨ztin6 (List.mem_of_getElem? (i := 12) rfl), rfl⟩
theorem q_1213 : zTbl (Cond.code ({ cls := "TypeChainModel", name := "put", desc := "(II)I" } : MethodName) prog_12_method_40_code (4 : Nat) (Option.some FieldType.int)) := ⟨ztin6 (List.mem_of_getElem? (i := 13) rfl), rfl⟩
theorem q_1214 : zTbl (Cond.methodLink "TypeChainLaw" (71 : Nat) ({ cls := "TypeChainModel", name := "line", desc := "(I)I" } : MethodName)) := ⟨ztin6 (List.mem_of_getElem? (i := 14) rfl), rfl⟩
theorem q_1215 : zTbl (Cond.instanceMethod ({ cls := "TypeChainModel", name := "line", desc := "(I)I" } : MethodName)) := ⟨ztin6 (List.mem_of_getElem? (i := 15) rfl), rfl⟩
theorem q_1216 : zTbl (Cond.selects "TypeChainModel" ({ cls := "TypeChainModel", name := "line", desc := "(I)I" } : MethodName) ({ cls := "TypeChainModel", name := "line", desc := "(I)I" } : MethodName)) := ⟨ztin6 (List.mem_of_getElem? (i := 16) rfl), rfl⟩
theorem q_1217 : zTbl (Cond.code ({ cls := "TypeChainModel", name := "line", desc := "(I)I" } : MethodName) prog_12_method_41_code (2 : Nat) (Option.some FieldType.int)) := ⟨ztin6 (List.mem_of_getElem? (i := 17) rfl), rfl⟩
theorem q_1218 : zTbl (Cond.methodLink "TypeChainLaw" (75 : Nat) ({ cls := "TypeChainModel", name := "ticks", desc := "(I)I" } : MethodName)) := ⟨ztin6 (List.mem_of_getElem? (i := 18) rfl), rfl⟩
theorem q_1219 : zTbl (Cond.instanceMethod ({ cls := "TypeChainModel", name := "ticks", desc := "(I)I" } : MethodName)) := ⟨ztin6 (List.mem_of_getElem? (i := 19) rfl), rfl⟩
theorem q_1220 : zTbl (Cond.selects "TypeChainModel" ({ cls := "TypeChainModel", name := "ticks", desc := "(I)I" } : MethodName) ({ cls := "TypeChainModel", name := "ticks", desc := "(I)I" } : MethodName)) := ⟨ztin6 (List.mem_of_getElem? (i := 20) rfl), rfl⟩
theorem q_1221 : zTbl (Cond.code ({ cls := "TypeChainModel", name := "ticks", desc := "(I)I" } : MethodName) prog_12_method_44_code (2 : Nat) (Option.some FieldType.int)) := ⟨ztin6 (List.mem_of_getElem? (i := 21) rfl), rfl⟩
theorem q_1222 : zTbl (Cond.constantLong "TypeChainModel" (288 : Nat) (40 : Int64)) := ⟨ztin6 (List.mem_of_getElem? (i := 22) rfl), rfl⟩
theorem q_1223 : zTbl (Cond.methodLink "TypeChainModel" (290 : Nat) ({ cls := "TypeChainModel", name := "canGo", desc := "()Z" } : MethodName)) := ⟨ztin6 (List.mem_of_getElem? (i := 23) rfl), rfl⟩
theorem q_1224 : Cond.privateMethod ({ cls := "TypeChainModel", name := "canGo", desc := "()Z" } : MethodName) ∈ lw_tbl := ztin6 (List.mem_of_getElem? (i := 24) rfl)
theorem q_1225 : zTbl (Cond.instanceMethod ({ cls := "TypeChainModel", name := "canGo", desc := "()Z" } : MethodName)) := ⟨ztin6 (List.mem_of_getElem? (i := 25) rfl), rfl⟩
theorem q_1226 : zTbl (Cond.code ({ cls := "TypeChainModel", name := "canGo", desc := "()Z" } : MethodName) prog_12_method_42_code (3 : Nat) (Option.some FieldType.boolean)) := ⟨ztin6 (List.mem_of_getElem? (i := 26) rfl), rfl⟩
theorem q_1227 : zTbl (Cond.methodLink "TypeChainModel" (294 : Nat) ({ cls := "TypeChainModel", name := "strikes", desc := "(I)I" } : MethodName)) := ⟨ztin6 (List.mem_of_getElem? (i := 27) rfl), rfl⟩
theorem q_1228 : Cond.privateMethod ({ cls := "TypeChainModel", name := "strikes", desc := "(I)I" } : MethodName) ∈ lw_tbl := ztin6 (List.mem_of_getElem? (i := 28) rfl)
theorem q_1229 : zTbl (Cond.instanceMethod ({ cls := "TypeChainModel", name := "strikes", desc := "(I)I" } : MethodName)) := ⟨ztin6 (List.mem_of_getElem? (i := 29) rfl), rfl⟩
theorem q_1230 : zTbl (Cond.code ({ cls := "TypeChainModel", name := "strikes", desc := "(I)I" } : MethodName) prog_12_method_43_code (6 : Nat) (Option.some FieldType.int)) := ⟨ztin6 (List.mem_of_getElem? (i := 30) rfl), rfl⟩
theorem q_1231 : zTbl (Cond.methodLink "TypeChainLaw" (79 : Nat) ({ cls := "TypeChainModel", name := "go", desc := "()I" } : MethodName)) := ⟨ztin6 (List.mem_of_getElem? (i := 31) rfl), rfl⟩
theorem q_1232 : zTbl (Cond.instanceMethod ({ cls := "TypeChainModel", name := "go", desc := "()I" } : MethodName)) := ⟨ztin6 (List.mem_of_getElem? (i := 32) rfl), rfl⟩
theorem q_1233 : zTbl (Cond.selects "TypeChainModel" ({ cls := "TypeChainModel", name := "go", desc := "()I" } : MethodName) ({ cls := "TypeChainModel", name := "go", desc := "()I" } : MethodName)) := ⟨ztin6 (List.mem_of_getElem? (i := 33) rfl), rfl⟩
theorem q_1234 : zTbl (Cond.code ({ cls := "TypeChainModel", name := "go", desc := "()I" } : MethodName) prog_12_method_46_code (1 : Nat) (Option.some FieldType.int)) := ⟨ztin6 (List.mem_of_getElem? (i := 34) rfl), rfl⟩
theorem q_1235 : zTbl (Cond.methodLink "TypeChainModel" (306 : Nat) ({ cls := "TypeChainModel", name := "goes", desc := "()I" } : MethodName)) := ⟨ztin6 (List.mem_of_getElem? (i := 35) rfl), rfl⟩
theorem q_1236 : Cond.privateMethod ({ cls := "TypeChainModel", name := "goes", desc := "()I" } : MethodName) ∈ lw_tbl := ztin6 (List.mem_of_getElem? (i := 36) rfl)
theorem q_1237 : zTbl (Cond.instanceMethod ({ cls := "TypeChainModel", name := "goes", desc := "()I" } : MethodName)) := ⟨ztin6 (List.mem_of_getElem? (i := 37) rfl), rfl⟩
theorem q_1238 : zTbl (Cond.code ({ cls := "TypeChainModel", name := "goes", desc := "()I" } : MethodName) prog_12_method_45_code (4 : Nat) (Option.some FieldType.int)) := ⟨ztin6 (List.mem_of_getElem? (i := 38) rfl), rfl⟩
theorem q_1239 : zTbl (Cond.methodLink "TypeChainLaw" (83 : Nat) ({ cls := "TypeChainModel", name := "struck", desc := "(I)I" } : MethodName)) := ⟨ztin6 (List.mem_of_getElem? (i := 39) rfl), rfl⟩
theorem q_1240 : zTbl (Cond.instanceMethod ({ cls := "TypeChainModel", name := "struck", desc := "(I)I" } : MethodName)) := ⟨ztin6 (List.mem_of_getElem? (i := 40) rfl), rfl⟩
theorem q_1241 : zTbl (Cond.selects "TypeChainModel" ({ cls := "TypeChainModel", name := "struck", desc := "(I)I" } : MethodName) ({ cls := "TypeChainModel", name := "struck", desc := "(I)I" } : MethodName)) := ⟨ztin6 (List.mem_of_getElem? (i := 41) rfl), rfl⟩
theorem q_1242 : zTbl (Cond.code ({ cls := "TypeChainModel", name := "struck", desc := "(I)I" } : MethodName) prog_12_method_47_code (2 : Nat) (Option.some FieldType.int)) := ⟨ztin6 (List.mem_of_getElem? (i := 42) rfl), rfl⟩
theorem q_1243 : zTbl (Cond.methodLink "TypeChainLaw" (87 : Nat) ({ cls := "TypeChainModel", name := "slipped", desc := "(II)I" } : MethodName)) := ⟨ztin6 (List.mem_of_getElem? (i := 43) rfl), rfl⟩
theorem q_1244 : zTbl (Cond.instanceMethod ({ cls := "TypeChainModel", name := "slipped", desc := "(II)I" } : MethodName)) := ⟨ztin6 (List.mem_of_getElem? (i := 44) rfl), rfl⟩
theorem q_1245 : zTbl (Cond.selects "TypeChainModel" ({ cls := "TypeChainModel", name := "slipped", desc := "(II)I" } : MethodName) ({ cls := "TypeChainModel", name := "slipped", desc := "(II)I" } : MethodName)) := ⟨ztin6 (List.mem_of_getElem? (i := 45) rfl), rfl⟩
theorem q_1246 : zTbl (Cond.code ({ cls := "TypeChainModel", name := "slipped", desc := "(II)I" } : MethodName) prog_12_method_49_code (3 : Nat) (Option.some FieldType.int)) := ⟨ztin6 (List.mem_of_getElem? (i := 46) rfl), rfl⟩
theorem q_1247 : zTbl (Cond.methodLink "TypeChainModel" (309 : Nat) ({ cls := "TypeChainModel", name := "shows", desc := "(II)I" } : MethodName)) := ⟨ztin6 (List.mem_of_getElem? (i := 47) rfl), rfl⟩
theorem q_1248 : Cond.privateMethod ({ cls := "TypeChainModel", name := "shows", desc := "(II)I" } : MethodName) ∈ lw_tbl := ztin6 (List.mem_of_getElem? (i := 48) rfl)
theorem q_1249 : zTbl (Cond.instanceMethod ({ cls := "TypeChainModel", name := "shows", desc := "(II)I" } : MethodName)) := ⟨ztin6 (List.mem_of_getElem? (i := 49) rfl), rfl⟩
theorem q_1250 : zTbl (Cond.code ({ cls := "TypeChainModel", name := "shows", desc := "(II)I" } : MethodName) prog_12_method_48_code (3 : Nat) (Option.some FieldType.int)) := ⟨ztin6 (List.mem_of_getElem? (i := 50) rfl), rfl⟩
theorem q_1251 : zTbl (Cond.methodLink "TypeChainLaw" (91 : Nat) ({ cls := "TypeChainModel", name := "seen", desc := "(II)I" } : MethodName)) := ⟨ztin6 (List.mem_of_getElem? (i := 51) rfl), rfl⟩
theorem q_1252 : zTbl (Cond.instanceMethod ({ cls := "TypeChainModel", name := "seen", desc := "(II)I" } : MethodName)) := ⟨ztin6 (List.mem_of_getElem? (i := 52) rfl), rfl⟩
theorem q_1253 : zTbl (Cond.selects "TypeChainModel" ({ cls := "TypeChainModel", name := "seen", desc := "(II)I" } : MethodName) ({ cls := "TypeChainModel", name := "seen", desc := "(II)I" } : MethodName)) := ⟨ztin6 (List.mem_of_getElem? (i := 53) rfl), rfl⟩
theorem q_1254 : zTbl (Cond.code ({ cls := "TypeChainModel", name := "seen", desc := "(II)I" } : MethodName) prog_12_method_50_code (4 : Nat) (Option.some FieldType.int)) := ⟨ztin6 (List.mem_of_getElem? (i := 54) rfl), rfl⟩
theorem q_1255 : zTbl (Cond.methodLink "TypeChainLaw" (95 : Nat) ({ cls := "TypeChainModel", name := "slips", desc := "(I)I" } : MethodName)) := ⟨ztin6 (List.mem_of_getElem? (i := 55) rfl), rfl⟩
theorem q_1256 : zTbl (Cond.instanceMethod ({ cls := "TypeChainModel", name := "slips", desc := "(I)I" } : MethodName)) := ⟨ztin6 (List.mem_of_getElem? (i := 56) rfl), rfl⟩
theorem q_1257 : zTbl (Cond.selects "TypeChainModel" ({ cls := "TypeChainModel", name := "slips", desc := "(I)I" } : MethodName) ({ cls := "TypeChainModel", name := "slips", desc := "(I)I" } : MethodName)) := ⟨ztin6 (List.mem_of_getElem? (i := 57) rfl), rfl⟩
theorem q_1258 : zTbl (Cond.code ({ cls := "TypeChainModel", name := "slips", desc := "(I)I" } : MethodName) prog_12_method_51_code (7 : Nat) (Option.some FieldType.int)) := ⟨ztin6 (List.mem_of_getElem? (i := 58) rfl), rfl⟩
theorem q_1259 : zTbl (Cond.methodLink "TypeChainLaw" (99 : Nat) ({ cls := "TypeChainModel", name := "space", desc := "(I)I" } : MethodName)) := ⟨ztin6 (List.mem_of_getElem? (i := 59) rfl), rfl⟩
theorem q_1260 : zTbl (Cond.instanceMethod ({ cls := "TypeChainModel", name := "space", desc := "(I)I" } : MethodName)) := ⟨ztin6 (List.mem_of_getElem? (i := 60) rfl), rfl⟩
theorem q_1261 : zTbl (Cond.selects "TypeChainModel" ({ cls := "TypeChainModel", name := "space", desc := "(I)I" } : MethodName) ({ cls := "TypeChainModel", name := "space", desc := "(I)I" } : MethodName)) := ⟨ztin6 (List.mem_of_getElem? (i := 61) rfl), rfl⟩
theorem q_1262 : zTbl (Cond.code ({ cls := "TypeChainModel", name := "space", desc := "(I)I" } : MethodName) prog_12_method_54_code (2 : Nat) (Option.some FieldType.int)) := ⟨ztin6 (List.mem_of_getElem? (i := 62) rfl), rfl⟩
theorem q_1263 : zTbl (Cond.constantLong "TypeChainModel" (312 : Nat) (9 : Int64)) := ⟨ztin6 (List.mem_of_getElem? (i := 63) rfl), rfl⟩
theorem q_1264 : zTbl (Cond.methodLink "TypeChainModel" (314 : Nat) ({ cls := "TypeChainModel", name := "moves", desc := "(IZ)I" } : MethodName)) := ⟨ztin6 (List.mem_of_getElem? (i := 64) rfl), rfl⟩
theorem q_1265 : Cond.privateMethod ({ cls := "TypeChainModel", name := "moves", desc := "(IZ)I" } : MethodName) ∈ lw_tbl := ztin6 (List.mem_of_getElem? (i := 65) rfl)
theorem q_1266 : zTbl (Cond.instanceMethod ({ cls := "TypeChainModel", name := "moves", desc := "(IZ)I" } : MethodName)) := ⟨ztin6 (List.mem_of_getElem? (i := 66) rfl), rfl⟩
theorem q_1267 : zTbl (Cond.code ({ cls := "TypeChainModel", name := "moves", desc := "(IZ)I" } : MethodName) prog_12_method_52_code (4 : Nat) (Option.some FieldType.int)) := ⟨ztin6 (List.mem_of_getElem? (i := 67) rfl), rfl⟩
theorem q_1268 : zTbl (Cond.methodLink "TypeChainLaw" (103 : Nat) ({ cls := "TypeChainModel", name := "skip", desc := "(I)I" } : MethodName)) := ⟨ztin6 (List.mem_of_getElem? (i := 68) rfl), rfl⟩
theorem q_1269 : zTbl (Cond.instanceMethod ({ cls := "TypeChainModel", name := "skip", desc := "(I)I" } : MethodName)) := ⟨ztin6 (List.mem_of_getElem? (i := 69) rfl), rfl⟩
theorem q_1270 : zTbl (Cond.selects "TypeChainModel" ({ cls := "TypeChainModel", name := "skip", desc := "(I)I" } : MethodName) ({ cls := "TypeChainModel", name := "skip", desc := "(I)I" } : MethodName)) := ⟨ztin6 (List.mem_of_getElem? (i := 70) rfl), rfl⟩
theorem q_1271 : zTbl (Cond.code ({ cls := "TypeChainModel", name := "skip", desc := "(I)I" } : MethodName) prog_12_method_55_code (3 : Nat) (Option.some FieldType.int)) := ⟨ztin6 (List.mem_of_getElem? (i := 71) rfl), rfl⟩
theorem q_1272 : zTbl (Cond.constantLong "TypeChainModel" (318 : Nat) (7 : Int64)) := ⟨ztin6 (List.mem_of_getElem? (i := 72) rfl), rfl⟩
theorem q_1273 : zTbl (Cond.methodLink "TypeChainModel" (320 : Nat) ({ cls := "TypeChainModel", name := "toHole", desc := "(I)I" } : MethodName)) := ⟨ztin6 (List.mem_of_getElem? (i := 73) rfl), rfl⟩
theorem q_1274 : Cond.privateMethod ({ cls := "TypeChainModel", name := "toHole", desc := "(I)I" } : MethodName) ∈ lw_tbl := ztin6 (List.mem_of_getElem? (i := 74) rfl)
theorem q_1275 : zTbl (Cond.instanceMethod ({ cls := "TypeChainModel", name := "toHole", desc := "(I)I" } : MethodName)) := ⟨ztin6 (List.mem_of_getElem? (i := 75) rfl), rfl⟩
theorem q_1276 : zTbl (Cond.code ({ cls := "TypeChainModel", name := "toHole", desc := "(I)I" } : MethodName) prog_12_method_53_code (3 : Nat) (Option.some FieldType.int)) := ⟨ztin6 (List.mem_of_getElem? (i := 76) rfl), rfl⟩
theorem q_1277 : zTbl (Cond.methodLink "TypeChainLaw" (107 : Nat) ({ cls := "TypeChainModel", name := "now", desc := "(I)I" } : MethodName)) := ⟨ztin6 (List.mem_of_getElem? (i := 77) rfl), rfl⟩
theorem q_1278 : zTbl (Cond.instanceMethod ({ cls := "TypeChainModel", name := "now", desc := "(I)I" } : MethodName)) := ⟨ztin6 (List.mem_of_getElem? (i := 78) rfl), rfl⟩
theorem q_1279 : zTbl (Cond.selects "TypeChainModel" ({ cls := "TypeChainModel", name := "now", desc := "(I)I" } : MethodName) ({ cls := "TypeChainModel", name := "now", desc := "(I)I" } : MethodName)) := ⟨ztin6 (List.mem_of_getElem? (i := 79) rfl), rfl⟩
theorem q_1280 : zTbl (Cond.code ({ cls := "TypeChainModel", name := "now", desc := "(I)I" } : MethodName) prog_12_method_56_code (5 : Nat) (Option.some FieldType.int)) := ⟨ztin6 (List.mem_of_getElem? (i := 80) rfl), rfl⟩
theorem q_1281 : zTbl (Cond.methodLink "TypeChainLaw" (111 : Nat) ({ cls := "TypeChainModel", name := "page", desc := "(III)I" } : MethodName)) := ⟨ztin6 (List.mem_of_getElem? (i := 81) rfl), rfl⟩
theorem q_1282 : zTbl (Cond.instanceMethod ({ cls := "TypeChainModel", name := "page", desc := "(III)I" } : MethodName)) := ⟨ztin6 (List.mem_of_getElem? (i := 82) rfl), rfl⟩
theorem q_1283 : zTbl (Cond.selects "TypeChainModel" ({ cls := "TypeChainModel", name := "page", desc := "(III)I" } : MethodName) ({ cls := "TypeChainModel", name := "page", desc := "(III)I" } : MethodName)) := ⟨ztin6 (List.mem_of_getElem? (i := 83) rfl), rfl⟩
theorem q_1284 : zTbl (Cond.code ({ cls := "TypeChainModel", name := "page", desc := "(III)I" } : MethodName) prog_12_method_57_code (4 : Nat) (Option.some FieldType.int)) := ⟨ztin6 (List.mem_of_getElem? (i := 84) rfl), rfl⟩
theorem q_1285 : zTbl (Cond.methodLink "TypeChainLaw" (115 : Nat) ({ cls := "TypeChainModel", name := "run", desc := "()I" } : MethodName)) := ⟨ztin6 (List.mem_of_getElem? (i := 85) rfl), rfl⟩
theorem q_1286 : zTbl (Cond.instanceMethod ({ cls := "TypeChainModel", name := "run", desc := "()I" } : MethodName)) := ⟨ztin6 (List.mem_of_getElem? (i := 86) rfl), rfl⟩
theorem q_1287 : zTbl (Cond.selects "TypeChainModel" ({ cls := "TypeChainModel", name := "run", desc := "()I" } : MethodName) ({ cls := "TypeChainModel", name := "run", desc := "()I" } : MethodName)) := ⟨ztin6 (List.mem_of_getElem? (i := 87) rfl), rfl⟩
theorem q_1288 : zTbl (Cond.code ({ cls := "TypeChainModel", name := "run", desc := "()I" } : MethodName) prog_12_method_60_code (3 : Nat) (Option.some FieldType.int)) := ⟨ztin6 (List.mem_of_getElem? (i := 88) rfl), rfl⟩
theorem q_1289 : zTbl (Cond.methodLink "TypeChainModel" (332 : Nat) ({ cls := "TypeChainModel", name := "does", desc := "(IZ)Z" } : MethodName)) := ⟨ztin6 (List.mem_of_getElem? (i := 89) rfl), rfl⟩
theorem q_1290 : Cond.privateMethod ({ cls := "TypeChainModel", name := "does", desc := "(IZ)Z" } : MethodName) ∈ lw_tbl := ztin6 (List.mem_of_getElem? (i := 90) rfl)
theorem q_1291 : zTbl (Cond.instanceMethod ({ cls := "TypeChainModel", name := "does", desc := "(IZ)Z" } : MethodName)) := ⟨ztin6 (List.mem_of_getElem? (i := 91) rfl), rfl⟩
theorem q_1292 : zTbl (Cond.code ({ cls := "TypeChainModel", name := "does", desc := "(IZ)Z" } : MethodName) prog_12_method_59_code (4 : Nat) (Option.some FieldType.boolean)) := ⟨ztin6 (List.mem_of_getElem? (i := 92) rfl), rfl⟩
theorem q_1293 : zTbl (Cond.methodLink "TypeChainModel" (323 : Nat) ({ cls := "TypeChainModel", name := "puts", desc := "(I)V" } : MethodName)) := ⟨ztin6 (List.mem_of_getElem? (i := 93) rfl), rfl⟩
theorem q_1294 : Cond.privateMethod ({ cls := "TypeChainModel", name := "puts", desc := "(I)V" } : MethodName) ∈ lw_tbl := ztin6 (List.mem_of_getElem? (i := 94) rfl)
theorem q_1295 : zTbl (Cond.instanceMethod ({ cls := "TypeChainModel", name := "puts", desc := "(I)V" } : MethodName)) := ⟨ztin6 (List.mem_of_getElem? (i := 95) rfl), rfl⟩
theorem q_1296 : zTbl (Cond.code ({ cls := "TypeChainModel", name := "puts", desc := "(I)V" } : MethodName) prog_12_method_58_code (3 : Nat) (Option.none : Option Jvm.ClassFile.FieldType)) := ⟨ztin6 (List.mem_of_getElem? (i := 96) rfl), rfl⟩
theorem q_1297 : zTbl (Cond.methodLink "TypeChainLaw" (119 : Nat) ({ cls := "TypeChainModel", name := "ran", desc := "(I)I" } : MethodName)) := ⟨ztin6 (List.mem_of_getElem? (i := 97) rfl), rfl⟩
theorem q_1298 : zTbl (Cond.instanceMethod ({ cls := "TypeChainModel", name := "ran", desc := "(I)I" } : MethodName)) := ⟨ztin6 (List.mem_of_getElem? (i := 98) rfl), rfl⟩
theorem q_1299 : zTbl (Cond.selects "TypeChainModel" ({ cls := "TypeChainModel", name := "ran", desc := "(I)I" } : MethodName) ({ cls := "TypeChainModel", name := "ran", desc := "(I)I" } : MethodName)) := ⟨ztin6 (List.mem_of_getElem? (i := 99) rfl), rfl⟩
theorem q_1300 : zTbl (Cond.code ({ cls := "TypeChainModel", name := "ran", desc := "(I)I" } : MethodName) prog_12_method_61_code (2 : Nat) (Option.some FieldType.int)) := ⟨ztin6 (List.mem_of_getElem? (i := 100) rfl), rfl⟩
theorem q_1301 : zTbl (Cond.methodLink "TypeChainLaw" (123 : Nat) ({ cls := "TypeChainModel", name := "best", desc := "(I)I" } : MethodName)) := ⟨ztin6 (List.mem_of_getElem? (i := 101) rfl), rfl⟩
theorem q_1302 : zTbl (Cond.instanceMethod ({ cls := "TypeChainModel", name := "best", desc := "(I)I" } : MethodName)) := ⟨ztin6 (List.mem_of_getElem? (i := 102) rfl), rfl⟩
theorem q_1303 : zTbl (Cond.selects "TypeChainModel" ({ cls := "TypeChainModel", name := "best", desc := "(I)I" } : MethodName) ({ cls := "TypeChainModel", name := "best", desc := "(I)I" } : MethodName)) := ⟨ztin6 (List.mem_of_getElem? (i := 103) rfl), rfl⟩
theorem q_1304 : zTbl (Cond.code ({ cls := "TypeChainModel", name := "best", desc := "(I)I" } : MethodName) prog_12_method_67_code (6 : Nat) (Option.some FieldType.int)) := ⟨ztin6 (List.mem_of_getElem? (i := 104) rfl), rfl⟩
theorem q_1305 : zTbl (Cond.constantLong "TypeChainModel" (343 : Nat) (15 : Int64)) := ⟨ztin6 (List.mem_of_getElem? (i := 105) rfl), rfl⟩
theorem q_1306 : zTbl (Cond.methodLink "TypeChainModel" (345 : Nat) ({ cls := "TypeChainModel", name := "keepChain", desc := "()V" } : MethodName)) := ⟨ztin6 (List.mem_of_getElem? (i := 106) rfl), rfl⟩
theorem q_1307 : Cond.privateMethod ({ cls := "TypeChainModel", name := "keepChain", desc := "()V" } : MethodName) ∈ lw_tbl := ztin6 (List.mem_of_getElem? (i := 107) rfl)
theorem q_1308 : zTbl (Cond.instanceMethod ({ cls := "TypeChainModel", name := "keepChain", desc := "()V" } : MethodName)) := ⟨ztin6 (List.mem_of_getElem? (i := 108) rfl), rfl⟩
theorem q_1309 : zTbl (Cond.code ({ cls := "TypeChainModel", name := "keepChain", desc := "()V" } : MethodName) prog_12_method_63_code (2 : Nat) (Option.none : Option Jvm.ClassFile.FieldType)) := ⟨ztin6 (List.mem_of_getElem? (i := 109) rfl), rfl⟩
theorem q_1310 : zTbl (Cond.methodLink "TypeChainModel" (340 : Nat) ({ cls := "TypeChainModel", name := "swaps", desc := "(II)V" } : MethodName)) := ⟨ztin6 (List.mem_of_getElem? (i := 110) rfl), rfl⟩
theorem q_1311 : Cond.privateMethod ({ cls := "TypeChainModel", name := "swaps", desc := "(II)V" } : MethodName) ∈ lw_tbl := ztin6 (List.mem_of_getElem? (i := 111) rfl)
theorem q_1312 : zTbl (Cond.instanceMethod ({ cls := "TypeChainModel", name := "swaps", desc := "(II)V" } : MethodName)) := ⟨ztin6 (List.mem_of_getElem? (i := 112) rfl), rfl⟩
theorem q_1313 : zTbl (Cond.code ({ cls := "TypeChainModel", name := "swaps", desc := "(II)V" } : MethodName) prog_12_method_66_code (4 : Nat) (Option.none : Option Jvm.ClassFile.FieldType)) := ⟨ztin6 (List.mem_of_getElem? (i := 113) rfl), rfl⟩
theorem q_1314 : zTbl (Cond.constant "TypeChainModel" (339 : Nat) (1000000000 : Int32)) := ⟨ztin6 (List.mem_of_getElem? (i := 114) rfl), rfl⟩
theorem q_1315 : zTbl (Cond.methodLink "TypeChainModel" (348 : Nat) ({ cls := "TypeChainModel", name := "tries", desc := "()I" } : MethodName)) := ⟨ztin6 (List.mem_of_getElem? (i := 115) rfl), rfl⟩
theorem q_1316 : Cond.privateMethod ({ cls := "TypeChainModel", name := "tries", desc := "()I" } : MethodName) ∈ lw_tbl := ztin6 (List.mem_of_getElem? (i := 116) rfl)
theorem q_1317 : zTbl (Cond.instanceMethod ({ cls := "TypeChainModel", name := "tries", desc := "()I" } : MethodName)) := ⟨ztin6 (List.mem_of_getElem? (i := 117) rfl), rfl⟩
theorem q_1318 : zTbl (Cond.code ({ cls := "TypeChainModel", name := "tries", desc := "()I" } : MethodName) prog_12_method_62_code (6 : Nat) (Option.some FieldType.int)) := ⟨ztin6 (List.mem_of_getElem? (i := 118) rfl), rfl⟩
theorem q_1319 : zTbl (Cond.methodLink "TypeChainModel" (351 : Nat) ({ cls := "TypeChainModel", name := "goesOn", desc := "()Z" } : MethodName)) := ⟨ztin6 (List.mem_of_getElem? (i := 119) rfl), rfl⟩
theorem q_1320 : Cond.privateMethod ({ cls := "TypeChainModel", name := "goesOn", desc := "()Z" } : MethodName) ∈ lw_tbl := ztin6 (List.mem_of_getElem? (i := 120) rfl)
theorem q_1321 : zTbl (Cond.instanceMethod ({ cls := "TypeChainModel", name := "goesOn", desc := "()Z" } : MethodName)) := ⟨ztin6 (List.mem_of_getElem? (i := 121) rfl), rfl⟩
theorem q_1322 : zTbl (Cond.code ({ cls := "TypeChainModel", name := "goesOn", desc := "()Z" } : MethodName) prog_12_method_65_code (5 : Nat) (Option.some FieldType.boolean)) := ⟨ztin6 (List.mem_of_getElem? (i := 122) rfl), rfl⟩
theorem q_1323 : zTbl (Cond.methodLink "TypeChainModel" (354 : Nat) ({ cls := "TypeChainModel", name := "chainAgain", desc := "()V" } : MethodName)) := ⟨ztin6 (List.mem_of_getElem? (i := 123) rfl), rfl⟩
theorem q_1324 : Cond.privateMethod ({ cls := "TypeChainModel", name := "chainAgain", desc := "()V" } : MethodName) ∈ lw_tbl := ztin6 (List.mem_of_getElem? (i := 124) rfl)
theorem q_1325 : zTbl (Cond.instanceMethod ({ cls := "TypeChainModel", name := "chainAgain", desc := "()V" } : MethodName)) := ⟨ztin6 (List.mem_of_getElem? (i := 125) rfl), rfl⟩
theorem q_1326 : zTbl (Cond.code ({ cls := "TypeChainModel", name := "chainAgain", desc := "()V" } : MethodName) prog_12_method_64_code (2 : Nat) (Option.none : Option Jvm.ClassFile.FieldType)) := ⟨ztin6 (List.mem_of_getElem? (i := 126) rfl), rfl⟩
theorem q_1327 : zTbl (Cond.methodLink "TypeChainLaw" (127 : Nat) ({ cls := "TypeChainModel", name := "twice", desc := "(I)I" } : MethodName)) := ⟨ztin6 (List.mem_of_getElem? (i := 127) rfl), rfl⟩
theorem q_1328 : zTbl (Cond.instanceMethod ({ cls := "TypeChainModel", name := "twice", desc := "(I)I" } : MethodName)) := ⟨ztin6 (List.mem_of_getElem? (i := 128) rfl), rfl⟩
theorem q_1329 : zTbl (Cond.selects "TypeChainModel" ({ cls := "TypeChainModel", name := "twice", desc := "(I)I" } : MethodName) ({ cls := "TypeChainModel", name := "twice", desc := "(I)I" } : MethodName)) := ⟨ztin6 (List.mem_of_getElem? (i := 129) rfl), rfl⟩
theorem q_1330 : zTbl (Cond.code ({ cls := "TypeChainModel", name := "twice", desc := "(I)I" } : MethodName) prog_12_method_68_code (7 : Nat) (Option.some FieldType.int)) := ⟨ztin6 (List.mem_of_getElem? (i := 130) rfl), rfl⟩
theorem q_1331 : zTbl (Cond.constant "TypeChainModel" (357 : Nat) (-1000000 : Int32)) := ⟨ztin6 (List.mem_of_getElem? (i := 131) rfl), rfl⟩
theorem q_1332 : zTbl (Cond.constant "TypeChainModel" (358 : Nat) (-1000002 : Int32)) := ⟨ztin6 (List.mem_of_getElem? (i := 132) rfl), rfl⟩
theorem q_1333 : zTbl (Cond.constant "TypeChainModel" (359 : Nat) (-1000004 : Int32)) := ⟨ztin6 (List.mem_of_getElem? (i := 133) rfl), rfl⟩
theorem q_1334 : zTbl (Cond.methodLink "TypeChainLaw" (131 : Nat) ({ cls := "TypeChainModel", name := "sheet", desc := "(III)I" } : MethodName)) := ⟨ztin6 (List.mem_of_getElem? (i := 134) rfl), rfl⟩
theorem q_1335 : zTbl (Cond.instanceMethod ({ cls := "TypeChainModel", name := "sheet", desc := "(III)I" } : MethodName)) := ⟨ztin6 (List.mem_of_getElem? (i := 135) rfl), rfl⟩
theorem q_1336 : zTbl (Cond.selects "TypeChainModel" ({ cls := "TypeChainModel", name := "sheet", desc := "(III)I" } : MethodName) ({ cls := "TypeChainModel", name := "sheet", desc := "(III)I" } : MethodName)) := ⟨ztin6 (List.mem_of_getElem? (i := 136) rfl), rfl⟩
theorem q_1337 : zTbl (Cond.code ({ cls := "TypeChainModel", name := "sheet", desc := "(III)I" } : MethodName) prog_12_method_70_code (5 : Nat) (Option.some FieldType.int)) := ⟨ztin6 (List.mem_of_getElem? (i := 137) rfl), rfl⟩
theorem q_1338 : zTbl (Cond.methodLink "TypeChainModel" (362 : Nat) ({ cls := "TypeChainModel", name := "isSheet", desc := "(II)Z" } : MethodName)) := ⟨ztin6 (List.mem_of_getElem? (i := 138) rfl), rfl⟩
theorem q_1339 : zTbl (Cond.static ({ cls := "TypeChainModel", name := "isSheet", desc := "(II)Z" } : MethodName)) := ⟨ztin6 (List.mem_of_getElem? (i := 139) rfl), rfl⟩
theorem q_1340 : zTbl (Cond.code ({ cls := "TypeChainModel", name := "isSheet", desc := "(II)Z" } : MethodName) prog_12_method_69_code (2 : Nat) (Option.some FieldType.boolean)) := ⟨ztin6 (List.mem_of_getElem? (i := 140) rfl), rfl⟩
theorem q_1341 : zTbl (Cond.constantLong "TypeChainModel" (360 : Nat) (3 : Int64)) := ⟨ztin6 (List.mem_of_getElem? (i := 141) rfl), rfl⟩
theorem q_1342 : zTbl (Cond.methodLink "TypeChainLaw" (135 : Nat) ({ cls := "TypeChainModel", name := "lay", desc := "(III)I" } : MethodName)) := ⟨ztin6 (List.mem_of_getElem? (i := 142) rfl), rfl⟩
theorem q_1343 : zTbl (Cond.instanceMethod ({ cls := "TypeChainModel", name := "lay", desc := "(III)I" } : MethodName)) := ⟨ztin6 (List.mem_of_getElem? (i := 143) rfl), rfl⟩
theorem q_1344 : zTbl (Cond.selects "TypeChainModel" ({ cls := "TypeChainModel", name := "lay", desc := "(III)I" } : MethodName) ({ cls := "TypeChainModel", name := "lay", desc := "(III)I" } : MethodName)) := ⟨ztin6 (List.mem_of_getElem? (i := 144) rfl), rfl⟩
theorem q_1345 : zTbl (Cond.code ({ cls := "TypeChainModel", name := "lay", desc := "(III)I" } : MethodName) prog_12_method_71_code (4 : Nat) (Option.some FieldType.int)) := ⟨ztin6 (List.mem_of_getElem? (i := 145) rfl), rfl⟩
theorem q_1346 : zTbl (Cond.methodLink "TypeChainLaw" (139 : Nat) ({ cls := "TypeChainModel", name := "read", desc := "(III)I" } : MethodName)) := ⟨ztin6 (List.mem_of_getElem? (i := 146) rfl), rfl⟩
theorem q_1347 : zTbl (Cond.instanceMethod ({ cls := "TypeChainModel", name := "read", desc := "(III)I" } : MethodName)) := ⟨ztin6 (List.mem_of_getElem? (i := 147) rfl), rfl⟩
theorem q_1348 : zTbl (Cond.selects "TypeChainModel" ({ cls := "TypeChainModel", name := "read", desc := "(III)I" } : MethodName) ({ cls := "TypeChainModel", name := "read", desc := "(III)I" } : MethodName)) := ⟨ztin6 (List.mem_of_getElem? (i := 148) rfl), rfl⟩
theorem q_1349 : zTbl (Cond.code ({ cls := "TypeChainModel", name := "read", desc := "(III)I" } : MethodName) prog_12_method_73_code (7 : Nat) (Option.some FieldType.int)) := ⟨ztin6 (List.mem_of_getElem? (i := 149) rfl), rfl⟩
theorem q_1350 : zTbl (Cond.methodLink "TypeChainModel" (365 : Nat) ({ cls := "TypeChainModel", name := "lettersNow", desc := "()I" } : MethodName)) := ⟨ztin6 (List.mem_of_getElem? (i := 150) rfl), rfl⟩
theorem q_1351 : Cond.privateMethod ({ cls := "TypeChainModel", name := "lettersNow", desc := "()I" } : MethodName) ∈ lw_tbl := ztin6 (List.mem_of_getElem? (i := 151) rfl)
theorem q_1352 : zTbl (Cond.instanceMethod ({ cls := "TypeChainModel", name := "lettersNow", desc := "()I" } : MethodName)) := ⟨ztin6 (List.mem_of_getElem? (i := 152) rfl), rfl⟩
theorem q_1353 : zTbl (Cond.code ({ cls := "TypeChainModel", name := "lettersNow", desc := "()I" } : MethodName) prog_12_method_72_code (3 : Nat) (Option.some FieldType.int)) := ⟨ztin6 (List.mem_of_getElem? (i := 153) rfl), rfl⟩
theorem q_1354 : zTbl (Cond.methodLink "TypeChainLaw" (143 : Nat) ({ cls := "TypeChainModel", name := "count", desc := "(I)I" } : MethodName)) := ⟨ztin6 (List.mem_of_getElem? (i := 154) rfl), rfl⟩
theorem q_1355 : zTbl (Cond.instanceMethod ({ cls := "TypeChainModel", name := "count", desc := "(I)I" } : MethodName)) := ⟨ztin6 (List.mem_of_getElem? (i := 155) rfl), rfl⟩
theorem q_1356 : zTbl (Cond.selects "TypeChainModel" ({ cls := "TypeChainModel", name := "count", desc := "(I)I" } : MethodName) ({ cls := "TypeChainModel", name := "count", desc := "(I)I" } : MethodName)) := ⟨ztin6 (List.mem_of_getElem? (i := 156) rfl), rfl⟩
theorem q_1357 : zTbl (Cond.code ({ cls := "TypeChainModel", name := "count", desc := "(I)I" } : MethodName) prog_12_method_74_code (5 : Nat) (Option.some FieldType.int)) := ⟨ztin6 (List.mem_of_getElem? (i := 157) rfl), rfl⟩
theorem q_1358 : zTbl (Cond.methodLink "TypeChainModel" (368 : Nat) ({ cls := "TypeChainModel", name := "countOf", desc := "(I)I" } : MethodName)) := ⟨ztin6 (List.mem_of_getElem? (i := 158) rfl), rfl⟩
theorem q_1359 : zTbl (Cond.static ({ cls := "TypeChainModel", name := "countOf", desc := "(I)I" } : MethodName)) := ⟨ztin6 (List.mem_of_getElem? (i := 159) rfl), rfl⟩
theorem q_1360 : zTbl (Cond.code ({ cls := "TypeChainModel", name := "countOf", desc := "(I)I" } : MethodName) prog_12_method_4_code (3 : Nat) (Option.some FieldType.int)) := ⟨ztin6 (List.mem_of_getElem? (i := 160) rfl), rfl⟩
theorem q_1361 : zTbl (Cond.constantLong "TypeChainLaw" (13 : Nat) (4294967295 : Int64)) := ⟨ztin6 (List.mem_of_getElem? (i := 161) rfl), rfl⟩
theorem q_1362 : zTbl (Cond.fieldLink "java/lang/String" (15 : Nat) "java/lang/String" "coder" "B") := ⟨ztin6 (List.mem_of_getElem? (i := 162) rfl), rfl⟩
theorem q_1363 : zTbl (Cond.fieldLink "java/lang/String" (9 : Nat) "java/lang/String" "value" "[B") := ⟨ztin6 (List.mem_of_getElem? (i := 163) rfl), rfl⟩
theorem q_1364 : zTbl (Cond.selects "TypeChain$Reader" ({ cls := "TypeChain$Reader", name := "nextToken", desc := "()Z" } : MethodName) ({ cls := "TypeChain$Reader", name := "nextToken", desc := "()Z" } : MethodName)) := ⟨ztinp (List.mem_of_getElem? (i := 0) rfl), rfl⟩
theorem q_1365 : zTbl (Cond.selects "TypeChain$Reader" ({ cls := "TypeChain$Reader", name := "fail", desc := "(II)Z" } : MethodName) ({ cls := "TypeChain$Reader", name := "fail", desc := "(II)Z" } : MethodName)) := ⟨ztinp (List.mem_of_getElem? (i := 1) rfl), rfl⟩
theorem q_1366 : zTbl (Cond.selects "TypeChain$Reader" ({ cls := "TypeChain$Reader", name := "lookBehindAll", desc := "(LTypeChain$Rules;)Z" } : MethodName) ({ cls := "TypeChain$Reader", name := "lookBehindAll", desc := "(LTypeChain$Rules;)Z" } : MethodName)) := ⟨ztinp (List.mem_of_getElem? (i := 2) rfl), rfl⟩
theorem q_1367 : zTbl (Cond.selects "TypeChain$Reader" ({ cls := "TypeChain$Reader", name := "readLine", desc := "(LTypeChain$Rules;)Z" } : MethodName) ({ cls := "TypeChain$Reader", name := "readLine", desc := "(LTypeChain$Rules;)Z" } : MethodName)) := ⟨ztinp (List.mem_of_getElem? (i := 3) rfl), rfl⟩
theorem q_1368 : zTbl (Cond.selects "TypeChain$Reader" ({ cls := "TypeChain$Reader", name := "wordOfToken", desc := "()I" } : MethodName) ({ cls := "TypeChain$Reader", name := "wordOfToken", desc := "()I" } : MethodName)) := ⟨ztinp (List.mem_of_getElem? (i := 4) rfl), rfl⟩
theorem q_1369 : zTbl (Cond.selects "TypeChain$Reader" ({ cls := "TypeChain$Reader", name := "isWord", desc := "(II)Z" } : MethodName) ({ cls := "TypeChain$Reader", name := "isWord", desc := "(II)Z" } : MethodName)) := ⟨ztinp (List.mem_of_getElem? (i := 5) rfl), rfl⟩
theorem q_1370 : zTbl (Cond.selects "TypeChain$Reader" ({ cls := "TypeChain$Reader", name := "readChain", desc := "(LTypeChain$Chain;)Z" } : MethodName) ({ cls := "TypeChain$Reader", name := "readChain", desc := "(LTypeChain$Chain;)Z" } : MethodName)) := ⟨ztinp (List.mem_of_getElem? (i := 6) rfl), rfl⟩
theorem q_1371 : zTbl (Cond.selects "TypeChain$Reader" ({ cls := "TypeChain$Reader", name := "take", desc := "(I)Z" } : MethodName) ({ cls := "TypeChain$Reader", name := "take", desc := "(I)Z" } : MethodName)) := ⟨ztinp (List.mem_of_getElem? (i := 7) rfl), rfl⟩
theorem q_1372 : zTbl (Cond.selects "TypeChain$Reader" ({ cls := "TypeChain$Reader", name := "letterAt", desc := "(I)I" } : MethodName) ({ cls := "TypeChain$Reader", name := "letterAt", desc := "(I)I" } : MethodName)) := ⟨ztinp (List.mem_of_getElem? (i := 8) rfl), rfl⟩
theorem q_1373 : zTbl (Cond.selects "TypeChain$Reader" ({ cls := "TypeChain$Reader", name := "readHole", desc := "([I)Z" } : MethodName) ({ cls := "TypeChain$Reader", name := "readHole", desc := "([I)Z" } : MethodName)) := ⟨ztinp (List.mem_of_getElem? (i := 9) rfl), rfl⟩
theorem q_1374 : zTbl (Cond.selects "TypeChain$Reader" ({ cls := "TypeChain$Reader", name := "takeNumber", desc := "(II)Z" } : MethodName) ({ cls := "TypeChain$Reader", name := "takeNumber", desc := "(II)Z" } : MethodName)) := ⟨ztinp (List.mem_of_getElem? (i := 10) rfl), rfl⟩
theorem q_1375 : zTbl (Cond.selects "TypeChain$Reader" ({ cls := "TypeChain$Reader", name := "lookLater", desc := "(II)V" } : MethodName) ({ cls := "TypeChain$Reader", name := "lookLater", desc := "(II)V" } : MethodName)) := ⟨ztinp (List.mem_of_getElem? (i := 11) rfl), rfl⟩
theorem q_1376 : zTbl (Cond.selects "TypeChain$Reader" ({ cls := "TypeChain$Reader", name := "readPut", desc := "(LTypeChain$Program;)Z" } : MethodName) ({ cls := "TypeChain$Reader", name := "readPut", desc := "(LTypeChain$Program;)Z" } : MethodName)) := ⟨ztinp (List.mem_of_getElem? (i := 12) rfl), rfl⟩
theorem q_1377 : zTbl (Cond.selects "TypeChain$Reader" ({ cls := "TypeChain$Reader", name := "readNumbered", desc := "(ILTypeChain$Rules;)Z" } : MethodName) ({ cls := "TypeChain$Reader", name := "readNumbered", desc := "(ILTypeChain$Rules;)Z" } : MethodName)) := ⟨ztinp (List.mem_of_getElem? (i := 13) rfl), rfl⟩
theorem q_1378 : zTbl (Cond.selects "TypeChain" ({ cls := "TypeChain", name := "takeRules", desc := "()V" } : MethodName) ({ cls := "TypeChain", name := "takeRules", desc := "()V" } : MethodName)) := ⟨ztinp (List.mem_of_getElem? (i := 14) rfl), rfl⟩
theorem q_1379 : zTbl (Cond.selects "TypeChain" ({ cls := "TypeChain", name := "isRow", desc := "(I)Z" } : MethodName) ({ cls := "TypeChain", name := "isRow", desc := "(I)Z" } : MethodName)) := ⟨ztinp (List.mem_of_getElem? (i := 15) rfl), rfl⟩
theorem q_1380 : zTbl (Cond.selects "TypeChain" ({ cls := "TypeChain", name := "isColumn", desc := "(I)Z" } : MethodName) ({ cls := "TypeChain", name := "isColumn", desc := "(I)Z" } : MethodName)) := ⟨ztinp (List.mem_of_getElem? (i := 16) rfl), rfl⟩
theorem q_1381 : zTbl (Cond.selects "TypeChain$Strike" ({ cls := "TypeChain$Strike", name := "gather", desc := "(LTypeChain$Chain;[III)V" } : MethodName) ({ cls := "TypeChain$Strike", name := "gather", desc := "(LTypeChain$Chain;[III)V" } : MethodName)) := ⟨ztinp (List.mem_of_getElem? (i := 17) rfl), rfl⟩
theorem q_1382 : zTbl (Cond.selects "TypeChain$Strike" ({ cls := "TypeChain$Strike", name := "earliestDue", desc := "()I" } : MethodName) ({ cls := "TypeChain$Strike", name := "earliestDue", desc := "()I" } : MethodName)) := ⟨ztinp (List.mem_of_getElem? (i := 18) rfl), rfl⟩
theorem q_1383 : zTbl (Cond.selects "TypeChain$Strike" ({ cls := "TypeChain$Strike", name := "strikeAt", desc := "(II)V" } : MethodName) ({ cls := "TypeChain$Strike", name := "strikeAt", desc := "(II)V" } : MethodName)) := ⟨ztinp (List.mem_of_getElem? (i := 19) rfl), rfl⟩
theorem q_1384 : zTbl (Cond.selects "TypeChain$Printer" ({ cls := "TypeChain$Printer", name := "markPage", desc := "()V" } : MethodName) ({ cls := "TypeChain$Printer", name := "markPage", desc := "()V" } : MethodName)) := ⟨ztinp (List.mem_of_getElem? (i := 20) rfl), rfl⟩
theorem q_1385 : zTbl (Cond.selects "TypeChain$Printer" ({ cls := "TypeChain$Printer", name := "fillLine", desc := "(LTypeChain$Program;I)V" } : MethodName) ({ cls := "TypeChain$Printer", name := "fillLine", desc := "(LTypeChain$Program;I)V" } : MethodName)) := ⟨ztinp (List.mem_of_getElem? (i := 21) rfl), rfl⟩
theorem q_1386 : zTbl (Cond.selects "TypeChain$Chain" ({ cls := "TypeChain$Chain", name := "swapLetters", desc := "(II)V" } : MethodName) ({ cls := "TypeChain$Chain", name := "swapLetters", desc := "(II)V" } : MethodName)) := ⟨ztinp (List.mem_of_getElem? (i := 22) rfl), rfl⟩
theorem q_1387 : zTbl (Cond.selects "TypeChain$Trials" ({ cls := "TypeChain$Trials", name := "ticksOfRun", desc := "(LTypeChain$Rules;)I" } : MethodName) ({ cls := "TypeChain$Trials", name := "ticksOfRun", desc := "(LTypeChain$Rules;)I" } : MethodName)) := ⟨ztinp (List.mem_of_getElem? (i := 23) rfl), rfl⟩
theorem q_1388 : zTbl (Cond.selects "TypeChain$Trials" ({ cls := "TypeChain$Trials", name := "keepOrder", desc := "(I)V" } : MethodName) ({ cls := "TypeChain$Trials", name := "keepOrder", desc := "(I)V" } : MethodName)) := ⟨ztinp (List.mem_of_getElem? (i := 24) rfl), rfl⟩
theorem q_1389 : zTbl (Cond.selects "TypeChainModel" ({ cls := "TypeChainModel", name := "firstDraft", desc := "()V" } : MethodName) ({ cls := "TypeChainModel", name := "firstDraft", desc := "()V" } : MethodName)) := ⟨ztinp (List.mem_of_getElem? (i := 25) rfl), rfl⟩
theorem q_1390 : zTbl (Cond.selects "TypeChainModel" ({ cls := "TypeChainModel", name := "keepDraft", desc := "()V" } : MethodName) ({ cls := "TypeChainModel", name := "keepDraft", desc := "()V" } : MethodName)) := ⟨ztinp (List.mem_of_getElem? (i := 26) rfl), rfl⟩
theorem q_1391 : zTbl (Cond.selects "TypeChainModel" ({ cls := "TypeChainModel", name := "begins", desc := "()V" } : MethodName) ({ cls := "TypeChainModel", name := "begins", desc := "()V" } : MethodName)) := ⟨ztinp (List.mem_of_getElem? (i := 27) rfl), rfl⟩
theorem q_1392 : zTbl (Cond.selects "TypeChainModel" ({ cls := "TypeChainModel", name := "blankPage", desc := "()V" } : MethodName) ({ cls := "TypeChainModel", name := "blankPage", desc := "()V" } : MethodName)) := ⟨ztinp (List.mem_of_getElem? (i := 28) rfl), rfl⟩
theorem q_1393 : zTbl (Cond.selects "TypeChainModel" ({ cls := "TypeChainModel", name := "next", desc := "()V" } : MethodName) ({ cls := "TypeChainModel", name := "next", desc := "()V" } : MethodName)) := ⟨ztinp (List.mem_of_getElem? (i := 29) rfl), rfl⟩
theorem q_1394 : zTbl (Cond.selects "TypeChainModel" ({ cls := "TypeChainModel", name := "look", desc := "(I)I" } : MethodName) ({ cls := "TypeChainModel", name := "look", desc := "(I)I" } : MethodName)) := ⟨ztinp (List.mem_of_getElem? (i := 30) rfl), rfl⟩
theorem q_1395 : zTbl (Cond.selects "TypeChainModel" ({ cls := "TypeChainModel", name := "wants", desc := "(ZI)V" } : MethodName) ({ cls := "TypeChainModel", name := "wants", desc := "(ZI)V" } : MethodName)) := ⟨ztinp (List.mem_of_getElem? (i := 31) rfl), rfl⟩
theorem q_1396 : zTbl (Cond.selects "TypeChainModel" ({ cls := "TypeChainModel", name := "readLine", desc := "()V" } : MethodName) ({ cls := "TypeChainModel", name := "readLine", desc := "()V" } : MethodName)) := ⟨ztinp (List.mem_of_getElem? (i := 32) rfl), rfl⟩
theorem q_1397 : zTbl (Cond.selects "TypeChainModel" ({ cls := "TypeChainModel", name := "nameNow", desc := "()I" } : MethodName) ({ cls := "TypeChainModel", name := "nameNow", desc := "()I" } : MethodName)) := ⟨ztinp (List.mem_of_getElem? (i := 33) rfl), rfl⟩
theorem q_1398 : zTbl (Cond.selects "TypeChainModel" ({ cls := "TypeChainModel", name := "is", desc := "(IIIII)Z" } : MethodName) ({ cls := "TypeChainModel", name := "is", desc := "(IIIII)Z" } : MethodName)) := ⟨ztinp (List.mem_of_getElem? (i := 34) rfl), rfl⟩
theorem q_1399 : zTbl (Cond.selects "TypeChainModel" ({ cls := "TypeChainModel", name := "ends2", desc := "(II)Z" } : MethodName) ({ cls := "TypeChainModel", name := "ends2", desc := "(II)Z" } : MethodName)) := ⟨ztinp (List.mem_of_getElem? (i := 35) rfl), rfl⟩
theorem q_1400 : zTbl (Cond.selects "TypeChainModel" ({ cls := "TypeChainModel", name := "readChain", desc := "()V" } : MethodName) ({ cls := "TypeChainModel", name := "readChain", desc := "()V" } : MethodName)) := ⟨ztinp (List.mem_of_getElem? (i := 36) rfl), rfl⟩
theorem q_1401 : zTbl (Cond.selects "TypeChainModel" ({ cls := "TypeChainModel", name := "toLetters", desc := "()V" } : MethodName) ({ cls := "TypeChainModel", name := "toLetters", desc := "()V" } : MethodName)) := ⟨ztinp (List.mem_of_getElem? (i := 37) rfl), rfl⟩
theorem q_1402 : zTbl (Cond.selects "TypeChainModel" ({ cls := "TypeChainModel", name := "readNumber", desc := "(II)I" } : MethodName) ({ cls := "TypeChainModel", name := "readNumber", desc := "(II)I" } : MethodName)) := ⟨ztinp (List.mem_of_getElem? (i := 38) rfl), rfl⟩
theorem q_1403 : zTbl (Cond.selects "TypeChainModel" ({ cls := "TypeChainModel", name := "readHole", desc := "()V" } : MethodName) ({ cls := "TypeChainModel", name := "readHole", desc := "()V" } : MethodName)) := ⟨ztinp (List.mem_of_getElem? (i := 39) rfl), rfl⟩
theorem q_1404 : zTbl (Cond.selects "TypeChainModel" ({ cls := "TypeChainModel", name := "asksLater", desc := "(II)V" } : MethodName) ({ cls := "TypeChainModel", name := "asksLater", desc := "(II)V" } : MethodName)) := ⟨ztinp (List.mem_of_getElem? (i := 40) rfl), rfl⟩
theorem q_1405 : zTbl (Cond.selects "TypeChainModel" ({ cls := "TypeChainModel", name := "readOrder", desc := "(I)V" } : MethodName) ({ cls := "TypeChainModel", name := "readOrder", desc := "(I)V" } : MethodName)) := ⟨ztinp (List.mem_of_getElem? (i := 41) rfl), rfl⟩
theorem q_1406 : zTbl (Cond.selects "TypeChainModel" ({ cls := "TypeChainModel", name := "isColumn", desc := "(I)Z" } : MethodName) ({ cls := "TypeChainModel", name := "isColumn", desc := "(I)Z" } : MethodName)) := ⟨ztinp (List.mem_of_getElem? (i := 42) rfl), rfl⟩
theorem q_1407 : zTbl (Cond.selects "TypeChainModel" ({ cls := "TypeChainModel", name := "letterAt", desc := "(II)I" } : MethodName) ({ cls := "TypeChainModel", name := "letterAt", desc := "(II)I" } : MethodName)) := ⟨ztinp (List.mem_of_getElem? (i := 43) rfl), rfl⟩
theorem q_1408 : zTbl (Cond.selects "TypeChainModel" ({ cls := "TypeChainModel", name := "slugAt", desc := "(II)I" } : MethodName) ({ cls := "TypeChainModel", name := "slugAt", desc := "(II)I" } : MethodName)) := ⟨ztinp (List.mem_of_getElem? (i := 44) rfl), rfl⟩
theorem q_1409 : zTbl (Cond.selects "TypeChainModel" ({ cls := "TypeChainModel", name := "has", desc := "(I)Z" } : MethodName) ({ cls := "TypeChainModel", name := "has", desc := "(I)Z" } : MethodName)) := ⟨ztinp (List.mem_of_getElem? (i := 45) rfl), rfl⟩
theorem q_1410 : zTbl (Cond.selects "TypeChainModel" ({ cls := "TypeChainModel", name := "comesBy", desc := "(III)I" } : MethodName) ({ cls := "TypeChainModel", name := "comesBy", desc := "(III)I" } : MethodName)) := ⟨ztinp (List.mem_of_getElem? (i := 46) rfl), rfl⟩
theorem q_1411 : zTbl (Cond.selects "TypeChainModel" ({ cls := "TypeChainModel", name := "canGo", desc := "()Z" } : MethodName) ({ cls := "TypeChainModel", name := "canGo", desc := "()Z" } : MethodName)) := ⟨ztinp (List.mem_of_getElem? (i := 47) rfl), rfl⟩
theorem q_1412 : zTbl (Cond.selects "TypeChainModel" ({ cls := "TypeChainModel", name := "strikes", desc := "(I)I" } : MethodName) ({ cls := "TypeChainModel", name := "strikes", desc := "(I)I" } : MethodName)) := ⟨ztinp (List.mem_of_getElem? (i := 48) rfl), rfl⟩
theorem q_1413 : zTbl (Cond.selects "TypeChainModel" ({ cls := "TypeChainModel", name := "goes", desc := "()I" } : MethodName) ({ cls := "TypeChainModel", name := "goes", desc := "()I" } : MethodName)) := ⟨ztinp (List.mem_of_getElem? (i := 49) rfl), rfl⟩
theorem q_1414 : zTbl (Cond.selects "TypeChainModel" ({ cls := "TypeChainModel", name := "shows", desc := "(II)I" } : MethodName) ({ cls := "TypeChainModel", name := "shows", desc := "(II)I" } : MethodName)) := ⟨ztinp (List.mem_of_getElem? (i := 50) rfl), rfl⟩
theorem q_1415 : zTbl (Cond.selects "TypeChainModel" ({ cls := "TypeChainModel", name := "moves", desc := "(IZ)I" } : MethodName) ({ cls := "TypeChainModel", name := "moves", desc := "(IZ)I" } : MethodName)) := ⟨ztinp (List.mem_of_getElem? (i := 51) rfl), rfl⟩
theorem q_1416 : zTbl (Cond.selects "TypeChainModel" ({ cls := "TypeChainModel", name := "toHole", desc := "(I)I" } : MethodName) ({ cls := "TypeChainModel", name := "toHole", desc := "(I)I" } : MethodName)) := ⟨ztinp (List.mem_of_getElem? (i := 52) rfl), rfl⟩
theorem q_1417 : zTbl (Cond.selects "TypeChainModel" ({ cls := "TypeChainModel", name := "does", desc := "(IZ)Z" } : MethodName) ({ cls := "TypeChainModel", name := "does", desc := "(IZ)Z" } : MethodName)) := ⟨ztinp (List.mem_of_getElem? (i := 53) rfl), rfl⟩
theorem q_1418 : zTbl (Cond.selects "TypeChainModel" ({ cls := "TypeChainModel", name := "puts", desc := "(I)V" } : MethodName) ({ cls := "TypeChainModel", name := "puts", desc := "(I)V" } : MethodName)) := ⟨ztinp (List.mem_of_getElem? (i := 54) rfl), rfl⟩
theorem q_1419 : zTbl (Cond.selects "TypeChainModel" ({ cls := "TypeChainModel", name := "keepChain", desc := "()V" } : MethodName) ({ cls := "TypeChainModel", name := "keepChain", desc := "()V" } : MethodName)) := ⟨ztinp (List.mem_of_getElem? (i := 55) rfl), rfl⟩
theorem q_1420 : zTbl (Cond.selects "TypeChainModel" ({ cls := "TypeChainModel", name := "swaps", desc := "(II)V" } : MethodName) ({ cls := "TypeChainModel", name := "swaps", desc := "(II)V" } : MethodName)) := ⟨ztinp (List.mem_of_getElem? (i := 56) rfl), rfl⟩
theorem q_1421 : zTbl (Cond.selects "TypeChainModel" ({ cls := "TypeChainModel", name := "tries", desc := "()I" } : MethodName) ({ cls := "TypeChainModel", name := "tries", desc := "()I" } : MethodName)) := ⟨ztinp (List.mem_of_getElem? (i := 57) rfl), rfl⟩
theorem q_1422 : zTbl (Cond.selects "TypeChainModel" ({ cls := "TypeChainModel", name := "goesOn", desc := "()Z" } : MethodName) ({ cls := "TypeChainModel", name := "goesOn", desc := "()Z" } : MethodName)) := ⟨ztinp (List.mem_of_getElem? (i := 58) rfl), rfl⟩
theorem q_1423 : zTbl (Cond.selects "TypeChainModel" ({ cls := "TypeChainModel", name := "chainAgain", desc := "()V" } : MethodName) ({ cls := "TypeChainModel", name := "chainAgain", desc := "()V" } : MethodName)) := ⟨ztinp (List.mem_of_getElem? (i := 59) rfl), rfl⟩
theorem q_1424 : zTbl (Cond.selects "TypeChainModel" ({ cls := "TypeChainModel", name := "lettersNow", desc := "()I" } : MethodName) ({ cls := "TypeChainModel", name := "lettersNow", desc := "()I" } : MethodName)) := ⟨ztinp (List.mem_of_getElem? (i := 60) rfl), rfl⟩
theorem zTbl_u {C : String} {T : u_T} {N : Nat} (h : ∀ k, k < N → zTbl (u_lay C T k)) : ∀ w ∈ u_ws C T N, zTbl w := by
  intro w hw
  obtain ⟨k, hk, rfl⟩ := List.mem_map.mp hw
  exact h k (List.mem_range.mp hk)
theorem inZ0 : ∀ w ∈ wsX00, zTbl w := zTbl_u (fun k hk => by
  match k, hk with
  | 0, _ => exact q_57
  | 1, _ => exact q_59
  | 2, _ => exact q_61
  | 3, _ => exact q_63
  | k + 4, h => exact absurd h (by omega))
theorem inZ1 : ∀ w ∈ wsX10, zTbl w := zTbl_u (fun k hk => by
  match k, hk with
  | 0, _ => exact q_224
  | 1, _ => exact q_226
  | k + 2, h => exact absurd h (by omega))
theorem inZ2 : ∀ w ∈ wsX20, zTbl w := zTbl_u (fun k hk => by
  match k, hk with
  | 0, _ => exact q_302
  | 1, _ => exact q_304
  | 2, _ => exact q_306
  | 3, _ => exact q_308
  | 4, _ => exact q_310
  | 5, _ => exact q_312
  | 6, _ => exact q_314
  | 7, _ => exact q_316
  | 8, _ => exact q_318
  | k + 9, h => exact absurd h (by omega))
theorem inZ3 : ∀ w ∈ wsX30, zTbl w := zTbl_u (fun k hk => by
  match k, hk with
  | 0, _ => exact q_90
  | 1, _ => exact q_92
  | 2, _ => exact q_94
  | 3, _ => exact q_96
  | 4, _ => exact q_98
  | 5, _ => exact q_100
  | 6, _ => exact q_102
  | k + 7, h => exact absurd h (by omega))
theorem inZ4 : ∀ w ∈ wsX40, zTbl w := zTbl_u (fun k hk => by
  match k, hk with
  | 0, _ => exact q_184
  | 1, _ => exact q_186
  | 2, _ => exact q_188
  | 3, _ => exact q_190
  | 4, _ => exact q_192
  | 5, _ => exact q_194
  | 6, _ => exact q_196
  | 7, _ => exact q_198
  | 8, _ => exact q_200
  | 9, _ => exact q_202
  | 10, _ => exact q_204
  | 11, _ => exact q_206
  | 12, _ => exact q_208
  | 13, _ => exact q_210
  | k + 14, h => exact absurd h (by omega))
theorem inZ5 : ∀ w ∈ wsX50, zTbl w := zTbl_u (fun k hk => by
  match k, hk with
  | 0, _ => exact q_151
  | 1, _ => exact q_153
  | 2, _ => exact q_155
  | 3, _ => exact q_157
  | k + 4, h => exact absurd h (by omega))
theorem inZ6 : ∀ w ∈ wsX60, zTbl w := zTbl_u (fun k hk => by
  match k, hk with
  | 0, _ => exact q_377
  | 1, _ => exact q_379
  | 2, _ => exact q_381
  | k + 3, h => exact absurd h (by omega))
theorem inZ7 : ∀ w ∈ wsX70, zTbl w := zTbl_u (fun k hk => by
  match k, hk with
  | 0, _ => exact q_257
  | 1, _ => exact q_259
  | 2, _ => exact q_261
  | 3, _ => exact q_263
  | 4, _ => exact q_265
  | 5, _ => exact q_267
  | 6, _ => exact q_269
  | 7, _ => exact q_271
  | 8, _ => exact q_273
  | k + 9, h => exact absurd h (by omega))
theorem inZ8 : ∀ w ∈ wsX80, zTbl w := zTbl_u (fun k hk => by
  match k, hk with
  | 0, _ => exact q_346
  | 1, _ => exact q_348
  | 2, _ => exact q_350
  | 3, _ => exact q_352
  | 4, _ => exact q_354
  | 5, _ => exact q_356
  | 6, _ => exact q_358
  | 7, _ => exact q_360
  | 8, _ => exact q_362
  | k + 9, h => exact absurd h (by omega))
theorem inZ9 : ∀ w ∈ wsX90, zTbl w := zTbl_u (fun k hk => by
  match k, hk with
  | 0, _ => exact q_395
  | 1, _ => exact q_397
  | 2, _ => exact q_399
  | 3, _ => exact q_401
  | 4, _ => exact q_403
  | 5, _ => exact q_405
  | 6, _ => exact q_407
  | 7, _ => exact q_409
  | 8, _ => exact q_411
  | 9, _ => exact q_413
  | 10, _ => exact q_415
  | k + 11, h => exact absurd h (by omega))
theorem inZ10 : ∀ w ∈ wsX100, zTbl w := zTbl_u (fun k hk => by
  match k, hk with
  | 0, _ => exact q_949
  | 1, _ => exact q_951
  | 2, _ => exact q_953
  | 3, _ => exact q_955
  | 4, _ => exact q_957
  | 5, _ => exact q_959
  | 6, _ => exact q_961
  | 7, _ => exact q_963
  | 8, _ => exact q_965
  | 9, _ => exact q_967
  | 10, _ => exact q_969
  | 11, _ => exact q_971
  | 12, _ => exact q_973
  | 13, _ => exact q_975
  | 14, _ => exact q_977
  | 15, _ => exact q_979
  | 16, _ => exact q_981
  | 17, _ => exact q_983
  | 18, _ => exact q_985
  | 19, _ => exact q_987
  | 20, _ => exact q_989
  | 21, _ => exact q_991
  | 22, _ => exact q_993
  | 23, _ => exact q_995
  | 24, _ => exact q_997
  | 25, _ => exact q_999
  | 26, _ => exact q_1001
  | 27, _ => exact q_1003
  | 28, _ => exact q_1005
  | 29, _ => exact q_1007
  | 30, _ => exact q_1009
  | 31, _ => exact q_1011
  | 32, _ => exact q_1013
  | 33, _ => exact q_1015
  | 34, _ => exact q_1017
  | 35, _ => exact q_1019
  | 36, _ => exact q_1021
  | 37, _ => exact q_1023
  | 38, _ => exact q_1025
  | 39, _ => exact q_1027
  | 40, _ => exact q_1029
  | 41, _ => exact q_1031
  | 42, _ => exact q_1033
  | 43, _ => exact q_1035
  | 44, _ => exact q_1037
  | 45, _ => exact q_1039
  | 46, _ => exact q_1041
  | 47, _ => exact q_1043
  | 48, _ => exact q_1045
  | 49, _ => exact q_1047
  | 50, _ => exact q_1049
  | 51, _ => exact q_1051
  | 52, _ => exact q_1053
  | 53, _ => exact q_1055
  | 54, _ => exact q_1057
  | 55, _ => exact q_1059
  | 56, _ => exact q_1061
  | 57, _ => exact q_1063
  | 58, _ => exact q_1065
  | 59, _ => exact q_1067
  | 60, _ => exact q_1069
  | k + 61, h => exact absurd h (by omega))
end
section
-- ===== the typed heap: ints, references, longs by address and place; what stands at an address is said by a table =====
abbrev zG : Type := (Nat → Nat → Int32) × (Nat → Nat → Nat) × (Nat → Nat → Int64)
abbrev zS : Type := (FieldType × Nat) ⊕ Nat
abbrev zT : Type := Nat → Option zS
abbrev zE : Type := Program × Launch × Env × Room × State × MethodId × Array Value × List Frame × Method × Code
abbrev zD : Type := (Nat → ClassId) × (Nat → Nat → Nat) × (FieldType → ClassId) × (Nat → Nat)
abbrev zC : Type := Nat × zT × Nat × Nat
def zu {α : Type} (f : Nat → Nat → α) (a k : Nat) (x : α) : Nat → Nat → α := fun b j => if b = a ∧ j = k then x else f b j
def zsi (g : zG) (a k : Nat) (x : Int32) : zG := (zu g.1 a k x, g.2)
def zsr (g : zG) (a k : Nat) (x : Nat) : zG := (g.1, zu g.2.1 a k x, g.2.2)
def zsl (g : zG) (a k : Nat) (x : Int64) : zG := (g.1, g.2.1, zu g.2.2 a k x)
def zref (r : Nat) : Value := if r = 0 then .null else .ref r
def zv (ty : FieldType) (g : zG) (a k : Nat) : Value := match ty with
  | .long => .long (g.2.2 a k)
  | .object _ => zref (g.2.1 a k)
  | .array _ => zref (g.2.1 a k)
  | _ => .int (g.1 a k)
def zty (ci : Nat) : Nat → FieldType := match ci with
  | 0 => tyX0
  | 1 => tyX1
  | 2 => tyX2
  | 3 => tyX3
  | 4 => tyX4
  | 5 => tyX5
  | 6 => tyX6
  | 7 => tyX7
  | 8 => tyX8
  | 9 => tyX9
  | _ => tyX10
/-- what a reference field always holds; kinds from 11 on are objects under construction: nothing is said -/
def zsh (ci k : Nat) : Option zS := match ci, k with
  | 0, 0 => some (.inl (FieldType.int, 48))
  | 1, 0 => some (.inl (FieldType.int, 2400))
  | 1, 1 => some (.inl (FieldType.int, 2400))
  | 2, 0 => some (.inl (FieldType.int, 40))
  | 24, 0 => some (.inl (FieldType.int, 40))
  | 2, 1 => some (.inr 7)
  | 24, 1 => some (.inr 7)
  | 2, 7 => some (.inr 5)
  | 2, 8 => some (.inr 0)
  | 3, 0 => some (.inl (FieldType.int, 24))
  | 3, 1 => some (.inl (FieldType.int, 24))
  | 3, 2 => some (.inl (FieldType.int, 24))
  | 3, 3 => some (.inl (FieldType.int, 24))
  | 3, 4 => some (.inl (FieldType.int, 240))
  | 4, 0 => some (.inl (FieldType.byte, 240))
  | 4, 10 => some (.inl (FieldType.int, 34))
  | 4, 11 => some (.inl (FieldType.int, 34))
  | 4, 12 => some (.inl (FieldType.int, 34))
  | 5, 0 => some (.inr 0)
  | 5, 1 => some (.inr 3)
  | 5, 2 => some (.inl (FieldType.int, 8))
  | 5, 3 => some (.inl (FieldType.int, 60))
  | 6, 0 => some (.inl (FieldType.int, 4))
  | 6, 1 => some (.inl (FieldType.int, 4))
  | 6, 2 => some (.inl (FieldType.int, 160))
  | 7, 0 => some (.inl (FieldType.int, 40))
  | 7, 1 => some (.inl (FieldType.int, 40))
  | 7, 6 => some (.inl (FieldType.int, 40))
  | 7, 7 => some (.inl (FieldType.int, 40))
  | 8, 0 => some (.inr 2)
  | 8, 1 => some (.inl (FieldType.int, 6))
  | 8, 6 => some (.inr 0)
  | 9, 0 => some (.inr 5)
  | 9, 1 => some (.inr 5)
  | 9, 2 => some (.inr 4)
  | 9, 3 => some (.inr 1)
  | 9, 4 => some (.inr 2)
  | 9, 5 => some (.inr 8)
  | 9, 6 => some (.inr 6)
  | 10, 1 => some (.inl (FieldType.int, 49))
  | 10, 2 => some (.inl (FieldType.int, 8))
  | 10, 3 => some (.inl (FieldType.int, 60))
  | 10, 5 => some (.inl (FieldType.int, 24))
  | 10, 6 => some (.inl (FieldType.int, 24))
  | 10, 7 => some (.inl (FieldType.int, 24))
  | 10, 8 => some (.inl (FieldType.int, 24))
  | 10, 9 => some (.inl (FieldType.int, 240))
  | 10, 11 => some (.inl (FieldType.int, 49))
  | 10, 12 => some (.inl (FieldType.int, 8))
  | 10, 13 => some (.inl (FieldType.int, 60))
  | 10, 16 => some (.inl (FieldType.int, 24))
  | 10, 17 => some (.inl (FieldType.int, 24))
  | 10, 18 => some (.inl (FieldType.int, 24))
  | 10, 19 => some (.inl (FieldType.int, 24))
  | 10, 21 => some (.inl (FieldType.int, 240))
  | 10, 22 => some (.inl (FieldType.boolean, 13))
  | 10, 24 => some (.inl (FieldType.int, 64))
  | 10, 25 => some (.inl (FieldType.int, 64))
  | 10, 26 => some (.inl (FieldType.int, 240))
  | 10, 37 => some (.inl (FieldType.int, 40))
  | 10, 38 => some (.inl (FieldType.int, 2400))
  | 10, 39 => some (.inl (FieldType.int, 2400))
  | 10, 40 => some (.inl (FieldType.int, 40))
  | 10, 41 => some (.inl (FieldType.int, 40))
  | 10, 42 => some (.inl (FieldType.boolean, 40))
  | 10, 48 => some (.inl (FieldType.int, 40))
  | 10, 49 => some (.inl (FieldType.int, 40))
  | 10, 50 => some (.inl (FieldType.int, 40))
  | 10, 55 => some (.inl (FieldType.int, 40))
  | 10, 56 => some (.inl (FieldType.int, 49))
  | 10, 57 => some (.inl (FieldType.int, 6))
  | 10, 58 => some (.inl (FieldType.int, 4))
  | 10, 59 => some (.inl (FieldType.int, 4))
  | 10, 60 => some (.inl (FieldType.int, 160))
  | _, _ => none
def zHeap (D : zD) (τ : zT) (g : zG) (H : Heap) : Prop :=
  (∀ a ty n, τ a = some (.inl (ty, n)) → H[a]? = some (vp_cell (D.2.2.1 ty) (n, .inl (g.1 a)))) ∧
  (∀ a ci, τ a = some (.inr ci) → ∃ r : vw_C, vwCl[ci % 11]? = some r ∧ t_OB a (D.1 (ci % 11)) r.2.2 (D.2.1 (ci % 11)) H (fun k => zv (zty (ci % 11) k) g a k))
def zWT (τ : zT) (g : zG) : Prop := τ 0 = none ∧ (∀ a ci, τ a = some (.inr ci) → ∀ k sh, zsh ci k = some sh → τ (g.2.1 a k) = some sh) ∧ ∀ a, (τ a = some (.inr 2) ∨ τ a = some (.inr 24)) → g.2.1 a 6 = 0 ∨ τ (g.2.1 a 6) = some (.inr 1)
def zA (τ : zT) (sz : Nat) : Nat → Prop := fun q => (∃ x, τ q = some x) ∨ sz ≤ q
def zKn (D : zD) (U : State) : Prop := (∀ (c : Nat) (q : vw_C), vwCl[c]? = some q → u_Kn U q.1 q.2.1 q.2.2 (D.1 c) (D.2.1 c)) ∧ ∀ ty ∈ [FieldType.int, FieldType.byte, FieldType.boolean], ArrOfT U (D.2.2.1 ty) ty ∧ va_RA U (D.2.2.1 ty) ty
def zLOW (j : Nat) : Int32 := ([0, 2, 1, 1, 1, 0, 1, 1, 0, 0, 0, 0, 0] : List Int32).getD j 0
def zHIGH (j : Nat) : Int32 := ([0, 6, 6, 40, 40, 20, 20, 60, 59, 39, 0, 9, 7] : List Int32).getD j 0
def zFIRST (j : Nat) : Int32 := ([6, 3, 2, 20, 40, 3, 2, 12] : List Int32).getD j 0
def zWORDS : List Int32 := [99, 104, 97, 105, 110, 32, 32, 112, 105, 116, 99, 104, 32, 32, 103, 97, 112, 32, 32, 32, 32, 99, 111, 108, 117, 109, 110, 115, 112, 111, 119, 101, 114, 32, 32, 115, 116, 97, 114, 116, 32, 32, 115, 116, 101, 112, 32, 32, 32, 114, 111, 119, 115, 32, 32, 32, 104, 111, 108, 101, 32, 32, 32, 112, 117, 116, 32, 32, 32, 32, 103, 111, 32, 32, 32, 32, 32, 115, 112, 97, 99, 101, 32, 32, 115, 107, 105, 112, 32, 32, 32]
def zTab (k : Nat) : String := match k with
  | 0 => "LOW"
  | 1 => "HIGH"
  | _ => "AT_FIRST"
def zTabN (k : Nat) : Nat := match k with
  | 0 => 13
  | 1 => 13
  | _ => 8
def zTabF (k : Nat) : Nat → Int32 := match k with
  | 0 => zLOW
  | 1 => zHIGH
  | _ => zFIRST
/-- what nobody writes: the static tables, the text of the words, what the machine's own library says of itself -/
def zX (D : zD) (A : Nat → Prop) (U : State) : Prop :=
  (∀ k, k < 3 → va_Z "TypeChain" (zTab k) "[I" (.ref (D.2.2.2 k)) A U U.heap ∧ va_T .int (D.2.2.2 k) (zTabN k) (fun j => .int (zTabF k j)) A U U.heap) ∧
  va_Z "java/lang/String" "COMPACT_STRINGS" "Z" (.int 1) A U U.heap ∧
  va_Zq "jdk/internal/util/Preconditions" "SIOOBE_FORMATTER" "Ljava/util/function/BiFunction;" A U U.heap ∧
  vk_S 1 [91] [zWORDS] (fun _ => D.2.2.2 3) (fun _ => D.2.2.2 4) A U U.heap ∧
  vk_R "TypeChain$Reader" 156 "chain  pitch  gap    columnspower  start  step   rows   hole   put    go     space  skip   " (D.2.2.2 3) U
def zU (D : zD) (A : Nat → Prop) (U : State) : Prop := (∀ w, zTbl w → ∀ a, w.before a U = true) ∧ zKn D U ∧ zX D A U
theorem zword_at {args a' : Array Value} {s U : State} (hW : s.WarmedH U.vm) {w : Cond} (hg : zgw w = true) (h : w.before args s = true) : w.before a' U = true := by
  cases w with
  | fieldLinkNest a i b n d k => exact va_Nw.use rfl (va_Nw.warmF hW (va_Nw.of rfl h))
  | methodLinkNest a i x k => exact va_Nw.use rfl (va_Nw.warmM hW (va_Nw.of rfl h))
  | _ => exact word_at hW (good_of_word hg) h
theorem zsame_at {a a' : Array Value} {u U : State} (hv : u.vm = U.vm) {w : Cond} (hg : zgw w = true) (h : w.before a u = true) : w.before a' U = true := by
  have hW : u.WarmedH U.vm := by rw [← hv]; exact State.WarmedH.refl u
  exact zword_at hW hg h
theorem zKn.moved {D : zD} {u U : State} (hvm : u.vm.Alike U.vm) (h : zKn D u) : zKn D U := ⟨fun c q hq => u_Kn_moved hvm (h.1 c q hq), fun ty hk => ⟨arrOfT_moved hvm (h.2 ty hk).1, (h.2 ty hk).2.moved hvm⟩⟩
/-- to a later state: the tables warmer, the heap the same but in A, the world narrower -/
theorem zX.later {D : zD} {A B : Nat → Prop} {s U : State} (hW : s.WarmedH U.vm) (hq : ∀ a : Nat, a < s.heap.size → ¬ A a → U.heap[a]? = s.heap[a]?) (hAB : ∀ q, B q → A q) (h : zX D A s) : zX D B U := by
  obtain ⟨h1, h2, h3, h4, h5⟩ := h
  exact ⟨fun k hk => ⟨((va_Z.moved hW.alike (h1 k hk).1).kept hq).narrow hAB, ((va_T.moved hW.alike (h1 k hk).2).kept hq).narrow hAB⟩, ((va_Z.moved hW.alike h2).kept hq).narrow hAB, ((va_Zq.moved hW.alike h3).kept hq).narrow hAB, ((vk_S.moved hW.alike h4).kept hq).narrow hAB, vk_R.warm hW h5⟩
theorem zU.later {D : zD} {A B : Nat → Prop} {s U : State} (hW : s.WarmedH U.vm) (hq : ∀ a : Nat, a < s.heap.size → ¬ A a → U.heap[a]? = s.heap[a]?) (hAB : ∀ q, B q → A q) (h : zU D A s) : zU D B U :=
  ⟨fun w hw a => zword_at hW hw.2 (h.1 w hw #[]), h.2.1.moved hW.alike, h.2.2.later hW hq hAB⟩
theorem zU.call {D : zD} {A : Nat → Prop} {U : State} {g : JFrame} {mk : MethodId} {a : Array Value} (h : zU D A U) : zU D A (U.calling g mk a) :=
  zU.later (State.WarmedH.refl U) (fun _ _ _ => rfl) (fun _ h => h) h
/-- the machine stands at a place of a method: the heap is as told, the locals hold what is listed -/
def zAt (E : zE) (D : zD) (A : Nat → Prop) (Q : State → Prop) (nL : Nat) (κ : zC) (g : zG) (pc : Nat) (lv : List (Nat × Value)) (st : List Value) : Prop :=
  ∀ (H : Heap) (locs : List Loc) (ls : Array Slot), H.size = κ.1 → zHeap D κ.2.1 g H → zWT κ.2.1 g → (∀ q x, κ.2.1 q = some x → A q) → va_S A E.2.2.2.2.1.heap H locs → lv_has ls nL lv →
    W E.1 E.2.1 E.2.2.1 E.2.2.2.1 E.2.2.2.2.1 E.2.2.2.2.2.1 E.2.2.2.2.2.2.1 E.2.2.2.2.2.2.2.1 E.2.2.2.2.2.2.2.2.1 E.2.2.2.2.2.2.2.2.2 H locs κ.2.2.1 κ.2.2.2 Q (F0 E.2.2.2.2.2.1 pc ls st)
def zF (E : zE) (D : zD) (A : Nat → Prop) (cc : ByteArray) (own : String) (nL : Nat) (ret : Option FieldType) : Prop :=
  E.1.tables.exec = Jvm.exec ∧ E.2.2.2.2.2.2.2.2.2.code = cc ∧ E.2.2.2.2.2.2.2.2.2.maxLocals = nL ∧ E.2.2.2.2.1.vm.findClass own = some E.2.2.2.2.2.1.cls ∧ E.2.2.2.2.2.2.2.2.1.sig.returnType = ret ∧ E.2.2.2.2.2.2.2.2.1.locks = false ∧ zU D A E.2.2.2.2.1 ∧ (∀ q, E.2.2.2.2.1.heap.size ≤ q → A q)
def zSim {ρ : Type} (K : ρ → Prop) (f : Option ρ) (X : Prop) : Prop := ∀ r, f = some r → K r → X
theorem zF.ex {E : zE} {D : zD} {A : Nat → Prop} {cc : ByteArray} {own : String} {nL : Nat} {ret : Option FieldType} (F : zF E D A cc own nL ret) : E.1.tables.exec = Jvm.exec := F.1
theorem zF.cd {E : zE} {D : zD} {A : Nat → Prop} {cc : ByteArray} {own : String} {nL : Nat} {ret : Option FieldType} (F : zF E D A cc own nL ret) : E.2.2.2.2.2.2.2.2.2.code = cc := F.2.1
theorem zF.ml {E : zE} {D : zD} {A : Nat → Prop} {cc : ByteArray} {own : String} {nL : Nat} {ret : Option FieldType} (F : zF E D A cc own nL ret) : E.2.2.2.2.2.2.2.2.2.maxLocals = nL := F.2.2.1
theorem zF.own {E : zE} {D : zD} {A : Nat → Prop} {cc : ByteArray} {own : String} {nL : Nat} {ret : Option FieldType} (F : zF E D A cc own nL ret) : E.2.2.2.2.1.vm.findClass own = some E.2.2.2.2.2.1.cls := F.2.2.2.1
theorem zF.rt {E : zE} {D : zD} {A : Nat → Prop} {cc : ByteArray} {own : String} {nL : Nat} {ret : Option FieldType} (F : zF E D A cc own nL ret) : E.2.2.2.2.2.2.2.2.1.sig.returnType = ret := F.2.2.2.2.1
theorem zF.lk {E : zE} {D : zD} {A : Nat → Prop} {cc : ByteArray} {own : String} {nL : Nat} {ret : Option FieldType} (F : zF E D A cc own nL ret) : E.2.2.2.2.2.2.2.2.1.locks = false := F.2.2.2.2.2.1
theorem zF.u {E : zE} {D : zD} {A : Nat → Prop} {cc : ByteArray} {own : String} {nL : Nat} {ret : Option FieldType} (F : zF E D A cc own nL ret) : zU D A E.2.2.2.2.1 := F.2.2.2.2.2.2.1
theorem zF.w {E : zE} {D : zD} {A : Nat → Prop} {cc : ByteArray} {own : String} {nL : Nat} {ret : Option FieldType} (F : zF E D A cc own nL ret) {w : Cond} (h : zTbl w) : w.before E.2.2.2.2.2.2.1 E.2.2.2.2.1 = true := F.2.2.2.2.2.2.1.1 w h _
/-- a fragment's value gets a name -/
def zl {α ρ : Type} (e : α) (k : α → ρ) : ρ := k e
/-- a test that the machine itself makes -/
def zc {ρ : Type} (c : Prop) [Decidable c] (o : Option ρ) : Option ρ := if c then o else none
/-- a call's answer and heap -/
def zb {ρ : Type} (o : Option (Int32 × zG)) (k : Int32 → zG → Option ρ) : Option ρ := match o with
  | none => none
  | some q => k q.1 q.2
/-- a loop: its turns at most n -/
def zw {σ ρ : Type} (n : Nat) (step : σ → Option (σ ⊕ ρ)) (s : σ) : Option ρ := match n with
  | 0 => none
  | n + 1 => match step s with
    | none => none
    | some (.inl s') => zw n step s'
    | some (.inr r) => some r
abbrev zin (i : Int32) (n : Nat) : Prop := ¬ (i < 0 ∨ n ≤ i.toNatClampNeg)
def zrem (x y : Int32) : Int32 := x - x / y * y
def zshl (x y : Int32) : Int32 := x <<< (y &&& 31)
def zshr (x y : Int32) : Int32 := x >>> (y &&& 31)
def zushr (x y : Int32) : Int32 := (x.toUInt32 >>> (y.toUInt32 &&& Int32.toUInt32 31)).toInt32
def zlshl (x : Int64) (y : Int32) : Int64 := x <<< (y.toInt64 &&& 63)
def zlshr (x : Int64) (y : Int32) : Int64 := x >>> (y.toInt64 &&& 63)
def zlushr (x : Int64) (y : Int32) : Int64 := (x.toUInt64 >>> (y.toInt64.toUInt64 &&& Int64.toUInt64 63)).toInt64

section ZR
variable {ρ : Type} {K : ρ → Prop} {f f1 f2 : Option ρ} {E : zE} {D : zD} {A : Nat → Prop} {Q : State → Prop} {nL : Nat} {κ : zC} {g : zG} {pc : Nat} {lv lv' : List (Nat × Value)} {st : List Value} {cc : ByteArray} {own : String} {ret : Option FieldType}
theorem z_iconst (F : zF E D A cc own nL ret) {n : Int} {v : Int32} (hv : Int32.ofInt n = v) (hd : decode cc pc = .ok (.iconst n, 1)) (k : zSim K f (zAt E D A Q nL κ g (pc + 1) lv (.int v :: st))) : zSim K f (zAt E D A Q nL κ g (pc) lv (st)) :=
  fun r hr hK H locs ls h1 h2 h3 h4 h5 h6 => lv_iconst F.ex F.cd hd hv (k r hr hK H locs ls h1 h2 h3 h4 h5 h6)
theorem z_bipush (F : zF E D A cc own nL ret) {n : Int} {v : Int32} (hv : (Int8.ofInt n).toInt32 = v) (hd : decode cc pc = .ok (.bipush n, 2)) (k : zSim K f (zAt E D A Q nL κ g (pc + 2) lv (.int v :: st))) : zSim K f (zAt E D A Q nL κ g (pc) lv (st)) :=
  fun r hr hK H locs ls h1 h2 h3 h4 h5 h6 => lv_bipush F.ex F.cd hd hv (k r hr hK H locs ls h1 h2 h3 h4 h5 h6)
theorem z_sipush (F : zF E D A cc own nL ret) {n : Int} {v : Int32} (hv : (Int16.ofInt n).toInt32 = v) (hd : decode cc pc = .ok (.sipush n, 3)) (k : zSim K f (zAt E D A Q nL κ g (pc + 3) lv (.int v :: st))) : zSim K f (zAt E D A Q nL κ g (pc) lv (st)) :=
  fun r hr hK H locs ls h1 h2 h3 h4 h5 h6 => lv_sipush F.ex F.cd hd hv (k r hr hK H locs ls h1 h2 h3 h4 h5 h6)
theorem z_lconst (F : zF E D A cc own nL ret) {n : Fin 2} {v : Int64} (hv : Int64.ofNat (n : Nat) = v) (hd : decode cc pc = .ok (.lconst n, 1)) (k : zSim K f (zAt E D A Q nL κ g (pc + 1) lv (.long v :: st))) : zSim K f (zAt E D A Q nL κ g (pc) lv (st)) :=
  fun r hr hK H locs ls h1 h2 h3 h4 h5 h6 => lv_lconst F.ex F.cd hd hv (k r hr hK H locs ls h1 h2 h3 h4 h5 h6)
theorem z_ldc (F : zF E D A cc own nL ret) {index : Nat} {v : Int32} (hq : zTbl (.constant own index v)) (hd : decode cc pc = .ok (.ldc index, 2)) (k : zSim K f (zAt E D A Q nL κ g (pc + 2) lv (.int v :: st))) : zSim K f (zAt E D A Q nL κ g (pc) lv (st)) :=
  fun r hr hK H locs ls h1 h2 h3 h4 h5 h6 => lv_ldc F.ex F.cd F.own (F.w hq) hd (k r hr hK H locs ls h1 h2 h3 h4 h5 h6)
theorem z_ldcw (F : zF E D A cc own nL ret) {index : Nat} {v : Int32} (hq : zTbl (.constant own index v)) (hd : decode cc pc = .ok (.ldc_w index, 3)) (k : zSim K f (zAt E D A Q nL κ g (pc + 3) lv (.int v :: st))) : zSim K f (zAt E D A Q nL κ g (pc) lv (st)) :=
  fun r hr hK H locs ls h1 h2 h3 h4 h5 h6 => lv_ldcw F.ex F.cd F.own (F.w hq) hd (k r hr hK H locs ls h1 h2 h3 h4 h5 h6)
theorem z_ldc2 (F : zF E D A cc own nL ret) {index : Nat} {v : Int64} (hq : zTbl (.constantLong own index v)) (hd : decode cc pc = .ok (.ldc2_w index, 3)) (k : zSim K f (zAt E D A Q nL κ g (pc + 3) lv (.long v :: st))) : zSim K f (zAt E D A Q nL κ g (pc) lv (st)) :=
  fun r hr hK H locs ls h1 h2 h3 h4 h5 h6 => lv_ldc2 F.ex F.cd F.own (F.w hq) hd (k r hr hK H locs ls h1 h2 h3 h4 h5 h6)
theorem z_null (F : zF E D A cc own nL ret)  (hd : decode cc pc = .ok (.aconst_null, 1)) (k : zSim K f (zAt E D A Q nL κ g (pc + 1) lv (.null :: st))) : zSim K f (zAt E D A Q nL κ g (pc) lv (st)) :=
  fun r hr hK H locs ls h1 h2 h3 h4 h5 h6 => lv_null F.ex F.cd hd (k r hr hK H locs ls h1 h2 h3 h4 h5 h6)
theorem z_iload_n (F : zF E D A cc own nL ret) {j : Fin 4} {i : Nat} {x : Int32} (n : Nat) (hi : (j : Nat) = i) (hn : lv[n]? = some (i, .int x)) (hd : decode cc pc = .ok (.iload_n j, 1)) (k : zSim K f (zAt E D A Q nL κ g (pc + 1) lv (.int x :: st))) : zSim K f (zAt E D A Q nL κ g (pc) lv (st)) :=
  fun r hr hK H locs ls h1 h2 h3 h4 h5 h6 => lv_iload_n F.ex F.cd hd hi (lv_at h6 n hn) (k r hr hK H locs ls h1 h2 h3 h4 h5 h6)
theorem z_iload (F : zF E D A cc own nL ret) {i : Nat} {x : Int32} (n : Nat) (hn : lv[n]? = some (i, .int x)) (hd : decode cc pc = .ok (.iload i, 2)) (k : zSim K f (zAt E D A Q nL κ g (pc + 2) lv (.int x :: st))) : zSim K f (zAt E D A Q nL κ g (pc) lv (st)) :=
  fun r hr hK H locs ls h1 h2 h3 h4 h5 h6 => lv_iload F.ex F.cd hd (lv_at h6 n hn) (k r hr hK H locs ls h1 h2 h3 h4 h5 h6)
theorem z_lload_n (F : zF E D A cc own nL ret) {j : Fin 4} {i : Nat} {x : Int64} (n : Nat) (hi : (j : Nat) = i) (hn : lv[n]? = some (i, .long x)) (hd : decode cc pc = .ok (.lload_n j, 1)) (k : zSim K f (zAt E D A Q nL κ g (pc + 1) lv (.long x :: st))) : zSim K f (zAt E D A Q nL κ g (pc) lv (st)) :=
  fun r hr hK H locs ls h1 h2 h3 h4 h5 h6 => lv_lload_n F.ex F.cd hd hi (lv_at h6 n hn) (k r hr hK H locs ls h1 h2 h3 h4 h5 h6)
theorem z_lload (F : zF E D A cc own nL ret) {i : Nat} {x : Int64} (n : Nat) (hn : lv[n]? = some (i, .long x)) (hd : decode cc pc = .ok (.lload i, 2)) (k : zSim K f (zAt E D A Q nL κ g (pc + 2) lv (.long x :: st))) : zSim K f (zAt E D A Q nL κ g (pc) lv (st)) :=
  fun r hr hK H locs ls h1 h2 h3 h4 h5 h6 => lv_lload F.ex F.cd hd (lv_at h6 n hn) (k r hr hK H locs ls h1 h2 h3 h4 h5 h6)
theorem z_aload_n (F : zF E D A cc own nL ret) {j : Fin 4} {i : Nat} {x : Nat} (n : Nat) (hi : (j : Nat) = i) (hn : lv[n]? = some (i, .ref x)) (hd : decode cc pc = .ok (.aload_n j, 1)) (k : zSim K f (zAt E D A Q nL κ g (pc + 1) lv (.ref x :: st))) : zSim K f (zAt E D A Q nL κ g (pc) lv (st)) :=
  fun r hr hK H locs ls h1 h2 h3 h4 h5 h6 => lv_aload_n F.ex F.cd hd hi (lv_at h6 n hn) (k r hr hK H locs ls h1 h2 h3 h4 h5 h6)
theorem z_aload (F : zF E D A cc own nL ret) {i : Nat} {x : Nat} (n : Nat) (hn : lv[n]? = some (i, .ref x)) (hd : decode cc pc = .ok (.aload i, 2)) (k : zSim K f (zAt E D A Q nL κ g (pc + 2) lv (.ref x :: st))) : zSim K f (zAt E D A Q nL κ g (pc) lv (st)) :=
  fun r hr hK H locs ls h1 h2 h3 h4 h5 h6 => lv_aload F.ex F.cd hd (lv_at h6 n hn) (k r hr hK H locs ls h1 h2 h3 h4 h5 h6)
theorem z_istore_n (F : zF E D A cc own nL ret) {j : Fin 4} {i : Nat} {x : Int32} (hi : (j : Nat) = i) (hn : i < nL) (hd : decode cc pc = .ok (.istore_n j, 1)) (hl : (i, Value.int x) :: lv.filter (fun q => !(q.1 == i) && !(q.1 + 1 == i && q.2.category == 2)) = lv') (k : zSim K f (zAt E D A Q nL κ g (pc + 1) lv' (st))) : zSim K f (zAt E D A Q nL κ g (pc) lv (.int x :: st)) :=
  fun r hr hK H locs ls h1 h2 h3 h4 h5 h6 => lv_istore_n F.ex F.cd hd hi h6 hn hl (fun ls' h6' => k r hr hK H locs ls' h1 h2 h3 h4 h5 h6')
theorem z_istore (F : zF E D A cc own nL ret) {i : Nat} {x : Int32} (hn : i < nL) (hd : decode cc pc = .ok (.istore i, 2)) (hl : (i, Value.int x) :: lv.filter (fun q => !(q.1 == i) && !(q.1 + 1 == i && q.2.category == 2)) = lv') (k : zSim K f (zAt E D A Q nL κ g (pc + 2) lv' (st))) : zSim K f (zAt E D A Q nL κ g (pc) lv (.int x :: st)) :=
  fun r hr hK H locs ls h1 h2 h3 h4 h5 h6 => lv_istore F.ex F.cd hd h6 hn hl (fun ls' h6' => k r hr hK H locs ls' h1 h2 h3 h4 h5 h6')
theorem z_astore_n (F : zF E D A cc own nL ret) {j : Fin 4} {i : Nat} {x : Nat} (hi : (j : Nat) = i) (hn : i < nL) (hd : decode cc pc = .ok (.astore_n j, 1)) (hl : (i, Value.ref x) :: lv.filter (fun q => !(q.1 == i) && !(q.1 + 1 == i && q.2.category == 2)) = lv') (k : zSim K f (zAt E D A Q nL κ g (pc + 1) lv' (st))) : zSim K f (zAt E D A Q nL κ g (pc) lv (.ref x :: st)) :=
  fun r hr hK H locs ls h1 h2 h3 h4 h5 h6 => lv_astore_n F.ex F.cd hd hi h6 hn hl (fun ls' h6' => k r hr hK H locs ls' h1 h2 h3 h4 h5 h6')
theorem z_astore (F : zF E D A cc own nL ret) {i : Nat} {x : Nat} (hn : i < nL) (hd : decode cc pc = .ok (.astore i, 2)) (hl : (i, Value.ref x) :: lv.filter (fun q => !(q.1 == i) && !(q.1 + 1 == i && q.2.category == 2)) = lv') (k : zSim K f (zAt E D A Q nL κ g (pc + 2) lv' (st))) : zSim K f (zAt E D A Q nL κ g (pc) lv (.ref x :: st)) :=
  fun r hr hK H locs ls h1 h2 h3 h4 h5 h6 => lv_astore F.ex F.cd hd h6 hn hl (fun ls' h6' => k r hr hK H locs ls' h1 h2 h3 h4 h5 h6')
theorem z_lstore_n (F : zF E D A cc own nL ret) {j : Fin 4} {i : Nat} {x : Int64} (hi : (j : Nat) = i) (hn : i + 1 < nL) (hd : decode cc pc = .ok (.lstore_n j, 1)) (hl : (i, Value.long x) :: lv.filter (fun q => !(q.1 == i) && (!(q.1 == i + 1) && !(q.1 + 1 == i && q.2.category == 2))) = lv') (k : zSim K f (zAt E D A Q nL κ g (pc + 1) lv' (st))) : zSim K f (zAt E D A Q nL κ g (pc) lv (.long x :: st)) :=
  fun r hr hK H locs ls h1 h2 h3 h4 h5 h6 => lv_lstore_n F.ex F.cd hd hi h6 hn hl (fun ls' h6' => k r hr hK H locs ls' h1 h2 h3 h4 h5 h6')
theorem z_lstore (F : zF E D A cc own nL ret) {i : Nat} {x : Int64} (hn : i + 1 < nL) (hd : decode cc pc = .ok (.lstore i, 2)) (hl : (i, Value.long x) :: lv.filter (fun q => !(q.1 == i) && (!(q.1 == i + 1) && !(q.1 + 1 == i && q.2.category == 2))) = lv') (k : zSim K f (zAt E D A Q nL κ g (pc + 2) lv' (st))) : zSim K f (zAt E D A Q nL κ g (pc) lv (.long x :: st)) :=
  fun r hr hK H locs ls h1 h2 h3 h4 h5 h6 => lv_lstore F.ex F.cd hd h6 hn hl (fun ls' h6' => k r hr hK H locs ls' h1 h2 h3 h4 h5 h6')
theorem z_iinc (F : zF E D A cc own nL ret) {i : Nat} {n : Int} {x v : Int32} (j : Nat) (hj : lv[j]? = some (i, .int x)) (hv : x + Int32.ofInt n = v) (hn : i < nL) (hd : decode cc pc = .ok (.iinc i n, 3)) (hl : (i, Value.int v) :: lv.filter (fun q => !(q.1 == i) && !(q.1 + 1 == i && q.2.category == 2)) = lv') (k : zSim K f (zAt E D A Q nL κ g (pc + 3) lv' (st))) : zSim K f (zAt E D A Q nL κ g (pc) lv (st)) :=
  fun r hr hK H locs ls h1 h2 h3 h4 h5 h6 => lv_iinc F.ex F.cd hd h6 hj hv hn hl (fun ls' h6' => k r hr hK H locs ls' h1 h2 h3 h4 h5 h6')
theorem z_sub (js : List Nat) (hl : lv_pick lv js = lv') (k : zSim K f (zAt E D A Q nL κ g (pc) lv' (st))) : zSim K f (zAt E D A Q nL κ g (pc) lv (st)) :=
  fun r hr hK H locs ls h1 h2 h3 h4 h5 h6 => k r hr hK H locs ls h1 h2 h3 h4 h5 (lv_sub h6 js hl)
theorem z_iadd (F : zF E D A cc own nL ret) {x y : Int32} (hd : decode cc pc = .ok (.iadd, 1)) (k : zSim K f (zAt E D A Q nL κ g (pc + 1) lv (.int (x + y) :: st))) : zSim K f (zAt E D A Q nL κ g (pc) lv (.int y :: .int x :: st)) :=
  fun r hr hK H locs ls h1 h2 h3 h4 h5 h6 => lv_iadd F.ex F.cd hd (k r hr hK H locs ls h1 h2 h3 h4 h5 h6)
theorem z_isub (F : zF E D A cc own nL ret) {x y : Int32} (hd : decode cc pc = .ok (.isub, 1)) (k : zSim K f (zAt E D A Q nL κ g (pc + 1) lv (.int (x - y) :: st))) : zSim K f (zAt E D A Q nL κ g (pc) lv (.int y :: .int x :: st)) :=
  fun r hr hK H locs ls h1 h2 h3 h4 h5 h6 => lv_isub F.ex F.cd hd (k r hr hK H locs ls h1 h2 h3 h4 h5 h6)
theorem z_imul (F : zF E D A cc own nL ret) {x y : Int32} (hd : decode cc pc = .ok (.imul, 1)) (k : zSim K f (zAt E D A Q nL κ g (pc + 1) lv (.int (x * y) :: st))) : zSim K f (zAt E D A Q nL κ g (pc) lv (.int y :: .int x :: st)) :=
  fun r hr hK H locs ls h1 h2 h3 h4 h5 h6 => lv_imul F.ex F.cd hd (k r hr hK H locs ls h1 h2 h3 h4 h5 h6)
theorem z_iand (F : zF E D A cc own nL ret) {x y : Int32} (hd : decode cc pc = .ok (.iand, 1)) (k : zSim K f (zAt E D A Q nL κ g (pc + 1) lv (.int (x &&& y) :: st))) : zSim K f (zAt E D A Q nL κ g (pc) lv (.int y :: .int x :: st)) :=
  fun r hr hK H locs ls h1 h2 h3 h4 h5 h6 => lv_iand F.ex F.cd hd (k r hr hK H locs ls h1 h2 h3 h4 h5 h6)
theorem z_ior (F : zF E D A cc own nL ret) {x y : Int32} (hd : decode cc pc = .ok (.ior, 1)) (k : zSim K f (zAt E D A Q nL κ g (pc + 1) lv (.int (x ||| y) :: st))) : zSim K f (zAt E D A Q nL κ g (pc) lv (.int y :: .int x :: st)) :=
  fun r hr hK H locs ls h1 h2 h3 h4 h5 h6 => lv_ior F.ex F.cd hd (k r hr hK H locs ls h1 h2 h3 h4 h5 h6)
theorem z_ixor (F : zF E D A cc own nL ret) {x y : Int32} (hd : decode cc pc = .ok (.ixor, 1)) (k : zSim K f (zAt E D A Q nL κ g (pc + 1) lv (.int (x ^^^ y) :: st))) : zSim K f (zAt E D A Q nL κ g (pc) lv (.int y :: .int x :: st)) :=
  fun r hr hK H locs ls h1 h2 h3 h4 h5 h6 => lv_ixor F.ex F.cd hd (k r hr hK H locs ls h1 h2 h3 h4 h5 h6)
theorem z_ishl (F : zF E D A cc own nL ret) {x y : Int32} (hd : decode cc pc = .ok (.ishl, 1)) (k : zSim K f (zAt E D A Q nL κ g (pc + 1) lv (.int (zshl x y) :: st))) : zSim K f (zAt E D A Q nL κ g (pc) lv (.int y :: .int x :: st)) :=
  fun r hr hK H locs ls h1 h2 h3 h4 h5 h6 => lv_ishl F.ex F.cd hd (k r hr hK H locs ls h1 h2 h3 h4 h5 h6)
theorem z_ishr (F : zF E D A cc own nL ret) {x y : Int32} (hd : decode cc pc = .ok (.ishr, 1)) (k : zSim K f (zAt E D A Q nL κ g (pc + 1) lv (.int (zshr x y) :: st))) : zSim K f (zAt E D A Q nL κ g (pc) lv (.int y :: .int x :: st)) :=
  fun r hr hK H locs ls h1 h2 h3 h4 h5 h6 => lv_ishr F.ex F.cd hd (k r hr hK H locs ls h1 h2 h3 h4 h5 h6)
theorem z_ineg (F : zF E D A cc own nL ret) {x : Int32} (hd : decode cc pc = .ok (.ineg, 1)) (k : zSim K f (zAt E D A Q nL κ g (pc + 1) lv (.int (-x) :: st))) : zSim K f (zAt E D A Q nL κ g (pc) lv (.int x :: st)) :=
  fun r hr hK H locs ls h1 h2 h3 h4 h5 h6 => lv_ineg F.ex F.cd hd (k r hr hK H locs ls h1 h2 h3 h4 h5 h6)
theorem z_ladd (F : zF E D A cc own nL ret) {x y : Int64} (hd : decode cc pc = .ok (.ladd, 1)) (k : zSim K f (zAt E D A Q nL κ g (pc + 1) lv (.long (x + y) :: st))) : zSim K f (zAt E D A Q nL κ g (pc) lv (.long y :: .long x :: st)) :=
  fun r hr hK H locs ls h1 h2 h3 h4 h5 h6 => lv_ladd F.ex F.cd hd (k r hr hK H locs ls h1 h2 h3 h4 h5 h6)
theorem z_lsub (F : zF E D A cc own nL ret) {x y : Int64} (hd : decode cc pc = .ok (.lsub, 1)) (k : zSim K f (zAt E D A Q nL κ g (pc + 1) lv (.long (x - y) :: st))) : zSim K f (zAt E D A Q nL κ g (pc) lv (.long y :: .long x :: st)) :=
  fun r hr hK H locs ls h1 h2 h3 h4 h5 h6 => lv_lsub F.ex F.cd hd (k r hr hK H locs ls h1 h2 h3 h4 h5 h6)
theorem z_lmul (F : zF E D A cc own nL ret) {x y : Int64} (hd : decode cc pc = .ok (.lmul, 1)) (k : zSim K f (zAt E D A Q nL κ g (pc + 1) lv (.long (x * y) :: st))) : zSim K f (zAt E D A Q nL κ g (pc) lv (.long y :: .long x :: st)) :=
  fun r hr hK H locs ls h1 h2 h3 h4 h5 h6 => lv_lmul F.ex F.cd hd (k r hr hK H locs ls h1 h2 h3 h4 h5 h6)
theorem z_land (F : zF E D A cc own nL ret) {x y : Int64} (hd : decode cc pc = .ok (.land, 1)) (k : zSim K f (zAt E D A Q nL κ g (pc + 1) lv (.long (x &&& y) :: st))) : zSim K f (zAt E D A Q nL κ g (pc) lv (.long y :: .long x :: st)) :=
  fun r hr hK H locs ls h1 h2 h3 h4 h5 h6 => lv_land F.ex F.cd hd (k r hr hK H locs ls h1 h2 h3 h4 h5 h6)
theorem z_lor (F : zF E D A cc own nL ret) {x y : Int64} (hd : decode cc pc = .ok (.lor, 1)) (k : zSim K f (zAt E D A Q nL κ g (pc + 1) lv (.long (x ||| y) :: st))) : zSim K f (zAt E D A Q nL κ g (pc) lv (.long y :: .long x :: st)) :=
  fun r hr hK H locs ls h1 h2 h3 h4 h5 h6 => lv_lor F.ex F.cd hd (k r hr hK H locs ls h1 h2 h3 h4 h5 h6)
theorem z_lxor (F : zF E D A cc own nL ret) {x y : Int64} (hd : decode cc pc = .ok (.lxor, 1)) (k : zSim K f (zAt E D A Q nL κ g (pc + 1) lv (.long (x ^^^ y) :: st))) : zSim K f (zAt E D A Q nL κ g (pc) lv (.long y :: .long x :: st)) :=
  fun r hr hK H locs ls h1 h2 h3 h4 h5 h6 => lv_lxor F.ex F.cd hd (k r hr hK H locs ls h1 h2 h3 h4 h5 h6)
theorem z_lshl (F : zF E D A cc own nL ret) {x : Int64} {y : Int32} (hd : decode cc pc = .ok (.lshl, 1)) (k : zSim K f (zAt E D A Q nL κ g (pc + 1) lv (.long (zlshl x y) :: st))) : zSim K f (zAt E D A Q nL κ g (pc) lv (.int y :: .long x :: st)) :=
  fun r hr hK H locs ls h1 h2 h3 h4 h5 h6 => lv_lshl F.ex F.cd hd rfl (k r hr hK H locs ls h1 h2 h3 h4 h5 h6)
theorem z_lshr (F : zF E D A cc own nL ret) {x : Int64} {y : Int32} (hd : decode cc pc = .ok (.lshr, 1)) (k : zSim K f (zAt E D A Q nL κ g (pc + 1) lv (.long (zlshr x y) :: st))) : zSim K f (zAt E D A Q nL κ g (pc) lv (.int y :: .long x :: st)) :=
  fun r hr hK H locs ls h1 h2 h3 h4 h5 h6 => lv_lshr F.ex F.cd hd rfl (k r hr hK H locs ls h1 h2 h3 h4 h5 h6)
theorem z_lushr (F : zF E D A cc own nL ret) {x : Int64} {y : Int32} (hd : decode cc pc = .ok (.lushr, 1)) (k : zSim K f (zAt E D A Q nL κ g (pc + 1) lv (.long (zlushr x y) :: st))) : zSim K f (zAt E D A Q nL κ g (pc) lv (.int y :: .long x :: st)) :=
  fun r hr hK H locs ls h1 h2 h3 h4 h5 h6 => lv_lushr F.ex F.cd hd rfl (k r hr hK H locs ls h1 h2 h3 h4 h5 h6)
theorem z_iushr (F : zF E D A cc own nL ret) {x y : Int32} (hd : decode cc pc = .ok (.iushr, 1)) (k : zSim K f (zAt E D A Q nL κ g (pc + 1) lv (.int (zushr x y) :: st))) : zSim K f (zAt E D A Q nL κ g (pc) lv (.int y :: .int x :: st)) :=
  fun r hr hK H locs ls h1 h2 h3 h4 h5 h6 => lv_iushr F.ex F.cd hd rfl (k r hr hK H locs ls h1 h2 h3 h4 h5 h6)
theorem z_i2l (F : zF E D A cc own nL ret) {x : Int32} (hd : decode cc pc = .ok (.i2l, 1)) (k : zSim K f (zAt E D A Q nL κ g (pc + 1) lv (.long x.toInt64 :: st))) : zSim K f (zAt E D A Q nL κ g (pc) lv (.int x :: st)) :=
  fun r hr hK H locs ls h1 h2 h3 h4 h5 h6 => lv_i2l F.ex F.cd hd rfl (k r hr hK H locs ls h1 h2 h3 h4 h5 h6)
theorem z_l2i (F : zF E D A cc own nL ret) {x : Int64} (hd : decode cc pc = .ok (.l2i, 1)) (k : zSim K f (zAt E D A Q nL κ g (pc + 1) lv (.int x.toInt32 :: st))) : zSim K f (zAt E D A Q nL κ g (pc) lv (.long x :: st)) :=
  fun r hr hK H locs ls h1 h2 h3 h4 h5 h6 => lv_l2i F.ex F.cd hd rfl (k r hr hK H locs ls h1 h2 h3 h4 h5 h6)
theorem z_i2b (F : zF E D A cc own nL ret) {x : Int32} (hd : decode cc pc = .ok (.i2b, 1)) (k : zSim K f (zAt E D A Q nL κ g (pc + 1) lv (.int x.toInt8.toInt32 :: st))) : zSim K f (zAt E D A Q nL κ g (pc) lv (.int x :: st)) :=
  fun r hr hK H locs ls h1 h2 h3 h4 h5 h6 => lv_i2b F.ex F.cd hd rfl (k r hr hK H locs ls h1 h2 h3 h4 h5 h6)
theorem z_i2s (F : zF E D A cc own nL ret) {x : Int32} (hd : decode cc pc = .ok (.i2s, 1)) (k : zSim K f (zAt E D A Q nL κ g (pc + 1) lv (.int x.toInt16.toInt32 :: st))) : zSim K f (zAt E D A Q nL κ g (pc) lv (.int x :: st)) :=
  fun r hr hK H locs ls h1 h2 h3 h4 h5 h6 => lv_i2s F.ex F.cd hd rfl (k r hr hK H locs ls h1 h2 h3 h4 h5 h6)
theorem z_i2c (F : zF E D A cc own nL ret) {x : Int32} (hd : decode cc pc = .ok (.i2c, 1)) (k : zSim K f (zAt E D A Q nL κ g (pc + 1) lv (.int (x.toUInt32 % 65536).toInt32 :: st))) : zSim K f (zAt E D A Q nL κ g (pc) lv (.int x :: st)) :=
  fun r hr hK H locs ls h1 h2 h3 h4 h5 h6 => lv_i2c F.ex F.cd hd rfl (k r hr hK H locs ls h1 h2 h3 h4 h5 h6)
theorem z_lcmp (F : zF E D A cc own nL ret) {x y : Int64} (hd : decode cc pc = .ok (.lcmp, 1)) (k : zSim K f (zAt E D A Q nL κ g (pc + 1) lv (.int (lg_cmp x y) :: st))) : zSim K f (zAt E D A Q nL κ g (pc) lv (.long y :: .long x :: st)) :=
  fun r hr hK H locs ls h1 h2 h3 h4 h5 h6 => W.lcmp F.ex F.cd hd (k r hr hK H locs ls h1 h2 h3 h4 h5 h6)
theorem z_idiv (F : zF E D A cc own nL ret) {x y : Int32} [dz : Decidable (¬ y = 0)] (hd : decode cc pc = .ok (.idiv, 1)) (k : zSim K f (zAt E D A Q nL κ g (pc + 1) lv (.int (x / y) :: st))) : zSim K (zc (¬ y = 0) f) (zAt E D A Q nL κ g (pc) lv (.int y :: .int x :: st)) := by
  intro r hr hK H locs ls h1 h2 h3 h4 h5 h6
  unfold zc at hr
  by_cases hz : ¬ y = 0
  · rw [if_pos hz] at hr
    exact lv_idiv F.ex F.cd hd hz (k r hr hK H locs ls h1 h2 h3 h4 h5 h6)
  · rw [if_neg hz] at hr; cases hr
theorem z_irem (F : zF E D A cc own nL ret) {x y : Int32} [dz : Decidable (¬ y = 0)] (hd : decode cc pc = .ok (.irem, 1)) (k : zSim K f (zAt E D A Q nL κ g (pc + 1) lv (.int (zrem x y) :: st))) : zSim K (zc (¬ y = 0) f) (zAt E D A Q nL κ g (pc) lv (.int y :: .int x :: st)) := by
  intro r hr hK H locs ls h1 h2 h3 h4 h5 h6
  unfold zc at hr
  by_cases hz : ¬ y = 0
  · rw [if_pos hz] at hr
    exact lv_irem F.ex F.cd hd hz (k r hr hK H locs ls h1 h2 h3 h4 h5 h6)
  · rw [if_neg hz] at hr; cases hr
theorem z_dup (F : zF E D A cc own nL ret) {v : Value} (hv : v.category = 1) (hd : decode cc pc = .ok (.dup, 1)) (k : zSim K f (zAt E D A Q nL κ g (pc + 1) lv (v :: v :: st))) : zSim K f (zAt E D A Q nL κ g (pc) lv (v :: st)) :=
  fun r hr hK H locs ls h1 h2 h3 h4 h5 h6 => lv_dup F.ex F.cd hd hv (k r hr hK H locs ls h1 h2 h3 h4 h5 h6)
theorem z_pop (F : zF E D A cc own nL ret) {v : Value} (hv : v.category = 1) (hd : decode cc pc = .ok (.pop, 1)) (k : zSim K f (zAt E D A Q nL κ g (pc + 1) lv (st))) : zSim K f (zAt E D A Q nL κ g (pc) lv (v :: st)) :=
  fun r hr hK H locs ls h1 h2 h3 h4 h5 h6 => lv_pop F.ex F.cd hd hv (k r hr hK H locs ls h1 h2 h3 h4 h5 h6)
theorem z_dup2 (F : zF E D A cc own nL ret) {v w : Value} (hv : v.category = 1) (hw : w.category = 1) (hd : decode cc pc = .ok (.dup2, 1)) (k : zSim K f (zAt E D A Q nL κ g (pc + 1) lv (v :: w :: v :: w :: st))) : zSim K f (zAt E D A Q nL κ g (pc) lv (v :: w :: st)) :=
  fun r hr hK H locs ls h1 h2 h3 h4 h5 h6 => lv_dup2_11 F.ex F.cd hd hv hw (k r hr hK H locs ls h1 h2 h3 h4 h5 h6)
theorem z_if_ne (F : zF E D A cc own nL ret) {x : Int32} {off : Int} {tgt : Nat} [dz : Decidable (x = 0)] (hd : decode cc pc = .ok (.ifCond .ne off, 3)) (ht : (pc : Int) + off = (tgt : Int)) (kf : (x = 0) → zSim K f1 (zAt E D A Q nL κ g (pc + 3) lv (st))) (kt : ¬ (x = 0) → zSim K f2 (zAt E D A Q nL κ g (tgt) lv (st))) : zSim K (if x = 0 then f1 else f2) (zAt E D A Q nL κ g (pc) lv (.int x :: st)) := by
  intro r hr hK H locs ls h1 h2 h3 h4 h5 h6
  refine lv_if_ne F.ex F.cd hd ht (fun hz => ?_) (fun hz => ?_)
  · exact kt hz r (by rw [if_neg hz] at hr; exact hr) hK H locs ls h1 h2 h3 h4 h5 h6
  · exact kf hz r (by rw [if_pos hz] at hr; exact hr) hK H locs ls h1 h2 h3 h4 h5 h6
theorem z_icmp_ne (F : zF E D A cc own nL ret) {x y : Int32} {off : Int} {tgt : Nat} [dz : Decidable (x = y)] (hd : decode cc pc = .ok (.if_icmp .ne off, 3)) (ht : (pc : Int) + off = (tgt : Int)) (kf : (x = y) → zSim K f1 (zAt E D A Q nL κ g (pc + 3) lv (st))) (kt : ¬ (x = y) → zSim K f2 (zAt E D A Q nL κ g (tgt) lv (st))) : zSim K (if x = y then f1 else f2) (zAt E D A Q nL κ g (pc) lv (.int y :: .int x :: st)) := by
  intro r hr hK H locs ls h1 h2 h3 h4 h5 h6
  refine lv_icmp_ne F.ex F.cd hd ht (fun hz => ?_) (fun hz => ?_)
  · exact kt hz r (by rw [if_neg hz] at hr; exact hr) hK H locs ls h1 h2 h3 h4 h5 h6
  · exact kf hz r (by rw [if_pos hz] at hr; exact hr) hK H locs ls h1 h2 h3 h4 h5 h6
theorem z_if_eq (F : zF E D A cc own nL ret) {x : Int32} {off : Int} {tgt : Nat} [dz : Decidable (x = 0)] (hd : decode cc pc = .ok (.ifCond .eq off, 3)) (ht : (pc : Int) + off = (tgt : Int)) (kt : (x = 0) → zSim K f1 (zAt E D A Q nL κ g (tgt) lv (st))) (kf : ¬ (x = 0) → zSim K f2 (zAt E D A Q nL κ g (pc + 3) lv (st))) : zSim K (if x = 0 then f1 else f2) (zAt E D A Q nL κ g (pc) lv (.int x :: st)) := by
  intro r hr hK H locs ls h1 h2 h3 h4 h5 h6
  refine lv_if_eq F.ex F.cd hd ht (fun hz => ?_) (fun hz => ?_)
  · exact kt hz r (by rw [if_pos hz] at hr; exact hr) hK H locs ls h1 h2 h3 h4 h5 h6
  · exact kf hz r (by rw [if_neg hz] at hr; exact hr) hK H locs ls h1 h2 h3 h4 h5 h6
theorem z_icmp_eq (F : zF E D A cc own nL ret) {x y : Int32} {off : Int} {tgt : Nat} [dz : Decidable (x = y)] (hd : decode cc pc = .ok (.if_icmp .eq off, 3)) (ht : (pc : Int) + off = (tgt : Int)) (kt : (x = y) → zSim K f1 (zAt E D A Q nL κ g (tgt) lv (st))) (kf : ¬ (x = y) → zSim K f2 (zAt E D A Q nL κ g (pc + 3) lv (st))) : zSim K (if x = y then f1 else f2) (zAt E D A Q nL κ g (pc) lv (.int y :: .int x :: st)) := by
  intro r hr hK H locs ls h1 h2 h3 h4 h5 h6
  refine lv_icmp_eq F.ex F.cd hd ht (fun hz => ?_) (fun hz => ?_)
  · exact kt hz r (by rw [if_pos hz] at hr; exact hr) hK H locs ls h1 h2 h3 h4 h5 h6
  · exact kf hz r (by rw [if_neg hz] at hr; exact hr) hK H locs ls h1 h2 h3 h4 h5 h6
theorem z_if_lt (F : zF E D A cc own nL ret) {x : Int32} {off : Int} {tgt : Nat} [dz : Decidable (x < 0)] (hd : decode cc pc = .ok (.ifCond .lt off, 3)) (ht : (pc : Int) + off = (tgt : Int)) (kt : (x < 0) → zSim K f1 (zAt E D A Q nL κ g (tgt) lv (st))) (kf : ¬ (x < 0) → zSim K f2 (zAt E D A Q nL κ g (pc + 3) lv (st))) : zSim K (if x < 0 then f1 else f2) (zAt E D A Q nL κ g (pc) lv (.int x :: st)) := by
  intro r hr hK H locs ls h1 h2 h3 h4 h5 h6
  refine lv_if_lt F.ex F.cd hd ht (fun hz => ?_) (fun hz => ?_)
  · exact kt hz r (by rw [if_pos hz] at hr; exact hr) hK H locs ls h1 h2 h3 h4 h5 h6
  · exact kf hz r (by rw [if_neg hz] at hr; exact hr) hK H locs ls h1 h2 h3 h4 h5 h6
theorem z_icmp_lt (F : zF E D A cc own nL ret) {x y : Int32} {off : Int} {tgt : Nat} [dz : Decidable (x < y)] (hd : decode cc pc = .ok (.if_icmp .lt off, 3)) (ht : (pc : Int) + off = (tgt : Int)) (kt : (x < y) → zSim K f1 (zAt E D A Q nL κ g (tgt) lv (st))) (kf : ¬ (x < y) → zSim K f2 (zAt E D A Q nL κ g (pc + 3) lv (st))) : zSim K (if x < y then f1 else f2) (zAt E D A Q nL κ g (pc) lv (.int y :: .int x :: st)) := by
  intro r hr hK H locs ls h1 h2 h3 h4 h5 h6
  refine lv_icmp_lt F.ex F.cd hd ht (fun hz => ?_) (fun hz => ?_)
  · exact kt hz r (by rw [if_pos hz] at hr; exact hr) hK H locs ls h1 h2 h3 h4 h5 h6
  · exact kf hz r (by rw [if_neg hz] at hr; exact hr) hK H locs ls h1 h2 h3 h4 h5 h6
theorem z_if_ge (F : zF E D A cc own nL ret) {x : Int32} {off : Int} {tgt : Nat} [dz : Decidable (0 ≤ x)] (hd : decode cc pc = .ok (.ifCond .ge off, 3)) (ht : (pc : Int) + off = (tgt : Int)) (kt : (0 ≤ x) → zSim K f1 (zAt E D A Q nL κ g (tgt) lv (st))) (kf : ¬ (0 ≤ x) → zSim K f2 (zAt E D A Q nL κ g (pc + 3) lv (st))) : zSim K (if 0 ≤ x then f1 else f2) (zAt E D A Q nL κ g (pc) lv (.int x :: st)) := by
  intro r hr hK H locs ls h1 h2 h3 h4 h5 h6
  refine lv_if_ge F.ex F.cd hd ht (fun hz => ?_) (fun hz => ?_)
  · exact kt hz r (by rw [if_pos hz] at hr; exact hr) hK H locs ls h1 h2 h3 h4 h5 h6
  · exact kf hz r (by rw [if_neg hz] at hr; exact hr) hK H locs ls h1 h2 h3 h4 h5 h6
theorem z_icmp_ge (F : zF E D A cc own nL ret) {x y : Int32} {off : Int} {tgt : Nat} [dz : Decidable (y ≤ x)] (hd : decode cc pc = .ok (.if_icmp .ge off, 3)) (ht : (pc : Int) + off = (tgt : Int)) (kt : (y ≤ x) → zSim K f1 (zAt E D A Q nL κ g (tgt) lv (st))) (kf : ¬ (y ≤ x) → zSim K f2 (zAt E D A Q nL κ g (pc + 3) lv (st))) : zSim K (if y ≤ x then f1 else f2) (zAt E D A Q nL κ g (pc) lv (.int y :: .int x :: st)) := by
  intro r hr hK H locs ls h1 h2 h3 h4 h5 h6
  refine lv_icmp_ge F.ex F.cd hd ht (fun hz => ?_) (fun hz => ?_)
  · exact kt hz r (by rw [if_pos hz] at hr; exact hr) hK H locs ls h1 h2 h3 h4 h5 h6
  · exact kf hz r (by rw [if_neg hz] at hr; exact hr) hK H locs ls h1 h2 h3 h4 h5 h6
theorem z_if_gt (F : zF E D A cc own nL ret) {x : Int32} {off : Int} {tgt : Nat} [dz : Decidable (0 < x)] (hd : decode cc pc = .ok (.ifCond .gt off, 3)) (ht : (pc : Int) + off = (tgt : Int)) (kt : (0 < x) → zSim K f1 (zAt E D A Q nL κ g (tgt) lv (st))) (kf : ¬ (0 < x) → zSim K f2 (zAt E D A Q nL κ g (pc + 3) lv (st))) : zSim K (if 0 < x then f1 else f2) (zAt E D A Q nL κ g (pc) lv (.int x :: st)) := by
  intro r hr hK H locs ls h1 h2 h3 h4 h5 h6
  refine lv_if_gt F.ex F.cd hd ht (fun hz => ?_) (fun hz => ?_)
  · exact kt hz r (by rw [if_pos hz] at hr; exact hr) hK H locs ls h1 h2 h3 h4 h5 h6
  · exact kf hz r (by rw [if_neg hz] at hr; exact hr) hK H locs ls h1 h2 h3 h4 h5 h6
theorem z_icmp_gt (F : zF E D A cc own nL ret) {x y : Int32} {off : Int} {tgt : Nat} [dz : Decidable (y < x)] (hd : decode cc pc = .ok (.if_icmp .gt off, 3)) (ht : (pc : Int) + off = (tgt : Int)) (kt : (y < x) → zSim K f1 (zAt E D A Q nL κ g (tgt) lv (st))) (kf : ¬ (y < x) → zSim K f2 (zAt E D A Q nL κ g (pc + 3) lv (st))) : zSim K (if y < x then f1 else f2) (zAt E D A Q nL κ g (pc) lv (.int y :: .int x :: st)) := by
  intro r hr hK H locs ls h1 h2 h3 h4 h5 h6
  refine lv_icmp_gt F.ex F.cd hd ht (fun hz => ?_) (fun hz => ?_)
  · exact kt hz r (by rw [if_pos hz] at hr; exact hr) hK H locs ls h1 h2 h3 h4 h5 h6
  · exact kf hz r (by rw [if_neg hz] at hr; exact hr) hK H locs ls h1 h2 h3 h4 h5 h6
theorem z_if_le (F : zF E D A cc own nL ret) {x : Int32} {off : Int} {tgt : Nat} [dz : Decidable (x ≤ 0)] (hd : decode cc pc = .ok (.ifCond .le off, 3)) (ht : (pc : Int) + off = (tgt : Int)) (kt : (x ≤ 0) → zSim K f1 (zAt E D A Q nL κ g (tgt) lv (st))) (kf : ¬ (x ≤ 0) → zSim K f2 (zAt E D A Q nL κ g (pc + 3) lv (st))) : zSim K (if x ≤ 0 then f1 else f2) (zAt E D A Q nL κ g (pc) lv (.int x :: st)) := by
  intro r hr hK H locs ls h1 h2 h3 h4 h5 h6
  refine lv_if_le F.ex F.cd hd ht (fun hz => ?_) (fun hz => ?_)
  · exact kt hz r (by rw [if_pos hz] at hr; exact hr) hK H locs ls h1 h2 h3 h4 h5 h6
  · exact kf hz r (by rw [if_neg hz] at hr; exact hr) hK H locs ls h1 h2 h3 h4 h5 h6
theorem z_icmp_le (F : zF E D A cc own nL ret) {x y : Int32} {off : Int} {tgt : Nat} [dz : Decidable (x ≤ y)] (hd : decode cc pc = .ok (.if_icmp .le off, 3)) (ht : (pc : Int) + off = (tgt : Int)) (kt : (x ≤ y) → zSim K f1 (zAt E D A Q nL κ g (tgt) lv (st))) (kf : ¬ (x ≤ y) → zSim K f2 (zAt E D A Q nL κ g (pc + 3) lv (st))) : zSim K (if x ≤ y then f1 else f2) (zAt E D A Q nL κ g (pc) lv (.int y :: .int x :: st)) := by
  intro r hr hK H locs ls h1 h2 h3 h4 h5 h6
  refine lv_icmp_le F.ex F.cd hd ht (fun hz => ?_) (fun hz => ?_)
  · exact kt hz r (by rw [if_pos hz] at hr; exact hr) hK H locs ls h1 h2 h3 h4 h5 h6
  · exact kf hz r (by rw [if_neg hz] at hr; exact hr) hK H locs ls h1 h2 h3 h4 h5 h6
theorem z_goto (F : zF E D A cc own nL ret) {off : Int} {tgt : Nat} (hd : decode cc pc = .ok (.goto off, 3)) (ht : (pc : Int) + off = (tgt : Int)) (k : zSim K f (zAt E D A Q nL κ g (tgt) lv (st))) : zSim K f (zAt E D A Q nL κ g (pc) lv (st)) :=
  fun r hr hK H locs ls h1 h2 h3 h4 h5 h6 => lv_goto F.ex F.cd hd ht (k r hr hK H locs ls h1 h2 h3 h4 h5 h6)
theorem z_ite {c : Prop} [dz : Decidable c] {X : Prop} (kt : c → zSim K f1 X) (kf : ¬ c → zSim K f2 X) : zSim K (if c then f1 else f2) X := by
  intro r hr hK
  by_cases hz : c
  · exact kt hz r (by rw [if_pos hz] at hr; exact hr) hK
  · exact kf hz r (by rw [if_neg hz] at hr; exact hr) hK
theorem z_zc {c : Prop} [dz : Decidable c] {X : Prop} (k : c → zSim K f X) : zSim K (zc c f) X := by
  intro r hr hK
  unfold zc at hr
  by_cases hz : c
  · exact k hz r (by rw [if_pos hz] at hr; exact hr) hK
  · rw [if_neg hz] at hr; cases hr
theorem z_let {α : Type} {e : α} {h : α → Option ρ} {X : α → Prop} (k : ∀ x, zSim K (h x) (X x)) : zSim K (zl e h) (X e) := k e
theorem z_leti {e : Int32} {h : Int32 → Option ρ} (k : ∀ x, zSim K (h x) (zAt E D A Q nL κ g (pc) lv (.int x :: st))) : zSim K (zl e h) (zAt E D A Q nL κ g (pc) lv (.int e :: st)) := k e
theorem z_letl {e : Int64} {h : Int64 → Option ρ} (k : ∀ x, zSim K (h x) (zAt E D A Q nL κ g (pc) lv (.long x :: st))) : zSim K (zl e h) (zAt E D A Q nL κ g (pc) lv (.long e :: st)) := k e
theorem z_back {v : ρ} {X : Prop} (h : K v → X) : zSim K (some v) X := fun r hr hk => by cases hr; exact h hk
theorem z_tableIn (F : zF E D A cc own nL ret) {dflt lo hi : Int} {offs : Array Int} {len : Nat} {x : Int32} {off : Int} {tgt : Nat} (v : Int32) (hx : x = v) (hd : decode cc pc = .ok (.tableswitch dflt lo hi offs, len)) (h1 : ¬ v.toInt < lo) (h2 : ¬ hi < v.toInt) (ho : offs[(v.toInt - lo).toNat]? = some off) (ht : (pc : Int) + off = (tgt : Int)) (k : zSim K f (zAt E D A Q nL κ g (tgt) lv (st))) : zSim K f (zAt E D A Q nL κ g (pc) lv (.int x :: st)) := by
  subst hx
  exact fun r hr hK H locs ls e1 e2 e3 e4 e5 e6 => lv_tableIn F.ex F.cd hd h1 h2 ho ht (k r hr hK H locs ls e1 e2 e3 e4 e5 e6)
theorem z_tableOut (F : zF E D A cc own nL ret) {dflt lo hi : Int} {offs : Array Int} {len : Nat} {x : Int32} {tgt : Nat} (hd : decode cc pc = .ok (.tableswitch dflt lo hi offs, len)) (h : x.toInt < lo ∨ hi < x.toInt) (ht : (pc : Int) + dflt = (tgt : Int)) (k : zSim K f (zAt E D A Q nL κ g (tgt) lv (st))) : zSim K f (zAt E D A Q nL κ g (pc) lv (.int x :: st)) :=
  fun r hr hK H locs ls e1 e2 e3 e4 e5 e6 => lv_tableOut F.ex F.cd hd h ht (k r hr hK H locs ls e1 e2 e3 e4 e5 e6)
theorem z_lookup (F : zF E D A cc own nL ret) {dflt : Int} {ps : Array (Int × Int)} {len : Nat} {x : Int32} {off : Int} {tgt : Nat} (hd : decode cc pc = .ok (.lookupswitch dflt ps, len)) (hp : (ps.toList.zip (ps.toList.drop 1)).all (fun (a, next) => a.1 < next.1) = true) (ho : Op.lookupswitch.offset ps.toList dflt x.toInt = off) (ht : (pc : Int) + off = (tgt : Int)) (k : zSim K f (zAt E D A Q nL κ g (tgt) lv (st))) : zSim K f (zAt E D A Q nL κ g (pc) lv (.int x :: st)) :=
  fun r hr hK H locs ls e1 e2 e3 e4 e5 e6 => lv_lookup F.ex F.cd hd hp ho ht (k r hr hK H locs ls e1 e2 e3 e4 e5 e6)
end ZR
end
section
-- ===== the heap: reading and writing =====
theorem zref_pos {τ : zT} {r : Nat} {x : zS} (h0 : τ 0 = none) (h : τ r = some x) : zref r = .ref r := by
  unfold zref
  rw [if_neg]
  intro e
  rw [e, h0] at h
  cases h
theorem zu_same {α : Type} (f : Nat → Nat → α) (a k : Nat) (x : α) : zu f a k x a k = x := by simp [zu]
theorem zu_ne {α : Type} (f : Nat → Nat → α) {a k b j : Nat} (x : α) (h : ¬ (b = a ∧ j = k)) : zu f a k x b j = f b j := by simp [zu, h]
/-- two heaps that differ at one place at most -/
def zOne (g g' : zG) (a k : Nat) : Prop := ∀ b j, ¬ (b = a ∧ j = k) → g'.1 b j = g.1 b j ∧ g'.2.1 b j = g.2.1 b j ∧ g'.2.2 b j = g.2.2 b j
theorem zOne_i (g : zG) (a k : Nat) (x : Int32) : zOne g (zsi g a k x) a k := fun b j h => ⟨zu_ne g.1 x h, rfl, rfl⟩
theorem zOne_r (g : zG) (a k : Nat) (x : Nat) : zOne g (zsr g a k x) a k := fun b j h => ⟨rfl, zu_ne g.2.1 x h, rfl⟩
theorem zOne_l (g : zG) (a k : Nat) (x : Int64) : zOne g (zsl g a k x) a k := fun b j h => ⟨rfl, rfl, zu_ne g.2.2 x h⟩
theorem zv_one {g g' : zG} {a k b j : Nat} (h : zOne g g' a k) (hn : ¬ (b = a ∧ j = k)) (ty : FieldType) : zv ty g' b j = zv ty g b j := by
  obtain ⟨h1, h2, h3⟩ := h b j hn
  unfold zv
  split <;> simp [h1, h2, h3]
theorem zHeap.put {D : zD} {τ : zT} {g g' : zG} {H H1 : Heap} {a ci k : Nat} {r : vw_C} (h : zHeap D τ g H) (ht : τ a = some (.inr ci)) (hr : vwCl[ci % 11]? = some r) (ho : zOne g g' a k) (hk : t_OB a (D.1 (ci % 11)) r.2.2 (D.2.1 (ci % 11)) H1 (fun j => zv (zty (ci % 11) j) g' a j)) (oq : ∀ q : Nat, q ≠ a → H1[q]? = H[q]?) : zHeap D τ g' H1 := by
  refine ⟨fun b ty n hb => ?_, fun b cj hb => ?_⟩
  · have hne : b ≠ a := fun e => by rw [e, ht] at hb; cases hb
    rw [oq b hne, h.1 b ty n hb]
    have e : g.1 b = g'.1 b := by funext j; exact ((ho b j (fun z => hne z.1)).1).symm
    rw [e]
  · by_cases hba : b = a
    · subst hba
      rw [ht] at hb
      cases hb
      exact ⟨r, hr, hk⟩
    · obtain ⟨r2, h1, h2⟩ := h.2 b cj hb
      refine ⟨r2, h1, (h2.kept (oq b hba)).to (fun j _ => ?_)⟩
      exact (zv_one ho (fun z => hba z.1) _).symm
theorem zHeap.arr {D : zD} {τ : zT} {g g' : zG} {H H1 : Heap} {a n k : Nat} {ty : FieldType} (h : zHeap D τ g H) (ht : τ a = some (.inl (ty, n))) (ho : ∀ b j, b ≠ a → g'.1 b j = g.1 b j) (ho2 : g'.2 = g.2) (hk : H1[a]? = some (vp_cell (D.2.2.1 ty) (n, .inl (g'.1 a)))) (oq : ∀ q : Nat, q ≠ a → H1[q]? = H[q]?) : zHeap D τ g' H1 := by
  refine ⟨fun b ty2 n2 hb => ?_, fun b cj hb => ?_⟩
  · by_cases hba : b = a
    · subst hba
      rw [ht] at hb
      cases hb
      exact hk
    · rw [oq b hba, h.1 b ty2 n2 hb]
      have e : g.1 b = g'.1 b := by funext j; exact (ho b j hba).symm
      rw [e]
  · have hba : b ≠ a := fun e => by rw [e, ht] at hb; cases hb
    obtain ⟨r2, h1, h2⟩ := h.2 b cj hb
    refine ⟨r2, h1, (h2.kept (oq b hba)).to (fun j _ => ?_)⟩
    unfold zv
    split <;> simp [ho b j hba, ho2]
theorem zWT.si {τ : zT} {g : zG} (h : zWT τ g) (a k : Nat) (x : Int32) : zWT τ (zsi g a k x) := h
theorem zWT.sl {τ : zT} {g : zG} (h : zWT τ g) (a k : Nat) (x : Int64) : zWT τ (zsl g a k x) := h
section ZH
variable {ρ : Type} {K : ρ → Prop} {f f1 f2 : Option ρ} {E : zE} {D : zD} {A : Nat → Prop} {Q : State → Prop} {nL : Nat} {κ : zC} {g : zG} {pc : Nat} {lv lv' : List (Nat × Value)} {st : List Value} {cc : ByteArray} {own : String} {ret : Option FieldType}
theorem z_get (F : zF E D A cc own nL ret) {a ci k index : Nat} {r : vw_C} {v : Value} (ht : κ.2.1 a = some (.inr ci)) (hr : vwCl[ci % 11]? = some r) (hin : ∀ w ∈ u_ws r.1 r.2.1 r.2.2, zTbl w) (hk : k < r.2.2) (hl : zTbl (.fieldLink own index (r.2.1 k).1 (r.2.1 k).2.1 (r.2.1 k).2.2.1)) (hv : zWT κ.2.1 g → zv (zty (ci % 11) k) g a k = v) (hd : decode cc pc = .ok (.getfield index, 3)) (kk : zSim K f (zAt E D A Q nL κ g (pc + 3) lv (v :: st))) : zSim K f (zAt E D A Q nL κ g pc lv (.ref a :: st)) := by
  intro x hx hK H locs ls h1 h2 h3 h4 h5 h6
  obtain ⟨r', e1, cell, q1, q2, q3, q4⟩ := h2.2 a ci ht
  cases hr.symm.trans e1
  obtain ⟨hS, hfc, kC, hkC, hkind⟩ := F.u.2.1.1 (ci % 11) r hr
  obtain ⟨cf, kf, fi, fd, hi, hsl⟩ := hS k hk
  refine W.getf F.ex F.cd F.own (F.w hl) hi (u_facts hfc hkC (u_lays (ws := u_ws r.1 r.2.1 r.2.2) (fun w hw => F.w (hin w hw)) (fun _ h => h) hk) hi).1 q1 (by rw [q3]; exact fun h => by cases h) (v := v) ?_ rfl rfl hd (kk x hx hK H locs ls h1 h2 h3 h4 h5 h6)
  rw [hsl, q4 k hk]
  exact congrArg some (hv h3)
theorem z_put0 (F : zF E D A cc own nL ret) {a ci k index : Nat} {r : vw_C} {v : Value} {g' : zG} (ht : κ.2.1 a = some (.inr ci)) (hr : vwCl[ci % 11]? = some r) (hin : ∀ w ∈ u_ws r.1 r.2.1 r.2.2, zTbl w) (hty : ∀ k, k < r.2.2 → parseFieldDescriptor (r.2.1 k).2.2.1 = some (zty (ci % 11) k)) (hnm : ∀ a, a < r.2.2 → ∀ b, b < r.2.2 → a ≠ b → (r.2.1 a).2.1 ≠ (r.2.1 b).2.1) (hk : k < r.2.2) (hl : zTbl (.fieldLink own index (r.2.1 k).1 (r.2.1 k).2.1 (r.2.1 k).2.2.1)) (hfin : (r.2.1 k).2.2.2 = false) (hn : narrow (zty (ci % 11) k) v = v) (hfit : fits (zty (ci % 11) k) v = true) (ho : zOne g g' a k) (hv : zv (zty (ci % 11) k) g' a k = v) (hW : zWT κ.2.1 g → zWT κ.2.1 g') (hd : decode cc pc = .ok (.putfield index, 3)) (kk : zSim K f (zAt E D A Q nL κ g' (pc + 3) lv st)) : zSim K f (zAt E D A Q nL κ g pc lv (v :: .ref a :: st)) := by
  intro x hx hK H locs ls h1 h2 h3 h4 h5 h6
  have hts : ∀ w ∈ u_ws r.1 r.2.1 r.2.2, w.before E.2.2.2.2.2.2.1 E.2.2.2.2.1 = true := fun w hw => F.w (hin w hw)
  obtain ⟨r', e1, cell, q1, q2, q3, q4⟩ := h2.2 a ci ht
  cases hr.symm.trans e1
  obtain ⟨hS, hfc, kC, hkC, hkind⟩ := F.u.2.1.1 (ci % 11) r hr
  have hap : ∀ x y, x < r.2.2 → y < r.2.2 → x ≠ y → (D.2.1 (ci % 11)) x ≠ (D.2.1 (ci % 11)) y := by
    intro x y hx hy hne
    obtain ⟨_, _, _, fa, hia, ea⟩ := hS x hx
    obtain ⟨_, _, _, fb, hib, eb⟩ := hS y hy
    rw [← ea, ← eb]
    refine u_apart (u_lays hts (fun _ h => h) hx) (u_lays hts (fun _ h => h) hy) hia hib ?_
    rw [(State.fieldFound?_type hia (hty x hx)).1, (State.fieldFound?_type hib (hty y hy)).1]
    exact hnm x hx y hy hne
  obtain ⟨cf, kf, fi, fd, hi, hsl⟩ := hS k hk
  have hlay := hts _ (u_in_lay hk)
  unfold u_lay at hlay
  rw [if_neg (by rw [hfin]; decide)] at hlay
  have hst := (u_facts hfc hkC (u_lays hts (fun _ h => h) hk) hi).1
  have h7 := u_store hfc hkC hkind hlay hi (hty k hk) hn hfit
  refine W.putK F.ex F.cd (f := fd) ⟨F.own, F.w hl, ⟨_, _, _, hi⟩, hst⟩ (by rw [q2]; exact h7) q1 q3 (by rw [hsl]; exact k2_hasslot (q4 k hk)) rfl rfl hd fun H' e1 e2 e3 => ?_
  rw [hsl] at e1 ⊢
  refine kk x hx hK H' _ ls (e2.trans h1) (h2.put ht hr ho ?_ e3) (hW h3) h4 (h5.put e2 e3 (h4 a _ ht)) h6
  refine t_OB.to (V := updV (fun j => zv (zty (ci % 11) j) g a j) k v) ⟨_, e1, q2, q3, t_set q4 hap hk v⟩ (fun j _ => ?_)
  unfold updV
  by_cases hj : j = k
  · subst hj
    rw [if_pos rfl, hv]
  · rw [if_neg hj]
    exact (zv_one ho (fun z => hj z.2) _).symm
theorem z_iald (F : zF E D A cc own nL ret) {a n : Nat} {i : Int32} [dz : Decidable (zin i n)] (ht : κ.2.1 a = some (.inl (.int, n))) (hd : decode cc pc = .ok (.iaload, 1)) (kk : zSim K f (zAt E D A Q nL κ g (pc + 1) lv (.int (g.1 a i.toNatClampNeg) :: st))) : zSim K (zc (zin i n) f) (zAt E D A Q nL κ g pc lv (.int i :: .ref a :: st)) := by
  refine z_zc (fun hin => ?_)
  intro x hx hK H locs ls h1 h2 h3 h4 h5 h6
  have hlt : i.toNatClampNeg < n := Nat.not_le.mp fun q => hin (Or.inr q)
  exact W.iald (v := .int (g.1 a i.toNatClampNeg)) F.ex F.cd (h2.1 a _ _ ht) ((F.u.2.1.2 .int (by decide)).1 n (fun j => .int (g.1 a j))) (fun q => by cases q) (by show ¬ (i < 0 ∨ (arrV _ _ _).slots.size ≤ _); rw [arrV_size]; exact hin) (by show (arrV _ _ _).slots[_]? = _; rw [arrV_read _ _ hlt]) rfl rfl hd (kk x hx hK H locs ls h1 h2 h3 h4 h5 h6)
theorem z_bald (F : zF E D A cc own nL ret) {a n : Nat} {i : Int32} [dz : Decidable (zin i n)] (ht : κ.2.1 a = some (.inl (.byte, n))) (hd : decode cc pc = .ok (.baload, 1)) (kk : zSim K f (zAt E D A Q nL κ g (pc + 1) lv (.int (g.1 a i.toNatClampNeg) :: st))) : zSim K (zc (zin i n) f) (zAt E D A Q nL κ g pc lv (.int i :: .ref a :: st)) := by
  refine z_zc (fun hin => ?_)
  intro x hx hK H locs ls h1 h2 h3 h4 h5 h6
  have hlt : i.toNatClampNeg < n := Nat.not_le.mp fun q => hin (Or.inr q)
  exact W.bald (v := .int (g.1 a i.toNatClampNeg)) F.ex F.cd (h2.1 a _ _ ht) ((F.u.2.1.2 .byte (by decide)).1 n (fun j => .int (g.1 a j))) (fun q => by cases q) (by show ¬ (i < 0 ∨ (arrV _ _ _).slots.size ≤ _); rw [arrV_size]; exact hin) (by show (arrV _ _ _).slots[_]? = _; rw [arrV_read _ _ hlt]) rfl rfl hd (kk x hx hK H locs ls h1 h2 h3 h4 h5 h6)
theorem z_zald (F : zF E D A cc own nL ret) {a n : Nat} {i : Int32} [dz : Decidable (zin i n)] (ht : κ.2.1 a = some (.inl (.boolean, n))) (hd : decode cc pc = .ok (.baload, 1)) (kk : zSim K f (zAt E D A Q nL κ g (pc + 1) lv (.int (g.1 a i.toNatClampNeg) :: st))) : zSim K (zc (zin i n) f) (zAt E D A Q nL κ g pc lv (.int i :: .ref a :: st)) := by
  refine z_zc (fun hin => ?_)
  intro x hx hK H locs ls h1 h2 h3 h4 h5 h6
  have hlt : i.toNatClampNeg < n := Nat.not_le.mp fun q => hin (Or.inr q)
  exact W.zald (v := .int (g.1 a i.toNatClampNeg)) F.ex F.cd (h2.1 a _ _ ht) ((F.u.2.1.2 .boolean (by decide)).1 n (fun j => .int (g.1 a j))) (fun q => by cases q) (by show ¬ (i < 0 ∨ (arrV _ _ _).slots.size ≤ _); rw [arrV_size]; exact hin) (by show (arrV _ _ _).slots[_]? = _; rw [arrV_read _ _ hlt]) rfl rfl hd (kk x hx hK H locs ls h1 h2 h3 h4 h5 h6)
theorem z_upd (g : zG) (a k : Nat) (x : Int32) : (zsi g a k x).1 a = upd (g.1 a) k x := by
  funext j
  simp [zsi, zu, upd]
theorem z_arr_end {a n : Nat} {i x : Int32} {ty : FieldType} {H H1 : Heap} (h2 : zHeap D κ.2.1 g H) (ht : κ.2.1 a = some (.inl (ty, n))) (e : H1[a]? = some ((vp_cell (D.2.2.1 ty) (n, .inl (g.1 a))).setSlot i.toNatClampNeg (.int x))) (oq : ∀ q : Nat, q ≠ a → H1[q]? = H[q]?) : zHeap D κ.2.1 (zsi g a i.toNatClampNeg x) H1 := by
  refine h2.arr (k := 0) ht (fun b j hb => zu_ne g.1 x (fun z => hb z.1)) rfl ?_ oq
  rw [e, z_upd, vp_cell_i, vp_cell_i, arrV_store]
  congr 2
  funext q
  by_cases hq : q = i.toNatClampNeg
  · subst hq; simp [updV, upd]
  · simp [updV, upd, hq]
theorem z_iast (F : zF E D A cc own nL ret) {a n : Nat} {i x : Int32} [dz : Decidable (zin i n)] (ht : κ.2.1 a = some (.inl (.int, n))) (hd : decode cc pc = .ok (.iastore, 1)) (kk : zSim K f (zAt E D A Q nL κ (zsi g a i.toNatClampNeg x) (pc + 1) lv st)) : zSim K (zc (zin i n) f) (zAt E D A Q nL κ g pc lv (.int x :: .int i :: .ref a :: st)) := by
  refine z_zc (fun hin => ?_)
  intro x hx hK H locs ls h1 h2 h3 h4 h5 h6
  refine W.iast F.ex F.cd (h2.1 a _ _ ht) ((F.u.2.1.2 .int (by decide)).1 n (fun j => .int (g.1 a j))) (fun q => by cases q) (by show ¬ (i < 0 ∨ (arrV _ _ _).slots.size ≤ _); rw [arrV_size]; exact hin) rfl rfl hd fun H1 e z oq => ?_
  exact kk x hx hK H1 _ ls (z.trans h1) (z_arr_end h2 ht e oq) (h3.si _ _ _) h4 (h5.put z oq (h4 a _ ht)) h6
theorem z_bast (F : zF E D A cc own nL ret) {a n : Nat} {i x : Int32} [dz : Decidable (zin i n)] (ht : κ.2.1 a = some (.inl (.byte, n))) (hd : decode cc pc = .ok (.bastore, 1)) (kk : zSim K f (zAt E D A Q nL κ (zsi g a i.toNatClampNeg x.toInt8.toInt32) (pc + 1) lv st)) : zSim K (zc (zin i n) f) (zAt E D A Q nL κ g pc lv (.int x :: .int i :: .ref a :: st)) := by
  refine z_zc (fun hin => ?_)
  intro x hx hK H locs ls h1 h2 h3 h4 h5 h6
  refine W.bast F.ex F.cd (h2.1 a _ _ ht) ((F.u.2.1.2 .byte (by decide)).1 n (fun j => .int (g.1 a j))) (fun q => by cases q) (by show ¬ (i < 0 ∨ (arrV _ _ _).slots.size ≤ _); rw [arrV_size]; exact hin) rfl rfl hd fun H1 e z oq => ?_
  exact kk x hx hK H1 _ ls (z.trans h1) (z_arr_end h2 ht e oq) (h3.si _ _ _) h4 (h5.put z oq (h4 a _ ht)) h6
theorem z_zast (F : zF E D A cc own nL ret) {a n : Nat} {i x : Int32} [dz : Decidable (zin i n)] (ht : κ.2.1 a = some (.inl (.boolean, n))) (hd : decode cc pc = .ok (.bastore, 1)) (kk : zSim K f (zAt E D A Q nL κ (zsi g a i.toNatClampNeg (vp_nar .boolean x)) (pc + 1) lv st)) : zSim K (zc (zin i n) f) (zAt E D A Q nL κ g pc lv (.int x :: .int i :: .ref a :: st)) := by
  refine z_zc (fun hin => ?_)
  intro x hx hK H locs ls h1 h2 h3 h4 h5 h6
  refine W.zast F.ex F.cd (h2.1 a _ _ ht) ((F.u.2.1.2 .boolean (by decide)).1 n (fun j => .int (g.1 a j))) (fun q => by cases q) (by show ¬ (i < 0 ∨ (arrV _ _ _).slots.size ≤ _); rw [arrV_size]; exact hin) rfl rfl hd fun H1 e z oq => ?_
  exact kk x hx hK H1 _ ls (z.trans h1) (z_arr_end h2 ht e oq) (h3.si _ _ _) h4 (h5.put z oq (h4 a _ ht)) h6
theorem z_alen (F : zF E D A cc own nL ret) {a n : Nat} {ty : FieldType} {v : Int32} (hty : ty ∈ [FieldType.int, FieldType.byte, FieldType.boolean]) (ht : κ.2.1 a = some (.inl (ty, n))) (hv : Int32.ofNat n = v) (hd : decode cc pc = .ok (.arraylength, 1)) (kk : zSim K f (zAt E D A Q nL κ g (pc + 1) lv (.int v :: st))) : zSim K f (zAt E D A Q nL κ g pc lv (.ref a :: st)) := by
  intro x hx hK H locs ls h1 h2 h3 h4 h5 h6
  exact W.alen F.ex F.cd (h2.1 a _ _ ht) ((F.u.2.1.2 ty hty).1 n (fun j => .int (g.1 a j))) (by rw [← hv]; show ((arrV _ _ _).slots.size).toInt32 = _; rw [arrV_size]) rfl rfl hd (kk x hx hK H locs ls h1 h2 h3 h4 h5 h6)
/-- the static tables -/
theorem z_gets (F : zF E D A cc own nL ret) {index : Nat} (k : Nat) (hk : k < 3) (hl : zTbl (.fieldLink own index "TypeChain" (zTab k) "[I")) (hd : decode cc pc = .ok (.getstatic index, 3)) (kk : zSim K f (zAt E D A Q nL κ g (pc + 3) lv (.ref (D.2.2.2 k) :: st))) : zSim K f (zAt E D A Q nL κ g pc lv st) := by
  intro x hx hK H locs ls h1 h2 h3 h4 h5 h6
  exact va_gets F.ex F.cd (F.u.2.2.1 k hk).1 h5 F.own (F.w hl) (fun _ h => h) hd (kk x hx hK H locs ls h1 h2 h3 h4 h5 h6)
theorem z_getsN (F : zF E D A cc own nL ret) {index : Nat} {host : String} (k : Nat) (hk : k < 3) (hl : zTbl (.fieldLinkNest own index "TypeChain" (zTab k) "[I" host)) (hd : decode cc pc = .ok (.getstatic index, 3)) (kk : zSim K f (zAt E D A Q nL κ g (pc + 3) lv (.ref (D.2.2.2 k) :: st))) : zSim K f (zAt E D A Q nL κ g pc lv st) := by
  intro x hx hK H locs ls h1 h2 h3 h4 h5 h6
  exact va_getsN F.ex F.cd (F.u.2.2.1 k hk).1 h5 F.own (F.w hl) (fun _ h => h) hd (kk x hx hK H locs ls h1 h2 h3 h4 h5 h6)
theorem z_tald (F : zF E D A cc own nL ret) {i : Int32} (k : Nat) (hk : k < 3) [dz : Decidable (zin i (zTabN k))] (hd : decode cc pc = .ok (.iaload, 1)) (kk : zSim K f (zAt E D A Q nL κ g (pc + 1) lv (.int (zTabF k i.toNatClampNeg) :: st))) : zSim K (zc (zin i (zTabN k)) f) (zAt E D A Q nL κ g pc lv (.int i :: .ref (D.2.2.2 k) :: st)) := by
  refine z_zc (fun hin => ?_)
  intro x hx hK H locs ls h1 h2 h3 h4 h5 h6
  exact va_ti F.ex F.cd (F.u.2.2.1 k hk).2 h5 hin rfl hd (kk x hx hK H locs ls h1 h2 h3 h4 h5 h6)
theorem z_tlen (F : zF E D A cc own nL ret) {v : Int32} (k : Nat) (hk : k < 3) (hv : Int32.ofNat (zTabN k) = v) (hd : decode cc pc = .ok (.arraylength, 1)) (kk : zSim K f (zAt E D A Q nL κ g (pc + 1) lv (.int v :: st))) : zSim K f (zAt E D A Q nL κ g pc lv (.ref (D.2.2.2 k) :: st)) := by
  intro x hx hK H locs ls h1 h2 h3 h4 h5 h6
  exact va_tlen F.ex F.cd (F.u.2.2.1 k hk).2 h5 hv hd (kk x hx hK H locs ls h1 h2 h3 h4 h5 h6)
end ZH
-- ===== contracts =====
def zPost (D : zD) (rv : Int32 → Option Value) (mc : Nat) (sz : Nat) (τ τ' : zT) (r : Int32) (g' : zG) : Array Value → State → Outcome → State → Prop := fun _ st oc t =>
  oc = .returned (rv r) ∧ t.heap.size = sz + mc ∧ zHeap D τ' g' t.heap ∧ zWT τ' g' ∧ (∀ q x, τ' q = some x → zA τ sz q) ∧ va_F (zA τ sz) st t
def zCon (l : Launch) (D : zD) (y : MethodName) (cc : ByteArray) (maxL : Nat) (ret : Option FieldType) (rm : Room) (mc ms : Nat) (rv : Int32 → Option Value) (As : List Value) (sz : Nat) (τ : zT) (g : zG) (τ' : zT) (o : Option (Int32 × zG)) : Prop :=
  ∀ r g', o = some (r, g') → Met l y [.code y cc maxL ret] rm (va_Pc As (fun U => U.heap.size = sz ∧ zU D (zA τ sz) U ∧ zHeap D τ g U.heap ∧ zWT τ g)) (zPost D rv mc sz τ τ' r g') mc ms (zA τ sz)
def zQ (E : zE) (D : zD) (rv : Int32 → Option Value) (mc ms sz : Nat) (τ τ' : zT) (r : Int32) (g' : zG) : State → Prop :=
  MQ E.2.2.2.2.2.2.2.1 (zPost D rv mc sz τ τ' r g') E.2.2.2.2.2.2.1 E.2.2.2.2.1 mc ms (zA τ sz)
def zrI (r : Int32) : Option Value := some (.int r)
def zrV (_ : Int32) : Option Value := none
theorem zCon.of {l : Launch} {D : zD} {y : MethodName} {cc : ByteArray} {maxL : Nat} {ret : Option FieldType} {rm : Room} {mc ms : Nat} {rv : Int32 → Option Value} {As : List Value} {sz : Nat} {τ : zT} {g : zG} {τ' : zT} {o : Option (Int32 × zG)} (hy : plainName y.cls = true) (hn : (lg_sl As).length ≤ maxL)
    (body : ∀ (E : zE) (r : Int32) (g' : zG), E.2.1 = l → E.2.2.2.1 = rm → E.2.2.2.2.1.heap.size = sz → (E.2.2.2.2.2.2.2.2.1.name = y.name) → zF E D (zA τ sz) cc y.cls maxL ret → zSim (fun q : Int32 × zG => q = (r, g')) o (zAt E D (zA τ sz) (zQ E D rv mc ms sz τ τ' r g') maxL (sz, τ, 0, 0) g 0 (lv_args 0 As) [])) : zCon l D y cc maxL ret rm mc ms rv As sz τ g τ' o := by
  intro r g' ho
  refine Met.ofW (cc := cc) (maxL := maxL) (ret := ret) hy rfl ?_
  intro p e s m args below meth c s₁ B hml hv
  obtain ⟨rfl, hsz, hU, hH, hWT⟩ := hv
  have F : zF (p, l, e, (headSpec [.code y cc maxL ret] rm).room, s, m, As.toArray, below, meth, c) D (zA τ sz) cc y.cls maxL ret :=
    ⟨B.exec, B.bytes, hml, findClass_of_methodNamed B.named, B.returns, B.notSynchronized, hU, fun q hq => Or.inr (by rw [← hsz]; exact hq)⟩
  have h := body (p, l, e, (headSpec [.code y cc maxL ret] rm).room, s, m, As.toArray, below, meth, c) r g' rfl rfl hsz (name_of_methodNamed B.named B.method).1 F (r, g') ho rfl s.heap [] _ hsz hH hWT (fun q x hx => Or.inl ⟨x, hx⟩) va_S.rf (lv_entry As hn)
  rw [lg_entry_eq]
  exact h
section ZC
variable {ρ : Type} {K : ρ → Prop} {f f1 f2 : Option ρ} {E : zE} {D : zD} {A : Nat → Prop} {Q : State → Prop} {nL : Nat} {κ : zC} {g : zG} {pc : Nat} {lv lv' : List (Nat × Value)} {st : List Value} {cc : ByteArray} {own : String} {ret : Option FieldType}
theorem z_ireturn {rv : Int32 → Option Value} {mc ms sz : Nat} {τ τ' : zT} {r x : Int32} {g' : zG} {v : ρ} {E : zE} {n cl sl : Nat} (F : zF E D (zA τ sz) cc own nL (some .int)) (hrv : rv = zrI) (hn : n = sz + mc) (hc : cl = mc) (hs : sl = ms) (hK : K v → (x, g) = (r, g')) (hd : decode cc pc = .ok (.ireturn, 1)) : zSim K (some v) (zAt E D (zA τ sz) (zQ E D rv mc ms sz τ τ' r g') nL (n, τ', cl, sl) g pc lv [.int x]) := by
  intro w hw hk H locs ls h1 h2 h3 h4 h5 h6
  cases hw
  cases hK hk
  subst hrv; subst hn; subst hc; subst hs
  exact W.iret F.ex F.cd F.rt (fun t ht _ => ⟨rfl, by rw [ht]; exact h1, by rw [ht]; exact h2, h3, h4, h5.F ht⟩) h5.2.2 hd F.lk
theorem z_zreturn {rv : Int32 → Option Value} {mc ms sz : Nat} {τ τ' : zT} {r x : Int32} {g' : zG} {v : ρ} {E : zE} {n cl sl : Nat} (F : zF E D (zA τ sz) cc own nL (some .boolean)) (hz : narrow .boolean (.int x) = .int x) (hrv : rv = zrI) (hn : n = sz + mc) (hc : cl = mc) (hs : sl = ms) (hK : K v → (x, g) = (r, g')) (hd : decode cc pc = .ok (.ireturn, 1)) : zSim K (some v) (zAt E D (zA τ sz) (zQ E D rv mc ms sz τ τ' r g') nL (n, τ', cl, sl) g pc lv [.int x]) := by
  intro w hw hk H locs ls h1 h2 h3 h4 h5 h6
  cases hw
  cases hK hk
  subst hrv; subst hn; subst hc; subst hs
  exact W.zret F.ex F.cd F.rt hz (fun t ht _ => ⟨rfl, by rw [ht]; exact h1, by rw [ht]; exact h2, h3, h4, h5.F ht⟩) h5.2.2 hd F.lk
theorem z_vreturn {rv : Int32 → Option Value} {mc ms sz : Nat} {τ τ' : zT} {r : Int32} {g' : zG} {v : ρ} {E : zE} {n cl sl : Nat} (F : zF E D (zA τ sz) cc own nL none) (hrv : rv = zrV) (hn : n = sz + mc) (hc : cl = mc) (hs : sl = ms) (hK : K v → (0, g) = (r, g')) (hd : decode cc pc = .ok (.return_, 1)) : zSim K (some v) (zAt E D (zA τ sz) (zQ E D rv mc ms sz τ τ' r g') nL (n, τ', cl, sl) g pc lv []) := by
  intro w hw hk H locs ls h1 h2 h3 h4 h5 h6
  cases hw
  cases hK hk
  subst hrv; subst hn; subst hc; subst hs
  exact W.vret F.ex F.cd F.rt (fun t ht _ => ⟨rfl, by rw [ht]; exact h1, by rw [ht]; exact h2, h3, h4, h5.F ht⟩) h5.2.2 hd F.lk
theorem zA_sub {τ : zT} {H0 H : Heap} {locs : List Loc} (hA : ∀ q, H0.size ≤ q → A q) (h4 : ∀ q x, τ q = some x → A q) (h5 : va_S A H0 H locs) : ∀ q, zA τ H.size q → A q := by
  intro q h
  rcases h with ⟨x, hx⟩ | h
  · exact h4 q x hx
  · exact hA q (Nat.le_trans h5.1 h)
theorem zP_blind {av : List Value} {sz : Nat} {τ : zT} : FrameBlind (va_Pc av (fun U => U.heap.size = sz ∧ zU D (zA τ sz) U ∧ zHeap D τ g U.heap ∧ zWT τ g)) := by
  intro a U fr mk h
  obtain ⟨h0, h1, h2, h3, h4⟩ := h
  exact ⟨h0, h1, h2.call, h3, h4⟩
theorem zP_at (F : zF E D A cc own nL ret) {τ : zT} {av : List Value} {H : Heap} {locs : List Loc} (h2 : zHeap D τ g H) (h3 : zWT τ g) (h4 : ∀ q x, τ q = some x → A q) (h5 : va_S A E.2.2.2.2.1.heap H locs) : ∀ U : State, U.heap = H → E.2.2.2.2.1.WarmedH U.vm → va_Pc av (fun U => U.heap.size = H.size ∧ zU D (zA τ H.size) U ∧ zHeap D τ g U.heap ∧ zWT τ g) av.toArray U := by
  intro U hU hW
  refine ⟨rfl, by rw [hU], F.u.later hW (fun a ha hn => by rw [hU]; exact h5.2.1 a ha hn) (zA_sub F.2.2.2.2.2.2.2 h4 h5), by rw [hU]; exact h2, h3⟩
/-- behind a call -/
theorem z_after {mc ms : Nat} {rv : Int32 → Option Value} {τ' : zT} {o : Option (Int32 × zG)} {h : Int32 → zG → Option ρ} {x : Int32} {g1 : zG} {H : Heap} {locs : List Loc} {ls : Array Slot} {st0 : List Value} {w : ρ} (F : zF E D A cc own nL ret) (h1 : H.size = κ.1) (h4 : ∀ q x, κ.2.1 q = some x → A q) (h5 : va_S A E.2.2.2.2.1.heap H locs) (h6 : lv_has ls nL lv)
    (run : va_Run E.1 E.2.1 E.2.2.1 E.2.2.2.1 E.2.2.2.2.1 E.2.2.2.2.2.1 E.2.2.2.2.2.2.1 E.2.2.2.2.2.2.2.1 E.2.2.2.2.2.2.2.2.1 E.2.2.2.2.2.2.2.2.2 H locs κ.2.2.1 κ.2.2.2 mc ms (F0 E.2.2.2.2.2.1 pc ls st0) st (fun st oc t => zPost D rv mc H.size κ.2.1 τ' x g1 #[] st oc t) (zA κ.2.1 H.size))
    (kk : zAt E D A Q nL (κ.1 + mc, τ', κ.2.2.1 + mc, κ.2.2.2 + ms) g1 (pc + 3) lv ((rv x).toList ++ st)) :
    W E.1 E.2.1 E.2.2.1 E.2.2.2.1 E.2.2.2.2.1 E.2.2.2.2.2.1 E.2.2.2.2.2.2.1 E.2.2.2.2.2.2.2.1 E.2.2.2.2.2.2.2.2.1 E.2.2.2.2.2.2.2.2.2 H locs κ.2.2.1 κ.2.2.2 Q (F0 E.2.2.2.2.2.1 pc ls st0) := by
  intro T hT X
  obtain ⟨v, st₀, t, T', L, h0, X', hL, e1, e2, ⟨hv, hz, hH, hWT, hA, hz2, hk⟩, stp⟩ := run T hT X
  cases hv
  rw [h0] at hz2 hk
  have hsub := zA_sub F.2.2.2.2.2.2.2 h4 h5
  obtain ⟨t2, a1, b1⟩ := kk T'.heap (locs ++ L) ls (by rw [e1, hz, h1]) (by rw [e1]; exact hH) hWT (fun q x hx => hsub q (hA q x hx))
    ⟨Nat.le_trans h5.1 (by rw [e1]; exact hz2), fun q i1 i2 => by rw [e1, hk q (Nat.lt_of_lt_of_le i1 h5.1) (fun z => i2 (hsub q z))]; exact h5.2.1 q i1 i2, fun q hq => by
      rcases List.mem_append.mp hq with i | i
      · exact h5.2.2 q i
      · exact hsub _ (hL q i)⟩ h6 T' rfl X'
  exact ⟨t2, stp t2 a1, b1⟩
def zCall (R : Room) (y : MethodName) (cb : ByteArray) (maxL : Nat) (rt : Option FieldType) (rm : Room) (mc ms n : Nat) : Prop :=
  zTbl (.code y cb maxL rt) ∧ zTbl (.initialized y.cls) ∧ (y.cls ≠ "java/lang/invoke/MethodHandle" ∧ y.cls ≠ "java/lang/invoke/VarHandle" ∧ (parseMethodDescriptor y.desc).map (fun d => d.parameters.length) = some n) ∧ rm.cells = mc ∧ rm.slots = ms ∧ rm.frames + 1 ≤ R.frames ∧ 8 + (maxL + 11) + rm.locals ≤ R.locals
theorem zCall.B (F : zF E D A cc own nL ret) {y : MethodName} {cb : ByteArray} {maxL : Nat} {rt : Option FieldType} {rm : Room} {mc ms n index : Nat} (h : zCall E.2.2.2.1 y cb maxL rt rm mc ms n) (hl : zTbl (.methodLink own index y)) : CallB E.2.2.2.1 E.2.2.2.2.1 E.2.2.2.2.2.2.1 own index y cb maxL rt [.code y cb maxL rt] rm mc ms n := by
  obtain ⟨c1, c2, c3, c4, c5, c6, c7⟩ := h
  refine ⟨c4, c5, c6, c7, fun w hw a' U hW => ?_, List.mem_cons_self, F.w c1, F.w c2, ⟨c3.1, c3.2.1⟩, fun sig h => ?_, F.w hl⟩
  · rw [List.mem_singleton.mp hw]
    exact zword_at hW c1.2 (F.w c1)
  · have h2 := c3.2.2
    rw [h] at h2
    exact (Option.some.inj h2).symm
theorem z_callV (F : zF E D A cc own nL ret) {y : MethodName} {cb : ByteArray} {maxL : Nat} {rt : Option FieldType} {rm : Room} {mc ms n index b ci : Nat} {rv : Int32 → Option Value} {As : List Value} {τ' : zT} {o : Option (Int32 × zG)} {h : Int32 → zG → Option ρ} {C : vw_C} (hC : zCall E.2.2.2.1 y cb maxL rt rm mc ms n) (hM : zCon E.2.1 D y cb maxL rt rm mc ms rv (.ref b :: As) κ.1 κ.2.1 g τ' o) (hl : zTbl (.methodLink own index y)) (hin : zTbl (.instanceMethod y)) (hse : zTbl (.selects y.cls y y)) (ht : κ.2.1 b = some (.inr ci)) (hr : vwCl[ci % 11]? = some C) (hCy : C.1 = y.cls) (hn : As.length = n) (hc : κ.2.2.1 + mc ≤ E.2.2.2.1.cells ∧ κ.2.2.2 + ms ≤ E.2.2.2.1.slots) (hW : (st.map fun v => v.category).sum ≤ 8) (hd : decode cc pc = .ok (.invokevirtual index, 3))
    (kk : ∀ r g', zSim K (h r g') (zAt E D A Q nL (κ.1 + mc, τ', κ.2.2.1 + mc, κ.2.2.2 + ms) g' (pc + 3) lv ((rv r).toList ++ st))) (st0 : List Value) (hst : st0 = As.reverse ++ .ref b :: st) : zSim K (zb o h) (zAt E D A Q nL κ g pc lv st0) := by
  intro w hw hK H locs ls h1 h2 h3 h4 h5 h6
  subst hst
  cases ho : o with
  | none => rw [ho] at hw; cases hw
  | some q =>
    obtain ⟨x, g1⟩ := q
    rw [ho] at hw
    have hM2 := hM x g1 ho
    rw [← h1] at hM2
    obtain ⟨r', e1, cell, q1, q2, q3, q4⟩ := h2.2 b ci ht
    cases hr.symm.trans e1
    obtain ⟨hS, hfc, kC, hkC, hkind⟩ := F.u.2.1.1 (ci % 11) C hr
    refine z_after (o := o) (h := h) (w := w) F h1 h4 h5 h6 (va_runV (Ts := []) (As := As) (rest := st) ⟨F.ex, F.cd, F.ml, F.own, fun w hw => by cases hw⟩ hM2 ⟨hC.B F hl, F.w hin, F.w hse⟩ ⟨zP_blind, ⟨cell, q1, by rw [q3]; rfl, by rw [← hCy, q2]; exact hfc⟩, zP_at F h2 h3 h4 h5⟩ rfl hn h6.1 rfl (lv_room hW) hd hc) (kk x g1 w hw hK)
theorem z_callS (F : zF E D A cc own nL ret) {y : MethodName} {cb : ByteArray} {maxL : Nat} {rt : Option FieldType} {rm : Room} {mc ms n index : Nat} {rv : Int32 → Option Value} {As : List Value} {τ' : zT} {o : Option (Int32 × zG)} {h : Int32 → zG → Option ρ} (hC : zCall E.2.2.2.1 y cb maxL rt rm mc ms n) (hM : zCon E.2.1 D y cb maxL rt rm mc ms rv As κ.1 κ.2.1 g τ' o) (hl : zTbl (.methodLink own index y)) (hin : zTbl (.static y)) (hn : As.length = n) (hc : κ.2.2.1 + mc ≤ E.2.2.2.1.cells ∧ κ.2.2.2 + ms ≤ E.2.2.2.1.slots) (hW : (st.map fun v => v.category).sum ≤ 8) (hd : decode cc pc = .ok (.invokestatic index, 3))
    (kk : ∀ r g', zSim K (h r g') (zAt E D A Q nL (κ.1 + mc, τ', κ.2.2.1 + mc, κ.2.2.2 + ms) g' (pc + 3) lv ((rv r).toList ++ st))) (st0 : List Value) (hst : st0 = As.reverse ++ st) : zSim K (zb o h) (zAt E D A Q nL κ g pc lv st0) := by
  intro w hw hK H locs ls h1 h2 h3 h4 h5 h6
  subst hst
  cases ho : o with
  | none => rw [ho] at hw; cases hw
  | some q =>
    obtain ⟨x, g1⟩ := q
    rw [ho] at hw
    have hM2 := hM x g1 ho
    rw [← h1] at hM2
    refine z_after (o := o) (h := h) (w := w) F h1 h4 h5 h6 (va_runS (Ts := []) (As := As) (rest := st) ⟨F.ex, F.cd, F.ml, F.own, fun w hw => by cases hw⟩ hM2 ⟨hC.B F hl, F.w hin⟩ ⟨zP_blind, zP_at F h2 h3 h4 h5⟩ rfl hn h6.1 rfl (lv_room hW) hd hc) (kk x g1 w hw hK)
/-- loops -/
def zKl {σ ρ : Type} (P : σ → Prop) (K : ρ → Prop) : σ ⊕ ρ → Prop
  | .inl s => P s
  | .inr r => K r
theorem z_while {σ : Type} (P : σ → Prop) {n : Nat} {step : σ → Option (σ ⊕ ρ)} (h : ∀ s, zSim (zKl P K) (step s) (P s)) (s : σ) : zSim K (zw n step s) (P s) := by
  induction n generalizing s with
  | zero => intro r hr; cases hr
  | succ n ih =>
    intro r hr hK
    unfold zw at hr
    cases hs : step s with
    | none => rw [hs] at hr; cases hr
    | some q =>
      rw [hs] at hr
      cases q with
      | inl s' => exact h s _ hs (ih s' r hr hK)
      | inr r' => cases hr; exact h s _ hs hK
end ZC
end
section
-- ===== loops with an end, names for heaps, small machine members =====
def zN : Nat := 100000
def zk {ξ ρ : Type} (o : Option ξ) (c : ξ → Option ρ) : Option ρ := match o with
  | none => none
  | some x => c x
def zk2 {ξ ρ : Type} (o : Option (ξ ⊕ ρ)) (c : ξ → Option ρ) : Option ρ := match o with
  | none => none
  | some (.inl x) => c x
  | some (.inr r) => some r
def zmmin (x y : Int32) : Int32 := if y < x then y else x
def zmmax (x y : Int32) : Int32 := if x < y then y else x
theorem znar01 {x : Int32} (h : x = 0 ∨ x = 1) : narrow .boolean (.int x) = .int x := by
  rcases h with rfl | rfl <;> rfl
theorem zfit01 {x : Int32} (h : x = 0 ∨ x = 1) : fits .boolean (.int x) = true := by
  rcases h with rfl | rfl <;> rfl
theorem zWT.sr {τ : zT} {g : zG} {a ci k r : Nat} {sh : zS} (h : zWT τ g) (ht : τ a = some (.inr ci)) (hsh : zsh ci k = some sh) (h6 : k ≠ 6) (hr : τ r = some sh) : zWT τ (zsr g a k r) := by
  refine ⟨h.1, fun b cj hb j s2 hj => ?_, fun b hb => ?_⟩
  · show τ (zu g.2.1 a k r b j) = some s2
    by_cases hz : b = a ∧ j = k
    · obtain ⟨rfl, rfl⟩ := hz
      rw [zu_same]
      rw [ht] at hb
      cases hb
      rw [hsh] at hj
      cases hj
      exact hr
    · rw [zu_ne _ _ hz]
      exact h.2.1 b cj hb j s2 hj
  · show zu g.2.1 a k r b 6 = 0 ∨ τ (zu g.2.1 a k r b 6) = some (.inr 1)
    rw [zu_ne _ _ (fun z => h6 z.2.symm)]
    exact h.2.2 b hb
section ZL
variable {ρ : Type} {K : ρ → Prop} {f f1 f2 : Option ρ} {E : zE} {D : zD} {A : Nat → Prop} {Q : State → Prop} {nL : Nat} {κ : zC} {g : zG} {pc : Nat} {lv lv' : List (Nat × Value)} {st : List Value} {cc : ByteArray} {own : String} {ret : Option FieldType}
theorem z_letg {e : zG} {h : zG → Option ρ} (k : ∀ x, zSim K (h x) (zAt E D A Q nL κ x pc lv st)) : zSim K (zl e h) (zAt E D A Q nL κ e pc lv st) := k e
theorem z_iincl (F : zF E D A cc own nL ret) {i : Nat} {n : Int} {x y : Int32} {lv' : Int32 → List (Nat × Value)} {h : Int32 → Option ρ} (j : Nat) (hj : lv[j]? = some (i, .int x)) (hv : Int32.ofInt n = y) (hn : i < nL) (hd : decode cc pc = .ok (.iinc i n, 3)) (hl : ∀ v, (i, Value.int v) :: lv.filter (fun q => !(q.1 == i) && !(q.1 + 1 == i && q.2.category == 2)) = lv' v) (k : ∀ v, zSim K (h v) (zAt E D A Q nL κ g (pc + 3) (lv' v) st)) : zSim K (zl (x + y) h) (zAt E D A Q nL κ g pc lv st) :=
  z_iinc F j hj (by rw [hv]) hn hd (hl (x + y)) (k (x + y))
theorem z_loop {σ ξ : Type} (P : σ → Prop) (Px : ξ → Prop) {n : Nat} {step : σ → Option (σ ⊕ ξ)} {c : ξ → Option ρ} (s : σ) (h : ∀ s, zSim (zKl P Px) (step s) (P s)) (hx : ∀ x, zSim K (c x) (Px x)) : zSim K (zk (zw n step s) c) (P s) := by
  intro r hr hK
  cases hz : zw n step s with
  | none => rw [hz] at hr; cases hr
  | some x =>
    rw [hz] at hr
    exact z_while (K := Px) P h s x hz (hx x r hr hK)
theorem z_loop2 {σ ξ : Type} (P : σ → Prop) (Px : ξ → Prop) {n : Nat} {step : σ → Option (σ ⊕ (ξ ⊕ ρ))} {c : ξ → Option ρ} (s : σ) (h : ∀ s, zSim (zKl P (zKl Px K)) (step s) (P s)) (hx : ∀ x, zSim K (c x) (Px x)) : zSim K (zk2 (zw n step s) c) (P s) := by
  intro r hr hK
  cases hz : zw n step s with
  | none => rw [hz] at hr; cases hr
  | some q =>
    rw [hz] at hr
    cases q with
    | inl x => exact z_while (K := zKl Px K) P h s _ hz (hx x r hr hK)
    | inr r' => cases hr; exact z_while (K := zKl Px K) P h s _ hz hK
theorem z_wt (k : zWT κ.2.1 g → zSim K f (zAt E D A Q nL κ g pc lv st)) : zSim K f (zAt E D A Q nL κ g pc lv st) :=
  fun r hr hK H locs ls h1 h2 h3 h4 h5 h6 => k h3 r hr hK H locs ls h1 h2 h3 h4 h5 h6
theorem z_ifnull (F : zF E D A cc own nL ret) {x : Nat} {off : Int} {tgt : Nat} [dz : Decidable (x = 0)] (hd : decode cc pc = .ok (.ifnull off, 3)) (ht : (pc : Int) + off = (tgt : Int)) (kt : x = 0 → zSim K f1 (zAt E D A Q nL κ g tgt lv st)) (kf : ¬ x = 0 → zSim K f2 (zAt E D A Q nL κ g (pc + 3) lv st)) : zSim K (if x = 0 then f1 else f2) (zAt E D A Q nL κ g pc lv (zref x :: st)) := by
  intro r hr hK H locs ls h1 h2 h3 h4 h5 h6
  by_cases hz : x = 0
  · rw [if_pos hz] at hr
    have e : zref x = .null := by simp [zref, hz]
    rw [e]
    exact lv_ifnullN F.ex F.cd hd ht (kt hz r hr hK H locs ls h1 h2 h3 h4 h5 h6)
  · rw [if_neg hz] at hr
    have e : zref x = .ref x := by simp [zref, hz]
    rw [e]
    exact lv_ifnull F.ex F.cd hd (kf hz r hr hK H locs ls h1 h2 h3 h4 h5 h6)
theorem z_mmax (F : zF E D A cc own nL ret) {index : Nat} {x y : Int32} (hl : zTbl (.methodLink own index Lib.Math.max.name)) (hs : zTbl (.static Lib.Math.max.name)) (hi : zTbl (.initialized "java/lang/Math")) (hc : zTbl (.code Lib.Math.max.name Lib.Math.max.code 2 (some .int))) (hR : 1 ≤ E.2.2.2.1.frames ∧ 21 ≤ E.2.2.2.1.locals) (hκ : κ.2.2.1 ≤ E.2.2.2.1.cells ∧ κ.2.2.2 ≤ E.2.2.2.1.slots) (hW : (st.map fun v => v.category).sum ≤ 8) (hd : decode cc pc = .ok (.invokestatic index, 3)) (k : zSim K f (zAt E D A Q nL κ g (pc + 3) lv (.int (zmmax x y) :: st))) : zSim K f (zAt E D A Q nL κ g pc lv (.int y :: .int x :: st)) :=
  fun r hr hK H locs ls h1 h2 h3 h4 h5 h6 => va_mmax F.ex F.cd (by rw [F.ml, h6.1]) F.own (F.w hl) (F.w hs) (F.w hi) (F.w hc) hR.1 (by omega) hκ.1 hκ.2 hd (k r hr hK H locs ls h1 h2 h3 h4 h5 h6)
theorem z_mmin (F : zF E D A cc own nL ret) {index : Nat} {x y : Int32} (hl : zTbl (.methodLink own index Lib.Math.min.name)) (hs : zTbl (.static Lib.Math.min.name)) (hi : zTbl (.initialized "java/lang/Math")) (hc : zTbl (.code Lib.Math.min.name Lib.Math.min.code 2 (some .int))) (hR : 1 ≤ E.2.2.2.1.frames ∧ 21 ≤ E.2.2.2.1.locals) (hκ : κ.2.2.1 ≤ E.2.2.2.1.cells ∧ κ.2.2.2 ≤ E.2.2.2.1.slots) (hW : (st.map fun v => v.category).sum ≤ 8) (hd : decode cc pc = .ok (.invokestatic index, 3)) (k : zSim K f (zAt E D A Q nL κ g (pc + 3) lv (.int (zmmin x y) :: st))) : zSim K f (zAt E D A Q nL κ g pc lv (.int y :: .int x :: st)) :=
  fun r hr hK H locs ls h1 h2 h3 h4 h5 h6 => va_mmin F.ex F.cd (by rw [F.ml, h6.1]) F.own (F.w hl) (F.w hs) (F.w hi) (F.w hc) hR.1 (by omega) hκ.1 hκ.2 hd (k r hr hK H locs ls h1 h2 h3 h4 h5 h6)
end ZL
end
section
theorem gf_X9_12 {ρ : Type} {K : ρ → Prop} {f : Option ρ} {E : zE} {D : zD} {A : Nat → Prop} {Q : State → Prop} {nL : Nat} {κ : zC} {g : zG} {pc : Nat} {lv : List (Nat × Value)} {st : List Value} {cc : ByteArray} {ret : Option FieldType} (F : zF E D A cc "TypeChain" nL ret) {a : Nat} (ht : κ.2.1 a = some (.inr 9)) (hd : decode cc pc = .ok (.getfield 12, 3)) (kk : κ.2.1 (g.2.1 a 0) = some (.inr 5) → zSim K f (zAt E D A Q nL κ g (pc + 3) lv (.ref (g.2.1 a 0) :: st))) : zSim K f (zAt E D A Q nL κ g pc lv (.ref a :: st)) := z_wt (fun hw => z_get F (r := (RX9, TX9, 11)) (k := 0) ht rfl inZ9 (by decide) q_384 (fun _ => zref_pos hw.1 (hw.2.1 a _ ht 0 _ rfl)) hd (kk (hw.2.1 a _ ht 0 _ rfl)))
theorem pf_X9_12 {ρ : Type} {K : ρ → Prop} {f : Option ρ} {E : zE} {D : zD} {A : Nat → Prop} {Q : State → Prop} {nL : Nat} {κ : zC} {g : zG} {pc : Nat} {lv : List (Nat × Value)} {st : List Value} {cc : ByteArray} {ret : Option FieldType} (F : zF E D A cc "TypeChain" nL ret) {a : Nat} (ht : κ.2.1 a = some (.inr 9)) {x : Nat} (hx : κ.2.1 x = some (.inr 5)) (hd : decode cc pc = .ok (.putfield 12, 3)) (kk : zSim K f (zAt E D A Q nL κ (zsr g a 0 x) (pc + 3) lv st)) : zSim K f (zAt E D A Q nL κ g pc lv (.ref x :: .ref a :: st)) := z_wt (fun hw => z_put0 F (r := (RX9, TX9, 11)) (k := 0) ht rfl inZ9 tyX9_ok nmX9 (by decide) q_384 rfl rfl rfl (zOne_r g a 0 x) ((congrArg zref (zu_same g.2.1 a 0 x)).trans (zref_pos hw.1 hx)) (fun h => h.sr ht rfl (by decide) hx) hd kk)
theorem gf_X9_16 {ρ : Type} {K : ρ → Prop} {f : Option ρ} {E : zE} {D : zD} {A : Nat → Prop} {Q : State → Prop} {nL : Nat} {κ : zC} {g : zG} {pc : Nat} {lv : List (Nat × Value)} {st : List Value} {cc : ByteArray} {ret : Option FieldType} (F : zF E D A cc "TypeChain" nL ret) {a : Nat} (ht : κ.2.1 a = some (.inr 9)) (hd : decode cc pc = .ok (.getfield 16, 3)) (kk : κ.2.1 (g.2.1 a 1) = some (.inr 5) → zSim K f (zAt E D A Q nL κ g (pc + 3) lv (.ref (g.2.1 a 1) :: st))) : zSim K f (zAt E D A Q nL κ g pc lv (.ref a :: st)) := z_wt (fun hw => z_get F (r := (RX9, TX9, 11)) (k := 1) ht rfl inZ9 (by decide) q_385 (fun _ => zref_pos hw.1 (hw.2.1 a _ ht 1 _ rfl)) hd (kk (hw.2.1 a _ ht 1 _ rfl)))
theorem pf_X9_16 {ρ : Type} {K : ρ → Prop} {f : Option ρ} {E : zE} {D : zD} {A : Nat → Prop} {Q : State → Prop} {nL : Nat} {κ : zC} {g : zG} {pc : Nat} {lv : List (Nat × Value)} {st : List Value} {cc : ByteArray} {ret : Option FieldType} (F : zF E D A cc "TypeChain" nL ret) {a : Nat} (ht : κ.2.1 a = some (.inr 9)) {x : Nat} (hx : κ.2.1 x = some (.inr 5)) (hd : decode cc pc = .ok (.putfield 16, 3)) (kk : zSim K f (zAt E D A Q nL κ (zsr g a 1 x) (pc + 3) lv st)) : zSim K f (zAt E D A Q nL κ g pc lv (.ref x :: .ref a :: st)) := z_wt (fun hw => z_put0 F (r := (RX9, TX9, 11)) (k := 1) ht rfl inZ9 tyX9_ok nmX9 (by decide) q_385 rfl rfl rfl (zOne_r g a 1 x) ((congrArg zref (zu_same g.2.1 a 1 x)).trans (zref_pos hw.1 hx)) (fun h => h.sr ht rfl (by decide) hx) hd kk)
theorem gf_X9_22 {ρ : Type} {K : ρ → Prop} {f : Option ρ} {E : zE} {D : zD} {A : Nat → Prop} {Q : State → Prop} {nL : Nat} {κ : zC} {g : zG} {pc : Nat} {lv : List (Nat × Value)} {st : List Value} {cc : ByteArray} {ret : Option FieldType} (F : zF E D A cc "TypeChain" nL ret) {a : Nat} (ht : κ.2.1 a = some (.inr 9)) (hd : decode cc pc = .ok (.getfield 22, 3)) (kk : κ.2.1 (g.2.1 a 2) = some (.inr 4) → zSim K f (zAt E D A Q nL κ g (pc + 3) lv (.ref (g.2.1 a 2) :: st))) : zSim K f (zAt E D A Q nL κ g pc lv (.ref a :: st)) := z_wt (fun hw => z_get F (r := (RX9, TX9, 11)) (k := 2) ht rfl inZ9 (by decide) q_386 (fun _ => zref_pos hw.1 (hw.2.1 a _ ht 2 _ rfl)) hd (kk (hw.2.1 a _ ht 2 _ rfl)))
theorem gf_X9_29 {ρ : Type} {K : ρ → Prop} {f : Option ρ} {E : zE} {D : zD} {A : Nat → Prop} {Q : State → Prop} {nL : Nat} {κ : zC} {g : zG} {pc : Nat} {lv : List (Nat × Value)} {st : List Value} {cc : ByteArray} {ret : Option FieldType} (F : zF E D A cc "TypeChain" nL ret) {a : Nat} (ht : κ.2.1 a = some (.inr 9)) (hd : decode cc pc = .ok (.getfield 29, 3)) (kk : κ.2.1 (g.2.1 a 3) = some (.inr 1) → zSim K f (zAt E D A Q nL κ g (pc + 3) lv (.ref (g.2.1 a 3) :: st))) : zSim K f (zAt E D A Q nL κ g pc lv (.ref a :: st)) := z_wt (fun hw => z_get F (r := (RX9, TX9, 11)) (k := 3) ht rfl inZ9 (by decide) q_387 (fun _ => zref_pos hw.1 (hw.2.1 a _ ht 3 _ rfl)) hd (kk (hw.2.1 a _ ht 3 _ rfl)))
theorem gf_X9_35 {ρ : Type} {K : ρ → Prop} {f : Option ρ} {E : zE} {D : zD} {A : Nat → Prop} {Q : State → Prop} {nL : Nat} {κ : zC} {g : zG} {pc : Nat} {lv : List (Nat × Value)} {st : List Value} {cc : ByteArray} {ret : Option FieldType} (F : zF E D A cc "TypeChain" nL ret) {a : Nat} (ht : κ.2.1 a = some (.inr 5)) (hd : decode cc pc = .ok (.getfield 35, 3)) (kk : κ.2.1 (g.2.1 a 0) = some (.inr 0) → zSim K f (zAt E D A Q nL κ g (pc + 3) lv (.ref (g.2.1 a 0) :: st))) : zSim K f (zAt E D A Q nL κ g pc lv (.ref a :: st)) := z_wt (fun hw => z_get F (r := (RX5, TX5, 4)) (k := 0) ht rfl inZ5 (by decide) q_136 (fun _ => zref_pos hw.1 (hw.2.1 a _ ht 0 _ rfl)) hd (kk (hw.2.1 a _ ht 0 _ rfl)))
theorem gf_X9_42 {ρ : Type} {K : ρ → Prop} {f : Option ρ} {E : zE} {D : zD} {A : Nat → Prop} {Q : State → Prop} {nL : Nat} {κ : zC} {g : zG} {pc : Nat} {lv : List (Nat × Value)} {st : List Value} {cc : ByteArray} {ret : Option FieldType} (F : zF E D A cc "TypeChain" nL ret) {a : Nat} (ht : κ.2.1 a = some (.inr 9)) (hd : decode cc pc = .ok (.getfield 42, 3)) (kk : κ.2.1 (g.2.1 a 4) = some (.inr 2) → zSim K f (zAt E D A Q nL κ g (pc + 3) lv (.ref (g.2.1 a 4) :: st))) : zSim K f (zAt E D A Q nL κ g pc lv (.ref a :: st)) := z_wt (fun hw => z_get F (r := (RX9, TX9, 11)) (k := 4) ht rfl inZ9 (by decide) q_388 (fun _ => zref_pos hw.1 (hw.2.1 a _ ht 4 _ rfl)) hd (kk (hw.2.1 a _ ht 4 _ rfl)))
theorem gf_X9_51 {ρ : Type} {K : ρ → Prop} {f : Option ρ} {E : zE} {D : zD} {A : Nat → Prop} {Q : State → Prop} {nL : Nat} {κ : zC} {g : zG} {pc : Nat} {lv : List (Nat × Value)} {st : List Value} {cc : ByteArray} {ret : Option FieldType} (F : zF E D A cc "TypeChain" nL ret) {a : Nat} (ht : κ.2.1 a = some (.inr 9)) (hd : decode cc pc = .ok (.getfield 51, 3)) (kk : κ.2.1 (g.2.1 a 5) = some (.inr 8) → zSim K f (zAt E D A Q nL κ g (pc + 3) lv (.ref (g.2.1 a 5) :: st))) : zSim K f (zAt E D A Q nL κ g pc lv (.ref a :: st)) := z_wt (fun hw => z_get F (r := (RX9, TX9, 11)) (k := 5) ht rfl inZ9 (by decide) q_389 (fun _ => zref_pos hw.1 (hw.2.1 a _ ht 5 _ rfl)) hd (kk (hw.2.1 a _ ht 5 _ rfl)))
theorem gf_X9_58 {ρ : Type} {K : ρ → Prop} {f : Option ρ} {E : zE} {D : zD} {A : Nat → Prop} {Q : State → Prop} {nL : Nat} {κ : zC} {g : zG} {pc : Nat} {lv : List (Nat × Value)} {st : List Value} {cc : ByteArray} {ret : Option FieldType} (F : zF E D A cc "TypeChain" nL ret) {a : Nat} (ht : κ.2.1 a = some (.inr 9)) (hd : decode cc pc = .ok (.getfield 58, 3)) (kk : κ.2.1 (g.2.1 a 6) = some (.inr 6) → zSim K f (zAt E D A Q nL κ g (pc + 3) lv (.ref (g.2.1 a 6) :: st))) : zSim K f (zAt E D A Q nL κ g pc lv (.ref a :: st)) := z_wt (fun hw => z_get F (r := (RX9, TX9, 11)) (k := 6) ht rfl inZ9 (by decide) q_390 (fun _ => zref_pos hw.1 (hw.2.1 a _ ht 6 _ rfl)) hd (kk (hw.2.1 a _ ht 6 _ rfl)))
theorem gf_X9_66 {ρ : Type} {K : ρ → Prop} {f : Option ρ} {E : zE} {D : zD} {A : Nat → Prop} {Q : State → Prop} {nL : Nat} {κ : zC} {g : zG} {pc : Nat} {lv : List (Nat × Value)} {st : List Value} {cc : ByteArray} {ret : Option FieldType} (F : zF E D A cc "TypeChain" nL ret) {a : Nat} (ht : κ.2.1 a = some (.inr 4)) (hd : decode cc pc = .ok (.getfield 66, 3)) (kk : zSim K f (zAt E D A Q nL κ g (pc + 3) lv (.int (g.1 a 1) :: st))) : zSim K f (zAt E D A Q nL κ g pc lv (.ref a :: st)) := z_get F (r := (RX4, TX4, 14)) (k := 1) ht rfl inZ4 (by decide) q_168 (fun _ => rfl) hd kk
theorem pf_X9_66 {ρ : Type} {K : ρ → Prop} {f : Option ρ} {E : zE} {D : zD} {A : Nat → Prop} {Q : State → Prop} {nL : Nat} {κ : zC} {g : zG} {pc : Nat} {lv : List (Nat × Value)} {st : List Value} {cc : ByteArray} {ret : Option FieldType} (F : zF E D A cc "TypeChain" nL ret) {a : Nat} (ht : κ.2.1 a = some (.inr 4)) {x : Int32} (hd : decode cc pc = .ok (.putfield 66, 3)) (kk : zSim K f (zAt E D A Q nL κ (zsi g a 1 x) (pc + 3) lv st)) : zSim K f (zAt E D A Q nL κ g pc lv (.int x :: .ref a :: st)) := z_put0 F (r := (RX4, TX4, 14)) (k := 1) ht rfl inZ4 tyX4_ok nmX4 (by decide) q_168 rfl rfl rfl (zOne_i g a 1 x) (congrArg Value.int (zu_same g.1 a 1 x)) (fun h => h.si _ _ _) hd kk
theorem gf_X9_74 {ρ : Type} {K : ρ → Prop} {f : Option ρ} {E : zE} {D : zD} {A : Nat → Prop} {Q : State → Prop} {nL : Nat} {κ : zC} {g : zG} {pc : Nat} {lv : List (Nat × Value)} {st : List Value} {cc : ByteArray} {ret : Option FieldType} (F : zF E D A cc "TypeChain" nL ret) {a : Nat} (ht : κ.2.1 a = some (.inr 4)) (hd : decode cc pc = .ok (.getfield 74, 3)) (kk : zSim K f (zAt E D A Q nL κ g (pc + 3) lv (.int (g.1 a 3) :: st))) : zSim K f (zAt E D A Q nL κ g pc lv (.ref a :: st)) := z_get F (r := (RX4, TX4, 14)) (k := 3) ht rfl inZ4 (by decide) q_171 (fun _ => rfl) hd kk
theorem pf_X9_74 {ρ : Type} {K : ρ → Prop} {f : Option ρ} {E : zE} {D : zD} {A : Nat → Prop} {Q : State → Prop} {nL : Nat} {κ : zC} {g : zG} {pc : Nat} {lv : List (Nat × Value)} {st : List Value} {cc : ByteArray} {ret : Option FieldType} (F : zF E D A cc "TypeChain" nL ret) {a : Nat} (ht : κ.2.1 a = some (.inr 4)) {x : Int32} (hd : decode cc pc = .ok (.putfield 74, 3)) (kk : zSim K f (zAt E D A Q nL κ (zsi g a 3 x) (pc + 3) lv st)) : zSim K f (zAt E D A Q nL κ g pc lv (.int x :: .ref a :: st)) := z_put0 F (r := (RX4, TX4, 14)) (k := 3) ht rfl inZ4 tyX4_ok nmX4 (by decide) q_171 rfl rfl rfl (zOne_i g a 3 x) (congrArg Value.int (zu_same g.1 a 3 x)) (fun h => h.si _ _ _) hd kk
theorem gf_X9_80 {ρ : Type} {K : ρ → Prop} {f : Option ρ} {E : zE} {D : zD} {A : Nat → Prop} {Q : State → Prop} {nL : Nat} {κ : zC} {g : zG} {pc : Nat} {lv : List (Nat × Value)} {st : List Value} {cc : ByteArray} {ret : Option FieldType} (F : zF E D A cc "TypeChain" nL ret) {a : Nat} (ht : κ.2.1 a = some (.inr 4)) (hd : decode cc pc = .ok (.getfield 80, 3)) (kk : zSim K f (zAt E D A Q nL κ g (pc + 3) lv (.int (g.1 a 4) :: st))) : zSim K f (zAt E D A Q nL κ g pc lv (.ref a :: st)) := z_get F (r := (RX4, TX4, 14)) (k := 4) ht rfl inZ4 (by decide) q_174 (fun _ => rfl) hd kk
theorem pf_X9_80 {ρ : Type} {K : ρ → Prop} {f : Option ρ} {E : zE} {D : zD} {A : Nat → Prop} {Q : State → Prop} {nL : Nat} {κ : zC} {g : zG} {pc : Nat} {lv : List (Nat × Value)} {st : List Value} {cc : ByteArray} {ret : Option FieldType} (F : zF E D A cc "TypeChain" nL ret) {a : Nat} (ht : κ.2.1 a = some (.inr 4)) {x : Int32} (hd : decode cc pc = .ok (.putfield 80, 3)) (kk : zSim K f (zAt E D A Q nL κ (zsi g a 4 x) (pc + 3) lv st)) : zSim K f (zAt E D A Q nL κ g pc lv (.int x :: .ref a :: st)) := z_put0 F (r := (RX4, TX4, 14)) (k := 4) ht rfl inZ4 tyX4_ok nmX4 (by decide) q_174 rfl rfl rfl (zOne_i g a 4 x) (congrArg Value.int (zu_same g.1 a 4 x)) (fun h => h.si _ _ _) hd kk
theorem gf_X9_83 {ρ : Type} {K : ρ → Prop} {f : Option ρ} {E : zE} {D : zD} {A : Nat → Prop} {Q : State → Prop} {nL : Nat} {κ : zC} {g : zG} {pc : Nat} {lv : List (Nat × Value)} {st : List Value} {cc : ByteArray} {ret : Option FieldType} (F : zF E D A cc "TypeChain" nL ret) {a : Nat} (ht : κ.2.1 a = some (.inr 4)) (hd : decode cc pc = .ok (.getfield 83, 3)) (kk : zSim K f (zAt E D A Q nL κ g (pc + 3) lv (.int (g.1 a 2) :: st))) : zSim K f (zAt E D A Q nL κ g pc lv (.ref a :: st)) := z_get F (r := (RX4, TX4, 14)) (k := 2) ht rfl inZ4 (by decide) q_170 (fun _ => rfl) hd kk
theorem pf_X9_83 {ρ : Type} {K : ρ → Prop} {f : Option ρ} {E : zE} {D : zD} {A : Nat → Prop} {Q : State → Prop} {nL : Nat} {κ : zC} {g : zG} {pc : Nat} {lv : List (Nat × Value)} {st : List Value} {cc : ByteArray} {ret : Option FieldType} (F : zF E D A cc "TypeChain" nL ret) {a : Nat} (ht : κ.2.1 a = some (.inr 4)) {x : Int32} (hd : decode cc pc = .ok (.putfield 83, 3)) (kk : zSim K f (zAt E D A Q nL κ (zsi g a 2 x) (pc + 3) lv st)) : zSim K f (zAt E D A Q nL κ g pc lv (.int x :: .ref a :: st)) := z_put0 F (r := (RX4, TX4, 14)) (k := 2) ht rfl inZ4 tyX4_ok nmX4 (by decide) q_170 rfl rfl rfl (zOne_i g a 2 x) (congrArg Value.int (zu_same g.1 a 2 x)) (fun h => h.si _ _ _) hd kk
theorem gf_X9_86 {ρ : Type} {K : ρ → Prop} {f : Option ρ} {E : zE} {D : zD} {A : Nat → Prop} {Q : State → Prop} {nL : Nat} {κ : zC} {g : zG} {pc : Nat} {lv : List (Nat × Value)} {st : List Value} {cc : ByteArray} {ret : Option FieldType} (F : zF E D A cc "TypeChain" nL ret) {a : Nat} (ht : κ.2.1 a = some (.inr 5)) (hd : decode cc pc = .ok (.getfield 86, 3)) (kk : κ.2.1 (g.2.1 a 1) = some (.inr 3) → zSim K f (zAt E D A Q nL κ g (pc + 3) lv (.ref (g.2.1 a 1) :: st))) : zSim K f (zAt E D A Q nL κ g pc lv (.ref a :: st)) := z_wt (fun hw => z_get F (r := (RX5, TX5, 4)) (k := 1) ht rfl inZ5 (by decide) q_142 (fun _ => zref_pos hw.1 (hw.2.1 a _ ht 1 _ rfl)) hd (kk (hw.2.1 a _ ht 1 _ rfl)))
theorem gf_X9_90 {ρ : Type} {K : ρ → Prop} {f : Option ρ} {E : zE} {D : zD} {A : Nat → Prop} {Q : State → Prop} {nL : Nat} {κ : zC} {g : zG} {pc : Nat} {lv : List (Nat × Value)} {st : List Value} {cc : ByteArray} {ret : Option FieldType} (F : zF E D A cc "TypeChain" nL ret) {a : Nat} (ht : κ.2.1 a = some (.inr 3)) (hd : decode cc pc = .ok (.getfield 90, 3)) (kk : zSim K f (zAt E D A Q nL κ g (pc + 3) lv (.int (g.1 a 5) :: st))) : zSim K f (zAt E D A Q nL κ g pc lv (.ref a :: st)) := z_get F (r := (RX3, TX3, 7)) (k := 5) ht rfl inZ3 (by decide) q_87 (fun _ => rfl) hd kk
theorem pf_X9_90 {ρ : Type} {K : ρ → Prop} {f : Option ρ} {E : zE} {D : zD} {A : Nat → Prop} {Q : State → Prop} {nL : Nat} {κ : zC} {g : zG} {pc : Nat} {lv : List (Nat × Value)} {st : List Value} {cc : ByteArray} {ret : Option FieldType} (F : zF E D A cc "TypeChain" nL ret) {a : Nat} (ht : κ.2.1 a = some (.inr 3)) {x : Int32} (hd : decode cc pc = .ok (.putfield 90, 3)) (kk : zSim K f (zAt E D A Q nL κ (zsi g a 5 x) (pc + 3) lv st)) : zSim K f (zAt E D A Q nL κ g pc lv (.int x :: .ref a :: st)) := z_put0 F (r := (RX3, TX3, 7)) (k := 5) ht rfl inZ3 tyX3_ok nmX3 (by decide) q_87 rfl rfl rfl (zOne_i g a 5 x) (congrArg Value.int (zu_same g.1 a 5 x)) (fun h => h.si _ _ _) hd kk
theorem gf_X9_95 {ρ : Type} {K : ρ → Prop} {f : Option ρ} {E : zE} {D : zD} {A : Nat → Prop} {Q : State → Prop} {nL : Nat} {κ : zC} {g : zG} {pc : Nat} {lv : List (Nat × Value)} {st : List Value} {cc : ByteArray} {ret : Option FieldType} (F : zF E D A cc "TypeChain" nL ret) {a : Nat} (ht : κ.2.1 a = some (.inr 0)) (hd : decode cc pc = .ok (.getfield 95, 3)) (kk : zSim K f (zAt E D A Q nL κ g (pc + 3) lv (.int (g.1 a 1) :: st))) : zSim K f (zAt E D A Q nL κ g pc lv (.ref a :: st)) := z_get F (r := (RX0, TX0, 4)) (k := 1) ht rfl inZ0 (by decide) q_51 (fun _ => rfl) hd kk
theorem pf_X9_95 {ρ : Type} {K : ρ → Prop} {f : Option ρ} {E : zE} {D : zD} {A : Nat → Prop} {Q : State → Prop} {nL : Nat} {κ : zC} {g : zG} {pc : Nat} {lv : List (Nat × Value)} {st : List Value} {cc : ByteArray} {ret : Option FieldType} (F : zF E D A cc "TypeChain" nL ret) {a : Nat} (ht : κ.2.1 a = some (.inr 0)) {x : Int32} (hd : decode cc pc = .ok (.putfield 95, 3)) (kk : zSim K f (zAt E D A Q nL κ (zsi g a 1 x) (pc + 3) lv st)) : zSim K f (zAt E D A Q nL κ g pc lv (.int x :: .ref a :: st)) := z_put0 F (r := (RX0, TX0, 4)) (k := 1) ht rfl inZ0 tyX0_ok nmX0 (by decide) q_51 rfl rfl rfl (zOne_i g a 1 x) (congrArg Value.int (zu_same g.1 a 1 x)) (fun h => h.si _ _ _) hd kk
theorem gf_X9_98 {ρ : Type} {K : ρ → Prop} {f : Option ρ} {E : zE} {D : zD} {A : Nat → Prop} {Q : State → Prop} {nL : Nat} {κ : zC} {g : zG} {pc : Nat} {lv : List (Nat × Value)} {st : List Value} {cc : ByteArray} {ret : Option FieldType} (F : zF E D A cc "TypeChain" nL ret) {a : Nat} (ht : κ.2.1 a = some (.inr 5)) (hd : decode cc pc = .ok (.getfield 98, 3)) (kk : κ.2.1 (g.2.1 a 2) = some (.inl (FieldType.int, 8)) → zSim K f (zAt E D A Q nL κ g (pc + 3) lv (.ref (g.2.1 a 2) :: st))) : zSim K f (zAt E D A Q nL κ g pc lv (.ref a :: st)) := z_wt (fun hw => z_get F (r := (RX5, TX5, 4)) (k := 2) ht rfl inZ5 (by decide) q_147 (fun _ => zref_pos hw.1 (hw.2.1 a _ ht 2 _ rfl)) hd (kk (hw.2.1 a _ ht 2 _ rfl)))
theorem gf_X9_102 {ρ : Type} {K : ρ → Prop} {f : Option ρ} {E : zE} {D : zD} {A : Nat → Prop} {Q : State → Prop} {nL : Nat} {κ : zC} {g : zG} {pc : Nat} {lv : List (Nat × Value)} {st : List Value} {cc : ByteArray} {ret : Option FieldType} (F : zF E D A cc "TypeChain" nL ret) {a : Nat} (ht : κ.2.1 a = some (.inr 0)) (hd : decode cc pc = .ok (.getfield 102, 3)) (kk : κ.2.1 (g.2.1 a 0) = some (.inl (FieldType.int, 48)) → zSim K f (zAt E D A Q nL κ g (pc + 3) lv (.ref (g.2.1 a 0) :: st))) : zSim K f (zAt E D A Q nL κ g pc lv (.ref a :: st)) := z_wt (fun hw => z_get F (r := (RX0, TX0, 4)) (k := 0) ht rfl inZ0 (by decide) q_46 (fun _ => zref_pos hw.1 (hw.2.1 a _ ht 0 _ rfl)) hd (kk (hw.2.1 a _ ht 0 _ rfl)))
theorem gf_X9_109 {ρ : Type} {K : ρ → Prop} {f : Option ρ} {E : zE} {D : zD} {A : Nat → Prop} {Q : State → Prop} {nL : Nat} {κ : zC} {g : zG} {pc : Nat} {lv : List (Nat × Value)} {st : List Value} {cc : ByteArray} {ret : Option FieldType} (F : zF E D A cc "TypeChain" nL ret) {a : Nat} (ht : κ.2.1 a = some (.inr 5)) (hd : decode cc pc = .ok (.getfield 109, 3)) (kk : κ.2.1 (g.2.1 a 3) = some (.inl (FieldType.int, 60)) → zSim K f (zAt E D A Q nL κ g (pc + 3) lv (.ref (g.2.1 a 3) :: st))) : zSim K f (zAt E D A Q nL κ g pc lv (.ref a :: st)) := z_wt (fun hw => z_get F (r := (RX5, TX5, 4)) (k := 3) ht rfl inZ5 (by decide) q_150 (fun _ => zref_pos hw.1 (hw.2.1 a _ ht 3 _ rfl)) hd (kk (hw.2.1 a _ ht 3 _ rfl)))
theorem gf_X9_112 {ρ : Type} {K : ρ → Prop} {f : Option ρ} {E : zE} {D : zD} {A : Nat → Prop} {Q : State → Prop} {nL : Nat} {κ : zC} {g : zG} {pc : Nat} {lv : List (Nat × Value)} {st : List Value} {cc : ByteArray} {ret : Option FieldType} (F : zF E D A cc "TypeChain" nL ret) {a : Nat} (ht : κ.2.1 a = some (.inr 3)) (hd : decode cc pc = .ok (.getfield 112, 3)) (kk : κ.2.1 (g.2.1 a 0) = some (.inl (FieldType.int, 24)) → zSim K f (zAt E D A Q nL κ g (pc + 3) lv (.ref (g.2.1 a 0) :: st))) : zSim K f (zAt E D A Q nL κ g pc lv (.ref a :: st)) := z_wt (fun hw => z_get F (r := (RX3, TX3, 7)) (k := 0) ht rfl inZ3 (by decide) q_75 (fun _ => zref_pos hw.1 (hw.2.1 a _ ht 0 _ rfl)) hd (kk (hw.2.1 a _ ht 0 _ rfl)))
theorem gf_X9_115 {ρ : Type} {K : ρ → Prop} {f : Option ρ} {E : zE} {D : zD} {A : Nat → Prop} {Q : State → Prop} {nL : Nat} {κ : zC} {g : zG} {pc : Nat} {lv : List (Nat × Value)} {st : List Value} {cc : ByteArray} {ret : Option FieldType} (F : zF E D A cc "TypeChain" nL ret) {a : Nat} (ht : κ.2.1 a = some (.inr 3)) (hd : decode cc pc = .ok (.getfield 115, 3)) (kk : κ.2.1 (g.2.1 a 1) = some (.inl (FieldType.int, 24)) → zSim K f (zAt E D A Q nL κ g (pc + 3) lv (.ref (g.2.1 a 1) :: st))) : zSim K f (zAt E D A Q nL κ g pc lv (.ref a :: st)) := z_wt (fun hw => z_get F (r := (RX3, TX3, 7)) (k := 1) ht rfl inZ3 (by decide) q_78 (fun _ => zref_pos hw.1 (hw.2.1 a _ ht 1 _ rfl)) hd (kk (hw.2.1 a _ ht 1 _ rfl)))
theorem gf_X9_118 {ρ : Type} {K : ρ → Prop} {f : Option ρ} {E : zE} {D : zD} {A : Nat → Prop} {Q : State → Prop} {nL : Nat} {κ : zC} {g : zG} {pc : Nat} {lv : List (Nat × Value)} {st : List Value} {cc : ByteArray} {ret : Option FieldType} (F : zF E D A cc "TypeChain" nL ret) {a : Nat} (ht : κ.2.1 a = some (.inr 3)) (hd : decode cc pc = .ok (.getfield 118, 3)) (kk : κ.2.1 (g.2.1 a 3) = some (.inl (FieldType.int, 24)) → zSim K f (zAt E D A Q nL κ g (pc + 3) lv (.ref (g.2.1 a 3) :: st))) : zSim K f (zAt E D A Q nL κ g pc lv (.ref a :: st)) := z_wt (fun hw => z_get F (r := (RX3, TX3, 7)) (k := 3) ht rfl inZ3 (by decide) q_82 (fun _ => zref_pos hw.1 (hw.2.1 a _ ht 3 _ rfl)) hd (kk (hw.2.1 a _ ht 3 _ rfl)))
theorem gf_X9_141 {ρ : Type} {K : ρ → Prop} {f : Option ρ} {E : zE} {D : zD} {A : Nat → Prop} {Q : State → Prop} {nL : Nat} {κ : zC} {g : zG} {pc : Nat} {lv : List (Nat × Value)} {st : List Value} {cc : ByteArray} {ret : Option FieldType} (F : zF E D A cc "TypeChain" nL ret) {a : Nat} (ht : κ.2.1 a = some (.inr 2)) (hd : decode cc pc = .ok (.getfield 141, 3)) (kk : zSim K f (zAt E D A Q nL κ g (pc + 3) lv (.int (g.1 a 2) :: st))) : zSim K f (zAt E D A Q nL κ g pc lv (.ref a :: st)) := z_get F (r := (RX2, TX2, 9)) (k := 2) ht rfl inZ2 (by decide) q_292 (fun _ => rfl) hd kk
theorem pf_X9_141 {ρ : Type} {K : ρ → Prop} {f : Option ρ} {E : zE} {D : zD} {A : Nat → Prop} {Q : State → Prop} {nL : Nat} {κ : zC} {g : zG} {pc : Nat} {lv : List (Nat × Value)} {st : List Value} {cc : ByteArray} {ret : Option FieldType} (F : zF E D A cc "TypeChain" nL ret) {a : Nat} (ht : κ.2.1 a = some (.inr 2)) {x : Int32} (hd : decode cc pc = .ok (.putfield 141, 3)) (kk : zSim K f (zAt E D A Q nL κ (zsi g a 2 x) (pc + 3) lv st)) : zSim K f (zAt E D A Q nL κ g pc lv (.int x :: .ref a :: st)) := z_put0 F (r := (RX2, TX2, 9)) (k := 2) ht rfl inZ2 tyX2_ok nmX2 (by decide) q_292 rfl rfl rfl (zOne_i g a 2 x) (congrArg Value.int (zu_same g.1 a 2 x)) (fun h => h.si _ _ _) hd kk
theorem gf_X9_141_h {ρ : Type} {K : ρ → Prop} {f : Option ρ} {E : zE} {D : zD} {A : Nat → Prop} {Q : State → Prop} {nL : Nat} {κ : zC} {g : zG} {pc : Nat} {lv : List (Nat × Value)} {st : List Value} {cc : ByteArray} {ret : Option FieldType} (F : zF E D A cc "TypeChain" nL ret) {a : Nat} (ht : κ.2.1 a = some (.inr 24)) (hd : decode cc pc = .ok (.getfield 141, 3)) (kk : zSim K f (zAt E D A Q nL κ g (pc + 3) lv (.int (g.1 a 2) :: st))) : zSim K f (zAt E D A Q nL κ g pc lv (.ref a :: st)) := z_get F (r := (RX2, TX2, 9)) (k := 2) ht rfl inZ2 (by decide) q_292 (fun _ => rfl) hd kk
theorem pf_X9_141_h {ρ : Type} {K : ρ → Prop} {f : Option ρ} {E : zE} {D : zD} {A : Nat → Prop} {Q : State → Prop} {nL : Nat} {κ : zC} {g : zG} {pc : Nat} {lv : List (Nat × Value)} {st : List Value} {cc : ByteArray} {ret : Option FieldType} (F : zF E D A cc "TypeChain" nL ret) {a : Nat} (ht : κ.2.1 a = some (.inr 24)) {x : Int32} (hd : decode cc pc = .ok (.putfield 141, 3)) (kk : zSim K f (zAt E D A Q nL κ (zsi g a 2 x) (pc + 3) lv st)) : zSim K f (zAt E D A Q nL κ g pc lv (.int x :: .ref a :: st)) := z_put0 F (r := (RX2, TX2, 9)) (k := 2) ht rfl inZ2 tyX2_ok nmX2 (by decide) q_292 rfl rfl rfl (zOne_i g a 2 x) (congrArg Value.int (zu_same g.1 a 2 x)) (fun h => h.si _ _ _) hd kk
theorem gf_X9_144 {ρ : Type} {K : ρ → Prop} {f : Option ρ} {E : zE} {D : zD} {A : Nat → Prop} {Q : State → Prop} {nL : Nat} {κ : zC} {g : zG} {pc : Nat} {lv : List (Nat × Value)} {st : List Value} {cc : ByteArray} {ret : Option FieldType} (F : zF E D A cc "TypeChain" nL ret) {a : Nat} (ht : κ.2.1 a = some (.inr 2)) (hd : decode cc pc = .ok (.getfield 144, 3)) (kk : κ.2.1 (g.2.1 a 0) = some (.inl (FieldType.int, 40)) → zSim K f (zAt E D A Q nL κ g (pc + 3) lv (.ref (g.2.1 a 0) :: st))) : zSim K f (zAt E D A Q nL κ g pc lv (.ref a :: st)) := z_wt (fun hw => z_get F (r := (RX2, TX2, 9)) (k := 0) ht rfl inZ2 (by decide) q_287 (fun _ => zref_pos hw.1 (hw.2.1 a _ ht 0 _ rfl)) hd (kk (hw.2.1 a _ ht 0 _ rfl)))
theorem gf_X9_144_h {ρ : Type} {K : ρ → Prop} {f : Option ρ} {E : zE} {D : zD} {A : Nat → Prop} {Q : State → Prop} {nL : Nat} {κ : zC} {g : zG} {pc : Nat} {lv : List (Nat × Value)} {st : List Value} {cc : ByteArray} {ret : Option FieldType} (F : zF E D A cc "TypeChain" nL ret) {a : Nat} (ht : κ.2.1 a = some (.inr 24)) (hd : decode cc pc = .ok (.getfield 144, 3)) (kk : κ.2.1 (g.2.1 a 0) = some (.inl (FieldType.int, 40)) → zSim K f (zAt E D A Q nL κ g (pc + 3) lv (.ref (g.2.1 a 0) :: st))) : zSim K f (zAt E D A Q nL κ g pc lv (.ref a :: st)) := z_wt (fun hw => z_get F (r := (RX2, TX2, 9)) (k := 0) ht rfl inZ2 (by decide) q_287 (fun _ => zref_pos hw.1 (hw.2.1 a _ ht 0 _ rfl)) hd (kk (hw.2.1 a _ ht 0 _ rfl)))
theorem gf_X9_149 {ρ : Type} {K : ρ → Prop} {f : Option ρ} {E : zE} {D : zD} {A : Nat → Prop} {Q : State → Prop} {nL : Nat} {κ : zC} {g : zG} {pc : Nat} {lv : List (Nat × Value)} {st : List Value} {cc : ByteArray} {ret : Option FieldType} (F : zF E D A cc "TypeChain" nL ret) {a : Nat} (ht : κ.2.1 a = some (.inr 8)) (hd : decode cc pc = .ok (.getfield 149, 3)) (kk : κ.2.1 (g.2.1 a 0) = some (.inr 2) → zSim K f (zAt E D A Q nL κ g (pc + 3) lv (.ref (g.2.1 a 0) :: st))) : zSim K f (zAt E D A Q nL κ g pc lv (.ref a :: st)) := z_wt (fun hw => z_get F (r := (RX8, TX8, 9)) (k := 0) ht rfl inZ8 (by decide) q_332 (fun _ => zref_pos hw.1 (hw.2.1 a _ ht 0 _ rfl)) hd (kk (hw.2.1 a _ ht 0 _ rfl)))
theorem gf_X9_150 {ρ : Type} {K : ρ → Prop} {f : Option ρ} {E : zE} {D : zD} {A : Nat → Prop} {Q : State → Prop} {nL : Nat} {κ : zC} {g : zG} {pc : Nat} {lv : List (Nat × Value)} {st : List Value} {cc : ByteArray} {ret : Option FieldType} (F : zF E D A cc "TypeChain" nL ret) {a : Nat} (ht : κ.2.1 a = some (.inr 2)) (hd : decode cc pc = .ok (.getfield 150, 3)) (kk : κ.2.1 (g.2.1 a 1) = some (.inr 7) → zSim K f (zAt E D A Q nL κ g (pc + 3) lv (.ref (g.2.1 a 1) :: st))) : zSim K f (zAt E D A Q nL κ g pc lv (.ref a :: st)) := z_wt (fun hw => z_get F (r := (RX2, TX2, 9)) (k := 1) ht rfl inZ2 (by decide) q_289 (fun _ => zref_pos hw.1 (hw.2.1 a _ ht 1 _ rfl)) hd (kk (hw.2.1 a _ ht 1 _ rfl)))
theorem gf_X9_150_h {ρ : Type} {K : ρ → Prop} {f : Option ρ} {E : zE} {D : zD} {A : Nat → Prop} {Q : State → Prop} {nL : Nat} {κ : zC} {g : zG} {pc : Nat} {lv : List (Nat × Value)} {st : List Value} {cc : ByteArray} {ret : Option FieldType} (F : zF E D A cc "TypeChain" nL ret) {a : Nat} (ht : κ.2.1 a = some (.inr 24)) (hd : decode cc pc = .ok (.getfield 150, 3)) (kk : κ.2.1 (g.2.1 a 1) = some (.inr 7) → zSim K f (zAt E D A Q nL κ g (pc + 3) lv (.ref (g.2.1 a 1) :: st))) : zSim K f (zAt E D A Q nL κ g pc lv (.ref a :: st)) := z_wt (fun hw => z_get F (r := (RX2, TX2, 9)) (k := 1) ht rfl inZ2 (by decide) q_289 (fun _ => zref_pos hw.1 (hw.2.1 a _ ht 1 _ rfl)) hd (kk (hw.2.1 a _ ht 1 _ rfl)))
theorem gf_X9_164 {ρ : Type} {K : ρ → Prop} {f : Option ρ} {E : zE} {D : zD} {A : Nat → Prop} {Q : State → Prop} {nL : Nat} {κ : zC} {g : zG} {pc : Nat} {lv : List (Nat × Value)} {st : List Value} {cc : ByteArray} {ret : Option FieldType} (F : zF E D A cc "TypeChain" nL ret) {a : Nat} (ht : κ.2.1 a = some (.inr 7)) (hd : decode cc pc = .ok (.getfield 164, 3)) (kk : zSim K f (zAt E D A Q nL κ g (pc + 3) lv (.int (g.1 a 2) :: st))) : zSim K f (zAt E D A Q nL κ g pc lv (.ref a :: st)) := z_get F (r := (RX7, TX7, 9)) (k := 2) ht rfl inZ7 (by decide) q_247 (fun _ => rfl) hd kk
theorem pf_X9_164 {ρ : Type} {K : ρ → Prop} {f : Option ρ} {E : zE} {D : zD} {A : Nat → Prop} {Q : State → Prop} {nL : Nat} {κ : zC} {g : zG} {pc : Nat} {lv : List (Nat × Value)} {st : List Value} {cc : ByteArray} {ret : Option FieldType} (F : zF E D A cc "TypeChain" nL ret) {a : Nat} (ht : κ.2.1 a = some (.inr 7)) {x : Int32} (hz : x = 0 ∨ x = 1) (hd : decode cc pc = .ok (.putfield 164, 3)) (kk : zSim K f (zAt E D A Q nL κ (zsi g a 2 x) (pc + 3) lv st)) : zSim K f (zAt E D A Q nL κ g pc lv (.int x :: .ref a :: st)) := z_put0 F (r := (RX7, TX7, 9)) (k := 2) ht rfl inZ7 tyX7_ok nmX7 (by decide) q_247 rfl (znar01 hz) (zfit01 hz) (zOne_i g a 2 x) (congrArg Value.int (zu_same g.1 a 2 x)) (fun h => h.si _ _ _) hd kk
theorem gf_X9_168 {ρ : Type} {K : ρ → Prop} {f : Option ρ} {E : zE} {D : zD} {A : Nat → Prop} {Q : State → Prop} {nL : Nat} {κ : zC} {g : zG} {pc : Nat} {lv : List (Nat × Value)} {st : List Value} {cc : ByteArray} {ret : Option FieldType} (F : zF E D A cc "TypeChain" nL ret) {a : Nat} (ht : κ.2.1 a = some (.inr 7)) (hd : decode cc pc = .ok (.getfield 168, 3)) (kk : zSim K f (zAt E D A Q nL κ g (pc + 3) lv (.int (g.1 a 3) :: st))) : zSim K f (zAt E D A Q nL κ g pc lv (.ref a :: st)) := z_get F (r := (RX7, TX7, 9)) (k := 3) ht rfl inZ7 (by decide) q_249 (fun _ => rfl) hd kk
theorem pf_X9_168 {ρ : Type} {K : ρ → Prop} {f : Option ρ} {E : zE} {D : zD} {A : Nat → Prop} {Q : State → Prop} {nL : Nat} {κ : zC} {g : zG} {pc : Nat} {lv : List (Nat × Value)} {st : List Value} {cc : ByteArray} {ret : Option FieldType} (F : zF E D A cc "TypeChain" nL ret) {a : Nat} (ht : κ.2.1 a = some (.inr 7)) {x : Int32} (hd : decode cc pc = .ok (.putfield 168, 3)) (kk : zSim K f (zAt E D A Q nL κ (zsi g a 3 x) (pc + 3) lv st)) : zSim K f (zAt E D A Q nL κ g pc lv (.int x :: .ref a :: st)) := z_put0 F (r := (RX7, TX7, 9)) (k := 3) ht rfl inZ7 tyX7_ok nmX7 (by decide) q_249 rfl rfl rfl (zOne_i g a 3 x) (congrArg Value.int (zu_same g.1 a 3 x)) (fun h => h.si _ _ _) hd kk
theorem gf_X9_171 {ρ : Type} {K : ρ → Prop} {f : Option ρ} {E : zE} {D : zD} {A : Nat → Prop} {Q : State → Prop} {nL : Nat} {κ : zC} {g : zG} {pc : Nat} {lv : List (Nat × Value)} {st : List Value} {cc : ByteArray} {ret : Option FieldType} (F : zF E D A cc "TypeChain" nL ret) {a : Nat} (ht : κ.2.1 a = some (.inr 7)) (hd : decode cc pc = .ok (.getfield 171, 3)) (kk : zSim K f (zAt E D A Q nL κ g (pc + 3) lv (.int (g.1 a 4) :: st))) : zSim K f (zAt E D A Q nL κ g pc lv (.ref a :: st)) := z_get F (r := (RX7, TX7, 9)) (k := 4) ht rfl inZ7 (by decide) q_251 (fun _ => rfl) hd kk
theorem pf_X9_171 {ρ : Type} {K : ρ → Prop} {f : Option ρ} {E : zE} {D : zD} {A : Nat → Prop} {Q : State → Prop} {nL : Nat} {κ : zC} {g : zG} {pc : Nat} {lv : List (Nat × Value)} {st : List Value} {cc : ByteArray} {ret : Option FieldType} (F : zF E D A cc "TypeChain" nL ret) {a : Nat} (ht : κ.2.1 a = some (.inr 7)) {x : Int32} (hd : decode cc pc = .ok (.putfield 171, 3)) (kk : zSim K f (zAt E D A Q nL κ (zsi g a 4 x) (pc + 3) lv st)) : zSim K f (zAt E D A Q nL κ g pc lv (.int x :: .ref a :: st)) := z_put0 F (r := (RX7, TX7, 9)) (k := 4) ht rfl inZ7 tyX7_ok nmX7 (by decide) q_251 rfl rfl rfl (zOne_i g a 4 x) (congrArg Value.int (zu_same g.1 a 4 x)) (fun h => h.si _ _ _) hd kk
theorem gf_X9_174 {ρ : Type} {K : ρ → Prop} {f : Option ρ} {E : zE} {D : zD} {A : Nat → Prop} {Q : State → Prop} {nL : Nat} {κ : zC} {g : zG} {pc : Nat} {lv : List (Nat × Value)} {st : List Value} {cc : ByteArray} {ret : Option FieldType} (F : zF E D A cc "TypeChain" nL ret) {a : Nat} (ht : κ.2.1 a = some (.inr 7)) (hd : decode cc pc = .ok (.getfield 174, 3)) (kk : zSim K f (zAt E D A Q nL κ g (pc + 3) lv (.long (g.2.2 a 5) :: st))) : zSim K f (zAt E D A Q nL κ g pc lv (.ref a :: st)) := z_get F (r := (RX7, TX7, 9)) (k := 5) ht rfl inZ7 (by decide) q_253 (fun _ => rfl) hd kk
theorem pf_X9_174 {ρ : Type} {K : ρ → Prop} {f : Option ρ} {E : zE} {D : zD} {A : Nat → Prop} {Q : State → Prop} {nL : Nat} {κ : zC} {g : zG} {pc : Nat} {lv : List (Nat × Value)} {st : List Value} {cc : ByteArray} {ret : Option FieldType} (F : zF E D A cc "TypeChain" nL ret) {a : Nat} (ht : κ.2.1 a = some (.inr 7)) {x : Int64} (hd : decode cc pc = .ok (.putfield 174, 3)) (kk : zSim K f (zAt E D A Q nL κ (zsl g a 5 x) (pc + 3) lv st)) : zSim K f (zAt E D A Q nL κ g pc lv (.long x :: .ref a :: st)) := z_put0 F (r := (RX7, TX7, 9)) (k := 5) ht rfl inZ7 tyX7_ok nmX7 (by decide) q_253 rfl rfl rfl (zOne_l g a 5 x) (congrArg Value.long (zu_same g.2.2 a 5 x)) (fun h => h.sl _ _ _) hd kk
theorem gf_X9_184 {ρ : Type} {K : ρ → Prop} {f : Option ρ} {E : zE} {D : zD} {A : Nat → Prop} {Q : State → Prop} {nL : Nat} {κ : zC} {g : zG} {pc : Nat} {lv : List (Nat × Value)} {st : List Value} {cc : ByteArray} {ret : Option FieldType} (F : zF E D A cc "TypeChain" nL ret) {a : Nat} (ht : κ.2.1 a = some (.inr 7)) (hd : decode cc pc = .ok (.getfield 184, 3)) (kk : κ.2.1 (g.2.1 a 0) = some (.inl (FieldType.int, 40)) → zSim K f (zAt E D A Q nL κ g (pc + 3) lv (.ref (g.2.1 a 0) :: st))) : zSim K f (zAt E D A Q nL κ g pc lv (.ref a :: st)) := z_wt (fun hw => z_get F (r := (RX7, TX7, 9)) (k := 0) ht rfl inZ7 (by decide) q_242 (fun _ => zref_pos hw.1 (hw.2.1 a _ ht 0 _ rfl)) hd (kk (hw.2.1 a _ ht 0 _ rfl)))
theorem gf_X9_191 {ρ : Type} {K : ρ → Prop} {f : Option ρ} {E : zE} {D : zD} {A : Nat → Prop} {Q : State → Prop} {nL : Nat} {κ : zC} {g : zG} {pc : Nat} {lv : List (Nat × Value)} {st : List Value} {cc : ByteArray} {ret : Option FieldType} (F : zF E D A cc "TypeChain" nL ret) {a : Nat} (ht : κ.2.1 a = some (.inr 7)) (hd : decode cc pc = .ok (.getfield 191, 3)) (kk : κ.2.1 (g.2.1 a 1) = some (.inl (FieldType.int, 40)) → zSim K f (zAt E D A Q nL κ g (pc + 3) lv (.ref (g.2.1 a 1) :: st))) : zSim K f (zAt E D A Q nL κ g pc lv (.ref a :: st)) := z_wt (fun hw => z_get F (r := (RX7, TX7, 9)) (k := 1) ht rfl inZ7 (by decide) q_244 (fun _ => zref_pos hw.1 (hw.2.1 a _ ht 1 _ rfl)) hd (kk (hw.2.1 a _ ht 1 _ rfl)))
theorem gf_X9_205 {ρ : Type} {K : ρ → Prop} {f : Option ρ} {E : zE} {D : zD} {A : Nat → Prop} {Q : State → Prop} {nL : Nat} {κ : zC} {g : zG} {pc : Nat} {lv : List (Nat × Value)} {st : List Value} {cc : ByteArray} {ret : Option FieldType} (F : zF E D A cc "TypeChain" nL ret) {a : Nat} (ht : κ.2.1 a = some (.inr 2)) (hd : decode cc pc = .ok (.getfield 205, 3)) (kk : zSim K f (zAt E D A Q nL κ g (pc + 3) lv (.int (g.1 a 3) :: st))) : zSim K f (zAt E D A Q nL κ g pc lv (.ref a :: st)) := z_get F (r := (RX2, TX2, 9)) (k := 3) ht rfl inZ2 (by decide) q_294 (fun _ => rfl) hd kk
theorem pf_X9_205 {ρ : Type} {K : ρ → Prop} {f : Option ρ} {E : zE} {D : zD} {A : Nat → Prop} {Q : State → Prop} {nL : Nat} {κ : zC} {g : zG} {pc : Nat} {lv : List (Nat × Value)} {st : List Value} {cc : ByteArray} {ret : Option FieldType} (F : zF E D A cc "TypeChain" nL ret) {a : Nat} (ht : κ.2.1 a = some (.inr 2)) {x : Int32} (hd : decode cc pc = .ok (.putfield 205, 3)) (kk : zSim K f (zAt E D A Q nL κ (zsi g a 3 x) (pc + 3) lv st)) : zSim K f (zAt E D A Q nL κ g pc lv (.int x :: .ref a :: st)) := z_put0 F (r := (RX2, TX2, 9)) (k := 3) ht rfl inZ2 tyX2_ok nmX2 (by decide) q_294 rfl rfl rfl (zOne_i g a 3 x) (congrArg Value.int (zu_same g.1 a 3 x)) (fun h => h.si _ _ _) hd kk
theorem gf_X9_205_h {ρ : Type} {K : ρ → Prop} {f : Option ρ} {E : zE} {D : zD} {A : Nat → Prop} {Q : State → Prop} {nL : Nat} {κ : zC} {g : zG} {pc : Nat} {lv : List (Nat × Value)} {st : List Value} {cc : ByteArray} {ret : Option FieldType} (F : zF E D A cc "TypeChain" nL ret) {a : Nat} (ht : κ.2.1 a = some (.inr 24)) (hd : decode cc pc = .ok (.getfield 205, 3)) (kk : zSim K f (zAt E D A Q nL κ g (pc + 3) lv (.int (g.1 a 3) :: st))) : zSim K f (zAt E D A Q nL κ g pc lv (.ref a :: st)) := z_get F (r := (RX2, TX2, 9)) (k := 3) ht rfl inZ2 (by decide) q_294 (fun _ => rfl) hd kk
theorem pf_X9_205_h {ρ : Type} {K : ρ → Prop} {f : Option ρ} {E : zE} {D : zD} {A : Nat → Prop} {Q : State → Prop} {nL : Nat} {κ : zC} {g : zG} {pc : Nat} {lv : List (Nat × Value)} {st : List Value} {cc : ByteArray} {ret : Option FieldType} (F : zF E D A cc "TypeChain" nL ret) {a : Nat} (ht : κ.2.1 a = some (.inr 24)) {x : Int32} (hd : decode cc pc = .ok (.putfield 205, 3)) (kk : zSim K f (zAt E D A Q nL κ (zsi g a 3 x) (pc + 3) lv st)) : zSim K f (zAt E D A Q nL κ g pc lv (.int x :: .ref a :: st)) := z_put0 F (r := (RX2, TX2, 9)) (k := 3) ht rfl inZ2 tyX2_ok nmX2 (by decide) q_294 rfl rfl rfl (zOne_i g a 3 x) (congrArg Value.int (zu_same g.1 a 3 x)) (fun h => h.si _ _ _) hd kk
theorem gf_X9_208 {ρ : Type} {K : ρ → Prop} {f : Option ρ} {E : zE} {D : zD} {A : Nat → Prop} {Q : State → Prop} {nL : Nat} {κ : zC} {g : zG} {pc : Nat} {lv : List (Nat × Value)} {st : List Value} {cc : ByteArray} {ret : Option FieldType} (F : zF E D A cc "TypeChain" nL ret) {a : Nat} (ht : κ.2.1 a = some (.inr 2)) (hd : decode cc pc = .ok (.getfield 208, 3)) (kk : zSim K f (zAt E D A Q nL κ g (pc + 3) lv (.int (g.1 a 4) :: st))) : zSim K f (zAt E D A Q nL κ g pc lv (.ref a :: st)) := z_get F (r := (RX2, TX2, 9)) (k := 4) ht rfl inZ2 (by decide) q_296 (fun _ => rfl) hd kk
theorem pf_X9_208 {ρ : Type} {K : ρ → Prop} {f : Option ρ} {E : zE} {D : zD} {A : Nat → Prop} {Q : State → Prop} {nL : Nat} {κ : zC} {g : zG} {pc : Nat} {lv : List (Nat × Value)} {st : List Value} {cc : ByteArray} {ret : Option FieldType} (F : zF E D A cc "TypeChain" nL ret) {a : Nat} (ht : κ.2.1 a = some (.inr 2)) {x : Int32} (hd : decode cc pc = .ok (.putfield 208, 3)) (kk : zSim K f (zAt E D A Q nL κ (zsi g a 4 x) (pc + 3) lv st)) : zSim K f (zAt E D A Q nL κ g pc lv (.int x :: .ref a :: st)) := z_put0 F (r := (RX2, TX2, 9)) (k := 4) ht rfl inZ2 tyX2_ok nmX2 (by decide) q_296 rfl rfl rfl (zOne_i g a 4 x) (congrArg Value.int (zu_same g.1 a 4 x)) (fun h => h.si _ _ _) hd kk
theorem gf_X9_208_h {ρ : Type} {K : ρ → Prop} {f : Option ρ} {E : zE} {D : zD} {A : Nat → Prop} {Q : State → Prop} {nL : Nat} {κ : zC} {g : zG} {pc : Nat} {lv : List (Nat × Value)} {st : List Value} {cc : ByteArray} {ret : Option FieldType} (F : zF E D A cc "TypeChain" nL ret) {a : Nat} (ht : κ.2.1 a = some (.inr 24)) (hd : decode cc pc = .ok (.getfield 208, 3)) (kk : zSim K f (zAt E D A Q nL κ g (pc + 3) lv (.int (g.1 a 4) :: st))) : zSim K f (zAt E D A Q nL κ g pc lv (.ref a :: st)) := z_get F (r := (RX2, TX2, 9)) (k := 4) ht rfl inZ2 (by decide) q_296 (fun _ => rfl) hd kk
theorem pf_X9_208_h {ρ : Type} {K : ρ → Prop} {f : Option ρ} {E : zE} {D : zD} {A : Nat → Prop} {Q : State → Prop} {nL : Nat} {κ : zC} {g : zG} {pc : Nat} {lv : List (Nat × Value)} {st : List Value} {cc : ByteArray} {ret : Option FieldType} (F : zF E D A cc "TypeChain" nL ret) {a : Nat} (ht : κ.2.1 a = some (.inr 24)) {x : Int32} (hd : decode cc pc = .ok (.putfield 208, 3)) (kk : zSim K f (zAt E D A Q nL κ (zsi g a 4 x) (pc + 3) lv st)) : zSim K f (zAt E D A Q nL κ g pc lv (.int x :: .ref a :: st)) := z_put0 F (r := (RX2, TX2, 9)) (k := 4) ht rfl inZ2 tyX2_ok nmX2 (by decide) q_296 rfl rfl rfl (zOne_i g a 4 x) (congrArg Value.int (zu_same g.1 a 4 x)) (fun h => h.si _ _ _) hd kk
theorem gf_X9_214 {ρ : Type} {K : ρ → Prop} {f : Option ρ} {E : zE} {D : zD} {A : Nat → Prop} {Q : State → Prop} {nL : Nat} {κ : zC} {g : zG} {pc : Nat} {lv : List (Nat × Value)} {st : List Value} {cc : ByteArray} {ret : Option FieldType} (F : zF E D A cc "TypeChain" nL ret) {a : Nat} (ht : κ.2.1 a = some (.inr 1)) (hd : decode cc pc = .ok (.getfield 214, 3)) (kk : κ.2.1 (g.2.1 a 0) = some (.inl (FieldType.int, 2400)) → zSim K f (zAt E D A Q nL κ g (pc + 3) lv (.ref (g.2.1 a 0) :: st))) : zSim K f (zAt E D A Q nL κ g pc lv (.ref a :: st)) := z_wt (fun hw => z_get F (r := (RX1, TX1, 2)) (k := 0) ht rfl inZ1 (by decide) q_221 (fun _ => zref_pos hw.1 (hw.2.1 a _ ht 0 _ rfl)) hd (kk (hw.2.1 a _ ht 0 _ rfl)))
theorem gf_X9_215 {ρ : Type} {K : ρ → Prop} {f : Option ρ} {E : zE} {D : zD} {A : Nat → Prop} {Q : State → Prop} {nL : Nat} {κ : zC} {g : zG} {pc : Nat} {lv : List (Nat × Value)} {st : List Value} {cc : ByteArray} {ret : Option FieldType} (F : zF E D A cc "TypeChain" nL ret) {a : Nat} (ht : κ.2.1 a = some (.inr 1)) (hd : decode cc pc = .ok (.getfield 215, 3)) (kk : κ.2.1 (g.2.1 a 1) = some (.inl (FieldType.int, 2400)) → zSim K f (zAt E D A Q nL κ g (pc + 3) lv (.ref (g.2.1 a 1) :: st))) : zSim K f (zAt E D A Q nL κ g pc lv (.ref a :: st)) := z_wt (fun hw => z_get F (r := (RX1, TX1, 2)) (k := 1) ht rfl inZ1 (by decide) q_223 (fun _ => zref_pos hw.1 (hw.2.1 a _ ht 1 _ rfl)) hd (kk (hw.2.1 a _ ht 1 _ rfl)))
theorem gf_X9_218 {ρ : Type} {K : ρ → Prop} {f : Option ρ} {E : zE} {D : zD} {A : Nat → Prop} {Q : State → Prop} {nL : Nat} {κ : zC} {g : zG} {pc : Nat} {lv : List (Nat × Value)} {st : List Value} {cc : ByteArray} {ret : Option FieldType} (F : zF E D A cc "TypeChain" nL ret) {a : Nat} (ht : κ.2.1 a = some (.inr 2)) (hd : decode cc pc = .ok (.getfield 218, 3)) (kk : zSim K f (zAt E D A Q nL κ g (pc + 3) lv (.int (g.1 a 5) :: st))) : zSim K f (zAt E D A Q nL κ g pc lv (.ref a :: st)) := z_get F (r := (RX2, TX2, 9)) (k := 5) ht rfl inZ2 (by decide) q_298 (fun _ => rfl) hd kk
theorem pf_X9_218 {ρ : Type} {K : ρ → Prop} {f : Option ρ} {E : zE} {D : zD} {A : Nat → Prop} {Q : State → Prop} {nL : Nat} {κ : zC} {g : zG} {pc : Nat} {lv : List (Nat × Value)} {st : List Value} {cc : ByteArray} {ret : Option FieldType} (F : zF E D A cc "TypeChain" nL ret) {a : Nat} (ht : κ.2.1 a = some (.inr 2)) {x : Int32} (hd : decode cc pc = .ok (.putfield 218, 3)) (kk : zSim K f (zAt E D A Q nL κ (zsi g a 5 x) (pc + 3) lv st)) : zSim K f (zAt E D A Q nL κ g pc lv (.int x :: .ref a :: st)) := z_put0 F (r := (RX2, TX2, 9)) (k := 5) ht rfl inZ2 tyX2_ok nmX2 (by decide) q_298 rfl rfl rfl (zOne_i g a 5 x) (congrArg Value.int (zu_same g.1 a 5 x)) (fun h => h.si _ _ _) hd kk
theorem gf_X9_218_h {ρ : Type} {K : ρ → Prop} {f : Option ρ} {E : zE} {D : zD} {A : Nat → Prop} {Q : State → Prop} {nL : Nat} {κ : zC} {g : zG} {pc : Nat} {lv : List (Nat × Value)} {st : List Value} {cc : ByteArray} {ret : Option FieldType} (F : zF E D A cc "TypeChain" nL ret) {a : Nat} (ht : κ.2.1 a = some (.inr 24)) (hd : decode cc pc = .ok (.getfield 218, 3)) (kk : zSim K f (zAt E D A Q nL κ g (pc + 3) lv (.int (g.1 a 5) :: st))) : zSim K f (zAt E D A Q nL κ g pc lv (.ref a :: st)) := z_get F (r := (RX2, TX2, 9)) (k := 5) ht rfl inZ2 (by decide) q_298 (fun _ => rfl) hd kk
theorem pf_X9_218_h {ρ : Type} {K : ρ → Prop} {f : Option ρ} {E : zE} {D : zD} {A : Nat → Prop} {Q : State → Prop} {nL : Nat} {κ : zC} {g : zG} {pc : Nat} {lv : List (Nat × Value)} {st : List Value} {cc : ByteArray} {ret : Option FieldType} (F : zF E D A cc "TypeChain" nL ret) {a : Nat} (ht : κ.2.1 a = some (.inr 24)) {x : Int32} (hd : decode cc pc = .ok (.putfield 218, 3)) (kk : zSim K f (zAt E D A Q nL κ (zsi g a 5 x) (pc + 3) lv st)) : zSim K f (zAt E D A Q nL κ g pc lv (.int x :: .ref a :: st)) := z_put0 F (r := (RX2, TX2, 9)) (k := 5) ht rfl inZ2 tyX2_ok nmX2 (by decide) q_298 rfl rfl rfl (zOne_i g a 5 x) (congrArg Value.int (zu_same g.1 a 5 x)) (fun h => h.si _ _ _) hd kk
theorem gf_X9_224 {ρ : Type} {K : ρ → Prop} {f : Option ρ} {E : zE} {D : zD} {A : Nat → Prop} {Q : State → Prop} {nL : Nat} {κ : zC} {g : zG} {pc : Nat} {lv : List (Nat × Value)} {st : List Value} {cc : ByteArray} {ret : Option FieldType} (F : zF E D A cc "TypeChain" nL ret) {a : Nat} (ht : κ.2.1 a = some (.inr 9)) (hd : decode cc pc = .ok (.getfield 224, 3)) (kk : zSim K f (zAt E D A Q nL κ g (pc + 3) lv (.int (g.1 a 7) :: st))) : zSim K f (zAt E D A Q nL κ g pc lv (.ref a :: st)) := z_get F (r := (RX9, TX9, 11)) (k := 7) ht rfl inZ9 (by decide) q_391 (fun _ => rfl) hd kk
theorem pf_X9_224 {ρ : Type} {K : ρ → Prop} {f : Option ρ} {E : zE} {D : zD} {A : Nat → Prop} {Q : State → Prop} {nL : Nat} {κ : zC} {g : zG} {pc : Nat} {lv : List (Nat × Value)} {st : List Value} {cc : ByteArray} {ret : Option FieldType} (F : zF E D A cc "TypeChain" nL ret) {a : Nat} (ht : κ.2.1 a = some (.inr 9)) {x : Int32} (hz : x = 0 ∨ x = 1) (hd : decode cc pc = .ok (.putfield 224, 3)) (kk : zSim K f (zAt E D A Q nL κ (zsi g a 7 x) (pc + 3) lv st)) : zSim K f (zAt E D A Q nL κ g pc lv (.int x :: .ref a :: st)) := z_put0 F (r := (RX9, TX9, 11)) (k := 7) ht rfl inZ9 tyX9_ok nmX9 (by decide) q_391 rfl (znar01 hz) (zfit01 hz) (zOne_i g a 7 x) (congrArg Value.int (zu_same g.1 a 7 x)) (fun h => h.si _ _ _) hd kk
theorem gf_X9_227 {ρ : Type} {K : ρ → Prop} {f : Option ρ} {E : zE} {D : zD} {A : Nat → Prop} {Q : State → Prop} {nL : Nat} {κ : zC} {g : zG} {pc : Nat} {lv : List (Nat × Value)} {st : List Value} {cc : ByteArray} {ret : Option FieldType} (F : zF E D A cc "TypeChain" nL ret) {a : Nat} (ht : κ.2.1 a = some (.inr 9)) (hd : decode cc pc = .ok (.getfield 227, 3)) (kk : zSim K f (zAt E D A Q nL κ g (pc + 3) lv (.int (g.1 a 8) :: st))) : zSim K f (zAt E D A Q nL κ g pc lv (.ref a :: st)) := z_get F (r := (RX9, TX9, 11)) (k := 8) ht rfl inZ9 (by decide) q_392 (fun _ => rfl) hd kk
theorem pf_X9_227 {ρ : Type} {K : ρ → Prop} {f : Option ρ} {E : zE} {D : zD} {A : Nat → Prop} {Q : State → Prop} {nL : Nat} {κ : zC} {g : zG} {pc : Nat} {lv : List (Nat × Value)} {st : List Value} {cc : ByteArray} {ret : Option FieldType} (F : zF E D A cc "TypeChain" nL ret) {a : Nat} (ht : κ.2.1 a = some (.inr 9)) {x : Int32} (hd : decode cc pc = .ok (.putfield 227, 3)) (kk : zSim K f (zAt E D A Q nL κ (zsi g a 8 x) (pc + 3) lv st)) : zSim K f (zAt E D A Q nL κ g pc lv (.int x :: .ref a :: st)) := z_put0 F (r := (RX9, TX9, 11)) (k := 8) ht rfl inZ9 tyX9_ok nmX9 (by decide) q_392 rfl rfl rfl (zOne_i g a 8 x) (congrArg Value.int (zu_same g.1 a 8 x)) (fun h => h.si _ _ _) hd kk
theorem gf_X9_230 {ρ : Type} {K : ρ → Prop} {f : Option ρ} {E : zE} {D : zD} {A : Nat → Prop} {Q : State → Prop} {nL : Nat} {κ : zC} {g : zG} {pc : Nat} {lv : List (Nat × Value)} {st : List Value} {cc : ByteArray} {ret : Option FieldType} (F : zF E D A cc "TypeChain" nL ret) {a : Nat} (ht : κ.2.1 a = some (.inr 9)) (hd : decode cc pc = .ok (.getfield 230, 3)) (kk : zSim K f (zAt E D A Q nL κ g (pc + 3) lv (.int (g.1 a 9) :: st))) : zSim K f (zAt E D A Q nL κ g pc lv (.ref a :: st)) := z_get F (r := (RX9, TX9, 11)) (k := 9) ht rfl inZ9 (by decide) q_393 (fun _ => rfl) hd kk
theorem pf_X9_230 {ρ : Type} {K : ρ → Prop} {f : Option ρ} {E : zE} {D : zD} {A : Nat → Prop} {Q : State → Prop} {nL : Nat} {κ : zC} {g : zG} {pc : Nat} {lv : List (Nat × Value)} {st : List Value} {cc : ByteArray} {ret : Option FieldType} (F : zF E D A cc "TypeChain" nL ret) {a : Nat} (ht : κ.2.1 a = some (.inr 9)) {x : Int32} (hd : decode cc pc = .ok (.putfield 230, 3)) (kk : zSim K f (zAt E D A Q nL κ (zsi g a 9 x) (pc + 3) lv st)) : zSim K f (zAt E D A Q nL κ g pc lv (.int x :: .ref a :: st)) := z_put0 F (r := (RX9, TX9, 11)) (k := 9) ht rfl inZ9 tyX9_ok nmX9 (by decide) q_393 rfl rfl rfl (zOne_i g a 9 x) (congrArg Value.int (zu_same g.1 a 9 x)) (fun h => h.si _ _ _) hd kk
theorem gf_X9_233 {ρ : Type} {K : ρ → Prop} {f : Option ρ} {E : zE} {D : zD} {A : Nat → Prop} {Q : State → Prop} {nL : Nat} {κ : zC} {g : zG} {pc : Nat} {lv : List (Nat × Value)} {st : List Value} {cc : ByteArray} {ret : Option FieldType} (F : zF E D A cc "TypeChain" nL ret) {a : Nat} (ht : κ.2.1 a = some (.inr 9)) (hd : decode cc pc = .ok (.getfield 233, 3)) (kk : zSim K f (zAt E D A Q nL κ g (pc + 3) lv (.int (g.1 a 10) :: st))) : zSim K f (zAt E D A Q nL κ g pc lv (.ref a :: st)) := z_get F (r := (RX9, TX9, 11)) (k := 10) ht rfl inZ9 (by decide) q_394 (fun _ => rfl) hd kk
theorem pf_X9_233 {ρ : Type} {K : ρ → Prop} {f : Option ρ} {E : zE} {D : zD} {A : Nat → Prop} {Q : State → Prop} {nL : Nat} {κ : zC} {g : zG} {pc : Nat} {lv : List (Nat × Value)} {st : List Value} {cc : ByteArray} {ret : Option FieldType} (F : zF E D A cc "TypeChain" nL ret) {a : Nat} (ht : κ.2.1 a = some (.inr 9)) {x : Int32} (hd : decode cc pc = .ok (.putfield 233, 3)) (kk : zSim K f (zAt E D A Q nL κ (zsi g a 10 x) (pc + 3) lv st)) : zSim K f (zAt E D A Q nL κ g pc lv (.int x :: .ref a :: st)) := z_put0 F (r := (RX9, TX9, 11)) (k := 10) ht rfl inZ9 tyX9_ok nmX9 (by decide) q_394 rfl rfl rfl (zOne_i g a 10 x) (congrArg Value.int (zu_same g.1 a 10 x)) (fun h => h.si _ _ _) hd kk
theorem gf_X9_239 {ρ : Type} {K : ρ → Prop} {f : Option ρ} {E : zE} {D : zD} {A : Nat → Prop} {Q : State → Prop} {nL : Nat} {κ : zC} {g : zG} {pc : Nat} {lv : List (Nat × Value)} {st : List Value} {cc : ByteArray} {ret : Option FieldType} (F : zF E D A cc "TypeChain" nL ret) {a : Nat} (ht : κ.2.1 a = some (.inr 8)) (hd : decode cc pc = .ok (.getfield 239, 3)) (kk : zSim K f (zAt E D A Q nL κ g (pc + 3) lv (.int (g.1 a 2) :: st))) : zSim K f (zAt E D A Q nL κ g pc lv (.ref a :: st)) := z_get F (r := (RX8, TX8, 9)) (k := 2) ht rfl inZ8 (by decide) q_336 (fun _ => rfl) hd kk
theorem pf_X9_239 {ρ : Type} {K : ρ → Prop} {f : Option ρ} {E : zE} {D : zD} {A : Nat → Prop} {Q : State → Prop} {nL : Nat} {κ : zC} {g : zG} {pc : Nat} {lv : List (Nat × Value)} {st : List Value} {cc : ByteArray} {ret : Option FieldType} (F : zF E D A cc "TypeChain" nL ret) {a : Nat} (ht : κ.2.1 a = some (.inr 8)) {x : Int32} (hd : decode cc pc = .ok (.putfield 239, 3)) (kk : zSim K f (zAt E D A Q nL κ (zsi g a 2 x) (pc + 3) lv st)) : zSim K f (zAt E D A Q nL κ g pc lv (.int x :: .ref a :: st)) := z_put0 F (r := (RX8, TX8, 9)) (k := 2) ht rfl inZ8 tyX8_ok nmX8 (by decide) q_336 rfl rfl rfl (zOne_i g a 2 x) (congrArg Value.int (zu_same g.1 a 2 x)) (fun h => h.si _ _ _) hd kk
theorem gf_X9_242 {ρ : Type} {K : ρ → Prop} {f : Option ρ} {E : zE} {D : zD} {A : Nat → Prop} {Q : State → Prop} {nL : Nat} {κ : zC} {g : zG} {pc : Nat} {lv : List (Nat × Value)} {st : List Value} {cc : ByteArray} {ret : Option FieldType} (F : zF E D A cc "TypeChain" nL ret) {a : Nat} (ht : κ.2.1 a = some (.inr 8)) (hd : decode cc pc = .ok (.getfield 242, 3)) (kk : κ.2.1 (g.2.1 a 1) = some (.inl (FieldType.int, 6)) → zSim K f (zAt E D A Q nL κ g (pc + 3) lv (.ref (g.2.1 a 1) :: st))) : zSim K f (zAt E D A Q nL κ g pc lv (.ref a :: st)) := z_wt (fun hw => z_get F (r := (RX8, TX8, 9)) (k := 1) ht rfl inZ8 (by decide) q_334 (fun _ => zref_pos hw.1 (hw.2.1 a _ ht 1 _ rfl)) hd (kk (hw.2.1 a _ ht 1 _ rfl)))
theorem gf_X9_250 {ρ : Type} {K : ρ → Prop} {f : Option ρ} {E : zE} {D : zD} {A : Nat → Prop} {Q : State → Prop} {nL : Nat} {κ : zC} {g : zG} {pc : Nat} {lv : List (Nat × Value)} {st : List Value} {cc : ByteArray} {ret : Option FieldType} (F : zF E D A cc "TypeChain" nL ret) {a : Nat} (ht : κ.2.1 a = some (.inr 8)) (hd : decode cc pc = .ok (.getfield 250, 3)) (kk : zSim K f (zAt E D A Q nL κ g (pc + 3) lv (.int (g.1 a 3) :: st))) : zSim K f (zAt E D A Q nL κ g pc lv (.ref a :: st)) := z_get F (r := (RX8, TX8, 9)) (k := 3) ht rfl inZ8 (by decide) q_338 (fun _ => rfl) hd kk
theorem pf_X9_250 {ρ : Type} {K : ρ → Prop} {f : Option ρ} {E : zE} {D : zD} {A : Nat → Prop} {Q : State → Prop} {nL : Nat} {κ : zC} {g : zG} {pc : Nat} {lv : List (Nat × Value)} {st : List Value} {cc : ByteArray} {ret : Option FieldType} (F : zF E D A cc "TypeChain" nL ret) {a : Nat} (ht : κ.2.1 a = some (.inr 8)) {x : Int32} (hd : decode cc pc = .ok (.putfield 250, 3)) (kk : zSim K f (zAt E D A Q nL κ (zsi g a 3 x) (pc + 3) lv st)) : zSim K f (zAt E D A Q nL κ g pc lv (.int x :: .ref a :: st)) := z_put0 F (r := (RX8, TX8, 9)) (k := 3) ht rfl inZ8 tyX8_ok nmX8 (by decide) q_338 rfl rfl rfl (zOne_i g a 3 x) (congrArg Value.int (zu_same g.1 a 3 x)) (fun h => h.si _ _ _) hd kk
theorem gf_X9_253 {ρ : Type} {K : ρ → Prop} {f : Option ρ} {E : zE} {D : zD} {A : Nat → Prop} {Q : State → Prop} {nL : Nat} {κ : zC} {g : zG} {pc : Nat} {lv : List (Nat × Value)} {st : List Value} {cc : ByteArray} {ret : Option FieldType} (F : zF E D A cc "TypeChain" nL ret) {a : Nat} (ht : κ.2.1 a = some (.inr 8)) (hd : decode cc pc = .ok (.getfield 253, 3)) (kk : zSim K f (zAt E D A Q nL κ g (pc + 3) lv (.int (g.1 a 4) :: st))) : zSim K f (zAt E D A Q nL κ g pc lv (.ref a :: st)) := z_get F (r := (RX8, TX8, 9)) (k := 4) ht rfl inZ8 (by decide) q_340 (fun _ => rfl) hd kk
theorem pf_X9_253 {ρ : Type} {K : ρ → Prop} {f : Option ρ} {E : zE} {D : zD} {A : Nat → Prop} {Q : State → Prop} {nL : Nat} {κ : zC} {g : zG} {pc : Nat} {lv : List (Nat × Value)} {st : List Value} {cc : ByteArray} {ret : Option FieldType} (F : zF E D A cc "TypeChain" nL ret) {a : Nat} (ht : κ.2.1 a = some (.inr 8)) {x : Int32} (hd : decode cc pc = .ok (.putfield 253, 3)) (kk : zSim K f (zAt E D A Q nL κ (zsi g a 4 x) (pc + 3) lv st)) : zSim K f (zAt E D A Q nL κ g pc lv (.int x :: .ref a :: st)) := z_put0 F (r := (RX8, TX8, 9)) (k := 4) ht rfl inZ8 tyX8_ok nmX8 (by decide) q_340 rfl rfl rfl (zOne_i g a 4 x) (congrArg Value.int (zu_same g.1 a 4 x)) (fun h => h.si _ _ _) hd kk
theorem gf_X9_256 {ρ : Type} {K : ρ → Prop} {f : Option ρ} {E : zE} {D : zD} {A : Nat → Prop} {Q : State → Prop} {nL : Nat} {κ : zC} {g : zG} {pc : Nat} {lv : List (Nat × Value)} {st : List Value} {cc : ByteArray} {ret : Option FieldType} (F : zF E D A cc "TypeChain" nL ret) {a : Nat} (ht : κ.2.1 a = some (.inr 8)) (hd : decode cc pc = .ok (.getfield 256, 3)) (kk : zSim K f (zAt E D A Q nL κ g (pc + 3) lv (.int (g.1 a 5) :: st))) : zSim K f (zAt E D A Q nL κ g pc lv (.ref a :: st)) := z_get F (r := (RX8, TX8, 9)) (k := 5) ht rfl inZ8 (by decide) q_342 (fun _ => rfl) hd kk
theorem pf_X9_256 {ρ : Type} {K : ρ → Prop} {f : Option ρ} {E : zE} {D : zD} {A : Nat → Prop} {Q : State → Prop} {nL : Nat} {κ : zC} {g : zG} {pc : Nat} {lv : List (Nat × Value)} {st : List Value} {cc : ByteArray} {ret : Option FieldType} (F : zF E D A cc "TypeChain" nL ret) {a : Nat} (ht : κ.2.1 a = some (.inr 8)) {x : Int32} (hd : decode cc pc = .ok (.putfield 256, 3)) (kk : zSim K f (zAt E D A Q nL κ (zsi g a 5 x) (pc + 3) lv st)) : zSim K f (zAt E D A Q nL κ g pc lv (.int x :: .ref a :: st)) := z_put0 F (r := (RX8, TX8, 9)) (k := 5) ht rfl inZ8 tyX8_ok nmX8 (by decide) q_342 rfl rfl rfl (zOne_i g a 5 x) (congrArg Value.int (zu_same g.1 a 5 x)) (fun h => h.si _ _ _) hd kk
theorem gf_X9_280 {ρ : Type} {K : ρ → Prop} {f : Option ρ} {E : zE} {D : zD} {A : Nat → Prop} {Q : State → Prop} {nL : Nat} {κ : zC} {g : zG} {pc : Nat} {lv : List (Nat × Value)} {st : List Value} {cc : ByteArray} {ret : Option FieldType} (F : zF E D A cc "TypeChain" nL ret) {a : Nat} (ht : κ.2.1 a = some (.inr 6)) (hd : decode cc pc = .ok (.getfield 280, 3)) (kk : κ.2.1 (g.2.1 a 0) = some (.inl (FieldType.int, 4)) → zSim K f (zAt E D A Q nL κ g (pc + 3) lv (.ref (g.2.1 a 0) :: st))) : zSim K f (zAt E D A Q nL κ g pc lv (.ref a :: st)) := z_wt (fun hw => z_get F (r := (RX6, TX6, 3)) (k := 0) ht rfl inZ6 (by decide) q_373 (fun _ => zref_pos hw.1 (hw.2.1 a _ ht 0 _ rfl)) hd (kk (hw.2.1 a _ ht 0 _ rfl)))
theorem gf_X9_299 {ρ : Type} {K : ρ → Prop} {f : Option ρ} {E : zE} {D : zD} {A : Nat → Prop} {Q : State → Prop} {nL : Nat} {κ : zC} {g : zG} {pc : Nat} {lv : List (Nat × Value)} {st : List Value} {cc : ByteArray} {ret : Option FieldType} (F : zF E D A cc "TypeChain" nL ret) {a : Nat} (ht : κ.2.1 a = some (.inr 6)) (hd : decode cc pc = .ok (.getfield 299, 3)) (kk : κ.2.1 (g.2.1 a 1) = some (.inl (FieldType.int, 4)) → zSim K f (zAt E D A Q nL κ g (pc + 3) lv (.ref (g.2.1 a 1) :: st))) : zSim K f (zAt E D A Q nL κ g pc lv (.ref a :: st)) := z_wt (fun hw => z_get F (r := (RX6, TX6, 3)) (k := 1) ht rfl inZ6 (by decide) q_375 (fun _ => zref_pos hw.1 (hw.2.1 a _ ht 1 _ rfl)) hd (kk (hw.2.1 a _ ht 1 _ rfl)))
theorem gf_X0_9 {ρ : Type} {K : ρ → Prop} {f : Option ρ} {E : zE} {D : zD} {A : Nat → Prop} {Q : State → Prop} {nL : Nat} {κ : zC} {g : zG} {pc : Nat} {lv : List (Nat × Value)} {st : List Value} {cc : ByteArray} {ret : Option FieldType} (F : zF E D A cc "TypeChain$Chain" nL ret) {a : Nat} (ht : κ.2.1 a = some (.inr 0)) (hd : decode cc pc = .ok (.getfield 9, 3)) (kk : κ.2.1 (g.2.1 a 0) = some (.inl (FieldType.int, 48)) → zSim K f (zAt E D A Q nL κ g (pc + 3) lv (.ref (g.2.1 a 0) :: st))) : zSim K f (zAt E D A Q nL κ g pc lv (.ref a :: st)) := z_wt (fun hw => z_get F (r := (RX0, TX0, 4)) (k := 0) ht rfl inZ0 (by decide) q_41 (fun _ => zref_pos hw.1 (hw.2.1 a _ ht 0 _ rfl)) hd (kk (hw.2.1 a _ ht 0 _ rfl)))
theorem gf_X0_21 {ρ : Type} {K : ρ → Prop} {f : Option ρ} {E : zE} {D : zD} {A : Nat → Prop} {Q : State → Prop} {nL : Nat} {κ : zC} {g : zG} {pc : Nat} {lv : List (Nat × Value)} {st : List Value} {cc : ByteArray} {ret : Option FieldType} (F : zF E D A cc "TypeChain$Chain" nL ret) {a : Nat} (ht : κ.2.1 a = some (.inr 0)) (hd : decode cc pc = .ok (.getfield 21, 3)) (kk : zSim K f (zAt E D A Q nL κ g (pc + 3) lv (.int (g.1 a 1) :: st))) : zSim K f (zAt E D A Q nL κ g pc lv (.ref a :: st)) := z_get F (r := (RX0, TX0, 4)) (k := 1) ht rfl inZ0 (by decide) q_47 (fun _ => rfl) hd kk
theorem pf_X0_21 {ρ : Type} {K : ρ → Prop} {f : Option ρ} {E : zE} {D : zD} {A : Nat → Prop} {Q : State → Prop} {nL : Nat} {κ : zC} {g : zG} {pc : Nat} {lv : List (Nat × Value)} {st : List Value} {cc : ByteArray} {ret : Option FieldType} (F : zF E D A cc "TypeChain$Chain" nL ret) {a : Nat} (ht : κ.2.1 a = some (.inr 0)) {x : Int32} (hd : decode cc pc = .ok (.putfield 21, 3)) (kk : zSim K f (zAt E D A Q nL κ (zsi g a 1 x) (pc + 3) lv st)) : zSim K f (zAt E D A Q nL κ g pc lv (.int x :: .ref a :: st)) := z_put0 F (r := (RX0, TX0, 4)) (k := 1) ht rfl inZ0 tyX0_ok nmX0 (by decide) q_47 rfl rfl rfl (zOne_i g a 1 x) (congrArg Value.int (zu_same g.1 a 1 x)) (fun h => h.si _ _ _) hd kk
theorem gf_X0_25 {ρ : Type} {K : ρ → Prop} {f : Option ρ} {E : zE} {D : zD} {A : Nat → Prop} {Q : State → Prop} {nL : Nat} {κ : zC} {g : zG} {pc : Nat} {lv : List (Nat × Value)} {st : List Value} {cc : ByteArray} {ret : Option FieldType} (F : zF E D A cc "TypeChain$Chain" nL ret) {a : Nat} (ht : κ.2.1 a = some (.inr 0)) (hd : decode cc pc = .ok (.getfield 25, 3)) (kk : zSim K f (zAt E D A Q nL κ g (pc + 3) lv (.int (g.1 a 2) :: st))) : zSim K f (zAt E D A Q nL κ g pc lv (.ref a :: st)) := z_get F (r := (RX0, TX0, 4)) (k := 2) ht rfl inZ0 (by decide) q_53 (fun _ => rfl) hd kk
theorem pf_X0_25 {ρ : Type} {K : ρ → Prop} {f : Option ρ} {E : zE} {D : zD} {A : Nat → Prop} {Q : State → Prop} {nL : Nat} {κ : zC} {g : zG} {pc : Nat} {lv : List (Nat × Value)} {st : List Value} {cc : ByteArray} {ret : Option FieldType} (F : zF E D A cc "TypeChain$Chain" nL ret) {a : Nat} (ht : κ.2.1 a = some (.inr 0)) {x : Int32} (hd : decode cc pc = .ok (.putfield 25, 3)) (kk : zSim K f (zAt E D A Q nL κ (zsi g a 2 x) (pc + 3) lv st)) : zSim K f (zAt E D A Q nL κ g pc lv (.int x :: .ref a :: st)) := z_put0 F (r := (RX0, TX0, 4)) (k := 2) ht rfl inZ0 tyX0_ok nmX0 (by decide) q_53 rfl rfl rfl (zOne_i g a 2 x) (congrArg Value.int (zu_same g.1 a 2 x)) (fun h => h.si _ _ _) hd kk
theorem gf_X0_28 {ρ : Type} {K : ρ → Prop} {f : Option ρ} {E : zE} {D : zD} {A : Nat → Prop} {Q : State → Prop} {nL : Nat} {κ : zC} {g : zG} {pc : Nat} {lv : List (Nat × Value)} {st : List Value} {cc : ByteArray} {ret : Option FieldType} (F : zF E D A cc "TypeChain$Chain" nL ret) {a : Nat} (ht : κ.2.1 a = some (.inr 0)) (hd : decode cc pc = .ok (.getfield 28, 3)) (kk : zSim K f (zAt E D A Q nL κ g (pc + 3) lv (.int (g.1 a 3) :: st))) : zSim K f (zAt E D A Q nL κ g pc lv (.ref a :: st)) := z_get F (r := (RX0, TX0, 4)) (k := 3) ht rfl inZ0 (by decide) q_55 (fun _ => rfl) hd kk
theorem pf_X0_28 {ρ : Type} {K : ρ → Prop} {f : Option ρ} {E : zE} {D : zD} {A : Nat → Prop} {Q : State → Prop} {nL : Nat} {κ : zC} {g : zG} {pc : Nat} {lv : List (Nat × Value)} {st : List Value} {cc : ByteArray} {ret : Option FieldType} (F : zF E D A cc "TypeChain$Chain" nL ret) {a : Nat} (ht : κ.2.1 a = some (.inr 0)) {x : Int32} (hd : decode cc pc = .ok (.putfield 28, 3)) (kk : zSim K f (zAt E D A Q nL κ (zsi g a 3 x) (pc + 3) lv st)) : zSim K f (zAt E D A Q nL κ g pc lv (.int x :: .ref a :: st)) := z_put0 F (r := (RX0, TX0, 4)) (k := 3) ht rfl inZ0 tyX0_ok nmX0 (by decide) q_55 rfl rfl rfl (zOne_i g a 3 x) (congrArg Value.int (zu_same g.1 a 3 x)) (fun h => h.si _ _ _) hd kk
theorem gf_X1_9 {ρ : Type} {K : ρ → Prop} {f : Option ρ} {E : zE} {D : zD} {A : Nat → Prop} {Q : State → Prop} {nL : Nat} {κ : zC} {g : zG} {pc : Nat} {lv : List (Nat × Value)} {st : List Value} {cc : ByteArray} {ret : Option FieldType} (F : zF E D A cc "TypeChain$Page" nL ret) {a : Nat} (ht : κ.2.1 a = some (.inr 1)) (hd : decode cc pc = .ok (.getfield 9, 3)) (kk : κ.2.1 (g.2.1 a 0) = some (.inl (FieldType.int, 2400)) → zSim K f (zAt E D A Q nL κ g (pc + 3) lv (.ref (g.2.1 a 0) :: st))) : zSim K f (zAt E D A Q nL κ g pc lv (.ref a :: st)) := z_wt (fun hw => z_get F (r := (RX1, TX1, 2)) (k := 0) ht rfl inZ1 (by decide) q_220 (fun _ => zref_pos hw.1 (hw.2.1 a _ ht 0 _ rfl)) hd (kk (hw.2.1 a _ ht 0 _ rfl)))
theorem gf_X1_15 {ρ : Type} {K : ρ → Prop} {f : Option ρ} {E : zE} {D : zD} {A : Nat → Prop} {Q : State → Prop} {nL : Nat} {κ : zC} {g : zG} {pc : Nat} {lv : List (Nat × Value)} {st : List Value} {cc : ByteArray} {ret : Option FieldType} (F : zF E D A cc "TypeChain$Page" nL ret) {a : Nat} (ht : κ.2.1 a = some (.inr 1)) (hd : decode cc pc = .ok (.getfield 15, 3)) (kk : κ.2.1 (g.2.1 a 1) = some (.inl (FieldType.int, 2400)) → zSim K f (zAt E D A Q nL κ g (pc + 3) lv (.ref (g.2.1 a 1) :: st))) : zSim K f (zAt E D A Q nL κ g pc lv (.ref a :: st)) := z_wt (fun hw => z_get F (r := (RX1, TX1, 2)) (k := 1) ht rfl inZ1 (by decide) q_222 (fun _ => zref_pos hw.1 (hw.2.1 a _ ht 1 _ rfl)) hd (kk (hw.2.1 a _ ht 1 _ rfl)))
theorem gf_X2_9 {ρ : Type} {K : ρ → Prop} {f : Option ρ} {E : zE} {D : zD} {A : Nat → Prop} {Q : State → Prop} {nL : Nat} {κ : zC} {g : zG} {pc : Nat} {lv : List (Nat × Value)} {st : List Value} {cc : ByteArray} {ret : Option FieldType} (F : zF E D A cc "TypeChain$Printer" nL ret) {a : Nat} (ht : κ.2.1 a = some (.inr 2)) (hd : decode cc pc = .ok (.getfield 9, 3)) (kk : κ.2.1 (g.2.1 a 0) = some (.inl (FieldType.int, 40)) → zSim K f (zAt E D A Q nL κ g (pc + 3) lv (.ref (g.2.1 a 0) :: st))) : zSim K f (zAt E D A Q nL κ g pc lv (.ref a :: st)) := z_wt (fun hw => z_get F (r := (RX2, TX2, 9)) (k := 0) ht rfl inZ2 (by decide) q_286 (fun _ => zref_pos hw.1 (hw.2.1 a _ ht 0 _ rfl)) hd (kk (hw.2.1 a _ ht 0 _ rfl)))
theorem gf_X2_9_h {ρ : Type} {K : ρ → Prop} {f : Option ρ} {E : zE} {D : zD} {A : Nat → Prop} {Q : State → Prop} {nL : Nat} {κ : zC} {g : zG} {pc : Nat} {lv : List (Nat × Value)} {st : List Value} {cc : ByteArray} {ret : Option FieldType} (F : zF E D A cc "TypeChain$Printer" nL ret) {a : Nat} (ht : κ.2.1 a = some (.inr 24)) (hd : decode cc pc = .ok (.getfield 9, 3)) (kk : κ.2.1 (g.2.1 a 0) = some (.inl (FieldType.int, 40)) → zSim K f (zAt E D A Q nL κ g (pc + 3) lv (.ref (g.2.1 a 0) :: st))) : zSim K f (zAt E D A Q nL κ g pc lv (.ref a :: st)) := z_wt (fun hw => z_get F (r := (RX2, TX2, 9)) (k := 0) ht rfl inZ2 (by decide) q_286 (fun _ => zref_pos hw.1 (hw.2.1 a _ ht 0 _ rfl)) hd (kk (hw.2.1 a _ ht 0 _ rfl)))
theorem gf_X2_18 {ρ : Type} {K : ρ → Prop} {f : Option ρ} {E : zE} {D : zD} {A : Nat → Prop} {Q : State → Prop} {nL : Nat} {κ : zC} {g : zG} {pc : Nat} {lv : List (Nat × Value)} {st : List Value} {cc : ByteArray} {ret : Option FieldType} (F : zF E D A cc "TypeChain$Printer" nL ret) {a : Nat} (ht : κ.2.1 a = some (.inr 2)) (hd : decode cc pc = .ok (.getfield 18, 3)) (kk : κ.2.1 (g.2.1 a 1) = some (.inr 7) → zSim K f (zAt E D A Q nL κ g (pc + 3) lv (.ref (g.2.1 a 1) :: st))) : zSim K f (zAt E D A Q nL κ g pc lv (.ref a :: st)) := z_wt (fun hw => z_get F (r := (RX2, TX2, 9)) (k := 1) ht rfl inZ2 (by decide) q_288 (fun _ => zref_pos hw.1 (hw.2.1 a _ ht 1 _ rfl)) hd (kk (hw.2.1 a _ ht 1 _ rfl)))
theorem gf_X2_18_h {ρ : Type} {K : ρ → Prop} {f : Option ρ} {E : zE} {D : zD} {A : Nat → Prop} {Q : State → Prop} {nL : Nat} {κ : zC} {g : zG} {pc : Nat} {lv : List (Nat × Value)} {st : List Value} {cc : ByteArray} {ret : Option FieldType} (F : zF E D A cc "TypeChain$Printer" nL ret) {a : Nat} (ht : κ.2.1 a = some (.inr 24)) (hd : decode cc pc = .ok (.getfield 18, 3)) (kk : κ.2.1 (g.2.1 a 1) = some (.inr 7) → zSim K f (zAt E D A Q nL κ g (pc + 3) lv (.ref (g.2.1 a 1) :: st))) : zSim K f (zAt E D A Q nL κ g pc lv (.ref a :: st)) := z_wt (fun hw => z_get F (r := (RX2, TX2, 9)) (k := 1) ht rfl inZ2 (by decide) q_288 (fun _ => zref_pos hw.1 (hw.2.1 a _ ht 1 _ rfl)) hd (kk (hw.2.1 a _ ht 1 _ rfl)))
theorem gf_X2_22 {ρ : Type} {K : ρ → Prop} {f : Option ρ} {E : zE} {D : zD} {A : Nat → Prop} {Q : State → Prop} {nL : Nat} {κ : zC} {g : zG} {pc : Nat} {lv : List (Nat × Value)} {st : List Value} {cc : ByteArray} {ret : Option FieldType} (F : zF E D A cc "TypeChain$Printer" nL ret) {a : Nat} (ht : κ.2.1 a = some (.inr 2)) (hd : decode cc pc = .ok (.getfield 22, 3)) (kk : zSim K f (zAt E D A Q nL κ g (pc + 3) lv (zref (g.2.1 a 6) :: st))) : zSim K f (zAt E D A Q nL κ g pc lv (.ref a :: st)) := z_get F (r := (RX2, TX2, 9)) (k := 6) ht rfl inZ2 (by decide) q_299 (fun _ => rfl) hd kk
theorem gf_X2_22_n {ρ : Type} {K : ρ → Prop} {f : Option ρ} {E : zE} {D : zD} {A : Nat → Prop} {Q : State → Prop} {nL : Nat} {κ : zC} {g : zG} {pc : Nat} {lv : List (Nat × Value)} {st : List Value} {cc : ByteArray} {ret : Option FieldType} (F : zF E D A cc "TypeChain$Printer" nL ret) {a : Nat} (ht : κ.2.1 a = some (.inr 2)) (hne : ¬ g.2.1 a 6 = 0) (hd : decode cc pc = .ok (.getfield 22, 3)) (kk : κ.2.1 (g.2.1 a 6) = some (.inr 1) → zSim K f (zAt E D A Q nL κ g (pc + 3) lv (.ref (g.2.1 a 6) :: st))) : zSim K f (zAt E D A Q nL κ g pc lv (.ref a :: st)) := z_wt (fun hw => z_get F (r := (RX2, TX2, 9)) (k := 6) ht rfl inZ2 (by decide) q_299 (fun _ => zref_pos hw.1 ((hw.2.2 a (Or.inl ht)).resolve_left hne)) hd (kk ((hw.2.2 a (Or.inl ht)).resolve_left hne)))
theorem gf_X2_22_h {ρ : Type} {K : ρ → Prop} {f : Option ρ} {E : zE} {D : zD} {A : Nat → Prop} {Q : State → Prop} {nL : Nat} {κ : zC} {g : zG} {pc : Nat} {lv : List (Nat × Value)} {st : List Value} {cc : ByteArray} {ret : Option FieldType} (F : zF E D A cc "TypeChain$Printer" nL ret) {a : Nat} (ht : κ.2.1 a = some (.inr 24)) (hd : decode cc pc = .ok (.getfield 22, 3)) (kk : zSim K f (zAt E D A Q nL κ g (pc + 3) lv (zref (g.2.1 a 6) :: st))) : zSim K f (zAt E D A Q nL κ g pc lv (.ref a :: st)) := z_get F (r := (RX2, TX2, 9)) (k := 6) ht rfl inZ2 (by decide) q_299 (fun _ => rfl) hd kk
theorem gf_X2_22_h_n {ρ : Type} {K : ρ → Prop} {f : Option ρ} {E : zE} {D : zD} {A : Nat → Prop} {Q : State → Prop} {nL : Nat} {κ : zC} {g : zG} {pc : Nat} {lv : List (Nat × Value)} {st : List Value} {cc : ByteArray} {ret : Option FieldType} (F : zF E D A cc "TypeChain$Printer" nL ret) {a : Nat} (ht : κ.2.1 a = some (.inr 24)) (hne : ¬ g.2.1 a 6 = 0) (hd : decode cc pc = .ok (.getfield 22, 3)) (kk : κ.2.1 (g.2.1 a 6) = some (.inr 1) → zSim K f (zAt E D A Q nL κ g (pc + 3) lv (.ref (g.2.1 a 6) :: st))) : zSim K f (zAt E D A Q nL κ g pc lv (.ref a :: st)) := z_wt (fun hw => z_get F (r := (RX2, TX2, 9)) (k := 6) ht rfl inZ2 (by decide) q_299 (fun _ => zref_pos hw.1 ((hw.2.2 a (Or.inr ht)).resolve_left hne)) hd (kk ((hw.2.2 a (Or.inr ht)).resolve_left hne)))
theorem gf_X2_30 {ρ : Type} {K : ρ → Prop} {f : Option ρ} {E : zE} {D : zD} {A : Nat → Prop} {Q : State → Prop} {nL : Nat} {κ : zC} {g : zG} {pc : Nat} {lv : List (Nat × Value)} {st : List Value} {cc : ByteArray} {ret : Option FieldType} (F : zF E D A cc "TypeChain$Printer" nL ret) {a : Nat} (ht : κ.2.1 a = some (.inr 2)) (hd : decode cc pc = .ok (.getfield 30, 3)) (kk : κ.2.1 (g.2.1 a 7) = some (.inr 5) → zSim K f (zAt E D A Q nL κ g (pc + 3) lv (.ref (g.2.1 a 7) :: st))) : zSim K f (zAt E D A Q nL κ g pc lv (.ref a :: st)) := z_wt (fun hw => z_get F (r := (RX2, TX2, 9)) (k := 7) ht rfl inZ2 (by decide) q_300 (fun _ => zref_pos hw.1 (hw.2.1 a _ ht 7 _ rfl)) hd (kk (hw.2.1 a _ ht 7 _ rfl)))
theorem pf_X2_30 {ρ : Type} {K : ρ → Prop} {f : Option ρ} {E : zE} {D : zD} {A : Nat → Prop} {Q : State → Prop} {nL : Nat} {κ : zC} {g : zG} {pc : Nat} {lv : List (Nat × Value)} {st : List Value} {cc : ByteArray} {ret : Option FieldType} (F : zF E D A cc "TypeChain$Printer" nL ret) {a : Nat} (ht : κ.2.1 a = some (.inr 2)) {x : Nat} (hx : κ.2.1 x = some (.inr 5)) (hd : decode cc pc = .ok (.putfield 30, 3)) (kk : zSim K f (zAt E D A Q nL κ (zsr g a 7 x) (pc + 3) lv st)) : zSim K f (zAt E D A Q nL κ g pc lv (.ref x :: .ref a :: st)) := z_wt (fun hw => z_put0 F (r := (RX2, TX2, 9)) (k := 7) ht rfl inZ2 tyX2_ok nmX2 (by decide) q_300 rfl rfl rfl (zOne_r g a 7 x) ((congrArg zref (zu_same g.2.1 a 7 x)).trans (zref_pos hw.1 hx)) (fun h => h.sr ht rfl (by decide) hx) hd kk)
theorem gf_X2_34 {ρ : Type} {K : ρ → Prop} {f : Option ρ} {E : zE} {D : zD} {A : Nat → Prop} {Q : State → Prop} {nL : Nat} {κ : zC} {g : zG} {pc : Nat} {lv : List (Nat × Value)} {st : List Value} {cc : ByteArray} {ret : Option FieldType} (F : zF E D A cc "TypeChain$Printer" nL ret) {a : Nat} (ht : κ.2.1 a = some (.inr 2)) (hd : decode cc pc = .ok (.getfield 34, 3)) (kk : κ.2.1 (g.2.1 a 8) = some (.inr 0) → zSim K f (zAt E D A Q nL κ g (pc + 3) lv (.ref (g.2.1 a 8) :: st))) : zSim K f (zAt E D A Q nL κ g pc lv (.ref a :: st)) := z_wt (fun hw => z_get F (r := (RX2, TX2, 9)) (k := 8) ht rfl inZ2 (by decide) q_301 (fun _ => zref_pos hw.1 (hw.2.1 a _ ht 8 _ rfl)) hd (kk (hw.2.1 a _ ht 8 _ rfl)))
theorem pf_X2_34 {ρ : Type} {K : ρ → Prop} {f : Option ρ} {E : zE} {D : zD} {A : Nat → Prop} {Q : State → Prop} {nL : Nat} {κ : zC} {g : zG} {pc : Nat} {lv : List (Nat × Value)} {st : List Value} {cc : ByteArray} {ret : Option FieldType} (F : zF E D A cc "TypeChain$Printer" nL ret) {a : Nat} (ht : κ.2.1 a = some (.inr 2)) {x : Nat} (hx : κ.2.1 x = some (.inr 0)) (hd : decode cc pc = .ok (.putfield 34, 3)) (kk : zSim K f (zAt E D A Q nL κ (zsr g a 8 x) (pc + 3) lv st)) : zSim K f (zAt E D A Q nL κ g pc lv (.ref x :: .ref a :: st)) := z_wt (fun hw => z_put0 F (r := (RX2, TX2, 9)) (k := 8) ht rfl inZ2 tyX2_ok nmX2 (by decide) q_301 rfl rfl rfl (zOne_r g a 8 x) ((congrArg zref (zu_same g.2.1 a 8 x)).trans (zref_pos hw.1 hx)) (fun h => h.sr ht rfl (by decide) hx) hd kk)
theorem gf_X2_38 {ρ : Type} {K : ρ → Prop} {f : Option ρ} {E : zE} {D : zD} {A : Nat → Prop} {Q : State → Prop} {nL : Nat} {κ : zC} {g : zG} {pc : Nat} {lv : List (Nat × Value)} {st : List Value} {cc : ByteArray} {ret : Option FieldType} (F : zF E D A cc "TypeChain$Printer" nL ret) {a : Nat} (ht : κ.2.1 a = some (.inr 2)) (hd : decode cc pc = .ok (.getfield 38, 3)) (kk : zSim K f (zAt E D A Q nL κ g (pc + 3) lv (.int (g.1 a 2) :: st))) : zSim K f (zAt E D A Q nL κ g pc lv (.ref a :: st)) := z_get F (r := (RX2, TX2, 9)) (k := 2) ht rfl inZ2 (by decide) q_290 (fun _ => rfl) hd kk
theorem pf_X2_38 {ρ : Type} {K : ρ → Prop} {f : Option ρ} {E : zE} {D : zD} {A : Nat → Prop} {Q : State → Prop} {nL : Nat} {κ : zC} {g : zG} {pc : Nat} {lv : List (Nat × Value)} {st : List Value} {cc : ByteArray} {ret : Option FieldType} (F : zF E D A cc "TypeChain$Printer" nL ret) {a : Nat} (ht : κ.2.1 a = some (.inr 2)) {x : Int32} (hd : decode cc pc = .ok (.putfield 38, 3)) (kk : zSim K f (zAt E D A Q nL κ (zsi g a 2 x) (pc + 3) lv st)) : zSim K f (zAt E D A Q nL κ g pc lv (.int x :: .ref a :: st)) := z_put0 F (r := (RX2, TX2, 9)) (k := 2) ht rfl inZ2 tyX2_ok nmX2 (by decide) q_290 rfl rfl rfl (zOne_i g a 2 x) (congrArg Value.int (zu_same g.1 a 2 x)) (fun h => h.si _ _ _) hd kk
theorem gf_X2_38_h {ρ : Type} {K : ρ → Prop} {f : Option ρ} {E : zE} {D : zD} {A : Nat → Prop} {Q : State → Prop} {nL : Nat} {κ : zC} {g : zG} {pc : Nat} {lv : List (Nat × Value)} {st : List Value} {cc : ByteArray} {ret : Option FieldType} (F : zF E D A cc "TypeChain$Printer" nL ret) {a : Nat} (ht : κ.2.1 a = some (.inr 24)) (hd : decode cc pc = .ok (.getfield 38, 3)) (kk : zSim K f (zAt E D A Q nL κ g (pc + 3) lv (.int (g.1 a 2) :: st))) : zSim K f (zAt E D A Q nL κ g pc lv (.ref a :: st)) := z_get F (r := (RX2, TX2, 9)) (k := 2) ht rfl inZ2 (by decide) q_290 (fun _ => rfl) hd kk
theorem pf_X2_38_h {ρ : Type} {K : ρ → Prop} {f : Option ρ} {E : zE} {D : zD} {A : Nat → Prop} {Q : State → Prop} {nL : Nat} {κ : zC} {g : zG} {pc : Nat} {lv : List (Nat × Value)} {st : List Value} {cc : ByteArray} {ret : Option FieldType} (F : zF E D A cc "TypeChain$Printer" nL ret) {a : Nat} (ht : κ.2.1 a = some (.inr 24)) {x : Int32} (hd : decode cc pc = .ok (.putfield 38, 3)) (kk : zSim K f (zAt E D A Q nL κ (zsi g a 2 x) (pc + 3) lv st)) : zSim K f (zAt E D A Q nL κ g pc lv (.int x :: .ref a :: st)) := z_put0 F (r := (RX2, TX2, 9)) (k := 2) ht rfl inZ2 tyX2_ok nmX2 (by decide) q_290 rfl rfl rfl (zOne_i g a 2 x) (congrArg Value.int (zu_same g.1 a 2 x)) (fun h => h.si _ _ _) hd kk
theorem gf_X2_42 {ρ : Type} {K : ρ → Prop} {f : Option ρ} {E : zE} {D : zD} {A : Nat → Prop} {Q : State → Prop} {nL : Nat} {κ : zC} {g : zG} {pc : Nat} {lv : List (Nat × Value)} {st : List Value} {cc : ByteArray} {ret : Option FieldType} (F : zF E D A cc "TypeChain$Printer" nL ret) {a : Nat} (ht : κ.2.1 a = some (.inr 2)) (hd : decode cc pc = .ok (.getfield 42, 3)) (kk : zSim K f (zAt E D A Q nL κ g (pc + 3) lv (.int (g.1 a 3) :: st))) : zSim K f (zAt E D A Q nL κ g pc lv (.ref a :: st)) := z_get F (r := (RX2, TX2, 9)) (k := 3) ht rfl inZ2 (by decide) q_293 (fun _ => rfl) hd kk
theorem pf_X2_42 {ρ : Type} {K : ρ → Prop} {f : Option ρ} {E : zE} {D : zD} {A : Nat → Prop} {Q : State → Prop} {nL : Nat} {κ : zC} {g : zG} {pc : Nat} {lv : List (Nat × Value)} {st : List Value} {cc : ByteArray} {ret : Option FieldType} (F : zF E D A cc "TypeChain$Printer" nL ret) {a : Nat} (ht : κ.2.1 a = some (.inr 2)) {x : Int32} (hd : decode cc pc = .ok (.putfield 42, 3)) (kk : zSim K f (zAt E D A Q nL κ (zsi g a 3 x) (pc + 3) lv st)) : zSim K f (zAt E D A Q nL κ g pc lv (.int x :: .ref a :: st)) := z_put0 F (r := (RX2, TX2, 9)) (k := 3) ht rfl inZ2 tyX2_ok nmX2 (by decide) q_293 rfl rfl rfl (zOne_i g a 3 x) (congrArg Value.int (zu_same g.1 a 3 x)) (fun h => h.si _ _ _) hd kk
theorem gf_X2_42_h {ρ : Type} {K : ρ → Prop} {f : Option ρ} {E : zE} {D : zD} {A : Nat → Prop} {Q : State → Prop} {nL : Nat} {κ : zC} {g : zG} {pc : Nat} {lv : List (Nat × Value)} {st : List Value} {cc : ByteArray} {ret : Option FieldType} (F : zF E D A cc "TypeChain$Printer" nL ret) {a : Nat} (ht : κ.2.1 a = some (.inr 24)) (hd : decode cc pc = .ok (.getfield 42, 3)) (kk : zSim K f (zAt E D A Q nL κ g (pc + 3) lv (.int (g.1 a 3) :: st))) : zSim K f (zAt E D A Q nL κ g pc lv (.ref a :: st)) := z_get F (r := (RX2, TX2, 9)) (k := 3) ht rfl inZ2 (by decide) q_293 (fun _ => rfl) hd kk
theorem pf_X2_42_h {ρ : Type} {K : ρ → Prop} {f : Option ρ} {E : zE} {D : zD} {A : Nat → Prop} {Q : State → Prop} {nL : Nat} {κ : zC} {g : zG} {pc : Nat} {lv : List (Nat × Value)} {st : List Value} {cc : ByteArray} {ret : Option FieldType} (F : zF E D A cc "TypeChain$Printer" nL ret) {a : Nat} (ht : κ.2.1 a = some (.inr 24)) {x : Int32} (hd : decode cc pc = .ok (.putfield 42, 3)) (kk : zSim K f (zAt E D A Q nL κ (zsi g a 3 x) (pc + 3) lv st)) : zSim K f (zAt E D A Q nL κ g pc lv (.int x :: .ref a :: st)) := z_put0 F (r := (RX2, TX2, 9)) (k := 3) ht rfl inZ2 tyX2_ok nmX2 (by decide) q_293 rfl rfl rfl (zOne_i g a 3 x) (congrArg Value.int (zu_same g.1 a 3 x)) (fun h => h.si _ _ _) hd kk
theorem gf_X2_45 {ρ : Type} {K : ρ → Prop} {f : Option ρ} {E : zE} {D : zD} {A : Nat → Prop} {Q : State → Prop} {nL : Nat} {κ : zC} {g : zG} {pc : Nat} {lv : List (Nat × Value)} {st : List Value} {cc : ByteArray} {ret : Option FieldType} (F : zF E D A cc "TypeChain$Printer" nL ret) {a : Nat} (ht : κ.2.1 a = some (.inr 2)) (hd : decode cc pc = .ok (.getfield 45, 3)) (kk : zSim K f (zAt E D A Q nL κ g (pc + 3) lv (.int (g.1 a 4) :: st))) : zSim K f (zAt E D A Q nL κ g pc lv (.ref a :: st)) := z_get F (r := (RX2, TX2, 9)) (k := 4) ht rfl inZ2 (by decide) q_295 (fun _ => rfl) hd kk
theorem pf_X2_45 {ρ : Type} {K : ρ → Prop} {f : Option ρ} {E : zE} {D : zD} {A : Nat → Prop} {Q : State → Prop} {nL : Nat} {κ : zC} {g : zG} {pc : Nat} {lv : List (Nat × Value)} {st : List Value} {cc : ByteArray} {ret : Option FieldType} (F : zF E D A cc "TypeChain$Printer" nL ret) {a : Nat} (ht : κ.2.1 a = some (.inr 2)) {x : Int32} (hd : decode cc pc = .ok (.putfield 45, 3)) (kk : zSim K f (zAt E D A Q nL κ (zsi g a 4 x) (pc + 3) lv st)) : zSim K f (zAt E D A Q nL κ g pc lv (.int x :: .ref a :: st)) := z_put0 F (r := (RX2, TX2, 9)) (k := 4) ht rfl inZ2 tyX2_ok nmX2 (by decide) q_295 rfl rfl rfl (zOne_i g a 4 x) (congrArg Value.int (zu_same g.1 a 4 x)) (fun h => h.si _ _ _) hd kk
theorem gf_X2_45_h {ρ : Type} {K : ρ → Prop} {f : Option ρ} {E : zE} {D : zD} {A : Nat → Prop} {Q : State → Prop} {nL : Nat} {κ : zC} {g : zG} {pc : Nat} {lv : List (Nat × Value)} {st : List Value} {cc : ByteArray} {ret : Option FieldType} (F : zF E D A cc "TypeChain$Printer" nL ret) {a : Nat} (ht : κ.2.1 a = some (.inr 24)) (hd : decode cc pc = .ok (.getfield 45, 3)) (kk : zSim K f (zAt E D A Q nL κ g (pc + 3) lv (.int (g.1 a 4) :: st))) : zSim K f (zAt E D A Q nL κ g pc lv (.ref a :: st)) := z_get F (r := (RX2, TX2, 9)) (k := 4) ht rfl inZ2 (by decide) q_295 (fun _ => rfl) hd kk
theorem pf_X2_45_h {ρ : Type} {K : ρ → Prop} {f : Option ρ} {E : zE} {D : zD} {A : Nat → Prop} {Q : State → Prop} {nL : Nat} {κ : zC} {g : zG} {pc : Nat} {lv : List (Nat × Value)} {st : List Value} {cc : ByteArray} {ret : Option FieldType} (F : zF E D A cc "TypeChain$Printer" nL ret) {a : Nat} (ht : κ.2.1 a = some (.inr 24)) {x : Int32} (hd : decode cc pc = .ok (.putfield 45, 3)) (kk : zSim K f (zAt E D A Q nL κ (zsi g a 4 x) (pc + 3) lv st)) : zSim K f (zAt E D A Q nL κ g pc lv (.int x :: .ref a :: st)) := z_put0 F (r := (RX2, TX2, 9)) (k := 4) ht rfl inZ2 tyX2_ok nmX2 (by decide) q_295 rfl rfl rfl (zOne_i g a 4 x) (congrArg Value.int (zu_same g.1 a 4 x)) (fun h => h.si _ _ _) hd kk
theorem gf_X2_48 {ρ : Type} {K : ρ → Prop} {f : Option ρ} {E : zE} {D : zD} {A : Nat → Prop} {Q : State → Prop} {nL : Nat} {κ : zC} {g : zG} {pc : Nat} {lv : List (Nat × Value)} {st : List Value} {cc : ByteArray} {ret : Option FieldType} (F : zF E D A cc "TypeChain$Printer" nL ret) {a : Nat} (ht : κ.2.1 a = some (.inr 2)) (hd : decode cc pc = .ok (.getfield 48, 3)) (kk : zSim K f (zAt E D A Q nL κ g (pc + 3) lv (.int (g.1 a 5) :: st))) : zSim K f (zAt E D A Q nL κ g pc lv (.ref a :: st)) := z_get F (r := (RX2, TX2, 9)) (k := 5) ht rfl inZ2 (by decide) q_297 (fun _ => rfl) hd kk
theorem pf_X2_48 {ρ : Type} {K : ρ → Prop} {f : Option ρ} {E : zE} {D : zD} {A : Nat → Prop} {Q : State → Prop} {nL : Nat} {κ : zC} {g : zG} {pc : Nat} {lv : List (Nat × Value)} {st : List Value} {cc : ByteArray} {ret : Option FieldType} (F : zF E D A cc "TypeChain$Printer" nL ret) {a : Nat} (ht : κ.2.1 a = some (.inr 2)) {x : Int32} (hd : decode cc pc = .ok (.putfield 48, 3)) (kk : zSim K f (zAt E D A Q nL κ (zsi g a 5 x) (pc + 3) lv st)) : zSim K f (zAt E D A Q nL κ g pc lv (.int x :: .ref a :: st)) := z_put0 F (r := (RX2, TX2, 9)) (k := 5) ht rfl inZ2 tyX2_ok nmX2 (by decide) q_297 rfl rfl rfl (zOne_i g a 5 x) (congrArg Value.int (zu_same g.1 a 5 x)) (fun h => h.si _ _ _) hd kk
theorem gf_X2_48_h {ρ : Type} {K : ρ → Prop} {f : Option ρ} {E : zE} {D : zD} {A : Nat → Prop} {Q : State → Prop} {nL : Nat} {κ : zC} {g : zG} {pc : Nat} {lv : List (Nat × Value)} {st : List Value} {cc : ByteArray} {ret : Option FieldType} (F : zF E D A cc "TypeChain$Printer" nL ret) {a : Nat} (ht : κ.2.1 a = some (.inr 24)) (hd : decode cc pc = .ok (.getfield 48, 3)) (kk : zSim K f (zAt E D A Q nL κ g (pc + 3) lv (.int (g.1 a 5) :: st))) : zSim K f (zAt E D A Q nL κ g pc lv (.ref a :: st)) := z_get F (r := (RX2, TX2, 9)) (k := 5) ht rfl inZ2 (by decide) q_297 (fun _ => rfl) hd kk
theorem pf_X2_48_h {ρ : Type} {K : ρ → Prop} {f : Option ρ} {E : zE} {D : zD} {A : Nat → Prop} {Q : State → Prop} {nL : Nat} {κ : zC} {g : zG} {pc : Nat} {lv : List (Nat × Value)} {st : List Value} {cc : ByteArray} {ret : Option FieldType} (F : zF E D A cc "TypeChain$Printer" nL ret) {a : Nat} (ht : κ.2.1 a = some (.inr 24)) {x : Int32} (hd : decode cc pc = .ok (.putfield 48, 3)) (kk : zSim K f (zAt E D A Q nL κ (zsi g a 5 x) (pc + 3) lv st)) : zSim K f (zAt E D A Q nL κ g pc lv (.int x :: .ref a :: st)) := z_put0 F (r := (RX2, TX2, 9)) (k := 5) ht rfl inZ2 tyX2_ok nmX2 (by decide) q_297 rfl rfl rfl (zOne_i g a 5 x) (congrArg Value.int (zu_same g.1 a 5 x)) (fun h => h.si _ _ _) hd kk
theorem gf_X2_51 {ρ : Type} {K : ρ → Prop} {f : Option ρ} {E : zE} {D : zD} {A : Nat → Prop} {Q : State → Prop} {nL : Nat} {κ : zC} {g : zG} {pc : Nat} {lv : List (Nat × Value)} {st : List Value} {cc : ByteArray} {ret : Option FieldType} (F : zF E D A cc "TypeChain$Printer" nL ret) {a : Nat} (ht : κ.2.1 a = some (.inr 7)) (hd : decode cc pc = .ok (.getfield 51, 3)) (kk : zSim K f (zAt E D A Q nL κ g (pc + 3) lv (.int (g.1 a 2) :: st))) : zSim K f (zAt E D A Q nL κ g pc lv (.ref a :: st)) := z_get F (r := (RX7, TX7, 9)) (k := 2) ht rfl inZ7 (by decide) q_245 (fun _ => rfl) hd kk
theorem pf_X2_51 {ρ : Type} {K : ρ → Prop} {f : Option ρ} {E : zE} {D : zD} {A : Nat → Prop} {Q : State → Prop} {nL : Nat} {κ : zC} {g : zG} {pc : Nat} {lv : List (Nat × Value)} {st : List Value} {cc : ByteArray} {ret : Option FieldType} (F : zF E D A cc "TypeChain$Printer" nL ret) {a : Nat} (ht : κ.2.1 a = some (.inr 7)) {x : Int32} (hz : x = 0 ∨ x = 1) (hd : decode cc pc = .ok (.putfield 51, 3)) (kk : zSim K f (zAt E D A Q nL κ (zsi g a 2 x) (pc + 3) lv st)) : zSim K f (zAt E D A Q nL κ g pc lv (.int x :: .ref a :: st)) := z_put0 F (r := (RX7, TX7, 9)) (k := 2) ht rfl inZ7 tyX7_ok nmX7 (by decide) q_245 rfl (znar01 hz) (zfit01 hz) (zOne_i g a 2 x) (congrArg Value.int (zu_same g.1 a 2 x)) (fun h => h.si _ _ _) hd kk
theorem gf_X2_76 {ρ : Type} {K : ρ → Prop} {f : Option ρ} {E : zE} {D : zD} {A : Nat → Prop} {Q : State → Prop} {nL : Nat} {κ : zC} {g : zG} {pc : Nat} {lv : List (Nat × Value)} {st : List Value} {cc : ByteArray} {ret : Option FieldType} (F : zF E D A cc "TypeChain$Printer" nL ret) {a : Nat} (ht : κ.2.1 a = some (.inr 5)) (hd : decode cc pc = .ok (.getfield 76, 3)) (kk : κ.2.1 (g.2.1 a 2) = some (.inl (FieldType.int, 8)) → zSim K f (zAt E D A Q nL κ g (pc + 3) lv (.ref (g.2.1 a 2) :: st))) : zSim K f (zAt E D A Q nL κ g pc lv (.ref a :: st)) := z_wt (fun hw => z_get F (r := (RX5, TX5, 4)) (k := 2) ht rfl inZ5 (by decide) q_146 (fun _ => zref_pos hw.1 (hw.2.1 a _ ht 2 _ rfl)) hd (kk (hw.2.1 a _ ht 2 _ rfl)))
theorem gf_X2_96 {ρ : Type} {K : ρ → Prop} {f : Option ρ} {E : zE} {D : zD} {A : Nat → Prop} {Q : State → Prop} {nL : Nat} {κ : zC} {g : zG} {pc : Nat} {lv : List (Nat × Value)} {st : List Value} {cc : ByteArray} {ret : Option FieldType} (F : zF E D A cc "TypeChain$Printer" nL ret) {a : Nat} (ht : κ.2.1 a = some (.inr 5)) (hd : decode cc pc = .ok (.getfield 96, 3)) (kk : κ.2.1 (g.2.1 a 1) = some (.inr 3) → zSim K f (zAt E D A Q nL κ g (pc + 3) lv (.ref (g.2.1 a 1) :: st))) : zSim K f (zAt E D A Q nL κ g pc lv (.ref a :: st)) := z_wt (fun hw => z_get F (r := (RX5, TX5, 4)) (k := 1) ht rfl inZ5 (by decide) q_143 (fun _ => zref_pos hw.1 (hw.2.1 a _ ht 1 _ rfl)) hd (kk (hw.2.1 a _ ht 1 _ rfl)))
theorem gf_X2_100 {ρ : Type} {K : ρ → Prop} {f : Option ρ} {E : zE} {D : zD} {A : Nat → Prop} {Q : State → Prop} {nL : Nat} {κ : zC} {g : zG} {pc : Nat} {lv : List (Nat × Value)} {st : List Value} {cc : ByteArray} {ret : Option FieldType} (F : zF E D A cc "TypeChain$Printer" nL ret) {a : Nat} (ht : κ.2.1 a = some (.inr 3)) (hd : decode cc pc = .ok (.getfield 100, 3)) (kk : zSim K f (zAt E D A Q nL κ g (pc + 3) lv (.int (g.1 a 5) :: st))) : zSim K f (zAt E D A Q nL κ g pc lv (.ref a :: st)) := z_get F (r := (RX3, TX3, 7)) (k := 5) ht rfl inZ3 (by decide) q_88 (fun _ => rfl) hd kk
theorem pf_X2_100 {ρ : Type} {K : ρ → Prop} {f : Option ρ} {E : zE} {D : zD} {A : Nat → Prop} {Q : State → Prop} {nL : Nat} {κ : zC} {g : zG} {pc : Nat} {lv : List (Nat × Value)} {st : List Value} {cc : ByteArray} {ret : Option FieldType} (F : zF E D A cc "TypeChain$Printer" nL ret) {a : Nat} (ht : κ.2.1 a = some (.inr 3)) {x : Int32} (hd : decode cc pc = .ok (.putfield 100, 3)) (kk : zSim K f (zAt E D A Q nL κ (zsi g a 5 x) (pc + 3) lv st)) : zSim K f (zAt E D A Q nL κ g pc lv (.int x :: .ref a :: st)) := z_put0 F (r := (RX3, TX3, 7)) (k := 5) ht rfl inZ3 tyX3_ok nmX3 (by decide) q_88 rfl rfl rfl (zOne_i g a 5 x) (congrArg Value.int (zu_same g.1 a 5 x)) (fun h => h.si _ _ _) hd kk
theorem gf_X2_105 {ρ : Type} {K : ρ → Prop} {f : Option ρ} {E : zE} {D : zD} {A : Nat → Prop} {Q : State → Prop} {nL : Nat} {κ : zC} {g : zG} {pc : Nat} {lv : List (Nat × Value)} {st : List Value} {cc : ByteArray} {ret : Option FieldType} (F : zF E D A cc "TypeChain$Printer" nL ret) {a : Nat} (ht : κ.2.1 a = some (.inr 3)) (hd : decode cc pc = .ok (.getfield 105, 3)) (kk : κ.2.1 (g.2.1 a 0) = some (.inl (FieldType.int, 24)) → zSim K f (zAt E D A Q nL κ g (pc + 3) lv (.ref (g.2.1 a 0) :: st))) : zSim K f (zAt E D A Q nL κ g pc lv (.ref a :: st)) := z_wt (fun hw => z_get F (r := (RX3, TX3, 7)) (k := 0) ht rfl inZ3 (by decide) q_74 (fun _ => zref_pos hw.1 (hw.2.1 a _ ht 0 _ rfl)) hd (kk (hw.2.1 a _ ht 0 _ rfl)))
theorem gf_X2_115 {ρ : Type} {K : ρ → Prop} {f : Option ρ} {E : zE} {D : zD} {A : Nat → Prop} {Q : State → Prop} {nL : Nat} {κ : zC} {g : zG} {pc : Nat} {lv : List (Nat × Value)} {st : List Value} {cc : ByteArray} {ret : Option FieldType} (F : zF E D A cc "TypeChain$Printer" nL ret) {a : Nat} (ht : κ.2.1 a = some (.inr 3)) (hd : decode cc pc = .ok (.getfield 115, 3)) (kk : κ.2.1 (g.2.1 a 1) = some (.inl (FieldType.int, 24)) → zSim K f (zAt E D A Q nL κ g (pc + 3) lv (.ref (g.2.1 a 1) :: st))) : zSim K f (zAt E D A Q nL κ g pc lv (.ref a :: st)) := z_wt (fun hw => z_get F (r := (RX3, TX3, 7)) (k := 1) ht rfl inZ3 (by decide) q_77 (fun _ => zref_pos hw.1 (hw.2.1 a _ ht 1 _ rfl)) hd (kk (hw.2.1 a _ ht 1 _ rfl)))
theorem gf_X2_121 {ρ : Type} {K : ρ → Prop} {f : Option ρ} {E : zE} {D : zD} {A : Nat → Prop} {Q : State → Prop} {nL : Nat} {κ : zC} {g : zG} {pc : Nat} {lv : List (Nat × Value)} {st : List Value} {cc : ByteArray} {ret : Option FieldType} (F : zF E D A cc "TypeChain$Printer" nL ret) {a : Nat} (ht : κ.2.1 a = some (.inr 3)) (hd : decode cc pc = .ok (.getfield 121, 3)) (kk : κ.2.1 (g.2.1 a 3) = some (.inl (FieldType.int, 24)) → zSim K f (zAt E D A Q nL κ g (pc + 3) lv (.ref (g.2.1 a 3) :: st))) : zSim K f (zAt E D A Q nL κ g pc lv (.ref a :: st)) := z_wt (fun hw => z_get F (r := (RX3, TX3, 7)) (k := 3) ht rfl inZ3 (by decide) q_81 (fun _ => zref_pos hw.1 (hw.2.1 a _ ht 3 _ rfl)) hd (kk (hw.2.1 a _ ht 3 _ rfl)))
theorem gf_X3_9 {ρ : Type} {K : ρ → Prop} {f : Option ρ} {E : zE} {D : zD} {A : Nat → Prop} {Q : State → Prop} {nL : Nat} {κ : zC} {g : zG} {pc : Nat} {lv : List (Nat × Value)} {st : List Value} {cc : ByteArray} {ret : Option FieldType} (F : zF E D A cc "TypeChain$Program" nL ret) {a : Nat} (ht : κ.2.1 a = some (.inr 3)) (hd : decode cc pc = .ok (.getfield 9, 3)) (kk : κ.2.1 (g.2.1 a 0) = some (.inl (FieldType.int, 24)) → zSim K f (zAt E D A Q nL κ g (pc + 3) lv (.ref (g.2.1 a 0) :: st))) : zSim K f (zAt E D A Q nL κ g pc lv (.ref a :: st)) := z_wt (fun hw => z_get F (r := (RX3, TX3, 7)) (k := 0) ht rfl inZ3 (by decide) q_73 (fun _ => zref_pos hw.1 (hw.2.1 a _ ht 0 _ rfl)) hd (kk (hw.2.1 a _ ht 0 _ rfl)))
theorem gf_X3_15 {ρ : Type} {K : ρ → Prop} {f : Option ρ} {E : zE} {D : zD} {A : Nat → Prop} {Q : State → Prop} {nL : Nat} {κ : zC} {g : zG} {pc : Nat} {lv : List (Nat × Value)} {st : List Value} {cc : ByteArray} {ret : Option FieldType} (F : zF E D A cc "TypeChain$Program" nL ret) {a : Nat} (ht : κ.2.1 a = some (.inr 3)) (hd : decode cc pc = .ok (.getfield 15, 3)) (kk : κ.2.1 (g.2.1 a 1) = some (.inl (FieldType.int, 24)) → zSim K f (zAt E D A Q nL κ g (pc + 3) lv (.ref (g.2.1 a 1) :: st))) : zSim K f (zAt E D A Q nL κ g pc lv (.ref a :: st)) := z_wt (fun hw => z_get F (r := (RX3, TX3, 7)) (k := 1) ht rfl inZ3 (by decide) q_76 (fun _ => zref_pos hw.1 (hw.2.1 a _ ht 1 _ rfl)) hd (kk (hw.2.1 a _ ht 1 _ rfl)))
theorem gf_X3_18 {ρ : Type} {K : ρ → Prop} {f : Option ρ} {E : zE} {D : zD} {A : Nat → Prop} {Q : State → Prop} {nL : Nat} {κ : zC} {g : zG} {pc : Nat} {lv : List (Nat × Value)} {st : List Value} {cc : ByteArray} {ret : Option FieldType} (F : zF E D A cc "TypeChain$Program" nL ret) {a : Nat} (ht : κ.2.1 a = some (.inr 3)) (hd : decode cc pc = .ok (.getfield 18, 3)) (kk : κ.2.1 (g.2.1 a 2) = some (.inl (FieldType.int, 24)) → zSim K f (zAt E D A Q nL κ g (pc + 3) lv (.ref (g.2.1 a 2) :: st))) : zSim K f (zAt E D A Q nL κ g pc lv (.ref a :: st)) := z_wt (fun hw => z_get F (r := (RX3, TX3, 7)) (k := 2) ht rfl inZ3 (by decide) q_79 (fun _ => zref_pos hw.1 (hw.2.1 a _ ht 2 _ rfl)) hd (kk (hw.2.1 a _ ht 2 _ rfl)))
theorem gf_X3_21 {ρ : Type} {K : ρ → Prop} {f : Option ρ} {E : zE} {D : zD} {A : Nat → Prop} {Q : State → Prop} {nL : Nat} {κ : zC} {g : zG} {pc : Nat} {lv : List (Nat × Value)} {st : List Value} {cc : ByteArray} {ret : Option FieldType} (F : zF E D A cc "TypeChain$Program" nL ret) {a : Nat} (ht : κ.2.1 a = some (.inr 3)) (hd : decode cc pc = .ok (.getfield 21, 3)) (kk : κ.2.1 (g.2.1 a 3) = some (.inl (FieldType.int, 24)) → zSim K f (zAt E D A Q nL κ g (pc + 3) lv (.ref (g.2.1 a 3) :: st))) : zSim K f (zAt E D A Q nL κ g pc lv (.ref a :: st)) := z_wt (fun hw => z_get F (r := (RX3, TX3, 7)) (k := 3) ht rfl inZ3 (by decide) q_80 (fun _ => zref_pos hw.1 (hw.2.1 a _ ht 3 _ rfl)) hd (kk (hw.2.1 a _ ht 3 _ rfl)))
theorem gf_X3_24 {ρ : Type} {K : ρ → Prop} {f : Option ρ} {E : zE} {D : zD} {A : Nat → Prop} {Q : State → Prop} {nL : Nat} {κ : zC} {g : zG} {pc : Nat} {lv : List (Nat × Value)} {st : List Value} {cc : ByteArray} {ret : Option FieldType} (F : zF E D A cc "TypeChain$Program" nL ret) {a : Nat} (ht : κ.2.1 a = some (.inr 3)) (hd : decode cc pc = .ok (.getfield 24, 3)) (kk : κ.2.1 (g.2.1 a 4) = some (.inl (FieldType.int, 240)) → zSim K f (zAt E D A Q nL κ g (pc + 3) lv (.ref (g.2.1 a 4) :: st))) : zSim K f (zAt E D A Q nL κ g pc lv (.ref a :: st)) := z_wt (fun hw => z_get F (r := (RX3, TX3, 7)) (k := 4) ht rfl inZ3 (by decide) q_83 (fun _ => zref_pos hw.1 (hw.2.1 a _ ht 4 _ rfl)) hd (kk (hw.2.1 a _ ht 4 _ rfl)))
theorem gf_X3_27 {ρ : Type} {K : ρ → Prop} {f : Option ρ} {E : zE} {D : zD} {A : Nat → Prop} {Q : State → Prop} {nL : Nat} {κ : zC} {g : zG} {pc : Nat} {lv : List (Nat × Value)} {st : List Value} {cc : ByteArray} {ret : Option FieldType} (F : zF E D A cc "TypeChain$Program" nL ret) {a : Nat} (ht : κ.2.1 a = some (.inr 3)) (hd : decode cc pc = .ok (.getfield 27, 3)) (kk : zSim K f (zAt E D A Q nL κ g (pc + 3) lv (.int (g.1 a 5) :: st))) : zSim K f (zAt E D A Q nL κ g pc lv (.ref a :: st)) := z_get F (r := (RX3, TX3, 7)) (k := 5) ht rfl inZ3 (by decide) q_84 (fun _ => rfl) hd kk
theorem pf_X3_27 {ρ : Type} {K : ρ → Prop} {f : Option ρ} {E : zE} {D : zD} {A : Nat → Prop} {Q : State → Prop} {nL : Nat} {κ : zC} {g : zG} {pc : Nat} {lv : List (Nat × Value)} {st : List Value} {cc : ByteArray} {ret : Option FieldType} (F : zF E D A cc "TypeChain$Program" nL ret) {a : Nat} (ht : κ.2.1 a = some (.inr 3)) {x : Int32} (hd : decode cc pc = .ok (.putfield 27, 3)) (kk : zSim K f (zAt E D A Q nL κ (zsi g a 5 x) (pc + 3) lv st)) : zSim K f (zAt E D A Q nL κ g pc lv (.int x :: .ref a :: st)) := z_put0 F (r := (RX3, TX3, 7)) (k := 5) ht rfl inZ3 tyX3_ok nmX3 (by decide) q_84 rfl rfl rfl (zOne_i g a 5 x) (congrArg Value.int (zu_same g.1 a 5 x)) (fun h => h.si _ _ _) hd kk
theorem gf_X3_31 {ρ : Type} {K : ρ → Prop} {f : Option ρ} {E : zE} {D : zD} {A : Nat → Prop} {Q : State → Prop} {nL : Nat} {κ : zC} {g : zG} {pc : Nat} {lv : List (Nat × Value)} {st : List Value} {cc : ByteArray} {ret : Option FieldType} (F : zF E D A cc "TypeChain$Program" nL ret) {a : Nat} (ht : κ.2.1 a = some (.inr 3)) (hd : decode cc pc = .ok (.getfield 31, 3)) (kk : zSim K f (zAt E D A Q nL κ g (pc + 3) lv (.int (g.1 a 6) :: st))) : zSim K f (zAt E D A Q nL κ g pc lv (.ref a :: st)) := z_get F (r := (RX3, TX3, 7)) (k := 6) ht rfl inZ3 (by decide) q_89 (fun _ => rfl) hd kk
theorem pf_X3_31 {ρ : Type} {K : ρ → Prop} {f : Option ρ} {E : zE} {D : zD} {A : Nat → Prop} {Q : State → Prop} {nL : Nat} {κ : zC} {g : zG} {pc : Nat} {lv : List (Nat × Value)} {st : List Value} {cc : ByteArray} {ret : Option FieldType} (F : zF E D A cc "TypeChain$Program" nL ret) {a : Nat} (ht : κ.2.1 a = some (.inr 3)) {x : Int32} (hd : decode cc pc = .ok (.putfield 31, 3)) (kk : zSim K f (zAt E D A Q nL κ (zsi g a 6 x) (pc + 3) lv st)) : zSim K f (zAt E D A Q nL κ g pc lv (.int x :: .ref a :: st)) := z_put0 F (r := (RX3, TX3, 7)) (k := 6) ht rfl inZ3 tyX3_ok nmX3 (by decide) q_89 rfl rfl rfl (zOne_i g a 6 x) (congrArg Value.int (zu_same g.1 a 6 x)) (fun h => h.si _ _ _) hd kk
theorem gf_X4_9 {ρ : Type} {K : ρ → Prop} {f : Option ρ} {E : zE} {D : zD} {A : Nat → Prop} {Q : State → Prop} {nL : Nat} {κ : zC} {g : zG} {pc : Nat} {lv : List (Nat × Value)} {st : List Value} {cc : ByteArray} {ret : Option FieldType} (F : zF E D A cc "TypeChain$Reader" nL ret) {a : Nat} (ht : κ.2.1 a = some (.inr 4)) (hd : decode cc pc = .ok (.getfield 9, 3)) (kk : κ.2.1 (g.2.1 a 0) = some (.inl (FieldType.byte, 240)) → zSim K f (zAt E D A Q nL κ g (pc + 3) lv (.ref (g.2.1 a 0) :: st))) : zSim K f (zAt E D A Q nL κ g pc lv (.ref a :: st)) := z_wt (fun hw => z_get F (r := (RX4, TX4, 14)) (k := 0) ht rfl inZ4 (by decide) q_166 (fun _ => zref_pos hw.1 (hw.2.1 a _ ht 0 _ rfl)) hd (kk (hw.2.1 a _ ht 0 _ rfl)))
theorem gf_X4_15 {ρ : Type} {K : ρ → Prop} {f : Option ρ} {E : zE} {D : zD} {A : Nat → Prop} {Q : State → Prop} {nL : Nat} {κ : zC} {g : zG} {pc : Nat} {lv : List (Nat × Value)} {st : List Value} {cc : ByteArray} {ret : Option FieldType} (F : zF E D A cc "TypeChain$Reader" nL ret) {a : Nat} (ht : κ.2.1 a = some (.inr 4)) (hd : decode cc pc = .ok (.getfield 15, 3)) (kk : κ.2.1 (g.2.1 a 10) = some (.inl (FieldType.int, 34)) → zSim K f (zAt E D A Q nL κ g (pc + 3) lv (.ref (g.2.1 a 10) :: st))) : zSim K f (zAt E D A Q nL κ g pc lv (.ref a :: st)) := z_wt (fun hw => z_get F (r := (RX4, TX4, 14)) (k := 10) ht rfl inZ4 (by decide) q_180 (fun _ => zref_pos hw.1 (hw.2.1 a _ ht 10 _ rfl)) hd (kk (hw.2.1 a _ ht 10 _ rfl)))
theorem gf_X4_19 {ρ : Type} {K : ρ → Prop} {f : Option ρ} {E : zE} {D : zD} {A : Nat → Prop} {Q : State → Prop} {nL : Nat} {κ : zC} {g : zG} {pc : Nat} {lv : List (Nat × Value)} {st : List Value} {cc : ByteArray} {ret : Option FieldType} (F : zF E D A cc "TypeChain$Reader" nL ret) {a : Nat} (ht : κ.2.1 a = some (.inr 4)) (hd : decode cc pc = .ok (.getfield 19, 3)) (kk : κ.2.1 (g.2.1 a 11) = some (.inl (FieldType.int, 34)) → zSim K f (zAt E D A Q nL κ g (pc + 3) lv (.ref (g.2.1 a 11) :: st))) : zSim K f (zAt E D A Q nL κ g pc lv (.ref a :: st)) := z_wt (fun hw => z_get F (r := (RX4, TX4, 14)) (k := 11) ht rfl inZ4 (by decide) q_181 (fun _ => zref_pos hw.1 (hw.2.1 a _ ht 11 _ rfl)) hd (kk (hw.2.1 a _ ht 11 _ rfl)))
theorem gf_X4_22 {ρ : Type} {K : ρ → Prop} {f : Option ρ} {E : zE} {D : zD} {A : Nat → Prop} {Q : State → Prop} {nL : Nat} {κ : zC} {g : zG} {pc : Nat} {lv : List (Nat × Value)} {st : List Value} {cc : ByteArray} {ret : Option FieldType} (F : zF E D A cc "TypeChain$Reader" nL ret) {a : Nat} (ht : κ.2.1 a = some (.inr 4)) (hd : decode cc pc = .ok (.getfield 22, 3)) (kk : κ.2.1 (g.2.1 a 12) = some (.inl (FieldType.int, 34)) → zSim K f (zAt E D A Q nL κ g (pc + 3) lv (.ref (g.2.1 a 12) :: st))) : zSim K f (zAt E D A Q nL κ g pc lv (.ref a :: st)) := z_wt (fun hw => z_get F (r := (RX4, TX4, 14)) (k := 12) ht rfl inZ4 (by decide) q_182 (fun _ => zref_pos hw.1 (hw.2.1 a _ ht 12 _ rfl)) hd (kk (hw.2.1 a _ ht 12 _ rfl)))
theorem gf_X4_25 {ρ : Type} {K : ρ → Prop} {f : Option ρ} {E : zE} {D : zD} {A : Nat → Prop} {Q : State → Prop} {nL : Nat} {κ : zC} {g : zG} {pc : Nat} {lv : List (Nat × Value)} {st : List Value} {cc : ByteArray} {ret : Option FieldType} (F : zF E D A cc "TypeChain$Reader" nL ret) {a : Nat} (ht : κ.2.1 a = some (.inr 4)) (hd : decode cc pc = .ok (.getfield 25, 3)) (kk : zSim K f (zAt E D A Q nL κ g (pc + 3) lv (.int (g.1 a 1) :: st))) : zSim K f (zAt E D A Q nL κ g pc lv (.ref a :: st)) := z_get F (r := (RX4, TX4, 14)) (k := 1) ht rfl inZ4 (by decide) q_167 (fun _ => rfl) hd kk
theorem pf_X4_25 {ρ : Type} {K : ρ → Prop} {f : Option ρ} {E : zE} {D : zD} {A : Nat → Prop} {Q : State → Prop} {nL : Nat} {κ : zC} {g : zG} {pc : Nat} {lv : List (Nat × Value)} {st : List Value} {cc : ByteArray} {ret : Option FieldType} (F : zF E D A cc "TypeChain$Reader" nL ret) {a : Nat} (ht : κ.2.1 a = some (.inr 4)) {x : Int32} (hd : decode cc pc = .ok (.putfield 25, 3)) (kk : zSim K f (zAt E D A Q nL κ (zsi g a 1 x) (pc + 3) lv st)) : zSim K f (zAt E D A Q nL κ g pc lv (.int x :: .ref a :: st)) := z_put0 F (r := (RX4, TX4, 14)) (k := 1) ht rfl inZ4 tyX4_ok nmX4 (by decide) q_167 rfl rfl rfl (zOne_i g a 1 x) (congrArg Value.int (zu_same g.1 a 1 x)) (fun h => h.si _ _ _) hd kk
theorem gf_X4_34 {ρ : Type} {K : ρ → Prop} {f : Option ρ} {E : zE} {D : zD} {A : Nat → Prop} {Q : State → Prop} {nL : Nat} {κ : zC} {g : zG} {pc : Nat} {lv : List (Nat × Value)} {st : List Value} {cc : ByteArray} {ret : Option FieldType} (F : zF E D A cc "TypeChain$Reader" nL ret) {a : Nat} (ht : κ.2.1 a = some (.inr 4)) (hd : decode cc pc = .ok (.getfield 34, 3)) (kk : zSim K f (zAt E D A Q nL κ g (pc + 3) lv (.int (g.1 a 2) :: st))) : zSim K f (zAt E D A Q nL κ g pc lv (.ref a :: st)) := z_get F (r := (RX4, TX4, 14)) (k := 2) ht rfl inZ4 (by decide) q_169 (fun _ => rfl) hd kk
theorem pf_X4_34 {ρ : Type} {K : ρ → Prop} {f : Option ρ} {E : zE} {D : zD} {A : Nat → Prop} {Q : State → Prop} {nL : Nat} {κ : zC} {g : zG} {pc : Nat} {lv : List (Nat × Value)} {st : List Value} {cc : ByteArray} {ret : Option FieldType} (F : zF E D A cc "TypeChain$Reader" nL ret) {a : Nat} (ht : κ.2.1 a = some (.inr 4)) {x : Int32} (hd : decode cc pc = .ok (.putfield 34, 3)) (kk : zSim K f (zAt E D A Q nL κ (zsi g a 2 x) (pc + 3) lv st)) : zSim K f (zAt E D A Q nL κ g pc lv (.int x :: .ref a :: st)) := z_put0 F (r := (RX4, TX4, 14)) (k := 2) ht rfl inZ4 tyX4_ok nmX4 (by decide) q_169 rfl rfl rfl (zOne_i g a 2 x) (congrArg Value.int (zu_same g.1 a 2 x)) (fun h => h.si _ _ _) hd kk
theorem gf_X4_37 {ρ : Type} {K : ρ → Prop} {f : Option ρ} {E : zE} {D : zD} {A : Nat → Prop} {Q : State → Prop} {nL : Nat} {κ : zC} {g : zG} {pc : Nat} {lv : List (Nat × Value)} {st : List Value} {cc : ByteArray} {ret : Option FieldType} (F : zF E D A cc "TypeChain$Reader" nL ret) {a : Nat} (ht : κ.2.1 a = some (.inr 4)) (hd : decode cc pc = .ok (.getfield 37, 3)) (kk : zSim K f (zAt E D A Q nL κ g (pc + 3) lv (.int (g.1 a 7) :: st))) : zSim K f (zAt E D A Q nL κ g pc lv (.ref a :: st)) := z_get F (r := (RX4, TX4, 14)) (k := 7) ht rfl inZ4 (by decide) q_177 (fun _ => rfl) hd kk
theorem pf_X4_37 {ρ : Type} {K : ρ → Prop} {f : Option ρ} {E : zE} {D : zD} {A : Nat → Prop} {Q : State → Prop} {nL : Nat} {κ : zC} {g : zG} {pc : Nat} {lv : List (Nat × Value)} {st : List Value} {cc : ByteArray} {ret : Option FieldType} (F : zF E D A cc "TypeChain$Reader" nL ret) {a : Nat} (ht : κ.2.1 a = some (.inr 4)) {x : Int32} (hd : decode cc pc = .ok (.putfield 37, 3)) (kk : zSim K f (zAt E D A Q nL κ (zsi g a 7 x) (pc + 3) lv st)) : zSim K f (zAt E D A Q nL κ g pc lv (.int x :: .ref a :: st)) := z_put0 F (r := (RX4, TX4, 14)) (k := 7) ht rfl inZ4 tyX4_ok nmX4 (by decide) q_177 rfl rfl rfl (zOne_i g a 7 x) (congrArg Value.int (zu_same g.1 a 7 x)) (fun h => h.si _ _ _) hd kk
theorem gf_X4_40 {ρ : Type} {K : ρ → Prop} {f : Option ρ} {E : zE} {D : zD} {A : Nat → Prop} {Q : State → Prop} {nL : Nat} {κ : zC} {g : zG} {pc : Nat} {lv : List (Nat × Value)} {st : List Value} {cc : ByteArray} {ret : Option FieldType} (F : zF E D A cc "TypeChain$Reader" nL ret) {a : Nat} (ht : κ.2.1 a = some (.inr 4)) (hd : decode cc pc = .ok (.getfield 40, 3)) (kk : zSim K f (zAt E D A Q nL κ g (pc + 3) lv (.int (g.1 a 4) :: st))) : zSim K f (zAt E D A Q nL κ g pc lv (.ref a :: st)) := z_get F (r := (RX4, TX4, 14)) (k := 4) ht rfl inZ4 (by decide) q_173 (fun _ => rfl) hd kk
theorem pf_X4_40 {ρ : Type} {K : ρ → Prop} {f : Option ρ} {E : zE} {D : zD} {A : Nat → Prop} {Q : State → Prop} {nL : Nat} {κ : zC} {g : zG} {pc : Nat} {lv : List (Nat × Value)} {st : List Value} {cc : ByteArray} {ret : Option FieldType} (F : zF E D A cc "TypeChain$Reader" nL ret) {a : Nat} (ht : κ.2.1 a = some (.inr 4)) {x : Int32} (hd : decode cc pc = .ok (.putfield 40, 3)) (kk : zSim K f (zAt E D A Q nL κ (zsi g a 4 x) (pc + 3) lv st)) : zSim K f (zAt E D A Q nL κ g pc lv (.int x :: .ref a :: st)) := z_put0 F (r := (RX4, TX4, 14)) (k := 4) ht rfl inZ4 tyX4_ok nmX4 (by decide) q_173 rfl rfl rfl (zOne_i g a 4 x) (congrArg Value.int (zu_same g.1 a 4 x)) (fun h => h.si _ _ _) hd kk
theorem gf_X4_43 {ρ : Type} {K : ρ → Prop} {f : Option ρ} {E : zE} {D : zD} {A : Nat → Prop} {Q : State → Prop} {nL : Nat} {κ : zC} {g : zG} {pc : Nat} {lv : List (Nat × Value)} {st : List Value} {cc : ByteArray} {ret : Option FieldType} (F : zF E D A cc "TypeChain$Reader" nL ret) {a : Nat} (ht : κ.2.1 a = some (.inr 4)) (hd : decode cc pc = .ok (.getfield 43, 3)) (kk : zSim K f (zAt E D A Q nL κ g (pc + 3) lv (.int (g.1 a 9) :: st))) : zSim K f (zAt E D A Q nL κ g pc lv (.ref a :: st)) := z_get F (r := (RX4, TX4, 14)) (k := 9) ht rfl inZ4 (by decide) q_179 (fun _ => rfl) hd kk
theorem pf_X4_43 {ρ : Type} {K : ρ → Prop} {f : Option ρ} {E : zE} {D : zD} {A : Nat → Prop} {Q : State → Prop} {nL : Nat} {κ : zC} {g : zG} {pc : Nat} {lv : List (Nat × Value)} {st : List Value} {cc : ByteArray} {ret : Option FieldType} (F : zF E D A cc "TypeChain$Reader" nL ret) {a : Nat} (ht : κ.2.1 a = some (.inr 4)) {x : Int32} (hd : decode cc pc = .ok (.putfield 43, 3)) (kk : zSim K f (zAt E D A Q nL κ (zsi g a 9 x) (pc + 3) lv st)) : zSim K f (zAt E D A Q nL κ g pc lv (.int x :: .ref a :: st)) := z_put0 F (r := (RX4, TX4, 14)) (k := 9) ht rfl inZ4 tyX4_ok nmX4 (by decide) q_179 rfl rfl rfl (zOne_i g a 9 x) (congrArg Value.int (zu_same g.1 a 9 x)) (fun h => h.si _ _ _) hd kk
theorem gf_X4_46 {ρ : Type} {K : ρ → Prop} {f : Option ρ} {E : zE} {D : zD} {A : Nat → Prop} {Q : State → Prop} {nL : Nat} {κ : zC} {g : zG} {pc : Nat} {lv : List (Nat × Value)} {st : List Value} {cc : ByteArray} {ret : Option FieldType} (F : zF E D A cc "TypeChain$Reader" nL ret) {a : Nat} (ht : κ.2.1 a = some (.inr 4)) (hd : decode cc pc = .ok (.getfield 46, 3)) (kk : zSim K f (zAt E D A Q nL κ g (pc + 3) lv (.int (g.1 a 13) :: st))) : zSim K f (zAt E D A Q nL κ g pc lv (.ref a :: st)) := z_get F (r := (RX4, TX4, 14)) (k := 13) ht rfl inZ4 (by decide) q_183 (fun _ => rfl) hd kk
theorem pf_X4_46 {ρ : Type} {K : ρ → Prop} {f : Option ρ} {E : zE} {D : zD} {A : Nat → Prop} {Q : State → Prop} {nL : Nat} {κ : zC} {g : zG} {pc : Nat} {lv : List (Nat × Value)} {st : List Value} {cc : ByteArray} {ret : Option FieldType} (F : zF E D A cc "TypeChain$Reader" nL ret) {a : Nat} (ht : κ.2.1 a = some (.inr 4)) {x : Int32} (hd : decode cc pc = .ok (.putfield 46, 3)) (kk : zSim K f (zAt E D A Q nL κ (zsi g a 13 x) (pc + 3) lv st)) : zSim K f (zAt E D A Q nL κ g pc lv (.int x :: .ref a :: st)) := z_put0 F (r := (RX4, TX4, 14)) (k := 13) ht rfl inZ4 tyX4_ok nmX4 (by decide) q_183 rfl rfl rfl (zOne_i g a 13 x) (congrArg Value.int (zu_same g.1 a 13 x)) (fun h => h.si _ _ _) hd kk
theorem gf_X4_53 {ρ : Type} {K : ρ → Prop} {f : Option ρ} {E : zE} {D : zD} {A : Nat → Prop} {Q : State → Prop} {nL : Nat} {κ : zC} {g : zG} {pc : Nat} {lv : List (Nat × Value)} {st : List Value} {cc : ByteArray} {ret : Option FieldType} (F : zF E D A cc "TypeChain$Reader" nL ret) {a : Nat} (ht : κ.2.1 a = some (.inr 4)) (hd : decode cc pc = .ok (.getfield 53, 3)) (kk : zSim K f (zAt E D A Q nL κ g (pc + 3) lv (.int (g.1 a 5) :: st))) : zSim K f (zAt E D A Q nL κ g pc lv (.ref a :: st)) := z_get F (r := (RX4, TX4, 14)) (k := 5) ht rfl inZ4 (by decide) q_175 (fun _ => rfl) hd kk
theorem pf_X4_53 {ρ : Type} {K : ρ → Prop} {f : Option ρ} {E : zE} {D : zD} {A : Nat → Prop} {Q : State → Prop} {nL : Nat} {κ : zC} {g : zG} {pc : Nat} {lv : List (Nat × Value)} {st : List Value} {cc : ByteArray} {ret : Option FieldType} (F : zF E D A cc "TypeChain$Reader" nL ret) {a : Nat} (ht : κ.2.1 a = some (.inr 4)) {x : Int32} (hd : decode cc pc = .ok (.putfield 53, 3)) (kk : zSim K f (zAt E D A Q nL κ (zsi g a 5 x) (pc + 3) lv st)) : zSim K f (zAt E D A Q nL κ g pc lv (.int x :: .ref a :: st)) := z_put0 F (r := (RX4, TX4, 14)) (k := 5) ht rfl inZ4 tyX4_ok nmX4 (by decide) q_175 rfl rfl rfl (zOne_i g a 5 x) (congrArg Value.int (zu_same g.1 a 5 x)) (fun h => h.si _ _ _) hd kk
theorem gf_X4_70 {ρ : Type} {K : ρ → Prop} {f : Option ρ} {E : zE} {D : zD} {A : Nat → Prop} {Q : State → Prop} {nL : Nat} {κ : zC} {g : zG} {pc : Nat} {lv : List (Nat × Value)} {st : List Value} {cc : ByteArray} {ret : Option FieldType} (F : zF E D A cc "TypeChain$Reader" nL ret) {a : Nat} (ht : κ.2.1 a = some (.inr 4)) (hd : decode cc pc = .ok (.getfield 70, 3)) (kk : zSim K f (zAt E D A Q nL κ g (pc + 3) lv (.int (g.1 a 6) :: st))) : zSim K f (zAt E D A Q nL κ g pc lv (.ref a :: st)) := z_get F (r := (RX4, TX4, 14)) (k := 6) ht rfl inZ4 (by decide) q_176 (fun _ => rfl) hd kk
theorem pf_X4_70 {ρ : Type} {K : ρ → Prop} {f : Option ρ} {E : zE} {D : zD} {A : Nat → Prop} {Q : State → Prop} {nL : Nat} {κ : zC} {g : zG} {pc : Nat} {lv : List (Nat × Value)} {st : List Value} {cc : ByteArray} {ret : Option FieldType} (F : zF E D A cc "TypeChain$Reader" nL ret) {a : Nat} (ht : κ.2.1 a = some (.inr 4)) {x : Int32} (hd : decode cc pc = .ok (.putfield 70, 3)) (kk : zSim K f (zAt E D A Q nL κ (zsi g a 6 x) (pc + 3) lv st)) : zSim K f (zAt E D A Q nL κ g pc lv (.int x :: .ref a :: st)) := z_put0 F (r := (RX4, TX4, 14)) (k := 6) ht rfl inZ4 tyX4_ok nmX4 (by decide) q_176 rfl rfl rfl (zOne_i g a 6 x) (congrArg Value.int (zu_same g.1 a 6 x)) (fun h => h.si _ _ _) hd kk
theorem gf_X4_77 {ρ : Type} {K : ρ → Prop} {f : Option ρ} {E : zE} {D : zD} {A : Nat → Prop} {Q : State → Prop} {nL : Nat} {κ : zC} {g : zG} {pc : Nat} {lv : List (Nat × Value)} {st : List Value} {cc : ByteArray} {ret : Option FieldType} (F : zF E D A cc "TypeChain$Reader" nL ret) {a : Nat} (ht : κ.2.1 a = some (.inr 5)) (hd : decode cc pc = .ok (.getfield 77, 3)) (kk : κ.2.1 (g.2.1 a 1) = some (.inr 3) → zSim K f (zAt E D A Q nL κ g (pc + 3) lv (.ref (g.2.1 a 1) :: st))) : zSim K f (zAt E D A Q nL κ g pc lv (.ref a :: st)) := z_wt (fun hw => z_get F (r := (RX5, TX5, 4)) (k := 1) ht rfl inZ5 (by decide) q_140 (fun _ => zref_pos hw.1 (hw.2.1 a _ ht 1 _ rfl)) hd (kk (hw.2.1 a _ ht 1 _ rfl)))
theorem gf_X4_81 {ρ : Type} {K : ρ → Prop} {f : Option ρ} {E : zE} {D : zD} {A : Nat → Prop} {Q : State → Prop} {nL : Nat} {κ : zC} {g : zG} {pc : Nat} {lv : List (Nat × Value)} {st : List Value} {cc : ByteArray} {ret : Option FieldType} (F : zF E D A cc "TypeChain$Reader" nL ret) {a : Nat} (ht : κ.2.1 a = some (.inr 3)) (hd : decode cc pc = .ok (.getfield 81, 3)) (kk : zSim K f (zAt E D A Q nL κ g (pc + 3) lv (.int (g.1 a 5) :: st))) : zSim K f (zAt E D A Q nL κ g pc lv (.ref a :: st)) := z_get F (r := (RX3, TX3, 7)) (k := 5) ht rfl inZ3 (by decide) q_85 (fun _ => rfl) hd kk
theorem pf_X4_81 {ρ : Type} {K : ρ → Prop} {f : Option ρ} {E : zE} {D : zD} {A : Nat → Prop} {Q : State → Prop} {nL : Nat} {κ : zC} {g : zG} {pc : Nat} {lv : List (Nat × Value)} {st : List Value} {cc : ByteArray} {ret : Option FieldType} (F : zF E D A cc "TypeChain$Reader" nL ret) {a : Nat} (ht : κ.2.1 a = some (.inr 3)) {x : Int32} (hd : decode cc pc = .ok (.putfield 81, 3)) (kk : zSim K f (zAt E D A Q nL κ (zsi g a 5 x) (pc + 3) lv st)) : zSim K f (zAt E D A Q nL κ g pc lv (.int x :: .ref a :: st)) := z_put0 F (r := (RX3, TX3, 7)) (k := 5) ht rfl inZ3 tyX3_ok nmX3 (by decide) q_85 rfl rfl rfl (zOne_i g a 5 x) (congrArg Value.int (zu_same g.1 a 5 x)) (fun h => h.si _ _ _) hd kk
theorem gf_X4_86 {ρ : Type} {K : ρ → Prop} {f : Option ρ} {E : zE} {D : zD} {A : Nat → Prop} {Q : State → Prop} {nL : Nat} {κ : zC} {g : zG} {pc : Nat} {lv : List (Nat × Value)} {st : List Value} {cc : ByteArray} {ret : Option FieldType} (F : zF E D A cc "TypeChain$Reader" nL ret) {a : Nat} (ht : κ.2.1 a = some (.inr 5)) (hd : decode cc pc = .ok (.getfield 86, 3)) (kk : κ.2.1 (g.2.1 a 0) = some (.inr 0) → zSim K f (zAt E D A Q nL κ g (pc + 3) lv (.ref (g.2.1 a 0) :: st))) : zSim K f (zAt E D A Q nL κ g pc lv (.ref a :: st)) := z_wt (fun hw => z_get F (r := (RX5, TX5, 4)) (k := 0) ht rfl inZ5 (by decide) q_138 (fun _ => zref_pos hw.1 (hw.2.1 a _ ht 0 _ rfl)) hd (kk (hw.2.1 a _ ht 0 _ rfl)))
theorem gf_X4_94 {ρ : Type} {K : ρ → Prop} {f : Option ρ} {E : zE} {D : zD} {A : Nat → Prop} {Q : State → Prop} {nL : Nat} {κ : zC} {g : zG} {pc : Nat} {lv : List (Nat × Value)} {st : List Value} {cc : ByteArray} {ret : Option FieldType} (F : zF E D A cc "TypeChain$Reader" nL ret) {a : Nat} (ht : κ.2.1 a = some (.inr 5)) (hd : decode cc pc = .ok (.getfield 94, 3)) (kk : κ.2.1 (g.2.1 a 3) = some (.inl (FieldType.int, 60)) → zSim K f (zAt E D A Q nL κ g (pc + 3) lv (.ref (g.2.1 a 3) :: st))) : zSim K f (zAt E D A Q nL κ g pc lv (.ref a :: st)) := z_wt (fun hw => z_get F (r := (RX5, TX5, 4)) (k := 3) ht rfl inZ5 (by decide) q_149 (fun _ => zref_pos hw.1 (hw.2.1 a _ ht 3 _ rfl)) hd (kk (hw.2.1 a _ ht 3 _ rfl)))
theorem gf_X4_126 {ρ : Type} {K : ρ → Prop} {f : Option ρ} {E : zE} {D : zD} {A : Nat → Prop} {Q : State → Prop} {nL : Nat} {κ : zC} {g : zG} {pc : Nat} {lv : List (Nat × Value)} {st : List Value} {cc : ByteArray} {ret : Option FieldType} (F : zF E D A cc "TypeChain$Reader" nL ret) {a : Nat} (ht : κ.2.1 a = some (.inr 5)) (hd : decode cc pc = .ok (.getfield 126, 3)) (kk : κ.2.1 (g.2.1 a 2) = some (.inl (FieldType.int, 8)) → zSim K f (zAt E D A Q nL κ g (pc + 3) lv (.ref (g.2.1 a 2) :: st))) : zSim K f (zAt E D A Q nL κ g pc lv (.ref a :: st)) := z_wt (fun hw => z_get F (r := (RX5, TX5, 4)) (k := 2) ht rfl inZ5 (by decide) q_145 (fun _ => zref_pos hw.1 (hw.2.1 a _ ht 2 _ rfl)) hd (kk (hw.2.1 a _ ht 2 _ rfl)))
theorem gf_X4_129 {ρ : Type} {K : ρ → Prop} {f : Option ρ} {E : zE} {D : zD} {A : Nat → Prop} {Q : State → Prop} {nL : Nat} {κ : zC} {g : zG} {pc : Nat} {lv : List (Nat × Value)} {st : List Value} {cc : ByteArray} {ret : Option FieldType} (F : zF E D A cc "TypeChain$Reader" nL ret) {a : Nat} (ht : κ.2.1 a = some (.inr 4)) (hd : decode cc pc = .ok (.getfield 129, 3)) (kk : zSim K f (zAt E D A Q nL κ g (pc + 3) lv (.int (g.1 a 8) :: st))) : zSim K f (zAt E D A Q nL κ g pc lv (.ref a :: st)) := z_get F (r := (RX4, TX4, 14)) (k := 8) ht rfl inZ4 (by decide) q_178 (fun _ => rfl) hd kk
theorem pf_X4_129 {ρ : Type} {K : ρ → Prop} {f : Option ρ} {E : zE} {D : zD} {A : Nat → Prop} {Q : State → Prop} {nL : Nat} {κ : zC} {g : zG} {pc : Nat} {lv : List (Nat × Value)} {st : List Value} {cc : ByteArray} {ret : Option FieldType} (F : zF E D A cc "TypeChain$Reader" nL ret) {a : Nat} (ht : κ.2.1 a = some (.inr 4)) {x : Int32} (hd : decode cc pc = .ok (.putfield 129, 3)) (kk : zSim K f (zAt E D A Q nL κ (zsi g a 8 x) (pc + 3) lv st)) : zSim K f (zAt E D A Q nL κ g pc lv (.int x :: .ref a :: st)) := z_put0 F (r := (RX4, TX4, 14)) (k := 8) ht rfl inZ4 tyX4_ok nmX4 (by decide) q_178 rfl rfl rfl (zOne_i g a 8 x) (congrArg Value.int (zu_same g.1 a 8 x)) (fun h => h.si _ _ _) hd kk
theorem gf_X4_132 {ρ : Type} {K : ρ → Prop} {f : Option ρ} {E : zE} {D : zD} {A : Nat → Prop} {Q : State → Prop} {nL : Nat} {κ : zC} {g : zG} {pc : Nat} {lv : List (Nat × Value)} {st : List Value} {cc : ByteArray} {ret : Option FieldType} (F : zF E D A cc "TypeChain$Reader" nL ret) {a : Nat} (ht : κ.2.1 a = some (.inr 0)) (hd : decode cc pc = .ok (.getfield 132, 3)) (kk : κ.2.1 (g.2.1 a 0) = some (.inl (FieldType.int, 48)) → zSim K f (zAt E D A Q nL κ g (pc + 3) lv (.ref (g.2.1 a 0) :: st))) : zSim K f (zAt E D A Q nL κ g pc lv (.ref a :: st)) := z_wt (fun hw => z_get F (r := (RX0, TX0, 4)) (k := 0) ht rfl inZ0 (by decide) q_45 (fun _ => zref_pos hw.1 (hw.2.1 a _ ht 0 _ rfl)) hd (kk (hw.2.1 a _ ht 0 _ rfl)))
theorem gf_X4_141 {ρ : Type} {K : ρ → Prop} {f : Option ρ} {E : zE} {D : zD} {A : Nat → Prop} {Q : State → Prop} {nL : Nat} {κ : zC} {g : zG} {pc : Nat} {lv : List (Nat × Value)} {st : List Value} {cc : ByteArray} {ret : Option FieldType} (F : zF E D A cc "TypeChain$Reader" nL ret) {a : Nat} (ht : κ.2.1 a = some (.inr 0)) (hd : decode cc pc = .ok (.getfield 141, 3)) (kk : zSim K f (zAt E D A Q nL κ g (pc + 3) lv (.int (g.1 a 1) :: st))) : zSim K f (zAt E D A Q nL κ g pc lv (.ref a :: st)) := z_get F (r := (RX0, TX0, 4)) (k := 1) ht rfl inZ0 (by decide) q_52 (fun _ => rfl) hd kk
theorem pf_X4_141 {ρ : Type} {K : ρ → Prop} {f : Option ρ} {E : zE} {D : zD} {A : Nat → Prop} {Q : State → Prop} {nL : Nat} {κ : zC} {g : zG} {pc : Nat} {lv : List (Nat × Value)} {st : List Value} {cc : ByteArray} {ret : Option FieldType} (F : zF E D A cc "TypeChain$Reader" nL ret) {a : Nat} (ht : κ.2.1 a = some (.inr 0)) {x : Int32} (hd : decode cc pc = .ok (.putfield 141, 3)) (kk : zSim K f (zAt E D A Q nL κ (zsi g a 1 x) (pc + 3) lv st)) : zSim K f (zAt E D A Q nL κ g pc lv (.int x :: .ref a :: st)) := z_put0 F (r := (RX0, TX0, 4)) (k := 1) ht rfl inZ0 tyX0_ok nmX0 (by decide) q_52 rfl rfl rfl (zOne_i g a 1 x) (congrArg Value.int (zu_same g.1 a 1 x)) (fun h => h.si _ _ _) hd kk
theorem gf_X4_164 {ρ : Type} {K : ρ → Prop} {f : Option ρ} {E : zE} {D : zD} {A : Nat → Prop} {Q : State → Prop} {nL : Nat} {κ : zC} {g : zG} {pc : Nat} {lv : List (Nat × Value)} {st : List Value} {cc : ByteArray} {ret : Option FieldType} (F : zF E D A cc "TypeChain$Reader" nL ret) {a : Nat} (ht : κ.2.1 a = some (.inr 4)) (hd : decode cc pc = .ok (.getfield 164, 3)) (kk : zSim K f (zAt E D A Q nL κ g (pc + 3) lv (.int (g.1 a 3) :: st))) : zSim K f (zAt E D A Q nL κ g pc lv (.ref a :: st)) := z_get F (r := (RX4, TX4, 14)) (k := 3) ht rfl inZ4 (by decide) q_172 (fun _ => rfl) hd kk
theorem pf_X4_164 {ρ : Type} {K : ρ → Prop} {f : Option ρ} {E : zE} {D : zD} {A : Nat → Prop} {Q : State → Prop} {nL : Nat} {κ : zC} {g : zG} {pc : Nat} {lv : List (Nat × Value)} {st : List Value} {cc : ByteArray} {ret : Option FieldType} (F : zF E D A cc "TypeChain$Reader" nL ret) {a : Nat} (ht : κ.2.1 a = some (.inr 4)) {x : Int32} (hd : decode cc pc = .ok (.putfield 164, 3)) (kk : zSim K f (zAt E D A Q nL κ (zsi g a 3 x) (pc + 3) lv st)) : zSim K f (zAt E D A Q nL κ g pc lv (.int x :: .ref a :: st)) := z_put0 F (r := (RX4, TX4, 14)) (k := 3) ht rfl inZ4 tyX4_ok nmX4 (by decide) q_172 rfl rfl rfl (zOne_i g a 3 x) (congrArg Value.int (zu_same g.1 a 3 x)) (fun h => h.si _ _ _) hd kk
theorem gf_X5_12 {ρ : Type} {K : ρ → Prop} {f : Option ρ} {E : zE} {D : zD} {A : Nat → Prop} {Q : State → Prop} {nL : Nat} {κ : zC} {g : zG} {pc : Nat} {lv : List (Nat × Value)} {st : List Value} {cc : ByteArray} {ret : Option FieldType} (F : zF E D A cc "TypeChain$Rules" nL ret) {a : Nat} (ht : κ.2.1 a = some (.inr 5)) (hd : decode cc pc = .ok (.getfield 12, 3)) (kk : κ.2.1 (g.2.1 a 0) = some (.inr 0) → zSim K f (zAt E D A Q nL κ g (pc + 3) lv (.ref (g.2.1 a 0) :: st))) : zSim K f (zAt E D A Q nL κ g pc lv (.ref a :: st)) := z_wt (fun hw => z_get F (r := (RX5, TX5, 4)) (k := 0) ht rfl inZ5 (by decide) q_135 (fun _ => zref_pos hw.1 (hw.2.1 a _ ht 0 _ rfl)) hd (kk (hw.2.1 a _ ht 0 _ rfl)))
theorem gf_X5_21 {ρ : Type} {K : ρ → Prop} {f : Option ρ} {E : zE} {D : zD} {A : Nat → Prop} {Q : State → Prop} {nL : Nat} {κ : zC} {g : zG} {pc : Nat} {lv : List (Nat × Value)} {st : List Value} {cc : ByteArray} {ret : Option FieldType} (F : zF E D A cc "TypeChain$Rules" nL ret) {a : Nat} (ht : κ.2.1 a = some (.inr 5)) (hd : decode cc pc = .ok (.getfield 21, 3)) (kk : κ.2.1 (g.2.1 a 1) = some (.inr 3) → zSim K f (zAt E D A Q nL κ g (pc + 3) lv (.ref (g.2.1 a 1) :: st))) : zSim K f (zAt E D A Q nL κ g pc lv (.ref a :: st)) := z_wt (fun hw => z_get F (r := (RX5, TX5, 4)) (k := 1) ht rfl inZ5 (by decide) q_139 (fun _ => zref_pos hw.1 (hw.2.1 a _ ht 1 _ rfl)) hd (kk (hw.2.1 a _ ht 1 _ rfl)))
theorem gf_X5_25 {ρ : Type} {K : ρ → Prop} {f : Option ρ} {E : zE} {D : zD} {A : Nat → Prop} {Q : State → Prop} {nL : Nat} {κ : zC} {g : zG} {pc : Nat} {lv : List (Nat × Value)} {st : List Value} {cc : ByteArray} {ret : Option FieldType} (F : zF E D A cc "TypeChain$Rules" nL ret) {a : Nat} (ht : κ.2.1 a = some (.inr 5)) (hd : decode cc pc = .ok (.getfield 25, 3)) (kk : κ.2.1 (g.2.1 a 2) = some (.inl (FieldType.int, 8)) → zSim K f (zAt E D A Q nL κ g (pc + 3) lv (.ref (g.2.1 a 2) :: st))) : zSim K f (zAt E D A Q nL κ g pc lv (.ref a :: st)) := z_wt (fun hw => z_get F (r := (RX5, TX5, 4)) (k := 2) ht rfl inZ5 (by decide) q_144 (fun _ => zref_pos hw.1 (hw.2.1 a _ ht 2 _ rfl)) hd (kk (hw.2.1 a _ ht 2 _ rfl)))
theorem gf_X5_29 {ρ : Type} {K : ρ → Prop} {f : Option ρ} {E : zE} {D : zD} {A : Nat → Prop} {Q : State → Prop} {nL : Nat} {κ : zC} {g : zG} {pc : Nat} {lv : List (Nat × Value)} {st : List Value} {cc : ByteArray} {ret : Option FieldType} (F : zF E D A cc "TypeChain$Rules" nL ret) {a : Nat} (ht : κ.2.1 a = some (.inr 5)) (hd : decode cc pc = .ok (.getfield 29, 3)) (kk : κ.2.1 (g.2.1 a 3) = some (.inl (FieldType.int, 60)) → zSim K f (zAt E D A Q nL κ g (pc + 3) lv (.ref (g.2.1 a 3) :: st))) : zSim K f (zAt E D A Q nL κ g pc lv (.ref a :: st)) := z_wt (fun hw => z_get F (r := (RX5, TX5, 4)) (k := 3) ht rfl inZ5 (by decide) q_148 (fun _ => zref_pos hw.1 (hw.2.1 a _ ht 3 _ rfl)) hd (kk (hw.2.1 a _ ht 3 _ rfl)))
theorem gf_X5_47 {ρ : Type} {K : ρ → Prop} {f : Option ρ} {E : zE} {D : zD} {A : Nat → Prop} {Q : State → Prop} {nL : Nat} {κ : zC} {g : zG} {pc : Nat} {lv : List (Nat × Value)} {st : List Value} {cc : ByteArray} {ret : Option FieldType} (F : zF E D A cc "TypeChain$Rules" nL ret) {a : Nat} (ht : κ.2.1 a = some (.inr 0)) (hd : decode cc pc = .ok (.getfield 47, 3)) (kk : zSim K f (zAt E D A Q nL κ g (pc + 3) lv (.int (g.1 a 1) :: st))) : zSim K f (zAt E D A Q nL κ g pc lv (.ref a :: st)) := z_get F (r := (RX0, TX0, 4)) (k := 1) ht rfl inZ0 (by decide) q_48 (fun _ => rfl) hd kk
theorem pf_X5_47 {ρ : Type} {K : ρ → Prop} {f : Option ρ} {E : zE} {D : zD} {A : Nat → Prop} {Q : State → Prop} {nL : Nat} {κ : zC} {g : zG} {pc : Nat} {lv : List (Nat × Value)} {st : List Value} {cc : ByteArray} {ret : Option FieldType} (F : zF E D A cc "TypeChain$Rules" nL ret) {a : Nat} (ht : κ.2.1 a = some (.inr 0)) {x : Int32} (hd : decode cc pc = .ok (.putfield 47, 3)) (kk : zSim K f (zAt E D A Q nL κ (zsi g a 1 x) (pc + 3) lv st)) : zSim K f (zAt E D A Q nL κ g pc lv (.int x :: .ref a :: st)) := z_put0 F (r := (RX0, TX0, 4)) (k := 1) ht rfl inZ0 tyX0_ok nmX0 (by decide) q_48 rfl rfl rfl (zOne_i g a 1 x) (congrArg Value.int (zu_same g.1 a 1 x)) (fun h => h.si _ _ _) hd kk
theorem gf_X5_51 {ρ : Type} {K : ρ → Prop} {f : Option ρ} {E : zE} {D : zD} {A : Nat → Prop} {Q : State → Prop} {nL : Nat} {κ : zC} {g : zG} {pc : Nat} {lv : List (Nat × Value)} {st : List Value} {cc : ByteArray} {ret : Option FieldType} (F : zF E D A cc "TypeChain$Rules" nL ret) {a : Nat} (ht : κ.2.1 a = some (.inr 0)) (hd : decode cc pc = .ok (.getfield 51, 3)) (kk : κ.2.1 (g.2.1 a 0) = some (.inl (FieldType.int, 48)) → zSim K f (zAt E D A Q nL κ g (pc + 3) lv (.ref (g.2.1 a 0) :: st))) : zSim K f (zAt E D A Q nL κ g pc lv (.ref a :: st)) := z_wt (fun hw => z_get F (r := (RX0, TX0, 4)) (k := 0) ht rfl inZ0 (by decide) q_42 (fun _ => zref_pos hw.1 (hw.2.1 a _ ht 0 _ rfl)) hd (kk (hw.2.1 a _ ht 0 _ rfl)))
theorem gf_X5_63 {ρ : Type} {K : ρ → Prop} {f : Option ρ} {E : zE} {D : zD} {A : Nat → Prop} {Q : State → Prop} {nL : Nat} {κ : zC} {g : zG} {pc : Nat} {lv : List (Nat × Value)} {st : List Value} {cc : ByteArray} {ret : Option FieldType} (F : zF E D A cc "TypeChain$Rules" nL ret) {a : Nat} (ht : κ.2.1 a = some (.inr 0)) (hd : decode cc pc = .ok (.getfield 63, 3)) (kk : zSim K f (zAt E D A Q nL κ g (pc + 3) lv (.int (g.1 a 2) :: st))) : zSim K f (zAt E D A Q nL κ g pc lv (.ref a :: st)) := z_get F (r := (RX0, TX0, 4)) (k := 2) ht rfl inZ0 (by decide) q_54 (fun _ => rfl) hd kk
theorem pf_X5_63 {ρ : Type} {K : ρ → Prop} {f : Option ρ} {E : zE} {D : zD} {A : Nat → Prop} {Q : State → Prop} {nL : Nat} {κ : zC} {g : zG} {pc : Nat} {lv : List (Nat × Value)} {st : List Value} {cc : ByteArray} {ret : Option FieldType} (F : zF E D A cc "TypeChain$Rules" nL ret) {a : Nat} (ht : κ.2.1 a = some (.inr 0)) {x : Int32} (hd : decode cc pc = .ok (.putfield 63, 3)) (kk : zSim K f (zAt E D A Q nL κ (zsi g a 2 x) (pc + 3) lv st)) : zSim K f (zAt E D A Q nL κ g pc lv (.int x :: .ref a :: st)) := z_put0 F (r := (RX0, TX0, 4)) (k := 2) ht rfl inZ0 tyX0_ok nmX0 (by decide) q_54 rfl rfl rfl (zOne_i g a 2 x) (congrArg Value.int (zu_same g.1 a 2 x)) (fun h => h.si _ _ _) hd kk
theorem gf_X5_66 {ρ : Type} {K : ρ → Prop} {f : Option ρ} {E : zE} {D : zD} {A : Nat → Prop} {Q : State → Prop} {nL : Nat} {κ : zC} {g : zG} {pc : Nat} {lv : List (Nat × Value)} {st : List Value} {cc : ByteArray} {ret : Option FieldType} (F : zF E D A cc "TypeChain$Rules" nL ret) {a : Nat} (ht : κ.2.1 a = some (.inr 0)) (hd : decode cc pc = .ok (.getfield 66, 3)) (kk : zSim K f (zAt E D A Q nL κ g (pc + 3) lv (.int (g.1 a 3) :: st))) : zSim K f (zAt E D A Q nL κ g pc lv (.ref a :: st)) := z_get F (r := (RX0, TX0, 4)) (k := 3) ht rfl inZ0 (by decide) q_56 (fun _ => rfl) hd kk
theorem pf_X5_66 {ρ : Type} {K : ρ → Prop} {f : Option ρ} {E : zE} {D : zD} {A : Nat → Prop} {Q : State → Prop} {nL : Nat} {κ : zC} {g : zG} {pc : Nat} {lv : List (Nat × Value)} {st : List Value} {cc : ByteArray} {ret : Option FieldType} (F : zF E D A cc "TypeChain$Rules" nL ret) {a : Nat} (ht : κ.2.1 a = some (.inr 0)) {x : Int32} (hd : decode cc pc = .ok (.putfield 66, 3)) (kk : zSim K f (zAt E D A Q nL κ (zsi g a 3 x) (pc + 3) lv st)) : zSim K f (zAt E D A Q nL κ g pc lv (.int x :: .ref a :: st)) := z_put0 F (r := (RX0, TX0, 4)) (k := 3) ht rfl inZ0 tyX0_ok nmX0 (by decide) q_56 rfl rfl rfl (zOne_i g a 3 x) (congrArg Value.int (zu_same g.1 a 3 x)) (fun h => h.si _ _ _) hd kk
theorem gf_X6_9 {ρ : Type} {K : ρ → Prop} {f : Option ρ} {E : zE} {D : zD} {A : Nat → Prop} {Q : State → Prop} {nL : Nat} {κ : zC} {g : zG} {pc : Nat} {lv : List (Nat × Value)} {st : List Value} {cc : ByteArray} {ret : Option FieldType} (F : zF E D A cc "TypeChain$Sheets" nL ret) {a : Nat} (ht : κ.2.1 a = some (.inr 6)) (hd : decode cc pc = .ok (.getfield 9, 3)) (kk : κ.2.1 (g.2.1 a 0) = some (.inl (FieldType.int, 4)) → zSim K f (zAt E D A Q nL κ g (pc + 3) lv (.ref (g.2.1 a 0) :: st))) : zSim K f (zAt E D A Q nL κ g pc lv (.ref a :: st)) := z_wt (fun hw => z_get F (r := (RX6, TX6, 3)) (k := 0) ht rfl inZ6 (by decide) q_372 (fun _ => zref_pos hw.1 (hw.2.1 a _ ht 0 _ rfl)) hd (kk (hw.2.1 a _ ht 0 _ rfl)))
theorem gf_X6_15 {ρ : Type} {K : ρ → Prop} {f : Option ρ} {E : zE} {D : zD} {A : Nat → Prop} {Q : State → Prop} {nL : Nat} {κ : zC} {g : zG} {pc : Nat} {lv : List (Nat × Value)} {st : List Value} {cc : ByteArray} {ret : Option FieldType} (F : zF E D A cc "TypeChain$Sheets" nL ret) {a : Nat} (ht : κ.2.1 a = some (.inr 6)) (hd : decode cc pc = .ok (.getfield 15, 3)) (kk : κ.2.1 (g.2.1 a 1) = some (.inl (FieldType.int, 4)) → zSim K f (zAt E D A Q nL κ g (pc + 3) lv (.ref (g.2.1 a 1) :: st))) : zSim K f (zAt E D A Q nL κ g pc lv (.ref a :: st)) := z_wt (fun hw => z_get F (r := (RX6, TX6, 3)) (k := 1) ht rfl inZ6 (by decide) q_374 (fun _ => zref_pos hw.1 (hw.2.1 a _ ht 1 _ rfl)) hd (kk (hw.2.1 a _ ht 1 _ rfl)))
theorem gf_X6_18 {ρ : Type} {K : ρ → Prop} {f : Option ρ} {E : zE} {D : zD} {A : Nat → Prop} {Q : State → Prop} {nL : Nat} {κ : zC} {g : zG} {pc : Nat} {lv : List (Nat × Value)} {st : List Value} {cc : ByteArray} {ret : Option FieldType} (F : zF E D A cc "TypeChain$Sheets" nL ret) {a : Nat} (ht : κ.2.1 a = some (.inr 6)) (hd : decode cc pc = .ok (.getfield 18, 3)) (kk : κ.2.1 (g.2.1 a 2) = some (.inl (FieldType.int, 160)) → zSim K f (zAt E D A Q nL κ g (pc + 3) lv (.ref (g.2.1 a 2) :: st))) : zSim K f (zAt E D A Q nL κ g pc lv (.ref a :: st)) := z_wt (fun hw => z_get F (r := (RX6, TX6, 3)) (k := 2) ht rfl inZ6 (by decide) q_376 (fun _ => zref_pos hw.1 (hw.2.1 a _ ht 2 _ rfl)) hd (kk (hw.2.1 a _ ht 2 _ rfl)))
theorem gf_X7_9 {ρ : Type} {K : ρ → Prop} {f : Option ρ} {E : zE} {D : zD} {A : Nat → Prop} {Q : State → Prop} {nL : Nat} {κ : zC} {g : zG} {pc : Nat} {lv : List (Nat × Value)} {st : List Value} {cc : ByteArray} {ret : Option FieldType} (F : zF E D A cc "TypeChain$Strike" nL ret) {a : Nat} (ht : κ.2.1 a = some (.inr 7)) (hd : decode cc pc = .ok (.getfield 9, 3)) (kk : κ.2.1 (g.2.1 a 0) = some (.inl (FieldType.int, 40)) → zSim K f (zAt E D A Q nL κ g (pc + 3) lv (.ref (g.2.1 a 0) :: st))) : zSim K f (zAt E D A Q nL κ g pc lv (.ref a :: st)) := z_wt (fun hw => z_get F (r := (RX7, TX7, 9)) (k := 0) ht rfl inZ7 (by decide) q_241 (fun _ => zref_pos hw.1 (hw.2.1 a _ ht 0 _ rfl)) hd (kk (hw.2.1 a _ ht 0 _ rfl)))
theorem gf_X7_15 {ρ : Type} {K : ρ → Prop} {f : Option ρ} {E : zE} {D : zD} {A : Nat → Prop} {Q : State → Prop} {nL : Nat} {κ : zC} {g : zG} {pc : Nat} {lv : List (Nat × Value)} {st : List Value} {cc : ByteArray} {ret : Option FieldType} (F : zF E D A cc "TypeChain$Strike" nL ret) {a : Nat} (ht : κ.2.1 a = some (.inr 7)) (hd : decode cc pc = .ok (.getfield 15, 3)) (kk : κ.2.1 (g.2.1 a 1) = some (.inl (FieldType.int, 40)) → zSim K f (zAt E D A Q nL κ g (pc + 3) lv (.ref (g.2.1 a 1) :: st))) : zSim K f (zAt E D A Q nL κ g pc lv (.ref a :: st)) := z_wt (fun hw => z_get F (r := (RX7, TX7, 9)) (k := 1) ht rfl inZ7 (by decide) q_243 (fun _ => zref_pos hw.1 (hw.2.1 a _ ht 1 _ rfl)) hd (kk (hw.2.1 a _ ht 1 _ rfl)))
theorem gf_X7_18 {ρ : Type} {K : ρ → Prop} {f : Option ρ} {E : zE} {D : zD} {A : Nat → Prop} {Q : State → Prop} {nL : Nat} {κ : zC} {g : zG} {pc : Nat} {lv : List (Nat × Value)} {st : List Value} {cc : ByteArray} {ret : Option FieldType} (F : zF E D A cc "TypeChain$Strike" nL ret) {a : Nat} (ht : κ.2.1 a = some (.inr 7)) (hd : decode cc pc = .ok (.getfield 18, 3)) (kk : κ.2.1 (g.2.1 a 6) = some (.inl (FieldType.int, 40)) → zSim K f (zAt E D A Q nL κ g (pc + 3) lv (.ref (g.2.1 a 6) :: st))) : zSim K f (zAt E D A Q nL κ g pc lv (.ref a :: st)) := z_wt (fun hw => z_get F (r := (RX7, TX7, 9)) (k := 6) ht rfl inZ7 (by decide) q_254 (fun _ => zref_pos hw.1 (hw.2.1 a _ ht 6 _ rfl)) hd (kk (hw.2.1 a _ ht 6 _ rfl)))
theorem gf_X7_21 {ρ : Type} {K : ρ → Prop} {f : Option ρ} {E : zE} {D : zD} {A : Nat → Prop} {Q : State → Prop} {nL : Nat} {κ : zC} {g : zG} {pc : Nat} {lv : List (Nat × Value)} {st : List Value} {cc : ByteArray} {ret : Option FieldType} (F : zF E D A cc "TypeChain$Strike" nL ret) {a : Nat} (ht : κ.2.1 a = some (.inr 7)) (hd : decode cc pc = .ok (.getfield 21, 3)) (kk : κ.2.1 (g.2.1 a 7) = some (.inl (FieldType.int, 40)) → zSim K f (zAt E D A Q nL κ g (pc + 3) lv (.ref (g.2.1 a 7) :: st))) : zSim K f (zAt E D A Q nL κ g pc lv (.ref a :: st)) := z_wt (fun hw => z_get F (r := (RX7, TX7, 9)) (k := 7) ht rfl inZ7 (by decide) q_255 (fun _ => zref_pos hw.1 (hw.2.1 a _ ht 7 _ rfl)) hd (kk (hw.2.1 a _ ht 7 _ rfl)))
theorem gf_X7_28 {ρ : Type} {K : ρ → Prop} {f : Option ρ} {E : zE} {D : zD} {A : Nat → Prop} {Q : State → Prop} {nL : Nat} {κ : zC} {g : zG} {pc : Nat} {lv : List (Nat × Value)} {st : List Value} {cc : ByteArray} {ret : Option FieldType} (F : zF E D A cc "TypeChain$Strike" nL ret) {a : Nat} (ht : κ.2.1 a = some (.inr 7)) (hd : decode cc pc = .ok (.getfield 28, 3)) (kk : zSim K f (zAt E D A Q nL κ g (pc + 3) lv (.int (g.1 a 8) :: st))) : zSim K f (zAt E D A Q nL κ g pc lv (.ref a :: st)) := z_get F (r := (RX7, TX7, 9)) (k := 8) ht rfl inZ7 (by decide) q_256 (fun _ => rfl) hd kk
theorem pf_X7_28 {ρ : Type} {K : ρ → Prop} {f : Option ρ} {E : zE} {D : zD} {A : Nat → Prop} {Q : State → Prop} {nL : Nat} {κ : zC} {g : zG} {pc : Nat} {lv : List (Nat × Value)} {st : List Value} {cc : ByteArray} {ret : Option FieldType} (F : zF E D A cc "TypeChain$Strike" nL ret) {a : Nat} (ht : κ.2.1 a = some (.inr 7)) {x : Int32} (hd : decode cc pc = .ok (.putfield 28, 3)) (kk : zSim K f (zAt E D A Q nL κ (zsi g a 8 x) (pc + 3) lv st)) : zSim K f (zAt E D A Q nL κ g pc lv (.int x :: .ref a :: st)) := z_put0 F (r := (RX7, TX7, 9)) (k := 8) ht rfl inZ7 tyX7_ok nmX7 (by decide) q_256 rfl rfl rfl (zOne_i g a 8 x) (congrArg Value.int (zu_same g.1 a 8 x)) (fun h => h.si _ _ _) hd kk
theorem gf_X7_40 {ρ : Type} {K : ρ → Prop} {f : Option ρ} {E : zE} {D : zD} {A : Nat → Prop} {Q : State → Prop} {nL : Nat} {κ : zC} {g : zG} {pc : Nat} {lv : List (Nat × Value)} {st : List Value} {cc : ByteArray} {ret : Option FieldType} (F : zF E D A cc "TypeChain$Strike" nL ret) {a : Nat} (ht : κ.2.1 a = some (.inr 7)) (hd : decode cc pc = .ok (.getfield 40, 3)) (kk : zSim K f (zAt E D A Q nL κ g (pc + 3) lv (.long (g.2.2 a 5) :: st))) : zSim K f (zAt E D A Q nL κ g pc lv (.ref a :: st)) := z_get F (r := (RX7, TX7, 9)) (k := 5) ht rfl inZ7 (by decide) q_252 (fun _ => rfl) hd kk
theorem pf_X7_40 {ρ : Type} {K : ρ → Prop} {f : Option ρ} {E : zE} {D : zD} {A : Nat → Prop} {Q : State → Prop} {nL : Nat} {κ : zC} {g : zG} {pc : Nat} {lv : List (Nat × Value)} {st : List Value} {cc : ByteArray} {ret : Option FieldType} (F : zF E D A cc "TypeChain$Strike" nL ret) {a : Nat} (ht : κ.2.1 a = some (.inr 7)) {x : Int64} (hd : decode cc pc = .ok (.putfield 40, 3)) (kk : zSim K f (zAt E D A Q nL κ (zsl g a 5 x) (pc + 3) lv st)) : zSim K f (zAt E D A Q nL κ g pc lv (.long x :: .ref a :: st)) := z_put0 F (r := (RX7, TX7, 9)) (k := 5) ht rfl inZ7 tyX7_ok nmX7 (by decide) q_252 rfl rfl rfl (zOne_l g a 5 x) (congrArg Value.long (zu_same g.2.2 a 5 x)) (fun h => h.sl _ _ _) hd kk
theorem gf_X7_50 {ρ : Type} {K : ρ → Prop} {f : Option ρ} {E : zE} {D : zD} {A : Nat → Prop} {Q : State → Prop} {nL : Nat} {κ : zC} {g : zG} {pc : Nat} {lv : List (Nat × Value)} {st : List Value} {cc : ByteArray} {ret : Option FieldType} (F : zF E D A cc "TypeChain$Strike" nL ret) {a : Nat} (ht : κ.2.1 a = some (.inr 7)) (hd : decode cc pc = .ok (.getfield 50, 3)) (kk : zSim K f (zAt E D A Q nL κ g (pc + 3) lv (.int (g.1 a 2) :: st))) : zSim K f (zAt E D A Q nL κ g pc lv (.ref a :: st)) := z_get F (r := (RX7, TX7, 9)) (k := 2) ht rfl inZ7 (by decide) q_246 (fun _ => rfl) hd kk
theorem pf_X7_50 {ρ : Type} {K : ρ → Prop} {f : Option ρ} {E : zE} {D : zD} {A : Nat → Prop} {Q : State → Prop} {nL : Nat} {κ : zC} {g : zG} {pc : Nat} {lv : List (Nat × Value)} {st : List Value} {cc : ByteArray} {ret : Option FieldType} (F : zF E D A cc "TypeChain$Strike" nL ret) {a : Nat} (ht : κ.2.1 a = some (.inr 7)) {x : Int32} (hz : x = 0 ∨ x = 1) (hd : decode cc pc = .ok (.putfield 50, 3)) (kk : zSim K f (zAt E D A Q nL κ (zsi g a 2 x) (pc + 3) lv st)) : zSim K f (zAt E D A Q nL κ g pc lv (.int x :: .ref a :: st)) := z_put0 F (r := (RX7, TX7, 9)) (k := 2) ht rfl inZ7 tyX7_ok nmX7 (by decide) q_246 rfl (znar01 hz) (zfit01 hz) (zOne_i g a 2 x) (congrArg Value.int (zu_same g.1 a 2 x)) (fun h => h.si _ _ _) hd kk
theorem gf_X7_54 {ρ : Type} {K : ρ → Prop} {f : Option ρ} {E : zE} {D : zD} {A : Nat → Prop} {Q : State → Prop} {nL : Nat} {κ : zC} {g : zG} {pc : Nat} {lv : List (Nat × Value)} {st : List Value} {cc : ByteArray} {ret : Option FieldType} (F : zF E D A cc "TypeChain$Strike" nL ret) {a : Nat} (ht : κ.2.1 a = some (.inr 7)) (hd : decode cc pc = .ok (.getfield 54, 3)) (kk : zSim K f (zAt E D A Q nL κ g (pc + 3) lv (.int (g.1 a 4) :: st))) : zSim K f (zAt E D A Q nL κ g pc lv (.ref a :: st)) := z_get F (r := (RX7, TX7, 9)) (k := 4) ht rfl inZ7 (by decide) q_250 (fun _ => rfl) hd kk
theorem pf_X7_54 {ρ : Type} {K : ρ → Prop} {f : Option ρ} {E : zE} {D : zD} {A : Nat → Prop} {Q : State → Prop} {nL : Nat} {κ : zC} {g : zG} {pc : Nat} {lv : List (Nat × Value)} {st : List Value} {cc : ByteArray} {ret : Option FieldType} (F : zF E D A cc "TypeChain$Strike" nL ret) {a : Nat} (ht : κ.2.1 a = some (.inr 7)) {x : Int32} (hd : decode cc pc = .ok (.putfield 54, 3)) (kk : zSim K f (zAt E D A Q nL κ (zsi g a 4 x) (pc + 3) lv st)) : zSim K f (zAt E D A Q nL κ g pc lv (.int x :: .ref a :: st)) := z_put0 F (r := (RX7, TX7, 9)) (k := 4) ht rfl inZ7 tyX7_ok nmX7 (by decide) q_250 rfl rfl rfl (zOne_i g a 4 x) (congrArg Value.int (zu_same g.1 a 4 x)) (fun h => h.si _ _ _) hd kk
theorem gf_X7_57 {ρ : Type} {K : ρ → Prop} {f : Option ρ} {E : zE} {D : zD} {A : Nat → Prop} {Q : State → Prop} {nL : Nat} {κ : zC} {g : zG} {pc : Nat} {lv : List (Nat × Value)} {st : List Value} {cc : ByteArray} {ret : Option FieldType} (F : zF E D A cc "TypeChain$Strike" nL ret) {a : Nat} (ht : κ.2.1 a = some (.inr 7)) (hd : decode cc pc = .ok (.getfield 57, 3)) (kk : zSim K f (zAt E D A Q nL κ g (pc + 3) lv (.int (g.1 a 3) :: st))) : zSim K f (zAt E D A Q nL κ g pc lv (.ref a :: st)) := z_get F (r := (RX7, TX7, 9)) (k := 3) ht rfl inZ7 (by decide) q_248 (fun _ => rfl) hd kk
theorem pf_X7_57 {ρ : Type} {K : ρ → Prop} {f : Option ρ} {E : zE} {D : zD} {A : Nat → Prop} {Q : State → Prop} {nL : Nat} {κ : zC} {g : zG} {pc : Nat} {lv : List (Nat × Value)} {st : List Value} {cc : ByteArray} {ret : Option FieldType} (F : zF E D A cc "TypeChain$Strike" nL ret) {a : Nat} (ht : κ.2.1 a = some (.inr 7)) {x : Int32} (hd : decode cc pc = .ok (.putfield 57, 3)) (kk : zSim K f (zAt E D A Q nL κ (zsi g a 3 x) (pc + 3) lv st)) : zSim K f (zAt E D A Q nL κ g pc lv (.int x :: .ref a :: st)) := z_put0 F (r := (RX7, TX7, 9)) (k := 3) ht rfl inZ7 tyX7_ok nmX7 (by decide) q_248 rfl rfl rfl (zOne_i g a 3 x) (congrArg Value.int (zu_same g.1 a 3 x)) (fun h => h.si _ _ _) hd kk
theorem gf_X7_72 {ρ : Type} {K : ρ → Prop} {f : Option ρ} {E : zE} {D : zD} {A : Nat → Prop} {Q : State → Prop} {nL : Nat} {κ : zC} {g : zG} {pc : Nat} {lv : List (Nat × Value)} {st : List Value} {cc : ByteArray} {ret : Option FieldType} (F : zF E D A cc "TypeChain$Strike" nL ret) {a : Nat} (ht : κ.2.1 a = some (.inr 0)) (hd : decode cc pc = .ok (.getfield 72, 3)) (kk : zSim K f (zAt E D A Q nL κ g (pc + 3) lv (.int (g.1 a 1) :: st))) : zSim K f (zAt E D A Q nL κ g pc lv (.ref a :: st)) := z_get F (r := (RX0, TX0, 4)) (k := 1) ht rfl inZ0 (by decide) q_50 (fun _ => rfl) hd kk
theorem pf_X7_72 {ρ : Type} {K : ρ → Prop} {f : Option ρ} {E : zE} {D : zD} {A : Nat → Prop} {Q : State → Prop} {nL : Nat} {κ : zC} {g : zG} {pc : Nat} {lv : List (Nat × Value)} {st : List Value} {cc : ByteArray} {ret : Option FieldType} (F : zF E D A cc "TypeChain$Strike" nL ret) {a : Nat} (ht : κ.2.1 a = some (.inr 0)) {x : Int32} (hd : decode cc pc = .ok (.putfield 72, 3)) (kk : zSim K f (zAt E D A Q nL κ (zsi g a 1 x) (pc + 3) lv st)) : zSim K f (zAt E D A Q nL κ g pc lv (.int x :: .ref a :: st)) := z_put0 F (r := (RX0, TX0, 4)) (k := 1) ht rfl inZ0 tyX0_ok nmX0 (by decide) q_50 rfl rfl rfl (zOne_i g a 1 x) (congrArg Value.int (zu_same g.1 a 1 x)) (fun h => h.si _ _ _) hd kk
theorem gf_X7_75 {ρ : Type} {K : ρ → Prop} {f : Option ρ} {E : zE} {D : zD} {A : Nat → Prop} {Q : State → Prop} {nL : Nat} {κ : zC} {g : zG} {pc : Nat} {lv : List (Nat × Value)} {st : List Value} {cc : ByteArray} {ret : Option FieldType} (F : zF E D A cc "TypeChain$Strike" nL ret) {a : Nat} (ht : κ.2.1 a = some (.inr 0)) (hd : decode cc pc = .ok (.getfield 75, 3)) (kk : κ.2.1 (g.2.1 a 0) = some (.inl (FieldType.int, 48)) → zSim K f (zAt E D A Q nL κ g (pc + 3) lv (.ref (g.2.1 a 0) :: st))) : zSim K f (zAt E D A Q nL κ g pc lv (.ref a :: st)) := z_wt (fun hw => z_get F (r := (RX0, TX0, 4)) (k := 0) ht rfl inZ0 (by decide) q_44 (fun _ => zref_pos hw.1 (hw.2.1 a _ ht 0 _ rfl)) hd (kk (hw.2.1 a _ ht 0 _ rfl)))
theorem gf_X8_9 {ρ : Type} {K : ρ → Prop} {f : Option ρ} {E : zE} {D : zD} {A : Nat → Prop} {Q : State → Prop} {nL : Nat} {κ : zC} {g : zG} {pc : Nat} {lv : List (Nat × Value)} {st : List Value} {cc : ByteArray} {ret : Option FieldType} (F : zF E D A cc "TypeChain$Trials" nL ret) {a : Nat} (ht : κ.2.1 a = some (.inr 8)) (hd : decode cc pc = .ok (.getfield 9, 3)) (kk : κ.2.1 (g.2.1 a 1) = some (.inl (FieldType.int, 6)) → zSim K f (zAt E D A Q nL κ g (pc + 3) lv (.ref (g.2.1 a 1) :: st))) : zSim K f (zAt E D A Q nL κ g pc lv (.ref a :: st)) := z_wt (fun hw => z_get F (r := (RX8, TX8, 9)) (k := 1) ht rfl inZ8 (by decide) q_333 (fun _ => zref_pos hw.1 (hw.2.1 a _ ht 1 _ rfl)) hd (kk (hw.2.1 a _ ht 1 _ rfl)))
theorem gf_X8_18 {ρ : Type} {K : ρ → Prop} {f : Option ρ} {E : zE} {D : zD} {A : Nat → Prop} {Q : State → Prop} {nL : Nat} {κ : zC} {g : zG} {pc : Nat} {lv : List (Nat × Value)} {st : List Value} {cc : ByteArray} {ret : Option FieldType} (F : zF E D A cc "TypeChain$Trials" nL ret) {a : Nat} (ht : κ.2.1 a = some (.inr 8)) (hd : decode cc pc = .ok (.getfield 18, 3)) (kk : κ.2.1 (g.2.1 a 6) = some (.inr 0) → zSim K f (zAt E D A Q nL κ g (pc + 3) lv (.ref (g.2.1 a 6) :: st))) : zSim K f (zAt E D A Q nL κ g pc lv (.ref a :: st)) := z_wt (fun hw => z_get F (r := (RX8, TX8, 9)) (k := 6) ht rfl inZ8 (by decide) q_343 (fun _ => zref_pos hw.1 (hw.2.1 a _ ht 6 _ rfl)) hd (kk (hw.2.1 a _ ht 6 _ rfl)))
theorem gf_X8_27 {ρ : Type} {K : ρ → Prop} {f : Option ρ} {E : zE} {D : zD} {A : Nat → Prop} {Q : State → Prop} {nL : Nat} {κ : zC} {g : zG} {pc : Nat} {lv : List (Nat × Value)} {st : List Value} {cc : ByteArray} {ret : Option FieldType} (F : zF E D A cc "TypeChain$Trials" nL ret) {a : Nat} (ht : κ.2.1 a = some (.inr 8)) (hd : decode cc pc = .ok (.getfield 27, 3)) (kk : κ.2.1 (g.2.1 a 0) = some (.inr 2) → zSim K f (zAt E D A Q nL κ g (pc + 3) lv (.ref (g.2.1 a 0) :: st))) : zSim K f (zAt E D A Q nL κ g pc lv (.ref a :: st)) := z_wt (fun hw => z_get F (r := (RX8, TX8, 9)) (k := 0) ht rfl inZ8 (by decide) q_331 (fun _ => zref_pos hw.1 (hw.2.1 a _ ht 0 _ rfl)) hd (kk (hw.2.1 a _ ht 0 _ rfl)))
theorem gf_X8_31 {ρ : Type} {K : ρ → Prop} {f : Option ρ} {E : zE} {D : zD} {A : Nat → Prop} {Q : State → Prop} {nL : Nat} {κ : zC} {g : zG} {pc : Nat} {lv : List (Nat × Value)} {st : List Value} {cc : ByteArray} {ret : Option FieldType} (F : zF E D A cc "TypeChain$Trials" nL ret) {a : Nat} (ht : κ.2.1 a = some (.inr 8)) (hd : decode cc pc = .ok (.getfield 31, 3)) (kk : zSim K f (zAt E D A Q nL κ g (pc + 3) lv (.int (g.1 a 7) :: st))) : zSim K f (zAt E D A Q nL κ g pc lv (.ref a :: st)) := z_get F (r := (RX8, TX8, 9)) (k := 7) ht rfl inZ8 (by decide) q_344 (fun _ => rfl) hd kk
theorem pf_X8_31 {ρ : Type} {K : ρ → Prop} {f : Option ρ} {E : zE} {D : zD} {A : Nat → Prop} {Q : State → Prop} {nL : Nat} {κ : zC} {g : zG} {pc : Nat} {lv : List (Nat × Value)} {st : List Value} {cc : ByteArray} {ret : Option FieldType} (F : zF E D A cc "TypeChain$Trials" nL ret) {a : Nat} (ht : κ.2.1 a = some (.inr 8)) {x : Int32} (hz : x = 0 ∨ x = 1) (hd : decode cc pc = .ok (.putfield 31, 3)) (kk : zSim K f (zAt E D A Q nL κ (zsi g a 7 x) (pc + 3) lv st)) : zSim K f (zAt E D A Q nL κ g pc lv (.int x :: .ref a :: st)) := z_put0 F (r := (RX8, TX8, 9)) (k := 7) ht rfl inZ8 tyX8_ok nmX8 (by decide) q_344 rfl (znar01 hz) (zfit01 hz) (zOne_i g a 7 x) (congrArg Value.int (zu_same g.1 a 7 x)) (fun h => h.si _ _ _) hd kk
theorem gf_X8_35 {ρ : Type} {K : ρ → Prop} {f : Option ρ} {E : zE} {D : zD} {A : Nat → Prop} {Q : State → Prop} {nL : Nat} {κ : zC} {g : zG} {pc : Nat} {lv : List (Nat × Value)} {st : List Value} {cc : ByteArray} {ret : Option FieldType} (F : zF E D A cc "TypeChain$Trials" nL ret) {a : Nat} (ht : κ.2.1 a = some (.inr 8)) (hd : decode cc pc = .ok (.getfield 35, 3)) (kk : zSim K f (zAt E D A Q nL κ g (pc + 3) lv (.int (g.1 a 8) :: st))) : zSim K f (zAt E D A Q nL κ g pc lv (.ref a :: st)) := z_get F (r := (RX8, TX8, 9)) (k := 8) ht rfl inZ8 (by decide) q_345 (fun _ => rfl) hd kk
theorem pf_X8_35 {ρ : Type} {K : ρ → Prop} {f : Option ρ} {E : zE} {D : zD} {A : Nat → Prop} {Q : State → Prop} {nL : Nat} {κ : zC} {g : zG} {pc : Nat} {lv : List (Nat × Value)} {st : List Value} {cc : ByteArray} {ret : Option FieldType} (F : zF E D A cc "TypeChain$Trials" nL ret) {a : Nat} (ht : κ.2.1 a = some (.inr 8)) {x : Int32} (hz : x = 0 ∨ x = 1) (hd : decode cc pc = .ok (.putfield 35, 3)) (kk : zSim K f (zAt E D A Q nL κ (zsi g a 8 x) (pc + 3) lv st)) : zSim K f (zAt E D A Q nL κ g pc lv (.int x :: .ref a :: st)) := z_put0 F (r := (RX8, TX8, 9)) (k := 8) ht rfl inZ8 tyX8_ok nmX8 (by decide) q_345 rfl (znar01 hz) (zfit01 hz) (zOne_i g a 8 x) (congrArg Value.int (zu_same g.1 a 8 x)) (fun h => h.si _ _ _) hd kk
theorem gf_X8_38 {ρ : Type} {K : ρ → Prop} {f : Option ρ} {E : zE} {D : zD} {A : Nat → Prop} {Q : State → Prop} {nL : Nat} {κ : zC} {g : zG} {pc : Nat} {lv : List (Nat × Value)} {st : List Value} {cc : ByteArray} {ret : Option FieldType} (F : zF E D A cc "TypeChain$Trials" nL ret) {a : Nat} (ht : κ.2.1 a = some (.inr 5)) (hd : decode cc pc = .ok (.getfield 38, 3)) (kk : κ.2.1 (g.2.1 a 0) = some (.inr 0) → zSim K f (zAt E D A Q nL κ g (pc + 3) lv (.ref (g.2.1 a 0) :: st))) : zSim K f (zAt E D A Q nL κ g pc lv (.ref a :: st)) := z_wt (fun hw => z_get F (r := (RX5, TX5, 4)) (k := 0) ht rfl inZ5 (by decide) q_137 (fun _ => zref_pos hw.1 (hw.2.1 a _ ht 0 _ rfl)) hd (kk (hw.2.1 a _ ht 0 _ rfl)))
theorem gf_X8_56 {ρ : Type} {K : ρ → Prop} {f : Option ρ} {E : zE} {D : zD} {A : Nat → Prop} {Q : State → Prop} {nL : Nat} {κ : zC} {g : zG} {pc : Nat} {lv : List (Nat × Value)} {st : List Value} {cc : ByteArray} {ret : Option FieldType} (F : zF E D A cc "TypeChain$Trials" nL ret) {a : Nat} (ht : κ.2.1 a = some (.inr 8)) (hd : decode cc pc = .ok (.getfield 56, 3)) (kk : zSim K f (zAt E D A Q nL κ g (pc + 3) lv (.int (g.1 a 2) :: st))) : zSim K f (zAt E D A Q nL κ g pc lv (.ref a :: st)) := z_get F (r := (RX8, TX8, 9)) (k := 2) ht rfl inZ8 (by decide) q_335 (fun _ => rfl) hd kk
theorem pf_X8_56 {ρ : Type} {K : ρ → Prop} {f : Option ρ} {E : zE} {D : zD} {A : Nat → Prop} {Q : State → Prop} {nL : Nat} {κ : zC} {g : zG} {pc : Nat} {lv : List (Nat × Value)} {st : List Value} {cc : ByteArray} {ret : Option FieldType} (F : zF E D A cc "TypeChain$Trials" nL ret) {a : Nat} (ht : κ.2.1 a = some (.inr 8)) {x : Int32} (hd : decode cc pc = .ok (.putfield 56, 3)) (kk : zSim K f (zAt E D A Q nL κ (zsi g a 2 x) (pc + 3) lv st)) : zSim K f (zAt E D A Q nL κ g pc lv (.int x :: .ref a :: st)) := z_put0 F (r := (RX8, TX8, 9)) (k := 2) ht rfl inZ8 tyX8_ok nmX8 (by decide) q_335 rfl rfl rfl (zOne_i g a 2 x) (congrArg Value.int (zu_same g.1 a 2 x)) (fun h => h.si _ _ _) hd kk
theorem gf_X8_64 {ρ : Type} {K : ρ → Prop} {f : Option ρ} {E : zE} {D : zD} {A : Nat → Prop} {Q : State → Prop} {nL : Nat} {κ : zC} {g : zG} {pc : Nat} {lv : List (Nat × Value)} {st : List Value} {cc : ByteArray} {ret : Option FieldType} (F : zF E D A cc "TypeChain$Trials" nL ret) {a : Nat} (ht : κ.2.1 a = some (.inr 0)) (hd : decode cc pc = .ok (.getfield 64, 3)) (kk : κ.2.1 (g.2.1 a 0) = some (.inl (FieldType.int, 48)) → zSim K f (zAt E D A Q nL κ g (pc + 3) lv (.ref (g.2.1 a 0) :: st))) : zSim K f (zAt E D A Q nL κ g pc lv (.ref a :: st)) := z_wt (fun hw => z_get F (r := (RX0, TX0, 4)) (k := 0) ht rfl inZ0 (by decide) q_43 (fun _ => zref_pos hw.1 (hw.2.1 a _ ht 0 _ rfl)) hd (kk (hw.2.1 a _ ht 0 _ rfl)))
theorem gf_X8_73 {ρ : Type} {K : ρ → Prop} {f : Option ρ} {E : zE} {D : zD} {A : Nat → Prop} {Q : State → Prop} {nL : Nat} {κ : zC} {g : zG} {pc : Nat} {lv : List (Nat × Value)} {st : List Value} {cc : ByteArray} {ret : Option FieldType} (F : zF E D A cc "TypeChain$Trials" nL ret) {a : Nat} (ht : κ.2.1 a = some (.inr 8)) (hd : decode cc pc = .ok (.getfield 73, 3)) (kk : zSim K f (zAt E D A Q nL κ g (pc + 3) lv (.int (g.1 a 3) :: st))) : zSim K f (zAt E D A Q nL κ g pc lv (.ref a :: st)) := z_get F (r := (RX8, TX8, 9)) (k := 3) ht rfl inZ8 (by decide) q_337 (fun _ => rfl) hd kk
theorem pf_X8_73 {ρ : Type} {K : ρ → Prop} {f : Option ρ} {E : zE} {D : zD} {A : Nat → Prop} {Q : State → Prop} {nL : Nat} {κ : zC} {g : zG} {pc : Nat} {lv : List (Nat × Value)} {st : List Value} {cc : ByteArray} {ret : Option FieldType} (F : zF E D A cc "TypeChain$Trials" nL ret) {a : Nat} (ht : κ.2.1 a = some (.inr 8)) {x : Int32} (hd : decode cc pc = .ok (.putfield 73, 3)) (kk : zSim K f (zAt E D A Q nL κ (zsi g a 3 x) (pc + 3) lv st)) : zSim K f (zAt E D A Q nL κ g pc lv (.int x :: .ref a :: st)) := z_put0 F (r := (RX8, TX8, 9)) (k := 3) ht rfl inZ8 tyX8_ok nmX8 (by decide) q_337 rfl rfl rfl (zOne_i g a 3 x) (congrArg Value.int (zu_same g.1 a 3 x)) (fun h => h.si _ _ _) hd kk
theorem gf_X8_76 {ρ : Type} {K : ρ → Prop} {f : Option ρ} {E : zE} {D : zD} {A : Nat → Prop} {Q : State → Prop} {nL : Nat} {κ : zC} {g : zG} {pc : Nat} {lv : List (Nat × Value)} {st : List Value} {cc : ByteArray} {ret : Option FieldType} (F : zF E D A cc "TypeChain$Trials" nL ret) {a : Nat} (ht : κ.2.1 a = some (.inr 8)) (hd : decode cc pc = .ok (.getfield 76, 3)) (kk : zSim K f (zAt E D A Q nL κ g (pc + 3) lv (.int (g.1 a 5) :: st))) : zSim K f (zAt E D A Q nL κ g pc lv (.ref a :: st)) := z_get F (r := (RX8, TX8, 9)) (k := 5) ht rfl inZ8 (by decide) q_341 (fun _ => rfl) hd kk
theorem pf_X8_76 {ρ : Type} {K : ρ → Prop} {f : Option ρ} {E : zE} {D : zD} {A : Nat → Prop} {Q : State → Prop} {nL : Nat} {κ : zC} {g : zG} {pc : Nat} {lv : List (Nat × Value)} {st : List Value} {cc : ByteArray} {ret : Option FieldType} (F : zF E D A cc "TypeChain$Trials" nL ret) {a : Nat} (ht : κ.2.1 a = some (.inr 8)) {x : Int32} (hd : decode cc pc = .ok (.putfield 76, 3)) (kk : zSim K f (zAt E D A Q nL κ (zsi g a 5 x) (pc + 3) lv st)) : zSim K f (zAt E D A Q nL κ g pc lv (.int x :: .ref a :: st)) := z_put0 F (r := (RX8, TX8, 9)) (k := 5) ht rfl inZ8 tyX8_ok nmX8 (by decide) q_341 rfl rfl rfl (zOne_i g a 5 x) (congrArg Value.int (zu_same g.1 a 5 x)) (fun h => h.si _ _ _) hd kk
theorem gf_X8_79 {ρ : Type} {K : ρ → Prop} {f : Option ρ} {E : zE} {D : zD} {A : Nat → Prop} {Q : State → Prop} {nL : Nat} {κ : zC} {g : zG} {pc : Nat} {lv : List (Nat × Value)} {st : List Value} {cc : ByteArray} {ret : Option FieldType} (F : zF E D A cc "TypeChain$Trials" nL ret) {a : Nat} (ht : κ.2.1 a = some (.inr 0)) (hd : decode cc pc = .ok (.getfield 79, 3)) (kk : zSim K f (zAt E D A Q nL κ g (pc + 3) lv (.int (g.1 a 1) :: st))) : zSim K f (zAt E D A Q nL κ g pc lv (.ref a :: st)) := z_get F (r := (RX0, TX0, 4)) (k := 1) ht rfl inZ0 (by decide) q_49 (fun _ => rfl) hd kk
theorem pf_X8_79 {ρ : Type} {K : ρ → Prop} {f : Option ρ} {E : zE} {D : zD} {A : Nat → Prop} {Q : State → Prop} {nL : Nat} {κ : zC} {g : zG} {pc : Nat} {lv : List (Nat × Value)} {st : List Value} {cc : ByteArray} {ret : Option FieldType} (F : zF E D A cc "TypeChain$Trials" nL ret) {a : Nat} (ht : κ.2.1 a = some (.inr 0)) {x : Int32} (hd : decode cc pc = .ok (.putfield 79, 3)) (kk : zSim K f (zAt E D A Q nL κ (zsi g a 1 x) (pc + 3) lv st)) : zSim K f (zAt E D A Q nL κ g pc lv (.int x :: .ref a :: st)) := z_put0 F (r := (RX0, TX0, 4)) (k := 1) ht rfl inZ0 tyX0_ok nmX0 (by decide) q_49 rfl rfl rfl (zOne_i g a 1 x) (congrArg Value.int (zu_same g.1 a 1 x)) (fun h => h.si _ _ _) hd kk
theorem gf_X8_82 {ρ : Type} {K : ρ → Prop} {f : Option ρ} {E : zE} {D : zD} {A : Nat → Prop} {Q : State → Prop} {nL : Nat} {κ : zC} {g : zG} {pc : Nat} {lv : List (Nat × Value)} {st : List Value} {cc : ByteArray} {ret : Option FieldType} (F : zF E D A cc "TypeChain$Trials" nL ret) {a : Nat} (ht : κ.2.1 a = some (.inr 8)) (hd : decode cc pc = .ok (.getfield 82, 3)) (kk : zSim K f (zAt E D A Q nL κ g (pc + 3) lv (.int (g.1 a 4) :: st))) : zSim K f (zAt E D A Q nL κ g pc lv (.ref a :: st)) := z_get F (r := (RX8, TX8, 9)) (k := 4) ht rfl inZ8 (by decide) q_339 (fun _ => rfl) hd kk
theorem pf_X8_82 {ρ : Type} {K : ρ → Prop} {f : Option ρ} {E : zE} {D : zD} {A : Nat → Prop} {Q : State → Prop} {nL : Nat} {κ : zC} {g : zG} {pc : Nat} {lv : List (Nat × Value)} {st : List Value} {cc : ByteArray} {ret : Option FieldType} (F : zF E D A cc "TypeChain$Trials" nL ret) {a : Nat} (ht : κ.2.1 a = some (.inr 8)) {x : Int32} (hd : decode cc pc = .ok (.putfield 82, 3)) (kk : zSim K f (zAt E D A Q nL κ (zsi g a 4 x) (pc + 3) lv st)) : zSim K f (zAt E D A Q nL κ g pc lv (.int x :: .ref a :: st)) := z_put0 F (r := (RX8, TX8, 9)) (k := 4) ht rfl inZ8 tyX8_ok nmX8 (by decide) q_339 rfl rfl rfl (zOne_i g a 4 x) (congrArg Value.int (zu_same g.1 a 4 x)) (fun h => h.si _ _ _) hd kk
theorem gf_X8_93 {ρ : Type} {K : ρ → Prop} {f : Option ρ} {E : zE} {D : zD} {A : Nat → Prop} {Q : State → Prop} {nL : Nat} {κ : zC} {g : zG} {pc : Nat} {lv : List (Nat × Value)} {st : List Value} {cc : ByteArray} {ret : Option FieldType} (F : zF E D A cc "TypeChain$Trials" nL ret) {a : Nat} (ht : κ.2.1 a = some (.inr 5)) (hd : decode cc pc = .ok (.getfield 93, 3)) (kk : κ.2.1 (g.2.1 a 1) = some (.inr 3) → zSim K f (zAt E D A Q nL κ g (pc + 3) lv (.ref (g.2.1 a 1) :: st))) : zSim K f (zAt E D A Q nL κ g pc lv (.ref a :: st)) := z_wt (fun hw => z_get F (r := (RX5, TX5, 4)) (k := 1) ht rfl inZ5 (by decide) q_141 (fun _ => zref_pos hw.1 (hw.2.1 a _ ht 1 _ rfl)) hd (kk (hw.2.1 a _ ht 1 _ rfl)))
theorem gf_X8_97 {ρ : Type} {K : ρ → Prop} {f : Option ρ} {E : zE} {D : zD} {A : Nat → Prop} {Q : State → Prop} {nL : Nat} {κ : zC} {g : zG} {pc : Nat} {lv : List (Nat × Value)} {st : List Value} {cc : ByteArray} {ret : Option FieldType} (F : zF E D A cc "TypeChain$Trials" nL ret) {a : Nat} (ht : κ.2.1 a = some (.inr 3)) (hd : decode cc pc = .ok (.getfield 97, 3)) (kk : zSim K f (zAt E D A Q nL κ g (pc + 3) lv (.int (g.1 a 5) :: st))) : zSim K f (zAt E D A Q nL κ g pc lv (.ref a :: st)) := z_get F (r := (RX3, TX3, 7)) (k := 5) ht rfl inZ3 (by decide) q_86 (fun _ => rfl) hd kk
theorem pf_X8_97 {ρ : Type} {K : ρ → Prop} {f : Option ρ} {E : zE} {D : zD} {A : Nat → Prop} {Q : State → Prop} {nL : Nat} {κ : zC} {g : zG} {pc : Nat} {lv : List (Nat × Value)} {st : List Value} {cc : ByteArray} {ret : Option FieldType} (F : zF E D A cc "TypeChain$Trials" nL ret) {a : Nat} (ht : κ.2.1 a = some (.inr 3)) {x : Int32} (hd : decode cc pc = .ok (.putfield 97, 3)) (kk : zSim K f (zAt E D A Q nL κ (zsi g a 5 x) (pc + 3) lv st)) : zSim K f (zAt E D A Q nL κ g pc lv (.int x :: .ref a :: st)) := z_put0 F (r := (RX3, TX3, 7)) (k := 5) ht rfl inZ3 tyX3_ok nmX3 (by decide) q_86 rfl rfl rfl (zOne_i g a 5 x) (congrArg Value.int (zu_same g.1 a 5 x)) (fun h => h.si _ _ _) hd kk
theorem gf_X8_100 {ρ : Type} {K : ρ → Prop} {f : Option ρ} {E : zE} {D : zD} {A : Nat → Prop} {Q : State → Prop} {nL : Nat} {κ : zC} {g : zG} {pc : Nat} {lv : List (Nat × Value)} {st : List Value} {cc : ByteArray} {ret : Option FieldType} (F : zF E D A cc "TypeChain$Trials" nL ret) {a : Nat} (ht : κ.2.1 a = some (.inr 2)) (hd : decode cc pc = .ok (.getfield 100, 3)) (kk : zSim K f (zAt E D A Q nL κ g (pc + 3) lv (.int (g.1 a 2) :: st))) : zSim K f (zAt E D A Q nL κ g pc lv (.ref a :: st)) := z_get F (r := (RX2, TX2, 9)) (k := 2) ht rfl inZ2 (by decide) q_291 (fun _ => rfl) hd kk
theorem pf_X8_100 {ρ : Type} {K : ρ → Prop} {f : Option ρ} {E : zE} {D : zD} {A : Nat → Prop} {Q : State → Prop} {nL : Nat} {κ : zC} {g : zG} {pc : Nat} {lv : List (Nat × Value)} {st : List Value} {cc : ByteArray} {ret : Option FieldType} (F : zF E D A cc "TypeChain$Trials" nL ret) {a : Nat} (ht : κ.2.1 a = some (.inr 2)) {x : Int32} (hd : decode cc pc = .ok (.putfield 100, 3)) (kk : zSim K f (zAt E D A Q nL κ (zsi g a 2 x) (pc + 3) lv st)) : zSim K f (zAt E D A Q nL κ g pc lv (.int x :: .ref a :: st)) := z_put0 F (r := (RX2, TX2, 9)) (k := 2) ht rfl inZ2 tyX2_ok nmX2 (by decide) q_291 rfl rfl rfl (zOne_i g a 2 x) (congrArg Value.int (zu_same g.1 a 2 x)) (fun h => h.si _ _ _) hd kk
theorem gf_X8_100_h {ρ : Type} {K : ρ → Prop} {f : Option ρ} {E : zE} {D : zD} {A : Nat → Prop} {Q : State → Prop} {nL : Nat} {κ : zC} {g : zG} {pc : Nat} {lv : List (Nat × Value)} {st : List Value} {cc : ByteArray} {ret : Option FieldType} (F : zF E D A cc "TypeChain$Trials" nL ret) {a : Nat} (ht : κ.2.1 a = some (.inr 24)) (hd : decode cc pc = .ok (.getfield 100, 3)) (kk : zSim K f (zAt E D A Q nL κ g (pc + 3) lv (.int (g.1 a 2) :: st))) : zSim K f (zAt E D A Q nL κ g pc lv (.ref a :: st)) := z_get F (r := (RX2, TX2, 9)) (k := 2) ht rfl inZ2 (by decide) q_291 (fun _ => rfl) hd kk
theorem pf_X8_100_h {ρ : Type} {K : ρ → Prop} {f : Option ρ} {E : zE} {D : zD} {A : Nat → Prop} {Q : State → Prop} {nL : Nat} {κ : zC} {g : zG} {pc : Nat} {lv : List (Nat × Value)} {st : List Value} {cc : ByteArray} {ret : Option FieldType} (F : zF E D A cc "TypeChain$Trials" nL ret) {a : Nat} (ht : κ.2.1 a = some (.inr 24)) {x : Int32} (hd : decode cc pc = .ok (.putfield 100, 3)) (kk : zSim K f (zAt E D A Q nL κ (zsi g a 2 x) (pc + 3) lv st)) : zSim K f (zAt E D A Q nL κ g pc lv (.int x :: .ref a :: st)) := z_put0 F (r := (RX2, TX2, 9)) (k := 2) ht rfl inZ2 tyX2_ok nmX2 (by decide) q_291 rfl rfl rfl (zOne_i g a 2 x) (congrArg Value.int (zu_same g.1 a 2 x)) (fun h => h.si _ _ _) hd kk
theorem gf_X10_7 {ρ : Type} {K : ρ → Prop} {f : Option ρ} {E : zE} {D : zD} {A : Nat → Prop} {Q : State → Prop} {nL : Nat} {κ : zC} {g : zG} {pc : Nat} {lv : List (Nat × Value)} {st : List Value} {cc : ByteArray} {ret : Option FieldType} (F : zF E D A cc "TypeChainModel" nL ret) {a : Nat} (ht : κ.2.1 a = some (.inr 10)) (hd : decode cc pc = .ok (.getfield 7, 3)) (kk : κ.2.1 (g.2.1 a 1) = some (.inl (FieldType.int, 49)) → zSim K f (zAt E D A Q nL κ g (pc + 3) lv (.ref (g.2.1 a 1) :: st))) : zSim K f (zAt E D A Q nL κ g pc lv (.ref a :: st)) := z_wt (fun hw => z_get F (r := (RX10, TX10, 61)) (k := 1) ht rfl inZ10 (by decide) q_889 (fun _ => zref_pos hw.1 (hw.2.1 a _ ht 1 _ rfl)) hd (kk (hw.2.1 a _ ht 1 _ rfl)))
theorem gf_X10_13 {ρ : Type} {K : ρ → Prop} {f : Option ρ} {E : zE} {D : zD} {A : Nat → Prop} {Q : State → Prop} {nL : Nat} {κ : zC} {g : zG} {pc : Nat} {lv : List (Nat × Value)} {st : List Value} {cc : ByteArray} {ret : Option FieldType} (F : zF E D A cc "TypeChainModel" nL ret) {a : Nat} (ht : κ.2.1 a = some (.inr 10)) (hd : decode cc pc = .ok (.getfield 13, 3)) (kk : κ.2.1 (g.2.1 a 2) = some (.inl (FieldType.int, 8)) → zSim K f (zAt E D A Q nL κ g (pc + 3) lv (.ref (g.2.1 a 2) :: st))) : zSim K f (zAt E D A Q nL κ g pc lv (.ref a :: st)) := z_wt (fun hw => z_get F (r := (RX10, TX10, 61)) (k := 2) ht rfl inZ10 (by decide) q_890 (fun _ => zref_pos hw.1 (hw.2.1 a _ ht 2 _ rfl)) hd (kk (hw.2.1 a _ ht 2 _ rfl)))
theorem gf_X10_16 {ρ : Type} {K : ρ → Prop} {f : Option ρ} {E : zE} {D : zD} {A : Nat → Prop} {Q : State → Prop} {nL : Nat} {κ : zC} {g : zG} {pc : Nat} {lv : List (Nat × Value)} {st : List Value} {cc : ByteArray} {ret : Option FieldType} (F : zF E D A cc "TypeChainModel" nL ret) {a : Nat} (ht : κ.2.1 a = some (.inr 10)) (hd : decode cc pc = .ok (.getfield 16, 3)) (kk : κ.2.1 (g.2.1 a 3) = some (.inl (FieldType.int, 60)) → zSim K f (zAt E D A Q nL κ g (pc + 3) lv (.ref (g.2.1 a 3) :: st))) : zSim K f (zAt E D A Q nL κ g pc lv (.ref a :: st)) := z_wt (fun hw => z_get F (r := (RX10, TX10, 61)) (k := 3) ht rfl inZ10 (by decide) q_891 (fun _ => zref_pos hw.1 (hw.2.1 a _ ht 3 _ rfl)) hd (kk (hw.2.1 a _ ht 3 _ rfl)))
theorem gf_X10_19 {ρ : Type} {K : ρ → Prop} {f : Option ρ} {E : zE} {D : zD} {A : Nat → Prop} {Q : State → Prop} {nL : Nat} {κ : zC} {g : zG} {pc : Nat} {lv : List (Nat × Value)} {st : List Value} {cc : ByteArray} {ret : Option FieldType} (F : zF E D A cc "TypeChainModel" nL ret) {a : Nat} (ht : κ.2.1 a = some (.inr 10)) (hd : decode cc pc = .ok (.getfield 19, 3)) (kk : κ.2.1 (g.2.1 a 5) = some (.inl (FieldType.int, 24)) → zSim K f (zAt E D A Q nL κ g (pc + 3) lv (.ref (g.2.1 a 5) :: st))) : zSim K f (zAt E D A Q nL κ g pc lv (.ref a :: st)) := z_wt (fun hw => z_get F (r := (RX10, TX10, 61)) (k := 5) ht rfl inZ10 (by decide) q_893 (fun _ => zref_pos hw.1 (hw.2.1 a _ ht 5 _ rfl)) hd (kk (hw.2.1 a _ ht 5 _ rfl)))
theorem gf_X10_22 {ρ : Type} {K : ρ → Prop} {f : Option ρ} {E : zE} {D : zD} {A : Nat → Prop} {Q : State → Prop} {nL : Nat} {κ : zC} {g : zG} {pc : Nat} {lv : List (Nat × Value)} {st : List Value} {cc : ByteArray} {ret : Option FieldType} (F : zF E D A cc "TypeChainModel" nL ret) {a : Nat} (ht : κ.2.1 a = some (.inr 10)) (hd : decode cc pc = .ok (.getfield 22, 3)) (kk : κ.2.1 (g.2.1 a 6) = some (.inl (FieldType.int, 24)) → zSim K f (zAt E D A Q nL κ g (pc + 3) lv (.ref (g.2.1 a 6) :: st))) : zSim K f (zAt E D A Q nL κ g pc lv (.ref a :: st)) := z_wt (fun hw => z_get F (r := (RX10, TX10, 61)) (k := 6) ht rfl inZ10 (by decide) q_894 (fun _ => zref_pos hw.1 (hw.2.1 a _ ht 6 _ rfl)) hd (kk (hw.2.1 a _ ht 6 _ rfl)))
theorem gf_X10_25 {ρ : Type} {K : ρ → Prop} {f : Option ρ} {E : zE} {D : zD} {A : Nat → Prop} {Q : State → Prop} {nL : Nat} {κ : zC} {g : zG} {pc : Nat} {lv : List (Nat × Value)} {st : List Value} {cc : ByteArray} {ret : Option FieldType} (F : zF E D A cc "TypeChainModel" nL ret) {a : Nat} (ht : κ.2.1 a = some (.inr 10)) (hd : decode cc pc = .ok (.getfield 25, 3)) (kk : κ.2.1 (g.2.1 a 7) = some (.inl (FieldType.int, 24)) → zSim K f (zAt E D A Q nL κ g (pc + 3) lv (.ref (g.2.1 a 7) :: st))) : zSim K f (zAt E D A Q nL κ g pc lv (.ref a :: st)) := z_wt (fun hw => z_get F (r := (RX10, TX10, 61)) (k := 7) ht rfl inZ10 (by decide) q_895 (fun _ => zref_pos hw.1 (hw.2.1 a _ ht 7 _ rfl)) hd (kk (hw.2.1 a _ ht 7 _ rfl)))
theorem gf_X10_28 {ρ : Type} {K : ρ → Prop} {f : Option ρ} {E : zE} {D : zD} {A : Nat → Prop} {Q : State → Prop} {nL : Nat} {κ : zC} {g : zG} {pc : Nat} {lv : List (Nat × Value)} {st : List Value} {cc : ByteArray} {ret : Option FieldType} (F : zF E D A cc "TypeChainModel" nL ret) {a : Nat} (ht : κ.2.1 a = some (.inr 10)) (hd : decode cc pc = .ok (.getfield 28, 3)) (kk : κ.2.1 (g.2.1 a 8) = some (.inl (FieldType.int, 24)) → zSim K f (zAt E D A Q nL κ g (pc + 3) lv (.ref (g.2.1 a 8) :: st))) : zSim K f (zAt E D A Q nL κ g pc lv (.ref a :: st)) := z_wt (fun hw => z_get F (r := (RX10, TX10, 61)) (k := 8) ht rfl inZ10 (by decide) q_896 (fun _ => zref_pos hw.1 (hw.2.1 a _ ht 8 _ rfl)) hd (kk (hw.2.1 a _ ht 8 _ rfl)))
theorem gf_X10_31 {ρ : Type} {K : ρ → Prop} {f : Option ρ} {E : zE} {D : zD} {A : Nat → Prop} {Q : State → Prop} {nL : Nat} {κ : zC} {g : zG} {pc : Nat} {lv : List (Nat × Value)} {st : List Value} {cc : ByteArray} {ret : Option FieldType} (F : zF E D A cc "TypeChainModel" nL ret) {a : Nat} (ht : κ.2.1 a = some (.inr 10)) (hd : decode cc pc = .ok (.getfield 31, 3)) (kk : κ.2.1 (g.2.1 a 9) = some (.inl (FieldType.int, 240)) → zSim K f (zAt E D A Q nL κ g (pc + 3) lv (.ref (g.2.1 a 9) :: st))) : zSim K f (zAt E D A Q nL κ g pc lv (.ref a :: st)) := z_wt (fun hw => z_get F (r := (RX10, TX10, 61)) (k := 9) ht rfl inZ10 (by decide) q_897 (fun _ => zref_pos hw.1 (hw.2.1 a _ ht 9 _ rfl)) hd (kk (hw.2.1 a _ ht 9 _ rfl)))
theorem gf_X10_34 {ρ : Type} {K : ρ → Prop} {f : Option ρ} {E : zE} {D : zD} {A : Nat → Prop} {Q : State → Prop} {nL : Nat} {κ : zC} {g : zG} {pc : Nat} {lv : List (Nat × Value)} {st : List Value} {cc : ByteArray} {ret : Option FieldType} (F : zF E D A cc "TypeChainModel" nL ret) {a : Nat} (ht : κ.2.1 a = some (.inr 10)) (hd : decode cc pc = .ok (.getfield 34, 3)) (kk : κ.2.1 (g.2.1 a 11) = some (.inl (FieldType.int, 49)) → zSim K f (zAt E D A Q nL κ g (pc + 3) lv (.ref (g.2.1 a 11) :: st))) : zSim K f (zAt E D A Q nL κ g pc lv (.ref a :: st)) := z_wt (fun hw => z_get F (r := (RX10, TX10, 61)) (k := 11) ht rfl inZ10 (by decide) q_899 (fun _ => zref_pos hw.1 (hw.2.1 a _ ht 11 _ rfl)) hd (kk (hw.2.1 a _ ht 11 _ rfl)))
theorem gf_X10_37 {ρ : Type} {K : ρ → Prop} {f : Option ρ} {E : zE} {D : zD} {A : Nat → Prop} {Q : State → Prop} {nL : Nat} {κ : zC} {g : zG} {pc : Nat} {lv : List (Nat × Value)} {st : List Value} {cc : ByteArray} {ret : Option FieldType} (F : zF E D A cc "TypeChainModel" nL ret) {a : Nat} (ht : κ.2.1 a = some (.inr 10)) (hd : decode cc pc = .ok (.getfield 37, 3)) (kk : κ.2.1 (g.2.1 a 12) = some (.inl (FieldType.int, 8)) → zSim K f (zAt E D A Q nL κ g (pc + 3) lv (.ref (g.2.1 a 12) :: st))) : zSim K f (zAt E D A Q nL κ g pc lv (.ref a :: st)) := z_wt (fun hw => z_get F (r := (RX10, TX10, 61)) (k := 12) ht rfl inZ10 (by decide) q_900 (fun _ => zref_pos hw.1 (hw.2.1 a _ ht 12 _ rfl)) hd (kk (hw.2.1 a _ ht 12 _ rfl)))
theorem gf_X10_40 {ρ : Type} {K : ρ → Prop} {f : Option ρ} {E : zE} {D : zD} {A : Nat → Prop} {Q : State → Prop} {nL : Nat} {κ : zC} {g : zG} {pc : Nat} {lv : List (Nat × Value)} {st : List Value} {cc : ByteArray} {ret : Option FieldType} (F : zF E D A cc "TypeChainModel" nL ret) {a : Nat} (ht : κ.2.1 a = some (.inr 10)) (hd : decode cc pc = .ok (.getfield 40, 3)) (kk : κ.2.1 (g.2.1 a 13) = some (.inl (FieldType.int, 60)) → zSim K f (zAt E D A Q nL κ g (pc + 3) lv (.ref (g.2.1 a 13) :: st))) : zSim K f (zAt E D A Q nL κ g pc lv (.ref a :: st)) := z_wt (fun hw => z_get F (r := (RX10, TX10, 61)) (k := 13) ht rfl inZ10 (by decide) q_901 (fun _ => zref_pos hw.1 (hw.2.1 a _ ht 13 _ rfl)) hd (kk (hw.2.1 a _ ht 13 _ rfl)))
theorem gf_X10_43 {ρ : Type} {K : ρ → Prop} {f : Option ρ} {E : zE} {D : zD} {A : Nat → Prop} {Q : State → Prop} {nL : Nat} {κ : zC} {g : zG} {pc : Nat} {lv : List (Nat × Value)} {st : List Value} {cc : ByteArray} {ret : Option FieldType} (F : zF E D A cc "TypeChainModel" nL ret) {a : Nat} (ht : κ.2.1 a = some (.inr 10)) (hd : decode cc pc = .ok (.getfield 43, 3)) (kk : κ.2.1 (g.2.1 a 16) = some (.inl (FieldType.int, 24)) → zSim K f (zAt E D A Q nL κ g (pc + 3) lv (.ref (g.2.1 a 16) :: st))) : zSim K f (zAt E D A Q nL κ g pc lv (.ref a :: st)) := z_wt (fun hw => z_get F (r := (RX10, TX10, 61)) (k := 16) ht rfl inZ10 (by decide) q_904 (fun _ => zref_pos hw.1 (hw.2.1 a _ ht 16 _ rfl)) hd (kk (hw.2.1 a _ ht 16 _ rfl)))
theorem gf_X10_46 {ρ : Type} {K : ρ → Prop} {f : Option ρ} {E : zE} {D : zD} {A : Nat → Prop} {Q : State → Prop} {nL : Nat} {κ : zC} {g : zG} {pc : Nat} {lv : List (Nat × Value)} {st : List Value} {cc : ByteArray} {ret : Option FieldType} (F : zF E D A cc "TypeChainModel" nL ret) {a : Nat} (ht : κ.2.1 a = some (.inr 10)) (hd : decode cc pc = .ok (.getfield 46, 3)) (kk : κ.2.1 (g.2.1 a 17) = some (.inl (FieldType.int, 24)) → zSim K f (zAt E D A Q nL κ g (pc + 3) lv (.ref (g.2.1 a 17) :: st))) : zSim K f (zAt E D A Q nL κ g pc lv (.ref a :: st)) := z_wt (fun hw => z_get F (r := (RX10, TX10, 61)) (k := 17) ht rfl inZ10 (by decide) q_905 (fun _ => zref_pos hw.1 (hw.2.1 a _ ht 17 _ rfl)) hd (kk (hw.2.1 a _ ht 17 _ rfl)))
theorem gf_X10_49 {ρ : Type} {K : ρ → Prop} {f : Option ρ} {E : zE} {D : zD} {A : Nat → Prop} {Q : State → Prop} {nL : Nat} {κ : zC} {g : zG} {pc : Nat} {lv : List (Nat × Value)} {st : List Value} {cc : ByteArray} {ret : Option FieldType} (F : zF E D A cc "TypeChainModel" nL ret) {a : Nat} (ht : κ.2.1 a = some (.inr 10)) (hd : decode cc pc = .ok (.getfield 49, 3)) (kk : κ.2.1 (g.2.1 a 18) = some (.inl (FieldType.int, 24)) → zSim K f (zAt E D A Q nL κ g (pc + 3) lv (.ref (g.2.1 a 18) :: st))) : zSim K f (zAt E D A Q nL κ g pc lv (.ref a :: st)) := z_wt (fun hw => z_get F (r := (RX10, TX10, 61)) (k := 18) ht rfl inZ10 (by decide) q_906 (fun _ => zref_pos hw.1 (hw.2.1 a _ ht 18 _ rfl)) hd (kk (hw.2.1 a _ ht 18 _ rfl)))
theorem gf_X10_52 {ρ : Type} {K : ρ → Prop} {f : Option ρ} {E : zE} {D : zD} {A : Nat → Prop} {Q : State → Prop} {nL : Nat} {κ : zC} {g : zG} {pc : Nat} {lv : List (Nat × Value)} {st : List Value} {cc : ByteArray} {ret : Option FieldType} (F : zF E D A cc "TypeChainModel" nL ret) {a : Nat} (ht : κ.2.1 a = some (.inr 10)) (hd : decode cc pc = .ok (.getfield 52, 3)) (kk : κ.2.1 (g.2.1 a 19) = some (.inl (FieldType.int, 24)) → zSim K f (zAt E D A Q nL κ g (pc + 3) lv (.ref (g.2.1 a 19) :: st))) : zSim K f (zAt E D A Q nL κ g pc lv (.ref a :: st)) := z_wt (fun hw => z_get F (r := (RX10, TX10, 61)) (k := 19) ht rfl inZ10 (by decide) q_907 (fun _ => zref_pos hw.1 (hw.2.1 a _ ht 19 _ rfl)) hd (kk (hw.2.1 a _ ht 19 _ rfl)))
theorem gf_X10_55 {ρ : Type} {K : ρ → Prop} {f : Option ρ} {E : zE} {D : zD} {A : Nat → Prop} {Q : State → Prop} {nL : Nat} {κ : zC} {g : zG} {pc : Nat} {lv : List (Nat × Value)} {st : List Value} {cc : ByteArray} {ret : Option FieldType} (F : zF E D A cc "TypeChainModel" nL ret) {a : Nat} (ht : κ.2.1 a = some (.inr 10)) (hd : decode cc pc = .ok (.getfield 55, 3)) (kk : κ.2.1 (g.2.1 a 21) = some (.inl (FieldType.int, 240)) → zSim K f (zAt E D A Q nL κ g (pc + 3) lv (.ref (g.2.1 a 21) :: st))) : zSim K f (zAt E D A Q nL κ g pc lv (.ref a :: st)) := z_wt (fun hw => z_get F (r := (RX10, TX10, 61)) (k := 21) ht rfl inZ10 (by decide) q_909 (fun _ => zref_pos hw.1 (hw.2.1 a _ ht 21 _ rfl)) hd (kk (hw.2.1 a _ ht 21 _ rfl)))
theorem gf_X10_58 {ρ : Type} {K : ρ → Prop} {f : Option ρ} {E : zE} {D : zD} {A : Nat → Prop} {Q : State → Prop} {nL : Nat} {κ : zC} {g : zG} {pc : Nat} {lv : List (Nat × Value)} {st : List Value} {cc : ByteArray} {ret : Option FieldType} (F : zF E D A cc "TypeChainModel" nL ret) {a : Nat} (ht : κ.2.1 a = some (.inr 10)) (hd : decode cc pc = .ok (.getfield 58, 3)) (kk : κ.2.1 (g.2.1 a 22) = some (.inl (FieldType.boolean, 13)) → zSim K f (zAt E D A Q nL κ g (pc + 3) lv (.ref (g.2.1 a 22) :: st))) : zSim K f (zAt E D A Q nL κ g pc lv (.ref a :: st)) := z_wt (fun hw => z_get F (r := (RX10, TX10, 61)) (k := 22) ht rfl inZ10 (by decide) q_910 (fun _ => zref_pos hw.1 (hw.2.1 a _ ht 22 _ rfl)) hd (kk (hw.2.1 a _ ht 22 _ rfl)))
theorem gf_X10_62 {ρ : Type} {K : ρ → Prop} {f : Option ρ} {E : zE} {D : zD} {A : Nat → Prop} {Q : State → Prop} {nL : Nat} {κ : zC} {g : zG} {pc : Nat} {lv : List (Nat × Value)} {st : List Value} {cc : ByteArray} {ret : Option FieldType} (F : zF E D A cc "TypeChainModel" nL ret) {a : Nat} (ht : κ.2.1 a = some (.inr 10)) (hd : decode cc pc = .ok (.getfield 62, 3)) (kk : κ.2.1 (g.2.1 a 24) = some (.inl (FieldType.int, 64)) → zSim K f (zAt E D A Q nL κ g (pc + 3) lv (.ref (g.2.1 a 24) :: st))) : zSim K f (zAt E D A Q nL κ g pc lv (.ref a :: st)) := z_wt (fun hw => z_get F (r := (RX10, TX10, 61)) (k := 24) ht rfl inZ10 (by decide) q_912 (fun _ => zref_pos hw.1 (hw.2.1 a _ ht 24 _ rfl)) hd (kk (hw.2.1 a _ ht 24 _ rfl)))
theorem gf_X10_65 {ρ : Type} {K : ρ → Prop} {f : Option ρ} {E : zE} {D : zD} {A : Nat → Prop} {Q : State → Prop} {nL : Nat} {κ : zC} {g : zG} {pc : Nat} {lv : List (Nat × Value)} {st : List Value} {cc : ByteArray} {ret : Option FieldType} (F : zF E D A cc "TypeChainModel" nL ret) {a : Nat} (ht : κ.2.1 a = some (.inr 10)) (hd : decode cc pc = .ok (.getfield 65, 3)) (kk : κ.2.1 (g.2.1 a 25) = some (.inl (FieldType.int, 64)) → zSim K f (zAt E D A Q nL κ g (pc + 3) lv (.ref (g.2.1 a 25) :: st))) : zSim K f (zAt E D A Q nL κ g pc lv (.ref a :: st)) := z_wt (fun hw => z_get F (r := (RX10, TX10, 61)) (k := 25) ht rfl inZ10 (by decide) q_913 (fun _ => zref_pos hw.1 (hw.2.1 a _ ht 25 _ rfl)) hd (kk (hw.2.1 a _ ht 25 _ rfl)))
theorem gf_X10_68 {ρ : Type} {K : ρ → Prop} {f : Option ρ} {E : zE} {D : zD} {A : Nat → Prop} {Q : State → Prop} {nL : Nat} {κ : zC} {g : zG} {pc : Nat} {lv : List (Nat × Value)} {st : List Value} {cc : ByteArray} {ret : Option FieldType} (F : zF E D A cc "TypeChainModel" nL ret) {a : Nat} (ht : κ.2.1 a = some (.inr 10)) (hd : decode cc pc = .ok (.getfield 68, 3)) (kk : κ.2.1 (g.2.1 a 26) = some (.inl (FieldType.int, 240)) → zSim K f (zAt E D A Q nL κ g (pc + 3) lv (.ref (g.2.1 a 26) :: st))) : zSim K f (zAt E D A Q nL κ g pc lv (.ref a :: st)) := z_wt (fun hw => z_get F (r := (RX10, TX10, 61)) (k := 26) ht rfl inZ10 (by decide) q_914 (fun _ => zref_pos hw.1 (hw.2.1 a _ ht 26 _ rfl)) hd (kk (hw.2.1 a _ ht 26 _ rfl)))
theorem gf_X10_71 {ρ : Type} {K : ρ → Prop} {f : Option ρ} {E : zE} {D : zD} {A : Nat → Prop} {Q : State → Prop} {nL : Nat} {κ : zC} {g : zG} {pc : Nat} {lv : List (Nat × Value)} {st : List Value} {cc : ByteArray} {ret : Option FieldType} (F : zF E D A cc "TypeChainModel" nL ret) {a : Nat} (ht : κ.2.1 a = some (.inr 10)) (hd : decode cc pc = .ok (.getfield 71, 3)) (kk : κ.2.1 (g.2.1 a 37) = some (.inl (FieldType.int, 40)) → zSim K f (zAt E D A Q nL κ g (pc + 3) lv (.ref (g.2.1 a 37) :: st))) : zSim K f (zAt E D A Q nL κ g pc lv (.ref a :: st)) := z_wt (fun hw => z_get F (r := (RX10, TX10, 61)) (k := 37) ht rfl inZ10 (by decide) q_925 (fun _ => zref_pos hw.1 (hw.2.1 a _ ht 37 _ rfl)) hd (kk (hw.2.1 a _ ht 37 _ rfl)))
theorem gf_X10_74 {ρ : Type} {K : ρ → Prop} {f : Option ρ} {E : zE} {D : zD} {A : Nat → Prop} {Q : State → Prop} {nL : Nat} {κ : zC} {g : zG} {pc : Nat} {lv : List (Nat × Value)} {st : List Value} {cc : ByteArray} {ret : Option FieldType} (F : zF E D A cc "TypeChainModel" nL ret) {a : Nat} (ht : κ.2.1 a = some (.inr 10)) (hd : decode cc pc = .ok (.getfield 74, 3)) (kk : κ.2.1 (g.2.1 a 38) = some (.inl (FieldType.int, 2400)) → zSim K f (zAt E D A Q nL κ g (pc + 3) lv (.ref (g.2.1 a 38) :: st))) : zSim K f (zAt E D A Q nL κ g pc lv (.ref a :: st)) := z_wt (fun hw => z_get F (r := (RX10, TX10, 61)) (k := 38) ht rfl inZ10 (by decide) q_926 (fun _ => zref_pos hw.1 (hw.2.1 a _ ht 38 _ rfl)) hd (kk (hw.2.1 a _ ht 38 _ rfl)))
theorem gf_X10_77 {ρ : Type} {K : ρ → Prop} {f : Option ρ} {E : zE} {D : zD} {A : Nat → Prop} {Q : State → Prop} {nL : Nat} {κ : zC} {g : zG} {pc : Nat} {lv : List (Nat × Value)} {st : List Value} {cc : ByteArray} {ret : Option FieldType} (F : zF E D A cc "TypeChainModel" nL ret) {a : Nat} (ht : κ.2.1 a = some (.inr 10)) (hd : decode cc pc = .ok (.getfield 77, 3)) (kk : κ.2.1 (g.2.1 a 39) = some (.inl (FieldType.int, 2400)) → zSim K f (zAt E D A Q nL κ g (pc + 3) lv (.ref (g.2.1 a 39) :: st))) : zSim K f (zAt E D A Q nL κ g pc lv (.ref a :: st)) := z_wt (fun hw => z_get F (r := (RX10, TX10, 61)) (k := 39) ht rfl inZ10 (by decide) q_927 (fun _ => zref_pos hw.1 (hw.2.1 a _ ht 39 _ rfl)) hd (kk (hw.2.1 a _ ht 39 _ rfl)))
theorem gf_X10_80 {ρ : Type} {K : ρ → Prop} {f : Option ρ} {E : zE} {D : zD} {A : Nat → Prop} {Q : State → Prop} {nL : Nat} {κ : zC} {g : zG} {pc : Nat} {lv : List (Nat × Value)} {st : List Value} {cc : ByteArray} {ret : Option FieldType} (F : zF E D A cc "TypeChainModel" nL ret) {a : Nat} (ht : κ.2.1 a = some (.inr 10)) (hd : decode cc pc = .ok (.getfield 80, 3)) (kk : κ.2.1 (g.2.1 a 40) = some (.inl (FieldType.int, 40)) → zSim K f (zAt E D A Q nL κ g (pc + 3) lv (.ref (g.2.1 a 40) :: st))) : zSim K f (zAt E D A Q nL κ g pc lv (.ref a :: st)) := z_wt (fun hw => z_get F (r := (RX10, TX10, 61)) (k := 40) ht rfl inZ10 (by decide) q_928 (fun _ => zref_pos hw.1 (hw.2.1 a _ ht 40 _ rfl)) hd (kk (hw.2.1 a _ ht 40 _ rfl)))
theorem gf_X10_83 {ρ : Type} {K : ρ → Prop} {f : Option ρ} {E : zE} {D : zD} {A : Nat → Prop} {Q : State → Prop} {nL : Nat} {κ : zC} {g : zG} {pc : Nat} {lv : List (Nat × Value)} {st : List Value} {cc : ByteArray} {ret : Option FieldType} (F : zF E D A cc "TypeChainModel" nL ret) {a : Nat} (ht : κ.2.1 a = some (.inr 10)) (hd : decode cc pc = .ok (.getfield 83, 3)) (kk : κ.2.1 (g.2.1 a 41) = some (.inl (FieldType.int, 40)) → zSim K f (zAt E D A Q nL κ g (pc + 3) lv (.ref (g.2.1 a 41) :: st))) : zSim K f (zAt E D A Q nL κ g pc lv (.ref a :: st)) := z_wt (fun hw => z_get F (r := (RX10, TX10, 61)) (k := 41) ht rfl inZ10 (by decide) q_929 (fun _ => zref_pos hw.1 (hw.2.1 a _ ht 41 _ rfl)) hd (kk (hw.2.1 a _ ht 41 _ rfl)))
theorem gf_X10_86 {ρ : Type} {K : ρ → Prop} {f : Option ρ} {E : zE} {D : zD} {A : Nat → Prop} {Q : State → Prop} {nL : Nat} {κ : zC} {g : zG} {pc : Nat} {lv : List (Nat × Value)} {st : List Value} {cc : ByteArray} {ret : Option FieldType} (F : zF E D A cc "TypeChainModel" nL ret) {a : Nat} (ht : κ.2.1 a = some (.inr 10)) (hd : decode cc pc = .ok (.getfield 86, 3)) (kk : κ.2.1 (g.2.1 a 42) = some (.inl (FieldType.boolean, 40)) → zSim K f (zAt E D A Q nL κ g (pc + 3) lv (.ref (g.2.1 a 42) :: st))) : zSim K f (zAt E D A Q nL κ g pc lv (.ref a :: st)) := z_wt (fun hw => z_get F (r := (RX10, TX10, 61)) (k := 42) ht rfl inZ10 (by decide) q_930 (fun _ => zref_pos hw.1 (hw.2.1 a _ ht 42 _ rfl)) hd (kk (hw.2.1 a _ ht 42 _ rfl)))
theorem gf_X10_89 {ρ : Type} {K : ρ → Prop} {f : Option ρ} {E : zE} {D : zD} {A : Nat → Prop} {Q : State → Prop} {nL : Nat} {κ : zC} {g : zG} {pc : Nat} {lv : List (Nat × Value)} {st : List Value} {cc : ByteArray} {ret : Option FieldType} (F : zF E D A cc "TypeChainModel" nL ret) {a : Nat} (ht : κ.2.1 a = some (.inr 10)) (hd : decode cc pc = .ok (.getfield 89, 3)) (kk : κ.2.1 (g.2.1 a 48) = some (.inl (FieldType.int, 40)) → zSim K f (zAt E D A Q nL κ g (pc + 3) lv (.ref (g.2.1 a 48) :: st))) : zSim K f (zAt E D A Q nL κ g pc lv (.ref a :: st)) := z_wt (fun hw => z_get F (r := (RX10, TX10, 61)) (k := 48) ht rfl inZ10 (by decide) q_936 (fun _ => zref_pos hw.1 (hw.2.1 a _ ht 48 _ rfl)) hd (kk (hw.2.1 a _ ht 48 _ rfl)))
theorem gf_X10_92 {ρ : Type} {K : ρ → Prop} {f : Option ρ} {E : zE} {D : zD} {A : Nat → Prop} {Q : State → Prop} {nL : Nat} {κ : zC} {g : zG} {pc : Nat} {lv : List (Nat × Value)} {st : List Value} {cc : ByteArray} {ret : Option FieldType} (F : zF E D A cc "TypeChainModel" nL ret) {a : Nat} (ht : κ.2.1 a = some (.inr 10)) (hd : decode cc pc = .ok (.getfield 92, 3)) (kk : κ.2.1 (g.2.1 a 49) = some (.inl (FieldType.int, 40)) → zSim K f (zAt E D A Q nL κ g (pc + 3) lv (.ref (g.2.1 a 49) :: st))) : zSim K f (zAt E D A Q nL κ g pc lv (.ref a :: st)) := z_wt (fun hw => z_get F (r := (RX10, TX10, 61)) (k := 49) ht rfl inZ10 (by decide) q_937 (fun _ => zref_pos hw.1 (hw.2.1 a _ ht 49 _ rfl)) hd (kk (hw.2.1 a _ ht 49 _ rfl)))
theorem gf_X10_95 {ρ : Type} {K : ρ → Prop} {f : Option ρ} {E : zE} {D : zD} {A : Nat → Prop} {Q : State → Prop} {nL : Nat} {κ : zC} {g : zG} {pc : Nat} {lv : List (Nat × Value)} {st : List Value} {cc : ByteArray} {ret : Option FieldType} (F : zF E D A cc "TypeChainModel" nL ret) {a : Nat} (ht : κ.2.1 a = some (.inr 10)) (hd : decode cc pc = .ok (.getfield 95, 3)) (kk : κ.2.1 (g.2.1 a 50) = some (.inl (FieldType.int, 40)) → zSim K f (zAt E D A Q nL κ g (pc + 3) lv (.ref (g.2.1 a 50) :: st))) : zSim K f (zAt E D A Q nL κ g pc lv (.ref a :: st)) := z_wt (fun hw => z_get F (r := (RX10, TX10, 61)) (k := 50) ht rfl inZ10 (by decide) q_938 (fun _ => zref_pos hw.1 (hw.2.1 a _ ht 50 _ rfl)) hd (kk (hw.2.1 a _ ht 50 _ rfl)))
theorem gf_X10_98 {ρ : Type} {K : ρ → Prop} {f : Option ρ} {E : zE} {D : zD} {A : Nat → Prop} {Q : State → Prop} {nL : Nat} {κ : zC} {g : zG} {pc : Nat} {lv : List (Nat × Value)} {st : List Value} {cc : ByteArray} {ret : Option FieldType} (F : zF E D A cc "TypeChainModel" nL ret) {a : Nat} (ht : κ.2.1 a = some (.inr 10)) (hd : decode cc pc = .ok (.getfield 98, 3)) (kk : κ.2.1 (g.2.1 a 55) = some (.inl (FieldType.int, 40)) → zSim K f (zAt E D A Q nL κ g (pc + 3) lv (.ref (g.2.1 a 55) :: st))) : zSim K f (zAt E D A Q nL κ g pc lv (.ref a :: st)) := z_wt (fun hw => z_get F (r := (RX10, TX10, 61)) (k := 55) ht rfl inZ10 (by decide) q_943 (fun _ => zref_pos hw.1 (hw.2.1 a _ ht 55 _ rfl)) hd (kk (hw.2.1 a _ ht 55 _ rfl)))
theorem gf_X10_101 {ρ : Type} {K : ρ → Prop} {f : Option ρ} {E : zE} {D : zD} {A : Nat → Prop} {Q : State → Prop} {nL : Nat} {κ : zC} {g : zG} {pc : Nat} {lv : List (Nat × Value)} {st : List Value} {cc : ByteArray} {ret : Option FieldType} (F : zF E D A cc "TypeChainModel" nL ret) {a : Nat} (ht : κ.2.1 a = some (.inr 10)) (hd : decode cc pc = .ok (.getfield 101, 3)) (kk : κ.2.1 (g.2.1 a 56) = some (.inl (FieldType.int, 49)) → zSim K f (zAt E D A Q nL κ g (pc + 3) lv (.ref (g.2.1 a 56) :: st))) : zSim K f (zAt E D A Q nL κ g pc lv (.ref a :: st)) := z_wt (fun hw => z_get F (r := (RX10, TX10, 61)) (k := 56) ht rfl inZ10 (by decide) q_944 (fun _ => zref_pos hw.1 (hw.2.1 a _ ht 56 _ rfl)) hd (kk (hw.2.1 a _ ht 56 _ rfl)))
theorem gf_X10_104 {ρ : Type} {K : ρ → Prop} {f : Option ρ} {E : zE} {D : zD} {A : Nat → Prop} {Q : State → Prop} {nL : Nat} {κ : zC} {g : zG} {pc : Nat} {lv : List (Nat × Value)} {st : List Value} {cc : ByteArray} {ret : Option FieldType} (F : zF E D A cc "TypeChainModel" nL ret) {a : Nat} (ht : κ.2.1 a = some (.inr 10)) (hd : decode cc pc = .ok (.getfield 104, 3)) (kk : κ.2.1 (g.2.1 a 57) = some (.inl (FieldType.int, 6)) → zSim K f (zAt E D A Q nL κ g (pc + 3) lv (.ref (g.2.1 a 57) :: st))) : zSim K f (zAt E D A Q nL κ g pc lv (.ref a :: st)) := z_wt (fun hw => z_get F (r := (RX10, TX10, 61)) (k := 57) ht rfl inZ10 (by decide) q_945 (fun _ => zref_pos hw.1 (hw.2.1 a _ ht 57 _ rfl)) hd (kk (hw.2.1 a _ ht 57 _ rfl)))
theorem gf_X10_107 {ρ : Type} {K : ρ → Prop} {f : Option ρ} {E : zE} {D : zD} {A : Nat → Prop} {Q : State → Prop} {nL : Nat} {κ : zC} {g : zG} {pc : Nat} {lv : List (Nat × Value)} {st : List Value} {cc : ByteArray} {ret : Option FieldType} (F : zF E D A cc "TypeChainModel" nL ret) {a : Nat} (ht : κ.2.1 a = some (.inr 10)) (hd : decode cc pc = .ok (.getfield 107, 3)) (kk : κ.2.1 (g.2.1 a 58) = some (.inl (FieldType.int, 4)) → zSim K f (zAt E D A Q nL κ g (pc + 3) lv (.ref (g.2.1 a 58) :: st))) : zSim K f (zAt E D A Q nL κ g pc lv (.ref a :: st)) := z_wt (fun hw => z_get F (r := (RX10, TX10, 61)) (k := 58) ht rfl inZ10 (by decide) q_946 (fun _ => zref_pos hw.1 (hw.2.1 a _ ht 58 _ rfl)) hd (kk (hw.2.1 a _ ht 58 _ rfl)))
theorem gf_X10_110 {ρ : Type} {K : ρ → Prop} {f : Option ρ} {E : zE} {D : zD} {A : Nat → Prop} {Q : State → Prop} {nL : Nat} {κ : zC} {g : zG} {pc : Nat} {lv : List (Nat × Value)} {st : List Value} {cc : ByteArray} {ret : Option FieldType} (F : zF E D A cc "TypeChainModel" nL ret) {a : Nat} (ht : κ.2.1 a = some (.inr 10)) (hd : decode cc pc = .ok (.getfield 110, 3)) (kk : κ.2.1 (g.2.1 a 59) = some (.inl (FieldType.int, 4)) → zSim K f (zAt E D A Q nL κ g (pc + 3) lv (.ref (g.2.1 a 59) :: st))) : zSim K f (zAt E D A Q nL κ g pc lv (.ref a :: st)) := z_wt (fun hw => z_get F (r := (RX10, TX10, 61)) (k := 59) ht rfl inZ10 (by decide) q_947 (fun _ => zref_pos hw.1 (hw.2.1 a _ ht 59 _ rfl)) hd (kk (hw.2.1 a _ ht 59 _ rfl)))
theorem gf_X10_113 {ρ : Type} {K : ρ → Prop} {f : Option ρ} {E : zE} {D : zD} {A : Nat → Prop} {Q : State → Prop} {nL : Nat} {κ : zC} {g : zG} {pc : Nat} {lv : List (Nat × Value)} {st : List Value} {cc : ByteArray} {ret : Option FieldType} (F : zF E D A cc "TypeChainModel" nL ret) {a : Nat} (ht : κ.2.1 a = some (.inr 10)) (hd : decode cc pc = .ok (.getfield 113, 3)) (kk : κ.2.1 (g.2.1 a 60) = some (.inl (FieldType.int, 160)) → zSim K f (zAt E D A Q nL κ g (pc + 3) lv (.ref (g.2.1 a 60) :: st))) : zSim K f (zAt E D A Q nL κ g pc lv (.ref a :: st)) := z_wt (fun hw => z_get F (r := (RX10, TX10, 61)) (k := 60) ht rfl inZ10 (by decide) q_948 (fun _ => zref_pos hw.1 (hw.2.1 a _ ht 60 _ rfl)) hd (kk (hw.2.1 a _ ht 60 _ rfl)))
theorem gf_X10_122 {ρ : Type} {K : ρ → Prop} {f : Option ρ} {E : zE} {D : zD} {A : Nat → Prop} {Q : State → Prop} {nL : Nat} {κ : zC} {g : zG} {pc : Nat} {lv : List (Nat × Value)} {st : List Value} {cc : ByteArray} {ret : Option FieldType} (F : zF E D A cc "TypeChainModel" nL ret) {a : Nat} (ht : κ.2.1 a = some (.inr 10)) (hd : decode cc pc = .ok (.getfield 122, 3)) (kk : zSim K f (zAt E D A Q nL κ g (pc + 3) lv (.int (g.1 a 10) :: st))) : zSim K f (zAt E D A Q nL κ g pc lv (.ref a :: st)) := z_get F (r := (RX10, TX10, 61)) (k := 10) ht rfl inZ10 (by decide) q_898 (fun _ => rfl) hd kk
theorem pf_X10_122 {ρ : Type} {K : ρ → Prop} {f : Option ρ} {E : zE} {D : zD} {A : Nat → Prop} {Q : State → Prop} {nL : Nat} {κ : zC} {g : zG} {pc : Nat} {lv : List (Nat × Value)} {st : List Value} {cc : ByteArray} {ret : Option FieldType} (F : zF E D A cc "TypeChainModel" nL ret) {a : Nat} (ht : κ.2.1 a = some (.inr 10)) {x : Int32} (hd : decode cc pc = .ok (.putfield 122, 3)) (kk : zSim K f (zAt E D A Q nL κ (zsi g a 10 x) (pc + 3) lv st)) : zSim K f (zAt E D A Q nL κ g pc lv (.int x :: .ref a :: st)) := z_put0 F (r := (RX10, TX10, 61)) (k := 10) ht rfl inZ10 tyX10_ok nmX10 (by decide) q_898 rfl rfl rfl (zOne_i g a 10 x) (congrArg Value.int (zu_same g.1 a 10 x)) (fun h => h.si _ _ _) hd kk
theorem gf_X10_126 {ρ : Type} {K : ρ → Prop} {f : Option ρ} {E : zE} {D : zD} {A : Nat → Prop} {Q : State → Prop} {nL : Nat} {κ : zC} {g : zG} {pc : Nat} {lv : List (Nat × Value)} {st : List Value} {cc : ByteArray} {ret : Option FieldType} (F : zF E D A cc "TypeChainModel" nL ret) {a : Nat} (ht : κ.2.1 a = some (.inr 10)) (hd : decode cc pc = .ok (.getfield 126, 3)) (kk : zSim K f (zAt E D A Q nL κ g (pc + 3) lv (.int (g.1 a 14) :: st))) : zSim K f (zAt E D A Q nL κ g pc lv (.ref a :: st)) := z_get F (r := (RX10, TX10, 61)) (k := 14) ht rfl inZ10 (by decide) q_902 (fun _ => rfl) hd kk
theorem pf_X10_126 {ρ : Type} {K : ρ → Prop} {f : Option ρ} {E : zE} {D : zD} {A : Nat → Prop} {Q : State → Prop} {nL : Nat} {κ : zC} {g : zG} {pc : Nat} {lv : List (Nat × Value)} {st : List Value} {cc : ByteArray} {ret : Option FieldType} (F : zF E D A cc "TypeChainModel" nL ret) {a : Nat} (ht : κ.2.1 a = some (.inr 10)) {x : Int32} (hz : x = 0 ∨ x = 1) (hd : decode cc pc = .ok (.putfield 126, 3)) (kk : zSim K f (zAt E D A Q nL κ (zsi g a 14 x) (pc + 3) lv st)) : zSim K f (zAt E D A Q nL κ g pc lv (.int x :: .ref a :: st)) := z_put0 F (r := (RX10, TX10, 61)) (k := 14) ht rfl inZ10 tyX10_ok nmX10 (by decide) q_902 rfl (znar01 hz) (zfit01 hz) (zOne_i g a 14 x) (congrArg Value.int (zu_same g.1 a 14 x)) (fun h => h.si _ _ _) hd kk
theorem gf_X10_130 {ρ : Type} {K : ρ → Prop} {f : Option ρ} {E : zE} {D : zD} {A : Nat → Prop} {Q : State → Prop} {nL : Nat} {κ : zC} {g : zG} {pc : Nat} {lv : List (Nat × Value)} {st : List Value} {cc : ByteArray} {ret : Option FieldType} (F : zF E D A cc "TypeChainModel" nL ret) {a : Nat} (ht : κ.2.1 a = some (.inr 10)) (hd : decode cc pc = .ok (.getfield 130, 3)) (kk : zSim K f (zAt E D A Q nL κ g (pc + 3) lv (.int (g.1 a 15) :: st))) : zSim K f (zAt E D A Q nL κ g pc lv (.ref a :: st)) := z_get F (r := (RX10, TX10, 61)) (k := 15) ht rfl inZ10 (by decide) q_903 (fun _ => rfl) hd kk
theorem pf_X10_130 {ρ : Type} {K : ρ → Prop} {f : Option ρ} {E : zE} {D : zD} {A : Nat → Prop} {Q : State → Prop} {nL : Nat} {κ : zC} {g : zG} {pc : Nat} {lv : List (Nat × Value)} {st : List Value} {cc : ByteArray} {ret : Option FieldType} (F : zF E D A cc "TypeChainModel" nL ret) {a : Nat} (ht : κ.2.1 a = some (.inr 10)) {x : Int32} (hd : decode cc pc = .ok (.putfield 130, 3)) (kk : zSim K f (zAt E D A Q nL κ (zsi g a 15 x) (pc + 3) lv st)) : zSim K f (zAt E D A Q nL κ g pc lv (.int x :: .ref a :: st)) := z_put0 F (r := (RX10, TX10, 61)) (k := 15) ht rfl inZ10 tyX10_ok nmX10 (by decide) q_903 rfl rfl rfl (zOne_i g a 15 x) (congrArg Value.int (zu_same g.1 a 15 x)) (fun h => h.si _ _ _) hd kk
theorem gf_X10_133 {ρ : Type} {K : ρ → Prop} {f : Option ρ} {E : zE} {D : zD} {A : Nat → Prop} {Q : State → Prop} {nL : Nat} {κ : zC} {g : zG} {pc : Nat} {lv : List (Nat × Value)} {st : List Value} {cc : ByteArray} {ret : Option FieldType} (F : zF E D A cc "TypeChainModel" nL ret) {a : Nat} (ht : κ.2.1 a = some (.inr 10)) (hd : decode cc pc = .ok (.getfield 133, 3)) (kk : zSim K f (zAt E D A Q nL κ g (pc + 3) lv (.int (g.1 a 20) :: st))) : zSim K f (zAt E D A Q nL κ g pc lv (.ref a :: st)) := z_get F (r := (RX10, TX10, 61)) (k := 20) ht rfl inZ10 (by decide) q_908 (fun _ => rfl) hd kk
theorem pf_X10_133 {ρ : Type} {K : ρ → Prop} {f : Option ρ} {E : zE} {D : zD} {A : Nat → Prop} {Q : State → Prop} {nL : Nat} {κ : zC} {g : zG} {pc : Nat} {lv : List (Nat × Value)} {st : List Value} {cc : ByteArray} {ret : Option FieldType} (F : zF E D A cc "TypeChainModel" nL ret) {a : Nat} (ht : κ.2.1 a = some (.inr 10)) {x : Int32} (hd : decode cc pc = .ok (.putfield 133, 3)) (kk : zSim K f (zAt E D A Q nL κ (zsi g a 20 x) (pc + 3) lv st)) : zSim K f (zAt E D A Q nL κ g pc lv (.int x :: .ref a :: st)) := z_put0 F (r := (RX10, TX10, 61)) (k := 20) ht rfl inZ10 tyX10_ok nmX10 (by decide) q_908 rfl rfl rfl (zOne_i g a 20 x) (congrArg Value.int (zu_same g.1 a 20 x)) (fun h => h.si _ _ _) hd kk
theorem gf_X10_136 {ρ : Type} {K : ρ → Prop} {f : Option ρ} {E : zE} {D : zD} {A : Nat → Prop} {Q : State → Prop} {nL : Nat} {κ : zC} {g : zG} {pc : Nat} {lv : List (Nat × Value)} {st : List Value} {cc : ByteArray} {ret : Option FieldType} (F : zF E D A cc "TypeChainModel" nL ret) {a : Nat} (ht : κ.2.1 a = some (.inr 10)) (hd : decode cc pc = .ok (.getfield 136, 3)) (kk : zSim K f (zAt E D A Q nL κ g (pc + 3) lv (.int (g.1 a 23) :: st))) : zSim K f (zAt E D A Q nL κ g pc lv (.ref a :: st)) := z_get F (r := (RX10, TX10, 61)) (k := 23) ht rfl inZ10 (by decide) q_911 (fun _ => rfl) hd kk
theorem pf_X10_136 {ρ : Type} {K : ρ → Prop} {f : Option ρ} {E : zE} {D : zD} {A : Nat → Prop} {Q : State → Prop} {nL : Nat} {κ : zC} {g : zG} {pc : Nat} {lv : List (Nat × Value)} {st : List Value} {cc : ByteArray} {ret : Option FieldType} (F : zF E D A cc "TypeChainModel" nL ret) {a : Nat} (ht : κ.2.1 a = some (.inr 10)) {x : Int32} (hd : decode cc pc = .ok (.putfield 136, 3)) (kk : zSim K f (zAt E D A Q nL κ (zsi g a 23 x) (pc + 3) lv st)) : zSim K f (zAt E D A Q nL κ g pc lv (.int x :: .ref a :: st)) := z_put0 F (r := (RX10, TX10, 61)) (k := 23) ht rfl inZ10 tyX10_ok nmX10 (by decide) q_911 rfl rfl rfl (zOne_i g a 23 x) (congrArg Value.int (zu_same g.1 a 23 x)) (fun h => h.si _ _ _) hd kk
theorem gf_X10_139 {ρ : Type} {K : ρ → Prop} {f : Option ρ} {E : zE} {D : zD} {A : Nat → Prop} {Q : State → Prop} {nL : Nat} {κ : zC} {g : zG} {pc : Nat} {lv : List (Nat × Value)} {st : List Value} {cc : ByteArray} {ret : Option FieldType} (F : zF E D A cc "TypeChainModel" nL ret) {a : Nat} (ht : κ.2.1 a = some (.inr 10)) (hd : decode cc pc = .ok (.getfield 139, 3)) (kk : zSim K f (zAt E D A Q nL κ g (pc + 3) lv (.int (g.1 a 0) :: st))) : zSim K f (zAt E D A Q nL κ g pc lv (.ref a :: st)) := z_get F (r := (RX10, TX10, 61)) (k := 0) ht rfl inZ10 (by decide) q_888 (fun _ => rfl) hd kk
theorem pf_X10_139 {ρ : Type} {K : ρ → Prop} {f : Option ρ} {E : zE} {D : zD} {A : Nat → Prop} {Q : State → Prop} {nL : Nat} {κ : zC} {g : zG} {pc : Nat} {lv : List (Nat × Value)} {st : List Value} {cc : ByteArray} {ret : Option FieldType} (F : zF E D A cc "TypeChainModel" nL ret) {a : Nat} (ht : κ.2.1 a = some (.inr 10)) {x : Int32} (hd : decode cc pc = .ok (.putfield 139, 3)) (kk : zSim K f (zAt E D A Q nL κ (zsi g a 0 x) (pc + 3) lv st)) : zSim K f (zAt E D A Q nL κ g pc lv (.int x :: .ref a :: st)) := z_put0 F (r := (RX10, TX10, 61)) (k := 0) ht rfl inZ10 tyX10_ok nmX10 (by decide) q_888 rfl rfl rfl (zOne_i g a 0 x) (congrArg Value.int (zu_same g.1 a 0 x)) (fun h => h.si _ _ _) hd kk
theorem gf_X10_142 {ρ : Type} {K : ρ → Prop} {f : Option ρ} {E : zE} {D : zD} {A : Nat → Prop} {Q : State → Prop} {nL : Nat} {κ : zC} {g : zG} {pc : Nat} {lv : List (Nat × Value)} {st : List Value} {cc : ByteArray} {ret : Option FieldType} (F : zF E D A cc "TypeChainModel" nL ret) {a : Nat} (ht : κ.2.1 a = some (.inr 10)) (hd : decode cc pc = .ok (.getfield 142, 3)) (kk : zSim K f (zAt E D A Q nL κ g (pc + 3) lv (.int (g.1 a 4) :: st))) : zSim K f (zAt E D A Q nL κ g pc lv (.ref a :: st)) := z_get F (r := (RX10, TX10, 61)) (k := 4) ht rfl inZ10 (by decide) q_892 (fun _ => rfl) hd kk
theorem pf_X10_142 {ρ : Type} {K : ρ → Prop} {f : Option ρ} {E : zE} {D : zD} {A : Nat → Prop} {Q : State → Prop} {nL : Nat} {κ : zC} {g : zG} {pc : Nat} {lv : List (Nat × Value)} {st : List Value} {cc : ByteArray} {ret : Option FieldType} (F : zF E D A cc "TypeChainModel" nL ret) {a : Nat} (ht : κ.2.1 a = some (.inr 10)) {x : Int32} (hd : decode cc pc = .ok (.putfield 142, 3)) (kk : zSim K f (zAt E D A Q nL κ (zsi g a 4 x) (pc + 3) lv st)) : zSim K f (zAt E D A Q nL κ g pc lv (.int x :: .ref a :: st)) := z_put0 F (r := (RX10, TX10, 61)) (k := 4) ht rfl inZ10 tyX10_ok nmX10 (by decide) q_892 rfl rfl rfl (zOne_i g a 4 x) (congrArg Value.int (zu_same g.1 a 4 x)) (fun h => h.si _ _ _) hd kk
theorem gf_X10_145 {ρ : Type} {K : ρ → Prop} {f : Option ρ} {E : zE} {D : zD} {A : Nat → Prop} {Q : State → Prop} {nL : Nat} {κ : zC} {g : zG} {pc : Nat} {lv : List (Nat × Value)} {st : List Value} {cc : ByteArray} {ret : Option FieldType} (F : zF E D A cc "TypeChainModel" nL ret) {a : Nat} (ht : κ.2.1 a = some (.inr 10)) (hd : decode cc pc = .ok (.getfield 145, 3)) (kk : zSim K f (zAt E D A Q nL κ g (pc + 3) lv (.int (g.1 a 51) :: st))) : zSim K f (zAt E D A Q nL κ g pc lv (.ref a :: st)) := z_get F (r := (RX10, TX10, 61)) (k := 51) ht rfl inZ10 (by decide) q_939 (fun _ => rfl) hd kk
theorem pf_X10_145 {ρ : Type} {K : ρ → Prop} {f : Option ρ} {E : zE} {D : zD} {A : Nat → Prop} {Q : State → Prop} {nL : Nat} {κ : zC} {g : zG} {pc : Nat} {lv : List (Nat × Value)} {st : List Value} {cc : ByteArray} {ret : Option FieldType} (F : zF E D A cc "TypeChainModel" nL ret) {a : Nat} (ht : κ.2.1 a = some (.inr 10)) {x : Int32} (hz : x = 0 ∨ x = 1) (hd : decode cc pc = .ok (.putfield 145, 3)) (kk : zSim K f (zAt E D A Q nL κ (zsi g a 51 x) (pc + 3) lv st)) : zSim K f (zAt E D A Q nL κ g pc lv (.int x :: .ref a :: st)) := z_put0 F (r := (RX10, TX10, 61)) (k := 51) ht rfl inZ10 tyX10_ok nmX10 (by decide) q_939 rfl (znar01 hz) (zfit01 hz) (zOne_i g a 51 x) (congrArg Value.int (zu_same g.1 a 51 x)) (fun h => h.si _ _ _) hd kk
theorem gf_X10_148 {ρ : Type} {K : ρ → Prop} {f : Option ρ} {E : zE} {D : zD} {A : Nat → Prop} {Q : State → Prop} {nL : Nat} {κ : zC} {g : zG} {pc : Nat} {lv : List (Nat × Value)} {st : List Value} {cc : ByteArray} {ret : Option FieldType} (F : zF E D A cc "TypeChainModel" nL ret) {a : Nat} (ht : κ.2.1 a = some (.inr 10)) (hd : decode cc pc = .ok (.getfield 148, 3)) (kk : zSim K f (zAt E D A Q nL κ g (pc + 3) lv (.int (g.1 a 44) :: st))) : zSim K f (zAt E D A Q nL κ g pc lv (.ref a :: st)) := z_get F (r := (RX10, TX10, 61)) (k := 44) ht rfl inZ10 (by decide) q_932 (fun _ => rfl) hd kk
theorem pf_X10_148 {ρ : Type} {K : ρ → Prop} {f : Option ρ} {E : zE} {D : zD} {A : Nat → Prop} {Q : State → Prop} {nL : Nat} {κ : zC} {g : zG} {pc : Nat} {lv : List (Nat × Value)} {st : List Value} {cc : ByteArray} {ret : Option FieldType} (F : zF E D A cc "TypeChainModel" nL ret) {a : Nat} (ht : κ.2.1 a = some (.inr 10)) {x : Int32} (hz : x = 0 ∨ x = 1) (hd : decode cc pc = .ok (.putfield 148, 3)) (kk : zSim K f (zAt E D A Q nL κ (zsi g a 44 x) (pc + 3) lv st)) : zSim K f (zAt E D A Q nL κ g pc lv (.int x :: .ref a :: st)) := z_put0 F (r := (RX10, TX10, 61)) (k := 44) ht rfl inZ10 tyX10_ok nmX10 (by decide) q_932 rfl (znar01 hz) (zfit01 hz) (zOne_i g a 44 x) (congrArg Value.int (zu_same g.1 a 44 x)) (fun h => h.si _ _ _) hd kk
theorem gf_X10_154 {ρ : Type} {K : ρ → Prop} {f : Option ρ} {E : zE} {D : zD} {A : Nat → Prop} {Q : State → Prop} {nL : Nat} {κ : zC} {g : zG} {pc : Nat} {lv : List (Nat × Value)} {st : List Value} {cc : ByteArray} {ret : Option FieldType} (F : zF E D A cc "TypeChainModel" nL ret) {a : Nat} (ht : κ.2.1 a = some (.inr 10)) (hd : decode cc pc = .ok (.getfield 154, 3)) (kk : zSim K f (zAt E D A Q nL κ g (pc + 3) lv (.int (g.1 a 36) :: st))) : zSim K f (zAt E D A Q nL κ g pc lv (.ref a :: st)) := z_get F (r := (RX10, TX10, 61)) (k := 36) ht rfl inZ10 (by decide) q_924 (fun _ => rfl) hd kk
theorem pf_X10_154 {ρ : Type} {K : ρ → Prop} {f : Option ρ} {E : zE} {D : zD} {A : Nat → Prop} {Q : State → Prop} {nL : Nat} {κ : zC} {g : zG} {pc : Nat} {lv : List (Nat × Value)} {st : List Value} {cc : ByteArray} {ret : Option FieldType} (F : zF E D A cc "TypeChainModel" nL ret) {a : Nat} (ht : κ.2.1 a = some (.inr 10)) {x : Int32} (hd : decode cc pc = .ok (.putfield 154, 3)) (kk : zSim K f (zAt E D A Q nL κ (zsi g a 36 x) (pc + 3) lv st)) : zSim K f (zAt E D A Q nL κ g pc lv (.int x :: .ref a :: st)) := z_put0 F (r := (RX10, TX10, 61)) (k := 36) ht rfl inZ10 tyX10_ok nmX10 (by decide) q_924 rfl rfl rfl (zOne_i g a 36 x) (congrArg Value.int (zu_same g.1 a 36 x)) (fun h => h.si _ _ _) hd kk
theorem gf_X10_160 {ρ : Type} {K : ρ → Prop} {f : Option ρ} {E : zE} {D : zD} {A : Nat → Prop} {Q : State → Prop} {nL : Nat} {κ : zC} {g : zG} {pc : Nat} {lv : List (Nat × Value)} {st : List Value} {cc : ByteArray} {ret : Option FieldType} (F : zF E D A cc "TypeChainModel" nL ret) {a : Nat} (ht : κ.2.1 a = some (.inr 10)) (hd : decode cc pc = .ok (.getfield 160, 3)) (kk : zSim K f (zAt E D A Q nL κ g (pc + 3) lv (.int (g.1 a 27) :: st))) : zSim K f (zAt E D A Q nL κ g pc lv (.ref a :: st)) := z_get F (r := (RX10, TX10, 61)) (k := 27) ht rfl inZ10 (by decide) q_915 (fun _ => rfl) hd kk
theorem pf_X10_160 {ρ : Type} {K : ρ → Prop} {f : Option ρ} {E : zE} {D : zD} {A : Nat → Prop} {Q : State → Prop} {nL : Nat} {κ : zC} {g : zG} {pc : Nat} {lv : List (Nat × Value)} {st : List Value} {cc : ByteArray} {ret : Option FieldType} (F : zF E D A cc "TypeChainModel" nL ret) {a : Nat} (ht : κ.2.1 a = some (.inr 10)) {x : Int32} (hd : decode cc pc = .ok (.putfield 160, 3)) (kk : zSim K f (zAt E D A Q nL κ (zsi g a 27 x) (pc + 3) lv st)) : zSim K f (zAt E D A Q nL κ g pc lv (.int x :: .ref a :: st)) := z_put0 F (r := (RX10, TX10, 61)) (k := 27) ht rfl inZ10 tyX10_ok nmX10 (by decide) q_915 rfl rfl rfl (zOne_i g a 27 x) (congrArg Value.int (zu_same g.1 a 27 x)) (fun h => h.si _ _ _) hd kk
theorem gf_X10_169 {ρ : Type} {K : ρ → Prop} {f : Option ρ} {E : zE} {D : zD} {A : Nat → Prop} {Q : State → Prop} {nL : Nat} {κ : zC} {g : zG} {pc : Nat} {lv : List (Nat × Value)} {st : List Value} {cc : ByteArray} {ret : Option FieldType} (F : zF E D A cc "TypeChainModel" nL ret) {a : Nat} (ht : κ.2.1 a = some (.inr 10)) (hd : decode cc pc = .ok (.getfield 169, 3)) (kk : zSim K f (zAt E D A Q nL κ g (pc + 3) lv (.int (g.1 a 32) :: st))) : zSim K f (zAt E D A Q nL κ g pc lv (.ref a :: st)) := z_get F (r := (RX10, TX10, 61)) (k := 32) ht rfl inZ10 (by decide) q_920 (fun _ => rfl) hd kk
theorem pf_X10_169 {ρ : Type} {K : ρ → Prop} {f : Option ρ} {E : zE} {D : zD} {A : Nat → Prop} {Q : State → Prop} {nL : Nat} {κ : zC} {g : zG} {pc : Nat} {lv : List (Nat × Value)} {st : List Value} {cc : ByteArray} {ret : Option FieldType} (F : zF E D A cc "TypeChainModel" nL ret) {a : Nat} (ht : κ.2.1 a = some (.inr 10)) {x : Int32} (hd : decode cc pc = .ok (.putfield 169, 3)) (kk : zSim K f (zAt E D A Q nL κ (zsi g a 32 x) (pc + 3) lv st)) : zSim K f (zAt E D A Q nL κ g pc lv (.int x :: .ref a :: st)) := z_put0 F (r := (RX10, TX10, 61)) (k := 32) ht rfl inZ10 tyX10_ok nmX10 (by decide) q_920 rfl rfl rfl (zOne_i g a 32 x) (congrArg Value.int (zu_same g.1 a 32 x)) (fun h => h.si _ _ _) hd kk
theorem gf_X10_172 {ρ : Type} {K : ρ → Prop} {f : Option ρ} {E : zE} {D : zD} {A : Nat → Prop} {Q : State → Prop} {nL : Nat} {κ : zC} {g : zG} {pc : Nat} {lv : List (Nat × Value)} {st : List Value} {cc : ByteArray} {ret : Option FieldType} (F : zF E D A cc "TypeChainModel" nL ret) {a : Nat} (ht : κ.2.1 a = some (.inr 10)) (hd : decode cc pc = .ok (.getfield 172, 3)) (kk : zSim K f (zAt E D A Q nL κ g (pc + 3) lv (.int (g.1 a 29) :: st))) : zSim K f (zAt E D A Q nL κ g pc lv (.ref a :: st)) := z_get F (r := (RX10, TX10, 61)) (k := 29) ht rfl inZ10 (by decide) q_917 (fun _ => rfl) hd kk
theorem pf_X10_172 {ρ : Type} {K : ρ → Prop} {f : Option ρ} {E : zE} {D : zD} {A : Nat → Prop} {Q : State → Prop} {nL : Nat} {κ : zC} {g : zG} {pc : Nat} {lv : List (Nat × Value)} {st : List Value} {cc : ByteArray} {ret : Option FieldType} (F : zF E D A cc "TypeChainModel" nL ret) {a : Nat} (ht : κ.2.1 a = some (.inr 10)) {x : Int32} (hd : decode cc pc = .ok (.putfield 172, 3)) (kk : zSim K f (zAt E D A Q nL κ (zsi g a 29 x) (pc + 3) lv st)) : zSim K f (zAt E D A Q nL κ g pc lv (.int x :: .ref a :: st)) := z_put0 F (r := (RX10, TX10, 61)) (k := 29) ht rfl inZ10 tyX10_ok nmX10 (by decide) q_917 rfl rfl rfl (zOne_i g a 29 x) (congrArg Value.int (zu_same g.1 a 29 x)) (fun h => h.si _ _ _) hd kk
theorem gf_X10_175 {ρ : Type} {K : ρ → Prop} {f : Option ρ} {E : zE} {D : zD} {A : Nat → Prop} {Q : State → Prop} {nL : Nat} {κ : zC} {g : zG} {pc : Nat} {lv : List (Nat × Value)} {st : List Value} {cc : ByteArray} {ret : Option FieldType} (F : zF E D A cc "TypeChainModel" nL ret) {a : Nat} (ht : κ.2.1 a = some (.inr 10)) (hd : decode cc pc = .ok (.getfield 175, 3)) (kk : zSim K f (zAt E D A Q nL κ g (pc + 3) lv (.int (g.1 a 33) :: st))) : zSim K f (zAt E D A Q nL κ g pc lv (.ref a :: st)) := z_get F (r := (RX10, TX10, 61)) (k := 33) ht rfl inZ10 (by decide) q_921 (fun _ => rfl) hd kk
theorem pf_X10_175 {ρ : Type} {K : ρ → Prop} {f : Option ρ} {E : zE} {D : zD} {A : Nat → Prop} {Q : State → Prop} {nL : Nat} {κ : zC} {g : zG} {pc : Nat} {lv : List (Nat × Value)} {st : List Value} {cc : ByteArray} {ret : Option FieldType} (F : zF E D A cc "TypeChainModel" nL ret) {a : Nat} (ht : κ.2.1 a = some (.inr 10)) {x : Int32} (hd : decode cc pc = .ok (.putfield 175, 3)) (kk : zSim K f (zAt E D A Q nL κ (zsi g a 33 x) (pc + 3) lv st)) : zSim K f (zAt E D A Q nL κ g pc lv (.int x :: .ref a :: st)) := z_put0 F (r := (RX10, TX10, 61)) (k := 33) ht rfl inZ10 tyX10_ok nmX10 (by decide) q_921 rfl rfl rfl (zOne_i g a 33 x) (congrArg Value.int (zu_same g.1 a 33 x)) (fun h => h.si _ _ _) hd kk
theorem gf_X10_178 {ρ : Type} {K : ρ → Prop} {f : Option ρ} {E : zE} {D : zD} {A : Nat → Prop} {Q : State → Prop} {nL : Nat} {κ : zC} {g : zG} {pc : Nat} {lv : List (Nat × Value)} {st : List Value} {cc : ByteArray} {ret : Option FieldType} (F : zF E D A cc "TypeChainModel" nL ret) {a : Nat} (ht : κ.2.1 a = some (.inr 10)) (hd : decode cc pc = .ok (.getfield 178, 3)) (kk : zSim K f (zAt E D A Q nL κ g (pc + 3) lv (.int (g.1 a 28) :: st))) : zSim K f (zAt E D A Q nL κ g pc lv (.ref a :: st)) := z_get F (r := (RX10, TX10, 61)) (k := 28) ht rfl inZ10 (by decide) q_916 (fun _ => rfl) hd kk
theorem pf_X10_178 {ρ : Type} {K : ρ → Prop} {f : Option ρ} {E : zE} {D : zD} {A : Nat → Prop} {Q : State → Prop} {nL : Nat} {κ : zC} {g : zG} {pc : Nat} {lv : List (Nat × Value)} {st : List Value} {cc : ByteArray} {ret : Option FieldType} (F : zF E D A cc "TypeChainModel" nL ret) {a : Nat} (ht : κ.2.1 a = some (.inr 10)) {x : Int32} (hd : decode cc pc = .ok (.putfield 178, 3)) (kk : zSim K f (zAt E D A Q nL κ (zsi g a 28 x) (pc + 3) lv st)) : zSim K f (zAt E D A Q nL κ g pc lv (.int x :: .ref a :: st)) := z_put0 F (r := (RX10, TX10, 61)) (k := 28) ht rfl inZ10 tyX10_ok nmX10 (by decide) q_916 rfl rfl rfl (zOne_i g a 28 x) (congrArg Value.int (zu_same g.1 a 28 x)) (fun h => h.si _ _ _) hd kk
theorem gf_X10_193 {ρ : Type} {K : ρ → Prop} {f : Option ρ} {E : zE} {D : zD} {A : Nat → Prop} {Q : State → Prop} {nL : Nat} {κ : zC} {g : zG} {pc : Nat} {lv : List (Nat × Value)} {st : List Value} {cc : ByteArray} {ret : Option FieldType} (F : zF E D A cc "TypeChainModel" nL ret) {a : Nat} (ht : κ.2.1 a = some (.inr 10)) (hd : decode cc pc = .ok (.getfield 193, 3)) (kk : zSim K f (zAt E D A Q nL κ g (pc + 3) lv (.int (g.1 a 30) :: st))) : zSim K f (zAt E D A Q nL κ g pc lv (.ref a :: st)) := z_get F (r := (RX10, TX10, 61)) (k := 30) ht rfl inZ10 (by decide) q_918 (fun _ => rfl) hd kk
theorem pf_X10_193 {ρ : Type} {K : ρ → Prop} {f : Option ρ} {E : zE} {D : zD} {A : Nat → Prop} {Q : State → Prop} {nL : Nat} {κ : zC} {g : zG} {pc : Nat} {lv : List (Nat × Value)} {st : List Value} {cc : ByteArray} {ret : Option FieldType} (F : zF E D A cc "TypeChainModel" nL ret) {a : Nat} (ht : κ.2.1 a = some (.inr 10)) {x : Int32} (hd : decode cc pc = .ok (.putfield 193, 3)) (kk : zSim K f (zAt E D A Q nL κ (zsi g a 30 x) (pc + 3) lv st)) : zSim K f (zAt E D A Q nL κ g pc lv (.int x :: .ref a :: st)) := z_put0 F (r := (RX10, TX10, 61)) (k := 30) ht rfl inZ10 tyX10_ok nmX10 (by decide) q_918 rfl rfl rfl (zOne_i g a 30 x) (congrArg Value.int (zu_same g.1 a 30 x)) (fun h => h.si _ _ _) hd kk
theorem gf_X10_204 {ρ : Type} {K : ρ → Prop} {f : Option ρ} {E : zE} {D : zD} {A : Nat → Prop} {Q : State → Prop} {nL : Nat} {κ : zC} {g : zG} {pc : Nat} {lv : List (Nat × Value)} {st : List Value} {cc : ByteArray} {ret : Option FieldType} (F : zF E D A cc "TypeChainModel" nL ret) {a : Nat} (ht : κ.2.1 a = some (.inr 10)) (hd : decode cc pc = .ok (.getfield 204, 3)) (kk : zSim K f (zAt E D A Q nL κ g (pc + 3) lv (.int (g.1 a 31) :: st))) : zSim K f (zAt E D A Q nL κ g pc lv (.ref a :: st)) := z_get F (r := (RX10, TX10, 61)) (k := 31) ht rfl inZ10 (by decide) q_919 (fun _ => rfl) hd kk
theorem pf_X10_204 {ρ : Type} {K : ρ → Prop} {f : Option ρ} {E : zE} {D : zD} {A : Nat → Prop} {Q : State → Prop} {nL : Nat} {κ : zC} {g : zG} {pc : Nat} {lv : List (Nat × Value)} {st : List Value} {cc : ByteArray} {ret : Option FieldType} (F : zF E D A cc "TypeChainModel" nL ret) {a : Nat} (ht : κ.2.1 a = some (.inr 10)) {x : Int32} (hd : decode cc pc = .ok (.putfield 204, 3)) (kk : zSim K f (zAt E D A Q nL κ (zsi g a 31 x) (pc + 3) lv st)) : zSim K f (zAt E D A Q nL κ g pc lv (.int x :: .ref a :: st)) := z_put0 F (r := (RX10, TX10, 61)) (k := 31) ht rfl inZ10 tyX10_ok nmX10 (by decide) q_919 rfl rfl rfl (zOne_i g a 31 x) (congrArg Value.int (zu_same g.1 a 31 x)) (fun h => h.si _ _ _) hd kk
theorem gf_X10_279 {ρ : Type} {K : ρ → Prop} {f : Option ρ} {E : zE} {D : zD} {A : Nat → Prop} {Q : State → Prop} {nL : Nat} {κ : zC} {g : zG} {pc : Nat} {lv : List (Nat × Value)} {st : List Value} {cc : ByteArray} {ret : Option FieldType} (F : zF E D A cc "TypeChainModel" nL ret) {a : Nat} (ht : κ.2.1 a = some (.inr 10)) (hd : decode cc pc = .ok (.getfield 279, 3)) (kk : zSim K f (zAt E D A Q nL κ g (pc + 3) lv (.int (g.1 a 34) :: st))) : zSim K f (zAt E D A Q nL κ g pc lv (.ref a :: st)) := z_get F (r := (RX10, TX10, 61)) (k := 34) ht rfl inZ10 (by decide) q_922 (fun _ => rfl) hd kk
theorem pf_X10_279 {ρ : Type} {K : ρ → Prop} {f : Option ρ} {E : zE} {D : zD} {A : Nat → Prop} {Q : State → Prop} {nL : Nat} {κ : zC} {g : zG} {pc : Nat} {lv : List (Nat × Value)} {st : List Value} {cc : ByteArray} {ret : Option FieldType} (F : zF E D A cc "TypeChainModel" nL ret) {a : Nat} (ht : κ.2.1 a = some (.inr 10)) {x : Int32} (hd : decode cc pc = .ok (.putfield 279, 3)) (kk : zSim K f (zAt E D A Q nL κ (zsi g a 34 x) (pc + 3) lv st)) : zSim K f (zAt E D A Q nL κ g pc lv (.int x :: .ref a :: st)) := z_put0 F (r := (RX10, TX10, 61)) (k := 34) ht rfl inZ10 tyX10_ok nmX10 (by decide) q_922 rfl rfl rfl (zOne_i g a 34 x) (congrArg Value.int (zu_same g.1 a 34 x)) (fun h => h.si _ _ _) hd kk
theorem gf_X10_282 {ρ : Type} {K : ρ → Prop} {f : Option ρ} {E : zE} {D : zD} {A : Nat → Prop} {Q : State → Prop} {nL : Nat} {κ : zC} {g : zG} {pc : Nat} {lv : List (Nat × Value)} {st : List Value} {cc : ByteArray} {ret : Option FieldType} (F : zF E D A cc "TypeChainModel" nL ret) {a : Nat} (ht : κ.2.1 a = some (.inr 10)) (hd : decode cc pc = .ok (.getfield 282, 3)) (kk : zSim K f (zAt E D A Q nL κ g (pc + 3) lv (.int (g.1 a 35) :: st))) : zSim K f (zAt E D A Q nL κ g pc lv (.ref a :: st)) := z_get F (r := (RX10, TX10, 61)) (k := 35) ht rfl inZ10 (by decide) q_923 (fun _ => rfl) hd kk
theorem pf_X10_282 {ρ : Type} {K : ρ → Prop} {f : Option ρ} {E : zE} {D : zD} {A : Nat → Prop} {Q : State → Prop} {nL : Nat} {κ : zC} {g : zG} {pc : Nat} {lv : List (Nat × Value)} {st : List Value} {cc : ByteArray} {ret : Option FieldType} (F : zF E D A cc "TypeChainModel" nL ret) {a : Nat} (ht : κ.2.1 a = some (.inr 10)) {x : Int32} (hd : decode cc pc = .ok (.putfield 282, 3)) (kk : zSim K f (zAt E D A Q nL κ (zsi g a 35 x) (pc + 3) lv st)) : zSim K f (zAt E D A Q nL κ g pc lv (.int x :: .ref a :: st)) := z_put0 F (r := (RX10, TX10, 61)) (k := 35) ht rfl inZ10 tyX10_ok nmX10 (by decide) q_923 rfl rfl rfl (zOne_i g a 35 x) (congrArg Value.int (zu_same g.1 a 35 x)) (fun h => h.si _ _ _) hd kk
theorem gf_X10_285 {ρ : Type} {K : ρ → Prop} {f : Option ρ} {E : zE} {D : zD} {A : Nat → Prop} {Q : State → Prop} {nL : Nat} {κ : zC} {g : zG} {pc : Nat} {lv : List (Nat × Value)} {st : List Value} {cc : ByteArray} {ret : Option FieldType} (F : zF E D A cc "TypeChainModel" nL ret) {a : Nat} (ht : κ.2.1 a = some (.inr 10)) (hd : decode cc pc = .ok (.getfield 285, 3)) (kk : zSim K f (zAt E D A Q nL κ g (pc + 3) lv (.int (g.1 a 43) :: st))) : zSim K f (zAt E D A Q nL κ g pc lv (.ref a :: st)) := z_get F (r := (RX10, TX10, 61)) (k := 43) ht rfl inZ10 (by decide) q_931 (fun _ => rfl) hd kk
theorem pf_X10_285 {ρ : Type} {K : ρ → Prop} {f : Option ρ} {E : zE} {D : zD} {A : Nat → Prop} {Q : State → Prop} {nL : Nat} {κ : zC} {g : zG} {pc : Nat} {lv : List (Nat × Value)} {st : List Value} {cc : ByteArray} {ret : Option FieldType} (F : zF E D A cc "TypeChainModel" nL ret) {a : Nat} (ht : κ.2.1 a = some (.inr 10)) {x : Int32} (hd : decode cc pc = .ok (.putfield 285, 3)) (kk : zSim K f (zAt E D A Q nL κ (zsi g a 43 x) (pc + 3) lv st)) : zSim K f (zAt E D A Q nL κ g pc lv (.int x :: .ref a :: st)) := z_put0 F (r := (RX10, TX10, 61)) (k := 43) ht rfl inZ10 tyX10_ok nmX10 (by decide) q_931 rfl rfl rfl (zOne_i g a 43 x) (congrArg Value.int (zu_same g.1 a 43 x)) (fun h => h.si _ _ _) hd kk
theorem gf_X10_297 {ρ : Type} {K : ρ → Prop} {f : Option ρ} {E : zE} {D : zD} {A : Nat → Prop} {Q : State → Prop} {nL : Nat} {κ : zC} {g : zG} {pc : Nat} {lv : List (Nat × Value)} {st : List Value} {cc : ByteArray} {ret : Option FieldType} (F : zF E D A cc "TypeChainModel" nL ret) {a : Nat} (ht : κ.2.1 a = some (.inr 10)) (hd : decode cc pc = .ok (.getfield 297, 3)) (kk : zSim K f (zAt E D A Q nL κ g (pc + 3) lv (.int (g.1 a 45) :: st))) : zSim K f (zAt E D A Q nL κ g pc lv (.ref a :: st)) := z_get F (r := (RX10, TX10, 61)) (k := 45) ht rfl inZ10 (by decide) q_933 (fun _ => rfl) hd kk
theorem pf_X10_297 {ρ : Type} {K : ρ → Prop} {f : Option ρ} {E : zE} {D : zD} {A : Nat → Prop} {Q : State → Prop} {nL : Nat} {κ : zC} {g : zG} {pc : Nat} {lv : List (Nat × Value)} {st : List Value} {cc : ByteArray} {ret : Option FieldType} (F : zF E D A cc "TypeChainModel" nL ret) {a : Nat} (ht : κ.2.1 a = some (.inr 10)) {x : Int32} (hd : decode cc pc = .ok (.putfield 297, 3)) (kk : zSim K f (zAt E D A Q nL κ (zsi g a 45 x) (pc + 3) lv st)) : zSim K f (zAt E D A Q nL κ g pc lv (.int x :: .ref a :: st)) := z_put0 F (r := (RX10, TX10, 61)) (k := 45) ht rfl inZ10 tyX10_ok nmX10 (by decide) q_933 rfl rfl rfl (zOne_i g a 45 x) (congrArg Value.int (zu_same g.1 a 45 x)) (fun h => h.si _ _ _) hd kk
theorem gf_X10_300 {ρ : Type} {K : ρ → Prop} {f : Option ρ} {E : zE} {D : zD} {A : Nat → Prop} {Q : State → Prop} {nL : Nat} {κ : zC} {g : zG} {pc : Nat} {lv : List (Nat × Value)} {st : List Value} {cc : ByteArray} {ret : Option FieldType} (F : zF E D A cc "TypeChainModel" nL ret) {a : Nat} (ht : κ.2.1 a = some (.inr 10)) (hd : decode cc pc = .ok (.getfield 300, 3)) (kk : zSim K f (zAt E D A Q nL κ g (pc + 3) lv (.int (g.1 a 47) :: st))) : zSim K f (zAt E D A Q nL κ g pc lv (.ref a :: st)) := z_get F (r := (RX10, TX10, 61)) (k := 47) ht rfl inZ10 (by decide) q_935 (fun _ => rfl) hd kk
theorem pf_X10_300 {ρ : Type} {K : ρ → Prop} {f : Option ρ} {E : zE} {D : zD} {A : Nat → Prop} {Q : State → Prop} {nL : Nat} {κ : zC} {g : zG} {pc : Nat} {lv : List (Nat × Value)} {st : List Value} {cc : ByteArray} {ret : Option FieldType} (F : zF E D A cc "TypeChainModel" nL ret) {a : Nat} (ht : κ.2.1 a = some (.inr 10)) {x : Int32} (hd : decode cc pc = .ok (.putfield 300, 3)) (kk : zSim K f (zAt E D A Q nL κ (zsi g a 47 x) (pc + 3) lv st)) : zSim K f (zAt E D A Q nL κ g pc lv (.int x :: .ref a :: st)) := z_put0 F (r := (RX10, TX10, 61)) (k := 47) ht rfl inZ10 tyX10_ok nmX10 (by decide) q_935 rfl rfl rfl (zOne_i g a 47 x) (congrArg Value.int (zu_same g.1 a 47 x)) (fun h => h.si _ _ _) hd kk
theorem gf_X10_303 {ρ : Type} {K : ρ → Prop} {f : Option ρ} {E : zE} {D : zD} {A : Nat → Prop} {Q : State → Prop} {nL : Nat} {κ : zC} {g : zG} {pc : Nat} {lv : List (Nat × Value)} {st : List Value} {cc : ByteArray} {ret : Option FieldType} (F : zF E D A cc "TypeChainModel" nL ret) {a : Nat} (ht : κ.2.1 a = some (.inr 10)) (hd : decode cc pc = .ok (.getfield 303, 3)) (kk : zSim K f (zAt E D A Q nL κ g (pc + 3) lv (.int (g.1 a 46) :: st))) : zSim K f (zAt E D A Q nL κ g pc lv (.ref a :: st)) := z_get F (r := (RX10, TX10, 61)) (k := 46) ht rfl inZ10 (by decide) q_934 (fun _ => rfl) hd kk
theorem pf_X10_303 {ρ : Type} {K : ρ → Prop} {f : Option ρ} {E : zE} {D : zD} {A : Nat → Prop} {Q : State → Prop} {nL : Nat} {κ : zC} {g : zG} {pc : Nat} {lv : List (Nat × Value)} {st : List Value} {cc : ByteArray} {ret : Option FieldType} (F : zF E D A cc "TypeChainModel" nL ret) {a : Nat} (ht : κ.2.1 a = some (.inr 10)) {x : Int32} (hd : decode cc pc = .ok (.putfield 303, 3)) (kk : zSim K f (zAt E D A Q nL κ (zsi g a 46 x) (pc + 3) lv st)) : zSim K f (zAt E D A Q nL κ g pc lv (.int x :: .ref a :: st)) := z_put0 F (r := (RX10, TX10, 61)) (k := 46) ht rfl inZ10 tyX10_ok nmX10 (by decide) q_934 rfl rfl rfl (zOne_i g a 46 x) (congrArg Value.int (zu_same g.1 a 46 x)) (fun h => h.si _ _ _) hd kk
theorem gf_X10_326 {ρ : Type} {K : ρ → Prop} {f : Option ρ} {E : zE} {D : zD} {A : Nat → Prop} {Q : State → Prop} {nL : Nat} {κ : zC} {g : zG} {pc : Nat} {lv : List (Nat × Value)} {st : List Value} {cc : ByteArray} {ret : Option FieldType} (F : zF E D A cc "TypeChainModel" nL ret) {a : Nat} (ht : κ.2.1 a = some (.inr 10)) (hd : decode cc pc = .ok (.getfield 326, 3)) (kk : zSim K f (zAt E D A Q nL κ g (pc + 3) lv (.int (g.1 a 53) :: st))) : zSim K f (zAt E D A Q nL κ g pc lv (.ref a :: st)) := z_get F (r := (RX10, TX10, 61)) (k := 53) ht rfl inZ10 (by decide) q_941 (fun _ => rfl) hd kk
theorem pf_X10_326 {ρ : Type} {K : ρ → Prop} {f : Option ρ} {E : zE} {D : zD} {A : Nat → Prop} {Q : State → Prop} {nL : Nat} {κ : zC} {g : zG} {pc : Nat} {lv : List (Nat × Value)} {st : List Value} {cc : ByteArray} {ret : Option FieldType} (F : zF E D A cc "TypeChainModel" nL ret) {a : Nat} (ht : κ.2.1 a = some (.inr 10)) {x : Int32} (hd : decode cc pc = .ok (.putfield 326, 3)) (kk : zSim K f (zAt E D A Q nL κ (zsi g a 53 x) (pc + 3) lv st)) : zSim K f (zAt E D A Q nL κ g pc lv (.int x :: .ref a :: st)) := z_put0 F (r := (RX10, TX10, 61)) (k := 53) ht rfl inZ10 tyX10_ok nmX10 (by decide) q_941 rfl rfl rfl (zOne_i g a 53 x) (congrArg Value.int (zu_same g.1 a 53 x)) (fun h => h.si _ _ _) hd kk
theorem gf_X10_329 {ρ : Type} {K : ρ → Prop} {f : Option ρ} {E : zE} {D : zD} {A : Nat → Prop} {Q : State → Prop} {nL : Nat} {κ : zC} {g : zG} {pc : Nat} {lv : List (Nat × Value)} {st : List Value} {cc : ByteArray} {ret : Option FieldType} (F : zF E D A cc "TypeChainModel" nL ret) {a : Nat} (ht : κ.2.1 a = some (.inr 10)) (hd : decode cc pc = .ok (.getfield 329, 3)) (kk : zSim K f (zAt E D A Q nL κ g (pc + 3) lv (.int (g.1 a 54) :: st))) : zSim K f (zAt E D A Q nL κ g pc lv (.ref a :: st)) := z_get F (r := (RX10, TX10, 61)) (k := 54) ht rfl inZ10 (by decide) q_942 (fun _ => rfl) hd kk
theorem pf_X10_329 {ρ : Type} {K : ρ → Prop} {f : Option ρ} {E : zE} {D : zD} {A : Nat → Prop} {Q : State → Prop} {nL : Nat} {κ : zC} {g : zG} {pc : Nat} {lv : List (Nat × Value)} {st : List Value} {cc : ByteArray} {ret : Option FieldType} (F : zF E D A cc "TypeChainModel" nL ret) {a : Nat} (ht : κ.2.1 a = some (.inr 10)) {x : Int32} (hd : decode cc pc = .ok (.putfield 329, 3)) (kk : zSim K f (zAt E D A Q nL κ (zsi g a 54 x) (pc + 3) lv st)) : zSim K f (zAt E D A Q nL κ g pc lv (.int x :: .ref a :: st)) := z_put0 F (r := (RX10, TX10, 61)) (k := 54) ht rfl inZ10 tyX10_ok nmX10 (by decide) q_942 rfl rfl rfl (zOne_i g a 54 x) (congrArg Value.int (zu_same g.1 a 54 x)) (fun h => h.si _ _ _) hd kk
theorem gf_X10_336 {ρ : Type} {K : ρ → Prop} {f : Option ρ} {E : zE} {D : zD} {A : Nat → Prop} {Q : State → Prop} {nL : Nat} {κ : zC} {g : zG} {pc : Nat} {lv : List (Nat × Value)} {st : List Value} {cc : ByteArray} {ret : Option FieldType} (F : zF E D A cc "TypeChainModel" nL ret) {a : Nat} (ht : κ.2.1 a = some (.inr 10)) (hd : decode cc pc = .ok (.getfield 336, 3)) (kk : zSim K f (zAt E D A Q nL κ g (pc + 3) lv (.int (g.1 a 52) :: st))) : zSim K f (zAt E D A Q nL κ g pc lv (.ref a :: st)) := z_get F (r := (RX10, TX10, 61)) (k := 52) ht rfl inZ10 (by decide) q_940 (fun _ => rfl) hd kk
theorem pf_X10_336 {ρ : Type} {K : ρ → Prop} {f : Option ρ} {E : zE} {D : zD} {A : Nat → Prop} {Q : State → Prop} {nL : Nat} {κ : zC} {g : zG} {pc : Nat} {lv : List (Nat × Value)} {st : List Value} {cc : ByteArray} {ret : Option FieldType} (F : zF E D A cc "TypeChainModel" nL ret) {a : Nat} (ht : κ.2.1 a = some (.inr 10)) {x : Int32} (hd : decode cc pc = .ok (.putfield 336, 3)) (kk : zSim K f (zAt E D A Q nL κ (zsi g a 52 x) (pc + 3) lv st)) : zSim K f (zAt E D A Q nL κ g pc lv (.int x :: .ref a :: st)) := z_put0 F (r := (RX10, TX10, 61)) (k := 52) ht rfl inZ10 tyX10_ok nmX10 (by decide) q_940 rfl rfl rfl (zOne_i g a 52 x) (congrArg Value.int (zu_same g.1 a 52 x)) (fun h => h.si _ _ _) hd kk
end
section
-- ===== copying, and the text of the words =====
abbrev zcpok (sp dp n : Int32) (n0 n1 : Nat) : Prop := ¬ sp < 0 ∧ ¬ dp < 0 ∧ ¬ n < 0 ∧ sp.toNatClampNeg + n.toNatClampNeg ≤ n0 ∧ dp.toNatClampNeg + n.toNatClampNeg ≤ n1
def zcp (g : zG) (a : Nat) (f : Nat → Int32) (sp dp n : Int32) : zG := (fun b j => if b = a then va_cpy f (g.1 a) sp.toNatClampNeg dp.toNatClampNeg n.toNatClampNeg j else g.1 b j, g.2)
theorem znn (z : Int32) (hz : ¬ z < 0) : z.toInt = (z.toNatClampNeg : Int) := by
  have hz0 : (0 : Int) ≤ z.toInt := by
    have := Int32.not_lt.mp hz
    simpa using Int32.le_iff_toInt_le.mp this
  show z.toInt = ((z.toInt.toNat : Nat) : Int)
  omega
section ZP
variable {ρ : Type} {K : ρ → Prop} {f f1 f2 : Option ρ} {E : zE} {D : zD} {A : Nat → Prop} {Q : State → Prop} {nL : Nat} {κ : zC} {g : zG} {pc : Nat} {lv lv' : List (Nat × Value)} {st : List Value} {cc : ByteArray} {own : String} {ret : Option FieldType}
theorem z_copy0 (F : zF E D A cc own nL ret) {b0 a n0 n1 index : Nat} {fs : Nat → Int32} {sp dp n : Int32} [dz : Decidable (zcpok sp dp n n0 n1)] (hl : zTbl (.methodLink own index arraycopyName)) (hnat : zTbl (.native arraycopyName)) (hstat : zTbl (.static arraycopyName)) (hini : zTbl (.initialized "java/lang/System"))
    (hX : ∀ (H : Heap) (locs : List Loc), zHeap D κ.2.1 g H → va_S A E.2.2.2.2.1.heap H locs → ∃ scr : Cell, H[b0]? = some scr ∧ E.2.2.2.2.1.isArrayOf scr .int ∧ scr.vm ≠ .unknown ∧ n0 ≤ scr.slots.size ∧ ∀ j : Nat, j < n0 → scr.slots[j]? = some (.int (fs j)))
    (ht : κ.2.1 a = some (.inl (.int, n1))) (hR : 1 ≤ E.2.2.2.1.frames ∧ 26 ≤ E.2.2.2.1.locals) (hW : (st.map fun v => v.category).sum ≤ 8) (hd : decode cc pc = .ok (.invokestatic index, 3)) (kk : zSim K f (zAt E D A Q nL κ (zcp g a fs sp dp n) (pc + 3) lv st)) : zSim K (zc (zcpok sp dp n n0 n1) f) (zAt E D A Q nL κ g pc lv (.int n :: .int dp :: .ref a :: .int sp :: .ref b0 :: st)) := by
  refine z_zc (fun hok => ?_)
  obtain ⟨c1, c2, c3, c4, c5⟩ := hok
  intro x hx hK H locs ls h1 h2 h3 h4 h5 h6
  obtain ⟨scr, hc0, hs2, hs3, hs4, hs5⟩ := hX H locs h2 h5
  have hc1 := h2.1 a _ _ ht
  intro T hT X
  obtain ⟨hs6, k0, hk0, cm0, hkk0⟩ := hs2
  obtain ⟨-, k1, hk1, cm1, hkk1⟩ := (F.u.2.1.2 .int (by decide)).1 n1 (fun j => .int (g.1 a j))
  have e7 : nativeFrameWords "java/lang/System" "arraycopy" 5 = 7 := by decide
  obtain ⟨vm', X', step⟩ := X.arraycopy F.ex F.own (F.w hl) (F.w hnat) (F.w hstat) (F.w hini) (src := b0) (dst := a) (cs := scr) (cd := vp_cell (D.2.2.1 .int) (n1, .inl (g.1 a))) (srcPos := sp) (destPos := dp) (n := n) (by rw [hT]; exact hc0) (by rw [hT]; exact hc1)
    hs6 (fun _ h => by cases h) hs3 (fun h => by cases h) hk0 hk1 hkk0 hkk1 (by simp [refKind]) c1 c2 c3
    (by rw [znn sp c1, znn n c3]; omega)
    (by rw [znn dp c2, znn n c3]; show ¬ _ > ((arrV (D.2.2.1 .int) n1 (fun j => .int (g.1 a j))).slots.size : Int); rw [arrV_size]; omega)
    (fun vm₁ _ i hi => by
      have e : scr.slots.getD (sp.toNatClampNeg + i) .null = .int (fs (sp.toNatClampNeg + i)) := by
        rw [Array.getD_eq_getD_getElem?, hs5 _ (by omega)]
        rfl
      refine ⟨?_, ?_⟩
      · rw [e]; rfl
      · rw [e]
        exact trivial)
    (g := F0 E.2.2.2.2.2.1 pc ls (.int n :: .int dp :: .ref a :: .int sp :: .ref b0 :: st)) rfl (by rw [F.ml, h6.1]) (rest := st) rfl (by rw [F.cd]; exact hd) hR.1 (by show 2 * 0 + _ + _ ≤ _; rw [e7]; omega)
  have e1 : copied scr (vp_cell (D.2.2.1 .int) (n1, .inl (g.1 a))) sp dp n = vp_cell (D.2.2.1 .int) (n1, .inl (va_cpy fs (g.1 a) sp.toNatClampNeg dp.toNatClampNeg n.toNatClampNeg)) := va_copiedX (fun z => .int z) scr (D.2.2.1 .int) fs (g.1 a) hs5 c4
  rw [e1] at X' step
  have hlt : a < H.size := (Array.getElem?_eq_some_iff.mp hc1).1
  have hheap : ((T.setVm vm').setCell a (vp_cell (D.2.2.1 .int) (n1, .inl (va_cpy fs (g.1 a) sp.toNatClampNeg dp.toNatClampNeg n.toNatClampNeg)))).heap = H.setIfInBounds a (vp_cell (D.2.2.1 .int) (n1, .inl (va_cpy fs (g.1 a) sp.toNatClampNeg dp.toNatClampNeg n.toNatClampNeg))) := by rw [← hT]; rfl
  have oq : ∀ q : Nat, q ≠ a → (H.setIfInBounds a (vp_cell (D.2.2.1 .int) (n1, .inl (va_cpy fs (g.1 a) sp.toNatClampNeg dp.toNatClampNeg n.toNatClampNeg))))[q]? = H[q]? := fun q hq => by simp [Array.getElem?_setIfInBounds, Ne.symm hq]
  have hA : A a := h4 a _ ht
  obtain ⟨t, a1, b1⟩ := kk x hx hK _ _ ls (by simp; exact h1) (h2.arr (g' := zcp g a fs sp dp n) (k := 0) ht (fun b j hb => by simp [zcp, hb]) rfl (by
      have e2 : (zcp g a fs sp dp n).1 a = va_cpy fs (g.1 a) sp.toNatClampNeg dp.toNatClampNeg n.toNatClampNeg := by funext j; simp [zcp]
      rw [e2]
      show (H.setIfInBounds a _)[a]? = some _
      simp [Array.getElem?_setIfInBounds, hlt]) oq) h3 h4 ⟨by simp; exact h5.1, fun q g1 g2 => by
      rw [oq q (fun e => g2 (by rw [e]; exact hA))]
      exact h5.2.1 q g1 g2, fun q hq => by
      rcases List.mem_append.mp hq with h | h
      · exact h5.2.2 q h
      · obtain ⟨z, -, hz⟩ := List.mem_map.mp h
        rw [← hz]
        exact hA⟩ h6 _ hheap X'
  exact ⟨t, step t a1, b1⟩
theorem z_copy (F : zF E D A cc own nL ret) {b0 a n0 n1 index : Nat} {sp dp n : Int32} [dz : Decidable (zcpok sp dp n n0 n1)] (hl : zTbl (.methodLink own index arraycopyName)) (hnat : zTbl (.native arraycopyName)) (hstat : zTbl (.static arraycopyName)) (hini : zTbl (.initialized "java/lang/System")) (ht0 : κ.2.1 b0 = some (.inl (.int, n0))) (ht : κ.2.1 a = some (.inl (.int, n1))) (hR : 1 ≤ E.2.2.2.1.frames ∧ 26 ≤ E.2.2.2.1.locals) (hW : (st.map fun v => v.category).sum ≤ 8) (hd : decode cc pc = .ok (.invokestatic index, 3)) (kk : zSim K f (zAt E D A Q nL κ (zcp g a (g.1 b0) sp dp n) (pc + 3) lv st)) : zSim K (zc (zcpok sp dp n n0 n1) f) (zAt E D A Q nL κ g pc lv (.int n :: .int dp :: .ref a :: .int sp :: .ref b0 :: st)) :=
  z_copy0 F hl hnat hstat hini (fun H locs h2 h5 => ⟨_, h2.1 b0 _ _ ht0, (F.u.2.1.2 .int (by decide)).1 n0 (fun j => .int (g.1 b0 j)), (fun q => by cases q), by show _ ≤ (arrV _ _ _).slots.size; rw [arrV_size]; exact Nat.le_refl _, fun j hj => by show (arrV _ _ _).slots[_]? = _; rw [arrV_read _ _ hj]⟩) ht hR hW hd kk
theorem z_copyt (F : zF E D A cc own nL ret) {a n1 index : Nat} {sp dp n : Int32} (k : Nat) (hk : k < 3) [dz : Decidable (zcpok sp dp n (zTabN k) n1)] (hl : zTbl (.methodLink own index arraycopyName)) (hnat : zTbl (.native arraycopyName)) (hstat : zTbl (.static arraycopyName)) (hini : zTbl (.initialized "java/lang/System")) (ht : κ.2.1 a = some (.inl (.int, n1))) (hR : 1 ≤ E.2.2.2.1.frames ∧ 26 ≤ E.2.2.2.1.locals) (hW : (st.map fun v => v.category).sum ≤ 8) (hd : decode cc pc = .ok (.invokestatic index, 3)) (kk : zSim K f (zAt E D A Q nL κ (zcp g a (zTabF k) sp dp n) (pc + 3) lv st)) : zSim K (zc (zcpok sp dp n (zTabN k) n1) f) (zAt E D A Q nL κ g pc lv (.int n :: .int dp :: .ref a :: .int sp :: .ref (D.2.2.2 k) :: st)) :=
  z_copy0 F hl hnat hstat hini (fun H locs h2 h5 => by
    obtain ⟨cell, e1, e2, e3, e4, e5, e6, e7⟩ := ((F.u.2.2.1 k hk).2).kept h5.2.1
    exact ⟨cell, e1, e2, e3, e4, e6⟩) ht hR hW hd kk
theorem z_none {X : Prop} : zSim K none X := fun r hr => by cases hr
theorem z_ldcS (F : zF E D A cc "TypeChain$Reader" nL ret) (hd : decode cc pc = .ok (.ldc 156, 2)) (kk : zSim K f (zAt E D A Q nL κ g (pc + 2) lv (.ref (D.2.2.2 3) :: st))) : zSim K f (zAt E D A Q nL κ g pc lv st) :=
  fun r hr hK H locs ls h1 h2 h3 h4 h5 h6 => va_ldcS F.ex F.cd F.own F.u.2.2.2.2.2.2 hd (kk r hr hK H locs ls h1 h2 h3 h4 h5 h6)
theorem z_creturn {rv : Int32 → Option Value} {mc ms sz : Nat} {τ τ' : zT} {r x : Int32} {g' : zG} {v : ρ} {E : zE} {n cl sl : Nat} (F : zF E D (zA τ sz) cc own nL (some .char)) (hz : narrow .char (.int x) = .int x) (hrv : rv = zrI) (hn : n = sz + mc) (hc : cl = mc) (hs : sl = ms) (hK : K v → (x, g) = (r, g')) (hd : decode cc pc = .ok (.ireturn, 1)) : zSim K (some v) (zAt E D (zA τ sz) (zQ E D rv mc ms sz τ τ' r g') nL (n, τ', cl, sl) g pc lv [.int x]) := by
  intro w hw hk H locs ls h1 h2 h3 h4 h5 h6
  cases hw
  cases hK hk
  subst hrv; subst hn; subst hc; subst hs
  exact W.zret F.ex F.cd F.rt hz (fun t ht _ => ⟨rfl, by rw [ht]; exact h1, by rw [ht]; exact h2, h3, h4, h5.F ht⟩) h5.2.2 hd F.lk
/-- a call on the text of the words -/
theorem z_callT (F : zF E D A cc own nL ret) {y : MethodName} {cb : ByteArray} {maxL : Nat} {rt : Option FieldType} {rm : Room} {n index : Nat} {rv : Int32 → Option Value} {As : List Value} {o : Option (Int32 × zG)} {h : Int32 → zG → Option ρ} (hC : zCall E.2.2.2.1 y cb maxL rt rm 0 0 n) (hM : zCon E.2.1 D y cb maxL rt rm 0 0 rv (.ref (D.2.2.2 3) :: As) κ.1 κ.2.1 g κ.2.1 o) (hl : zTbl (.methodLink own index y)) (hin : zTbl (.instanceMethod y)) (hse : zTbl (.selects "java/lang/String" y y)) (hn : As.length = n) (hc : κ.2.2.1 ≤ E.2.2.2.1.cells ∧ κ.2.2.2 ≤ E.2.2.2.1.slots) (hW : (st.map fun v => v.category).sum ≤ 8) (hd : decode cc pc = .ok (.invokevirtual index, 3))
    (kk : ∀ r g', zSim K (h r g') (zAt E D A Q nL κ g' (pc + 3) lv ((rv r).toList ++ st))) (st0 : List Value) (hst : st0 = As.reverse ++ .ref (D.2.2.2 3) :: st) : zSim K (zb o h) (zAt E D A Q nL κ g pc lv st0) := by
  intro w hw hK H locs ls h1 h2 h3 h4 h5 h6
  subst hst
  cases ho : o with
  | none => rw [ho] at hw; cases hw
  | some q =>
    obtain ⟨x, g1⟩ := q
    rw [ho] at hw
    have hM2 := hM x g1 ho
    rw [← h1] at hM2
    refine z_after (o := o) (h := h) (w := w) F h1 h4 h5 h6 (va_runV (Ts := []) (As := As) (rest := st) ⟨F.ex, F.cd, F.ml, F.own, fun w hw => by cases hw⟩ hM2 ⟨hC.B F hl, F.w hin, F.w hse⟩ ⟨zP_blind, vk_recv F.u.2.2.2.2.2.1 (i := 0) (by decide) h5, zP_at F h2 h3 h4 h5⟩ rfl hn h6.1 rfl (lv_room hW) hd hc) (kk x g1 w hw hK)
end ZP
-- Preconditions.checkIndex
theorem dJ3_checkIndex_8e157_0 : decode cJ3_checkIndex_8e157 0 = .ok (.iload_n 0, 1) := by decide +kernel
theorem dJ3_checkIndex_8e157_1 : decode cJ3_checkIndex_8e157 1 = .ok (.ifCond .lt 8, 3) := by decide +kernel
theorem dJ3_checkIndex_8e157_4 : decode cJ3_checkIndex_8e157 4 = .ok (.iload_n 0, 1) := by decide +kernel
theorem dJ3_checkIndex_8e157_5 : decode cJ3_checkIndex_8e157 5 = .ok (.iload_n 1, 1) := by decide +kernel
theorem dJ3_checkIndex_8e157_6 : decode cJ3_checkIndex_8e157 6 = .ok (.if_icmp .lt 10, 3) := by decide +kernel
theorem dJ3_checkIndex_8e157_9 : decode cJ3_checkIndex_8e157 9 = .ok (.aload_n 2, 1) := by decide +kernel
theorem dJ3_checkIndex_8e157_10 : decode cJ3_checkIndex_8e157 10 = .ok (.iload_n 0, 1) := by decide +kernel
theorem dJ3_checkIndex_8e157_11 : decode cJ3_checkIndex_8e157 11 = .ok (.iload_n 1, 1) := by decide +kernel
theorem dJ3_checkIndex_8e157_12 : decode cJ3_checkIndex_8e157 12 = .ok (.invokestatic 95, 3) := by decide +kernel
theorem dJ3_checkIndex_8e157_15 : decode cJ3_checkIndex_8e157 15 = .ok (.athrow, 1) := by decide +kernel
theorem dJ3_checkIndex_8e157_16 : decode cJ3_checkIndex_8e157 16 = .ok (.iload_n 0, 1) := by decide +kernel
theorem dJ3_checkIndex_8e157_17 : decode cJ3_checkIndex_8e157 17 = .ok (.ireturn, 1) := by decide +kernel
theorem dJ0_checkIndex_df160_0 : decode cJ0_checkIndex_df160 0 = .ok (.iload_n 0, 1) := by decide +kernel
theorem dJ0_checkIndex_df160_1 : decode cJ0_checkIndex_df160 1 = .ok (.iload_n 1, 1) := by decide +kernel
theorem dJ0_checkIndex_df160_2 : decode cJ0_checkIndex_df160 2 = .ok (.getstatic 1053, 3) := by decide +kernel
theorem dJ0_checkIndex_df160_5 : decode cJ0_checkIndex_df160 5 = .ok (.invokestatic 1059, 3) := by decide +kernel
theorem dJ0_checkIndex_df160_8 : decode cJ0_checkIndex_df160 8 = .ok (.pop, 1) := by decide +kernel
theorem dJ0_checkIndex_df160_9 : decode cJ0_checkIndex_df160 9 = .ok (.return_, 1) := by decide +kernel
theorem dJ1_charAt_3b067_0 : decode cJ1_charAt_3b067 0 = .ok (.iload_n 1, 1) := by decide +kernel
theorem dJ1_charAt_3b067_1 : decode cJ1_charAt_3b067 1 = .ok (.aload_n 0, 1) := by decide +kernel
theorem dJ1_charAt_3b067_2 : decode cJ1_charAt_3b067 2 = .ok (.arraylength, 1) := by decide +kernel
theorem dJ1_charAt_3b067_3 : decode cJ1_charAt_3b067 3 = .ok (.invokestatic 9, 3) := by decide +kernel
theorem dJ1_charAt_3b067_6 : decode cJ1_charAt_3b067 6 = .ok (.aload_n 0, 1) := by decide +kernel
theorem dJ1_charAt_3b067_7 : decode cJ1_charAt_3b067 7 = .ok (.iload_n 1, 1) := by decide +kernel
theorem dJ1_charAt_3b067_8 : decode cJ1_charAt_3b067 8 = .ok (.baload, 1) := by decide +kernel
theorem dJ1_charAt_3b067_9 : decode cJ1_charAt_3b067 9 = .ok (.sipush 255, 3) := by decide +kernel
theorem dJ1_charAt_3b067_12 : decode cJ1_charAt_3b067 12 = .ok (.iand, 1) := by decide +kernel
theorem dJ1_charAt_3b067_13 : decode cJ1_charAt_3b067 13 = .ok (.i2c, 1) := by decide +kernel
theorem dJ1_charAt_3b067_14 : decode cJ1_charAt_3b067 14 = .ok (.ireturn, 1) := by decide +kernel
theorem dJ0_isLatin1_aae02_0 : decode cJ0_isLatin1_aae02 0 = .ok (.getstatic 38, 3) := by decide +kernel
theorem dJ0_isLatin1_aae02_3 : decode cJ0_isLatin1_aae02 3 = .ok (.ifCond .eq 14, 3) := by decide +kernel
theorem dJ0_isLatin1_aae02_6 : decode cJ0_isLatin1_aae02 6 = .ok (.aload_n 0, 1) := by decide +kernel
theorem dJ0_isLatin1_aae02_7 : decode cJ0_isLatin1_aae02 7 = .ok (.getfield 15, 3) := by decide +kernel
theorem dJ0_isLatin1_aae02_10 : decode cJ0_isLatin1_aae02 10 = .ok (.ifCond .ne 7, 3) := by decide +kernel
theorem dJ0_isLatin1_aae02_13 : decode cJ0_isLatin1_aae02 13 = .ok (.iconst 1, 1) := by decide +kernel
theorem dJ0_isLatin1_aae02_14 : decode cJ0_isLatin1_aae02 14 = .ok (.goto 4, 3) := by decide +kernel
theorem dJ0_isLatin1_aae02_17 : decode cJ0_isLatin1_aae02 17 = .ok (.iconst 0, 1) := by decide +kernel
theorem dJ0_isLatin1_aae02_18 : decode cJ0_isLatin1_aae02 18 = .ok (.ireturn, 1) := by decide +kernel
theorem dJ0_charAt_5068e_0 : decode cJ0_charAt_5068e 0 = .ok (.aload_n 0, 1) := by decide +kernel
theorem dJ0_charAt_5068e_1 : decode cJ0_charAt_5068e 1 = .ok (.invokevirtual 492, 3) := by decide +kernel
theorem dJ0_charAt_5068e_4 : decode cJ0_charAt_5068e 4 = .ok (.ifCond .eq 12, 3) := by decide +kernel
theorem dJ0_charAt_5068e_7 : decode cJ0_charAt_5068e 7 = .ok (.aload_n 0, 1) := by decide +kernel
theorem dJ0_charAt_5068e_8 : decode cJ0_charAt_5068e 8 = .ok (.getfield 9, 3) := by decide +kernel
theorem dJ0_charAt_5068e_11 : decode cJ0_charAt_5068e 11 = .ok (.iload_n 1, 1) := by decide +kernel
theorem dJ0_charAt_5068e_12 : decode cJ0_charAt_5068e 12 = .ok (.invokestatic 495, 3) := by decide +kernel
theorem dJ0_charAt_5068e_15 : decode cJ0_charAt_5068e 15 = .ok (.ireturn, 1) := by decide +kernel
theorem dJ0_charAt_5068e_16 : decode cJ0_charAt_5068e 16 = .ok (.aload_n 0, 1) := by decide +kernel
theorem dJ0_charAt_5068e_17 : decode cJ0_charAt_5068e 17 = .ok (.getfield 9, 3) := by decide +kernel
theorem dJ0_charAt_5068e_20 : decode cJ0_charAt_5068e 20 = .ok (.iload_n 1, 1) := by decide +kernel
theorem dJ0_charAt_5068e_21 : decode cJ0_charAt_5068e 21 = .ok (.invokestatic 498, 3) := by decide +kernel
theorem dJ0_charAt_5068e_24 : decode cJ0_charAt_5068e 24 = .ok (.ireturn, 1) := by decide +kernel
def f_J3 (x1 x2 : Int32) (g : zG) : Option (Int32 × zG) := if x1 < 0 then none else if x1 < x2 then some (x1, g) else none
set_option maxRecDepth 100000 in
theorem c_J3 (l : Launch) (D : zD) (sz : Nat) (τ : zT) (g : zG) (x1 x2 : Int32) (v : Value) (hv : v.category = 1) : zCon l D yJ3_checkIndex_8e157 cJ3_checkIndex_8e157 3 (some .int) { frames := 0, cells := 0, slots := 0, locals := 0 } 0 0 zrI [.int x1, .int x2, v] sz τ g τ (f_J3 x1 x2 g) := by
  refine zCon.of (by decide) (by
    have e : lg_sl [Value.int x1, Value.int x2, v] = [.val (.int x1), .val (.int x2)] ++ (if v.category = 2 then [.val v, .second] else [.val v]) := by simp [lg_sl, List.flatMap]; rfl
    rw [e, if_neg (by rw [hv]; decide)]; exact Nat.le_refl 3) (fun E r g' hl hR hsz hnm F => ?_)
  have F : zF E D (zA τ sz) cJ3_checkIndex_8e157 "jdk/internal/util/Preconditions" 3 (some .int) := F
  show zSim (fun q : Int32 × zG => q = (r, g')) (f_J3 x1 x2 g) (zAt E D (zA τ sz) (zQ E D zrI 0 0 sz τ τ r g') 3 (sz, τ, 0, 0) g 0 [(0, .int x1), (1, .int x2), (2, v)] [])
  unfold f_J3
  refine z_iload_n F 0 rfl rfl dJ3_checkIndex_8e157_0 ?_
  refine z_if_lt (tgt := 9) F dJ3_checkIndex_8e157_1 (by decide) (fun c1 => z_none) (fun c1 => ?_)
  refine z_iload_n F 0 rfl rfl dJ3_checkIndex_8e157_4 ?_
  refine z_iload_n F 1 rfl rfl dJ3_checkIndex_8e157_5 ?_
  refine z_icmp_lt (tgt := 16) F dJ3_checkIndex_8e157_6 (by decide) (fun c1 => ?_) (fun c1 => z_none)
  refine z_iload_n F 0 rfl rfl dJ3_checkIndex_8e157_16 ?_
  exact z_ireturn F rfl rfl rfl rfl (fun h => h) dJ3_checkIndex_8e157_17
def f_J0c (x1 x2 : Int32) (g : zG) : Option (Int32 × zG) := zb (f_J3 x1 x2 g) (fun _ g1 => some (0, g1))
set_option maxRecDepth 100000 in
theorem c_J0c (l : Launch) (D : zD) (sz : Nat) (τ : zT) (g : zG) (x1 x2 : Int32) : zCon l D yJ0_checkIndex_df160 cJ0_checkIndex_df160 2 none { frames := 1, cells := 0, slots := 0, locals := 22 } 0 0 zrV [.int x1, .int x2] sz τ g τ (f_J0c x1 x2 g) := by
  refine zCon.of (by decide) (Nat.le_of_ble_eq_true rfl) (fun E r g' hl hR hsz hnm F => ?_)
  have F : zF E D (zA τ sz) cJ0_checkIndex_df160 "java/lang/String" 2 none := F
  show zSim (fun q : Int32 × zG => q = (r, g')) (f_J0c x1 x2 g) (zAt E D (zA τ sz) (zQ E D zrV 0 0 sz τ τ r g') 2 (sz, τ, 0, 0) g 0 [(0, .int x1), (1, .int x2)] [])
  unfold f_J0c
  refine z_iload_n F 0 rfl rfl dJ0_checkIndex_df160_0 ?_
  refine z_iload_n F 1 rfl rfl dJ0_checkIndex_df160_1 ?_
  have key : ∀ v : Value, v.category = 1 → zSim (fun q : Int32 × zG => q = (r, g')) (zb (f_J3 x1 x2 g) (fun _ g1 => some (0, g1))) (zAt E D (zA τ sz) (zQ E D zrV 0 0 sz τ τ r g') 2 (sz, τ, 0, 0) g 5 [(0, .int x1), (1, .int x2)] [v, .int x2, .int x1]) := by
    intro v hv
    refine z_callS F (κ := (sz, τ, 0, 0)) (rm := { frames := 0, cells := 0, slots := 0, locals := 0 }) (n := 3) (mc := 0) (ms := 0) (As := [.int x1, .int x2, v]) (st := []) (rv := zrI) ⟨q_488, q_17, by decide +kernel, rfl, rfl, by rw [hR]; decide, by rw [hR]; decide⟩ (c_J3 E.2.1 D sz τ g x1 x2 v hv) q_486 q_487 rfl ⟨Nat.zero_le _, Nat.zero_le _⟩ (by decide) dJ0_checkIndex_df160_5 (fun v1 g1 => ?_) _ rfl
    refine z_pop F rfl dJ0_checkIndex_df160_8 ?_
    exact z_vreturn F rfl rfl rfl rfl (fun h => h) dJ0_checkIndex_df160_9
  intro x hx hK H locs ls h1 h2 h3 h4 h5 h6
  rcases F.u.2.2.2.2.1 with hz | ⟨t, hz⟩
  · exact va_gets F.ex F.cd hz h5 F.own (F.w q_484) (fun _ h => h) dJ0_checkIndex_df160_2 (key .null rfl x hx hK H locs ls h1 h2 h3 h4 h5 h6)
  · exact va_gets F.ex F.cd hz h5 F.own (F.w q_484) (fun _ h => h) dJ0_checkIndex_df160_2 (key (.ref t) rfl x hx hK H locs ls h1 h2 h3 h4 h5 h6)
def f_J1 (x : Int32) (g : zG) : Option (Int32 × zG) := zb (f_J0c x 91 g) (fun _ g1 => zc (zin x 91) (some (((zWORDS.getD x.toNatClampNeg 0 &&& 255).toUInt32 % 65536).toInt32, g1)))
set_option maxRecDepth 100000 in
theorem c_J1 (l : Launch) (D : zD) (sz : Nat) (τ : zT) (g : zG) (x : Int32) : zCon l D yJ1_charAt_3b067 cJ1_charAt_3b067 2 (some .char) { frames := 2, cells := 0, slots := 0, locals := 43 } 0 0 zrI [.ref (D.2.2.2 4), .int x] sz τ g τ (f_J1 x g) := by
  refine zCon.of (by decide) (Nat.le_of_ble_eq_true rfl) (fun E r g' hl hR hsz hnm F => ?_)
  have F : zF E D (zA τ sz) cJ1_charAt_3b067 "java/lang/StringLatin1" 2 (some .char) := F
  show zSim (fun q : Int32 × zG => q = (r, g')) (f_J1 x g) (zAt E D (zA τ sz) (zQ E D zrI 0 0 sz τ τ r g') 2 (sz, τ, 0, 0) g 0 [(0, .ref (D.2.2.2 4)), (1, .int x)] [])
  unfold f_J1
  have hT := (F.u.2.2.2.2.2.1.1 0 (by decide)).2.2.2
  refine z_iload_n F 1 rfl rfl dJ1_charAt_3b067_0 ?_
  refine z_aload_n F 0 rfl rfl dJ1_charAt_3b067_1 ?_
  have step : zSim (fun q : Int32 × zG => q = (r, g')) (zb (f_J0c x 91 g) (fun _ g1 => zc (zin x 91) (some (((zWORDS.getD x.toNatClampNeg 0 &&& 255).toUInt32 % 65536).toInt32, g1)))) (zAt E D (zA τ sz) (zQ E D zrI 0 0 sz τ τ r g') 2 (sz, τ, 0, 0) g 3 [(0, .ref (D.2.2.2 4)), (1, .int x)] [.int 91, .int x]) := by
    refine z_callS F (κ := (sz, τ, 0, 0)) (rm := { frames := 1, cells := 0, slots := 0, locals := 22 }) (n := 2) (mc := 0) (ms := 0) (As := [.int x, .int 91]) (st := []) (rv := zrV) ⟨q_483, q_15, by decide +kernel, rfl, rfl, by rw [hR]; decide, by rw [hR]; decide⟩ (c_J0c E.2.1 D sz τ g x 91) q_481 q_482 rfl ⟨Nat.zero_le _, Nat.zero_le _⟩ (by decide) dJ1_charAt_3b067_3 (fun v1 g1 => ?_) _ rfl
    show zSim (fun q : Int32 × zG => q = (r, g')) (zc (zin x 91) (some (((zWORDS.getD x.toNatClampNeg 0 &&& 255).toUInt32 % 65536).toInt32, g1))) (zAt E D (zA τ sz) (zQ E D zrI 0 0 sz τ τ r g') 2 (sz, τ, 0, 0) g1 6 [(0, .ref (D.2.2.2 4)), (1, .int x)] [])
    refine z_zc (fun hin => ?_)
    refine z_aload_n F 0 rfl rfl dJ1_charAt_3b067_6 ?_
    refine z_iload_n F 1 rfl rfl dJ1_charAt_3b067_7 ?_
    have s2 : zSim (fun q : Int32 × zG => q = (r, g')) (some (((zWORDS.getD x.toNatClampNeg 0 &&& 255).toUInt32 % 65536).toInt32, g1)) (zAt E D (zA τ sz) (zQ E D zrI 0 0 sz τ τ r g') 2 (sz, τ, 0, 0) g1 9 [(0, .ref (D.2.2.2 4)), (1, .int x)] [.int (zWORDS.getD x.toNatClampNeg 0)]) := by
      refine z_sipush (v := 255) F (by decide) dJ1_charAt_3b067_9 ?_
      refine z_iand F dJ1_charAt_3b067_12 ?_
      refine z_i2c F dJ1_charAt_3b067_13 ?_
      exact z_creturn F (pk_nc _) rfl rfl rfl rfl (fun h => h) dJ1_charAt_3b067_14
    intro w hw hK H locs ls h1 h2 h3 h4 h5 h6
    exact va_tb F.ex F.cd hT h5 hin rfl dJ1_charAt_3b067_8 (s2 w hw hK H locs ls h1 h2 h3 h4 h5 h6)
  intro w hw hK H locs ls h1 h2 h3 h4 h5 h6
  exact va_tlen F.ex F.cd hT h5 (v := 91) rfl dJ1_charAt_3b067_2 (step w hw hK H locs ls h1 h2 h3 h4 h5 h6)
def f_J0l (g : zG) : Option (Int32 × zG) := some (1, g)
set_option maxRecDepth 100000 in
theorem c_J0l (l : Launch) (D : zD) (sz : Nat) (τ : zT) (g : zG) : zCon l D yJ0_isLatin1_aae02 cJ0_isLatin1_aae02 1 (some .boolean) { frames := 0, cells := 0, slots := 0, locals := 0 } 0 0 zrI [.ref (D.2.2.2 3)] sz τ g τ (f_J0l g) := by
  refine zCon.of (by decide) (Nat.le_of_ble_eq_true rfl) (fun E r g' hl hR hsz hnm F => ?_)
  have F : zF E D (zA τ sz) cJ0_isLatin1_aae02 "java/lang/String" 1 (some .boolean) := F
  show zSim (fun q : Int32 × zG => q = (r, g')) (some ((1 : Int32), g)) (zAt E D (zA τ sz) (zQ E D zrI 0 0 sz τ τ r g') 1 (sz, τ, 0, 0) g 0 [(0, .ref (D.2.2.2 3))] [])
  have hO := (F.u.2.2.2.2.2.1.1 0 (by decide)).2.1
  have s3 : zSim (fun q : Int32 × zG => q = (r, g')) (some ((1 : Int32), g)) (zAt E D (zA τ sz) (zQ E D zrI 0 0 sz τ τ r g') 1 (sz, τ, 0, 0) g 13 [(0, .ref (D.2.2.2 3))] []) := by
    refine z_iconst (v := 1) F (by decide) dJ0_isLatin1_aae02_13 ?_
    refine z_goto (tgt := 18) F dJ0_isLatin1_aae02_14 (by decide) ?_
    exact z_zreturn F rfl rfl rfl rfl rfl (fun h => h) dJ0_isLatin1_aae02_18
  have s2 : zSim (fun q : Int32 × zG => q = (r, g')) (some ((1 : Int32), g)) (zAt E D (zA τ sz) (zQ E D zrI 0 0 sz τ τ r g') 1 (sz, τ, 0, 0) g 3 [(0, .ref (D.2.2.2 3))] [.int 1]) := by
    intro w hw hK H locs ls h1 h2 h3 h4 h5 h6
    refine lv_if_eq F.ex F.cd dJ0_isLatin1_aae02_3 (tgt := 17) (by decide) (fun hz => absurd hz (by decide)) (fun hz => ?_)
    refine lv_aload_n F.ex F.cd dJ0_isLatin1_aae02_6 rfl (lv_at h6 0 rfl) ?_
    refine vk_getf F.ex F.cd hO h5 F.own (F.w q_1362) (fun _ h => h) dJ0_isLatin1_aae02_7 ?_
    refine lv_if_ne F.ex F.cd dJ0_isLatin1_aae02_10 (tgt := 17) (by decide) (fun hz => absurd rfl hz) (fun hz => ?_)
    exact s3 w hw hK H locs ls h1 h2 h3 h4 h5 h6
  intro w hw hK H locs ls h1 h2 h3 h4 h5 h6
  exact va_gets F.ex F.cd F.u.2.2.2.1 h5 F.own (F.w q_476) (fun _ h => h) dJ0_isLatin1_aae02_0 (s2 w hw hK H locs ls h1 h2 h3 h4 h5 h6)
def f_charAt (x : Int32) (g : zG) : Option (Int32 × zG) := zb (f_J0l g) (fun r g1 => if r = 0 then none else zb (f_J1 x g1) (fun v g2 => zc ((v.toUInt32 % 65536).toInt32 = v) (some (v, g2))))
theorem znarc {x : Int32} (h : (x.toUInt32 % 65536).toInt32 = x) : narrow .char (.int x) = .int x := by
  have e := pk_nc x
  rw [h] at e
  exact e
set_option maxRecDepth 100000 in
theorem c_charAt (l : Launch) (D : zD) (sz : Nat) (τ : zT) (g : zG) (x : Int32) : zCon l D yJ0_charAt_5068e cJ0_charAt_5068e 2 (some .char) { frames := 3, cells := 0, slots := 0, locals := 64 } 0 0 zrI [.ref (D.2.2.2 3), .int x] sz τ g τ (f_charAt x g) := by
  refine zCon.of (by decide) (Nat.le_of_ble_eq_true rfl) (fun E r g' hl hR hsz hnm F => ?_)
  have F : zF E D (zA τ sz) cJ0_charAt_5068e "java/lang/String" 2 (some .char) := F
  show zSim (fun q : Int32 × zG => q = (r, g')) (f_charAt x g) (zAt E D (zA τ sz) (zQ E D zrI 0 0 sz τ τ r g') 2 (sz, τ, 0, 0) g 0 [(0, .ref (D.2.2.2 3)), (1, .int x)] [])
  unfold f_charAt
  have hO := (F.u.2.2.2.2.2.1.1 0 (by decide)).2.2.1
  refine z_aload_n F 0 rfl rfl dJ0_charAt_5068e_0 ?_
  refine z_callT F (κ := (sz, τ, 0, 0)) (rm := { frames := 0, cells := 0, slots := 0, locals := 0 }) (n := 0) (As := []) (st := []) (rv := zrI) ⟨q_475, q_15, by decide +kernel, rfl, rfl, by rw [hR]; decide, by rw [hR]; decide⟩ (c_J0l E.2.1 D sz τ g) q_472 q_473 q_474 rfl ⟨Nat.zero_le _, Nat.zero_le _⟩ (by decide) dJ0_charAt_5068e_1 (fun v1 g1 => ?_) _ rfl
  show zSim (fun q : Int32 × zG => q = (r, g')) (if v1 = 0 then none else zb (f_J1 x g1) (fun v g2 => zc ((v.toUInt32 % 65536).toInt32 = v) (some (v, g2)))) (zAt E D (zA τ sz) (zQ E D zrI 0 0 sz τ τ r g') 2 (sz, τ, 0, 0) g1 4 [(0, .ref (D.2.2.2 3)), (1, .int x)] [.int v1])
  refine z_if_eq (tgt := 16) F dJ0_charAt_5068e_4 (by decide) (fun c1 => z_none) (fun c1 => ?_)
  refine z_aload_n F 0 rfl rfl dJ0_charAt_5068e_7 ?_
  have s2 : zSim (fun q : Int32 × zG => q = (r, g')) (zb (f_J1 x g1) (fun v g2 => zc ((v.toUInt32 % 65536).toInt32 = v) (some (v, g2)))) (zAt E D (zA τ sz) (zQ E D zrI 0 0 sz τ τ r g') 2 (sz, τ, 0, 0) g1 11 [(0, .ref (D.2.2.2 3)), (1, .int x)] [.ref (D.2.2.2 4)]) := by
    refine z_iload_n F 1 rfl rfl dJ0_charAt_5068e_11 ?_
    refine z_callS F (κ := (sz, τ, 0, 0)) (rm := { frames := 2, cells := 0, slots := 0, locals := 43 }) (n := 2) (mc := 0) (ms := 0) (As := [.ref (D.2.2.2 4), .int x]) (st := []) (rv := zrI) ⟨q_480, q_16, by decide +kernel, rfl, rfl, by rw [hR]; decide, by rw [hR]; decide⟩ (c_J1 E.2.1 D sz τ g1 x) q_478 q_479 rfl ⟨Nat.zero_le _, Nat.zero_le _⟩ (by decide) dJ0_charAt_5068e_12 (fun v2 g2 => ?_) _ rfl
    show zSim (fun q : Int32 × zG => q = (r, g')) (zc ((v2.toUInt32 % 65536).toInt32 = v2) (some (v2, g2))) (zAt E D (zA τ sz) (zQ E D zrI 0 0 sz τ τ r g') 2 (sz, τ, 0, 0) g2 15 [(0, .ref (D.2.2.2 3)), (1, .int x)] [.int v2])
    exact z_zc (fun c2 => z_creturn F (znarc c2) rfl rfl rfl rfl (fun h => h) dJ0_charAt_5068e_15)
  intro w hw hK H locs ls h1 h2 h3 h4 h5 h6
  exact vk_getf F.ex F.cd hO h5 F.own (F.w q_1363) (fun _ h => h) dJ0_charAt_5068e_8 (s2 w hw hK H locs ls h1 h2 h3 h4 h5 h6)
theorem k_charAt {ρ : Type} {K : ρ → Prop} {E : zE} {D : zD} {A : Nat → Prop} {Q : State → Prop} {nL : Nat} {κ : zC} {g : zG} {pc : Nat} {lv : List (Nat × Value)} {st : List Value} {cc : ByteArray} {own : String} {ret : Option FieldType} (F : zF E D A cc own nL ret) {index : Nat} {h : Int32 → zG → Option ρ} {x : Int32} (hR : 3 + 1 ≤ E.2.2.2.1.frames ∧ 8 + (2 + 11) + 64 ≤ E.2.2.2.1.locals) (hl : zTbl (.methodLink own index yJ0_charAt_5068e)) (hc : κ.2.2.1 ≤ E.2.2.2.1.cells ∧ κ.2.2.2 ≤ E.2.2.2.1.slots) (hW : (st.map fun v => v.category).sum ≤ 8) (hd : decode cc pc = .ok (.invokevirtual index, 3)) (kk : ∀ r g', zSim K (h r g') (zAt E D A Q nL κ g' (pc + 3) lv (.int r :: st))) : zSim K (zb (f_charAt x g) h) (zAt E D A Q nL κ g pc lv (.int x :: .ref (D.2.2.2 3) :: st)) :=
  z_callT F (n := 1) (As := [.int x]) (rv := zrI) ⟨q_471, q_15, by decide +kernel, rfl, rfl, hR.1, hR.2⟩ (c_charAt E.2.1 D κ.1 κ.2.1 g x) hl q_469 q_470 rfl hc hW hd kk _ rfl
end
