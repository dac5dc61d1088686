def zgw : Cond → Bool
  | .fieldLinkNest _ _ _ _ _ _ => true
  | .methodLinkNest _ _ _ _ => true
  | w => goodWord w
def zTbl (w : Cond) : Prop := w ∈ lw_tbl ∧ zgw w = true
theorem ztin1 {w : Cond} (h : w ∈ tables_1_1) : w ∈ lw_tbl := List.mem_append_right _ (show w ∈ tables_1 from List.mem_append_left _ h)
theorem ztin2 {w : Cond} (h : w ∈ tables_1_2) : w ∈ lw_tbl := List.mem_append_right _ (show w ∈ tables_1 from List.mem_append_right _ (List.mem_append_left _ h))
theorem ztin3 {w : Cond} (h : w ∈ tables_1_3) : w ∈ lw_tbl := List.mem_append_right _ (show w ∈ tables_1 from List.mem_append_right _ (List.mem_append_right _ (List.mem_append_left _ h)))
theorem ztin4 {w : Cond} (h : w ∈ tables_1_4) : w ∈ lw_tbl := List.mem_append_right _ (show w ∈ tables_1 from List.mem_append_right _ (List.mem_append_right _ (List.mem_append_right _ (List.mem_append_left _ h))))
theorem ztin5 {w : Cond} (h : w ∈ tables_1_5) : w ∈ lw_tbl := List.mem_append_right _ (show w ∈ tables_1 from List.mem_append_right _ (List.mem_append_right _ (List.mem_append_right _ (List.mem_append_right _ (List.mem_append_left _ h)))))
theorem ztin6 {w : Cond} (h : w ∈ tables_1_6) : w ∈ lw_tbl := List.mem_append_right _ (show w ∈ tables_1 from List.mem_append_right _ (List.mem_append_right _ (List.mem_append_right _ (List.mem_append_right _ (List.mem_append_right _ (h))))))
theorem ztinp {w : Cond} (h : w ∈ k2_sels lw_privs) : w ∈ lw_tbl := List.mem_append_left _ h
theorem q_0 : zTbl (Cond.initialized "TypeChainLaw") := ⟨ztin1 (List.mem_of_getElem? (i := 0) rfl), rfl⟩
theorem q_1 : zTbl (Cond.initialized "TypeChain") := ⟨ztin1 (List.mem_of_getElem? (i := 1) rfl), rfl⟩
theorem q_2 : zTbl (Cond.initialized "TypeChain$Rules") := ⟨ztin1 (List.mem_of_getElem? (i := 2) rfl), rfl⟩
theorem q_3 : zTbl (Cond.initialized "TypeChain$Chain") := ⟨ztin1 (List.mem_of_getElem? (i := 3) rfl), rfl⟩
theorem q_4 : zTbl (Cond.initialized "TypeChain$Program") := ⟨ztin1 (List.mem_of_getElem? (i := 4) rfl), rfl⟩
theorem q_5 : zTbl (Cond.initialized "java/lang/System") := ⟨ztin1 (List.mem_of_getElem? (i := 5) rfl), rfl⟩
theorem q_6 : zTbl (Cond.initialized "java/util/Arrays") := ⟨ztin1 (List.mem_of_getElem? (i := 6) rfl), rfl⟩
theorem q_7 : zTbl (Cond.initialized "java/lang/Integer") := ⟨ztin1 (List.mem_of_getElem? (i := 7) rfl), rfl⟩
theorem q_8 : zTbl (Cond.initialized "TypeChain$Reader") := ⟨ztin1 (List.mem_of_getElem? (i := 8) rfl), rfl⟩
theorem q_9 : zTbl (Cond.initialized "TypeChain$Page") := ⟨ztin1 (List.mem_of_getElem? (i := 9) rfl), rfl⟩
theorem q_10 : zTbl (Cond.initialized "TypeChain$Printer") := ⟨ztin1 (List.mem_of_getElem? (i := 10) rfl), rfl⟩
theorem q_11 : zTbl (Cond.initialized "TypeChain$Strike") := ⟨ztin1 (List.mem_of_getElem? (i := 11) rfl), rfl⟩
theorem q_12 : zTbl (Cond.initialized "TypeChain$Trials") := ⟨ztin1 (List.mem_of_getElem? (i := 12) rfl), rfl⟩
theorem q_13 : zTbl (Cond.initialized "TypeChain$Sheets") := ⟨ztin1 (List.mem_of_getElem? (i := 13) rfl), rfl⟩
theorem q_14 : zTbl (Cond.initialized "TypeChainModel") := ⟨ztin1 (List.mem_of_getElem? (i := 14) rfl), rfl⟩
theorem q_15 : zTbl (Cond.initialized "java/lang/String") := ⟨ztin1 (List.mem_of_getElem? (i := 15) rfl), rfl⟩
theorem q_16 : zTbl (Cond.initialized "java/lang/StringLatin1") := ⟨ztin1 (List.mem_of_getElem? (i := 16) rfl), rfl⟩
theorem q_17 : zTbl (Cond.initialized "jdk/internal/util/Preconditions") := ⟨ztin1 (List.mem_of_getElem? (i := 17) rfl), rfl⟩
theorem q_18 : zTbl (Cond.initialized "java/lang/StringUTF16") := ⟨ztin1 (List.mem_of_getElem? (i := 18) rfl), rfl⟩
theorem q_19 : zTbl (Cond.initialized "java/lang/Math") := ⟨ztin1 (List.mem_of_getElem? (i := 19) rfl), rfl⟩
theorem q_20 : zTbl (Cond.initialized "java/lang/Long") := ⟨ztin1 (List.mem_of_getElem? (i := 20) rfl), rfl⟩
theorem q_21 : zTbl (Cond.classLink "TypeChainLaw" (7 : Nat) "TypeChain") := ⟨ztin1 (List.mem_of_getElem? (i := 21) rfl), rfl⟩
theorem q_22 : zTbl (Cond.instantiable "TypeChain" (11 : Nat)) := ⟨ztin1 (List.mem_of_getElem? (i := 22) rfl), rfl⟩
theorem q_23 : zTbl (Cond.methodLink "TypeChainLaw" (9 : Nat) ({ cls := "TypeChain", name := "<init>", desc := "()V" } : MethodName)) := ⟨ztin1 (List.mem_of_getElem? (i := 23) rfl), rfl⟩
theorem q_24 : zTbl (Cond.instanceMethod ({ cls := "TypeChain", name := "<init>", desc := "()V" } : MethodName)) := ⟨ztin1 (List.mem_of_getElem? (i := 24) rfl), rfl⟩
theorem q_25 : zTbl (Cond.code ({ cls := "TypeChain", name := "<init>", desc := "()V" } : MethodName) prog_1_method_1_code (1 : Nat) (Option.none : Option Jvm.ClassFile.FieldType)) := ⟨ztin1 (List.mem_of_getElem? (i := 25) rfl), rfl⟩
theorem q_26 : zTbl (Cond.methodLink "TypeChain" (3 : Nat) ({ cls := "java/lang/Object", name := "<init>", desc := "()V" } : MethodName)) := ⟨ztin1 (List.mem_of_getElem? (i := 26) rfl), rfl⟩
theorem q_27 : zTbl (Cond.instanceMethod ({ cls := "java/lang/Object", name := "<init>", desc := "()V" } : MethodName)) := ⟨ztin1 (List.mem_of_getElem? (i := 27) rfl), rfl⟩
theorem q_28 : zTbl (Cond.code ({ cls := "java/lang/Object", name := "<init>", desc := "()V" } : MethodName) object_method_1_code (1 : Nat) (Option.none : Option Jvm.ClassFile.FieldType)) := ⟨ztin1 (List.mem_of_getElem? (i := 28) rfl), rfl⟩
theorem q_29 : zTbl (Cond.classLink "TypeChain" (9 : Nat) "TypeChain$Rules") := ⟨ztin1 (List.mem_of_getElem? (i := 29) rfl), rfl⟩
theorem q_30 : zTbl (Cond.instantiable "TypeChain$Rules" (4 : Nat)) := ⟨ztin1 (List.mem_of_getElem? (i := 30) rfl), rfl⟩
theorem q_31 : zTbl (Cond.methodLink "TypeChain" (11 : Nat) ({ cls := "TypeChain$Rules", name := "<init>", desc := "()V" } : MethodName)) := ⟨ztin1 (List.mem_of_getElem? (i := 31) rfl), rfl⟩
theorem q_32 : zTbl (Cond.instanceMethod ({ cls := "TypeChain$Rules", name := "<init>", desc := "()V" } : MethodName)) := ⟨ztin1 (List.mem_of_getElem? (i := 32) rfl), rfl⟩
theorem q_33 : zTbl (Cond.code ({ cls := "TypeChain$Rules", name := "<init>", desc := "()V" } : MethodName) prog_7_method_1_code (1 : Nat) (Option.none : Option Jvm.ClassFile.FieldType)) := ⟨ztin1 (List.mem_of_getElem? (i := 33) rfl), rfl⟩
theorem q_34 : zTbl (Cond.methodLink "TypeChain$Rules" (3 : Nat) ({ cls := "java/lang/Object", name := "<init>", desc := "()V" } : MethodName)) := ⟨ztin1 (List.mem_of_getElem? (i := 34) rfl), rfl⟩
theorem q_35 : zTbl (Cond.classLink "TypeChain$Rules" (9 : Nat) "TypeChain$Chain") := ⟨ztin1 (List.mem_of_getElem? (i := 35) rfl), rfl⟩
theorem q_36 : zTbl (Cond.instantiable "TypeChain$Chain" (4 : Nat)) := ⟨ztin1 (List.mem_of_getElem? (i := 36) rfl), rfl⟩
theorem q_37 : zTbl (Cond.methodLinkNest "TypeChain$Rules" (11 : Nat) ({ cls := "TypeChain$Chain", name := "<init>", desc := "()V" } : MethodName) "TypeChain") := ⟨ztin1 (List.mem_of_getElem? (i := 37) rfl), rfl⟩
theorem q_38 : zTbl (Cond.instanceMethod ({ cls := "TypeChain$Chain", name := "<init>", desc := "()V" } : MethodName)) := ⟨ztin1 (List.mem_of_getElem? (i := 38) rfl), rfl⟩
theorem q_39 : zTbl (Cond.code ({ cls := "TypeChain$Chain", name := "<init>", desc := "()V" } : MethodName) prog_2_method_1_code (1 : Nat) (Option.none : Option Jvm.ClassFile.FieldType)) := ⟨ztin1 (List.mem_of_getElem? (i := 39) rfl), rfl⟩
theorem q_40 : zTbl (Cond.methodLink "TypeChain$Chain" (3 : Nat) ({ cls := "java/lang/Object", name := "<init>", desc := "()V" } : MethodName)) := ⟨ztin1 (List.mem_of_getElem? (i := 40) rfl), rfl⟩
theorem q_41 : zTbl (Cond.fieldLink "TypeChain$Chain" (9 : Nat) "TypeChain$Chain" "letters" "[I") := ⟨ztin1 (List.mem_of_getElem? (i := 41) rfl), rfl⟩
theorem q_42 : zTbl (Cond.fieldLink "TypeChain$Rules" (51 : Nat) "TypeChain$Chain" "letters" "[I") := ⟨ztin1 (List.mem_of_getElem? (i := 42) rfl), rfl⟩
theorem q_43 : zTbl (Cond.fieldLink "TypeChain$Trials" (64 : Nat) "TypeChain$Chain" "letters" "[I") := ⟨ztin1 (List.mem_of_getElem? (i := 43) rfl), rfl⟩
theorem q_44 : zTbl (Cond.fieldLink "TypeChain$Strike" (75 : Nat) "TypeChain$Chain" "letters" "[I") := ⟨ztin1 (List.mem_of_getElem? (i := 44) rfl), rfl⟩
theorem q_45 : zTbl (Cond.fieldLink "TypeChain$Reader" (132 : Nat) "TypeChain$Chain" "letters" "[I") := ⟨ztin1 (List.mem_of_getElem? (i := 45) rfl), rfl⟩
theorem q_46 : zTbl (Cond.fieldLink "TypeChain" (102 : Nat) "TypeChain$Chain" "letters" "[I") := ⟨ztin1 (List.mem_of_getElem? (i := 46) rfl), rfl⟩
theorem q_47 : zTbl (Cond.fieldLink "TypeChain$Chain" (21 : Nat) "TypeChain$Chain" "size" "I") := ⟨ztin1 (List.mem_of_getElem? (i := 47) rfl), rfl⟩
theorem q_48 : zTbl (Cond.fieldLink "TypeChain$Rules" (47 : Nat) "TypeChain$Chain" "size" "I") := ⟨ztin1 (List.mem_of_getElem? (i := 48) rfl), rfl⟩
theorem q_49 : zTbl (Cond.fieldLink "TypeChain$Trials" (79 : Nat) "TypeChain$Chain" "size" "I") := ⟨ztin1 (List.mem_of_getElem? (i := 49) rfl), rfl⟩
theorem q_50 : zTbl (Cond.fieldLink "TypeChain$Strike" (72 : Nat) "TypeChain$Chain" "size" "I") := ⟨ztin1 (List.mem_of_getElem? (i := 50) rfl), rfl⟩
theorem q_51 : zTbl (Cond.fieldLink "TypeChain" (95 : Nat) "TypeChain$Chain" "size" "I") := ⟨ztin1 (List.mem_of_getElem? (i := 51) rfl), rfl⟩
theorem q_52 : zTbl (Cond.fieldLink "TypeChain$Reader" (141 : Nat) "TypeChain$Chain" "size" "I") := ⟨ztin1 (List.mem_of_getElem? (i := 52) rfl), rfl⟩
theorem q_53 : zTbl (Cond.fieldLink "TypeChain$Chain" (25 : Nat) "TypeChain$Chain" "pitch" "I") := ⟨ztin1 (List.mem_of_getElem? (i := 53) rfl), rfl⟩
theorem q_54 : zTbl (Cond.fieldLink "TypeChain$Rules" (63 : Nat) "TypeChain$Chain" "pitch" "I") := ⟨ztin1 (List.mem_of_getElem? (i := 54) rfl), rfl⟩
theorem q_55 : zTbl (Cond.fieldLink "TypeChain$Chain" (28 : Nat) "TypeChain$Chain" "gap" "I") := ⟨ztin1 (List.mem_of_getElem? (i := 55) rfl), rfl⟩
theorem q_56 : zTbl (Cond.fieldLink "TypeChain$Rules" (66 : Nat) "TypeChain$Chain" "gap" "I") := ⟨ztin1 (List.mem_of_getElem? (i := 56) rfl), rfl⟩
theorem q_57 : zTbl (Cond.laysFinal "TypeChain$Chain" "TypeChain$Chain" "letters" "[I") := ⟨ztin1 (List.mem_of_getElem? (i := 57) rfl), rfl⟩
theorem q_58 : Cond.soleField "TypeChain$Chain" "letters" ∈ lw_tbl := ztin1 (List.mem_of_getElem? (i := 58) rfl)
theorem q_59 : zTbl (Cond.lays "TypeChain$Chain" "TypeChain$Chain" "size" "I") := ⟨ztin1 (List.mem_of_getElem? (i := 59) rfl), rfl⟩
theorem q_60 : Cond.soleField "TypeChain$Chain" "size" ∈ lw_tbl := ztin1 (List.mem_of_getElem? (i := 60) rfl)
theorem q_61 : zTbl (Cond.lays "TypeChain$Chain" "TypeChain$Chain" "pitch" "I") := ⟨ztin1 (List.mem_of_getElem? (i := 61) rfl), rfl⟩
theorem q_62 : Cond.soleField "TypeChain$Chain" "pitch" ∈ lw_tbl := ztin1 (List.mem_of_getElem? (i := 62) rfl)
theorem q_63 : zTbl (Cond.lays "TypeChain$Chain" "TypeChain$Chain" "gap" "I") := ⟨ztin1 (List.mem_of_getElem? (i := 63) rfl), rfl⟩
theorem q_64 : Cond.soleField "TypeChain$Chain" "gap" ∈ lw_tbl := ztin1 (List.mem_of_getElem? (i := 64) rfl)
theorem q_65 : zTbl (Cond.superclass "TypeChain$Chain" "java/lang/Object") := ⟨ztin1 (List.mem_of_getElem? (i := 65) rfl), rfl⟩
theorem q_66 : zTbl (Cond.arrayClass FieldType.int) := ⟨ztin1 (List.mem_of_getElem? (i := 66) rfl), rfl⟩
theorem q_67 : zTbl (Cond.classLink "TypeChain$Rules" (18 : Nat) "TypeChain$Program") := ⟨ztin1 (List.mem_of_getElem? (i := 67) rfl), rfl⟩
theorem q_68 : zTbl (Cond.instantiable "TypeChain$Program" (7 : Nat)) := ⟨ztin1 (List.mem_of_getElem? (i := 68) rfl), rfl⟩
theorem q_69 : zTbl (Cond.methodLinkNest "TypeChain$Rules" (20 : Nat) ({ cls := "TypeChain$Program", name := "<init>", desc := "()V" } : MethodName) "TypeChain") := ⟨ztin1 (List.mem_of_getElem? (i := 69) rfl), rfl⟩
theorem q_70 : zTbl (Cond.instanceMethod ({ cls := "TypeChain$Program", name := "<init>", desc := "()V" } : MethodName)) := ⟨ztin1 (List.mem_of_getElem? (i := 70) rfl), rfl⟩
theorem q_71 : zTbl (Cond.code ({ cls := "TypeChain$Program", name := "<init>", desc := "()V" } : MethodName) prog_5_method_1_code (1 : Nat) (Option.none : Option Jvm.ClassFile.FieldType)) := ⟨ztin1 (List.mem_of_getElem? (i := 71) rfl), rfl⟩
theorem q_72 : zTbl (Cond.methodLink "TypeChain$Program" (3 : Nat) ({ cls := "java/lang/Object", name := "<init>", desc := "()V" } : MethodName)) := ⟨ztin1 (List.mem_of_getElem? (i := 72) rfl), rfl⟩
theorem q_73 : zTbl (Cond.fieldLink "TypeChain$Program" (9 : Nat) "TypeChain$Program" "kinds" "[I") := ⟨ztin1 (List.mem_of_getElem? (i := 73) rfl), rfl⟩
theorem q_74 : zTbl (Cond.fieldLink "TypeChain$Printer" (105 : Nat) "TypeChain$Program" "kinds" "[I") := ⟨ztin1 (List.mem_of_getElem? (i := 74) rfl), rfl⟩
theorem q_75 : zTbl (Cond.fieldLink "TypeChain" (112 : Nat) "TypeChain$Program" "kinds" "[I") := ⟨ztin1 (List.mem_of_getElem? (i := 75) rfl), rfl⟩
theorem q_76 : zTbl (Cond.fieldLink "TypeChain$Program" (15 : Nat) "TypeChain$Program" "numbers" "[I") := ⟨ztin1 (List.mem_of_getElem? (i := 76) rfl), rfl⟩
theorem q_77 : zTbl (Cond.fieldLink "TypeChain$Printer" (115 : Nat) "TypeChain$Program" "numbers" "[I") := ⟨ztin1 (List.mem_of_getElem? (i := 77) rfl), rfl⟩
theorem q_78 : zTbl (Cond.fieldLink "TypeChain" (115 : Nat) "TypeChain$Program" "numbers" "[I") := ⟨ztin1 (List.mem_of_getElem? (i := 78) rfl), rfl⟩
theorem q_79 : zTbl (Cond.fieldLink "TypeChain$Program" (18 : Nat) "TypeChain$Program" "starts" "[I") := ⟨ztin1 (List.mem_of_getElem? (i := 79) rfl), rfl⟩
theorem q_80 : zTbl (Cond.fieldLink "TypeChain$Program" (21 : Nat) "TypeChain$Program" "lengths" "[I") := ⟨ztin1 (List.mem_of_getElem? (i := 80) rfl), rfl⟩
theorem q_81 : zTbl (Cond.fieldLink "TypeChain$Printer" (121 : Nat) "TypeChain$Program" "lengths" "[I") := ⟨ztin1 (List.mem_of_getElem? (i := 81) rfl), rfl⟩
theorem q_82 : zTbl (Cond.fieldLink "TypeChain" (118 : Nat) "TypeChain$Program" "lengths" "[I") := ⟨ztin1 (List.mem_of_getElem? (i := 82) rfl), rfl⟩
theorem q_83 : zTbl (Cond.fieldLink "TypeChain$Program" (24 : Nat) "TypeChain$Program" "letters" "[I") := ⟨ztin1 (List.mem_of_getElem? (i := 83) rfl), rfl⟩
theorem q_84 : zTbl (Cond.fieldLink "TypeChain$Program" (27 : Nat) "TypeChain$Program" "size" "I") := ⟨ztin1 (List.mem_of_getElem? (i := 84) rfl), rfl⟩
theorem q_85 : zTbl (Cond.fieldLink "TypeChain$Reader" (81 : Nat) "TypeChain$Program" "size" "I") := ⟨ztin1 (List.mem_of_getElem? (i := 85) rfl), rfl⟩
theorem q_86 : zTbl (Cond.fieldLink "TypeChain$Trials" (97 : Nat) "TypeChain$Program" "size" "I") := ⟨ztin1 (List.mem_of_getElem? (i := 86) rfl), rfl⟩
theorem q_87 : zTbl (Cond.fieldLink "TypeChain" (90 : Nat) "TypeChain$Program" "size" "I") := ⟨ztin1 (List.mem_of_getElem? (i := 87) rfl), rfl⟩
theorem q_88 : zTbl (Cond.fieldLink "TypeChain$Printer" (100 : Nat) "TypeChain$Program" "size" "I") := ⟨ztin1 (List.mem_of_getElem? (i := 88) rfl), rfl⟩
theorem q_89 : zTbl (Cond.fieldLink "TypeChain$Program" (31 : Nat) "TypeChain$Program" "lettersUsed" "I") := ⟨ztin1 (List.mem_of_getElem? (i := 89) rfl), rfl⟩
theorem q_90 : zTbl (Cond.laysFinal "TypeChain$Program" "TypeChain$Program" "kinds" "[I") := ⟨ztin1 (List.mem_of_getElem? (i := 90) rfl), rfl⟩
theorem q_91 : Cond.soleField "TypeChain$Program" "kinds" ∈ lw_tbl := ztin1 (List.mem_of_getElem? (i := 91) rfl)
theorem q_92 : zTbl (Cond.laysFinal "TypeChain$Program" "TypeChain$Program" "numbers" "[I") := ⟨ztin1 (List.mem_of_getElem? (i := 92) rfl), rfl⟩
theorem q_93 : Cond.soleField "TypeChain$Program" "numbers" ∈ lw_tbl := ztin1 (List.mem_of_getElem? (i := 93) rfl)
theorem q_94 : zTbl (Cond.laysFinal "TypeChain$Program" "TypeChain$Program" "starts" "[I") := ⟨ztin1 (List.mem_of_getElem? (i := 94) rfl), rfl⟩
theorem q_95 : Cond.soleField "TypeChain$Program" "starts" ∈ lw_tbl := ztin1 (List.mem_of_getElem? (i := 95) rfl)
theorem q_96 : zTbl (Cond.laysFinal "TypeChain$Program" "TypeChain$Program" "lengths" "[I") := ⟨ztin1 (List.mem_of_getElem? (i := 96) rfl), rfl⟩
theorem q_97 : Cond.soleField "TypeChain$Program" "lengths" ∈ lw_tbl := ztin1 (List.mem_of_getElem? (i := 97) rfl)
theorem q_98 : zTbl (Cond.laysFinal "TypeChain$Program" "TypeChain$Program" "letters" "[I") := ⟨ztin1 (List.mem_of_getElem? (i := 98) rfl), rfl⟩
theorem q_99 : Cond.soleField "TypeChain$Program" "letters" ∈ lw_tbl := ztin1 (List.mem_of_getElem? (i := 99) rfl)
theorem q_100 : zTbl (Cond.lays "TypeChain$Program" "TypeChain$Program" "size" "I") := ⟨ztin1 (List.mem_of_getElem? (i := 100) rfl), rfl⟩
theorem q_101 : Cond.soleField "TypeChain$Program" "size" ∈ lw_tbl := ztin1 (List.mem_of_getElem? (i := 101) rfl)
theorem q_102 : zTbl (Cond.lays "TypeChain$Program" "TypeChain$Program" "lettersUsed" "I") := ⟨ztin1 (List.mem_of_getElem? (i := 102) rfl), rfl⟩
theorem q_103 : Cond.soleField "TypeChain$Program" "lettersUsed" ∈ lw_tbl := ztin1 (List.mem_of_getElem? (i := 103) rfl)
theorem q_104 : zTbl (Cond.superclass "TypeChain$Program" "java/lang/Object") := ⟨ztin1 (List.mem_of_getElem? (i := 104) rfl), rfl⟩
theorem q_105 : zTbl (Cond.methodLink "TypeChain$Rules" (32 : Nat) ({ cls := "TypeChain$Rules", name := "beAtFirst", desc := "()V" } : MethodName)) := ⟨ztin1 (List.mem_of_getElem? (i := 105) rfl), rfl⟩
theorem q_106 : zTbl (Cond.instanceMethod ({ cls := "TypeChain$Rules", name := "beAtFirst", desc := "()V" } : MethodName)) := ⟨ztin1 (List.mem_of_getElem? (i := 106) rfl), rfl⟩
theorem q_107 : zTbl (Cond.selects "TypeChain$Rules" ({ cls := "TypeChain$Rules", name := "beAtFirst", desc := "()V" } : MethodName) ({ cls := "TypeChain$Rules", name := "beAtFirst", desc := "()V" } : MethodName)) := ⟨ztin1 (List.mem_of_getElem? (i := 107) rfl), rfl⟩
theorem q_108 : zTbl (Cond.code ({ cls := "TypeChain$Rules", name := "beAtFirst", desc := "()V" } : MethodName) prog_7_method_2_code (2 : Nat) (Option.none : Option Jvm.ClassFile.FieldType)) := ⟨ztin1 (List.mem_of_getElem? (i := 108) rfl), rfl⟩
theorem q_109 : zTbl (Cond.fieldLinkNest "TypeChain$Rules" (38 : Nat) "TypeChain" "AT_FIRST" "[I" "TypeChain") := ⟨ztin1 (List.mem_of_getElem? (i := 109) rfl), rfl⟩
theorem q_110 : Cond.laysStatic "TypeChain" "AT_FIRST" "[I" ∈ lw_tbl := ztin1 (List.mem_of_getElem? (i := 110) rfl)
theorem q_111 : zTbl (Cond.methodLink "TypeChain$Rules" (41 : Nat) ({ cls := "java/lang/System", name := "arraycopy", desc := "(Ljava/lang/Object;ILjava/lang/Object;II)V" } : MethodName)) := ⟨ztin1 (List.mem_of_getElem? (i := 111) rfl), rfl⟩
theorem q_112 : zTbl (Cond.static ({ cls := "java/lang/System", name := "arraycopy", desc := "(Ljava/lang/Object;ILjava/lang/Object;II)V" } : MethodName)) := ⟨ztin1 (List.mem_of_getElem? (i := 112) rfl), rfl⟩
theorem q_113 : zTbl (Cond.native ({ cls := "java/lang/System", name := "arraycopy", desc := "(Ljava/lang/Object;ILjava/lang/Object;II)V" } : MethodName)) := ⟨ztin1 (List.mem_of_getElem? (i := 113) rfl), rfl⟩
theorem q_114 : zTbl (Cond.methodLink "TypeChain$Rules" (54 : Nat) ({ cls := "java/util/Arrays", name := "fill", desc := "([II)V" } : MethodName)) := ⟨ztin1 (List.mem_of_getElem? (i := 114) rfl), rfl⟩
theorem q_115 : zTbl (Cond.static ({ cls := "java/util/Arrays", name := "fill", desc := "([II)V" } : MethodName)) := ⟨ztin1 (List.mem_of_getElem? (i := 115) rfl), rfl⟩
theorem q_116 : zTbl (Cond.code ({ cls := "java/util/Arrays", name := "fill", desc := "([II)V" } : MethodName) prog_20_method_103_code (4 : Nat) (Option.none : Option Jvm.ClassFile.FieldType)) := ⟨ztin1 (List.mem_of_getElem? (i := 116) rfl), rfl⟩
theorem q_117 : zTbl (Cond.methodLink "TypeChain$Rules" (60 : Nat) ({ cls := "TypeChain$Program", name := "clear", desc := "()V" } : MethodName)) := ⟨ztin1 (List.mem_of_getElem? (i := 117) rfl), rfl⟩
theorem q_118 : zTbl (Cond.instanceMethod ({ cls := "TypeChain$Program", name := "clear", desc := "()V" } : MethodName)) := ⟨ztin1 (List.mem_of_getElem? (i := 118) rfl), rfl⟩
theorem q_119 : zTbl (Cond.selects "TypeChain$Program" ({ cls := "TypeChain$Program", name := "clear", desc := "()V" } : MethodName) ({ cls := "TypeChain$Program", name := "clear", desc := "()V" } : MethodName)) := ⟨ztin1 (List.mem_of_getElem? (i := 119) rfl), rfl⟩
theorem q_120 : zTbl (Cond.code ({ cls := "TypeChain$Program", name := "clear", desc := "()V" } : MethodName) prog_5_method_2_code (1 : Nat) (Option.none : Option Jvm.ClassFile.FieldType)) := ⟨ztin1 (List.mem_of_getElem? (i := 120) rfl), rfl⟩
theorem q_121 : zTbl (Cond.methodLink "TypeChain$Rules" (35 : Nat) ({ cls := "TypeChain$Rules", name := "settle", desc := "()V" } : MethodName)) := ⟨ztin1 (List.mem_of_getElem? (i := 121) rfl), rfl⟩
theorem q_122 : zTbl (Cond.instanceMethod ({ cls := "TypeChain$Rules", name := "settle", desc := "()V" } : MethodName)) := ⟨ztin1 (List.mem_of_getElem? (i := 122) rfl), rfl⟩
theorem q_123 : zTbl (Cond.selects "TypeChain$Rules" ({ cls := "TypeChain$Rules", name := "settle", desc := "()V" } : MethodName) ({ cls := "TypeChain$Rules", name := "settle", desc := "()V" } : MethodName)) := ⟨ztin1 (List.mem_of_getElem? (i := 123) rfl), rfl⟩
theorem q_124 : zTbl (Cond.code ({ cls := "TypeChain$Rules", name := "settle", desc := "()V" } : MethodName) prog_7_method_3_code (1 : Nat) (Option.none : Option Jvm.ClassFile.FieldType)) := ⟨ztin1 (List.mem_of_getElem? (i := 124) rfl), rfl⟩
theorem q_125 : zTbl (Cond.methodLink "TypeChain$Rules" (69 : Nat) ({ cls := "TypeChain$Rules", name := "holeCount", desc := "()I" } : MethodName)) := ⟨ztin1 (List.mem_of_getElem? (i := 125) rfl), rfl⟩
theorem q_126 : zTbl (Cond.instanceMethod ({ cls := "TypeChain$Rules", name := "holeCount", desc := "()I" } : MethodName)) := ⟨ztin1 (List.mem_of_getElem? (i := 126) rfl), rfl⟩
theorem q_127 : zTbl (Cond.selects "TypeChain$Rules" ({ cls := "TypeChain$Rules", name := "holeCount", desc := "()I" } : MethodName) ({ cls := "TypeChain$Rules", name := "holeCount", desc := "()I" } : MethodName)) := ⟨ztin1 (List.mem_of_getElem? (i := 127) rfl), rfl⟩
theorem q_128 : zTbl (Cond.code ({ cls := "TypeChain$Rules", name := "holeCount", desc := "()I" } : MethodName) prog_7_method_4_code (3 : Nat) (Option.some FieldType.int)) := ⟨ztin1 (List.mem_of_getElem? (i := 128) rfl), rfl⟩
theorem q_129 : zTbl (Cond.methodLink "TypeChain$Rules" (73 : Nat) ({ cls := "java/lang/Integer", name := "bitCount", desc := "(I)I" } : MethodName)) := ⟨ztin1 (List.mem_of_getElem? (i := 129) rfl), rfl⟩
theorem q_130 : zTbl (Cond.static ({ cls := "java/lang/Integer", name := "bitCount", desc := "(I)I" } : MethodName)) := ⟨ztin1 (List.mem_of_getElem? (i := 130) rfl), rfl⟩
theorem q_131 : zTbl (Cond.code ({ cls := "java/lang/Integer", name := "bitCount", desc := "(I)I" } : MethodName) prog_13_method_49_code (1 : Nat) (Option.some FieldType.int)) := ⟨ztin1 (List.mem_of_getElem? (i := 131) rfl), rfl⟩
theorem q_132 : zTbl (Cond.constant "java/lang/Integer" (265 : Nat) (1431655765 : Int32)) := ⟨ztin1 (List.mem_of_getElem? (i := 132) rfl), rfl⟩
theorem q_133 : zTbl (Cond.constant "java/lang/Integer" (266 : Nat) (858993459 : Int32)) := ⟨ztin1 (List.mem_of_getElem? (i := 133) rfl), rfl⟩
theorem q_134 : zTbl (Cond.constant "java/lang/Integer" (267 : Nat) (252645135 : Int32)) := ⟨ztin1 (List.mem_of_getElem? (i := 134) rfl), rfl⟩
theorem q_135 : zTbl (Cond.fieldLink "TypeChain$Rules" (12 : Nat) "TypeChain$Rules" "chain" "LTypeChain$Chain;") := ⟨ztin1 (List.mem_of_getElem? (i := 135) rfl), rfl⟩
theorem q_136 : zTbl (Cond.fieldLink "TypeChain" (35 : Nat) "TypeChain$Rules" "chain" "LTypeChain$Chain;") := ⟨ztin1 (List.mem_of_getElem? (i := 136) rfl), rfl⟩
theorem q_137 : zTbl (Cond.fieldLink "TypeChain$Trials" (38 : Nat) "TypeChain$Rules" "chain" "LTypeChain$Chain;") := ⟨ztin1 (List.mem_of_getElem? (i := 137) rfl), rfl⟩
theorem q_138 : zTbl (Cond.fieldLink "TypeChain$Reader" (86 : Nat) "TypeChain$Rules" "chain" "LTypeChain$Chain;") := ⟨ztin1 (List.mem_of_getElem? (i := 138) rfl), rfl⟩
theorem q_139 : zTbl (Cond.fieldLink "TypeChain$Rules" (21 : Nat) "TypeChain$Rules" "program" "LTypeChain$Program;") := ⟨ztin1 (List.mem_of_getElem? (i := 139) rfl), rfl⟩
theorem q_140 : zTbl (Cond.fieldLink "TypeChain$Reader" (77 : Nat) "TypeChain$Rules" "program" "LTypeChain$Program;") := ⟨ztin1 (List.mem_of_getElem? (i := 140) rfl), rfl⟩
theorem q_141 : zTbl (Cond.fieldLink "TypeChain$Trials" (93 : Nat) "TypeChain$Rules" "program" "LTypeChain$Program;") := ⟨ztin1 (List.mem_of_getElem? (i := 141) rfl), rfl⟩
theorem q_142 : zTbl (Cond.fieldLink "TypeChain" (86 : Nat) "TypeChain$Rules" "program" "LTypeChain$Program;") := ⟨ztin1 (List.mem_of_getElem? (i := 142) rfl), rfl⟩
theorem q_143 : zTbl (Cond.fieldLink "TypeChain$Printer" (96 : Nat) "TypeChain$Rules" "program" "LTypeChain$Program;") := ⟨ztin1 (List.mem_of_getElem? (i := 143) rfl), rfl⟩
theorem q_144 : zTbl (Cond.fieldLink "TypeChain$Rules" (25 : Nat) "TypeChain$Rules" "values" "[I") := ⟨ztin1 (List.mem_of_getElem? (i := 144) rfl), rfl⟩
theorem q_145 : zTbl (Cond.fieldLink "TypeChain$Reader" (126 : Nat) "TypeChain$Rules" "values" "[I") := ⟨ztin1 (List.mem_of_getElem? (i := 145) rfl), rfl⟩
theorem q_146 : zTbl (Cond.fieldLink "TypeChain$Printer" (76 : Nat) "TypeChain$Rules" "values" "[I") := ⟨ztin1 (List.mem_of_getElem? (i := 146) rfl), rfl⟩
theorem q_147 : zTbl (Cond.fieldLink "TypeChain" (98 : Nat) "TypeChain$Rules" "values" "[I") := ⟨ztin1 (List.mem_of_getElem? (i := 147) rfl), rfl⟩
theorem q_148 : zTbl (Cond.fieldLink "TypeChain$Rules" (29 : Nat) "TypeChain$Rules" "channels" "[I") := ⟨ztin1 (List.mem_of_getElem? (i := 148) rfl), rfl⟩
theorem q_149 : zTbl (Cond.fieldLink "TypeChain$Reader" (94 : Nat) "TypeChain$Rules" "channels" "[I") := ⟨ztin1 (List.mem_of_getElem? (i := 149) rfl), rfl⟩
theorem q_150 : zTbl (Cond.fieldLink "TypeChain" (109 : Nat) "TypeChain$Rules" "channels" "[I") := ⟨ztin1 (List.mem_of_getElem? (i := 150) rfl), rfl⟩
theorem q_151 : zTbl (Cond.laysFinal "TypeChain$Rules" "TypeChain$Rules" "chain" "LTypeChain$Chain;") := ⟨ztin1 (List.mem_of_getElem? (i := 151) rfl), rfl⟩
theorem q_152 : Cond.soleField "TypeChain$Rules" "chain" ∈ lw_tbl := ztin1 (List.mem_of_getElem? (i := 152) rfl)
theorem q_153 : zTbl (Cond.laysFinal "TypeChain$Rules" "TypeChain$Rules" "program" "LTypeChain$Program;") := ⟨ztin1 (List.mem_of_getElem? (i := 153) rfl), rfl⟩
theorem q_154 : Cond.soleField "TypeChain$Rules" "program" ∈ lw_tbl := ztin1 (List.mem_of_getElem? (i := 154) rfl)
theorem q_155 : zTbl (Cond.laysFinal "TypeChain$Rules" "TypeChain$Rules" "values" "[I") := ⟨ztin1 (List.mem_of_getElem? (i := 155) rfl), rfl⟩
theorem q_156 : Cond.soleField "TypeChain$Rules" "values" ∈ lw_tbl := ztin1 (List.mem_of_getElem? (i := 156) rfl)
theorem q_157 : zTbl (Cond.laysFinal "TypeChain$Rules" "TypeChain$Rules" "channels" "[I") := ⟨ztin1 (List.mem_of_getElem? (i := 157) rfl), rfl⟩
theorem q_158 : Cond.soleField "TypeChain$Rules" "channels" ∈ lw_tbl := ztin1 (List.mem_of_getElem? (i := 158) rfl)
theorem q_159 : zTbl (Cond.superclass "TypeChain$Rules" "java/lang/Object") := ⟨ztin1 (List.mem_of_getElem? (i := 159) rfl), rfl⟩
theorem q_160 : zTbl (Cond.classLink "TypeChain" (19 : Nat) "TypeChain$Reader") := ⟨ztin1 (List.mem_of_getElem? (i := 160) rfl), rfl⟩
theorem q_161 : zTbl (Cond.instantiable "TypeChain$Reader" (14 : Nat)) := ⟨ztin1 (List.mem_of_getElem? (i := 161) rfl), rfl⟩
theorem q_162 : zTbl (Cond.methodLinkNest "TypeChain" (21 : Nat) ({ cls := "TypeChain$Reader", name := "<init>", desc := "()V" } : MethodName) "TypeChain") := ⟨ztin1 (List.mem_of_getElem? (i := 162) rfl), rfl⟩
theorem q_163 : zTbl (Cond.instanceMethod ({ cls := "TypeChain$Reader", name := "<init>", desc := "()V" } : MethodName)) := ⟨ztin1 (List.mem_of_getElem? (i := 163) rfl), rfl⟩
theorem q_164 : zTbl (Cond.code ({ cls := "TypeChain$Reader", name := "<init>", desc := "()V" } : MethodName) prog_6_method_1_code (1 : Nat) (Option.none : Option Jvm.ClassFile.FieldType)) := ⟨ztin1 (List.mem_of_getElem? (i := 164) rfl), rfl⟩
theorem q_165 : zTbl (Cond.methodLink "TypeChain$Reader" (3 : Nat) ({ cls := "java/lang/Object", name := "<init>", desc := "()V" } : MethodName)) := ⟨ztin1 (List.mem_of_getElem? (i := 165) rfl), rfl⟩
theorem q_166 : zTbl (Cond.fieldLink "TypeChain$Reader" (9 : Nat) "TypeChain$Reader" "bytes" "[B") := ⟨ztin1 (List.mem_of_getElem? (i := 166) rfl), rfl⟩
theorem q_167 : zTbl (Cond.fieldLink "TypeChain$Reader" (25 : Nat) "TypeChain$Reader" "length" "I") := ⟨ztin1 (List.mem_of_getElem? (i := 167) rfl), rfl⟩
theorem q_168 : zTbl (Cond.fieldLink "TypeChain" (66 : Nat) "TypeChain$Reader" "length" "I") := ⟨ztin1 (List.mem_of_getElem? (i := 168) rfl), rfl⟩
theorem q_169 : zTbl (Cond.fieldLink "TypeChain$Reader" (34 : Nat) "TypeChain$Reader" "fault" "I") := ⟨ztin1 (List.mem_of_getElem? (i := 169) rfl), rfl⟩
theorem q_170 : zTbl (Cond.fieldLink "TypeChain" (83 : Nat) "TypeChain$Reader" "fault" "I") := ⟨ztin1 (List.mem_of_getElem? (i := 170) rfl), rfl⟩
theorem q_171 : zTbl (Cond.fieldLink "TypeChain" (74 : Nat) "TypeChain$Reader" "faultPlace" "I") := ⟨ztin1 (List.mem_of_getElem? (i := 171) rfl), rfl⟩
theorem q_172 : zTbl (Cond.fieldLink "TypeChain$Reader" (164 : Nat) "TypeChain$Reader" "faultPlace" "I") := ⟨ztin1 (List.mem_of_getElem? (i := 172) rfl), rfl⟩
theorem q_173 : zTbl (Cond.fieldLink "TypeChain$Reader" (40 : Nat) "TypeChain$Reader" "lines" "I") := ⟨ztin1 (List.mem_of_getElem? (i := 173) rfl), rfl⟩
theorem q_174 : zTbl (Cond.fieldLink "TypeChain" (80 : Nat) "TypeChain$Reader" "lines" "I") := ⟨ztin1 (List.mem_of_getElem? (i := 174) rfl), rfl⟩
theorem q_175 : zTbl (Cond.fieldLink "TypeChain$Reader" (53 : Nat) "TypeChain$Reader" "kind" "I") := ⟨ztin1 (List.mem_of_getElem? (i := 175) rfl), rfl⟩
theorem q_176 : zTbl (Cond.fieldLink "TypeChain$Reader" (70 : Nat) "TypeChain$Reader" "from" "I") := ⟨ztin1 (List.mem_of_getElem? (i := 176) rfl), rfl⟩
theorem q_177 : zTbl (Cond.fieldLink "TypeChain$Reader" (37 : Nat) "TypeChain$Reader" "place" "I") := ⟨ztin1 (List.mem_of_getElem? (i := 177) rfl), rfl⟩
theorem q_178 : zTbl (Cond.fieldLink "TypeChain$Reader" (129 : Nat) "TypeChain$Reader" "number" "I") := ⟨ztin1 (List.mem_of_getElem? (i := 178) rfl), rfl⟩
theorem q_179 : zTbl (Cond.fieldLink "TypeChain$Reader" (43 : Nat) "TypeChain$Reader" "wordsTold" "I") := ⟨ztin1 (List.mem_of_getElem? (i := 179) rfl), rfl⟩
theorem q_180 : zTbl (Cond.fieldLink "TypeChain$Reader" (15 : Nat) "TypeChain$Reader" "laterFault" "[I") := ⟨ztin1 (List.mem_of_getElem? (i := 180) rfl), rfl⟩
theorem q_181 : zTbl (Cond.fieldLink "TypeChain$Reader" (19 : Nat) "TypeChain$Reader" "laterReach" "[I") := ⟨ztin1 (List.mem_of_getElem? (i := 181) rfl), rfl⟩
theorem q_182 : zTbl (Cond.fieldLink "TypeChain$Reader" (22 : Nat) "TypeChain$Reader" "laterPlace" "[I") := ⟨ztin1 (List.mem_of_getElem? (i := 182) rfl), rfl⟩
theorem q_183 : zTbl (Cond.fieldLink "TypeChain$Reader" (46 : Nat) "TypeChain$Reader" "laterSize" "I") := ⟨ztin1 (List.mem_of_getElem? (i := 183) rfl), rfl⟩
theorem q_184 : zTbl (Cond.laysFinal "TypeChain$Reader" "TypeChain$Reader" "bytes" "[B") := ⟨ztin1 (List.mem_of_getElem? (i := 184) rfl), rfl⟩
theorem q_185 : Cond.soleField "TypeChain$Reader" "bytes" ∈ lw_tbl := ztin1 (List.mem_of_getElem? (i := 185) rfl)
theorem q_186 : zTbl (Cond.lays "TypeChain$Reader" "TypeChain$Reader" "length" "I") := ⟨ztin1 (List.mem_of_getElem? (i := 186) rfl), rfl⟩
theorem q_187 : Cond.soleField "TypeChain$Reader" "length" ∈ lw_tbl := ztin1 (List.mem_of_getElem? (i := 187) rfl)
theorem q_188 : zTbl (Cond.lays "TypeChain$Reader" "TypeChain$Reader" "fault" "I") := ⟨ztin1 (List.mem_of_getElem? (i := 188) rfl), rfl⟩
theorem q_189 : Cond.soleField "TypeChain$Reader" "fault" ∈ lw_tbl := ztin1 (List.mem_of_getElem? (i := 189) rfl)
theorem q_190 : zTbl (Cond.lays "TypeChain$Reader" "TypeChain$Reader" "faultPlace" "I") := ⟨ztin1 (List.mem_of_getElem? (i := 190) rfl), rfl⟩
theorem q_191 : Cond.soleField "TypeChain$Reader" "faultPlace" ∈ lw_tbl := ztin1 (List.mem_of_getElem? (i := 191) rfl)
theorem q_192 : zTbl (Cond.lays "TypeChain$Reader" "TypeChain$Reader" "lines" "I") := ⟨ztin1 (List.mem_of_getElem? (i := 192) rfl), rfl⟩
theorem q_193 : Cond.soleField "TypeChain$Reader" "lines" ∈ lw_tbl := ztin1 (List.mem_of_getElem? (i := 193) rfl)
theorem q_194 : zTbl (Cond.lays "TypeChain$Reader" "TypeChain$Reader" "kind" "I") := ⟨ztin1 (List.mem_of_getElem? (i := 194) rfl), rfl⟩
theorem q_195 : Cond.soleField "TypeChain$Reader" "kind" ∈ lw_tbl := ztin1 (List.mem_of_getElem? (i := 195) rfl)
theorem q_196 : zTbl (Cond.lays "TypeChain$Reader" "TypeChain$Reader" "from" "I") := ⟨ztin1 (List.mem_of_getElem? (i := 196) rfl), rfl⟩
theorem q_197 : Cond.soleField "TypeChain$Reader" "from" ∈ lw_tbl := ztin1 (List.mem_of_getElem? (i := 197) rfl)
theorem q_198 : zTbl (Cond.lays "TypeChain$Reader" "TypeChain$Reader" "place" "I") := ⟨ztin1 (List.mem_of_getElem? (i := 198) rfl), rfl⟩
theorem q_199 : Cond.soleField "TypeChain$Reader" "place" ∈ lw_tbl := ztin1 (List.mem_of_getElem? (i := 199) rfl)
theorem q_200 : zTbl (Cond.lays "TypeChain$Reader" "TypeChain$Reader" "number" "I") := ⟨ztin1 (List.mem_of_getElem? (i := 200) rfl), rfl⟩
theorem q_201 : Cond.soleField "TypeChain$Reader" "number" ∈ lw_tbl := ztin1 (List.mem_of_getElem? (i := 201) rfl)
theorem q_202 : zTbl (Cond.lays "TypeChain$Reader" "TypeChain$Reader" "wordsTold" "I") := ⟨ztin1 (List.mem_of_getElem? (i := 202) rfl), rfl⟩
theorem q_203 : Cond.soleField "TypeChain$Reader" "wordsTold" ∈ lw_tbl := ztin1 (List.mem_of_getElem? (i := 203) rfl)
theorem q_204 : zTbl (Cond.laysFinal "TypeChain$Reader" "TypeChain$Reader" "laterFault" "[I") := ⟨ztin1 (List.mem_of_getElem? (i := 204) rfl), rfl⟩
theorem q_205 : Cond.soleField "TypeChain$Reader" "laterFault" ∈ lw_tbl := ztin1 (List.mem_of_getElem? (i := 205) rfl)
theorem q_206 : zTbl (Cond.laysFinal "TypeChain$Reader" "TypeChain$Reader" "laterReach" "[I") := ⟨ztin1 (List.mem_of_getElem? (i := 206) rfl), rfl⟩
theorem q_207 : Cond.soleField "TypeChain$Reader" "laterReach" ∈ lw_tbl := ztin1 (List.mem_of_getElem? (i := 207) rfl)
theorem q_208 : zTbl (Cond.laysFinal "TypeChain$Reader" "TypeChain$Reader" "laterPlace" "[I") := ⟨ztin1 (List.mem_of_getElem? (i := 208) rfl), rfl⟩
theorem q_209 : Cond.soleField "TypeChain$Reader" "laterPlace" ∈ lw_tbl := ztin1 (List.mem_of_getElem? (i := 209) rfl)
theorem q_210 : zTbl (Cond.lays "TypeChain$Reader" "TypeChain$Reader" "laterSize" "I") := ⟨ztin1 (List.mem_of_getElem? (i := 210) rfl), rfl⟩
theorem q_211 : Cond.soleField "TypeChain$Reader" "laterSize" ∈ lw_tbl := ztin1 (List.mem_of_getElem? (i := 211) rfl)
theorem q_212 : zTbl (Cond.superclass "TypeChain$Reader" "java/lang/Object") := ⟨ztin1 (List.mem_of_getElem? (i := 212) rfl), rfl⟩
theorem q_213 : zTbl (Cond.arrayClass FieldType.byte) := ⟨ztin1 (List.mem_of_getElem? (i := 213) rfl), rfl⟩
theorem q_214 : zTbl (Cond.classLink "TypeChain" (26 : Nat) "TypeChain$Page") := ⟨ztin1 (List.mem_of_getElem? (i := 214) rfl), rfl⟩
theorem q_215 : zTbl (Cond.instantiable "TypeChain$Page" (2 : Nat)) := ⟨ztin1 (List.mem_of_getElem? (i := 215) rfl), rfl⟩
theorem q_216 : zTbl (Cond.methodLinkNest "TypeChain" (28 : Nat) ({ cls := "TypeChain$Page", name := "<init>", desc := "()V" } : MethodName) "TypeChain") := ⟨ztin1 (List.mem_of_getElem? (i := 216) rfl), rfl⟩
theorem q_217 : zTbl (Cond.instanceMethod ({ cls := "TypeChain$Page", name := "<init>", desc := "()V" } : MethodName)) := ⟨ztin1 (List.mem_of_getElem? (i := 217) rfl), rfl⟩
theorem q_218 : zTbl (Cond.code ({ cls := "TypeChain$Page", name := "<init>", desc := "()V" } : MethodName) prog_3_method_1_code (1 : Nat) (Option.none : Option Jvm.ClassFile.FieldType)) := ⟨ztin1 (List.mem_of_getElem? (i := 218) rfl), rfl⟩
theorem q_219 : zTbl (Cond.methodLink "TypeChain$Page" (3 : Nat) ({ cls := "java/lang/Object", name := "<init>", desc := "()V" } : MethodName)) := ⟨ztin1 (List.mem_of_getElem? (i := 219) rfl), rfl⟩
theorem q_220 : zTbl (Cond.fieldLink "TypeChain$Page" (9 : Nat) "TypeChain$Page" "letters" "[I") := ⟨ztin1 (List.mem_of_getElem? (i := 220) rfl), rfl⟩
theorem q_221 : zTbl (Cond.fieldLink "TypeChain" (214 : Nat) "TypeChain$Page" "letters" "[I") := ⟨ztin1 (List.mem_of_getElem? (i := 221) rfl), rfl⟩
theorem q_222 : zTbl (Cond.fieldLink "TypeChain$Page" (15 : Nat) "TypeChain$Page" "times" "[I") := ⟨ztin1 (List.mem_of_getElem? (i := 222) rfl), rfl⟩
theorem q_223 : zTbl (Cond.fieldLink "TypeChain" (215 : Nat) "TypeChain$Page" "times" "[I") := ⟨ztin1 (List.mem_of_getElem? (i := 223) rfl), rfl⟩
theorem q_224 : zTbl (Cond.laysFinal "TypeChain$Page" "TypeChain$Page" "letters" "[I") := ⟨ztin1 (List.mem_of_getElem? (i := 224) rfl), rfl⟩
theorem q_225 : Cond.soleField "TypeChain$Page" "letters" ∈ lw_tbl := ztin1 (List.mem_of_getElem? (i := 225) rfl)
theorem q_226 : zTbl (Cond.laysFinal "TypeChain$Page" "TypeChain$Page" "times" "[I") := ⟨ztin1 (List.mem_of_getElem? (i := 226) rfl), rfl⟩
theorem q_227 : Cond.soleField "TypeChain$Page" "times" ∈ lw_tbl := ztin1 (List.mem_of_getElem? (i := 227) rfl)
theorem q_228 : zTbl (Cond.superclass "TypeChain$Page" "java/lang/Object") := ⟨ztin1 (List.mem_of_getElem? (i := 228) rfl), rfl⟩
theorem q_229 : zTbl (Cond.classLink "TypeChain" (33 : Nat) "TypeChain$Printer") := ⟨ztin1 (List.mem_of_getElem? (i := 229) rfl), rfl⟩
theorem q_230 : zTbl (Cond.instantiable "TypeChain$Printer" (9 : Nat)) := ⟨ztin1 (List.mem_of_getElem? (i := 230) rfl), rfl⟩
theorem q_231 : zTbl (Cond.methodLink "TypeChain" (39 : Nat) ({ cls := "TypeChain$Printer", name := "<init>", desc := "(LTypeChain$Page;LTypeChain$Rules;LTypeChain$Chain;)V" } : MethodName)) := ⟨ztin1 (List.mem_of_getElem? (i := 231) rfl), rfl⟩
theorem q_232 : zTbl (Cond.instanceMethod ({ cls := "TypeChain$Printer", name := "<init>", desc := "(LTypeChain$Page;LTypeChain$Rules;LTypeChain$Chain;)V" } : MethodName)) := ⟨ztin1 (List.mem_of_getElem? (i := 232) rfl), rfl⟩
theorem q_233 : zTbl (Cond.code ({ cls := "TypeChain$Printer", name := "<init>", desc := "(LTypeChain$Page;LTypeChain$Rules;LTypeChain$Chain;)V" } : MethodName) prog_4_method_1_code (4 : Nat) (Option.none : Option Jvm.ClassFile.FieldType)) := ⟨ztin1 (List.mem_of_getElem? (i := 233) rfl), rfl⟩
theorem q_234 : zTbl (Cond.methodLink "TypeChain$Printer" (3 : Nat) ({ cls := "java/lang/Object", name := "<init>", desc := "()V" } : MethodName)) := ⟨ztin1 (List.mem_of_getElem? (i := 234) rfl), rfl⟩
theorem q_235 : zTbl (Cond.classLink "TypeChain$Printer" (15 : Nat) "TypeChain$Strike") := ⟨ztin1 (List.mem_of_getElem? (i := 235) rfl), rfl⟩
theorem q_236 : zTbl (Cond.instantiable "TypeChain$Strike" (9 : Nat)) := ⟨ztin1 (List.mem_of_getElem? (i := 236) rfl), rfl⟩
theorem q_237 : zTbl (Cond.methodLinkNest "TypeChain$Printer" (17 : Nat) ({ cls := "TypeChain$Strike", name := "<init>", desc := "()V" } : MethodName) "TypeChain") := ⟨ztin1 (List.mem_of_getElem? (i := 237) rfl), rfl⟩
theorem q_238 : zTbl (Cond.instanceMethod ({ cls := "TypeChain$Strike", name := "<init>", desc := "()V" } : MethodName)) := ⟨ztin1 (List.mem_of_getElem? (i := 238) rfl), rfl⟩
theorem q_239 : zTbl (Cond.code ({ cls := "TypeChain$Strike", name := "<init>", desc := "()V" } : MethodName) prog_9_method_1_code (1 : Nat) (Option.none : Option Jvm.ClassFile.FieldType)) := ⟨ztin1 (List.mem_of_getElem? (i := 239) rfl), rfl⟩
theorem q_240 : zTbl (Cond.methodLink "TypeChain$Strike" (3 : Nat) ({ cls := "java/lang/Object", name := "<init>", desc := "()V" } : MethodName)) := ⟨ztin2 (List.mem_of_getElem? (i := 0) rfl), rfl⟩
theorem q_241 : zTbl (Cond.fieldLink "TypeChain$Strike" (9 : Nat) "TypeChain$Strike" "tickOf" "[I") := ⟨ztin2 (List.mem_of_getElem? (i := 1) rfl), rfl⟩
theorem q_242 : zTbl (Cond.fieldLink "TypeChain" (184 : Nat) "TypeChain$Strike" "tickOf" "[I") := ⟨ztin2 (List.mem_of_getElem? (i := 2) rfl), rfl⟩
theorem q_243 : zTbl (Cond.fieldLink "TypeChain$Strike" (15 : Nat) "TypeChain$Strike" "told" "[I") := ⟨ztin2 (List.mem_of_getElem? (i := 3) rfl), rfl⟩
theorem q_244 : zTbl (Cond.fieldLink "TypeChain" (191 : Nat) "TypeChain$Strike" "told" "[I") := ⟨ztin2 (List.mem_of_getElem? (i := 4) rfl), rfl⟩
theorem q_245 : zTbl (Cond.fieldLink "TypeChain$Printer" (51 : Nat) "TypeChain$Strike" "wasMade" "Z") := ⟨ztin2 (List.mem_of_getElem? (i := 5) rfl), rfl⟩
theorem q_246 : zTbl (Cond.fieldLink "TypeChain$Strike" (50 : Nat) "TypeChain$Strike" "wasMade" "Z") := ⟨ztin2 (List.mem_of_getElem? (i := 6) rfl), rfl⟩
theorem q_247 : zTbl (Cond.fieldLink "TypeChain" (164 : Nat) "TypeChain$Strike" "wasMade" "Z") := ⟨ztin2 (List.mem_of_getElem? (i := 7) rfl), rfl⟩
theorem q_248 : zTbl (Cond.fieldLink "TypeChain$Strike" (57 : Nat) "TypeChain$Strike" "total" "I") := ⟨ztin2 (List.mem_of_getElem? (i := 8) rfl), rfl⟩
theorem q_249 : zTbl (Cond.fieldLink "TypeChain" (168 : Nat) "TypeChain$Strike" "total" "I") := ⟨ztin2 (List.mem_of_getElem? (i := 9) rfl), rfl⟩
theorem q_250 : zTbl (Cond.fieldLink "TypeChain$Strike" (54 : Nat) "TypeChain$Strike" "most" "I") := ⟨ztin2 (List.mem_of_getElem? (i := 10) rfl), rfl⟩
theorem q_251 : zTbl (Cond.fieldLink "TypeChain" (171 : Nat) "TypeChain$Strike" "most" "I") := ⟨ztin2 (List.mem_of_getElem? (i := 11) rfl), rfl⟩
theorem q_252 : zTbl (Cond.fieldLink "TypeChain$Strike" (40 : Nat) "TypeChain$Strike" "waited" "J") := ⟨ztin2 (List.mem_of_getElem? (i := 12) rfl), rfl⟩
theorem q_253 : zTbl (Cond.fieldLink "TypeChain" (174 : Nat) "TypeChain$Strike" "waited" "J") := ⟨ztin2 (List.mem_of_getElem? (i := 13) rfl), rfl⟩
theorem q_254 : zTbl (Cond.fieldLink "TypeChain$Strike" (18 : Nat) "TypeChain$Strike" "open" "[I") := ⟨ztin2 (List.mem_of_getElem? (i := 14) rfl), rfl⟩
theorem q_255 : zTbl (Cond.fieldLink "TypeChain$Strike" (21 : Nat) "TypeChain$Strike" "due" "[I") := ⟨ztin2 (List.mem_of_getElem? (i := 15) rfl), rfl⟩
theorem q_256 : zTbl (Cond.fieldLink "TypeChain$Strike" (28 : Nat) "TypeChain$Strike" "left" "I") := ⟨ztin2 (List.mem_of_getElem? (i := 16) rfl), rfl⟩
theorem q_257 : zTbl (Cond.laysFinal "TypeChain$Strike" "TypeChain$Strike" "tickOf" "[I") := ⟨ztin2 (List.mem_of_getElem? (i := 17) rfl), rfl⟩
theorem q_258 : Cond.soleField "TypeChain$Strike" "tickOf" ∈ lw_tbl := ztin2 (List.mem_of_getElem? (i := 18) rfl)
theorem q_259 : zTbl (Cond.laysFinal "TypeChain$Strike" "TypeChain$Strike" "told" "[I") := ⟨ztin2 (List.mem_of_getElem? (i := 19) rfl), rfl⟩
theorem q_260 : Cond.soleField "TypeChain$Strike" "told" ∈ lw_tbl := ztin2 (List.mem_of_getElem? (i := 20) rfl)
theorem q_261 : zTbl (Cond.lays "TypeChain$Strike" "TypeChain$Strike" "wasMade" "Z") := ⟨ztin2 (List.mem_of_getElem? (i := 21) rfl), rfl⟩
theorem q_262 : Cond.soleField "TypeChain$Strike" "wasMade" ∈ lw_tbl := ztin2 (List.mem_of_getElem? (i := 22) rfl)
theorem q_263 : zTbl (Cond.lays "TypeChain$Strike" "TypeChain$Strike" "total" "I") := ⟨ztin2 (List.mem_of_getElem? (i := 23) rfl), rfl⟩
theorem q_264 : Cond.soleField "TypeChain$Strike" "total" ∈ lw_tbl := ztin2 (List.mem_of_getElem? (i := 24) rfl)
theorem q_265 : zTbl (Cond.lays "TypeChain$Strike" "TypeChain$Strike" "most" "I") := ⟨ztin2 (List.mem_of_getElem? (i := 25) rfl), rfl⟩
theorem q_266 : Cond.soleField "TypeChain$Strike" "most" ∈ lw_tbl := ztin2 (List.mem_of_getElem? (i := 26) rfl)
theorem q_267 : zTbl (Cond.lays "TypeChain$Strike" "TypeChain$Strike" "waited" "J") := ⟨ztin2 (List.mem_of_getElem? (i := 27) rfl), rfl⟩
theorem q_268 : Cond.soleField "TypeChain$Strike" "waited" ∈ lw_tbl := ztin2 (List.mem_of_getElem? (i := 28) rfl)
theorem q_269 : zTbl (Cond.laysFinal "TypeChain$Strike" "TypeChain$Strike" "open" "[I") := ⟨ztin2 (List.mem_of_getElem? (i := 29) rfl), rfl⟩
theorem q_270 : Cond.soleField "TypeChain$Strike" "open" ∈ lw_tbl := ztin2 (List.mem_of_getElem? (i := 30) rfl)
theorem q_271 : zTbl (Cond.laysFinal "TypeChain$Strike" "TypeChain$Strike" "due" "[I") := ⟨ztin2 (List.mem_of_getElem? (i := 31) rfl), rfl⟩
theorem q_272 : Cond.soleField "TypeChain$Strike" "due" ∈ lw_tbl := ztin2 (List.mem_of_getElem? (i := 32) rfl)
theorem q_273 : zTbl (Cond.lays "TypeChain$Strike" "TypeChain$Strike" "left" "I") := ⟨ztin2 (List.mem_of_getElem? (i := 33) rfl), rfl⟩
theorem q_274 : Cond.soleField "TypeChain$Strike" "left" ∈ lw_tbl := ztin2 (List.mem_of_getElem? (i := 34) rfl)
theorem q_275 : zTbl (Cond.superclass "TypeChain$Strike" "java/lang/Object") := ⟨ztin2 (List.mem_of_getElem? (i := 35) rfl), rfl⟩
theorem q_276 : zTbl (Cond.methodLink "TypeChain$Printer" (26 : Nat) ({ cls := "TypeChain$Printer", name := "begin", desc := "(LTypeChain$Rules;LTypeChain$Chain;)V" } : MethodName)) := ⟨ztin2 (List.mem_of_getElem? (i := 36) rfl), rfl⟩
theorem q_277 : zTbl (Cond.instanceMethod ({ cls := "TypeChain$Printer", name := "begin", desc := "(LTypeChain$Rules;LTypeChain$Chain;)V" } : MethodName)) := ⟨ztin2 (List.mem_of_getElem? (i := 37) rfl), rfl⟩
theorem q_278 : zTbl (Cond.selects "TypeChain$Printer" ({ cls := "TypeChain$Printer", name := "begin", desc := "(LTypeChain$Rules;LTypeChain$Chain;)V" } : MethodName) ({ cls := "TypeChain$Printer", name := "begin", desc := "(LTypeChain$Rules;LTypeChain$Chain;)V" } : MethodName)) := ⟨ztin2 (List.mem_of_getElem? (i := 38) rfl), rfl⟩
theorem q_279 : zTbl (Cond.code ({ cls := "TypeChain$Printer", name := "begin", desc := "(LTypeChain$Rules;LTypeChain$Chain;)V" } : MethodName) prog_4_method_2_code (3 : Nat) (Option.none : Option Jvm.ClassFile.FieldType)) := ⟨ztin2 (List.mem_of_getElem? (i := 39) rfl), rfl⟩
theorem q_280 : zTbl (Cond.methodLink "TypeChain$Printer" (55 : Nat) ({ cls := "java/util/Arrays", name := "fill", desc := "([II)V" } : MethodName)) := ⟨ztin2 (List.mem_of_getElem? (i := 40) rfl), rfl⟩
theorem q_281 : zTbl (Cond.methodLink "TypeChain$Printer" (61 : Nat) ({ cls := "TypeChain$Page", name := "clear", desc := "()V" } : MethodName)) := ⟨ztin2 (List.mem_of_getElem? (i := 41) rfl), rfl⟩
theorem q_282 : zTbl (Cond.instanceMethod ({ cls := "TypeChain$Page", name := "clear", desc := "()V" } : MethodName)) := ⟨ztin2 (List.mem_of_getElem? (i := 42) rfl), rfl⟩
theorem q_283 : zTbl (Cond.selects "TypeChain$Page" ({ cls := "TypeChain$Page", name := "clear", desc := "()V" } : MethodName) ({ cls := "TypeChain$Page", name := "clear", desc := "()V" } : MethodName)) := ⟨ztin2 (List.mem_of_getElem? (i := 43) rfl), rfl⟩
theorem q_284 : zTbl (Cond.code ({ cls := "TypeChain$Page", name := "clear", desc := "()V" } : MethodName) prog_3_method_2_code (1 : Nat) (Option.none : Option Jvm.ClassFile.FieldType)) := ⟨ztin2 (List.mem_of_getElem? (i := 44) rfl), rfl⟩
theorem q_285 : zTbl (Cond.methodLink "TypeChain$Page" (18 : Nat) ({ cls := "java/util/Arrays", name := "fill", desc := "([II)V" } : MethodName)) := ⟨ztin2 (List.mem_of_getElem? (i := 45) rfl), rfl⟩
theorem q_286 : zTbl (Cond.fieldLink "TypeChain$Printer" (9 : Nat) "TypeChain$Printer" "letters" "[I") := ⟨ztin2 (List.mem_of_getElem? (i := 46) rfl), rfl⟩
theorem q_287 : zTbl (Cond.fieldLink "TypeChain" (144 : Nat) "TypeChain$Printer" "letters" "[I") := ⟨ztin2 (List.mem_of_getElem? (i := 47) rfl), rfl⟩
theorem q_288 : zTbl (Cond.fieldLink "TypeChain$Printer" (18 : Nat) "TypeChain$Printer" "strike" "LTypeChain$Strike;") := ⟨ztin2 (List.mem_of_getElem? (i := 48) rfl), rfl⟩
theorem q_289 : zTbl (Cond.fieldLink "TypeChain" (150 : Nat) "TypeChain$Printer" "strike" "LTypeChain$Strike;") := ⟨ztin2 (List.mem_of_getElem? (i := 49) rfl), rfl⟩
theorem q_290 : zTbl (Cond.fieldLink "TypeChain$Printer" (38 : Nat) "TypeChain$Printer" "tick" "I") := ⟨ztin2 (List.mem_of_getElem? (i := 50) rfl), rfl⟩
theorem q_291 : zTbl (Cond.fieldLink "TypeChain$Trials" (100 : Nat) "TypeChain$Printer" "tick" "I") := ⟨ztin2 (List.mem_of_getElem? (i := 51) rfl), rfl⟩
theorem q_292 : zTbl (Cond.fieldLink "TypeChain" (141 : Nat) "TypeChain$Printer" "tick" "I") := ⟨ztin2 (List.mem_of_getElem? (i := 52) rfl), rfl⟩
theorem q_293 : zTbl (Cond.fieldLink "TypeChain$Printer" (42 : Nat) "TypeChain$Printer" "row" "I") := ⟨ztin2 (List.mem_of_getElem? (i := 53) rfl), rfl⟩
theorem q_294 : zTbl (Cond.fieldLink "TypeChain" (205 : Nat) "TypeChain$Printer" "row" "I") := ⟨ztin2 (List.mem_of_getElem? (i := 54) rfl), rfl⟩
theorem q_295 : zTbl (Cond.fieldLink "TypeChain$Printer" (45 : Nat) "TypeChain$Printer" "pages" "I") := ⟨ztin2 (List.mem_of_getElem? (i := 55) rfl), rfl⟩
theorem q_296 : zTbl (Cond.fieldLink "TypeChain" (208 : Nat) "TypeChain$Printer" "pages" "I") := ⟨ztin2 (List.mem_of_getElem? (i := 56) rfl), rfl⟩
theorem q_297 : zTbl (Cond.fieldLink "TypeChain$Printer" (48 : Nat) "TypeChain$Printer" "linesStruck" "I") := ⟨ztin2 (List.mem_of_getElem? (i := 57) rfl), rfl⟩
theorem q_298 : zTbl (Cond.fieldLink "TypeChain" (218 : Nat) "TypeChain$Printer" "linesStruck" "I") := ⟨ztin2 (List.mem_of_getElem? (i := 58) rfl), rfl⟩
theorem q_299 : zTbl (Cond.fieldLink "TypeChain$Printer" (22 : Nat) "TypeChain$Printer" "page" "LTypeChain$Page;") := ⟨ztin2 (List.mem_of_getElem? (i := 59) rfl), rfl⟩
theorem q_300 : zTbl (Cond.fieldLink "TypeChain$Printer" (30 : Nat) "TypeChain$Printer" "rules" "LTypeChain$Rules;") := ⟨ztin2 (List.mem_of_getElem? (i := 60) rfl), rfl⟩
theorem q_301 : zTbl (Cond.fieldLink "TypeChain$Printer" (34 : Nat) "TypeChain$Printer" "chain" "LTypeChain$Chain;") := ⟨ztin2 (List.mem_of_getElem? (i := 61) rfl), rfl⟩
theorem q_302 : zTbl (Cond.laysFinal "TypeChain$Printer" "TypeChain$Printer" "letters" "[I") := ⟨ztin2 (List.mem_of_getElem? (i := 62) rfl), rfl⟩
theorem q_303 : Cond.soleField "TypeChain$Printer" "letters" ∈ lw_tbl := ztin2 (List.mem_of_getElem? (i := 63) rfl)
theorem q_304 : zTbl (Cond.laysFinal "TypeChain$Printer" "TypeChain$Printer" "strike" "LTypeChain$Strike;") := ⟨ztin2 (List.mem_of_getElem? (i := 64) rfl), rfl⟩
theorem q_305 : Cond.soleField "TypeChain$Printer" "strike" ∈ lw_tbl := ztin2 (List.mem_of_getElem? (i := 65) rfl)
theorem q_306 : zTbl (Cond.lays "TypeChain$Printer" "TypeChain$Printer" "tick" "I") := ⟨ztin2 (List.mem_of_getElem? (i := 66) rfl), rfl⟩
theorem q_307 : Cond.soleField "TypeChain$Printer" "tick" ∈ lw_tbl := ztin2 (List.mem_of_getElem? (i := 67) rfl)
theorem q_308 : zTbl (Cond.lays "TypeChain$Printer" "TypeChain$Printer" "row" "I") := ⟨ztin2 (List.mem_of_getElem? (i := 68) rfl), rfl⟩
theorem q_309 : Cond.soleField "TypeChain$Printer" "row" ∈ lw_tbl := ztin2 (List.mem_of_getElem? (i := 69) rfl)
theorem q_310 : zTbl (Cond.lays "TypeChain$Printer" "TypeChain$Printer" "pages" "I") := ⟨ztin2 (List.mem_of_getElem? (i := 70) rfl), rfl⟩
theorem q_311 : Cond.soleField "TypeChain$Printer" "pages" ∈ lw_tbl := ztin2 (List.mem_of_getElem? (i := 71) rfl)
theorem q_312 : zTbl (Cond.lays "TypeChain$Printer" "TypeChain$Printer" "linesStruck" "I") := ⟨ztin2 (List.mem_of_getElem? (i := 72) rfl), rfl⟩
theorem q_313 : Cond.soleField "TypeChain$Printer" "linesStruck" ∈ lw_tbl := ztin2 (List.mem_of_getElem? (i := 73) rfl)
theorem q_314 : zTbl (Cond.laysFinal "TypeChain$Printer" "TypeChain$Printer" "page" "LTypeChain$Page;") := ⟨ztin2 (List.mem_of_getElem? (i := 74) rfl), rfl⟩
theorem q_315 : Cond.soleField "TypeChain$Printer" "page" ∈ lw_tbl := ztin2 (List.mem_of_getElem? (i := 75) rfl)
theorem q_316 : zTbl (Cond.lays "TypeChain$Printer" "TypeChain$Printer" "rules" "LTypeChain$Rules;") := ⟨ztin2 (List.mem_of_getElem? (i := 76) rfl), rfl⟩
theorem q_317 : Cond.soleField "TypeChain$Printer" "rules" ∈ lw_tbl := ztin2 (List.mem_of_getElem? (i := 77) rfl)
theorem q_318 : zTbl (Cond.lays "TypeChain$Printer" "TypeChain$Printer" "chain" "LTypeChain$Chain;") := ⟨ztin2 (List.mem_of_getElem? (i := 78) rfl), rfl⟩
theorem q_319 : Cond.soleField "TypeChain$Printer" "chain" ∈ lw_tbl := ztin2 (List.mem_of_getElem? (i := 79) rfl)
theorem q_320 : zTbl (Cond.superclass "TypeChain$Printer" "java/lang/Object") := ⟨ztin2 (List.mem_of_getElem? (i := 80) rfl), rfl⟩
theorem q_321 : zTbl (Cond.classLink "TypeChain" (46 : Nat) "TypeChain$Trials") := ⟨ztin2 (List.mem_of_getElem? (i := 81) rfl), rfl⟩
theorem q_322 : zTbl (Cond.instantiable "TypeChain$Trials" (9 : Nat)) := ⟨ztin2 (List.mem_of_getElem? (i := 82) rfl), rfl⟩
theorem q_323 : zTbl (Cond.methodLink "TypeChain" (48 : Nat) ({ cls := "TypeChain$Trials", name := "<init>", desc := "(LTypeChain$Rules;)V" } : MethodName)) := ⟨ztin2 (List.mem_of_getElem? (i := 83) rfl), rfl⟩
theorem q_324 : zTbl (Cond.instanceMethod ({ cls := "TypeChain$Trials", name := "<init>", desc := "(LTypeChain$Rules;)V" } : MethodName)) := ⟨ztin2 (List.mem_of_getElem? (i := 84) rfl), rfl⟩
theorem q_325 : zTbl (Cond.code ({ cls := "TypeChain$Trials", name := "<init>", desc := "(LTypeChain$Rules;)V" } : MethodName) prog_10_method_1_code (2 : Nat) (Option.none : Option Jvm.ClassFile.FieldType)) := ⟨ztin2 (List.mem_of_getElem? (i := 85) rfl), rfl⟩
theorem q_326 : zTbl (Cond.methodLink "TypeChain$Trials" (3 : Nat) ({ cls := "java/lang/Object", name := "<init>", desc := "()V" } : MethodName)) := ⟨ztin2 (List.mem_of_getElem? (i := 86) rfl), rfl⟩
theorem q_327 : zTbl (Cond.classLink "TypeChain$Trials" (15 : Nat) "TypeChain$Chain") := ⟨ztin2 (List.mem_of_getElem? (i := 87) rfl), rfl⟩
theorem q_328 : zTbl (Cond.methodLinkNest "TypeChain$Trials" (17 : Nat) ({ cls := "TypeChain$Chain", name := "<init>", desc := "()V" } : MethodName) "TypeChain") := ⟨ztin2 (List.mem_of_getElem? (i := 88) rfl), rfl⟩
theorem q_329 : zTbl (Cond.classLink "TypeChain$Trials" (22 : Nat) "TypeChain$Printer") := ⟨ztin2 (List.mem_of_getElem? (i := 89) rfl), rfl⟩
theorem q_330 : zTbl (Cond.methodLink "TypeChain$Trials" (24 : Nat) ({ cls := "TypeChain$Printer", name := "<init>", desc := "(LTypeChain$Page;LTypeChain$Rules;LTypeChain$Chain;)V" } : MethodName)) := ⟨ztin2 (List.mem_of_getElem? (i := 90) rfl), rfl⟩
theorem q_331 : zTbl (Cond.fieldLink "TypeChain$Trials" (27 : Nat) "TypeChain$Trials" "printer" "LTypeChain$Printer;") := ⟨ztin2 (List.mem_of_getElem? (i := 91) rfl), rfl⟩
theorem q_332 : zTbl (Cond.fieldLink "TypeChain" (149 : Nat) "TypeChain$Trials" "printer" "LTypeChain$Printer;") := ⟨ztin2 (List.mem_of_getElem? (i := 92) rfl), rfl⟩
theorem q_333 : zTbl (Cond.fieldLink "TypeChain$Trials" (9 : Nat) "TypeChain$Trials" "orderLetters" "[I") := ⟨ztin2 (List.mem_of_getElem? (i := 93) rfl), rfl⟩
theorem q_334 : zTbl (Cond.fieldLink "TypeChain" (242 : Nat) "TypeChain$Trials" "orderLetters" "[I") := ⟨ztin2 (List.mem_of_getElem? (i := 94) rfl), rfl⟩
theorem q_335 : zTbl (Cond.fieldLink "TypeChain$Trials" (56 : Nat) "TypeChain$Trials" "orderTicks" "I") := ⟨ztin2 (List.mem_of_getElem? (i := 95) rfl), rfl⟩
theorem q_336 : zTbl (Cond.fieldLink "TypeChain" (239 : Nat) "TypeChain$Trials" "orderTicks" "I") := ⟨ztin2 (List.mem_of_getElem? (i := 96) rfl), rfl⟩
theorem q_337 : zTbl (Cond.fieldLink "TypeChain$Trials" (73 : Nat) "TypeChain$Trials" "doubleTicks" "I") := ⟨ztin2 (List.mem_of_getElem? (i := 97) rfl), rfl⟩
theorem q_338 : zTbl (Cond.fieldLink "TypeChain" (250 : Nat) "TypeChain$Trials" "doubleTicks" "I") := ⟨ztin2 (List.mem_of_getElem? (i := 98) rfl), rfl⟩
theorem q_339 : zTbl (Cond.fieldLink "TypeChain$Trials" (82 : Nat) "TypeChain$Trials" "doubleLetter" "I") := ⟨ztin2 (List.mem_of_getElem? (i := 99) rfl), rfl⟩
theorem q_340 : zTbl (Cond.fieldLink "TypeChain" (253 : Nat) "TypeChain$Trials" "doubleLetter" "I") := ⟨ztin2 (List.mem_of_getElem? (i := 100) rfl), rfl⟩
theorem q_341 : zTbl (Cond.fieldLink "TypeChain$Trials" (76 : Nat) "TypeChain$Trials" "singleTicks" "I") := ⟨ztin2 (List.mem_of_getElem? (i := 101) rfl), rfl⟩
theorem q_342 : zTbl (Cond.fieldLink "TypeChain" (256 : Nat) "TypeChain$Trials" "singleTicks" "I") := ⟨ztin2 (List.mem_of_getElem? (i := 102) rfl), rfl⟩
theorem q_343 : zTbl (Cond.fieldLink "TypeChain$Trials" (18 : Nat) "TypeChain$Trials" "chain" "LTypeChain$Chain;") := ⟨ztin2 (List.mem_of_getElem? (i := 103) rfl), rfl⟩
theorem q_344 : zTbl (Cond.fieldLink "TypeChain$Trials" (31 : Nat) "TypeChain$Trials" "orderKnown" "Z") := ⟨ztin2 (List.mem_of_getElem? (i := 104) rfl), rfl⟩
theorem q_345 : zTbl (Cond.fieldLink "TypeChain$Trials" (35 : Nat) "TypeChain$Trials" "doubleKnown" "Z") := ⟨ztin2 (List.mem_of_getElem? (i := 105) rfl), rfl⟩
theorem q_346 : zTbl (Cond.laysFinal "TypeChain$Trials" "TypeChain$Trials" "printer" "LTypeChain$Printer;") := ⟨ztin2 (List.mem_of_getElem? (i := 106) rfl), rfl⟩
theorem q_347 : Cond.soleField "TypeChain$Trials" "printer" ∈ lw_tbl := ztin2 (List.mem_of_getElem? (i := 107) rfl)
theorem q_348 : zTbl (Cond.laysFinal "TypeChain$Trials" "TypeChain$Trials" "orderLetters" "[I") := ⟨ztin2 (List.mem_of_getElem? (i := 108) rfl), rfl⟩
theorem q_349 : Cond.soleField "TypeChain$Trials" "orderLetters" ∈ lw_tbl := ztin2 (List.mem_of_getElem? (i := 109) rfl)
theorem q_350 : zTbl (Cond.lays "TypeChain$Trials" "TypeChain$Trials" "orderTicks" "I") := ⟨ztin2 (List.mem_of_getElem? (i := 110) rfl), rfl⟩
theorem q_351 : Cond.soleField "TypeChain$Trials" "orderTicks" ∈ lw_tbl := ztin2 (List.mem_of_getElem? (i := 111) rfl)
theorem q_352 : zTbl (Cond.lays "TypeChain$Trials" "TypeChain$Trials" "doubleTicks" "I") := ⟨ztin2 (List.mem_of_getElem? (i := 112) rfl), rfl⟩
theorem q_353 : Cond.soleField "TypeChain$Trials" "doubleTicks" ∈ lw_tbl := ztin2 (List.mem_of_getElem? (i := 113) rfl)
theorem q_354 : zTbl (Cond.lays "TypeChain$Trials" "TypeChain$Trials" "doubleLetter" "I") := ⟨ztin2 (List.mem_of_getElem? (i := 114) rfl), rfl⟩
theorem q_355 : Cond.soleField "TypeChain$Trials" "doubleLetter" ∈ lw_tbl := ztin2 (List.mem_of_getElem? (i := 115) rfl)
theorem q_356 : zTbl (Cond.lays "TypeChain$Trials" "TypeChain$Trials" "singleTicks" "I") := ⟨ztin2 (List.mem_of_getElem? (i := 116) rfl), rfl⟩
theorem q_357 : Cond.soleField "TypeChain$Trials" "singleTicks" ∈ lw_tbl := ztin2 (List.mem_of_getElem? (i := 117) rfl)
theorem q_358 : zTbl (Cond.laysFinal "TypeChain$Trials" "TypeChain$Trials" "chain" "LTypeChain$Chain;") := ⟨ztin2 (List.mem_of_getElem? (i := 118) rfl), rfl⟩
theorem q_359 : Cond.soleField "TypeChain$Trials" "chain" ∈ lw_tbl := ztin2 (List.mem_of_getElem? (i := 119) rfl)
theorem q_360 : zTbl (Cond.lays "TypeChain$Trials" "TypeChain$Trials" "orderKnown" "Z") := ⟨ztin2 (List.mem_of_getElem? (i := 120) rfl), rfl⟩
theorem q_361 : Cond.soleField "TypeChain$Trials" "orderKnown" ∈ lw_tbl := ztin2 (List.mem_of_getElem? (i := 121) rfl)
theorem q_362 : zTbl (Cond.lays "TypeChain$Trials" "TypeChain$Trials" "doubleKnown" "Z") := ⟨ztin2 (List.mem_of_getElem? (i := 122) rfl), rfl⟩
theorem q_363 : Cond.soleField "TypeChain$Trials" "doubleKnown" ∈ lw_tbl := ztin2 (List.mem_of_getElem? (i := 123) rfl)
theorem q_364 : zTbl (Cond.superclass "TypeChain$Trials" "java/lang/Object") := ⟨ztin2 (List.mem_of_getElem? (i := 124) rfl), rfl⟩
theorem q_365 : zTbl (Cond.classLink "TypeChain" (55 : Nat) "TypeChain$Sheets") := ⟨ztin2 (List.mem_of_getElem? (i := 125) rfl), rfl⟩
theorem q_366 : zTbl (Cond.instantiable "TypeChain$Sheets" (3 : Nat)) := ⟨ztin2 (List.mem_of_getElem? (i := 126) rfl), rfl⟩
theorem q_367 : zTbl (Cond.methodLink "TypeChain" (57 : Nat) ({ cls := "TypeChain$Sheets", name := "<init>", desc := "()V" } : MethodName)) := ⟨ztin2 (List.mem_of_getElem? (i := 127) rfl), rfl⟩
theorem q_368 : zTbl (Cond.instanceMethod ({ cls := "TypeChain$Sheets", name := "<init>", desc := "()V" } : MethodName)) := ⟨ztin2 (List.mem_of_getElem? (i := 128) rfl), rfl⟩
theorem q_369 : zTbl (Cond.code ({ cls := "TypeChain$Sheets", name := "<init>", desc := "()V" } : MethodName) prog_8_method_1_code (1 : Nat) (Option.none : Option Jvm.ClassFile.FieldType)) := ⟨ztin2 (List.mem_of_getElem? (i := 129) rfl), rfl⟩
theorem q_370 : zTbl (Cond.methodLink "TypeChain$Sheets" (3 : Nat) ({ cls := "java/lang/Object", name := "<init>", desc := "()V" } : MethodName)) := ⟨ztin2 (List.mem_of_getElem? (i := 130) rfl), rfl⟩
theorem q_371 : zTbl (Cond.methodLink "TypeChain$Sheets" (21 : Nat) ({ cls := "java/util/Arrays", name := "fill", desc := "([II)V" } : MethodName)) := ⟨ztin2 (List.mem_of_getElem? (i := 131) rfl), rfl⟩
theorem q_372 : zTbl (Cond.fieldLink "TypeChain$Sheets" (9 : Nat) "TypeChain$Sheets" "lanes" "[I") := ⟨ztin2 (List.mem_of_getElem? (i := 132) rfl), rfl⟩
theorem q_373 : zTbl (Cond.fieldLink "TypeChain" (280 : Nat) "TypeChain$Sheets" "lanes" "[I") := ⟨ztin2 (List.mem_of_getElem? (i := 133) rfl), rfl⟩
theorem q_374 : zTbl (Cond.fieldLink "TypeChain$Sheets" (15 : Nat) "TypeChain$Sheets" "sizes" "[I") := ⟨ztin2 (List.mem_of_getElem? (i := 134) rfl), rfl⟩
theorem q_375 : zTbl (Cond.fieldLink "TypeChain" (299 : Nat) "TypeChain$Sheets" "sizes" "[I") := ⟨ztin2 (List.mem_of_getElem? (i := 135) rfl), rfl⟩
theorem q_376 : zTbl (Cond.fieldLink "TypeChain$Sheets" (18 : Nat) "TypeChain$Sheets" "cells" "[I") := ⟨ztin2 (List.mem_of_getElem? (i := 136) rfl), rfl⟩
theorem q_377 : zTbl (Cond.laysFinal "TypeChain$Sheets" "TypeChain$Sheets" "lanes" "[I") := ⟨ztin2 (List.mem_of_getElem? (i := 137) rfl), rfl⟩
theorem q_378 : Cond.soleField "TypeChain$Sheets" "lanes" ∈ lw_tbl := ztin2 (List.mem_of_getElem? (i := 138) rfl)
theorem q_379 : zTbl (Cond.laysFinal "TypeChain$Sheets" "TypeChain$Sheets" "sizes" "[I") := ⟨ztin2 (List.mem_of_getElem? (i := 139) rfl), rfl⟩
theorem q_380 : Cond.soleField "TypeChain$Sheets" "sizes" ∈ lw_tbl := ztin2 (List.mem_of_getElem? (i := 140) rfl)
theorem q_381 : zTbl (Cond.laysFinal "TypeChain$Sheets" "TypeChain$Sheets" "cells" "[I") := ⟨ztin2 (List.mem_of_getElem? (i := 141) rfl), rfl⟩
theorem q_382 : Cond.soleField "TypeChain$Sheets" "cells" ∈ lw_tbl := ztin2 (List.mem_of_getElem? (i := 142) rfl)
theorem q_383 : zTbl (Cond.superclass "TypeChain$Sheets" "java/lang/Object") := ⟨ztin2 (List.mem_of_getElem? (i := 143) rfl), rfl⟩
theorem q_384 : zTbl (Cond.fieldLink "TypeChain" (12 : Nat) "TypeChain" "rules" "LTypeChain$Rules;") := ⟨ztin2 (List.mem_of_getElem? (i := 144) rfl), rfl⟩
theorem q_385 : zTbl (Cond.fieldLink "TypeChain" (16 : Nat) "TypeChain" "draft" "LTypeChain$Rules;") := ⟨ztin2 (List.mem_of_getElem? (i := 145) rfl), rfl⟩
theorem q_386 : zTbl (Cond.fieldLink "TypeChain" (22 : Nat) "TypeChain" "reader" "LTypeChain$Reader;") := ⟨ztin2 (List.mem_of_getElem? (i := 146) rfl), rfl⟩
theorem q_387 : zTbl (Cond.fieldLink "TypeChain" (29 : Nat) "TypeChain" "paper" "LTypeChain$Page;") := ⟨ztin2 (List.mem_of_getElem? (i := 147) rfl), rfl⟩
theorem q_388 : zTbl (Cond.fieldLink "TypeChain" (42 : Nat) "TypeChain" "printer" "LTypeChain$Printer;") := ⟨ztin2 (List.mem_of_getElem? (i := 148) rfl), rfl⟩
theorem q_389 : zTbl (Cond.fieldLink "TypeChain" (51 : Nat) "TypeChain" "trials" "LTypeChain$Trials;") := ⟨ztin2 (List.mem_of_getElem? (i := 149) rfl), rfl⟩
theorem q_390 : zTbl (Cond.fieldLink "TypeChain" (58 : Nat) "TypeChain" "sheets" "LTypeChain$Sheets;") := ⟨ztin2 (List.mem_of_getElem? (i := 150) rfl), rfl⟩
theorem q_391 : zTbl (Cond.fieldLink "TypeChain" (224 : Nat) "TypeChain" "wasRun" "Z") := ⟨ztin2 (List.mem_of_getElem? (i := 151) rfl), rfl⟩
theorem q_392 : zTbl (Cond.fieldLink "TypeChain" (227 : Nat) "TypeChain" "ranTicks" "I") := ⟨ztin2 (List.mem_of_getElem? (i := 152) rfl), rfl⟩
theorem q_393 : zTbl (Cond.fieldLink "TypeChain" (230 : Nat) "TypeChain" "ranLines" "I") := ⟨ztin2 (List.mem_of_getElem? (i := 153) rfl), rfl⟩
theorem q_394 : zTbl (Cond.fieldLink "TypeChain" (233 : Nat) "TypeChain" "ranEnd" "I") := ⟨ztin2 (List.mem_of_getElem? (i := 154) rfl), rfl⟩
theorem q_395 : zTbl (Cond.lays "TypeChain" "TypeChain" "rules" "LTypeChain$Rules;") := ⟨ztin2 (List.mem_of_getElem? (i := 155) rfl), rfl⟩
theorem q_396 : Cond.soleField "TypeChain" "rules" ∈ lw_tbl := ztin2 (List.mem_of_getElem? (i := 156) rfl)
theorem q_397 : zTbl (Cond.lays "TypeChain" "TypeChain" "draft" "LTypeChain$Rules;") := ⟨ztin2 (List.mem_of_getElem? (i := 157) rfl), rfl⟩
theorem q_398 : Cond.soleField "TypeChain" "draft" ∈ lw_tbl := ztin2 (List.mem_of_getElem? (i := 158) rfl)
theorem q_399 : zTbl (Cond.laysFinal "TypeChain" "TypeChain" "reader" "LTypeChain$Reader;") := ⟨ztin2 (List.mem_of_getElem? (i := 159) rfl), rfl⟩
theorem q_400 : Cond.soleField "TypeChain" "reader" ∈ lw_tbl := ztin2 (List.mem_of_getElem? (i := 160) rfl)
theorem q_401 : zTbl (Cond.laysFinal "TypeChain" "TypeChain" "paper" "LTypeChain$Page;") := ⟨ztin2 (List.mem_of_getElem? (i := 161) rfl), rfl⟩
theorem q_402 : Cond.soleField "TypeChain" "paper" ∈ lw_tbl := ztin2 (List.mem_of_getElem? (i := 162) rfl)
theorem q_403 : zTbl (Cond.laysFinal "TypeChain" "TypeChain" "printer" "LTypeChain$Printer;") := ⟨ztin2 (List.mem_of_getElem? (i := 163) rfl), rfl⟩
theorem q_404 : Cond.soleField "TypeChain" "printer" ∈ lw_tbl := ztin2 (List.mem_of_getElem? (i := 164) rfl)
theorem q_405 : zTbl (Cond.laysFinal "TypeChain" "TypeChain" "trials" "LTypeChain$Trials;") := ⟨ztin2 (List.mem_of_getElem? (i := 165) rfl), rfl⟩
theorem q_406 : Cond.soleField "TypeChain" "trials" ∈ lw_tbl := ztin2 (List.mem_of_getElem? (i := 166) rfl)
theorem q_407 : zTbl (Cond.laysFinal "TypeChain" "TypeChain" "sheets" "LTypeChain$Sheets;") := ⟨ztin2 (List.mem_of_getElem? (i := 167) rfl), rfl⟩
theorem q_408 : Cond.soleField "TypeChain" "sheets" ∈ lw_tbl := ztin2 (List.mem_of_getElem? (i := 168) rfl)
theorem q_409 : zTbl (Cond.lays "TypeChain" "TypeChain" "wasRun" "Z") := ⟨ztin2 (List.mem_of_getElem? (i := 169) rfl), rfl⟩
theorem q_410 : Cond.soleField "TypeChain" "wasRun" ∈ lw_tbl := ztin2 (List.mem_of_getElem? (i := 170) rfl)
theorem q_411 : zTbl (Cond.lays "TypeChain" "TypeChain" "ranTicks" "I") := ⟨ztin2 (List.mem_of_getElem? (i := 171) rfl), rfl⟩
theorem q_412 : Cond.soleField "TypeChain" "ranTicks" ∈ lw_tbl := ztin2 (List.mem_of_getElem? (i := 172) rfl)
theorem q_413 : zTbl (Cond.lays "TypeChain" "TypeChain" "ranLines" "I") := ⟨ztin2 (List.mem_of_getElem? (i := 173) rfl), rfl⟩
theorem q_414 : Cond.soleField "TypeChain" "ranLines" ∈ lw_tbl := ztin2 (List.mem_of_getElem? (i := 174) rfl)
theorem q_415 : zTbl (Cond.lays "TypeChain" "TypeChain" "ranEnd" "I") := ⟨ztin2 (List.mem_of_getElem? (i := 175) rfl), rfl⟩
theorem q_416 : Cond.soleField "TypeChain" "ranEnd" ∈ lw_tbl := ztin2 (List.mem_of_getElem? (i := 176) rfl)
theorem q_417 : zTbl (Cond.superclass "TypeChain" "java/lang/Object") := ⟨ztin2 (List.mem_of_getElem? (i := 177) rfl), rfl⟩
theorem q_418 : zTbl (Cond.methodLink "TypeChainLaw" (15 : Nat) ({ cls := "TypeChain", name := "feed", desc := "(J)I" } : MethodName)) := ⟨ztin2 (List.mem_of_getElem? (i := 178) rfl), rfl⟩
theorem q_419 : zTbl (Cond.instanceMethod ({ cls := "TypeChain", name := "feed", desc := "(J)I" } : MethodName)) := ⟨ztin2 (List.mem_of_getElem? (i := 179) rfl), rfl⟩
theorem q_420 : zTbl (Cond.selects "TypeChain" ({ cls := "TypeChain", name := "feed", desc := "(J)I" } : MethodName) ({ cls := "TypeChain", name := "feed", desc := "(J)I" } : MethodName)) := ⟨ztin2 (List.mem_of_getElem? (i := 180) rfl), rfl⟩
theorem q_421 : zTbl (Cond.code ({ cls := "TypeChain", name := "feed", desc := "(J)I" } : MethodName) prog_1_method_2_code (3 : Nat) (Option.some FieldType.int)) := ⟨ztin2 (List.mem_of_getElem? (i := 181) rfl), rfl⟩
theorem q_422 : zTbl (Cond.methodLink "TypeChain" (62 : Nat) ({ cls := "TypeChain$Reader", name := "append", desc := "(J)Z" } : MethodName)) := ⟨ztin2 (List.mem_of_getElem? (i := 182) rfl), rfl⟩
theorem q_423 : zTbl (Cond.instanceMethod ({ cls := "TypeChain$Reader", name := "append", desc := "(J)Z" } : MethodName)) := ⟨ztin2 (List.mem_of_getElem? (i := 183) rfl), rfl⟩
theorem q_424 : zTbl (Cond.selects "TypeChain$Reader" ({ cls := "TypeChain$Reader", name := "append", desc := "(J)Z" } : MethodName) ({ cls := "TypeChain$Reader", name := "append", desc := "(J)Z" } : MethodName)) := ⟨ztin2 (List.mem_of_getElem? (i := 184) rfl), rfl⟩
theorem q_425 : zTbl (Cond.code ({ cls := "TypeChain$Reader", name := "append", desc := "(J)Z" } : MethodName) prog_6_method_2_code (4 : Nat) (Option.some FieldType.boolean)) := ⟨ztin2 (List.mem_of_getElem? (i := 185) rfl), rfl⟩
theorem q_426 : zTbl (Cond.methodLink "TypeChainLaw" (20 : Nat) ({ cls := "TypeChain", name := "end", desc := "(I)I" } : MethodName)) := ⟨ztin2 (List.mem_of_getElem? (i := 186) rfl), rfl⟩
theorem q_427 : zTbl (Cond.instanceMethod ({ cls := "TypeChain", name := "end", desc := "(I)I" } : MethodName)) := ⟨ztin2 (List.mem_of_getElem? (i := 187) rfl), rfl⟩
theorem q_428 : zTbl (Cond.selects "TypeChain" ({ cls := "TypeChain", name := "end", desc := "(I)I" } : MethodName) ({ cls := "TypeChain", name := "end", desc := "(I)I" } : MethodName)) := ⟨ztin2 (List.mem_of_getElem? (i := 188) rfl), rfl⟩
theorem q_429 : zTbl (Cond.code ({ cls := "TypeChain", name := "end", desc := "(I)I" } : MethodName) prog_1_method_3_code (3 : Nat) (Option.some FieldType.int)) := ⟨ztin2 (List.mem_of_getElem? (i := 189) rfl), rfl⟩
theorem q_430 : zTbl (Cond.methodLink "TypeChainLaw" (25 : Nat) ({ cls := "TypeChain", name := "text", desc := "()I" } : MethodName)) := ⟨ztin2 (List.mem_of_getElem? (i := 190) rfl), rfl⟩
theorem q_431 : zTbl (Cond.instanceMethod ({ cls := "TypeChain", name := "text", desc := "()I" } : MethodName)) := ⟨ztin2 (List.mem_of_getElem? (i := 191) rfl), rfl⟩
theorem q_432 : zTbl (Cond.selects "TypeChain" ({ cls := "TypeChain", name := "text", desc := "()I" } : MethodName) ({ cls := "TypeChain", name := "text", desc := "()I" } : MethodName)) := ⟨ztin2 (List.mem_of_getElem? (i := 192) rfl), rfl⟩
theorem q_433 : zTbl (Cond.code ({ cls := "TypeChain", name := "text", desc := "()I" } : MethodName) prog_1_method_4_code (3 : Nat) (Option.some FieldType.int)) := ⟨ztin2 (List.mem_of_getElem? (i := 193) rfl), rfl⟩
theorem q_434 : zTbl (Cond.methodLink "TypeChain" (70 : Nat) ({ cls := "TypeChain$Reader", name := "readInto", desc := "(LTypeChain$Rules;)Z" } : MethodName)) := ⟨ztin2 (List.mem_of_getElem? (i := 194) rfl), rfl⟩
theorem q_435 : zTbl (Cond.instanceMethod ({ cls := "TypeChain$Reader", name := "readInto", desc := "(LTypeChain$Rules;)Z" } : MethodName)) := ⟨ztin2 (List.mem_of_getElem? (i := 195) rfl), rfl⟩
theorem q_436 : zTbl (Cond.selects "TypeChain$Reader" ({ cls := "TypeChain$Reader", name := "readInto", desc := "(LTypeChain$Rules;)Z" } : MethodName) ({ cls := "TypeChain$Reader", name := "readInto", desc := "(LTypeChain$Rules;)Z" } : MethodName)) := ⟨ztin2 (List.mem_of_getElem? (i := 196) rfl), rfl⟩
theorem q_437 : zTbl (Cond.code ({ cls := "TypeChain$Reader", name := "readInto", desc := "(LTypeChain$Rules;)Z" } : MethodName) prog_6_method_3_code (3 : Nat) (Option.some FieldType.boolean)) := ⟨ztin2 (List.mem_of_getElem? (i := 197) rfl), rfl⟩
theorem q_438 : zTbl (Cond.methodLink "TypeChain$Reader" (29 : Nat) ({ cls := "TypeChain$Rules", name := "beAtFirst", desc := "()V" } : MethodName)) := ⟨ztin2 (List.mem_of_getElem? (i := 198) rfl), rfl⟩
theorem q_439 : zTbl (Cond.methodLink "TypeChain$Reader" (49 : Nat) ({ cls := "TypeChain$Reader", name := "nextToken", desc := "()Z" } : MethodName)) := ⟨ztin2 (List.mem_of_getElem? (i := 199) rfl), rfl⟩
theorem q_440 : Cond.privateMethod ({ cls := "TypeChain$Reader", name := "nextToken", desc := "()Z" } : MethodName) ∈ lw_tbl := ztin2 (List.mem_of_getElem? (i := 200) rfl)
theorem q_441 : zTbl (Cond.instanceMethod ({ cls := "TypeChain$Reader", name := "nextToken", desc := "()Z" } : MethodName)) := ⟨ztin2 (List.mem_of_getElem? (i := 201) rfl), rfl⟩
theorem q_442 : zTbl (Cond.code ({ cls := "TypeChain$Reader", name := "nextToken", desc := "()Z" } : MethodName) prog_6_method_13_code (1 : Nat) (Option.some FieldType.boolean)) := ⟨ztin2 (List.mem_of_getElem? (i := 202) rfl), rfl⟩
theorem q_443 : zTbl (Cond.methodLink "TypeChain$Reader" (150 : Nat) ({ cls := "TypeChain$Reader", name := "kindOf", desc := "(I)I" } : MethodName)) := ⟨ztin2 (List.mem_of_getElem? (i := 203) rfl), rfl⟩
theorem q_444 : zTbl (Cond.static ({ cls := "TypeChain$Reader", name := "kindOf", desc := "(I)I" } : MethodName)) := ⟨ztin2 (List.mem_of_getElem? (i := 204) rfl), rfl⟩
theorem q_445 : zTbl (Cond.code ({ cls := "TypeChain$Reader", name := "kindOf", desc := "(I)I" } : MethodName) prog_6_method_14_code (1 : Nat) (Option.some FieldType.int)) := ⟨ztin2 (List.mem_of_getElem? (i := 205) rfl), rfl⟩
theorem q_446 : zTbl (Cond.methodLink "TypeChain$Reader" (73 : Nat) ({ cls := "TypeChain$Reader", name := "fail", desc := "(II)Z" } : MethodName)) := ⟨ztin2 (List.mem_of_getElem? (i := 206) rfl), rfl⟩
theorem q_447 : Cond.privateMethod ({ cls := "TypeChain$Reader", name := "fail", desc := "(II)Z" } : MethodName) ∈ lw_tbl := ztin2 (List.mem_of_getElem? (i := 207) rfl)
theorem q_448 : zTbl (Cond.instanceMethod ({ cls := "TypeChain$Reader", name := "fail", desc := "(II)Z" } : MethodName)) := ⟨ztin2 (List.mem_of_getElem? (i := 208) rfl), rfl⟩
theorem q_449 : zTbl (Cond.code ({ cls := "TypeChain$Reader", name := "fail", desc := "(II)Z" } : MethodName) prog_6_method_18_code (3 : Nat) (Option.some FieldType.boolean)) := ⟨ztin2 (List.mem_of_getElem? (i := 209) rfl), rfl⟩
theorem q_450 : zTbl (Cond.methodLink "TypeChain$Reader" (56 : Nat) ({ cls := "TypeChain$Rules", name := "settle", desc := "()V" } : MethodName)) := ⟨ztin2 (List.mem_of_getElem? (i := 210) rfl), rfl⟩
theorem q_451 : zTbl (Cond.methodLink "TypeChain$Reader" (59 : Nat) ({ cls := "TypeChain$Reader", name := "lookBehindAll", desc := "(LTypeChain$Rules;)Z" } : MethodName)) := ⟨ztin2 (List.mem_of_getElem? (i := 211) rfl), rfl⟩
theorem q_452 : Cond.privateMethod ({ cls := "TypeChain$Reader", name := "lookBehindAll", desc := "(LTypeChain$Rules;)Z" } : MethodName) ∈ lw_tbl := ztin2 (List.mem_of_getElem? (i := 212) rfl)
theorem q_453 : zTbl (Cond.instanceMethod ({ cls := "TypeChain$Reader", name := "lookBehindAll", desc := "(LTypeChain$Rules;)Z" } : MethodName)) := ⟨ztin2 (List.mem_of_getElem? (i := 213) rfl), rfl⟩
theorem q_454 : zTbl (Cond.code ({ cls := "TypeChain$Reader", name := "lookBehindAll", desc := "(LTypeChain$Rules;)Z" } : MethodName) prog_6_method_10_code (4 : Nat) (Option.some FieldType.boolean)) := ⟨ztin2 (List.mem_of_getElem? (i := 214) rfl), rfl⟩
theorem q_455 : zTbl (Cond.methodLink "TypeChain$Reader" (63 : Nat) ({ cls := "TypeChain$Reader", name := "readLine", desc := "(LTypeChain$Rules;)Z" } : MethodName)) := ⟨ztin2 (List.mem_of_getElem? (i := 215) rfl), rfl⟩
theorem q_456 : Cond.privateMethod ({ cls := "TypeChain$Reader", name := "readLine", desc := "(LTypeChain$Rules;)Z" } : MethodName) ∈ lw_tbl := ztin2 (List.mem_of_getElem? (i := 216) rfl)
theorem q_457 : zTbl (Cond.instanceMethod ({ cls := "TypeChain$Reader", name := "readLine", desc := "(LTypeChain$Rules;)Z" } : MethodName)) := ⟨ztin2 (List.mem_of_getElem? (i := 217) rfl), rfl⟩
theorem q_458 : zTbl (Cond.code ({ cls := "TypeChain$Reader", name := "readLine", desc := "(LTypeChain$Rules;)Z" } : MethodName) prog_6_method_4_code (4 : Nat) (Option.some FieldType.boolean)) := ⟨ztin2 (List.mem_of_getElem? (i := 218) rfl), rfl⟩
theorem q_459 : zTbl (Cond.methodLink "TypeChain$Reader" (66 : Nat) ({ cls := "TypeChain$Reader", name := "wordOfToken", desc := "()I" } : MethodName)) := ⟨ztin2 (List.mem_of_getElem? (i := 219) rfl), rfl⟩
theorem q_460 : Cond.privateMethod ({ cls := "TypeChain$Reader", name := "wordOfToken", desc := "()I" } : MethodName) ∈ lw_tbl := ztin2 (List.mem_of_getElem? (i := 220) rfl)
theorem q_461 : zTbl (Cond.instanceMethod ({ cls := "TypeChain$Reader", name := "wordOfToken", desc := "()I" } : MethodName)) := ⟨ztin2 (List.mem_of_getElem? (i := 221) rfl), rfl⟩
theorem q_462 : zTbl (Cond.code ({ cls := "TypeChain$Reader", name := "wordOfToken", desc := "()I" } : MethodName) prog_6_method_15_code (3 : Nat) (Option.some FieldType.int)) := ⟨ztin2 (List.mem_of_getElem? (i := 222) rfl), rfl⟩
theorem q_463 : zTbl (Cond.methodLink "TypeChain$Reader" (153 : Nat) ({ cls := "TypeChain$Reader", name := "isWord", desc := "(II)Z" } : MethodName)) := ⟨ztin2 (List.mem_of_getElem? (i := 223) rfl), rfl⟩
theorem q_464 : Cond.privateMethod ({ cls := "TypeChain$Reader", name := "isWord", desc := "(II)Z" } : MethodName) ∈ lw_tbl := ztin2 (List.mem_of_getElem? (i := 224) rfl)
theorem q_465 : zTbl (Cond.instanceMethod ({ cls := "TypeChain$Reader", name := "isWord", desc := "(II)Z" } : MethodName)) := ⟨ztin2 (List.mem_of_getElem? (i := 225) rfl), rfl⟩
theorem q_466 : zTbl (Cond.code ({ cls := "TypeChain$Reader", name := "isWord", desc := "(II)Z" } : MethodName) prog_6_method_16_code (5 : Nat) (Option.some FieldType.boolean)) := ⟨ztin2 (List.mem_of_getElem? (i := 226) rfl), rfl⟩
theorem q_467 : Cond.stringRef "TypeChain$Reader" (156 : Nat) "chain  pitch  gap    columnspower  start  step   rows   hole   put    go     space  skip   " ∈ lw_tbl := ztin2 (List.mem_of_getElem? (i := 227) rfl)
theorem q_468 : zTbl (Cond.methodLink "TypeChain$Reader" (158 : Nat) ({ cls := "java/lang/String", name := "charAt", desc := "(I)C" } : MethodName)) := ⟨ztin2 (List.mem_of_getElem? (i := 228) rfl), rfl⟩
theorem q_469 : zTbl (Cond.instanceMethod ({ cls := "java/lang/String", name := "charAt", desc := "(I)C" } : MethodName)) := ⟨ztin2 (List.mem_of_getElem? (i := 229) rfl), rfl⟩
theorem q_470 : zTbl (Cond.selects "java/lang/String" ({ cls := "java/lang/String", name := "charAt", desc := "(I)C" } : MethodName) ({ cls := "java/lang/String", name := "charAt", desc := "(I)C" } : MethodName)) := ⟨ztin2 (List.mem_of_getElem? (i := 230) rfl), rfl⟩
theorem q_471 : zTbl (Cond.code ({ cls := "java/lang/String", name := "charAt", desc := "(I)C" } : MethodName) prog_16_method_56_code (2 : Nat) (Option.some FieldType.char)) := ⟨ztin2 (List.mem_of_getElem? (i := 231) rfl), rfl⟩
theorem q_472 : zTbl (Cond.methodLink "java/lang/String" (492 : Nat) ({ cls := "java/lang/String", name := "isLatin1", desc := "()Z" } : MethodName)) := ⟨ztin2 (List.mem_of_getElem? (i := 232) rfl), rfl⟩
theorem q_473 : zTbl (Cond.instanceMethod ({ cls := "java/lang/String", name := "isLatin1", desc := "()Z" } : MethodName)) := ⟨ztin2 (List.mem_of_getElem? (i := 233) rfl), rfl⟩
theorem q_474 : zTbl (Cond.selects "java/lang/String" ({ cls := "java/lang/String", name := "isLatin1", desc := "()Z" } : MethodName) ({ cls := "java/lang/String", name := "isLatin1", desc := "()Z" } : MethodName)) := ⟨ztin2 (List.mem_of_getElem? (i := 234) rfl), rfl⟩
theorem q_475 : zTbl (Cond.code ({ cls := "java/lang/String", name := "isLatin1", desc := "()Z" } : MethodName) prog_16_method_154_code (1 : Nat) (Option.some FieldType.boolean)) := ⟨ztin2 (List.mem_of_getElem? (i := 235) rfl), rfl⟩
theorem q_476 : zTbl (Cond.fieldLink "java/lang/String" (38 : Nat) "java/lang/String" "COMPACT_STRINGS" "Z") := ⟨ztin2 (List.mem_of_getElem? (i := 236) rfl), rfl⟩
theorem q_477 : Cond.laysStatic "java/lang/String" "COMPACT_STRINGS" "Z" ∈ lw_tbl := ztin2 (List.mem_of_getElem? (i := 237) rfl)
theorem q_478 : zTbl (Cond.methodLink "java/lang/String" (495 : Nat) ({ cls := "java/lang/StringLatin1", name := "charAt", desc := "([BI)C" } : MethodName)) := ⟨ztin2 (List.mem_of_getElem? (i := 238) rfl), rfl⟩
theorem q_479 : zTbl (Cond.static ({ cls := "java/lang/StringLatin1", name := "charAt", desc := "([BI)C" } : MethodName)) := ⟨ztin2 (List.mem_of_getElem? (i := 239) rfl), rfl⟩
theorem q_480 : zTbl (Cond.code ({ cls := "java/lang/StringLatin1", name := "charAt", desc := "([BI)C" } : MethodName) prog_17_method_2_code (2 : Nat) (Option.some FieldType.char)) := ⟨ztin3 (List.mem_of_getElem? (i := 0) rfl), rfl⟩
theorem q_481 : zTbl (Cond.methodLink "java/lang/StringLatin1" (9 : Nat) ({ cls := "java/lang/String", name := "checkIndex", desc := "(II)V" } : MethodName)) := ⟨ztin3 (List.mem_of_getElem? (i := 1) rfl), rfl⟩
theorem q_482 : zTbl (Cond.static ({ cls := "java/lang/String", name := "checkIndex", desc := "(II)V" } : MethodName)) := ⟨ztin3 (List.mem_of_getElem? (i := 2) rfl), rfl⟩
theorem q_483 : zTbl (Cond.code ({ cls := "java/lang/String", name := "checkIndex", desc := "(II)V" } : MethodName) prog_16_method_155_code (2 : Nat) (Option.none : Option Jvm.ClassFile.FieldType)) := ⟨ztin3 (List.mem_of_getElem? (i := 3) rfl), rfl⟩
theorem q_484 : zTbl (Cond.fieldLink "java/lang/String" (1053 : Nat) "jdk/internal/util/Preconditions" "SIOOBE_FORMATTER" "Ljava/util/function/BiFunction;") := ⟨ztin3 (List.mem_of_getElem? (i := 4) rfl), rfl⟩
theorem q_485 : Cond.laysStatic "jdk/internal/util/Preconditions" "SIOOBE_FORMATTER" "Ljava/util/function/BiFunction;" ∈ lw_tbl := ztin3 (List.mem_of_getElem? (i := 5) rfl)
theorem q_486 : zTbl (Cond.methodLink "java/lang/String" (1059 : Nat) ({ cls := "jdk/internal/util/Preconditions", name := "checkIndex", desc := "(IILjava/util/function/BiFunction;)I" } : MethodName)) := ⟨ztin3 (List.mem_of_getElem? (i := 6) rfl), rfl⟩
theorem q_487 : zTbl (Cond.static ({ cls := "jdk/internal/util/Preconditions", name := "checkIndex", desc := "(IILjava/util/function/BiFunction;)I" } : MethodName)) := ⟨ztin3 (List.mem_of_getElem? (i := 7) rfl), rfl⟩
theorem q_488 : zTbl (Cond.code ({ cls := "jdk/internal/util/Preconditions", name := "checkIndex", desc := "(IILjava/util/function/BiFunction;)I" } : MethodName) prog_21_method_11_code (3 : Nat) (Option.some FieldType.int)) := ⟨ztin3 (List.mem_of_getElem? (i := 8) rfl), rfl⟩
theorem q_489 : zTbl (Cond.methodLink "java/lang/String" (498 : Nat) ({ cls := "java/lang/StringUTF16", name := "charAt", desc := "([BI)C" } : MethodName)) := ⟨ztin3 (List.mem_of_getElem? (i := 9) rfl), rfl⟩
theorem q_490 : zTbl (Cond.static ({ cls := "java/lang/StringUTF16", name := "charAt", desc := "([BI)C" } : MethodName)) := ⟨ztin3 (List.mem_of_getElem? (i := 10) rfl), rfl⟩
theorem q_491 : zTbl (Cond.code ({ cls := "java/lang/StringUTF16", name := "charAt", desc := "([BI)C" } : MethodName) prog_18_method_83_code (2 : Nat) (Option.some FieldType.char)) := ⟨ztin3 (List.mem_of_getElem? (i := 11) rfl), rfl⟩
theorem q_492 : zTbl (Cond.methodLink "java/lang/StringUTF16" (67 : Nat) ({ cls := "java/lang/StringUTF16", name := "checkIndex", desc := "(I[B)V" } : MethodName)) := ⟨ztin3 (List.mem_of_getElem? (i := 12) rfl), rfl⟩
theorem q_493 : zTbl (Cond.static ({ cls := "java/lang/StringUTF16", name := "checkIndex", desc := "(I[B)V" } : MethodName)) := ⟨ztin3 (List.mem_of_getElem? (i := 13) rfl), rfl⟩
theorem q_494 : zTbl (Cond.code ({ cls := "java/lang/StringUTF16", name := "checkIndex", desc := "(I[B)V" } : MethodName) prog_18_method_91_code (2 : Nat) (Option.none : Option Jvm.ClassFile.FieldType)) := ⟨ztin3 (List.mem_of_getElem? (i := 14) rfl), rfl⟩
theorem q_495 : zTbl (Cond.methodLink "java/lang/StringUTF16" (48 : Nat) ({ cls := "java/lang/StringUTF16", name := "length", desc := "([B)I" } : MethodName)) := ⟨ztin3 (List.mem_of_getElem? (i := 15) rfl), rfl⟩
theorem q_496 : zTbl (Cond.static ({ cls := "java/lang/StringUTF16", name := "length", desc := "([B)I" } : MethodName)) := ⟨ztin3 (List.mem_of_getElem? (i := 16) rfl), rfl⟩
theorem q_497 : zTbl (Cond.code ({ cls := "java/lang/StringUTF16", name := "length", desc := "([B)I" } : MethodName) prog_18_method_6_code (1 : Nat) (Option.some FieldType.int)) := ⟨ztin3 (List.mem_of_getElem? (i := 17) rfl), rfl⟩
theorem q_498 : zTbl (Cond.methodLink "java/lang/StringUTF16" (414 : Nat) ({ cls := "java/lang/String", name := "checkIndex", desc := "(II)V" } : MethodName)) := ⟨ztin3 (List.mem_of_getElem? (i := 18) rfl), rfl⟩
theorem q_499 : zTbl (Cond.methodLink "java/lang/StringUTF16" (71 : Nat) ({ cls := "java/lang/StringUTF16", name := "getChar", desc := "([BI)C" } : MethodName)) := ⟨ztin3 (List.mem_of_getElem? (i := 19) rfl), rfl⟩
theorem q_500 : zTbl (Cond.static ({ cls := "java/lang/StringUTF16", name := "getChar", desc := "([BI)C" } : MethodName)) := ⟨ztin3 (List.mem_of_getElem? (i := 20) rfl), rfl⟩
theorem q_501 : zTbl (Cond.code ({ cls := "java/lang/StringUTF16", name := "getChar", desc := "([BI)C" } : MethodName) prog_18_method_5_code (2 : Nat) (Option.some FieldType.char)) := ⟨ztin3 (List.mem_of_getElem? (i := 21) rfl), rfl⟩
theorem q_502 : zTbl (Cond.fieldLink "java/lang/StringUTF16" (44 : Nat) "java/lang/StringUTF16" "$assertionsDisabled" "Z") := ⟨ztin3 (List.mem_of_getElem? (i := 22) rfl), rfl⟩
theorem q_503 : Cond.laysStatic "java/lang/StringUTF16" "$assertionsDisabled" "Z" ∈ lw_tbl := ztin3 (List.mem_of_getElem? (i := 23) rfl)
theorem q_504 : zTbl (Cond.fieldLink "java/lang/StringUTF16" (59 : Nat) "java/lang/StringUTF16" "HI_BYTE_SHIFT" "I") := ⟨ztin3 (List.mem_of_getElem? (i := 24) rfl), rfl⟩
theorem q_505 : Cond.laysStatic "java/lang/StringUTF16" "HI_BYTE_SHIFT" "I" ∈ lw_tbl := ztin3 (List.mem_of_getElem? (i := 25) rfl)
theorem q_506 : zTbl (Cond.fieldLink "java/lang/StringUTF16" (63 : Nat) "java/lang/StringUTF16" "LO_BYTE_SHIFT" "I") := ⟨ztin3 (List.mem_of_getElem? (i := 26) rfl), rfl⟩
theorem q_507 : Cond.laysStatic "java/lang/StringUTF16" "LO_BYTE_SHIFT" "I" ∈ lw_tbl := ztin3 (List.mem_of_getElem? (i := 27) rfl)
theorem q_508 : zTbl (Cond.methodLink "TypeChain$Reader" (90 : Nat) ({ cls := "TypeChain$Reader", name := "readChain", desc := "(LTypeChain$Chain;)Z" } : MethodName)) := ⟨ztin3 (List.mem_of_getElem? (i := 28) rfl), rfl⟩
theorem q_509 : Cond.privateMethod ({ cls := "TypeChain$Reader", name := "readChain", desc := "(LTypeChain$Chain;)Z" } : MethodName) ∈ lw_tbl := ztin3 (List.mem_of_getElem? (i := 29) rfl)
theorem q_510 : zTbl (Cond.instanceMethod ({ cls := "TypeChain$Reader", name := "readChain", desc := "(LTypeChain$Chain;)Z" } : MethodName)) := ⟨ztin3 (List.mem_of_getElem? (i := 30) rfl), rfl⟩
theorem q_511 : zTbl (Cond.code ({ cls := "TypeChain$Reader", name := "readChain", desc := "(LTypeChain$Chain;)Z" } : MethodName) prog_6_method_6_code (4 : Nat) (Option.some FieldType.boolean)) := ⟨ztin3 (List.mem_of_getElem? (i := 31) rfl), rfl⟩
theorem q_512 : zTbl (Cond.methodLink "TypeChain$Reader" (113 : Nat) ({ cls := "TypeChain$Reader", name := "take", desc := "(I)Z" } : MethodName)) := ⟨ztin3 (List.mem_of_getElem? (i := 32) rfl), rfl⟩
theorem q_513 : Cond.privateMethod ({ cls := "TypeChain$Reader", name := "take", desc := "(I)Z" } : MethodName) ∈ lw_tbl := ztin3 (List.mem_of_getElem? (i := 33) rfl)
theorem q_514 : zTbl (Cond.instanceMethod ({ cls := "TypeChain$Reader", name := "take", desc := "(I)Z" } : MethodName)) := ⟨ztin3 (List.mem_of_getElem? (i := 34) rfl), rfl⟩
theorem q_515 : zTbl (Cond.code ({ cls := "TypeChain$Reader", name := "take", desc := "(I)Z" } : MethodName) prog_6_method_11_code (2 : Nat) (Option.some FieldType.boolean)) := ⟨ztin3 (List.mem_of_getElem? (i := 35) rfl), rfl⟩
theorem q_516 : zTbl (Cond.methodLink "TypeChain$Reader" (137 : Nat) ({ cls := "TypeChain$Reader", name := "letterAt", desc := "(I)I" } : MethodName)) := ⟨ztin3 (List.mem_of_getElem? (i := 36) rfl), rfl⟩
theorem q_517 : Cond.privateMethod ({ cls := "TypeChain$Reader", name := "letterAt", desc := "(I)I" } : MethodName) ∈ lw_tbl := ztin3 (List.mem_of_getElem? (i := 37) rfl)
theorem q_518 : zTbl (Cond.instanceMethod ({ cls := "TypeChain$Reader", name := "letterAt", desc := "(I)I" } : MethodName)) := ⟨ztin3 (List.mem_of_getElem? (i := 38) rfl), rfl⟩
theorem q_519 : zTbl (Cond.code ({ cls := "TypeChain$Reader", name := "letterAt", desc := "(I)I" } : MethodName) prog_6_method_17_code (2 : Nat) (Option.some FieldType.int)) := ⟨ztin3 (List.mem_of_getElem? (i := 39) rfl), rfl⟩
theorem q_520 : zTbl (Cond.methodLink "TypeChain$Reader" (97 : Nat) ({ cls := "TypeChain$Reader", name := "readHole", desc := "([I)Z" } : MethodName)) := ⟨ztin3 (List.mem_of_getElem? (i := 40) rfl), rfl⟩
theorem q_521 : Cond.privateMethod ({ cls := "TypeChain$Reader", name := "readHole", desc := "([I)Z" } : MethodName) ∈ lw_tbl := ztin3 (List.mem_of_getElem? (i := 41) rfl)
theorem q_522 : zTbl (Cond.instanceMethod ({ cls := "TypeChain$Reader", name := "readHole", desc := "([I)Z" } : MethodName)) := ⟨ztin3 (List.mem_of_getElem? (i := 42) rfl), rfl⟩
theorem q_523 : zTbl (Cond.code ({ cls := "TypeChain$Reader", name := "readHole", desc := "([I)Z" } : MethodName) prog_6_method_7_code (3 : Nat) (Option.some FieldType.boolean)) := ⟨ztin3 (List.mem_of_getElem? (i := 43) rfl), rfl⟩
theorem q_524 : zTbl (Cond.fieldLinkNest "TypeChain$Reader" (117 : Nat) "TypeChain" "LOW" "[I" "TypeChain") := ⟨ztin3 (List.mem_of_getElem? (i := 44) rfl), rfl⟩
theorem q_525 : Cond.laysStatic "TypeChain" "LOW" "[I" ∈ lw_tbl := ztin3 (List.mem_of_getElem? (i := 45) rfl)
theorem q_526 : zTbl (Cond.fieldLinkNest "TypeChain$Reader" (120 : Nat) "TypeChain" "HIGH" "[I" "TypeChain") := ⟨ztin3 (List.mem_of_getElem? (i := 46) rfl), rfl⟩
theorem q_527 : Cond.laysStatic "TypeChain" "HIGH" "[I" ∈ lw_tbl := ztin3 (List.mem_of_getElem? (i := 47) rfl)
theorem q_528 : zTbl (Cond.methodLink "TypeChain$Reader" (123 : Nat) ({ cls := "TypeChain$Reader", name := "takeNumber", desc := "(II)Z" } : MethodName)) := ⟨ztin3 (List.mem_of_getElem? (i := 48) rfl), rfl⟩
theorem q_529 : Cond.privateMethod ({ cls := "TypeChain$Reader", name := "takeNumber", desc := "(II)Z" } : MethodName) ∈ lw_tbl := ztin3 (List.mem_of_getElem? (i := 49) rfl)
theorem q_530 : zTbl (Cond.instanceMethod ({ cls := "TypeChain$Reader", name := "takeNumber", desc := "(II)Z" } : MethodName)) := ⟨ztin3 (List.mem_of_getElem? (i := 50) rfl), rfl⟩
theorem q_531 : zTbl (Cond.code ({ cls := "TypeChain$Reader", name := "takeNumber", desc := "(II)Z" } : MethodName) prog_6_method_12_code (4 : Nat) (Option.some FieldType.boolean)) := ⟨ztin3 (List.mem_of_getElem? (i := 51) rfl), rfl⟩
theorem q_532 : zTbl (Cond.methodLink "TypeChain$Reader" (142 : Nat) ({ cls := "TypeChain$Reader", name := "lookLater", desc := "(II)V" } : MethodName)) := ⟨ztin3 (List.mem_of_getElem? (i := 52) rfl), rfl⟩
theorem q_533 : Cond.privateMethod ({ cls := "TypeChain$Reader", name := "lookLater", desc := "(II)V" } : MethodName) ∈ lw_tbl := ztin3 (List.mem_of_getElem? (i := 53) rfl)
theorem q_534 : zTbl (Cond.instanceMethod ({ cls := "TypeChain$Reader", name := "lookLater", desc := "(II)V" } : MethodName)) := ⟨ztin3 (List.mem_of_getElem? (i := 54) rfl), rfl⟩
theorem q_535 : zTbl (Cond.code ({ cls := "TypeChain$Reader", name := "lookLater", desc := "(II)V" } : MethodName) prog_6_method_9_code (3 : Nat) (Option.none : Option Jvm.ClassFile.FieldType)) := ⟨ztin3 (List.mem_of_getElem? (i := 55) rfl), rfl⟩
theorem q_536 : zTbl (Cond.methodLink "TypeChain$Reader" (101 : Nat) ({ cls := "TypeChain$Reader", name := "readPut", desc := "(LTypeChain$Program;)Z" } : MethodName)) := ⟨ztin3 (List.mem_of_getElem? (i := 56) rfl), rfl⟩
theorem q_537 : Cond.privateMethod ({ cls := "TypeChain$Reader", name := "readPut", desc := "(LTypeChain$Program;)Z" } : MethodName) ∈ lw_tbl := ztin3 (List.mem_of_getElem? (i := 57) rfl)
theorem q_538 : zTbl (Cond.instanceMethod ({ cls := "TypeChain$Reader", name := "readPut", desc := "(LTypeChain$Program;)Z" } : MethodName)) := ⟨ztin3 (List.mem_of_getElem? (i := 58) rfl), rfl⟩
theorem q_539 : zTbl (Cond.code ({ cls := "TypeChain$Reader", name := "readPut", desc := "(LTypeChain$Program;)Z" } : MethodName) prog_6_method_8_code (4 : Nat) (Option.some FieldType.boolean)) := ⟨ztin3 (List.mem_of_getElem? (i := 59) rfl), rfl⟩
theorem q_540 : zTbl (Cond.methodLink "TypeChain$Reader" (146 : Nat) ({ cls := "TypeChain$Program", name := "addLetter", desc := "(I)V" } : MethodName)) := ⟨ztin3 (List.mem_of_getElem? (i := 60) rfl), rfl⟩
theorem q_541 : zTbl (Cond.instanceMethod ({ cls := "TypeChain$Program", name := "addLetter", desc := "(I)V" } : MethodName)) := ⟨ztin3 (List.mem_of_getElem? (i := 61) rfl), rfl⟩
theorem q_542 : zTbl (Cond.selects "TypeChain$Program" ({ cls := "TypeChain$Program", name := "addLetter", desc := "(I)V" } : MethodName) ({ cls := "TypeChain$Program", name := "addLetter", desc := "(I)V" } : MethodName)) := ⟨ztin3 (List.mem_of_getElem? (i := 62) rfl), rfl⟩
theorem q_543 : zTbl (Cond.code ({ cls := "TypeChain$Program", name := "addLetter", desc := "(I)V" } : MethodName) prog_5_method_4_code (2 : Nat) (Option.none : Option Jvm.ClassFile.FieldType)) := ⟨ztin3 (List.mem_of_getElem? (i := 63) rfl), rfl⟩
theorem q_544 : zTbl (Cond.methodLink "TypeChain$Reader" (105 : Nat) ({ cls := "TypeChain$Program", name := "addOrder", desc := "(III)V" } : MethodName)) := ⟨ztin3 (List.mem_of_getElem? (i := 64) rfl), rfl⟩
theorem q_545 : zTbl (Cond.instanceMethod ({ cls := "TypeChain$Program", name := "addOrder", desc := "(III)V" } : MethodName)) := ⟨ztin3 (List.mem_of_getElem? (i := 65) rfl), rfl⟩
theorem q_546 : zTbl (Cond.selects "TypeChain$Program" ({ cls := "TypeChain$Program", name := "addOrder", desc := "(III)V" } : MethodName) ({ cls := "TypeChain$Program", name := "addOrder", desc := "(III)V" } : MethodName)) := ⟨ztin3 (List.mem_of_getElem? (i := 66) rfl), rfl⟩
theorem q_547 : zTbl (Cond.code ({ cls := "TypeChain$Program", name := "addOrder", desc := "(III)V" } : MethodName) prog_5_method_3_code (4 : Nat) (Option.none : Option Jvm.ClassFile.FieldType)) := ⟨ztin3 (List.mem_of_getElem? (i := 67) rfl), rfl⟩
theorem q_548 : zTbl (Cond.methodLink "TypeChain$Reader" (109 : Nat) ({ cls := "TypeChain$Reader", name := "readNumbered", desc := "(ILTypeChain$Rules;)Z" } : MethodName)) := ⟨ztin3 (List.mem_of_getElem? (i := 68) rfl), rfl⟩
theorem q_549 : Cond.privateMethod ({ cls := "TypeChain$Reader", name := "readNumbered", desc := "(ILTypeChain$Rules;)Z" } : MethodName) ∈ lw_tbl := ztin3 (List.mem_of_getElem? (i := 69) rfl)
theorem q_550 : zTbl (Cond.instanceMethod ({ cls := "TypeChain$Reader", name := "readNumbered", desc := "(ILTypeChain$Rules;)Z" } : MethodName)) := ⟨ztin3 (List.mem_of_getElem? (i := 70) rfl), rfl⟩
theorem q_551 : zTbl (Cond.code ({ cls := "TypeChain$Reader", name := "readNumbered", desc := "(ILTypeChain$Rules;)Z" } : MethodName) prog_6_method_5_code (3 : Nat) (Option.some FieldType.boolean)) := ⟨ztin3 (List.mem_of_getElem? (i := 71) rfl), rfl⟩
theorem q_552 : zTbl (Cond.methodLink "TypeChain" (77 : Nat) ({ cls := "TypeChain", name := "takeRules", desc := "()V" } : MethodName)) := ⟨ztin3 (List.mem_of_getElem? (i := 72) rfl), rfl⟩
theorem q_553 : Cond.privateMethod ({ cls := "TypeChain", name := "takeRules", desc := "()V" } : MethodName) ∈ lw_tbl := ztin3 (List.mem_of_getElem? (i := 73) rfl)
theorem q_554 : zTbl (Cond.instanceMethod ({ cls := "TypeChain", name := "takeRules", desc := "()V" } : MethodName)) := ⟨ztin3 (List.mem_of_getElem? (i := 74) rfl), rfl⟩
theorem q_555 : zTbl (Cond.code ({ cls := "TypeChain", name := "takeRules", desc := "()V" } : MethodName) prog_1_method_33_code (1 : Nat) (Option.none : Option Jvm.ClassFile.FieldType)) := ⟨ztin3 (List.mem_of_getElem? (i := 75) rfl), rfl⟩
theorem q_556 : zTbl (Cond.methodLink "TypeChain" (302 : Nat) ({ cls := "TypeChain$Printer", name := "begin", desc := "(LTypeChain$Rules;LTypeChain$Chain;)V" } : MethodName)) := ⟨ztin3 (List.mem_of_getElem? (i := 76) rfl), rfl⟩
theorem q_557 : zTbl (Cond.methodLink "TypeChain" (306 : Nat) ({ cls := "TypeChain$Trials", name := "forget", desc := "()V" } : MethodName)) := ⟨ztin3 (List.mem_of_getElem? (i := 77) rfl), rfl⟩
theorem q_558 : zTbl (Cond.instanceMethod ({ cls := "TypeChain$Trials", name := "forget", desc := "()V" } : MethodName)) := ⟨ztin3 (List.mem_of_getElem? (i := 78) rfl), rfl⟩
theorem q_559 : zTbl (Cond.selects "TypeChain$Trials" ({ cls := "TypeChain$Trials", name := "forget", desc := "()V" } : MethodName) ({ cls := "TypeChain$Trials", name := "forget", desc := "()V" } : MethodName)) := ⟨ztin3 (List.mem_of_getElem? (i := 79) rfl), rfl⟩
theorem q_560 : zTbl (Cond.code ({ cls := "TypeChain$Trials", name := "forget", desc := "()V" } : MethodName) prog_10_method_2_code (1 : Nat) (Option.none : Option Jvm.ClassFile.FieldType)) := ⟨ztin3 (List.mem_of_getElem? (i := 80) rfl), rfl⟩
theorem q_561 : zTbl (Cond.methodLink "TypeChainLaw" (30 : Nat) ({ cls := "TypeChain", name := "fault", desc := "()I" } : MethodName)) := ⟨ztin3 (List.mem_of_getElem? (i := 81) rfl), rfl⟩
theorem q_562 : zTbl (Cond.instanceMethod ({ cls := "TypeChain", name := "fault", desc := "()I" } : MethodName)) := ⟨ztin3 (List.mem_of_getElem? (i := 82) rfl), rfl⟩
theorem q_563 : zTbl (Cond.selects "TypeChain" ({ cls := "TypeChain", name := "fault", desc := "()I" } : MethodName) ({ cls := "TypeChain", name := "fault", desc := "()I" } : MethodName)) := ⟨ztin3 (List.mem_of_getElem? (i := 83) rfl), rfl⟩
theorem q_564 : zTbl (Cond.code ({ cls := "TypeChain", name := "fault", desc := "()I" } : MethodName) prog_1_method_5_code (1 : Nat) (Option.some FieldType.int)) := ⟨ztin3 (List.mem_of_getElem? (i := 84) rfl), rfl⟩
theorem q_565 : zTbl (Cond.methodLink "TypeChainLaw" (34 : Nat) ({ cls := "TypeChain", name := "rule", desc := "(I)I" } : MethodName)) := ⟨ztin3 (List.mem_of_getElem? (i := 85) rfl), rfl⟩
theorem q_566 : zTbl (Cond.instanceMethod ({ cls := "TypeChain", name := "rule", desc := "(I)I" } : MethodName)) := ⟨ztin3 (List.mem_of_getElem? (i := 86) rfl), rfl⟩
theorem q_567 : zTbl (Cond.selects "TypeChain" ({ cls := "TypeChain", name := "rule", desc := "(I)I" } : MethodName) ({ cls := "TypeChain", name := "rule", desc := "(I)I" } : MethodName)) := ⟨ztin3 (List.mem_of_getElem? (i := 87) rfl), rfl⟩
theorem q_568 : zTbl (Cond.code ({ cls := "TypeChain", name := "rule", desc := "(I)I" } : MethodName) prog_1_method_6_code (2 : Nat) (Option.some FieldType.int)) := ⟨ztin3 (List.mem_of_getElem? (i := 88) rfl), rfl⟩
theorem q_569 : zTbl (Cond.methodLink "TypeChainLaw" (38 : Nat) ({ cls := "TypeChain", name := "slug", desc := "(I)I" } : MethodName)) := ⟨ztin3 (List.mem_of_getElem? (i := 89) rfl), rfl⟩
theorem q_570 : zTbl (Cond.instanceMethod ({ cls := "TypeChain", name := "slug", desc := "(I)I" } : MethodName)) := ⟨ztin3 (List.mem_of_getElem? (i := 90) rfl), rfl⟩
theorem q_571 : zTbl (Cond.selects "TypeChain" ({ cls := "TypeChain", name := "slug", desc := "(I)I" } : MethodName) ({ cls := "TypeChain", name := "slug", desc := "(I)I" } : MethodName)) := ⟨ztin3 (List.mem_of_getElem? (i := 91) rfl), rfl⟩
theorem q_572 : zTbl (Cond.code ({ cls := "TypeChain", name := "slug", desc := "(I)I" } : MethodName) prog_1_method_7_code (2 : Nat) (Option.some FieldType.int)) := ⟨ztin3 (List.mem_of_getElem? (i := 92) rfl), rfl⟩
theorem q_573 : zTbl (Cond.methodLink "TypeChainLaw" (42 : Nat) ({ cls := "TypeChain", name := "holes", desc := "(I)I" } : MethodName)) := ⟨ztin3 (List.mem_of_getElem? (i := 93) rfl), rfl⟩
theorem q_574 : zTbl (Cond.instanceMethod ({ cls := "TypeChain", name := "holes", desc := "(I)I" } : MethodName)) := ⟨ztin3 (List.mem_of_getElem? (i := 94) rfl), rfl⟩
theorem q_575 : zTbl (Cond.selects "TypeChain" ({ cls := "TypeChain", name := "holes", desc := "(I)I" } : MethodName) ({ cls := "TypeChain", name := "holes", desc := "(I)I" } : MethodName)) := ⟨ztin3 (List.mem_of_getElem? (i := 95) rfl), rfl⟩
theorem q_576 : zTbl (Cond.code ({ cls := "TypeChain", name := "holes", desc := "(I)I" } : MethodName) prog_1_method_8_code (2 : Nat) (Option.some FieldType.int)) := ⟨ztin3 (List.mem_of_getElem? (i := 96) rfl), rfl⟩
theorem q_577 : zTbl (Cond.methodLink "TypeChain" (105 : Nat) ({ cls := "TypeChain", name := "isRow", desc := "(I)Z" } : MethodName)) := ⟨ztin3 (List.mem_of_getElem? (i := 97) rfl), rfl⟩
theorem q_578 : Cond.privateMethod ({ cls := "TypeChain", name := "isRow", desc := "(I)Z" } : MethodName) ∈ lw_tbl := ztin3 (List.mem_of_getElem? (i := 98) rfl)
theorem q_579 : zTbl (Cond.instanceMethod ({ cls := "TypeChain", name := "isRow", desc := "(I)Z" } : MethodName)) := ⟨ztin3 (List.mem_of_getElem? (i := 99) rfl), rfl⟩
theorem q_580 : zTbl (Cond.code ({ cls := "TypeChain", name := "isRow", desc := "(I)Z" } : MethodName) prog_1_method_35_code (2 : Nat) (Option.some FieldType.boolean)) := ⟨ztin3 (List.mem_of_getElem? (i := 100) rfl), rfl⟩
theorem q_581 : zTbl (Cond.methodLink "TypeChainLaw" (46 : Nat) ({ cls := "TypeChain", name := "order", desc := "(II)I" } : MethodName)) := ⟨ztin3 (List.mem_of_getElem? (i := 101) rfl), rfl⟩
theorem q_582 : zTbl (Cond.instanceMethod ({ cls := "TypeChain", name := "order", desc := "(II)I" } : MethodName)) := ⟨ztin3 (List.mem_of_getElem? (i := 102) rfl), rfl⟩
theorem q_583 : zTbl (Cond.selects "TypeChain" ({ cls := "TypeChain", name := "order", desc := "(II)I" } : MethodName) ({ cls := "TypeChain", name := "order", desc := "(II)I" } : MethodName)) := ⟨ztin3 (List.mem_of_getElem? (i := 103) rfl), rfl⟩
theorem q_584 : zTbl (Cond.code ({ cls := "TypeChain", name := "order", desc := "(II)I" } : MethodName) prog_1_method_9_code (4 : Nat) (Option.some FieldType.int)) := ⟨ztin3 (List.mem_of_getElem? (i := 104) rfl), rfl⟩
theorem q_585 : zTbl (Cond.methodLink "TypeChain" (121 : Nat) ({ cls := "TypeChain$Program", name := "letterOf", desc := "(II)I" } : MethodName)) := ⟨ztin3 (List.mem_of_getElem? (i := 105) rfl), rfl⟩
theorem q_586 : zTbl (Cond.instanceMethod ({ cls := "TypeChain$Program", name := "letterOf", desc := "(II)I" } : MethodName)) := ⟨ztin3 (List.mem_of_getElem? (i := 106) rfl), rfl⟩
theorem q_587 : zTbl (Cond.selects "TypeChain$Program" ({ cls := "TypeChain$Program", name := "letterOf", desc := "(II)I" } : MethodName) ({ cls := "TypeChain$Program", name := "letterOf", desc := "(II)I" } : MethodName)) := ⟨ztin3 (List.mem_of_getElem? (i := 107) rfl), rfl⟩
theorem q_588 : zTbl (Cond.code ({ cls := "TypeChain$Program", name := "letterOf", desc := "(II)I" } : MethodName) prog_5_method_5_code (3 : Nat) (Option.some FieldType.int)) := ⟨ztin3 (List.mem_of_getElem? (i := 108) rfl), rfl⟩
theorem q_589 : zTbl (Cond.methodLink "TypeChainLaw" (51 : Nat) ({ cls := "TypeChain", name := "faces", desc := "(II)I" } : MethodName)) := ⟨ztin3 (List.mem_of_getElem? (i := 109) rfl), rfl⟩
theorem q_590 : zTbl (Cond.instanceMethod ({ cls := "TypeChain", name := "faces", desc := "(II)I" } : MethodName)) := ⟨ztin3 (List.mem_of_getElem? (i := 110) rfl), rfl⟩
theorem q_591 : zTbl (Cond.selects "TypeChain" ({ cls := "TypeChain", name := "faces", desc := "(II)I" } : MethodName) ({ cls := "TypeChain", name := "faces", desc := "(II)I" } : MethodName)) := ⟨ztin3 (List.mem_of_getElem? (i := 111) rfl), rfl⟩
theorem q_592 : zTbl (Cond.code ({ cls := "TypeChain", name := "faces", desc := "(II)I" } : MethodName) prog_1_method_10_code (3 : Nat) (Option.some FieldType.int)) := ⟨ztin3 (List.mem_of_getElem? (i := 112) rfl), rfl⟩
theorem q_593 : zTbl (Cond.methodLink "TypeChain" (125 : Nat) ({ cls := "TypeChain", name := "isColumn", desc := "(I)Z" } : MethodName)) := ⟨ztin3 (List.mem_of_getElem? (i := 113) rfl), rfl⟩
theorem q_594 : Cond.privateMethod ({ cls := "TypeChain", name := "isColumn", desc := "(I)Z" } : MethodName) ∈ lw_tbl := ztin3 (List.mem_of_getElem? (i := 114) rfl)
theorem q_595 : zTbl (Cond.instanceMethod ({ cls := "TypeChain", name := "isColumn", desc := "(I)Z" } : MethodName)) := ⟨ztin3 (List.mem_of_getElem? (i := 115) rfl), rfl⟩
theorem q_596 : zTbl (Cond.code ({ cls := "TypeChain", name := "isColumn", desc := "(I)Z" } : MethodName) prog_1_method_34_code (2 : Nat) (Option.some FieldType.boolean)) := ⟨ztin3 (List.mem_of_getElem? (i := 116) rfl), rfl⟩
theorem q_597 : zTbl (Cond.methodLink "TypeChain" (128 : Nat) ({ cls := "TypeChain", name := "isTick", desc := "(I)Z" } : MethodName)) := ⟨ztin3 (List.mem_of_getElem? (i := 117) rfl), rfl⟩
theorem q_598 : zTbl (Cond.static ({ cls := "TypeChain", name := "isTick", desc := "(I)Z" } : MethodName)) := ⟨ztin3 (List.mem_of_getElem? (i := 118) rfl), rfl⟩
theorem q_599 : zTbl (Cond.code ({ cls := "TypeChain", name := "isTick", desc := "(I)Z" } : MethodName) prog_1_method_37_code (1 : Nat) (Option.some FieldType.boolean)) := ⟨ztin3 (List.mem_of_getElem? (i := 119) rfl), rfl⟩
theorem q_600 : zTbl (Cond.constant "TypeChain" (309 : Nat) (1000000 : Int32)) := ⟨ztin3 (List.mem_of_getElem? (i := 120) rfl), rfl⟩
theorem q_601 : zTbl (Cond.methodLink "TypeChain" (131 : Nat) ({ cls := "TypeChain$Chain", name := "letterFacing", desc := "(II)I" } : MethodName)) := ⟨ztin3 (List.mem_of_getElem? (i := 121) rfl), rfl⟩
theorem q_602 : zTbl (Cond.instanceMethod ({ cls := "TypeChain$Chain", name := "letterFacing", desc := "(II)I" } : MethodName)) := ⟨ztin3 (List.mem_of_getElem? (i := 122) rfl), rfl⟩
theorem q_603 : zTbl (Cond.selects "TypeChain$Chain" ({ cls := "TypeChain$Chain", name := "letterFacing", desc := "(II)I" } : MethodName) ({ cls := "TypeChain$Chain", name := "letterFacing", desc := "(II)I" } : MethodName)) := ⟨ztin3 (List.mem_of_getElem? (i := 123) rfl), rfl⟩
theorem q_604 : zTbl (Cond.code ({ cls := "TypeChain$Chain", name := "letterFacing", desc := "(II)I" } : MethodName) prog_2_method_4_code (4 : Nat) (Option.some FieldType.int)) := ⟨ztin3 (List.mem_of_getElem? (i := 124) rfl), rfl⟩
theorem q_605 : zTbl (Cond.methodLink "TypeChain$Chain" (31 : Nat) ({ cls := "TypeChain$Chain", name := "slugFacing", desc := "(II)I" } : MethodName)) := ⟨ztin3 (List.mem_of_getElem? (i := 125) rfl), rfl⟩
theorem q_606 : zTbl (Cond.instanceMethod ({ cls := "TypeChain$Chain", name := "slugFacing", desc := "(II)I" } : MethodName)) := ⟨ztin3 (List.mem_of_getElem? (i := 126) rfl), rfl⟩
theorem q_607 : zTbl (Cond.selects "TypeChain$Chain" ({ cls := "TypeChain$Chain", name := "slugFacing", desc := "(II)I" } : MethodName) ({ cls := "TypeChain$Chain", name := "slugFacing", desc := "(II)I" } : MethodName)) := ⟨ztin3 (List.mem_of_getElem? (i := 127) rfl), rfl⟩
theorem q_608 : zTbl (Cond.code ({ cls := "TypeChain$Chain", name := "slugFacing", desc := "(II)I" } : MethodName) prog_2_method_3_code (4 : Nat) (Option.some FieldType.int)) := ⟨ztin3 (List.mem_of_getElem? (i := 128) rfl), rfl⟩
theorem q_609 : zTbl (Cond.methodLink "TypeChainLaw" (55 : Nat) ({ cls := "TypeChain", name := "comes", desc := "(III)I" } : MethodName)) := ⟨ztin3 (List.mem_of_getElem? (i := 129) rfl), rfl⟩
theorem q_610 : zTbl (Cond.instanceMethod ({ cls := "TypeChain", name := "comes", desc := "(III)I" } : MethodName)) := ⟨ztin3 (List.mem_of_getElem? (i := 130) rfl), rfl⟩
theorem q_611 : zTbl (Cond.selects "TypeChain" ({ cls := "TypeChain", name := "comes", desc := "(III)I" } : MethodName) ({ cls := "TypeChain", name := "comes", desc := "(III)I" } : MethodName)) := ⟨ztin3 (List.mem_of_getElem? (i := 131) rfl), rfl⟩
theorem q_612 : zTbl (Cond.code ({ cls := "TypeChain", name := "comes", desc := "(III)I" } : MethodName) prog_1_method_11_code (4 : Nat) (Option.some FieldType.int)) := ⟨ztin3 (List.mem_of_getElem? (i := 132) rfl), rfl⟩
theorem q_613 : zTbl (Cond.methodLink "TypeChain" (134 : Nat) ({ cls := "TypeChain", name := "isLetter", desc := "(I)Z" } : MethodName)) := ⟨ztin3 (List.mem_of_getElem? (i := 133) rfl), rfl⟩
theorem q_614 : zTbl (Cond.static ({ cls := "TypeChain", name := "isLetter", desc := "(I)Z" } : MethodName)) := ⟨ztin3 (List.mem_of_getElem? (i := 134) rfl), rfl⟩
theorem q_615 : zTbl (Cond.code ({ cls := "TypeChain", name := "isLetter", desc := "(I)Z" } : MethodName) prog_1_method_36_code (1 : Nat) (Option.some FieldType.boolean)) := ⟨ztin3 (List.mem_of_getElem? (i := 135) rfl), rfl⟩
theorem q_616 : zTbl (Cond.methodLink "TypeChain" (137 : Nat) ({ cls := "TypeChain$Chain", name := "nextTick", desc := "(III)I" } : MethodName)) := ⟨ztin3 (List.mem_of_getElem? (i := 136) rfl), rfl⟩
theorem q_617 : zTbl (Cond.instanceMethod ({ cls := "TypeChain$Chain", name := "nextTick", desc := "(III)I" } : MethodName)) := ⟨ztin3 (List.mem_of_getElem? (i := 137) rfl), rfl⟩
theorem q_618 : zTbl (Cond.selects "TypeChain$Chain" ({ cls := "TypeChain$Chain", name := "nextTick", desc := "(III)I" } : MethodName) ({ cls := "TypeChain$Chain", name := "nextTick", desc := "(III)I" } : MethodName)) := ⟨ztin3 (List.mem_of_getElem? (i := 138) rfl), rfl⟩
theorem q_619 : zTbl (Cond.code ({ cls := "TypeChain$Chain", name := "nextTick", desc := "(III)I" } : MethodName) prog_2_method_5_code (9 : Nat) (Option.some FieldType.int)) := ⟨ztin3 (List.mem_of_getElem? (i := 139) rfl), rfl⟩
theorem q_620 : zTbl (Cond.methodLink "TypeChainLaw" (60 : Nat) ({ cls := "TypeChain", name := "late", desc := "(III)I" } : MethodName)) := ⟨ztin3 (List.mem_of_getElem? (i := 140) rfl), rfl⟩
theorem q_621 : zTbl (Cond.instanceMethod ({ cls := "TypeChain", name := "late", desc := "(III)I" } : MethodName)) := ⟨ztin3 (List.mem_of_getElem? (i := 141) rfl), rfl⟩
theorem q_622 : zTbl (Cond.selects "TypeChain" ({ cls := "TypeChain", name := "late", desc := "(III)I" } : MethodName) ({ cls := "TypeChain", name := "late", desc := "(III)I" } : MethodName)) := ⟨ztin3 (List.mem_of_getElem? (i := 142) rfl), rfl⟩
theorem q_623 : zTbl (Cond.code ({ cls := "TypeChain", name := "late", desc := "(III)I" } : MethodName) prog_1_method_12_code (6 : Nat) (Option.some FieldType.int)) := ⟨ztin3 (List.mem_of_getElem? (i := 143) rfl), rfl⟩
theorem q_624 : zTbl (Cond.methodLink "TypeChainLaw" (64 : Nat) ({ cls := "TypeChain", name := "put", desc := "(II)I" } : MethodName)) := ⟨ztin3 (List.mem_of_getElem? (i := 144) rfl), rfl⟩
theorem q_625 : zTbl (Cond.instanceMethod ({ cls := "TypeChain", name := "put", desc := "(II)I" } : MethodName)) := ⟨ztin3 (List.mem_of_getElem? (i := 145) rfl), rfl⟩
theorem q_626 : zTbl (Cond.selects "TypeChain" ({ cls := "TypeChain", name := "put", desc := "(II)I" } : MethodName) ({ cls := "TypeChain", name := "put", desc := "(II)I" } : MethodName)) := ⟨ztin3 (List.mem_of_getElem? (i := 146) rfl), rfl⟩
theorem q_627 : zTbl (Cond.code ({ cls := "TypeChain", name := "put", desc := "(II)I" } : MethodName) prog_1_method_13_code (4 : Nat) (Option.some FieldType.int)) := ⟨ztin3 (List.mem_of_getElem? (i := 147) rfl), rfl⟩
theorem q_628 : zTbl (Cond.methodLink "TypeChainLaw" (68 : Nat) ({ cls := "TypeChain", name := "line", desc := "(I)I" } : MethodName)) := ⟨ztin3 (List.mem_of_getElem? (i := 148) rfl), rfl⟩
theorem q_629 : zTbl (Cond.instanceMethod ({ cls := "TypeChain", name := "line", desc := "(I)I" } : MethodName)) := ⟨ztin3 (List.mem_of_getElem? (i := 149) rfl), rfl⟩
theorem q_630 : zTbl (Cond.selects "TypeChain" ({ cls := "TypeChain", name := "line", desc := "(I)I" } : MethodName) ({ cls := "TypeChain", name := "line", desc := "(I)I" } : MethodName)) := ⟨ztin3 (List.mem_of_getElem? (i := 150) rfl), rfl⟩
theorem q_631 : zTbl (Cond.code ({ cls := "TypeChain", name := "line", desc := "(I)I" } : MethodName) prog_1_method_14_code (2 : Nat) (Option.some FieldType.int)) := ⟨ztin3 (List.mem_of_getElem? (i := 151) rfl), rfl⟩
theorem q_632 : zTbl (Cond.methodLink "TypeChainLaw" (72 : Nat) ({ cls := "TypeChain", name := "ticks", desc := "(I)I" } : MethodName)) := ⟨ztin3 (List.mem_of_getElem? (i := 152) rfl), rfl⟩
theorem q_633 : zTbl (Cond.instanceMethod ({ cls := "TypeChain", name := "ticks", desc := "(I)I" } : MethodName)) := ⟨ztin3 (List.mem_of_getElem? (i := 153) rfl), rfl⟩
theorem q_634 : zTbl (Cond.selects "TypeChain" ({ cls := "TypeChain", name := "ticks", desc := "(I)I" } : MethodName) ({ cls := "TypeChain", name := "ticks", desc := "(I)I" } : MethodName)) := ⟨ztin3 (List.mem_of_getElem? (i := 154) rfl), rfl⟩
theorem q_635 : zTbl (Cond.code ({ cls := "TypeChain", name := "ticks", desc := "(I)I" } : MethodName) prog_1_method_15_code (2 : Nat) (Option.some FieldType.int)) := ⟨ztin3 (List.mem_of_getElem? (i := 155) rfl), rfl⟩
theorem q_636 : zTbl (Cond.methodLink "TypeChain" (145 : Nat) ({ cls := "TypeChain$Printer", name := "canStrike", desc := "()Z" } : MethodName)) := ⟨ztin3 (List.mem_of_getElem? (i := 156) rfl), rfl⟩
theorem q_637 : zTbl (Cond.instanceMethod ({ cls := "TypeChain$Printer", name := "canStrike", desc := "()Z" } : MethodName)) := ⟨ztin3 (List.mem_of_getElem? (i := 157) rfl), rfl⟩
theorem q_638 : zTbl (Cond.selects "TypeChain$Printer" ({ cls := "TypeChain$Printer", name := "canStrike", desc := "()Z" } : MethodName) ({ cls := "TypeChain$Printer", name := "canStrike", desc := "()Z" } : MethodName)) := ⟨ztin3 (List.mem_of_getElem? (i := 158) rfl), rfl⟩
theorem q_639 : zTbl (Cond.code ({ cls := "TypeChain$Printer", name := "canStrike", desc := "()Z" } : MethodName) prog_4_method_4_code (3 : Nat) (Option.some FieldType.boolean)) := ⟨ztin3 (List.mem_of_getElem? (i := 159) rfl), rfl⟩
theorem q_640 : zTbl (Cond.methodLink "TypeChain$Printer" (66 : Nat) ({ cls := "TypeChain$Chain", name := "letterSet", desc := "()I" } : MethodName)) := ⟨ztin3 (List.mem_of_getElem? (i := 160) rfl), rfl⟩
theorem q_641 : zTbl (Cond.instanceMethod ({ cls := "TypeChain$Chain", name := "letterSet", desc := "()I" } : MethodName)) := ⟨ztin3 (List.mem_of_getElem? (i := 161) rfl), rfl⟩
theorem q_642 : zTbl (Cond.selects "TypeChain$Chain" ({ cls := "TypeChain$Chain", name := "letterSet", desc := "()I" } : MethodName) ({ cls := "TypeChain$Chain", name := "letterSet", desc := "()I" } : MethodName)) := ⟨ztin3 (List.mem_of_getElem? (i := 162) rfl), rfl⟩
theorem q_643 : zTbl (Cond.code ({ cls := "TypeChain$Chain", name := "letterSet", desc := "()I" } : MethodName) prog_2_method_6_code (3 : Nat) (Option.some FieldType.int)) := ⟨ztin3 (List.mem_of_getElem? (i := 163) rfl), rfl⟩
theorem q_644 : zTbl (Cond.methodLink "TypeChain" (154 : Nat) ({ cls := "TypeChain$Strike", name := "make", desc := "(LTypeChain$Chain;[IIII)I" } : MethodName)) := ⟨ztin3 (List.mem_of_getElem? (i := 164) rfl), rfl⟩
theorem q_645 : zTbl (Cond.instanceMethod ({ cls := "TypeChain$Strike", name := "make", desc := "(LTypeChain$Chain;[IIII)I" } : MethodName)) := ⟨ztin3 (List.mem_of_getElem? (i := 165) rfl), rfl⟩
theorem q_646 : zTbl (Cond.selects "TypeChain$Strike" ({ cls := "TypeChain$Strike", name := "make", desc := "(LTypeChain$Chain;[IIII)I" } : MethodName) ({ cls := "TypeChain$Strike", name := "make", desc := "(LTypeChain$Chain;[IIII)I" } : MethodName)) := ⟨ztin3 (List.mem_of_getElem? (i := 166) rfl), rfl⟩
theorem q_647 : zTbl (Cond.code ({ cls := "TypeChain$Strike", name := "make", desc := "(LTypeChain$Chain;[IIII)I" } : MethodName) prog_9_method_2_code (11 : Nat) (Option.some FieldType.int)) := ⟨ztin3 (List.mem_of_getElem? (i := 167) rfl), rfl⟩
theorem q_648 : zTbl (Cond.methodLink "TypeChain$Strike" (24 : Nat) ({ cls := "TypeChain$Strike", name := "gather", desc := "(LTypeChain$Chain;[III)V" } : MethodName)) := ⟨ztin3 (List.mem_of_getElem? (i := 168) rfl), rfl⟩
theorem q_649 : Cond.privateMethod ({ cls := "TypeChain$Strike", name := "gather", desc := "(LTypeChain$Chain;[III)V" } : MethodName) ∈ lw_tbl := ztin3 (List.mem_of_getElem? (i := 169) rfl)
theorem q_650 : zTbl (Cond.instanceMethod ({ cls := "TypeChain$Strike", name := "gather", desc := "(LTypeChain$Chain;[III)V" } : MethodName)) := ⟨ztin3 (List.mem_of_getElem? (i := 170) rfl), rfl⟩
theorem q_651 : zTbl (Cond.code ({ cls := "TypeChain$Strike", name := "gather", desc := "(LTypeChain$Chain;[III)V" } : MethodName) prog_9_method_3_code (6 : Nat) (Option.none : Option Jvm.ClassFile.FieldType)) := ⟨ztin3 (List.mem_of_getElem? (i := 171) rfl), rfl⟩
theorem q_652 : zTbl (Cond.methodLink "TypeChain$Strike" (44 : Nat) ({ cls := "TypeChain$Chain", name := "nextTick", desc := "(III)I" } : MethodName)) := ⟨ztin3 (List.mem_of_getElem? (i := 172) rfl), rfl⟩
theorem q_653 : zTbl (Cond.methodLink "TypeChain$Strike" (32 : Nat) ({ cls := "TypeChain$Strike", name := "earliestDue", desc := "()I" } : MethodName)) := ⟨ztin3 (List.mem_of_getElem? (i := 173) rfl), rfl⟩
theorem q_654 : Cond.privateMethod ({ cls := "TypeChain$Strike", name := "earliestDue", desc := "()I" } : MethodName) ∈ lw_tbl := ztin3 (List.mem_of_getElem? (i := 174) rfl)
theorem q_655 : zTbl (Cond.instanceMethod ({ cls := "TypeChain$Strike", name := "earliestDue", desc := "()I" } : MethodName)) := ⟨ztin3 (List.mem_of_getElem? (i := 175) rfl), rfl⟩
theorem q_656 : zTbl (Cond.code ({ cls := "TypeChain$Strike", name := "earliestDue", desc := "()I" } : MethodName) prog_9_method_4_code (3 : Nat) (Option.some FieldType.int)) := ⟨ztin3 (List.mem_of_getElem? (i := 176) rfl), rfl⟩
theorem q_657 : zTbl (Cond.methodLink "TypeChain$Strike" (60 : Nat) ({ cls := "java/lang/Math", name := "min", desc := "(II)I" } : MethodName)) := ⟨ztin3 (List.mem_of_getElem? (i := 177) rfl), rfl⟩
theorem q_658 : zTbl (Cond.static ({ cls := "java/lang/Math", name := "min", desc := "(II)I" } : MethodName)) := ⟨ztin3 (List.mem_of_getElem? (i := 178) rfl), rfl⟩
theorem q_659 : zTbl (Cond.code ({ cls := "java/lang/Math", name := "min", desc := "(II)I" } : MethodName) prog_15_method_69_code (2 : Nat) (Option.some FieldType.int)) := ⟨ztin3 (List.mem_of_getElem? (i := 179) rfl), rfl⟩
theorem q_660 : zTbl (Cond.methodLink "TypeChain$Strike" (36 : Nat) ({ cls := "TypeChain$Strike", name := "strikeAt", desc := "(II)V" } : MethodName)) := ⟨ztin3 (List.mem_of_getElem? (i := 180) rfl), rfl⟩
theorem q_661 : Cond.privateMethod ({ cls := "TypeChain$Strike", name := "strikeAt", desc := "(II)V" } : MethodName) ∈ lw_tbl := ztin3 (List.mem_of_getElem? (i := 181) rfl)
theorem q_662 : zTbl (Cond.instanceMethod ({ cls := "TypeChain$Strike", name := "strikeAt", desc := "(II)V" } : MethodName)) := ⟨ztin3 (List.mem_of_getElem? (i := 182) rfl), rfl⟩
theorem q_663 : zTbl (Cond.code ({ cls := "TypeChain$Strike", name := "strikeAt", desc := "(II)V" } : MethodName) prog_9_method_5_code (6 : Nat) (Option.none : Option Jvm.ClassFile.FieldType)) := ⟨ztin3 (List.mem_of_getElem? (i := 183) rfl), rfl⟩
theorem q_664 : zTbl (Cond.methodLink "TypeChain$Strike" (66 : Nat) ({ cls := "java/lang/Math", name := "max", desc := "(II)I" } : MethodName)) := ⟨ztin3 (List.mem_of_getElem? (i := 184) rfl), rfl⟩
theorem q_665 : zTbl (Cond.static ({ cls := "java/lang/Math", name := "max", desc := "(II)I" } : MethodName)) := ⟨ztin3 (List.mem_of_getElem? (i := 185) rfl), rfl⟩
theorem q_666 : zTbl (Cond.code ({ cls := "java/lang/Math", name := "max", desc := "(II)I" } : MethodName) prog_15_method_65_code (2 : Nat) (Option.some FieldType.int)) := ⟨ztin3 (List.mem_of_getElem? (i := 186) rfl), rfl⟩
theorem q_667 : zTbl (Cond.methodLink "TypeChainLaw" (76 : Nat) ({ cls := "TypeChain", name := "go", desc := "()I" } : MethodName)) := ⟨ztin3 (List.mem_of_getElem? (i := 187) rfl), rfl⟩
theorem q_668 : zTbl (Cond.instanceMethod ({ cls := "TypeChain", name := "go", desc := "()I" } : MethodName)) := ⟨ztin3 (List.mem_of_getElem? (i := 188) rfl), rfl⟩
theorem q_669 : zTbl (Cond.selects "TypeChain" ({ cls := "TypeChain", name := "go", desc := "()I" } : MethodName) ({ cls := "TypeChain", name := "go", desc := "()I" } : MethodName)) := ⟨ztin3 (List.mem_of_getElem? (i := 189) rfl), rfl⟩
theorem q_670 : zTbl (Cond.code ({ cls := "TypeChain", name := "go", desc := "()I" } : MethodName) prog_1_method_16_code (1 : Nat) (Option.some FieldType.int)) := ⟨ztin3 (List.mem_of_getElem? (i := 190) rfl), rfl⟩
theorem q_671 : zTbl (Cond.methodLink "TypeChain" (160 : Nat) ({ cls := "TypeChain$Printer", name := "strikeLine", desc := "()I" } : MethodName)) := ⟨ztin3 (List.mem_of_getElem? (i := 191) rfl), rfl⟩
theorem q_672 : zTbl (Cond.instanceMethod ({ cls := "TypeChain$Printer", name := "strikeLine", desc := "()I" } : MethodName)) := ⟨ztin3 (List.mem_of_getElem? (i := 192) rfl), rfl⟩
theorem q_673 : zTbl (Cond.selects "TypeChain$Printer" ({ cls := "TypeChain$Printer", name := "strikeLine", desc := "()I" } : MethodName) ({ cls := "TypeChain$Printer", name := "strikeLine", desc := "()I" } : MethodName)) := ⟨ztin3 (List.mem_of_getElem? (i := 193) rfl), rfl⟩
theorem q_674 : zTbl (Cond.code ({ cls := "TypeChain$Printer", name := "strikeLine", desc := "()I" } : MethodName) prog_4_method_5_code (2 : Nat) (Option.some FieldType.int)) := ⟨ztin3 (List.mem_of_getElem? (i := 194) rfl), rfl⟩
theorem q_675 : zTbl (Cond.methodLink "TypeChain$Printer" (72 : Nat) ({ cls := "TypeChain$Printer", name := "canStrike", desc := "()Z" } : MethodName)) := ⟨ztin3 (List.mem_of_getElem? (i := 195) rfl), rfl⟩
theorem q_676 : zTbl (Cond.methodLink "TypeChain$Printer" (81 : Nat) ({ cls := "TypeChain$Strike", name := "make", desc := "(LTypeChain$Chain;[IIII)I" } : MethodName)) := ⟨ztin3 (List.mem_of_getElem? (i := 196) rfl), rfl⟩
theorem q_677 : zTbl (Cond.methodLink "TypeChain$Printer" (85 : Nat) ({ cls := "TypeChain$Printer", name := "markPage", desc := "()V" } : MethodName)) := ⟨ztin3 (List.mem_of_getElem? (i := 197) rfl), rfl⟩
theorem q_678 : Cond.privateMethod ({ cls := "TypeChain$Printer", name := "markPage", desc := "()V" } : MethodName) ∈ lw_tbl := ztin3 (List.mem_of_getElem? (i := 198) rfl)
theorem q_679 : zTbl (Cond.instanceMethod ({ cls := "TypeChain$Printer", name := "markPage", desc := "()V" } : MethodName)) := ⟨ztin3 (List.mem_of_getElem? (i := 199) rfl), rfl⟩
theorem q_680 : zTbl (Cond.code ({ cls := "TypeChain$Printer", name := "markPage", desc := "()V" } : MethodName) prog_4_method_10_code (2 : Nat) (Option.none : Option Jvm.ClassFile.FieldType)) := ⟨ztin3 (List.mem_of_getElem? (i := 200) rfl), rfl⟩
theorem q_681 : zTbl (Cond.methodLink "TypeChain$Printer" (132 : Nat) ({ cls := "TypeChain$Page", name := "mark", desc := "(III)V" } : MethodName)) := ⟨ztin3 (List.mem_of_getElem? (i := 201) rfl), rfl⟩
theorem q_682 : zTbl (Cond.instanceMethod ({ cls := "TypeChain$Page", name := "mark", desc := "(III)V" } : MethodName)) := ⟨ztin3 (List.mem_of_getElem? (i := 202) rfl), rfl⟩
theorem q_683 : zTbl (Cond.selects "TypeChain$Page" ({ cls := "TypeChain$Page", name := "mark", desc := "(III)V" } : MethodName) ({ cls := "TypeChain$Page", name := "mark", desc := "(III)V" } : MethodName)) := ⟨ztin3 (List.mem_of_getElem? (i := 203) rfl), rfl⟩
theorem q_684 : zTbl (Cond.code ({ cls := "TypeChain$Page", name := "mark", desc := "(III)V" } : MethodName) prog_3_method_3_code (5 : Nat) (Option.none : Option Jvm.ClassFile.FieldType)) := ⟨ztin3 (List.mem_of_getElem? (i := 204) rfl), rfl⟩
theorem q_685 : zTbl (Cond.methodLink "TypeChainLaw" (80 : Nat) ({ cls := "TypeChain", name := "struck", desc := "(I)I" } : MethodName)) := ⟨ztin3 (List.mem_of_getElem? (i := 205) rfl), rfl⟩
theorem q_686 : zTbl (Cond.instanceMethod ({ cls := "TypeChain", name := "struck", desc := "(I)I" } : MethodName)) := ⟨ztin3 (List.mem_of_getElem? (i := 206) rfl), rfl⟩
theorem q_687 : zTbl (Cond.selects "TypeChain" ({ cls := "TypeChain", name := "struck", desc := "(I)I" } : MethodName) ({ cls := "TypeChain", name := "struck", desc := "(I)I" } : MethodName)) := ⟨ztin3 (List.mem_of_getElem? (i := 207) rfl), rfl⟩
theorem q_688 : zTbl (Cond.code ({ cls := "TypeChain", name := "struck", desc := "(I)I" } : MethodName) prog_1_method_17_code (4 : Nat) (Option.some FieldType.int)) := ⟨ztin3 (List.mem_of_getElem? (i := 208) rfl), rfl⟩
theorem q_689 : zTbl (Cond.methodLink "TypeChain" (178 : Nat) ({ cls := "java/lang/Long", name := "bitCount", desc := "(J)I" } : MethodName)) := ⟨ztin3 (List.mem_of_getElem? (i := 209) rfl), rfl⟩
theorem q_690 : zTbl (Cond.static ({ cls := "java/lang/Long", name := "bitCount", desc := "(J)I" } : MethodName)) := ⟨ztin3 (List.mem_of_getElem? (i := 210) rfl), rfl⟩
theorem q_691 : zTbl (Cond.code ({ cls := "java/lang/Long", name := "bitCount", desc := "(J)I" } : MethodName) prog_14_method_50_code (2 : Nat) (Option.some FieldType.int)) := ⟨ztin3 (List.mem_of_getElem? (i := 211) rfl), rfl⟩
theorem q_692 : zTbl (Cond.constantLong "java/lang/Long" (314 : Nat) (6148914691236517205 : Int64)) := ⟨ztin3 (List.mem_of_getElem? (i := 212) rfl), rfl⟩
theorem q_693 : zTbl (Cond.constantLong "java/lang/Long" (316 : Nat) (3689348814741910323 : Int64)) := ⟨ztin3 (List.mem_of_getElem? (i := 213) rfl), rfl⟩
theorem q_694 : zTbl (Cond.constantLong "java/lang/Long" (318 : Nat) (1085102592571150095 : Int64)) := ⟨ztin3 (List.mem_of_getElem? (i := 214) rfl), rfl⟩
theorem q_695 : zTbl (Cond.methodLink "TypeChainLaw" (84 : Nat) ({ cls := "TypeChain", name := "slipped", desc := "(II)I" } : MethodName)) := ⟨ztin3 (List.mem_of_getElem? (i := 215) rfl), rfl⟩
theorem q_696 : zTbl (Cond.instanceMethod ({ cls := "TypeChain", name := "slipped", desc := "(II)I" } : MethodName)) := ⟨ztin3 (List.mem_of_getElem? (i := 216) rfl), rfl⟩
theorem q_697 : zTbl (Cond.selects "TypeChain" ({ cls := "TypeChain", name := "slipped", desc := "(II)I" } : MethodName) ({ cls := "TypeChain", name := "slipped", desc := "(II)I" } : MethodName)) := ⟨ztin3 (List.mem_of_getElem? (i := 217) rfl), rfl⟩
theorem q_698 : zTbl (Cond.code ({ cls := "TypeChain", name := "slipped", desc := "(II)I" } : MethodName) prog_1_method_18_code (4 : Nat) (Option.some FieldType.int)) := ⟨ztin3 (List.mem_of_getElem? (i := 218) rfl), rfl⟩
theorem q_699 : zTbl (Cond.methodLink "TypeChain" (187 : Nat) ({ cls := "TypeChain$Strike", name := "shownAfterSlip", desc := "(LTypeChain$Chain;II)I" } : MethodName)) := ⟨ztin3 (List.mem_of_getElem? (i := 219) rfl), rfl⟩
theorem q_700 : zTbl (Cond.instanceMethod ({ cls := "TypeChain$Strike", name := "shownAfterSlip", desc := "(LTypeChain$Chain;II)I" } : MethodName)) := ⟨ztin3 (List.mem_of_getElem? (i := 220) rfl), rfl⟩
theorem q_701 : zTbl (Cond.selects "TypeChain$Strike" ({ cls := "TypeChain$Strike", name := "shownAfterSlip", desc := "(LTypeChain$Chain;II)I" } : MethodName) ({ cls := "TypeChain$Strike", name := "shownAfterSlip", desc := "(LTypeChain$Chain;II)I" } : MethodName)) := ⟨ztin3 (List.mem_of_getElem? (i := 221) rfl), rfl⟩
theorem q_702 : zTbl (Cond.code ({ cls := "TypeChain$Strike", name := "shownAfterSlip", desc := "(LTypeChain$Chain;II)I" } : MethodName) prog_9_method_6_code (5 : Nat) (Option.some FieldType.int)) := ⟨ztin3 (List.mem_of_getElem? (i := 222) rfl), rfl⟩
theorem q_703 : zTbl (Cond.methodLink "TypeChain$Strike" (69 : Nat) ({ cls := "TypeChain$Chain", name := "slugFacing", desc := "(II)I" } : MethodName)) := ⟨ztin3 (List.mem_of_getElem? (i := 223) rfl), rfl⟩
theorem q_704 : zTbl (Cond.methodLink "TypeChainLaw" (88 : Nat) ({ cls := "TypeChain", name := "seen", desc := "(II)I" } : MethodName)) := ⟨ztin3 (List.mem_of_getElem? (i := 224) rfl), rfl⟩
theorem q_705 : zTbl (Cond.instanceMethod ({ cls := "TypeChain", name := "seen", desc := "(II)I" } : MethodName)) := ⟨ztin3 (List.mem_of_getElem? (i := 225) rfl), rfl⟩
theorem q_706 : zTbl (Cond.selects "TypeChain" ({ cls := "TypeChain", name := "seen", desc := "(II)I" } : MethodName) ({ cls := "TypeChain", name := "seen", desc := "(II)I" } : MethodName)) := ⟨ztin3 (List.mem_of_getElem? (i := 226) rfl), rfl⟩
theorem q_707 : zTbl (Cond.code ({ cls := "TypeChain", name := "seen", desc := "(II)I" } : MethodName) prog_1_method_19_code (5 : Nat) (Option.some FieldType.int)) := ⟨ztin3 (List.mem_of_getElem? (i := 227) rfl), rfl⟩
theorem q_708 : zTbl (Cond.methodLink "TypeChainLaw" (92 : Nat) ({ cls := "TypeChain", name := "slips", desc := "(I)I" } : MethodName)) := ⟨ztin3 (List.mem_of_getElem? (i := 228) rfl), rfl⟩
theorem q_709 : zTbl (Cond.instanceMethod ({ cls := "TypeChain", name := "slips", desc := "(I)I" } : MethodName)) := ⟨ztin3 (List.mem_of_getElem? (i := 229) rfl), rfl⟩
theorem q_710 : zTbl (Cond.selects "TypeChain" ({ cls := "TypeChain", name := "slips", desc := "(I)I" } : MethodName) ({ cls := "TypeChain", name := "slips", desc := "(I)I" } : MethodName)) := ⟨ztin3 (List.mem_of_getElem? (i := 230) rfl), rfl⟩
theorem q_711 : zTbl (Cond.code ({ cls := "TypeChain", name := "slips", desc := "(I)I" } : MethodName) prog_1_method_20_code (5 : Nat) (Option.some FieldType.int)) := ⟨ztin3 (List.mem_of_getElem? (i := 231) rfl), rfl⟩
theorem q_712 : zTbl (Cond.methodLink "TypeChain" (194 : Nat) ({ cls := "TypeChain$Strike", name := "fitsSlip", desc := "(LTypeChain$Chain;II)Z" } : MethodName)) := ⟨ztin3 (List.mem_of_getElem? (i := 232) rfl), rfl⟩
theorem q_713 : zTbl (Cond.instanceMethod ({ cls := "TypeChain$Strike", name := "fitsSlip", desc := "(LTypeChain$Chain;II)Z" } : MethodName)) := ⟨ztin3 (List.mem_of_getElem? (i := 233) rfl), rfl⟩
theorem q_714 : zTbl (Cond.selects "TypeChain$Strike" ({ cls := "TypeChain$Strike", name := "fitsSlip", desc := "(LTypeChain$Chain;II)Z" } : MethodName) ({ cls := "TypeChain$Strike", name := "fitsSlip", desc := "(LTypeChain$Chain;II)Z" } : MethodName)) := ⟨ztin3 (List.mem_of_getElem? (i := 234) rfl), rfl⟩
theorem q_715 : zTbl (Cond.code ({ cls := "TypeChain$Strike", name := "fitsSlip", desc := "(LTypeChain$Chain;II)Z" } : MethodName) prog_9_method_7_code (5 : Nat) (Option.some FieldType.boolean)) := ⟨ztin3 (List.mem_of_getElem? (i := 235) rfl), rfl⟩
theorem q_716 : zTbl (Cond.methodLink "TypeChain$Strike" (78 : Nat) ({ cls := "TypeChain$Strike", name := "shownAfterSlip", desc := "(LTypeChain$Chain;II)I" } : MethodName)) := ⟨ztin3 (List.mem_of_getElem? (i := 236) rfl), rfl⟩
theorem q_717 : zTbl (Cond.methodLink "TypeChainLaw" (96 : Nat) ({ cls := "TypeChain", name := "space", desc := "(I)I" } : MethodName)) := ⟨ztin3 (List.mem_of_getElem? (i := 237) rfl), rfl⟩
theorem q_718 : zTbl (Cond.instanceMethod ({ cls := "TypeChain", name := "space", desc := "(I)I" } : MethodName)) := ⟨ztin3 (List.mem_of_getElem? (i := 238) rfl), rfl⟩
theorem q_719 : zTbl (Cond.selects "TypeChain" ({ cls := "TypeChain", name := "space", desc := "(I)I" } : MethodName) ({ cls := "TypeChain", name := "space", desc := "(I)I" } : MethodName)) := ⟨ztin3 (List.mem_of_getElem? (i := 239) rfl), rfl⟩
theorem q_720 : zTbl (Cond.code ({ cls := "TypeChain", name := "space", desc := "(I)I" } : MethodName) prog_1_method_21_code (2 : Nat) (Option.some FieldType.int)) := ⟨ztin4 (List.mem_of_getElem? (i := 0) rfl), rfl⟩
theorem q_721 : zTbl (Cond.methodLink "TypeChain" (198 : Nat) ({ cls := "TypeChain$Printer", name := "moveBy", desc := "(I)I" } : MethodName)) := ⟨ztin4 (List.mem_of_getElem? (i := 1) rfl), rfl⟩
theorem q_722 : zTbl (Cond.instanceMethod ({ cls := "TypeChain$Printer", name := "moveBy", desc := "(I)I" } : MethodName)) := ⟨ztin4 (List.mem_of_getElem? (i := 2) rfl), rfl⟩
theorem q_723 : zTbl (Cond.selects "TypeChain$Printer" ({ cls := "TypeChain$Printer", name := "moveBy", desc := "(I)I" } : MethodName) ({ cls := "TypeChain$Printer", name := "moveBy", desc := "(I)I" } : MethodName)) := ⟨ztin4 (List.mem_of_getElem? (i := 3) rfl), rfl⟩
theorem q_724 : zTbl (Cond.code ({ cls := "TypeChain$Printer", name := "moveBy", desc := "(I)I" } : MethodName) prog_4_method_6_code (4 : Nat) (Option.some FieldType.int)) := ⟨ztin4 (List.mem_of_getElem? (i := 4) rfl), rfl⟩
theorem q_725 : zTbl (Cond.methodLink "TypeChainLaw" (100 : Nat) ({ cls := "TypeChain", name := "skip", desc := "(I)I" } : MethodName)) := ⟨ztin4 (List.mem_of_getElem? (i := 5) rfl), rfl⟩
theorem q_726 : zTbl (Cond.instanceMethod ({ cls := "TypeChain", name := "skip", desc := "(I)I" } : MethodName)) := ⟨ztin4 (List.mem_of_getElem? (i := 6) rfl), rfl⟩
theorem q_727 : zTbl (Cond.selects "TypeChain" ({ cls := "TypeChain", name := "skip", desc := "(I)I" } : MethodName) ({ cls := "TypeChain", name := "skip", desc := "(I)I" } : MethodName)) := ⟨ztin4 (List.mem_of_getElem? (i := 7) rfl), rfl⟩
theorem q_728 : zTbl (Cond.code ({ cls := "TypeChain", name := "skip", desc := "(I)I" } : MethodName) prog_1_method_22_code (2 : Nat) (Option.some FieldType.int)) := ⟨ztin4 (List.mem_of_getElem? (i := 8) rfl), rfl⟩
theorem q_729 : zTbl (Cond.methodLink "TypeChain" (202 : Nat) ({ cls := "TypeChain$Printer", name := "moveToHole", desc := "(I)I" } : MethodName)) := ⟨ztin4 (List.mem_of_getElem? (i := 9) rfl), rfl⟩
theorem q_730 : zTbl (Cond.instanceMethod ({ cls := "TypeChain$Printer", name := "moveToHole", desc := "(I)I" } : MethodName)) := ⟨ztin4 (List.mem_of_getElem? (i := 10) rfl), rfl⟩
theorem q_731 : zTbl (Cond.selects "TypeChain$Printer" ({ cls := "TypeChain$Printer", name := "moveToHole", desc := "(I)I" } : MethodName) ({ cls := "TypeChain$Printer", name := "moveToHole", desc := "(I)I" } : MethodName)) := ⟨ztin4 (List.mem_of_getElem? (i := 11) rfl), rfl⟩
theorem q_732 : zTbl (Cond.code ({ cls := "TypeChain$Printer", name := "moveToHole", desc := "(I)I" } : MethodName) prog_4_method_7_code (3 : Nat) (Option.some FieldType.int)) := ⟨ztin4 (List.mem_of_getElem? (i := 12) rfl), rfl⟩
theorem q_733 : zTbl (Cond.methodLink "TypeChain$Printer" (88 : Nat) ({ cls := "TypeChain$Rules", name := "rowsToHole", desc := "(II)I" } : MethodName)) := ⟨ztin4 (List.mem_of_getElem? (i := 13) rfl), rfl⟩
theorem q_734 : zTbl (Cond.instanceMethod ({ cls := "TypeChain$Rules", name := "rowsToHole", desc := "(II)I" } : MethodName)) := ⟨ztin4 (List.mem_of_getElem? (i := 14) rfl), rfl⟩
theorem q_735 : zTbl (Cond.selects "TypeChain$Rules" ({ cls := "TypeChain$Rules", name := "rowsToHole", desc := "(II)I" } : MethodName) ({ cls := "TypeChain$Rules", name := "rowsToHole", desc := "(II)I" } : MethodName)) := ⟨ztin4 (List.mem_of_getElem? (i := 15) rfl), rfl⟩
theorem q_736 : zTbl (Cond.code ({ cls := "TypeChain$Rules", name := "rowsToHole", desc := "(II)I" } : MethodName) prog_7_method_5_code (6 : Nat) (Option.some FieldType.int)) := ⟨ztin4 (List.mem_of_getElem? (i := 16) rfl), rfl⟩
theorem q_737 : zTbl (Cond.methodLink "TypeChain$Printer" (92 : Nat) ({ cls := "TypeChain$Printer", name := "moveBy", desc := "(I)I" } : MethodName)) := ⟨ztin4 (List.mem_of_getElem? (i := 17) rfl), rfl⟩
theorem q_738 : zTbl (Cond.methodLink "TypeChainLaw" (104 : Nat) ({ cls := "TypeChain", name := "now", desc := "(I)I" } : MethodName)) := ⟨ztin4 (List.mem_of_getElem? (i := 18) rfl), rfl⟩
theorem q_739 : zTbl (Cond.instanceMethod ({ cls := "TypeChain", name := "now", desc := "(I)I" } : MethodName)) := ⟨ztin4 (List.mem_of_getElem? (i := 19) rfl), rfl⟩
theorem q_740 : zTbl (Cond.selects "TypeChain" ({ cls := "TypeChain", name := "now", desc := "(I)I" } : MethodName) ({ cls := "TypeChain", name := "now", desc := "(I)I" } : MethodName)) := ⟨ztin4 (List.mem_of_getElem? (i := 20) rfl), rfl⟩
theorem q_741 : zTbl (Cond.code ({ cls := "TypeChain", name := "now", desc := "(I)I" } : MethodName) prog_1_method_23_code (2 : Nat) (Option.some FieldType.int)) := ⟨ztin4 (List.mem_of_getElem? (i := 21) rfl), rfl⟩
theorem q_742 : zTbl (Cond.methodLink "TypeChain" (211 : Nat) ({ cls := "TypeChain$Page", name := "placesStruck", desc := "(I)I" } : MethodName)) := ⟨ztin4 (List.mem_of_getElem? (i := 22) rfl), rfl⟩
theorem q_743 : zTbl (Cond.instanceMethod ({ cls := "TypeChain$Page", name := "placesStruck", desc := "(I)I" } : MethodName)) := ⟨ztin4 (List.mem_of_getElem? (i := 23) rfl), rfl⟩
theorem q_744 : zTbl (Cond.selects "TypeChain$Page" ({ cls := "TypeChain$Page", name := "placesStruck", desc := "(I)I" } : MethodName) ({ cls := "TypeChain$Page", name := "placesStruck", desc := "(I)I" } : MethodName)) := ⟨ztin4 (List.mem_of_getElem? (i := 24) rfl), rfl⟩
theorem q_745 : zTbl (Cond.code ({ cls := "TypeChain$Page", name := "placesStruck", desc := "(I)I" } : MethodName) prog_3_method_4_code (4 : Nat) (Option.some FieldType.int)) := ⟨ztin4 (List.mem_of_getElem? (i := 25) rfl), rfl⟩
theorem q_746 : zTbl (Cond.methodLink "TypeChainLaw" (108 : Nat) ({ cls := "TypeChain", name := "page", desc := "(III)I" } : MethodName)) := ⟨ztin4 (List.mem_of_getElem? (i := 26) rfl), rfl⟩
theorem q_747 : zTbl (Cond.instanceMethod ({ cls := "TypeChain", name := "page", desc := "(III)I" } : MethodName)) := ⟨ztin4 (List.mem_of_getElem? (i := 27) rfl), rfl⟩
theorem q_748 : zTbl (Cond.selects "TypeChain" ({ cls := "TypeChain", name := "page", desc := "(III)I" } : MethodName) ({ cls := "TypeChain", name := "page", desc := "(III)I" } : MethodName)) := ⟨ztin4 (List.mem_of_getElem? (i := 28) rfl), rfl⟩
theorem q_749 : zTbl (Cond.code ({ cls := "TypeChain", name := "page", desc := "(III)I" } : MethodName) prog_1_method_24_code (5 : Nat) (Option.some FieldType.int)) := ⟨ztin4 (List.mem_of_getElem? (i := 29) rfl), rfl⟩
theorem q_750 : zTbl (Cond.methodLink "TypeChainLaw" (112 : Nat) ({ cls := "TypeChain", name := "run", desc := "()I" } : MethodName)) := ⟨ztin4 (List.mem_of_getElem? (i := 30) rfl), rfl⟩
theorem q_751 : zTbl (Cond.instanceMethod ({ cls := "TypeChain", name := "run", desc := "()I" } : MethodName)) := ⟨ztin4 (List.mem_of_getElem? (i := 31) rfl), rfl⟩
theorem q_752 : zTbl (Cond.selects "TypeChain" ({ cls := "TypeChain", name := "run", desc := "()I" } : MethodName) ({ cls := "TypeChain", name := "run", desc := "()I" } : MethodName)) := ⟨ztin4 (List.mem_of_getElem? (i := 32) rfl), rfl⟩
theorem q_753 : zTbl (Cond.code ({ cls := "TypeChain", name := "run", desc := "()I" } : MethodName) prog_1_method_25_code (4 : Nat) (Option.some FieldType.int)) := ⟨ztin4 (List.mem_of_getElem? (i := 33) rfl), rfl⟩
theorem q_754 : zTbl (Cond.methodLink "TypeChain" (221 : Nat) ({ cls := "TypeChain$Printer", name := "runProgram", desc := "()I" } : MethodName)) := ⟨ztin4 (List.mem_of_getElem? (i := 34) rfl), rfl⟩
theorem q_755 : zTbl (Cond.instanceMethod ({ cls := "TypeChain$Printer", name := "runProgram", desc := "()I" } : MethodName)) := ⟨ztin4 (List.mem_of_getElem? (i := 35) rfl), rfl⟩
theorem q_756 : zTbl (Cond.selects "TypeChain$Printer" ({ cls := "TypeChain$Printer", name := "runProgram", desc := "()I" } : MethodName) ({ cls := "TypeChain$Printer", name := "runProgram", desc := "()I" } : MethodName)) := ⟨ztin4 (List.mem_of_getElem? (i := 36) rfl), rfl⟩
theorem q_757 : zTbl (Cond.code ({ cls := "TypeChain$Printer", name := "runProgram", desc := "()I" } : MethodName) prog_4_method_8_code (4 : Nat) (Option.some FieldType.int)) := ⟨ztin4 (List.mem_of_getElem? (i := 37) rfl), rfl⟩
theorem q_758 : zTbl (Cond.methodLink "TypeChain$Printer" (108 : Nat) ({ cls := "TypeChain$Printer", name := "fillLine", desc := "(LTypeChain$Program;I)V" } : MethodName)) := ⟨ztin4 (List.mem_of_getElem? (i := 38) rfl), rfl⟩
theorem q_759 : Cond.privateMethod ({ cls := "TypeChain$Printer", name := "fillLine", desc := "(LTypeChain$Program;I)V" } : MethodName) ∈ lw_tbl := ztin4 (List.mem_of_getElem? (i := 39) rfl)
theorem q_760 : zTbl (Cond.instanceMethod ({ cls := "TypeChain$Printer", name := "fillLine", desc := "(LTypeChain$Program;I)V" } : MethodName)) := ⟨ztin4 (List.mem_of_getElem? (i := 40) rfl), rfl⟩
theorem q_761 : zTbl (Cond.code ({ cls := "TypeChain$Printer", name := "fillLine", desc := "(LTypeChain$Program;I)V" } : MethodName) prog_4_method_9_code (6 : Nat) (Option.none : Option Jvm.ClassFile.FieldType)) := ⟨ztin4 (List.mem_of_getElem? (i := 41) rfl), rfl⟩
theorem q_762 : zTbl (Cond.methodLink "TypeChain$Printer" (124 : Nat) ({ cls := "java/lang/Math", name := "min", desc := "(II)I" } : MethodName)) := ⟨ztin4 (List.mem_of_getElem? (i := 42) rfl), rfl⟩
theorem q_763 : zTbl (Cond.methodLink "TypeChain$Printer" (129 : Nat) ({ cls := "TypeChain$Program", name := "letterOf", desc := "(II)I" } : MethodName)) := ⟨ztin4 (List.mem_of_getElem? (i := 43) rfl), rfl⟩
theorem q_764 : zTbl (Cond.methodLink "TypeChain$Printer" (112 : Nat) ({ cls := "TypeChain$Printer", name := "strikeLine", desc := "()I" } : MethodName)) := ⟨ztin4 (List.mem_of_getElem? (i := 44) rfl), rfl⟩
theorem q_765 : zTbl (Cond.methodLink "TypeChain$Printer" (118 : Nat) ({ cls := "TypeChain$Printer", name := "moveToHole", desc := "(I)I" } : MethodName)) := ⟨ztin4 (List.mem_of_getElem? (i := 45) rfl), rfl⟩
theorem q_766 : zTbl (Cond.methodLink "TypeChainLaw" (116 : Nat) ({ cls := "TypeChain", name := "ran", desc := "(I)I" } : MethodName)) := ⟨ztin4 (List.mem_of_getElem? (i := 46) rfl), rfl⟩
theorem q_767 : zTbl (Cond.instanceMethod ({ cls := "TypeChain", name := "ran", desc := "(I)I" } : MethodName)) := ⟨ztin4 (List.mem_of_getElem? (i := 47) rfl), rfl⟩
theorem q_768 : zTbl (Cond.selects "TypeChain" ({ cls := "TypeChain", name := "ran", desc := "(I)I" } : MethodName) ({ cls := "TypeChain", name := "ran", desc := "(I)I" } : MethodName)) := ⟨ztin4 (List.mem_of_getElem? (i := 48) rfl), rfl⟩
theorem q_769 : zTbl (Cond.code ({ cls := "TypeChain", name := "ran", desc := "(I)I" } : MethodName) prog_1_method_26_code (2 : Nat) (Option.some FieldType.int)) := ⟨ztin4 (List.mem_of_getElem? (i := 49) rfl), rfl⟩
theorem q_770 : zTbl (Cond.methodLink "TypeChainLaw" (120 : Nat) ({ cls := "TypeChain", name := "best", desc := "(I)I" } : MethodName)) := ⟨ztin4 (List.mem_of_getElem? (i := 50) rfl), rfl⟩
theorem q_771 : zTbl (Cond.instanceMethod ({ cls := "TypeChain", name := "best", desc := "(I)I" } : MethodName)) := ⟨ztin4 (List.mem_of_getElem? (i := 51) rfl), rfl⟩
theorem q_772 : zTbl (Cond.selects "TypeChain" ({ cls := "TypeChain", name := "best", desc := "(I)I" } : MethodName) ({ cls := "TypeChain", name := "best", desc := "(I)I" } : MethodName)) := ⟨ztin4 (List.mem_of_getElem? (i := 52) rfl), rfl⟩
theorem q_773 : zTbl (Cond.code ({ cls := "TypeChain", name := "best", desc := "(I)I" } : MethodName) prog_1_method_27_code (2 : Nat) (Option.some FieldType.int)) := ⟨ztin4 (List.mem_of_getElem? (i := 53) rfl), rfl⟩
theorem q_774 : zTbl (Cond.methodLink "TypeChain" (236 : Nat) ({ cls := "TypeChain$Trials", name := "findOrder", desc := "(LTypeChain$Rules;)V" } : MethodName)) := ⟨ztin4 (List.mem_of_getElem? (i := 54) rfl), rfl⟩
theorem q_775 : zTbl (Cond.instanceMethod ({ cls := "TypeChain$Trials", name := "findOrder", desc := "(LTypeChain$Rules;)V" } : MethodName)) := ⟨ztin4 (List.mem_of_getElem? (i := 55) rfl), rfl⟩
theorem q_776 : zTbl (Cond.selects "TypeChain$Trials" ({ cls := "TypeChain$Trials", name := "findOrder", desc := "(LTypeChain$Rules;)V" } : MethodName) ({ cls := "TypeChain$Trials", name := "findOrder", desc := "(LTypeChain$Rules;)V" } : MethodName)) := ⟨ztin4 (List.mem_of_getElem? (i := 56) rfl), rfl⟩
theorem q_777 : zTbl (Cond.code ({ cls := "TypeChain$Trials", name := "findOrder", desc := "(LTypeChain$Rules;)V" } : MethodName) prog_10_method_3_code (4 : Nat) (Option.none : Option Jvm.ClassFile.FieldType)) := ⟨ztin4 (List.mem_of_getElem? (i := 57) rfl), rfl⟩
theorem q_778 : zTbl (Cond.methodLink "TypeChain$Trials" (41 : Nat) ({ cls := "TypeChain$Chain", name := "copyFrom", desc := "(LTypeChain$Chain;)V" } : MethodName)) := ⟨ztin4 (List.mem_of_getElem? (i := 58) rfl), rfl⟩
theorem q_779 : zTbl (Cond.instanceMethod ({ cls := "TypeChain$Chain", name := "copyFrom", desc := "(LTypeChain$Chain;)V" } : MethodName)) := ⟨ztin4 (List.mem_of_getElem? (i := 59) rfl), rfl⟩
theorem q_780 : zTbl (Cond.selects "TypeChain$Chain" ({ cls := "TypeChain$Chain", name := "copyFrom", desc := "(LTypeChain$Chain;)V" } : MethodName) ({ cls := "TypeChain$Chain", name := "copyFrom", desc := "(LTypeChain$Chain;)V" } : MethodName)) := ⟨ztin4 (List.mem_of_getElem? (i := 60) rfl), rfl⟩
theorem q_781 : zTbl (Cond.code ({ cls := "TypeChain$Chain", name := "copyFrom", desc := "(LTypeChain$Chain;)V" } : MethodName) prog_2_method_2_code (2 : Nat) (Option.none : Option Jvm.ClassFile.FieldType)) := ⟨ztin4 (List.mem_of_getElem? (i := 61) rfl), rfl⟩
theorem q_782 : zTbl (Cond.methodLink "TypeChain$Chain" (15 : Nat) ({ cls := "java/lang/System", name := "arraycopy", desc := "(Ljava/lang/Object;ILjava/lang/Object;II)V" } : MethodName)) := ⟨ztin4 (List.mem_of_getElem? (i := 62) rfl), rfl⟩
theorem q_783 : zTbl (Cond.methodLink "TypeChain$Trials" (45 : Nat) ({ cls := "TypeChain$Chain", name := "sortLetters", desc := "()V" } : MethodName)) := ⟨ztin4 (List.mem_of_getElem? (i := 63) rfl), rfl⟩
theorem q_784 : zTbl (Cond.instanceMethod ({ cls := "TypeChain$Chain", name := "sortLetters", desc := "()V" } : MethodName)) := ⟨ztin4 (List.mem_of_getElem? (i := 64) rfl), rfl⟩
theorem q_785 : zTbl (Cond.selects "TypeChain$Chain" ({ cls := "TypeChain$Chain", name := "sortLetters", desc := "()V" } : MethodName) ({ cls := "TypeChain$Chain", name := "sortLetters", desc := "()V" } : MethodName)) := ⟨ztin4 (List.mem_of_getElem? (i := 65) rfl), rfl⟩
theorem q_786 : zTbl (Cond.code ({ cls := "TypeChain$Chain", name := "sortLetters", desc := "()V" } : MethodName) prog_2_method_7_code (3 : Nat) (Option.none : Option Jvm.ClassFile.FieldType)) := ⟨ztin4 (List.mem_of_getElem? (i := 66) rfl), rfl⟩
theorem q_787 : zTbl (Cond.methodLink "TypeChain$Chain" (35 : Nat) ({ cls := "TypeChain$Chain", name := "swapLetters", desc := "(II)V" } : MethodName)) := ⟨ztin4 (List.mem_of_getElem? (i := 67) rfl), rfl⟩
theorem q_788 : Cond.privateMethod ({ cls := "TypeChain$Chain", name := "swapLetters", desc := "(II)V" } : MethodName) ∈ lw_tbl := ztin4 (List.mem_of_getElem? (i := 68) rfl)
theorem q_789 : zTbl (Cond.instanceMethod ({ cls := "TypeChain$Chain", name := "swapLetters", desc := "(II)V" } : MethodName)) := ⟨ztin4 (List.mem_of_getElem? (i := 69) rfl), rfl⟩
theorem q_790 : zTbl (Cond.code ({ cls := "TypeChain$Chain", name := "swapLetters", desc := "(II)V" } : MethodName) prog_2_method_9_code (4 : Nat) (Option.none : Option Jvm.ClassFile.FieldType)) := ⟨ztin4 (List.mem_of_getElem? (i := 70) rfl), rfl⟩
theorem q_791 : zTbl (Cond.methodLink "TypeChain$Trials" (48 : Nat) ({ cls := "TypeChain$Trials", name := "ticksOfRun", desc := "(LTypeChain$Rules;)I" } : MethodName)) := ⟨ztin4 (List.mem_of_getElem? (i := 71) rfl), rfl⟩
theorem q_792 : Cond.privateMethod ({ cls := "TypeChain$Trials", name := "ticksOfRun", desc := "(LTypeChain$Rules;)I" } : MethodName) ∈ lw_tbl := ztin4 (List.mem_of_getElem? (i := 72) rfl)
theorem q_793 : zTbl (Cond.instanceMethod ({ cls := "TypeChain$Trials", name := "ticksOfRun", desc := "(LTypeChain$Rules;)I" } : MethodName)) := ⟨ztin4 (List.mem_of_getElem? (i := 73) rfl), rfl⟩
theorem q_794 : zTbl (Cond.code ({ cls := "TypeChain$Trials", name := "ticksOfRun", desc := "(LTypeChain$Rules;)I" } : MethodName) prog_10_method_6_code (2 : Nat) (Option.some FieldType.int)) := ⟨ztin4 (List.mem_of_getElem? (i := 74) rfl), rfl⟩
theorem q_795 : zTbl (Cond.methodLink "TypeChain$Trials" (85 : Nat) ({ cls := "TypeChain$Printer", name := "begin", desc := "(LTypeChain$Rules;LTypeChain$Chain;)V" } : MethodName)) := ⟨ztin4 (List.mem_of_getElem? (i := 75) rfl), rfl⟩
theorem q_796 : zTbl (Cond.methodLink "TypeChain$Trials" (89 : Nat) ({ cls := "TypeChain$Printer", name := "runProgram", desc := "()I" } : MethodName)) := ⟨ztin4 (List.mem_of_getElem? (i := 76) rfl), rfl⟩
theorem q_797 : zTbl (Cond.methodLink "TypeChain$Trials" (52 : Nat) ({ cls := "TypeChain$Trials", name := "keepOrder", desc := "(I)V" } : MethodName)) := ⟨ztin4 (List.mem_of_getElem? (i := 77) rfl), rfl⟩
theorem q_798 : Cond.privateMethod ({ cls := "TypeChain$Trials", name := "keepOrder", desc := "(I)V" } : MethodName) ∈ lw_tbl := ztin4 (List.mem_of_getElem? (i := 78) rfl)
theorem q_799 : zTbl (Cond.instanceMethod ({ cls := "TypeChain$Trials", name := "keepOrder", desc := "(I)V" } : MethodName)) := ⟨ztin4 (List.mem_of_getElem? (i := 79) rfl), rfl⟩
theorem q_800 : zTbl (Cond.code ({ cls := "TypeChain$Trials", name := "keepOrder", desc := "(I)V" } : MethodName) prog_10_method_4_code (2 : Nat) (Option.none : Option Jvm.ClassFile.FieldType)) := ⟨ztin4 (List.mem_of_getElem? (i := 80) rfl), rfl⟩
theorem q_801 : zTbl (Cond.methodLink "TypeChain$Trials" (67 : Nat) ({ cls := "java/lang/System", name := "arraycopy", desc := "(Ljava/lang/Object;ILjava/lang/Object;II)V" } : MethodName)) := ⟨ztin4 (List.mem_of_getElem? (i := 81) rfl), rfl⟩
theorem q_802 : zTbl (Cond.methodLink "TypeChain$Trials" (60 : Nat) ({ cls := "TypeChain$Chain", name := "toNextOrder", desc := "()Z" } : MethodName)) := ⟨ztin4 (List.mem_of_getElem? (i := 82) rfl), rfl⟩
theorem q_803 : zTbl (Cond.instanceMethod ({ cls := "TypeChain$Chain", name := "toNextOrder", desc := "()Z" } : MethodName)) := ⟨ztin4 (List.mem_of_getElem? (i := 83) rfl), rfl⟩
theorem q_804 : zTbl (Cond.selects "TypeChain$Chain" ({ cls := "TypeChain$Chain", name := "toNextOrder", desc := "()Z" } : MethodName) ({ cls := "TypeChain$Chain", name := "toNextOrder", desc := "()Z" } : MethodName)) := ⟨ztin4 (List.mem_of_getElem? (i := 84) rfl), rfl⟩
theorem q_805 : zTbl (Cond.code ({ cls := "TypeChain$Chain", name := "toNextOrder", desc := "()Z" } : MethodName) prog_2_method_8_code (5 : Nat) (Option.some FieldType.boolean)) := ⟨ztin4 (List.mem_of_getElem? (i := 85) rfl), rfl⟩
theorem q_806 : zTbl (Cond.methodLink "TypeChainLaw" (124 : Nat) ({ cls := "TypeChain", name := "twice", desc := "(I)I" } : MethodName)) := ⟨ztin4 (List.mem_of_getElem? (i := 86) rfl), rfl⟩
theorem q_807 : zTbl (Cond.instanceMethod ({ cls := "TypeChain", name := "twice", desc := "(I)I" } : MethodName)) := ⟨ztin4 (List.mem_of_getElem? (i := 87) rfl), rfl⟩
theorem q_808 : zTbl (Cond.selects "TypeChain" ({ cls := "TypeChain", name := "twice", desc := "(I)I" } : MethodName) ({ cls := "TypeChain", name := "twice", desc := "(I)I" } : MethodName)) := ⟨ztin4 (List.mem_of_getElem? (i := 88) rfl), rfl⟩
theorem q_809 : zTbl (Cond.code ({ cls := "TypeChain", name := "twice", desc := "(I)I" } : MethodName) prog_1_method_28_code (2 : Nat) (Option.some FieldType.int)) := ⟨ztin4 (List.mem_of_getElem? (i := 89) rfl), rfl⟩
theorem q_810 : zTbl (Cond.constant "TypeChain" (245 : Nat) (-1000000 : Int32)) := ⟨ztin4 (List.mem_of_getElem? (i := 90) rfl), rfl⟩
theorem q_811 : zTbl (Cond.constant "TypeChain" (246 : Nat) (-1000002 : Int32)) := ⟨ztin4 (List.mem_of_getElem? (i := 91) rfl), rfl⟩
theorem q_812 : zTbl (Cond.methodLink "TypeChain" (247 : Nat) ({ cls := "TypeChain$Trials", name := "findDouble", desc := "(LTypeChain$Rules;)V" } : MethodName)) := ⟨ztin4 (List.mem_of_getElem? (i := 92) rfl), rfl⟩
theorem q_813 : zTbl (Cond.instanceMethod ({ cls := "TypeChain$Trials", name := "findDouble", desc := "(LTypeChain$Rules;)V" } : MethodName)) := ⟨ztin4 (List.mem_of_getElem? (i := 93) rfl), rfl⟩
theorem q_814 : zTbl (Cond.selects "TypeChain$Trials" ({ cls := "TypeChain$Trials", name := "findDouble", desc := "(LTypeChain$Rules;)V" } : MethodName) ({ cls := "TypeChain$Trials", name := "findDouble", desc := "(LTypeChain$Rules;)V" } : MethodName)) := ⟨ztin4 (List.mem_of_getElem? (i := 94) rfl), rfl⟩
theorem q_815 : zTbl (Cond.code ({ cls := "TypeChain$Trials", name := "findDouble", desc := "(LTypeChain$Rules;)V" } : MethodName) prog_10_method_5_code (4 : Nat) (Option.none : Option Jvm.ClassFile.FieldType)) := ⟨ztin4 (List.mem_of_getElem? (i := 95) rfl), rfl⟩
theorem q_816 : zTbl (Cond.constant "TypeChain" (259 : Nat) (-1000004 : Int32)) := ⟨ztin4 (List.mem_of_getElem? (i := 96) rfl), rfl⟩
theorem q_817 : zTbl (Cond.methodLink "TypeChainLaw" (128 : Nat) ({ cls := "TypeChain", name := "sheet", desc := "(III)I" } : MethodName)) := ⟨ztin4 (List.mem_of_getElem? (i := 97) rfl), rfl⟩
theorem q_818 : zTbl (Cond.instanceMethod ({ cls := "TypeChain", name := "sheet", desc := "(III)I" } : MethodName)) := ⟨ztin4 (List.mem_of_getElem? (i := 98) rfl), rfl⟩
theorem q_819 : zTbl (Cond.selects "TypeChain" ({ cls := "TypeChain", name := "sheet", desc := "(III)I" } : MethodName) ({ cls := "TypeChain", name := "sheet", desc := "(III)I" } : MethodName)) := ⟨ztin4 (List.mem_of_getElem? (i := 99) rfl), rfl⟩
theorem q_820 : zTbl (Cond.code ({ cls := "TypeChain", name := "sheet", desc := "(III)I" } : MethodName) prog_1_method_29_code (4 : Nat) (Option.some FieldType.int)) := ⟨ztin4 (List.mem_of_getElem? (i := 100) rfl), rfl⟩
theorem q_821 : zTbl (Cond.methodLink "TypeChain" (260 : Nat) ({ cls := "TypeChain", name := "isSheet", desc := "(I)Z" } : MethodName)) := ⟨ztin4 (List.mem_of_getElem? (i := 101) rfl), rfl⟩
theorem q_822 : zTbl (Cond.static ({ cls := "TypeChain", name := "isSheet", desc := "(I)Z" } : MethodName)) := ⟨ztin4 (List.mem_of_getElem? (i := 102) rfl), rfl⟩
theorem q_823 : zTbl (Cond.code ({ cls := "TypeChain", name := "isSheet", desc := "(I)Z" } : MethodName) prog_1_method_38_code (1 : Nat) (Option.some FieldType.boolean)) := ⟨ztin4 (List.mem_of_getElem? (i := 103) rfl), rfl⟩
theorem q_824 : zTbl (Cond.methodLink "TypeChain" (263 : Nat) ({ cls := "TypeChain", name := "isLane", desc := "(I)Z" } : MethodName)) := ⟨ztin4 (List.mem_of_getElem? (i := 104) rfl), rfl⟩
theorem q_825 : zTbl (Cond.static ({ cls := "TypeChain", name := "isLane", desc := "(I)Z" } : MethodName)) := ⟨ztin4 (List.mem_of_getElem? (i := 105) rfl), rfl⟩
theorem q_826 : zTbl (Cond.code ({ cls := "TypeChain", name := "isLane", desc := "(I)Z" } : MethodName) prog_1_method_39_code (1 : Nat) (Option.some FieldType.boolean)) := ⟨ztin4 (List.mem_of_getElem? (i := 106) rfl), rfl⟩
theorem q_827 : zTbl (Cond.methodLink "TypeChain" (266 : Nat) ({ cls := "TypeChain$Sheets", name := "renew", desc := "(III)V" } : MethodName)) := ⟨ztin4 (List.mem_of_getElem? (i := 107) rfl), rfl⟩
theorem q_828 : zTbl (Cond.instanceMethod ({ cls := "TypeChain$Sheets", name := "renew", desc := "(III)V" } : MethodName)) := ⟨ztin4 (List.mem_of_getElem? (i := 108) rfl), rfl⟩
theorem q_829 : zTbl (Cond.selects "TypeChain$Sheets" ({ cls := "TypeChain$Sheets", name := "renew", desc := "(III)V" } : MethodName) ({ cls := "TypeChain$Sheets", name := "renew", desc := "(III)V" } : MethodName)) := ⟨ztin4 (List.mem_of_getElem? (i := 109) rfl), rfl⟩
theorem q_830 : zTbl (Cond.code ({ cls := "TypeChain$Sheets", name := "renew", desc := "(III)V" } : MethodName) prog_8_method_4_code (5 : Nat) (Option.none : Option Jvm.ClassFile.FieldType)) := ⟨ztin4 (List.mem_of_getElem? (i := 110) rfl), rfl⟩
theorem q_831 : zTbl (Cond.methodLink "TypeChainLaw" (132 : Nat) ({ cls := "TypeChain", name := "lay", desc := "(III)I" } : MethodName)) := ⟨ztin4 (List.mem_of_getElem? (i := 111) rfl), rfl⟩
theorem q_832 : zTbl (Cond.instanceMethod ({ cls := "TypeChain", name := "lay", desc := "(III)I" } : MethodName)) := ⟨ztin4 (List.mem_of_getElem? (i := 112) rfl), rfl⟩
theorem q_833 : zTbl (Cond.selects "TypeChain" ({ cls := "TypeChain", name := "lay", desc := "(III)I" } : MethodName) ({ cls := "TypeChain", name := "lay", desc := "(III)I" } : MethodName)) := ⟨ztin4 (List.mem_of_getElem? (i := 113) rfl), rfl⟩
theorem q_834 : zTbl (Cond.code ({ cls := "TypeChain", name := "lay", desc := "(III)I" } : MethodName) prog_1_method_30_code (4 : Nat) (Option.some FieldType.int)) := ⟨ztin4 (List.mem_of_getElem? (i := 114) rfl), rfl⟩
theorem q_835 : zTbl (Cond.methodLink "TypeChain" (270 : Nat) ({ cls := "TypeChain$Sheets", name := "isNothing", desc := "(I)Z" } : MethodName)) := ⟨ztin4 (List.mem_of_getElem? (i := 115) rfl), rfl⟩
theorem q_836 : zTbl (Cond.instanceMethod ({ cls := "TypeChain$Sheets", name := "isNothing", desc := "(I)Z" } : MethodName)) := ⟨ztin4 (List.mem_of_getElem? (i := 116) rfl), rfl⟩
theorem q_837 : zTbl (Cond.selects "TypeChain$Sheets" ({ cls := "TypeChain$Sheets", name := "isNothing", desc := "(I)Z" } : MethodName) ({ cls := "TypeChain$Sheets", name := "isNothing", desc := "(I)Z" } : MethodName)) := ⟨ztin4 (List.mem_of_getElem? (i := 117) rfl), rfl⟩
theorem q_838 : zTbl (Cond.code ({ cls := "TypeChain$Sheets", name := "isNothing", desc := "(I)Z" } : MethodName) prog_8_method_2_code (2 : Nat) (Option.some FieldType.boolean)) := ⟨ztin4 (List.mem_of_getElem? (i := 118) rfl), rfl⟩
theorem q_839 : zTbl (Cond.methodLink "TypeChain" (273 : Nat) ({ cls := "TypeChain$Sheets", name := "hasCell", desc := "(II)Z" } : MethodName)) := ⟨ztin4 (List.mem_of_getElem? (i := 119) rfl), rfl⟩
theorem q_840 : zTbl (Cond.instanceMethod ({ cls := "TypeChain$Sheets", name := "hasCell", desc := "(II)Z" } : MethodName)) := ⟨ztin4 (List.mem_of_getElem? (i := 120) rfl), rfl⟩
theorem q_841 : zTbl (Cond.selects "TypeChain$Sheets" ({ cls := "TypeChain$Sheets", name := "hasCell", desc := "(II)Z" } : MethodName) ({ cls := "TypeChain$Sheets", name := "hasCell", desc := "(II)Z" } : MethodName)) := ⟨ztin4 (List.mem_of_getElem? (i := 121) rfl), rfl⟩
theorem q_842 : zTbl (Cond.code ({ cls := "TypeChain$Sheets", name := "hasCell", desc := "(II)Z" } : MethodName) prog_8_method_3_code (3 : Nat) (Option.some FieldType.boolean)) := ⟨ztin4 (List.mem_of_getElem? (i := 122) rfl), rfl⟩
theorem q_843 : zTbl (Cond.methodLink "TypeChain" (277 : Nat) ({ cls := "TypeChain$Sheets", name := "write", desc := "(III)V" } : MethodName)) := ⟨ztin4 (List.mem_of_getElem? (i := 123) rfl), rfl⟩
theorem q_844 : zTbl (Cond.instanceMethod ({ cls := "TypeChain$Sheets", name := "write", desc := "(III)V" } : MethodName)) := ⟨ztin4 (List.mem_of_getElem? (i := 124) rfl), rfl⟩
theorem q_845 : zTbl (Cond.selects "TypeChain$Sheets" ({ cls := "TypeChain$Sheets", name := "write", desc := "(III)V" } : MethodName) ({ cls := "TypeChain$Sheets", name := "write", desc := "(III)V" } : MethodName)) := ⟨ztin4 (List.mem_of_getElem? (i := 125) rfl), rfl⟩
theorem q_846 : zTbl (Cond.code ({ cls := "TypeChain$Sheets", name := "write", desc := "(III)V" } : MethodName) prog_8_method_6_code (5 : Nat) (Option.none : Option Jvm.ClassFile.FieldType)) := ⟨ztin4 (List.mem_of_getElem? (i := 126) rfl), rfl⟩
theorem q_847 : zTbl (Cond.methodLink "TypeChainLaw" (136 : Nat) ({ cls := "TypeChain", name := "read", desc := "(III)I" } : MethodName)) := ⟨ztin4 (List.mem_of_getElem? (i := 127) rfl), rfl⟩
theorem q_848 : zTbl (Cond.instanceMethod ({ cls := "TypeChain", name := "read", desc := "(III)I" } : MethodName)) := ⟨ztin4 (List.mem_of_getElem? (i := 128) rfl), rfl⟩
theorem q_849 : zTbl (Cond.selects "TypeChain" ({ cls := "TypeChain", name := "read", desc := "(III)I" } : MethodName) ({ cls := "TypeChain", name := "read", desc := "(III)I" } : MethodName)) := ⟨ztin4 (List.mem_of_getElem? (i := 129) rfl), rfl⟩
theorem q_850 : zTbl (Cond.code ({ cls := "TypeChain", name := "read", desc := "(III)I" } : MethodName) prog_1_method_31_code (7 : Nat) (Option.some FieldType.int)) := ⟨ztin4 (List.mem_of_getElem? (i := 130) rfl), rfl⟩
theorem q_851 : zTbl (Cond.methodLink "TypeChain" (283 : Nat) ({ cls := "TypeChain$Sheets", name := "valueOf", desc := "(II)I" } : MethodName)) := ⟨ztin4 (List.mem_of_getElem? (i := 131) rfl), rfl⟩
theorem q_852 : zTbl (Cond.instanceMethod ({ cls := "TypeChain$Sheets", name := "valueOf", desc := "(II)I" } : MethodName)) := ⟨ztin4 (List.mem_of_getElem? (i := 132) rfl), rfl⟩
theorem q_853 : zTbl (Cond.selects "TypeChain$Sheets" ({ cls := "TypeChain$Sheets", name := "valueOf", desc := "(II)I" } : MethodName) ({ cls := "TypeChain$Sheets", name := "valueOf", desc := "(II)I" } : MethodName)) := ⟨ztin4 (List.mem_of_getElem? (i := 133) rfl), rfl⟩
theorem q_854 : zTbl (Cond.code ({ cls := "TypeChain$Sheets", name := "valueOf", desc := "(II)I" } : MethodName) prog_8_method_5_code (3 : Nat) (Option.some FieldType.int)) := ⟨ztin4 (List.mem_of_getElem? (i := 134) rfl), rfl⟩
theorem q_855 : zTbl (Cond.methodLink "TypeChain" (286 : Nat) ({ cls := "TypeChain$Printer", name := "lettersInLine", desc := "()I" } : MethodName)) := ⟨ztin4 (List.mem_of_getElem? (i := 135) rfl), rfl⟩
theorem q_856 : zTbl (Cond.instanceMethod ({ cls := "TypeChain$Printer", name := "lettersInLine", desc := "()I" } : MethodName)) := ⟨ztin4 (List.mem_of_getElem? (i := 136) rfl), rfl⟩
theorem q_857 : zTbl (Cond.selects "TypeChain$Printer" ({ cls := "TypeChain$Printer", name := "lettersInLine", desc := "()I" } : MethodName) ({ cls := "TypeChain$Printer", name := "lettersInLine", desc := "()I" } : MethodName)) := ⟨ztin4 (List.mem_of_getElem? (i := 137) rfl), rfl⟩
theorem q_858 : zTbl (Cond.code ({ cls := "TypeChain$Printer", name := "lettersInLine", desc := "()I" } : MethodName) prog_4_method_3_code (3 : Nat) (Option.some FieldType.int)) := ⟨ztin4 (List.mem_of_getElem? (i := 138) rfl), rfl⟩
theorem q_859 : zTbl (Cond.methodLink "TypeChainLaw" (140 : Nat) ({ cls := "TypeChain", name := "count", desc := "(I)I" } : MethodName)) := ⟨ztin4 (List.mem_of_getElem? (i := 139) rfl), rfl⟩
theorem q_860 : zTbl (Cond.instanceMethod ({ cls := "TypeChain", name := "count", desc := "(I)I" } : MethodName)) := ⟨ztin4 (List.mem_of_getElem? (i := 140) rfl), rfl⟩
theorem q_861 : zTbl (Cond.selects "TypeChain" ({ cls := "TypeChain", name := "count", desc := "(I)I" } : MethodName) ({ cls := "TypeChain", name := "count", desc := "(I)I" } : MethodName)) := ⟨ztin4 (List.mem_of_getElem? (i := 141) rfl), rfl⟩
theorem q_862 : zTbl (Cond.code ({ cls := "TypeChain", name := "count", desc := "(I)I" } : MethodName) prog_1_method_32_code (2 : Nat) (Option.some FieldType.int)) := ⟨ztin4 (List.mem_of_getElem? (i := 142) rfl), rfl⟩
theorem q_863 : zTbl (Cond.methodLink "TypeChain" (289 : Nat) ({ cls := "TypeChain$Chain", name := "letterSet", desc := "()I" } : MethodName)) := ⟨ztin4 (List.mem_of_getElem? (i := 143) rfl), rfl⟩
theorem q_864 : zTbl (Cond.methodLink "TypeChain" (292 : Nat) ({ cls := "java/lang/Integer", name := "bitCount", desc := "(I)I" } : MethodName)) := ⟨ztin4 (List.mem_of_getElem? (i := 144) rfl), rfl⟩
theorem q_865 : zTbl (Cond.methodLink "TypeChain" (296 : Nat) ({ cls := "TypeChain$Rules", name := "holeCount", desc := "()I" } : MethodName)) := ⟨ztin4 (List.mem_of_getElem? (i := 145) rfl), rfl⟩
theorem q_866 : zTbl (Cond.classLink "TypeChainLaw" (10 : Nat) "TypeChainModel") := ⟨ztin4 (List.mem_of_getElem? (i := 146) rfl), rfl⟩
theorem q_867 : zTbl (Cond.instantiable "TypeChainModel" (61 : Nat)) := ⟨ztin4 (List.mem_of_getElem? (i := 147) rfl), rfl⟩
theorem q_868 : zTbl (Cond.methodLink "TypeChainLaw" (12 : Nat) ({ cls := "TypeChainModel", name := "<init>", desc := "()V" } : MethodName)) := ⟨ztin4 (List.mem_of_getElem? (i := 148) rfl), rfl⟩
theorem q_869 : zTbl (Cond.instanceMethod ({ cls := "TypeChainModel", name := "<init>", desc := "()V" } : MethodName)) := ⟨ztin4 (List.mem_of_getElem? (i := 149) rfl), rfl⟩
theorem q_870 : zTbl (Cond.code ({ cls := "TypeChainModel", name := "<init>", desc := "()V" } : MethodName) prog_12_method_1_code (2 : Nat) (Option.none : Option Jvm.ClassFile.FieldType)) := ⟨ztin4 (List.mem_of_getElem? (i := 150) rfl), rfl⟩
theorem q_871 : zTbl (Cond.methodLink "TypeChainModel" (1 : Nat) ({ cls := "java/lang/Object", name := "<init>", desc := "()V" } : MethodName)) := ⟨ztin4 (List.mem_of_getElem? (i := 151) rfl), rfl⟩
theorem q_872 : zTbl (Cond.methodLink "TypeChainModel" (116 : Nat) ({ cls := "TypeChainModel", name := "firstDraft", desc := "()V" } : MethodName)) := ⟨ztin4 (List.mem_of_getElem? (i := 152) rfl), rfl⟩
theorem q_873 : Cond.privateMethod ({ cls := "TypeChainModel", name := "firstDraft", desc := "()V" } : MethodName) ∈ lw_tbl := ztin4 (List.mem_of_getElem? (i := 153) rfl)
theorem q_874 : zTbl (Cond.instanceMethod ({ cls := "TypeChainModel", name := "firstDraft", desc := "()V" } : MethodName)) := ⟨ztin4 (List.mem_of_getElem? (i := 154) rfl), rfl⟩
theorem q_875 : zTbl (Cond.code ({ cls := "TypeChainModel", name := "firstDraft", desc := "()V" } : MethodName) prog_12_method_5_code (2 : Nat) (Option.none : Option Jvm.ClassFile.FieldType)) := ⟨ztin4 (List.mem_of_getElem? (i := 155) rfl), rfl⟩
theorem q_876 : zTbl (Cond.methodLink "TypeChainModel" (119 : Nat) ({ cls := "TypeChainModel", name := "keepDraft", desc := "()V" } : MethodName)) := ⟨ztin4 (List.mem_of_getElem? (i := 156) rfl), rfl⟩
theorem q_877 : Cond.privateMethod ({ cls := "TypeChainModel", name := "keepDraft", desc := "()V" } : MethodName) ∈ lw_tbl := ztin4 (List.mem_of_getElem? (i := 157) rfl)
theorem q_878 : zTbl (Cond.instanceMethod ({ cls := "TypeChainModel", name := "keepDraft", desc := "()V" } : MethodName)) := ⟨ztin4 (List.mem_of_getElem? (i := 158) rfl), rfl⟩
theorem q_879 : zTbl (Cond.code ({ cls := "TypeChainModel", name := "keepDraft", desc := "()V" } : MethodName) prog_12_method_6_code (2 : Nat) (Option.none : Option Jvm.ClassFile.FieldType)) := ⟨ztin4 (List.mem_of_getElem? (i := 159) rfl), rfl⟩
theorem q_880 : zTbl (Cond.methodLink "TypeChainModel" (151 : Nat) ({ cls := "TypeChainModel", name := "begins", desc := "()V" } : MethodName)) := ⟨ztin4 (List.mem_of_getElem? (i := 160) rfl), rfl⟩
theorem q_881 : Cond.privateMethod ({ cls := "TypeChainModel", name := "begins", desc := "()V" } : MethodName) ∈ lw_tbl := ztin4 (List.mem_of_getElem? (i := 161) rfl)
theorem q_882 : zTbl (Cond.instanceMethod ({ cls := "TypeChainModel", name := "begins", desc := "()V" } : MethodName)) := ⟨ztin4 (List.mem_of_getElem? (i := 162) rfl), rfl⟩
theorem q_883 : zTbl (Cond.code ({ cls := "TypeChainModel", name := "begins", desc := "()V" } : MethodName) prog_12_method_38_code (2 : Nat) (Option.none : Option Jvm.ClassFile.FieldType)) := ⟨ztin4 (List.mem_of_getElem? (i := 163) rfl), rfl⟩
theorem q_884 : zTbl (Cond.methodLink "TypeChainModel" (157 : Nat) ({ cls := "TypeChainModel", name := "blankPage", desc := "()V" } : MethodName)) := ⟨ztin4 (List.mem_of_getElem? (i := 164) rfl), rfl⟩
theorem q_885 : Cond.privateMethod ({ cls := "TypeChainModel", name := "blankPage", desc := "()V" } : MethodName) ∈ lw_tbl := ztin4 (List.mem_of_getElem? (i := 165) rfl)
theorem q_886 : zTbl (Cond.instanceMethod ({ cls := "TypeChainModel", name := "blankPage", desc := "()V" } : MethodName)) := ⟨ztin4 (List.mem_of_getElem? (i := 166) rfl), rfl⟩
theorem q_887 : zTbl (Cond.code ({ cls := "TypeChainModel", name := "blankPage", desc := "()V" } : MethodName) prog_12_method_39_code (2 : Nat) (Option.none : Option Jvm.ClassFile.FieldType)) := ⟨ztin4 (List.mem_of_getElem? (i := 167) rfl), rfl⟩
theorem q_888 : zTbl (Cond.fieldLink "TypeChainModel" (139 : Nat) "TypeChainModel" "slugs" "I") := ⟨ztin4 (List.mem_of_getElem? (i := 168) rfl), rfl⟩
theorem q_889 : zTbl (Cond.fieldLink "TypeChainModel" (7 : Nat) "TypeChainModel" "chain" "[I") := ⟨ztin4 (List.mem_of_getElem? (i := 169) rfl), rfl⟩
theorem q_890 : zTbl (Cond.fieldLink "TypeChainModel" (13 : Nat) "TypeChainModel" "set" "[I") := ⟨ztin4 (List.mem_of_getElem? (i := 170) rfl), rfl⟩
theorem q_891 : zTbl (Cond.fieldLink "TypeChainModel" (16 : Nat) "TypeChainModel" "hole" "[I") := ⟨ztin4 (List.mem_of_getElem? (i := 171) rfl), rfl⟩
theorem q_892 : zTbl (Cond.fieldLink "TypeChainModel" (142 : Nat) "TypeChainModel" "orders" "I") := ⟨ztin4 (List.mem_of_getElem? (i := 172) rfl), rfl⟩
theorem q_893 : zTbl (Cond.fieldLink "TypeChainModel" (19 : Nat) "TypeChainModel" "act" "[I") := ⟨ztin4 (List.mem_of_getElem? (i := 173) rfl), rfl⟩
theorem q_894 : zTbl (Cond.fieldLink "TypeChainModel" (22 : Nat) "TypeChainModel" "number" "[I") := ⟨ztin4 (List.mem_of_getElem? (i := 174) rfl), rfl⟩
theorem q_895 : zTbl (Cond.fieldLink "TypeChainModel" (25 : Nat) "TypeChainModel" "lettersFrom" "[I") := ⟨ztin4 (List.mem_of_getElem? (i := 175) rfl), rfl⟩
theorem q_896 : zTbl (Cond.fieldLink "TypeChainModel" (28 : Nat) "TypeChainModel" "lettersMany" "[I") := ⟨ztin4 (List.mem_of_getElem? (i := 176) rfl), rfl⟩
theorem q_897 : zTbl (Cond.fieldLink "TypeChainModel" (31 : Nat) "TypeChainModel" "letters" "[I") := ⟨ztin4 (List.mem_of_getElem? (i := 177) rfl), rfl⟩
theorem q_898 : zTbl (Cond.fieldLink "TypeChainModel" (122 : Nat) "TypeChainModel" "dSlugs" "I") := ⟨ztin4 (List.mem_of_getElem? (i := 178) rfl), rfl⟩
theorem q_899 : zTbl (Cond.fieldLink "TypeChainModel" (34 : Nat) "TypeChainModel" "dChain" "[I") := ⟨ztin4 (List.mem_of_getElem? (i := 179) rfl), rfl⟩
theorem q_900 : zTbl (Cond.fieldLink "TypeChainModel" (37 : Nat) "TypeChainModel" "dSet" "[I") := ⟨ztin4 (List.mem_of_getElem? (i := 180) rfl), rfl⟩
theorem q_901 : zTbl (Cond.fieldLink "TypeChainModel" (40 : Nat) "TypeChainModel" "dHole" "[I") := ⟨ztin4 (List.mem_of_getElem? (i := 181) rfl), rfl⟩
theorem q_902 : zTbl (Cond.fieldLink "TypeChainModel" (126 : Nat) "TypeChainModel" "dHasHole" "Z") := ⟨ztin4 (List.mem_of_getElem? (i := 182) rfl), rfl⟩
theorem q_903 : zTbl (Cond.fieldLink "TypeChainModel" (130 : Nat) "TypeChainModel" "dOrders" "I") := ⟨ztin4 (List.mem_of_getElem? (i := 183) rfl), rfl⟩
theorem q_904 : zTbl (Cond.fieldLink "TypeChainModel" (43 : Nat) "TypeChainModel" "dAct" "[I") := ⟨ztin4 (List.mem_of_getElem? (i := 184) rfl), rfl⟩
theorem q_905 : zTbl (Cond.fieldLink "TypeChainModel" (46 : Nat) "TypeChainModel" "dNumber" "[I") := ⟨ztin4 (List.mem_of_getElem? (i := 185) rfl), rfl⟩
theorem q_906 : zTbl (Cond.fieldLink "TypeChainModel" (49 : Nat) "TypeChainModel" "dFrom" "[I") := ⟨ztin4 (List.mem_of_getElem? (i := 186) rfl), rfl⟩
theorem q_907 : zTbl (Cond.fieldLink "TypeChainModel" (52 : Nat) "TypeChainModel" "dMany" "[I") := ⟨ztin4 (List.mem_of_getElem? (i := 187) rfl), rfl⟩
theorem q_908 : zTbl (Cond.fieldLink "TypeChainModel" (133 : Nat) "TypeChainModel" "dLetters" "I") := ⟨ztin4 (List.mem_of_getElem? (i := 188) rfl), rfl⟩
theorem q_909 : zTbl (Cond.fieldLink "TypeChainModel" (55 : Nat) "TypeChainModel" "dLetter" "[I") := ⟨ztin4 (List.mem_of_getElem? (i := 189) rfl), rfl⟩
theorem q_910 : zTbl (Cond.fieldLink "TypeChainModel" (58 : Nat) "TypeChainModel" "isTold" "[Z") := ⟨ztin4 (List.mem_of_getElem? (i := 190) rfl), rfl⟩
theorem q_911 : zTbl (Cond.fieldLink "TypeChainModel" (136 : Nat) "TypeChainModel" "later" "I") := ⟨ztin4 (List.mem_of_getElem? (i := 191) rfl), rfl⟩
theorem q_912 : zTbl (Cond.fieldLink "TypeChainModel" (62 : Nat) "TypeChainModel" "laterWhat" "[I") := ⟨ztin4 (List.mem_of_getElem? (i := 192) rfl), rfl⟩
theorem q_913 : zTbl (Cond.fieldLink "TypeChainModel" (65 : Nat) "TypeChainModel" "laterAt" "[I") := ⟨ztin4 (List.mem_of_getElem? (i := 193) rfl), rfl⟩
theorem q_914 : zTbl (Cond.fieldLink "TypeChainModel" (68 : Nat) "TypeChainModel" "tape" "[I") := ⟨ztin4 (List.mem_of_getElem? (i := 194) rfl), rfl⟩
theorem q_915 : zTbl (Cond.fieldLink "TypeChainModel" (160 : Nat) "TypeChainModel" "taped" "I") := ⟨ztin4 (List.mem_of_getElem? (i := 195) rfl), rfl⟩
theorem q_916 : zTbl (Cond.fieldLink "TypeChainModel" (178 : Nat) "TypeChainModel" "pos" "I") := ⟨ztin4 (List.mem_of_getElem? (i := 196) rfl), rfl⟩
theorem q_917 : zTbl (Cond.fieldLink "TypeChainModel" (172 : Nat) "TypeChainModel" "from" "I") := ⟨ztin4 (List.mem_of_getElem? (i := 197) rfl), rfl⟩
theorem q_918 : zTbl (Cond.fieldLink "TypeChainModel" (193 : Nat) "TypeChainModel" "sort" "I") := ⟨ztin4 (List.mem_of_getElem? (i := 198) rfl), rfl⟩
theorem q_919 : zTbl (Cond.fieldLink "TypeChainModel" (204 : Nat) "TypeChainModel" "value" "I") := ⟨ztin4 (List.mem_of_getElem? (i := 199) rfl), rfl⟩
theorem q_920 : zTbl (Cond.fieldLink "TypeChainModel" (169 : Nat) "TypeChainModel" "fault" "I") := ⟨ztin4 (List.mem_of_getElem? (i := 200) rfl), rfl⟩
theorem q_921 : zTbl (Cond.fieldLink "TypeChainModel" (175 : Nat) "TypeChainModel" "wrongAt" "I") := ⟨ztin4 (List.mem_of_getElem? (i := 201) rfl), rfl⟩
theorem q_922 : zTbl (Cond.fieldLink "TypeChainModel" (279 : Nat) "TypeChainModel" "tick" "I") := ⟨ztin4 (List.mem_of_getElem? (i := 202) rfl), rfl⟩
theorem q_923 : zTbl (Cond.fieldLink "TypeChainModel" (282 : Nat) "TypeChainModel" "row" "I") := ⟨ztin4 (List.mem_of_getElem? (i := 203) rfl), rfl⟩
theorem q_924 : zTbl (Cond.fieldLink "TypeChainModel" (154 : Nat) "TypeChainModel" "pages" "I") := ⟨ztin4 (List.mem_of_getElem? (i := 204) rfl), rfl⟩
theorem q_925 : zTbl (Cond.fieldLink "TypeChainModel" (71 : Nat) "TypeChainModel" "line" "[I") := ⟨ztin4 (List.mem_of_getElem? (i := 205) rfl), rfl⟩
theorem q_926 : zTbl (Cond.fieldLink "TypeChainModel" (74 : Nat) "TypeChainModel" "print" "[I") := ⟨ztin4 (List.mem_of_getElem? (i := 206) rfl), rfl⟩
theorem q_927 : zTbl (Cond.fieldLink "TypeChainModel" (77 : Nat) "TypeChainModel" "times" "[I") := ⟨ztin4 (List.mem_of_getElem? (i := 207) rfl), rfl⟩
theorem q_928 : zTbl (Cond.fieldLink "TypeChainModel" (80 : Nat) "TypeChainModel" "at" "[I") := ⟨ztin4 (List.mem_of_getElem? (i := 208) rfl), rfl⟩
theorem q_929 : zTbl (Cond.fieldLink "TypeChainModel" (83 : Nat) "TypeChainModel" "meant" "[I") := ⟨ztin4 (List.mem_of_getElem? (i := 209) rfl), rfl⟩
theorem q_930 : zTbl (Cond.fieldLink "TypeChainModel" (86 : Nat) "TypeChainModel" "hasWaited" "[Z") := ⟨ztin4 (List.mem_of_getElem? (i := 210) rfl), rfl⟩
theorem q_931 : zTbl (Cond.fieldLink "TypeChainModel" (285 : Nat) "TypeChainModel" "busiest" "I") := ⟨ztin4 (List.mem_of_getElem? (i := 211) rfl), rfl⟩
theorem q_932 : zTbl (Cond.fieldLink "TypeChainModel" (148 : Nat) "TypeChainModel" "hasStruck" "Z") := ⟨ztin4 (List.mem_of_getElem? (i := 212) rfl), rfl⟩
theorem q_933 : zTbl (Cond.fieldLink "TypeChainModel" (297 : Nat) "TypeChainModel" "sAll" "I") := ⟨ztin4 (List.mem_of_getElem? (i := 213) rfl), rfl⟩
theorem q_934 : zTbl (Cond.fieldLink "TypeChainModel" (303 : Nat) "TypeChainModel" "sBusiest" "I") := ⟨ztin4 (List.mem_of_getElem? (i := 214) rfl), rfl⟩
theorem q_935 : zTbl (Cond.fieldLink "TypeChainModel" (300 : Nat) "TypeChainModel" "sWaited" "I") := ⟨ztin4 (List.mem_of_getElem? (i := 215) rfl), rfl⟩
theorem q_936 : zTbl (Cond.fieldLink "TypeChainModel" (89 : Nat) "TypeChainModel" "sAt" "[I") := ⟨ztin4 (List.mem_of_getElem? (i := 216) rfl), rfl⟩
theorem q_937 : zTbl (Cond.fieldLink "TypeChainModel" (92 : Nat) "TypeChainModel" "sMeant" "[I") := ⟨ztin4 (List.mem_of_getElem? (i := 217) rfl), rfl⟩
theorem q_938 : zTbl (Cond.fieldLink "TypeChainModel" (95 : Nat) "TypeChainModel" "sSeen" "[I") := ⟨ztin4 (List.mem_of_getElem? (i := 218) rfl), rfl⟩
theorem q_939 : zTbl (Cond.fieldLink "TypeChainModel" (145 : Nat) "TypeChainModel" "hasRun" "Z") := ⟨ztin4 (List.mem_of_getElem? (i := 219) rfl), rfl⟩
theorem q_940 : zTbl (Cond.fieldLink "TypeChainModel" (336 : Nat) "TypeChainModel" "rTicks" "I") := ⟨ztin4 (List.mem_of_getElem? (i := 220) rfl), rfl⟩
theorem q_941 : zTbl (Cond.fieldLink "TypeChainModel" (326 : Nat) "TypeChainModel" "rLines" "I") := ⟨ztin4 (List.mem_of_getElem? (i := 221) rfl), rfl⟩
theorem q_942 : zTbl (Cond.fieldLink "TypeChainModel" (329 : Nat) "TypeChainModel" "rEnd" "I") := ⟨ztin4 (List.mem_of_getElem? (i := 222) rfl), rfl⟩
theorem q_943 : zTbl (Cond.fieldLink "TypeChainModel" (98 : Nat) "TypeChainModel" "keptLine" "[I") := ⟨ztin4 (List.mem_of_getElem? (i := 223) rfl), rfl⟩
theorem q_944 : zTbl (Cond.fieldLink "TypeChainModel" (101 : Nat) "TypeChainModel" "keptChain" "[I") := ⟨ztin4 (List.mem_of_getElem? (i := 224) rfl), rfl⟩
theorem q_945 : zTbl (Cond.fieldLink "TypeChainModel" (104 : Nat) "TypeChainModel" "bestChain" "[I") := ⟨ztin4 (List.mem_of_getElem? (i := 225) rfl), rfl⟩
theorem q_946 : zTbl (Cond.fieldLink "TypeChainModel" (107 : Nat) "TypeChainModel" "lanes" "[I") := ⟨ztin4 (List.mem_of_getElem? (i := 226) rfl), rfl⟩
theorem q_947 : zTbl (Cond.fieldLink "TypeChainModel" (110 : Nat) "TypeChainModel" "sizes" "[I") := ⟨ztin4 (List.mem_of_getElem? (i := 227) rfl), rfl⟩
theorem q_948 : zTbl (Cond.fieldLink "TypeChainModel" (113 : Nat) "TypeChainModel" "cells" "[I") := ⟨ztin4 (List.mem_of_getElem? (i := 228) rfl), rfl⟩
theorem q_949 : zTbl (Cond.lays "TypeChainModel" "TypeChainModel" "slugs" "I") := ⟨ztin4 (List.mem_of_getElem? (i := 229) rfl), rfl⟩
theorem q_950 : Cond.soleField "TypeChainModel" "slugs" ∈ lw_tbl := ztin4 (List.mem_of_getElem? (i := 230) rfl)
theorem q_951 : zTbl (Cond.laysFinal "TypeChainModel" "TypeChainModel" "chain" "[I") := ⟨ztin4 (List.mem_of_getElem? (i := 231) rfl), rfl⟩
theorem q_952 : Cond.soleField "TypeChainModel" "chain" ∈ lw_tbl := ztin4 (List.mem_of_getElem? (i := 232) rfl)
theorem q_953 : zTbl (Cond.laysFinal "TypeChainModel" "TypeChainModel" "set" "[I") := ⟨ztin4 (List.mem_of_getElem? (i := 233) rfl), rfl⟩
theorem q_954 : Cond.soleField "TypeChainModel" "set" ∈ lw_tbl := ztin4 (List.mem_of_getElem? (i := 234) rfl)
theorem q_955 : zTbl (Cond.laysFinal "TypeChainModel" "TypeChainModel" "hole" "[I") := ⟨ztin4 (List.mem_of_getElem? (i := 235) rfl), rfl⟩
theorem q_956 : Cond.soleField "TypeChainModel" "hole" ∈ lw_tbl := ztin4 (List.mem_of_getElem? (i := 236) rfl)
theorem q_957 : zTbl (Cond.lays "TypeChainModel" "TypeChainModel" "orders" "I") := ⟨ztin4 (List.mem_of_getElem? (i := 237) rfl), rfl⟩
theorem q_958 : Cond.soleField "TypeChainModel" "orders" ∈ lw_tbl := ztin4 (List.mem_of_getElem? (i := 238) rfl)
theorem q_959 : zTbl (Cond.laysFinal "TypeChainModel" "TypeChainModel" "act" "[I") := ⟨ztin4 (List.mem_of_getElem? (i := 239) rfl), rfl⟩
theorem q_960 : Cond.soleField "TypeChainModel" "act" ∈ lw_tbl := ztin5 (List.mem_of_getElem? (i := 0) rfl)
theorem q_961 : zTbl (Cond.laysFinal "TypeChainModel" "TypeChainModel" "number" "[I") := ⟨ztin5 (List.mem_of_getElem? (i := 1) rfl), rfl⟩
theorem q_962 : Cond.soleField "TypeChainModel" "number" ∈ lw_tbl := ztin5 (List.mem_of_getElem? (i := 2) rfl)
theorem q_963 : zTbl (Cond.laysFinal "TypeChainModel" "TypeChainModel" "lettersFrom" "[I") := ⟨ztin5 (List.mem_of_getElem? (i := 3) rfl), rfl⟩
theorem q_964 : Cond.soleField "TypeChainModel" "lettersFrom" ∈ lw_tbl := ztin5 (List.mem_of_getElem? (i := 4) rfl)
theorem q_965 : zTbl (Cond.laysFinal "TypeChainModel" "TypeChainModel" "lettersMany" "[I") := ⟨ztin5 (List.mem_of_getElem? (i := 5) rfl), rfl⟩
theorem q_966 : Cond.soleField "TypeChainModel" "lettersMany" ∈ lw_tbl := ztin5 (List.mem_of_getElem? (i := 6) rfl)
theorem q_967 : zTbl (Cond.laysFinal "TypeChainModel" "TypeChainModel" "letters" "[I") := ⟨ztin5 (List.mem_of_getElem? (i := 7) rfl), rfl⟩
theorem q_968 : Cond.soleField "TypeChainModel" "letters" ∈ lw_tbl := ztin5 (List.mem_of_getElem? (i := 8) rfl)
theorem q_969 : zTbl (Cond.lays "TypeChainModel" "TypeChainModel" "dSlugs" "I") := ⟨ztin5 (List.mem_of_getElem? (i := 9) rfl), rfl⟩
theorem q_970 : Cond.soleField "TypeChainModel" "dSlugs" ∈ lw_tbl := ztin5 (List.mem_of_getElem? (i := 10) rfl)
theorem q_971 : zTbl (Cond.laysFinal "TypeChainModel" "TypeChainModel" "dChain" "[I") := ⟨ztin5 (List.mem_of_getElem? (i := 11) rfl), rfl⟩
theorem q_972 : Cond.soleField "TypeChainModel" "dChain" ∈ lw_tbl := ztin5 (List.mem_of_getElem? (i := 12) rfl)
theorem q_973 : zTbl (Cond.laysFinal "TypeChainModel" "TypeChainModel" "dSet" "[I") := ⟨ztin5 (List.mem_of_getElem? (i := 13) rfl), rfl⟩
theorem q_974 : Cond.soleField "TypeChainModel" "dSet" ∈ lw_tbl := ztin5 (List.mem_of_getElem? (i := 14) rfl)
theorem q_975 : zTbl (Cond.laysFinal "TypeChainModel" "TypeChainModel" "dHole" "[I") := ⟨ztin5 (List.mem_of_getElem? (i := 15) rfl), rfl⟩
theorem q_976 : Cond.soleField "TypeChainModel" "dHole" ∈ lw_tbl := ztin5 (List.mem_of_getElem? (i := 16) rfl)
theorem q_977 : zTbl (Cond.lays "TypeChainModel" "TypeChainModel" "dHasHole" "Z") := ⟨ztin5 (List.mem_of_getElem? (i := 17) rfl), rfl⟩
theorem q_978 : Cond.soleField "TypeChainModel" "dHasHole" ∈ lw_tbl := ztin5 (List.mem_of_getElem? (i := 18) rfl)
theorem q_979 : zTbl (Cond.lays "TypeChainModel" "TypeChainModel" "dOrders" "I") := ⟨ztin5 (List.mem_of_getElem? (i := 19) rfl), rfl⟩
theorem q_980 : Cond.soleField "TypeChainModel" "dOrders" ∈ lw_tbl := ztin5 (List.mem_of_getElem? (i := 20) rfl)
theorem q_981 : zTbl (Cond.laysFinal "TypeChainModel" "TypeChainModel" "dAct" "[I") := ⟨ztin5 (List.mem_of_getElem? (i := 21) rfl), rfl⟩
theorem q_982 : Cond.soleField "TypeChainModel" "dAct" ∈ lw_tbl := ztin5 (List.mem_of_getElem? (i := 22) rfl)
theorem q_983 : zTbl (Cond.laysFinal "TypeChainModel" "TypeChainModel" "dNumber" "[I") := ⟨ztin5 (List.mem_of_getElem? (i := 23) rfl), rfl⟩
theorem q_984 : Cond.soleField "TypeChainModel" "dNumber" ∈ lw_tbl := ztin5 (List.mem_of_getElem? (i := 24) rfl)
theorem q_985 : zTbl (Cond.laysFinal "TypeChainModel" "TypeChainModel" "dFrom" "[I") := ⟨ztin5 (List.mem_of_getElem? (i := 25) rfl), rfl⟩
theorem q_986 : Cond.soleField "TypeChainModel" "dFrom" ∈ lw_tbl := ztin5 (List.mem_of_getElem? (i := 26) rfl)
theorem q_987 : zTbl (Cond.laysFinal "TypeChainModel" "TypeChainModel" "dMany" "[I") := ⟨ztin5 (List.mem_of_getElem? (i := 27) rfl), rfl⟩
theorem q_988 : Cond.soleField "TypeChainModel" "dMany" ∈ lw_tbl := ztin5 (List.mem_of_getElem? (i := 28) rfl)
theorem q_989 : zTbl (Cond.lays "TypeChainModel" "TypeChainModel" "dLetters" "I") := ⟨ztin5 (List.mem_of_getElem? (i := 29) rfl), rfl⟩
theorem q_990 : Cond.soleField "TypeChainModel" "dLetters" ∈ lw_tbl := ztin5 (List.mem_of_getElem? (i := 30) rfl)
theorem q_991 : zTbl (Cond.laysFinal "TypeChainModel" "TypeChainModel" "dLetter" "[I") := ⟨ztin5 (List.mem_of_getElem? (i := 31) rfl), rfl⟩
theorem q_992 : Cond.soleField "TypeChainModel" "dLetter" ∈ lw_tbl := ztin5 (List.mem_of_getElem? (i := 32) rfl)
theorem q_993 : zTbl (Cond.laysFinal "TypeChainModel" "TypeChainModel" "isTold" "[Z") := ⟨ztin5 (List.mem_of_getElem? (i := 33) rfl), rfl⟩
theorem q_994 : Cond.soleField "TypeChainModel" "isTold" ∈ lw_tbl := ztin5 (List.mem_of_getElem? (i := 34) rfl)
theorem q_995 : zTbl (Cond.lays "TypeChainModel" "TypeChainModel" "later" "I") := ⟨ztin5 (List.mem_of_getElem? (i := 35) rfl), rfl⟩
theorem q_996 : Cond.soleField "TypeChainModel" "later" ∈ lw_tbl := ztin5 (List.mem_of_getElem? (i := 36) rfl)
theorem q_997 : zTbl (Cond.laysFinal "TypeChainModel" "TypeChainModel" "laterWhat" "[I") := ⟨ztin5 (List.mem_of_getElem? (i := 37) rfl), rfl⟩
theorem q_998 : Cond.soleField "TypeChainModel" "laterWhat" ∈ lw_tbl := ztin5 (List.mem_of_getElem? (i := 38) rfl)
theorem q_999 : zTbl (Cond.laysFinal "TypeChainModel" "TypeChainModel" "laterAt" "[I") := ⟨ztin5 (List.mem_of_getElem? (i := 39) rfl), rfl⟩
theorem q_1000 : Cond.soleField "TypeChainModel" "laterAt" ∈ lw_tbl := ztin5 (List.mem_of_getElem? (i := 40) rfl)
theorem q_1001 : zTbl (Cond.laysFinal "TypeChainModel" "TypeChainModel" "tape" "[I") := ⟨ztin5 (List.mem_of_getElem? (i := 41) rfl), rfl⟩
theorem q_1002 : Cond.soleField "TypeChainModel" "tape" ∈ lw_tbl := ztin5 (List.mem_of_getElem? (i := 42) rfl)
theorem q_1003 : zTbl (Cond.lays "TypeChainModel" "TypeChainModel" "taped" "I") := ⟨ztin5 (List.mem_of_getElem? (i := 43) rfl), rfl⟩
theorem q_1004 : Cond.soleField "TypeChainModel" "taped" ∈ lw_tbl := ztin5 (List.mem_of_getElem? (i := 44) rfl)
theorem q_1005 : zTbl (Cond.lays "TypeChainModel" "TypeChainModel" "pos" "I") := ⟨ztin5 (List.mem_of_getElem? (i := 45) rfl), rfl⟩
theorem q_1006 : Cond.soleField "TypeChainModel" "pos" ∈ lw_tbl := ztin5 (List.mem_of_getElem? (i := 46) rfl)
theorem q_1007 : zTbl (Cond.lays "TypeChainModel" "TypeChainModel" "from" "I") := ⟨ztin5 (List.mem_of_getElem? (i := 47) rfl), rfl⟩
theorem q_1008 : Cond.soleField "TypeChainModel" "from" ∈ lw_tbl := ztin5 (List.mem_of_getElem? (i := 48) rfl)
theorem q_1009 : zTbl (Cond.lays "TypeChainModel" "TypeChainModel" "sort" "I") := ⟨ztin5 (List.mem_of_getElem? (i := 49) rfl), rfl⟩
theorem q_1010 : Cond.soleField "TypeChainModel" "sort" ∈ lw_tbl := ztin5 (List.mem_of_getElem? (i := 50) rfl)
theorem q_1011 : zTbl (Cond.lays "TypeChainModel" "TypeChainModel" "value" "I") := ⟨ztin5 (List.mem_of_getElem? (i := 51) rfl), rfl⟩
theorem q_1012 : Cond.soleField "TypeChainModel" "value" ∈ lw_tbl := ztin5 (List.mem_of_getElem? (i := 52) rfl)
theorem q_1013 : zTbl (Cond.lays "TypeChainModel" "TypeChainModel" "fault" "I") := ⟨ztin5 (List.mem_of_getElem? (i := 53) rfl), rfl⟩
theorem q_1014 : Cond.soleField "TypeChainModel" "fault" ∈ lw_tbl := ztin5 (List.mem_of_getElem? (i := 54) rfl)
theorem q_1015 : zTbl (Cond.lays "TypeChainModel" "TypeChainModel" "wrongAt" "I") := ⟨ztin5 (List.mem_of_getElem? (i := 55) rfl), rfl⟩
theorem q_1016 : Cond.soleField "TypeChainModel" "wrongAt" ∈ lw_tbl := ztin5 (List.mem_of_getElem? (i := 56) rfl)
theorem q_1017 : zTbl (Cond.lays "TypeChainModel" "TypeChainModel" "tick" "I") := ⟨ztin5 (List.mem_of_getElem? (i := 57) rfl), rfl⟩
theorem q_1018 : Cond.soleField "TypeChainModel" "tick" ∈ lw_tbl := ztin5 (List.mem_of_getElem? (i := 58) rfl)
theorem q_1019 : zTbl (Cond.lays "TypeChainModel" "TypeChainModel" "row" "I") := ⟨ztin5 (List.mem_of_getElem? (i := 59) rfl), rfl⟩
theorem q_1020 : Cond.soleField "TypeChainModel" "row" ∈ lw_tbl := ztin5 (List.mem_of_getElem? (i := 60) rfl)
theorem q_1021 : zTbl (Cond.lays "TypeChainModel" "TypeChainModel" "pages" "I") := ⟨ztin5 (List.mem_of_getElem? (i := 61) rfl), rfl⟩
theorem q_1022 : Cond.soleField "TypeChainModel" "pages" ∈ lw_tbl := ztin5 (List.mem_of_getElem? (i := 62) rfl)
theorem q_1023 : zTbl (Cond.laysFinal "TypeChainModel" "TypeChainModel" "line" "[I") := ⟨ztin5 (List.mem_of_getElem? (i := 63) rfl), rfl⟩
theorem q_1024 : Cond.soleField "TypeChainModel" "line" ∈ lw_tbl := ztin5 (List.mem_of_getElem? (i := 64) rfl)
theorem q_1025 : zTbl (Cond.laysFinal "TypeChainModel" "TypeChainModel" "print" "[I") := ⟨ztin5 (List.mem_of_getElem? (i := 65) rfl), rfl⟩
theorem q_1026 : Cond.soleField "TypeChainModel" "print" ∈ lw_tbl := ztin5 (List.mem_of_getElem? (i := 66) rfl)
theorem q_1027 : zTbl (Cond.laysFinal "TypeChainModel" "TypeChainModel" "times" "[I") := ⟨ztin5 (List.mem_of_getElem? (i := 67) rfl), rfl⟩
theorem q_1028 : Cond.soleField "TypeChainModel" "times" ∈ lw_tbl := ztin5 (List.mem_of_getElem? (i := 68) rfl)
theorem q_1029 : zTbl (Cond.laysFinal "TypeChainModel" "TypeChainModel" "at" "[I") := ⟨ztin5 (List.mem_of_getElem? (i := 69) rfl), rfl⟩
theorem q_1030 : Cond.soleField "TypeChainModel" "at" ∈ lw_tbl := ztin5 (List.mem_of_getElem? (i := 70) rfl)
theorem q_1031 : zTbl (Cond.laysFinal "TypeChainModel" "TypeChainModel" "meant" "[I") := ⟨ztin5 (List.mem_of_getElem? (i := 71) rfl), rfl⟩
theorem q_1032 : Cond.soleField "TypeChainModel" "meant" ∈ lw_tbl := ztin5 (List.mem_of_getElem? (i := 72) rfl)
theorem q_1033 : zTbl (Cond.laysFinal "TypeChainModel" "TypeChainModel" "hasWaited" "[Z") := ⟨ztin5 (List.mem_of_getElem? (i := 73) rfl), rfl⟩
theorem q_1034 : Cond.soleField "TypeChainModel" "hasWaited" ∈ lw_tbl := ztin5 (List.mem_of_getElem? (i := 74) rfl)
theorem q_1035 : zTbl (Cond.lays "TypeChainModel" "TypeChainModel" "busiest" "I") := ⟨ztin5 (List.mem_of_getElem? (i := 75) rfl), rfl⟩
theorem q_1036 : Cond.soleField "TypeChainModel" "busiest" ∈ lw_tbl := ztin5 (List.mem_of_getElem? (i := 76) rfl)
theorem q_1037 : zTbl (Cond.lays "TypeChainModel" "TypeChainModel" "hasStruck" "Z") := ⟨ztin5 (List.mem_of_getElem? (i := 77) rfl), rfl⟩
theorem q_1038 : Cond.soleField "TypeChainModel" "hasStruck" ∈ lw_tbl := ztin5 (List.mem_of_getElem? (i := 78) rfl)
theorem q_1039 : zTbl (Cond.lays "TypeChainModel" "TypeChainModel" "sAll" "I") := ⟨ztin5 (List.mem_of_getElem? (i := 79) rfl), rfl⟩
theorem q_1040 : Cond.soleField "TypeChainModel" "sAll" ∈ lw_tbl := ztin5 (List.mem_of_getElem? (i := 80) rfl)
theorem q_1041 : zTbl (Cond.lays "TypeChainModel" "TypeChainModel" "sBusiest" "I") := ⟨ztin5 (List.mem_of_getElem? (i := 81) rfl), rfl⟩
theorem q_1042 : Cond.soleField "TypeChainModel" "sBusiest" ∈ lw_tbl := ztin5 (List.mem_of_getElem? (i := 82) rfl)
theorem q_1043 : zTbl (Cond.lays "TypeChainModel" "TypeChainModel" "sWaited" "I") := ⟨ztin5 (List.mem_of_getElem? (i := 83) rfl), rfl⟩
theorem q_1044 : Cond.soleField "TypeChainModel" "sWaited" ∈ lw_tbl := ztin5 (List.mem_of_getElem? (i := 84) rfl)
theorem q_1045 : zTbl (Cond.laysFinal "TypeChainModel" "TypeChainModel" "sAt" "[I") := ⟨ztin5 (List.mem_of_getElem? (i := 85) rfl), rfl⟩
theorem q_1046 : Cond.soleField "TypeChainModel" "sAt" ∈ lw_tbl := ztin5 (List.mem_of_getElem? (i := 86) rfl)
theorem q_1047 : zTbl (Cond.laysFinal "TypeChainModel" "TypeChainModel" "sMeant" "[I") := ⟨ztin5 (List.mem_of_getElem? (i := 87) rfl), rfl⟩
theorem q_1048 : Cond.soleField "TypeChainModel" "sMeant" ∈ lw_tbl := ztin5 (List.mem_of_getElem? (i := 88) rfl)
theorem q_1049 : zTbl (Cond.laysFinal "TypeChainModel" "TypeChainModel" "sSeen" "[I") := ⟨ztin5 (List.mem_of_getElem? (i := 89) rfl), rfl⟩
theorem q_1050 : Cond.soleField "TypeChainModel" "sSeen" ∈ lw_tbl := ztin5 (List.mem_of_getElem? (i := 90) rfl)
theorem q_1051 : zTbl (Cond.lays "TypeChainModel" "TypeChainModel" "hasRun" "Z") := ⟨ztin5 (List.mem_of_getElem? (i := 91) rfl), rfl⟩
theorem q_1052 : Cond.soleField "TypeChainModel" "hasRun" ∈ lw_tbl := ztin5 (List.mem_of_getElem? (i := 92) rfl)
theorem q_1053 : zTbl (Cond.lays "TypeChainModel" "TypeChainModel" "rTicks" "I") := ⟨ztin5 (List.mem_of_getElem? (i := 93) rfl), rfl⟩
theorem q_1054 : Cond.soleField "TypeChainModel" "rTicks" ∈ lw_tbl := ztin5 (List.mem_of_getElem? (i := 94) rfl)
theorem q_1055 : zTbl (Cond.lays "TypeChainModel" "TypeChainModel" "rLines" "I") := ⟨ztin5 (List.mem_of_getElem? (i := 95) rfl), rfl⟩
theorem q_1056 : Cond.soleField "TypeChainModel" "rLines" ∈ lw_tbl := ztin5 (List.mem_of_getElem? (i := 96) rfl)
theorem q_1057 : zTbl (Cond.lays "TypeChainModel" "TypeChainModel" "rEnd" "I") := ⟨ztin5 (List.mem_of_getElem? (i := 97) rfl), rfl⟩
theorem q_1058 : Cond.soleField "TypeChainModel" "rEnd" ∈ lw_tbl := ztin5 (List.mem_of_getElem? (i := 98) rfl)
theorem q_1059 : zTbl (Cond.laysFinal "TypeChainModel" "TypeChainModel" "keptLine" "[I") := ⟨ztin5 (List.mem_of_getElem? (i := 99) rfl), rfl⟩
theorem q_1060 : Cond.soleField "TypeChainModel" "keptLine" ∈ lw_tbl := ztin5 (List.mem_of_getElem? (i := 100) rfl)
theorem q_1061 : zTbl (Cond.laysFinal "TypeChainModel" "TypeChainModel" "keptChain" "[I") := ⟨ztin5 (List.mem_of_getElem? (i := 101) rfl), rfl⟩
theorem q_1062 : Cond.soleField "TypeChainModel" "keptChain" ∈ lw_tbl := ztin5 (List.mem_of_getElem? (i := 102) rfl)
theorem q_1063 : zTbl (Cond.laysFinal "TypeChainModel" "TypeChainModel" "bestChain" "[I") := ⟨ztin5 (List.mem_of_getElem? (i := 103) rfl), rfl⟩
theorem q_1064 : Cond.soleField "TypeChainModel" "bestChain" ∈ lw_tbl := ztin5 (List.mem_of_getElem? (i := 104) rfl)
theorem q_1065 : zTbl (Cond.laysFinal "TypeChainModel" "TypeChainModel" "lanes" "[I") := ⟨ztin5 (List.mem_of_getElem? (i := 105) rfl), rfl⟩
theorem q_1066 : Cond.soleField "TypeChainModel" "lanes" ∈ lw_tbl := ztin5 (List.mem_of_getElem? (i := 106) rfl)
theorem q_1067 : zTbl (Cond.laysFinal "TypeChainModel" "TypeChainModel" "sizes" "[I") := ⟨ztin5 (List.mem_of_getElem? (i := 107) rfl), rfl⟩
theorem q_1068 : Cond.soleField "TypeChainModel" "sizes" ∈ lw_tbl := ztin5 (List.mem_of_getElem? (i := 108) rfl)
theorem q_1069 : zTbl (Cond.laysFinal "TypeChainModel" "TypeChainModel" "cells" "[I") := ⟨ztin5 (List.mem_of_getElem? (i := 109) rfl), rfl⟩
theorem q_1070 : Cond.soleField "TypeChainModel" "cells" ∈ lw_tbl := ztin5 (List.mem_of_getElem? (i := 110) rfl)
theorem q_1071 : zTbl (Cond.superclass "TypeChainModel" "java/lang/Object") := ⟨ztin5 (List.mem_of_getElem? (i := 111) rfl), rfl⟩
theorem q_1072 : zTbl (Cond.arrayClass FieldType.boolean) := ⟨ztin5 (List.mem_of_getElem? (i := 112) rfl), rfl⟩
theorem q_1073 : zTbl (Cond.methodLink "TypeChainLaw" (19 : Nat) ({ cls := "TypeChainModel", name := "feed", desc := "(J)I" } : MethodName)) := ⟨ztin5 (List.mem_of_getElem? (i := 113) rfl), rfl⟩
theorem q_1074 : zTbl (Cond.instanceMethod ({ cls := "TypeChainModel", name := "feed", desc := "(J)I" } : MethodName)) := ⟨ztin5 (List.mem_of_getElem? (i := 114) rfl), rfl⟩
theorem q_1075 : zTbl (Cond.selects "TypeChainModel" ({ cls := "TypeChainModel", name := "feed", desc := "(J)I" } : MethodName) ({ cls := "TypeChainModel", name := "feed", desc := "(J)I" } : MethodName)) := ⟨ztin5 (List.mem_of_getElem? (i := 115) rfl), rfl⟩
theorem q_1076 : zTbl (Cond.code ({ cls := "TypeChainModel", name := "feed", desc := "(J)I" } : MethodName) prog_12_method_7_code (4 : Nat) (Option.some FieldType.int)) := ⟨ztin5 (List.mem_of_getElem? (i := 116) rfl), rfl⟩
theorem q_1077 : zTbl (Cond.constantLong "TypeChainModel" (163 : Nat) (255 : Int64)) := ⟨ztin5 (List.mem_of_getElem? (i := 117) rfl), rfl⟩
theorem q_1078 : zTbl (Cond.methodLink "TypeChainLaw" (24 : Nat) ({ cls := "TypeChainModel", name := "end", desc := "(I)I" } : MethodName)) := ⟨ztin5 (List.mem_of_getElem? (i := 118) rfl), rfl⟩
theorem q_1079 : zTbl (Cond.instanceMethod ({ cls := "TypeChainModel", name := "end", desc := "(I)I" } : MethodName)) := ⟨ztin5 (List.mem_of_getElem? (i := 119) rfl), rfl⟩
theorem q_1080 : zTbl (Cond.selects "TypeChainModel" ({ cls := "TypeChainModel", name := "end", desc := "(I)I" } : MethodName) ({ cls := "TypeChainModel", name := "end", desc := "(I)I" } : MethodName)) := ⟨ztin5 (List.mem_of_getElem? (i := 120) rfl), rfl⟩
theorem q_1081 : zTbl (Cond.code ({ cls := "TypeChainModel", name := "end", desc := "(I)I" } : MethodName) prog_12_method_8_code (3 : Nat) (Option.some FieldType.int)) := ⟨ztin5 (List.mem_of_getElem? (i := 121) rfl), rfl⟩
theorem q_1082 : zTbl (Cond.methodLink "TypeChainModel" (165 : Nat) ({ cls := "TypeChainModel", name := "in", desc := "(JJJ)Z" } : MethodName)) := ⟨ztin5 (List.mem_of_getElem? (i := 122) rfl), rfl⟩
theorem q_1083 : zTbl (Cond.static ({ cls := "TypeChainModel", name := "in", desc := "(JJJ)Z" } : MethodName)) := ⟨ztin5 (List.mem_of_getElem? (i := 123) rfl), rfl⟩
theorem q_1084 : zTbl (Cond.code ({ cls := "TypeChainModel", name := "in", desc := "(JJJ)Z" } : MethodName) prog_12_method_3_code (6 : Nat) (Option.some FieldType.boolean)) := ⟨ztin5 (List.mem_of_getElem? (i := 124) rfl), rfl⟩
theorem q_1085 : zTbl (Cond.methodLink "TypeChainLaw" (29 : Nat) ({ cls := "TypeChainModel", name := "text", desc := "()I" } : MethodName)) := ⟨ztin5 (List.mem_of_getElem? (i := 125) rfl), rfl⟩
theorem q_1086 : zTbl (Cond.instanceMethod ({ cls := "TypeChainModel", name := "text", desc := "()I" } : MethodName)) := ⟨ztin5 (List.mem_of_getElem? (i := 126) rfl), rfl⟩
theorem q_1087 : zTbl (Cond.selects "TypeChainModel" ({ cls := "TypeChainModel", name := "text", desc := "()I" } : MethodName) ({ cls := "TypeChainModel", name := "text", desc := "()I" } : MethodName)) := ⟨ztin5 (List.mem_of_getElem? (i := 127) rfl), rfl⟩
theorem q_1088 : zTbl (Cond.code ({ cls := "TypeChainModel", name := "text", desc := "()I" } : MethodName) prog_12_method_24_code (4 : Nat) (Option.some FieldType.int)) := ⟨ztin5 (List.mem_of_getElem? (i := 128) rfl), rfl⟩
theorem q_1089 : zTbl (Cond.methodLink "TypeChainModel" (211 : Nat) ({ cls := "TypeChainModel", name := "next", desc := "()V" } : MethodName)) := ⟨ztin5 (List.mem_of_getElem? (i := 129) rfl), rfl⟩
theorem q_1090 : Cond.privateMethod ({ cls := "TypeChainModel", name := "next", desc := "()V" } : MethodName) ∈ lw_tbl := ztin5 (List.mem_of_getElem? (i := 130) rfl)
theorem q_1091 : zTbl (Cond.instanceMethod ({ cls := "TypeChainModel", name := "next", desc := "()V" } : MethodName)) := ⟨ztin5 (List.mem_of_getElem? (i := 131) rfl), rfl⟩
theorem q_1092 : zTbl (Cond.code ({ cls := "TypeChainModel", name := "next", desc := "()V" } : MethodName) prog_12_method_14_code (2 : Nat) (Option.none : Option Jvm.ClassFile.FieldType)) := ⟨ztin5 (List.mem_of_getElem? (i := 132) rfl), rfl⟩
theorem q_1093 : zTbl (Cond.methodLink "TypeChainModel" (181 : Nat) ({ cls := "TypeChainModel", name := "look", desc := "(I)I" } : MethodName)) := ⟨ztin5 (List.mem_of_getElem? (i := 133) rfl), rfl⟩
theorem q_1094 : Cond.privateMethod ({ cls := "TypeChainModel", name := "look", desc := "(I)I" } : MethodName) ∈ lw_tbl := ztin5 (List.mem_of_getElem? (i := 134) rfl)
theorem q_1095 : zTbl (Cond.instanceMethod ({ cls := "TypeChainModel", name := "look", desc := "(I)I" } : MethodName)) := ⟨ztin5 (List.mem_of_getElem? (i := 135) rfl), rfl⟩
theorem q_1096 : zTbl (Cond.code ({ cls := "TypeChainModel", name := "look", desc := "(I)I" } : MethodName) prog_12_method_10_code (2 : Nat) (Option.some FieldType.int)) := ⟨ztin5 (List.mem_of_getElem? (i := 136) rfl), rfl⟩
theorem q_1097 : zTbl (Cond.constantLong "TypeChainModel" (196 : Nat) (97 : Int64)) := ⟨ztin5 (List.mem_of_getElem? (i := 137) rfl), rfl⟩
theorem q_1098 : zTbl (Cond.constantLong "TypeChainModel" (198 : Nat) (122 : Int64)) := ⟨ztin5 (List.mem_of_getElem? (i := 138) rfl), rfl⟩
theorem q_1099 : zTbl (Cond.constantLong "TypeChainModel" (200 : Nat) (48 : Int64)) := ⟨ztin5 (List.mem_of_getElem? (i := 139) rfl), rfl⟩
theorem q_1100 : zTbl (Cond.constantLong "TypeChainModel" (202 : Nat) (57 : Int64)) := ⟨ztin5 (List.mem_of_getElem? (i := 140) rfl), rfl⟩
theorem q_1101 : zTbl (Cond.methodLink "TypeChainModel" (207 : Nat) ({ cls := "TypeChainModel", name := "wants", desc := "(ZI)V" } : MethodName)) := ⟨ztin5 (List.mem_of_getElem? (i := 141) rfl), rfl⟩
theorem q_1102 : Cond.privateMethod ({ cls := "TypeChainModel", name := "wants", desc := "(ZI)V" } : MethodName) ∈ lw_tbl := ztin5 (List.mem_of_getElem? (i := 142) rfl)
theorem q_1103 : zTbl (Cond.instanceMethod ({ cls := "TypeChainModel", name := "wants", desc := "(ZI)V" } : MethodName)) := ⟨ztin5 (List.mem_of_getElem? (i := 143) rfl), rfl⟩
theorem q_1104 : zTbl (Cond.code ({ cls := "TypeChainModel", name := "wants", desc := "(ZI)V" } : MethodName) prog_12_method_9_code (3 : Nat) (Option.none : Option Jvm.ClassFile.FieldType)) := ⟨ztin5 (List.mem_of_getElem? (i := 144) rfl), rfl⟩
theorem q_1105 : zTbl (Cond.methodLink "TypeChainModel" (247 : Nat) ({ cls := "TypeChainModel", name := "readLine", desc := "()V" } : MethodName)) := ⟨ztin5 (List.mem_of_getElem? (i := 145) rfl), rfl⟩
theorem q_1106 : Cond.privateMethod ({ cls := "TypeChainModel", name := "readLine", desc := "()V" } : MethodName) ∈ lw_tbl := ztin5 (List.mem_of_getElem? (i := 146) rfl)
theorem q_1107 : zTbl (Cond.instanceMethod ({ cls := "TypeChainModel", name := "readLine", desc := "()V" } : MethodName)) := ⟨ztin5 (List.mem_of_getElem? (i := 147) rfl), rfl⟩
theorem q_1108 : zTbl (Cond.code ({ cls := "TypeChainModel", name := "readLine", desc := "()V" } : MethodName) prog_12_method_23_code (2 : Nat) (Option.none : Option Jvm.ClassFile.FieldType)) := ⟨ztin5 (List.mem_of_getElem? (i := 148) rfl), rfl⟩
theorem q_1109 : zTbl (Cond.methodLink "TypeChainModel" (227 : Nat) ({ cls := "TypeChainModel", name := "nameNow", desc := "()I" } : MethodName)) := ⟨ztin5 (List.mem_of_getElem? (i := 149) rfl), rfl⟩
theorem q_1110 : Cond.privateMethod ({ cls := "TypeChainModel", name := "nameNow", desc := "()I" } : MethodName) ∈ lw_tbl := ztin5 (List.mem_of_getElem? (i := 150) rfl)
theorem q_1111 : zTbl (Cond.instanceMethod ({ cls := "TypeChainModel", name := "nameNow", desc := "()I" } : MethodName)) := ⟨ztin5 (List.mem_of_getElem? (i := 151) rfl), rfl⟩
theorem q_1112 : zTbl (Cond.code ({ cls := "TypeChainModel", name := "nameNow", desc := "()I" } : MethodName) prog_12_method_13_code (1 : Nat) (Option.some FieldType.int)) := ⟨ztin5 (List.mem_of_getElem? (i := 152) rfl), rfl⟩
theorem q_1113 : zTbl (Cond.methodLink "TypeChainModel" (185 : Nat) ({ cls := "TypeChainModel", name := "is", desc := "(IIIII)Z" } : MethodName)) := ⟨ztin5 (List.mem_of_getElem? (i := 153) rfl), rfl⟩
theorem q_1114 : Cond.privateMethod ({ cls := "TypeChainModel", name := "is", desc := "(IIIII)Z" } : MethodName) ∈ lw_tbl := ztin5 (List.mem_of_getElem? (i := 154) rfl)
theorem q_1115 : zTbl (Cond.instanceMethod ({ cls := "TypeChainModel", name := "is", desc := "(IIIII)Z" } : MethodName)) := ⟨ztin5 (List.mem_of_getElem? (i := 155) rfl), rfl⟩
theorem q_1116 : zTbl (Cond.code ({ cls := "TypeChainModel", name := "is", desc := "(IIIII)Z" } : MethodName) prog_12_method_11_code (6 : Nat) (Option.some FieldType.boolean)) := ⟨ztin5 (List.mem_of_getElem? (i := 156) rfl), rfl⟩
theorem q_1117 : zTbl (Cond.methodLink "TypeChainModel" (189 : Nat) ({ cls := "TypeChainModel", name := "ends2", desc := "(II)Z" } : MethodName)) := ⟨ztin5 (List.mem_of_getElem? (i := 157) rfl), rfl⟩
theorem q_1118 : Cond.privateMethod ({ cls := "TypeChainModel", name := "ends2", desc := "(II)Z" } : MethodName) ∈ lw_tbl := ztin5 (List.mem_of_getElem? (i := 158) rfl)
theorem q_1119 : zTbl (Cond.instanceMethod ({ cls := "TypeChainModel", name := "ends2", desc := "(II)Z" } : MethodName)) := ⟨ztin5 (List.mem_of_getElem? (i := 159) rfl), rfl⟩
theorem q_1120 : zTbl (Cond.code ({ cls := "TypeChainModel", name := "ends2", desc := "(II)Z" } : MethodName) prog_12_method_12_code (3 : Nat) (Option.some FieldType.boolean)) := ⟨ztin5 (List.mem_of_getElem? (i := 160) rfl), rfl⟩
theorem q_1121 : zTbl (Cond.methodLink "TypeChainModel" (231 : Nat) ({ cls := "TypeChainModel", name := "readChain", desc := "()V" } : MethodName)) := ⟨ztin5 (List.mem_of_getElem? (i := 161) rfl), rfl⟩
theorem q_1122 : Cond.privateMethod ({ cls := "TypeChainModel", name := "readChain", desc := "()V" } : MethodName) ∈ lw_tbl := ztin5 (List.mem_of_getElem? (i := 162) rfl)
theorem q_1123 : zTbl (Cond.instanceMethod ({ cls := "TypeChainModel", name := "readChain", desc := "()V" } : MethodName)) := ⟨ztin5 (List.mem_of_getElem? (i := 163) rfl), rfl⟩
theorem q_1124 : zTbl (Cond.code ({ cls := "TypeChainModel", name := "readChain", desc := "()V" } : MethodName) prog_12_method_17_code (3 : Nat) (Option.none : Option Jvm.ClassFile.FieldType)) := ⟨ztin5 (List.mem_of_getElem? (i := 164) rfl), rfl⟩
theorem q_1125 : zTbl (Cond.methodLink "TypeChainModel" (214 : Nat) ({ cls := "TypeChainModel", name := "toLetters", desc := "()V" } : MethodName)) := ⟨ztin5 (List.mem_of_getElem? (i := 165) rfl), rfl⟩
theorem q_1126 : Cond.privateMethod ({ cls := "TypeChainModel", name := "toLetters", desc := "()V" } : MethodName) ∈ lw_tbl := ztin5 (List.mem_of_getElem? (i := 166) rfl)
theorem q_1127 : zTbl (Cond.instanceMethod ({ cls := "TypeChainModel", name := "toLetters", desc := "()V" } : MethodName)) := ⟨ztin5 (List.mem_of_getElem? (i := 167) rfl), rfl⟩
theorem q_1128 : zTbl (Cond.code ({ cls := "TypeChainModel", name := "toLetters", desc := "()V" } : MethodName) prog_12_method_16_code (1 : Nat) (Option.none : Option Jvm.ClassFile.FieldType)) := ⟨ztin5 (List.mem_of_getElem? (i := 168) rfl), rfl⟩
theorem q_1129 : zTbl (Cond.constantLong "TypeChainModel" (217 : Nat) (2 : Int64)) := ⟨ztin5 (List.mem_of_getElem? (i := 169) rfl), rfl⟩
theorem q_1130 : zTbl (Cond.methodLink "TypeChainModel" (234 : Nat) ({ cls := "TypeChainModel", name := "least", desc := "(I)I" } : MethodName)) := ⟨ztin5 (List.mem_of_getElem? (i := 170) rfl), rfl⟩
theorem q_1131 : zTbl (Cond.static ({ cls := "TypeChainModel", name := "least", desc := "(I)I" } : MethodName)) := ⟨ztin5 (List.mem_of_getElem? (i := 171) rfl), rfl⟩
theorem q_1132 : zTbl (Cond.code ({ cls := "TypeChainModel", name := "least", desc := "(I)I" } : MethodName) prog_12_method_21_code (1 : Nat) (Option.some FieldType.int)) := ⟨ztin5 (List.mem_of_getElem? (i := 172) rfl), rfl⟩
theorem q_1133 : zTbl (Cond.methodLink "TypeChainModel" (237 : Nat) ({ cls := "TypeChainModel", name := "most", desc := "(I)I" } : MethodName)) := ⟨ztin5 (List.mem_of_getElem? (i := 173) rfl), rfl⟩
theorem q_1134 : zTbl (Cond.static ({ cls := "TypeChainModel", name := "most", desc := "(I)I" } : MethodName)) := ⟨ztin5 (List.mem_of_getElem? (i := 174) rfl), rfl⟩
theorem q_1135 : zTbl (Cond.code ({ cls := "TypeChainModel", name := "most", desc := "(I)I" } : MethodName) prog_12_method_22_code (1 : Nat) (Option.some FieldType.int)) := ⟨ztin5 (List.mem_of_getElem? (i := 175) rfl), rfl⟩
theorem q_1136 : zTbl (Cond.methodLink "TypeChainModel" (219 : Nat) ({ cls := "TypeChainModel", name := "readNumber", desc := "(II)I" } : MethodName)) := ⟨ztin5 (List.mem_of_getElem? (i := 176) rfl), rfl⟩
theorem q_1137 : Cond.privateMethod ({ cls := "TypeChainModel", name := "readNumber", desc := "(II)I" } : MethodName) ∈ lw_tbl := ztin5 (List.mem_of_getElem? (i := 177) rfl)
theorem q_1138 : zTbl (Cond.instanceMethod ({ cls := "TypeChainModel", name := "readNumber", desc := "(II)I" } : MethodName)) := ⟨ztin5 (List.mem_of_getElem? (i := 178) rfl), rfl⟩
theorem q_1139 : zTbl (Cond.code ({ cls := "TypeChainModel", name := "readNumber", desc := "(II)I" } : MethodName) prog_12_method_15_code (4 : Nat) (Option.some FieldType.int)) := ⟨ztin5 (List.mem_of_getElem? (i := 179) rfl), rfl⟩
theorem q_1140 : zTbl (Cond.methodLink "TypeChainModel" (240 : Nat) ({ cls := "TypeChainModel", name := "readHole", desc := "()V" } : MethodName)) := ⟨ztin5 (List.mem_of_getElem? (i := 180) rfl), rfl⟩
theorem q_1141 : Cond.privateMethod ({ cls := "TypeChainModel", name := "readHole", desc := "()V" } : MethodName) ∈ lw_tbl := ztin5 (List.mem_of_getElem? (i := 181) rfl)
theorem q_1142 : zTbl (Cond.instanceMethod ({ cls := "TypeChainModel", name := "readHole", desc := "()V" } : MethodName)) := ⟨ztin5 (List.mem_of_getElem? (i := 182) rfl), rfl⟩
theorem q_1143 : zTbl (Cond.code ({ cls := "TypeChainModel", name := "readHole", desc := "()V" } : MethodName) prog_12_method_19_code (4 : Nat) (Option.none : Option Jvm.ClassFile.FieldType)) := ⟨ztin5 (List.mem_of_getElem? (i := 183) rfl), rfl⟩
theorem q_1144 : zTbl (Cond.methodLink "TypeChainModel" (223 : Nat) ({ cls := "TypeChainModel", name := "asksLater", desc := "(II)V" } : MethodName)) := ⟨ztin5 (List.mem_of_getElem? (i := 184) rfl), rfl⟩
theorem q_1145 : Cond.privateMethod ({ cls := "TypeChainModel", name := "asksLater", desc := "(II)V" } : MethodName) ∈ lw_tbl := ztin5 (List.mem_of_getElem? (i := 185) rfl)
theorem q_1146 : zTbl (Cond.instanceMethod ({ cls := "TypeChainModel", name := "asksLater", desc := "(II)V" } : MethodName)) := ⟨ztin5 (List.mem_of_getElem? (i := 186) rfl), rfl⟩
theorem q_1147 : zTbl (Cond.code ({ cls := "TypeChainModel", name := "asksLater", desc := "(II)V" } : MethodName) prog_12_method_18_code (3 : Nat) (Option.none : Option Jvm.ClassFile.FieldType)) := ⟨ztin5 (List.mem_of_getElem? (i := 187) rfl), rfl⟩
theorem q_1148 : zTbl (Cond.methodLink "TypeChainModel" (243 : Nat) ({ cls := "TypeChainModel", name := "readOrder", desc := "(I)V" } : MethodName)) := ⟨ztin5 (List.mem_of_getElem? (i := 188) rfl), rfl⟩
theorem q_1149 : Cond.privateMethod ({ cls := "TypeChainModel", name := "readOrder", desc := "(I)V" } : MethodName) ∈ lw_tbl := ztin5 (List.mem_of_getElem? (i := 189) rfl)
theorem q_1150 : zTbl (Cond.instanceMethod ({ cls := "TypeChainModel", name := "readOrder", desc := "(I)V" } : MethodName)) := ⟨ztin5 (List.mem_of_getElem? (i := 190) rfl), rfl⟩
theorem q_1151 : zTbl (Cond.code ({ cls := "TypeChainModel", name := "readOrder", desc := "(I)V" } : MethodName) prog_12_method_20_code (6 : Nat) (Option.none : Option Jvm.ClassFile.FieldType)) := ⟨ztin5 (List.mem_of_getElem? (i := 191) rfl), rfl⟩
theorem q_1152 : zTbl (Cond.methodLink "TypeChainLaw" (33 : Nat) ({ cls := "TypeChainModel", name := "fault", desc := "()I" } : MethodName)) := ⟨ztin5 (List.mem_of_getElem? (i := 192) rfl), rfl⟩
theorem q_1153 : zTbl (Cond.instanceMethod ({ cls := "TypeChainModel", name := "fault", desc := "()I" } : MethodName)) := ⟨ztin5 (List.mem_of_getElem? (i := 193) rfl), rfl⟩
theorem q_1154 : zTbl (Cond.selects "TypeChainModel" ({ cls := "TypeChainModel", name := "fault", desc := "()I" } : MethodName) ({ cls := "TypeChainModel", name := "fault", desc := "()I" } : MethodName)) := ⟨ztin5 (List.mem_of_getElem? (i := 194) rfl), rfl⟩
theorem q_1155 : zTbl (Cond.code ({ cls := "TypeChainModel", name := "fault", desc := "()I" } : MethodName) prog_12_method_25_code (1 : Nat) (Option.some FieldType.int)) := ⟨ztin5 (List.mem_of_getElem? (i := 195) rfl), rfl⟩
theorem q_1156 : zTbl (Cond.methodLink "TypeChainLaw" (37 : Nat) ({ cls := "TypeChainModel", name := "rule", desc := "(I)I" } : MethodName)) := ⟨ztin5 (List.mem_of_getElem? (i := 196) rfl), rfl⟩
theorem q_1157 : zTbl (Cond.instanceMethod ({ cls := "TypeChainModel", name := "rule", desc := "(I)I" } : MethodName)) := ⟨ztin5 (List.mem_of_getElem? (i := 197) rfl), rfl⟩
theorem q_1158 : zTbl (Cond.selects "TypeChainModel" ({ cls := "TypeChainModel", name := "rule", desc := "(I)I" } : MethodName) ({ cls := "TypeChainModel", name := "rule", desc := "(I)I" } : MethodName)) := ⟨ztin5 (List.mem_of_getElem? (i := 198) rfl), rfl⟩
theorem q_1159 : zTbl (Cond.code ({ cls := "TypeChainModel", name := "rule", desc := "(I)I" } : MethodName) prog_12_method_26_code (2 : Nat) (Option.some FieldType.int)) := ⟨ztin5 (List.mem_of_getElem? (i := 199) rfl), rfl⟩
theorem q_1160 : zTbl (Cond.constantLong "TypeChainModel" (250 : Nat) (8 : Int64)) := ⟨ztin5 (List.mem_of_getElem? (i := 200) rfl), rfl⟩
theorem q_1161 : zTbl (Cond.methodLink "TypeChainLaw" (41 : Nat) ({ cls := "TypeChainModel", name := "slug", desc := "(I)I" } : MethodName)) := ⟨ztin5 (List.mem_of_getElem? (i := 201) rfl), rfl⟩
theorem q_1162 : zTbl (Cond.instanceMethod ({ cls := "TypeChainModel", name := "slug", desc := "(I)I" } : MethodName)) := ⟨ztin5 (List.mem_of_getElem? (i := 202) rfl), rfl⟩
theorem q_1163 : zTbl (Cond.selects "TypeChainModel" ({ cls := "TypeChainModel", name := "slug", desc := "(I)I" } : MethodName) ({ cls := "TypeChainModel", name := "slug", desc := "(I)I" } : MethodName)) := ⟨ztin5 (List.mem_of_getElem? (i := 203) rfl), rfl⟩
theorem q_1164 : zTbl (Cond.code ({ cls := "TypeChainModel", name := "slug", desc := "(I)I" } : MethodName) prog_12_method_27_code (2 : Nat) (Option.some FieldType.int)) := ⟨ztin5 (List.mem_of_getElem? (i := 204) rfl), rfl⟩
theorem q_1165 : zTbl (Cond.methodLink "TypeChainLaw" (45 : Nat) ({ cls := "TypeChainModel", name := "holes", desc := "(I)I" } : MethodName)) := ⟨ztin5 (List.mem_of_getElem? (i := 205) rfl), rfl⟩
theorem q_1166 : zTbl (Cond.instanceMethod ({ cls := "TypeChainModel", name := "holes", desc := "(I)I" } : MethodName)) := ⟨ztin5 (List.mem_of_getElem? (i := 206) rfl), rfl⟩
theorem q_1167 : zTbl (Cond.selects "TypeChainModel" ({ cls := "TypeChainModel", name := "holes", desc := "(I)I" } : MethodName) ({ cls := "TypeChainModel", name := "holes", desc := "(I)I" } : MethodName)) := ⟨ztin5 (List.mem_of_getElem? (i := 207) rfl), rfl⟩
theorem q_1168 : zTbl (Cond.code ({ cls := "TypeChainModel", name := "holes", desc := "(I)I" } : MethodName) prog_12_method_28_code (2 : Nat) (Option.some FieldType.int)) := ⟨ztin5 (List.mem_of_getElem? (i := 208) rfl), rfl⟩
theorem q_1169 : zTbl (Cond.methodLink "TypeChainLaw" (50 : Nat) ({ cls := "TypeChainModel", name := "order", desc := "(II)I" } : MethodName)) := ⟨ztin5 (List.mem_of_getElem? (i := 209) rfl), rfl⟩
theorem q_1170 : zTbl (Cond.instanceMethod ({ cls := "TypeChainModel", name := "order", desc := "(II)I" } : MethodName)) := ⟨ztin5 (List.mem_of_getElem? (i := 210) rfl), rfl⟩
theorem q_1171 : zTbl (Cond.selects "TypeChainModel" ({ cls := "TypeChainModel", name := "order", desc := "(II)I" } : MethodName) ({ cls := "TypeChainModel", name := "order", desc := "(II)I" } : MethodName)) := ⟨ztin5 (List.mem_of_getElem? (i := 211) rfl), rfl⟩
theorem q_1172 : zTbl (Cond.code ({ cls := "TypeChainModel", name := "order", desc := "(II)I" } : MethodName) prog_12_method_29_code (3 : Nat) (Option.some FieldType.int)) := ⟨ztin5 (List.mem_of_getElem? (i := 212) rfl), rfl⟩
theorem q_1173 : zTbl (Cond.constantLong "TypeChainModel" (252 : Nat) (10 : Int64)) := ⟨ztin5 (List.mem_of_getElem? (i := 213) rfl), rfl⟩
theorem q_1174 : zTbl (Cond.methodLink "TypeChainLaw" (54 : Nat) ({ cls := "TypeChainModel", name := "faces", desc := "(II)I" } : MethodName)) := ⟨ztin5 (List.mem_of_getElem? (i := 214) rfl), rfl⟩
theorem q_1175 : zTbl (Cond.instanceMethod ({ cls := "TypeChainModel", name := "faces", desc := "(II)I" } : MethodName)) := ⟨ztin5 (List.mem_of_getElem? (i := 215) rfl), rfl⟩
theorem q_1176 : zTbl (Cond.selects "TypeChainModel" ({ cls := "TypeChainModel", name := "faces", desc := "(II)I" } : MethodName) ({ cls := "TypeChainModel", name := "faces", desc := "(II)I" } : MethodName)) := ⟨ztin5 (List.mem_of_getElem? (i := 216) rfl), rfl⟩
theorem q_1177 : zTbl (Cond.code ({ cls := "TypeChainModel", name := "faces", desc := "(II)I" } : MethodName) prog_12_method_33_code (3 : Nat) (Option.some FieldType.int)) := ⟨ztin5 (List.mem_of_getElem? (i := 217) rfl), rfl⟩
theorem q_1178 : zTbl (Cond.methodLink "TypeChainModel" (257 : Nat) ({ cls := "TypeChainModel", name := "isColumn", desc := "(I)Z" } : MethodName)) := ⟨ztin5 (List.mem_of_getElem? (i := 218) rfl), rfl⟩
theorem q_1179 : Cond.privateMethod ({ cls := "TypeChainModel", name := "isColumn", desc := "(I)Z" } : MethodName) ∈ lw_tbl := ztin5 (List.mem_of_getElem? (i := 219) rfl)
theorem q_1180 : zTbl (Cond.instanceMethod ({ cls := "TypeChainModel", name := "isColumn", desc := "(I)Z" } : MethodName)) := ⟨ztin5 (List.mem_of_getElem? (i := 220) rfl), rfl⟩
theorem q_1181 : zTbl (Cond.code ({ cls := "TypeChainModel", name := "isColumn", desc := "(I)Z" } : MethodName) prog_12_method_32_code (2 : Nat) (Option.some FieldType.boolean)) := ⟨ztin5 (List.mem_of_getElem? (i := 221) rfl), rfl⟩
theorem q_1182 : zTbl (Cond.constantLong "TypeChainModel" (261 : Nat) (1000000 : Int64)) := ⟨ztin5 (List.mem_of_getElem? (i := 222) rfl), rfl⟩
theorem q_1183 : zTbl (Cond.methodLink "TypeChainModel" (263 : Nat) ({ cls := "TypeChainModel", name := "letterAt", desc := "(II)I" } : MethodName)) := ⟨ztin5 (List.mem_of_getElem? (i := 223) rfl), rfl⟩
theorem q_1184 : Cond.privateMethod ({ cls := "TypeChainModel", name := "letterAt", desc := "(II)I" } : MethodName) ∈ lw_tbl := ztin5 (List.mem_of_getElem? (i := 224) rfl)
theorem q_1185 : zTbl (Cond.instanceMethod ({ cls := "TypeChainModel", name := "letterAt", desc := "(II)I" } : MethodName)) := ⟨ztin5 (List.mem_of_getElem? (i := 225) rfl), rfl⟩
theorem q_1186 : zTbl (Cond.code ({ cls := "TypeChainModel", name := "letterAt", desc := "(II)I" } : MethodName) prog_12_method_31_code (4 : Nat) (Option.some FieldType.int)) := ⟨ztin5 (List.mem_of_getElem? (i := 226) rfl), rfl⟩
theorem q_1187 : zTbl (Cond.methodLink "TypeChainModel" (254 : Nat) ({ cls := "TypeChainModel", name := "slugAt", desc := "(II)I" } : MethodName)) := ⟨ztin5 (List.mem_of_getElem? (i := 227) rfl), rfl⟩
theorem q_1188 : Cond.privateMethod ({ cls := "TypeChainModel", name := "slugAt", desc := "(II)I" } : MethodName) ∈ lw_tbl := ztin5 (List.mem_of_getElem? (i := 228) rfl)
theorem q_1189 : zTbl (Cond.instanceMethod ({ cls := "TypeChainModel", name := "slugAt", desc := "(II)I" } : MethodName)) := ⟨ztin5 (List.mem_of_getElem? (i := 229) rfl), rfl⟩
theorem q_1190 : zTbl (Cond.code ({ cls := "TypeChainModel", name := "slugAt", desc := "(II)I" } : MethodName) prog_12_method_30_code (4 : Nat) (Option.some FieldType.int)) := ⟨ztin5 (List.mem_of_getElem? (i := 230) rfl), rfl⟩
theorem q_1191 : zTbl (Cond.methodLink "TypeChainLaw" (59 : Nat) ({ cls := "TypeChainModel", name := "comes", desc := "(III)I" } : MethodName)) := ⟨ztin5 (List.mem_of_getElem? (i := 231) rfl), rfl⟩
theorem q_1192 : zTbl (Cond.instanceMethod ({ cls := "TypeChainModel", name := "comes", desc := "(III)I" } : MethodName)) := ⟨ztin5 (List.mem_of_getElem? (i := 232) rfl), rfl⟩
theorem q_1193 : zTbl (Cond.selects "TypeChainModel" ({ cls := "TypeChainModel", name := "comes", desc := "(III)I" } : MethodName) ({ cls := "TypeChainModel", name := "comes", desc := "(III)I" } : MethodName)) := ⟨ztin5 (List.mem_of_getElem? (i := 233) rfl), rfl⟩
theorem q_1194 : zTbl (Cond.code ({ cls := "TypeChainModel", name := "comes", desc := "(III)I" } : MethodName) prog_12_method_36_code (4 : Nat) (Option.some FieldType.int)) := ⟨ztin5 (List.mem_of_getElem? (i := 234) rfl), rfl⟩
theorem q_1195 : zTbl (Cond.constantLong "TypeChainModel" (266 : Nat) (26 : Int64)) := ⟨ztin5 (List.mem_of_getElem? (i := 235) rfl), rfl⟩
theorem q_1196 : zTbl (Cond.methodLink "TypeChainModel" (268 : Nat) ({ cls := "TypeChainModel", name := "has", desc := "(I)Z" } : MethodName)) := ⟨ztin5 (List.mem_of_getElem? (i := 236) rfl), rfl⟩
theorem q_1197 : Cond.privateMethod ({ cls := "TypeChainModel", name := "has", desc := "(I)Z" } : MethodName) ∈ lw_tbl := ztin5 (List.mem_of_getElem? (i := 237) rfl)
theorem q_1198 : zTbl (Cond.instanceMethod ({ cls := "TypeChainModel", name := "has", desc := "(I)Z" } : MethodName)) := ⟨ztin5 (List.mem_of_getElem? (i := 238) rfl), rfl⟩
theorem q_1199 : zTbl (Cond.code ({ cls := "TypeChainModel", name := "has", desc := "(I)Z" } : MethodName) prog_12_method_34_code (4 : Nat) (Option.some FieldType.boolean)) := ⟨ztin5 (List.mem_of_getElem? (i := 239) rfl), rfl⟩
theorem q_1200 : zTbl (Cond.methodLink "TypeChainModel" (271 : Nat) ({ cls := "TypeChainModel", name := "comesBy", desc := "(III)I" } : MethodName)) := ⟨ztin6 (List.mem_of_getElem? (i := 0) rfl), rfl⟩
theorem q_1201 : Cond.privateMethod ({ cls := "TypeChainModel", name := "comesBy", desc := "(III)I" } : MethodName) ∈ lw_tbl := ztin6 (List.mem_of_getElem? (i := 1) rfl)
theorem q_1202 : zTbl (Cond.instanceMethod ({ cls := "TypeChainModel", name := "comesBy", desc := "(III)I" } : MethodName)) := ⟨ztin6 (List.mem_of_getElem? (i := 2) rfl), rfl⟩
theorem q_1203 : zTbl (Cond.code ({ cls := "TypeChainModel", name := "comesBy", desc := "(III)I" } : MethodName) prog_12_method_35_code (5 : Nat) (Option.some FieldType.int)) := ⟨ztin6 (List.mem_of_getElem? (i := 3) rfl), rfl⟩
theorem q_1204 : zTbl (Cond.methodLink "TypeChainLaw" (63 : Nat) ({ cls := "TypeChainModel", name := "late", desc := "(III)I" } : MethodName)) := ⟨ztin6 (List.mem_of_getElem? (i := 4) rfl), rfl⟩
theorem q_1205 : zTbl (Cond.instanceMethod ({ cls := "TypeChainModel", name := "late", desc := "(III)I" } : MethodName)) := ⟨ztin6 (List.mem_of_getElem? (i := 5) rfl), rfl⟩
theorem q_1206 : zTbl (Cond.selects "TypeChainModel" ({ cls := "TypeChainModel", name := "late", desc := "(III)I" } : MethodName) ({ cls := "TypeChainModel", name := "late", desc := "(III)I" } : MethodName)) := ⟨ztin6 (List.mem_of_getElem? (i := 6) rfl), rfl⟩
theorem q_1207 : zTbl (Cond.code ({ cls := "TypeChainModel", name := "late", desc := "(III)I" } : MethodName) prog_12_method_37_code (5 : Nat) (Option.some FieldType.int)) := ⟨ztin6 (List.mem_of_getElem? (i := 7) rfl), rfl⟩
theorem q_1208 : zTbl (Cond.constantLong "TypeChainModel" (275 : Nat) (-20 : Int64)) := ⟨ztin6 (List.mem_of_getElem? (i := 8) rfl), rfl⟩
theorem q_1209 : zTbl (Cond.constantLong "TypeChainModel" (277 : Nat) (20 : Int64)) := ⟨ztin6 (List.mem_of_getElem? (i := 9) rfl), rfl⟩
theorem q_1210 : zTbl (Cond.methodLink "TypeChainLaw" (67 : Nat) ({ cls := "TypeChainModel", name := "put", desc := "(II)I" } : MethodName)) := ⟨ztin6 (List.mem_of_getElem? (i := 10) rfl), rfl⟩
theorem q_1211 : zTbl (Cond.instanceMethod ({ cls := "TypeChainModel", name := "put", desc := "(II)I" } : MethodName)) := ⟨ztin6 (List.mem_of_getElem? (i := 11) rfl), rfl⟩
theorem q_1212 : zTbl (Cond.selects "TypeChainModel" ({ cls := "TypeChainModel", name := "put", desc := "(II)I" } : MethodName) ({ cls := "TypeChainModel", name := "put", desc := "(II)I" } : MethodName)) := ⟨ztin6 (List.mem_of_getElem? (i := 12) rfl), rfl⟩
theorem q_1213 : zTbl (Cond.code ({ cls := "TypeChainModel", name := "put", desc := "(II)I" } : MethodName) prog_12_method_40_code (4 : Nat) (Option.some FieldType.int)) := ⟨ztin6 (List.mem_of_getElem? (i := 13) rfl), rfl⟩
theorem q_1214 : zTbl (Cond.methodLink "TypeChainLaw" (71 : Nat) ({ cls := "TypeChainModel", name := "line", desc := "(I)I" } : MethodName)) := ⟨ztin6 (List.mem_of_getElem? (i := 14) rfl), rfl⟩
theorem q_1215 : zTbl (Cond.instanceMethod ({ cls := "TypeChainModel", name := "line", desc := "(I)I" } : MethodName)) := ⟨ztin6 (List.mem_of_getElem? (i := 15) rfl), rfl⟩
theorem q_1216 : zTbl (Cond.selects "TypeChainModel" ({ cls := "TypeChainModel", name := "line", desc := "(I)I" } : MethodName) ({ cls := "TypeChainModel", name := "line", desc := "(I)I" } : MethodName)) := ⟨ztin6 (List.mem_of_getElem? (i := 16) rfl), rfl⟩
theorem q_1217 : zTbl (Cond.code ({ cls := "TypeChainModel", name := "line", desc := "(I)I" } : MethodName) prog_12_method_41_code (2 : Nat) (Option.some FieldType.int)) := ⟨ztin6 (List.mem_of_getElem? (i := 17) rfl), rfl⟩
theorem q_1218 : zTbl (Cond.methodLink "TypeChainLaw" (75 : Nat) ({ cls := "TypeChainModel", name := "ticks", desc := "(I)I" } : MethodName)) := ⟨ztin6 (List.mem_of_getElem? (i := 18) rfl), rfl⟩
theorem q_1219 : zTbl (Cond.instanceMethod ({ cls := "TypeChainModel", name := "ticks", desc := "(I)I" } : MethodName)) := ⟨ztin6 (List.mem_of_getElem? (i := 19) rfl), rfl⟩
theorem q_1220 : zTbl (Cond.selects "TypeChainModel" ({ cls := "TypeChainModel", name := "ticks", desc := "(I)I" } : MethodName) ({ cls := "TypeChainModel", name := "ticks", desc := "(I)I" } : MethodName)) := ⟨ztin6 (List.mem_of_getElem? (i := 20) rfl), rfl⟩
theorem q_1221 : zTbl (Cond.code ({ cls := "TypeChainModel", name := "ticks", desc := "(I)I" } : MethodName) prog_12_method_44_code (2 : Nat) (Option.some FieldType.int)) := ⟨ztin6 (List.mem_of_getElem? (i := 21) rfl), rfl⟩
theorem q_1222 : zTbl (Cond.constantLong "TypeChainModel" (288 : Nat) (40 : Int64)) := ⟨ztin6 (List.mem_of_getElem? (i := 22) rfl), rfl⟩
theorem q_1223 : zTbl (Cond.methodLink "TypeChainModel" (290 : Nat) ({ cls := "TypeChainModel", name := "canGo", desc := "()Z" } : MethodName)) := ⟨ztin6 (List.mem_of_getElem? (i := 23) rfl), rfl⟩
theorem q_1224 : Cond.privateMethod ({ cls := "TypeChainModel", name := "canGo", desc := "()Z" } : MethodName) ∈ lw_tbl := ztin6 (List.mem_of_getElem? (i := 24) rfl)
theorem q_1225 : zTbl (Cond.instanceMethod ({ cls := "TypeChainModel", name := "canGo", desc := "()Z" } : MethodName)) := ⟨ztin6 (List.mem_of_getElem? (i := 25) rfl), rfl⟩
theorem q_1226 : zTbl (Cond.code ({ cls := "TypeChainModel", name := "canGo", desc := "()Z" } : MethodName) prog_12_method_42_code (3 : Nat) (Option.some FieldType.boolean)) := ⟨ztin6 (List.mem_of_getElem? (i := 26) rfl), rfl⟩
theorem q_1227 : zTbl (Cond.methodLink "TypeChainModel" (294 : Nat) ({ cls := "TypeChainModel", name := "strikes", desc := "(I)I" } : MethodName)) := ⟨ztin6 (List.mem_of_getElem? (i := 27) rfl), rfl⟩
theorem q_1228 : Cond.privateMethod ({ cls := "TypeChainModel", name := "strikes", desc := "(I)I" } : MethodName) ∈ lw_tbl := ztin6 (List.mem_of_getElem? (i := 28) rfl)
theorem q_1229 : zTbl (Cond.instanceMethod ({ cls := "TypeChainModel", name := "strikes", desc := "(I)I" } : MethodName)) := ⟨ztin6 (List.mem_of_getElem? (i := 29) rfl), rfl⟩
theorem q_1230 : zTbl (Cond.code ({ cls := "TypeChainModel", name := "strikes", desc := "(I)I" } : MethodName) prog_12_method_43_code (6 : Nat) (Option.some FieldType.int)) := ⟨ztin6 (List.mem_of_getElem? (i := 30) rfl), rfl⟩
theorem q_1231 : zTbl (Cond.methodLink "TypeChainLaw" (79 : Nat) ({ cls := "TypeChainModel", name := "go", desc := "()I" } : MethodName)) := ⟨ztin6 (List.mem_of_getElem? (i := 31) rfl), rfl⟩
theorem q_1232 : zTbl (Cond.instanceMethod ({ cls := "TypeChainModel", name := "go", desc := "()I" } : MethodName)) := ⟨ztin6 (List.mem_of_getElem? (i := 32) rfl), rfl⟩
theorem q_1233 : zTbl (Cond.selects "TypeChainModel" ({ cls := "TypeChainModel", name := "go", desc := "()I" } : MethodName) ({ cls := "TypeChainModel", name := "go", desc := "()I" } : MethodName)) := ⟨ztin6 (List.mem_of_getElem? (i := 33) rfl), rfl⟩
theorem q_1234 : zTbl (Cond.code ({ cls := "TypeChainModel", name := "go", desc := "()I" } : MethodName) prog_12_method_46_code (1 : Nat) (Option.some FieldType.int)) := ⟨ztin6 (List.mem_of_getElem? (i := 34) rfl), rfl⟩
theorem q_1235 : zTbl (Cond.methodLink "TypeChainModel" (306 : Nat) ({ cls := "TypeChainModel", name := "goes", desc := "()I" } : MethodName)) := ⟨ztin6 (List.mem_of_getElem? (i := 35) rfl), rfl⟩
theorem q_1236 : Cond.privateMethod ({ cls := "TypeChainModel", name := "goes", desc := "()I" } : MethodName) ∈ lw_tbl := ztin6 (List.mem_of_getElem? (i := 36) rfl)
theorem q_1237 : zTbl (Cond.instanceMethod ({ cls := "TypeChainModel", name := "goes", desc := "()I" } : MethodName)) := ⟨ztin6 (List.mem_of_getElem? (i := 37) rfl), rfl⟩
theorem q_1238 : zTbl (Cond.code ({ cls := "TypeChainModel", name := "goes", desc := "()I" } : MethodName) prog_12_method_45_code (4 : Nat) (Option.some FieldType.int)) := ⟨ztin6 (List.mem_of_getElem? (i := 38) rfl), rfl⟩
theorem q_1239 : zTbl (Cond.methodLink "TypeChainLaw" (83 : Nat) ({ cls := "TypeChainModel", name := "struck", desc := "(I)I" } : MethodName)) := ⟨ztin6 (List.mem_of_getElem? (i := 39) rfl), rfl⟩
theorem q_1240 : zTbl (Cond.instanceMethod ({ cls := "TypeChainModel", name := "struck", desc := "(I)I" } : MethodName)) := ⟨ztin6 (List.mem_of_getElem? (i := 40) rfl), rfl⟩
theorem q_1241 : zTbl (Cond.selects "TypeChainModel" ({ cls := "TypeChainModel", name := "struck", desc := "(I)I" } : MethodName) ({ cls := "TypeChainModel", name := "struck", desc := "(I)I" } : MethodName)) := ⟨ztin6 (List.mem_of_getElem? (i := 41) rfl), rfl⟩
theorem q_1242 : zTbl (Cond.code ({ cls := "TypeChainModel", name := "struck", desc := "(I)I" } : MethodName) prog_12_method_47_code (2 : Nat) (Option.some FieldType.int)) := ⟨ztin6 (List.mem_of_getElem? (i := 42) rfl), rfl⟩
theorem q_1243 : zTbl (Cond.methodLink "TypeChainLaw" (87 : Nat) ({ cls := "TypeChainModel", name := "slipped", desc := "(II)I" } : MethodName)) := ⟨ztin6 (List.mem_of_getElem? (i := 43) rfl), rfl⟩
theorem q_1244 : zTbl (Cond.instanceMethod ({ cls := "TypeChainModel", name := "slipped", desc := "(II)I" } : MethodName)) := ⟨ztin6 (List.mem_of_getElem? (i := 44) rfl), rfl⟩
theorem q_1245 : zTbl (Cond.selects "TypeChainModel" ({ cls := "TypeChainModel", name := "slipped", desc := "(II)I" } : MethodName) ({ cls := "TypeChainModel", name := "slipped", desc := "(II)I" } : MethodName)) := ⟨ztin6 (List.mem_of_getElem? (i := 45) rfl), rfl⟩
theorem q_1246 : zTbl (Cond.code ({ cls := "TypeChainModel", name := "slipped", desc := "(II)I" } : MethodName) prog_12_method_49_code (3 : Nat) (Option.some FieldType.int)) := ⟨ztin6 (List.mem_of_getElem? (i := 46) rfl), rfl⟩
theorem q_1247 : zTbl (Cond.methodLink "TypeChainModel" (309 : Nat) ({ cls := "TypeChainModel", name := "shows", desc := "(II)I" } : MethodName)) := ⟨ztin6 (List.mem_of_getElem? (i := 47) rfl), rfl⟩
theorem q_1248 : Cond.privateMethod ({ cls := "TypeChainModel", name := "shows", desc := "(II)I" } : MethodName) ∈ lw_tbl := ztin6 (List.mem_of_getElem? (i := 48) rfl)
theorem q_1249 : zTbl (Cond.instanceMethod ({ cls := "TypeChainModel", name := "shows", desc := "(II)I" } : MethodName)) := ⟨ztin6 (List.mem_of_getElem? (i := 49) rfl), rfl⟩
theorem q_1250 : zTbl (Cond.code ({ cls := "TypeChainModel", name := "shows", desc := "(II)I" } : MethodName) prog_12_method_48_code (3 : Nat) (Option.some FieldType.int)) := ⟨ztin6 (List.mem_of_getElem? (i := 50) rfl), rfl⟩
theorem q_1251 : zTbl (Cond.methodLink "TypeChainLaw" (91 : Nat) ({ cls := "TypeChainModel", name := "seen", desc := "(II)I" } : MethodName)) := ⟨ztin6 (List.mem_of_getElem? (i := 51) rfl), rfl⟩
theorem q_1252 : zTbl (Cond.instanceMethod ({ cls := "TypeChainModel", name := "seen", desc := "(II)I" } : MethodName)) := ⟨ztin6 (List.mem_of_getElem? (i := 52) rfl), rfl⟩
theorem q_1253 : zTbl (Cond.selects "TypeChainModel" ({ cls := "TypeChainModel", name := "seen", desc := "(II)I" } : MethodName) ({ cls := "TypeChainModel", name := "seen", desc := "(II)I" } : MethodName)) := ⟨ztin6 (List.mem_of_getElem? (i := 53) rfl), rfl⟩
theorem q_1254 : zTbl (Cond.code ({ cls := "TypeChainModel", name := "seen", desc := "(II)I" } : MethodName) prog_12_method_50_code (4 : Nat) (Option.some FieldType.int)) := ⟨ztin6 (List.mem_of_getElem? (i := 54) rfl), rfl⟩
theorem q_1255 : zTbl (Cond.methodLink "TypeChainLaw" (95 : Nat) ({ cls := "TypeChainModel", name := "slips", desc := "(I)I" } : MethodName)) := ⟨ztin6 (List.mem_of_getElem? (i := 55) rfl), rfl⟩
theorem q_1256 : zTbl (Cond.instanceMethod ({ cls := "TypeChainModel", name := "slips", desc := "(I)I" } : MethodName)) := ⟨ztin6 (List.mem_of_getElem? (i := 56) rfl), rfl⟩
theorem q_1257 : zTbl (Cond.selects "TypeChainModel" ({ cls := "TypeChainModel", name := "slips", desc := "(I)I" } : MethodName) ({ cls := "TypeChainModel", name := "slips", desc := "(I)I" } : MethodName)) := ⟨ztin6 (List.mem_of_getElem? (i := 57) rfl), rfl⟩
theorem q_1258 : zTbl (Cond.code ({ cls := "TypeChainModel", name := "slips", desc := "(I)I" } : MethodName) prog_12_method_51_code (7 : Nat) (Option.some FieldType.int)) := ⟨ztin6 (List.mem_of_getElem? (i := 58) rfl), rfl⟩
theorem q_1259 : zTbl (Cond.methodLink "TypeChainLaw" (99 : Nat) ({ cls := "TypeChainModel", name := "space", desc := "(I)I" } : MethodName)) := ⟨ztin6 (List.mem_of_getElem? (i := 59) rfl), rfl⟩
theorem q_1260 : zTbl (Cond.instanceMethod ({ cls := "TypeChainModel", name := "space", desc := "(I)I" } : MethodName)) := ⟨ztin6 (List.mem_of_getElem? (i := 60) rfl), rfl⟩
theorem q_1261 : zTbl (Cond.selects "TypeChainModel" ({ cls := "TypeChainModel", name := "space", desc := "(I)I" } : MethodName) ({ cls := "TypeChainModel", name := "space", desc := "(I)I" } : MethodName)) := ⟨ztin6 (List.mem_of_getElem? (i := 61) rfl), rfl⟩
theorem q_1262 : zTbl (Cond.code ({ cls := "TypeChainModel", name := "space", desc := "(I)I" } : MethodName) prog_12_method_54_code (2 : Nat) (Option.some FieldType.int)) := ⟨ztin6 (List.mem_of_getElem? (i := 62) rfl), rfl⟩
theorem q_1263 : zTbl (Cond.constantLong "TypeChainModel" (312 : Nat) (9 : Int64)) := ⟨ztin6 (List.mem_of_getElem? (i := 63) rfl), rfl⟩
theorem q_1264 : zTbl (Cond.methodLink "TypeChainModel" (314 : Nat) ({ cls := "TypeChainModel", name := "moves", desc := "(IZ)I" } : MethodName)) := ⟨ztin6 (List.mem_of_getElem? (i := 64) rfl), rfl⟩
theorem q_1265 : Cond.privateMethod ({ cls := "TypeChainModel", name := "moves", desc := "(IZ)I" } : MethodName) ∈ lw_tbl := ztin6 (List.mem_of_getElem? (i := 65) rfl)
theorem q_1266 : zTbl (Cond.instanceMethod ({ cls := "TypeChainModel", name := "moves", desc := "(IZ)I" } : MethodName)) := ⟨ztin6 (List.mem_of_getElem? (i := 66) rfl), rfl⟩
theorem q_1267 : zTbl (Cond.code ({ cls := "TypeChainModel", name := "moves", desc := "(IZ)I" } : MethodName) prog_12_method_52_code (4 : Nat) (Option.some FieldType.int)) := ⟨ztin6 (List.mem_of_getElem? (i := 67) rfl), rfl⟩
theorem q_1268 : zTbl (Cond.methodLink "TypeChainLaw" (103 : Nat) ({ cls := "TypeChainModel", name := "skip", desc := "(I)I" } : MethodName)) := ⟨ztin6 (List.mem_of_getElem? (i := 68) rfl), rfl⟩
theorem q_1269 : zTbl (Cond.instanceMethod ({ cls := "TypeChainModel", name := "skip", desc := "(I)I" } : MethodName)) := ⟨ztin6 (List.mem_of_getElem? (i := 69) rfl), rfl⟩
theorem q_1270 : zTbl (Cond.selects "TypeChainModel" ({ cls := "TypeChainModel", name := "skip", desc := "(I)I" } : MethodName) ({ cls := "TypeChainModel", name := "skip", desc := "(I)I" } : MethodName)) := ⟨ztin6 (List.mem_of_getElem? (i := 70) rfl), rfl⟩
theorem q_1271 : zTbl (Cond.code ({ cls := "TypeChainModel", name := "skip", desc := "(I)I" } : MethodName) prog_12_method_55_code (3 : Nat) (Option.some FieldType.int)) := ⟨ztin6 (List.mem_of_getElem? (i := 71) rfl), rfl⟩
theorem q_1272 : zTbl (Cond.constantLong "TypeChainModel" (318 : Nat) (7 : Int64)) := ⟨ztin6 (List.mem_of_getElem? (i := 72) rfl), rfl⟩
theorem q_1273 : zTbl (Cond.methodLink "TypeChainModel" (320 : Nat) ({ cls := "TypeChainModel", name := "toHole", desc := "(I)I" } : MethodName)) := ⟨ztin6 (List.mem_of_getElem? (i := 73) rfl), rfl⟩
theorem q_1274 : Cond.privateMethod ({ cls := "TypeChainModel", name := "toHole", desc := "(I)I" } : MethodName) ∈ lw_tbl := ztin6 (List.mem_of_getElem? (i := 74) rfl)
theorem q_1275 : zTbl (Cond.instanceMethod ({ cls := "TypeChainModel", name := "toHole", desc := "(I)I" } : MethodName)) := ⟨ztin6 (List.mem_of_getElem? (i := 75) rfl), rfl⟩
theorem q_1276 : zTbl (Cond.code ({ cls := "TypeChainModel", name := "toHole", desc := "(I)I" } : MethodName) prog_12_method_53_code (3 : Nat) (Option.some FieldType.int)) := ⟨ztin6 (List.mem_of_getElem? (i := 76) rfl), rfl⟩
theorem q_1277 : zTbl (Cond.methodLink "TypeChainLaw" (107 : Nat) ({ cls := "TypeChainModel", name := "now", desc := "(I)I" } : MethodName)) := ⟨ztin6 (List.mem_of_getElem? (i := 77) rfl), rfl⟩
theorem q_1278 : zTbl (Cond.instanceMethod ({ cls := "TypeChainModel", name := "now", desc := "(I)I" } : MethodName)) := ⟨ztin6 (List.mem_of_getElem? (i := 78) rfl), rfl⟩
theorem q_1279 : zTbl (Cond.selects "TypeChainModel" ({ cls := "TypeChainModel", name := "now", desc := "(I)I" } : MethodName) ({ cls := "TypeChainModel", name := "now", desc := "(I)I" } : MethodName)) := ⟨ztin6 (List.mem_of_getElem? (i := 79) rfl), rfl⟩
theorem q_1280 : zTbl (Cond.code ({ cls := "TypeChainModel", name := "now", desc := "(I)I" } : MethodName) prog_12_method_56_code (5 : Nat) (Option.some FieldType.int)) := ⟨ztin6 (List.mem_of_getElem? (i := 80) rfl), rfl⟩
theorem q_1281 : zTbl (Cond.methodLink "TypeChainLaw" (111 : Nat) ({ cls := "TypeChainModel", name := "page", desc := "(III)I" } : MethodName)) := ⟨ztin6 (List.mem_of_getElem? (i := 81) rfl), rfl⟩
theorem q_1282 : zTbl (Cond.instanceMethod ({ cls := "TypeChainModel", name := "page", desc := "(III)I" } : MethodName)) := ⟨ztin6 (List.mem_of_getElem? (i := 82) rfl), rfl⟩
theorem q_1283 : zTbl (Cond.selects "TypeChainModel" ({ cls := "TypeChainModel", name := "page", desc := "(III)I" } : MethodName) ({ cls := "TypeChainModel", name := "page", desc := "(III)I" } : MethodName)) := ⟨ztin6 (List.mem_of_getElem? (i := 83) rfl), rfl⟩
theorem q_1284 : zTbl (Cond.code ({ cls := "TypeChainModel", name := "page", desc := "(III)I" } : MethodName) prog_12_method_57_code (4 : Nat) (Option.some FieldType.int)) := ⟨ztin6 (List.mem_of_getElem? (i := 84) rfl), rfl⟩
theorem q_1285 : zTbl (Cond.methodLink "TypeChainLaw" (115 : Nat) ({ cls := "TypeChainModel", name := "run", desc := "()I" } : MethodName)) := ⟨ztin6 (List.mem_of_getElem? (i := 85) rfl), rfl⟩
theorem q_1286 : zTbl (Cond.instanceMethod ({ cls := "TypeChainModel", name := "run", desc := "()I" } : MethodName)) := ⟨ztin6 (List.mem_of_getElem? (i := 86) rfl), rfl⟩
theorem q_1287 : zTbl (Cond.selects "TypeChainModel" ({ cls := "TypeChainModel", name := "run", desc := "()I" } : MethodName) ({ cls := "TypeChainModel", name := "run", desc := "()I" } : MethodName)) := ⟨ztin6 (List.mem_of_getElem? (i := 87) rfl), rfl⟩
theorem q_1288 : zTbl (Cond.code ({ cls := "TypeChainModel", name := "run", desc := "()I" } : MethodName) prog_12_method_60_code (3 : Nat) (Option.some FieldType.int)) := ⟨ztin6 (List.mem_of_getElem? (i := 88) rfl), rfl⟩
theorem q_1289 : zTbl (Cond.methodLink "TypeChainModel" (332 : Nat) ({ cls := "TypeChainModel", name := "does", desc := "(IZ)Z" } : MethodName)) := ⟨ztin6 (List.mem_of_getElem? (i := 89) rfl), rfl⟩
theorem q_1290 : Cond.privateMethod ({ cls := "TypeChainModel", name := "does", desc := "(IZ)Z" } : MethodName) ∈ lw_tbl := ztin6 (List.mem_of_getElem? (i := 90) rfl)
theorem q_1291 : zTbl (Cond.instanceMethod ({ cls := "TypeChainModel", name := "does", desc := "(IZ)Z" } : MethodName)) := ⟨ztin6 (List.mem_of_getElem? (i := 91) rfl), rfl⟩
theorem q_1292 : zTbl (Cond.code ({ cls := "TypeChainModel", name := "does", desc := "(IZ)Z" } : MethodName) prog_12_method_59_code (4 : Nat) (Option.some FieldType.boolean)) := ⟨ztin6 (List.mem_of_getElem? (i := 92) rfl), rfl⟩
theorem q_1293 : zTbl (Cond.methodLink "TypeChainModel" (323 : Nat) ({ cls := "TypeChainModel", name := "puts", desc := "(I)V" } : MethodName)) := ⟨ztin6 (List.mem_of_getElem? (i := 93) rfl), rfl⟩
theorem q_1294 : Cond.privateMethod ({ cls := "TypeChainModel", name := "puts", desc := "(I)V" } : MethodName) ∈ lw_tbl := ztin6 (List.mem_of_getElem? (i := 94) rfl)
theorem q_1295 : zTbl (Cond.instanceMethod ({ cls := "TypeChainModel", name := "puts", desc := "(I)V" } : MethodName)) := ⟨ztin6 (List.mem_of_getElem? (i := 95) rfl), rfl⟩
theorem q_1296 : zTbl (Cond.code ({ cls := "TypeChainModel", name := "puts", desc := "(I)V" } : MethodName) prog_12_method_58_code (3 : Nat) (Option.none : Option Jvm.ClassFile.FieldType)) := ⟨ztin6 (List.mem_of_getElem? (i := 96) rfl), rfl⟩
theorem q_1297 : zTbl (Cond.methodLink "TypeChainLaw" (119 : Nat) ({ cls := "TypeChainModel", name := "ran", desc := "(I)I" } : MethodName)) := ⟨ztin6 (List.mem_of_getElem? (i := 97) rfl), rfl⟩
theorem q_1298 : zTbl (Cond.instanceMethod ({ cls := "TypeChainModel", name := "ran", desc := "(I)I" } : MethodName)) := ⟨ztin6 (List.mem_of_getElem? (i := 98) rfl), rfl⟩
theorem q_1299 : zTbl (Cond.selects "TypeChainModel" ({ cls := "TypeChainModel", name := "ran", desc := "(I)I" } : MethodName) ({ cls := "TypeChainModel", name := "ran", desc := "(I)I" } : MethodName)) := ⟨ztin6 (List.mem_of_getElem? (i := 99) rfl), rfl⟩
theorem q_1300 : zTbl (Cond.code ({ cls := "TypeChainModel", name := "ran", desc := "(I)I" } : MethodName) prog_12_method_61_code (2 : Nat) (Option.some FieldType.int)) := ⟨ztin6 (List.mem_of_getElem? (i := 100) rfl), rfl⟩
theorem q_1301 : zTbl (Cond.methodLink "TypeChainLaw" (123 : Nat) ({ cls := "TypeChainModel", name := "best", desc := "(I)I" } : MethodName)) := ⟨ztin6 (List.mem_of_getElem? (i := 101) rfl), rfl⟩
theorem q_1302 : zTbl (Cond.instanceMethod ({ cls := "TypeChainModel", name := "best", desc := "(I)I" } : MethodName)) := ⟨ztin6 (List.mem_of_getElem? (i := 102) rfl), rfl⟩
theorem q_1303 : zTbl (Cond.selects "TypeChainModel" ({ cls := "TypeChainModel", name := "best", desc := "(I)I" } : MethodName) ({ cls := "TypeChainModel", name := "best", desc := "(I)I" } : MethodName)) := ⟨ztin6 (List.mem_of_getElem? (i := 103) rfl), rfl⟩
theorem q_1304 : zTbl (Cond.code ({ cls := "TypeChainModel", name := "best", desc := "(I)I" } : MethodName) prog_12_method_67_code (6 : Nat) (Option.some FieldType.int)) := ⟨ztin6 (List.mem_of_getElem? (i := 104) rfl), rfl⟩
theorem q_1305 : zTbl (Cond.constantLong "TypeChainModel" (343 : Nat) (15 : Int64)) := ⟨ztin6 (List.mem_of_getElem? (i := 105) rfl), rfl⟩
theorem q_1306 : zTbl (Cond.methodLink "TypeChainModel" (345 : Nat) ({ cls := "TypeChainModel", name := "keepChain", desc := "()V" } : MethodName)) := ⟨ztin6 (List.mem_of_getElem? (i := 106) rfl), rfl⟩
theorem q_1307 : Cond.privateMethod ({ cls := "TypeChainModel", name := "keepChain", desc := "()V" } : MethodName) ∈ lw_tbl := ztin6 (List.mem_of_getElem? (i := 107) rfl)
theorem q_1308 : zTbl (Cond.instanceMethod ({ cls := "TypeChainModel", name := "keepChain", desc := "()V" } : MethodName)) := ⟨ztin6 (List.mem_of_getElem? (i := 108) rfl), rfl⟩
theorem q_1309 : zTbl (Cond.code ({ cls := "TypeChainModel", name := "keepChain", desc := "()V" } : MethodName) prog_12_method_63_code (2 : Nat) (Option.none : Option Jvm.ClassFile.FieldType)) := ⟨ztin6 (List.mem_of_getElem? (i := 109) rfl), rfl⟩
theorem q_1310 : zTbl (Cond.methodLink "TypeChainModel" (340 : Nat) ({ cls := "TypeChainModel", name := "swaps", desc := "(II)V" } : MethodName)) := ⟨ztin6 (List.mem_of_getElem? (i := 110) rfl), rfl⟩
theorem q_1311 : Cond.privateMethod ({ cls := "TypeChainModel", name := "swaps", desc := "(II)V" } : MethodName) ∈ lw_tbl := ztin6 (List.mem_of_getElem? (i := 111) rfl)
theorem q_1312 : zTbl (Cond.instanceMethod ({ cls := "TypeChainModel", name := "swaps", desc := "(II)V" } : MethodName)) := ⟨ztin6 (List.mem_of_getElem? (i := 112) rfl), rfl⟩
theorem q_1313 : zTbl (Cond.code ({ cls := "TypeChainModel", name := "swaps", desc := "(II)V" } : MethodName) prog_12_method_66_code (4 : Nat) (Option.none : Option Jvm.ClassFile.FieldType)) := ⟨ztin6 (List.mem_of_getElem? (i := 113) rfl), rfl⟩
theorem q_1314 : zTbl (Cond.constant "TypeChainModel" (339 : Nat) (1000000000 : Int32)) := ⟨ztin6 (List.mem_of_getElem? (i := 114) rfl), rfl⟩
theorem q_1315 : zTbl (Cond.methodLink "TypeChainModel" (348 : Nat) ({ cls := "TypeChainModel", name := "tries", desc := "()I" } : MethodName)) := ⟨ztin6 (List.mem_of_getElem? (i := 115) rfl), rfl⟩
theorem q_1316 : Cond.privateMethod ({ cls := "TypeChainModel", name := "tries", desc := "()I" } : MethodName) ∈ lw_tbl := ztin6 (List.mem_of_getElem? (i := 116) rfl)
theorem q_1317 : zTbl (Cond.instanceMethod ({ cls := "TypeChainModel", name := "tries", desc := "()I" } : MethodName)) := ⟨ztin6 (List.mem_of_getElem? (i := 117) rfl), rfl⟩
theorem q_1318 : zTbl (Cond.code ({ cls := "TypeChainModel", name := "tries", desc := "()I" } : MethodName) prog_12_method_62_code (6 : Nat) (Option.some FieldType.int)) := ⟨ztin6 (List.mem_of_getElem? (i := 118) rfl), rfl⟩
theorem q_1319 : zTbl (Cond.methodLink "TypeChainModel" (351 : Nat) ({ cls := "TypeChainModel", name := "goesOn", desc := "()Z" } : MethodName)) := ⟨ztin6 (List.mem_of_getElem? (i := 119) rfl), rfl⟩
theorem q_1320 : Cond.privateMethod ({ cls := "TypeChainModel", name := "goesOn", desc := "()Z" } : MethodName) ∈ lw_tbl := ztin6 (List.mem_of_getElem? (i := 120) rfl)
theorem q_1321 : zTbl (Cond.instanceMethod ({ cls := "TypeChainModel", name := "goesOn", desc := "()Z" } : MethodName)) := ⟨ztin6 (List.mem_of_getElem? (i := 121) rfl), rfl⟩
theorem q_1322 : zTbl (Cond.code ({ cls := "TypeChainModel", name := "goesOn", desc := "()Z" } : MethodName) prog_12_method_65_code (5 : Nat) (Option.some FieldType.boolean)) := ⟨ztin6 (List.mem_of_getElem? (i := 122) rfl), rfl⟩
theorem q_1323 : zTbl (Cond.methodLink "TypeChainModel" (354 : Nat) ({ cls := "TypeChainModel", name := "chainAgain", desc := "()V" } : MethodName)) := ⟨ztin6 (List.mem_of_getElem? (i := 123) rfl), rfl⟩
theorem q_1324 : Cond.privateMethod ({ cls := "TypeChainModel", name := "chainAgain", desc := "()V" } : MethodName) ∈ lw_tbl := ztin6 (List.mem_of_getElem? (i := 124) rfl)
theorem q_1325 : zTbl (Cond.instanceMethod ({ cls := "TypeChainModel", name := "chainAgain", desc := "()V" } : MethodName)) := ⟨ztin6 (List.mem_of_getElem? (i := 125) rfl), rfl⟩
theorem q_1326 : zTbl (Cond.code ({ cls := "TypeChainModel", name := "chainAgain", desc := "()V" } : MethodName) prog_12_method_64_code (2 : Nat) (Option.none : Option Jvm.ClassFile.FieldType)) := ⟨ztin6 (List.mem_of_getElem? (i := 126) rfl), rfl⟩
theorem q_1327 : zTbl (Cond.methodLink "TypeChainLaw" (127 : Nat) ({ cls := "TypeChainModel", name := "twice", desc := "(I)I" } : MethodName)) := ⟨ztin6 (List.mem_of_getElem? (i := 127) rfl), rfl⟩
theorem q_1328 : zTbl (Cond.instanceMethod ({ cls := "TypeChainModel", name := "twice", desc := "(I)I" } : MethodName)) := ⟨ztin6 (List.mem_of_getElem? (i := 128) rfl), rfl⟩
theorem q_1329 : zTbl (Cond.selects "TypeChainModel" ({ cls := "TypeChainModel", name := "twice", desc := "(I)I" } : MethodName) ({ cls := "TypeChainModel", name := "twice", desc := "(I)I" } : MethodName)) := ⟨ztin6 (List.mem_of_getElem? (i := 129) rfl), rfl⟩
theorem q_1330 : zTbl (Cond.code ({ cls := "TypeChainModel", name := "twice", desc := "(I)I" } : MethodName) prog_12_method_68_code (7 : Nat) (Option.some FieldType.int)) := ⟨ztin6 (List.mem_of_getElem? (i := 130) rfl), rfl⟩
theorem q_1331 : zTbl (Cond.constant "TypeChainModel" (357 : Nat) (-1000000 : Int32)) := ⟨ztin6 (List.mem_of_getElem? (i := 131) rfl), rfl⟩
theorem q_1332 : zTbl (Cond.constant "TypeChainModel" (358 : Nat) (-1000002 : Int32)) := ⟨ztin6 (List.mem_of_getElem? (i := 132) rfl), rfl⟩
theorem q_1333 : zTbl (Cond.constant "TypeChainModel" (359 : Nat) (-1000004 : Int32)) := ⟨ztin6 (List.mem_of_getElem? (i := 133) rfl), rfl⟩
theorem q_1334 : zTbl (Cond.methodLink "TypeChainLaw" (131 : Nat) ({ cls := "TypeChainModel", name := "sheet", desc := "(III)I" } : MethodName)) := ⟨ztin6 (List.mem_of_getElem? (i := 134) rfl), rfl⟩
theorem q_1335 : zTbl (Cond.instanceMethod ({ cls := "TypeChainModel", name := "sheet", desc := "(III)I" } : MethodName)) := ⟨ztin6 (List.mem_of_getElem? (i := 135) rfl), rfl⟩
theorem q_1336 : zTbl (Cond.selects "TypeChainModel" ({ cls := "TypeChainModel", name := "sheet", desc := "(III)I" } : MethodName) ({ cls := "TypeChainModel", name := "sheet", desc := "(III)I" } : MethodName)) := ⟨ztin6 (List.mem_of_getElem? (i := 136) rfl), rfl⟩
theorem q_1337 : zTbl (Cond.code ({ cls := "TypeChainModel", name := "sheet", desc := "(III)I" } : MethodName) prog_12_method_70_code (5 : Nat) (Option.some FieldType.int)) := ⟨ztin6 (List.mem_of_getElem? (i := 137) rfl), rfl⟩
theorem q_1338 : zTbl (Cond.methodLink "TypeChainModel" (362 : Nat) ({ cls := "TypeChainModel", name := "isSheet", desc := "(II)Z" } : MethodName)) := ⟨ztin6 (List.mem_of_getElem? (i := 138) rfl), rfl⟩
theorem q_1339 : zTbl (Cond.static ({ cls := "TypeChainModel", name := "isSheet", desc := "(II)Z" } : MethodName)) := ⟨ztin6 (List.mem_of_getElem? (i := 139) rfl), rfl⟩
theorem q_1340 : zTbl (Cond.code ({ cls := "TypeChainModel", name := "isSheet", desc := "(II)Z" } : MethodName) prog_12_method_69_code (2 : Nat) (Option.some FieldType.boolean)) := ⟨ztin6 (List.mem_of_getElem? (i := 140) rfl), rfl⟩
theorem q_1341 : zTbl (Cond.constantLong "TypeChainModel" (360 : Nat) (3 : Int64)) := ⟨ztin6 (List.mem_of_getElem? (i := 141) rfl), rfl⟩
theorem q_1342 : zTbl (Cond.methodLink "TypeChainLaw" (135 : Nat) ({ cls := "TypeChainModel", name := "lay", desc := "(III)I" } : MethodName)) := ⟨ztin6 (List.mem_of_getElem? (i := 142) rfl), rfl⟩
theorem q_1343 : zTbl (Cond.instanceMethod ({ cls := "TypeChainModel", name := "lay", desc := "(III)I" } : MethodName)) := ⟨ztin6 (List.mem_of_getElem? (i := 143) rfl), rfl⟩
theorem q_1344 : zTbl (Cond.selects "TypeChainModel" ({ cls := "TypeChainModel", name := "lay", desc := "(III)I" } : MethodName) ({ cls := "TypeChainModel", name := "lay", desc := "(III)I" } : MethodName)) := ⟨ztin6 (List.mem_of_getElem? (i := 144) rfl), rfl⟩
theorem q_1345 : zTbl (Cond.code ({ cls := "TypeChainModel", name := "lay", desc := "(III)I" } : MethodName) prog_12_method_71_code (4 : Nat) (Option.some FieldType.int)) := ⟨ztin6 (List.mem_of_getElem? (i := 145) rfl), rfl⟩
theorem q_1346 : zTbl (Cond.methodLink "TypeChainLaw" (139 : Nat) ({ cls := "TypeChainModel", name := "read", desc := "(III)I" } : MethodName)) := ⟨ztin6 (List.mem_of_getElem? (i := 146) rfl), rfl⟩
theorem q_1347 : zTbl (Cond.instanceMethod ({ cls := "TypeChainModel", name := "read", desc := "(III)I" } : MethodName)) := ⟨ztin6 (List.mem_of_getElem? (i := 147) rfl), rfl⟩
theorem q_1348 : zTbl (Cond.selects "TypeChainModel" ({ cls := "TypeChainModel", name := "read", desc := "(III)I" } : MethodName) ({ cls := "TypeChainModel", name := "read", desc := "(III)I" } : MethodName)) := ⟨ztin6 (List.mem_of_getElem? (i := 148) rfl), rfl⟩
theorem q_1349 : zTbl (Cond.code ({ cls := "TypeChainModel", name := "read", desc := "(III)I" } : MethodName) prog_12_method_73_code (7 : Nat) (Option.some FieldType.int)) := ⟨ztin6 (List.mem_of_getElem? (i := 149) rfl), rfl⟩
theorem q_1350 : zTbl (Cond.methodLink "TypeChainModel" (365 : Nat) ({ cls := "TypeChainModel", name := "lettersNow", desc := "()I" } : MethodName)) := ⟨ztin6 (List.mem_of_getElem? (i := 150) rfl), rfl⟩
theorem q_1351 : Cond.privateMethod ({ cls := "TypeChainModel", name := "lettersNow", desc := "()I" } : MethodName) ∈ lw_tbl := ztin6 (List.mem_of_getElem? (i := 151) rfl)
theorem q_1352 : zTbl (Cond.instanceMethod ({ cls := "TypeChainModel", name := "lettersNow", desc := "()I" } : MethodName)) := ⟨ztin6 (List.mem_of_getElem? (i := 152) rfl), rfl⟩
theorem q_1353 : zTbl (Cond.code ({ cls := "TypeChainModel", name := "lettersNow", desc := "()I" } : MethodName) prog_12_method_72_code (3 : Nat) (Option.some FieldType.int)) := ⟨ztin6 (List.mem_of_getElem? (i := 153) rfl), rfl⟩
theorem q_1354 : zTbl (Cond.methodLink "TypeChainLaw" (143 : Nat) ({ cls := "TypeChainModel", name := "count", desc := "(I)I" } : MethodName)) := ⟨ztin6 (List.mem_of_getElem? (i := 154) rfl), rfl⟩
theorem q_1355 : zTbl (Cond.instanceMethod ({ cls := "TypeChainModel", name := "count", desc := "(I)I" } : MethodName)) := ⟨ztin6 (List.mem_of_getElem? (i := 155) rfl), rfl⟩
theorem q_1356 : zTbl (Cond.selects "TypeChainModel" ({ cls := "TypeChainModel", name := "count", desc := "(I)I" } : MethodName) ({ cls := "TypeChainModel", name := "count", desc := "(I)I" } : MethodName)) := ⟨ztin6 (List.mem_of_getElem? (i := 156) rfl), rfl⟩
theorem q_1357 : zTbl (Cond.code ({ cls := "TypeChainModel", name := "count", desc := "(I)I" } : MethodName) prog_12_method_74_code (5 : Nat) (Option.some FieldType.int)) := ⟨ztin6 (List.mem_of_getElem? (i := 157) rfl), rfl⟩
theorem q_1358 : zTbl (Cond.methodLink "TypeChainModel" (368 : Nat) ({ cls := "TypeChainModel", name := "countOf", desc := "(I)I" } : MethodName)) := ⟨ztin6 (List.mem_of_getElem? (i := 158) rfl), rfl⟩
theorem q_1359 : zTbl (Cond.static ({ cls := "TypeChainModel", name := "countOf", desc := "(I)I" } : MethodName)) := ⟨ztin6 (List.mem_of_getElem? (i := 159) rfl), rfl⟩
theorem q_1360 : zTbl (Cond.code ({ cls := "TypeChainModel", name := "countOf", desc := "(I)I" } : MethodName) prog_12_method_4_code (3 : Nat) (Option.some FieldType.int)) := ⟨ztin6 (List.mem_of_getElem? (i := 160) rfl), rfl⟩
theorem q_1361 : zTbl (Cond.constantLong "TypeChainLaw" (13 : Nat) (4294967295 : Int64)) := ⟨ztin6 (List.mem_of_getElem? (i := 161) rfl), rfl⟩
theorem q_1362 : zTbl (Cond.fieldLink "java/lang/String" (15 : Nat) "java/lang/String" "coder" "B") := ⟨ztin6 (List.mem_of_getElem? (i := 162) rfl), rfl⟩
theorem q_1363 : zTbl (Cond.fieldLink "java/lang/String" (9 : Nat) "java/lang/String" "value" "[B") := ⟨ztin6 (List.mem_of_getElem? (i := 163) rfl), rfl⟩
theorem q_1364 : zTbl (Cond.selects "TypeChain$Reader" ({ cls := "TypeChain$Reader", name := "nextToken", desc := "()Z" } : MethodName) ({ cls := "TypeChain$Reader", name := "nextToken", desc := "()Z" } : MethodName)) := ⟨ztinp (List.mem_of_getElem? (i := 0) rfl), rfl⟩
theorem q_1365 : zTbl (Cond.selects "TypeChain$Reader" ({ cls := "TypeChain$Reader", name := "fail", desc := "(II)Z" } : MethodName) ({ cls := "TypeChain$Reader", name := "fail", desc := "(II)Z" } : MethodName)) := ⟨ztinp (List.mem_of_getElem? (i := 1) rfl), rfl⟩
theorem q_1366 : zTbl (Cond.selects "TypeChain$Reader" ({ cls := "TypeChain$Reader", name := "lookBehindAll", desc := "(LTypeChain$Rules;)Z" } : MethodName) ({ cls := "TypeChain$Reader", name := "lookBehindAll", desc := "(LTypeChain$Rules;)Z" } : MethodName)) := ⟨ztinp (List.mem_of_getElem? (i := 2) rfl), rfl⟩
theorem q_1367 : zTbl (Cond.selects "TypeChain$Reader" ({ cls := "TypeChain$Reader", name := "readLine", desc := "(LTypeChain$Rules;)Z" } : MethodName) ({ cls := "TypeChain$Reader", name := "readLine", desc := "(LTypeChain$Rules;)Z" } : MethodName)) := ⟨ztinp (List.mem_of_getElem? (i := 3) rfl), rfl⟩
theorem q_1368 : zTbl (Cond.selects "TypeChain$Reader" ({ cls := "TypeChain$Reader", name := "wordOfToken", desc := "()I" } : MethodName) ({ cls := "TypeChain$Reader", name := "wordOfToken", desc := "()I" } : MethodName)) := ⟨ztinp (List.mem_of_getElem? (i := 4) rfl), rfl⟩
theorem q_1369 : zTbl (Cond.selects "TypeChain$Reader" ({ cls := "TypeChain$Reader", name := "isWord", desc := "(II)Z" } : MethodName) ({ cls := "TypeChain$Reader", name := "isWord", desc := "(II)Z" } : MethodName)) := ⟨ztinp (List.mem_of_getElem? (i := 5) rfl), rfl⟩
theorem q_1370 : zTbl (Cond.selects "TypeChain$Reader" ({ cls := "TypeChain$Reader", name := "readChain", desc := "(LTypeChain$Chain;)Z" } : MethodName) ({ cls := "TypeChain$Reader", name := "readChain", desc := "(LTypeChain$Chain;)Z" } : MethodName)) := ⟨ztinp (List.mem_of_getElem? (i := 6) rfl), rfl⟩
theorem q_1371 : zTbl (Cond.selects "TypeChain$Reader" ({ cls := "TypeChain$Reader", name := "take", desc := "(I)Z" } : MethodName) ({ cls := "TypeChain$Reader", name := "take", desc := "(I)Z" } : MethodName)) := ⟨ztinp (List.mem_of_getElem? (i := 7) rfl), rfl⟩
theorem q_1372 : zTbl (Cond.selects "TypeChain$Reader" ({ cls := "TypeChain$Reader", name := "letterAt", desc := "(I)I" } : MethodName) ({ cls := "TypeChain$Reader", name := "letterAt", desc := "(I)I" } : MethodName)) := ⟨ztinp (List.mem_of_getElem? (i := 8) rfl), rfl⟩
theorem q_1373 : zTbl (Cond.selects "TypeChain$Reader" ({ cls := "TypeChain$Reader", name := "readHole", desc := "([I)Z" } : MethodName) ({ cls := "TypeChain$Reader", name := "readHole", desc := "([I)Z" } : MethodName)) := ⟨ztinp (List.mem_of_getElem? (i := 9) rfl), rfl⟩
theorem q_1374 : zTbl (Cond.selects "TypeChain$Reader" ({ cls := "TypeChain$Reader", name := "takeNumber", desc := "(II)Z" } : MethodName) ({ cls := "TypeChain$Reader", name := "takeNumber", desc := "(II)Z" } : MethodName)) := ⟨ztinp (List.mem_of_getElem? (i := 10) rfl), rfl⟩
theorem q_1375 : zTbl (Cond.selects "TypeChain$Reader" ({ cls := "TypeChain$Reader", name := "lookLater", desc := "(II)V" } : MethodName) ({ cls := "TypeChain$Reader", name := "lookLater", desc := "(II)V" } : MethodName)) := ⟨ztinp (List.mem_of_getElem? (i := 11) rfl), rfl⟩
theorem q_1376 : zTbl (Cond.selects "TypeChain$Reader" ({ cls := "TypeChain$Reader", name := "readPut", desc := "(LTypeChain$Program;)Z" } : MethodName) ({ cls := "TypeChain$Reader", name := "readPut", desc := "(LTypeChain$Program;)Z" } : MethodName)) := ⟨ztinp (List.mem_of_getElem? (i := 12) rfl), rfl⟩
theorem q_1377 : zTbl (Cond.selects "TypeChain$Reader" ({ cls := "TypeChain$Reader", name := "readNumbered", desc := "(ILTypeChain$Rules;)Z" } : MethodName) ({ cls := "TypeChain$Reader", name := "readNumbered", desc := "(ILTypeChain$Rules;)Z" } : MethodName)) := ⟨ztinp (List.mem_of_getElem? (i := 13) rfl), rfl⟩
theorem q_1378 : zTbl (Cond.selects "TypeChain" ({ cls := "TypeChain", name := "takeRules", desc := "()V" } : MethodName) ({ cls := "TypeChain", name := "takeRules", desc := "()V" } : MethodName)) := ⟨ztinp (List.mem_of_getElem? (i := 14) rfl), rfl⟩
theorem q_1379 : zTbl (Cond.selects "TypeChain" ({ cls := "TypeChain", name := "isRow", desc := "(I)Z" } : MethodName) ({ cls := "TypeChain", name := "isRow", desc := "(I)Z" } : MethodName)) := ⟨ztinp (List.mem_of_getElem? (i := 15) rfl), rfl⟩
theorem q_1380 : zTbl (Cond.selects "TypeChain" ({ cls := "TypeChain", name := "isColumn", desc := "(I)Z" } : MethodName) ({ cls := "TypeChain", name := "isColumn", desc := "(I)Z" } : MethodName)) := ⟨ztinp (List.mem_of_getElem? (i := 16) rfl), rfl⟩
theorem q_1381 : zTbl (Cond.selects "TypeChain$Strike" ({ cls := "TypeChain$Strike", name := "gather", desc := "(LTypeChain$Chain;[III)V" } : MethodName) ({ cls := "TypeChain$Strike", name := "gather", desc := "(LTypeChain$Chain;[III)V" } : MethodName)) := ⟨ztinp (List.mem_of_getElem? (i := 17) rfl), rfl⟩
theorem q_1382 : zTbl (Cond.selects "TypeChain$Strike" ({ cls := "TypeChain$Strike", name := "earliestDue", desc := "()I" } : MethodName) ({ cls := "TypeChain$Strike", name := "earliestDue", desc := "()I" } : MethodName)) := ⟨ztinp (List.mem_of_getElem? (i := 18) rfl), rfl⟩
theorem q_1383 : zTbl (Cond.selects "TypeChain$Strike" ({ cls := "TypeChain$Strike", name := "strikeAt", desc := "(II)V" } : MethodName) ({ cls := "TypeChain$Strike", name := "strikeAt", desc := "(II)V" } : MethodName)) := ⟨ztinp (List.mem_of_getElem? (i := 19) rfl), rfl⟩
theorem q_1384 : zTbl (Cond.selects "TypeChain$Printer" ({ cls := "TypeChain$Printer", name := "markPage", desc := "()V" } : MethodName) ({ cls := "TypeChain$Printer", name := "markPage", desc := "()V" } : MethodName)) := ⟨ztinp (List.mem_of_getElem? (i := 20) rfl), rfl⟩
theorem q_1385 : zTbl (Cond.selects "TypeChain$Printer" ({ cls := "TypeChain$Printer", name := "fillLine", desc := "(LTypeChain$Program;I)V" } : MethodName) ({ cls := "TypeChain$Printer", name := "fillLine", desc := "(LTypeChain$Program;I)V" } : MethodName)) := ⟨ztinp (List.mem_of_getElem? (i := 21) rfl), rfl⟩
theorem q_1386 : zTbl (Cond.selects "TypeChain$Chain" ({ cls := "TypeChain$Chain", name := "swapLetters", desc := "(II)V" } : MethodName) ({ cls := "TypeChain$Chain", name := "swapLetters", desc := "(II)V" } : MethodName)) := ⟨ztinp (List.mem_of_getElem? (i := 22) rfl), rfl⟩
theorem q_1387 : zTbl (Cond.selects "TypeChain$Trials" ({ cls := "TypeChain$Trials", name := "ticksOfRun", desc := "(LTypeChain$Rules;)I" } : MethodName) ({ cls := "TypeChain$Trials", name := "ticksOfRun", desc := "(LTypeChain$Rules;)I" } : MethodName)) := ⟨ztinp (List.mem_of_getElem? (i := 23) rfl), rfl⟩
theorem q_1388 : zTbl (Cond.selects "TypeChain$Trials" ({ cls := "TypeChain$Trials", name := "keepOrder", desc := "(I)V" } : MethodName) ({ cls := "TypeChain$Trials", name := "keepOrder", desc := "(I)V" } : MethodName)) := ⟨ztinp (List.mem_of_getElem? (i := 24) rfl), rfl⟩
theorem q_1389 : zTbl (Cond.selects "TypeChainModel" ({ cls := "TypeChainModel", name := "firstDraft", desc := "()V" } : MethodName) ({ cls := "TypeChainModel", name := "firstDraft", desc := "()V" } : MethodName)) := ⟨ztinp (List.mem_of_getElem? (i := 25) rfl), rfl⟩
theorem q_1390 : zTbl (Cond.selects "TypeChainModel" ({ cls := "TypeChainModel", name := "keepDraft", desc := "()V" } : MethodName) ({ cls := "TypeChainModel", name := "keepDraft", desc := "()V" } : MethodName)) := ⟨ztinp (List.mem_of_getElem? (i := 26) rfl), rfl⟩
theorem q_1391 : zTbl (Cond.selects "TypeChainModel" ({ cls := "TypeChainModel", name := "begins", desc := "()V" } : MethodName) ({ cls := "TypeChainModel", name := "begins", desc := "()V" } : MethodName)) := ⟨ztinp (List.mem_of_getElem? (i := 27) rfl), rfl⟩
theorem q_1392 : zTbl (Cond.selects "TypeChainModel" ({ cls := "TypeChainModel", name := "blankPage", desc := "()V" } : MethodName) ({ cls := "TypeChainModel", name := "blankPage", desc := "()V" } : MethodName)) := ⟨ztinp (List.mem_of_getElem? (i := 28) rfl), rfl⟩
theorem q_1393 : zTbl (Cond.selects "TypeChainModel" ({ cls := "TypeChainModel", name := "next", desc := "()V" } : MethodName) ({ cls := "TypeChainModel", name := "next", desc := "()V" } : MethodName)) := ⟨ztinp (List.mem_of_getElem? (i := 29) rfl), rfl⟩
theorem q_1394 : zTbl (Cond.selects "TypeChainModel" ({ cls := "TypeChainModel", name := "look", desc := "(I)I" } : MethodName) ({ cls := "TypeChainModel", name := "look", desc := "(I)I" } : MethodName)) := ⟨ztinp (List.mem_of_getElem? (i := 30) rfl), rfl⟩
theorem q_1395 : zTbl (Cond.selects "TypeChainModel" ({ cls := "TypeChainModel", name := "wants", desc := "(ZI)V" } : MethodName) ({ cls := "TypeChainModel", name := "wants", desc := "(ZI)V" } : MethodName)) := ⟨ztinp (List.mem_of_getElem? (i := 31) rfl), rfl⟩
theorem q_1396 : zTbl (Cond.selects "TypeChainModel" ({ cls := "TypeChainModel", name := "readLine", desc := "()V" } : MethodName) ({ cls := "TypeChainModel", name := "readLine", desc := "()V" } : MethodName)) := ⟨ztinp (List.mem_of_getElem? (i := 32) rfl), rfl⟩
theorem q_1397 : zTbl (Cond.selects "TypeChainModel" ({ cls := "TypeChainModel", name := "nameNow", desc := "()I" } : MethodName) ({ cls := "TypeChainModel", name := "nameNow", desc := "()I" } : MethodName)) := ⟨ztinp (List.mem_of_getElem? (i := 33) rfl), rfl⟩
theorem q_1398 : zTbl (Cond.selects "TypeChainModel" ({ cls := "TypeChainModel", name := "is", desc := "(IIIII)Z" } : MethodName) ({ cls := "TypeChainModel", name := "is", desc := "(IIIII)Z" } : MethodName)) := ⟨ztinp (List.mem_of_getElem? (i := 34) rfl), rfl⟩
theorem q_1399 : zTbl (Cond.selects "TypeChainModel" ({ cls := "TypeChainModel", name := "ends2", desc := "(II)Z" } : MethodName) ({ cls := "TypeChainModel", name := "ends2", desc := "(II)Z" } : MethodName)) := ⟨ztinp (List.mem_of_getElem? (i := 35) rfl), rfl⟩
theorem q_1400 : zTbl (Cond.selects "TypeChainModel" ({ cls := "TypeChainModel", name := "readChain", desc := "()V" } : MethodName) ({ cls := "TypeChainModel", name := "readChain", desc := "()V" } : MethodName)) := ⟨ztinp (List.mem_of_getElem? (i := 36) rfl), rfl⟩
theorem q_1401 : zTbl (Cond.selects "TypeChainModel" ({ cls := "TypeChainModel", name := "toLetters", desc := "()V" } : MethodName) ({ cls := "TypeChainModel", name := "toLetters", desc := "()V" } : MethodName)) := ⟨ztinp (List.mem_of_getElem? (i := 37) rfl), rfl⟩
theorem q_1402 : zTbl (Cond.selects "TypeChainModel" ({ cls := "TypeChainModel", name := "readNumber", desc := "(II)I" } : MethodName) ({ cls := "TypeChainModel", name := "readNumber", desc := "(II)I" } : MethodName)) := ⟨ztinp (List.mem_of_getElem? (i := 38) rfl), rfl⟩
theorem q_1403 : zTbl (Cond.selects "TypeChainModel" ({ cls := "TypeChainModel", name := "readHole", desc := "()V" } : MethodName) ({ cls := "TypeChainModel", name := "readHole", desc := "()V" } : MethodName)) := ⟨ztinp (List.mem_of_getElem? (i := 39) rfl), rfl⟩
theorem q_1404 : zTbl (Cond.selects "TypeChainModel" ({ cls := "TypeChainModel", name := "asksLater", desc := "(II)V" } : MethodName) ({ cls := "TypeChainModel", name := "asksLater", desc := "(II)V" } : MethodName)) := ⟨ztinp (List.mem_of_getElem? (i := 40) rfl), rfl⟩
theorem q_1405 : zTbl (Cond.selects "TypeChainModel" ({ cls := "TypeChainModel", name := "readOrder", desc := "(I)V" } : MethodName) ({ cls := "TypeChainModel", name := "readOrder", desc := "(I)V" } : MethodName)) := ⟨ztinp (List.mem_of_getElem? (i := 41) rfl), rfl⟩
theorem q_1406 : zTbl (Cond.selects "TypeChainModel" ({ cls := "TypeChainModel", name := "isColumn", desc := "(I)Z" } : MethodName) ({ cls := "TypeChainModel", name := "isColumn", desc := "(I)Z" } : MethodName)) := ⟨ztinp (List.mem_of_getElem? (i := 42) rfl), rfl⟩
theorem q_1407 : zTbl (Cond.selects "TypeChainModel" ({ cls := "TypeChainModel", name := "letterAt", desc := "(II)I" } : MethodName) ({ cls := "TypeChainModel", name := "letterAt", desc := "(II)I" } : MethodName)) := ⟨ztinp (List.mem_of_getElem? (i := 43) rfl), rfl⟩
theorem q_1408 : zTbl (Cond.selects "TypeChainModel" ({ cls := "TypeChainModel", name := "slugAt", desc := "(II)I" } : MethodName) ({ cls := "TypeChainModel", name := "slugAt", desc := "(II)I" } : MethodName)) := ⟨ztinp (List.mem_of_getElem? (i := 44) rfl), rfl⟩
theorem q_1409 : zTbl (Cond.selects "TypeChainModel" ({ cls := "TypeChainModel", name := "has", desc := "(I)Z" } : MethodName) ({ cls := "TypeChainModel", name := "has", desc := "(I)Z" } : MethodName)) := ⟨ztinp (List.mem_of_getElem? (i := 45) rfl), rfl⟩
theorem q_1410 : zTbl (Cond.selects "TypeChainModel" ({ cls := "TypeChainModel", name := "comesBy", desc := "(III)I" } : MethodName) ({ cls := "TypeChainModel", name := "comesBy", desc := "(III)I" } : MethodName)) := ⟨ztinp (List.mem_of_getElem? (i := 46) rfl), rfl⟩
theorem q_1411 : zTbl (Cond.selects "TypeChainModel" ({ cls := "TypeChainModel", name := "canGo", desc := "()Z" } : MethodName) ({ cls := "TypeChainModel", name := "canGo", desc := "()Z" } : MethodName)) := ⟨ztinp (List.mem_of_getElem? (i := 47) rfl), rfl⟩
theorem q_1412 : zTbl (Cond.selects "TypeChainModel" ({ cls := "TypeChainModel", name := "strikes", desc := "(I)I" } : MethodName) ({ cls := "TypeChainModel", name := "strikes", desc := "(I)I" } : MethodName)) := ⟨ztinp (List.mem_of_getElem? (i := 48) rfl), rfl⟩
theorem q_1413 : zTbl (Cond.selects "TypeChainModel" ({ cls := "TypeChainModel", name := "goes", desc := "()I" } : MethodName) ({ cls := "TypeChainModel", name := "goes", desc := "()I" } : MethodName)) := ⟨ztinp (List.mem_of_getElem? (i := 49) rfl), rfl⟩
theorem q_1414 : zTbl (Cond.selects "TypeChainModel" ({ cls := "TypeChainModel", name := "shows", desc := "(II)I" } : MethodName) ({ cls := "TypeChainModel", name := "shows", desc := "(II)I" } : MethodName)) := ⟨ztinp (List.mem_of_getElem? (i := 50) rfl), rfl⟩
theorem q_1415 : zTbl (Cond.selects "TypeChainModel" ({ cls := "TypeChainModel", name := "moves", desc := "(IZ)I" } : MethodName) ({ cls := "TypeChainModel", name := "moves", desc := "(IZ)I" } : MethodName)) := ⟨ztinp (List.mem_of_getElem? (i := 51) rfl), rfl⟩
theorem q_1416 : zTbl (Cond.selects "TypeChainModel" ({ cls := "TypeChainModel", name := "toHole", desc := "(I)I" } : MethodName) ({ cls := "TypeChainModel", name := "toHole", desc := "(I)I" } : MethodName)) := ⟨ztinp (List.mem_of_getElem? (i := 52) rfl), rfl⟩
theorem q_1417 : zTbl (Cond.selects "TypeChainModel" ({ cls := "TypeChainModel", name := "does", desc := "(IZ)Z" } : MethodName) ({ cls := "TypeChainModel", name := "does", desc := "(IZ)Z" } : MethodName)) := ⟨ztinp (List.mem_of_getElem? (i := 53) rfl), rfl⟩
theorem q_1418 : zTbl (Cond.selects "TypeChainModel" ({ cls := "TypeChainModel", name := "puts", desc := "(I)V" } : MethodName) ({ cls := "TypeChainModel", name := "puts", desc := "(I)V" } : MethodName)) := ⟨ztinp (List.mem_of_getElem? (i := 54) rfl), rfl⟩
theorem q_1419 : zTbl (Cond.selects "TypeChainModel" ({ cls := "TypeChainModel", name := "keepChain", desc := "()V" } : MethodName) ({ cls := "TypeChainModel", name := "keepChain", desc := "()V" } : MethodName)) := ⟨ztinp (List.mem_of_getElem? (i := 55) rfl), rfl⟩
theorem q_1420 : zTbl (Cond.selects "TypeChainModel" ({ cls := "TypeChainModel", name := "swaps", desc := "(II)V" } : MethodName) ({ cls := "TypeChainModel", name := "swaps", desc := "(II)V" } : MethodName)) := ⟨ztinp (List.mem_of_getElem? (i := 56) rfl), rfl⟩
theorem q_1421 : zTbl (Cond.selects "TypeChainModel" ({ cls := "TypeChainModel", name := "tries", desc := "()I" } : MethodName) ({ cls := "TypeChainModel", name := "tries", desc := "()I" } : MethodName)) := ⟨ztinp (List.mem_of_getElem? (i := 57) rfl), rfl⟩
theorem q_1422 : zTbl (Cond.selects "TypeChainModel" ({ cls := "TypeChainModel", name := "goesOn", desc := "()Z" } : MethodName) ({ cls := "TypeChainModel", name := "goesOn", desc := "()Z" } : MethodName)) := ⟨ztinp (List.mem_of_getElem? (i := 58) rfl), rfl⟩
theorem q_1423 : zTbl (Cond.selects "TypeChainModel" ({ cls := "TypeChainModel", name := "chainAgain", desc := "()V" } : MethodName) ({ cls := "TypeChainModel", name := "chainAgain", desc := "()V" } : MethodName)) := ⟨ztinp (List.mem_of_getElem? (i := 59) rfl), rfl⟩
theorem q_1424 : zTbl (Cond.selects "TypeChainModel" ({ cls := "TypeChainModel", name := "lettersNow", desc := "()I" } : MethodName) ({ cls := "TypeChainModel", name := "lettersNow", desc := "()I" } : MethodName)) := ⟨ztinp (List.mem_of_getElem? (i := 60) rfl), rfl⟩
theorem zTbl_u {C : String} {T : u_T} {N : Nat} (h : ∀ k, k < N → zTbl (u_lay C T k)) : ∀ w ∈ u_ws C T N, zTbl w := by
  intro w hw
  obtain ⟨k, hk, rfl⟩ := List.mem_map.mp hw
  exact h k (List.mem_range.mp hk)
theorem inZ0 : ∀ w ∈ wsX00, zTbl w := zTbl_u (fun k hk => by
  match k, hk with
  | 0, _ => exact q_57
  | 1, _ => exact q_59
  | 2, _ => exact q_61
  | 3, _ => exact q_63
  | k + 4, h => exact absurd h (by omega))
theorem inZ1 : ∀ w ∈ wsX10, zTbl w := zTbl_u (fun k hk => by
  match k, hk with
  | 0, _ => exact q_224
  | 1, _ => exact q_226
  | k + 2, h => exact absurd h (by omega))
theorem inZ2 : ∀ w ∈ wsX20, zTbl w := zTbl_u (fun k hk => by
  match k, hk with
  | 0, _ => exact q_302
  | 1, _ => exact q_304
  | 2, _ => exact q_306
  | 3, _ => exact q_308
  | 4, _ => exact q_310
  | 5, _ => exact q_312
  | 6, _ => exact q_314
  | 7, _ => exact q_316
  | 8, _ => exact q_318
  | k + 9, h => exact absurd h (by omega))
theorem inZ3 : ∀ w ∈ wsX30, zTbl w := zTbl_u (fun k hk => by
  match k, hk with
  | 0, _ => exact q_90
  | 1, _ => exact q_92
  | 2, _ => exact q_94
  | 3, _ => exact q_96
  | 4, _ => exact q_98
  | 5, _ => exact q_100
  | 6, _ => exact q_102
  | k + 7, h => exact absurd h (by omega))
theorem inZ4 : ∀ w ∈ wsX40, zTbl w := zTbl_u (fun k hk => by
  match k, hk with
  | 0, _ => exact q_184
  | 1, _ => exact q_186
  | 2, _ => exact q_188
  | 3, _ => exact q_190
  | 4, _ => exact q_192
  | 5, _ => exact q_194
  | 6, _ => exact q_196
  | 7, _ => exact q_198
  | 8, _ => exact q_200
  | 9, _ => exact q_202
  | 10, _ => exact q_204
  | 11, _ => exact q_206
  | 12, _ => exact q_208
  | 13, _ => exact q_210
  | k + 14, h => exact absurd h (by omega))
theorem inZ5 : ∀ w ∈ wsX50, zTbl w := zTbl_u (fun k hk => by
  match k, hk with
  | 0, _ => exact q_151
  | 1, _ => exact q_153
  | 2, _ => exact q_155
  | 3, _ => exact q_157
  | k + 4, h => exact absurd h (by omega))
theorem inZ6 : ∀ w ∈ wsX60, zTbl w := zTbl_u (fun k hk => by
  match k, hk with
  | 0, _ => exact q_377
  | 1, _ => exact q_379
  | 2, _ => exact q_381
  | k + 3, h => exact absurd h (by omega))
theorem inZ7 : ∀ w ∈ wsX70, zTbl w := zTbl_u (fun k hk => by
  match k, hk with
  | 0, _ => exact q_257
  | 1, _ => exact q_259
  | 2, _ => exact q_261
  | 3, _ => exact q_263
  | 4, _ => exact q_265
  | 5, _ => exact q_267
  | 6, _ => exact q_269
  | 7, _ => exact q_271
  | 8, _ => exact q_273
  | k + 9, h => exact absurd h (by omega))
theorem inZ8 : ∀ w ∈ wsX80, zTbl w := zTbl_u (fun k hk => by
  match k, hk with
  | 0, _ => exact q_346
  | 1, _ => exact q_348
  | 2, _ => exact q_350
  | 3, _ => exact q_352
  | 4, _ => exact q_354
  | 5, _ => exact q_356
  | 6, _ => exact q_358
  | 7, _ => exact q_360
  | 8, _ => exact q_362
  | k + 9, h => exact absurd h (by omega))
theorem inZ9 : ∀ w ∈ wsX90, zTbl w := zTbl_u (fun k hk => by
  match k, hk with
  | 0, _ => exact q_395
  | 1, _ => exact q_397
  | 2, _ => exact q_399
  | 3, _ => exact q_401
  | 4, _ => exact q_403
  | 5, _ => exact q_405
  | 6, _ => exact q_407
  | 7, _ => exact q_409
  | 8, _ => exact q_411
  | 9, _ => exact q_413
  | 10, _ => exact q_415
  | k + 11, h => exact absurd h (by omega))
theorem inZ10 : ∀ w ∈ wsX100, zTbl w := zTbl_u (fun k hk => by
  match k, hk with
  | 0, _ => exact q_949
  | 1, _ => exact q_951
  | 2, _ => exact q_953
  | 3, _ => exact q_955
  | 4, _ => exact q_957
  | 5, _ => exact q_959
  | 6, _ => exact q_961
  | 7, _ => exact q_963
  | 8, _ => exact q_965
  | 9, _ => exact q_967
  | 10, _ => exact q_969
  | 11, _ => exact q_971
  | 12, _ => exact q_973
  | 13, _ => exact q_975
  | 14, _ => exact q_977
  | 15, _ => exact q_979
  | 16, _ => exact q_981
  | 17, _ => exact q_983
  | 18, _ => exact q_985
  | 19, _ => exact q_987
  | 20, _ => exact q_989
  | 21, _ => exact q_991
  | 22, _ => exact q_993
  | 23, _ => exact q_995
  | 24, _ => exact q_997
  | 25, _ => exact q_999
  | 26, _ => exact q_1001
  | 27, _ => exact q_1003
  | 28, _ => exact q_1005
  | 29, _ => exact q_1007
  | 30, _ => exact q_1009
  | 31, _ => exact q_1011
  | 32, _ => exact q_1013
  | 33, _ => exact q_1015
  | 34, _ => exact q_1017
  | 35, _ => exact q_1019
  | 36, _ => exact q_1021
  | 37, _ => exact q_1023
  | 38, _ => exact q_1025
  | 39, _ => exact q_1027
  | 40, _ => exact q_1029
  | 41, _ => exact q_1031
  | 42, _ => exact q_1033
  | 43, _ => exact q_1035
  | 44, _ => exact q_1037
  | 45, _ => exact q_1039
  | 46, _ => exact q_1041
  | 47, _ => exact q_1043
  | 48, _ => exact q_1045
  | 49, _ => exact q_1047
  | 50, _ => exact q_1049
  | 51, _ => exact q_1051
  | 52, _ => exact q_1053
  | 53, _ => exact q_1055
  | 54, _ => exact q_1057
  | 55, _ => exact q_1059
  | 56, _ => exact q_1061
  | 57, _ => exact q_1063
  | 58, _ => exact q_1065
  | 59, _ => exact q_1067
  | 60, _ => exact q_1069
  | k + 61, h => exact absurd h (by omega))
