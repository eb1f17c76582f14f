/-! ===== each word of the tables that is used, by its place ===== -/
theorem mIn1 {w : Cond} (h : w ∈ tables_1_1) (hg : goodWord w = true) : w ∈ mTb := mTb_of (List.mem_append_right _ (List.mem_append_left _ h)) hg
theorem mIn2 {w : Cond} (h : w ∈ tables_1_2) (hg : goodWord w = true) : w ∈ mTb := mTb_of (List.mem_append_right _ (List.mem_append_right _ (List.mem_append_left _ h))) hg
theorem mIn3 {w : Cond} (h : w ∈ tables_1_3) (hg : goodWord w = true) : w ∈ mTb := mTb_of (List.mem_append_right _ (List.mem_append_right _ (List.mem_append_right _ (List.mem_append_left _ h)))) hg
theorem mIn4 {w : Cond} (h : w ∈ tables_1_4) (hg : goodWord w = true) : w ∈ mTb := mTb_of (List.mem_append_right _ (List.mem_append_right _ (List.mem_append_right _ (List.mem_append_right _ (List.mem_append_left _ h))))) hg
theorem mIn5 {w : Cond} (h : w ∈ tables_1_5) (hg : goodWord w = true) : w ∈ mTb := mTb_of (List.mem_append_right _ (List.mem_append_right _ (List.mem_append_right _ (List.mem_append_right _ (List.mem_append_right _ (h)))))) hg
theorem mIp1 {q : MethodName × Nat} (h : q ∈ lw_privs_1) : Cond.selects q.1.cls q.1 q.1 ∈ mTb := mTb_of (List.mem_append_left _ (List.mem_map.mpr ⟨q, List.mem_append_left _ h, rfl⟩)) rfl
theorem mIp2 {q : MethodName × Nat} (h : q ∈ lw_privs_2) : Cond.selects q.1.cls q.1 q.1 ∈ mTb := mTb_of (List.mem_append_left _ (List.mem_map.mpr ⟨q, List.mem_append_right _ (List.mem_append_left _ h), rfl⟩)) rfl
theorem mIp3 {q : MethodName × Nat} (h : q ∈ lw_privs_3) : Cond.selects q.1.cls q.1 q.1 ∈ mTb := mTb_of (List.mem_append_left _ (List.mem_map.mpr ⟨q, List.mem_append_right _ (List.mem_append_right _ (List.mem_append_left _ h)), rfl⟩)) rfl
theorem mIp4 {q : MethodName × Nat} (h : q ∈ lw_privs_4) : Cond.selects q.1.cls q.1 q.1 ∈ mTb := mTb_of (List.mem_append_left _ (List.mem_map.mpr ⟨q, List.mem_append_right _ (List.mem_append_right _ (List.mem_append_right _ (List.mem_append_left _ h))), rfl⟩)) rfl
theorem mIp5 {q : MethodName × Nat} (h : q ∈ lw_privs_5) : Cond.selects q.1.cls q.1 q.1 ∈ mTb := mTb_of (List.mem_append_left _ (List.mem_map.mpr ⟨q, List.mem_append_right _ (List.mem_append_right _ (List.mem_append_right _ (List.mem_append_right _ (h)))), rfl⟩)) rfl
theorem tb_0 : (Jvm.Cond.initialized "RoundVotesLaw") ∈ mTb := mIn1 (List.mem_of_getElem? (i := 0) rfl) rfl
theorem tb_1 : (Jvm.Cond.initialized "RoundVotes") ∈ mTb := mIn1 (List.mem_of_getElem? (i := 1) rfl) rfl
theorem tb_2 : (Jvm.Cond.initialized "RoundVotes$Mail") ∈ mTb := mIn1 (List.mem_of_getElem? (i := 2) rfl) rfl
theorem tb_3 : (Jvm.Cond.initialized "RoundVotes$Told") ∈ mTb := mIn1 (List.mem_of_getElem? (i := 3) rfl) rfl
theorem tb_4 : (Jvm.Cond.initialized "RoundVotes$Faults") ∈ mTb := mIn1 (List.mem_of_getElem? (i := 4) rfl) rfl
theorem tb_5 : (Jvm.Cond.initialized "RoundVotes$Setup") ∈ mTb := mIn1 (List.mem_of_getElem? (i := 5) rfl) rfl
theorem tb_6 : (Jvm.Cond.initialized "java/lang/Math") ∈ mTb := mIn1 (List.mem_of_getElem? (i := 6) rfl) rfl
theorem tb_7 : (Jvm.Cond.initialized "java/util/Arrays") ∈ mTb := mIn1 (List.mem_of_getElem? (i := 7) rfl) rfl
theorem tb_8 : (Jvm.Cond.initialized "RoundVotes$Node") ∈ mTb := mIn1 (List.mem_of_getElem? (i := 8) rfl) rfl
theorem tb_9 : (Jvm.Cond.initialized "RoundVotes$Choice") ∈ mTb := mIn1 (List.mem_of_getElem? (i := 9) rfl) rfl
theorem tb_10 : (Jvm.Cond.initialized "RoundVotes$Decisions") ∈ mTb := mIn1 (List.mem_of_getElem? (i := 10) rfl) rfl
theorem tb_11 : (Jvm.Cond.initialized "RoundVotes$Ballots") ∈ mTb := mIn1 (List.mem_of_getElem? (i := 11) rfl) rfl
theorem tb_12 : (Jvm.Cond.initialized "RoundVotes$Sendings") ∈ mTb := mIn1 (List.mem_of_getElem? (i := 12) rfl) rfl
theorem tb_13 : (Jvm.Cond.initialized "RoundVotes$Message") ∈ mTb := mIn1 (List.mem_of_getElem? (i := 13) rfl) rfl
theorem tb_14 : (Jvm.Cond.initialized "RoundVotesModel") ∈ mTb := mIn1 (List.mem_of_getElem? (i := 14) rfl) rfl
theorem tb_15 : (Jvm.Cond.classLink "RoundVotesLaw" (7 : Nat) "RoundVotes") ∈ mTb := mIn1 (List.mem_of_getElem? (i := 15) rfl) rfl
theorem tb_16 : (Jvm.Cond.instantiable "RoundVotes" (12 : Nat)) ∈ mTb := mIn1 (List.mem_of_getElem? (i := 16) rfl) rfl
theorem tb_17 : (Jvm.Cond.methodLink "RoundVotesLaw" (15 : Nat) ({ cls := "RoundVotes", name := "<init>", desc := "(II)V" } : Jvm.MethodName)) ∈ mTb := mIn1 (List.mem_of_getElem? (i := 17) rfl) rfl
theorem tb_18 : (Jvm.Cond.instanceMethod ({ cls := "RoundVotes", name := "<init>", desc := "(II)V" } : Jvm.MethodName)) ∈ mTb := mIn1 (List.mem_of_getElem? (i := 18) rfl) rfl
theorem tb_19 : (Jvm.Cond.code ({ cls := "RoundVotes", name := "<init>", desc := "(II)V" } : Jvm.MethodName) prog_1_method_1_code (4 : Nat) (Option.none : Option Jvm.ClassFile.FieldType)) ∈ mTb := mIn1 (List.mem_of_getElem? (i := 19) rfl) rfl
theorem tb_20 : (Jvm.Cond.methodLink "RoundVotes" (1 : Nat) ({ cls := "java/lang/Object", name := "<init>", desc := "()V" } : Jvm.MethodName)) ∈ mTb := mIn1 (List.mem_of_getElem? (i := 20) rfl) rfl
theorem tb_21 : (Jvm.Cond.instanceMethod ({ cls := "java/lang/Object", name := "<init>", desc := "()V" } : Jvm.MethodName)) ∈ mTb := mIn1 (List.mem_of_getElem? (i := 21) rfl) rfl
theorem tb_22 : (Jvm.Cond.code ({ cls := "java/lang/Object", name := "<init>", desc := "()V" } : Jvm.MethodName) object_method_1_code (1 : Nat) (Option.none : Option Jvm.ClassFile.FieldType)) ∈ mTb := mIn1 (List.mem_of_getElem? (i := 22) rfl) rfl
theorem tb_23 : (Jvm.Cond.classLink "RoundVotes" (7 : Nat) "RoundVotes$Mail") ∈ mTb := mIn1 (List.mem_of_getElem? (i := 23) rfl) rfl
theorem tb_24 : (Jvm.Cond.instantiable "RoundVotes$Mail" (3 : Nat)) ∈ mTb := mIn1 (List.mem_of_getElem? (i := 24) rfl) rfl
theorem tb_26 : (Jvm.Cond.instanceMethod ({ cls := "RoundVotes$Mail", name := "<init>", desc := "()V" } : Jvm.MethodName)) ∈ mTb := mIn1 (List.mem_of_getElem? (i := 26) rfl) rfl
theorem tb_27 : (Jvm.Cond.code ({ cls := "RoundVotes$Mail", name := "<init>", desc := "()V" } : Jvm.MethodName) prog_6_method_1_code (1 : Nat) (Option.none : Option Jvm.ClassFile.FieldType)) ∈ mTb := mIn1 (List.mem_of_getElem? (i := 27) rfl) rfl
theorem tb_28 : (Jvm.Cond.methodLink "RoundVotes$Mail" (3 : Nat) ({ cls := "java/lang/Object", name := "<init>", desc := "()V" } : Jvm.MethodName)) ∈ mTb := mIn1 (List.mem_of_getElem? (i := 28) rfl) rfl
theorem tb_29 : (Jvm.Cond.classLink "RoundVotes$Mail" (9 : Nat) "RoundVotes$Message") ∈ mTb := mIn1 (List.mem_of_getElem? (i := 29) rfl) rfl
theorem tb_31 : (Jvm.Cond.fieldLink "RoundVotes$Mail" (11 : Nat) "RoundVotes$Mail" "slots" "[LRoundVotes$Message;") ∈ mTb := mIn1 (List.mem_of_getElem? (i := 31) rfl) rfl
theorem tb_32 : (Jvm.Cond.fieldLink "RoundVotes" (235 : Nat) "RoundVotes$Mail" "slots" "[LRoundVotes$Message;") ∈ mTb := mIn1 (List.mem_of_getElem? (i := 32) rfl) rfl
theorem tb_33 : (Jvm.Cond.fieldLink "RoundVotes$Mail" (21 : Nat) "RoundVotes$Mail" "size" "I") ∈ mTb := mIn1 (List.mem_of_getElem? (i := 33) rfl) rfl
theorem tb_34 : (Jvm.Cond.fieldLink "RoundVotes" (234 : Nat) "RoundVotes$Mail" "size" "I") ∈ mTb := mIn1 (List.mem_of_getElem? (i := 34) rfl) rfl
theorem tb_35 : (Jvm.Cond.fieldLink "RoundVotes$Mail" (17 : Nat) "RoundVotes$Mail" "underWay" "I") ∈ mTb := mIn1 (List.mem_of_getElem? (i := 35) rfl) rfl
theorem tb_36 : (Jvm.Cond.fieldLink "RoundVotes" (217 : Nat) "RoundVotes$Mail" "underWay" "I") ∈ mTb := mIn1 (List.mem_of_getElem? (i := 36) rfl) rfl
theorem tb_37 : (Jvm.Cond.laysFinal "RoundVotes$Mail" "RoundVotes$Mail" "slots" "[LRoundVotes$Message;") ∈ mTb := mIn1 (List.mem_of_getElem? (i := 37) rfl) rfl
theorem tb_39 : (Jvm.Cond.lays "RoundVotes$Mail" "RoundVotes$Mail" "size" "I") ∈ mTb := mIn1 (List.mem_of_getElem? (i := 39) rfl) rfl
theorem tb_41 : (Jvm.Cond.lays "RoundVotes$Mail" "RoundVotes$Mail" "underWay" "I") ∈ mTb := mIn1 (List.mem_of_getElem? (i := 41) rfl) rfl
theorem tb_44 : (Jvm.Cond.classLink "RoundVotes" (16 : Nat) "RoundVotes$Told") ∈ mTb := mIn1 (List.mem_of_getElem? (i := 44) rfl) rfl
theorem tb_45 : (Jvm.Cond.instantiable "RoundVotes$Told" (4 : Nat)) ∈ mTb := mIn1 (List.mem_of_getElem? (i := 45) rfl) rfl
theorem tb_47 : (Jvm.Cond.instanceMethod ({ cls := "RoundVotes$Told", name := "<init>", desc := "()V" } : Jvm.MethodName)) ∈ mTb := mIn1 (List.mem_of_getElem? (i := 47) rfl) rfl
theorem tb_48 : (Jvm.Cond.code ({ cls := "RoundVotes$Told", name := "<init>", desc := "()V" } : Jvm.MethodName) prog_11_method_1_code (1 : Nat) (Option.none : Option Jvm.ClassFile.FieldType)) ∈ mTb := mIn1 (List.mem_of_getElem? (i := 48) rfl) rfl
theorem tb_49 : (Jvm.Cond.methodLink "RoundVotes$Told" (3 : Nat) ({ cls := "java/lang/Object", name := "<init>", desc := "()V" } : Jvm.MethodName)) ∈ mTb := mIn1 (List.mem_of_getElem? (i := 49) rfl) rfl
theorem tb_50 : (Jvm.Cond.fieldLink "RoundVotes$Told" (9 : Nat) "RoundVotes$Told" "numbers" "[I") ∈ mTb := mIn1 (List.mem_of_getElem? (i := 50) rfl) rfl
theorem tb_51 : (Jvm.Cond.fieldLink "RoundVotes$Told" (15 : Nat) "RoundVotes$Told" "kinds" "[I") ∈ mTb := mIn1 (List.mem_of_getElem? (i := 51) rfl) rfl
theorem tb_52 : (Jvm.Cond.fieldLink "RoundVotes" (299 : Nat) "RoundVotes$Told" "kinds" "[I") ∈ mTb := mIn1 (List.mem_of_getElem? (i := 52) rfl) rfl
theorem tb_53 : (Jvm.Cond.fieldLink "RoundVotes$Told" (18 : Nat) "RoundVotes$Told" "bys" "[I") ∈ mTb := mIn1 (List.mem_of_getElem? (i := 53) rfl) rfl
theorem tb_54 : (Jvm.Cond.fieldLink "RoundVotes" (302 : Nat) "RoundVotes$Told" "bys" "[I") ∈ mTb := mIn1 (List.mem_of_getElem? (i := 54) rfl) rfl
theorem tb_55 : (Jvm.Cond.fieldLink "RoundVotes$Told" (21 : Nat) "RoundVotes$Told" "size" "I") ∈ mTb := mIn1 (List.mem_of_getElem? (i := 55) rfl) rfl
theorem tb_56 : (Jvm.Cond.fieldLink "RoundVotes" (82 : Nat) "RoundVotes$Told" "size" "I") ∈ mTb := mIn1 (List.mem_of_getElem? (i := 56) rfl) rfl
theorem tb_57 : (Jvm.Cond.laysFinal "RoundVotes$Told" "RoundVotes$Told" "numbers" "[I") ∈ mTb := mIn1 (List.mem_of_getElem? (i := 57) rfl) rfl
theorem tb_59 : (Jvm.Cond.laysFinal "RoundVotes$Told" "RoundVotes$Told" "kinds" "[I") ∈ mTb := mIn1 (List.mem_of_getElem? (i := 59) rfl) rfl
theorem tb_61 : (Jvm.Cond.laysFinal "RoundVotes$Told" "RoundVotes$Told" "bys" "[I") ∈ mTb := mIn1 (List.mem_of_getElem? (i := 61) rfl) rfl
theorem tb_63 : (Jvm.Cond.lays "RoundVotes$Told" "RoundVotes$Told" "size" "I") ∈ mTb := mIn1 (List.mem_of_getElem? (i := 63) rfl) rfl
theorem tb_66 : (Jvm.Cond.arrayClass Jvm.ClassFile.FieldType.int) ∈ mTb := mIn1 (List.mem_of_getElem? (i := 66) rfl) rfl
theorem tb_67 : (Jvm.Cond.classLink "RoundVotes" (23 : Nat) "RoundVotes$Faults") ∈ mTb := mIn1 (List.mem_of_getElem? (i := 67) rfl) rfl
theorem tb_68 : (Jvm.Cond.instantiable "RoundVotes$Faults" (2 : Nat)) ∈ mTb := mIn1 (List.mem_of_getElem? (i := 68) rfl) rfl
theorem tb_70 : (Jvm.Cond.instanceMethod ({ cls := "RoundVotes$Faults", name := "<init>", desc := "()V" } : Jvm.MethodName)) ∈ mTb := mIn1 (List.mem_of_getElem? (i := 70) rfl) rfl
theorem tb_71 : (Jvm.Cond.code ({ cls := "RoundVotes$Faults", name := "<init>", desc := "()V" } : Jvm.MethodName) prog_5_method_1_code (1 : Nat) (Option.none : Option Jvm.ClassFile.FieldType)) ∈ mTb := mIn1 (List.mem_of_getElem? (i := 71) rfl) rfl
theorem tb_72 : (Jvm.Cond.methodLink "RoundVotes$Faults" (3 : Nat) ({ cls := "java/lang/Object", name := "<init>", desc := "()V" } : Jvm.MethodName)) ∈ mTb := mIn1 (List.mem_of_getElem? (i := 72) rfl) rfl
theorem tb_73 : (Jvm.Cond.fieldLink "RoundVotes$Faults" (11 : Nat) "RoundVotes$Faults" "parts" "[I") ∈ mTb := mIn1 (List.mem_of_getElem? (i := 73) rfl) rfl
theorem tb_74 : (Jvm.Cond.fieldLink "RoundVotes$Faults" (15 : Nat) "RoundVotes$Faults" "size" "I") ∈ mTb := mIn1 (List.mem_of_getElem? (i := 74) rfl) rfl
theorem tb_75 : (Jvm.Cond.fieldLink "RoundVotes" (204 : Nat) "RoundVotes$Faults" "size" "I") ∈ mTb := mIn1 (List.mem_of_getElem? (i := 75) rfl) rfl
theorem tb_76 : (Jvm.Cond.laysFinal "RoundVotes$Faults" "RoundVotes$Faults" "parts" "[I") ∈ mTb := mIn1 (List.mem_of_getElem? (i := 76) rfl) rfl
theorem tb_78 : (Jvm.Cond.lays "RoundVotes$Faults" "RoundVotes$Faults" "size" "I") ∈ mTb := mIn1 (List.mem_of_getElem? (i := 78) rfl) rfl
theorem tb_81 : (Jvm.Cond.classLink "RoundVotes" (30 : Nat) "RoundVotes$Setup") ∈ mTb := mIn1 (List.mem_of_getElem? (i := 81) rfl) rfl
theorem tb_82 : (Jvm.Cond.instantiable "RoundVotes$Setup" (4 : Nat)) ∈ mTb := mIn1 (List.mem_of_getElem? (i := 82) rfl) rfl
theorem tb_83 : (Jvm.Cond.methodLink "RoundVotes" (32 : Nat) ({ cls := "RoundVotes$Setup", name := "<init>", desc := "(II)V" } : Jvm.MethodName)) ∈ mTb := mIn1 (List.mem_of_getElem? (i := 83) rfl) rfl
theorem tb_84 : (Jvm.Cond.instanceMethod ({ cls := "RoundVotes$Setup", name := "<init>", desc := "(II)V" } : Jvm.MethodName)) ∈ mTb := mIn1 (List.mem_of_getElem? (i := 84) rfl) rfl
theorem tb_85 : (Jvm.Cond.code ({ cls := "RoundVotes$Setup", name := "<init>", desc := "(II)V" } : Jvm.MethodName) prog_10_method_1_code (4 : Nat) (Option.none : Option Jvm.ClassFile.FieldType)) ∈ mTb := mIn1 (List.mem_of_getElem? (i := 85) rfl) rfl
theorem tb_86 : (Jvm.Cond.methodLink "RoundVotes$Setup" (3 : Nat) ({ cls := "java/lang/Object", name := "<init>", desc := "()V" } : Jvm.MethodName)) ∈ mTb := mIn1 (List.mem_of_getElem? (i := 86) rfl) rfl
theorem tb_87 : (Jvm.Cond.methodLink "RoundVotes$Setup" (15 : Nat) ({ cls := "java/lang/Math", name := "min", desc := "(II)I" } : Jvm.MethodName)) ∈ mTb := mIn1 (List.mem_of_getElem? (i := 87) rfl) rfl
theorem tb_88 : (Jvm.Cond.static ({ cls := "java/lang/Math", name := "min", desc := "(II)I" } : Jvm.MethodName)) ∈ mTb := mIn1 (List.mem_of_getElem? (i := 88) rfl) rfl
theorem tb_89 : (Jvm.Cond.code ({ cls := "java/lang/Math", name := "min", desc := "(II)I" } : Jvm.MethodName) prog_14_method_69_code (2 : Nat) (Option.some Jvm.ClassFile.FieldType.int)) ∈ mTb := mIn1 (List.mem_of_getElem? (i := 89) rfl) rfl
theorem tb_90 : (Jvm.Cond.methodLink "RoundVotes$Setup" (21 : Nat) ({ cls := "java/lang/Math", name := "max", desc := "(II)I" } : Jvm.MethodName)) ∈ mTb := mIn1 (List.mem_of_getElem? (i := 90) rfl) rfl
theorem tb_91 : (Jvm.Cond.static ({ cls := "java/lang/Math", name := "max", desc := "(II)I" } : Jvm.MethodName)) ∈ mTb := mIn1 (List.mem_of_getElem? (i := 91) rfl) rfl
theorem tb_92 : (Jvm.Cond.code ({ cls := "java/lang/Math", name := "max", desc := "(II)I" } : Jvm.MethodName) prog_14_method_65_code (2 : Nat) (Option.some Jvm.ClassFile.FieldType.int)) ∈ mTb := mIn1 (List.mem_of_getElem? (i := 92) rfl) rfl
theorem tb_93 : (Jvm.Cond.classLink "RoundVotes$Setup" (31 : Nat) "[[I") ∈ mTb := mIn1 (List.mem_of_getElem? (i := 93) rfl) rfl
theorem tb_95 : (Jvm.Cond.methodLink "RoundVotes$Setup" (36 : Nat) ({ cls := "java/util/Arrays", name := "fill", desc := "([II)V" } : Jvm.MethodName)) ∈ mTb := mIn1 (List.mem_of_getElem? (i := 95) rfl) rfl
theorem tb_96 : (Jvm.Cond.static ({ cls := "java/util/Arrays", name := "fill", desc := "([II)V" } : Jvm.MethodName)) ∈ mTb := mIn1 (List.mem_of_getElem? (i := 96) rfl) rfl
theorem tb_97 : (Jvm.Cond.code ({ cls := "java/util/Arrays", name := "fill", desc := "([II)V" } : Jvm.MethodName) prog_15_method_103_code (4 : Nat) (Option.none : Option Jvm.ClassFile.FieldType)) ∈ mTb := mIn1 (List.mem_of_getElem? (i := 97) rfl) rfl
theorem tb_98 : (Jvm.Cond.fieldLink "RoundVotes$Setup" (24 : Nat) "RoundVotes$Setup" "size" "I") ∈ mTb := mIn1 (List.mem_of_getElem? (i := 98) rfl) rfl
theorem tb_99 : (Jvm.Cond.fieldLink "RoundVotes" (39 : Nat) "RoundVotes$Setup" "size" "I") ∈ mTb := mIn1 (List.mem_of_getElem? (i := 99) rfl) rfl
theorem tb_100 : (Jvm.Cond.fieldLink "RoundVotes$Node" (73 : Nat) "RoundVotes$Setup" "size" "I") ∈ mTb := mIn1 (List.mem_of_getElem? (i := 100) rfl) rfl
theorem tb_101 : (Jvm.Cond.fieldLink "RoundVotes$Setup" (28 : Nat) "RoundVotes$Setup" "seed" "I") ∈ mTb := mIn1 (List.mem_of_getElem? (i := 101) rfl) rfl
theorem tb_102 : (Jvm.Cond.fieldLink "RoundVotes$Setup" (33 : Nat) "RoundVotes$Setup" "weights" "[[I") ∈ mTb := mIn1 (List.mem_of_getElem? (i := 102) rfl) rfl
theorem tb_103 : (Jvm.Cond.fieldLink "RoundVotes" (226 : Nat) "RoundVotes$Setup" "weights" "[[I") ∈ mTb := mIn1 (List.mem_of_getElem? (i := 103) rfl) rfl
theorem tb_104 : (Jvm.Cond.fieldLink "RoundVotes$Setup" (9 : Nat) "RoundVotes$Setup" "all" "[I") ∈ mTb := mIn1 (List.mem_of_getElem? (i := 104) rfl) rfl
theorem tb_105 : (Jvm.Cond.fieldLink "RoundVotes" (223 : Nat) "RoundVotes$Setup" "all" "[I") ∈ mTb := mIn1 (List.mem_of_getElem? (i := 105) rfl) rfl
theorem tb_106 : (Jvm.Cond.fieldLink "RoundVotes$Node" (213 : Nat) "RoundVotes$Setup" "all" "[I") ∈ mTb := mIn1 (List.mem_of_getElem? (i := 106) rfl) rfl
theorem tb_107 : (Jvm.Cond.laysFinal "RoundVotes$Setup" "RoundVotes$Setup" "size" "I") ∈ mTb := mIn1 (List.mem_of_getElem? (i := 107) rfl) rfl
theorem tb_109 : (Jvm.Cond.laysFinal "RoundVotes$Setup" "RoundVotes$Setup" "seed" "I") ∈ mTb := mIn1 (List.mem_of_getElem? (i := 109) rfl) rfl
theorem tb_111 : (Jvm.Cond.laysFinal "RoundVotes$Setup" "RoundVotes$Setup" "weights" "[[I") ∈ mTb := mIn1 (List.mem_of_getElem? (i := 111) rfl) rfl
theorem tb_113 : (Jvm.Cond.laysFinal "RoundVotes$Setup" "RoundVotes$Setup" "all" "[I") ∈ mTb := mIn1 (List.mem_of_getElem? (i := 113) rfl) rfl
theorem tb_116 : (Jvm.Cond.classLink "RoundVotes" (43 : Nat) "RoundVotes$Node") ∈ mTb := mIn1 (List.mem_of_getElem? (i := 116) rfl) rfl
theorem tb_118 : (Jvm.Cond.instantiable "RoundVotes$Node" (18 : Nat)) ∈ mTb := mIn1 (List.mem_of_getElem? (i := 118) rfl) rfl
theorem tb_119 : (Jvm.Cond.methodLink "RoundVotes" (49 : Nat) ({ cls := "RoundVotes$Node", name := "<init>", desc := "(ILRoundVotes$Setup;)V" } : Jvm.MethodName)) ∈ mTb := mIn1 (List.mem_of_getElem? (i := 119) rfl) rfl
theorem tb_120 : (Jvm.Cond.instanceMethod ({ cls := "RoundVotes$Node", name := "<init>", desc := "(ILRoundVotes$Setup;)V" } : Jvm.MethodName)) ∈ mTb := mIn1 (List.mem_of_getElem? (i := 120) rfl) rfl
theorem tb_121 : (Jvm.Cond.code ({ cls := "RoundVotes$Node", name := "<init>", desc := "(ILRoundVotes$Setup;)V" } : Jvm.MethodName) prog_8_method_1_code (3 : Nat) (Option.none : Option Jvm.ClassFile.FieldType)) ∈ mTb := mIn1 (List.mem_of_getElem? (i := 121) rfl) rfl
theorem tb_122 : (Jvm.Cond.methodLink "RoundVotes$Node" (3 : Nat) ({ cls := "java/lang/Object", name := "<init>", desc := "()V" } : Jvm.MethodName)) ∈ mTb := mIn1 (List.mem_of_getElem? (i := 122) rfl) rfl
theorem tb_123 : (Jvm.Cond.classLink "RoundVotes$Node" (18 : Nat) "RoundVotes$Choice") ∈ mTb := mIn1 (List.mem_of_getElem? (i := 123) rfl) rfl
theorem tb_124 : (Jvm.Cond.instantiable "RoundVotes$Choice" (2 : Nat)) ∈ mTb := mIn1 (List.mem_of_getElem? (i := 124) rfl) rfl
theorem tb_126 : (Jvm.Cond.instanceMethod ({ cls := "RoundVotes$Choice", name := "<init>", desc := "()V" } : Jvm.MethodName)) ∈ mTb := mIn1 (List.mem_of_getElem? (i := 126) rfl) rfl
theorem tb_127 : (Jvm.Cond.code ({ cls := "RoundVotes$Choice", name := "<init>", desc := "()V" } : Jvm.MethodName) prog_3_method_1_code (1 : Nat) (Option.none : Option Jvm.ClassFile.FieldType)) ∈ mTb := mIn1 (List.mem_of_getElem? (i := 127) rfl) rfl
theorem tb_128 : (Jvm.Cond.methodLink "RoundVotes$Choice" (3 : Nat) ({ cls := "java/lang/Object", name := "<init>", desc := "()V" } : Jvm.MethodName)) ∈ mTb := mIn1 (List.mem_of_getElem? (i := 128) rfl) rfl
theorem tb_129 : (Jvm.Cond.fieldLink "RoundVotes$Choice" (9 : Nat) "RoundVotes$Choice" "value" "I") ∈ mTb := mIn1 (List.mem_of_getElem? (i := 129) rfl) rfl
theorem tb_130 : (Jvm.Cond.fieldLink "RoundVotes$Node" (109 : Nat) "RoundVotes$Choice" "value" "I") ∈ mTb := mIn1 (List.mem_of_getElem? (i := 130) rfl) rfl
theorem tb_131 : (Jvm.Cond.fieldLink "RoundVotes" (138 : Nat) "RoundVotes$Choice" "value" "I") ∈ mTb := mIn1 (List.mem_of_getElem? (i := 131) rfl) rfl
theorem tb_132 : (Jvm.Cond.fieldLink "RoundVotes$Choice" (15 : Nat) "RoundVotes$Choice" "round" "I") ∈ mTb := mIn1 (List.mem_of_getElem? (i := 132) rfl) rfl
theorem tb_133 : (Jvm.Cond.fieldLink "RoundVotes$Node" (112 : Nat) "RoundVotes$Choice" "round" "I") ∈ mTb := mIn1 (List.mem_of_getElem? (i := 133) rfl) rfl
theorem tb_134 : (Jvm.Cond.fieldLink "RoundVotes" (143 : Nat) "RoundVotes$Choice" "round" "I") ∈ mTb := mIn1 (List.mem_of_getElem? (i := 134) rfl) rfl
theorem tb_135 : (Jvm.Cond.lays "RoundVotes$Choice" "RoundVotes$Choice" "value" "I") ∈ mTb := mIn1 (List.mem_of_getElem? (i := 135) rfl) rfl
theorem tb_137 : (Jvm.Cond.lays "RoundVotes$Choice" "RoundVotes$Choice" "round" "I") ∈ mTb := mIn1 (List.mem_of_getElem? (i := 137) rfl) rfl
theorem tb_140 : (Jvm.Cond.classLink "RoundVotes$Node" (36 : Nat) "RoundVotes$Decisions") ∈ mTb := mIn1 (List.mem_of_getElem? (i := 140) rfl) rfl
theorem tb_141 : (Jvm.Cond.instantiable "RoundVotes$Decisions" (3 : Nat)) ∈ mTb := mIn1 (List.mem_of_getElem? (i := 141) rfl) rfl
theorem tb_143 : (Jvm.Cond.instanceMethod ({ cls := "RoundVotes$Decisions", name := "<init>", desc := "()V" } : Jvm.MethodName)) ∈ mTb := mIn1 (List.mem_of_getElem? (i := 143) rfl) rfl
theorem tb_144 : (Jvm.Cond.code ({ cls := "RoundVotes$Decisions", name := "<init>", desc := "()V" } : Jvm.MethodName) prog_4_method_1_code (1 : Nat) (Option.none : Option Jvm.ClassFile.FieldType)) ∈ mTb := mIn1 (List.mem_of_getElem? (i := 144) rfl) rfl
theorem tb_145 : (Jvm.Cond.methodLink "RoundVotes$Decisions" (3 : Nat) ({ cls := "java/lang/Object", name := "<init>", desc := "()V" } : Jvm.MethodName)) ∈ mTb := mIn1 (List.mem_of_getElem? (i := 145) rfl) rfl
theorem tb_146 : (Jvm.Cond.fieldLink "RoundVotes$Decisions" (9 : Nat) "RoundVotes$Decisions" "values" "[I") ∈ mTb := mIn1 (List.mem_of_getElem? (i := 146) rfl) rfl
theorem tb_147 : (Jvm.Cond.fieldLink "RoundVotes$Node" (157 : Nat) "RoundVotes$Decisions" "values" "[I") ∈ mTb := mIn1 (List.mem_of_getElem? (i := 147) rfl) rfl
theorem tb_148 : (Jvm.Cond.fieldLink "RoundVotes" (192 : Nat) "RoundVotes$Decisions" "values" "[I") ∈ mTb := mIn1 (List.mem_of_getElem? (i := 148) rfl) rfl
theorem tb_149 : (Jvm.Cond.fieldLink "RoundVotes$Decisions" (15 : Nat) "RoundVotes$Decisions" "rounds" "[I") ∈ mTb := mIn1 (List.mem_of_getElem? (i := 149) rfl) rfl
theorem tb_150 : (Jvm.Cond.fieldLink "RoundVotes$Node" (160 : Nat) "RoundVotes$Decisions" "rounds" "[I") ∈ mTb := mIn1 (List.mem_of_getElem? (i := 150) rfl) rfl
theorem tb_151 : (Jvm.Cond.fieldLink "RoundVotes" (195 : Nat) "RoundVotes$Decisions" "rounds" "[I") ∈ mTb := mIn1 (List.mem_of_getElem? (i := 151) rfl) rfl
theorem tb_152 : (Jvm.Cond.fieldLink "RoundVotes$Decisions" (18 : Nat) "RoundVotes$Decisions" "voters" "[I") ∈ mTb := mIn1 (List.mem_of_getElem? (i := 152) rfl) rfl
theorem tb_153 : (Jvm.Cond.fieldLink "RoundVotes$Node" (163 : Nat) "RoundVotes$Decisions" "voters" "[I") ∈ mTb := mIn1 (List.mem_of_getElem? (i := 153) rfl) rfl
theorem tb_154 : (Jvm.Cond.fieldLink "RoundVotes" (198 : Nat) "RoundVotes$Decisions" "voters" "[I") ∈ mTb := mIn1 (List.mem_of_getElem? (i := 154) rfl) rfl
theorem tb_155 : (Jvm.Cond.laysFinal "RoundVotes$Decisions" "RoundVotes$Decisions" "values" "[I") ∈ mTb := mIn1 (List.mem_of_getElem? (i := 155) rfl) rfl
theorem tb_157 : (Jvm.Cond.laysFinal "RoundVotes$Decisions" "RoundVotes$Decisions" "rounds" "[I") ∈ mTb := mIn1 (List.mem_of_getElem? (i := 157) rfl) rfl
theorem tb_159 : (Jvm.Cond.laysFinal "RoundVotes$Decisions" "RoundVotes$Decisions" "voters" "[I") ∈ mTb := mIn1 (List.mem_of_getElem? (i := 159) rfl) rfl
theorem tb_162 : (Jvm.Cond.arrayClass Jvm.ClassFile.FieldType.boolean) ∈ mTb := mIn1 (List.mem_of_getElem? (i := 162) rfl) rfl
theorem tb_163 : (Jvm.Cond.classLink "RoundVotes$Node" (43 : Nat) "RoundVotes$Ballots") ∈ mTb := mIn1 (List.mem_of_getElem? (i := 163) rfl) rfl
theorem tb_164 : (Jvm.Cond.instantiable "RoundVotes$Ballots" (4 : Nat)) ∈ mTb := mIn1 (List.mem_of_getElem? (i := 164) rfl) rfl
theorem tb_165 : (Jvm.Cond.methodLink "RoundVotes$Node" (45 : Nat) ({ cls := "RoundVotes$Ballots", name := "<init>", desc := "(I)V" } : Jvm.MethodName)) ∈ mTb := mIn1 (List.mem_of_getElem? (i := 165) rfl) rfl
theorem tb_166 : (Jvm.Cond.instanceMethod ({ cls := "RoundVotes$Ballots", name := "<init>", desc := "(I)V" } : Jvm.MethodName)) ∈ mTb := mIn1 (List.mem_of_getElem? (i := 166) rfl) rfl
theorem tb_167 : (Jvm.Cond.code ({ cls := "RoundVotes$Ballots", name := "<init>", desc := "(I)V" } : Jvm.MethodName) prog_2_method_1_code (2 : Nat) (Option.none : Option Jvm.ClassFile.FieldType)) ∈ mTb := mIn1 (List.mem_of_getElem? (i := 167) rfl) rfl
theorem tb_168 : (Jvm.Cond.methodLink "RoundVotes$Ballots" (3 : Nat) ({ cls := "java/lang/Object", name := "<init>", desc := "()V" } : Jvm.MethodName)) ∈ mTb := mIn1 (List.mem_of_getElem? (i := 168) rfl) rfl
theorem tb_169 : (Jvm.Cond.methodLink "RoundVotes$Ballots" (25 : Nat) ({ cls := "java/util/Arrays", name := "fill", desc := "([II)V" } : Jvm.MethodName)) ∈ mTb := mIn1 (List.mem_of_getElem? (i := 169) rfl) rfl
theorem tb_170 : (Jvm.Cond.fieldLink "RoundVotes$Ballots" (19 : Nat) "RoundVotes$Ballots" "senders" "I") ∈ mTb := mIn1 (List.mem_of_getElem? (i := 170) rfl) rfl
theorem tb_171 : (Jvm.Cond.fieldLink "RoundVotes$Ballots" (22 : Nat) "RoundVotes$Ballots" "values" "[I") ∈ mTb := mIn1 (List.mem_of_getElem? (i := 171) rfl) rfl
theorem tb_172 : (Jvm.Cond.fieldLink "RoundVotes$Ballots" (9 : Nat) "RoundVotes$Ballots" "sinces" "[I") ∈ mTb := mIn1 (List.mem_of_getElem? (i := 172) rfl) rfl
theorem tb_173 : (Jvm.Cond.fieldLink "RoundVotes$Ballots" (15 : Nat) "RoundVotes$Ballots" "topRound" "I") ∈ mTb := mIn1 (List.mem_of_getElem? (i := 173) rfl) rfl
theorem tb_174 : (Jvm.Cond.fieldLink "RoundVotes$Node" (150 : Nat) "RoundVotes$Ballots" "topRound" "I") ∈ mTb := mIn1 (List.mem_of_getElem? (i := 174) rfl) rfl
theorem tb_175 : (Jvm.Cond.laysFinal "RoundVotes$Ballots" "RoundVotes$Ballots" "senders" "I") ∈ mTb := mIn1 (List.mem_of_getElem? (i := 175) rfl) rfl
theorem tb_177 : (Jvm.Cond.laysFinal "RoundVotes$Ballots" "RoundVotes$Ballots" "values" "[I") ∈ mTb := mIn1 (List.mem_of_getElem? (i := 177) rfl) rfl
theorem tb_179 : (Jvm.Cond.laysFinal "RoundVotes$Ballots" "RoundVotes$Ballots" "sinces" "[I") ∈ mTb := mIn1 (List.mem_of_getElem? (i := 179) rfl) rfl
theorem tb_181 : (Jvm.Cond.lays "RoundVotes$Ballots" "RoundVotes$Ballots" "topRound" "I") ∈ mTb := mIn1 (List.mem_of_getElem? (i := 181) rfl) rfl
theorem tb_184 : (Jvm.Cond.classLink "RoundVotes$Node" (52 : Nat) "RoundVotes$Sendings") ∈ mTb := mIn1 (List.mem_of_getElem? (i := 184) rfl) rfl
theorem tb_185 : (Jvm.Cond.instantiable "RoundVotes$Sendings" (3 : Nat)) ∈ mTb := mIn1 (List.mem_of_getElem? (i := 185) rfl) rfl
theorem tb_187 : (Jvm.Cond.instanceMethod ({ cls := "RoundVotes$Sendings", name := "<init>", desc := "()V" } : Jvm.MethodName)) ∈ mTb := mIn1 (List.mem_of_getElem? (i := 187) rfl) rfl
theorem tb_188 : (Jvm.Cond.code ({ cls := "RoundVotes$Sendings", name := "<init>", desc := "()V" } : Jvm.MethodName) prog_9_method_1_code (1 : Nat) (Option.none : Option Jvm.ClassFile.FieldType)) ∈ mTb := mIn1 (List.mem_of_getElem? (i := 188) rfl) rfl
theorem tb_189 : (Jvm.Cond.methodLink "RoundVotes$Sendings" (3 : Nat) ({ cls := "java/lang/Object", name := "<init>", desc := "()V" } : Jvm.MethodName)) ∈ mTb := mIn1 (List.mem_of_getElem? (i := 189) rfl) rfl
theorem tb_190 : (Jvm.Cond.classLink "RoundVotes$Sendings" (9 : Nat) "RoundVotes$Ballots") ∈ mTb := mIn1 (List.mem_of_getElem? (i := 190) rfl) rfl
theorem tb_191 : (Jvm.Cond.methodLink "RoundVotes$Sendings" (11 : Nat) ({ cls := "RoundVotes$Ballots", name := "<init>", desc := "(I)V" } : Jvm.MethodName)) ∈ mTb := mIn1 (List.mem_of_getElem? (i := 191) rfl) rfl
theorem tb_192 : (Jvm.Cond.fieldLink "RoundVotes$Sendings" (20 : Nat) "RoundVotes$Sendings" "copies" "I") ∈ mTb := mIn1 (List.mem_of_getElem? (i := 192) rfl) rfl
theorem tb_193 : (Jvm.Cond.fieldLink "RoundVotes" (160 : Nat) "RoundVotes$Sendings" "copies" "I") ∈ mTb := mIn1 (List.mem_of_getElem? (i := 193) rfl) rfl
theorem tb_194 : (Jvm.Cond.fieldLink "RoundVotes$Sendings" (46 : Nat) "RoundVotes$Sendings" "timesUnlike" "I") ∈ mTb := mIn1 (List.mem_of_getElem? (i := 194) rfl) rfl
theorem tb_195 : (Jvm.Cond.fieldLink "RoundVotes" (208 : Nat) "RoundVotes$Sendings" "timesUnlike" "I") ∈ mTb := mIn1 (List.mem_of_getElem? (i := 195) rfl) rfl
theorem tb_196 : (Jvm.Cond.fieldLink "RoundVotes$Sendings" (14 : Nat) "RoundVotes$Sendings" "firsts" "LRoundVotes$Ballots;") ∈ mTb := mIn1 (List.mem_of_getElem? (i := 196) rfl) rfl
theorem tb_197 : (Jvm.Cond.fieldLink "RoundVotes$Node" (181 : Nat) "RoundVotes$Sendings" "firsts" "LRoundVotes$Ballots;") ∈ mTb := mIn1 (List.mem_of_getElem? (i := 197) rfl) rfl
theorem tb_198 : (Jvm.Cond.lays "RoundVotes$Sendings" "RoundVotes$Sendings" "copies" "I") ∈ mTb := mIn1 (List.mem_of_getElem? (i := 198) rfl) rfl
theorem tb_200 : (Jvm.Cond.lays "RoundVotes$Sendings" "RoundVotes$Sendings" "timesUnlike" "I") ∈ mTb := mIn1 (List.mem_of_getElem? (i := 200) rfl) rfl
theorem tb_202 : (Jvm.Cond.laysFinal "RoundVotes$Sendings" "RoundVotes$Sendings" "firsts" "LRoundVotes$Ballots;") ∈ mTb := mIn1 (List.mem_of_getElem? (i := 202) rfl) rfl
theorem tb_205 : (Jvm.Cond.classLink "RoundVotes$Node" (59 : Nat) "RoundVotes$Message") ∈ mTb := mIn1 (List.mem_of_getElem? (i := 205) rfl) rfl
theorem tb_206 : (Jvm.Cond.instantiable "RoundVotes$Message" (9 : Nat)) ∈ mTb := mIn1 (List.mem_of_getElem? (i := 206) rfl) rfl
theorem tb_208 : (Jvm.Cond.instanceMethod ({ cls := "RoundVotes$Message", name := "<init>", desc := "()V" } : Jvm.MethodName)) ∈ mTb := mIn1 (List.mem_of_getElem? (i := 208) rfl) rfl
theorem tb_209 : (Jvm.Cond.code ({ cls := "RoundVotes$Message", name := "<init>", desc := "()V" } : Jvm.MethodName) prog_7_method_1_code (1 : Nat) (Option.none : Option Jvm.ClassFile.FieldType)) ∈ mTb := mIn1 (List.mem_of_getElem? (i := 209) rfl) rfl
theorem tb_210 : (Jvm.Cond.methodLink "RoundVotes$Message" (3 : Nat) ({ cls := "java/lang/Object", name := "<init>", desc := "()V" } : Jvm.MethodName)) ∈ mTb := mIn1 (List.mem_of_getElem? (i := 210) rfl) rfl
theorem tb_211 : (Jvm.Cond.fieldLink "RoundVotes$Message" (9 : Nat) "RoundVotes$Message" "sender" "I") ∈ mTb := mIn1 (List.mem_of_getElem? (i := 211) rfl) rfl
theorem tb_212 : (Jvm.Cond.fieldLink "RoundVotes$Faults" (23 : Nat) "RoundVotes$Message" "sender" "I") ∈ mTb := mIn1 (List.mem_of_getElem? (i := 212) rfl) rfl
theorem tb_213 : (Jvm.Cond.fieldLink "RoundVotes$Node" (131 : Nat) "RoundVotes$Message" "sender" "I") ∈ mTb := mIn1 (List.mem_of_getElem? (i := 213) rfl) rfl
theorem tb_214 : (Jvm.Cond.fieldLink "RoundVotes" (308 : Nat) "RoundVotes$Message" "sender" "I") ∈ mTb := mIn1 (List.mem_of_getElem? (i := 214) rfl) rfl
theorem tb_215 : (Jvm.Cond.fieldLink "RoundVotes$Message" (15 : Nat) "RoundVotes$Message" "receiver" "I") ∈ mTb := mIn1 (List.mem_of_getElem? (i := 215) rfl) rfl
theorem tb_216 : (Jvm.Cond.fieldLink "RoundVotes$Faults" (37 : Nat) "RoundVotes$Message" "receiver" "I") ∈ mTb := mIn1 (List.mem_of_getElem? (i := 216) rfl) rfl
theorem tb_217 : (Jvm.Cond.fieldLink "RoundVotes" (252 : Nat) "RoundVotes$Message" "receiver" "I") ∈ mTb := mIn1 (List.mem_of_getElem? (i := 217) rfl) rfl
theorem tb_218 : (Jvm.Cond.fieldLink "RoundVotes$Message" (18 : Nat) "RoundVotes$Message" "height" "I") ∈ mTb := mIn1 (List.mem_of_getElem? (i := 218) rfl) rfl
theorem tb_219 : (Jvm.Cond.fieldLink "RoundVotes$Faults" (28 : Nat) "RoundVotes$Message" "height" "I") ∈ mTb := mIn1 (List.mem_of_getElem? (i := 219) rfl) rfl
theorem tb_220 : (Jvm.Cond.fieldLink "RoundVotes$Node" (134 : Nat) "RoundVotes$Message" "height" "I") ∈ mTb := mIn1 (List.mem_of_getElem? (i := 220) rfl) rfl
theorem tb_221 : (Jvm.Cond.fieldLink "RoundVotes$Sendings" (24 : Nat) "RoundVotes$Message" "round" "I") ∈ mTb := mIn1 (List.mem_of_getElem? (i := 221) rfl) rfl
theorem tb_222 : (Jvm.Cond.fieldLink "RoundVotes$Message" (21 : Nat) "RoundVotes$Message" "round" "I") ∈ mTb := mIn1 (List.mem_of_getElem? (i := 222) rfl) rfl
theorem tb_223 : (Jvm.Cond.fieldLink "RoundVotes$Faults" (31 : Nat) "RoundVotes$Message" "round" "I") ∈ mTb := mIn1 (List.mem_of_getElem? (i := 223) rfl) rfl
theorem tb_224 : (Jvm.Cond.fieldLink "RoundVotes$Node" (135 : Nat) "RoundVotes$Message" "round" "I") ∈ mTb := mIn1 (List.mem_of_getElem? (i := 224) rfl) rfl
theorem tb_225 : (Jvm.Cond.fieldLink "RoundVotes$Sendings" (29 : Nat) "RoundVotes$Message" "kind" "I") ∈ mTb := mIn1 (List.mem_of_getElem? (i := 225) rfl) rfl
theorem tb_226 : (Jvm.Cond.fieldLink "RoundVotes$Message" (24 : Nat) "RoundVotes$Message" "kind" "I") ∈ mTb := mIn1 (List.mem_of_getElem? (i := 226) rfl) rfl
theorem tb_227 : (Jvm.Cond.fieldLink "RoundVotes$Faults" (34 : Nat) "RoundVotes$Message" "kind" "I") ∈ mTb := mIn1 (List.mem_of_getElem? (i := 227) rfl) rfl
theorem tb_228 : (Jvm.Cond.fieldLink "RoundVotes$Node" (136 : Nat) "RoundVotes$Message" "kind" "I") ∈ mTb := mIn1 (List.mem_of_getElem? (i := 228) rfl) rfl
theorem tb_229 : (Jvm.Cond.fieldLink "RoundVotes$Message" (27 : Nat) "RoundVotes$Message" "value" "I") ∈ mTb := mIn1 (List.mem_of_getElem? (i := 229) rfl) rfl
theorem tb_230 : (Jvm.Cond.fieldLink "RoundVotes$Sendings" (36 : Nat) "RoundVotes$Message" "value" "I") ∈ mTb := mIn1 (List.mem_of_getElem? (i := 230) rfl) rfl
theorem tb_231 : (Jvm.Cond.fieldLink "RoundVotes$Node" (139 : Nat) "RoundVotes$Message" "value" "I") ∈ mTb := mIn1 (List.mem_of_getElem? (i := 231) rfl) rfl
theorem tb_232 : (Jvm.Cond.fieldLink "RoundVotes" (281 : Nat) "RoundVotes$Message" "value" "I") ∈ mTb := mIn1 (List.mem_of_getElem? (i := 232) rfl) rfl
theorem tb_233 : (Jvm.Cond.fieldLink "RoundVotes$Message" (30 : Nat) "RoundVotes$Message" "since" "I") ∈ mTb := mIn1 (List.mem_of_getElem? (i := 233) rfl) rfl
theorem tb_234 : (Jvm.Cond.fieldLink "RoundVotes$Sendings" (39 : Nat) "RoundVotes$Message" "since" "I") ∈ mTb := mIn1 (List.mem_of_getElem? (i := 234) rfl) rfl
theorem tb_235 : (Jvm.Cond.fieldLink "RoundVotes$Node" (140 : Nat) "RoundVotes$Message" "since" "I") ∈ mTb := mIn1 (List.mem_of_getElem? (i := 235) rfl) rfl
theorem tb_236 : (Jvm.Cond.fieldLink "RoundVotes$Mail" (29 : Nat) "RoundVotes$Message" "due" "I") ∈ mTb := mIn1 (List.mem_of_getElem? (i := 236) rfl) rfl
theorem tb_237 : (Jvm.Cond.fieldLink "RoundVotes" (239 : Nat) "RoundVotes$Message" "due" "I") ∈ mTb := mIn1 (List.mem_of_getElem? (i := 237) rfl) rfl
theorem tb_238 : (Jvm.Cond.fieldLink "RoundVotes$Mail" (32 : Nat) "RoundVotes$Message" "second" "Z") ∈ mTb := mIn1 (List.mem_of_getElem? (i := 238) rfl) rfl
theorem tb_239 : (Jvm.Cond.fieldLink "RoundVotes" (244 : Nat) "RoundVotes$Message" "second" "Z") ∈ mTb := mIn1 (List.mem_of_getElem? (i := 239) rfl) rfl
theorem tb_240 : (Jvm.Cond.lays "RoundVotes$Message" "RoundVotes$Message" "sender" "I") ∈ mTb := mIn2 (List.mem_of_getElem? (i := 0) rfl) rfl
theorem tb_242 : (Jvm.Cond.lays "RoundVotes$Message" "RoundVotes$Message" "receiver" "I") ∈ mTb := mIn2 (List.mem_of_getElem? (i := 2) rfl) rfl
theorem tb_244 : (Jvm.Cond.lays "RoundVotes$Message" "RoundVotes$Message" "height" "I") ∈ mTb := mIn2 (List.mem_of_getElem? (i := 4) rfl) rfl
theorem tb_246 : (Jvm.Cond.lays "RoundVotes$Message" "RoundVotes$Message" "round" "I") ∈ mTb := mIn2 (List.mem_of_getElem? (i := 6) rfl) rfl
theorem tb_248 : (Jvm.Cond.lays "RoundVotes$Message" "RoundVotes$Message" "kind" "I") ∈ mTb := mIn2 (List.mem_of_getElem? (i := 8) rfl) rfl
theorem tb_250 : (Jvm.Cond.lays "RoundVotes$Message" "RoundVotes$Message" "value" "I") ∈ mTb := mIn2 (List.mem_of_getElem? (i := 10) rfl) rfl
theorem tb_252 : (Jvm.Cond.lays "RoundVotes$Message" "RoundVotes$Message" "since" "I") ∈ mTb := mIn2 (List.mem_of_getElem? (i := 12) rfl) rfl
theorem tb_254 : (Jvm.Cond.lays "RoundVotes$Message" "RoundVotes$Message" "due" "I") ∈ mTb := mIn2 (List.mem_of_getElem? (i := 14) rfl) rfl
theorem tb_256 : (Jvm.Cond.lays "RoundVotes$Message" "RoundVotes$Message" "second" "Z") ∈ mTb := mIn2 (List.mem_of_getElem? (i := 16) rfl) rfl
theorem tb_259 : (Jvm.Cond.fieldLink "RoundVotes$Node" (66 : Nat) "RoundVotes$Node" "number" "I") ∈ mTb := mIn2 (List.mem_of_getElem? (i := 19) rfl) rfl
theorem tb_260 : (Jvm.Cond.fieldLink "RoundVotes" (288 : Nat) "RoundVotes$Node" "number" "I") ∈ mTb := mIn2 (List.mem_of_getElem? (i := 20) rfl) rfl
theorem tb_261 : (Jvm.Cond.fieldLink "RoundVotes$Node" (69 : Nat) "RoundVotes$Node" "setup" "LRoundVotes$Setup;") ∈ mTb := mIn2 (List.mem_of_getElem? (i := 21) rfl) rfl
theorem tb_262 : (Jvm.Cond.fieldLink "RoundVotes$Node" (9 : Nat) "RoundVotes$Node" "height" "I") ∈ mTb := mIn2 (List.mem_of_getElem? (i := 22) rfl) rfl
theorem tb_263 : (Jvm.Cond.fieldLink "RoundVotes" (111 : Nat) "RoundVotes$Node" "height" "I") ∈ mTb := mIn2 (List.mem_of_getElem? (i := 23) rfl) rfl
theorem tb_264 : (Jvm.Cond.fieldLink "RoundVotes$Node" (87 : Nat) "RoundVotes$Node" "round" "I") ∈ mTb := mIn2 (List.mem_of_getElem? (i := 24) rfl) rfl
theorem tb_265 : (Jvm.Cond.fieldLink "RoundVotes" (128 : Nat) "RoundVotes$Node" "round" "I") ∈ mTb := mIn2 (List.mem_of_getElem? (i := 25) rfl) rfl
theorem tb_266 : (Jvm.Cond.fieldLink "RoundVotes$Node" (15 : Nat) "RoundVotes$Node" "step" "I") ∈ mTb := mIn2 (List.mem_of_getElem? (i := 26) rfl) rfl
theorem tb_267 : (Jvm.Cond.fieldLink "RoundVotes" (131 : Nat) "RoundVotes$Node" "step" "I") ∈ mTb := mIn2 (List.mem_of_getElem? (i := 27) rfl) rfl
theorem tb_268 : (Jvm.Cond.fieldLink "RoundVotes$Node" (21 : Nat) "RoundVotes$Node" "locked" "LRoundVotes$Choice;") ∈ mTb := mIn2 (List.mem_of_getElem? (i := 28) rfl) rfl
theorem tb_269 : (Jvm.Cond.fieldLink "RoundVotes" (134 : Nat) "RoundVotes$Node" "locked" "LRoundVotes$Choice;") ∈ mTb := mIn2 (List.mem_of_getElem? (i := 29) rfl) rfl
theorem tb_270 : (Jvm.Cond.fieldLink "RoundVotes$Node" (25 : Nat) "RoundVotes$Node" "valid" "LRoundVotes$Choice;") ∈ mTb := mIn2 (List.mem_of_getElem? (i := 30) rfl) rfl
theorem tb_271 : (Jvm.Cond.fieldLink "RoundVotes" (144 : Nat) "RoundVotes$Node" "valid" "LRoundVotes$Choice;") ∈ mTb := mIn2 (List.mem_of_getElem? (i := 31) rfl) rfl
theorem tb_272 : (Jvm.Cond.fieldLink "RoundVotes" (68 : Nat) "RoundVotes$Node" "behaviour" "I") ∈ mTb := mIn2 (List.mem_of_getElem? (i := 32) rfl) rfl
theorem tb_273 : (Jvm.Cond.fieldLink "RoundVotes$Node" (113 : Nat) "RoundVotes$Node" "behaviour" "I") ∈ mTb := mIn2 (List.mem_of_getElem? (i := 33) rfl) rfl
theorem tb_274 : (Jvm.Cond.fieldLink "RoundVotes$Node" (84 : Nat) "RoundVotes$Node" "lastCutTurn" "I") ∈ mTb := mIn2 (List.mem_of_getElem? (i := 34) rfl) rfl
theorem tb_275 : (Jvm.Cond.fieldLink "RoundVotes" (96 : Nat) "RoundVotes$Node" "lastCutTurn" "I") ∈ mTb := mIn2 (List.mem_of_getElem? (i := 35) rfl) rfl
theorem tb_276 : (Jvm.Cond.fieldLink "RoundVotes$Node" (28 : Nat) "RoundVotes$Node" "timers" "[I") ∈ mTb := mIn2 (List.mem_of_getElem? (i := 36) rfl) rfl
theorem tb_277 : (Jvm.Cond.fieldLink "RoundVotes" (152 : Nat) "RoundVotes$Node" "timers" "[I") ∈ mTb := mIn2 (List.mem_of_getElem? (i := 37) rfl) rfl
theorem tb_278 : (Jvm.Cond.fieldLink "RoundVotes$Node" (32 : Nat) "RoundVotes$Node" "once" "[Z") ∈ mTb := mIn2 (List.mem_of_getElem? (i := 38) rfl) rfl
theorem tb_279 : (Jvm.Cond.fieldLink "RoundVotes$Node" (39 : Nat) "RoundVotes$Node" "decisions" "LRoundVotes$Decisions;") ∈ mTb := mIn2 (List.mem_of_getElem? (i := 39) rfl) rfl
theorem tb_280 : (Jvm.Cond.fieldLink "RoundVotes" (184 : Nat) "RoundVotes$Node" "decisions" "LRoundVotes$Decisions;") ∈ mTb := mIn2 (List.mem_of_getElem? (i := 40) rfl) rfl
theorem tb_281 : (Jvm.Cond.fieldLink "RoundVotes$Node" (78 : Nat) "RoundVotes$Node" "present" "LRoundVotes$Ballots;") ∈ mTb := mIn2 (List.mem_of_getElem? (i := 41) rfl) rfl
theorem tb_282 : (Jvm.Cond.fieldLink "RoundVotes" (165 : Nat) "RoundVotes$Node" "present" "LRoundVotes$Ballots;") ∈ mTb := mIn2 (List.mem_of_getElem? (i := 42) rfl) rfl
theorem tb_283 : (Jvm.Cond.fieldLink "RoundVotes$Node" (81 : Nat) "RoundVotes$Node" "next" "LRoundVotes$Ballots;") ∈ mTb := mIn2 (List.mem_of_getElem? (i := 43) rfl) rfl
theorem tb_284 : (Jvm.Cond.fieldLink "RoundVotes$Node" (48 : Nat) "RoundVotes$Node" "signed" "LRoundVotes$Ballots;") ∈ mTb := mIn2 (List.mem_of_getElem? (i := 44) rfl) rfl
theorem tb_285 : (Jvm.Cond.fieldLink "RoundVotes$Node" (55 : Nat) "RoundVotes$Node" "sendings" "LRoundVotes$Sendings;") ∈ mTb := mIn2 (List.mem_of_getElem? (i := 45) rfl) rfl
theorem tb_286 : (Jvm.Cond.fieldLink "RoundVotes" (156 : Nat) "RoundVotes$Node" "sendings" "LRoundVotes$Sendings;") ∈ mTb := mIn2 (List.mem_of_getElem? (i := 46) rfl) rfl
theorem tb_287 : (Jvm.Cond.fieldLink "RoundVotes$Node" (62 : Nat) "RoundVotes$Node" "outgoing" "LRoundVotes$Message;") ∈ mTb := mIn2 (List.mem_of_getElem? (i := 47) rfl) rfl
theorem tb_288 : (Jvm.Cond.fieldLink "RoundVotes" (277 : Nat) "RoundVotes$Node" "outgoing" "LRoundVotes$Message;") ∈ mTb := mIn2 (List.mem_of_getElem? (i := 48) rfl) rfl
theorem tb_289 : (Jvm.Cond.fieldLink "RoundVotes$Node" (143 : Nat) "RoundVotes$Node" "hasToSend" "Z") ∈ mTb := mIn2 (List.mem_of_getElem? (i := 49) rfl) rfl
theorem tb_290 : (Jvm.Cond.fieldLink "RoundVotes" (274 : Nat) "RoundVotes$Node" "hasToSend" "Z") ∈ mTb := mIn2 (List.mem_of_getElem? (i := 50) rfl) rfl
theorem tb_291 : (Jvm.Cond.laysFinal "RoundVotes$Node" "RoundVotes$Node" "number" "I") ∈ mTb := mIn2 (List.mem_of_getElem? (i := 51) rfl) rfl
theorem tb_293 : (Jvm.Cond.laysFinal "RoundVotes$Node" "RoundVotes$Node" "setup" "LRoundVotes$Setup;") ∈ mTb := mIn2 (List.mem_of_getElem? (i := 53) rfl) rfl
theorem tb_295 : (Jvm.Cond.lays "RoundVotes$Node" "RoundVotes$Node" "height" "I") ∈ mTb := mIn2 (List.mem_of_getElem? (i := 55) rfl) rfl
theorem tb_297 : (Jvm.Cond.lays "RoundVotes$Node" "RoundVotes$Node" "round" "I") ∈ mTb := mIn2 (List.mem_of_getElem? (i := 57) rfl) rfl
theorem tb_299 : (Jvm.Cond.lays "RoundVotes$Node" "RoundVotes$Node" "step" "I") ∈ mTb := mIn2 (List.mem_of_getElem? (i := 59) rfl) rfl
theorem tb_301 : (Jvm.Cond.laysFinal "RoundVotes$Node" "RoundVotes$Node" "locked" "LRoundVotes$Choice;") ∈ mTb := mIn2 (List.mem_of_getElem? (i := 61) rfl) rfl
theorem tb_303 : (Jvm.Cond.laysFinal "RoundVotes$Node" "RoundVotes$Node" "valid" "LRoundVotes$Choice;") ∈ mTb := mIn2 (List.mem_of_getElem? (i := 63) rfl) rfl
theorem tb_305 : (Jvm.Cond.lays "RoundVotes$Node" "RoundVotes$Node" "behaviour" "I") ∈ mTb := mIn2 (List.mem_of_getElem? (i := 65) rfl) rfl
theorem tb_307 : (Jvm.Cond.lays "RoundVotes$Node" "RoundVotes$Node" "lastCutTurn" "I") ∈ mTb := mIn2 (List.mem_of_getElem? (i := 67) rfl) rfl
theorem tb_309 : (Jvm.Cond.laysFinal "RoundVotes$Node" "RoundVotes$Node" "timers" "[I") ∈ mTb := mIn2 (List.mem_of_getElem? (i := 69) rfl) rfl
theorem tb_311 : (Jvm.Cond.laysFinal "RoundVotes$Node" "RoundVotes$Node" "once" "[Z") ∈ mTb := mIn2 (List.mem_of_getElem? (i := 71) rfl) rfl
theorem tb_313 : (Jvm.Cond.laysFinal "RoundVotes$Node" "RoundVotes$Node" "decisions" "LRoundVotes$Decisions;") ∈ mTb := mIn2 (List.mem_of_getElem? (i := 73) rfl) rfl
theorem tb_315 : (Jvm.Cond.lays "RoundVotes$Node" "RoundVotes$Node" "present" "LRoundVotes$Ballots;") ∈ mTb := mIn2 (List.mem_of_getElem? (i := 75) rfl) rfl
theorem tb_317 : (Jvm.Cond.lays "RoundVotes$Node" "RoundVotes$Node" "next" "LRoundVotes$Ballots;") ∈ mTb := mIn2 (List.mem_of_getElem? (i := 77) rfl) rfl
theorem tb_319 : (Jvm.Cond.laysFinal "RoundVotes$Node" "RoundVotes$Node" "signed" "LRoundVotes$Ballots;") ∈ mTb := mIn2 (List.mem_of_getElem? (i := 79) rfl) rfl
theorem tb_321 : (Jvm.Cond.laysFinal "RoundVotes$Node" "RoundVotes$Node" "sendings" "LRoundVotes$Sendings;") ∈ mTb := mIn2 (List.mem_of_getElem? (i := 81) rfl) rfl
theorem tb_323 : (Jvm.Cond.laysFinal "RoundVotes$Node" "RoundVotes$Node" "outgoing" "LRoundVotes$Message;") ∈ mTb := mIn2 (List.mem_of_getElem? (i := 83) rfl) rfl
theorem tb_325 : (Jvm.Cond.lays "RoundVotes$Node" "RoundVotes$Node" "hasToSend" "Z") ∈ mTb := mIn2 (List.mem_of_getElem? (i := 85) rfl) rfl
theorem tb_328 : (Jvm.Cond.fieldLink "RoundVotes" (35 : Nat) "RoundVotes" "setup" "LRoundVotes$Setup;") ∈ mTb := mIn2 (List.mem_of_getElem? (i := 88) rfl) rfl
theorem tb_329 : (Jvm.Cond.fieldLink "RoundVotes" (45 : Nat) "RoundVotes" "nodes" "[LRoundVotes$Node;") ∈ mTb := mIn2 (List.mem_of_getElem? (i := 89) rfl) rfl
theorem tb_330 : (Jvm.Cond.fieldLink "RoundVotes" (10 : Nat) "RoundVotes" "mail" "LRoundVotes$Mail;") ∈ mTb := mIn2 (List.mem_of_getElem? (i := 90) rfl) rfl
theorem tb_331 : (Jvm.Cond.fieldLink "RoundVotes" (19 : Nat) "RoundVotes" "told" "LRoundVotes$Told;") ∈ mTb := mIn2 (List.mem_of_getElem? (i := 91) rfl) rfl
theorem tb_332 : (Jvm.Cond.fieldLink "RoundVotes" (26 : Nat) "RoundVotes" "faults" "LRoundVotes$Faults;") ∈ mTb := mIn2 (List.mem_of_getElem? (i := 92) rfl) rfl
theorem tb_333 : (Jvm.Cond.fieldLink "RoundVotes" (57 : Nat) "RoundVotes" "time" "I") ∈ mTb := mIn2 (List.mem_of_getElem? (i := 93) rfl) rfl
theorem tb_334 : (Jvm.Cond.fieldLink "RoundVotes" (71 : Nat) "RoundVotes" "gone" "I") ∈ mTb := mIn2 (List.mem_of_getElem? (i := 94) rfl) rfl
theorem tb_335 : (Jvm.Cond.fieldLink "RoundVotes" (211 : Nat) "RoundVotes" "came" "I") ∈ mTb := mIn2 (List.mem_of_getElem? (i := 95) rfl) rfl
theorem tb_336 : (Jvm.Cond.fieldLink "RoundVotes" (214 : Nat) "RoundVotes" "lost" "I") ∈ mTb := mIn2 (List.mem_of_getElem? (i := 96) rfl) rfl
theorem tb_337 : (Jvm.Cond.fieldLink "RoundVotes" (83 : Nat) "RoundVotes" "sideBits" "I") ∈ mTb := mIn2 (List.mem_of_getElem? (i := 97) rfl) rfl
theorem tb_338 : (Jvm.Cond.fieldLink "RoundVotes" (86 : Nat) "RoundVotes" "firstSideTurn" "I") ∈ mTb := mIn2 (List.mem_of_getElem? (i := 98) rfl) rfl
theorem tb_339 : (Jvm.Cond.fieldLink "RoundVotes" (89 : Nat) "RoundVotes" "lastSideTurn" "I") ∈ mTb := mIn2 (List.mem_of_getElem? (i := 99) rfl) rfl
theorem tb_340 : (Jvm.Cond.laysFinal "RoundVotes" "RoundVotes" "setup" "LRoundVotes$Setup;") ∈ mTb := mIn2 (List.mem_of_getElem? (i := 100) rfl) rfl
theorem tb_342 : (Jvm.Cond.laysFinal "RoundVotes" "RoundVotes" "nodes" "[LRoundVotes$Node;") ∈ mTb := mIn2 (List.mem_of_getElem? (i := 102) rfl) rfl
theorem tb_344 : (Jvm.Cond.laysFinal "RoundVotes" "RoundVotes" "mail" "LRoundVotes$Mail;") ∈ mTb := mIn2 (List.mem_of_getElem? (i := 104) rfl) rfl
theorem tb_346 : (Jvm.Cond.laysFinal "RoundVotes" "RoundVotes" "told" "LRoundVotes$Told;") ∈ mTb := mIn2 (List.mem_of_getElem? (i := 106) rfl) rfl
theorem tb_348 : (Jvm.Cond.laysFinal "RoundVotes" "RoundVotes" "faults" "LRoundVotes$Faults;") ∈ mTb := mIn2 (List.mem_of_getElem? (i := 108) rfl) rfl
theorem tb_350 : (Jvm.Cond.lays "RoundVotes" "RoundVotes" "time" "I") ∈ mTb := mIn2 (List.mem_of_getElem? (i := 110) rfl) rfl
theorem tb_352 : (Jvm.Cond.lays "RoundVotes" "RoundVotes" "gone" "I") ∈ mTb := mIn2 (List.mem_of_getElem? (i := 112) rfl) rfl
theorem tb_354 : (Jvm.Cond.lays "RoundVotes" "RoundVotes" "came" "I") ∈ mTb := mIn2 (List.mem_of_getElem? (i := 114) rfl) rfl
theorem tb_356 : (Jvm.Cond.lays "RoundVotes" "RoundVotes" "lost" "I") ∈ mTb := mIn2 (List.mem_of_getElem? (i := 116) rfl) rfl
theorem tb_358 : (Jvm.Cond.lays "RoundVotes" "RoundVotes" "sideBits" "I") ∈ mTb := mIn2 (List.mem_of_getElem? (i := 118) rfl) rfl
theorem tb_360 : (Jvm.Cond.lays "RoundVotes" "RoundVotes" "firstSideTurn" "I") ∈ mTb := mIn2 (List.mem_of_getElem? (i := 120) rfl) rfl
theorem tb_362 : (Jvm.Cond.lays "RoundVotes" "RoundVotes" "lastSideTurn" "I") ∈ mTb := mIn2 (List.mem_of_getElem? (i := 122) rfl) rfl
theorem tb_365 : (Jvm.Cond.methodLink "RoundVotesLaw" (21 : Nat) ({ cls := "RoundVotes", name := "weight", desc := "(II)I" } : Jvm.MethodName)) ∈ mTb := mIn2 (List.mem_of_getElem? (i := 125) rfl) rfl
theorem tb_366 : (Jvm.Cond.instanceMethod ({ cls := "RoundVotes", name := "weight", desc := "(II)I" } : Jvm.MethodName)) ∈ mTb := mIn2 (List.mem_of_getElem? (i := 126) rfl) rfl
theorem tb_367 : (Jvm.Cond.selects "RoundVotes" ({ cls := "RoundVotes", name := "weight", desc := "(II)I" } : Jvm.MethodName) ({ cls := "RoundVotes", name := "weight", desc := "(II)I" } : Jvm.MethodName)) ∈ mTb := mIn2 (List.mem_of_getElem? (i := 127) rfl) rfl
theorem tb_368 : (Jvm.Cond.code ({ cls := "RoundVotes", name := "weight", desc := "(II)I" } : Jvm.MethodName) prog_1_method_2_code (4 : Nat) (Option.some Jvm.ClassFile.FieldType.int)) ∈ mTb := mIn2 (List.mem_of_getElem? (i := 128) rfl) rfl
theorem tb_369 : (Jvm.Cond.methodLink "RoundVotes" (52 : Nat) ({ cls := "RoundVotes", name := "isNode", desc := "(I)Z" } : Jvm.MethodName)) ∈ mTb := mIn2 (List.mem_of_getElem? (i := 129) rfl) rfl
theorem tb_371 : (Jvm.Cond.instanceMethod ({ cls := "RoundVotes", name := "isNode", desc := "(I)Z" } : Jvm.MethodName)) ∈ mTb := mIn2 (List.mem_of_getElem? (i := 131) rfl) rfl
theorem tb_372 : (Jvm.Cond.code ({ cls := "RoundVotes", name := "isNode", desc := "(I)Z" } : Jvm.MethodName) prog_1_method_17_code (2 : Nat) (Option.some Jvm.ClassFile.FieldType.boolean)) ∈ mTb := mIn2 (List.mem_of_getElem? (i := 132) rfl) rfl
theorem tb_373 : (Jvm.Cond.constant "RoundVotes" (56 : Nat) (1000000 : Int32)) ∈ mTb := mIn2 (List.mem_of_getElem? (i := 133) rfl) rfl
theorem tb_374 : (Jvm.Cond.methodLink "RoundVotes" (60 : Nat) ({ cls := "RoundVotes", name := "greatestHeight", desc := "()I" } : Jvm.MethodName)) ∈ mTb := mIn2 (List.mem_of_getElem? (i := 134) rfl) rfl
theorem tb_376 : (Jvm.Cond.instanceMethod ({ cls := "RoundVotes", name := "greatestHeight", desc := "()I" } : Jvm.MethodName)) ∈ mTb := mIn2 (List.mem_of_getElem? (i := 136) rfl) rfl
theorem tb_377 : (Jvm.Cond.code ({ cls := "RoundVotes", name := "greatestHeight", desc := "()I" } : Jvm.MethodName) prog_1_method_19_code (3 : Nat) (Option.some Jvm.ClassFile.FieldType.int)) ∈ mTb := mIn2 (List.mem_of_getElem? (i := 137) rfl) rfl
theorem tb_378 : (Jvm.Cond.methodLink "RoundVotes" (147 : Nat) ({ cls := "java/lang/Math", name := "max", desc := "(II)I" } : Jvm.MethodName)) ∈ mTb := mIn2 (List.mem_of_getElem? (i := 138) rfl) rfl
theorem tb_379 : (Jvm.Cond.methodLink "RoundVotes" (64 : Nat) ({ cls := "RoundVotes$Setup", name := "changeWeight", desc := "(III)V" } : Jvm.MethodName)) ∈ mTb := mIn2 (List.mem_of_getElem? (i := 139) rfl) rfl
theorem tb_380 : (Jvm.Cond.instanceMethod ({ cls := "RoundVotes$Setup", name := "changeWeight", desc := "(III)V" } : Jvm.MethodName)) ∈ mTb := mIn2 (List.mem_of_getElem? (i := 140) rfl) rfl
theorem tb_381 : (Jvm.Cond.selects "RoundVotes$Setup" ({ cls := "RoundVotes$Setup", name := "changeWeight", desc := "(III)V" } : Jvm.MethodName) ({ cls := "RoundVotes$Setup", name := "changeWeight", desc := "(III)V" } : Jvm.MethodName)) ∈ mTb := mIn2 (List.mem_of_getElem? (i := 141) rfl) rfl
theorem tb_382 : (Jvm.Cond.code ({ cls := "RoundVotes$Setup", name := "changeWeight", desc := "(III)V" } : Jvm.MethodName) prog_10_method_2_code (5 : Nat) (Option.none : Option Jvm.ClassFile.FieldType)) ∈ mTb := mIn2 (List.mem_of_getElem? (i := 142) rfl) rfl
theorem tb_383 : (Jvm.Cond.methodLink "RoundVotesLaw" (26 : Nat) ({ cls := "RoundVotes", name := "behave", desc := "(II)I" } : Jvm.MethodName)) ∈ mTb := mIn2 (List.mem_of_getElem? (i := 143) rfl) rfl
theorem tb_384 : (Jvm.Cond.instanceMethod ({ cls := "RoundVotes", name := "behave", desc := "(II)I" } : Jvm.MethodName)) ∈ mTb := mIn2 (List.mem_of_getElem? (i := 144) rfl) rfl
theorem tb_385 : (Jvm.Cond.selects "RoundVotes" ({ cls := "RoundVotes", name := "behave", desc := "(II)I" } : Jvm.MethodName) ({ cls := "RoundVotes", name := "behave", desc := "(II)I" } : Jvm.MethodName)) ∈ mTb := mIn2 (List.mem_of_getElem? (i := 145) rfl) rfl
theorem tb_386 : (Jvm.Cond.code ({ cls := "RoundVotes", name := "behave", desc := "(II)I" } : Jvm.MethodName) prog_1_method_3_code (4 : Nat) (Option.some Jvm.ClassFile.FieldType.int)) ∈ mTb := mIn2 (List.mem_of_getElem? (i := 146) rfl) rfl
theorem tb_387 : (Jvm.Cond.methodLink "RoundVotesLaw" (30 : Nat) ({ cls := "RoundVotes", name := "disturb", desc := "(III)I" } : Jvm.MethodName)) ∈ mTb := mIn2 (List.mem_of_getElem? (i := 147) rfl) rfl
theorem tb_388 : (Jvm.Cond.instanceMethod ({ cls := "RoundVotes", name := "disturb", desc := "(III)I" } : Jvm.MethodName)) ∈ mTb := mIn2 (List.mem_of_getElem? (i := 148) rfl) rfl
theorem tb_389 : (Jvm.Cond.selects "RoundVotes" ({ cls := "RoundVotes", name := "disturb", desc := "(III)I" } : Jvm.MethodName) ({ cls := "RoundVotes", name := "disturb", desc := "(III)I" } : Jvm.MethodName)) ∈ mTb := mIn2 (List.mem_of_getElem? (i := 149) rfl) rfl
theorem tb_390 : (Jvm.Cond.code ({ cls := "RoundVotes", name := "disturb", desc := "(III)I" } : Jvm.MethodName) prog_1_method_4_code (4 : Nat) (Option.some Jvm.ClassFile.FieldType.int)) ∈ mTb := mIn2 (List.mem_of_getElem? (i := 150) rfl) rfl
theorem tb_391 : (Jvm.Cond.methodLink "RoundVotes" (74 : Nat) ({ cls := "RoundVotes$Told", name := "find", desc := "(I)I" } : Jvm.MethodName)) ∈ mTb := mIn2 (List.mem_of_getElem? (i := 151) rfl) rfl
theorem tb_392 : (Jvm.Cond.instanceMethod ({ cls := "RoundVotes$Told", name := "find", desc := "(I)I" } : Jvm.MethodName)) ∈ mTb := mIn2 (List.mem_of_getElem? (i := 152) rfl) rfl
theorem tb_393 : (Jvm.Cond.selects "RoundVotes$Told" ({ cls := "RoundVotes$Told", name := "find", desc := "(I)I" } : Jvm.MethodName) ({ cls := "RoundVotes$Told", name := "find", desc := "(I)I" } : Jvm.MethodName)) ∈ mTb := mIn2 (List.mem_of_getElem? (i := 153) rfl) rfl
theorem tb_394 : (Jvm.Cond.code ({ cls := "RoundVotes$Told", name := "find", desc := "(I)I" } : Jvm.MethodName) prog_11_method_2_code (3 : Nat) (Option.some Jvm.ClassFile.FieldType.int)) ∈ mTb := mIn2 (List.mem_of_getElem? (i := 154) rfl) rfl
theorem tb_395 : (Jvm.Cond.methodLink "RoundVotes" (78 : Nat) ({ cls := "RoundVotes$Told", name := "add", desc := "(III)Z" } : Jvm.MethodName)) ∈ mTb := mIn2 (List.mem_of_getElem? (i := 155) rfl) rfl
theorem tb_396 : (Jvm.Cond.instanceMethod ({ cls := "RoundVotes$Told", name := "add", desc := "(III)Z" } : Jvm.MethodName)) ∈ mTb := mIn2 (List.mem_of_getElem? (i := 156) rfl) rfl
theorem tb_397 : (Jvm.Cond.selects "RoundVotes$Told" ({ cls := "RoundVotes$Told", name := "add", desc := "(III)Z" } : Jvm.MethodName) ({ cls := "RoundVotes$Told", name := "add", desc := "(III)Z" } : Jvm.MethodName)) ∈ mTb := mIn2 (List.mem_of_getElem? (i := 157) rfl) rfl
theorem tb_398 : (Jvm.Cond.code ({ cls := "RoundVotes$Told", name := "add", desc := "(III)Z" } : Jvm.MethodName) prog_11_method_3_code (4 : Nat) (Option.some Jvm.ClassFile.FieldType.boolean)) ∈ mTb := mIn2 (List.mem_of_getElem? (i := 158) rfl) rfl
theorem tb_399 : (Jvm.Cond.methodLink "RoundVotesLaw" (35 : Nat) ({ cls := "RoundVotes", name := "sides", desc := "(II)I" } : Jvm.MethodName)) ∈ mTb := mIn2 (List.mem_of_getElem? (i := 159) rfl) rfl
theorem tb_400 : (Jvm.Cond.instanceMethod ({ cls := "RoundVotes", name := "sides", desc := "(II)I" } : Jvm.MethodName)) ∈ mTb := mIn2 (List.mem_of_getElem? (i := 160) rfl) rfl
theorem tb_401 : (Jvm.Cond.selects "RoundVotes" ({ cls := "RoundVotes", name := "sides", desc := "(II)I" } : Jvm.MethodName) ({ cls := "RoundVotes", name := "sides", desc := "(II)I" } : Jvm.MethodName)) ∈ mTb := mIn2 (List.mem_of_getElem? (i := 161) rfl) rfl
theorem tb_402 : (Jvm.Cond.code ({ cls := "RoundVotes", name := "sides", desc := "(II)I" } : Jvm.MethodName) prog_1_method_5_code (3 : Nat) (Option.some Jvm.ClassFile.FieldType.int)) ∈ mTb := mIn2 (List.mem_of_getElem? (i := 162) rfl) rfl
theorem tb_403 : (Jvm.Cond.methodLink "RoundVotesLaw" (39 : Nat) ({ cls := "RoundVotes", name := "cut", desc := "(II)I" } : Jvm.MethodName)) ∈ mTb := mIn2 (List.mem_of_getElem? (i := 163) rfl) rfl
theorem tb_404 : (Jvm.Cond.instanceMethod ({ cls := "RoundVotes", name := "cut", desc := "(II)I" } : Jvm.MethodName)) ∈ mTb := mIn2 (List.mem_of_getElem? (i := 164) rfl) rfl
theorem tb_405 : (Jvm.Cond.selects "RoundVotes" ({ cls := "RoundVotes", name := "cut", desc := "(II)I" } : Jvm.MethodName) ({ cls := "RoundVotes", name := "cut", desc := "(II)I" } : Jvm.MethodName)) ∈ mTb := mIn2 (List.mem_of_getElem? (i := 165) rfl) rfl
theorem tb_406 : (Jvm.Cond.code ({ cls := "RoundVotes", name := "cut", desc := "(II)I" } : Jvm.MethodName) prog_1_method_6_code (3 : Nat) (Option.some Jvm.ClassFile.FieldType.int)) ∈ mTb := mIn2 (List.mem_of_getElem? (i := 166) rfl) rfl
theorem tb_407 : (Jvm.Cond.methodLink "RoundVotes" (92 : Nat) ({ cls := "RoundVotes$Node", name := "isCut", desc := "()Z" } : Jvm.MethodName)) ∈ mTb := mIn2 (List.mem_of_getElem? (i := 167) rfl) rfl
theorem tb_408 : (Jvm.Cond.instanceMethod ({ cls := "RoundVotes$Node", name := "isCut", desc := "()Z" } : Jvm.MethodName)) ∈ mTb := mIn2 (List.mem_of_getElem? (i := 168) rfl) rfl
theorem tb_409 : (Jvm.Cond.selects "RoundVotes$Node" ({ cls := "RoundVotes$Node", name := "isCut", desc := "()Z" } : Jvm.MethodName) ({ cls := "RoundVotes$Node", name := "isCut", desc := "()Z" } : Jvm.MethodName)) ∈ mTb := mIn2 (List.mem_of_getElem? (i := 169) rfl) rfl
theorem tb_410 : (Jvm.Cond.code ({ cls := "RoundVotes$Node", name := "isCut", desc := "()Z" } : Jvm.MethodName) prog_8_method_2_code (1 : Nat) (Option.some Jvm.ClassFile.FieldType.boolean)) ∈ mTb := mIn2 (List.mem_of_getElem? (i := 170) rfl) rfl
theorem tb_411 : (Jvm.Cond.methodLink "RoundVotesLaw" (43 : Nat) ({ cls := "RoundVotes", name := "turn", desc := "(I)I" } : Jvm.MethodName)) ∈ mTb := mIn2 (List.mem_of_getElem? (i := 171) rfl) rfl
theorem tb_412 : (Jvm.Cond.instanceMethod ({ cls := "RoundVotes", name := "turn", desc := "(I)I" } : Jvm.MethodName)) ∈ mTb := mIn2 (List.mem_of_getElem? (i := 172) rfl) rfl
theorem tb_413 : (Jvm.Cond.selects "RoundVotes" ({ cls := "RoundVotes", name := "turn", desc := "(I)I" } : Jvm.MethodName) ({ cls := "RoundVotes", name := "turn", desc := "(I)I" } : Jvm.MethodName)) ∈ mTb := mIn2 (List.mem_of_getElem? (i := 173) rfl) rfl
theorem tb_414 : (Jvm.Cond.code ({ cls := "RoundVotes", name := "turn", desc := "(I)I" } : Jvm.MethodName) prog_1_method_7_code (3 : Nat) (Option.some Jvm.ClassFile.FieldType.int)) ∈ mTb := mIn2 (List.mem_of_getElem? (i := 174) rfl) rfl
theorem tb_415 : (Jvm.Cond.methodLink "RoundVotes" (99 : Nat) ({ cls := "RoundVotes", name := "beginAll", desc := "()V" } : Jvm.MethodName)) ∈ mTb := mIn2 (List.mem_of_getElem? (i := 175) rfl) rfl
theorem tb_417 : (Jvm.Cond.instanceMethod ({ cls := "RoundVotes", name := "beginAll", desc := "()V" } : Jvm.MethodName)) ∈ mTb := mIn2 (List.mem_of_getElem? (i := 177) rfl) rfl
theorem tb_418 : (Jvm.Cond.code ({ cls := "RoundVotes", name := "beginAll", desc := "()V" } : Jvm.MethodName) prog_1_method_22_code (2 : Nat) (Option.none : Option Jvm.ClassFile.FieldType)) ∈ mTb := mIn2 (List.mem_of_getElem? (i := 178) rfl) rfl
theorem tb_419 : (Jvm.Cond.methodLink "RoundVotes" (122 : Nat) ({ cls := "RoundVotes$Node", name := "begin", desc := "(II)V" } : Jvm.MethodName)) ∈ mTb := mIn2 (List.mem_of_getElem? (i := 179) rfl) rfl
theorem tb_420 : (Jvm.Cond.instanceMethod ({ cls := "RoundVotes$Node", name := "begin", desc := "(II)V" } : Jvm.MethodName)) ∈ mTb := mIn2 (List.mem_of_getElem? (i := 180) rfl) rfl
theorem tb_421 : (Jvm.Cond.selects "RoundVotes$Node" ({ cls := "RoundVotes$Node", name := "begin", desc := "(II)V" } : Jvm.MethodName) ({ cls := "RoundVotes$Node", name := "begin", desc := "(II)V" } : Jvm.MethodName)) ∈ mTb := mIn2 (List.mem_of_getElem? (i := 181) rfl) rfl
theorem tb_422 : (Jvm.Cond.code ({ cls := "RoundVotes$Node", name := "begin", desc := "(II)V" } : Jvm.MethodName) prog_8_method_4_code (4 : Nat) (Option.none : Option Jvm.ClassFile.FieldType)) ∈ mTb := mIn2 (List.mem_of_getElem? (i := 182) rfl) rfl
theorem tb_423 : (Jvm.Cond.methodLink "RoundVotes$Node" (90 : Nat) ({ cls := "RoundVotes$Node", name := "standsStill", desc := "()Z" } : Jvm.MethodName)) ∈ mTb := mIn2 (List.mem_of_getElem? (i := 183) rfl) rfl
theorem tb_425 : (Jvm.Cond.instanceMethod ({ cls := "RoundVotes$Node", name := "standsStill", desc := "()Z" } : Jvm.MethodName)) ∈ mTb := mIn2 (List.mem_of_getElem? (i := 185) rfl) rfl
theorem tb_426 : (Jvm.Cond.code ({ cls := "RoundVotes$Node", name := "standsStill", desc := "()Z" } : Jvm.MethodName) prog_8_method_3_code (1 : Nat) (Option.some Jvm.ClassFile.FieldType.boolean)) ∈ mTb := mIn2 (List.mem_of_getElem? (i := 186) rfl) rfl
theorem tb_427 : (Jvm.Cond.methodLink "RoundVotes$Node" (94 : Nat) ({ cls := "RoundVotes$Setup", name := "proposer", desc := "(II)I" } : Jvm.MethodName)) ∈ mTb := mIn2 (List.mem_of_getElem? (i := 187) rfl) rfl
theorem tb_428 : (Jvm.Cond.instanceMethod ({ cls := "RoundVotes$Setup", name := "proposer", desc := "(II)I" } : Jvm.MethodName)) ∈ mTb := mIn2 (List.mem_of_getElem? (i := 188) rfl) rfl
theorem tb_429 : (Jvm.Cond.selects "RoundVotes$Setup" ({ cls := "RoundVotes$Setup", name := "proposer", desc := "(II)I" } : Jvm.MethodName) ({ cls := "RoundVotes$Setup", name := "proposer", desc := "(II)I" } : Jvm.MethodName)) ∈ mTb := mIn2 (List.mem_of_getElem? (i := 189) rfl) rfl
theorem tb_430 : (Jvm.Cond.code ({ cls := "RoundVotes$Setup", name := "proposer", desc := "(II)I" } : Jvm.MethodName) prog_10_method_4_code (3 : Nat) (Option.some Jvm.ClassFile.FieldType.int)) ∈ mTb := mIn2 (List.mem_of_getElem? (i := 190) rfl) rfl
theorem tb_431 : (Jvm.Cond.methodLink "RoundVotes$Node" (98 : Nat) ({ cls := "RoundVotes$Choice", name := "isNone", desc := "()Z" } : Jvm.MethodName)) ∈ mTb := mIn2 (List.mem_of_getElem? (i := 191) rfl) rfl
theorem tb_432 : (Jvm.Cond.instanceMethod ({ cls := "RoundVotes$Choice", name := "isNone", desc := "()Z" } : Jvm.MethodName)) ∈ mTb := mIn2 (List.mem_of_getElem? (i := 192) rfl) rfl
theorem tb_433 : (Jvm.Cond.selects "RoundVotes$Choice" ({ cls := "RoundVotes$Choice", name := "isNone", desc := "()Z" } : Jvm.MethodName) ({ cls := "RoundVotes$Choice", name := "isNone", desc := "()Z" } : Jvm.MethodName)) ∈ mTb := mIn2 (List.mem_of_getElem? (i := 193) rfl) rfl
theorem tb_434 : (Jvm.Cond.code ({ cls := "RoundVotes$Choice", name := "isNone", desc := "()Z" } : Jvm.MethodName) prog_3_method_3_code (1 : Nat) (Option.some Jvm.ClassFile.FieldType.boolean)) ∈ mTb := mIn2 (List.mem_of_getElem? (i := 194) rfl) rfl
theorem tb_435 : (Jvm.Cond.methodLink "RoundVotes$Node" (101 : Nat) ({ cls := "RoundVotes$Setup", name := "ownValue", desc := "(III)I" } : Jvm.MethodName)) ∈ mTb := mIn2 (List.mem_of_getElem? (i := 195) rfl) rfl
theorem tb_436 : (Jvm.Cond.instanceMethod ({ cls := "RoundVotes$Setup", name := "ownValue", desc := "(III)I" } : Jvm.MethodName)) ∈ mTb := mIn2 (List.mem_of_getElem? (i := 196) rfl) rfl
theorem tb_437 : (Jvm.Cond.selects "RoundVotes$Setup" ({ cls := "RoundVotes$Setup", name := "ownValue", desc := "(III)I" } : Jvm.MethodName) ({ cls := "RoundVotes$Setup", name := "ownValue", desc := "(III)I" } : Jvm.MethodName)) ∈ mTb := mIn2 (List.mem_of_getElem? (i := 197) rfl) rfl
theorem tb_438 : (Jvm.Cond.code ({ cls := "RoundVotes$Setup", name := "ownValue", desc := "(III)I" } : Jvm.MethodName) prog_10_method_5_code (5 : Nat) (Option.some Jvm.ClassFile.FieldType.int)) ∈ mTb := mIn2 (List.mem_of_getElem? (i := 198) rfl) rfl
theorem tb_439 : (Jvm.Cond.constant "RoundVotes$Setup" (42 : Nat) (104729 : Int32)) ∈ mTb := mIn2 (List.mem_of_getElem? (i := 199) rfl) rfl
theorem tb_440 : (Jvm.Cond.constant "RoundVotes$Setup" (43 : Nat) (1299709 : Int32)) ∈ mTb := mIn2 (List.mem_of_getElem? (i := 200) rfl) rfl
theorem tb_441 : (Jvm.Cond.constant "RoundVotes$Setup" (44 : Nat) (1048575 : Int32)) ∈ mTb := mIn2 (List.mem_of_getElem? (i := 201) rfl) rfl
theorem tb_442 : (Jvm.Cond.methodLink "RoundVotes$Node" (105 : Nat) ({ cls := "RoundVotes$Node", name := "send", desc := "(III)V" } : Jvm.MethodName)) ∈ mTb := mIn2 (List.mem_of_getElem? (i := 202) rfl) rfl
theorem tb_444 : (Jvm.Cond.instanceMethod ({ cls := "RoundVotes$Node", name := "send", desc := "(III)V" } : Jvm.MethodName)) ∈ mTb := mIn2 (List.mem_of_getElem? (i := 204) rfl) rfl
theorem tb_445 : (Jvm.Cond.code ({ cls := "RoundVotes$Node", name := "send", desc := "(III)V" } : Jvm.MethodName) prog_8_method_7_code (6 : Nat) (Option.none : Option Jvm.ClassFile.FieldType)) ∈ mTb := mIn2 (List.mem_of_getElem? (i := 205) rfl) rfl
theorem tb_446 : (Jvm.Cond.methodLink "RoundVotes$Node" (116 : Nat) ({ cls := "RoundVotes$Ballots", name := "holds", desc := "(III)Z" } : Jvm.MethodName)) ∈ mTb := mIn2 (List.mem_of_getElem? (i := 206) rfl) rfl
theorem tb_447 : (Jvm.Cond.instanceMethod ({ cls := "RoundVotes$Ballots", name := "holds", desc := "(III)Z" } : Jvm.MethodName)) ∈ mTb := mIn2 (List.mem_of_getElem? (i := 207) rfl) rfl
theorem tb_448 : (Jvm.Cond.selects "RoundVotes$Ballots" ({ cls := "RoundVotes$Ballots", name := "holds", desc := "(III)Z" } : Jvm.MethodName) ({ cls := "RoundVotes$Ballots", name := "holds", desc := "(III)Z" } : Jvm.MethodName)) ∈ mTb := mIn2 (List.mem_of_getElem? (i := 208) rfl) rfl
theorem tb_449 : (Jvm.Cond.code ({ cls := "RoundVotes$Ballots", name := "holds", desc := "(III)Z" } : Jvm.MethodName) prog_2_method_4_code (4 : Nat) (Option.some Jvm.ClassFile.FieldType.boolean)) ∈ mTb := mIn2 (List.mem_of_getElem? (i := 209) rfl) rfl
theorem tb_450 : (Jvm.Cond.methodLink "RoundVotes$Node" (120 : Nat) ({ cls := "RoundVotes$Ballots", name := "valueOf", desc := "(III)I" } : Jvm.MethodName)) ∈ mTb := mIn2 (List.mem_of_getElem? (i := 210) rfl) rfl
theorem tb_451 : (Jvm.Cond.instanceMethod ({ cls := "RoundVotes$Ballots", name := "valueOf", desc := "(III)I" } : Jvm.MethodName)) ∈ mTb := mIn2 (List.mem_of_getElem? (i := 211) rfl) rfl
theorem tb_452 : (Jvm.Cond.selects "RoundVotes$Ballots" ({ cls := "RoundVotes$Ballots", name := "valueOf", desc := "(III)I" } : Jvm.MethodName) ({ cls := "RoundVotes$Ballots", name := "valueOf", desc := "(III)I" } : Jvm.MethodName)) ∈ mTb := mIn2 (List.mem_of_getElem? (i := 212) rfl) rfl
theorem tb_453 : (Jvm.Cond.code ({ cls := "RoundVotes$Ballots", name := "valueOf", desc := "(III)I" } : Jvm.MethodName) prog_2_method_2_code (4 : Nat) (Option.some Jvm.ClassFile.FieldType.int)) ∈ mTb := mIn2 (List.mem_of_getElem? (i := 213) rfl) rfl
theorem tb_454 : (Jvm.Cond.methodLink "RoundVotes$Node" (123 : Nat) ({ cls := "RoundVotes$Ballots", name := "sinceOf", desc := "(I)I" } : Jvm.MethodName)) ∈ mTb := mIn2 (List.mem_of_getElem? (i := 214) rfl) rfl
theorem tb_455 : (Jvm.Cond.instanceMethod ({ cls := "RoundVotes$Ballots", name := "sinceOf", desc := "(I)I" } : Jvm.MethodName)) ∈ mTb := mIn2 (List.mem_of_getElem? (i := 215) rfl) rfl
theorem tb_456 : (Jvm.Cond.selects "RoundVotes$Ballots" ({ cls := "RoundVotes$Ballots", name := "sinceOf", desc := "(I)I" } : Jvm.MethodName) ({ cls := "RoundVotes$Ballots", name := "sinceOf", desc := "(I)I" } : Jvm.MethodName)) ∈ mTb := mIn2 (List.mem_of_getElem? (i := 216) rfl) rfl
theorem tb_457 : (Jvm.Cond.code ({ cls := "RoundVotes$Ballots", name := "sinceOf", desc := "(I)I" } : Jvm.MethodName) prog_2_method_3_code (2 : Nat) (Option.some Jvm.ClassFile.FieldType.int)) ∈ mTb := mIn2 (List.mem_of_getElem? (i := 217) rfl) rfl
theorem tb_458 : (Jvm.Cond.methodLink "RoundVotes$Node" (127 : Nat) ({ cls := "RoundVotes$Ballots", name := "put", desc := "(IIIII)V" } : Jvm.MethodName)) ∈ mTb := mIn2 (List.mem_of_getElem? (i := 218) rfl) rfl
theorem tb_459 : (Jvm.Cond.instanceMethod ({ cls := "RoundVotes$Ballots", name := "put", desc := "(IIIII)V" } : Jvm.MethodName)) ∈ mTb := mIn2 (List.mem_of_getElem? (i := 219) rfl) rfl
theorem tb_460 : (Jvm.Cond.selects "RoundVotes$Ballots" ({ cls := "RoundVotes$Ballots", name := "put", desc := "(IIIII)V" } : Jvm.MethodName) ({ cls := "RoundVotes$Ballots", name := "put", desc := "(IIIII)V" } : Jvm.MethodName)) ∈ mTb := mIn2 (List.mem_of_getElem? (i := 220) rfl) rfl
theorem tb_461 : (Jvm.Cond.code ({ cls := "RoundVotes$Ballots", name := "put", desc := "(IIIII)V" } : Jvm.MethodName) prog_2_method_5_code (6 : Nat) (Option.none : Option Jvm.ClassFile.FieldType)) ∈ mTb := mIn2 (List.mem_of_getElem? (i := 221) rfl) rfl
theorem tb_462 : (Jvm.Cond.methodLink "RoundVotes" (125 : Nat) ({ cls := "RoundVotes", name := "settle", desc := "(LRoundVotes$Node;)V" } : Jvm.MethodName)) ∈ mTb := mIn2 (List.mem_of_getElem? (i := 222) rfl) rfl
theorem tb_464 : (Jvm.Cond.instanceMethod ({ cls := "RoundVotes", name := "settle", desc := "(LRoundVotes$Node;)V" } : Jvm.MethodName)) ∈ mTb := mIn2 (List.mem_of_getElem? (i := 224) rfl) rfl
theorem tb_465 : (Jvm.Cond.code ({ cls := "RoundVotes", name := "settle", desc := "(LRoundVotes$Node;)V" } : Jvm.MethodName) prog_1_method_27_code (3 : Nat) (Option.none : Option Jvm.ClassFile.FieldType)) ∈ mTb := mIn2 (List.mem_of_getElem? (i := 225) rfl) rfl
theorem tb_466 : (Jvm.Cond.methodLink "RoundVotes" (268 : Nat) ({ cls := "RoundVotes", name := "dispatch", desc := "(LRoundVotes$Node;)V" } : Jvm.MethodName)) ∈ mTb := mIn2 (List.mem_of_getElem? (i := 226) rfl) rfl
theorem tb_468 : (Jvm.Cond.instanceMethod ({ cls := "RoundVotes", name := "dispatch", desc := "(LRoundVotes$Node;)V" } : Jvm.MethodName)) ∈ mTb := mIn2 (List.mem_of_getElem? (i := 228) rfl) rfl
theorem tb_469 : (Jvm.Cond.code ({ cls := "RoundVotes", name := "dispatch", desc := "(LRoundVotes$Node;)V" } : Jvm.MethodName) prog_1_method_28_code (8 : Nat) (Option.none : Option Jvm.ClassFile.FieldType)) ∈ mTb := mIn2 (List.mem_of_getElem? (i := 229) rfl) rfl
theorem tb_470 : (Jvm.Cond.methodLink "RoundVotes" (282 : Nat) ({ cls := "RoundVotes$Message", name := "otherValue", desc := "()I" } : Jvm.MethodName)) ∈ mTb := mIn2 (List.mem_of_getElem? (i := 230) rfl) rfl
theorem tb_471 : (Jvm.Cond.instanceMethod ({ cls := "RoundVotes$Message", name := "otherValue", desc := "()I" } : Jvm.MethodName)) ∈ mTb := mIn2 (List.mem_of_getElem? (i := 231) rfl) rfl
theorem tb_472 : (Jvm.Cond.selects "RoundVotes$Message" ({ cls := "RoundVotes$Message", name := "otherValue", desc := "()I" } : Jvm.MethodName) ({ cls := "RoundVotes$Message", name := "otherValue", desc := "()I" } : Jvm.MethodName)) ∈ mTb := mIn2 (List.mem_of_getElem? (i := 232) rfl) rfl
theorem tb_473 : (Jvm.Cond.code ({ cls := "RoundVotes$Message", name := "otherValue", desc := "()I" } : Jvm.MethodName) prog_7_method_3_code (1 : Nat) (Option.some Jvm.ClassFile.FieldType.int)) ∈ mTb := mIn2 (List.mem_of_getElem? (i := 233) rfl) rfl
theorem tb_474 : (Jvm.Cond.methodLink "RoundVotes" (285 : Nat) ({ cls := "RoundVotes$Node", name := "timesSending", desc := "()I" } : Jvm.MethodName)) ∈ mTb := mIn2 (List.mem_of_getElem? (i := 234) rfl) rfl
theorem tb_475 : (Jvm.Cond.instanceMethod ({ cls := "RoundVotes$Node", name := "timesSending", desc := "()I" } : Jvm.MethodName)) ∈ mTb := mIn2 (List.mem_of_getElem? (i := 235) rfl) rfl
theorem tb_476 : (Jvm.Cond.selects "RoundVotes$Node" ({ cls := "RoundVotes$Node", name := "timesSending", desc := "()I" } : Jvm.MethodName) ({ cls := "RoundVotes$Node", name := "timesSending", desc := "()I" } : Jvm.MethodName)) ∈ mTb := mIn2 (List.mem_of_getElem? (i := 236) rfl) rfl
theorem tb_477 : (Jvm.Cond.code ({ cls := "RoundVotes$Node", name := "timesSending", desc := "()I" } : Jvm.MethodName) prog_8_method_5_code (1 : Nat) (Option.some Jvm.ClassFile.FieldType.int)) ∈ mTb := mIn2 (List.mem_of_getElem? (i := 237) rfl) rfl
theorem tb_478 : (Jvm.Cond.methodLink "RoundVotes" (291 : Nat) ({ cls := "RoundVotes$Node", name := "deceives", desc := "(I)Z" } : Jvm.MethodName)) ∈ mTb := mIn2 (List.mem_of_getElem? (i := 238) rfl) rfl
theorem tb_479 : (Jvm.Cond.instanceMethod ({ cls := "RoundVotes$Node", name := "deceives", desc := "(I)Z" } : Jvm.MethodName)) ∈ mTb := mIn2 (List.mem_of_getElem? (i := 239) rfl) rfl
theorem tb_480 : (Jvm.Cond.selects "RoundVotes$Node" ({ cls := "RoundVotes$Node", name := "deceives", desc := "(I)Z" } : Jvm.MethodName) ({ cls := "RoundVotes$Node", name := "deceives", desc := "(I)Z" } : Jvm.MethodName)) ∈ mTb := mIn3 (List.mem_of_getElem? (i := 0) rfl) rfl
theorem tb_481 : (Jvm.Cond.code ({ cls := "RoundVotes$Node", name := "deceives", desc := "(I)Z" } : Jvm.MethodName) prog_8_method_6_code (2 : Nat) (Option.some Jvm.ClassFile.FieldType.boolean)) ∈ mTb := mIn3 (List.mem_of_getElem? (i := 1) rfl) rfl
theorem tb_482 : (Jvm.Cond.methodLink "RoundVotes" (294 : Nat) ({ cls := "RoundVotes$Sendings", name := "add", desc := "(LRoundVotes$Message;)V" } : Jvm.MethodName)) ∈ mTb := mIn3 (List.mem_of_getElem? (i := 2) rfl) rfl
theorem tb_483 : (Jvm.Cond.instanceMethod ({ cls := "RoundVotes$Sendings", name := "add", desc := "(LRoundVotes$Message;)V" } : Jvm.MethodName)) ∈ mTb := mIn3 (List.mem_of_getElem? (i := 3) rfl) rfl
theorem tb_484 : (Jvm.Cond.selects "RoundVotes$Sendings" ({ cls := "RoundVotes$Sendings", name := "add", desc := "(LRoundVotes$Message;)V" } : Jvm.MethodName) ({ cls := "RoundVotes$Sendings", name := "add", desc := "(LRoundVotes$Message;)V" } : Jvm.MethodName)) ∈ mTb := mIn3 (List.mem_of_getElem? (i := 4) rfl) rfl
theorem tb_485 : (Jvm.Cond.code ({ cls := "RoundVotes$Sendings", name := "add", desc := "(LRoundVotes$Message;)V" } : Jvm.MethodName) prog_9_method_2_code (3 : Nat) (Option.none : Option Jvm.ClassFile.FieldType)) ∈ mTb := mIn3 (List.mem_of_getElem? (i := 5) rfl) rfl
theorem tb_486 : (Jvm.Cond.methodLink "RoundVotes$Sendings" (32 : Nat) ({ cls := "RoundVotes$Ballots", name := "valueOf", desc := "(III)I" } : Jvm.MethodName)) ∈ mTb := mIn3 (List.mem_of_getElem? (i := 6) rfl) rfl
theorem tb_487 : (Jvm.Cond.methodLink "RoundVotes$Sendings" (42 : Nat) ({ cls := "RoundVotes$Ballots", name := "put", desc := "(IIIII)V" } : Jvm.MethodName)) ∈ mTb := mIn3 (List.mem_of_getElem? (i := 7) rfl) rfl
theorem tb_488 : (Jvm.Cond.methodLink "RoundVotes" (296 : Nat) ({ cls := "RoundVotes", name := "sendCopy", desc := "(LRoundVotes$Message;)V" } : Jvm.MethodName)) ∈ mTb := mIn3 (List.mem_of_getElem? (i := 8) rfl) rfl
theorem tb_490 : (Jvm.Cond.instanceMethod ({ cls := "RoundVotes", name := "sendCopy", desc := "(LRoundVotes$Message;)V" } : Jvm.MethodName)) ∈ mTb := mIn3 (List.mem_of_getElem? (i := 10) rfl) rfl
theorem tb_491 : (Jvm.Cond.code ({ cls := "RoundVotes", name := "sendCopy", desc := "(LRoundVotes$Message;)V" } : Jvm.MethodName) prog_1_method_29_code (5 : Nat) (Option.none : Option Jvm.ClassFile.FieldType)) ∈ mTb := mIn3 (List.mem_of_getElem? (i := 11) rfl) rfl
theorem tb_492 : (Jvm.Cond.methodLink "RoundVotes" (305 : Nat) ({ cls := "RoundVotes$Told", name := "remove", desc := "(I)V" } : Jvm.MethodName)) ∈ mTb := mIn3 (List.mem_of_getElem? (i := 12) rfl) rfl
theorem tb_493 : (Jvm.Cond.instanceMethod ({ cls := "RoundVotes$Told", name := "remove", desc := "(I)V" } : Jvm.MethodName)) ∈ mTb := mIn3 (List.mem_of_getElem? (i := 13) rfl) rfl
theorem tb_494 : (Jvm.Cond.selects "RoundVotes$Told" ({ cls := "RoundVotes$Told", name := "remove", desc := "(I)V" } : Jvm.MethodName) ({ cls := "RoundVotes$Told", name := "remove", desc := "(I)V" } : Jvm.MethodName)) ∈ mTb := mIn3 (List.mem_of_getElem? (i := 14) rfl) rfl
theorem tb_495 : (Jvm.Cond.code ({ cls := "RoundVotes$Told", name := "remove", desc := "(I)V" } : Jvm.MethodName) prog_11_method_4_code (2 : Nat) (Option.none : Option Jvm.ClassFile.FieldType)) ∈ mTb := mIn3 (List.mem_of_getElem? (i := 15) rfl) rfl
theorem tb_496 : (Jvm.Cond.methodLink "RoundVotes" (311 : Nat) ({ cls := "RoundVotes", name := "areOnUnlikeSides", desc := "(II)Z" } : Jvm.MethodName)) ∈ mTb := mIn3 (List.mem_of_getElem? (i := 16) rfl) rfl
theorem tb_498 : (Jvm.Cond.instanceMethod ({ cls := "RoundVotes", name := "areOnUnlikeSides", desc := "(II)Z" } : Jvm.MethodName)) ∈ mTb := mIn3 (List.mem_of_getElem? (i := 18) rfl) rfl
theorem tb_499 : (Jvm.Cond.code ({ cls := "RoundVotes", name := "areOnUnlikeSides", desc := "(II)Z" } : Jvm.MethodName) prog_1_method_30_code (4 : Nat) (Option.some Jvm.ClassFile.FieldType.boolean)) ∈ mTb := mIn3 (List.mem_of_getElem? (i := 19) rfl) rfl
theorem tb_500 : (Jvm.Cond.methodLink "RoundVotes" (315 : Nat) ({ cls := "RoundVotes$Mail", name := "post", desc := "(LRoundVotes$Message;IZ)Z" } : Jvm.MethodName)) ∈ mTb := mIn3 (List.mem_of_getElem? (i := 20) rfl) rfl
theorem tb_501 : (Jvm.Cond.instanceMethod ({ cls := "RoundVotes$Mail", name := "post", desc := "(LRoundVotes$Message;IZ)Z" } : Jvm.MethodName)) ∈ mTb := mIn3 (List.mem_of_getElem? (i := 21) rfl) rfl
theorem tb_502 : (Jvm.Cond.selects "RoundVotes$Mail" ({ cls := "RoundVotes$Mail", name := "post", desc := "(LRoundVotes$Message;IZ)Z" } : Jvm.MethodName) ({ cls := "RoundVotes$Mail", name := "post", desc := "(LRoundVotes$Message;IZ)Z" } : Jvm.MethodName)) ∈ mTb := mIn3 (List.mem_of_getElem? (i := 22) rfl) rfl
theorem tb_503 : (Jvm.Cond.code ({ cls := "RoundVotes$Mail", name := "post", desc := "(LRoundVotes$Message;IZ)Z" } : Jvm.MethodName) prog_6_method_2_code (5 : Nat) (Option.some Jvm.ClassFile.FieldType.boolean)) ∈ mTb := mIn3 (List.mem_of_getElem? (i := 23) rfl) rfl
theorem tb_505 : (Jvm.Cond.methodLink "RoundVotes$Mail" (25 : Nat) ({ cls := "RoundVotes$Message", name := "copyFrom", desc := "(LRoundVotes$Message;)V" } : Jvm.MethodName)) ∈ mTb := mIn3 (List.mem_of_getElem? (i := 25) rfl) rfl
theorem tb_506 : (Jvm.Cond.instanceMethod ({ cls := "RoundVotes$Message", name := "copyFrom", desc := "(LRoundVotes$Message;)V" } : Jvm.MethodName)) ∈ mTb := mIn3 (List.mem_of_getElem? (i := 26) rfl) rfl
theorem tb_507 : (Jvm.Cond.selects "RoundVotes$Message" ({ cls := "RoundVotes$Message", name := "copyFrom", desc := "(LRoundVotes$Message;)V" } : Jvm.MethodName) ({ cls := "RoundVotes$Message", name := "copyFrom", desc := "(LRoundVotes$Message;)V" } : Jvm.MethodName)) ∈ mTb := mIn3 (List.mem_of_getElem? (i := 27) rfl) rfl
theorem tb_508 : (Jvm.Cond.code ({ cls := "RoundVotes$Message", name := "copyFrom", desc := "(LRoundVotes$Message;)V" } : Jvm.MethodName) prog_7_method_2_code (2 : Nat) (Option.none : Option Jvm.ClassFile.FieldType)) ∈ mTb := mIn3 (List.mem_of_getElem? (i := 28) rfl) rfl
theorem tb_509 : (Jvm.Cond.methodLink "RoundVotes" (271 : Nat) ({ cls := "RoundVotes$Node", name := "followsRule", desc := "(I)Z" } : Jvm.MethodName)) ∈ mTb := mIn3 (List.mem_of_getElem? (i := 29) rfl) rfl
theorem tb_510 : (Jvm.Cond.instanceMethod ({ cls := "RoundVotes$Node", name := "followsRule", desc := "(I)Z" } : Jvm.MethodName)) ∈ mTb := mIn3 (List.mem_of_getElem? (i := 30) rfl) rfl
theorem tb_511 : (Jvm.Cond.selects "RoundVotes$Node" ({ cls := "RoundVotes$Node", name := "followsRule", desc := "(I)Z" } : Jvm.MethodName) ({ cls := "RoundVotes$Node", name := "followsRule", desc := "(I)Z" } : Jvm.MethodName)) ∈ mTb := mIn3 (List.mem_of_getElem? (i := 31) rfl) rfl
theorem tb_512 : (Jvm.Cond.code ({ cls := "RoundVotes$Node", name := "followsRule", desc := "(I)Z" } : Jvm.MethodName) prog_8_method_14_code (4 : Nat) (Option.some Jvm.ClassFile.FieldType.boolean)) ∈ mTb := mIn3 (List.mem_of_getElem? (i := 32) rfl) rfl
theorem tb_513 : (Jvm.Cond.methodLink "RoundVotes$Node" (184 : Nat) ({ cls := "RoundVotes$Node", name := "roundToDecide", desc := "()I" } : Jvm.MethodName)) ∈ mTb := mIn3 (List.mem_of_getElem? (i := 33) rfl) rfl
theorem tb_515 : (Jvm.Cond.instanceMethod ({ cls := "RoundVotes$Node", name := "roundToDecide", desc := "()I" } : Jvm.MethodName)) ∈ mTb := mIn3 (List.mem_of_getElem? (i := 35) rfl) rfl
theorem tb_516 : (Jvm.Cond.code ({ cls := "RoundVotes$Node", name := "roundToDecide", desc := "()I" } : Jvm.MethodName) prog_8_method_18_code (4 : Nat) (Option.some Jvm.ClassFile.FieldType.int)) ∈ mTb := mIn3 (List.mem_of_getElem? (i := 36) rfl) rfl
theorem tb_517 : (Jvm.Cond.methodLink "RoundVotes$Node" (172 : Nat) ({ cls := "RoundVotes$Node", name := "proposalOf", desc := "(I)I" } : Jvm.MethodName)) ∈ mTb := mIn3 (List.mem_of_getElem? (i := 37) rfl) rfl
theorem tb_519 : (Jvm.Cond.instanceMethod ({ cls := "RoundVotes$Node", name := "proposalOf", desc := "(I)I" } : Jvm.MethodName)) ∈ mTb := mIn3 (List.mem_of_getElem? (i := 39) rfl) rfl
theorem tb_520 : (Jvm.Cond.code ({ cls := "RoundVotes$Node", name := "proposalOf", desc := "(I)I" } : Jvm.MethodName) prog_8_method_15_code (2 : Nat) (Option.some Jvm.ClassFile.FieldType.int)) ∈ mTb := mIn3 (List.mem_of_getElem? (i := 40) rfl) rfl
theorem tb_521 : (Jvm.Cond.methodLink "RoundVotes$Node" (175 : Nat) ({ cls := "RoundVotes$Ballots", name := "votersFor", desc := "(III)I" } : Jvm.MethodName)) ∈ mTb := mIn3 (List.mem_of_getElem? (i := 41) rfl) rfl
theorem tb_522 : (Jvm.Cond.instanceMethod ({ cls := "RoundVotes$Ballots", name := "votersFor", desc := "(III)I" } : Jvm.MethodName)) ∈ mTb := mIn3 (List.mem_of_getElem? (i := 42) rfl) rfl
theorem tb_523 : (Jvm.Cond.selects "RoundVotes$Ballots" ({ cls := "RoundVotes$Ballots", name := "votersFor", desc := "(III)I" } : Jvm.MethodName) ({ cls := "RoundVotes$Ballots", name := "votersFor", desc := "(III)I" } : Jvm.MethodName)) ∈ mTb := mIn3 (List.mem_of_getElem? (i := 43) rfl) rfl
theorem tb_524 : (Jvm.Cond.code ({ cls := "RoundVotes$Ballots", name := "votersFor", desc := "(III)I" } : Jvm.MethodName) prog_2_method_6_code (6 : Nat) (Option.some Jvm.ClassFile.FieldType.int)) ∈ mTb := mIn3 (List.mem_of_getElem? (i := 44) rfl) rfl
theorem tb_525 : (Jvm.Cond.methodLink "RoundVotes$Ballots" (31 : Nat) ({ cls := "RoundVotes$Ballots", name := "valueOf", desc := "(III)I" } : Jvm.MethodName)) ∈ mTb := mIn3 (List.mem_of_getElem? (i := 45) rfl) rfl
theorem tb_526 : (Jvm.Cond.methodLink "RoundVotes$Node" (216 : Nat) ({ cls := "RoundVotes$Node", name := "areMany", desc := "(I)Z" } : Jvm.MethodName)) ∈ mTb := mIn3 (List.mem_of_getElem? (i := 46) rfl) rfl
theorem tb_528 : (Jvm.Cond.instanceMethod ({ cls := "RoundVotes$Node", name := "areMany", desc := "(I)Z" } : Jvm.MethodName)) ∈ mTb := mIn3 (List.mem_of_getElem? (i := 48) rfl) rfl
theorem tb_529 : (Jvm.Cond.code ({ cls := "RoundVotes$Node", name := "areMany", desc := "(I)Z" } : Jvm.MethodName) prog_8_method_16_code (2 : Nat) (Option.some Jvm.ClassFile.FieldType.boolean)) ∈ mTb := mIn3 (List.mem_of_getElem? (i := 49) rfl) rfl
theorem tb_530 : (Jvm.Cond.methodLink "RoundVotes$Node" (210 : Nat) ({ cls := "RoundVotes$Setup", name := "weightOfAll", desc := "(II)I" } : Jvm.MethodName)) ∈ mTb := mIn3 (List.mem_of_getElem? (i := 50) rfl) rfl
theorem tb_531 : (Jvm.Cond.instanceMethod ({ cls := "RoundVotes$Setup", name := "weightOfAll", desc := "(II)I" } : Jvm.MethodName)) ∈ mTb := mIn3 (List.mem_of_getElem? (i := 51) rfl) rfl
theorem tb_532 : (Jvm.Cond.selects "RoundVotes$Setup" ({ cls := "RoundVotes$Setup", name := "weightOfAll", desc := "(II)I" } : Jvm.MethodName) ({ cls := "RoundVotes$Setup", name := "weightOfAll", desc := "(II)I" } : Jvm.MethodName)) ∈ mTb := mIn3 (List.mem_of_getElem? (i := 52) rfl) rfl
theorem tb_533 : (Jvm.Cond.code ({ cls := "RoundVotes$Setup", name := "weightOfAll", desc := "(II)I" } : Jvm.MethodName) prog_10_method_3_code (5 : Nat) (Option.some Jvm.ClassFile.FieldType.int)) ∈ mTb := mIn3 (List.mem_of_getElem? (i := 53) rfl) rfl
theorem tb_534 : (Jvm.Cond.methodLink "RoundVotes$Node" (188 : Nat) ({ cls := "RoundVotes$Node", name := "decide", desc := "(I)V" } : Jvm.MethodName)) ∈ mTb := mIn3 (List.mem_of_getElem? (i := 54) rfl) rfl
theorem tb_536 : (Jvm.Cond.instanceMethod ({ cls := "RoundVotes$Node", name := "decide", desc := "(I)V" } : Jvm.MethodName)) ∈ mTb := mIn3 (List.mem_of_getElem? (i := 56) rfl) rfl
theorem tb_537 : (Jvm.Cond.code ({ cls := "RoundVotes$Node", name := "decide", desc := "(I)V" } : Jvm.MethodName) prog_8_method_11_code (3 : Nat) (Option.none : Option Jvm.ClassFile.FieldType)) ∈ mTb := mIn3 (List.mem_of_getElem? (i := 57) rfl) rfl
theorem tb_538 : (Jvm.Cond.methodLink "RoundVotes$Node" (166 : Nat) ({ cls := "RoundVotes$Decisions", name := "put", desc := "(IIII)V" } : Jvm.MethodName)) ∈ mTb := mIn3 (List.mem_of_getElem? (i := 58) rfl) rfl
theorem tb_539 : (Jvm.Cond.instanceMethod ({ cls := "RoundVotes$Decisions", name := "put", desc := "(IIII)V" } : Jvm.MethodName)) ∈ mTb := mIn3 (List.mem_of_getElem? (i := 59) rfl) rfl
theorem tb_540 : (Jvm.Cond.selects "RoundVotes$Decisions" ({ cls := "RoundVotes$Decisions", name := "put", desc := "(IIII)V" } : Jvm.MethodName) ({ cls := "RoundVotes$Decisions", name := "put", desc := "(IIII)V" } : Jvm.MethodName)) ∈ mTb := mIn3 (List.mem_of_getElem? (i := 60) rfl) rfl
theorem tb_541 : (Jvm.Cond.code ({ cls := "RoundVotes$Decisions", name := "put", desc := "(IIII)V" } : Jvm.MethodName) prog_4_method_3_code (5 : Nat) (Option.none : Option Jvm.ClassFile.FieldType)) ∈ mTb := mIn3 (List.mem_of_getElem? (i := 61) rfl) rfl
theorem tb_542 : (Jvm.Cond.methodLink "RoundVotes$Node" (169 : Nat) ({ cls := "RoundVotes$Node", name := "goToNextHeight", desc := "()V" } : Jvm.MethodName)) ∈ mTb := mIn3 (List.mem_of_getElem? (i := 62) rfl) rfl
theorem tb_544 : (Jvm.Cond.instanceMethod ({ cls := "RoundVotes$Node", name := "goToNextHeight", desc := "()V" } : Jvm.MethodName)) ∈ mTb := mIn3 (List.mem_of_getElem? (i := 64) rfl) rfl
theorem tb_545 : (Jvm.Cond.code ({ cls := "RoundVotes$Node", name := "goToNextHeight", desc := "()V" } : Jvm.MethodName) prog_8_method_12_code (2 : Nat) (Option.none : Option Jvm.ClassFile.FieldType)) ∈ mTb := mIn3 (List.mem_of_getElem? (i := 65) rfl) rfl
theorem tb_546 : (Jvm.Cond.methodLink "RoundVotes$Node" (178 : Nat) ({ cls := "RoundVotes$Choice", name := "choose", desc := "(II)V" } : Jvm.MethodName)) ∈ mTb := mIn3 (List.mem_of_getElem? (i := 66) rfl) rfl
theorem tb_547 : (Jvm.Cond.instanceMethod ({ cls := "RoundVotes$Choice", name := "choose", desc := "(II)V" } : Jvm.MethodName)) ∈ mTb := mIn3 (List.mem_of_getElem? (i := 67) rfl) rfl
theorem tb_548 : (Jvm.Cond.selects "RoundVotes$Choice" ({ cls := "RoundVotes$Choice", name := "choose", desc := "(II)V" } : Jvm.MethodName) ({ cls := "RoundVotes$Choice", name := "choose", desc := "(II)V" } : Jvm.MethodName)) ∈ mTb := mIn3 (List.mem_of_getElem? (i := 68) rfl) rfl
theorem tb_549 : (Jvm.Cond.code ({ cls := "RoundVotes$Choice", name := "choose", desc := "(II)V" } : Jvm.MethodName) prog_3_method_2_code (3 : Nat) (Option.none : Option Jvm.ClassFile.FieldType)) ∈ mTb := mIn3 (List.mem_of_getElem? (i := 69) rfl) rfl
theorem tb_550 : (Jvm.Cond.methodLink "RoundVotes$Node" (147 : Nat) ({ cls := "RoundVotes$Ballots", name := "clear", desc := "()V" } : Jvm.MethodName)) ∈ mTb := mIn3 (List.mem_of_getElem? (i := 70) rfl) rfl
theorem tb_551 : (Jvm.Cond.instanceMethod ({ cls := "RoundVotes$Ballots", name := "clear", desc := "()V" } : Jvm.MethodName)) ∈ mTb := mIn3 (List.mem_of_getElem? (i := 71) rfl) rfl
theorem tb_552 : (Jvm.Cond.selects "RoundVotes$Ballots" ({ cls := "RoundVotes$Ballots", name := "clear", desc := "()V" } : Jvm.MethodName) ({ cls := "RoundVotes$Ballots", name := "clear", desc := "()V" } : Jvm.MethodName)) ∈ mTb := mIn3 (List.mem_of_getElem? (i := 72) rfl) rfl
theorem tb_553 : (Jvm.Cond.code ({ cls := "RoundVotes$Ballots", name := "clear", desc := "()V" } : Jvm.MethodName) prog_2_method_8_code (3 : Nat) (Option.none : Option Jvm.ClassFile.FieldType)) ∈ mTb := mIn3 (List.mem_of_getElem? (i := 73) rfl) rfl
theorem tb_554 : (Jvm.Cond.methodLink "RoundVotes$Node" (153 : Nat) ({ cls := "RoundVotes$Node", name := "begin", desc := "(II)V" } : Jvm.MethodName)) ∈ mTb := mIn3 (List.mem_of_getElem? (i := 74) rfl) rfl
theorem tb_555 : (Jvm.Cond.methodLink "RoundVotes$Node" (191 : Nat) ({ cls := "RoundVotes$Node", name := "roundToJoin", desc := "()I" } : Jvm.MethodName)) ∈ mTb := mIn3 (List.mem_of_getElem? (i := 75) rfl) rfl
theorem tb_557 : (Jvm.Cond.instanceMethod ({ cls := "RoundVotes$Node", name := "roundToJoin", desc := "()I" } : Jvm.MethodName)) ∈ mTb := mIn3 (List.mem_of_getElem? (i := 77) rfl) rfl
theorem tb_558 : (Jvm.Cond.code ({ cls := "RoundVotes$Node", name := "roundToJoin", desc := "()I" } : Jvm.MethodName) prog_8_method_19_code (3 : Nat) (Option.some Jvm.ClassFile.FieldType.int)) ∈ mTb := mIn3 (List.mem_of_getElem? (i := 78) rfl) rfl
theorem tb_559 : (Jvm.Cond.methodLink "RoundVotes$Node" (219 : Nat) ({ cls := "RoundVotes$Ballots", name := "voters", desc := "(II)I" } : Jvm.MethodName)) ∈ mTb := mIn3 (List.mem_of_getElem? (i := 79) rfl) rfl
theorem tb_560 : (Jvm.Cond.instanceMethod ({ cls := "RoundVotes$Ballots", name := "voters", desc := "(II)I" } : Jvm.MethodName)) ∈ mTb := mIn3 (List.mem_of_getElem? (i := 80) rfl) rfl
theorem tb_561 : (Jvm.Cond.selects "RoundVotes$Ballots" ({ cls := "RoundVotes$Ballots", name := "voters", desc := "(II)I" } : Jvm.MethodName) ({ cls := "RoundVotes$Ballots", name := "voters", desc := "(II)I" } : Jvm.MethodName)) ∈ mTb := mIn3 (List.mem_of_getElem? (i := 81) rfl) rfl
theorem tb_562 : (Jvm.Cond.code ({ cls := "RoundVotes$Ballots", name := "voters", desc := "(II)I" } : Jvm.MethodName) prog_2_method_7_code (5 : Nat) (Option.some Jvm.ClassFile.FieldType.int)) ∈ mTb := mIn3 (List.mem_of_getElem? (i := 82) rfl) rfl
theorem tb_563 : (Jvm.Cond.methodLink "RoundVotes$Ballots" (35 : Nat) ({ cls := "RoundVotes$Ballots", name := "holds", desc := "(III)Z" } : Jvm.MethodName)) ∈ mTb := mIn3 (List.mem_of_getElem? (i := 83) rfl) rfl
theorem tb_564 : (Jvm.Cond.methodLink "RoundVotes$Node" (221 : Nat) ({ cls := "RoundVotes$Node", name := "areSome", desc := "(I)Z" } : Jvm.MethodName)) ∈ mTb := mIn3 (List.mem_of_getElem? (i := 84) rfl) rfl
theorem tb_566 : (Jvm.Cond.instanceMethod ({ cls := "RoundVotes$Node", name := "areSome", desc := "(I)Z" } : Jvm.MethodName)) ∈ mTb := mIn3 (List.mem_of_getElem? (i := 86) rfl) rfl
theorem tb_567 : (Jvm.Cond.code ({ cls := "RoundVotes$Node", name := "areSome", desc := "(I)Z" } : Jvm.MethodName) prog_8_method_17_code (2 : Nat) (Option.some Jvm.ClassFile.FieldType.boolean)) ∈ mTb := mIn3 (List.mem_of_getElem? (i := 87) rfl) rfl
theorem tb_568 : (Jvm.Cond.methodLink "RoundVotes$Node" (194 : Nat) ({ cls := "RoundVotes$Node", name := "answersProposal", desc := "()Z" } : Jvm.MethodName)) ∈ mTb := mIn3 (List.mem_of_getElem? (i := 88) rfl) rfl
theorem tb_570 : (Jvm.Cond.instanceMethod ({ cls := "RoundVotes$Node", name := "answersProposal", desc := "()Z" } : Jvm.MethodName)) ∈ mTb := mIn3 (List.mem_of_getElem? (i := 90) rfl) rfl
theorem tb_571 : (Jvm.Cond.code ({ cls := "RoundVotes$Node", name := "answersProposal", desc := "()Z" } : Jvm.MethodName) prog_8_method_20_code (3 : Nat) (Option.some Jvm.ClassFile.FieldType.boolean)) ∈ mTb := mIn3 (List.mem_of_getElem? (i := 91) rfl) rfl
theorem tb_572 : (Jvm.Cond.methodLink "RoundVotes$Node" (224 : Nat) ({ cls := "RoundVotes$Node", name := "lockAllows", desc := "(II)Z" } : Jvm.MethodName)) ∈ mTb := mIn3 (List.mem_of_getElem? (i := 92) rfl) rfl
theorem tb_574 : (Jvm.Cond.instanceMethod ({ cls := "RoundVotes$Node", name := "lockAllows", desc := "(II)Z" } : Jvm.MethodName)) ∈ mTb := mIn3 (List.mem_of_getElem? (i := 94) rfl) rfl
theorem tb_575 : (Jvm.Cond.code ({ cls := "RoundVotes$Node", name := "lockAllows", desc := "(II)Z" } : Jvm.MethodName) prog_8_method_21_code (3 : Nat) (Option.some Jvm.ClassFile.FieldType.boolean)) ∈ mTb := mIn3 (List.mem_of_getElem? (i := 95) rfl) rfl
theorem tb_576 : (Jvm.Cond.methodLink "RoundVotes$Node" (197 : Nat) ({ cls := "RoundVotes$Node", name := "locks", desc := "()Z" } : Jvm.MethodName)) ∈ mTb := mIn3 (List.mem_of_getElem? (i := 96) rfl) rfl
theorem tb_578 : (Jvm.Cond.instanceMethod ({ cls := "RoundVotes$Node", name := "locks", desc := "()Z" } : Jvm.MethodName)) ∈ mTb := mIn3 (List.mem_of_getElem? (i := 98) rfl) rfl
theorem tb_579 : (Jvm.Cond.code ({ cls := "RoundVotes$Node", name := "locks", desc := "()Z" } : Jvm.MethodName) prog_8_method_22_code (2 : Nat) (Option.some Jvm.ClassFile.FieldType.boolean)) ∈ mTb := mIn3 (List.mem_of_getElem? (i := 99) rfl) rfl
theorem tb_580 : (Jvm.Cond.methodLink "RoundVotes$Node" (200 : Nat) ({ cls := "RoundVotes$Node", name := "givesUpValue", desc := "()Z" } : Jvm.MethodName)) ∈ mTb := mIn3 (List.mem_of_getElem? (i := 100) rfl) rfl
theorem tb_582 : (Jvm.Cond.instanceMethod ({ cls := "RoundVotes$Node", name := "givesUpValue", desc := "()Z" } : Jvm.MethodName)) ∈ mTb := mIn3 (List.mem_of_getElem? (i := 102) rfl) rfl
theorem tb_583 : (Jvm.Cond.code ({ cls := "RoundVotes$Node", name := "givesUpValue", desc := "()Z" } : Jvm.MethodName) prog_8_method_23_code (1 : Nat) (Option.some Jvm.ClassFile.FieldType.boolean)) ∈ mTb := mIn3 (List.mem_of_getElem? (i := 103) rfl) rfl
theorem tb_584 : (Jvm.Cond.methodLink "RoundVotes$Node" (203 : Nat) ({ cls := "RoundVotes$Node", name := "waitsForPrevotes", desc := "(I)Z" } : Jvm.MethodName)) ∈ mTb := mIn3 (List.mem_of_getElem? (i := 104) rfl) rfl
theorem tb_586 : (Jvm.Cond.instanceMethod ({ cls := "RoundVotes$Node", name := "waitsForPrevotes", desc := "(I)Z" } : Jvm.MethodName)) ∈ mTb := mIn3 (List.mem_of_getElem? (i := 106) rfl) rfl
theorem tb_587 : (Jvm.Cond.code ({ cls := "RoundVotes$Node", name := "waitsForPrevotes", desc := "(I)Z" } : Jvm.MethodName) prog_8_method_24_code (2 : Nat) (Option.some Jvm.ClassFile.FieldType.boolean)) ∈ mTb := mIn3 (List.mem_of_getElem? (i := 107) rfl) rfl
theorem tb_588 : (Jvm.Cond.methodLink "RoundVotes$Node" (207 : Nat) ({ cls := "RoundVotes$Node", name := "waitsForPrecommits", desc := "(I)Z" } : Jvm.MethodName)) ∈ mTb := mIn3 (List.mem_of_getElem? (i := 108) rfl) rfl
theorem tb_590 : (Jvm.Cond.instanceMethod ({ cls := "RoundVotes$Node", name := "waitsForPrecommits", desc := "(I)Z" } : Jvm.MethodName)) ∈ mTb := mIn3 (List.mem_of_getElem? (i := 110) rfl) rfl
theorem tb_591 : (Jvm.Cond.code ({ cls := "RoundVotes$Node", name := "waitsForPrecommits", desc := "(I)Z" } : Jvm.MethodName) prog_8_method_25_code (2 : Nat) (Option.some Jvm.ClassFile.FieldType.boolean)) ∈ mTb := mIn3 (List.mem_of_getElem? (i := 111) rfl) rfl
theorem tb_592 : (Jvm.Cond.methodLink "RoundVotes" (102 : Nat) ({ cls := "RoundVotes", name := "bringNodesBack", desc := "()V" } : Jvm.MethodName)) ∈ mTb := mIn3 (List.mem_of_getElem? (i := 112) rfl) rfl
theorem tb_594 : (Jvm.Cond.instanceMethod ({ cls := "RoundVotes", name := "bringNodesBack", desc := "()V" } : Jvm.MethodName)) ∈ mTb := mIn3 (List.mem_of_getElem? (i := 114) rfl) rfl
theorem tb_595 : (Jvm.Cond.code ({ cls := "RoundVotes", name := "bringNodesBack", desc := "()V" } : Jvm.MethodName) prog_1_method_23_code (3 : Nat) (Option.none : Option Jvm.ClassFile.FieldType)) ∈ mTb := mIn3 (List.mem_of_getElem? (i := 115) rfl) rfl
theorem tb_596 : (Jvm.Cond.methodLink "RoundVotes" (230 : Nat) ({ cls := "RoundVotes$Node", name := "comeBack", desc := "(I)V" } : Jvm.MethodName)) ∈ mTb := mIn3 (List.mem_of_getElem? (i := 116) rfl) rfl
theorem tb_597 : (Jvm.Cond.instanceMethod ({ cls := "RoundVotes$Node", name := "comeBack", desc := "(I)V" } : Jvm.MethodName)) ∈ mTb := mIn3 (List.mem_of_getElem? (i := 117) rfl) rfl
theorem tb_598 : (Jvm.Cond.selects "RoundVotes$Node" ({ cls := "RoundVotes$Node", name := "comeBack", desc := "(I)V" } : Jvm.MethodName) ({ cls := "RoundVotes$Node", name := "comeBack", desc := "(I)V" } : Jvm.MethodName)) ∈ mTb := mIn3 (List.mem_of_getElem? (i := 118) rfl) rfl
theorem tb_599 : (Jvm.Cond.code ({ cls := "RoundVotes$Node", name := "comeBack", desc := "(I)V" } : Jvm.MethodName) prog_8_method_9_code (5 : Nat) (Option.none : Option Jvm.ClassFile.FieldType)) ∈ mTb := mIn3 (List.mem_of_getElem? (i := 119) rfl) rfl
theorem tb_600 : (Jvm.Cond.methodLink "RoundVotes" (105 : Nat) ({ cls := "RoundVotes", name := "bringCopies", desc := "()V" } : Jvm.MethodName)) ∈ mTb := mIn3 (List.mem_of_getElem? (i := 120) rfl) rfl
theorem tb_602 : (Jvm.Cond.instanceMethod ({ cls := "RoundVotes", name := "bringCopies", desc := "()V" } : Jvm.MethodName)) ∈ mTb := mIn3 (List.mem_of_getElem? (i := 122) rfl) rfl
theorem tb_603 : (Jvm.Cond.code ({ cls := "RoundVotes", name := "bringCopies", desc := "()V" } : Jvm.MethodName) prog_1_method_24_code (5 : Nat) (Option.none : Option Jvm.ClassFile.FieldType)) ∈ mTb := mIn3 (List.mem_of_getElem? (i := 123) rfl) rfl
theorem tb_604 : (Jvm.Cond.methodLink "RoundVotes" (248 : Nat) ({ cls := "RoundVotes", name := "handOver", desc := "(LRoundVotes$Message;)V" } : Jvm.MethodName)) ∈ mTb := mIn3 (List.mem_of_getElem? (i := 124) rfl) rfl
theorem tb_606 : (Jvm.Cond.instanceMethod ({ cls := "RoundVotes", name := "handOver", desc := "(LRoundVotes$Message;)V" } : Jvm.MethodName)) ∈ mTb := mIn3 (List.mem_of_getElem? (i := 126) rfl) rfl
theorem tb_607 : (Jvm.Cond.code ({ cls := "RoundVotes", name := "handOver", desc := "(LRoundVotes$Message;)V" } : Jvm.MethodName) prog_1_method_25_code (3 : Nat) (Option.none : Option Jvm.ClassFile.FieldType)) ∈ mTb := mIn3 (List.mem_of_getElem? (i := 127) rfl) rfl
theorem tb_608 : (Jvm.Cond.methodLink "RoundVotes" (258 : Nat) ({ cls := "RoundVotes$Node", name := "accepts", desc := "(LRoundVotes$Message;)Z" } : Jvm.MethodName)) ∈ mTb := mIn3 (List.mem_of_getElem? (i := 128) rfl) rfl
theorem tb_609 : (Jvm.Cond.instanceMethod ({ cls := "RoundVotes$Node", name := "accepts", desc := "(LRoundVotes$Message;)Z" } : Jvm.MethodName)) ∈ mTb := mIn3 (List.mem_of_getElem? (i := 129) rfl) rfl
theorem tb_610 : (Jvm.Cond.selects "RoundVotes$Node" ({ cls := "RoundVotes$Node", name := "accepts", desc := "(LRoundVotes$Message;)Z" } : Jvm.MethodName) ({ cls := "RoundVotes$Node", name := "accepts", desc := "(LRoundVotes$Message;)Z" } : Jvm.MethodName)) ∈ mTb := mIn3 (List.mem_of_getElem? (i := 130) rfl) rfl
theorem tb_611 : (Jvm.Cond.code ({ cls := "RoundVotes$Node", name := "accepts", desc := "(LRoundVotes$Message;)Z" } : Jvm.MethodName) prog_8_method_8_code (3 : Nat) (Option.some Jvm.ClassFile.FieldType.boolean)) ∈ mTb := mIn3 (List.mem_of_getElem? (i := 131) rfl) rfl
theorem tb_612 : (Jvm.Cond.methodLink "RoundVotes" (262 : Nat) ({ cls := "RoundVotes$Faults", name := "add", desc := "(LRoundVotes$Message;I)V" } : Jvm.MethodName)) ∈ mTb := mIn3 (List.mem_of_getElem? (i := 132) rfl) rfl
theorem tb_613 : (Jvm.Cond.instanceMethod ({ cls := "RoundVotes$Faults", name := "add", desc := "(LRoundVotes$Message;I)V" } : Jvm.MethodName)) ∈ mTb := mIn3 (List.mem_of_getElem? (i := 133) rfl) rfl
theorem tb_614 : (Jvm.Cond.selects "RoundVotes$Faults" ({ cls := "RoundVotes$Faults", name := "add", desc := "(LRoundVotes$Message;I)V" } : Jvm.MethodName) ({ cls := "RoundVotes$Faults", name := "add", desc := "(LRoundVotes$Message;I)V" } : Jvm.MethodName)) ∈ mTb := mIn3 (List.mem_of_getElem? (i := 134) rfl) rfl
theorem tb_615 : (Jvm.Cond.code ({ cls := "RoundVotes$Faults", name := "add", desc := "(LRoundVotes$Message;I)V" } : Jvm.MethodName) prog_5_method_3_code (4 : Nat) (Option.none : Option Jvm.ClassFile.FieldType)) ∈ mTb := mIn3 (List.mem_of_getElem? (i := 135) rfl) rfl
theorem tb_616 : (Jvm.Cond.methodLink "RoundVotes$Faults" (19 : Nat) ({ cls := "RoundVotes$Faults", name := "isKnown", desc := "(LRoundVotes$Message;)Z" } : Jvm.MethodName)) ∈ mTb := mIn3 (List.mem_of_getElem? (i := 136) rfl) rfl
theorem tb_618 : (Jvm.Cond.instanceMethod ({ cls := "RoundVotes$Faults", name := "isKnown", desc := "(LRoundVotes$Message;)Z" } : Jvm.MethodName)) ∈ mTb := mIn3 (List.mem_of_getElem? (i := 138) rfl) rfl
theorem tb_619 : (Jvm.Cond.code ({ cls := "RoundVotes$Faults", name := "isKnown", desc := "(LRoundVotes$Message;)Z" } : Jvm.MethodName) prog_5_method_4_code (4 : Nat) (Option.some Jvm.ClassFile.FieldType.boolean)) ∈ mTb := mIn3 (List.mem_of_getElem? (i := 139) rfl) rfl
theorem tb_620 : (Jvm.Cond.methodLink "RoundVotes$Faults" (40 : Nat) ({ cls := "RoundVotes$Faults", name := "part", desc := "(II)I" } : Jvm.MethodName)) ∈ mTb := mIn3 (List.mem_of_getElem? (i := 140) rfl) rfl
theorem tb_621 : (Jvm.Cond.instanceMethod ({ cls := "RoundVotes$Faults", name := "part", desc := "(II)I" } : Jvm.MethodName)) ∈ mTb := mIn3 (List.mem_of_getElem? (i := 141) rfl) rfl
theorem tb_622 : (Jvm.Cond.selects "RoundVotes$Faults" ({ cls := "RoundVotes$Faults", name := "part", desc := "(II)I" } : Jvm.MethodName) ({ cls := "RoundVotes$Faults", name := "part", desc := "(II)I" } : Jvm.MethodName)) ∈ mTb := mIn3 (List.mem_of_getElem? (i := 142) rfl) rfl
theorem tb_623 : (Jvm.Cond.code ({ cls := "RoundVotes$Faults", name := "part", desc := "(II)I" } : Jvm.MethodName) prog_5_method_2_code (3 : Nat) (Option.some Jvm.ClassFile.FieldType.int)) ∈ mTb := mIn3 (List.mem_of_getElem? (i := 143) rfl) rfl
theorem tb_624 : (Jvm.Cond.methodLink "RoundVotes" (255 : Nat) ({ cls := "RoundVotes$Mail", name := "dropUpTo", desc := "(I)V" } : Jvm.MethodName)) ∈ mTb := mIn3 (List.mem_of_getElem? (i := 144) rfl) rfl
theorem tb_625 : (Jvm.Cond.instanceMethod ({ cls := "RoundVotes$Mail", name := "dropUpTo", desc := "(I)V" } : Jvm.MethodName)) ∈ mTb := mIn3 (List.mem_of_getElem? (i := 145) rfl) rfl
theorem tb_626 : (Jvm.Cond.selects "RoundVotes$Mail" ({ cls := "RoundVotes$Mail", name := "dropUpTo", desc := "(I)V" } : Jvm.MethodName) ({ cls := "RoundVotes$Mail", name := "dropUpTo", desc := "(I)V" } : Jvm.MethodName)) ∈ mTb := mIn3 (List.mem_of_getElem? (i := 146) rfl) rfl
theorem tb_627 : (Jvm.Cond.code ({ cls := "RoundVotes$Mail", name := "dropUpTo", desc := "(I)V" } : Jvm.MethodName) prog_6_method_3_code (5 : Nat) (Option.none : Option Jvm.ClassFile.FieldType)) ∈ mTb := mIn3 (List.mem_of_getElem? (i := 147) rfl) rfl
theorem tb_628 : (Jvm.Cond.methodLink "RoundVotes" (108 : Nat) ({ cls := "RoundVotes", name := "endTimers", desc := "()V" } : Jvm.MethodName)) ∈ mTb := mIn3 (List.mem_of_getElem? (i := 148) rfl) rfl
theorem tb_630 : (Jvm.Cond.instanceMethod ({ cls := "RoundVotes", name := "endTimers", desc := "()V" } : Jvm.MethodName)) ∈ mTb := mIn3 (List.mem_of_getElem? (i := 150) rfl) rfl
theorem tb_631 : (Jvm.Cond.code ({ cls := "RoundVotes", name := "endTimers", desc := "()V" } : Jvm.MethodName) prog_1_method_26_code (4 : Nat) (Option.none : Option Jvm.ClassFile.FieldType)) ∈ mTb := mIn3 (List.mem_of_getElem? (i := 151) rfl) rfl
theorem tb_632 : (Jvm.Cond.methodLink "RoundVotes" (265 : Nat) ({ cls := "RoundVotes$Node", name := "endTimer", desc := "(II)V" } : Jvm.MethodName)) ∈ mTb := mIn3 (List.mem_of_getElem? (i := 152) rfl) rfl
theorem tb_633 : (Jvm.Cond.instanceMethod ({ cls := "RoundVotes$Node", name := "endTimer", desc := "(II)V" } : Jvm.MethodName)) ∈ mTb := mIn3 (List.mem_of_getElem? (i := 153) rfl) rfl
theorem tb_634 : (Jvm.Cond.selects "RoundVotes$Node" ({ cls := "RoundVotes$Node", name := "endTimer", desc := "(II)V" } : Jvm.MethodName) ({ cls := "RoundVotes$Node", name := "endTimer", desc := "(II)V" } : Jvm.MethodName)) ∈ mTb := mIn3 (List.mem_of_getElem? (i := 154) rfl) rfl
theorem tb_635 : (Jvm.Cond.code ({ cls := "RoundVotes$Node", name := "endTimer", desc := "(II)V" } : Jvm.MethodName) prog_8_method_13_code (3 : Nat) (Option.none : Option Jvm.ClassFile.FieldType)) ∈ mTb := mIn3 (List.mem_of_getElem? (i := 155) rfl) rfl
theorem tb_636 : (Jvm.Cond.methodLink "RoundVotesLaw" (48 : Nat) ({ cls := "RoundVotes", name := "catchUp", desc := "(I)I" } : Jvm.MethodName)) ∈ mTb := mIn3 (List.mem_of_getElem? (i := 156) rfl) rfl
theorem tb_637 : (Jvm.Cond.instanceMethod ({ cls := "RoundVotes", name := "catchUp", desc := "(I)I" } : Jvm.MethodName)) ∈ mTb := mIn3 (List.mem_of_getElem? (i := 157) rfl) rfl
theorem tb_638 : (Jvm.Cond.selects "RoundVotes" ({ cls := "RoundVotes", name := "catchUp", desc := "(I)I" } : Jvm.MethodName) ({ cls := "RoundVotes", name := "catchUp", desc := "(I)I" } : Jvm.MethodName)) ∈ mTb := mIn3 (List.mem_of_getElem? (i := 158) rfl) rfl
theorem tb_639 : (Jvm.Cond.code ({ cls := "RoundVotes", name := "catchUp", desc := "(I)I" } : Jvm.MethodName) prog_1_method_8_code (6 : Nat) (Option.some Jvm.ClassFile.FieldType.int)) ∈ mTb := mIn3 (List.mem_of_getElem? (i := 159) rfl) rfl
theorem tb_640 : (Jvm.Cond.methodLink "RoundVotes" (114 : Nat) ({ cls := "RoundVotes", name := "tellerOf", desc := "(II)I" } : Jvm.MethodName)) ∈ mTb := mIn3 (List.mem_of_getElem? (i := 160) rfl) rfl
theorem tb_642 : (Jvm.Cond.instanceMethod ({ cls := "RoundVotes", name := "tellerOf", desc := "(II)I" } : Jvm.MethodName)) ∈ mTb := mIn3 (List.mem_of_getElem? (i := 162) rfl) rfl
theorem tb_643 : (Jvm.Cond.code ({ cls := "RoundVotes", name := "tellerOf", desc := "(II)I" } : Jvm.MethodName) prog_1_method_21_code (4 : Nat) (Option.some Jvm.ClassFile.FieldType.int)) ∈ mTb := mIn3 (List.mem_of_getElem? (i := 163) rfl) rfl
theorem tb_644 : (Jvm.Cond.methodLink "RoundVotes" (188 : Nat) ({ cls := "RoundVotes$Decisions", name := "holds", desc := "(I)Z" } : Jvm.MethodName)) ∈ mTb := mIn3 (List.mem_of_getElem? (i := 164) rfl) rfl
theorem tb_645 : (Jvm.Cond.instanceMethod ({ cls := "RoundVotes$Decisions", name := "holds", desc := "(I)Z" } : Jvm.MethodName)) ∈ mTb := mIn3 (List.mem_of_getElem? (i := 165) rfl) rfl
theorem tb_646 : (Jvm.Cond.selects "RoundVotes$Decisions" ({ cls := "RoundVotes$Decisions", name := "holds", desc := "(I)Z" } : Jvm.MethodName) ({ cls := "RoundVotes$Decisions", name := "holds", desc := "(I)Z" } : Jvm.MethodName)) ∈ mTb := mIn3 (List.mem_of_getElem? (i := 166) rfl) rfl
theorem tb_647 : (Jvm.Cond.code ({ cls := "RoundVotes$Decisions", name := "holds", desc := "(I)Z" } : Jvm.MethodName) prog_4_method_2_code (2 : Nat) (Option.some Jvm.ClassFile.FieldType.boolean)) ∈ mTb := mIn3 (List.mem_of_getElem? (i := 167) rfl) rfl
theorem tb_648 : (Jvm.Cond.methodLink "RoundVotes" (118 : Nat) ({ cls := "RoundVotes$Node", name := "decideAs", desc := "(LRoundVotes$Node;)V" } : Jvm.MethodName)) ∈ mTb := mIn3 (List.mem_of_getElem? (i := 168) rfl) rfl
theorem tb_649 : (Jvm.Cond.instanceMethod ({ cls := "RoundVotes$Node", name := "decideAs", desc := "(LRoundVotes$Node;)V" } : Jvm.MethodName)) ∈ mTb := mIn3 (List.mem_of_getElem? (i := 169) rfl) rfl
theorem tb_650 : (Jvm.Cond.selects "RoundVotes$Node" ({ cls := "RoundVotes$Node", name := "decideAs", desc := "(LRoundVotes$Node;)V" } : Jvm.MethodName) ({ cls := "RoundVotes$Node", name := "decideAs", desc := "(LRoundVotes$Node;)V" } : Jvm.MethodName)) ∈ mTb := mIn3 (List.mem_of_getElem? (i := 170) rfl) rfl
theorem tb_651 : (Jvm.Cond.code ({ cls := "RoundVotes$Node", name := "decideAs", desc := "(LRoundVotes$Node;)V" } : Jvm.MethodName) prog_8_method_10_code (3 : Nat) (Option.none : Option Jvm.ClassFile.FieldType)) ∈ mTb := mIn3 (List.mem_of_getElem? (i := 171) rfl) rfl
theorem tb_652 : (Jvm.Cond.methodLink "RoundVotesLaw" (52 : Nat) ({ cls := "RoundVotes", name := "node", desc := "(II)I" } : Jvm.MethodName)) ∈ mTb := mIn3 (List.mem_of_getElem? (i := 172) rfl) rfl
theorem tb_653 : (Jvm.Cond.instanceMethod ({ cls := "RoundVotes", name := "node", desc := "(II)I" } : Jvm.MethodName)) ∈ mTb := mIn3 (List.mem_of_getElem? (i := 173) rfl) rfl
theorem tb_654 : (Jvm.Cond.selects "RoundVotes" ({ cls := "RoundVotes", name := "node", desc := "(II)I" } : Jvm.MethodName) ({ cls := "RoundVotes", name := "node", desc := "(II)I" } : Jvm.MethodName)) ∈ mTb := mIn3 (List.mem_of_getElem? (i := 174) rfl) rfl
theorem tb_655 : (Jvm.Cond.code ({ cls := "RoundVotes", name := "node", desc := "(II)I" } : Jvm.MethodName) prog_1_method_9_code (4 : Nat) (Option.some Jvm.ClassFile.FieldType.int)) ∈ mTb := mIn3 (List.mem_of_getElem? (i := 175) rfl) rfl
theorem tb_656 : (Jvm.Cond.methodLink "RoundVotesLaw" (56 : Nat) ({ cls := "RoundVotes", name := "vote", desc := "(IIII)I" } : Jvm.MethodName)) ∈ mTb := mIn3 (List.mem_of_getElem? (i := 176) rfl) rfl
theorem tb_657 : (Jvm.Cond.instanceMethod ({ cls := "RoundVotes", name := "vote", desc := "(IIII)I" } : Jvm.MethodName)) ∈ mTb := mIn3 (List.mem_of_getElem? (i := 177) rfl) rfl
theorem tb_658 : (Jvm.Cond.selects "RoundVotes" ({ cls := "RoundVotes", name := "vote", desc := "(IIII)I" } : Jvm.MethodName) ({ cls := "RoundVotes", name := "vote", desc := "(IIII)I" } : Jvm.MethodName)) ∈ mTb := mIn3 (List.mem_of_getElem? (i := 178) rfl) rfl
theorem tb_659 : (Jvm.Cond.code ({ cls := "RoundVotes", name := "vote", desc := "(IIII)I" } : Jvm.MethodName) prog_1_method_10_code (6 : Nat) (Option.some Jvm.ClassFile.FieldType.int)) ∈ mTb := mIn3 (List.mem_of_getElem? (i := 179) rfl) rfl
theorem tb_660 : (Jvm.Cond.methodLink "RoundVotes" (169 : Nat) ({ cls := "RoundVotes$Ballots", name := "valueOf", desc := "(III)I" } : Jvm.MethodName)) ∈ mTb := mIn3 (List.mem_of_getElem? (i := 180) rfl) rfl
theorem tb_661 : (Jvm.Cond.methodLink "RoundVotes" (175 : Nat) ({ cls := "RoundVotes$Ballots", name := "holds", desc := "(III)Z" } : Jvm.MethodName)) ∈ mTb := mIn3 (List.mem_of_getElem? (i := 181) rfl) rfl
theorem tb_662 : (Jvm.Cond.methodLink "RoundVotes" (178 : Nat) ({ cls := "RoundVotes$Ballots", name := "sinceOf", desc := "(I)I" } : Jvm.MethodName)) ∈ mTb := mIn3 (List.mem_of_getElem? (i := 182) rfl) rfl
theorem tb_663 : (Jvm.Cond.methodLink "RoundVotesLaw" (61 : Nat) ({ cls := "RoundVotes", name := "decided", desc := "(III)I" } : Jvm.MethodName)) ∈ mTb := mIn3 (List.mem_of_getElem? (i := 183) rfl) rfl
theorem tb_664 : (Jvm.Cond.instanceMethod ({ cls := "RoundVotes", name := "decided", desc := "(III)I" } : Jvm.MethodName)) ∈ mTb := mIn3 (List.mem_of_getElem? (i := 184) rfl) rfl
theorem tb_665 : (Jvm.Cond.selects "RoundVotes" ({ cls := "RoundVotes", name := "decided", desc := "(III)I" } : Jvm.MethodName) ({ cls := "RoundVotes", name := "decided", desc := "(III)I" } : Jvm.MethodName)) ∈ mTb := mIn3 (List.mem_of_getElem? (i := 185) rfl) rfl
theorem tb_666 : (Jvm.Cond.code ({ cls := "RoundVotes", name := "decided", desc := "(III)I" } : Jvm.MethodName) prog_1_method_11_code (5 : Nat) (Option.some Jvm.ClassFile.FieldType.int)) ∈ mTb := mIn3 (List.mem_of_getElem? (i := 186) rfl) rfl
theorem tb_667 : (Jvm.Cond.methodLink "RoundVotes" (181 : Nat) ({ cls := "RoundVotes", name := "isHeight", desc := "(I)Z" } : Jvm.MethodName)) ∈ mTb := mIn3 (List.mem_of_getElem? (i := 187) rfl) rfl
theorem tb_668 : (Jvm.Cond.static ({ cls := "RoundVotes", name := "isHeight", desc := "(I)Z" } : Jvm.MethodName)) ∈ mTb := mIn3 (List.mem_of_getElem? (i := 188) rfl) rfl
theorem tb_669 : (Jvm.Cond.code ({ cls := "RoundVotes", name := "isHeight", desc := "(I)Z" } : Jvm.MethodName) prog_1_method_18_code (1 : Nat) (Option.some Jvm.ClassFile.FieldType.boolean)) ∈ mTb := mIn3 (List.mem_of_getElem? (i := 189) rfl) rfl
theorem tb_670 : (Jvm.Cond.methodLink "RoundVotes" (201 : Nat) ({ cls := "RoundVotes$Setup", name := "weightOfAll", desc := "(II)I" } : Jvm.MethodName)) ∈ mTb := mIn3 (List.mem_of_getElem? (i := 190) rfl) rfl
theorem tb_671 : (Jvm.Cond.methodLink "RoundVotesLaw" (65 : Nat) ({ cls := "RoundVotes", name := "unlike", desc := "(I)I" } : Jvm.MethodName)) ∈ mTb := mIn3 (List.mem_of_getElem? (i := 191) rfl) rfl
theorem tb_672 : (Jvm.Cond.instanceMethod ({ cls := "RoundVotes", name := "unlike", desc := "(I)I" } : Jvm.MethodName)) ∈ mTb := mIn3 (List.mem_of_getElem? (i := 192) rfl) rfl
theorem tb_673 : (Jvm.Cond.selects "RoundVotes" ({ cls := "RoundVotes", name := "unlike", desc := "(I)I" } : Jvm.MethodName) ({ cls := "RoundVotes", name := "unlike", desc := "(I)I" } : Jvm.MethodName)) ∈ mTb := mIn3 (List.mem_of_getElem? (i := 193) rfl) rfl
theorem tb_674 : (Jvm.Cond.code ({ cls := "RoundVotes", name := "unlike", desc := "(I)I" } : Jvm.MethodName) prog_1_method_12_code (5 : Nat) (Option.some Jvm.ClassFile.FieldType.int)) ∈ mTb := mIn3 (List.mem_of_getElem? (i := 194) rfl) rfl
theorem tb_675 : (Jvm.Cond.methodLink "RoundVotesLaw" (69 : Nat) ({ cls := "RoundVotes", name := "evidence", desc := "(II)I" } : Jvm.MethodName)) ∈ mTb := mIn3 (List.mem_of_getElem? (i := 195) rfl) rfl
theorem tb_676 : (Jvm.Cond.instanceMethod ({ cls := "RoundVotes", name := "evidence", desc := "(II)I" } : Jvm.MethodName)) ∈ mTb := mIn3 (List.mem_of_getElem? (i := 196) rfl) rfl
theorem tb_677 : (Jvm.Cond.selects "RoundVotes" ({ cls := "RoundVotes", name := "evidence", desc := "(II)I" } : Jvm.MethodName) ({ cls := "RoundVotes", name := "evidence", desc := "(II)I" } : Jvm.MethodName)) ∈ mTb := mIn3 (List.mem_of_getElem? (i := 197) rfl) rfl
theorem tb_678 : (Jvm.Cond.code ({ cls := "RoundVotes", name := "evidence", desc := "(II)I" } : Jvm.MethodName) prog_1_method_13_code (3 : Nat) (Option.some Jvm.ClassFile.FieldType.int)) ∈ mTb := mIn3 (List.mem_of_getElem? (i := 198) rfl) rfl
theorem tb_679 : (Jvm.Cond.methodLink "RoundVotes" (205 : Nat) ({ cls := "RoundVotes$Faults", name := "part", desc := "(II)I" } : Jvm.MethodName)) ∈ mTb := mIn3 (List.mem_of_getElem? (i := 199) rfl) rfl
theorem tb_680 : (Jvm.Cond.methodLink "RoundVotesLaw" (73 : Nat) ({ cls := "RoundVotes", name := "against", desc := "(I)I" } : Jvm.MethodName)) ∈ mTb := mIn3 (List.mem_of_getElem? (i := 200) rfl) rfl
theorem tb_681 : (Jvm.Cond.instanceMethod ({ cls := "RoundVotes", name := "against", desc := "(I)I" } : Jvm.MethodName)) ∈ mTb := mIn3 (List.mem_of_getElem? (i := 201) rfl) rfl
theorem tb_682 : (Jvm.Cond.selects "RoundVotes" ({ cls := "RoundVotes", name := "against", desc := "(I)I" } : Jvm.MethodName) ({ cls := "RoundVotes", name := "against", desc := "(I)I" } : Jvm.MethodName)) ∈ mTb := mIn3 (List.mem_of_getElem? (i := 202) rfl) rfl
theorem tb_683 : (Jvm.Cond.code ({ cls := "RoundVotes", name := "against", desc := "(I)I" } : Jvm.MethodName) prog_1_method_14_code (2 : Nat) (Option.some Jvm.ClassFile.FieldType.int)) ∈ mTb := mIn3 (List.mem_of_getElem? (i := 203) rfl) rfl
theorem tb_684 : (Jvm.Cond.methodLink "RoundVotesLaw" (77 : Nat) ({ cls := "RoundVotes", name := "count", desc := "(I)I" } : Jvm.MethodName)) ∈ mTb := mIn3 (List.mem_of_getElem? (i := 204) rfl) rfl
theorem tb_685 : (Jvm.Cond.instanceMethod ({ cls := "RoundVotes", name := "count", desc := "(I)I" } : Jvm.MethodName)) ∈ mTb := mIn3 (List.mem_of_getElem? (i := 205) rfl) rfl
theorem tb_686 : (Jvm.Cond.selects "RoundVotes" ({ cls := "RoundVotes", name := "count", desc := "(I)I" } : Jvm.MethodName) ({ cls := "RoundVotes", name := "count", desc := "(I)I" } : Jvm.MethodName)) ∈ mTb := mIn3 (List.mem_of_getElem? (i := 206) rfl) rfl
theorem tb_687 : (Jvm.Cond.code ({ cls := "RoundVotes", name := "count", desc := "(I)I" } : Jvm.MethodName) prog_1_method_15_code (2 : Nat) (Option.some Jvm.ClassFile.FieldType.int)) ∈ mTb := mIn3 (List.mem_of_getElem? (i := 207) rfl) rfl
theorem tb_688 : (Jvm.Cond.methodLink "RoundVotes" (220 : Nat) ({ cls := "RoundVotes", name := "greatestDecided", desc := "()I" } : Jvm.MethodName)) ∈ mTb := mIn3 (List.mem_of_getElem? (i := 208) rfl) rfl
theorem tb_690 : (Jvm.Cond.instanceMethod ({ cls := "RoundVotes", name := "greatestDecided", desc := "()I" } : Jvm.MethodName)) ∈ mTb := mIn3 (List.mem_of_getElem? (i := 210) rfl) rfl
theorem tb_691 : (Jvm.Cond.code ({ cls := "RoundVotes", name := "greatestDecided", desc := "()I" } : Jvm.MethodName) prog_1_method_20_code (1 : Nat) (Option.some Jvm.ClassFile.FieldType.int)) ∈ mTb := mIn3 (List.mem_of_getElem? (i := 211) rfl) rfl
theorem tb_692 : (Jvm.Cond.methodLink "RoundVotesLaw" (81 : Nat) ({ cls := "RoundVotes", name := "weightOf", desc := "(II)I" } : Jvm.MethodName)) ∈ mTb := mIn3 (List.mem_of_getElem? (i := 212) rfl) rfl
theorem tb_693 : (Jvm.Cond.instanceMethod ({ cls := "RoundVotes", name := "weightOf", desc := "(II)I" } : Jvm.MethodName)) ∈ mTb := mIn3 (List.mem_of_getElem? (i := 213) rfl) rfl
theorem tb_694 : (Jvm.Cond.selects "RoundVotes" ({ cls := "RoundVotes", name := "weightOf", desc := "(II)I" } : Jvm.MethodName) ({ cls := "RoundVotes", name := "weightOf", desc := "(II)I" } : Jvm.MethodName)) ∈ mTb := mIn3 (List.mem_of_getElem? (i := 214) rfl) rfl
theorem tb_695 : (Jvm.Cond.code ({ cls := "RoundVotes", name := "weightOf", desc := "(II)I" } : Jvm.MethodName) prog_1_method_16_code (3 : Nat) (Option.some Jvm.ClassFile.FieldType.int)) ∈ mTb := mIn3 (List.mem_of_getElem? (i := 215) rfl) rfl
theorem tb_696 : (Jvm.Cond.methodLink "RoundVotesLaw" (9 : Nat) ({ cls := "RoundVotesLaw", name := "cell", desc := "([II)I" } : Jvm.MethodName)) ∈ mTb := mIn3 (List.mem_of_getElem? (i := 216) rfl) rfl
theorem tb_697 : (Jvm.Cond.static ({ cls := "RoundVotesLaw", name := "cell", desc := "([II)I" } : Jvm.MethodName)) ∈ mTb := mIn3 (List.mem_of_getElem? (i := 217) rfl) rfl
theorem tb_698 : (Jvm.Cond.code ({ cls := "RoundVotesLaw", name := "cell", desc := "([II)I" } : Jvm.MethodName) method_2_code (2 : Nat) (Option.some Jvm.ClassFile.FieldType.int)) ∈ mTb := mIn3 (List.mem_of_getElem? (i := 218) rfl) rfl
theorem tb_699 : (Jvm.Cond.classLink "RoundVotesLaw" (18 : Nat) "RoundVotesModel") ∈ mTb := mIn3 (List.mem_of_getElem? (i := 219) rfl) rfl
theorem tb_700 : (Jvm.Cond.instantiable "RoundVotesModel" (53 : Nat)) ∈ mTb := mIn3 (List.mem_of_getElem? (i := 220) rfl) rfl
theorem tb_701 : (Jvm.Cond.methodLink "RoundVotesLaw" (20 : Nat) ({ cls := "RoundVotesModel", name := "<init>", desc := "(II)V" } : Jvm.MethodName)) ∈ mTb := mIn3 (List.mem_of_getElem? (i := 221) rfl) rfl
theorem tb_702 : (Jvm.Cond.instanceMethod ({ cls := "RoundVotesModel", name := "<init>", desc := "(II)V" } : Jvm.MethodName)) ∈ mTb := mIn3 (List.mem_of_getElem? (i := 222) rfl) rfl
theorem tb_703 : (Jvm.Cond.code ({ cls := "RoundVotesModel", name := "<init>", desc := "(II)V" } : Jvm.MethodName) prog_13_method_3_code (4 : Nat) (Option.none : Option Jvm.ClassFile.FieldType)) ∈ mTb := mIn3 (List.mem_of_getElem? (i := 223) rfl) rfl
theorem tb_704 : (Jvm.Cond.methodLink "RoundVotesModel" (7 : Nat) ({ cls := "java/lang/Object", name := "<init>", desc := "()V" } : Jvm.MethodName)) ∈ mTb := mIn3 (List.mem_of_getElem? (i := 224) rfl) rfl
theorem tb_705 : (Jvm.Cond.constant "RoundVotesModel" (127 : Nat) (36900 : Int32)) ∈ mTb := mIn3 (List.mem_of_getElem? (i := 225) rfl) rfl
theorem tb_706 : (Jvm.Cond.methodLink "RoundVotesModel" (140 : Nat) ({ cls := "RoundVotesModel", name := "clearHeight", desc := "(II)V" } : Jvm.MethodName)) ∈ mTb := mIn3 (List.mem_of_getElem? (i := 226) rfl) rfl
theorem tb_708 : (Jvm.Cond.instanceMethod ({ cls := "RoundVotesModel", name := "clearHeight", desc := "(II)V" } : Jvm.MethodName)) ∈ mTb := mIn3 (List.mem_of_getElem? (i := 228) rfl) rfl
theorem tb_709 : (Jvm.Cond.code ({ cls := "RoundVotesModel", name := "clearHeight", desc := "(II)V" } : Jvm.MethodName) prog_13_method_6_code (6 : Nat) (Option.none : Option Jvm.ClassFile.FieldType)) ∈ mTb := mIn3 (List.mem_of_getElem? (i := 229) rfl) rfl
theorem tb_710 : (Jvm.Cond.methodLink "RoundVotesModel" (148 : Nat) ({ cls := "RoundVotesModel", name := "place", desc := "(IIIII)I" } : Jvm.MethodName)) ∈ mTb := mIn3 (List.mem_of_getElem? (i := 230) rfl) rfl
theorem tb_712 : (Jvm.Cond.instanceMethod ({ cls := "RoundVotesModel", name := "place", desc := "(IIIII)I" } : Jvm.MethodName)) ∈ mTb := mIn3 (List.mem_of_getElem? (i := 232) rfl) rfl
theorem tb_713 : (Jvm.Cond.code ({ cls := "RoundVotesModel", name := "place", desc := "(IIIII)I" } : Jvm.MethodName) prog_13_method_4_code (6 : Nat) (Option.some Jvm.ClassFile.FieldType.int)) ∈ mTb := mIn3 (List.mem_of_getElem? (i := 233) rfl) rfl
theorem tb_714 : (Jvm.Cond.methodLink "RoundVotesModel" (152 : Nat) ({ cls := "RoundVotesModel", name := "roundPlace", desc := "(IIII)I" } : Jvm.MethodName)) ∈ mTb := mIn3 (List.mem_of_getElem? (i := 234) rfl) rfl
theorem tb_716 : (Jvm.Cond.instanceMethod ({ cls := "RoundVotesModel", name := "roundPlace", desc := "(IIII)I" } : Jvm.MethodName)) ∈ mTb := mIn3 (List.mem_of_getElem? (i := 236) rfl) rfl
theorem tb_717 : (Jvm.Cond.code ({ cls := "RoundVotesModel", name := "roundPlace", desc := "(IIII)I" } : Jvm.MethodName) prog_13_method_5_code (5 : Nat) (Option.some Jvm.ClassFile.FieldType.int)) ∈ mTb := mIn3 (List.mem_of_getElem? (i := 237) rfl) rfl
theorem tb_718 : (Jvm.Cond.methodLink "RoundVotesModel" (144 : Nat) ({ cls := "RoundVotesModel", name := "clearSigned", desc := "(I)V" } : Jvm.MethodName)) ∈ mTb := mIn3 (List.mem_of_getElem? (i := 238) rfl) rfl
theorem tb_720 : (Jvm.Cond.instanceMethod ({ cls := "RoundVotesModel", name := "clearSigned", desc := "(I)V" } : Jvm.MethodName)) ∈ mTb := mIn4 (List.mem_of_getElem? (i := 0) rfl) rfl
theorem tb_721 : (Jvm.Cond.code ({ cls := "RoundVotesModel", name := "clearSigned", desc := "(I)V" } : Jvm.MethodName) prog_13_method_7_code (3 : Nat) (Option.none : Option Jvm.ClassFile.FieldType)) ∈ mTb := mIn4 (List.mem_of_getElem? (i := 1) rfl) rfl
theorem tb_722 : (Jvm.Cond.fieldLink "RoundVotesModel" (1 : Nat) "RoundVotesModel" "thrown" "I") ∈ mTb := mIn4 (List.mem_of_getElem? (i := 2) rfl) rfl
theorem tb_723 : (Jvm.Cond.fieldLink "RoundVotesModel" (134 : Nat) "RoundVotesModel" "n" "I") ∈ mTb := mIn4 (List.mem_of_getElem? (i := 3) rfl) rfl
theorem tb_724 : (Jvm.Cond.fieldLink "RoundVotesModel" (137 : Nat) "RoundVotesModel" "seed" "I") ∈ mTb := mIn4 (List.mem_of_getElem? (i := 4) rfl) rfl
theorem tb_725 : (Jvm.Cond.fieldLink "RoundVotesModel" (182 : Nat) "RoundVotesModel" "time" "I") ∈ mTb := mIn4 (List.mem_of_getElem? (i := 5) rfl) rfl
theorem tb_726 : (Jvm.Cond.fieldLink "RoundVotesModel" (13 : Nat) "RoundVotesModel" "weights" "[I") ∈ mTb := mIn4 (List.mem_of_getElem? (i := 6) rfl) rfl
theorem tb_727 : (Jvm.Cond.fieldLink "RoundVotesModel" (17 : Nat) "RoundVotesModel" "heightOf" "[I") ∈ mTb := mIn4 (List.mem_of_getElem? (i := 7) rfl) rfl
theorem tb_728 : (Jvm.Cond.fieldLink "RoundVotesModel" (20 : Nat) "RoundVotesModel" "roundOf" "[I") ∈ mTb := mIn4 (List.mem_of_getElem? (i := 8) rfl) rfl
theorem tb_729 : (Jvm.Cond.fieldLink "RoundVotesModel" (23 : Nat) "RoundVotesModel" "stepOf" "[I") ∈ mTb := mIn4 (List.mem_of_getElem? (i := 9) rfl) rfl
theorem tb_730 : (Jvm.Cond.fieldLink "RoundVotesModel" (26 : Nat) "RoundVotesModel" "lockedValue" "[I") ∈ mTb := mIn4 (List.mem_of_getElem? (i := 10) rfl) rfl
theorem tb_731 : (Jvm.Cond.fieldLink "RoundVotesModel" (29 : Nat) "RoundVotesModel" "lockedRound" "[I") ∈ mTb := mIn4 (List.mem_of_getElem? (i := 11) rfl) rfl
theorem tb_732 : (Jvm.Cond.fieldLink "RoundVotesModel" (32 : Nat) "RoundVotesModel" "validValue" "[I") ∈ mTb := mIn4 (List.mem_of_getElem? (i := 12) rfl) rfl
theorem tb_733 : (Jvm.Cond.fieldLink "RoundVotesModel" (35 : Nat) "RoundVotesModel" "validRound" "[I") ∈ mTb := mIn4 (List.mem_of_getElem? (i := 13) rfl) rfl
theorem tb_734 : (Jvm.Cond.fieldLink "RoundVotesModel" (38 : Nat) "RoundVotesModel" "cutUntil" "[I") ∈ mTb := mIn4 (List.mem_of_getElem? (i := 14) rfl) rfl
theorem tb_735 : (Jvm.Cond.fieldLink "RoundVotesModel" (41 : Nat) "RoundVotesModel" "isCut" "[Z") ∈ mTb := mIn4 (List.mem_of_getElem? (i := 15) rfl) rfl
theorem tb_736 : (Jvm.Cond.fieldLink "RoundVotesModel" (45 : Nat) "RoundVotesModel" "behaviour" "[I") ∈ mTb := mIn4 (List.mem_of_getElem? (i := 16) rfl) rfl
theorem tb_737 : (Jvm.Cond.fieldLink "RoundVotesModel" (48 : Nat) "RoundVotesModel" "timers" "[I") ∈ mTb := mIn4 (List.mem_of_getElem? (i := 17) rfl) rfl
theorem tb_738 : (Jvm.Cond.fieldLink "RoundVotesModel" (51 : Nat) "RoundVotesModel" "didD" "[Z") ∈ mTb := mIn4 (List.mem_of_getElem? (i := 18) rfl) rfl
theorem tb_739 : (Jvm.Cond.fieldLink "RoundVotesModel" (54 : Nat) "RoundVotesModel" "didF" "[Z") ∈ mTb := mIn4 (List.mem_of_getElem? (i := 19) rfl) rfl
theorem tb_740 : (Jvm.Cond.fieldLink "RoundVotesModel" (57 : Nat) "RoundVotesModel" "didG" "[Z") ∈ mTb := mIn4 (List.mem_of_getElem? (i := 20) rfl) rfl
theorem tb_741 : (Jvm.Cond.fieldLink "RoundVotesModel" (60 : Nat) "RoundVotesModel" "sentCopies" "[I") ∈ mTb := mIn4 (List.mem_of_getElem? (i := 21) rfl) rfl
theorem tb_742 : (Jvm.Cond.fieldLink "RoundVotesModel" (63 : Nat) "RoundVotesModel" "has" "[I") ∈ mTb := mIn4 (List.mem_of_getElem? (i := 22) rfl) rfl
theorem tb_743 : (Jvm.Cond.fieldLink "RoundVotesModel" (66 : Nat) "RoundVotesModel" "hasRound" "[I") ∈ mTb := mIn4 (List.mem_of_getElem? (i := 23) rfl) rfl
theorem tb_744 : (Jvm.Cond.fieldLink "RoundVotesModel" (69 : Nat) "RoundVotesModel" "signed" "[I") ∈ mTb := mIn4 (List.mem_of_getElem? (i := 24) rfl) rfl
theorem tb_745 : (Jvm.Cond.fieldLink "RoundVotesModel" (72 : Nat) "RoundVotesModel" "signedRound" "[I") ∈ mTb := mIn4 (List.mem_of_getElem? (i := 25) rfl) rfl
theorem tb_746 : (Jvm.Cond.fieldLink "RoundVotesModel" (75 : Nat) "RoundVotesModel" "decidedValue" "[I") ∈ mTb := mIn4 (List.mem_of_getElem? (i := 26) rfl) rfl
theorem tb_747 : (Jvm.Cond.fieldLink "RoundVotesModel" (78 : Nat) "RoundVotesModel" "decidedRound" "[I") ∈ mTb := mIn4 (List.mem_of_getElem? (i := 27) rfl) rfl
theorem tb_748 : (Jvm.Cond.fieldLink "RoundVotesModel" (81 : Nat) "RoundVotesModel" "decidedBits" "[I") ∈ mTb := mIn4 (List.mem_of_getElem? (i := 28) rfl) rfl
theorem tb_749 : (Jvm.Cond.fieldLink "RoundVotesModel" (84 : Nat) "RoundVotesModel" "decidedWeight" "[J") ∈ mTb := mIn4 (List.mem_of_getElem? (i := 29) rfl) rfl
theorem tb_750 : (Jvm.Cond.fieldLink "RoundVotesModel" (88 : Nat) "RoundVotesModel" "due" "[I") ∈ mTb := mIn4 (List.mem_of_getElem? (i := 30) rfl) rfl
theorem tb_751 : (Jvm.Cond.fieldLink "RoundVotesModel" (91 : Nat) "RoundVotesModel" "from" "[I") ∈ mTb := mIn4 (List.mem_of_getElem? (i := 31) rfl) rfl
theorem tb_752 : (Jvm.Cond.fieldLink "RoundVotesModel" (94 : Nat) "RoundVotesModel" "to" "[I") ∈ mTb := mIn4 (List.mem_of_getElem? (i := 32) rfl) rfl
theorem tb_753 : (Jvm.Cond.fieldLink "RoundVotesModel" (97 : Nat) "RoundVotesModel" "height" "[I") ∈ mTb := mIn4 (List.mem_of_getElem? (i := 33) rfl) rfl
theorem tb_754 : (Jvm.Cond.fieldLink "RoundVotesModel" (100 : Nat) "RoundVotesModel" "round" "[I") ∈ mTb := mIn4 (List.mem_of_getElem? (i := 34) rfl) rfl
theorem tb_755 : (Jvm.Cond.fieldLink "RoundVotesModel" (103 : Nat) "RoundVotesModel" "kind" "[I") ∈ mTb := mIn4 (List.mem_of_getElem? (i := 35) rfl) rfl
theorem tb_756 : (Jvm.Cond.fieldLink "RoundVotesModel" (106 : Nat) "RoundVotesModel" "value" "[I") ∈ mTb := mIn4 (List.mem_of_getElem? (i := 36) rfl) rfl
theorem tb_757 : (Jvm.Cond.fieldLink "RoundVotesModel" (109 : Nat) "RoundVotesModel" "since" "[I") ∈ mTb := mIn4 (List.mem_of_getElem? (i := 37) rfl) rfl
theorem tb_758 : (Jvm.Cond.fieldLink "RoundVotesModel" (112 : Nat) "RoundVotesModel" "isSecond" "[Z") ∈ mTb := mIn4 (List.mem_of_getElem? (i := 38) rfl) rfl
theorem tb_759 : (Jvm.Cond.fieldLink "RoundVotesModel" (222 : Nat) "RoundVotesModel" "copies" "I") ∈ mTb := mIn4 (List.mem_of_getElem? (i := 39) rfl) rfl
theorem tb_760 : (Jvm.Cond.fieldLink "RoundVotesModel" (212 : Nat) "RoundVotesModel" "underWay" "I") ∈ mTb := mIn4 (List.mem_of_getElem? (i := 40) rfl) rfl
theorem tb_761 : (Jvm.Cond.fieldLink "RoundVotesModel" (198 : Nat) "RoundVotesModel" "gone" "I") ∈ mTb := mIn4 (List.mem_of_getElem? (i := 41) rfl) rfl
theorem tb_762 : (Jvm.Cond.fieldLink "RoundVotesModel" (290 : Nat) "RoundVotesModel" "came" "I") ∈ mTb := mIn4 (List.mem_of_getElem? (i := 42) rfl) rfl
theorem tb_763 : (Jvm.Cond.fieldLink "RoundVotesModel" (215 : Nat) "RoundVotesModel" "lost" "I") ∈ mTb := mIn4 (List.mem_of_getElem? (i := 43) rfl) rfl
theorem tb_764 : (Jvm.Cond.fieldLink "RoundVotesModel" (115 : Nat) "RoundVotesModel" "disturbed" "[I") ∈ mTb := mIn4 (List.mem_of_getElem? (i := 44) rfl) rfl
theorem tb_765 : (Jvm.Cond.fieldLink "RoundVotesModel" (118 : Nat) "RoundVotesModel" "disturbKind" "[I") ∈ mTb := mIn4 (List.mem_of_getElem? (i := 45) rfl) rfl
theorem tb_766 : (Jvm.Cond.fieldLink "RoundVotesModel" (121 : Nat) "RoundVotesModel" "disturbBy" "[I") ∈ mTb := mIn4 (List.mem_of_getElem? (i := 46) rfl) rfl
theorem tb_767 : (Jvm.Cond.fieldLink "RoundVotesModel" (205 : Nat) "RoundVotesModel" "disturbs" "I") ∈ mTb := mIn4 (List.mem_of_getElem? (i := 47) rfl) rfl
theorem tb_768 : (Jvm.Cond.fieldLink "RoundVotesModel" (195 : Nat) "RoundVotesModel" "sideBits" "I") ∈ mTb := mIn4 (List.mem_of_getElem? (i := 48) rfl) rfl
theorem tb_769 : (Jvm.Cond.fieldLink "RoundVotesModel" (185 : Nat) "RoundVotesModel" "sidesFrom" "I") ∈ mTb := mIn4 (List.mem_of_getElem? (i := 49) rfl) rfl
theorem tb_770 : (Jvm.Cond.fieldLink "RoundVotesModel" (188 : Nat) "RoundVotesModel" "sidesUntil" "I") ∈ mTb := mIn4 (List.mem_of_getElem? (i := 50) rfl) rfl
theorem tb_771 : (Jvm.Cond.fieldLink "RoundVotesModel" (124 : Nat) "RoundVotesModel" "evidence" "[I") ∈ mTb := mIn4 (List.mem_of_getElem? (i := 51) rfl) rfl
theorem tb_772 : (Jvm.Cond.fieldLink "RoundVotesModel" (228 : Nat) "RoundVotesModel" "evidences" "I") ∈ mTb := mIn4 (List.mem_of_getElem? (i := 52) rfl) rfl
theorem tb_773 : (Jvm.Cond.fieldLink "RoundVotesModel" (128 : Nat) "RoundVotesModel" "firstSent" "[I") ∈ mTb := mIn4 (List.mem_of_getElem? (i := 53) rfl) rfl
theorem tb_774 : (Jvm.Cond.fieldLink "RoundVotesModel" (131 : Nat) "RoundVotesModel" "sentUnlike" "[Z") ∈ mTb := mIn4 (List.mem_of_getElem? (i := 54) rfl) rfl
theorem tb_775 : (Jvm.Cond.lays "RoundVotesModel" "RoundVotesModel" "thrown" "I") ∈ mTb := mIn4 (List.mem_of_getElem? (i := 55) rfl) rfl
theorem tb_777 : (Jvm.Cond.laysFinal "RoundVotesModel" "RoundVotesModel" "n" "I") ∈ mTb := mIn4 (List.mem_of_getElem? (i := 57) rfl) rfl
theorem tb_779 : (Jvm.Cond.laysFinal "RoundVotesModel" "RoundVotesModel" "seed" "I") ∈ mTb := mIn4 (List.mem_of_getElem? (i := 59) rfl) rfl
theorem tb_781 : (Jvm.Cond.lays "RoundVotesModel" "RoundVotesModel" "time" "I") ∈ mTb := mIn4 (List.mem_of_getElem? (i := 61) rfl) rfl
theorem tb_783 : (Jvm.Cond.laysFinal "RoundVotesModel" "RoundVotesModel" "weights" "[I") ∈ mTb := mIn4 (List.mem_of_getElem? (i := 63) rfl) rfl
theorem tb_785 : (Jvm.Cond.laysFinal "RoundVotesModel" "RoundVotesModel" "heightOf" "[I") ∈ mTb := mIn4 (List.mem_of_getElem? (i := 65) rfl) rfl
theorem tb_787 : (Jvm.Cond.laysFinal "RoundVotesModel" "RoundVotesModel" "roundOf" "[I") ∈ mTb := mIn4 (List.mem_of_getElem? (i := 67) rfl) rfl
theorem tb_789 : (Jvm.Cond.laysFinal "RoundVotesModel" "RoundVotesModel" "stepOf" "[I") ∈ mTb := mIn4 (List.mem_of_getElem? (i := 69) rfl) rfl
theorem tb_791 : (Jvm.Cond.laysFinal "RoundVotesModel" "RoundVotesModel" "lockedValue" "[I") ∈ mTb := mIn4 (List.mem_of_getElem? (i := 71) rfl) rfl
theorem tb_793 : (Jvm.Cond.laysFinal "RoundVotesModel" "RoundVotesModel" "lockedRound" "[I") ∈ mTb := mIn4 (List.mem_of_getElem? (i := 73) rfl) rfl
theorem tb_795 : (Jvm.Cond.laysFinal "RoundVotesModel" "RoundVotesModel" "validValue" "[I") ∈ mTb := mIn4 (List.mem_of_getElem? (i := 75) rfl) rfl
theorem tb_797 : (Jvm.Cond.laysFinal "RoundVotesModel" "RoundVotesModel" "validRound" "[I") ∈ mTb := mIn4 (List.mem_of_getElem? (i := 77) rfl) rfl
theorem tb_799 : (Jvm.Cond.laysFinal "RoundVotesModel" "RoundVotesModel" "cutUntil" "[I") ∈ mTb := mIn4 (List.mem_of_getElem? (i := 79) rfl) rfl
theorem tb_801 : (Jvm.Cond.laysFinal "RoundVotesModel" "RoundVotesModel" "isCut" "[Z") ∈ mTb := mIn4 (List.mem_of_getElem? (i := 81) rfl) rfl
theorem tb_803 : (Jvm.Cond.laysFinal "RoundVotesModel" "RoundVotesModel" "behaviour" "[I") ∈ mTb := mIn4 (List.mem_of_getElem? (i := 83) rfl) rfl
theorem tb_805 : (Jvm.Cond.laysFinal "RoundVotesModel" "RoundVotesModel" "timers" "[I") ∈ mTb := mIn4 (List.mem_of_getElem? (i := 85) rfl) rfl
theorem tb_807 : (Jvm.Cond.laysFinal "RoundVotesModel" "RoundVotesModel" "didD" "[Z") ∈ mTb := mIn4 (List.mem_of_getElem? (i := 87) rfl) rfl
theorem tb_809 : (Jvm.Cond.laysFinal "RoundVotesModel" "RoundVotesModel" "didF" "[Z") ∈ mTb := mIn4 (List.mem_of_getElem? (i := 89) rfl) rfl
theorem tb_811 : (Jvm.Cond.laysFinal "RoundVotesModel" "RoundVotesModel" "didG" "[Z") ∈ mTb := mIn4 (List.mem_of_getElem? (i := 91) rfl) rfl
theorem tb_813 : (Jvm.Cond.laysFinal "RoundVotesModel" "RoundVotesModel" "sentCopies" "[I") ∈ mTb := mIn4 (List.mem_of_getElem? (i := 93) rfl) rfl
theorem tb_815 : (Jvm.Cond.laysFinal "RoundVotesModel" "RoundVotesModel" "has" "[I") ∈ mTb := mIn4 (List.mem_of_getElem? (i := 95) rfl) rfl
theorem tb_817 : (Jvm.Cond.laysFinal "RoundVotesModel" "RoundVotesModel" "hasRound" "[I") ∈ mTb := mIn4 (List.mem_of_getElem? (i := 97) rfl) rfl
theorem tb_819 : (Jvm.Cond.laysFinal "RoundVotesModel" "RoundVotesModel" "signed" "[I") ∈ mTb := mIn4 (List.mem_of_getElem? (i := 99) rfl) rfl
theorem tb_821 : (Jvm.Cond.laysFinal "RoundVotesModel" "RoundVotesModel" "signedRound" "[I") ∈ mTb := mIn4 (List.mem_of_getElem? (i := 101) rfl) rfl
theorem tb_823 : (Jvm.Cond.laysFinal "RoundVotesModel" "RoundVotesModel" "decidedValue" "[I") ∈ mTb := mIn4 (List.mem_of_getElem? (i := 103) rfl) rfl
theorem tb_825 : (Jvm.Cond.laysFinal "RoundVotesModel" "RoundVotesModel" "decidedRound" "[I") ∈ mTb := mIn4 (List.mem_of_getElem? (i := 105) rfl) rfl
theorem tb_827 : (Jvm.Cond.laysFinal "RoundVotesModel" "RoundVotesModel" "decidedBits" "[I") ∈ mTb := mIn4 (List.mem_of_getElem? (i := 107) rfl) rfl
theorem tb_829 : (Jvm.Cond.laysFinal "RoundVotesModel" "RoundVotesModel" "decidedWeight" "[J") ∈ mTb := mIn4 (List.mem_of_getElem? (i := 109) rfl) rfl
theorem tb_831 : (Jvm.Cond.laysFinal "RoundVotesModel" "RoundVotesModel" "due" "[I") ∈ mTb := mIn4 (List.mem_of_getElem? (i := 111) rfl) rfl
theorem tb_833 : (Jvm.Cond.laysFinal "RoundVotesModel" "RoundVotesModel" "from" "[I") ∈ mTb := mIn4 (List.mem_of_getElem? (i := 113) rfl) rfl
theorem tb_835 : (Jvm.Cond.laysFinal "RoundVotesModel" "RoundVotesModel" "to" "[I") ∈ mTb := mIn4 (List.mem_of_getElem? (i := 115) rfl) rfl
theorem tb_837 : (Jvm.Cond.laysFinal "RoundVotesModel" "RoundVotesModel" "height" "[I") ∈ mTb := mIn4 (List.mem_of_getElem? (i := 117) rfl) rfl
theorem tb_839 : (Jvm.Cond.laysFinal "RoundVotesModel" "RoundVotesModel" "round" "[I") ∈ mTb := mIn4 (List.mem_of_getElem? (i := 119) rfl) rfl
theorem tb_841 : (Jvm.Cond.laysFinal "RoundVotesModel" "RoundVotesModel" "kind" "[I") ∈ mTb := mIn4 (List.mem_of_getElem? (i := 121) rfl) rfl
theorem tb_843 : (Jvm.Cond.laysFinal "RoundVotesModel" "RoundVotesModel" "value" "[I") ∈ mTb := mIn4 (List.mem_of_getElem? (i := 123) rfl) rfl
theorem tb_845 : (Jvm.Cond.laysFinal "RoundVotesModel" "RoundVotesModel" "since" "[I") ∈ mTb := mIn4 (List.mem_of_getElem? (i := 125) rfl) rfl
theorem tb_847 : (Jvm.Cond.laysFinal "RoundVotesModel" "RoundVotesModel" "isSecond" "[Z") ∈ mTb := mIn4 (List.mem_of_getElem? (i := 127) rfl) rfl
theorem tb_849 : (Jvm.Cond.lays "RoundVotesModel" "RoundVotesModel" "copies" "I") ∈ mTb := mIn4 (List.mem_of_getElem? (i := 129) rfl) rfl
theorem tb_851 : (Jvm.Cond.lays "RoundVotesModel" "RoundVotesModel" "underWay" "I") ∈ mTb := mIn4 (List.mem_of_getElem? (i := 131) rfl) rfl
theorem tb_853 : (Jvm.Cond.lays "RoundVotesModel" "RoundVotesModel" "gone" "I") ∈ mTb := mIn4 (List.mem_of_getElem? (i := 133) rfl) rfl
theorem tb_855 : (Jvm.Cond.lays "RoundVotesModel" "RoundVotesModel" "came" "I") ∈ mTb := mIn4 (List.mem_of_getElem? (i := 135) rfl) rfl
theorem tb_857 : (Jvm.Cond.lays "RoundVotesModel" "RoundVotesModel" "lost" "I") ∈ mTb := mIn4 (List.mem_of_getElem? (i := 137) rfl) rfl
theorem tb_859 : (Jvm.Cond.laysFinal "RoundVotesModel" "RoundVotesModel" "disturbed" "[I") ∈ mTb := mIn4 (List.mem_of_getElem? (i := 139) rfl) rfl
theorem tb_861 : (Jvm.Cond.laysFinal "RoundVotesModel" "RoundVotesModel" "disturbKind" "[I") ∈ mTb := mIn4 (List.mem_of_getElem? (i := 141) rfl) rfl
theorem tb_863 : (Jvm.Cond.laysFinal "RoundVotesModel" "RoundVotesModel" "disturbBy" "[I") ∈ mTb := mIn4 (List.mem_of_getElem? (i := 143) rfl) rfl
theorem tb_865 : (Jvm.Cond.lays "RoundVotesModel" "RoundVotesModel" "disturbs" "I") ∈ mTb := mIn4 (List.mem_of_getElem? (i := 145) rfl) rfl
theorem tb_867 : (Jvm.Cond.lays "RoundVotesModel" "RoundVotesModel" "sideBits" "I") ∈ mTb := mIn4 (List.mem_of_getElem? (i := 147) rfl) rfl
theorem tb_869 : (Jvm.Cond.lays "RoundVotesModel" "RoundVotesModel" "sidesFrom" "I") ∈ mTb := mIn4 (List.mem_of_getElem? (i := 149) rfl) rfl
theorem tb_871 : (Jvm.Cond.lays "RoundVotesModel" "RoundVotesModel" "sidesUntil" "I") ∈ mTb := mIn4 (List.mem_of_getElem? (i := 151) rfl) rfl
theorem tb_873 : (Jvm.Cond.laysFinal "RoundVotesModel" "RoundVotesModel" "evidence" "[I") ∈ mTb := mIn4 (List.mem_of_getElem? (i := 153) rfl) rfl
theorem tb_875 : (Jvm.Cond.lays "RoundVotesModel" "RoundVotesModel" "evidences" "I") ∈ mTb := mIn4 (List.mem_of_getElem? (i := 155) rfl) rfl
theorem tb_877 : (Jvm.Cond.laysFinal "RoundVotesModel" "RoundVotesModel" "firstSent" "[I") ∈ mTb := mIn4 (List.mem_of_getElem? (i := 157) rfl) rfl
theorem tb_879 : (Jvm.Cond.laysFinal "RoundVotesModel" "RoundVotesModel" "sentUnlike" "[Z") ∈ mTb := mIn4 (List.mem_of_getElem? (i := 159) rfl) rfl
theorem tb_882 : (Jvm.Cond.arrayClass Jvm.ClassFile.FieldType.long) ∈ mTb := mIn4 (List.mem_of_getElem? (i := 162) rfl) rfl
theorem tb_883 : (Jvm.Cond.methodLink "RoundVotesLaw" (47 : Nat) ({ cls := "RoundVotesModel", name := "turn", desc := "(I)I" } : Jvm.MethodName)) ∈ mTb := mIn4 (List.mem_of_getElem? (i := 163) rfl) rfl
theorem tb_884 : (Jvm.Cond.instanceMethod ({ cls := "RoundVotesModel", name := "turn", desc := "(I)I" } : Jvm.MethodName)) ∈ mTb := mIn4 (List.mem_of_getElem? (i := 164) rfl) rfl
theorem tb_885 : (Jvm.Cond.selects "RoundVotesModel" ({ cls := "RoundVotesModel", name := "turn", desc := "(I)I" } : Jvm.MethodName) ({ cls := "RoundVotesModel", name := "turn", desc := "(I)I" } : Jvm.MethodName)) ∈ mTb := mIn4 (List.mem_of_getElem? (i := 165) rfl) rfl
theorem tb_886 : (Jvm.Cond.code ({ cls := "RoundVotesModel", name := "turn", desc := "(I)I" } : Jvm.MethodName) prog_13_method_40_code (3 : Nat) (Option.some Jvm.ClassFile.FieldType.int)) ∈ mTb := mIn4 (List.mem_of_getElem? (i := 166) rfl) rfl
theorem tb_887 : (Jvm.Cond.constantLong "RoundVotesModel" (306 : Nat) (100 : Int64)) ∈ mTb := mIn4 (List.mem_of_getElem? (i := 167) rfl) rfl
theorem tb_888 : (Jvm.Cond.methodLink "RoundVotesModel" (191 : Nat) ({ cls := "RoundVotesModel", name := "in", desc := "(JJJ)Z" } : Jvm.MethodName)) ∈ mTb := mIn4 (List.mem_of_getElem? (i := 168) rfl) rfl
theorem tb_889 : (Jvm.Cond.static ({ cls := "RoundVotesModel", name := "in", desc := "(JJJ)Z" } : Jvm.MethodName)) ∈ mTb := mIn4 (List.mem_of_getElem? (i := 169) rfl) rfl
theorem tb_890 : (Jvm.Cond.code ({ cls := "RoundVotesModel", name := "in", desc := "(JJJ)Z" } : Jvm.MethodName) prog_13_method_2_code (6 : Nat) (Option.some Jvm.ClassFile.FieldType.boolean)) ∈ mTb := mIn4 (List.mem_of_getElem? (i := 170) rfl) rfl
theorem tb_891 : (Jvm.Cond.methodLink "RoundVotesModel" (308 : Nat) ({ cls := "RoundVotesModel", name := "oneTurn", desc := "()V" } : Jvm.MethodName)) ∈ mTb := mIn4 (List.mem_of_getElem? (i := 171) rfl) rfl
theorem tb_893 : (Jvm.Cond.instanceMethod ({ cls := "RoundVotesModel", name := "oneTurn", desc := "()V" } : Jvm.MethodName)) ∈ mTb := mIn4 (List.mem_of_getElem? (i := 173) rfl) rfl
theorem tb_894 : (Jvm.Cond.code ({ cls := "RoundVotesModel", name := "oneTurn", desc := "()V" } : Jvm.MethodName) prog_13_method_39_code (4 : Nat) (Option.none : Option Jvm.ClassFile.FieldType)) ∈ mTb := mIn4 (List.mem_of_getElem? (i := 174) rfl) rfl
theorem tb_895 : (Jvm.Cond.methodLink "RoundVotesModel" (259 : Nat) ({ cls := "RoundVotesModel", name := "begin", desc := "(II)V" } : Jvm.MethodName)) ∈ mTb := mIn4 (List.mem_of_getElem? (i := 175) rfl) rfl
theorem tb_897 : (Jvm.Cond.instanceMethod ({ cls := "RoundVotesModel", name := "begin", desc := "(II)V" } : Jvm.MethodName)) ∈ mTb := mIn4 (List.mem_of_getElem? (i := 177) rfl) rfl
theorem tb_898 : (Jvm.Cond.code ({ cls := "RoundVotesModel", name := "begin", desc := "(II)V" } : Jvm.MethodName) prog_13_method_25_code (4 : Nat) (Option.none : Option Jvm.ClassFile.FieldType)) ∈ mTb := mIn4 (List.mem_of_getElem? (i := 178) rfl) rfl
theorem tb_899 : (Jvm.Cond.methodLink "RoundVotesModel" (234 : Nat) ({ cls := "RoundVotesModel", name := "proposer", desc := "(II)I" } : Jvm.MethodName)) ∈ mTb := mIn4 (List.mem_of_getElem? (i := 179) rfl) rfl
theorem tb_901 : (Jvm.Cond.instanceMethod ({ cls := "RoundVotesModel", name := "proposer", desc := "(II)I" } : Jvm.MethodName)) ∈ mTb := mIn4 (List.mem_of_getElem? (i := 181) rfl) rfl
theorem tb_902 : (Jvm.Cond.code ({ cls := "RoundVotesModel", name := "proposer", desc := "(II)I" } : Jvm.MethodName) prog_13_method_10_code (3 : Nat) (Option.some Jvm.ClassFile.FieldType.int)) ∈ mTb := mIn4 (List.mem_of_getElem? (i := 182) rfl) rfl
theorem tb_903 : (Jvm.Cond.methodLink "RoundVotesModel" (237 : Nat) ({ cls := "RoundVotesModel", name := "send", desc := "(IIII)V" } : Jvm.MethodName)) ∈ mTb := mIn4 (List.mem_of_getElem? (i := 183) rfl) rfl
theorem tb_905 : (Jvm.Cond.instanceMethod ({ cls := "RoundVotesModel", name := "send", desc := "(IIII)V" } : Jvm.MethodName)) ∈ mTb := mIn4 (List.mem_of_getElem? (i := 185) rfl) rfl
theorem tb_906 : (Jvm.Cond.code ({ cls := "RoundVotesModel", name := "send", desc := "(IIII)V" } : Jvm.MethodName) prog_13_method_15_code (12 : Nat) (Option.none : Option Jvm.ClassFile.FieldType)) ∈ mTb := mIn4 (List.mem_of_getElem? (i := 186) rfl) rfl
theorem tb_907 : (Jvm.Cond.methodLink "RoundVotesModel" (170 : Nat) ({ cls := "RoundVotesModel", name := "keep", desc := "(IIIIIIIZ)V" } : Jvm.MethodName)) ∈ mTb := mIn4 (List.mem_of_getElem? (i := 187) rfl) rfl
theorem tb_909 : (Jvm.Cond.instanceMethod ({ cls := "RoundVotesModel", name := "keep", desc := "(IIIIIIIZ)V" } : Jvm.MethodName)) ∈ mTb := mIn4 (List.mem_of_getElem? (i := 189) rfl) rfl
theorem tb_910 : (Jvm.Cond.code ({ cls := "RoundVotesModel", name := "keep", desc := "(IIIIIIIZ)V" } : Jvm.MethodName) prog_13_method_19_code (11 : Nat) (Option.none : Option Jvm.ClassFile.FieldType)) ∈ mTb := mIn4 (List.mem_of_getElem? (i := 190) rfl) rfl
theorem tb_911 : (Jvm.Cond.methodLink "RoundVotesModel" (225 : Nat) ({ cls := "RoundVotesModel", name := "accuse", desc := "(IIIII)V" } : Jvm.MethodName)) ∈ mTb := mIn4 (List.mem_of_getElem? (i := 191) rfl) rfl
theorem tb_913 : (Jvm.Cond.instanceMethod ({ cls := "RoundVotesModel", name := "accuse", desc := "(IIIII)V" } : Jvm.MethodName)) ∈ mTb := mIn4 (List.mem_of_getElem? (i := 193) rfl) rfl
theorem tb_914 : (Jvm.Cond.code ({ cls := "RoundVotesModel", name := "accuse", desc := "(IIIII)V" } : Jvm.MethodName) prog_13_method_20_code (7 : Nat) (Option.none : Option Jvm.ClassFile.FieldType)) ∈ mTb := mIn4 (List.mem_of_getElem? (i := 194) rfl) rfl
theorem tb_915 : (Jvm.Cond.methodLink "RoundVotesModel" (174 : Nat) ({ cls := "RoundVotesModel", name := "otherValue", desc := "(II)I" } : Jvm.MethodName)) ∈ mTb := mIn4 (List.mem_of_getElem? (i := 195) rfl) rfl
theorem tb_916 : (Jvm.Cond.static ({ cls := "RoundVotesModel", name := "otherValue", desc := "(II)I" } : Jvm.MethodName)) ∈ mTb := mIn4 (List.mem_of_getElem? (i := 196) rfl) rfl
theorem tb_917 : (Jvm.Cond.code ({ cls := "RoundVotesModel", name := "otherValue", desc := "(II)I" } : Jvm.MethodName) prog_13_method_14_code (2 : Nat) (Option.some Jvm.ClassFile.FieldType.int)) ∈ mTb := mIn4 (List.mem_of_getElem? (i := 197) rfl) rfl
theorem tb_918 : (Jvm.Cond.methodLink "RoundVotesModel" (178 : Nat) ({ cls := "RoundVotesModel", name := "copy", desc := "(IIIIIII)V" } : Jvm.MethodName)) ∈ mTb := mIn4 (List.mem_of_getElem? (i := 198) rfl) rfl
theorem tb_920 : (Jvm.Cond.instanceMethod ({ cls := "RoundVotesModel", name := "copy", desc := "(IIIIIII)V" } : Jvm.MethodName)) ∈ mTb := mIn4 (List.mem_of_getElem? (i := 200) rfl) rfl
theorem tb_921 : (Jvm.Cond.code ({ cls := "RoundVotesModel", name := "copy", desc := "(IIIIIII)V" } : Jvm.MethodName) prog_13_method_17_code (13 : Nat) (Option.none : Option Jvm.ClassFile.FieldType)) ∈ mTb := mIn4 (List.mem_of_getElem? (i := 201) rfl) rfl
theorem tb_922 : (Jvm.Cond.methodLink "RoundVotesModel" (201 : Nat) ({ cls := "RoundVotesModel", name := "noteSent", desc := "(IIIII)V" } : Jvm.MethodName)) ∈ mTb := mIn4 (List.mem_of_getElem? (i := 202) rfl) rfl
theorem tb_924 : (Jvm.Cond.instanceMethod ({ cls := "RoundVotesModel", name := "noteSent", desc := "(IIIII)V" } : Jvm.MethodName)) ∈ mTb := mIn4 (List.mem_of_getElem? (i := 204) rfl) rfl
theorem tb_925 : (Jvm.Cond.code ({ cls := "RoundVotesModel", name := "noteSent", desc := "(IIIII)V" } : Jvm.MethodName) prog_13_method_13_code (7 : Nat) (Option.none : Option Jvm.ClassFile.FieldType)) ∈ mTb := mIn4 (List.mem_of_getElem? (i := 205) rfl) rfl
theorem tb_926 : (Jvm.Cond.methodLink "RoundVotesModel" (167 : Nat) ({ cls := "RoundVotesModel", name := "sentPlace", desc := "(IIII)I" } : Jvm.MethodName)) ∈ mTb := mIn4 (List.mem_of_getElem? (i := 206) rfl) rfl
theorem tb_928 : (Jvm.Cond.instanceMethod ({ cls := "RoundVotesModel", name := "sentPlace", desc := "(IIII)I" } : Jvm.MethodName)) ∈ mTb := mIn4 (List.mem_of_getElem? (i := 208) rfl) rfl
theorem tb_929 : (Jvm.Cond.code ({ cls := "RoundVotesModel", name := "sentPlace", desc := "(IIII)I" } : Jvm.MethodName) prog_13_method_12_code (5 : Nat) (Option.some Jvm.ClassFile.FieldType.int)) ∈ mTb := mIn4 (List.mem_of_getElem? (i := 209) rfl) rfl
theorem tb_930 : (Jvm.Cond.methodLink "RoundVotesModel" (208 : Nat) ({ cls := "RoundVotesModel", name := "areApart", desc := "(II)Z" } : Jvm.MethodName)) ∈ mTb := mIn4 (List.mem_of_getElem? (i := 210) rfl) rfl
theorem tb_932 : (Jvm.Cond.instanceMethod ({ cls := "RoundVotesModel", name := "areApart", desc := "(II)Z" } : Jvm.MethodName)) ∈ mTb := mIn4 (List.mem_of_getElem? (i := 212) rfl) rfl
theorem tb_933 : (Jvm.Cond.code ({ cls := "RoundVotesModel", name := "areApart", desc := "(II)Z" } : Jvm.MethodName) prog_13_method_16_code (3 : Nat) (Option.some Jvm.ClassFile.FieldType.boolean)) ∈ mTb := mIn4 (List.mem_of_getElem? (i := 213) rfl) rfl
theorem tb_934 : (Jvm.Cond.methodLink "RoundVotesModel" (218 : Nat) ({ cls := "RoundVotesModel", name := "put", desc := "(IIIIIIIIZ)V" } : Jvm.MethodName)) ∈ mTb := mIn4 (List.mem_of_getElem? (i := 214) rfl) rfl
theorem tb_936 : (Jvm.Cond.instanceMethod ({ cls := "RoundVotesModel", name := "put", desc := "(IIIIIIIIZ)V" } : Jvm.MethodName)) ∈ mTb := mIn4 (List.mem_of_getElem? (i := 216) rfl) rfl
theorem tb_937 : (Jvm.Cond.code ({ cls := "RoundVotesModel", name := "put", desc := "(IIIIIIIIZ)V" } : Jvm.MethodName) prog_13_method_18_code (11 : Nat) (Option.none : Option Jvm.ClassFile.FieldType)) ∈ mTb := mIn4 (List.mem_of_getElem? (i := 217) rfl) rfl
theorem tb_938 : (Jvm.Cond.methodLink "RoundVotesModel" (241 : Nat) ({ cls := "RoundVotesModel", name := "ownValue", desc := "(III)I" } : Jvm.MethodName)) ∈ mTb := mIn4 (List.mem_of_getElem? (i := 218) rfl) rfl
theorem tb_940 : (Jvm.Cond.instanceMethod ({ cls := "RoundVotesModel", name := "ownValue", desc := "(III)I" } : Jvm.MethodName)) ∈ mTb := mIn4 (List.mem_of_getElem? (i := 220) rfl) rfl
theorem tb_941 : (Jvm.Cond.code ({ cls := "RoundVotesModel", name := "ownValue", desc := "(III)I" } : Jvm.MethodName) prog_13_method_11_code (4 : Nat) (Option.some Jvm.ClassFile.FieldType.int)) ∈ mTb := mIn4 (List.mem_of_getElem? (i := 221) rfl) rfl
theorem tb_942 : (Jvm.Cond.constant "RoundVotesModel" (164 : Nat) (104729 : Int32)) ∈ mTb := mIn4 (List.mem_of_getElem? (i := 222) rfl) rfl
theorem tb_943 : (Jvm.Cond.constant "RoundVotesModel" (165 : Nat) (1299709 : Int32)) ∈ mTb := mIn4 (List.mem_of_getElem? (i := 223) rfl) rfl
theorem tb_944 : (Jvm.Cond.constant "RoundVotesModel" (166 : Nat) (1048575 : Int32)) ∈ mTb := mIn4 (List.mem_of_getElem? (i := 224) rfl) rfl
theorem tb_945 : (Jvm.Cond.methodLink "RoundVotesModel" (287 : Nat) ({ cls := "RoundVotesModel", name := "rules", desc := "(I)V" } : Jvm.MethodName)) ∈ mTb := mIn4 (List.mem_of_getElem? (i := 225) rfl) rfl
theorem tb_947 : (Jvm.Cond.instanceMethod ({ cls := "RoundVotesModel", name := "rules", desc := "(I)V" } : Jvm.MethodName)) ∈ mTb := mIn4 (List.mem_of_getElem? (i := 227) rfl) rfl
theorem tb_948 : (Jvm.Cond.code ({ cls := "RoundVotesModel", name := "rules", desc := "(I)V" } : Jvm.MethodName) prog_13_method_34_code (3 : Nat) (Option.none : Option Jvm.ClassFile.FieldType)) ∈ mTb := mIn4 (List.mem_of_getElem? (i := 228) rfl) rfl
theorem tb_949 : (Jvm.Cond.methodLink "RoundVotesModel" (265 : Nat) ({ cls := "RoundVotesModel", name := "ruleA", desc := "(I)Z" } : Jvm.MethodName)) ∈ mTb := mIn4 (List.mem_of_getElem? (i := 229) rfl) rfl
theorem tb_951 : (Jvm.Cond.instanceMethod ({ cls := "RoundVotesModel", name := "ruleA", desc := "(I)Z" } : Jvm.MethodName)) ∈ mTb := mIn4 (List.mem_of_getElem? (i := 231) rfl) rfl
theorem tb_952 : (Jvm.Cond.code ({ cls := "RoundVotesModel", name := "ruleA", desc := "(I)Z" } : Jvm.MethodName) prog_13_method_27_code (7 : Nat) (Option.some Jvm.ClassFile.FieldType.boolean)) ∈ mTb := mIn4 (List.mem_of_getElem? (i := 232) rfl) rfl
theorem tb_953 : (Jvm.Cond.methodLink "RoundVotesModel" (245 : Nat) ({ cls := "RoundVotesModel", name := "proposal", desc := "(II)I" } : Jvm.MethodName)) ∈ mTb := mIn4 (List.mem_of_getElem? (i := 233) rfl) rfl
theorem tb_955 : (Jvm.Cond.instanceMethod ({ cls := "RoundVotesModel", name := "proposal", desc := "(II)I" } : Jvm.MethodName)) ∈ mTb := mIn4 (List.mem_of_getElem? (i := 235) rfl) rfl
theorem tb_956 : (Jvm.Cond.code ({ cls := "RoundVotesModel", name := "proposal", desc := "(II)I" } : Jvm.MethodName) prog_13_method_23_code (3 : Nat) (Option.some Jvm.ClassFile.FieldType.int)) ∈ mTb := mIn4 (List.mem_of_getElem? (i := 236) rfl) rfl
theorem tb_957 : (Jvm.Cond.methodLink "RoundVotesModel" (231 : Nat) ({ cls := "RoundVotesModel", name := "hasOf", desc := "(IIII)I" } : Jvm.MethodName)) ∈ mTb := mIn4 (List.mem_of_getElem? (i := 237) rfl) rfl
theorem tb_959 : (Jvm.Cond.instanceMethod ({ cls := "RoundVotesModel", name := "hasOf", desc := "(IIII)I" } : Jvm.MethodName)) ∈ mTb := mIn4 (List.mem_of_getElem? (i := 239) rfl) rfl
theorem tb_960 : (Jvm.Cond.code ({ cls := "RoundVotesModel", name := "hasOf", desc := "(IIII)I" } : Jvm.MethodName) prog_13_method_21_code (5 : Nat) (Option.some Jvm.ClassFile.FieldType.int)) ∈ mTb := mIn5 (List.mem_of_getElem? (i := 0) rfl) rfl
theorem tb_961 : (Jvm.Cond.methodLink "RoundVotesModel" (248 : Nat) ({ cls := "RoundVotesModel", name := "votes", desc := "(IIII)J" } : Jvm.MethodName)) ∈ mTb := mIn5 (List.mem_of_getElem? (i := 1) rfl) rfl
theorem tb_963 : (Jvm.Cond.instanceMethod ({ cls := "RoundVotesModel", name := "votes", desc := "(IIII)J" } : Jvm.MethodName)) ∈ mTb := mIn5 (List.mem_of_getElem? (i := 3) rfl) rfl
theorem tb_964 : (Jvm.Cond.code ({ cls := "RoundVotesModel", name := "votes", desc := "(IIII)J" } : Jvm.MethodName) prog_13_method_22_code (9 : Nat) (Option.some Jvm.ClassFile.FieldType.long)) ∈ mTb := mIn5 (List.mem_of_getElem? (i := 4) rfl) rfl
theorem tb_965 : (Jvm.Cond.methodLink "RoundVotesModel" (252 : Nat) ({ cls := "RoundVotesModel", name := "isMany", desc := "(JI)Z" } : Jvm.MethodName)) ∈ mTb := mIn5 (List.mem_of_getElem? (i := 5) rfl) rfl
theorem tb_967 : (Jvm.Cond.instanceMethod ({ cls := "RoundVotesModel", name := "isMany", desc := "(JI)Z" } : Jvm.MethodName)) ∈ mTb := mIn5 (List.mem_of_getElem? (i := 7) rfl) rfl
theorem tb_968 : (Jvm.Cond.code ({ cls := "RoundVotesModel", name := "isMany", desc := "(JI)Z" } : Jvm.MethodName) prog_13_method_9_code (4 : Nat) (Option.some Jvm.ClassFile.FieldType.boolean)) ∈ mTb := mIn5 (List.mem_of_getElem? (i := 8) rfl) rfl
theorem tb_969 : (Jvm.Cond.constantLong "RoundVotesModel" (156 : Nat) (3 : Int64)) ∈ mTb := mIn5 (List.mem_of_getElem? (i := 9) rfl) rfl
theorem tb_970 : (Jvm.Cond.constantLong "RoundVotesModel" (158 : Nat) (2 : Int64)) ∈ mTb := mIn5 (List.mem_of_getElem? (i := 10) rfl) rfl
theorem tb_971 : (Jvm.Cond.methodLink "RoundVotesModel" (160 : Nat) ({ cls := "RoundVotesModel", name := "all", desc := "(I)J" } : Jvm.MethodName)) ∈ mTb := mIn5 (List.mem_of_getElem? (i := 11) rfl) rfl
theorem tb_973 : (Jvm.Cond.instanceMethod ({ cls := "RoundVotesModel", name := "all", desc := "(I)J" } : Jvm.MethodName)) ∈ mTb := mIn5 (List.mem_of_getElem? (i := 13) rfl) rfl
theorem tb_974 : (Jvm.Cond.code ({ cls := "RoundVotesModel", name := "all", desc := "(I)J" } : Jvm.MethodName) prog_13_method_8_code (5 : Nat) (Option.some Jvm.ClassFile.FieldType.long)) ∈ mTb := mIn5 (List.mem_of_getElem? (i := 14) rfl) rfl
theorem tb_975 : (Jvm.Cond.methodLink "RoundVotesModel" (256 : Nat) ({ cls := "RoundVotesModel", name := "nextHeight", desc := "(I)V" } : Jvm.MethodName)) ∈ mTb := mIn5 (List.mem_of_getElem? (i := 15) rfl) rfl
theorem tb_977 : (Jvm.Cond.instanceMethod ({ cls := "RoundVotesModel", name := "nextHeight", desc := "(I)V" } : Jvm.MethodName)) ∈ mTb := mIn5 (List.mem_of_getElem? (i := 17) rfl) rfl
theorem tb_978 : (Jvm.Cond.code ({ cls := "RoundVotesModel", name := "nextHeight", desc := "(I)V" } : Jvm.MethodName) prog_13_method_26_code (3 : Nat) (Option.none : Option Jvm.ClassFile.FieldType)) ∈ mTb := mIn5 (List.mem_of_getElem? (i := 18) rfl) rfl
theorem tb_979 : (Jvm.Cond.methodLink "RoundVotesModel" (269 : Nat) ({ cls := "RoundVotesModel", name := "ruleB", desc := "(I)Z" } : Jvm.MethodName)) ∈ mTb := mIn5 (List.mem_of_getElem? (i := 19) rfl) rfl
theorem tb_981 : (Jvm.Cond.instanceMethod ({ cls := "RoundVotesModel", name := "ruleB", desc := "(I)Z" } : Jvm.MethodName)) ∈ mTb := mIn5 (List.mem_of_getElem? (i := 21) rfl) rfl
theorem tb_982 : (Jvm.Cond.code ({ cls := "RoundVotesModel", name := "ruleB", desc := "(I)Z" } : Jvm.MethodName) prog_13_method_28_code (8 : Nat) (Option.some Jvm.ClassFile.FieldType.boolean)) ∈ mTb := mIn5 (List.mem_of_getElem? (i := 22) rfl) rfl
theorem tb_983 : (Jvm.Cond.methodLink "RoundVotesModel" (272 : Nat) ({ cls := "RoundVotesModel", name := "ruleC", desc := "(I)Z" } : Jvm.MethodName)) ∈ mTb := mIn5 (List.mem_of_getElem? (i := 23) rfl) rfl
theorem tb_985 : (Jvm.Cond.instanceMethod ({ cls := "RoundVotesModel", name := "ruleC", desc := "(I)Z" } : Jvm.MethodName)) ∈ mTb := mIn5 (List.mem_of_getElem? (i := 25) rfl) rfl
theorem tb_986 : (Jvm.Cond.code ({ cls := "RoundVotesModel", name := "ruleC", desc := "(I)Z" } : Jvm.MethodName) prog_13_method_29_code (6 : Nat) (Option.some Jvm.ClassFile.FieldType.boolean)) ∈ mTb := mIn5 (List.mem_of_getElem? (i := 26) rfl) rfl
theorem tb_987 : (Jvm.Cond.methodLink "RoundVotesModel" (262 : Nat) ({ cls := "RoundVotesModel", name := "proposalSince", desc := "(II)I" } : Jvm.MethodName)) ∈ mTb := mIn5 (List.mem_of_getElem? (i := 27) rfl) rfl
theorem tb_989 : (Jvm.Cond.instanceMethod ({ cls := "RoundVotesModel", name := "proposalSince", desc := "(II)I" } : Jvm.MethodName)) ∈ mTb := mIn5 (List.mem_of_getElem? (i := 29) rfl) rfl
theorem tb_990 : (Jvm.Cond.code ({ cls := "RoundVotesModel", name := "proposalSince", desc := "(II)I" } : Jvm.MethodName) prog_13_method_24_code (3 : Nat) (Option.some Jvm.ClassFile.FieldType.int)) ∈ mTb := mIn5 (List.mem_of_getElem? (i := 30) rfl) rfl
theorem tb_991 : (Jvm.Cond.methodLink "RoundVotesModel" (275 : Nat) ({ cls := "RoundVotesModel", name := "ruleD", desc := "(I)Z" } : Jvm.MethodName)) ∈ mTb := mIn5 (List.mem_of_getElem? (i := 31) rfl) rfl
theorem tb_993 : (Jvm.Cond.instanceMethod ({ cls := "RoundVotesModel", name := "ruleD", desc := "(I)Z" } : Jvm.MethodName)) ∈ mTb := mIn5 (List.mem_of_getElem? (i := 33) rfl) rfl
theorem tb_994 : (Jvm.Cond.code ({ cls := "RoundVotesModel", name := "ruleD", desc := "(I)Z" } : Jvm.MethodName) prog_13_method_30_code (4 : Nat) (Option.some Jvm.ClassFile.FieldType.boolean)) ∈ mTb := mIn5 (List.mem_of_getElem? (i := 34) rfl) rfl
theorem tb_995 : (Jvm.Cond.methodLink "RoundVotesModel" (278 : Nat) ({ cls := "RoundVotesModel", name := "ruleE", desc := "(I)Z" } : Jvm.MethodName)) ∈ mTb := mIn5 (List.mem_of_getElem? (i := 35) rfl) rfl
theorem tb_997 : (Jvm.Cond.instanceMethod ({ cls := "RoundVotesModel", name := "ruleE", desc := "(I)Z" } : Jvm.MethodName)) ∈ mTb := mIn5 (List.mem_of_getElem? (i := 37) rfl) rfl
theorem tb_998 : (Jvm.Cond.code ({ cls := "RoundVotesModel", name := "ruleE", desc := "(I)Z" } : Jvm.MethodName) prog_13_method_31_code (2 : Nat) (Option.some Jvm.ClassFile.FieldType.boolean)) ∈ mTb := mIn5 (List.mem_of_getElem? (i := 38) rfl) rfl
theorem tb_999 : (Jvm.Cond.methodLink "RoundVotesModel" (281 : Nat) ({ cls := "RoundVotesModel", name := "ruleF", desc := "(I)Z" } : Jvm.MethodName)) ∈ mTb := mIn5 (List.mem_of_getElem? (i := 39) rfl) rfl
theorem tb_1001 : (Jvm.Cond.instanceMethod ({ cls := "RoundVotesModel", name := "ruleF", desc := "(I)Z" } : Jvm.MethodName)) ∈ mTb := mIn5 (List.mem_of_getElem? (i := 41) rfl) rfl
theorem tb_1002 : (Jvm.Cond.code ({ cls := "RoundVotesModel", name := "ruleF", desc := "(I)Z" } : Jvm.MethodName) prog_13_method_32_code (2 : Nat) (Option.some Jvm.ClassFile.FieldType.boolean)) ∈ mTb := mIn5 (List.mem_of_getElem? (i := 42) rfl) rfl
theorem tb_1003 : (Jvm.Cond.methodLink "RoundVotesModel" (284 : Nat) ({ cls := "RoundVotesModel", name := "ruleG", desc := "(I)Z" } : Jvm.MethodName)) ∈ mTb := mIn5 (List.mem_of_getElem? (i := 43) rfl) rfl
theorem tb_1005 : (Jvm.Cond.instanceMethod ({ cls := "RoundVotesModel", name := "ruleG", desc := "(I)Z" } : Jvm.MethodName)) ∈ mTb := mIn5 (List.mem_of_getElem? (i := 45) rfl) rfl
theorem tb_1006 : (Jvm.Cond.code ({ cls := "RoundVotesModel", name := "ruleG", desc := "(I)Z" } : Jvm.MethodName) prog_13_method_33_code (2 : Nat) (Option.some Jvm.ClassFile.FieldType.boolean)) ∈ mTb := mIn5 (List.mem_of_getElem? (i := 46) rfl) rfl
theorem tb_1007 : (Jvm.Cond.methodLink "RoundVotesModel" (293 : Nat) ({ cls := "RoundVotesModel", name := "comeBack", desc := "(I)V" } : Jvm.MethodName)) ∈ mTb := mIn5 (List.mem_of_getElem? (i := 47) rfl) rfl
theorem tb_1009 : (Jvm.Cond.instanceMethod ({ cls := "RoundVotesModel", name := "comeBack", desc := "(I)V" } : Jvm.MethodName)) ∈ mTb := mIn5 (List.mem_of_getElem? (i := 49) rfl) rfl
theorem tb_1010 : (Jvm.Cond.code ({ cls := "RoundVotesModel", name := "comeBack", desc := "(I)V" } : Jvm.MethodName) prog_13_method_35_code (5 : Nat) (Option.none : Option Jvm.ClassFile.FieldType)) ∈ mTb := mIn5 (List.mem_of_getElem? (i := 50) rfl) rfl
theorem tb_1011 : (Jvm.Cond.methodLink "RoundVotesModel" (296 : Nat) ({ cls := "RoundVotesModel", name := "deliver", desc := "(ZI)V" } : Jvm.MethodName)) ∈ mTb := mIn5 (List.mem_of_getElem? (i := 51) rfl) rfl
theorem tb_1013 : (Jvm.Cond.instanceMethod ({ cls := "RoundVotesModel", name := "deliver", desc := "(ZI)V" } : Jvm.MethodName)) ∈ mTb := mIn5 (List.mem_of_getElem? (i := 53) rfl) rfl
theorem tb_1014 : (Jvm.Cond.code ({ cls := "RoundVotesModel", name := "deliver", desc := "(ZI)V" } : Jvm.MethodName) prog_13_method_36_code (5 : Nat) (Option.none : Option Jvm.ClassFile.FieldType)) ∈ mTb := mIn5 (List.mem_of_getElem? (i := 54) rfl) rfl
theorem tb_1015 : (Jvm.Cond.methodLink "RoundVotesModel" (300 : Nat) ({ cls := "RoundVotesModel", name := "timerEnds", desc := "(II)V" } : Jvm.MethodName)) ∈ mTb := mIn5 (List.mem_of_getElem? (i := 55) rfl) rfl
theorem tb_1017 : (Jvm.Cond.instanceMethod ({ cls := "RoundVotesModel", name := "timerEnds", desc := "(II)V" } : Jvm.MethodName)) ∈ mTb := mIn5 (List.mem_of_getElem? (i := 57) rfl) rfl
theorem tb_1018 : (Jvm.Cond.code ({ cls := "RoundVotesModel", name := "timerEnds", desc := "(II)V" } : Jvm.MethodName) prog_13_method_38_code (3 : Nat) (Option.none : Option Jvm.ClassFile.FieldType)) ∈ mTb := mIn5 (List.mem_of_getElem? (i := 58) rfl) rfl
theorem tb_1019 : (Jvm.Cond.methodLink "RoundVotesModel" (303 : Nat) ({ cls := "RoundVotesModel", name := "tidy", desc := "()V" } : Jvm.MethodName)) ∈ mTb := mIn5 (List.mem_of_getElem? (i := 59) rfl) rfl
theorem tb_1021 : (Jvm.Cond.instanceMethod ({ cls := "RoundVotesModel", name := "tidy", desc := "()V" } : Jvm.MethodName)) ∈ mTb := mIn5 (List.mem_of_getElem? (i := 61) rfl) rfl
theorem tb_1022 : (Jvm.Cond.code ({ cls := "RoundVotesModel", name := "tidy", desc := "()V" } : Jvm.MethodName) prog_13_method_37_code (3 : Nat) (Option.none : Option Jvm.ClassFile.FieldType)) ∈ mTb := mIn5 (List.mem_of_getElem? (i := 62) rfl) rfl
theorem tb_1023 : (Jvm.Cond.methodLink "RoundVotesLaw" (25 : Nat) ({ cls := "RoundVotesModel", name := "weight", desc := "(II)I" } : Jvm.MethodName)) ∈ mTb := mIn5 (List.mem_of_getElem? (i := 63) rfl) rfl
theorem tb_1024 : (Jvm.Cond.instanceMethod ({ cls := "RoundVotesModel", name := "weight", desc := "(II)I" } : Jvm.MethodName)) ∈ mTb := mIn5 (List.mem_of_getElem? (i := 64) rfl) rfl
theorem tb_1025 : (Jvm.Cond.selects "RoundVotesModel" ({ cls := "RoundVotesModel", name := "weight", desc := "(II)I" } : Jvm.MethodName) ({ cls := "RoundVotesModel", name := "weight", desc := "(II)I" } : Jvm.MethodName)) ∈ mTb := mIn5 (List.mem_of_getElem? (i := 65) rfl) rfl
theorem tb_1026 : (Jvm.Cond.code ({ cls := "RoundVotesModel", name := "weight", desc := "(II)I" } : Jvm.MethodName) prog_13_method_42_code (5 : Nat) (Option.some Jvm.ClassFile.FieldType.int)) ∈ mTb := mIn5 (List.mem_of_getElem? (i := 66) rfl) rfl
theorem tb_1027 : (Jvm.Cond.methodLink "RoundVotesModel" (311 : Nat) ({ cls := "RoundVotesModel", name := "noNode", desc := "(I)Z" } : Jvm.MethodName)) ∈ mTb := mIn5 (List.mem_of_getElem? (i := 67) rfl) rfl
theorem tb_1029 : (Jvm.Cond.instanceMethod ({ cls := "RoundVotesModel", name := "noNode", desc := "(I)Z" } : Jvm.MethodName)) ∈ mTb := mIn5 (List.mem_of_getElem? (i := 69) rfl) rfl
theorem tb_1030 : (Jvm.Cond.code ({ cls := "RoundVotesModel", name := "noNode", desc := "(I)Z" } : Jvm.MethodName) prog_13_method_41_code (2 : Nat) (Option.some Jvm.ClassFile.FieldType.boolean)) ∈ mTb := mIn5 (List.mem_of_getElem? (i := 70) rfl) rfl
theorem tb_1031 : (Jvm.Cond.constantLong "RoundVotesModel" (314 : Nat) (1000000 : Int64)) ∈ mTb := mIn5 (List.mem_of_getElem? (i := 71) rfl) rfl
theorem tb_1032 : (Jvm.Cond.methodLink "RoundVotesLaw" (29 : Nat) ({ cls := "RoundVotesModel", name := "behave", desc := "(II)I" } : Jvm.MethodName)) ∈ mTb := mIn5 (List.mem_of_getElem? (i := 72) rfl) rfl
theorem tb_1033 : (Jvm.Cond.instanceMethod ({ cls := "RoundVotesModel", name := "behave", desc := "(II)I" } : Jvm.MethodName)) ∈ mTb := mIn5 (List.mem_of_getElem? (i := 73) rfl) rfl
theorem tb_1034 : (Jvm.Cond.selects "RoundVotesModel" ({ cls := "RoundVotesModel", name := "behave", desc := "(II)I" } : Jvm.MethodName) ({ cls := "RoundVotesModel", name := "behave", desc := "(II)I" } : Jvm.MethodName)) ∈ mTb := mIn5 (List.mem_of_getElem? (i := 74) rfl) rfl
theorem tb_1035 : (Jvm.Cond.code ({ cls := "RoundVotesModel", name := "behave", desc := "(II)I" } : Jvm.MethodName) prog_13_method_43_code (4 : Nat) (Option.some Jvm.ClassFile.FieldType.int)) ∈ mTb := mIn5 (List.mem_of_getElem? (i := 75) rfl) rfl
theorem tb_1036 : (Jvm.Cond.constantLong "RoundVotesModel" (316 : Nat) (5 : Int64)) ∈ mTb := mIn5 (List.mem_of_getElem? (i := 76) rfl) rfl
theorem tb_1037 : (Jvm.Cond.methodLink "RoundVotesLaw" (34 : Nat) ({ cls := "RoundVotesModel", name := "disturb", desc := "(III)I" } : Jvm.MethodName)) ∈ mTb := mIn5 (List.mem_of_getElem? (i := 77) rfl) rfl
theorem tb_1038 : (Jvm.Cond.instanceMethod ({ cls := "RoundVotesModel", name := "disturb", desc := "(III)I" } : Jvm.MethodName)) ∈ mTb := mIn5 (List.mem_of_getElem? (i := 78) rfl) rfl
theorem tb_1039 : (Jvm.Cond.selects "RoundVotesModel" ({ cls := "RoundVotesModel", name := "disturb", desc := "(III)I" } : Jvm.MethodName) ({ cls := "RoundVotesModel", name := "disturb", desc := "(III)I" } : Jvm.MethodName)) ∈ mTb := mIn5 (List.mem_of_getElem? (i := 79) rfl) rfl
theorem tb_1040 : (Jvm.Cond.code ({ cls := "RoundVotesModel", name := "disturb", desc := "(III)I" } : Jvm.MethodName) prog_13_method_44_code (5 : Nat) (Option.some Jvm.ClassFile.FieldType.int)) ∈ mTb := mIn5 (List.mem_of_getElem? (i := 80) rfl) rfl
theorem tb_1041 : (Jvm.Cond.constantLong "RoundVotesModel" (318 : Nat) (20 : Int64)) ∈ mTb := mIn5 (List.mem_of_getElem? (i := 81) rfl) rfl
theorem tb_1042 : (Jvm.Cond.methodLink "RoundVotesLaw" (38 : Nat) ({ cls := "RoundVotesModel", name := "sides", desc := "(II)I" } : Jvm.MethodName)) ∈ mTb := mIn5 (List.mem_of_getElem? (i := 82) rfl) rfl
theorem tb_1043 : (Jvm.Cond.instanceMethod ({ cls := "RoundVotesModel", name := "sides", desc := "(II)I" } : Jvm.MethodName)) ∈ mTb := mIn5 (List.mem_of_getElem? (i := 83) rfl) rfl
theorem tb_1044 : (Jvm.Cond.selects "RoundVotesModel" ({ cls := "RoundVotesModel", name := "sides", desc := "(II)I" } : Jvm.MethodName) ({ cls := "RoundVotesModel", name := "sides", desc := "(II)I" } : Jvm.MethodName)) ∈ mTb := mIn5 (List.mem_of_getElem? (i := 84) rfl) rfl
theorem tb_1045 : (Jvm.Cond.code ({ cls := "RoundVotesModel", name := "sides", desc := "(II)I" } : Jvm.MethodName) prog_13_method_45_code (3 : Nat) (Option.some Jvm.ClassFile.FieldType.int)) ∈ mTb := mIn5 (List.mem_of_getElem? (i := 85) rfl) rfl
theorem tb_1046 : (Jvm.Cond.methodLink "RoundVotesLaw" (42 : Nat) ({ cls := "RoundVotesModel", name := "cut", desc := "(II)I" } : Jvm.MethodName)) ∈ mTb := mIn5 (List.mem_of_getElem? (i := 86) rfl) rfl
theorem tb_1047 : (Jvm.Cond.instanceMethod ({ cls := "RoundVotesModel", name := "cut", desc := "(II)I" } : Jvm.MethodName)) ∈ mTb := mIn5 (List.mem_of_getElem? (i := 87) rfl) rfl
theorem tb_1048 : (Jvm.Cond.selects "RoundVotesModel" ({ cls := "RoundVotesModel", name := "cut", desc := "(II)I" } : Jvm.MethodName) ({ cls := "RoundVotesModel", name := "cut", desc := "(II)I" } : Jvm.MethodName)) ∈ mTb := mIn5 (List.mem_of_getElem? (i := 88) rfl) rfl
theorem tb_1049 : (Jvm.Cond.code ({ cls := "RoundVotesModel", name := "cut", desc := "(II)I" } : Jvm.MethodName) prog_13_method_46_code (3 : Nat) (Option.some Jvm.ClassFile.FieldType.int)) ∈ mTb := mIn5 (List.mem_of_getElem? (i := 89) rfl) rfl
theorem tb_1050 : (Jvm.Cond.constantLong "RoundVotesModel" (320 : Nat) (50 : Int64)) ∈ mTb := mIn5 (List.mem_of_getElem? (i := 90) rfl) rfl
theorem tb_1051 : (Jvm.Cond.methodLink "RoundVotesLaw" (51 : Nat) ({ cls := "RoundVotesModel", name := "catchUp", desc := "(I)I" } : Jvm.MethodName)) ∈ mTb := mIn5 (List.mem_of_getElem? (i := 91) rfl) rfl
theorem tb_1052 : (Jvm.Cond.instanceMethod ({ cls := "RoundVotesModel", name := "catchUp", desc := "(I)I" } : Jvm.MethodName)) ∈ mTb := mIn5 (List.mem_of_getElem? (i := 92) rfl) rfl
theorem tb_1053 : (Jvm.Cond.selects "RoundVotesModel" ({ cls := "RoundVotesModel", name := "catchUp", desc := "(I)I" } : Jvm.MethodName) ({ cls := "RoundVotesModel", name := "catchUp", desc := "(I)I" } : Jvm.MethodName)) ∈ mTb := mIn5 (List.mem_of_getElem? (i := 93) rfl) rfl
theorem tb_1054 : (Jvm.Cond.code ({ cls := "RoundVotesModel", name := "catchUp", desc := "(I)I" } : Jvm.MethodName) prog_13_method_47_code (8 : Nat) (Option.some Jvm.ClassFile.FieldType.int)) ∈ mTb := mIn5 (List.mem_of_getElem? (i := 94) rfl) rfl
theorem tb_1055 : (Jvm.Cond.methodLink "RoundVotesLaw" (55 : Nat) ({ cls := "RoundVotesModel", name := "node", desc := "(II)I" } : Jvm.MethodName)) ∈ mTb := mIn5 (List.mem_of_getElem? (i := 95) rfl) rfl
theorem tb_1056 : (Jvm.Cond.instanceMethod ({ cls := "RoundVotesModel", name := "node", desc := "(II)I" } : Jvm.MethodName)) ∈ mTb := mIn5 (List.mem_of_getElem? (i := 96) rfl) rfl
theorem tb_1057 : (Jvm.Cond.selects "RoundVotesModel" ({ cls := "RoundVotesModel", name := "node", desc := "(II)I" } : Jvm.MethodName) ({ cls := "RoundVotesModel", name := "node", desc := "(II)I" } : Jvm.MethodName)) ∈ mTb := mIn5 (List.mem_of_getElem? (i := 97) rfl) rfl
theorem tb_1058 : (Jvm.Cond.code ({ cls := "RoundVotesModel", name := "node", desc := "(II)I" } : Jvm.MethodName) prog_13_method_48_code (3 : Nat) (Option.some Jvm.ClassFile.FieldType.int)) ∈ mTb := mIn5 (List.mem_of_getElem? (i := 98) rfl) rfl
theorem tb_1059 : (Jvm.Cond.constantLong "RoundVotesModel" (322 : Nat) (12 : Int64)) ∈ mTb := mIn5 (List.mem_of_getElem? (i := 99) rfl) rfl
theorem tb_1060 : (Jvm.Cond.methodLink "RoundVotesLaw" (60 : Nat) ({ cls := "RoundVotesModel", name := "vote", desc := "(IIII)I" } : Jvm.MethodName)) ∈ mTb := mIn5 (List.mem_of_getElem? (i := 100) rfl) rfl
theorem tb_1061 : (Jvm.Cond.instanceMethod ({ cls := "RoundVotesModel", name := "vote", desc := "(IIII)I" } : Jvm.MethodName)) ∈ mTb := mIn5 (List.mem_of_getElem? (i := 101) rfl) rfl
theorem tb_1062 : (Jvm.Cond.selects "RoundVotesModel" ({ cls := "RoundVotesModel", name := "vote", desc := "(IIII)I" } : Jvm.MethodName) ({ cls := "RoundVotesModel", name := "vote", desc := "(IIII)I" } : Jvm.MethodName)) ∈ mTb := mIn5 (List.mem_of_getElem? (i := 102) rfl) rfl
theorem tb_1063 : (Jvm.Cond.code ({ cls := "RoundVotesModel", name := "vote", desc := "(IIII)I" } : Jvm.MethodName) prog_13_method_49_code (6 : Nat) (Option.some Jvm.ClassFile.FieldType.int)) ∈ mTb := mIn5 (List.mem_of_getElem? (i := 103) rfl) rfl
theorem tb_1064 : (Jvm.Cond.constantLong "RoundVotesModel" (324 : Nat) (29 : Int64)) ∈ mTb := mIn5 (List.mem_of_getElem? (i := 104) rfl) rfl
theorem tb_1065 : (Jvm.Cond.methodLink "RoundVotesLaw" (64 : Nat) ({ cls := "RoundVotesModel", name := "decided", desc := "(III)I" } : Jvm.MethodName)) ∈ mTb := mIn5 (List.mem_of_getElem? (i := 105) rfl) rfl
theorem tb_1066 : (Jvm.Cond.instanceMethod ({ cls := "RoundVotesModel", name := "decided", desc := "(III)I" } : Jvm.MethodName)) ∈ mTb := mIn5 (List.mem_of_getElem? (i := 106) rfl) rfl
theorem tb_1067 : (Jvm.Cond.selects "RoundVotesModel" ({ cls := "RoundVotesModel", name := "decided", desc := "(III)I" } : Jvm.MethodName) ({ cls := "RoundVotesModel", name := "decided", desc := "(III)I" } : Jvm.MethodName)) ∈ mTb := mIn5 (List.mem_of_getElem? (i := 107) rfl) rfl
theorem tb_1068 : (Jvm.Cond.code ({ cls := "RoundVotesModel", name := "decided", desc := "(III)I" } : Jvm.MethodName) prog_13_method_50_code (5 : Nat) (Option.some Jvm.ClassFile.FieldType.int)) ∈ mTb := mIn5 (List.mem_of_getElem? (i := 108) rfl) rfl
theorem tb_1069 : (Jvm.Cond.constantLong "RoundVotesModel" (326 : Nat) (40 : Int64)) ∈ mTb := mIn5 (List.mem_of_getElem? (i := 109) rfl) rfl
theorem tb_1070 : (Jvm.Cond.methodLink "RoundVotesLaw" (68 : Nat) ({ cls := "RoundVotesModel", name := "unlike", desc := "(I)I" } : Jvm.MethodName)) ∈ mTb := mIn5 (List.mem_of_getElem? (i := 110) rfl) rfl
theorem tb_1071 : (Jvm.Cond.instanceMethod ({ cls := "RoundVotesModel", name := "unlike", desc := "(I)I" } : Jvm.MethodName)) ∈ mTb := mIn5 (List.mem_of_getElem? (i := 111) rfl) rfl
theorem tb_1072 : (Jvm.Cond.selects "RoundVotesModel" ({ cls := "RoundVotesModel", name := "unlike", desc := "(I)I" } : Jvm.MethodName) ({ cls := "RoundVotesModel", name := "unlike", desc := "(I)I" } : Jvm.MethodName)) ∈ mTb := mIn5 (List.mem_of_getElem? (i := 112) rfl) rfl
theorem tb_1073 : (Jvm.Cond.code ({ cls := "RoundVotesModel", name := "unlike", desc := "(I)I" } : Jvm.MethodName) prog_13_method_51_code (5 : Nat) (Option.some Jvm.ClassFile.FieldType.int)) ∈ mTb := mIn5 (List.mem_of_getElem? (i := 113) rfl) rfl
theorem tb_1074 : (Jvm.Cond.methodLink "RoundVotesLaw" (72 : Nat) ({ cls := "RoundVotesModel", name := "evidence", desc := "(II)I" } : Jvm.MethodName)) ∈ mTb := mIn5 (List.mem_of_getElem? (i := 114) rfl) rfl
theorem tb_1075 : (Jvm.Cond.instanceMethod ({ cls := "RoundVotesModel", name := "evidence", desc := "(II)I" } : Jvm.MethodName)) ∈ mTb := mIn5 (List.mem_of_getElem? (i := 115) rfl) rfl
theorem tb_1076 : (Jvm.Cond.selects "RoundVotesModel" ({ cls := "RoundVotesModel", name := "evidence", desc := "(II)I" } : Jvm.MethodName) ({ cls := "RoundVotesModel", name := "evidence", desc := "(II)I" } : Jvm.MethodName)) ∈ mTb := mIn5 (List.mem_of_getElem? (i := 116) rfl) rfl
theorem tb_1077 : (Jvm.Cond.code ({ cls := "RoundVotesModel", name := "evidence", desc := "(II)I" } : Jvm.MethodName) prog_13_method_52_code (3 : Nat) (Option.some Jvm.ClassFile.FieldType.int)) ∈ mTb := mIn5 (List.mem_of_getElem? (i := 117) rfl) rfl
theorem tb_1078 : (Jvm.Cond.methodLink "RoundVotesLaw" (76 : Nat) ({ cls := "RoundVotesModel", name := "against", desc := "(I)I" } : Jvm.MethodName)) ∈ mTb := mIn5 (List.mem_of_getElem? (i := 118) rfl) rfl
theorem tb_1079 : (Jvm.Cond.instanceMethod ({ cls := "RoundVotesModel", name := "against", desc := "(I)I" } : Jvm.MethodName)) ∈ mTb := mIn5 (List.mem_of_getElem? (i := 119) rfl) rfl
theorem tb_1080 : (Jvm.Cond.selects "RoundVotesModel" ({ cls := "RoundVotesModel", name := "against", desc := "(I)I" } : Jvm.MethodName) ({ cls := "RoundVotesModel", name := "against", desc := "(I)I" } : Jvm.MethodName)) ∈ mTb := mIn5 (List.mem_of_getElem? (i := 120) rfl) rfl
theorem tb_1081 : (Jvm.Cond.code ({ cls := "RoundVotesModel", name := "against", desc := "(I)I" } : Jvm.MethodName) prog_13_method_53_code (4 : Nat) (Option.some Jvm.ClassFile.FieldType.int)) ∈ mTb := mIn5 (List.mem_of_getElem? (i := 121) rfl) rfl
theorem tb_1082 : (Jvm.Cond.methodLink "RoundVotesLaw" (80 : Nat) ({ cls := "RoundVotesModel", name := "count", desc := "(I)I" } : Jvm.MethodName)) ∈ mTb := mIn5 (List.mem_of_getElem? (i := 122) rfl) rfl
theorem tb_1083 : (Jvm.Cond.instanceMethod ({ cls := "RoundVotesModel", name := "count", desc := "(I)I" } : Jvm.MethodName)) ∈ mTb := mIn5 (List.mem_of_getElem? (i := 123) rfl) rfl
theorem tb_1084 : (Jvm.Cond.selects "RoundVotesModel" ({ cls := "RoundVotesModel", name := "count", desc := "(I)I" } : Jvm.MethodName) ({ cls := "RoundVotesModel", name := "count", desc := "(I)I" } : Jvm.MethodName)) ∈ mTb := mIn5 (List.mem_of_getElem? (i := 124) rfl) rfl
theorem tb_1085 : (Jvm.Cond.code ({ cls := "RoundVotesModel", name := "count", desc := "(I)I" } : Jvm.MethodName) prog_13_method_54_code (5 : Nat) (Option.some Jvm.ClassFile.FieldType.int)) ∈ mTb := mIn5 (List.mem_of_getElem? (i := 125) rfl) rfl
theorem tb_1086 : (Jvm.Cond.methodLink "RoundVotesLaw" (84 : Nat) ({ cls := "RoundVotesModel", name := "weightOf", desc := "(II)I" } : Jvm.MethodName)) ∈ mTb := mIn5 (List.mem_of_getElem? (i := 126) rfl) rfl
theorem tb_1087 : (Jvm.Cond.instanceMethod ({ cls := "RoundVotesModel", name := "weightOf", desc := "(II)I" } : Jvm.MethodName)) ∈ mTb := mIn5 (List.mem_of_getElem? (i := 127) rfl) rfl
theorem tb_1088 : (Jvm.Cond.selects "RoundVotesModel" ({ cls := "RoundVotesModel", name := "weightOf", desc := "(II)I" } : Jvm.MethodName) ({ cls := "RoundVotesModel", name := "weightOf", desc := "(II)I" } : Jvm.MethodName)) ∈ mTb := mIn5 (List.mem_of_getElem? (i := 128) rfl) rfl
theorem tb_1089 : (Jvm.Cond.code ({ cls := "RoundVotesModel", name := "weightOf", desc := "(II)I" } : Jvm.MethodName) prog_13_method_55_code (3 : Nat) (Option.some Jvm.ClassFile.FieldType.int)) ∈ mTb := mIn5 (List.mem_of_getElem? (i := 129) rfl) rfl
theorem tb_s0 : Cond.selects "RoundVotes" ⟨"RoundVotes", "isNode", "(I)Z"⟩ ⟨"RoundVotes", "isNode", "(I)Z"⟩ ∈ mTb := mIp1 (q := (⟨"RoundVotes", "isNode", "(I)Z"⟩, 12)) (List.mem_of_getElem? (i := 0) rfl)
theorem tb_s1 : Cond.selects "RoundVotes" ⟨"RoundVotes", "greatestHeight", "()I"⟩ ⟨"RoundVotes", "greatestHeight", "()I"⟩ ∈ mTb := mIp1 (q := (⟨"RoundVotes", "greatestHeight", "()I"⟩, 12)) (List.mem_of_getElem? (i := 1) rfl)
theorem tb_s2 : Cond.selects "RoundVotes" ⟨"RoundVotes", "beginAll", "()V"⟩ ⟨"RoundVotes", "beginAll", "()V"⟩ ∈ mTb := mIp1 (q := (⟨"RoundVotes", "beginAll", "()V"⟩, 12)) (List.mem_of_getElem? (i := 2) rfl)
theorem tb_s3 : Cond.selects "RoundVotes$Node" ⟨"RoundVotes$Node", "standsStill", "()Z"⟩ ⟨"RoundVotes$Node", "standsStill", "()Z"⟩ ∈ mTb := mIp1 (q := (⟨"RoundVotes$Node", "standsStill", "()Z"⟩, 18)) (List.mem_of_getElem? (i := 3) rfl)
theorem tb_s4 : Cond.selects "RoundVotes$Node" ⟨"RoundVotes$Node", "send", "(III)V"⟩ ⟨"RoundVotes$Node", "send", "(III)V"⟩ ∈ mTb := mIp1 (q := (⟨"RoundVotes$Node", "send", "(III)V"⟩, 18)) (List.mem_of_getElem? (i := 4) rfl)
theorem tb_s5 : Cond.selects "RoundVotes" ⟨"RoundVotes", "settle", "(LRoundVotes$Node;)V"⟩ ⟨"RoundVotes", "settle", "(LRoundVotes$Node;)V"⟩ ∈ mTb := mIp1 (q := (⟨"RoundVotes", "settle", "(LRoundVotes$Node;)V"⟩, 12)) (List.mem_of_getElem? (i := 5) rfl)
theorem tb_s6 : Cond.selects "RoundVotes" ⟨"RoundVotes", "dispatch", "(LRoundVotes$Node;)V"⟩ ⟨"RoundVotes", "dispatch", "(LRoundVotes$Node;)V"⟩ ∈ mTb := mIp1 (q := (⟨"RoundVotes", "dispatch", "(LRoundVotes$Node;)V"⟩, 12)) (List.mem_of_getElem? (i := 6) rfl)
theorem tb_s7 : Cond.selects "RoundVotes" ⟨"RoundVotes", "sendCopy", "(LRoundVotes$Message;)V"⟩ ⟨"RoundVotes", "sendCopy", "(LRoundVotes$Message;)V"⟩ ∈ mTb := mIp1 (q := (⟨"RoundVotes", "sendCopy", "(LRoundVotes$Message;)V"⟩, 12)) (List.mem_of_getElem? (i := 7) rfl)
theorem tb_s8 : Cond.selects "RoundVotes" ⟨"RoundVotes", "areOnUnlikeSides", "(II)Z"⟩ ⟨"RoundVotes", "areOnUnlikeSides", "(II)Z"⟩ ∈ mTb := mIp1 (q := (⟨"RoundVotes", "areOnUnlikeSides", "(II)Z"⟩, 12)) (List.mem_of_getElem? (i := 8) rfl)
theorem tb_s9 : Cond.selects "RoundVotes$Node" ⟨"RoundVotes$Node", "roundToDecide", "()I"⟩ ⟨"RoundVotes$Node", "roundToDecide", "()I"⟩ ∈ mTb := mIp1 (q := (⟨"RoundVotes$Node", "roundToDecide", "()I"⟩, 18)) (List.mem_of_getElem? (i := 9) rfl)
theorem tb_s10 : Cond.selects "RoundVotes$Node" ⟨"RoundVotes$Node", "proposalOf", "(I)I"⟩ ⟨"RoundVotes$Node", "proposalOf", "(I)I"⟩ ∈ mTb := mIp1 (q := (⟨"RoundVotes$Node", "proposalOf", "(I)I"⟩, 18)) (List.mem_of_getElem? (i := 10) rfl)
theorem tb_s11 : Cond.selects "RoundVotes$Node" ⟨"RoundVotes$Node", "areMany", "(I)Z"⟩ ⟨"RoundVotes$Node", "areMany", "(I)Z"⟩ ∈ mTb := mIp1 (q := (⟨"RoundVotes$Node", "areMany", "(I)Z"⟩, 18)) (List.mem_of_getElem? (i := 11) rfl)
theorem tb_s12 : Cond.selects "RoundVotes$Node" ⟨"RoundVotes$Node", "decide", "(I)V"⟩ ⟨"RoundVotes$Node", "decide", "(I)V"⟩ ∈ mTb := mIp1 (q := (⟨"RoundVotes$Node", "decide", "(I)V"⟩, 18)) (List.mem_of_getElem? (i := 12) rfl)
theorem tb_s13 : Cond.selects "RoundVotes$Node" ⟨"RoundVotes$Node", "goToNextHeight", "()V"⟩ ⟨"RoundVotes$Node", "goToNextHeight", "()V"⟩ ∈ mTb := mIp1 (q := (⟨"RoundVotes$Node", "goToNextHeight", "()V"⟩, 18)) (List.mem_of_getElem? (i := 13) rfl)
theorem tb_s14 : Cond.selects "RoundVotes$Node" ⟨"RoundVotes$Node", "roundToJoin", "()I"⟩ ⟨"RoundVotes$Node", "roundToJoin", "()I"⟩ ∈ mTb := mIp1 (q := (⟨"RoundVotes$Node", "roundToJoin", "()I"⟩, 18)) (List.mem_of_getElem? (i := 14) rfl)
theorem tb_s15 : Cond.selects "RoundVotes$Node" ⟨"RoundVotes$Node", "areSome", "(I)Z"⟩ ⟨"RoundVotes$Node", "areSome", "(I)Z"⟩ ∈ mTb := mIp1 (q := (⟨"RoundVotes$Node", "areSome", "(I)Z"⟩, 18)) (List.mem_of_getElem? (i := 15) rfl)
theorem tb_s16 : Cond.selects "RoundVotes$Node" ⟨"RoundVotes$Node", "answersProposal", "()Z"⟩ ⟨"RoundVotes$Node", "answersProposal", "()Z"⟩ ∈ mTb := mIp2 (q := (⟨"RoundVotes$Node", "answersProposal", "()Z"⟩, 18)) (List.mem_of_getElem? (i := 0) rfl)
theorem tb_s17 : Cond.selects "RoundVotes$Node" ⟨"RoundVotes$Node", "lockAllows", "(II)Z"⟩ ⟨"RoundVotes$Node", "lockAllows", "(II)Z"⟩ ∈ mTb := mIp2 (q := (⟨"RoundVotes$Node", "lockAllows", "(II)Z"⟩, 18)) (List.mem_of_getElem? (i := 1) rfl)
theorem tb_s18 : Cond.selects "RoundVotes$Node" ⟨"RoundVotes$Node", "locks", "()Z"⟩ ⟨"RoundVotes$Node", "locks", "()Z"⟩ ∈ mTb := mIp2 (q := (⟨"RoundVotes$Node", "locks", "()Z"⟩, 18)) (List.mem_of_getElem? (i := 2) rfl)
theorem tb_s19 : Cond.selects "RoundVotes$Node" ⟨"RoundVotes$Node", "givesUpValue", "()Z"⟩ ⟨"RoundVotes$Node", "givesUpValue", "()Z"⟩ ∈ mTb := mIp2 (q := (⟨"RoundVotes$Node", "givesUpValue", "()Z"⟩, 18)) (List.mem_of_getElem? (i := 3) rfl)
theorem tb_s20 : Cond.selects "RoundVotes$Node" ⟨"RoundVotes$Node", "waitsForPrevotes", "(I)Z"⟩ ⟨"RoundVotes$Node", "waitsForPrevotes", "(I)Z"⟩ ∈ mTb := mIp2 (q := (⟨"RoundVotes$Node", "waitsForPrevotes", "(I)Z"⟩, 18)) (List.mem_of_getElem? (i := 4) rfl)
theorem tb_s21 : Cond.selects "RoundVotes$Node" ⟨"RoundVotes$Node", "waitsForPrecommits", "(I)Z"⟩ ⟨"RoundVotes$Node", "waitsForPrecommits", "(I)Z"⟩ ∈ mTb := mIp2 (q := (⟨"RoundVotes$Node", "waitsForPrecommits", "(I)Z"⟩, 18)) (List.mem_of_getElem? (i := 5) rfl)
theorem tb_s22 : Cond.selects "RoundVotes" ⟨"RoundVotes", "bringNodesBack", "()V"⟩ ⟨"RoundVotes", "bringNodesBack", "()V"⟩ ∈ mTb := mIp2 (q := (⟨"RoundVotes", "bringNodesBack", "()V"⟩, 12)) (List.mem_of_getElem? (i := 6) rfl)
theorem tb_s23 : Cond.selects "RoundVotes" ⟨"RoundVotes", "bringCopies", "()V"⟩ ⟨"RoundVotes", "bringCopies", "()V"⟩ ∈ mTb := mIp2 (q := (⟨"RoundVotes", "bringCopies", "()V"⟩, 12)) (List.mem_of_getElem? (i := 7) rfl)
theorem tb_s24 : Cond.selects "RoundVotes" ⟨"RoundVotes", "handOver", "(LRoundVotes$Message;)V"⟩ ⟨"RoundVotes", "handOver", "(LRoundVotes$Message;)V"⟩ ∈ mTb := mIp2 (q := (⟨"RoundVotes", "handOver", "(LRoundVotes$Message;)V"⟩, 12)) (List.mem_of_getElem? (i := 8) rfl)
theorem tb_s25 : Cond.selects "RoundVotes$Faults" ⟨"RoundVotes$Faults", "isKnown", "(LRoundVotes$Message;)Z"⟩ ⟨"RoundVotes$Faults", "isKnown", "(LRoundVotes$Message;)Z"⟩ ∈ mTb := mIp2 (q := (⟨"RoundVotes$Faults", "isKnown", "(LRoundVotes$Message;)Z"⟩, 2)) (List.mem_of_getElem? (i := 9) rfl)
theorem tb_s26 : Cond.selects "RoundVotes" ⟨"RoundVotes", "endTimers", "()V"⟩ ⟨"RoundVotes", "endTimers", "()V"⟩ ∈ mTb := mIp2 (q := (⟨"RoundVotes", "endTimers", "()V"⟩, 12)) (List.mem_of_getElem? (i := 10) rfl)
theorem tb_s27 : Cond.selects "RoundVotes" ⟨"RoundVotes", "tellerOf", "(II)I"⟩ ⟨"RoundVotes", "tellerOf", "(II)I"⟩ ∈ mTb := mIp2 (q := (⟨"RoundVotes", "tellerOf", "(II)I"⟩, 12)) (List.mem_of_getElem? (i := 11) rfl)
theorem tb_s28 : Cond.selects "RoundVotes" ⟨"RoundVotes", "greatestDecided", "()I"⟩ ⟨"RoundVotes", "greatestDecided", "()I"⟩ ∈ mTb := mIp2 (q := (⟨"RoundVotes", "greatestDecided", "()I"⟩, 12)) (List.mem_of_getElem? (i := 12) rfl)
theorem tb_s29 : Cond.selects "RoundVotesModel" ⟨"RoundVotesModel", "clearHeight", "(II)V"⟩ ⟨"RoundVotesModel", "clearHeight", "(II)V"⟩ ∈ mTb := mIp2 (q := (⟨"RoundVotesModel", "clearHeight", "(II)V"⟩, 53)) (List.mem_of_getElem? (i := 13) rfl)
theorem tb_s30 : Cond.selects "RoundVotesModel" ⟨"RoundVotesModel", "place", "(IIIII)I"⟩ ⟨"RoundVotesModel", "place", "(IIIII)I"⟩ ∈ mTb := mIp2 (q := (⟨"RoundVotesModel", "place", "(IIIII)I"⟩, 53)) (List.mem_of_getElem? (i := 14) rfl)
theorem tb_s31 : Cond.selects "RoundVotesModel" ⟨"RoundVotesModel", "roundPlace", "(IIII)I"⟩ ⟨"RoundVotesModel", "roundPlace", "(IIII)I"⟩ ∈ mTb := mIp2 (q := (⟨"RoundVotesModel", "roundPlace", "(IIII)I"⟩, 53)) (List.mem_of_getElem? (i := 15) rfl)
theorem tb_s32 : Cond.selects "RoundVotesModel" ⟨"RoundVotesModel", "clearSigned", "(I)V"⟩ ⟨"RoundVotesModel", "clearSigned", "(I)V"⟩ ∈ mTb := mIp3 (q := (⟨"RoundVotesModel", "clearSigned", "(I)V"⟩, 53)) (List.mem_of_getElem? (i := 0) rfl)
theorem tb_s33 : Cond.selects "RoundVotesModel" ⟨"RoundVotesModel", "oneTurn", "()V"⟩ ⟨"RoundVotesModel", "oneTurn", "()V"⟩ ∈ mTb := mIp3 (q := (⟨"RoundVotesModel", "oneTurn", "()V"⟩, 53)) (List.mem_of_getElem? (i := 1) rfl)
theorem tb_s34 : Cond.selects "RoundVotesModel" ⟨"RoundVotesModel", "begin", "(II)V"⟩ ⟨"RoundVotesModel", "begin", "(II)V"⟩ ∈ mTb := mIp3 (q := (⟨"RoundVotesModel", "begin", "(II)V"⟩, 53)) (List.mem_of_getElem? (i := 2) rfl)
theorem tb_s35 : Cond.selects "RoundVotesModel" ⟨"RoundVotesModel", "proposer", "(II)I"⟩ ⟨"RoundVotesModel", "proposer", "(II)I"⟩ ∈ mTb := mIp3 (q := (⟨"RoundVotesModel", "proposer", "(II)I"⟩, 53)) (List.mem_of_getElem? (i := 3) rfl)
theorem tb_s36 : Cond.selects "RoundVotesModel" ⟨"RoundVotesModel", "send", "(IIII)V"⟩ ⟨"RoundVotesModel", "send", "(IIII)V"⟩ ∈ mTb := mIp3 (q := (⟨"RoundVotesModel", "send", "(IIII)V"⟩, 53)) (List.mem_of_getElem? (i := 4) rfl)
theorem tb_s37 : Cond.selects "RoundVotesModel" ⟨"RoundVotesModel", "keep", "(IIIIIIIZ)V"⟩ ⟨"RoundVotesModel", "keep", "(IIIIIIIZ)V"⟩ ∈ mTb := mIp3 (q := (⟨"RoundVotesModel", "keep", "(IIIIIIIZ)V"⟩, 53)) (List.mem_of_getElem? (i := 5) rfl)
theorem tb_s38 : Cond.selects "RoundVotesModel" ⟨"RoundVotesModel", "accuse", "(IIIII)V"⟩ ⟨"RoundVotesModel", "accuse", "(IIIII)V"⟩ ∈ mTb := mIp3 (q := (⟨"RoundVotesModel", "accuse", "(IIIII)V"⟩, 53)) (List.mem_of_getElem? (i := 6) rfl)
theorem tb_s39 : Cond.selects "RoundVotesModel" ⟨"RoundVotesModel", "copy", "(IIIIIII)V"⟩ ⟨"RoundVotesModel", "copy", "(IIIIIII)V"⟩ ∈ mTb := mIp3 (q := (⟨"RoundVotesModel", "copy", "(IIIIIII)V"⟩, 53)) (List.mem_of_getElem? (i := 7) rfl)
theorem tb_s40 : Cond.selects "RoundVotesModel" ⟨"RoundVotesModel", "noteSent", "(IIIII)V"⟩ ⟨"RoundVotesModel", "noteSent", "(IIIII)V"⟩ ∈ mTb := mIp3 (q := (⟨"RoundVotesModel", "noteSent", "(IIIII)V"⟩, 53)) (List.mem_of_getElem? (i := 8) rfl)
theorem tb_s41 : Cond.selects "RoundVotesModel" ⟨"RoundVotesModel", "sentPlace", "(IIII)I"⟩ ⟨"RoundVotesModel", "sentPlace", "(IIII)I"⟩ ∈ mTb := mIp3 (q := (⟨"RoundVotesModel", "sentPlace", "(IIII)I"⟩, 53)) (List.mem_of_getElem? (i := 9) rfl)
theorem tb_s42 : Cond.selects "RoundVotesModel" ⟨"RoundVotesModel", "areApart", "(II)Z"⟩ ⟨"RoundVotesModel", "areApart", "(II)Z"⟩ ∈ mTb := mIp3 (q := (⟨"RoundVotesModel", "areApart", "(II)Z"⟩, 53)) (List.mem_of_getElem? (i := 10) rfl)
theorem tb_s43 : Cond.selects "RoundVotesModel" ⟨"RoundVotesModel", "put", "(IIIIIIIIZ)V"⟩ ⟨"RoundVotesModel", "put", "(IIIIIIIIZ)V"⟩ ∈ mTb := mIp3 (q := (⟨"RoundVotesModel", "put", "(IIIIIIIIZ)V"⟩, 53)) (List.mem_of_getElem? (i := 11) rfl)
theorem tb_s44 : Cond.selects "RoundVotesModel" ⟨"RoundVotesModel", "ownValue", "(III)I"⟩ ⟨"RoundVotesModel", "ownValue", "(III)I"⟩ ∈ mTb := mIp3 (q := (⟨"RoundVotesModel", "ownValue", "(III)I"⟩, 53)) (List.mem_of_getElem? (i := 12) rfl)
theorem tb_s45 : Cond.selects "RoundVotesModel" ⟨"RoundVotesModel", "rules", "(I)V"⟩ ⟨"RoundVotesModel", "rules", "(I)V"⟩ ∈ mTb := mIp3 (q := (⟨"RoundVotesModel", "rules", "(I)V"⟩, 53)) (List.mem_of_getElem? (i := 13) rfl)
theorem tb_s46 : Cond.selects "RoundVotesModel" ⟨"RoundVotesModel", "ruleA", "(I)Z"⟩ ⟨"RoundVotesModel", "ruleA", "(I)Z"⟩ ∈ mTb := mIp3 (q := (⟨"RoundVotesModel", "ruleA", "(I)Z"⟩, 53)) (List.mem_of_getElem? (i := 14) rfl)
theorem tb_s47 : Cond.selects "RoundVotesModel" ⟨"RoundVotesModel", "proposal", "(II)I"⟩ ⟨"RoundVotesModel", "proposal", "(II)I"⟩ ∈ mTb := mIp3 (q := (⟨"RoundVotesModel", "proposal", "(II)I"⟩, 53)) (List.mem_of_getElem? (i := 15) rfl)
theorem tb_s48 : Cond.selects "RoundVotesModel" ⟨"RoundVotesModel", "hasOf", "(IIII)I"⟩ ⟨"RoundVotesModel", "hasOf", "(IIII)I"⟩ ∈ mTb := mIp4 (q := (⟨"RoundVotesModel", "hasOf", "(IIII)I"⟩, 53)) (List.mem_of_getElem? (i := 0) rfl)
theorem tb_s49 : Cond.selects "RoundVotesModel" ⟨"RoundVotesModel", "votes", "(IIII)J"⟩ ⟨"RoundVotesModel", "votes", "(IIII)J"⟩ ∈ mTb := mIp4 (q := (⟨"RoundVotesModel", "votes", "(IIII)J"⟩, 53)) (List.mem_of_getElem? (i := 1) rfl)
theorem tb_s50 : Cond.selects "RoundVotesModel" ⟨"RoundVotesModel", "isMany", "(JI)Z"⟩ ⟨"RoundVotesModel", "isMany", "(JI)Z"⟩ ∈ mTb := mIp4 (q := (⟨"RoundVotesModel", "isMany", "(JI)Z"⟩, 53)) (List.mem_of_getElem? (i := 2) rfl)
theorem tb_s51 : Cond.selects "RoundVotesModel" ⟨"RoundVotesModel", "all", "(I)J"⟩ ⟨"RoundVotesModel", "all", "(I)J"⟩ ∈ mTb := mIp4 (q := (⟨"RoundVotesModel", "all", "(I)J"⟩, 53)) (List.mem_of_getElem? (i := 3) rfl)
theorem tb_s52 : Cond.selects "RoundVotesModel" ⟨"RoundVotesModel", "nextHeight", "(I)V"⟩ ⟨"RoundVotesModel", "nextHeight", "(I)V"⟩ ∈ mTb := mIp4 (q := (⟨"RoundVotesModel", "nextHeight", "(I)V"⟩, 53)) (List.mem_of_getElem? (i := 4) rfl)
theorem tb_s53 : Cond.selects "RoundVotesModel" ⟨"RoundVotesModel", "ruleB", "(I)Z"⟩ ⟨"RoundVotesModel", "ruleB", "(I)Z"⟩ ∈ mTb := mIp4 (q := (⟨"RoundVotesModel", "ruleB", "(I)Z"⟩, 53)) (List.mem_of_getElem? (i := 5) rfl)
theorem tb_s54 : Cond.selects "RoundVotesModel" ⟨"RoundVotesModel", "ruleC", "(I)Z"⟩ ⟨"RoundVotesModel", "ruleC", "(I)Z"⟩ ∈ mTb := mIp4 (q := (⟨"RoundVotesModel", "ruleC", "(I)Z"⟩, 53)) (List.mem_of_getElem? (i := 6) rfl)
theorem tb_s55 : Cond.selects "RoundVotesModel" ⟨"RoundVotesModel", "proposalSince", "(II)I"⟩ ⟨"RoundVotesModel", "proposalSince", "(II)I"⟩ ∈ mTb := mIp4 (q := (⟨"RoundVotesModel", "proposalSince", "(II)I"⟩, 53)) (List.mem_of_getElem? (i := 7) rfl)
theorem tb_s56 : Cond.selects "RoundVotesModel" ⟨"RoundVotesModel", "ruleD", "(I)Z"⟩ ⟨"RoundVotesModel", "ruleD", "(I)Z"⟩ ∈ mTb := mIp4 (q := (⟨"RoundVotesModel", "ruleD", "(I)Z"⟩, 53)) (List.mem_of_getElem? (i := 8) rfl)
theorem tb_s57 : Cond.selects "RoundVotesModel" ⟨"RoundVotesModel", "ruleE", "(I)Z"⟩ ⟨"RoundVotesModel", "ruleE", "(I)Z"⟩ ∈ mTb := mIp4 (q := (⟨"RoundVotesModel", "ruleE", "(I)Z"⟩, 53)) (List.mem_of_getElem? (i := 9) rfl)
theorem tb_s58 : Cond.selects "RoundVotesModel" ⟨"RoundVotesModel", "ruleF", "(I)Z"⟩ ⟨"RoundVotesModel", "ruleF", "(I)Z"⟩ ∈ mTb := mIp4 (q := (⟨"RoundVotesModel", "ruleF", "(I)Z"⟩, 53)) (List.mem_of_getElem? (i := 10) rfl)
theorem tb_s59 : Cond.selects "RoundVotesModel" ⟨"RoundVotesModel", "ruleG", "(I)Z"⟩ ⟨"RoundVotesModel", "ruleG", "(I)Z"⟩ ∈ mTb := mIp4 (q := (⟨"RoundVotesModel", "ruleG", "(I)Z"⟩, 53)) (List.mem_of_getElem? (i := 11) rfl)
theorem tb_s60 : Cond.selects "RoundVotesModel" ⟨"RoundVotesModel", "comeBack", "(I)V"⟩ ⟨"RoundVotesModel", "comeBack", "(I)V"⟩ ∈ mTb := mIp4 (q := (⟨"RoundVotesModel", "comeBack", "(I)V"⟩, 53)) (List.mem_of_getElem? (i := 12) rfl)
theorem tb_s61 : Cond.selects "RoundVotesModel" ⟨"RoundVotesModel", "deliver", "(ZI)V"⟩ ⟨"RoundVotesModel", "deliver", "(ZI)V"⟩ ∈ mTb := mIp4 (q := (⟨"RoundVotesModel", "deliver", "(ZI)V"⟩, 53)) (List.mem_of_getElem? (i := 13) rfl)
theorem tb_s62 : Cond.selects "RoundVotesModel" ⟨"RoundVotesModel", "timerEnds", "(II)V"⟩ ⟨"RoundVotesModel", "timerEnds", "(II)V"⟩ ∈ mTb := mIp4 (q := (⟨"RoundVotesModel", "timerEnds", "(II)V"⟩, 53)) (List.mem_of_getElem? (i := 14) rfl)
theorem tb_s63 : Cond.selects "RoundVotesModel" ⟨"RoundVotesModel", "tidy", "()V"⟩ ⟨"RoundVotesModel", "tidy", "()V"⟩ ∈ mTb := mIp4 (q := (⟨"RoundVotesModel", "tidy", "()V"⟩, 53)) (List.mem_of_getElem? (i := 15) rfl)
theorem tb_s64 : Cond.selects "RoundVotesModel" ⟨"RoundVotesModel", "noNode", "(I)Z"⟩ ⟨"RoundVotesModel", "noNode", "(I)Z"⟩ ∈ mTb := mIp5 (q := (⟨"RoundVotesModel", "noNode", "(I)Z"⟩, 53)) (List.mem_of_getElem? (i := 0) rfl)
set_option maxRecDepth 10000 in
theorem inX0 : ∀ w ∈ u_ws RX0 TX0 4, w ∈ mTb := by
  have e : u_ws RX0 TX0 4 = [(Jvm.Cond.laysFinal "RoundVotes$Ballots" "RoundVotes$Ballots" "senders" "I"), (Jvm.Cond.laysFinal "RoundVotes$Ballots" "RoundVotes$Ballots" "values" "[I"), (Jvm.Cond.laysFinal "RoundVotes$Ballots" "RoundVotes$Ballots" "sinces" "[I"), (Jvm.Cond.lays "RoundVotes$Ballots" "RoundVotes$Ballots" "topRound" "I")] := by decide +kernel
  rw [e]
  exact List.forall_mem_cons.mpr ⟨tb_175, List.forall_mem_cons.mpr ⟨tb_177, List.forall_mem_cons.mpr ⟨tb_179, List.forall_mem_cons.mpr ⟨tb_181, fun _ h => absurd h List.not_mem_nil⟩⟩⟩⟩
set_option maxRecDepth 10000 in
theorem inX1 : ∀ w ∈ u_ws RX1 TX1 2, w ∈ mTb := by
  have e : u_ws RX1 TX1 2 = [(Jvm.Cond.lays "RoundVotes$Choice" "RoundVotes$Choice" "value" "I"), (Jvm.Cond.lays "RoundVotes$Choice" "RoundVotes$Choice" "round" "I")] := by decide +kernel
  rw [e]
  exact List.forall_mem_cons.mpr ⟨tb_135, List.forall_mem_cons.mpr ⟨tb_137, fun _ h => absurd h List.not_mem_nil⟩⟩
set_option maxRecDepth 10000 in
theorem inX2 : ∀ w ∈ u_ws RX2 TX2 3, w ∈ mTb := by
  have e : u_ws RX2 TX2 3 = [(Jvm.Cond.laysFinal "RoundVotes$Decisions" "RoundVotes$Decisions" "values" "[I"), (Jvm.Cond.laysFinal "RoundVotes$Decisions" "RoundVotes$Decisions" "rounds" "[I"), (Jvm.Cond.laysFinal "RoundVotes$Decisions" "RoundVotes$Decisions" "voters" "[I")] := by decide +kernel
  rw [e]
  exact List.forall_mem_cons.mpr ⟨tb_155, List.forall_mem_cons.mpr ⟨tb_157, List.forall_mem_cons.mpr ⟨tb_159, fun _ h => absurd h List.not_mem_nil⟩⟩⟩
set_option maxRecDepth 10000 in
theorem inX3 : ∀ w ∈ u_ws RX3 TX3 2, w ∈ mTb := by
  have e : u_ws RX3 TX3 2 = [(Jvm.Cond.laysFinal "RoundVotes$Faults" "RoundVotes$Faults" "parts" "[I"), (Jvm.Cond.lays "RoundVotes$Faults" "RoundVotes$Faults" "size" "I")] := by decide +kernel
  rw [e]
  exact List.forall_mem_cons.mpr ⟨tb_76, List.forall_mem_cons.mpr ⟨tb_78, fun _ h => absurd h List.not_mem_nil⟩⟩
set_option maxRecDepth 10000 in
theorem inX4 : ∀ w ∈ u_ws RX4 TX4 3, w ∈ mTb := by
  have e : u_ws RX4 TX4 3 = [(Jvm.Cond.laysFinal "RoundVotes$Mail" "RoundVotes$Mail" "slots" "[LRoundVotes$Message;"), (Jvm.Cond.lays "RoundVotes$Mail" "RoundVotes$Mail" "size" "I"), (Jvm.Cond.lays "RoundVotes$Mail" "RoundVotes$Mail" "underWay" "I")] := by decide +kernel
  rw [e]
  exact List.forall_mem_cons.mpr ⟨tb_37, List.forall_mem_cons.mpr ⟨tb_39, List.forall_mem_cons.mpr ⟨tb_41, fun _ h => absurd h List.not_mem_nil⟩⟩⟩
set_option maxRecDepth 10000 in
theorem inX5 : ∀ w ∈ u_ws RX5 TX5 9, w ∈ mTb := by
  have e : u_ws RX5 TX5 9 = [(Jvm.Cond.lays "RoundVotes$Message" "RoundVotes$Message" "sender" "I"), (Jvm.Cond.lays "RoundVotes$Message" "RoundVotes$Message" "receiver" "I"), (Jvm.Cond.lays "RoundVotes$Message" "RoundVotes$Message" "height" "I"), (Jvm.Cond.lays "RoundVotes$Message" "RoundVotes$Message" "round" "I"), (Jvm.Cond.lays "RoundVotes$Message" "RoundVotes$Message" "kind" "I"), (Jvm.Cond.lays "RoundVotes$Message" "RoundVotes$Message" "value" "I"), (Jvm.Cond.lays "RoundVotes$Message" "RoundVotes$Message" "since" "I"), (Jvm.Cond.lays "RoundVotes$Message" "RoundVotes$Message" "due" "I"), (Jvm.Cond.lays "RoundVotes$Message" "RoundVotes$Message" "second" "Z")] := by decide +kernel
  rw [e]
  exact List.forall_mem_cons.mpr ⟨tb_240, List.forall_mem_cons.mpr ⟨tb_242, List.forall_mem_cons.mpr ⟨tb_244, List.forall_mem_cons.mpr ⟨tb_246, List.forall_mem_cons.mpr ⟨tb_248, List.forall_mem_cons.mpr ⟨tb_250, List.forall_mem_cons.mpr ⟨tb_252, List.forall_mem_cons.mpr ⟨tb_254, List.forall_mem_cons.mpr ⟨tb_256, fun _ h => absurd h List.not_mem_nil⟩⟩⟩⟩⟩⟩⟩⟩⟩
set_option maxRecDepth 10000 in
theorem inX6 : ∀ w ∈ u_ws RX6 TX6 18, w ∈ mTb := by
  have e : u_ws RX6 TX6 18 = [(Jvm.Cond.laysFinal "RoundVotes$Node" "RoundVotes$Node" "number" "I"), (Jvm.Cond.laysFinal "RoundVotes$Node" "RoundVotes$Node" "setup" "LRoundVotes$Setup;"), (Jvm.Cond.lays "RoundVotes$Node" "RoundVotes$Node" "height" "I"), (Jvm.Cond.lays "RoundVotes$Node" "RoundVotes$Node" "round" "I"), (Jvm.Cond.lays "RoundVotes$Node" "RoundVotes$Node" "step" "I"), (Jvm.Cond.laysFinal "RoundVotes$Node" "RoundVotes$Node" "locked" "LRoundVotes$Choice;"), (Jvm.Cond.laysFinal "RoundVotes$Node" "RoundVotes$Node" "valid" "LRoundVotes$Choice;"), (Jvm.Cond.lays "RoundVotes$Node" "RoundVotes$Node" "behaviour" "I"), (Jvm.Cond.lays "RoundVotes$Node" "RoundVotes$Node" "lastCutTurn" "I"), (Jvm.Cond.laysFinal "RoundVotes$Node" "RoundVotes$Node" "timers" "[I"), (Jvm.Cond.laysFinal "RoundVotes$Node" "RoundVotes$Node" "once" "[Z"), (Jvm.Cond.laysFinal "RoundVotes$Node" "RoundVotes$Node" "decisions" "LRoundVotes$Decisions;"), (Jvm.Cond.lays "RoundVotes$Node" "RoundVotes$Node" "present" "LRoundVotes$Ballots;"), (Jvm.Cond.lays "RoundVotes$Node" "RoundVotes$Node" "next" "LRoundVotes$Ballots;"), (Jvm.Cond.laysFinal "RoundVotes$Node" "RoundVotes$Node" "signed" "LRoundVotes$Ballots;"), (Jvm.Cond.laysFinal "RoundVotes$Node" "RoundVotes$Node" "sendings" "LRoundVotes$Sendings;"), (Jvm.Cond.laysFinal "RoundVotes$Node" "RoundVotes$Node" "outgoing" "LRoundVotes$Message;"), (Jvm.Cond.lays "RoundVotes$Node" "RoundVotes$Node" "hasToSend" "Z")] := by decide +kernel
  rw [e]
  exact List.forall_mem_cons.mpr ⟨tb_291, List.forall_mem_cons.mpr ⟨tb_293, List.forall_mem_cons.mpr ⟨tb_295, List.forall_mem_cons.mpr ⟨tb_297, List.forall_mem_cons.mpr ⟨tb_299, List.forall_mem_cons.mpr ⟨tb_301, List.forall_mem_cons.mpr ⟨tb_303, List.forall_mem_cons.mpr ⟨tb_305, List.forall_mem_cons.mpr ⟨tb_307, List.forall_mem_cons.mpr ⟨tb_309, List.forall_mem_cons.mpr ⟨tb_311, List.forall_mem_cons.mpr ⟨tb_313, List.forall_mem_cons.mpr ⟨tb_315, List.forall_mem_cons.mpr ⟨tb_317, List.forall_mem_cons.mpr ⟨tb_319, List.forall_mem_cons.mpr ⟨tb_321, List.forall_mem_cons.mpr ⟨tb_323, List.forall_mem_cons.mpr ⟨tb_325, fun _ h => absurd h List.not_mem_nil⟩⟩⟩⟩⟩⟩⟩⟩⟩⟩⟩⟩⟩⟩⟩⟩⟩⟩
set_option maxRecDepth 10000 in
theorem inX7 : ∀ w ∈ u_ws RX7 TX7 3, w ∈ mTb := by
  have e : u_ws RX7 TX7 3 = [(Jvm.Cond.lays "RoundVotes$Sendings" "RoundVotes$Sendings" "copies" "I"), (Jvm.Cond.lays "RoundVotes$Sendings" "RoundVotes$Sendings" "timesUnlike" "I"), (Jvm.Cond.laysFinal "RoundVotes$Sendings" "RoundVotes$Sendings" "firsts" "LRoundVotes$Ballots;")] := by decide +kernel
  rw [e]
  exact List.forall_mem_cons.mpr ⟨tb_198, List.forall_mem_cons.mpr ⟨tb_200, List.forall_mem_cons.mpr ⟨tb_202, fun _ h => absurd h List.not_mem_nil⟩⟩⟩
set_option maxRecDepth 10000 in
theorem inX8 : ∀ w ∈ u_ws RX8 TX8 4, w ∈ mTb := by
  have e : u_ws RX8 TX8 4 = [(Jvm.Cond.laysFinal "RoundVotes$Setup" "RoundVotes$Setup" "size" "I"), (Jvm.Cond.laysFinal "RoundVotes$Setup" "RoundVotes$Setup" "seed" "I"), (Jvm.Cond.laysFinal "RoundVotes$Setup" "RoundVotes$Setup" "weights" "[[I"), (Jvm.Cond.laysFinal "RoundVotes$Setup" "RoundVotes$Setup" "all" "[I")] := by decide +kernel
  rw [e]
  exact List.forall_mem_cons.mpr ⟨tb_107, List.forall_mem_cons.mpr ⟨tb_109, List.forall_mem_cons.mpr ⟨tb_111, List.forall_mem_cons.mpr ⟨tb_113, fun _ h => absurd h List.not_mem_nil⟩⟩⟩⟩
set_option maxRecDepth 10000 in
theorem inX9 : ∀ w ∈ u_ws RX9 TX9 4, w ∈ mTb := by
  have e : u_ws RX9 TX9 4 = [(Jvm.Cond.laysFinal "RoundVotes$Told" "RoundVotes$Told" "numbers" "[I"), (Jvm.Cond.laysFinal "RoundVotes$Told" "RoundVotes$Told" "kinds" "[I"), (Jvm.Cond.laysFinal "RoundVotes$Told" "RoundVotes$Told" "bys" "[I"), (Jvm.Cond.lays "RoundVotes$Told" "RoundVotes$Told" "size" "I")] := by decide +kernel
  rw [e]
  exact List.forall_mem_cons.mpr ⟨tb_57, List.forall_mem_cons.mpr ⟨tb_59, List.forall_mem_cons.mpr ⟨tb_61, List.forall_mem_cons.mpr ⟨tb_63, fun _ h => absurd h List.not_mem_nil⟩⟩⟩⟩
set_option maxRecDepth 10000 in
theorem inX10 : ∀ w ∈ u_ws RX10 TX10 12, w ∈ mTb := by
  have e : u_ws RX10 TX10 12 = [(Jvm.Cond.laysFinal "RoundVotes" "RoundVotes" "setup" "LRoundVotes$Setup;"), (Jvm.Cond.laysFinal "RoundVotes" "RoundVotes" "nodes" "[LRoundVotes$Node;"), (Jvm.Cond.laysFinal "RoundVotes" "RoundVotes" "mail" "LRoundVotes$Mail;"), (Jvm.Cond.laysFinal "RoundVotes" "RoundVotes" "told" "LRoundVotes$Told;"), (Jvm.Cond.laysFinal "RoundVotes" "RoundVotes" "faults" "LRoundVotes$Faults;"), (Jvm.Cond.lays "RoundVotes" "RoundVotes" "time" "I"), (Jvm.Cond.lays "RoundVotes" "RoundVotes" "gone" "I"), (Jvm.Cond.lays "RoundVotes" "RoundVotes" "came" "I"), (Jvm.Cond.lays "RoundVotes" "RoundVotes" "lost" "I"), (Jvm.Cond.lays "RoundVotes" "RoundVotes" "sideBits" "I"), (Jvm.Cond.lays "RoundVotes" "RoundVotes" "firstSideTurn" "I"), (Jvm.Cond.lays "RoundVotes" "RoundVotes" "lastSideTurn" "I")] := by decide +kernel
  rw [e]
  exact List.forall_mem_cons.mpr ⟨tb_340, List.forall_mem_cons.mpr ⟨tb_342, List.forall_mem_cons.mpr ⟨tb_344, List.forall_mem_cons.mpr ⟨tb_346, List.forall_mem_cons.mpr ⟨tb_348, List.forall_mem_cons.mpr ⟨tb_350, List.forall_mem_cons.mpr ⟨tb_352, List.forall_mem_cons.mpr ⟨tb_354, List.forall_mem_cons.mpr ⟨tb_356, List.forall_mem_cons.mpr ⟨tb_358, List.forall_mem_cons.mpr ⟨tb_360, List.forall_mem_cons.mpr ⟨tb_362, fun _ h => absurd h List.not_mem_nil⟩⟩⟩⟩⟩⟩⟩⟩⟩⟩⟩⟩
set_option maxRecDepth 10000 in
theorem inX11 : ∀ w ∈ u_ws RX11 TX11 53, w ∈ mTb := by
  have e : u_ws RX11 TX11 53 = [(Jvm.Cond.lays "RoundVotesModel" "RoundVotesModel" "thrown" "I"), (Jvm.Cond.laysFinal "RoundVotesModel" "RoundVotesModel" "n" "I"), (Jvm.Cond.laysFinal "RoundVotesModel" "RoundVotesModel" "seed" "I"), (Jvm.Cond.lays "RoundVotesModel" "RoundVotesModel" "time" "I"), (Jvm.Cond.laysFinal "RoundVotesModel" "RoundVotesModel" "weights" "[I"), (Jvm.Cond.laysFinal "RoundVotesModel" "RoundVotesModel" "heightOf" "[I"), (Jvm.Cond.laysFinal "RoundVotesModel" "RoundVotesModel" "roundOf" "[I"), (Jvm.Cond.laysFinal "RoundVotesModel" "RoundVotesModel" "stepOf" "[I"), (Jvm.Cond.laysFinal "RoundVotesModel" "RoundVotesModel" "lockedValue" "[I"), (Jvm.Cond.laysFinal "RoundVotesModel" "RoundVotesModel" "lockedRound" "[I"), (Jvm.Cond.laysFinal "RoundVotesModel" "RoundVotesModel" "validValue" "[I"), (Jvm.Cond.laysFinal "RoundVotesModel" "RoundVotesModel" "validRound" "[I"), (Jvm.Cond.laysFinal "RoundVotesModel" "RoundVotesModel" "cutUntil" "[I"), (Jvm.Cond.laysFinal "RoundVotesModel" "RoundVotesModel" "isCut" "[Z"), (Jvm.Cond.laysFinal "RoundVotesModel" "RoundVotesModel" "behaviour" "[I"), (Jvm.Cond.laysFinal "RoundVotesModel" "RoundVotesModel" "timers" "[I"), (Jvm.Cond.laysFinal "RoundVotesModel" "RoundVotesModel" "didD" "[Z"), (Jvm.Cond.laysFinal "RoundVotesModel" "RoundVotesModel" "didF" "[Z"), (Jvm.Cond.laysFinal "RoundVotesModel" "RoundVotesModel" "didG" "[Z"), (Jvm.Cond.laysFinal "RoundVotesModel" "RoundVotesModel" "sentCopies" "[I"), (Jvm.Cond.laysFinal "RoundVotesModel" "RoundVotesModel" "has" "[I"), (Jvm.Cond.laysFinal "RoundVotesModel" "RoundVotesModel" "hasRound" "[I"), (Jvm.Cond.laysFinal "RoundVotesModel" "RoundVotesModel" "signed" "[I"), (Jvm.Cond.laysFinal "RoundVotesModel" "RoundVotesModel" "signedRound" "[I"), (Jvm.Cond.laysFinal "RoundVotesModel" "RoundVotesModel" "decidedValue" "[I"), (Jvm.Cond.laysFinal "RoundVotesModel" "RoundVotesModel" "decidedRound" "[I"), (Jvm.Cond.laysFinal "RoundVotesModel" "RoundVotesModel" "decidedBits" "[I"), (Jvm.Cond.laysFinal "RoundVotesModel" "RoundVotesModel" "decidedWeight" "[J"), (Jvm.Cond.laysFinal "RoundVotesModel" "RoundVotesModel" "due" "[I"), (Jvm.Cond.laysFinal "RoundVotesModel" "RoundVotesModel" "from" "[I"), (Jvm.Cond.laysFinal "RoundVotesModel" "RoundVotesModel" "to" "[I"), (Jvm.Cond.laysFinal "RoundVotesModel" "RoundVotesModel" "height" "[I"), (Jvm.Cond.laysFinal "RoundVotesModel" "RoundVotesModel" "round" "[I"), (Jvm.Cond.laysFinal "RoundVotesModel" "RoundVotesModel" "kind" "[I"), (Jvm.Cond.laysFinal "RoundVotesModel" "RoundVotesModel" "value" "[I"), (Jvm.Cond.laysFinal "RoundVotesModel" "RoundVotesModel" "since" "[I"), (Jvm.Cond.laysFinal "RoundVotesModel" "RoundVotesModel" "isSecond" "[Z"), (Jvm.Cond.lays "RoundVotesModel" "RoundVotesModel" "copies" "I"), (Jvm.Cond.lays "RoundVotesModel" "RoundVotesModel" "underWay" "I"), (Jvm.Cond.lays "RoundVotesModel" "RoundVotesModel" "gone" "I"), (Jvm.Cond.lays "RoundVotesModel" "RoundVotesModel" "came" "I"), (Jvm.Cond.lays "RoundVotesModel" "RoundVotesModel" "lost" "I"), (Jvm.Cond.laysFinal "RoundVotesModel" "RoundVotesModel" "disturbed" "[I"), (Jvm.Cond.laysFinal "RoundVotesModel" "RoundVotesModel" "disturbKind" "[I"), (Jvm.Cond.laysFinal "RoundVotesModel" "RoundVotesModel" "disturbBy" "[I"), (Jvm.Cond.lays "RoundVotesModel" "RoundVotesModel" "disturbs" "I"), (Jvm.Cond.lays "RoundVotesModel" "RoundVotesModel" "sideBits" "I"), (Jvm.Cond.lays "RoundVotesModel" "RoundVotesModel" "sidesFrom" "I"), (Jvm.Cond.lays "RoundVotesModel" "RoundVotesModel" "sidesUntil" "I"), (Jvm.Cond.laysFinal "RoundVotesModel" "RoundVotesModel" "evidence" "[I"), (Jvm.Cond.lays "RoundVotesModel" "RoundVotesModel" "evidences" "I"), (Jvm.Cond.laysFinal "RoundVotesModel" "RoundVotesModel" "firstSent" "[I"), (Jvm.Cond.laysFinal "RoundVotesModel" "RoundVotesModel" "sentUnlike" "[Z")] := by decide +kernel
  rw [e]
  exact List.forall_mem_cons.mpr ⟨tb_775, List.forall_mem_cons.mpr ⟨tb_777, List.forall_mem_cons.mpr ⟨tb_779, List.forall_mem_cons.mpr ⟨tb_781, List.forall_mem_cons.mpr ⟨tb_783, List.forall_mem_cons.mpr ⟨tb_785, List.forall_mem_cons.mpr ⟨tb_787, List.forall_mem_cons.mpr ⟨tb_789, List.forall_mem_cons.mpr ⟨tb_791, List.forall_mem_cons.mpr ⟨tb_793, List.forall_mem_cons.mpr ⟨tb_795, List.forall_mem_cons.mpr ⟨tb_797, List.forall_mem_cons.mpr ⟨tb_799, List.forall_mem_cons.mpr ⟨tb_801, List.forall_mem_cons.mpr ⟨tb_803, List.forall_mem_cons.mpr ⟨tb_805, List.forall_mem_cons.mpr ⟨tb_807, List.forall_mem_cons.mpr ⟨tb_809, List.forall_mem_cons.mpr ⟨tb_811, List.forall_mem_cons.mpr ⟨tb_813, List.forall_mem_cons.mpr ⟨tb_815, List.forall_mem_cons.mpr ⟨tb_817, List.forall_mem_cons.mpr ⟨tb_819, List.forall_mem_cons.mpr ⟨tb_821, List.forall_mem_cons.mpr ⟨tb_823, List.forall_mem_cons.mpr ⟨tb_825, List.forall_mem_cons.mpr ⟨tb_827, List.forall_mem_cons.mpr ⟨tb_829, List.forall_mem_cons.mpr ⟨tb_831, List.forall_mem_cons.mpr ⟨tb_833, List.forall_mem_cons.mpr ⟨tb_835, List.forall_mem_cons.mpr ⟨tb_837, List.forall_mem_cons.mpr ⟨tb_839, List.forall_mem_cons.mpr ⟨tb_841, List.forall_mem_cons.mpr ⟨tb_843, List.forall_mem_cons.mpr ⟨tb_845, List.forall_mem_cons.mpr ⟨tb_847, List.forall_mem_cons.mpr ⟨tb_849, List.forall_mem_cons.mpr ⟨tb_851, List.forall_mem_cons.mpr ⟨tb_853, List.forall_mem_cons.mpr ⟨tb_855, List.forall_mem_cons.mpr ⟨tb_857, List.forall_mem_cons.mpr ⟨tb_859, List.forall_mem_cons.mpr ⟨tb_861, List.forall_mem_cons.mpr ⟨tb_863, List.forall_mem_cons.mpr ⟨tb_865, List.forall_mem_cons.mpr ⟨tb_867, List.forall_mem_cons.mpr ⟨tb_869, List.forall_mem_cons.mpr ⟨tb_871, List.forall_mem_cons.mpr ⟨tb_873, List.forall_mem_cons.mpr ⟨tb_875, List.forall_mem_cons.mpr ⟨tb_877, List.forall_mem_cons.mpr ⟨tb_879, fun _ h => absurd h List.not_mem_nil⟩⟩⟩⟩⟩⟩⟩⟩⟩⟩⟩⟩⟩⟩⟩⟩⟩⟩⟩⟩⟩⟩⟩⟩⟩⟩⟩⟩⟩⟩⟩⟩⟩⟩⟩⟩⟩⟩⟩⟩⟩⟩⟩⟩⟩⟩⟩⟩⟩⟩⟩⟩⟩
theorem dfX0 : ∀ j, j < 4 → defaultValue (tyX0 j) = mVal (mTy (0 + 1) j) 0 0 none := by decide +kernel
theorem dfX1 : ∀ j, j < 2 → defaultValue (tyX1 j) = mVal (mTy (1 + 1) j) 0 0 none := by decide +kernel
theorem dfX2 : ∀ j, j < 3 → defaultValue (tyX2 j) = mVal (mTy (2 + 1) j) 0 0 none := by decide +kernel
theorem dfX3 : ∀ j, j < 2 → defaultValue (tyX3 j) = mVal (mTy (3 + 1) j) 0 0 none := by decide +kernel
theorem dfX4 : ∀ j, j < 3 → defaultValue (tyX4 j) = mVal (mTy (4 + 1) j) 0 0 none := by decide +kernel
theorem dfX5 : ∀ j, j < 9 → defaultValue (tyX5 j) = mVal (mTy (5 + 1) j) 0 0 none := by decide +kernel
theorem dfX6 : ∀ j, j < 18 → defaultValue (tyX6 j) = mVal (mTy (6 + 1) j) 0 0 none := by decide +kernel
theorem dfX7 : ∀ j, j < 3 → defaultValue (tyX7 j) = mVal (mTy (7 + 1) j) 0 0 none := by decide +kernel
theorem dfX8 : ∀ j, j < 4 → defaultValue (tyX8 j) = mVal (mTy (8 + 1) j) 0 0 none := by decide +kernel
theorem dfX9 : ∀ j, j < 4 → defaultValue (tyX9 j) = mVal (mTy (9 + 1) j) 0 0 none := by decide +kernel
theorem dfX10 : ∀ j, j < 12 → defaultValue (tyX10 j) = mVal (mTy (10 + 1) j) 0 0 none := by decide +kernel
theorem dfX11 : ∀ j, j < 53 → defaultValue (tyX11 j) = mVal (mTy (11 + 1) j) 0 0 none := by decide +kernel
