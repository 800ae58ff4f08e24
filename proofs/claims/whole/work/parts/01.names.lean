-- ===== PART A: goes FIRST, ahead of the names: the tables' words, and 'selects' of the private methods out of them =====
/-- a private method of a class that the tables say can be made, by its rows of tables_1 -/
def lw_okq (q : MethodName × Nat) : Prop := (q.1.cls ≠ "java/lang/invoke/MethodHandle" ∧ q.1.cls ≠ "java/lang/invoke/VarHandle") ∧ Cond.instantiable q.1.cls q.2 ∈ tables_1 ∧ Cond.privateMethod q.1 ∈ tables_1 ∧ Cond.instanceMethod q.1 ∈ tables_1
theorem lw_p0 : lw_okq (⟨"HornRuleWorkbench", "startAfresh", "()V"⟩, 15) := ⟨⟨by decide +kernel, by decide +kernel⟩, List.mem_of_getElem? (i := 17) (by decide +kernel), List.mem_of_getElem? (i := 240) (by decide +kernel), List.mem_of_getElem? (i := 241) (by decide +kernel)⟩
theorem lw_p1 : lw_okq (⟨"HornRuleWorkbench$History", "keep", "(LHornRuleWorkbench$RuleList;)V"⟩, 4) := ⟨⟨by decide +kernel, by decide +kernel⟩, List.mem_of_getElem? (i := 143) (by decide +kernel), List.mem_of_getElem? (i := 255) (by decide +kernel), List.mem_of_getElem? (i := 256) (by decide +kernel)⟩
theorem lw_p2 : lw_okq (⟨"HornRuleWorkbench", "rulesChanged", "()V"⟩, 15) := ⟨⟨by decide +kernel, by decide +kernel⟩, List.mem_of_getElem? (i := 17) (by decide +kernel), List.mem_of_getElem? (i := 275) (by decide +kernel), List.mem_of_getElem? (i := 276) (by decide +kernel)⟩
theorem lw_p3 : lw_okq (⟨"HornRuleWorkbench", "isValid", "(I)Z"⟩, 15) := ⟨⟨by decide +kernel, by decide +kernel⟩, List.mem_of_getElem? (i := 17) (by decide +kernel), List.mem_of_getElem? (i := 390) (by decide +kernel), List.mem_of_getElem? (i := 391) (by decide +kernel)⟩
theorem lw_p4 : lw_okq (⟨"HornRuleWorkbench", "recordEdit", "()V"⟩, 15) := ⟨⟨by decide +kernel, by decide +kernel⟩, List.mem_of_getElem? (i := 17) (by decide +kernel), List.mem_of_getElem? (i := 407) (by decide +kernel), List.mem_of_getElem? (i := 408) (by decide +kernel)⟩
theorem lw_p5 : lw_okq (⟨"HornRuleWorkbench$History", "forgetOldest", "()V"⟩, 4) := ⟨⟨by decide +kernel, by decide +kernel⟩, List.mem_of_getElem? (i := 143) (by decide +kernel), List.mem_of_getElem? (i := 415) (by decide +kernel), List.mem_of_getElem? (i := 416) (by decide +kernel)⟩
theorem lw_p6 : lw_okq (⟨"HornRuleWorkbench", "isAttribute", "(I)Z"⟩, 15) := ⟨⟨by decide +kernel, by decide +kernel⟩, List.mem_of_getElem? (i := 17) (by decide +kernel), List.mem_of_getElem? (i := 582) (by decide +kernel), List.mem_of_getElem? (i := 583) (by decide +kernel)⟩
theorem lw_p7 : lw_okq (⟨"HornRuleWorkbench", "listGenerators", "(I)LHornRuleWorkbench$IntRow;"⟩, 15) := ⟨⟨by decide +kernel, by decide +kernel⟩, List.mem_of_getElem? (i := 17) (by decide +kernel), List.mem_of_getElem? (i := 586) (by decide +kernel), List.mem_of_getElem? (i := 587) (by decide +kernel)⟩
theorem lw_p8 : lw_okq (⟨"HornRuleWorkbench$Lattice", "containsClosuresFound", "(LHornRuleWorkbench$ClosureTable;I)Z"⟩, 2) := ⟨⟨by decide +kernel, by decide +kernel⟩, List.mem_of_getElem? (i := 75) (by decide +kernel), List.mem_of_getElem? (i := 602) (by decide +kernel), List.mem_of_getElem? (i := 603) (by decide +kernel)⟩
theorem lw_p9 : lw_okq (⟨"HornRuleWorkbench", "finishedLearner", "()LHornRuleWorkbench$Learner;"⟩, 15) := ⟨⟨by decide +kernel, by decide +kernel⟩, List.mem_of_getElem? (i := 17) (by decide +kernel), List.mem_of_getElem? (i := 642) (by decide +kernel), List.mem_of_getElem? (i := 643) (by decide +kernel)⟩
theorem lw_p10 : lw_okq (⟨"HornRuleWorkbench$Learner", "equivalenceQuery", "(LHornRuleWorkbench$ClosureTable;)I"⟩, 5) := ⟨⟨by decide +kernel, by decide +kernel⟩, List.mem_of_getElem? (i := 90) (by decide +kernel), List.mem_of_getElem? (i := 651) (by decide +kernel), List.mem_of_getElem? (i := 652) (by decide +kernel)⟩
theorem lw_p11 : lw_okq (⟨"HornRuleWorkbench$Learner", "satisfiesHypothesis", "(I)Z"⟩, 5) := ⟨⟨by decide +kernel, by decide +kernel⟩, List.mem_of_getElem? (i := 90) (by decide +kernel), List.mem_of_getElem? (i := 657) (by decide +kernel), List.mem_of_getElem? (i := 658) (by decide +kernel)⟩
theorem lw_p12 : lw_okq (⟨"HornRuleWorkbench$Learner", "learnFromPositive", "(I)V"⟩, 5) := ⟨⟨by decide +kernel, by decide +kernel⟩, List.mem_of_getElem? (i := 90) (by decide +kernel), List.mem_of_getElem? (i := 665) (by decide +kernel), List.mem_of_getElem? (i := 666) (by decide +kernel)⟩
theorem lw_p13 : lw_okq (⟨"HornRuleWorkbench$Learner", "learnFromNegative", "(LHornRuleWorkbench$ClosureTable;I)V"⟩, 5) := ⟨⟨by decide +kernel, by decide +kernel⟩, List.mem_of_getElem? (i := 90) (by decide +kernel), List.mem_of_getElem? (i := 670) (by decide +kernel), List.mem_of_getElem? (i := 671) (by decide +kernel)⟩
theorem lw_p14 : lw_okq (⟨"HornRuleWorkbench$Learner", "membershipQuery", "(LHornRuleWorkbench$ClosureTable;I)Z"⟩, 5) := ⟨⟨by decide +kernel, by decide +kernel⟩, List.mem_of_getElem? (i := 90) (by decide +kernel), List.mem_of_getElem? (i := 674) (by decide +kernel), List.mem_of_getElem? (i := 675) (by decide +kernel)⟩
theorem lw_p15 : lw_okq (⟨"HornRuleWorkbench", "finishedExploration", "()LHornRuleWorkbench$Exploration;"⟩, 15) := ⟨⟨by decide +kernel, by decide +kernel⟩, List.mem_of_getElem? (i := 17) (by decide +kernel), List.mem_of_getElem? (i := 764) (by decide +kernel), List.mem_of_getElem? (i := 765) (by decide +kernel)⟩
def lw_privs_1 : List (MethodName × Nat) := [(⟨"HornRuleWorkbench", "startAfresh", "()V"⟩, 15), (⟨"HornRuleWorkbench$History", "keep", "(LHornRuleWorkbench$RuleList;)V"⟩, 4), (⟨"HornRuleWorkbench", "rulesChanged", "()V"⟩, 15), (⟨"HornRuleWorkbench", "isValid", "(I)Z"⟩, 15), (⟨"HornRuleWorkbench", "recordEdit", "()V"⟩, 15), (⟨"HornRuleWorkbench$History", "forgetOldest", "()V"⟩, 4), (⟨"HornRuleWorkbench", "isAttribute", "(I)Z"⟩, 15), (⟨"HornRuleWorkbench", "listGenerators", "(I)LHornRuleWorkbench$IntRow;"⟩, 15), (⟨"HornRuleWorkbench$Lattice", "containsClosuresFound", "(LHornRuleWorkbench$ClosureTable;I)Z"⟩, 2), (⟨"HornRuleWorkbench", "finishedLearner", "()LHornRuleWorkbench$Learner;"⟩, 15), (⟨"HornRuleWorkbench$Learner", "equivalenceQuery", "(LHornRuleWorkbench$ClosureTable;)I"⟩, 5), (⟨"HornRuleWorkbench$Learner", "satisfiesHypothesis", "(I)Z"⟩, 5), (⟨"HornRuleWorkbench$Learner", "learnFromPositive", "(I)V"⟩, 5), (⟨"HornRuleWorkbench$Learner", "learnFromNegative", "(LHornRuleWorkbench$ClosureTable;I)V"⟩, 5), (⟨"HornRuleWorkbench$Learner", "membershipQuery", "(LHornRuleWorkbench$ClosureTable;I)Z"⟩, 5), (⟨"HornRuleWorkbench", "finishedExploration", "()LHornRuleWorkbench$Exploration;"⟩, 15)]
theorem lw_r1 : ∀ q ∈ lw_privs_1, lw_okq q := List.forall_mem_cons.mpr ⟨lw_p0, List.forall_mem_cons.mpr ⟨lw_p1, List.forall_mem_cons.mpr ⟨lw_p2, List.forall_mem_cons.mpr ⟨lw_p3, List.forall_mem_cons.mpr ⟨lw_p4, List.forall_mem_cons.mpr ⟨lw_p5, List.forall_mem_cons.mpr ⟨lw_p6, List.forall_mem_cons.mpr ⟨lw_p7, List.forall_mem_cons.mpr ⟨lw_p8, List.forall_mem_cons.mpr ⟨lw_p9, List.forall_mem_cons.mpr ⟨lw_p10, List.forall_mem_cons.mpr ⟨lw_p11, List.forall_mem_cons.mpr ⟨lw_p12, List.forall_mem_cons.mpr ⟨lw_p13, List.forall_mem_cons.mpr ⟨lw_p14, List.forall_mem_cons.mpr ⟨lw_p15, fun _ h => absurd h List.not_mem_nil⟩⟩⟩⟩⟩⟩⟩⟩⟩⟩⟩⟩⟩⟩⟩⟩
theorem lw_p16 : lw_okq (⟨"HornRuleWorkbench$Exploration", "breaksAccepted", "(I)Z"⟩, 4) := ⟨⟨by decide +kernel, by decide +kernel⟩, List.mem_of_getElem? (i := 119) (by decide +kernel), List.mem_of_getElem? (i := 778) (by decide +kernel), List.mem_of_getElem? (i := 779) (by decide +kernel)⟩
theorem lw_p17 : lw_okq (⟨"HornRuleWorkbench$Exploration", "examine", "(LHornRuleWorkbench$ClosureTable;I)V"⟩, 4) := ⟨⟨by decide +kernel, by decide +kernel⟩, List.mem_of_getElem? (i := 119) (by decide +kernel), List.mem_of_getElem? (i := 784) (by decide +kernel), List.mem_of_getElem? (i := 785) (by decide +kernel)⟩
theorem lw_p18 : lw_okq (⟨"HornRuleWorkbench$RuleParser", "take", "(II)Z"⟩, 5) := ⟨⟨by decide +kernel, by decide +kernel⟩, List.mem_of_getElem? (i := 189) (by decide +kernel), List.mem_of_getElem? (i := 823) (by decide +kernel), List.mem_of_getElem? (i := 824) (by decide +kernel)⟩
theorem lw_p19 : lw_okq (⟨"HornRuleWorkbench$RuleParser", "endRule", "()V"⟩, 5) := ⟨⟨by decide +kernel, by decide +kernel⟩, List.mem_of_getElem? (i := 189) (by decide +kernel), List.mem_of_getElem? (i := 827) (by decide +kernel), List.mem_of_getElem? (i := 828) (by decide +kernel)⟩
theorem lw_p20 : lw_okq (⟨"HornRuleWorkbench", "formatSet", "(I)V"⟩, 15) := ⟨⟨by decide +kernel, by decide +kernel⟩, List.mem_of_getElem? (i := 17) (by decide +kernel), List.mem_of_getElem? (i := 840) (by decide +kernel), List.mem_of_getElem? (i := 841) (by decide +kernel)⟩
theorem lw_p21 : lw_okq (⟨"HornRuleWorkbench$History", "bringBack", "(LHornRuleWorkbench$RuleList;)V"⟩, 4) := ⟨⟨by decide +kernel, by decide +kernel⟩, List.mem_of_getElem? (i := 143) (by decide +kernel), List.mem_of_getElem? (i := 860) (by decide +kernel), List.mem_of_getElem? (i := 861) (by decide +kernel)⟩
theorem lw_p22 : lw_okq (⟨"HornRuleWorkbench", "bufferAt", "(I)LHornRuleWorkbench$Buffer;"⟩, 15) := ⟨⟨by decide +kernel, by decide +kernel⟩, List.mem_of_getElem? (i := 17) (by decide +kernel), List.mem_of_getElem? (i := 915) (by decide +kernel), List.mem_of_getElem? (i := 916) (by decide +kernel)⟩
theorem lw_p23 : lw_okq (⟨"HornRuleWorkbench$Buffer", "fit", "(J)J"⟩, 4) := ⟨⟨by decide +kernel, by decide +kernel⟩, List.mem_of_getElem? (i := 216) (by decide +kernel), List.mem_of_getElem? (i := 941) (by decide +kernel), List.mem_of_getElem? (i := 942) (by decide +kernel)⟩
theorem lw_p24 : lw_okq (⟨"HornRuleWorkbenchModel", "forgetEdits", "()V"⟩, 53) := ⟨⟨by decide +kernel, by decide +kernel⟩, List.mem_of_getElem? (i := 992) (by decide +kernel), List.mem_of_getElem? (i := 1167) (by decide +kernel), List.mem_of_getElem? (i := 1168) (by decide +kernel)⟩
theorem lw_p25 : lw_okq (⟨"HornRuleWorkbenchModel", "isSet", "(I)Z"⟩, 53) := ⟨⟨by decide +kernel, by decide +kernel⟩, List.mem_of_getElem? (i := 992) (by decide +kernel), List.mem_of_getElem? (i := 1179) (by decide +kernel), List.mem_of_getElem? (i := 1180) (by decide +kernel)⟩
theorem lw_p26 : lw_okq (⟨"HornRuleWorkbenchModel", "fullSet", "()I"⟩, 53) := ⟨⟨by decide +kernel, by decide +kernel⟩, List.mem_of_getElem? (i := 992) (by decide +kernel), List.mem_of_getElem? (i := 1183) (by decide +kernel), List.mem_of_getElem? (i := 1184) (by decide +kernel)⟩
theorem lw_p27 : lw_okq (⟨"HornRuleWorkbenchModel", "beginEdit", "()V"⟩, 53) := ⟨⟨by decide +kernel, by decide +kernel⟩, List.mem_of_getElem? (i := 992) (by decide +kernel), List.mem_of_getElem? (i := 1187) (by decide +kernel), List.mem_of_getElem? (i := 1188) (by decide +kernel)⟩
theorem lw_p28 : lw_okq (⟨"HornRuleWorkbenchModel", "storeState", "(I)V"⟩, 53) := ⟨⟨by decide +kernel, by decide +kernel⟩, List.mem_of_getElem? (i := 992) (by decide +kernel), List.mem_of_getElem? (i := 1191) (by decide +kernel), List.mem_of_getElem? (i := 1192) (by decide +kernel)⟩
theorem lw_p29 : lw_okq (⟨"HornRuleWorkbenchModel", "append", "(II)V"⟩, 53) := ⟨⟨by decide +kernel, by decide +kernel⟩, List.mem_of_getElem? (i := 992) (by decide +kernel), List.mem_of_getElem? (i := 1195) (by decide +kernel), List.mem_of_getElem? (i := 1196) (by decide +kernel)⟩
theorem lw_p30 : lw_okq (⟨"HornRuleWorkbenchModel", "endEdit", "()V"⟩, 53) := ⟨⟨by decide +kernel, by decide +kernel⟩, List.mem_of_getElem? (i := 992) (by decide +kernel), List.mem_of_getElem? (i := 1199) (by decide +kernel), List.mem_of_getElem? (i := 1200) (by decide +kernel)⟩
theorem lw_p31 : lw_okq (⟨"HornRuleWorkbenchModel", "isRule", "(I)Z"⟩, 53) := ⟨⟨by decide +kernel, by decide +kernel⟩, List.mem_of_getElem? (i := 992) (by decide +kernel), List.mem_of_getElem? (i := 1211) (by decide +kernel), List.mem_of_getElem? (i := 1212) (by decide +kernel)⟩
def lw_privs_2 : List (MethodName × Nat) := [(⟨"HornRuleWorkbench$Exploration", "breaksAccepted", "(I)Z"⟩, 4), (⟨"HornRuleWorkbench$Exploration", "examine", "(LHornRuleWorkbench$ClosureTable;I)V"⟩, 4), (⟨"HornRuleWorkbench$RuleParser", "take", "(II)Z"⟩, 5), (⟨"HornRuleWorkbench$RuleParser", "endRule", "()V"⟩, 5), (⟨"HornRuleWorkbench", "formatSet", "(I)V"⟩, 15), (⟨"HornRuleWorkbench$History", "bringBack", "(LHornRuleWorkbench$RuleList;)V"⟩, 4), (⟨"HornRuleWorkbench", "bufferAt", "(I)LHornRuleWorkbench$Buffer;"⟩, 15), (⟨"HornRuleWorkbench$Buffer", "fit", "(J)J"⟩, 4), (⟨"HornRuleWorkbenchModel", "forgetEdits", "()V"⟩, 53), (⟨"HornRuleWorkbenchModel", "isSet", "(I)Z"⟩, 53), (⟨"HornRuleWorkbenchModel", "fullSet", "()I"⟩, 53), (⟨"HornRuleWorkbenchModel", "beginEdit", "()V"⟩, 53), (⟨"HornRuleWorkbenchModel", "storeState", "(I)V"⟩, 53), (⟨"HornRuleWorkbenchModel", "append", "(II)V"⟩, 53), (⟨"HornRuleWorkbenchModel", "endEdit", "()V"⟩, 53), (⟨"HornRuleWorkbenchModel", "isRule", "(I)Z"⟩, 53)]
theorem lw_r2 : ∀ q ∈ lw_privs_2, lw_okq q := List.forall_mem_cons.mpr ⟨lw_p16, List.forall_mem_cons.mpr ⟨lw_p17, List.forall_mem_cons.mpr ⟨lw_p18, List.forall_mem_cons.mpr ⟨lw_p19, List.forall_mem_cons.mpr ⟨lw_p20, List.forall_mem_cons.mpr ⟨lw_p21, List.forall_mem_cons.mpr ⟨lw_p22, List.forall_mem_cons.mpr ⟨lw_p23, List.forall_mem_cons.mpr ⟨lw_p24, List.forall_mem_cons.mpr ⟨lw_p25, List.forall_mem_cons.mpr ⟨lw_p26, List.forall_mem_cons.mpr ⟨lw_p27, List.forall_mem_cons.mpr ⟨lw_p28, List.forall_mem_cons.mpr ⟨lw_p29, List.forall_mem_cons.mpr ⟨lw_p30, List.forall_mem_cons.mpr ⟨lw_p31, fun _ h => absurd h List.not_mem_nil⟩⟩⟩⟩⟩⟩⟩⟩⟩⟩⟩⟩⟩⟩⟩⟩
theorem lw_p32 : lw_okq (⟨"HornRuleWorkbenchModel", "closureOf", "(I)I"⟩, 53) := ⟨⟨by decide +kernel, by decide +kernel⟩, List.mem_of_getElem? (i := 992) (by decide +kernel), List.mem_of_getElem? (i := 1239) (by decide +kernel), List.mem_of_getElem? (i := 1240) (by decide +kernel)⟩
theorem lw_p33 : lw_okq (⟨"HornRuleWorkbenchModel", "enabledRules", "()I"⟩, 53) := ⟨⟨by decide +kernel, by decide +kernel⟩, List.mem_of_getElem? (i := 992) (by decide +kernel), List.mem_of_getElem? (i := 1243) (by decide +kernel), List.mem_of_getElem? (i := 1244) (by decide +kernel)⟩
theorem lw_p34 : lw_okq (⟨"HornRuleWorkbenchModel", "closureUnder", "(II)I"⟩, 53) := ⟨⟨by decide +kernel, by decide +kernel⟩, List.mem_of_getElem? (i := 992) (by decide +kernel), List.mem_of_getElem? (i := 1247) (by decide +kernel), List.mem_of_getElem? (i := 1248) (by decide +kernel)⟩
theorem lw_p35 : lw_okq (⟨"HornRuleWorkbenchModel", "isClosedSet", "(I)Z"⟩, 53) := ⟨⟨by decide +kernel, by decide +kernel⟩, List.mem_of_getElem? (i := 992) (by decide +kernel), List.mem_of_getElem? (i := 1258) (by decide +kernel), List.mem_of_getElem? (i := 1259) (by decide +kernel)⟩
theorem lw_p36 : lw_okq (⟨"HornRuleWorkbenchModel", "isEntailed", "(III)Z"⟩, 53) := ⟨⟨by decide +kernel, by decide +kernel⟩, List.mem_of_getElem? (i := 992) (by decide +kernel), List.mem_of_getElem? (i := 1266) (by decide +kernel), List.mem_of_getElem? (i := 1267) (by decide +kernel)⟩
theorem lw_p37 : lw_okq (⟨"HornRuleWorkbenchModel", "chainForward", "(I)V"⟩, 53) := ⟨⟨by decide +kernel, by decide +kernel⟩, List.mem_of_getElem? (i := 992) (by decide +kernel), List.mem_of_getElem? (i := 1274) (by decide +kernel), List.mem_of_getElem? (i := 1275) (by decide +kernel)⟩
theorem lw_p38 : lw_okq (⟨"HornRuleWorkbenchModel", "findClosedSets", "()V"⟩, 53) := ⟨⟨by decide +kernel, by decide +kernel⟩, List.mem_of_getElem? (i := 992) (by decide +kernel), List.mem_of_getElem? (i := 1286) (by decide +kernel), List.mem_of_getElem? (i := 1287) (by decide +kernel)⟩
theorem lw_p39 : lw_okq (⟨"HornRuleWorkbenchModel", "upperCovers", "(I)I"⟩, 53) := ⟨⟨by decide +kernel, by decide +kernel⟩, List.mem_of_getElem? (i := 992) (by decide +kernel), List.mem_of_getElem? (i := 1303) (by decide +kernel), List.mem_of_getElem? (i := 1304) (by decide +kernel)⟩
theorem lw_p40 : lw_okq (⟨"HornRuleWorkbenchModel", "findIrreducibles", "()V"⟩, 53) := ⟨⟨by decide +kernel, by decide +kernel⟩, List.mem_of_getElem? (i := 992) (by decide +kernel), List.mem_of_getElem? (i := 1311) (by decide +kernel), List.mem_of_getElem? (i := 1312) (by decide +kernel)⟩
theorem lw_p41 : lw_okq (⟨"HornRuleWorkbenchModel", "findMinimal", "(II)V"⟩, 53) := ⟨⟨by decide +kernel, by decide +kernel⟩, List.mem_of_getElem? (i := 992) (by decide +kernel), List.mem_of_getElem? (i := 1323) (by decide +kernel), List.mem_of_getElem? (i := 1324) (by decide +kernel)⟩
theorem lw_p42 : lw_okq (⟨"HornRuleWorkbenchModel", "isAttribute", "(I)Z"⟩, 53) := ⟨⟨by decide +kernel, by decide +kernel⟩, List.mem_of_getElem? (i := 992) (by decide +kernel), List.mem_of_getElem? (i := 1335) (by decide +kernel), List.mem_of_getElem? (i := 1336) (by decide +kernel)⟩
theorem lw_p43 : lw_okq (⟨"HornRuleWorkbenchModel", "findBasis", "()V"⟩, 53) := ⟨⟨by decide +kernel, by decide +kernel⟩, List.mem_of_getElem? (i := 992) (by decide +kernel), List.mem_of_getElem? (i := 1347) (by decide +kernel), List.mem_of_getElem? (i := 1348) (by decide +kernel)⟩
theorem lw_p44 : lw_okq (⟨"HornRuleWorkbenchModel", "learn", "()V"⟩, 53) := ⟨⟨by decide +kernel, by decide +kernel⟩, List.mem_of_getElem? (i := 992) (by decide +kernel), List.mem_of_getElem? (i := 1375) (by decide +kernel), List.mem_of_getElem? (i := 1376) (by decide +kernel)⟩
theorem lw_p45 : lw_okq (⟨"HornRuleWorkbenchModel", "differingSet", "()I"⟩, 53) := ⟨⟨by decide +kernel, by decide +kernel⟩, List.mem_of_getElem? (i := 992) (by decide +kernel), List.mem_of_getElem? (i := 1379) (by decide +kernel), List.mem_of_getElem? (i := 1380) (by decide +kernel)⟩
theorem lw_p46 : lw_okq (⟨"HornRuleWorkbenchModel", "isClosedUnderHypothesis", "(I)Z"⟩, 53) := ⟨⟨by decide +kernel, by decide +kernel⟩, List.mem_of_getElem? (i := 992) (by decide +kernel), List.mem_of_getElem? (i := 1383) (by decide +kernel), List.mem_of_getElem? (i := 1384) (by decide +kernel)⟩
theorem lw_p47 : lw_okq (⟨"HornRuleWorkbenchModel", "learnNegative", "(I)V"⟩, 53) := ⟨⟨by decide +kernel, by decide +kernel⟩, List.mem_of_getElem? (i := 992) (by decide +kernel), List.mem_of_getElem? (i := 1387) (by decide +kernel), List.mem_of_getElem? (i := 1388) (by decide +kernel)⟩
def lw_privs_3 : List (MethodName × Nat) := [(⟨"HornRuleWorkbenchModel", "closureOf", "(I)I"⟩, 53), (⟨"HornRuleWorkbenchModel", "enabledRules", "()I"⟩, 53), (⟨"HornRuleWorkbenchModel", "closureUnder", "(II)I"⟩, 53), (⟨"HornRuleWorkbenchModel", "isClosedSet", "(I)Z"⟩, 53), (⟨"HornRuleWorkbenchModel", "isEntailed", "(III)Z"⟩, 53), (⟨"HornRuleWorkbenchModel", "chainForward", "(I)V"⟩, 53), (⟨"HornRuleWorkbenchModel", "findClosedSets", "()V"⟩, 53), (⟨"HornRuleWorkbenchModel", "upperCovers", "(I)I"⟩, 53), (⟨"HornRuleWorkbenchModel", "findIrreducibles", "()V"⟩, 53), (⟨"HornRuleWorkbenchModel", "findMinimal", "(II)V"⟩, 53), (⟨"HornRuleWorkbenchModel", "isAttribute", "(I)Z"⟩, 53), (⟨"HornRuleWorkbenchModel", "findBasis", "()V"⟩, 53), (⟨"HornRuleWorkbenchModel", "learn", "()V"⟩, 53), (⟨"HornRuleWorkbenchModel", "differingSet", "()I"⟩, 53), (⟨"HornRuleWorkbenchModel", "isClosedUnderHypothesis", "(I)Z"⟩, 53), (⟨"HornRuleWorkbenchModel", "learnNegative", "(I)V"⟩, 53)]
theorem lw_r3 : ∀ q ∈ lw_privs_3, lw_okq q := List.forall_mem_cons.mpr ⟨lw_p32, List.forall_mem_cons.mpr ⟨lw_p33, List.forall_mem_cons.mpr ⟨lw_p34, List.forall_mem_cons.mpr ⟨lw_p35, List.forall_mem_cons.mpr ⟨lw_p36, List.forall_mem_cons.mpr ⟨lw_p37, List.forall_mem_cons.mpr ⟨lw_p38, List.forall_mem_cons.mpr ⟨lw_p39, List.forall_mem_cons.mpr ⟨lw_p40, List.forall_mem_cons.mpr ⟨lw_p41, List.forall_mem_cons.mpr ⟨lw_p42, List.forall_mem_cons.mpr ⟨lw_p43, List.forall_mem_cons.mpr ⟨lw_p44, List.forall_mem_cons.mpr ⟨lw_p45, List.forall_mem_cons.mpr ⟨lw_p46, List.forall_mem_cons.mpr ⟨lw_p47, fun _ h => absurd h List.not_mem_nil⟩⟩⟩⟩⟩⟩⟩⟩⟩⟩⟩⟩⟩⟩⟩⟩
theorem lw_p48 : lw_okq (⟨"HornRuleWorkbenchModel", "answersClosed", "(I)Z"⟩, 53) := ⟨⟨by decide +kernel, by decide +kernel⟩, List.mem_of_getElem? (i := 992) (by decide +kernel), List.mem_of_getElem? (i := 1391) (by decide +kernel), List.mem_of_getElem? (i := 1392) (by decide +kernel)⟩
theorem lw_p49 : lw_okq (⟨"HornRuleWorkbenchModel", "positionOfQuery", "(I)I"⟩, 53) := ⟨⟨by decide +kernel, by decide +kernel⟩, List.mem_of_getElem? (i := 992) (by decide +kernel), List.mem_of_getElem? (i := 1395) (by decide +kernel), List.mem_of_getElem? (i := 1396) (by decide +kernel)⟩
theorem lw_p50 : lw_okq (⟨"HornRuleWorkbenchModel", "setPair", "(II)V"⟩, 53) := ⟨⟨by decide +kernel, by decide +kernel⟩, List.mem_of_getElem? (i := 992) (by decide +kernel), List.mem_of_getElem? (i := 1399) (by decide +kernel), List.mem_of_getElem? (i := 1400) (by decide +kernel)⟩
theorem lw_p51 : lw_okq (⟨"HornRuleWorkbenchModel", "supportOf", "(I)I"⟩, 53) := ⟨⟨by decide +kernel, by decide +kernel⟩, List.mem_of_getElem? (i := 992) (by decide +kernel), List.mem_of_getElem? (i := 1465) (by decide +kernel), List.mem_of_getElem? (i := 1466) (by decide +kernel)⟩
theorem lw_p52 : lw_okq (⟨"HornRuleWorkbenchModel", "explore", "()V"⟩, 53) := ⟨⟨by decide +kernel, by decide +kernel⟩, List.mem_of_getElem? (i := 992) (by decide +kernel), List.mem_of_getElem? (i := 1481) (by decide +kernel), List.mem_of_getElem? (i := 1482) (by decide +kernel)⟩
theorem lw_p53 : lw_okq (⟨"HornRuleWorkbenchModel", "isSkipped", "(I)Z"⟩, 53) := ⟨⟨by decide +kernel, by decide +kernel⟩, List.mem_of_getElem? (i := 992) (by decide +kernel), List.mem_of_getElem? (i := 1485) (by decide +kernel), List.mem_of_getElem? (i := 1486) (by decide +kernel)⟩
theorem lw_p54 : lw_okq (⟨"HornRuleWorkbenchModel", "knownClosure", "(I)I"⟩, 53) := ⟨⟨by decide +kernel, by decide +kernel⟩, List.mem_of_getElem? (i := 992) (by decide +kernel), List.mem_of_getElem? (i := 1489) (by decide +kernel), List.mem_of_getElem? (i := 1490) (by decide +kernel)⟩
theorem lw_p55 : lw_okq (⟨"HornRuleWorkbenchModel", "parseAll", "()I"⟩, 53) := ⟨⟨by decide +kernel, by decide +kernel⟩, List.mem_of_getElem? (i := 992) (by decide +kernel), List.mem_of_getElem? (i := 1519) (by decide +kernel), List.mem_of_getElem? (i := 1520) (by decide +kernel)⟩
theorem lw_p56 : lw_okq (⟨"HornRuleWorkbenchModel", "format", "(I)V"⟩, 53) := ⟨⟨by decide +kernel, by decide +kernel⟩, List.mem_of_getElem? (i := 992) (by decide +kernel), List.mem_of_getElem? (i := 1527) (by decide +kernel), List.mem_of_getElem? (i := 1528) (by decide +kernel)⟩
theorem lw_p57 : lw_okq (⟨"HornRuleWorkbenchModel", "formatSet", "(I)V"⟩, 53) := ⟨⟨by decide +kernel, by decide +kernel⟩, List.mem_of_getElem? (i := 992) (by decide +kernel), List.mem_of_getElem? (i := 1531) (by decide +kernel), List.mem_of_getElem? (i := 1532) (by decide +kernel)⟩
theorem lw_p58 : lw_okq (⟨"HornRuleWorkbenchModel", "loadState", "(I)V"⟩, 53) := ⟨⟨by decide +kernel, by decide +kernel⟩, List.mem_of_getElem? (i := 992) (by decide +kernel), List.mem_of_getElem? (i := 1543) (by decide +kernel), List.mem_of_getElem? (i := 1544) (by decide +kernel)⟩
theorem lw_p59 : lw_okq (⟨"HornRuleWorkbenchModel", "create", "(III)V"⟩, 53) := ⟨⟨by decide +kernel, by decide +kernel⟩, List.mem_of_getElem? (i := 992) (by decide +kernel), List.mem_of_getElem? (i := 1571) (by decide +kernel), List.mem_of_getElem? (i := 1572) (by decide +kernel)⟩
def lw_privs_4 : List (MethodName × Nat) := [(⟨"HornRuleWorkbenchModel", "answersClosed", "(I)Z"⟩, 53), (⟨"HornRuleWorkbenchModel", "positionOfQuery", "(I)I"⟩, 53), (⟨"HornRuleWorkbenchModel", "setPair", "(II)V"⟩, 53), (⟨"HornRuleWorkbenchModel", "supportOf", "(I)I"⟩, 53), (⟨"HornRuleWorkbenchModel", "explore", "()V"⟩, 53), (⟨"HornRuleWorkbenchModel", "isSkipped", "(I)Z"⟩, 53), (⟨"HornRuleWorkbenchModel", "knownClosure", "(I)I"⟩, 53), (⟨"HornRuleWorkbenchModel", "parseAll", "()I"⟩, 53), (⟨"HornRuleWorkbenchModel", "format", "(I)V"⟩, 53), (⟨"HornRuleWorkbenchModel", "formatSet", "(I)V"⟩, 53), (⟨"HornRuleWorkbenchModel", "loadState", "(I)V"⟩, 53), (⟨"HornRuleWorkbenchModel", "create", "(III)V"⟩, 53)]
theorem lw_r4 : ∀ q ∈ lw_privs_4, lw_okq q := List.forall_mem_cons.mpr ⟨lw_p48, List.forall_mem_cons.mpr ⟨lw_p49, List.forall_mem_cons.mpr ⟨lw_p50, List.forall_mem_cons.mpr ⟨lw_p51, List.forall_mem_cons.mpr ⟨lw_p52, List.forall_mem_cons.mpr ⟨lw_p53, List.forall_mem_cons.mpr ⟨lw_p54, List.forall_mem_cons.mpr ⟨lw_p55, List.forall_mem_cons.mpr ⟨lw_p56, List.forall_mem_cons.mpr ⟨lw_p57, List.forall_mem_cons.mpr ⟨lw_p58, List.forall_mem_cons.mpr ⟨lw_p59, fun _ h => absurd h List.not_mem_nil⟩⟩⟩⟩⟩⟩⟩⟩⟩⟩⟩⟩
def lw_privs : List (MethodName × Nat) := lw_privs_1 ++ (lw_privs_2 ++ (lw_privs_3 ++ (lw_privs_4)))
def lw_tbl : List Cond := k2_sels lw_privs ++ tables_1
theorem lw_privs_ok : ∀ q ∈ lw_privs, lw_okq q := by
  show ∀ q ∈ lw_privs_1 ++ (lw_privs_2 ++ (lw_privs_3 ++ (lw_privs_4))), lw_okq q
  exact List.forall_mem_append.mpr ⟨lw_r1, List.forall_mem_append.mpr ⟨lw_r2, List.forall_mem_append.mpr ⟨lw_r3, lw_r4⟩⟩⟩
-- names
def RX0 : String := "HornRuleWorkbench$Buffer"
def TX0 : u_T := fun k => match k with
  | 0 => ("HornRuleWorkbench$Buffer", "cells", "[J", true)
  | 1 => ("HornRuleWorkbench$Buffer", "exists", "Z", false)
  | 2 => ("HornRuleWorkbench$Buffer", "type", "I", false)
  | _ => ("HornRuleWorkbench$Buffer", "size", "I", false)
def tyX0 : Nat → FieldType := fun k => match k with
  | 0 => .array .long
  | 1 => .boolean
  | 2 => .int
  | _ => .int
theorem nmX0 : ∀ a, a < 4 → ∀ b, b < 4 → a ≠ b → (TX0 a).2.1 ≠ (TX0 b).2.1 := by decide +kernel
theorem tyX0_ok : ∀ k, k < 4 → parseFieldDescriptor (TX0 k).2.2.1 = some (tyX0 k) := by decide +kernel
abbrev cX0_init : ByteArray := prog_2_method_1_code
def yX0_init : MethodName := ⟨RX0, "<init>", "()V"⟩
abbrev cX0_make : ByteArray := prog_2_method_2_code
def yX0_make : MethodName := ⟨RX0, "make", "(II)V"⟩
abbrev cX0_has : ByteArray := prog_2_method_3_code
def yX0_has : MethodName := ⟨RX0, "has", "(II)Z"⟩
abbrev cX0_read : ByteArray := prog_2_method_4_code
def yX0_read : MethodName := ⟨RX0, "read", "(I)J"⟩
abbrev cX0_write : ByteArray := prog_2_method_5_code
def yX0_write : MethodName := ⟨RX0, "write", "(IJ)V"⟩
abbrev cX0_fit : ByteArray := prog_2_method_6_code
def yX0_fit : MethodName := ⟨RX0, "fit", "(J)J"⟩
def RX1 : String := "HornRuleWorkbench$ClosureTable"
def TX1 : u_T := fun k => match k with
  | 0 => ("HornRuleWorkbench$ClosureTable", "closures", "LHornRuleWorkbench$IntRow;", true)
  | 1 => ("HornRuleWorkbench$ClosureTable", "firingRules", "LHornRuleWorkbench$IntRow;", true)
  | _ => ("HornRuleWorkbench$ClosureTable", "attributes", "I", false)
def tyX1 : Nat → FieldType := fun k => match k with
  | 0 => .object "HornRuleWorkbench$IntRow"
  | 1 => .object "HornRuleWorkbench$IntRow"
  | _ => .int
theorem nmX1 : ∀ a, a < 3 → ∀ b, b < 3 → a ≠ b → (TX1 a).2.1 ≠ (TX1 b).2.1 := by decide +kernel
theorem tyX1_ok : ∀ k, k < 3 → parseFieldDescriptor (TX1 k).2.2.1 = some (tyX1 k) := by decide +kernel
abbrev cX1_init : ByteArray := prog_3_method_1_code
def yX1_init : MethodName := ⟨RX1, "<init>", "()V"⟩
abbrev cX1_rebuild : ByteArray := prog_3_method_2_code
def yX1_rebuild : MethodName := ⟨RX1, "rebuild", "(ILHornRuleWorkbench$RuleList;)V"⟩
abbrev cX1_full : ByteArray := prog_3_method_3_code
def yX1_full : MethodName := ⟨RX1, "full", "()I"⟩
abbrev cX1_closureOf : ByteArray := prog_3_method_4_code
def yX1_closureOf : MethodName := ⟨RX1, "closureOf", "(I)I"⟩
abbrev cX1_isFixed : ByteArray := prog_3_method_5_code
def yX1_isFixed : MethodName := ⟨RX1, "isFixed", "(I)Z"⟩
abbrev cX1_reaches : ByteArray := prog_3_method_6_code
def yX1_reaches : MethodName := ⟨RX1, "reaches", "(II)Z"⟩
abbrev cX1_firingRuleOf : ByteArray := prog_3_method_7_code
def yX1_firingRuleOf : MethodName := ⟨RX1, "firingRuleOf", "(I)I"⟩
def RX2 : String := "HornRuleWorkbench$Exploration"
def TX2 : u_T := fun k => match k with
  | 0 => ("HornRuleWorkbench$Exploration", "known", "LHornRuleWorkbench$IntRow;", true)
  | 1 => ("HornRuleWorkbench$Exploration", "premises", "LHornRuleWorkbench$IntRow;", true)
  | 2 => ("HornRuleWorkbench$Exploration", "conclusions", "LHornRuleWorkbench$IntRow;", true)
  | _ => ("HornRuleWorkbench$Exploration", "accepted", "LHornRuleWorkbench$IntRow;", true)
def tyX2 : Nat → FieldType := fun k => match k with
  | 0 => .object "HornRuleWorkbench$IntRow"
  | 1 => .object "HornRuleWorkbench$IntRow"
  | 2 => .object "HornRuleWorkbench$IntRow"
  | _ => .object "HornRuleWorkbench$IntRow"
theorem nmX2 : ∀ a, a < 4 → ∀ b, b < 4 → a ≠ b → (TX2 a).2.1 ≠ (TX2 b).2.1 := by decide +kernel
theorem tyX2_ok : ∀ k, k < 4 → parseFieldDescriptor (TX2 k).2.2.1 = some (tyX2 k) := by decide +kernel
abbrev cX2_init : ByteArray := prog_4_method_1_code
def yX2_init : MethodName := ⟨RX2, "<init>", "()V"⟩
abbrev cX2_explore : ByteArray := prog_4_method_2_code
def yX2_explore : MethodName := ⟨RX2, "explore", "(LHornRuleWorkbench$ClosureTable;LHornRuleWorkbench$IntRow;)V"⟩
abbrev cX2_breaksAccepted : ByteArray := prog_4_method_3_code
def yX2_breaksAccepted : MethodName := ⟨RX2, "breaksAccepted", "(I)Z"⟩
abbrev cX2_examine : ByteArray := prog_4_method_4_code
def yX2_examine : MethodName := ⟨RX2, "examine", "(LHornRuleWorkbench$ClosureTable;I)V"⟩
def RX3 : String := "HornRuleWorkbench$History"
def TX3 : u_T := fun k => match k with
  | 0 => ("HornRuleWorkbench$History", "sizes", "LHornRuleWorkbench$IntRow;", true)
  | 1 => ("HornRuleWorkbench$History", "codes", "LHornRuleWorkbench$IntRow;", true)
  | 2 => ("HornRuleWorkbench$History", "current", "I", false)
  | _ => ("HornRuleWorkbench$History", "latest", "I", false)
def tyX3 : Nat → FieldType := fun k => match k with
  | 0 => .object "HornRuleWorkbench$IntRow"
  | 1 => .object "HornRuleWorkbench$IntRow"
  | 2 => .int
  | _ => .int
theorem nmX3 : ∀ a, a < 4 → ∀ b, b < 4 → a ≠ b → (TX3 a).2.1 ≠ (TX3 b).2.1 := by decide +kernel
theorem tyX3_ok : ∀ k, k < 4 → parseFieldDescriptor (TX3 k).2.2.1 = some (tyX3 k) := by decide +kernel
abbrev cX3_init : ByteArray := prog_5_method_1_code
def yX3_init : MethodName := ⟨RX3, "<init>", "()V"⟩
abbrev cX3_begin : ByteArray := prog_5_method_2_code
def yX3_begin : MethodName := ⟨RX3, "begin", "(LHornRuleWorkbench$RuleList;)V"⟩
abbrev cX3_record : ByteArray := prog_5_method_3_code
def yX3_record : MethodName := ⟨RX3, "record", "(LHornRuleWorkbench$RuleList;)V"⟩
abbrev cX3_stepBack : ByteArray := prog_5_method_4_code
def yX3_stepBack : MethodName := ⟨RX3, "stepBack", "(LHornRuleWorkbench$RuleList;)V"⟩
abbrev cX3_stepForward : ByteArray := prog_5_method_5_code
def yX3_stepForward : MethodName := ⟨RX3, "stepForward", "(LHornRuleWorkbench$RuleList;)V"⟩
abbrev cX3_undoable : ByteArray := prog_5_method_6_code
def yX3_undoable : MethodName := ⟨RX3, "undoable", "()I"⟩
abbrev cX3_redoable : ByteArray := prog_5_method_7_code
def yX3_redoable : MethodName := ⟨RX3, "redoable", "()I"⟩
abbrev cX3_keep : ByteArray := prog_5_method_8_code
def yX3_keep : MethodName := ⟨RX3, "keep", "(LHornRuleWorkbench$RuleList;)V"⟩
abbrev cX3_bringBack : ByteArray := prog_5_method_9_code
def yX3_bringBack : MethodName := ⟨RX3, "bringBack", "(LHornRuleWorkbench$RuleList;)V"⟩
abbrev cX3_forgetOldest : ByteArray := prog_5_method_10_code
def yX3_forgetOldest : MethodName := ⟨RX3, "forgetOldest", "()V"⟩
def RX4 : String := "HornRuleWorkbench$IntRow"
def TX4 : u_T := fun k => match k with
  | 0 => ("HornRuleWorkbench$IntRow", "items", "[I", true)
  | _ => ("HornRuleWorkbench$IntRow", "size", "I", false)
def tyX4 : Nat → FieldType := fun k => match k with
  | 0 => .array .int
  | _ => .int
theorem nmX4 : ∀ a, a < 2 → ∀ b, b < 2 → a ≠ b → (TX4 a).2.1 ≠ (TX4 b).2.1 := by decide +kernel
theorem tyX4_ok : ∀ k, k < 2 → parseFieldDescriptor (TX4 k).2.2.1 = some (tyX4 k) := by decide +kernel
abbrev cX4_init : ByteArray := prog_6_method_1_code
def yX4_init : MethodName := ⟨RX4, "<init>", "(I)V"⟩
abbrev cX4_size : ByteArray := prog_6_method_2_code
def yX4_size : MethodName := ⟨RX4, "size", "()I"⟩
abbrev cX4_clear : ByteArray := prog_6_method_3_code
def yX4_clear : MethodName := ⟨RX4, "clear", "()V"⟩
abbrev cX4_append : ByteArray := prog_6_method_4_code
def yX4_append : MethodName := ⟨RX4, "append", "(I)V"⟩
abbrev cX4_removeEnd : ByteArray := prog_6_method_5_code
def yX4_removeEnd : MethodName := ⟨RX4, "removeEnd", "()V"⟩
abbrev cX4_at : ByteArray := prog_6_method_6_code
def yX4_at : MethodName := ⟨RX4, "at", "(I)I"⟩
abbrev cX4_put : ByteArray := prog_6_method_7_code
def yX4_put : MethodName := ⟨RX4, "put", "(II)V"⟩
abbrev cX4_positionOf : ByteArray := prog_6_method_8_code
def yX4_positionOf : MethodName := ⟨RX4, "positionOf", "(I)I"⟩
abbrev cX4_fill : ByteArray := prog_6_method_9_code
def yX4_fill : MethodName := ⟨RX4, "fill", "(II)V"⟩
abbrev cX4_copyFrom : ByteArray := prog_6_method_10_code
def yX4_copyFrom : MethodName := ⟨RX4, "copyFrom", "(LHornRuleWorkbench$IntRow;)V"⟩
abbrev cX4_sameAs : ByteArray := prog_6_method_11_code
def yX4_sameAs : MethodName := ⟨RX4, "sameAs", "(LHornRuleWorkbench$IntRow;)Z"⟩
def RX5 : String := "HornRuleWorkbench$Lattice"
def TX5 : u_T := fun k => match k with
  | 0 => ("HornRuleWorkbench$Lattice", "found", "LHornRuleWorkbench$IntRow;", true)
  | _ => ("HornRuleWorkbench$Lattice", "chains", "LHornRuleWorkbench$IntRow;", true)
def tyX5 : Nat → FieldType := fun k => match k with
  | 0 => .object "HornRuleWorkbench$IntRow"
  | _ => .object "HornRuleWorkbench$IntRow"
theorem nmX5 : ∀ a, a < 2 → ∀ b, b < 2 → a ≠ b → (TX5 a).2.1 ≠ (TX5 b).2.1 := by decide +kernel
theorem tyX5_ok : ∀ k, k < 2 → parseFieldDescriptor (TX5 k).2.2.1 = some (tyX5 k) := by decide +kernel
abbrev cX5_init : ByteArray := prog_7_method_1_code
def yX5_init : MethodName := ⟨RX5, "<init>", "()V"⟩
abbrev cX5_listClosed : ByteArray := prog_7_method_2_code
def yX5_listClosed : MethodName := ⟨RX5, "listClosed", "(LHornRuleWorkbench$ClosureTable;)LHornRuleWorkbench$IntRow;"⟩
abbrev cX5_listIrreducible : ByteArray := prog_7_method_3_code
def yX5_listIrreducible : MethodName := ⟨RX5, "listIrreducible", "(LHornRuleWorkbench$ClosureTable;)LHornRuleWorkbench$IntRow;"⟩
abbrev cX5_coversOf : ByteArray := prog_7_method_4_code
def yX5_coversOf : MethodName := ⟨RX5, "coversOf", "(LHornRuleWorkbench$ClosureTable;I)I"⟩
abbrev cX5_isCover : ByteArray := prog_7_method_5_code
def yX5_isCover : MethodName := ⟨RX5, "isCover", "(LHornRuleWorkbench$ClosureTable;II)Z"⟩
abbrev cX5_longestChain : ByteArray := prog_7_method_6_code
def yX5_longestChain : MethodName := ⟨RX5, "longestChain", "(LHornRuleWorkbench$ClosureTable;)I"⟩
abbrev cX5_listMinimal : ByteArray := prog_7_method_7_code
def yX5_listMinimal : MethodName := ⟨RX5, "listMinimal", "(LHornRuleWorkbench$ClosureTable;II)LHornRuleWorkbench$IntRow;"⟩
abbrev cX5_isMinimal : ByteArray := prog_7_method_8_code
def yX5_isMinimal : MethodName := ⟨RX5, "isMinimal", "(LHornRuleWorkbench$ClosureTable;II)Z"⟩
abbrev cX5_listPseudoClosed : ByteArray := prog_7_method_9_code
def yX5_listPseudoClosed : MethodName := ⟨RX5, "listPseudoClosed", "(LHornRuleWorkbench$ClosureTable;)LHornRuleWorkbench$IntRow;"⟩
abbrev cX5_containsClosuresFound : ByteArray := prog_7_method_10_code
def yX5_containsClosuresFound : MethodName := ⟨RX5, "containsClosuresFound", "(LHornRuleWorkbench$ClosureTable;I)Z"⟩
def RX6 : String := "HornRuleWorkbench$Learner"
def TX6 : u_T := fun k => match k with
  | 0 => ("HornRuleWorkbench$Learner", "premises", "LHornRuleWorkbench$IntRow;", true)
  | 1 => ("HornRuleWorkbench$Learner", "conclusions", "LHornRuleWorkbench$IntRow;", true)
  | 2 => ("HornRuleWorkbench$Learner", "counterexamples", "LHornRuleWorkbench$IntRow;", true)
  | 3 => ("HornRuleWorkbench$Learner", "queries", "LHornRuleWorkbench$IntRow;", true)
  | _ => ("HornRuleWorkbench$Learner", "positives", "I", false)
def tyX6 : Nat → FieldType := fun k => match k with
  | 0 => .object "HornRuleWorkbench$IntRow"
  | 1 => .object "HornRuleWorkbench$IntRow"
  | 2 => .object "HornRuleWorkbench$IntRow"
  | 3 => .object "HornRuleWorkbench$IntRow"
  | _ => .int
theorem nmX6 : ∀ a, a < 5 → ∀ b, b < 5 → a ≠ b → (TX6 a).2.1 ≠ (TX6 b).2.1 := by decide +kernel
theorem tyX6_ok : ∀ k, k < 5 → parseFieldDescriptor (TX6 k).2.2.1 = some (tyX6 k) := by decide +kernel
abbrev cX6_init : ByteArray := prog_8_method_1_code
def yX6_init : MethodName := ⟨RX6, "<init>", "()V"⟩
abbrev cX6_learn : ByteArray := prog_8_method_2_code
def yX6_learn : MethodName := ⟨RX6, "learn", "(LHornRuleWorkbench$ClosureTable;)V"⟩
abbrev cX6_equivalenceQuery : ByteArray := prog_8_method_3_code
def yX6_equivalenceQuery : MethodName := ⟨RX6, "equivalenceQuery", "(LHornRuleWorkbench$ClosureTable;)I"⟩
abbrev cX6_satisfiesHypothesis : ByteArray := prog_8_method_4_code
def yX6_satisfiesHypothesis : MethodName := ⟨RX6, "satisfiesHypothesis", "(I)Z"⟩
abbrev cX6_learnFromPositive : ByteArray := prog_8_method_5_code
def yX6_learnFromPositive : MethodName := ⟨RX6, "learnFromPositive", "(I)V"⟩
abbrev cX6_learnFromNegative : ByteArray := prog_8_method_6_code
def yX6_learnFromNegative : MethodName := ⟨RX6, "learnFromNegative", "(LHornRuleWorkbench$ClosureTable;I)V"⟩
abbrev cX6_membershipQuery : ByteArray := prog_8_method_7_code
def yX6_membershipQuery : MethodName := ⟨RX6, "membershipQuery", "(LHornRuleWorkbench$ClosureTable;I)Z"⟩
def RX7 : String := "HornRuleWorkbench$RuleList"
def TX7 : u_T := fun k => match k with
  | _ => ("HornRuleWorkbench$RuleList", "codes", "LHornRuleWorkbench$IntRow;", true)
def tyX7 : Nat → FieldType := fun k => match k with
  | _ => .object "HornRuleWorkbench$IntRow"
theorem nmX7 : ∀ a, a < 1 → ∀ b, b < 1 → a ≠ b → (TX7 a).2.1 ≠ (TX7 b).2.1 := by decide +kernel
theorem tyX7_ok : ∀ k, k < 1 → parseFieldDescriptor (TX7 k).2.2.1 = some (tyX7 k) := by decide +kernel
abbrev cX7_init : ByteArray := prog_9_method_1_code
def yX7_init : MethodName := ⟨RX7, "<init>", "()V"⟩
abbrev cX7_size : ByteArray := prog_9_method_2_code
def yX7_size : MethodName := ⟨RX7, "size", "()I"⟩
abbrev cX7_has : ByteArray := prog_9_method_3_code
def yX7_has : MethodName := ⟨RX7, "has", "(I)Z"⟩
abbrev cX7_premiseAt : ByteArray := prog_9_method_4_code
def yX7_premiseAt : MethodName := ⟨RX7, "premiseAt", "(I)I"⟩
abbrev cX7_conclusionAt : ByteArray := prog_9_method_5_code
def yX7_conclusionAt : MethodName := ⟨RX7, "conclusionAt", "(I)I"⟩
abbrev cX7_flagAt : ByteArray := prog_9_method_6_code
def yX7_flagAt : MethodName := ⟨RX7, "flagAt", "(I)I"⟩
abbrev cX7_append : ByteArray := prog_9_method_7_code
def yX7_append : MethodName := ⟨RX7, "append", "(II)V"⟩
abbrev cX7_appendAll : ByteArray := prog_9_method_8_code
def yX7_appendAll : MethodName := ⟨RX7, "appendAll", "(LHornRuleWorkbench$RuleList;)V"⟩
abbrev cX7_replace : ByteArray := prog_9_method_9_code
def yX7_replace : MethodName := ⟨RX7, "replace", "(IIII)V"⟩
abbrev cX7_removeEnd : ByteArray := prog_9_method_10_code
def yX7_removeEnd : MethodName := ⟨RX7, "removeEnd", "()V"⟩
abbrev cX7_clear : ByteArray := prog_9_method_11_code
def yX7_clear : MethodName := ⟨RX7, "clear", "()V"⟩
abbrev cX7_copyFrom : ByteArray := prog_9_method_12_code
def yX7_copyFrom : MethodName := ⟨RX7, "copyFrom", "(LHornRuleWorkbench$RuleList;)V"⟩
abbrev cX7_sameAs : ByteArray := prog_9_method_13_code
def yX7_sameAs : MethodName := ⟨RX7, "sameAs", "(LHornRuleWorkbench$RuleList;)Z"⟩
abbrev cX7_enabledMask : ByteArray := prog_9_method_14_code
def yX7_enabledMask : MethodName := ⟨RX7, "enabledMask", "()I"⟩
abbrev cX7_firingRule : ByteArray := prog_9_method_15_code
def yX7_firingRule : MethodName := ⟨RX7, "firingRule", "(II)I"⟩
abbrev cX7_followsFrom : ByteArray := prog_9_method_16_code
def yX7_followsFrom : MethodName := ⟨RX7, "followsFrom", "(II)Z"⟩
abbrev cX7_pack : ByteArray := prog_9_method_17_code
def yX7_pack : MethodName := ⟨RX7, "pack", "(III)I"⟩
def RX8 : String := "HornRuleWorkbench$RuleParser"
def TX8 : u_T := fun k => match k with
  | 0 => ("HornRuleWorkbench$RuleParser", "parsed", "LHornRuleWorkbench$RuleList;", true)
  | 1 => ("HornRuleWorkbench$RuleParser", "count", "I", false)
  | 2 => ("HornRuleWorkbench$RuleParser", "premise", "I", false)
  | 3 => ("HornRuleWorkbench$RuleParser", "set", "I", false)
  | _ => ("HornRuleWorkbench$RuleParser", "afterArrow", "Z", false)
def tyX8 : Nat → FieldType := fun k => match k with
  | 0 => .object "HornRuleWorkbench$RuleList"
  | 1 => .int
  | 2 => .int
  | 3 => .int
  | _ => .boolean
theorem nmX8 : ∀ a, a < 5 → ∀ b, b < 5 → a ≠ b → (TX8 a).2.1 ≠ (TX8 b).2.1 := by decide +kernel
theorem tyX8_ok : ∀ k, k < 5 → parseFieldDescriptor (TX8 k).2.2.1 = some (tyX8 k) := by decide +kernel
abbrev cX8_init : ByteArray := prog_10_method_1_code
def yX8_init : MethodName := ⟨RX8, "<init>", "()V"⟩
abbrev cX8_read : ByteArray := prog_10_method_2_code
def yX8_read : MethodName := ⟨RX8, "read", "(LHornRuleWorkbench$IntRow;I)I"⟩
abbrev cX8_take : ByteArray := prog_10_method_3_code
def yX8_take : MethodName := ⟨RX8, "take", "(II)Z"⟩
abbrev cX8_endRule : ByteArray := prog_10_method_4_code
def yX8_endRule : MethodName := ⟨RX8, "endRule", "()V"⟩
def RX9 : String := "HornRuleWorkbench$Snapshot"
def TX9 : u_T := fun k => match k with
  | 0 => ("HornRuleWorkbench$Snapshot", "exists", "Z", false)
  | 1 => ("HornRuleWorkbench$Snapshot", "attributes", "I", false)
  | 2 => ("HornRuleWorkbench$Snapshot", "rules", "LHornRuleWorkbench$RuleList;", true)
  | _ => ("HornRuleWorkbench$Snapshot", "examples", "LHornRuleWorkbench$IntRow;", true)
def tyX9 : Nat → FieldType := fun k => match k with
  | 0 => .boolean
  | 1 => .int
  | 2 => .object "HornRuleWorkbench$RuleList"
  | _ => .object "HornRuleWorkbench$IntRow"
theorem nmX9 : ∀ a, a < 4 → ∀ b, b < 4 → a ≠ b → (TX9 a).2.1 ≠ (TX9 b).2.1 := by decide +kernel
theorem tyX9_ok : ∀ k, k < 4 → parseFieldDescriptor (TX9 k).2.2.1 = some (tyX9 k) := by decide +kernel
abbrev cX9_init : ByteArray := prog_11_method_1_code
def yX9_init : MethodName := ⟨RX9, "<init>", "()V"⟩
def RX10 : String := "HornRuleWorkbench"
def TX10 : u_T := fun k => match k with
  | 0 => ("HornRuleWorkbench", "attributes", "I", false)
  | 1 => ("HornRuleWorkbench", "rules", "LHornRuleWorkbench$RuleList;", true)
  | 2 => ("HornRuleWorkbench", "examples", "LHornRuleWorkbench$IntRow;", true)
  | 3 => ("HornRuleWorkbench", "table", "LHornRuleWorkbench$ClosureTable;", true)
  | 4 => ("HornRuleWorkbench", "lattice", "LHornRuleWorkbench$Lattice;", true)
  | 5 => ("HornRuleWorkbench", "learner", "LHornRuleWorkbench$Learner;", true)
  | 6 => ("HornRuleWorkbench", "exploration", "LHornRuleWorkbench$Exploration;", true)
  | 7 => ("HornRuleWorkbench", "learnerIsStale", "Z", false)
  | 8 => ("HornRuleWorkbench", "explorationIsStale", "Z", false)
  | 9 => ("HornRuleWorkbench", "history", "LHornRuleWorkbench$History;", true)
  | 10 => ("HornRuleWorkbench", "snapshot", "LHornRuleWorkbench$Snapshot;", true)
  | 11 => ("HornRuleWorkbench", "text", "LHornRuleWorkbench$IntRow;", true)
  | 12 => ("HornRuleWorkbench", "formatted", "LHornRuleWorkbench$IntRow;", true)
  | 13 => ("HornRuleWorkbench", "parser", "LHornRuleWorkbench$RuleParser;", true)
  | _ => ("HornRuleWorkbench", "buffers", "[LHornRuleWorkbench$Buffer;", true)
def tyX10 : Nat → FieldType := fun k => match k with
  | 0 => .int
  | 1 => .object "HornRuleWorkbench$RuleList"
  | 2 => .object "HornRuleWorkbench$IntRow"
  | 3 => .object "HornRuleWorkbench$ClosureTable"
  | 4 => .object "HornRuleWorkbench$Lattice"
  | 5 => .object "HornRuleWorkbench$Learner"
  | 6 => .object "HornRuleWorkbench$Exploration"
  | 7 => .boolean
  | 8 => .boolean
  | 9 => .object "HornRuleWorkbench$History"
  | 10 => .object "HornRuleWorkbench$Snapshot"
  | 11 => .object "HornRuleWorkbench$IntRow"
  | 12 => .object "HornRuleWorkbench$IntRow"
  | 13 => .object "HornRuleWorkbench$RuleParser"
  | _ => .array (.object "HornRuleWorkbench$Buffer")
theorem nmX10 : ∀ a, a < 15 → ∀ b, b < 15 → a ≠ b → (TX10 a).2.1 ≠ (TX10 b).2.1 := by decide +kernel
theorem tyX10_ok : ∀ k, k < 15 → parseFieldDescriptor (TX10 k).2.2.1 = some (tyX10 k) := by decide +kernel
abbrev cX10_init : ByteArray := prog_1_method_1_code
def yX10_init : MethodName := ⟨RX10, "<init>", "()V"⟩
abbrev cX10_reset : ByteArray := prog_1_method_2_code
def yX10_reset : MethodName := ⟨RX10, "reset", "(I)I"⟩
abbrev cX10_attributeCount : ByteArray := prog_1_method_3_code
def yX10_attributeCount : MethodName := ⟨RX10, "attributeCount", "()I"⟩
abbrev cX10_addRule : ByteArray := prog_1_method_4_code
def yX10_addRule : MethodName := ⟨RX10, "addRule", "(II)I"⟩
abbrev cX10_removeLastRule : ByteArray := prog_1_method_5_code
def yX10_removeLastRule : MethodName := ⟨RX10, "removeLastRule", "()I"⟩
abbrev cX10_setEnabled : ByteArray := prog_1_method_6_code
def yX10_setEnabled : MethodName := ⟨RX10, "setEnabled", "(II)I"⟩
abbrev cX10_setRule : ByteArray := prog_1_method_7_code
def yX10_setRule : MethodName := ⟨RX10, "setRule", "(III)I"⟩
abbrev cX10_ruleCount : ByteArray := prog_1_method_8_code
def yX10_ruleCount : MethodName := ⟨RX10, "ruleCount", "()I"⟩
abbrev cX10_premise : ByteArray := prog_1_method_9_code
def yX10_premise : MethodName := ⟨RX10, "premise", "(I)I"⟩
abbrev cX10_conclusion : ByteArray := prog_1_method_10_code
def yX10_conclusion : MethodName := ⟨RX10, "conclusion", "(I)I"⟩
abbrev cX10_isEnabled : ByteArray := prog_1_method_11_code
def yX10_isEnabled : MethodName := ⟨RX10, "isEnabled", "(I)I"⟩
abbrev cX10_closure : ByteArray := prog_1_method_12_code
def yX10_closure : MethodName := ⟨RX10, "closure", "(I)I"⟩
abbrev cX10_isClosed : ByteArray := prog_1_method_13_code
def yX10_isClosed : MethodName := ⟨RX10, "isClosed", "(I)I"⟩
abbrev cX10_entails : ByteArray := prog_1_method_14_code
def yX10_entails : MethodName := ⟨RX10, "entails", "(II)I"⟩
abbrev cX10_firingCount : ByteArray := prog_1_method_15_code
def yX10_firingCount : MethodName := ⟨RX10, "firingCount", "(I)I"⟩
abbrev cX10_firedRule : ByteArray := prog_1_method_16_code
def yX10_firedRule : MethodName := ⟨RX10, "firedRule", "(II)I"⟩
abbrev cX10_closedSetCount : ByteArray := prog_1_method_17_code
def yX10_closedSetCount : MethodName := ⟨RX10, "closedSetCount", "()I"⟩
abbrev cX10_closedSet : ByteArray := prog_1_method_18_code
def yX10_closedSet : MethodName := ⟨RX10, "closedSet", "(I)I"⟩
abbrev cX10_chainLength : ByteArray := prog_1_method_19_code
def yX10_chainLength : MethodName := ⟨RX10, "chainLength", "()I"⟩
abbrev cX10_upperCoverCount : ByteArray := prog_1_method_20_code
def yX10_upperCoverCount : MethodName := ⟨RX10, "upperCoverCount", "(I)I"⟩
abbrev cX10_irreducibleCount : ByteArray := prog_1_method_21_code
def yX10_irreducibleCount : MethodName := ⟨RX10, "irreducibleCount", "()I"⟩
abbrev cX10_irreducible : ByteArray := prog_1_method_22_code
def yX10_irreducible : MethodName := ⟨RX10, "irreducible", "(I)I"⟩
abbrev cX10_minimalKeyCount : ByteArray := prog_1_method_23_code
def yX10_minimalKeyCount : MethodName := ⟨RX10, "minimalKeyCount", "()I"⟩
abbrev cX10_minimalKey : ByteArray := prog_1_method_24_code
def yX10_minimalKey : MethodName := ⟨RX10, "minimalKey", "(I)I"⟩
abbrev cX10_generatorCount : ByteArray := prog_1_method_25_code
def yX10_generatorCount : MethodName := ⟨RX10, "generatorCount", "(I)I"⟩
abbrev cX10_generator : ByteArray := prog_1_method_26_code
def yX10_generator : MethodName := ⟨RX10, "generator", "(II)I"⟩
abbrev cX10_basisSize : ByteArray := prog_1_method_27_code
def yX10_basisSize : MethodName := ⟨RX10, "basisSize", "()I"⟩
abbrev cX10_basisPremise : ByteArray := prog_1_method_28_code
def yX10_basisPremise : MethodName := ⟨RX10, "basisPremise", "(I)I"⟩
abbrev cX10_basisConclusion : ByteArray := prog_1_method_29_code
def yX10_basisConclusion : MethodName := ⟨RX10, "basisConclusion", "(I)I"⟩
abbrev cX10_redundantRules : ByteArray := prog_1_method_30_code
def yX10_redundantRules : MethodName := ⟨RX10, "redundantRules", "()I"⟩
abbrev cX10_irredundantCover : ByteArray := prog_1_method_31_code
def yX10_irredundantCover : MethodName := ⟨RX10, "irredundantCover", "()I"⟩
abbrev cX10_reducedPremise : ByteArray := prog_1_method_32_code
def yX10_reducedPremise : MethodName := ⟨RX10, "reducedPremise", "(I)I"⟩
abbrev cX10_learnerRounds : ByteArray := prog_1_method_33_code
def yX10_learnerRounds : MethodName := ⟨RX10, "learnerRounds", "()I"⟩
abbrev cX10_counterexample : ByteArray := prog_1_method_34_code
def yX10_counterexample : MethodName := ⟨RX10, "counterexample", "(I)I"⟩
abbrev cX10_positiveCounterexamples : ByteArray := prog_1_method_35_code
def yX10_positiveCounterexamples : MethodName := ⟨RX10, "positiveCounterexamples", "()I"⟩
abbrev cX10_learnedCount : ByteArray := prog_1_method_36_code
def yX10_learnedCount : MethodName := ⟨RX10, "learnedCount", "()I"⟩
abbrev cX10_learnedPremise : ByteArray := prog_1_method_37_code
def yX10_learnedPremise : MethodName := ⟨RX10, "learnedPremise", "(I)I"⟩
abbrev cX10_learnedConclusion : ByteArray := prog_1_method_38_code
def yX10_learnedConclusion : MethodName := ⟨RX10, "learnedConclusion", "(I)I"⟩
abbrev cX10_membershipQueries : ByteArray := prog_1_method_39_code
def yX10_membershipQueries : MethodName := ⟨RX10, "membershipQueries", "()I"⟩
abbrev cX10_queriedSet : ByteArray := prog_1_method_40_code
def yX10_queriedSet : MethodName := ⟨RX10, "queriedSet", "(I)I"⟩
abbrev cX10_queryPosition : ByteArray := prog_1_method_41_code
def yX10_queryPosition : MethodName := ⟨RX10, "queryPosition", "(I)I"⟩
abbrev cX10_queryBound : ByteArray := prog_1_method_42_code
def yX10_queryBound : MethodName := ⟨RX10, "queryBound", "(I)I"⟩
abbrev cX10_addExample : ByteArray := prog_1_method_43_code
def yX10_addExample : MethodName := ⟨RX10, "addExample", "(I)I"⟩
abbrev cX10_clearExamples : ByteArray := prog_1_method_44_code
def yX10_clearExamples : MethodName := ⟨RX10, "clearExamples", "()I"⟩
abbrev cX10_exampleCount : ByteArray := prog_1_method_45_code
def yX10_exampleCount : MethodName := ⟨RX10, "exampleCount", "()I"⟩
abbrev cX10_example : ByteArray := prog_1_method_46_code
def yX10_example : MethodName := ⟨RX10, "example", "(I)I"⟩
abbrev cX10_contextClosure : ByteArray := prog_1_method_47_code
def yX10_contextClosure : MethodName := ⟨RX10, "contextClosure", "(I)I"⟩
abbrev cX10_support : ByteArray := prog_1_method_48_code
def yX10_support : MethodName := ⟨RX10, "support", "(I)I"⟩
abbrev cX10_exceptionCount : ByteArray := prog_1_method_49_code
def yX10_exceptionCount : MethodName := ⟨RX10, "exceptionCount", "(II)I"⟩
abbrev cX10_confidencePercent : ByteArray := prog_1_method_50_code
def yX10_confidencePercent : MethodName := ⟨RX10, "confidencePercent", "(II)I"⟩
abbrev cX10_questionCount : ByteArray := prog_1_method_51_code
def yX10_questionCount : MethodName := ⟨RX10, "questionCount", "()I"⟩
abbrev cX10_questionPremise : ByteArray := prog_1_method_52_code
def yX10_questionPremise : MethodName := ⟨RX10, "questionPremise", "(I)I"⟩
abbrev cX10_questionConclusion : ByteArray := prog_1_method_53_code
def yX10_questionConclusion : MethodName := ⟨RX10, "questionConclusion", "(I)I"⟩
abbrev cX10_isAccepted : ByteArray := prog_1_method_54_code
def yX10_isAccepted : MethodName := ⟨RX10, "isAccepted", "(I)I"⟩
abbrev cX10_appendText : ByteArray := prog_1_method_55_code
def yX10_appendText : MethodName := ⟨RX10, "appendText", "(I)I"⟩
abbrev cX10_clearText : ByteArray := prog_1_method_56_code
def yX10_clearText : MethodName := ⟨RX10, "clearText", "()I"⟩
abbrev cX10_parseRules : ByteArray := prog_1_method_57_code
def yX10_parseRules : MethodName := ⟨RX10, "parseRules", "()I"⟩
abbrev cX10_formatRules : ByteArray := prog_1_method_58_code
def yX10_formatRules : MethodName := ⟨RX10, "formatRules", "()I"⟩
abbrev cX10_formattedCharacter : ByteArray := prog_1_method_59_code
def yX10_formattedCharacter : MethodName := ⟨RX10, "formattedCharacter", "(I)I"⟩
abbrev cX10_undo : ByteArray := prog_1_method_60_code
def yX10_undo : MethodName := ⟨RX10, "undo", "()I"⟩
abbrev cX10_redo : ByteArray := prog_1_method_61_code
def yX10_redo : MethodName := ⟨RX10, "redo", "()I"⟩
abbrev cX10_save : ByteArray := prog_1_method_62_code
def yX10_save : MethodName := ⟨RX10, "save", "()I"⟩
abbrev cX10_equalsSnapshot : ByteArray := prog_1_method_63_code
def yX10_equalsSnapshot : MethodName := ⟨RX10, "equalsSnapshot", "()I"⟩
abbrev cX10_restore : ByteArray := prog_1_method_64_code
def yX10_restore : MethodName := ⟨RX10, "restore", "()I"⟩
abbrev cX10_createBuffer : ByteArray := prog_1_method_65_code
def yX10_createBuffer : MethodName := ⟨RX10, "createBuffer", "(III)I"⟩
abbrev cX10_writeBuffer : ByteArray := prog_1_method_66_code
def yX10_writeBuffer : MethodName := ⟨RX10, "writeBuffer", "(IIJ)I"⟩
abbrev cX10_readBuffer : ByteArray := prog_1_method_67_code
def yX10_readBuffer : MethodName := ⟨RX10, "readBuffer", "(II)J"⟩
abbrev cX10_copyBuffer : ByteArray := prog_1_method_68_code
def yX10_copyBuffer : MethodName := ⟨RX10, "copyBuffer", "(IIIII)I"⟩
abbrev cX10_exportClosures : ByteArray := prog_1_method_69_code
def yX10_exportClosures : MethodName := ⟨RX10, "exportClosures", "(II)I"⟩
abbrev cX10_firstDifference : ByteArray := prog_1_method_70_code
def yX10_firstDifference : MethodName := ⟨RX10, "firstDifference", "(I)I"⟩
abbrev cX10_randomClosureSum : ByteArray := prog_1_method_71_code
def yX10_randomClosureSum : MethodName := ⟨RX10, "randomClosureSum", "(II)I"⟩
abbrev cX10_undoCount : ByteArray := prog_1_method_72_code
def yX10_undoCount : MethodName := ⟨RX10, "undoCount", "()I"⟩
abbrev cX10_redoCount : ByteArray := prog_1_method_73_code
def yX10_redoCount : MethodName := ⟨RX10, "redoCount", "()I"⟩
abbrev cX10_isValid : ByteArray := prog_1_method_74_code
def yX10_isValid : MethodName := ⟨RX10, "isValid", "(I)Z"⟩
abbrev cX10_isAttribute : ByteArray := prog_1_method_75_code
def yX10_isAttribute : MethodName := ⟨RX10, "isAttribute", "(I)Z"⟩
abbrev cX10_recordEdit : ByteArray := prog_1_method_76_code
def yX10_recordEdit : MethodName := ⟨RX10, "recordEdit", "()V"⟩
abbrev cX10_startAfresh : ByteArray := prog_1_method_77_code
def yX10_startAfresh : MethodName := ⟨RX10, "startAfresh", "()V"⟩
abbrev cX10_rulesChanged : ByteArray := prog_1_method_78_code
def yX10_rulesChanged : MethodName := ⟨RX10, "rulesChanged", "()V"⟩
abbrev cX10_listGenerators : ByteArray := prog_1_method_79_code
def yX10_listGenerators : MethodName := ⟨RX10, "listGenerators", "(I)LHornRuleWorkbench$IntRow;"⟩
abbrev cX10_finishedLearner : ByteArray := prog_1_method_80_code
def yX10_finishedLearner : MethodName := ⟨RX10, "finishedLearner", "()LHornRuleWorkbench$Learner;"⟩
abbrev cX10_finishedExploration : ByteArray := prog_1_method_81_code
def yX10_finishedExploration : MethodName := ⟨RX10, "finishedExploration", "()LHornRuleWorkbench$Exploration;"⟩
abbrev cX10_formatSet : ByteArray := prog_1_method_82_code
def yX10_formatSet : MethodName := ⟨RX10, "formatSet", "(I)V"⟩
abbrev cX10_bufferAt : ByteArray := prog_1_method_83_code
def yX10_bufferAt : MethodName := ⟨RX10, "bufferAt", "(I)LHornRuleWorkbench$Buffer;"⟩
abbrev cX10_isType : ByteArray := prog_1_method_84_code
def yX10_isType : MethodName := ⟨RX10, "isType", "(I)Z"⟩
abbrev cX10_flag : ByteArray := prog_1_method_85_code
def yX10_flag : MethodName := ⟨RX10, "flag", "(Z)I"⟩
abbrev cX10_hasBit : ByteArray := prog_1_method_86_code
def yX10_hasBit : MethodName := ⟨RX10, "hasBit", "(II)Z"⟩
abbrev cX10_isSubset : ByteArray := prog_1_method_87_code
def yX10_isSubset : MethodName := ⟨RX10, "isSubset", "(II)Z"⟩
abbrev cX10_isProperSubset : ByteArray := prog_1_method_88_code
def yX10_isProperSubset : MethodName := ⟨RX10, "isProperSubset", "(II)Z"⟩
abbrev cX10_meetAbove : ByteArray := prog_1_method_89_code
def yX10_meetAbove : MethodName := ⟨RX10, "meetAbove", "(LHornRuleWorkbench$IntRow;II)I"⟩
abbrev cX10_countAbove : ByteArray := prog_1_method_90_code
def yX10_countAbove : MethodName := ⟨RX10, "countAbove", "(LHornRuleWorkbench$IntRow;I)I"⟩
def RX11 : String := "HornRuleWorkbenchModel"
def TX11 : u_T := fun k => match k with
  | 0 => ("HornRuleWorkbenchModel", "attributes", "I", false)
  | 1 => ("HornRuleWorkbenchModel", "rules", "I", false)
  | 2 => ("HornRuleWorkbenchModel", "premises", "[I", true)
  | 3 => ("HornRuleWorkbenchModel", "conclusions", "[I", true)
  | 4 => ("HornRuleWorkbenchModel", "flags", "[I", true)
  | 5 => ("HornRuleWorkbenchModel", "examples", "I", false)
  | 6 => ("HornRuleWorkbenchModel", "exampleSets", "[I", true)
  | 7 => ("HornRuleWorkbenchModel", "undoable", "I", false)
  | 8 => ("HornRuleWorkbenchModel", "redoable", "I", false)
  | 9 => ("HornRuleWorkbenchModel", "states", "[I", true)
  | 10 => ("HornRuleWorkbenchModel", "textLength", "I", false)
  | 11 => ("HornRuleWorkbenchModel", "text", "[I", true)
  | 12 => ("HornRuleWorkbenchModel", "formattedLength", "I", false)
  | 13 => ("HornRuleWorkbenchModel", "formatted", "[I", true)
  | 14 => ("HornRuleWorkbenchModel", "hasSnapshot", "Z", false)
  | 15 => ("HornRuleWorkbenchModel", "snapshotAttributes", "I", false)
  | 16 => ("HornRuleWorkbenchModel", "snapshotRules", "I", false)
  | 17 => ("HornRuleWorkbenchModel", "snapshotPremises", "[I", true)
  | 18 => ("HornRuleWorkbenchModel", "snapshotConclusions", "[I", true)
  | 19 => ("HornRuleWorkbenchModel", "snapshotFlags", "[I", true)
  | 20 => ("HornRuleWorkbenchModel", "snapshotExamples", "I", false)
  | 21 => ("HornRuleWorkbenchModel", "snapshotSets", "[I", true)
  | 22 => ("HornRuleWorkbenchModel", "bufferType", "[I", true)
  | 23 => ("HornRuleWorkbenchModel", "bufferSize", "[I", true)
  | 24 => ("HornRuleWorkbenchModel", "buffers", "[J", true)
  | 25 => ("HornRuleWorkbenchModel", "firings", "I", false)
  | 26 => ("HornRuleWorkbenchModel", "fired", "[I", true)
  | 27 => ("HornRuleWorkbenchModel", "closed", "[Z", true)
  | 28 => ("HornRuleWorkbenchModel", "longest", "[I", true)
  | 29 => ("HornRuleWorkbenchModel", "irreducibles", "I", false)
  | 30 => ("HornRuleWorkbenchModel", "irreducibleSets", "[I", true)
  | 31 => ("HornRuleWorkbenchModel", "found", "I", false)
  | 32 => ("HornRuleWorkbenchModel", "foundSets", "[I", true)
  | 33 => ("HornRuleWorkbenchModel", "basis", "I", false)
  | 34 => ("HornRuleWorkbenchModel", "pseudoClosed", "[I", true)
  | 35 => ("HornRuleWorkbenchModel", "pairs", "I", false)
  | 36 => ("HornRuleWorkbenchModel", "pairPremises", "[I", true)
  | 37 => ("HornRuleWorkbenchModel", "pairConclusions", "[I", true)
  | 38 => ("HornRuleWorkbenchModel", "rounds", "I", false)
  | 39 => ("HornRuleWorkbenchModel", "positives", "I", false)
  | 40 => ("HornRuleWorkbenchModel", "roundSets", "[I", true)
  | 41 => ("HornRuleWorkbenchModel", "queries", "I", false)
  | 42 => ("HornRuleWorkbenchModel", "querySets", "[I", true)
  | 43 => ("HornRuleWorkbenchModel", "known", "I", false)
  | 44 => ("HornRuleWorkbenchModel", "knownSets", "[I", true)
  | 45 => ("HornRuleWorkbenchModel", "questions", "I", false)
  | 46 => ("HornRuleWorkbenchModel", "asked", "[I", true)
  | 47 => ("HornRuleWorkbenchModel", "askedConclusion", "[I", true)
  | 48 => ("HornRuleWorkbenchModel", "accepted", "[I", true)
  | 49 => ("HornRuleWorkbenchModel", "parsedRules", "I", false)
  | 50 => ("HornRuleWorkbenchModel", "parsedPremises", "[I", true)
  | 51 => ("HornRuleWorkbenchModel", "parsedConclusions", "[I", true)
  | _ => ("HornRuleWorkbenchModel", "copied", "[J", true)
def tyX11 : Nat → FieldType := fun k => match k with
  | 0 => .int
  | 1 => .int
  | 2 => .array .int
  | 3 => .array .int
  | 4 => .array .int
  | 5 => .int
  | 6 => .array .int
  | 7 => .int
  | 8 => .int
  | 9 => .array .int
  | 10 => .int
  | 11 => .array .int
  | 12 => .int
  | 13 => .array .int
  | 14 => .boolean
  | 15 => .int
  | 16 => .int
  | 17 => .array .int
  | 18 => .array .int
  | 19 => .array .int
  | 20 => .int
  | 21 => .array .int
  | 22 => .array .int
  | 23 => .array .int
  | 24 => .array .long
  | 25 => .int
  | 26 => .array .int
  | 27 => .array .boolean
  | 28 => .array .int
  | 29 => .int
  | 30 => .array .int
  | 31 => .int
  | 32 => .array .int
  | 33 => .int
  | 34 => .array .int
  | 35 => .int
  | 36 => .array .int
  | 37 => .array .int
  | 38 => .int
  | 39 => .int
  | 40 => .array .int
  | 41 => .int
  | 42 => .array .int
  | 43 => .int
  | 44 => .array .int
  | 45 => .int
  | 46 => .array .int
  | 47 => .array .int
  | 48 => .array .int
  | 49 => .int
  | 50 => .array .int
  | 51 => .array .int
  | _ => .array .long
theorem nmX11 : ∀ a, a < 53 → ∀ b, b < 53 → a ≠ b → (TX11 a).2.1 ≠ (TX11 b).2.1 := by decide +kernel
theorem tyX11_ok : ∀ k, k < 53 → parseFieldDescriptor (TX11 k).2.2.1 = some (tyX11 k) := by decide +kernel
abbrev cX11_init : ByteArray := prog_13_method_1_code
def yX11_init : MethodName := ⟨RX11, "<init>", "()V"⟩
abbrev cX11_isBetween : ByteArray := prog_13_method_2_code
def yX11_isBetween : MethodName := ⟨RX11, "isBetween", "(JJJ)Z"⟩
abbrev cX11_fullSet : ByteArray := prog_13_method_3_code
def yX11_fullSet : MethodName := ⟨RX11, "fullSet", "()I"⟩
abbrev cX11_isSet : ByteArray := prog_13_method_4_code
def yX11_isSet : MethodName := ⟨RX11, "isSet", "(I)Z"⟩
abbrev cX11_isRule : ByteArray := prog_13_method_5_code
def yX11_isRule : MethodName := ⟨RX11, "isRule", "(I)Z"⟩
abbrev cX11_isSubset : ByteArray := prog_13_method_6_code
def yX11_isSubset : MethodName := ⟨RX11, "isSubset", "(II)Z"⟩
abbrev cX11_sizeOf : ByteArray := prog_13_method_7_code
def yX11_sizeOf : MethodName := ⟨RX11, "sizeOf", "(I)I"⟩
abbrev cX11_storeState : ByteArray := prog_13_method_8_code
def yX11_storeState : MethodName := ⟨RX11, "storeState", "(I)V"⟩
abbrev cX11_loadState : ByteArray := prog_13_method_9_code
def yX11_loadState : MethodName := ⟨RX11, "loadState", "(I)V"⟩
abbrev cX11_beginEdit : ByteArray := prog_13_method_10_code
def yX11_beginEdit : MethodName := ⟨RX11, "beginEdit", "()V"⟩
abbrev cX11_endEdit : ByteArray := prog_13_method_11_code
def yX11_endEdit : MethodName := ⟨RX11, "endEdit", "()V"⟩
abbrev cX11_forgetEdits : ByteArray := prog_13_method_12_code
def yX11_forgetEdits : MethodName := ⟨RX11, "forgetEdits", "()V"⟩
abbrev cX11_reset : ByteArray := prog_13_method_13_code
def yX11_reset : MethodName := ⟨RX11, "reset", "(I)I"⟩
abbrev cX11_attributeCount : ByteArray := prog_13_method_14_code
def yX11_attributeCount : MethodName := ⟨RX11, "attributeCount", "()I"⟩
abbrev cX11_append : ByteArray := prog_13_method_15_code
def yX11_append : MethodName := ⟨RX11, "append", "(II)V"⟩
abbrev cX11_addRule : ByteArray := prog_13_method_16_code
def yX11_addRule : MethodName := ⟨RX11, "addRule", "(II)I"⟩
abbrev cX11_removeLastRule : ByteArray := prog_13_method_17_code
def yX11_removeLastRule : MethodName := ⟨RX11, "removeLastRule", "()I"⟩
abbrev cX11_setEnabled : ByteArray := prog_13_method_18_code
def yX11_setEnabled : MethodName := ⟨RX11, "setEnabled", "(II)I"⟩
abbrev cX11_setRule : ByteArray := prog_13_method_19_code
def yX11_setRule : MethodName := ⟨RX11, "setRule", "(III)I"⟩
abbrev cX11_ruleCount : ByteArray := prog_13_method_20_code
def yX11_ruleCount : MethodName := ⟨RX11, "ruleCount", "()I"⟩
abbrev cX11_premise : ByteArray := prog_13_method_21_code
def yX11_premise : MethodName := ⟨RX11, "premise", "(I)I"⟩
abbrev cX11_conclusion : ByteArray := prog_13_method_22_code
def yX11_conclusion : MethodName := ⟨RX11, "conclusion", "(I)I"⟩
abbrev cX11_isEnabled : ByteArray := prog_13_method_23_code
def yX11_isEnabled : MethodName := ⟨RX11, "isEnabled", "(I)I"⟩
abbrev cX11_enabledRules : ByteArray := prog_13_method_24_code
def yX11_enabledRules : MethodName := ⟨RX11, "enabledRules", "()I"⟩
abbrev cX11_closureUnder : ByteArray := prog_13_method_25_code
def yX11_closureUnder : MethodName := ⟨RX11, "closureUnder", "(II)I"⟩
abbrev cX11_closureOf : ByteArray := prog_13_method_26_code
def yX11_closureOf : MethodName := ⟨RX11, "closureOf", "(I)I"⟩
abbrev cX11_isClosedSet : ByteArray := prog_13_method_27_code
def yX11_isClosedSet : MethodName := ⟨RX11, "isClosedSet", "(I)Z"⟩
abbrev cX11_closure : ByteArray := prog_13_method_28_code
def yX11_closure : MethodName := ⟨RX11, "closure", "(I)I"⟩
abbrev cX11_isClosed : ByteArray := prog_13_method_29_code
def yX11_isClosed : MethodName := ⟨RX11, "isClosed", "(I)I"⟩
abbrev cX11_isEntailed : ByteArray := prog_13_method_30_code
def yX11_isEntailed : MethodName := ⟨RX11, "isEntailed", "(III)Z"⟩
abbrev cX11_entails : ByteArray := prog_13_method_31_code
def yX11_entails : MethodName := ⟨RX11, "entails", "(II)I"⟩
abbrev cX11_chainForward : ByteArray := prog_13_method_32_code
def yX11_chainForward : MethodName := ⟨RX11, "chainForward", "(I)V"⟩
abbrev cX11_firingCount : ByteArray := prog_13_method_33_code
def yX11_firingCount : MethodName := ⟨RX11, "firingCount", "(I)I"⟩
abbrev cX11_firedRule : ByteArray := prog_13_method_34_code
def yX11_firedRule : MethodName := ⟨RX11, "firedRule", "(II)I"⟩
abbrev cX11_findClosedSets : ByteArray := prog_13_method_35_code
def yX11_findClosedSets : MethodName := ⟨RX11, "findClosedSets", "()V"⟩
abbrev cX11_closedSetCount : ByteArray := prog_13_method_36_code
def yX11_closedSetCount : MethodName := ⟨RX11, "closedSetCount", "()I"⟩
abbrev cX11_closedSet : ByteArray := prog_13_method_37_code
def yX11_closedSet : MethodName := ⟨RX11, "closedSet", "(I)I"⟩
abbrev cX11_chainLength : ByteArray := prog_13_method_38_code
def yX11_chainLength : MethodName := ⟨RX11, "chainLength", "()I"⟩
abbrev cX11_upperCovers : ByteArray := prog_13_method_39_code
def yX11_upperCovers : MethodName := ⟨RX11, "upperCovers", "(I)I"⟩
abbrev cX11_upperCoverCount : ByteArray := prog_13_method_40_code
def yX11_upperCoverCount : MethodName := ⟨RX11, "upperCoverCount", "(I)I"⟩
abbrev cX11_findIrreducibles : ByteArray := prog_13_method_41_code
def yX11_findIrreducibles : MethodName := ⟨RX11, "findIrreducibles", "()V"⟩
abbrev cX11_irreducibleCount : ByteArray := prog_13_method_42_code
def yX11_irreducibleCount : MethodName := ⟨RX11, "irreducibleCount", "()I"⟩
abbrev cX11_irreducible : ByteArray := prog_13_method_43_code
def yX11_irreducible : MethodName := ⟨RX11, "irreducible", "(I)I"⟩
abbrev cX11_findMinimal : ByteArray := prog_13_method_44_code
def yX11_findMinimal : MethodName := ⟨RX11, "findMinimal", "(II)V"⟩
abbrev cX11_minimalKeyCount : ByteArray := prog_13_method_45_code
def yX11_minimalKeyCount : MethodName := ⟨RX11, "minimalKeyCount", "()I"⟩
abbrev cX11_minimalKey : ByteArray := prog_13_method_46_code
def yX11_minimalKey : MethodName := ⟨RX11, "minimalKey", "(I)I"⟩
abbrev cX11_isAttribute : ByteArray := prog_13_method_47_code
def yX11_isAttribute : MethodName := ⟨RX11, "isAttribute", "(I)Z"⟩
abbrev cX11_generatorCount : ByteArray := prog_13_method_48_code
def yX11_generatorCount : MethodName := ⟨RX11, "generatorCount", "(I)I"⟩
abbrev cX11_generator : ByteArray := prog_13_method_49_code
def yX11_generator : MethodName := ⟨RX11, "generator", "(II)I"⟩
abbrev cX11_findBasis : ByteArray := prog_13_method_50_code
def yX11_findBasis : MethodName := ⟨RX11, "findBasis", "()V"⟩
abbrev cX11_basisSize : ByteArray := prog_13_method_51_code
def yX11_basisSize : MethodName := ⟨RX11, "basisSize", "()I"⟩
abbrev cX11_basisPremise : ByteArray := prog_13_method_52_code
def yX11_basisPremise : MethodName := ⟨RX11, "basisPremise", "(I)I"⟩
abbrev cX11_basisConclusion : ByteArray := prog_13_method_53_code
def yX11_basisConclusion : MethodName := ⟨RX11, "basisConclusion", "(I)I"⟩
abbrev cX11_redundantRules : ByteArray := prog_13_method_54_code
def yX11_redundantRules : MethodName := ⟨RX11, "redundantRules", "()I"⟩
abbrev cX11_irredundantCover : ByteArray := prog_13_method_55_code
def yX11_irredundantCover : MethodName := ⟨RX11, "irredundantCover", "()I"⟩
abbrev cX11_reducedPremise : ByteArray := prog_13_method_56_code
def yX11_reducedPremise : MethodName := ⟨RX11, "reducedPremise", "(I)I"⟩
abbrev cX11_isClosedUnderHypothesis : ByteArray := prog_13_method_57_code
def yX11_isClosedUnderHypothesis : MethodName := ⟨RX11, "isClosedUnderHypothesis", "(I)Z"⟩
abbrev cX11_differingSet : ByteArray := prog_13_method_58_code
def yX11_differingSet : MethodName := ⟨RX11, "differingSet", "()I"⟩
abbrev cX11_positionOfQuery : ByteArray := prog_13_method_59_code
def yX11_positionOfQuery : MethodName := ⟨RX11, "positionOfQuery", "(I)I"⟩
abbrev cX11_answersClosed : ByteArray := prog_13_method_60_code
def yX11_answersClosed : MethodName := ⟨RX11, "answersClosed", "(I)Z"⟩
abbrev cX11_setPair : ByteArray := prog_13_method_61_code
def yX11_setPair : MethodName := ⟨RX11, "setPair", "(II)V"⟩
abbrev cX11_learnNegative : ByteArray := prog_13_method_62_code
def yX11_learnNegative : MethodName := ⟨RX11, "learnNegative", "(I)V"⟩
abbrev cX11_learn : ByteArray := prog_13_method_63_code
def yX11_learn : MethodName := ⟨RX11, "learn", "()V"⟩
abbrev cX11_learnerRounds : ByteArray := prog_13_method_64_code
def yX11_learnerRounds : MethodName := ⟨RX11, "learnerRounds", "()I"⟩
abbrev cX11_counterexample : ByteArray := prog_13_method_65_code
def yX11_counterexample : MethodName := ⟨RX11, "counterexample", "(I)I"⟩
abbrev cX11_positiveCounterexamples : ByteArray := prog_13_method_66_code
def yX11_positiveCounterexamples : MethodName := ⟨RX11, "positiveCounterexamples", "()I"⟩
abbrev cX11_learnedCount : ByteArray := prog_13_method_67_code
def yX11_learnedCount : MethodName := ⟨RX11, "learnedCount", "()I"⟩
abbrev cX11_learnedPremise : ByteArray := prog_13_method_68_code
def yX11_learnedPremise : MethodName := ⟨RX11, "learnedPremise", "(I)I"⟩
abbrev cX11_learnedConclusion : ByteArray := prog_13_method_69_code
def yX11_learnedConclusion : MethodName := ⟨RX11, "learnedConclusion", "(I)I"⟩
abbrev cX11_membershipQueries : ByteArray := prog_13_method_70_code
def yX11_membershipQueries : MethodName := ⟨RX11, "membershipQueries", "()I"⟩
abbrev cX11_queriedSet : ByteArray := prog_13_method_71_code
def yX11_queriedSet : MethodName := ⟨RX11, "queriedSet", "(I)I"⟩
abbrev cX11_queryPosition : ByteArray := prog_13_method_72_code
def yX11_queryPosition : MethodName := ⟨RX11, "queryPosition", "(I)I"⟩
abbrev cX11_queryBound : ByteArray := prog_13_method_73_code
def yX11_queryBound : MethodName := ⟨RX11, "queryBound", "(I)I"⟩
abbrev cX11_addExample : ByteArray := prog_13_method_74_code
def yX11_addExample : MethodName := ⟨RX11, "addExample", "(I)I"⟩
abbrev cX11_clearExamples : ByteArray := prog_13_method_75_code
def yX11_clearExamples : MethodName := ⟨RX11, "clearExamples", "()I"⟩
abbrev cX11_exampleCount : ByteArray := prog_13_method_76_code
def yX11_exampleCount : MethodName := ⟨RX11, "exampleCount", "()I"⟩
abbrev cX11_example : ByteArray := prog_13_method_77_code
def yX11_example : MethodName := ⟨RX11, "example", "(I)I"⟩
abbrev cX11_contextClosure : ByteArray := prog_13_method_78_code
def yX11_contextClosure : MethodName := ⟨RX11, "contextClosure", "(I)I"⟩
abbrev cX11_supportOf : ByteArray := prog_13_method_79_code
def yX11_supportOf : MethodName := ⟨RX11, "supportOf", "(I)I"⟩
abbrev cX11_support : ByteArray := prog_13_method_80_code
def yX11_support : MethodName := ⟨RX11, "support", "(I)I"⟩
abbrev cX11_exceptionCount : ByteArray := prog_13_method_81_code
def yX11_exceptionCount : MethodName := ⟨RX11, "exceptionCount", "(II)I"⟩
abbrev cX11_confidencePercent : ByteArray := prog_13_method_82_code
def yX11_confidencePercent : MethodName := ⟨RX11, "confidencePercent", "(II)I"⟩
abbrev cX11_knownClosure : ByteArray := prog_13_method_83_code
def yX11_knownClosure : MethodName := ⟨RX11, "knownClosure", "(I)I"⟩
abbrev cX11_isSkipped : ByteArray := prog_13_method_84_code
def yX11_isSkipped : MethodName := ⟨RX11, "isSkipped", "(I)Z"⟩
abbrev cX11_explore : ByteArray := prog_13_method_85_code
def yX11_explore : MethodName := ⟨RX11, "explore", "()V"⟩
abbrev cX11_questionCount : ByteArray := prog_13_method_86_code
def yX11_questionCount : MethodName := ⟨RX11, "questionCount", "()I"⟩
abbrev cX11_questionPremise : ByteArray := prog_13_method_87_code
def yX11_questionPremise : MethodName := ⟨RX11, "questionPremise", "(I)I"⟩
abbrev cX11_questionConclusion : ByteArray := prog_13_method_88_code
def yX11_questionConclusion : MethodName := ⟨RX11, "questionConclusion", "(I)I"⟩
abbrev cX11_isAccepted : ByteArray := prog_13_method_89_code
def yX11_isAccepted : MethodName := ⟨RX11, "isAccepted", "(I)I"⟩
abbrev cX11_appendText : ByteArray := prog_13_method_90_code
def yX11_appendText : MethodName := ⟨RX11, "appendText", "(I)I"⟩
abbrev cX11_clearText : ByteArray := prog_13_method_91_code
def yX11_clearText : MethodName := ⟨RX11, "clearText", "()I"⟩
abbrev cX11_parseAll : ByteArray := prog_13_method_92_code
def yX11_parseAll : MethodName := ⟨RX11, "parseAll", "()I"⟩
abbrev cX11_parseRules : ByteArray := prog_13_method_93_code
def yX11_parseRules : MethodName := ⟨RX11, "parseRules", "()I"⟩
abbrev cX11_format : ByteArray := prog_13_method_94_code
def yX11_format : MethodName := ⟨RX11, "format", "(I)V"⟩
abbrev cX11_formatSet : ByteArray := prog_13_method_95_code
def yX11_formatSet : MethodName := ⟨RX11, "formatSet", "(I)V"⟩
abbrev cX11_formatRules : ByteArray := prog_13_method_96_code
def yX11_formatRules : MethodName := ⟨RX11, "formatRules", "()I"⟩
abbrev cX11_formattedCharacter : ByteArray := prog_13_method_97_code
def yX11_formattedCharacter : MethodName := ⟨RX11, "formattedCharacter", "(I)I"⟩
abbrev cX11_undo : ByteArray := prog_13_method_98_code
def yX11_undo : MethodName := ⟨RX11, "undo", "()I"⟩
abbrev cX11_redo : ByteArray := prog_13_method_99_code
def yX11_redo : MethodName := ⟨RX11, "redo", "()I"⟩
abbrev cX11_save : ByteArray := prog_13_method_100_code
def yX11_save : MethodName := ⟨RX11, "save", "()I"⟩
abbrev cX11_equalsSnapshot : ByteArray := prog_13_method_101_code
def yX11_equalsSnapshot : MethodName := ⟨RX11, "equalsSnapshot", "()I"⟩
abbrev cX11_restore : ByteArray := prog_13_method_102_code
def yX11_restore : MethodName := ⟨RX11, "restore", "()I"⟩
abbrev cX11_isBuffer : ByteArray := prog_13_method_103_code
def yX11_isBuffer : MethodName := ⟨RX11, "isBuffer", "(I)Z"⟩
abbrev cX11_create : ByteArray := prog_13_method_104_code
def yX11_create : MethodName := ⟨RX11, "create", "(III)V"⟩
abbrev cX11_createBuffer : ByteArray := prog_13_method_105_code
def yX11_createBuffer : MethodName := ⟨RX11, "createBuffer", "(III)I"⟩
abbrev cX11_writeBuffer : ByteArray := prog_13_method_106_code
def yX11_writeBuffer : MethodName := ⟨RX11, "writeBuffer", "(IIJ)I"⟩
abbrev cX11_readBuffer : ByteArray := prog_13_method_107_code
def yX11_readBuffer : MethodName := ⟨RX11, "readBuffer", "(II)J"⟩
abbrev cX11_copyBuffer : ByteArray := prog_13_method_108_code
def yX11_copyBuffer : MethodName := ⟨RX11, "copyBuffer", "(IIIII)I"⟩
abbrev cX11_exportClosures : ByteArray := prog_13_method_109_code
def yX11_exportClosures : MethodName := ⟨RX11, "exportClosures", "(II)I"⟩
abbrev cX11_firstDifference : ByteArray := prog_13_method_110_code
def yX11_firstDifference : MethodName := ⟨RX11, "firstDifference", "(I)I"⟩
abbrev cX11_randomClosureSum : ByteArray := prog_13_method_111_code
def yX11_randomClosureSum : MethodName := ⟨RX11, "randomClosureSum", "(II)I"⟩
abbrev cX11_undoCount : ByteArray := prog_13_method_112_code
def yX11_undoCount : MethodName := ⟨RX11, "undoCount", "()I"⟩
abbrev cX11_redoCount : ByteArray := prog_13_method_113_code
def yX11_redoCount : MethodName := ⟨RX11, "redoCount", "()I"⟩
def RJ6 : String := "java/lang/Integer"
abbrev cJ6_bitCount_0f7a4 : ByteArray := prog_14_method_49_code
def yJ6_bitCount_0f7a4 : MethodName := ⟨RJ6, "bitCount", "(I)I"⟩
def RJ9 : String := "java/lang/Math"
abbrev cJ9_max_7cf53 : ByteArray := prog_15_method_65_code
def yJ9_max_7cf53 : MethodName := ⟨RJ9, "max", "(II)I"⟩
abbrev cJ9_min_7cf53 : ByteArray := prog_15_method_69_code
def yJ9_min_7cf53 : MethodName := ⟨RJ9, "min", "(II)I"⟩
def RJ10 : String := "java/lang/System"
def RL : String := "HornRuleWorkbenchLaw"
abbrev cL_law : ByteArray := code
def yL_law : MethodName := ⟨RL, "law", "([I)Z"⟩
abbrev vwCl : List vw_C := [(RX0, TX0, 4), (RX1, TX1, 3), (RX2, TX2, 4), (RX3, TX3, 4), (RX4, TX4, 2), (RX5, TX5, 2), (RX6, TX6, 5), (RX7, TX7, 1), (RX8, TX8, 5), (RX9, TX9, 4), (RX10, TX10, 15), (RX11, TX11, 53)]
