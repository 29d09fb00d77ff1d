section
-- ===== PART A: goes FIRST, ahead of the names: the tables' words, and 'selects' of the private methods out of them =====
/-- a private method of a class that the tables say can be made, by its rows of tables_1 -/
def lw_okq (q : MethodName × Nat) : Prop := (q.1.cls ≠ "java/lang/invoke/MethodHandle" ∧ q.1.cls ≠ "java/lang/invoke/VarHandle") ∧ Cond.instantiable q.1.cls q.2 ∈ tables_1 ∧ Cond.privateMethod q.1 ∈ tables_1 ∧ Cond.instanceMethod q.1 ∈ tables_1
theorem lw_p0 : lw_okq (⟨"java/lang/Throwable", "fillInStackTrace", "(I)Ljava/lang/Throwable;"⟩, 6) := ⟨⟨by decide +kernel, by decide +kernel⟩, List.mem_of_getElem? (i := 365) (by decide +kernel), List.mem_of_getElem? (i := 363) (by decide +kernel), List.mem_of_getElem? (i := 364) (by decide +kernel)⟩
theorem lw_p1 : lw_okq (⟨"ToeplitzLab$Input", "advance", "()V"⟩, 14) := ⟨⟨by decide +kernel, by decide +kernel⟩, List.mem_of_getElem? (i := 32) (by decide +kernel), List.mem_of_getElem? (i := 421) (by decide +kernel), List.mem_of_getElem? (i := 422) (by decide +kernel)⟩
theorem lw_p2 : lw_okq (⟨"ToeplitzLab$Input", "runEnd", "(ICC)I"⟩, 14) := ⟨⟨by decide +kernel, by decide +kernel⟩, List.mem_of_getElem? (i := 32) (by decide +kernel), List.mem_of_getElem? (i := 425) (by decide +kernel), List.mem_of_getElem? (i := 426) (by decide +kernel)⟩
theorem lw_p3 : lw_okq (⟨"ToeplitzLab$Input", "byteAt", "(I)I"⟩, 14) := ⟨⟨by decide +kernel, by decide +kernel⟩, List.mem_of_getElem? (i := 32) (by decide +kernel), List.mem_of_getElem? (i := 429) (by decide +kernel), List.mem_of_getElem? (i := 430) (by decide +kernel)⟩
theorem lw_p4 : lw_okq (⟨"ToeplitzLab$Input", "readDecimals", "()I"⟩, 14) := ⟨⟨by decide +kernel, by decide +kernel⟩, List.mem_of_getElem? (i := 32) (by decide +kernel), List.mem_of_getElem? (i := 433) (by decide +kernel), List.mem_of_getElem? (i := 434) (by decide +kernel)⟩
theorem lw_p5 : lw_okq (⟨"ToeplitzLab$Input", "readHead", "()Z"⟩, 14) := ⟨⟨by decide +kernel, by decide +kernel⟩, List.mem_of_getElem? (i := 32) (by decide +kernel), List.mem_of_getElem? (i := 437) (by decide +kernel), List.mem_of_getElem? (i := 438) (by decide +kernel)⟩
theorem lw_p6 : lw_okq (⟨"ToeplitzLab$Input", "isWord", "(Ljava/lang/String;)Z"⟩, 14) := ⟨⟨by decide +kernel, by decide +kernel⟩, List.mem_of_getElem? (i := 32) (by decide +kernel), List.mem_of_getElem? (i := 442) (by decide +kernel), List.mem_of_getElem? (i := 443) (by decide +kernel)⟩
theorem lw_p7 : lw_okq (⟨"ToeplitzLab$Input", "fail", "(I)Z"⟩, 14) := ⟨⟨by decide +kernel, by decide +kernel⟩, List.mem_of_getElem? (i := 32) (by decide +kernel), List.mem_of_getElem? (i := 494) (by decide +kernel), List.mem_of_getElem? (i := 495) (by decide +kernel)⟩
theorem lw_p8 : lw_okq (⟨"ToeplitzLab$Input", "reachNumber", "(IIZ)Z"⟩, 14) := ⟨⟨by decide +kernel, by decide +kernel⟩, List.mem_of_getElem? (i := 32) (by decide +kernel), List.mem_of_getElem? (i := 498) (by decide +kernel), List.mem_of_getElem? (i := 499) (by decide +kernel)⟩
theorem lw_p9 : lw_okq (⟨"ToeplitzLab$Input", "readLine", "()Z"⟩, 14) := ⟨⟨by decide +kernel, by decide +kernel⟩, List.mem_of_getElem? (i := 32) (by decide +kernel), List.mem_of_getElem? (i := 508) (by decide +kernel), List.mem_of_getElem? (i := 509) (by decide +kernel)⟩
theorem lw_p10 : lw_okq (⟨"ToeplitzLab$Input", "readRange", "(Z)Z"⟩, 14) := ⟨⟨by decide +kernel, by decide +kernel⟩, List.mem_of_getElem? (i := 32) (by decide +kernel), List.mem_of_getElem? (i := 513) (by decide +kernel), List.mem_of_getElem? (i := 514) (by decide +kernel)⟩
theorem lw_p11 : lw_okq (⟨"ToeplitzLab$Input", "readRangeValue", "()Z"⟩, 14) := ⟨⟨by decide +kernel, by decide +kernel⟩, List.mem_of_getElem? (i := 32) (by decide +kernel), List.mem_of_getElem? (i := 517) (by decide +kernel), List.mem_of_getElem? (i := 518) (by decide +kernel)⟩
theorem lw_p12 : lw_okq (⟨"ToeplitzLab$Input", "readPart", "([II)Z"⟩, 14) := ⟨⟨by decide +kernel, by decide +kernel⟩, List.mem_of_getElem? (i := 32) (by decide +kernel), List.mem_of_getElem? (i := 527) (by decide +kernel), List.mem_of_getElem? (i := 528) (by decide +kernel)⟩
theorem lw_p13 : lw_okq (⟨"ToeplitzLab", "requireSystem", "()V"⟩, 11) := ⟨⟨by decide +kernel, by decide +kernel⟩, List.mem_of_getElem? (i := 24) (by decide +kernel), List.mem_of_getElem? (i := 565) (by decide +kernel), List.mem_of_getElem? (i := 566) (by decide +kernel)⟩
theorem lw_p14 : lw_okq (⟨"ToeplitzLab", "requireDiagonal", "(I)V"⟩, 11) := ⟨⟨by decide +kernel, by decide +kernel⟩, List.mem_of_getElem? (i := 24) (by decide +kernel), List.mem_of_getElem? (i := 585) (by decide +kernel), List.mem_of_getElem? (i := 586) (by decide +kernel)⟩
theorem lw_p15 : lw_okq (⟨"ToeplitzLab", "requireRow", "(I)V"⟩, 11) := ⟨⟨by decide +kernel, by decide +kernel⟩, List.mem_of_getElem? (i := 24) (by decide +kernel), List.mem_of_getElem? (i := 601) (by decide +kernel), List.mem_of_getElem? (i := 602) (by decide +kernel)⟩
def lw_privs_1 : List (MethodName × Nat) := [(⟨"java/lang/Throwable", "fillInStackTrace", "(I)Ljava/lang/Throwable;"⟩, 6), (⟨"ToeplitzLab$Input", "advance", "()V"⟩, 14), (⟨"ToeplitzLab$Input", "runEnd", "(ICC)I"⟩, 14), (⟨"ToeplitzLab$Input", "byteAt", "(I)I"⟩, 14), (⟨"ToeplitzLab$Input", "readDecimals", "()I"⟩, 14), (⟨"ToeplitzLab$Input", "readHead", "()Z"⟩, 14), (⟨"ToeplitzLab$Input", "isWord", "(Ljava/lang/String;)Z"⟩, 14), (⟨"ToeplitzLab$Input", "fail", "(I)Z"⟩, 14), (⟨"ToeplitzLab$Input", "reachNumber", "(IIZ)Z"⟩, 14), (⟨"ToeplitzLab$Input", "readLine", "()Z"⟩, 14), (⟨"ToeplitzLab$Input", "readRange", "(Z)Z"⟩, 14), (⟨"ToeplitzLab$Input", "readRangeValue", "()Z"⟩, 14), (⟨"ToeplitzLab$Input", "readPart", "([II)Z"⟩, 14), (⟨"ToeplitzLab", "requireSystem", "()V"⟩, 11), (⟨"ToeplitzLab", "requireDiagonal", "(I)V"⟩, 11), (⟨"ToeplitzLab", "requireRow", "(I)V"⟩, 11)]
theorem lw_r1 : ∀ q ∈ lw_privs_1, lw_okq q := List.forall_mem_cons.mpr ⟨lw_p0, List.forall_mem_cons.mpr ⟨lw_p1, List.forall_mem_cons.mpr ⟨lw_p2, List.forall_mem_cons.mpr ⟨lw_p3, List.forall_mem_cons.mpr ⟨lw_p4, List.forall_mem_cons.mpr ⟨lw_p5, List.forall_mem_cons.mpr ⟨lw_p6, List.forall_mem_cons.mpr ⟨lw_p7, List.forall_mem_cons.mpr ⟨lw_p8, List.forall_mem_cons.mpr ⟨lw_p9, List.forall_mem_cons.mpr ⟨lw_p10, List.forall_mem_cons.mpr ⟨lw_p11, List.forall_mem_cons.mpr ⟨lw_p12, List.forall_mem_cons.mpr ⟨lw_p13, List.forall_mem_cons.mpr ⟨lw_p14, List.forall_mem_cons.mpr ⟨lw_p15, fun _ h => absurd h List.not_mem_nil⟩⟩⟩⟩⟩⟩⟩⟩⟩⟩⟩⟩⟩⟩⟩⟩
theorem lw_p16 : lw_okq (⟨"ToeplitzLab", "requireSize", "(I)V"⟩, 11) := ⟨⟨by decide +kernel, by decide +kernel⟩, List.mem_of_getElem? (i := 24) (by decide +kernel), List.mem_of_getElem? (i := 627) (by decide +kernel), List.mem_of_getElem? (i := 628) (by decide +kernel)⟩
theorem lw_p17 : lw_okq (⟨"ToeplitzLab", "leadingMinor", "(II)I"⟩, 11) := ⟨⟨by decide +kernel, by decide +kernel⟩, List.mem_of_getElem? (i := 24) (by decide +kernel), List.mem_of_getElem? (i := 632) (by decide +kernel), List.mem_of_getElem? (i := 633) (by decide +kernel)⟩
theorem lw_p18 : lw_okq (⟨"ToeplitzLab$Grid", "pivotRow", "(III)I"⟩, 6) := ⟨⟨by decide +kernel, by decide +kernel⟩, List.mem_of_getElem? (i := 175) (by decide +kernel), List.mem_of_getElem? (i := 653) (by decide +kernel), List.mem_of_getElem? (i := 654) (by decide +kernel)⟩
theorem lw_p19 : lw_okq (⟨"ToeplitzLab$Grid", "leadRow", "(III)I"⟩, 6) := ⟨⟨by decide +kernel, by decide +kernel⟩, List.mem_of_getElem? (i := 175) (by decide +kernel), List.mem_of_getElem? (i := 657) (by decide +kernel), List.mem_of_getElem? (i := 658) (by decide +kernel)⟩
theorem lw_p20 : lw_okq (⟨"ToeplitzLab$Grid", "clearColumn", "(II)V"⟩, 6) := ⟨⟨by decide +kernel, by decide +kernel⟩, List.mem_of_getElem? (i := 175) (by decide +kernel), List.mem_of_getElem? (i := 665) (by decide +kernel), List.mem_of_getElem? (i := 666) (by decide +kernel)⟩
theorem lw_p21 : lw_okq (⟨"ToeplitzLab", "findSteps", "()I"⟩, 11) := ⟨⟨by decide +kernel, by decide +kernel⟩, List.mem_of_getElem? (i := 24) (by decide +kernel), List.mem_of_getElem? (i := 694) (by decide +kernel), List.mem_of_getElem? (i := 695) (by decide +kernel)⟩
theorem lw_p22 : lw_okq (⟨"ToeplitzLab", "startBehind", "(I)I"⟩, 11) := ⟨⟨by decide +kernel, by decide +kernel⟩, List.mem_of_getElem? (i := 24) (by decide +kernel), List.mem_of_getElem? (i := 705) (by decide +kernel), List.mem_of_getElem? (i := 706) (by decide +kernel)⟩
theorem lw_p23 : lw_okq (⟨"ToeplitzLab", "requireBehind", "(II)V"⟩, 11) := ⟨⟨by decide +kernel, by decide +kernel⟩, List.mem_of_getElem? (i := 24) (by decide +kernel), List.mem_of_getElem? (i := 751) (by decide +kernel), List.mem_of_getElem? (i := 752) (by decide +kernel)⟩
theorem lw_p24 : lw_okq (⟨"ToeplitzLab", "complementBehind", "(I)V"⟩, 11) := ⟨⟨by decide +kernel, by decide +kernel⟩, List.mem_of_getElem? (i := 24) (by decide +kernel), List.mem_of_getElem? (i := 756) (by decide +kernel), List.mem_of_getElem? (i := 757) (by decide +kernel)⟩
theorem lw_p25 : lw_okq (⟨"ToeplitzLab", "pairsBehind", "(I)I"⟩, 11) := ⟨⟨by decide +kernel, by decide +kernel⟩, List.mem_of_getElem? (i := 24) (by decide +kernel), List.mem_of_getElem? (i := 787) (by decide +kernel), List.mem_of_getElem? (i := 788) (by decide +kernel)⟩
theorem lw_p26 : lw_okq (⟨"ToeplitzLab$Pairs", "keep", "(LToeplitzLab$Grid;IIII)V"⟩, 2) := ⟨⟨by decide +kernel, by decide +kernel⟩, List.mem_of_getElem? (i := 204) (by decide +kernel), List.mem_of_getElem? (i := 801) (by decide +kernel), List.mem_of_getElem? (i := 802) (by decide +kernel)⟩
theorem lw_p27 : lw_okq (⟨"ToeplitzLab$Pairs", "subtract", "(LToeplitzLab$Grid;II)V"⟩, 2) := ⟨⟨by decide +kernel, by decide +kernel⟩, List.mem_of_getElem? (i := 204) (by decide +kernel), List.mem_of_getElem? (i := 807) (by decide +kernel), List.mem_of_getElem? (i := 808) (by decide +kernel)⟩
theorem lw_p28 : lw_okq (⟨"ToeplitzLab", "eliminateWithSides", "()I"⟩, 11) := ⟨⟨by decide +kernel, by decide +kernel⟩, List.mem_of_getElem? (i := 24) (by decide +kernel), List.mem_of_getElem? (i := 838) (by decide +kernel), List.mem_of_getElem? (i := 839) (by decide +kernel)⟩
theorem lw_p29 : lw_okq (⟨"ToeplitzLab", "requireLifter", "()V"⟩, 11) := ⟨⟨by decide +kernel, by decide +kernel⟩, List.mem_of_getElem? (i := 24) (by decide +kernel), List.mem_of_getElem? (i := 851) (by decide +kernel), List.mem_of_getElem? (i := 852) (by decide +kernel)⟩
theorem lw_p30 : lw_okq (⟨"ToeplitzLab", "requireFraction", "(I)V"⟩, 11) := ⟨⟨by decide +kernel, by decide +kernel⟩, List.mem_of_getElem? (i := 24) (by decide +kernel), List.mem_of_getElem? (i := 947) (by decide +kernel), List.mem_of_getElem? (i := 948) (by decide +kernel)⟩
theorem lw_p31 : lw_okq (⟨"ToeplitzLab$Fractions", "rowTimes", "(LToeplitzLab$State;IJ)J"⟩, 2) := ⟨⟨by decide +kernel, by decide +kernel⟩, List.mem_of_getElem? (i := 218) (by decide +kernel), List.mem_of_getElem? (i := 997) (by decide +kernel), List.mem_of_getElem? (i := 998) (by decide +kernel)⟩
def lw_privs_2 : List (MethodName × Nat) := [(⟨"ToeplitzLab", "requireSize", "(I)V"⟩, 11), (⟨"ToeplitzLab", "leadingMinor", "(II)I"⟩, 11), (⟨"ToeplitzLab$Grid", "pivotRow", "(III)I"⟩, 6), (⟨"ToeplitzLab$Grid", "leadRow", "(III)I"⟩, 6), (⟨"ToeplitzLab$Grid", "clearColumn", "(II)V"⟩, 6), (⟨"ToeplitzLab", "findSteps", "()I"⟩, 11), (⟨"ToeplitzLab", "startBehind", "(I)I"⟩, 11), (⟨"ToeplitzLab", "requireBehind", "(II)V"⟩, 11), (⟨"ToeplitzLab", "complementBehind", "(I)V"⟩, 11), (⟨"ToeplitzLab", "pairsBehind", "(I)I"⟩, 11), (⟨"ToeplitzLab$Pairs", "keep", "(LToeplitzLab$Grid;IIII)V"⟩, 2), (⟨"ToeplitzLab$Pairs", "subtract", "(LToeplitzLab$Grid;II)V"⟩, 2), (⟨"ToeplitzLab", "eliminateWithSides", "()I"⟩, 11), (⟨"ToeplitzLab", "requireLifter", "()V"⟩, 11), (⟨"ToeplitzLab", "requireFraction", "(I)V"⟩, 11), (⟨"ToeplitzLab$Fractions", "rowTimes", "(LToeplitzLab$State;IJ)J"⟩, 2)]
theorem lw_r2 : ∀ q ∈ lw_privs_2, lw_okq q := List.forall_mem_cons.mpr ⟨lw_p16, List.forall_mem_cons.mpr ⟨lw_p17, List.forall_mem_cons.mpr ⟨lw_p18, List.forall_mem_cons.mpr ⟨lw_p19, List.forall_mem_cons.mpr ⟨lw_p20, List.forall_mem_cons.mpr ⟨lw_p21, List.forall_mem_cons.mpr ⟨lw_p22, List.forall_mem_cons.mpr ⟨lw_p23, List.forall_mem_cons.mpr ⟨lw_p24, List.forall_mem_cons.mpr ⟨lw_p25, List.forall_mem_cons.mpr ⟨lw_p26, List.forall_mem_cons.mpr ⟨lw_p27, List.forall_mem_cons.mpr ⟨lw_p28, List.forall_mem_cons.mpr ⟨lw_p29, List.forall_mem_cons.mpr ⟨lw_p30, List.forall_mem_cons.mpr ⟨lw_p31, fun _ h => absurd h List.not_mem_nil⟩⟩⟩⟩⟩⟩⟩⟩⟩⟩⟩⟩⟩⟩⟩⟩
theorem lw_p32 : lw_okq (⟨"ToeplitzLab$Lifter", "nextRest", "(LToeplitzLab$State;I)I"⟩, 2) := ⟨⟨by decide +kernel, by decide +kernel⟩, List.mem_of_getElem? (i := 233) (by decide +kernel), List.mem_of_getElem? (i := 1016) (by decide +kernel), List.mem_of_getElem? (i := 1017) (by decide +kernel)⟩
theorem lw_p33 : lw_okq (⟨"ToeplitzLab", "timesProbe", "(I)I"⟩, 11) := ⟨⟨by decide +kernel, by decide +kernel⟩, List.mem_of_getElem? (i := 24) (by decide +kernel), List.mem_of_getElem? (i := 1028) (by decide +kernel), List.mem_of_getElem? (i := 1029) (by decide +kernel)⟩
theorem lw_p34 : lw_okq (⟨"ToeplitzLab", "requireWrappedRow", "(I)V"⟩, 11) := ⟨⟨by decide +kernel, by decide +kernel⟩, List.mem_of_getElem? (i := 24) (by decide +kernel), List.mem_of_getElem? (i := 1039) (by decide +kernel), List.mem_of_getElem? (i := 1040) (by decide +kernel)⟩
theorem lw_p35 : lw_okq (⟨"ToeplitzLab", "aroundCircle", "(I)I"⟩, 11) := ⟨⟨by decide +kernel, by decide +kernel⟩, List.mem_of_getElem? (i := 24) (by decide +kernel), List.mem_of_getElem? (i := 1044) (by decide +kernel), List.mem_of_getElem? (i := 1045) (by decide +kernel)⟩
theorem lw_p36 : lw_okq (⟨"ToeplitzLabModel", "refuse", "(ZI)Z"⟩, 32) := ⟨⟨by decide +kernel, by decide +kernel⟩, List.mem_of_getElem? (i := 1188) (by decide +kernel), List.mem_of_getElem? (i := 1318) (by decide +kernel), List.mem_of_getElem? (i := 1319) (by decide +kernel)⟩
theorem lw_p37 : lw_okq (⟨"ToeplitzLabModel", "reads", "(I)V"⟩, 32) := ⟨⟨by decide +kernel, by decide +kernel⟩, List.mem_of_getElem? (i := 1188) (by decide +kernel), List.mem_of_getElem? (i := 1322) (by decide +kernel), List.mem_of_getElem? (i := 1323) (by decide +kernel)⟩
theorem lw_p38 : lw_okq (⟨"ToeplitzLabModel", "token", "()V"⟩, 32) := ⟨⟨by decide +kernel, by decide +kernel⟩, List.mem_of_getElem? (i := 1188) (by decide +kernel), List.mem_of_getElem? (i := 1326) (by decide +kernel), List.mem_of_getElem? (i := 1327) (by decide +kernel)⟩
theorem lw_p39 : lw_okq (⟨"ToeplitzLabModel", "seen", "(I)I"⟩, 32) := ⟨⟨by decide +kernel, by decide +kernel⟩, List.mem_of_getElem? (i := 1188) (by decide +kernel), List.mem_of_getElem? (i := 1330) (by decide +kernel), List.mem_of_getElem? (i := 1331) (by decide +kernel)⟩
theorem lw_p40 : lw_okq (⟨"ToeplitzLabModel", "expects", "(Ljava/lang/String;)V"⟩, 32) := ⟨⟨by decide +kernel, by decide +kernel⟩, List.mem_of_getElem? (i := 1188) (by decide +kernel), List.mem_of_getElem? (i := 1341) (by decide +kernel), List.mem_of_getElem? (i := 1342) (by decide +kernel)⟩
theorem lw_p41 : lw_okq (⟨"ToeplitzLabModel", "isWord", "(Ljava/lang/String;)Z"⟩, 32) := ⟨⟨by decide +kernel, by decide +kernel⟩, List.mem_of_getElem? (i := 1188) (by decide +kernel), List.mem_of_getElem? (i := 1345) (by decide +kernel), List.mem_of_getElem? (i := 1346) (by decide +kernel)⟩
theorem lw_p42 : lw_okq (⟨"ToeplitzLabModel", "fails", "(I)V"⟩, 32) := ⟨⟨by decide +kernel, by decide +kernel⟩, List.mem_of_getElem? (i := 1188) (by decide +kernel), List.mem_of_getElem? (i := 1351) (by decide +kernel), List.mem_of_getElem? (i := 1352) (by decide +kernel)⟩
theorem lw_p43 : lw_okq (⟨"ToeplitzLabModel", "goesOn", "()V"⟩, 32) := ⟨⟨by decide +kernel, by decide +kernel⟩, List.mem_of_getElem? (i := 1188) (by decide +kernel), List.mem_of_getElem? (i := 1355) (by decide +kernel), List.mem_of_getElem? (i := 1356) (by decide +kernel)⟩
theorem lw_p44 : lw_okq (⟨"ToeplitzLabModel", "takes", "(II)I"⟩, 32) := ⟨⟨by decide +kernel, by decide +kernel⟩, List.mem_of_getElem? (i := 1188) (by decide +kernel), List.mem_of_getElem? (i := 1359) (by decide +kernel), List.mem_of_getElem? (i := 1360) (by decide +kernel)⟩
theorem lw_p45 : lw_okq (⟨"ToeplitzLabModel", "numberHere", "(II)I"⟩, 32) := ⟨⟨by decide +kernel, by decide +kernel⟩, List.mem_of_getElem? (i := 1188) (by decide +kernel), List.mem_of_getElem? (i := 1363) (by decide +kernel), List.mem_of_getElem? (i := 1364) (by decide +kernel)⟩
theorem lw_p46 : lw_okq (⟨"ToeplitzLabModel", "diagonalLine", "()V"⟩, 32) := ⟨⟨by decide +kernel, by decide +kernel⟩, List.mem_of_getElem? (i := 1188) (by decide +kernel), List.mem_of_getElem? (i := 1375) (by decide +kernel), List.mem_of_getElem? (i := 1376) (by decide +kernel)⟩
theorem lw_p47 : lw_okq (⟨"ToeplitzLabModel", "signedHere", "(II)I"⟩, 32) := ⟨⟨by decide +kernel, by decide +kernel⟩, List.mem_of_getElem? (i := 1188) (by decide +kernel), List.mem_of_getElem? (i := 1379) (by decide +kernel), List.mem_of_getElem? (i := 1380) (by decide +kernel)⟩
def lw_privs_3 : List (MethodName × Nat) := [(⟨"ToeplitzLab$Lifter", "nextRest", "(LToeplitzLab$State;I)I"⟩, 2), (⟨"ToeplitzLab", "timesProbe", "(I)I"⟩, 11), (⟨"ToeplitzLab", "requireWrappedRow", "(I)V"⟩, 11), (⟨"ToeplitzLab", "aroundCircle", "(I)I"⟩, 11), (⟨"ToeplitzLabModel", "refuse", "(ZI)Z"⟩, 32), (⟨"ToeplitzLabModel", "reads", "(I)V"⟩, 32), (⟨"ToeplitzLabModel", "token", "()V"⟩, 32), (⟨"ToeplitzLabModel", "seen", "(I)I"⟩, 32), (⟨"ToeplitzLabModel", "expects", "(Ljava/lang/String;)V"⟩, 32), (⟨"ToeplitzLabModel", "isWord", "(Ljava/lang/String;)Z"⟩, 32), (⟨"ToeplitzLabModel", "fails", "(I)V"⟩, 32), (⟨"ToeplitzLabModel", "goesOn", "()V"⟩, 32), (⟨"ToeplitzLabModel", "takes", "(II)I"⟩, 32), (⟨"ToeplitzLabModel", "numberHere", "(II)I"⟩, 32), (⟨"ToeplitzLabModel", "diagonalLine", "()V"⟩, 32), (⟨"ToeplitzLabModel", "signedHere", "(II)I"⟩, 32)]
theorem lw_r3 : ∀ q ∈ lw_privs_3, lw_okq q := List.forall_mem_cons.mpr ⟨lw_p32, List.forall_mem_cons.mpr ⟨lw_p33, List.forall_mem_cons.mpr ⟨lw_p34, List.forall_mem_cons.mpr ⟨lw_p35, List.forall_mem_cons.mpr ⟨lw_p36, List.forall_mem_cons.mpr ⟨lw_p37, List.forall_mem_cons.mpr ⟨lw_p38, List.forall_mem_cons.mpr ⟨lw_p39, List.forall_mem_cons.mpr ⟨lw_p40, List.forall_mem_cons.mpr ⟨lw_p41, List.forall_mem_cons.mpr ⟨lw_p42, List.forall_mem_cons.mpr ⟨lw_p43, List.forall_mem_cons.mpr ⟨lw_p44, List.forall_mem_cons.mpr ⟨lw_p45, List.forall_mem_cons.mpr ⟨lw_p46, List.forall_mem_cons.mpr ⟨lw_p47, fun _ h => absurd h List.not_mem_nil⟩⟩⟩⟩⟩⟩⟩⟩⟩⟩⟩⟩⟩⟩⟩⟩
theorem lw_p48 : lw_okq (⟨"ToeplitzLabModel", "takesSigned", "(II)I"⟩, 32) := ⟨⟨by decide +kernel, by decide +kernel⟩, List.mem_of_getElem? (i := 1188) (by decide +kernel), List.mem_of_getElem? (i := 1383) (by decide +kernel), List.mem_of_getElem? (i := 1384) (by decide +kernel)⟩
theorem lw_p49 : lw_okq (⟨"ToeplitzLabModel", "bandLine", "()V"⟩, 32) := ⟨⟨by decide +kernel, by decide +kernel⟩, List.mem_of_getElem? (i := 1188) (by decide +kernel), List.mem_of_getElem? (i := 1388) (by decide +kernel), List.mem_of_getElem? (i := 1389) (by decide +kernel)⟩
theorem lw_p50 : lw_okq (⟨"ToeplitzLabModel", "partLine", "(II)V"⟩, 32) := ⟨⟨by decide +kernel, by decide +kernel⟩, List.mem_of_getElem? (i := 1188) (by decide +kernel), List.mem_of_getElem? (i := 1393) (by decide +kernel), List.mem_of_getElem? (i := 1394) (by decide +kernel)⟩
theorem lw_p51 : lw_okq (⟨"ToeplitzLabModel", "begins", "()V"⟩, 32) := ⟨⟨by decide +kernel, by decide +kernel⟩, List.mem_of_getElem? (i := 1188) (by decide +kernel), List.mem_of_getElem? (i := 1398) (by decide +kernel), List.mem_of_getElem? (i := 1399) (by decide +kernel)⟩
theorem lw_p52 : lw_okq (⟨"ToeplitzLabModel", "its", "(I)I"⟩, 32) := ⟨⟨by decide +kernel, by decide +kernel⟩, List.mem_of_getElem? (i := 1188) (by decide +kernel), List.mem_of_getElem? (i := 1406) (by decide +kernel), List.mem_of_getElem? (i := 1407) (by decide +kernel)⟩
theorem lw_p53 : lw_okq (⟨"ToeplitzLabModel", "noSystem", "()Z"⟩, 32) := ⟨⟨by decide +kernel, by decide +kernel⟩, List.mem_of_getElem? (i := 1188) (by decide +kernel), List.mem_of_getElem? (i := 1426) (by decide +kernel), List.mem_of_getElem? (i := 1427) (by decide +kernel)⟩
theorem lw_p54 : lw_okq (⟨"ToeplitzLabModel", "isDiagonal", "(I)Z"⟩, 32) := ⟨⟨by decide +kernel, by decide +kernel⟩, List.mem_of_getElem? (i := 1188) (by decide +kernel), List.mem_of_getElem? (i := 1430) (by decide +kernel), List.mem_of_getElem? (i := 1431) (by decide +kernel)⟩
theorem lw_p55 : lw_okq (⟨"ToeplitzLabModel", "noRows", "(II)Z"⟩, 32) := ⟨⟨by decide +kernel, by decide +kernel⟩, List.mem_of_getElem? (i := 1188) (by decide +kernel), List.mem_of_getElem? (i := 1438) (by decide +kernel), List.mem_of_getElem? (i := 1439) (by decide +kernel)⟩
theorem lw_p56 : lw_okq (⟨"ToeplitzLabModel", "noRow", "(I)Z"⟩, 32) := ⟨⟨by decide +kernel, by decide +kernel⟩, List.mem_of_getElem? (i := 1188) (by decide +kernel), List.mem_of_getElem? (i := 1442) (by decide +kernel), List.mem_of_getElem? (i := 1443) (by decide +kernel)⟩
theorem lw_p57 : lw_okq (⟨"ToeplitzLabModel", "isRow", "(I)Z"⟩, 32) := ⟨⟨by decide +kernel, by decide +kernel⟩, List.mem_of_getElem? (i := 1188) (by decide +kernel), List.mem_of_getElem? (i := 1446) (by decide +kernel), List.mem_of_getElem? (i := 1447) (by decide +kernel)⟩
theorem lw_p58 : lw_okq (⟨"ToeplitzLabModel", "entryOf", "(II)I"⟩, 32) := ⟨⟨by decide +kernel, by decide +kernel⟩, List.mem_of_getElem? (i := 1188) (by decide +kernel), List.mem_of_getElem? (i := 1450) (by decide +kernel), List.mem_of_getElem? (i := 1451) (by decide +kernel)⟩
theorem lw_p59 : lw_okq (⟨"ToeplitzLabModel", "minorNow", "(I)I"⟩, 32) := ⟨⟨by decide +kernel, by decide +kernel⟩, List.mem_of_getElem? (i := 1188) (by decide +kernel), List.mem_of_getElem? (i := 1466) (by decide +kernel), List.mem_of_getElem? (i := 1467) (by decide +kernel)⟩
theorem lw_p60 : lw_okq (⟨"ToeplitzLabModel", "minorOf", "(II)I"⟩, 32) := ⟨⟨by decide +kernel, by decide +kernel⟩, List.mem_of_getElem? (i := 1188) (by decide +kernel), List.mem_of_getElem? (i := 1470) (by decide +kernel), List.mem_of_getElem? (i := 1471) (by decide +kernel)⟩
theorem lw_p61 : lw_okq (⟨"ToeplitzLabModel", "lays", "()V"⟩, 32) := ⟨⟨by decide +kernel, by decide +kernel⟩, List.mem_of_getElem? (i := 1188) (by decide +kernel), List.mem_of_getElem? (i := 1474) (by decide +kernel), List.mem_of_getElem? (i := 1475) (by decide +kernel)⟩
theorem lw_p62 : lw_okq (⟨"ToeplitzLabModel", "mod", "(I)I"⟩, 32) := ⟨⟨by decide +kernel, by decide +kernel⟩, List.mem_of_getElem? (i := 1188) (by decide +kernel), List.mem_of_getElem? (i := 1478) (by decide +kernel), List.mem_of_getElem? (i := 1479) (by decide +kernel)⟩
theorem lw_p63 : lw_okq (⟨"ToeplitzLabModel", "pivot", "(III)I"⟩, 32) := ⟨⟨by decide +kernel, by decide +kernel⟩, List.mem_of_getElem? (i := 1188) (by decide +kernel), List.mem_of_getElem? (i := 1482) (by decide +kernel), List.mem_of_getElem? (i := 1483) (by decide +kernel)⟩
def lw_privs_4 : List (MethodName × Nat) := [(⟨"ToeplitzLabModel", "takesSigned", "(II)I"⟩, 32), (⟨"ToeplitzLabModel", "bandLine", "()V"⟩, 32), (⟨"ToeplitzLabModel", "partLine", "(II)V"⟩, 32), (⟨"ToeplitzLabModel", "begins", "()V"⟩, 32), (⟨"ToeplitzLabModel", "its", "(I)I"⟩, 32), (⟨"ToeplitzLabModel", "noSystem", "()Z"⟩, 32), (⟨"ToeplitzLabModel", "isDiagonal", "(I)Z"⟩, 32), (⟨"ToeplitzLabModel", "noRows", "(II)Z"⟩, 32), (⟨"ToeplitzLabModel", "noRow", "(I)Z"⟩, 32), (⟨"ToeplitzLabModel", "isRow", "(I)Z"⟩, 32), (⟨"ToeplitzLabModel", "entryOf", "(II)I"⟩, 32), (⟨"ToeplitzLabModel", "minorNow", "(I)I"⟩, 32), (⟨"ToeplitzLabModel", "minorOf", "(II)I"⟩, 32), (⟨"ToeplitzLabModel", "lays", "()V"⟩, 32), (⟨"ToeplitzLabModel", "mod", "(I)I"⟩, 32), (⟨"ToeplitzLabModel", "pivot", "(III)I"⟩, 32)]
theorem lw_r4 : ∀ q ∈ lw_privs_4, lw_okq q := List.forall_mem_cons.mpr ⟨lw_p48, List.forall_mem_cons.mpr ⟨lw_p49, List.forall_mem_cons.mpr ⟨lw_p50, List.forall_mem_cons.mpr ⟨lw_p51, List.forall_mem_cons.mpr ⟨lw_p52, List.forall_mem_cons.mpr ⟨lw_p53, List.forall_mem_cons.mpr ⟨lw_p54, List.forall_mem_cons.mpr ⟨lw_p55, List.forall_mem_cons.mpr ⟨lw_p56, List.forall_mem_cons.mpr ⟨lw_p57, List.forall_mem_cons.mpr ⟨lw_p58, List.forall_mem_cons.mpr ⟨lw_p59, List.forall_mem_cons.mpr ⟨lw_p60, List.forall_mem_cons.mpr ⟨lw_p61, List.forall_mem_cons.mpr ⟨lw_p62, List.forall_mem_cons.mpr ⟨lw_p63, fun _ h => absurd h List.not_mem_nil⟩⟩⟩⟩⟩⟩⟩⟩⟩⟩⟩⟩⟩⟩⟩⟩
theorem lw_p64 : lw_okq (⟨"ToeplitzLabModel", "swaps", "(II)V"⟩, 32) := ⟨⟨by decide +kernel, by decide +kernel⟩, List.mem_of_getElem? (i := 1188) (by decide +kernel), List.mem_of_getElem? (i := 1486) (by decide +kernel), List.mem_of_getElem? (i := 1487) (by decide +kernel)⟩
theorem lw_p65 : lw_okq (⟨"ToeplitzLabModel", "inverseOf", "(I)I"⟩, 32) := ⟨⟨by decide +kernel, by decide +kernel⟩, List.mem_of_getElem? (i := 1188) (by decide +kernel), List.mem_of_getElem? (i := 1490) (by decide +kernel), List.mem_of_getElem? (i := 1491) (by decide +kernel)⟩
theorem lw_p66 : lw_okq (⟨"ToeplitzLabModel", "takesOff", "(III)V"⟩, 32) := ⟨⟨by decide +kernel, by decide +kernel⟩, List.mem_of_getElem? (i := 1188) (by decide +kernel), List.mem_of_getElem? (i := 1494) (by decide +kernel), List.mem_of_getElem? (i := 1495) (by decide +kernel)⟩
theorem lw_p67 : lw_okq (⟨"ToeplitzLabModel", "rankNow", "()I"⟩, 32) := ⟨⟨by decide +kernel, by decide +kernel⟩, List.mem_of_getElem? (i := 1188) (by decide +kernel), List.mem_of_getElem? (i := 1502) (by decide +kernel), List.mem_of_getElem? (i := 1503) (by decide +kernel)⟩
theorem lw_p68 : lw_okq (⟨"ToeplitzLabModel", "reduces", "()I"⟩, 32) := ⟨⟨by decide +kernel, by decide +kernel⟩, List.mem_of_getElem? (i := 1188) (by decide +kernel), List.mem_of_getElem? (i := 1506) (by decide +kernel), List.mem_of_getElem? (i := 1507) (by decide +kernel)⟩
theorem lw_p69 : lw_okq (⟨"ToeplitzLabModel", "isRegularNow", "()Z"⟩, 32) := ⟨⟨by decide +kernel, by decide +kernel⟩, List.mem_of_getElem? (i := 1188) (by decide +kernel), List.mem_of_getElem? (i := 1514) (by decide +kernel), List.mem_of_getElem? (i := 1515) (by decide +kernel)⟩
theorem lw_p70 : lw_okq (⟨"ToeplitzLabModel", "laysEnds", "()V"⟩, 32) := ⟨⟨by decide +kernel, by decide +kernel⟩, List.mem_of_getElem? (i := 1188) (by decide +kernel), List.mem_of_getElem? (i := 1522) (by decide +kernel), List.mem_of_getElem? (i := 1523) (by decide +kernel)⟩
theorem lw_p71 : lw_okq (⟨"ToeplitzLabModel", "noStep", "(I)Z"⟩, 32) := ⟨⟨by decide +kernel, by decide +kernel⟩, List.mem_of_getElem? (i := 1188) (by decide +kernel), List.mem_of_getElem? (i := 1530) (by decide +kernel), List.mem_of_getElem? (i := 1531) (by decide +kernel)⟩
theorem lw_p72 : lw_okq (⟨"ToeplitzLabModel", "noPlace", "(III)Z"⟩, 32) := ⟨⟨by decide +kernel, by decide +kernel⟩, List.mem_of_getElem? (i := 1188) (by decide +kernel), List.mem_of_getElem? (i := 1555) (by decide +kernel), List.mem_of_getElem? (i := 1556) (by decide +kernel)⟩
theorem lw_p73 : lw_okq (⟨"ToeplitzLabModel", "complements", "(I)V"⟩, 32) := ⟨⟨by decide +kernel, by decide +kernel⟩, List.mem_of_getElem? (i := 1188) (by decide +kernel), List.mem_of_getElem? (i := 1559) (by decide +kernel), List.mem_of_getElem? (i := 1560) (by decide +kernel)⟩
theorem lw_p74 : lw_okq (⟨"ToeplitzLabModel", "displaces", "(I)V"⟩, 32) := ⟨⟨by decide +kernel, by decide +kernel⟩, List.mem_of_getElem? (i := 1188) (by decide +kernel), List.mem_of_getElem? (i := 1567) (by decide +kernel), List.mem_of_getElem? (i := 1568) (by decide +kernel)⟩
theorem lw_p75 : lw_okq (⟨"ToeplitzLabModel", "laysPairs", "(I)I"⟩, 32) := ⟨⟨by decide +kernel, by decide +kernel⟩, List.mem_of_getElem? (i := 1188) (by decide +kernel), List.mem_of_getElem? (i := 1575) (by decide +kernel), List.mem_of_getElem? (i := 1576) (by decide +kernel)⟩
theorem lw_p76 : lw_okq (⟨"ToeplitzLabModel", "peels", "(IIII)V"⟩, 32) := ⟨⟨by decide +kernel, by decide +kernel⟩, List.mem_of_getElem? (i := 1188) (by decide +kernel), List.mem_of_getElem? (i := 1579) (by decide +kernel), List.mem_of_getElem? (i := 1580) (by decide +kernel)⟩
theorem lw_p77 : lw_okq (⟨"ToeplitzLabModel", "noSolution", "(I)Z"⟩, 32) := ⟨⟨by decide +kernel, by decide +kernel⟩, List.mem_of_getElem? (i := 1188) (by decide +kernel), List.mem_of_getElem? (i := 1595) (by decide +kernel), List.mem_of_getElem? (i := 1596) (by decide +kernel)⟩
theorem lw_p78 : lw_okq (⟨"ToeplitzLabModel", "reducesWith", "(I)I"⟩, 32) := ⟨⟨by decide +kernel, by decide +kernel⟩, List.mem_of_getElem? (i := 1188) (by decide +kernel), List.mem_of_getElem? (i := 1599) (by decide +kernel), List.mem_of_getElem? (i := 1600) (by decide +kernel)⟩
theorem lw_p79 : lw_okq (⟨"ToeplitzLabModel", "mostNow", "()I"⟩, 32) := ⟨⟨by decide +kernel, by decide +kernel⟩, List.mem_of_getElem? (i := 1188) (by decide +kernel), List.mem_of_getElem? (i := 1623) (by decide +kernel), List.mem_of_getElem? (i := 1624) (by decide +kernel)⟩
def lw_privs_5 : List (MethodName × Nat) := [(⟨"ToeplitzLabModel", "swaps", "(II)V"⟩, 32), (⟨"ToeplitzLabModel", "inverseOf", "(I)I"⟩, 32), (⟨"ToeplitzLabModel", "takesOff", "(III)V"⟩, 32), (⟨"ToeplitzLabModel", "rankNow", "()I"⟩, 32), (⟨"ToeplitzLabModel", "reduces", "()I"⟩, 32), (⟨"ToeplitzLabModel", "isRegularNow", "()Z"⟩, 32), (⟨"ToeplitzLabModel", "laysEnds", "()V"⟩, 32), (⟨"ToeplitzLabModel", "noStep", "(I)Z"⟩, 32), (⟨"ToeplitzLabModel", "noPlace", "(III)Z"⟩, 32), (⟨"ToeplitzLabModel", "complements", "(I)V"⟩, 32), (⟨"ToeplitzLabModel", "displaces", "(I)V"⟩, 32), (⟨"ToeplitzLabModel", "laysPairs", "(I)I"⟩, 32), (⟨"ToeplitzLabModel", "peels", "(IIII)V"⟩, 32), (⟨"ToeplitzLabModel", "noSolution", "(I)Z"⟩, 32), (⟨"ToeplitzLabModel", "reducesWith", "(I)I"⟩, 32), (⟨"ToeplitzLabModel", "mostNow", "()I"⟩, 32)]
theorem lw_r5 : ∀ q ∈ lw_privs_5, lw_okq q := List.forall_mem_cons.mpr ⟨lw_p64, List.forall_mem_cons.mpr ⟨lw_p65, List.forall_mem_cons.mpr ⟨lw_p66, List.forall_mem_cons.mpr ⟨lw_p67, List.forall_mem_cons.mpr ⟨lw_p68, List.forall_mem_cons.mpr ⟨lw_p69, List.forall_mem_cons.mpr ⟨lw_p70, List.forall_mem_cons.mpr ⟨lw_p71, List.forall_mem_cons.mpr ⟨lw_p72, List.forall_mem_cons.mpr ⟨lw_p73, List.forall_mem_cons.mpr ⟨lw_p74, List.forall_mem_cons.mpr ⟨lw_p75, List.forall_mem_cons.mpr ⟨lw_p76, List.forall_mem_cons.mpr ⟨lw_p77, List.forall_mem_cons.mpr ⟨lw_p78, List.forall_mem_cons.mpr ⟨lw_p79, fun _ h => absurd h List.not_mem_nil⟩⟩⟩⟩⟩⟩⟩⟩⟩⟩⟩⟩⟩⟩⟩⟩
theorem lw_p80 : lw_okq (⟨"ToeplitzLabModel", "valueOf", "(I)J"⟩, 32) := ⟨⟨by decide +kernel, by decide +kernel⟩, List.mem_of_getElem? (i := 1188) (by decide +kernel), List.mem_of_getElem? (i := 1640) (by decide +kernel), List.mem_of_getElem? (i := 1641) (by decide +kernel)⟩
theorem lw_p81 : lw_okq (⟨"ToeplitzLabModel", "modulus", "()J"⟩, 32) := ⟨⟨by decide +kernel, by decide +kernel⟩, List.mem_of_getElem? (i := 1188) (by decide +kernel), List.mem_of_getElem? (i := 1649) (by decide +kernel), List.mem_of_getElem? (i := 1650) (by decide +kernel)⟩
theorem lw_p82 : lw_okq (⟨"ToeplitzLabModel", "findsFraction", "(I)Z"⟩, 32) := ⟨⟨by decide +kernel, by decide +kernel⟩, List.mem_of_getElem? (i := 1188) (by decide +kernel), List.mem_of_getElem? (i := 1657) (by decide +kernel), List.mem_of_getElem? (i := 1658) (by decide +kernel)⟩
theorem lw_p83 : lw_okq (⟨"ToeplitzLabModel", "isExactNow", "()Z"⟩, 32) := ⟨⟨by decide +kernel, by decide +kernel⟩, List.mem_of_getElem? (i := 1188) (by decide +kernel), List.mem_of_getElem? (i := 1680) (by decide +kernel), List.mem_of_getElem? (i := 1681) (by decide +kernel)⟩
theorem lw_p84 : lw_okq (⟨"ToeplitzLabModel", "keeps", "(I)V"⟩, 32) := ⟨⟨by decide +kernel, by decide +kernel⟩, List.mem_of_getElem? (i := 1188) (by decide +kernel), List.mem_of_getElem? (i := 1689) (by decide +kernel), List.mem_of_getElem? (i := 1690) (by decide +kernel)⟩
theorem lw_p85 : lw_okq (⟨"ToeplitzLabModel", "canLift", "()Z"⟩, 32) := ⟨⟨by decide +kernel, by decide +kernel⟩, List.mem_of_getElem? (i := 1188) (by decide +kernel), List.mem_of_getElem? (i := 1693) (by decide +kernel), List.mem_of_getElem? (i := 1694) (by decide +kernel)⟩
theorem lw_p86 : lw_okq (⟨"ToeplitzLabModel", "lifts", "()V"⟩, 32) := ⟨⟨by decide +kernel, by decide +kernel⟩, List.mem_of_getElem? (i := 1188) (by decide +kernel), List.mem_of_getElem? (i := 1697) (by decide +kernel), List.mem_of_getElem? (i := 1698) (by decide +kernel)⟩
theorem lw_p87 : lw_okq (⟨"ToeplitzLabModel", "fetches", "(I)V"⟩, 32) := ⟨⟨by decide +kernel, by decide +kernel⟩, List.mem_of_getElem? (i := 1188) (by decide +kernel), List.mem_of_getElem? (i := 1701) (by decide +kernel), List.mem_of_getElem? (i := 1702) (by decide +kernel)⟩
theorem lw_p88 : lw_okq (⟨"ToeplitzLabModel", "productOf", "(I)I"⟩, 32) := ⟨⟨by decide +kernel, by decide +kernel⟩, List.mem_of_getElem? (i := 1188) (by decide +kernel), List.mem_of_getElem? (i := 1709) (by decide +kernel), List.mem_of_getElem? (i := 1710) (by decide +kernel)⟩
theorem lw_p89 : lw_okq (⟨"ToeplitzLabModel", "noWide", "(I)Z"⟩, 32) := ⟨⟨by decide +kernel, by decide +kernel⟩, List.mem_of_getElem? (i := 1188) (by decide +kernel), List.mem_of_getElem? (i := 1717) (by decide +kernel), List.mem_of_getElem? (i := 1718) (by decide +kernel)⟩
theorem lw_p90 : lw_okq (⟨"ToeplitzLabModel", "circulantOf", "(II)I"⟩, 32) := ⟨⟨by decide +kernel, by decide +kernel⟩, List.mem_of_getElem? (i := 1188) (by decide +kernel), List.mem_of_getElem? (i := 1721) (by decide +kernel), List.mem_of_getElem? (i := 1722) (by decide +kernel)⟩
theorem lw_p91 : lw_okq (⟨"ToeplitzLabModel", "sets", "(IIZ)I"⟩, 32) := ⟨⟨by decide +kernel, by decide +kernel⟩, List.mem_of_getElem? (i := 1188) (by decide +kernel), List.mem_of_getElem? (i := 1741) (by decide +kernel), List.mem_of_getElem? (i := 1742) (by decide +kernel)⟩
theorem lw_p92 : lw_okq (⟨"ToeplitzLabModel", "keepsAll", "()V"⟩, 32) := ⟨⟨by decide +kernel, by decide +kernel⟩, List.mem_of_getElem? (i := 1188) (by decide +kernel), List.mem_of_getElem? (i := 1745) (by decide +kernel), List.mem_of_getElem? (i := 1746) (by decide +kernel)⟩
theorem lw_p93 : lw_okq (⟨"ToeplitzLabModel", "books", "()V"⟩, 32) := ⟨⟨by decide +kernel, by decide +kernel⟩, List.mem_of_getElem? (i := 1188) (by decide +kernel), List.mem_of_getElem? (i := 1773) (by decide +kernel), List.mem_of_getElem? (i := 1774) (by decide +kernel)⟩
def lw_privs_6 : List (MethodName × Nat) := [(⟨"ToeplitzLabModel", "valueOf", "(I)J"⟩, 32), (⟨"ToeplitzLabModel", "modulus", "()J"⟩, 32), (⟨"ToeplitzLabModel", "findsFraction", "(I)Z"⟩, 32), (⟨"ToeplitzLabModel", "isExactNow", "()Z"⟩, 32), (⟨"ToeplitzLabModel", "keeps", "(I)V"⟩, 32), (⟨"ToeplitzLabModel", "canLift", "()Z"⟩, 32), (⟨"ToeplitzLabModel", "lifts", "()V"⟩, 32), (⟨"ToeplitzLabModel", "fetches", "(I)V"⟩, 32), (⟨"ToeplitzLabModel", "productOf", "(I)I"⟩, 32), (⟨"ToeplitzLabModel", "noWide", "(I)Z"⟩, 32), (⟨"ToeplitzLabModel", "circulantOf", "(II)I"⟩, 32), (⟨"ToeplitzLabModel", "sets", "(IIZ)I"⟩, 32), (⟨"ToeplitzLabModel", "keepsAll", "()V"⟩, 32), (⟨"ToeplitzLabModel", "books", "()V"⟩, 32)]
theorem lw_r6 : ∀ q ∈ lw_privs_6, lw_okq q := List.forall_mem_cons.mpr ⟨lw_p80, List.forall_mem_cons.mpr ⟨lw_p81, List.forall_mem_cons.mpr ⟨lw_p82, List.forall_mem_cons.mpr ⟨lw_p83, List.forall_mem_cons.mpr ⟨lw_p84, List.forall_mem_cons.mpr ⟨lw_p85, List.forall_mem_cons.mpr ⟨lw_p86, List.forall_mem_cons.mpr ⟨lw_p87, List.forall_mem_cons.mpr ⟨lw_p88, List.forall_mem_cons.mpr ⟨lw_p89, List.forall_mem_cons.mpr ⟨lw_p90, List.forall_mem_cons.mpr ⟨lw_p91, List.forall_mem_cons.mpr ⟨lw_p92, List.forall_mem_cons.mpr ⟨lw_p93, fun _ h => absurd h List.not_mem_nil⟩⟩⟩⟩⟩⟩⟩⟩⟩⟩⟩⟩⟩⟩
def lw_privs : List (MethodName × Nat) := lw_privs_1 ++ (lw_privs_2 ++ (lw_privs_3 ++ (lw_privs_4 ++ (lw_privs_5 ++ (lw_privs_6)))))
def lw_tbl : List Cond := k2_sels lw_privs ++ tables_1
theorem lw_privs_ok : ∀ q ∈ lw_privs, lw_okq q := by
  show ∀ q ∈ lw_privs_1 ++ (lw_privs_2 ++ (lw_privs_3 ++ (lw_privs_4 ++ (lw_privs_5 ++ (lw_privs_6))))), lw_okq q
  exact List.forall_mem_append.mpr ⟨lw_r1, List.forall_mem_append.mpr ⟨lw_r2, List.forall_mem_append.mpr ⟨lw_r3, List.forall_mem_append.mpr ⟨lw_r4, List.forall_mem_append.mpr ⟨lw_r5, lw_r6⟩⟩⟩⟩⟩
/-- the streams that the claim lets the run draw from -/
abbrev lw_cs : List Choice := [Jvm.Choice.named "NaN.bits"]
theorem lw_bits : nanBits ∈ lw_cs := by first | decide | exact List.mem_cons_self | simp [lw_cs, nanBits]
-- ===== end of PART A; then your names; then what follows =====
end
section
/-! ===== BEGIN words of one list among another's, by their places ===== -/
theorem goodIn_r {big : List Cond} (ws : List Cond) (ps : List Nat) (hp : ws = ps.filterMap (fun i => big[i]?)) (h : ws.all goodWord = true) : GoodIn big ws := by
  intro w hw
  have h1 := List.all_eq_true.mp h w hw
  rw [hp] at hw
  obtain ⟨i, -, hi⟩ := List.mem_filterMap.mp hw
  have hm : w ∈ big := by first | exact List.mem_of_getElem? hi | exact List.getElem?_mem hi
  exact ⟨hm, good_of_word h1⟩
theorem goodIn_app {big a b : List Cond} (ha : GoodIn big a) (hb : GoodIn big b) : GoodIn big (a ++ b) := fun w h => (List.mem_append.mp h).elim (ha w) (hb w)
theorem goodIn_ca {big a b : List Cond} {c : Cond} (ha : GoodIn big (c :: a)) (hb : GoodIn big b) : GoodIn big (c :: (a ++ b)) := fun w h => (List.mem_cons.mp h).elim (fun e => ha w (List.mem_cons.mpr (Or.inl e))) (fun h => (List.mem_append.mp h).elim (fun h => ha w (List.mem_cons.mpr (Or.inr h))) (hb w))
theorem goodIn_sub {big ws : List Cond} (hm : ∀ w ∈ ws, w ∈ big) (h : ws.all goodWord = true) : GoodIn big ws := fun w hw => ⟨hm w hw, good_of_word (List.all_eq_true.mp h w hw)⟩
/-! ===== END ===== -/

/-! ===== BEGIN new T[n][m]: the outer array a place, the inner ones among the pooled ===== -/
/-- f, but v at every address of l -/
def vr_up {α : Type} (f : Nat → α) (l : List Nat) (v : α) : Nat → α := fun a => if a ∈ l then v else f a
theorem vr_up_in {α : Type} {f : Nat → α} {l : List Nat} {v : α} {a : Nat} (h : a ∈ l) : vr_up f l v a = v := if_pos h
theorem vr_up_ne {α : Type} {f : Nat → α} {l : List Nat} {v : α} {a : Nat} (h : a ∉ l) : vr_up f l v a = f a := if_neg h
theorem vr_rows {L l : List Nat} {f : Nat → va_E} {e : va_E} (h : ∀ a, a ∈ l → a ∉ L) : va_pl L f ++ l.map (fun a => (a, e)) = va_pl (L ++ l) (vr_up f l e) := by
  unfold va_pl
  rw [List.map_append]
  congr 1
  · apply List.map_congr_left
    intro a ha
    rw [vr_up_ne (fun q => h a q ha)]
  · apply List.map_congr_left
    intro a ha
    rw [vr_up_in ha]
theorem vr_lay {X rows : va_W} {x : Nat × va_E} {pl : va_W} {D : va_G} {cl : List vw_C} {H : Heap} (hP : va_P D cl (((X ++ pl) ++ [x]) ++ rows) H) : va_P D cl ((X ++ [x]) ++ (pl ++ rows)) H := by
  rw [List.append_assoc (X ++ pl)] at hP
  have h := va_P.swap hP
  rw [← List.append_assoc X] at h
  have h2 := va_P.swap h
  rw [List.append_assoc (X ++ [x])] at h2
  exact h2
theorem vr_layD {X rows : va_W} {x : Nat × va_E} {pl : va_W} {A : Nat → Prop} (hD : va_D A (((X ++ pl) ++ [x]) ++ rows)) : va_D A ((X ++ [x]) ++ (pl ++ rows)) := by
  rw [List.append_assoc (X ++ pl)] at hD
  have h := va_D.swap hD
  rw [← List.append_assoc X] at h
  have h2 := va_D.swap h
  rw [List.append_assoc (X ++ [x])] at h2
  exact h2
theorem vr_outer (c : ClassId) (N h0 : Nat) : ∀ i : Nat, Jvm.Free.Multi.outerC c N h0 i = arrV c N (fun j => va_rf (if j < i then some (h0 + 1 + j) else none))
  | 0 => by
    show ({ cls := c, slots := Array.replicate N .null, vm := .none } : Cell) = _
    rw [arrV_new]
    refine congrArg (arrV c N) (funext fun j => ?_)
    simp [va_rf]
  | i + 1 => by
    show (Jvm.Free.Multi.outerC c N h0 i).setSlot i (.ref (h0 + 1 + i)) = _
    rw [vr_outer c N h0 i, arrV_store]
    refine congrArg (arrV c N) (funext fun j => ?_)
    by_cases e : j = i
    · subst e
      simp [updV, va_rf]
    · by_cases h : j < i
      · simp [updV, e, h, Nat.lt_succ_of_lt h]
      · simp [updV, e, h, show ¬ j < i + 1 by omega]

/-! ===== BEGIN exceptions that leave a method, and their catching by the caller (launches without stack traces) ===== -/
section VXA
/-! The laws vx_back, vx_callV, vx_callS, vx_callSW, vx_throw0, vx_throwS follow proofs of the library, with one case more: JvmDerived/Free/Laws.lean (Back.of_free), Shelf42/LK1.lean (callV, callS), Shelf/KitTraced.lean (throwNew0V, throwNewS). -/
/-- where a method has thrown q: the class by its name, the cell, what was written, the world -/
def vx_T (XC : String → State → State → Prop) (st : State) (q : Addr) (t : State) (mc ms : Nat) (free : Addr → Prop) : Prop :=
  ∃ (E : String) (ce : Cell) (L : List Loc), XC E st t ∧ t.heap[q]? = some ce ∧ ce.vm = .none ∧ st.vm.findClass E = some ce.cls ∧ st.WarmedH t.vm ∧ st.sameButNew ({ t with vm := st.vm } : State) L mc ms ∧ ∀ z ∈ L, free z.base
def vx_Q (Qc : Array Value → State → Outcome → State → Prop) (XC : String → State → State → Prop) (mc ms : Nat) (free : Addr → Prop) : Array Value → State → Outcome → State → Prop := fun a st o t =>
  (Qc a st o t ∧ ∃ L, FrameEnd st o t L mc ms ∧ ∀ q ∈ L, free q.base) ∨ ∃ q, o = .threw q ∧ vx_T XC st q t mc ms free
/-- a callee that returns or throws -/
def vx_Met (l : Launch) (y : MethodName) (ws : List Cond) (rm : Room) (Pc : Array Value → State → Prop) (Qc : Array Value → State → Outcome → State → Prop) (XC : String → State → State → Prop) (mc ms : Nat) (free : Addr → Prop) : Prop :=
  MetFree l y (headSpec ws rm) Pc (fun _ _ _ _ _ => True) (vx_Q Qc XC mc ms free)
def vx_Post (XC : String → State → State → Prop) (mc ms : Nat) (free : Addr → Prop) : Pt → Array Value → Addr → Pt → Prop := fun A a q B =>
  ∃ (g : JFrame) (mk : MethodId) (t : State) (L : List Loc) (E : String) (ce : Cell), B.U.heap = t.heap ∧ B.U.vm = t.vm ∧ XC E (A.U.calling g mk a) t ∧ t.heap[q]? = some ce ∧ ce.vm = .none ∧ A.U.vm.findClass E = some ce.cls ∧ B.locs = A.locs ++ L ∧ (∀ z ∈ L, free z.base) ∧ B.cells = A.cells + mc ∧ B.slots = A.slots + ms
def vx_Back (l : Launch) (R : Room) (p : Program) (e : Env) (below : List Frame) (s : State) (sargs : Array Value) (y : MethodName) (len W9 : Nat)
    (Pre : Pt → Array Value → Prop) (Post : Pt → Array Value → Option Value → Pt → Prop) (PostX : Pt → Array Value → Addr → Pt → Prop) : Prop :=
  ∀ (m : MethodId) (meth : Method) (c : Code) (A : Pt) (g : JFrame) (ig : Instr) (mk : MethodId) (a : Array Value),
    Stand p l e R s m sargs below meth c A.U A.locs A.cells A.slots → g.method = m → g.locals.size = c.maxLocals → decode c.code g.pc = .ok (ig, len) →
    2 * g.monitorRoom + (g.stack.map fun v => v.category).sum ≤ W9 → A.U.methodNamed? y = some mk → Pre A a →
    (∃ (v : Option Value) (B : Pt), Stand p l e R s m sargs below meth c B.U B.locs B.cells B.slots ∧ Post A a v B ∧
      Steps p.tables e below (doInvoke e (A.U.setTop g) [] mk a).1 (B.U.setTop { g with pc := g.pc + len, stack := v.toList ++ g.stack })) ∨
    (∃ (q : Addr) (B : Pt), Stand p l e R s m sargs below meth c B.U B.locs B.cells B.slots ∧ PostX A a q B ∧
      Steps p.tables e below (doInvoke e (A.U.setTop g) [] mk a).1 ((B.U.setTop g).pushFrame (.throwing q)))
section Payer
variable {l : Launch} {R : Room} {p : Program} {e : Env} {below : List Frame} {s : State} {sargs : Array Value} {y : MethodName} {len W9 : Nat}
theorem vx_back {ws : List Cond} {rm : Room} {Pc : Array Value → State → Prop} {Qc : Array Value → State → Outcome → State → Prop} {XC : String → State → State → Prop} {mc ms : Nat} {free : Addr → Prop} {bytes : ByteArray} {maxL : Nat} {ret : Option FieldType}
    (hM : vx_Met l y ws rm Pc Qc XC mc ms free) (hblind : FrameBlind Pc) (hrc : rm.cells = mc) (hrs : rm.slots = ms)
    (hframes : rm.frames + 1 ≤ R.frames) (hlocals : W9 + (maxL + 11) + rm.locals ≤ R.locals)
    (hws : ∀ w ∈ ws, ∀ a' U, s.WarmedH U.vm → w.before a' U = true) (hcode : Cond.code y bytes maxL ret ∈ ws) (hinit : ∀ a' U, s.WarmedH U.vm → (Cond.initialized y.cls).before a' U = true) :
    vx_Back l R p e below s sargs y len W9 (PreOf R mc ms Pc) (PostOf Qc mc ms free) (vx_Post XC mc ms free) := by
  intro m meth c A g ig mk a X hg hsize hdg hW hn hp
  have h1 : (headSpec ws rm).pre.before a A.U = true := atoms_intro fun w hw => hws w hw _ _ X.warmed
  have h2 : (Cond.code y bytes maxL ret).before a A.U = true := hws _ hcode _ _ X.warmed
  have h3 : (Cond.initialized y.cls).before a A.U = true := hinit _ _ X.warmed
  have h4 : A.cells + (headSpec ws rm).room.cells ≤ R.cells := by rw [show (headSpec ws rm).room.cells = mc from hrc]; exact hp.1
  have h5 : A.slots + (headSpec ws rm).room.slots ≤ R.slots := by rw [show (headSpec ws rm).room.slots = ms from hrs]; exact hp.2.1
  have hPc : Pc a (A.U.calling g mk a) := hblind _ _ _ _ hp.2.2
  obtain ⟨U, Ls, c0, s0⟩ := A
  dsimp only [Pt.U, Pt.locs, Pt.cells, Pt.slots] at h1 h2 h3 h4 h5 X hn hPc ⊢
  obtain ⟨methY, cY, hmY, hcY, -, hlY, -, -, -, -⟩ := Cond.code_spec hn h2
  obtain ⟨kY, hkY, -⟩ := className_of_methodNamed hn
  have hinitY : kY.init = .initialized := Cond.initialized_spec (findClass_of_methodNamed hn) hkY h3
  have h : At U g.method c below := by rw [hg]; exact X.here
  have hlocals9 : W9 + (maxL + 11) + (headSpec ws rm).room.locals ≤ R.locals := hlocals
  have happ : (headSpec ws rm).appliesLoose y e.platform (U.calling g mk a) = true :=
    Spec.appliesLoose_calling (g := g) h hdg hn hkY hinitY
      (X.room_calling (g := g) (R' := (headSpec ws rm).room) hsize hmY hcY hframes (by rw [hlY]; omega) h4 h5) h1
  obtain ⟨mid, hmid⟩ := h.above
  have hfr : (U.setTop g).frames = (.java g :: mid) ++ below := by rw [State.frames_setTop' g h.top, hmid]; rfl
  obtain ⟨o, s₂, hsteps, -, hend, hq⟩ := Steps.callFree hM p X.admits X.cas X.clock (acts := []) hfr happ hPc trivial
  have hq' : vx_Q Qc XC mc ms free a (U.calling g mk a) o s₂ := hq
  rw [State.frames_setTop' g h.top] at hend
  obtain ⟨g₀, hg0⟩ := Option.isSome_iff_exists.mp h.top
  obtain ⟨r, hr⟩ := State.topJava?_eq_some.mp hg0
  have hr' : (({ U with heap := s₂.heap, slotsUsed := s₂.slotsUsed } : State).setVm s₂.vm).frames = .java g₀ :: r := hr
  rcases hq' with ⟨hqc, L, hfe, hL⟩ | ⟨q, rfl, E, ce, L, hx, hce, hcv, hcl, hW₂, hsm, hL⟩
  · obtain ⟨⟨v, rfl⟩, hW₂, e2, q2, q3, q4, q5, q6⟩ := id hfe
    have e3 : s₂ = ({ (U.calling g mk a).setFrames s₂.frames with heap := s₂.heap, slotsUsed := s₂.slotsUsed } : State).setVm s₂.vm := by
      have : s₂ = ({ s₂ with vm := (U.calling g mk a).vm } : State).setVm s₂.vm := rfl
      rw [e2] at this
      exact this
    obtain ⟨c₂, i₂, len₂, hc₂, hd₂, hf₂⟩ := hend
    have hW' : U.WarmedH s₂.vm := hW₂
    have hcc : c₂ = c := by
      have h1 : s₂.code? g.method = U.code? g.method := by
        rw [State.code?_eq, State.code?_eq, hW'.alike.method?]
      exact Option.some.inj (hc₂.symm.trans (h1.trans h.code))
    subst hcc
    have hlen : len₂ = len := by rw [hdg] at hd₂; cases hd₂; rfl
    subst hlen
    have hs₂ : s₂ = (({ U with heap := s₂.heap, slotsUsed := s₂.slotsUsed } : State).setVm s₂.vm).setTop { g with pc := g.pc + len₂, stack := v.toList ++ g.stack } := by
      refine e3.trans ?_
      rw [hf₂, State.calling_eq h.top, State.setFrames_setFrames, State.setTop_of_frames _ hr', hr]
      rfl
    have hsame : U.sameButNew ({ U with heap := s₂.heap, slotsUsed := s₂.slotsUsed } : State) L mc ms := by
      refine ⟨?_, q2, q3, q4, q5, q6⟩
      obtain ⟨t, ht, -⟩ := State.frames_cons hr
      show ({ U with heap := s₂.heap, slotsUsed := s₂.slotsUsed } : State) = { U.setFrames U.frames with heap := s₂.heap, slotsUsed := s₂.slotsUsed }
      rw [State.setFrames_self ht]
    subst hg
    refine Or.inl ⟨v, ⟨(({ U with heap := s₂.heap, slotsUsed := s₂.slotsUsed } : State).setVm s₂.vm), Ls ++ L, c0 + mc, s0 + ms⟩,
      ⟨X.admits, X.cas, X.clock, X.frames, X.room, X.hears, X.method, X.code, (X.here.setHeapUsed s₂.heap s₂.slotsUsed).setVm hW'.alike, X.tail, State.WarmedH.trans X.warmed hW', X.limits, X.bytes, X.same.trans (hsame.setVm s.vm)⟩,
      ⟨g, mk, s₂, L, rfl, rfl, hqc, rfl, hL, rfl, rfl⟩, ?_⟩
    show Steps p.tables e below _ ((({ U with heap := s₂.heap, slotsUsed := s₂.slotsUsed } : State).setVm s₂.vm).setTop { g with pc := g.pc + len₂, stack := v.toList ++ g.stack })
    rw [← hs₂]
    exact hsteps
  · obtain ⟨e2, q2, q3, q4, q5, q6⟩ := id hsm
    have e3 : s₂ = ({ (U.calling g mk a).setFrames s₂.frames with heap := s₂.heap, slotsUsed := s₂.slotsUsed } : State).setVm s₂.vm := by
      have : s₂ = ({ s₂ with vm := (U.calling g mk a).vm } : State).setVm s₂.vm := rfl
      rw [e2] at this
      exact this
    have hf₂ : s₂.frames = .throwing q :: .java g :: U.frames.tail := hend
    have hW' : U.WarmedH s₂.vm := hW₂
    have hs₂ : s₂ = ((({ U with heap := s₂.heap, slotsUsed := s₂.slotsUsed } : State).setVm s₂.vm).setTop g).pushFrame (.throwing q) := by
      refine e3.trans ?_
      rw [hf₂, State.calling_eq h.top, State.setFrames_setFrames, State.pushFrame, State.frames_setTop _ hr', State.setTop_of_frames _ hr', State.setFrames_setFrames, hr]
      rfl
    have hsame : U.sameButNew ({ U with heap := s₂.heap, slotsUsed := s₂.slotsUsed } : State) L mc ms := by
      refine ⟨?_, q2, q3, q4, q5, q6⟩
      obtain ⟨t, ht, -⟩ := State.frames_cons hr
      show ({ U with heap := s₂.heap, slotsUsed := s₂.slotsUsed } : State) = { U.setFrames U.frames with heap := s₂.heap, slotsUsed := s₂.slotsUsed }
      rw [State.setFrames_self ht]
    subst hg
    refine Or.inr ⟨q, ⟨(({ U with heap := s₂.heap, slotsUsed := s₂.slotsUsed } : State).setVm s₂.vm), Ls ++ L, c0 + mc, s0 + ms⟩,
      ⟨X.admits, X.cas, X.clock, X.frames, X.room, X.hears, X.method, X.code, (X.here.setHeapUsed s₂.heap s₂.slotsUsed).setVm hW'.alike, X.tail, State.WarmedH.trans X.warmed hW', X.limits, X.bytes, X.same.trans (hsame.setVm s.vm)⟩,
      ⟨g, mk, s₂, L, E, ce, rfl, rfl, hx, hce, hcv, hcl, rfl, hL, rfl, rfl⟩, ?_⟩
    show Steps p.tables e below _ (((({ U with heap := s₂.heap, slotsUsed := s₂.slotsUsed } : State).setVm s₂.vm).setTop g).pushFrame (.throwing q))
    rw [← hs₂]
    exact hsteps
end Payer
section Calls
variable {p : Program} {l : Launch} {e : Env} {R : Room} {s : State} {m : MethodId} {args : Array Value} {below : List Frame} {meth : Method} {c : Code} {T : State} {locs : List Loc} {cells slots : Nat}
theorem vx_callV (X : Stand p l e R s m args below meth c T locs cells slots) (hexec : p.tables.exec = Jvm.exec) {own C : String} {index : Nat} {y : MethodName} {bytes : ByteArray} {maxL : Nat} {ret : Option FieldType}
    (hown : s.vm.findClass own = some m.cls) (hlink : (Cond.methodLink own index y).before args s = true) (hinst : (Cond.instanceMethod y).before args s = true) (hsel : (Cond.selects C y y).before args s = true)
    (hcode : (Cond.code y bytes maxL ret).before args s = true) (hy : y.cls ≠ "java/lang/invoke/MethodHandle" ∧ y.cls ≠ "java/lang/invoke/VarHandle")
    {W9 : Nat} {Pre : Pt → Array Value → Prop} {Post : Pt → Array Value → Option Value → Pt → Prop} {PostX : Pt → Array Value → Addr → Pt → Prop} (hK : vx_Back l R p e below s args y 3 W9 Pre Post PostX)
    {b : Addr} {cellB : Cell} (hcell : T.heap[b]? = some cellB) (hobj : cellB.vm.isStatics = false) (hcls : s.vm.findClass C = some cellB.cls)
    {g : JFrame} (hg : g.method = m) (hsize : g.locals.size = c.maxLocals) {argsL rest : List Value} (hlen : ∀ sig, parseMethodDescriptor y.desc = some sig → argsL.length = sig.parameters.length)
    (hstack : g.stack = argsL.reverse ++ .ref b :: rest) (hW : 2 * g.monitorRoom + (rest.map fun v => v.category).sum ≤ W9) (hdg : decode c.code g.pc = .ok (.invokevirtual index, 3))
    (hpre : ∀ vm₁, s.WarmedH vm₁ → Pre ⟨T.setVm vm₁, locs, cells, slots⟩ (Value.ref b :: argsL).toArray) :
    (∃ (v : Option Value) (vm₁ : Vm) (B : Pt), s.WarmedH vm₁ ∧ Stand p l e R s m args below meth c B.U B.locs B.cells B.slots ∧ Post ⟨T.setVm vm₁, locs, cells, slots⟩ (Value.ref b :: argsL).toArray v B ∧
      ∀ target, Steps p.tables e below (B.U.setTop { g with pc := g.pc + 3, stack := v.toList ++ rest }) target → Steps p.tables e below (T.setTop g) target) ∨
    (∃ (q : Addr) (vm₁ : Vm) (B : Pt), s.WarmedH vm₁ ∧ Stand p l e R s m args below meth c B.U B.locs B.cells B.slots ∧ PostX ⟨T.setVm vm₁, locs, cells, slots⟩ (Value.ref b :: argsL).toArray q B ∧
      Steps p.tables e below (T.setTop g) ((B.U.setTop { g with stack := rest }).pushFrame (.throwing q))) := by
  obtain ⟨mk, methM, hnamed, hmethM, hstM, habM⟩ := Cond.instanceMethod_spec hinst
  obtain ⟨methM', cM, hmethM', -, -, -, -, -, -, hsigM⟩ := Cond.code_spec hnamed hcode
  cases hmethM.symm.trans hmethM'
  obtain ⟨c2, r2, m2, q1, q2, q3, q4, kP, hkP, hkPi⟩ := Cond.selects_spec hsel
  cases hcls.symm.trans q1
  cases (State.methodFound?_of_named hnamed hy).symm.trans q2
  cases hnamed.symm.trans q3
  have hselP : selectMethod e.platform s.vm cellB.cls mk = .method mk := by rw [Launch.admits_selectMethod X.admits]; exact q4
  obtain ⟨vm₁, X₁, hstep₁⟩ := X.invokevirtual hexec hown hlink hnamed hmethM hstM hkP hkPi hy (a := b) (cell := cellB) hcell
    (fun z h => by rw [h] at hobj; cases hobj) hselP hmethM habM hkP hkPi (g := g) hg (argsL := argsL) (rest := rest) (hlen _ hsigM) hstack hdg
  rcases hK m meth c ⟨T.setVm vm₁, locs, cells, slots⟩ { g with stack := rest } (.invokevirtual index) mk (Value.ref b :: argsL).toArray X₁ hg hsize hdg hW (X₁.named hnamed) (hpre vm₁ X₁.warmed) with ⟨v, B, X', hpost, hsteps⟩ | ⟨q, B, X', hpost, hsteps⟩
  · exact Or.inl ⟨v, vm₁, B, X₁.warmed, X', hpost, fun target h => hstep₁ _ fun acts => by rw [doInvoke_state]; exact hsteps.trans h⟩
  · exact Or.inr ⟨q, vm₁, B, X₁.warmed, X', hpost, hstep₁ _ fun acts => by rw [doInvoke_state]; exact hsteps⟩
theorem vx_callS (X : Stand p l e R s m args below meth c T locs cells slots) (hexec : p.tables.exec = Jvm.exec) {own : String} {index : Nat} {y : MethodName} {bytes : ByteArray} {maxL : Nat} {ret : Option FieldType}
    (hown : s.vm.findClass own = some m.cls) (hlink : (Cond.methodLink own index y).before args s = true) (hstat : (Cond.static y).before args s = true) (hinit : (Cond.initialized y.cls).before args s = true)
    (hcode : (Cond.code y bytes maxL ret).before args s = true) (hy : y.cls ≠ "java/lang/invoke/MethodHandle" ∧ y.cls ≠ "java/lang/invoke/VarHandle")
    {W9 : Nat} {Pre : Pt → Array Value → Prop} {Post : Pt → Array Value → Option Value → Pt → Prop} {PostX : Pt → Array Value → Addr → Pt → Prop} (hK : vx_Back l R p e below s args y 3 W9 Pre Post PostX)
    {g : JFrame} (hg : g.method = m) (hsize : g.locals.size = c.maxLocals) {argsL rest : List Value} (hlen : ∀ sig, parseMethodDescriptor y.desc = some sig → argsL.length = sig.parameters.length)
    (hstack : g.stack = argsL.reverse ++ rest) (hW : 2 * g.monitorRoom + (rest.map fun v => v.category).sum ≤ W9) (hdg : decode c.code g.pc = .ok (.invokestatic index, 3))
    (hpre : ∀ vm₁, s.WarmedH vm₁ → Pre ⟨T.setVm vm₁, locs, cells, slots⟩ argsL.toArray) :
    (∃ (v : Option Value) (vm₁ : Vm) (B : Pt), s.WarmedH vm₁ ∧ Stand p l e R s m args below meth c B.U B.locs B.cells B.slots ∧ Post ⟨T.setVm vm₁, locs, cells, slots⟩ argsL.toArray v B ∧
      ∀ target, Steps p.tables e below (B.U.setTop { g with pc := g.pc + 3, stack := v.toList ++ rest }) target → Steps p.tables e below (T.setTop g) target) ∨
    (∃ (q : Addr) (vm₁ : Vm) (B : Pt), s.WarmedH vm₁ ∧ Stand p l e R s m args below meth c B.U B.locs B.cells B.slots ∧ PostX ⟨T.setVm vm₁, locs, cells, slots⟩ argsL.toArray q B ∧
      Steps p.tables e below (T.setTop g) ((B.U.setTop { g with stack := rest }).pushFrame (.throwing q))) := by
  obtain ⟨mk, hnamed⟩ := Cond.code_named hcode
  obtain ⟨methM, cM, hmethM, -, -, -, -, -, -, hsigM⟩ := Cond.code_spec hnamed hcode
  have hstatic : methM.isStatic = true := Cond.static_spec hnamed hmethM hstat
  obtain ⟨kP, hkP, -⟩ := className_of_methodNamed hnamed
  have hinitP : kP.init = .initialized := Cond.initialized_spec (findClass_of_methodNamed hnamed) hkP hinit
  obtain ⟨vm₁, X₁, hstep₁⟩ := X.invokestatic hexec hown hlink hnamed hmethM hstatic hkP hinitP hy (g := g) hg (argsL := argsL) (rest := rest) (hlen _ hsigM) hstack hdg
  rcases hK m meth c ⟨T.setVm vm₁, locs, cells, slots⟩ { g with stack := rest } (.invokestatic index) mk argsL.toArray X₁ hg hsize hdg hW (X₁.named hnamed) (hpre vm₁ X₁.warmed) with ⟨v, B, X', hpost, hsteps⟩ | ⟨q, B, X', hpost, hsteps⟩
  · exact Or.inl ⟨v, vm₁, B, X₁.warmed, X', hpost, fun target h => hstep₁ _ fun acts => by rw [doInvoke_state]; exact hsteps.trans h⟩
  · exact Or.inr ⟨q, vm₁, B, X₁.warmed, X', hpost, hstep₁ _ fun acts => by rw [doInvoke_state]; exact hsteps⟩
end Calls
theorem vx_cls {s : State} {T : State} {vm₁ : Vm} {E : String} {k : ClassId} (hW : s.WarmedH vm₁) (h : (T.setVm vm₁).vm.findClass E = some k) : s.vm.findClass E = some k := by
  have h1 : vm₁.findClass E = some k := h
  rw [hW.alike.findClass] at h1
  exact h1
/-- the method's frame g, with q thrown over it -/
def vx_W (p : Program) (l : Launch) (e : Env) (R : Room) (s : State) (m : MethodId) (args : Array Value) (below : List Frame) (meth : Method) (c : Code) (H : Heap) (locs : List Loc) (cells slots : Nat) (Q : State → Prop) (g : JFrame) (q : Addr) : Prop :=
  ∀ T : State, T.heap = H → Stand p l e R s m args below meth c T locs cells slots → ∃ t, Steps p.tables e below ((T.setTop g).pushFrame (.throwing q)) t ∧ Q t
def vx_Run (p : Program) (l : Launch) (e : Env) (R : Room) (s : State) (m : MethodId) (args : Array Value) (below : List Frame) (meth : Method) (c : Code) (H : Heap) (locs : List Loc) (cells slots mc ms : Nat) (g : JFrame) (rest : List Value) (Qa : State → Outcome → State → Prop) (XC : String → State → State → Prop) (free : Addr → Prop) : Prop :=
  ∀ T : State, T.heap = H → Stand p l e R s m args below meth c T locs cells slots →
    (∃ (v : Option Value) (st₀ t T' : State) (L : List Loc), st₀.heap = H ∧ Stand p l e R s m args below meth c T' (locs ++ L) (cells + mc) (slots + ms) ∧ (∀ q ∈ L, free q.base) ∧ T'.heap = t.heap ∧ T'.vm = t.vm ∧ Qa st₀ (.returned v) t ∧
      Goes p e below T g T' { g with pc := g.pc + 3, stack := v.toList ++ rest }) ∨
    (∃ (q : Addr) (st₀ t T' : State) (L : List Loc) (E : String) (ce : Cell), st₀.heap = H ∧ Stand p l e R s m args below meth c T' (locs ++ L) (cells + mc) (slots + ms) ∧ (∀ z ∈ L, free z.base) ∧ T'.heap = t.heap ∧ T'.vm = t.vm ∧ XC E st₀ t ∧ t.heap[q]? = some ce ∧ ce.vm = .none ∧ s.vm.findClass E = some ce.cls ∧
      Steps p.tables e below (T.setTop g) ((T'.setTop { g with stack := rest }).pushFrame (.throwing q)))
def vx_X {S : Type} (px : S → Prop) (B : String → S → State → Prop) (A : Nat → Prop) : String → State → State → Prop := fun E st t => ∃ u : S, px u ∧ B E u t ∧ va_F A st t
section Runs
variable {p : Program} {l : Launch} {e : Env} {R : Room} {s : State} {m : MethodId} {args : Array Value} {below : List Frame} {meth : Method} {c : Code} {H : Heap} {locs : List Loc} {cells slots : Nat}
variable {y : MethodName} {bytes cc : ByteArray} {maxL nL mc ms n index : Nat} {ret : Option FieldType} {ws : List Cond} {rm : Room} {Pc : Array Value → State → Prop} {Qc : Array Value → State → Outcome → State → Prop} {XC : String → State → State → Prop} {free : Addr → Prop} {Ts : List Cond} {own C : String} {b : Addr} {As rest : List Value} {g : JFrame}
theorem vx_callBack (cb : CallB R s args own index y bytes maxL ret ws rm mc ms n) (hM : vx_Met l y ws rm Pc Qc XC mc ms free) (hbl : FrameBlind Pc) : vx_Back l R p e below s args y 3 8 (PreOf R mc ms Pc) (PostOf Qc mc ms free) (vx_Post XC mc ms free) := by
  obtain ⟨hrc, hrs, hfr, hlo, hws, hcw, -, hini, -⟩ := cb
  exact vx_back (bytes := bytes) (maxL := maxL) (ret := ret) hM hbl hrc hrs hfr hlo hws hcw (fun a' U hW => word_at hW (Or.inl (by first | rfl | simp [Cond.onTables, Cond.keeps, Cond.steady])) hini)
theorem vx_runV (S : CallFix p m c cc nL s args Ts own) (hM : vx_Met l y ws rm Pc Qc XC mc ms free) (cw : CallW R s args own C index y bytes maxL ret ws rm mc ms n) (hp : PreV s H C b Pc As)
    (hg : g.method = m) (hn : As.length = n) (hsize : g.locals.size = nL) (hstack : g.stack = As.reverse ++ .ref b :: rest) (hW : 2 * g.monitorRoom + (rest.map fun v => v.category).sum ≤ 8) (hdg : decode cc g.pc = .ok (.invokevirtual index, 3)) (hf : cells + mc ≤ R.cells ∧ slots + ms ≤ R.slots) :
    vx_Run p l e R s m args below meth c H locs cells slots mc ms g rest (Qc (Value.ref b :: As).toArray) XC free := by
  have hK : vx_Back l R p e below s args y 3 8 (PreOf R mc ms Pc) (PostOf Qc mc ms free) (vx_Post XC mc ms free) := vx_callBack cw.1 hM hp.1
  obtain ⟨⟨-, -, -, -, -, -, hcode, -, hy, hlen, hl⟩, hin, hse⟩ := cw
  obtain ⟨hx, hb, hml, ho, -⟩ := S
  obtain ⟨-, ⟨cellB, hcB, hoB, hclB⟩, hPc⟩ := hp
  intro T hT X
  rcases vx_callV X hx (C := C) (bytes := bytes) (maxL := maxL) (ret := ret) ho hl hin hse hcode hy hK (by rw [hT]; exact hcB) hoB hclB hg (hsize.trans hml.symm) (argsL := As) (rest := rest) (fun sig h => hn.trans (hlen sig h)) hstack hW (by rw [hb]; exact hdg)
    (fun vm₁ hW₁ => ⟨hf.1, hf.2, hPc (T.setVm vm₁) hT hW₁⟩) with ⟨v, vm₁, ⟨U', l2, c2, s2⟩, hW₁, X', ⟨g', mk, t, L, e1, e2, hq, h1, hL, h2, h3⟩, st⟩ | ⟨q, vm₁, ⟨U', l2, c2, s2⟩, hW₁, X', ⟨g', mk, t, L, E, ce, e1, e2, hq, hce, hcv, hcl, h1, hL, h2, h3⟩, st⟩
  · dsimp only [Pt.U, Pt.locs, Pt.cells, Pt.slots] at X' e1 e2 h1 h2 h3 st
    subst h1; subst h2; subst h3
    exact Or.inl ⟨v, (T.setVm vm₁).calling g' mk (Value.ref b :: As).toArray, t, U', L, hT, X', hL, e1, e2, hq, st⟩
  · dsimp only [Pt.U, Pt.locs, Pt.cells, Pt.slots] at X' e1 e2 h1 h2 h3 st hcl
    subst h1; subst h2; subst h3
    exact Or.inr ⟨q, (T.setVm vm₁).calling g' mk (Value.ref b :: As).toArray, t, U', L, E, ce, hT, X', hL, e1, e2, hq, hce, hcv, vx_cls hW₁ hcl, st⟩
theorem vx_runS (S : CallFix p m c cc nL s args Ts own) (hM : vx_Met l y ws rm Pc Qc XC mc ms free) (cw : CallB R s args own index y bytes maxL ret ws rm mc ms n ∧ (Cond.static y).before args s = true) (hp : PreS s H Pc As)
    (hg : g.method = m) (hn : As.length = n) (hsize : g.locals.size = nL) (hstack : g.stack = As.reverse ++ rest) (hW : 2 * g.monitorRoom + (rest.map fun v => v.category).sum ≤ 8) (hdg : decode cc g.pc = .ok (.invokestatic index, 3)) (hf : cells + mc ≤ R.cells ∧ slots + ms ≤ R.slots) :
    vx_Run p l e R s m args below meth c H locs cells slots mc ms g rest (Qc As.toArray) XC free := by
  have hK : vx_Back l R p e below s args y 3 8 (PreOf R mc ms Pc) (PostOf Qc mc ms free) (vx_Post XC mc ms free) := vx_callBack cw.1 hM hp.1
  obtain ⟨⟨-, -, -, -, -, -, hcode, hini, hy, hlen, hl⟩, hstt⟩ := cw
  obtain ⟨hx, hb, hml, ho, -⟩ := S
  intro T hT X
  rcases vx_callS X hx (bytes := bytes) (maxL := maxL) (ret := ret) ho hl hstt hini hcode hy hK hg (hsize.trans hml.symm) (argsL := As) (rest := rest) (fun sig h => hn.trans (hlen sig h)) hstack hW (by rw [hb]; exact hdg)
    (fun vm₁ hW₁ => ⟨hf.1, hf.2, hp.2 (T.setVm vm₁) hT hW₁⟩) with ⟨v, vm₁, ⟨U', l2, c2, s2⟩, hW₁, X', ⟨g', mk, t, L, e1, e2, hq, h1, hL, h2, h3⟩, st⟩ | ⟨q, vm₁, ⟨U', l2, c2, s2⟩, hW₁, X', ⟨g', mk, t, L, E, ce, e1, e2, hq, hce, hcv, hcl, h1, hL, h2, h3⟩, st⟩
  · dsimp only [Pt.U, Pt.locs, Pt.cells, Pt.slots] at X' e1 e2 h1 h2 h3 st
    subst h1; subst h2; subst h3
    exact Or.inl ⟨v, (T.setVm vm₁).calling g' mk As.toArray, t, U', L, hT, X', hL, e1, e2, hq, st⟩
  · dsimp only [Pt.U, Pt.locs, Pt.cells, Pt.slots] at X' e1 e2 h1 h2 h3 st hcl
    subst h1; subst h2; subst h3
    exact Or.inr ⟨q, (T.setVm vm₁).calling g' mk As.toArray, t, U', L, E, ce, hT, X', hL, e1, e2, hq, hce, hcv, vx_cls hW₁ hcl, st⟩
end Runs
section Rows
variable {p : Program} {l : Launch} {e : Env} {R : Room} {s : State} {m : MethodId} {args : Array Value} {below : List Frame} {meth : Method} {c : Code} {H : Heap} {locs : List Loc} {cells slots : Nat} {Q : State → Prop}
variable {mc ms : Nat} {free : Addr → Prop} {A0 A1 : Nat → Prop} {H0 : Heap} {a : Array Value} {pc : Nat} {ls : Array Slot} {st0 rest : List Value}
theorem vx_keep {st₀ t T' : State} {L : List Loc} (h0 : st₀.heap = H) (e1 : T'.heap = t.heap) (hS : va_S A0 H0 H locs) (hA : ∀ q, q < H.size → A1 q → A0 q) (hf : ∀ q, free q → A0 q) (hL : ∀ q ∈ L, free q.base) (hF : va_F A1 st₀ t) :
    H.size ≤ T'.heap.size ∧ (∀ q : Nat, q < H.size → ¬ A1 q → T'.heap[q]? = H[q]?) ∧ va_S A0 H0 T'.heap (locs ++ L) := by
  obtain ⟨hz, hk⟩ := hF
  rw [h0] at hz hk
  exact ⟨by rw [e1]; exact hz, fun q h1 h2 => by rw [e1]; exact hk q h1 h2,
    ⟨Nat.le_trans hS.1 (by rw [e1]; exact hz), fun q h1 h2 => by rw [e1, hk q (Nat.lt_of_lt_of_le h1 hS.1) (fun z => h2 (hA q (Nat.lt_of_lt_of_le h1 hS.1) z))]; exact hS.2.1 q h1 h2, fun q hq => by
      rcases List.mem_append.mp hq with h | h
      · exact hS.2.2 q h
      · exact hf _ (hL q h)⟩⟩
theorem vx_calli {S SX : Type} {post : Int32 → S → Prop} {px : SX → Prop} {B : S → State → Prop} {BX : String → SX → State → Prop} {AX : Nat → Prop} (hr : vx_Run p l e R s m args below meth c H locs cells slots mc ms (F0 m pc ls st0) rest (va_Qi post B A1 a) (vx_X px BX AX) free) (hS : va_S A0 H0 H locs) (hA : ∀ q, q < H.size → A1 q → A0 q) (hf : ∀ q, free q → A0 q) (hAX : ∀ q, q < H.size → AX q → A0 q)
    (kx : ∀ (E : String) (ce : Cell) (q9 : Addr) (u : SX) (t : State) (H1 : Heap) (locs1 : List Loc), t.heap = H1 → s.vm.Alike t.vm → px u → BX E u t → H.size ≤ H1.size → (∀ q : Nat, q < H.size → ¬ AX q → H1[q]? = H[q]?) → va_S A0 H0 H1 locs1 → H1[q9]? = some ce → ce.vm = .none → s.vm.findClass E = some ce.cls → vx_W p l e R s m args below meth c H1 locs1 (cells + mc) (slots + ms) Q (F0 m pc ls rest) q9)
    (kk : ∀ (r : Int32) (u : S) (t : State) (H1 : Heap) (locs1 : List Loc), t.heap = H1 → s.vm.Alike t.vm → post r u → B u t → H.size ≤ H1.size → (∀ q : Nat, q < H.size → ¬ A1 q → H1[q]? = H[q]?) → va_S A0 H0 H1 locs1 → W p l e R s m args below meth c H1 locs1 (cells + mc) (slots + ms) Q (F0 m (pc + 3) ls (.int r :: rest))) : W p l e R s m args below meth c H locs cells slots Q (F0 m pc ls st0) := by
  intro T hT X
  rcases hr T hT X with ⟨v, st₀, t, T', L, h0, X', hL, e1, e2, ⟨⟨r, u, hv, hp, hb⟩, hF⟩, st⟩ | ⟨q, st₀, t, T', L, E, ce, h0, X', hL, e1, e2, ⟨u, hp, hb, hF⟩, hce, hcv, hcl, st⟩
  · cases hv
    obtain ⟨k1, k2, k3⟩ := vx_keep h0 e1 hS hA hf hL hF
    obtain ⟨t2, a1, b1⟩ := kk r u t T'.heap (locs ++ L) e1.symm (by rw [← e2]; exact X'.warmed.alike) hp hb k1 k2 k3 T' rfl X'
    exact ⟨t2, st t2 a1, b1⟩
  · obtain ⟨k1, k2, k3⟩ := vx_keep h0 e1 hS hAX hf hL hF
    obtain ⟨t2, a1, b1⟩ := kx E ce q u t T'.heap (locs ++ L) e1.symm (by rw [← e2]; exact X'.warmed.alike) hp hb k1 k2 k3 (by rw [e1]; exact hce) hcv hcl T' rfl X'
    exact ⟨t2, st.trans a1, b1⟩
theorem vx_calll {S SX : Type} {post : Int64 → S → Prop} {px : SX → Prop} {B : S → State → Prop} {BX : String → SX → State → Prop} {AX : Nat → Prop} (hr : vx_Run p l e R s m args below meth c H locs cells slots mc ms (F0 m pc ls st0) rest (va_Ql post B A1 a) (vx_X px BX AX) free) (hS : va_S A0 H0 H locs) (hA : ∀ q, q < H.size → A1 q → A0 q) (hf : ∀ q, free q → A0 q) (hAX : ∀ q, q < H.size → AX q → A0 q)
    (kx : ∀ (E : String) (ce : Cell) (q9 : Addr) (u : SX) (t : State) (H1 : Heap) (locs1 : List Loc), t.heap = H1 → s.vm.Alike t.vm → px u → BX E u t → H.size ≤ H1.size → (∀ q : Nat, q < H.size → ¬ AX q → H1[q]? = H[q]?) → va_S A0 H0 H1 locs1 → H1[q9]? = some ce → ce.vm = .none → s.vm.findClass E = some ce.cls → vx_W p l e R s m args below meth c H1 locs1 (cells + mc) (slots + ms) Q (F0 m pc ls rest) q9)
    (kk : ∀ (r : Int64) (u : S) (t : State) (H1 : Heap) (locs1 : List Loc), t.heap = H1 → s.vm.Alike t.vm → post r u → B u t → H.size ≤ H1.size → (∀ q : Nat, q < H.size → ¬ A1 q → H1[q]? = H[q]?) → va_S A0 H0 H1 locs1 → W p l e R s m args below meth c H1 locs1 (cells + mc) (slots + ms) Q (F0 m (pc + 3) ls (.long r :: rest))) : W p l e R s m args below meth c H locs cells slots Q (F0 m pc ls st0) := by
  intro T hT X
  rcases hr T hT X with ⟨v, st₀, t, T', L, h0, X', hL, e1, e2, ⟨⟨r, u, hv, hp, hb⟩, hF⟩, st⟩ | ⟨q, st₀, t, T', L, E, ce, h0, X', hL, e1, e2, ⟨u, hp, hb, hF⟩, hce, hcv, hcl, st⟩
  · cases hv
    obtain ⟨k1, k2, k3⟩ := vx_keep h0 e1 hS hA hf hL hF
    obtain ⟨t2, a1, b1⟩ := kk r u t T'.heap (locs ++ L) e1.symm (by rw [← e2]; exact X'.warmed.alike) hp hb k1 k2 k3 T' rfl X'
    exact ⟨t2, st t2 a1, b1⟩
  · obtain ⟨k1, k2, k3⟩ := vx_keep h0 e1 hS hAX hf hL hF
    obtain ⟨t2, a1, b1⟩ := kx E ce q u t T'.heap (locs ++ L) e1.symm (by rw [← e2]; exact X'.warmed.alike) hp hb k1 k2 k3 (by rw [e1]; exact hce) hcv hcl T' rfl X'
    exact ⟨t2, st.trans a1, b1⟩
theorem vx_callf {S SX : Type} {post : UInt32 → S → Prop} {px : SX → Prop} {B : S → State → Prop} {BX : String → SX → State → Prop} {AX : Nat → Prop} (hr : vx_Run p l e R s m args below meth c H locs cells slots mc ms (F0 m pc ls st0) rest (va_Qf post B A1 a) (vx_X px BX AX) free) (hS : va_S A0 H0 H locs) (hA : ∀ q, q < H.size → A1 q → A0 q) (hf : ∀ q, free q → A0 q) (hAX : ∀ q, q < H.size → AX q → A0 q)
    (kx : ∀ (E : String) (ce : Cell) (q9 : Addr) (u : SX) (t : State) (H1 : Heap) (locs1 : List Loc), t.heap = H1 → s.vm.Alike t.vm → px u → BX E u t → H.size ≤ H1.size → (∀ q : Nat, q < H.size → ¬ AX q → H1[q]? = H[q]?) → va_S A0 H0 H1 locs1 → H1[q9]? = some ce → ce.vm = .none → s.vm.findClass E = some ce.cls → vx_W p l e R s m args below meth c H1 locs1 (cells + mc) (slots + ms) Q (F0 m pc ls rest) q9)
    (kk : ∀ (r : UInt32) (u : S) (t : State) (H1 : Heap) (locs1 : List Loc), t.heap = H1 → s.vm.Alike t.vm → post r u → B u t → H.size ≤ H1.size → (∀ q : Nat, q < H.size → ¬ A1 q → H1[q]? = H[q]?) → va_S A0 H0 H1 locs1 → W p l e R s m args below meth c H1 locs1 (cells + mc) (slots + ms) Q (F0 m (pc + 3) ls (.float r :: rest))) : W p l e R s m args below meth c H locs cells slots Q (F0 m pc ls st0) := by
  intro T hT X
  rcases hr T hT X with ⟨v, st₀, t, T', L, h0, X', hL, e1, e2, ⟨⟨r, u, hv, hp, hb⟩, hF⟩, st⟩ | ⟨q, st₀, t, T', L, E, ce, h0, X', hL, e1, e2, ⟨u, hp, hb, hF⟩, hce, hcv, hcl, st⟩
  · cases hv
    obtain ⟨k1, k2, k3⟩ := vx_keep h0 e1 hS hA hf hL hF
    obtain ⟨t2, a1, b1⟩ := kk r u t T'.heap (locs ++ L) e1.symm (by rw [← e2]; exact X'.warmed.alike) hp hb k1 k2 k3 T' rfl X'
    exact ⟨t2, st t2 a1, b1⟩
  · obtain ⟨k1, k2, k3⟩ := vx_keep h0 e1 hS hAX hf hL hF
    obtain ⟨t2, a1, b1⟩ := kx E ce q u t T'.heap (locs ++ L) e1.symm (by rw [← e2]; exact X'.warmed.alike) hp hb k1 k2 k3 (by rw [e1]; exact hce) hcv hcl T' rfl X'
    exact ⟨t2, st.trans a1, b1⟩
theorem vx_calld {S SX : Type} {post : UInt64 → S → Prop} {px : SX → Prop} {B : S → State → Prop} {BX : String → SX → State → Prop} {AX : Nat → Prop} (hr : vx_Run p l e R s m args below meth c H locs cells slots mc ms (F0 m pc ls st0) rest (va_Qd post B A1 a) (vx_X px BX AX) free) (hS : va_S A0 H0 H locs) (hA : ∀ q, q < H.size → A1 q → A0 q) (hf : ∀ q, free q → A0 q) (hAX : ∀ q, q < H.size → AX q → A0 q)
    (kx : ∀ (E : String) (ce : Cell) (q9 : Addr) (u : SX) (t : State) (H1 : Heap) (locs1 : List Loc), t.heap = H1 → s.vm.Alike t.vm → px u → BX E u t → H.size ≤ H1.size → (∀ q : Nat, q < H.size → ¬ AX q → H1[q]? = H[q]?) → va_S A0 H0 H1 locs1 → H1[q9]? = some ce → ce.vm = .none → s.vm.findClass E = some ce.cls → vx_W p l e R s m args below meth c H1 locs1 (cells + mc) (slots + ms) Q (F0 m pc ls rest) q9)
    (kk : ∀ (r : UInt64) (u : S) (t : State) (H1 : Heap) (locs1 : List Loc), t.heap = H1 → s.vm.Alike t.vm → post r u → B u t → H.size ≤ H1.size → (∀ q : Nat, q < H.size → ¬ A1 q → H1[q]? = H[q]?) → va_S A0 H0 H1 locs1 → W p l e R s m args below meth c H1 locs1 (cells + mc) (slots + ms) Q (F0 m (pc + 3) ls (.double r :: rest))) : W p l e R s m args below meth c H locs cells slots Q (F0 m pc ls st0) := by
  intro T hT X
  rcases hr T hT X with ⟨v, st₀, t, T', L, h0, X', hL, e1, e2, ⟨⟨r, u, hv, hp, hb⟩, hF⟩, st⟩ | ⟨q, st₀, t, T', L, E, ce, h0, X', hL, e1, e2, ⟨u, hp, hb, hF⟩, hce, hcv, hcl, st⟩
  · cases hv
    obtain ⟨k1, k2, k3⟩ := vx_keep h0 e1 hS hA hf hL hF
    obtain ⟨t2, a1, b1⟩ := kk r u t T'.heap (locs ++ L) e1.symm (by rw [← e2]; exact X'.warmed.alike) hp hb k1 k2 k3 T' rfl X'
    exact ⟨t2, st t2 a1, b1⟩
  · obtain ⟨k1, k2, k3⟩ := vx_keep h0 e1 hS hAX hf hL hF
    obtain ⟨t2, a1, b1⟩ := kx E ce q u t T'.heap (locs ++ L) e1.symm (by rw [← e2]; exact X'.warmed.alike) hp hb k1 k2 k3 (by rw [e1]; exact hce) hcv hcl T' rfl X'
    exact ⟨t2, st.trans a1, b1⟩
theorem vx_callv {S SX : Type} {post : S → Prop} {px : SX → Prop} {B : S → State → Prop} {BX : String → SX → State → Prop} {AX : Nat → Prop} (hr : vx_Run p l e R s m args below meth c H locs cells slots mc ms (F0 m pc ls st0) rest (va_Qv post B A1 a) (vx_X px BX AX) free) (hS : va_S A0 H0 H locs) (hA : ∀ q, q < H.size → A1 q → A0 q) (hf : ∀ q, free q → A0 q) (hAX : ∀ q, q < H.size → AX q → A0 q)
    (kx : ∀ (E : String) (ce : Cell) (q9 : Addr) (u : SX) (t : State) (H1 : Heap) (locs1 : List Loc), t.heap = H1 → s.vm.Alike t.vm → px u → BX E u t → H.size ≤ H1.size → (∀ q : Nat, q < H.size → ¬ AX q → H1[q]? = H[q]?) → va_S A0 H0 H1 locs1 → H1[q9]? = some ce → ce.vm = .none → s.vm.findClass E = some ce.cls → vx_W p l e R s m args below meth c H1 locs1 (cells + mc) (slots + ms) Q (F0 m pc ls rest) q9)
    (kk : ∀ (u : S) (t : State) (H1 : Heap) (locs1 : List Loc), t.heap = H1 → s.vm.Alike t.vm → post u → B u t → H.size ≤ H1.size → (∀ q : Nat, q < H.size → ¬ A1 q → H1[q]? = H[q]?) → va_S A0 H0 H1 locs1 → W p l e R s m args below meth c H1 locs1 (cells + mc) (slots + ms) Q (F0 m (pc + 3) ls (rest))) : W p l e R s m args below meth c H locs cells slots Q (F0 m pc ls st0) := by
  intro T hT X
  rcases hr T hT X with ⟨v, st₀, t, T', L, h0, X', hL, e1, e2, ⟨⟨u, hv, hp, hb⟩, hF⟩, st⟩ | ⟨q, st₀, t, T', L, E, ce, h0, X', hL, e1, e2, ⟨u, hp, hb, hF⟩, hce, hcv, hcl, st⟩
  · cases hv
    obtain ⟨k1, k2, k3⟩ := vx_keep h0 e1 hS hA hf hL hF
    obtain ⟨t2, a1, b1⟩ := kk u t T'.heap (locs ++ L) e1.symm (by rw [← e2]; exact X'.warmed.alike) hp hb k1 k2 k3 T' rfl X'
    exact ⟨t2, st t2 a1, b1⟩
  · obtain ⟨k1, k2, k3⟩ := vx_keep h0 e1 hS hAX hf hL hF
    obtain ⟨t2, a1, b1⟩ := kx E ce q u t T'.heap (locs ++ L) e1.symm (by rw [← e2]; exact X'.warmed.alike) hp hb k1 k2 k3 (by rw [e1]; exact hce) hcv hcl T' rfl X'
    exact ⟨t2, st.trans a1, b1⟩
/-- caught by the row x of this method's table; the rows ahead don't take it -/
theorem vx_catch {own name : String} {E : String} {ce : Cell} {q : Addr} (hown : s.vm.findClass own = some m.cls) (pre : List ExceptionTableEntry) (x : ExceptionTableEntry) (suf : List ExceptionTableEntry) (hsplit : c.exceptionTable.toList = pre ++ x :: suf)
    (hpass : ∀ z ∈ pre, covers z pc = false ∨ (z.catchType ≠ 0 ∧ ∃ nm : String, (Cond.classLink own z.catchType nm).before args s = true ∧ va_Nc E nm s)) (hx : covers x pc = true) (h0 : x.catchType ≠ 0)
    (hlink : (Cond.classLink own x.catchType name).before args s = true) (hcast : (Cond.castable E name).before args s = true) (hcell : H[q]? = some ce) (hv : ce.vm = .none) (hcl : s.vm.findClass E = some ce.cls)
    (kk : W p l e R s m args below meth c H locs cells slots Q (F0 m x.handlerPc ls [.ref q])) : vx_W p l e R s m args below meth c H locs cells slots Q (F0 m pc ls rest) q := by
  intro T hT X
  have hpl : e.platform.magicAccessors = ({} : Platform).magicAccessors := by rw [X.admits.platform]
  obtain ⟨c3, c4, hc3, hc4, hasg⟩ := Cond.castable_spec hcast
  cases Option.some.inj (hc3.symm.trans hcl)
  obtain ⟨c5, hc5, hcl5⟩ := Cond.classLink_spec hown hlink e.platform hpl
  cases Option.some.inj (hc4.symm.trans hc5)
  obtain ⟨vm', X', st⟩ := X.thenCaughtThrough q (g := F0 m pc ls rest) rfl (Steps.refl _) (by rw [hT]; exact hcell) (by rw [hv]; rfl) (by obtain ⟨k9, h9, -⟩ := Vm.findClass_spec hcl; exact ⟨k9, h9⟩) pre x suf hsplit
    (fun z hz => by
      rcases hpass z hz with h | ⟨hz0, nm, hl1, hn1⟩
      · exact Or.inl h
      · obtain ⟨c6, hc6, hcl6⟩ := Cond.classLink_spec hown hl1 e.platform hpl
        obtain ⟨a8, b8, h1, h2, h3⟩ := hn1
        cases Option.some.inj (h1.symm.trans hcl)
        cases Option.some.inj (h2.symm.trans hc6)
        exact Or.inr ⟨hz0, _, hcl6, h3⟩) hx (Or.inr ⟨h0, c4, hcl5, hasg⟩)
  obtain ⟨t, a1, b1⟩ := kk (T.setVm vm') hT X'
  exact ⟨t, st.trans a1, b1⟩
end Rows
section Ends
variable {p : Program} {l : Launch} {e : Env} {R : Room} {s : State} {m : MethodId} {args : Array Value} {below : List Frame} {meth : Method} {c : Code} {H : Heap} {locs : List Loc} {cells slots : Nat} {Q : State → Prop}
variable {mc ms : Nat} {free : Addr → Prop} {A0 A1 : Nat → Prop} {H0 : Heap} {a : Array Value} {ls : Array Slot} {st0 rest : List Value}
variable {Qc : Array Value → State → Outcome → State → Prop} {XC : String → State → State → Prop}
/-- what a body that may throw owes at its end -/
def vx_MQ (below : List Frame) (Qc : Array Value → State → Outcome → State → Prop) (XC : String → State → State → Prop) (a : Array Value) (s : State) (mc ms : Nat) (free : Addr → Prop) : State → Prop := fun t =>
  ∃ o, t.status = .running ∧ Ended t below o ∧ vx_Q Qc XC mc ms free a s o t
theorem vx_ret {g : JFrame} {mc ms : Nat} (k : W p l e R s m args below meth c H locs cells slots (MQ below Qc args s mc ms free) g) : W p l e R s m args below meth c H locs cells slots (vx_MQ below Qc XC args s mc ms free) g := by
  intro T hT X
  obtain ⟨t, a1, o, b1, b2, b3, b4⟩ := k T hT X
  exact ⟨t, a1, o, b1, b2, Or.inl ⟨b3, b4⟩⟩
/-- not caught here: it goes on to the caller -/
theorem vx_widen {g : JFrame} {q : Addr} {k n : Nat} (h1 : cells ≤ k) (h2 : slots ≤ n) (kk : vx_W p l e R s m args below meth c H locs k n Q g q) : vx_W p l e R s m args below meth c H locs cells slots Q g q := fun T hT X => kk T hT (stand_widen X h1 h2)
theorem vx_out {pc : Nat} {E : String} {ce : Cell} {q : Addr} {mc ms : Nat} (hout : ∀ x ∈ c.exceptionTable.toList, covers x pc = false) (hlocks : meth.locks = false) (hcell : H[q]? = some ce) (hv : ce.vm = .none) (hcl : s.vm.findClass E = some ce.cls)
    (hx : ∀ t : State, t.heap = H → s.vm.Alike t.vm → XC E s t) (hf : ∀ z ∈ locs, free z.base) (hc : cells ≤ mc) (hs : slots ≤ ms) :
    vx_W p l e R s m args below meth c H locs cells slots (vx_MQ below Qc XC args s mc ms free) (F0 m pc ls rest) q := by
  intro T hT X
  obtain ⟨st1, hrun, hend, hW, hsm⟩ := X.leaveThrown q (g := F0 m pc ls rest) rfl rfl rfl hout hlocks
  have hcell9 : (T.setFrames (.throwing q :: below)).heap[q]? = some ce := by
    show T.heap[q]? = some ce
    rw [hT]; exact hcell
  exact ⟨_, st1, .threw q, hrun, hend, Or.inr ⟨q, rfl, E, ce, locs, hx _ hT hW.alike, hcell9, hv, hcl, hW, hsm.mono hc hs, hf⟩⟩
theorem vx_frame {U : State} {k n : Nat} (h : s.sameButNew ({ U with vm := s.vm } : State) locs k n) : s.heap.size ≤ U.heap.size ∧ ∀ q : Nat, q < s.heap.size → (∀ z ∈ locs, z.base ≠ q) → U.heap[q]? = s.heap[q]? := by
  obtain ⟨-, h2, -, -, -, h6⟩ := h
  refine ⟨h2, fun q hq hz => ?_⟩
  obtain ⟨c9, e1, e2, e3, e4⟩ := h6 q _ (Array.getElem?_eq_getElem hq)
  have hs : c9.slots = (s.heap[q]).slots := Array.ext_getElem? fun i => e4 i fun hm => hz _ hm rfl
  have h9 : c9 = s.heap[q] := by
    rw [hs] at e2
    exact e2
  have e5 : U.heap[q]? = some c9 := e1
  rw [e5, h9, Array.getElem?_eq_getElem hq]
/-- the words of a throw but the four that speak of the heap -/
def vx_no (w : Cond) : Bool := decide (w ≠ .isRef (.static Bundle.tN "UNASSIGNED_STACK" Bundle.steD)) && decide (w ≠ .isRef (.static Bundle.tN "SUPPRESSED_SENTINEL" Bundle.listD)) && decide (w ≠ .laysStatic Bundle.tN "UNASSIGNED_STACK" Bundle.steD) && decide (w ≠ .laysStatic Bundle.tN "SUPPRESSED_SENTINEL" Bundle.listD)
def vx_at0 (own : String) (ic : Nat) (X : String) (names : List String) : List Cond := (Bundle.ownAtoms0 own ic X names).filter vx_no
def vx_atS (own : String) (ic : Nat) (X : String) (names : List String) : List Cond := (Bundle.ownAtoms own ic X names).filter vx_no
/-- a word that the tables alone decide, or a good one -/
def vx_ot (w : Cond) : Bool := w.onTables || goodWord w
theorem vx_ot_at {args a' : Array Value} {s U : State} {w : Cond} (hW : s.WarmedH U.vm) (hvm : s.vm = U.vm) (hg : vx_ot w = true) (h : w.before args s = true) : w.before a' U = true := by
  simp only [vx_ot, Bool.or_eq_true] at hg
  rcases hg with hg | hg
  · exact va_tabs hg hvm h
  · exact word_at hW (good_of_word hg) h
/-- a list's words: the good ones out of the method's own list, the others by premises of their own -/
theorem vx_hat {args : Array Value} {s : State} {L B : List Cond} (h1 : ∀ w ∈ L.filter goodWord, w.before args s = true) (h2 : ∀ w ∈ L.filter (fun w => !goodWord w), w ∈ B) (h3 : ∀ w ∈ B, w.before args s = true) : ∀ w ∈ L, w.before args s = true := by
  intro w hw
  by_cases g : goodWord w = true
  · exact h1 w (List.mem_filter.mpr ⟨hw, g⟩)
  · refine h3 w (h2 w (List.mem_filter.mpr ⟨hw, ?_⟩))
    show (!goodWord w) = true
    cases hgw : goodWord w
    · rfl
    · exact absurd hgw g
theorem vx_c {args : Array Value} {s : State} {w : Cond} {B : List Cond} (h : w.before args s = true) (t : ∀ w ∈ B, w.before args s = true) : ∀ w' ∈ w :: B, w'.before args s = true := fun w' h' => (List.mem_cons.mp h').elim (fun e => by rw [e]; exact h) (t w')
theorem vx_n {args : Array Value} {s : State} : ∀ w ∈ ([] : List Cond), w.before args s = true := fun _ h => nomatch h
theorem vx_own {args : Array Value} {s : State} {L : List Cond} (h1 : ∀ w ∈ L.filter vx_no, w.before args s = true)
    (hU : (Cond.isRef (.static Bundle.tN "UNASSIGNED_STACK" Bundle.steD)).before args s = true) (hN : (Cond.isRef (.static Bundle.tN "SUPPRESSED_SENTINEL" Bundle.listD)).before args s = true)
    (lU : (Cond.laysStatic Bundle.tN "UNASSIGNED_STACK" Bundle.steD).before args s = true) (lN : (Cond.laysStatic Bundle.tN "SUPPRESSED_SENTINEL" Bundle.listD).before args s = true) : ∀ w ∈ L, w.before args s = true := by
  intro w hw
  by_cases e1 : w = .isRef (.static Bundle.tN "UNASSIGNED_STACK" Bundle.steD)
  · rw [e1]; exact hU
  · by_cases e2 : w = .isRef (.static Bundle.tN "SUPPRESSED_SENTINEL" Bundle.listD)
    · rw [e2]; exact hN
    · by_cases e3 : w = .laysStatic Bundle.tN "UNASSIGNED_STACK" Bundle.steD
      · rw [e3]; exact lU
      · by_cases e4 : w = .laysStatic Bundle.tN "SUPPRESSED_SENTINEL" Bundle.listD
        · rw [e4]; exact lN
        · exact h1 w (List.mem_filter.mpr ⟨hw, by unfold vx_no; rw [decide_eq_true e1, decide_eq_true e2, decide_eq_true e3, decide_eq_true e4]; rfl⟩)
/-- where a static field lies, its class's statics cell in H -/
def vx_L (C n d : String) (A : Nat → Prop) (U : State) (H : Heap) : Prop := ∃ (c : ClassId) (k : Class) (i : Nat) (f : Field) (a : Nat) (cell : Cell), U.vm.findClass C = some c ∧ U.fieldFound? C n d = some (c, k, i, f) ∧ f.isStatic = true ∧ k.statics = some a ∧ H[a]? = some cell ∧ cell.vm.isStatics = true ∧ cell.cls = c ∧ f.slot < cell.slots.size ∧ k.staticTypes[f.slot]? = some f.type ∧ ¬ A a
theorem vx_L.moved {C n d : String} {A : Nat → Prop} {u U : State} {H : Heap} (hvm : u.vm.Alike U.vm) (h : vx_L C n d A u H) : vx_L C n d A U H := by
  obtain ⟨c, k, i, f, a, cell, h1, h2, h3, h4, h5, h6, h7, h8, h9, h10⟩ := h
  obtain ⟨k', hi', he⟩ := State.fieldFound?_setVm hvm h2
  exact ⟨c, k', i, f, a, cell, by rw [hvm.findClass]; exact h1, hi', h3, by rw [he]; exact h4, h5, h6, h7, h8, by rw [he]; exact h9, h10⟩
theorem vx_L.kept {C n d : String} {A : Nat → Prop} {U : State} {H H1 : Heap} (h : vx_L C n d A U H) (hq : ∀ a : Nat, a < H.size → ¬ A a → H1[a]? = H[a]?) : vx_L C n d A U H1 := by
  obtain ⟨c, k, i, f, a, cell, h1, h2, h3, h4, h5, h6, h7, h8, h9, h10⟩ := h
  exact ⟨c, k, i, f, a, cell, h1, h2, h3, h4, by rw [hq a (Array.getElem?_eq_some_iff.mp h5).1 h10]; exact h5, h6, h7, h8, h9, h10⟩
theorem vx_L.narrow {C n d : String} {A B : Nat → Prop} {U : State} {H : Heap} (h : vx_L C n d A U H) (hAB : ∀ q, B q → A q) : vx_L C n d B U H := by
  obtain ⟨c, k, i, f, a, cell, h1, h2, h3, h4, h5, h6, h7, h8, h9, h10⟩ := h
  exact ⟨c, k, i, f, a, cell, h1, h2, h3, h4, h5, h6, h7, h8, h9, fun z => h10 (hAB _ z)⟩
theorem vx_L.word {C n d : String} {A : Nat → Prop} {s : State} {args : Array Value} (h : vx_L C n d A s s.heap) : (Cond.laysStatic C n d).before args s = true := by
  obtain ⟨c, k, i, f, a, cell, h1, h2, h3, h4, h5, h6, h7, h8, h9, -⟩ := h
  show (Cond.laysStatic C n d).holds args s none s [] = true
  exact Cond.laysStatic_of h1 h2 h3 h4 h5 h6 h7 h8 h9
/-- .. and what it holds: null or some reference -/
def vx_Zq (C n d : String) (A : Nat → Prop) (U : State) (H : Heap) : Prop := va_Zq C n d A U H ∧ vx_L C n d A U H
theorem vx_Zq.moved {C n d : String} {A : Nat → Prop} {u U : State} {H : Heap} (hvm : u.vm.Alike U.vm) (h : vx_Zq C n d A u H) : vx_Zq C n d A U H := ⟨va_Zq.moved hvm h.1, vx_L.moved hvm h.2⟩
theorem vx_Zq.kept {C n d : String} {A : Nat → Prop} {U : State} {H H1 : Heap} (h : vx_Zq C n d A U H) (hq : ∀ a : Nat, a < H.size → ¬ A a → H1[a]? = H[a]?) : vx_Zq C n d A U H1 := ⟨va_Zq.kept h.1 hq, vx_L.kept h.2 hq⟩
theorem vx_Zq.narrow {C n d : String} {A B : Nat → Prop} {U : State} {H : Heap} (h : vx_Zq C n d A U H) (hAB : ∀ q, B q → A q) : vx_Zq C n d B U H := ⟨va_Zq.narrow h.1 hAB, vx_L.narrow h.2 hAB⟩
theorem vx_Zqof {args : Array Value} {s : State} {C n d : String} {A : Nat → Prop} (hl : (Cond.laysStatic C n d).before args s = true) (hini : (Cond.initialized C).before args s = true) (h : (Cond.isRef (.static C n d)).before args s = true) (hA : ∀ a : Nat, a < s.heap.size → ¬ A a) : vx_Zq C n d A s s.heap := by
  refine ⟨va_Zqof hl hini h hA, ?_⟩
  obtain ⟨c, k, i, f, a, cell, h1, h2, h3, h4, h5, h6, h7, h8, h9⟩ := Cond.laysStatic_spec hl
  exact ⟨c, k, i, f, a, cell, h1, h2, h3, h4, h5, h6, h7, h8, h9, hA a (Array.getElem?_eq_some_iff.mp h5).1⟩
theorem vx_isRef {C n d : String} {v : Value} {A : Nat → Prop} {s : State} {args : Array Value} (h : va_Z C n d v A s s.heap) (hv : v.isRef = true) : (Cond.isRef (.static C n d)).before args s = true := by
  obtain ⟨cf, kf, fi, f, a, cell, h1, h2, h3, h4, h5, h6, h7, -⟩ := h
  have he : (Term.static C n d).eval args s none [] s = some v := by
    simp [Term.eval, State.fieldNamed?, h1, h2, h4, h5, h6, h7]
  simp only [Cond.before, Cond.holds, Cond.value, he]
  cases v <;> simp_all [Value.isRef]
theorem vx_isRefq {C n d : String} {A : Nat → Prop} {s : State} {args : Array Value} (h : va_Zq C n d A s s.heap) : (Cond.isRef (.static C n d)).before args s = true := by
  rcases h with h | ⟨t, h⟩
  · exact vx_isRef h rfl
  · exact vx_isRef h rfl
/-- the same frame, seen from here: as if the method were called anew in this heap -/
theorem vx_rebase {T : State} (X : Stand p l e R s m args below meth c T locs cells slots) {R' : Room} (hf : R'.frames ≤ R.frames) (hl : R'.locals ≤ R.locals) (hc : cells + R'.cells ≤ R.cells) (hs : slots + R'.slots ≤ R.slots) :
    Stand p l e R' ((T.setVm s.vm).setFrames (.invoking m args :: below)) m args below meth c T [] 0 0 := by
  have htop : (T.setVm s.vm).topJava?.isSome := X.here.top
  have hF : ((T.setVm s.vm).setFrames (.invoking m args :: below)).frames = .invoking m args :: below := State.frames_setFrames _ (State.cur_lt_of_top htop)
  obtain ⟨g₀, hg0⟩ := Option.isSome_iff_exists.mp htop
  obtain ⟨r, hr⟩ := State.topJava?_eq_some.mp hg0
  have hl9 : e.platform.stackLimits (T.setVm s.vm).me = e.platform.stackLimits s.me := X.limits
  have hb9 : (T.setVm s.vm).me.stackBytes = s.me.stackBytes := X.bytes
  refine ⟨X.admits, X.cas, X.clock, hF, ?_, X.hears, X.method, X.code, X.here, X.tail, X.warmed, ?_, ?_, ?_⟩
  · have h := X.room
    have hU : ((T.setVm s.vm).setFrames (.invoking m args :: below)).localsInUse = s.localsInUse := by
      rw [State.localsInUse_invoking hF (meth := meth) (c := c) X.method X.code, State.localsInUse_invoking X.frames X.method X.code]
    simp only [State.hasRoom, Bool.and_eq_true, decide_eq_true_eq] at h ⊢
    obtain ⟨⟨⟨⟨h1, h2, h3, h4, h5, h6⟩, h7⟩, h8⟩, h9⟩ := h
    rw [X.frames, List.length_cons] at h2 h3
    have q1 := X.heapSize
    have q2 := X.used
    simp only [hF, hU, List.length_cons, State.stackLimits_setFrames, State.stackBytes_setFrames, hl9, hb9]
    refine ⟨⟨⟨⟨by omega, by omega, by omega, by omega, by omega, h6⟩, ?_⟩, ?_⟩, X.book⟩
    · show T.heap.size + R'.cells ≤ e.platform.maxCells
      omega
    · show T.slotsUsed + R'.slots ≤ e.platform.maxSlots
      omega
  · rw [State.stackLimits_setFrames]; rfl
  · rw [State.stackBytes_setFrames]; rfl
  · refine ⟨?_, Nat.le_refl _, Nat.le_refl _, ?_, ?_, fun a c9 h9 => ⟨c9, h9, rfl, rfl, fun _ _ => rfl⟩⟩
    · obtain ⟨t, ht, -⟩ := State.frames_cons hr
      show T.setVm s.vm = { ((T.setVm s.vm).setFrames (.invoking m args :: below)).setFrames (T.setVm s.vm).frames with heap := T.heap, slotsUsed := T.slotsUsed }
      rw [State.setFrames_setFrames, State.setFrames_self ht]
      rfl
    · show T.slotsUsed = T.slotsUsed + ((T.heap.toList.drop T.heap.size).map (·.slots.size)).sum
      rw [List.drop_eq_nil_of_le (Nat.le_of_eq Array.length_toList)]
      rfl
    · show ((T.heap.toList.drop T.heap.size).map (·.slots.size)).sum ≤ 0
      rw [List.drop_eq_nil_of_le (Nat.le_of_eq Array.length_toList)]
      exact Nat.le_refl _
/-- 'throw new E()': new; dup; invokespecial; athrow -/
theorem vx_throw0 {cc : ByteArray} {pc : Nat} (hexec : p.tables.exec = Jvm.exec) (hb : c.code = cc) (hl : l.stackTraces = false) {own cls : String} {names : List String} {ik ic mc ms : Nat} {A : Nat → Prop}
    (hown : s.vm.findClass own = some m.cls) (hcls : Bundle.fit cls = true) (hnames : ∀ n ∈ names, Bundle.fit n = true)
    (hk : (Cond.classLink own ik cls).before args s = true) (hini : (Cond.initialized cls).before args s = true) (hat : ∀ w ∈ vx_at0 own ic cls names, w.before args s = true)
    (hgood : ∀ w ∈ Cond.classLink own ik cls :: Cond.initialized cls :: vx_at0 own ic cls names, vx_ot w = true)
    (hU : vx_Zq Bundle.tN "UNASSIGNED_STACK" Bundle.steD A s s.heap) (hN : vx_Zq Bundle.tN "SUPPRESSED_SENTINEL" Bundle.listD A s s.heap) (hS : va_S A s.heap H locs) (hsize : ls.size = c.maxLocals)
    (d0 : decode cc pc = .ok (.new ik, 3)) (d3 : decode cc (pc + 3) = .ok (.dup, 1)) (d4 : decode cc (pc + 4) = .ok (.invokespecial ic, 3)) (d7 : decode cc (pc + 7) = .ok (.athrow, 1))
    (hout : ∀ x ∈ c.exceptionTable.toList, covers x (pc + 7) = false)
    (hRframes : names.length + 3 < R.frames) (hRlocals : (rest.map fun v => v.category).sum + (13 * (names.length + 1) + 42) ≤ R.locals) (hRcells : cells + 1 ≤ R.cells) (hRslots : slots + 6 ≤ R.slots) (hlocks : meth.locks = false)
    (hx : ∀ t : State, s.vm.Alike t.vm → H.size ≤ t.heap.size → (∀ q : Nat, q < H.size → t.heap[q]? = H[q]?) → XC cls s t)
    (hf : ∀ z ∈ locs, free z.base) (hc : cells + 1 ≤ mc) (hs : slots + 6 ≤ ms) :
    W p l e R s m args below meth c H locs cells slots (vx_MQ below Qc XC args s mc ms free) (F0 m pc ls rest) := by
  intro T hT X
  have htr : e.platform.stackTraces = false := (show e.platform.stackTraces = l.stackTraces by rw [X.admits.platform]).trans hl
  have Y := vx_rebase X (R' := { frames := R.frames, locals := R.locals, cells := 1, slots := 6 }) (Nat.le_refl _) (Nat.le_refl _) hRcells hRslots
  obtain ⟨s', hA⟩ : ∃ z, z = (T.setVm s.vm).setFrames (.invoking m args :: below) := ⟨_, rfl⟩
  rw [← hA] at Y
  have hvm : s'.vm = s.vm := by rw [hA]; rfl
  have hhp : s'.heap = H := by rw [hA]; exact hT
  have hW0 : s.WarmedH s'.vm := by rw [hvm]; exact State.WarmedH.refl s
  have hat' : ∀ w ∈ vx_at0 own ic cls names, w.before args s' = true := fun w hw => vx_ot_at hW0 hvm.symm (hgood w (List.mem_cons_of_mem _ (List.mem_cons_of_mem _ hw))) (hat w hw)
  have hk' : (Cond.classLink own ik cls).before args s' = true := vx_ot_at hW0 hvm.symm (hgood _ List.mem_cons_self) hk
  have hini' : (Cond.initialized cls).before args s' = true := vx_ot_at hW0 hvm.symm (hgood _ (List.mem_cons_of_mem _ List.mem_cons_self)) hini
  have hU' : vx_Zq Bundle.tN "UNASSIGNED_STACK" Bundle.steD A s' s'.heap := by rw [hhp]; exact vx_Zq.moved hW0.alike (hU.kept hS.2.1)
  have hN' : vx_Zq Bundle.tN "SUPPRESSED_SENTINEL" Bundle.listD A s' s'.heap := by rw [hhp]; exact vx_Zq.moved hW0.alike (hN.kept hS.2.1)
  have h : ∀ w ∈ Bundle.ownAtoms0 own ic cls names, w.before args s' = true := vx_own hat' (vx_isRefq hU'.1) (vx_isRefq hN'.1) hU'.2.word hN'.2.word
  have hown' : s'.vm.findClass own = some m.cls := by rw [hvm]; exact hown
  have hins : (Cond.instantiable cls 6).before args s' = true := h _ (by simp [Bundle.ownAtoms0])
  obtain ⟨vm₁, cX, kX, hfX, hkX, -, -, X₁, st1⟩ := Y.newCold hexec (own := own) (C := cls) (index := ik) (n := 6) hown' hk' hins hini'
    (g := F0 m pc ls rest) rfl (by rw [hb]; exact d0) (Nat.le_refl _) (Nat.le_refl _)
  generalize hT1 : (T.setVm vm₁).pushCell { cls := cX, slots := kX.instanceTypes.map defaultValue, vm := .none } = T1 at X₁ st1
  have hcat : (Value.ref T.heap.size).category = 1 := rfl
  have hcellA : T1.heap[T.heap.size]? = some (freshCell cX kX) := by rw [← hT1]; exact State.heap_pushCell_size _ _
  have d3' : decode c.code (pc + 3) = .ok (.dup, 1) := by rw [hb]; exact d3
  obtain ⟨U, hsteps, hrun, hend, hW, hsame, ce, hce, hO⟩ := X₁.ctorThrow0 hexec htr (own := own) (cls := cls) (names := names) (ic := ic) hown' hcls hnames h (fun x hx => nomatch hx) hfX hkX hcellA (by rw [hhp, hT]; exact Nat.le_refl _)
    (g := { method := m, pc := pc + 4, locals := ls, stack := .ref T.heap.size :: .ref T.heap.size :: rest, locked := none }) rfl hsize rfl rfl (rest := rest) rfl
    (by rw [hb]; exact d4) (by rw [hb]; exact d7) hout hRframes (by simp only [List.map_cons, List.sum_cons, hcat]; omega) hlocks
  obtain ⟨f1, f2⟩ := vx_frame hsame
  rw [hhp] at f1 f2
  have hWs : s.WarmedH U.vm := State.WarmedH.trans hW0 hW
  have hcl : s.vm.findClass cls = some ce.cls := by
    have h9 := hO.cls
    rw [hvm] at h9
    exact h9
  have hall : s.sameButNew ({ U with vm := s.vm } : State) locs mc ms := by
    subst hA
    obtain ⟨e1, e2⟩ := hsame
    rw [State.setFrames_setFrames] at e1
    have h2 : (T.setVm s.vm).sameButNew ({ U with vm := s.vm } : State) [] (0 + 1) (0 + 6) := ⟨e1, e2⟩
    have h3 := X.same.trans h2
    rw [List.append_nil] at h3
    exact h3.mono hc hs
  refine ⟨U, ?_, .threw T.heap.size, hrun, hend, Or.inr ⟨T.heap.size, rfl, cls, ce, locs, hx U hWs.alike f1 (fun q hq => f2 q hq (fun z hz => nomatch hz)), hce, hO.vm, hcl, hWs, hall, hf⟩⟩
  refine st1 _ ?_
  show Steps p.tables e below (T1.setTop { method := m, pc := pc + 3, locals := ls, stack := .ref T.heap.size :: rest, locked := none }) _
  jvm_step X₁.here [X₁.here.top, hexec, d3', Value.category]
  exact hsteps
/-- 'throw new E("text")': new; dup; ldc; invokespecial; athrow -/
theorem vx_throwS {cc : ByteArray} {pc : Nat} (hexec : p.tables.exec = Jvm.exec) (hb : c.code = cc) (hl : l.stackTraces = false) {own cls text : String} {names : List String} {ik is ic mc ms sa : Nat} {A : Nat → Prop}
    (hown : s.vm.findClass own = some m.cls) (hcls : Bundle.fit cls = true) (hnames : ∀ n ∈ names, Bundle.fit n = true)
    (hk : (Cond.classLink own ik cls).before args s = true) (hini : (Cond.initialized cls).before args s = true) (hstr : vk_R own is text sa s) (hat : ∀ w ∈ vx_atS own ic cls names, w.before args s = true)
    (hgood : ∀ w ∈ Cond.classLink own ik cls :: Cond.initialized cls :: vx_atS own ic cls names, vx_ot w = true)
    (hU : vx_Zq Bundle.tN "UNASSIGNED_STACK" Bundle.steD A s s.heap) (hN : vx_Zq Bundle.tN "SUPPRESSED_SENTINEL" Bundle.listD A s s.heap) (hS : va_S A s.heap H locs) (hsize : ls.size = c.maxLocals)
    (d0 : decode cc pc = .ok (.new ik, 3)) (d3 : decode cc (pc + 3) = .ok (.dup, 1)) (d4 : decode cc (pc + 4) = .ok (.ldc is, 2)) (d6 : decode cc (pc + 6) = .ok (.invokespecial ic, 3)) (d9 : decode cc (pc + 9) = .ok (.athrow, 1))
    (hout : ∀ x ∈ c.exceptionTable.toList, covers x (pc + 9) = false)
    (hRframes : names.length + 3 < R.frames) (hRlocals : (rest.map fun v => v.category).sum + (13 * (names.length + 1) + 43) ≤ R.locals) (hRcells : cells + 1 ≤ R.cells) (hRslots : slots + 6 ≤ R.slots) (hlocks : meth.locks = false)
    (hx : ∀ t : State, s.vm.Alike t.vm → H.size ≤ t.heap.size → (∀ q : Nat, q < H.size → t.heap[q]? = H[q]?) → XC cls s t)
    (hf : ∀ z ∈ locs, free z.base) (hc : cells + 1 ≤ mc) (hs : slots + 6 ≤ ms) :
    W p l e R s m args below meth c H locs cells slots (vx_MQ below Qc XC args s mc ms free) (F0 m pc ls rest) := by
  intro T hT X
  have htr : e.platform.stackTraces = false := (show e.platform.stackTraces = l.stackTraces by rw [X.admits.platform]).trans hl
  have Y := vx_rebase X (R' := { frames := R.frames, locals := R.locals, cells := 1, slots := 6 }) (Nat.le_refl _) (Nat.le_refl _) hRcells hRslots
  obtain ⟨s', hA⟩ : ∃ z, z = (T.setVm s.vm).setFrames (.invoking m args :: below) := ⟨_, rfl⟩
  rw [← hA] at Y
  have hvm : s'.vm = s.vm := by rw [hA]; rfl
  have hhp : s'.heap = H := by rw [hA]; exact hT
  have hW0 : s.WarmedH s'.vm := by rw [hvm]; exact State.WarmedH.refl s
  have hat' : ∀ w ∈ vx_atS own ic cls names, w.before args s' = true := fun w hw => vx_ot_at hW0 hvm.symm (hgood w (List.mem_cons_of_mem _ (List.mem_cons_of_mem _ hw))) (hat w hw)
  have hk' : (Cond.classLink own ik cls).before args s' = true := vx_ot_at hW0 hvm.symm (hgood _ List.mem_cons_self) hk
  have hini' : (Cond.initialized cls).before args s' = true := vx_ot_at hW0 hvm.symm (hgood _ (List.mem_cons_of_mem _ List.mem_cons_self)) hini
  have hU' : vx_Zq Bundle.tN "UNASSIGNED_STACK" Bundle.steD A s' s'.heap := by rw [hhp]; exact vx_Zq.moved hW0.alike (hU.kept hS.2.1)
  have hN' : vx_Zq Bundle.tN "SUPPRESSED_SENTINEL" Bundle.listD A s' s'.heap := by rw [hhp]; exact vx_Zq.moved hW0.alike (hN.kept hS.2.1)
  have h : ∀ w ∈ Bundle.ownAtoms own ic cls names, w.before args s' = true := vx_own hat' (vx_isRefq hU'.1) (vx_isRefq hN'.1) hU'.2.word hN'.2.word
  have hown' : s'.vm.findClass own = some m.cls := by rw [hvm]; exact hown
  have hins : (Cond.instantiable cls 6).before args s' = true := h _ (by simp [Bundle.ownAtoms])
  obtain ⟨vm₁, cX, kX, hfX, hkX, -, -, X₁, st1⟩ := Y.newCold hexec (own := own) (C := cls) (index := ik) (n := 6) hown' hk' hins hini'
    (g := F0 m pc ls rest) rfl (by rw [hb]; exact d0) (Nat.le_refl _) (Nat.le_refl _)
  generalize hT1 : (T.setVm vm₁).pushCell { cls := cX, slots := kX.instanceTypes.map defaultValue, vm := .none } = T1 at X₁ st1
  have hcat : (Value.ref T.heap.size).category = 1 := rfl
  have hcellA : T1.heap[T.heap.size]? = some (freshCell cX kX) := by rw [← hT1]; exact State.heap_pushCell_size _ _
  have d3' : decode c.code (pc + 3) = .ok (.dup, 1) := by rw [hb]; exact d3
  have d4' : decode c.code (pc + 4) = .ok (.ldc is, 2) := by rw [hb]; exact d4
  have hstr' : vk_R own is text sa s' := vk_R.warm hW0 hstr
  obtain ⟨U, hsteps, hrun, hend, hW, hsame, ce, hce, hO⟩ := X₁.ctorThrowS hexec htr (own := own) (cls := cls) (names := names) (ic := ic) hown' hcls hnames h (fun x hx => nomatch hx) hfX hkX hcellA (by rw [hhp, hT]; exact Nat.le_refl _) (msg := .ref sa) rfl
    (g := { method := m, pc := pc + 6, locals := ls, stack := .ref sa :: .ref T.heap.size :: .ref T.heap.size :: rest, locked := none }) rfl hsize rfl rfl (rest := rest) rfl
    (by rw [hb]; exact d6) (by rw [hb]; exact d9) hout hRframes (by simp only [List.map_cons, List.sum_cons, hcat]; omega) hlocks
  obtain ⟨f1, f2⟩ := vx_frame hsame
  rw [hhp] at f1 f2
  have hWs : s.WarmedH U.vm := State.WarmedH.trans hW0 hW
  have hcl : s.vm.findClass cls = some ce.cls := by
    have h9 := hO.cls
    rw [hvm] at h9
    exact h9
  have hall : s.sameButNew ({ U with vm := s.vm } : State) locs mc ms := by
    subst hA
    obtain ⟨e1, e2⟩ := hsame
    rw [State.setFrames_setFrames] at e1
    have h2 : (T.setVm s.vm).sameButNew ({ U with vm := s.vm } : State) [] (0 + 1) (0 + 6) := ⟨e1, e2⟩
    have h3 := X.same.trans h2
    rw [List.append_nil] at h3
    exact h3.mono hc hs
  refine ⟨U, ?_, .threw T.heap.size, hrun, hend, Or.inr ⟨T.heap.size, rfl, cls, ce, locs, hx U hWs.alike f1 (fun q hq => f2 q hq (fun z hz => nomatch hz)), hce, hO.vm, hcl, hWs, hall, hf⟩⟩
  refine st1 _ ?_
  show Steps p.tables e below (T1.setTop { method := m, pc := pc + 3, locals := ls, stack := .ref T.heap.size :: rest, locked := none }) _
  jvm_step X₁.here [X₁.here.top, hexec, d3', Value.category]
  exact X₁.ldcString hexec (own := own) (text := text) (index := is) (a := sa) hown' hstr'.1 hstr'.2
    (g := { method := m, pc := pc + 4, locals := ls, stack := .ref T.heap.size :: .ref T.heap.size :: rest, locked := none }) rfl d4' _ hsteps
/-- 'throw new E("text")', the text by a wide index -/
theorem vx_throwSW {cc : ByteArray} {pc : Nat} (hexec : p.tables.exec = Jvm.exec) (hb : c.code = cc) (hl : l.stackTraces = false) {own cls text : String} {names : List String} {ik is ic mc ms sa : Nat} {A : Nat → Prop}
    (hown : s.vm.findClass own = some m.cls) (hcls : Bundle.fit cls = true) (hnames : ∀ n ∈ names, Bundle.fit n = true)
    (hk : (Cond.classLink own ik cls).before args s = true) (hini : (Cond.initialized cls).before args s = true) (hstr : vk_R own is text sa s) (hat : ∀ w ∈ vx_atS own ic cls names, w.before args s = true)
    (hgood : ∀ w ∈ Cond.classLink own ik cls :: Cond.initialized cls :: vx_atS own ic cls names, vx_ot w = true)
    (hU : vx_Zq Bundle.tN "UNASSIGNED_STACK" Bundle.steD A s s.heap) (hN : vx_Zq Bundle.tN "SUPPRESSED_SENTINEL" Bundle.listD A s s.heap) (hS : va_S A s.heap H locs) (hsize : ls.size = c.maxLocals)
    (d0 : decode cc pc = .ok (.new ik, 3)) (d3 : decode cc (pc + 3) = .ok (.dup, 1)) (d4 : decode cc (pc + 4) = .ok (.ldc_w is, 3)) (d7 : decode cc (pc + 7) = .ok (.invokespecial ic, 3)) (d10 : decode cc (pc + 10) = .ok (.athrow, 1))
    (hout : ∀ x ∈ c.exceptionTable.toList, covers x (pc + 10) = false)
    (hRframes : names.length + 3 < R.frames) (hRlocals : (rest.map fun v => v.category).sum + (13 * (names.length + 1) + 43) ≤ R.locals) (hRcells : cells + 1 ≤ R.cells) (hRslots : slots + 6 ≤ R.slots) (hlocks : meth.locks = false)
    (hx : ∀ t : State, s.vm.Alike t.vm → H.size ≤ t.heap.size → (∀ q : Nat, q < H.size → t.heap[q]? = H[q]?) → XC cls s t)
    (hf : ∀ z ∈ locs, free z.base) (hc : cells + 1 ≤ mc) (hs : slots + 6 ≤ ms) :
    W p l e R s m args below meth c H locs cells slots (vx_MQ below Qc XC args s mc ms free) (F0 m pc ls rest) := by
  intro T hT X
  have htr : e.platform.stackTraces = false := (show e.platform.stackTraces = l.stackTraces by rw [X.admits.platform]).trans hl
  have Y := vx_rebase X (R' := { frames := R.frames, locals := R.locals, cells := 1, slots := 6 }) (Nat.le_refl _) (Nat.le_refl _) hRcells hRslots
  obtain ⟨s', hA⟩ : ∃ z, z = (T.setVm s.vm).setFrames (.invoking m args :: below) := ⟨_, rfl⟩
  rw [← hA] at Y
  have hvm : s'.vm = s.vm := by rw [hA]; rfl
  have hhp : s'.heap = H := by rw [hA]; exact hT
  have hW0 : s.WarmedH s'.vm := by rw [hvm]; exact State.WarmedH.refl s
  have hat' : ∀ w ∈ vx_atS own ic cls names, w.before args s' = true := fun w hw => vx_ot_at hW0 hvm.symm (hgood w (List.mem_cons_of_mem _ (List.mem_cons_of_mem _ hw))) (hat w hw)
  have hk' : (Cond.classLink own ik cls).before args s' = true := vx_ot_at hW0 hvm.symm (hgood _ List.mem_cons_self) hk
  have hini' : (Cond.initialized cls).before args s' = true := vx_ot_at hW0 hvm.symm (hgood _ (List.mem_cons_of_mem _ List.mem_cons_self)) hini
  have hU' : vx_Zq Bundle.tN "UNASSIGNED_STACK" Bundle.steD A s' s'.heap := by rw [hhp]; exact vx_Zq.moved hW0.alike (hU.kept hS.2.1)
  have hN' : vx_Zq Bundle.tN "SUPPRESSED_SENTINEL" Bundle.listD A s' s'.heap := by rw [hhp]; exact vx_Zq.moved hW0.alike (hN.kept hS.2.1)
  have h : ∀ w ∈ Bundle.ownAtoms own ic cls names, w.before args s' = true := vx_own hat' (vx_isRefq hU'.1) (vx_isRefq hN'.1) hU'.2.word hN'.2.word
  have hown' : s'.vm.findClass own = some m.cls := by rw [hvm]; exact hown
  have hins : (Cond.instantiable cls 6).before args s' = true := h _ (by simp [Bundle.ownAtoms])
  obtain ⟨vm₁, cX, kX, hfX, hkX, -, -, X₁, st1⟩ := Y.newCold hexec (own := own) (C := cls) (index := ik) (n := 6) hown' hk' hins hini'
    (g := F0 m pc ls rest) rfl (by rw [hb]; exact d0) (Nat.le_refl _) (Nat.le_refl _)
  generalize hT1 : (T.setVm vm₁).pushCell { cls := cX, slots := kX.instanceTypes.map defaultValue, vm := .none } = T1 at X₁ st1
  have hcat : (Value.ref T.heap.size).category = 1 := rfl
  have hcellA : T1.heap[T.heap.size]? = some (freshCell cX kX) := by rw [← hT1]; exact State.heap_pushCell_size _ _
  have d3' : decode c.code (pc + 3) = .ok (.dup, 1) := by rw [hb]; exact d3
  have d4' : decode c.code (pc + 4) = .ok (.ldc_w is, 3) := by rw [hb]; exact d4
  have hstr' : vk_R own is text sa s' := vk_R.warm hW0 hstr
  obtain ⟨U, hsteps, hrun, hend, hW, hsame, ce, hce, hO⟩ := X₁.ctorThrowS hexec htr (own := own) (cls := cls) (names := names) (ic := ic) hown' hcls hnames h (fun x hx => nomatch hx) hfX hkX hcellA (by rw [hhp, hT]; exact Nat.le_refl _) (msg := .ref sa) rfl
    (g := { method := m, pc := pc + 7, locals := ls, stack := .ref sa :: .ref T.heap.size :: .ref T.heap.size :: rest, locked := none }) rfl hsize rfl rfl (rest := rest) rfl
    (by rw [hb]; exact d7) (by rw [hb]; exact d10) hout hRframes (by simp only [List.map_cons, List.sum_cons, hcat]; omega) hlocks
  obtain ⟨f1, f2⟩ := vx_frame hsame
  rw [hhp] at f1 f2
  have hWs : s.WarmedH U.vm := State.WarmedH.trans hW0 hW
  have hcl : s.vm.findClass cls = some ce.cls := by
    have h9 := hO.cls
    rw [hvm] at h9
    exact h9
  have hall : s.sameButNew ({ U with vm := s.vm } : State) locs mc ms := by
    subst hA
    obtain ⟨e1, e2⟩ := hsame
    rw [State.setFrames_setFrames] at e1
    have h2 : (T.setVm s.vm).sameButNew ({ U with vm := s.vm } : State) [] (0 + 1) (0 + 6) := ⟨e1, e2⟩
    have h3 := X.same.trans h2
    rw [List.append_nil] at h3
    exact h3.mono hc hs
  refine ⟨U, ?_, .threw T.heap.size, hrun, hend, Or.inr ⟨T.heap.size, rfl, cls, ce, locs, hx U hWs.alike f1 (fun q hq => f2 q hq (fun z hz => nomatch hz)), hce, hO.vm, hcl, hWs, hall, hf⟩⟩
  refine st1 _ ?_
  show Steps p.tables e below (T1.setTop { method := m, pc := pc + 3, locals := ls, stack := .ref T.heap.size :: rest, locked := none }) _
  jvm_step X₁.here [X₁.here.top, hexec, d3', Value.category]
  exact X₁.ldcStringW hexec (own := own) (text := text) (index := is) (a := sa) hown' hstr'.1 hstr'.2
    (g := { method := m, pc := pc + 4, locals := ls, stack := .ref T.heap.size :: .ref T.heap.size :: rest, locked := none }) rfl d4' _ hsteps
end Ends
section Bodies
variable {l : Launch}
theorem vx_ofW {y : MethodName} {ws ws' : List Cond} {rm : Room} {Pc : Array Value → State → Prop} {Qc : Array Value → State → Outcome → State → Prop} {XC : String → State → State → Prop} {mc ms : Nat} {free : Addr → Prop} {cc : ByteArray} {maxL : Nat} {ret : Option FieldType}
    (hy : plainName y.cls = true) (hw : ws = Cond.code y cc maxL ret :: ws')
    (body : ∀ p e s m args below meth c s₁, BodyLoose p l y (headSpec ws rm) cc maxL ret e s m args below meth c s₁ → c.maxLocals = maxL → (∀ x ∈ c.exceptionTable.toList, False) → Pc args s →
      W p l e (headSpec ws rm).room s m args below meth c s.heap [] 0 0 (vx_MQ below Qc XC args s mc ms free) (entryFrame m args maxL)) : vx_Met l y ws rm Pc Qc XC mc ms free := by
  refine MetFree.of_bodyS (code := cc) (maxLocals := maxL) (ret := ret) hy ?_ ?_
  · intro args s m h hn
    obtain ⟨meth, c, h1, h2, h3, h4, h5, h6, -, -⟩ := Cond.code_spec hn (atoms_spec (ws := ws) h _ (by rw [hw]; exact List.mem_cons_self))
    exact ⟨meth, c, h1, h2, h3, h4, h5, h6⟩
  · intro p e s m args below meth c s₁ B hml hP _
    have hh0 : s₁.heap = s.heap := by rw [B.state]; rfl
    have ht : ∀ x ∈ c.exceptionTable.toList, False := by
      obtain ⟨meth9, c9, h1, h2, -, -, -, -, h7, -⟩ := Cond.code_spec B.named (atoms_spec (ws := ws) B.pre _ (by rw [hw]; exact List.mem_cons_self))
      cases Option.some.inj (h1.symm.trans B.method)
      cases Option.some.inj (h2.symm.trans (Stand.of_body B).code)
      intro x hx
      rw [Array.isEmpty_iff.mp h7] at hx
      cases hx
    obtain ⟨t, a1, o, b1, b2, b3⟩ := body p e s m args below meth c s₁ B hml ht hP s₁ hh0 (Stand.of_body B)
    exact ⟨t, o, a1, b1, b2, b3⟩
/-- the table of a body with handlers -/
theorem vx_table {p : Program} {x y : MethodName} {S : Spec} {cc bytes : ByteArray} {maxL maxL' : Nat} {ret ret' : Option FieldType} {e : Env} {s s₁ : State} {m : MethodId} {args : Array Value} {below : List Frame} {meth : Method} {c : Code} {hh : List (Nat × Nat × Nat × Nat)}
    (B : BodyLoose p l y S cc maxL ret e s m args below meth c s₁) (h : (Cond.codeWith y bytes maxL' ret' hh).before args s = true) : c.exceptionTable.toList = tableOf hh := by
  obtain ⟨m9, meth9, c9, hn9, h1, h2, -, -, h6, -⟩ := Cond.codeWith_spec h
  cases Option.some.inj (hn9.symm.trans B.named)
  cases Option.some.inj (h1.symm.trans B.method)
  cases Option.some.inj (h2.symm.trans (Stand.of_body B).code)
  rw [← h6, table_eq]
end Bodies
end VXA
/-! ===== END ===== -/
/-! ===== BEGIN a static call of a method with an exception table ===== -/
section VXS
variable {p : Program} {l : Launch} {e : Env} {R : Room} {s : State} {m : MethodId} {args : Array Value} {below : List Frame} {meth : Method} {c : Code} {T : State} {H : Heap} {locs : List Loc} {cells slots : Nat}
abbrev vx_CSW (R : Room) (s : State) (args : Array Value) (own : String) (index : Nat) (y : MethodName) (bytes : ByteArray) (maxL : Nat) (ret : Option FieldType) (hh : List (Nat × Nat × Nat × Nat)) (ws : List Cond) (rm : Room) (mc ms n : Nat) : Prop :=
  (rm.cells = mc ∧ rm.slots = ms ∧ rm.frames + 1 ≤ R.frames ∧ 8 + (maxL + 11) + rm.locals ≤ R.locals ∧ (∀ w ∈ ws, ∀ (a' : Array Value) (U : State), s.WarmedH U.vm → w.before a' U = true) ∧ Cond.codeWith y bytes maxL ret hh ∈ ws) ∧
  (Cond.codeWith y bytes maxL ret hh).before args s = true ∧ (Cond.initialized y.cls).before args s = true ∧ (y.cls ≠ "java/lang/invoke/MethodHandle" ∧ y.cls ≠ "java/lang/invoke/VarHandle") ∧
  (∀ sig, parseMethodDescriptor y.desc = some sig → n = sig.parameters.length) ∧ (Cond.methodLink own index y).before args s = true ∧ (Cond.static y).before args s = true
theorem vx_cwSW {own : String} {index maxL mc ms : Nat} {y : MethodName} {bytes : ByteArray} {ret : Option FieldType} {hh : List (Nat × Nat × Nat × Nat)} {Ts ws ws' : List Cond} {rm : Room} (n : Nat) (ht : ∀ w ∈ Ts, w.before args s = true) (hT : GoodIn Ts (va_wsS own index y ws)) (hw : ws = Cond.codeWith y bytes maxL ret hh :: ws') (hrc : rm.cells = mc) (hrs : rm.slots = ms)
    (hd : y.cls ≠ "java/lang/invoke/MethodHandle" ∧ y.cls ≠ "java/lang/invoke/VarHandle" ∧ (parseMethodDescriptor y.desc).map (fun d => d.parameters.length) = some n) (hR : rm.frames + 1 ≤ R.frames ∧ 8 + (maxL + 11) + rm.locals ≤ R.locals) :
    vx_CSW R s args own index y bytes maxL ret hh ws rm mc ms n := by
  have ok : ∀ w ∈ va_wsS own index y ws, w.before args s = true := fun w h => ht w (hT w h).1
  have hG : GoodIn Ts ws := fun w h => hT w (by unfold va_wsS; exact List.mem_append_right _ h)
  have hc : Cond.codeWith y bytes maxL ret hh ∈ ws := by rw [hw]; exact List.mem_cons_self
  refine ⟨⟨hrc, hrs, hR.1, hR.2, pay_in ht hG, hc⟩, ht _ (hG _ hc).1, ok _ (by simp [va_wsS]), ⟨hd.1, hd.2.1⟩, fun sig h => ?_, ok _ (by simp [va_wsS]), ok _ (by simp [va_wsS])⟩
  have h2 := hd.2.2
  rw [h] at h2
  exact (Option.some.inj h2).symm
theorem vx_callSW (X : Stand p l e R s m args below meth c T locs cells slots) (hexec : p.tables.exec = Jvm.exec) {own : String} {index : Nat} {y : MethodName} {bytes : ByteArray} {maxL : Nat} {ret : Option FieldType} {hh : List (Nat × Nat × Nat × Nat)}
    (hown : s.vm.findClass own = some m.cls) (hlink : (Cond.methodLink own index y).before args s = true) (hstat : (Cond.static y).before args s = true) (hinit : (Cond.initialized y.cls).before args s = true)
    (hcode : (Cond.codeWith y bytes maxL ret hh).before args s = true) (hy : y.cls ≠ "java/lang/invoke/MethodHandle" ∧ y.cls ≠ "java/lang/invoke/VarHandle")
    {W9 : Nat} {Pre : Pt → Array Value → Prop} {Post : Pt → Array Value → Option Value → Pt → Prop} (hK : Back l R p e below s args y 3 W9 Pre Post)
    {g : JFrame} (hg : g.method = m) (hsize : g.locals.size = c.maxLocals) {argsL rest : List Value} (hlen : ∀ sig, parseMethodDescriptor y.desc = some sig → argsL.length = sig.parameters.length)
    (hstack : g.stack = argsL.reverse ++ rest) (hW : 2 * g.monitorRoom + (rest.map fun v => v.category).sum ≤ W9) (hdg : decode c.code g.pc = .ok (.invokestatic index, 3))
    (hpre : ∀ vm₁, s.WarmedH vm₁ → Pre ⟨T.setVm vm₁, locs, cells, slots⟩ argsL.toArray) :
    ∃ (v : Option Value) (vm₁ : Vm) (B : Pt), s.WarmedH vm₁ ∧ Stand p l e R s m args below meth c B.U B.locs B.cells B.slots ∧ Post ⟨T.setVm vm₁, locs, cells, slots⟩ argsL.toArray v B ∧
      ∀ target, Steps p.tables e below (B.U.setTop { g with pc := g.pc + 3, stack := v.toList ++ rest }) target → Steps p.tables e below (T.setTop g) target := by
  obtain ⟨mk, methM, cM, hnamed, hmethM, -, -, -, -, -, -, hsigM⟩ := Cond.codeWith_spec hcode
  have hstatic : methM.isStatic = true := Cond.static_spec hnamed hmethM hstat
  obtain ⟨kP, hkP, -⟩ := className_of_methodNamed hnamed
  have hinitP : kP.init = .initialized := Cond.initialized_spec (findClass_of_methodNamed hnamed) hkP hinit
  obtain ⟨vm₁, X₁, hstep₁⟩ := X.invokestatic hexec hown hlink hnamed hmethM hstatic hkP hinitP hy (g := g) hg (argsL := argsL) (rest := rest) (hlen _ hsigM) hstack hdg
  obtain ⟨v, B, X', hpost, hsteps⟩ := hK m meth c ⟨T.setVm vm₁, locs, cells, slots⟩ { g with stack := rest } (.invokestatic index) mk argsL.toArray X₁ hg hsize hdg hW (X₁.named hnamed) (hpre vm₁ X₁.warmed)
  exact ⟨v, vm₁, B, X₁.warmed, X', hpost, fun target h => hstep₁ _ fun acts => by rw [doInvoke_state]; exact hsteps.trans h⟩
theorem vx_runSW {y : MethodName} {bytes cc : ByteArray} {maxL nL mc ms n index : Nat} {ret : Option FieldType} {hh : List (Nat × Nat × Nat × Nat)} {ws : List Cond} {rm : Room} {Pc : Array Value → State → Prop} {Qc : Array Value → State → Outcome → State → Prop} {free : Addr → Prop} {Ts : List Cond} {own : String} {As rest : List Value} {g : JFrame}
    (S : CallFix p m c cc nL s args Ts own) (hM : Met l y ws rm Pc Qc mc ms free) (cw : vx_CSW R s args own index y bytes maxL ret hh ws rm mc ms n) (hp : PreS s H Pc As)
    (hg : g.method = m) (hn : As.length = n) (hsize : g.locals.size = nL) (hstack : g.stack = As.reverse ++ rest) (hW : 2 * g.monitorRoom + (rest.map fun v => v.category).sum ≤ 8) (hdg : decode cc g.pc = .ok (.invokestatic index, 3)) (hf : cells + mc ≤ R.cells ∧ slots + ms ≤ R.slots) :
    va_Run p l e R s m args below meth c H locs cells slots mc ms g rest (Qc As.toArray) (free) := by
  obtain ⟨⟨hrc, hrs, hfr, hlo, hws, hcw⟩, hcode, hini, hy, hlen, hl, hstt⟩ := cw
  have hK : Back l R p e below s args y 3 8 (PreOf R mc ms Pc) (PostOf Qc mc ms free) := va_backW (hh := hh) (bytes := bytes) (maxL := maxL) (ret := ret) hM hp.1 hrc hrs hfr hlo hws hcw (fun a' U hW => word_at hW (Or.inl (by first | rfl | simp [Cond.onTables, Cond.keeps, Cond.steady])) hini)
  obtain ⟨hx, hb, hml, ho, -⟩ := S
  intro T hT X
  obtain ⟨v, vm₁, ⟨U', l2, c2, s2⟩, hW₁, X', ⟨g', mk, t, L, e1, e2, hq, h1, hL, h2, h3⟩, st⟩ := vx_callSW X hx (hh := hh) (bytes := bytes) (maxL := maxL) (ret := ret) ho hl hstt hini hcode hy hK hg (hsize.trans hml.symm) (argsL := As) (rest := rest) (fun sig h => hn.trans (hlen sig h)) hstack hW (by rw [hb]; exact hdg)
    (fun vm₁ hW₁ => ⟨hf.1, hf.2, hp.2 (T.setVm vm₁) hT hW₁⟩)
  dsimp only [Pt.U, Pt.locs, Pt.cells, Pt.slots] at X' e1 e2 h1 h2 h3 st
  subst h1; subst h2; subst h3
  exact ⟨v, (T.setVm vm₁).calling g' mk As.toArray, t, U', L, hT, X', hL, e1, e2, hq, st⟩
/-- not caught here, past rows that name other classes: it goes on to the caller -/
theorem vx_outP {p : Program} {l : Launch} {e : Env} {R : Room} {s : State} {m : MethodId} {args : Array Value} {below : List Frame} {meth : Method} {c : Code} {H : Heap} {locs : List Loc} {cells slots : Nat} {free : Addr → Prop} {ls : Array Slot} {rest : List Value} {Qc : Array Value → State → Outcome → State → Prop} {XC : String → State → State → Prop}
    {pc : Nat} {own E : String} {ce : Cell} {q : Addr} {mc ms : Nat} (hown : s.vm.findClass own = some m.cls) (hlocks : meth.locks = false)
    (hpass : ∀ z ∈ c.exceptionTable.toList, covers z pc = false ∨ (z.catchType ≠ 0 ∧ ∃ nm : String, (Cond.classLink own z.catchType nm).before args s = true ∧ va_Nc E nm s)) (hcell : H[q]? = some ce) (hv : ce.vm = .none) (hcl : s.vm.findClass E = some ce.cls)
    (hx : ∀ t : State, t.heap = H → s.vm.Alike t.vm → XC E s t) (hf : ∀ z ∈ locs, free z.base) (hc : cells ≤ mc) (hs : slots ≤ ms) :
    vx_W p l e R s m args below meth c H locs cells slots (vx_MQ below Qc XC args s mc ms free) (F0 m pc ls rest) q := by
  intro T hT X
  have hpl : e.platform.magicAccessors = ({} : Platform).magicAccessors := by rw [X.admits.platform]
  obtain ⟨vm', hW', X', st⟩ := X.outThrough hlocks q (g := F0 m pc ls rest) rfl rfl rfl (cell := ce) (by rw [hT]; exact hcell) (by rw [hv]; rfl)
    (by obtain ⟨k9, h9, -⟩ := Vm.findClass_spec hcl; exact ⟨k9, h9⟩) (fun z hz => by
      rcases hpass z hz with h | ⟨hz0, nm, hl1, hn1⟩
      · exact Or.inl h
      · obtain ⟨c6, hc6, hcl6⟩ := Cond.classLink_spec hown hl1 e.platform hpl
        obtain ⟨a8, b8, h1, h2, h3⟩ := hn1
        cases Option.some.inj (h1.symm.trans hcl)
        cases Option.some.inj (h2.symm.trans hc6)
        exact Or.inr ⟨hz0, _, hcl6, h3⟩)
  obtain ⟨g₀, hfr⟩ := X'.frames_eq
  have hcell9 : ((T.setVm vm').setFrames (.throwing q :: below)).heap[q]? = some ce := by
    show T.heap[q]? = some ce
    rw [hT]; exact hcell
  have hend : Ended ((T.setVm vm').setFrames (.throwing q :: below)) below (.threw q) := State.frames_setFrames _ (State.cur_lt_of_frames hfr)
  refine ⟨(T.setVm vm').setFrames (.throwing q :: below), ?_, .threw q, X'.here.running, hend, Or.inr ⟨q, rfl, E, ce, locs, hx _ hT (X'.ends _).1.alike, hcell9, hv, hcl, (X'.ends _).1, (X'.ends _).2.mono hc hs, hf⟩⟩
  rw [X.pushThrowing_eq]
  exact st
/-- a thing of a world lies in the heap -/
theorem vx_lt {D : va_G} {cl : List vw_C} {ws : va_W} {H1 : Heap} (h : va_P D cl ws H1) {k : Nat} {q : Nat × va_E} (hk : ws[k]? = some q) : q.1 < H1.size := (h k q hk).lt
end VXS
/-! ===== END ===== -/
/-! ===== BEGIN methods with a table of their own: called by a name, returning or throwing ===== -/
section VXH
/-! vx_backW, vx_callVX, vx_callSX, vx_callVW, vx_runVW, vx_runVX, vx_runSX, vx_ofWH follow the same proofs as their sisters above (Free/Laws.lean, Shelf42/LK1.lean); vx_outP calls Shelf42/NT130.lean (outThrough). -/
section
variable {l : Launch} {R : Room} {p : Program} {e : Env} {below : List Frame} {s : State} {sargs : Array Value} {y : MethodName} {len W9 : Nat}
theorem vx_backW {ws : List Cond} {rm : Room} {Pc : Array Value → State → Prop} {Qc : Array Value → State → Outcome → State → Prop} {XC : String → State → State → Prop} {mc ms : Nat} {free : Addr → Prop} {bytes : ByteArray} {maxL : Nat} {ret : Option FieldType} {hh : List (Nat × Nat × Nat × Nat)}
    (hM : vx_Met l y ws rm Pc Qc XC mc ms free) (hblind : FrameBlind Pc) (hrc : rm.cells = mc) (hrs : rm.slots = ms)
    (hframes : rm.frames + 1 ≤ R.frames) (hlocals : W9 + (maxL + 11) + rm.locals ≤ R.locals)
    (hws : ∀ w ∈ ws, ∀ a' U, s.WarmedH U.vm → w.before a' U = true) (hcode : Cond.codeWith y bytes maxL ret hh ∈ ws) (hinit : ∀ a' U, s.WarmedH U.vm → (Cond.initialized y.cls).before a' U = true) :
    vx_Back l R p e below s sargs y len W9 (PreOf R mc ms Pc) (PostOf Qc mc ms free) (vx_Post XC mc ms free) := by
  intro m meth c A g ig mk a X hg hsize hdg hW hn hp
  have h1 : (headSpec ws rm).pre.before a A.U = true := atoms_intro fun w hw => hws w hw _ _ X.warmed
  have h2 : (Cond.codeWith y bytes maxL ret hh).before a A.U = true := hws _ hcode _ _ X.warmed
  have h3 : (Cond.initialized y.cls).before a A.U = true := hinit _ _ X.warmed
  have h4 : A.cells + (headSpec ws rm).room.cells ≤ R.cells := by rw [show (headSpec ws rm).room.cells = mc from hrc]; exact hp.1
  have h5 : A.slots + (headSpec ws rm).room.slots ≤ R.slots := by rw [show (headSpec ws rm).room.slots = ms from hrs]; exact hp.2.1
  have hPc : Pc a (A.U.calling g mk a) := hblind _ _ _ _ hp.2.2
  obtain ⟨U, Ls, c0, s0⟩ := A
  dsimp only [Pt.U, Pt.locs, Pt.cells, Pt.slots] at h1 h2 h3 h4 h5 X hn hPc ⊢
  obtain ⟨m9, methY, cY, hn9, hmY, hcY, -, hlY, -⟩ := Cond.codeWith_spec h2
  cases Option.some.inj (hn9.symm.trans hn)
  obtain ⟨kY, hkY, -⟩ := className_of_methodNamed hn
  have hinitY : kY.init = .initialized := Cond.initialized_spec (findClass_of_methodNamed hn) hkY h3
  have h : At U g.method c below := by rw [hg]; exact X.here
  have hlocals9 : W9 + (maxL + 11) + (headSpec ws rm).room.locals ≤ R.locals := hlocals
  have happ : (headSpec ws rm).appliesLoose y e.platform (U.calling g mk a) = true :=
    Spec.appliesLoose_calling (g := g) h hdg hn hkY hinitY
      (X.room_calling (g := g) (R' := (headSpec ws rm).room) hsize hmY hcY hframes (by rw [hlY]; omega) h4 h5) h1
  obtain ⟨mid, hmid⟩ := h.above
  have hfr : (U.setTop g).frames = (.java g :: mid) ++ below := by rw [State.frames_setTop' g h.top, hmid]; rfl
  obtain ⟨o, s₂, hsteps, -, hend, hq⟩ := Steps.callFree hM p X.admits X.cas X.clock (acts := []) hfr happ hPc trivial
  have hq' : vx_Q Qc XC mc ms free a (U.calling g mk a) o s₂ := hq
  rw [State.frames_setTop' g h.top] at hend
  obtain ⟨g₀, hg0⟩ := Option.isSome_iff_exists.mp h.top
  obtain ⟨r, hr⟩ := State.topJava?_eq_some.mp hg0
  have hr' : (({ U with heap := s₂.heap, slotsUsed := s₂.slotsUsed } : State).setVm s₂.vm).frames = .java g₀ :: r := hr
  rcases hq' with ⟨hqc, L, hfe, hL⟩ | ⟨q, rfl, E, ce, L, hx, hce, hcv, hcl, hW₂, hsm, hL⟩
  · obtain ⟨⟨v, rfl⟩, hW₂, e2, q2, q3, q4, q5, q6⟩ := id hfe
    have e3 : s₂ = ({ (U.calling g mk a).setFrames s₂.frames with heap := s₂.heap, slotsUsed := s₂.slotsUsed } : State).setVm s₂.vm := by
      have : s₂ = ({ s₂ with vm := (U.calling g mk a).vm } : State).setVm s₂.vm := rfl
      rw [e2] at this
      exact this
    obtain ⟨c₂, i₂, len₂, hc₂, hd₂, hf₂⟩ := hend
    have hW' : U.WarmedH s₂.vm := hW₂
    have hcc : c₂ = c := by
      have h1 : s₂.code? g.method = U.code? g.method := by
        rw [State.code?_eq, State.code?_eq, hW'.alike.method?]
      exact Option.some.inj (hc₂.symm.trans (h1.trans h.code))
    subst hcc
    have hlen : len₂ = len := by rw [hdg] at hd₂; cases hd₂; rfl
    subst hlen
    have hs₂ : s₂ = (({ U with heap := s₂.heap, slotsUsed := s₂.slotsUsed } : State).setVm s₂.vm).setTop { g with pc := g.pc + len₂, stack := v.toList ++ g.stack } := by
      refine e3.trans ?_
      rw [hf₂, State.calling_eq h.top, State.setFrames_setFrames, State.setTop_of_frames _ hr', hr]
      rfl
    have hsame : U.sameButNew ({ U with heap := s₂.heap, slotsUsed := s₂.slotsUsed } : State) L mc ms := by
      refine ⟨?_, q2, q3, q4, q5, q6⟩
      obtain ⟨t, ht, -⟩ := State.frames_cons hr
      show ({ U with heap := s₂.heap, slotsUsed := s₂.slotsUsed } : State) = { U.setFrames U.frames with heap := s₂.heap, slotsUsed := s₂.slotsUsed }
      rw [State.setFrames_self ht]
    subst hg
    refine Or.inl ⟨v, ⟨(({ U with heap := s₂.heap, slotsUsed := s₂.slotsUsed } : State).setVm s₂.vm), Ls ++ L, c0 + mc, s0 + ms⟩,
      ⟨X.admits, X.cas, X.clock, X.frames, X.room, X.hears, X.method, X.code, (X.here.setHeapUsed s₂.heap s₂.slotsUsed).setVm hW'.alike, X.tail, State.WarmedH.trans X.warmed hW', X.limits, X.bytes, X.same.trans (hsame.setVm s.vm)⟩,
      ⟨g, mk, s₂, L, rfl, rfl, hqc, rfl, hL, rfl, rfl⟩, ?_⟩
    show Steps p.tables e below _ ((({ U with heap := s₂.heap, slotsUsed := s₂.slotsUsed } : State).setVm s₂.vm).setTop { g with pc := g.pc + len₂, stack := v.toList ++ g.stack })
    rw [← hs₂]
    exact hsteps
  · obtain ⟨e2, q2, q3, q4, q5, q6⟩ := id hsm
    have e3 : s₂ = ({ (U.calling g mk a).setFrames s₂.frames with heap := s₂.heap, slotsUsed := s₂.slotsUsed } : State).setVm s₂.vm := by
      have : s₂ = ({ s₂ with vm := (U.calling g mk a).vm } : State).setVm s₂.vm := rfl
      rw [e2] at this
      exact this
    have hf₂ : s₂.frames = .throwing q :: .java g :: U.frames.tail := hend
    have hW' : U.WarmedH s₂.vm := hW₂
    have hs₂ : s₂ = ((({ U with heap := s₂.heap, slotsUsed := s₂.slotsUsed } : State).setVm s₂.vm).setTop g).pushFrame (.throwing q) := by
      refine e3.trans ?_
      rw [hf₂, State.calling_eq h.top, State.setFrames_setFrames, State.pushFrame, State.frames_setTop _ hr', State.setTop_of_frames _ hr', State.setFrames_setFrames, hr]
      rfl
    have hsame : U.sameButNew ({ U with heap := s₂.heap, slotsUsed := s₂.slotsUsed } : State) L mc ms := by
      refine ⟨?_, q2, q3, q4, q5, q6⟩
      obtain ⟨t, ht, -⟩ := State.frames_cons hr
      show ({ U with heap := s₂.heap, slotsUsed := s₂.slotsUsed } : State) = { U.setFrames U.frames with heap := s₂.heap, slotsUsed := s₂.slotsUsed }
      rw [State.setFrames_self ht]
    subst hg
    refine Or.inr ⟨q, ⟨(({ U with heap := s₂.heap, slotsUsed := s₂.slotsUsed } : State).setVm s₂.vm), Ls ++ L, c0 + mc, s0 + ms⟩,
      ⟨X.admits, X.cas, X.clock, X.frames, X.room, X.hears, X.method, X.code, (X.here.setHeapUsed s₂.heap s₂.slotsUsed).setVm hW'.alike, X.tail, State.WarmedH.trans X.warmed hW', X.limits, X.bytes, X.same.trans (hsame.setVm s.vm)⟩,
      ⟨g, mk, s₂, L, E, ce, rfl, rfl, hx, hce, hcv, hcl, rfl, hL, rfl, rfl⟩, ?_⟩
    show Steps p.tables e below _ (((({ U with heap := s₂.heap, slotsUsed := s₂.slotsUsed } : State).setVm s₂.vm).setTop g).pushFrame (.throwing q))
    rw [← hs₂]
    exact hsteps
end
variable {p : Program} {l : Launch} {e : Env} {R : Room} {s : State} {m : MethodId} {args : Array Value} {below : List Frame} {meth : Method} {c : Code} {T : State} {H : Heap} {locs : List Loc} {cells slots : Nat}
theorem vx_callVX (X : Stand p l e R s m args below meth c T locs cells slots) (hexec : p.tables.exec = Jvm.exec) {own C : String} {index : Nat} {y : MethodName} {bytes : ByteArray} {maxL : Nat} {ret : Option FieldType} {hh : List (Nat × Nat × Nat × Nat)}
    (hown : s.vm.findClass own = some m.cls) (hlink : (Cond.methodLink own index y).before args s = true) (hinst : (Cond.instanceMethod y).before args s = true) (hsel : (Cond.selects C y y).before args s = true)
    (hcode : (Cond.codeWith y bytes maxL ret hh).before args s = true) (hy : y.cls ≠ "java/lang/invoke/MethodHandle" ∧ y.cls ≠ "java/lang/invoke/VarHandle")
    {W9 : Nat} {Pre : Pt → Array Value → Prop} {Post : Pt → Array Value → Option Value → Pt → Prop} {PostX : Pt → Array Value → Addr → Pt → Prop} (hK : vx_Back l R p e below s args y 3 W9 Pre Post PostX)
    {b : Addr} {cellB : Cell} (hcell : T.heap[b]? = some cellB) (hobj : cellB.vm.isStatics = false) (hcls : s.vm.findClass C = some cellB.cls)
    {g : JFrame} (hg : g.method = m) (hsize : g.locals.size = c.maxLocals) {argsL rest : List Value} (hlen : ∀ sig, parseMethodDescriptor y.desc = some sig → argsL.length = sig.parameters.length)
    (hstack : g.stack = argsL.reverse ++ .ref b :: rest) (hW : 2 * g.monitorRoom + (rest.map fun v => v.category).sum ≤ W9) (hdg : decode c.code g.pc = .ok (.invokevirtual index, 3))
    (hpre : ∀ vm₁, s.WarmedH vm₁ → Pre ⟨T.setVm vm₁, locs, cells, slots⟩ (Value.ref b :: argsL).toArray) :
    (∃ (v : Option Value) (vm₁ : Vm) (B : Pt), s.WarmedH vm₁ ∧ Stand p l e R s m args below meth c B.U B.locs B.cells B.slots ∧ Post ⟨T.setVm vm₁, locs, cells, slots⟩ (Value.ref b :: argsL).toArray v B ∧
      ∀ target, Steps p.tables e below (B.U.setTop { g with pc := g.pc + 3, stack := v.toList ++ rest }) target → Steps p.tables e below (T.setTop g) target) ∨
    (∃ (q : Addr) (vm₁ : Vm) (B : Pt), s.WarmedH vm₁ ∧ Stand p l e R s m args below meth c B.U B.locs B.cells B.slots ∧ PostX ⟨T.setVm vm₁, locs, cells, slots⟩ (Value.ref b :: argsL).toArray q B ∧
      Steps p.tables e below (T.setTop g) ((B.U.setTop { g with stack := rest }).pushFrame (.throwing q))) := by
  obtain ⟨mk, methM, hnamed, hmethM, hstM, habM⟩ := Cond.instanceMethod_spec hinst
  obtain ⟨m8, methM', cM, hn8, hmethM', -, -, -, -, -, -, hsigM⟩ := Cond.codeWith_spec hcode
  cases Option.some.inj (hn8.symm.trans hnamed)
  cases hmethM.symm.trans hmethM'
  obtain ⟨c2, r2, m2, q1, q2, q3, q4, kP, hkP, hkPi⟩ := Cond.selects_spec hsel
  cases hcls.symm.trans q1
  cases (State.methodFound?_of_named hnamed hy).symm.trans q2
  cases hnamed.symm.trans q3
  have hselP : selectMethod e.platform s.vm cellB.cls mk = .method mk := by rw [Launch.admits_selectMethod X.admits]; exact q4
  obtain ⟨vm₁, X₁, hstep₁⟩ := X.invokevirtual hexec hown hlink hnamed hmethM hstM hkP hkPi hy (a := b) (cell := cellB) hcell
    (fun z h => by rw [h] at hobj; cases hobj) hselP hmethM habM hkP hkPi (g := g) hg (argsL := argsL) (rest := rest) (hlen _ hsigM) hstack hdg
  rcases hK m meth c ⟨T.setVm vm₁, locs, cells, slots⟩ { g with stack := rest } (.invokevirtual index) mk (Value.ref b :: argsL).toArray X₁ hg hsize hdg hW (X₁.named hnamed) (hpre vm₁ X₁.warmed) with ⟨v, B, X', hpost, hsteps⟩ | ⟨q, B, X', hpost, hsteps⟩
  · exact Or.inl ⟨v, vm₁, B, X₁.warmed, X', hpost, fun target h => hstep₁ _ fun acts => by rw [doInvoke_state]; exact hsteps.trans h⟩
  · exact Or.inr ⟨q, vm₁, B, X₁.warmed, X', hpost, hstep₁ _ fun acts => by rw [doInvoke_state]; exact hsteps⟩
theorem vx_callSX (X : Stand p l e R s m args below meth c T locs cells slots) (hexec : p.tables.exec = Jvm.exec) {own : String} {index : Nat} {y : MethodName} {bytes : ByteArray} {maxL : Nat} {ret : Option FieldType} {hh : List (Nat × Nat × Nat × Nat)}
    (hown : s.vm.findClass own = some m.cls) (hlink : (Cond.methodLink own index y).before args s = true) (hstat : (Cond.static y).before args s = true) (hinit : (Cond.initialized y.cls).before args s = true)
    (hcode : (Cond.codeWith y bytes maxL ret hh).before args s = true) (hy : y.cls ≠ "java/lang/invoke/MethodHandle" ∧ y.cls ≠ "java/lang/invoke/VarHandle")
    {W9 : Nat} {Pre : Pt → Array Value → Prop} {Post : Pt → Array Value → Option Value → Pt → Prop} {PostX : Pt → Array Value → Addr → Pt → Prop} (hK : vx_Back l R p e below s args y 3 W9 Pre Post PostX)
    {g : JFrame} (hg : g.method = m) (hsize : g.locals.size = c.maxLocals) {argsL rest : List Value} (hlen : ∀ sig, parseMethodDescriptor y.desc = some sig → argsL.length = sig.parameters.length)
    (hstack : g.stack = argsL.reverse ++ rest) (hW : 2 * g.monitorRoom + (rest.map fun v => v.category).sum ≤ W9) (hdg : decode c.code g.pc = .ok (.invokestatic index, 3))
    (hpre : ∀ vm₁, s.WarmedH vm₁ → Pre ⟨T.setVm vm₁, locs, cells, slots⟩ argsL.toArray) :
    (∃ (v : Option Value) (vm₁ : Vm) (B : Pt), s.WarmedH vm₁ ∧ Stand p l e R s m args below meth c B.U B.locs B.cells B.slots ∧ Post ⟨T.setVm vm₁, locs, cells, slots⟩ argsL.toArray v B ∧
      ∀ target, Steps p.tables e below (B.U.setTop { g with pc := g.pc + 3, stack := v.toList ++ rest }) target → Steps p.tables e below (T.setTop g) target) ∨
    (∃ (q : Addr) (vm₁ : Vm) (B : Pt), s.WarmedH vm₁ ∧ Stand p l e R s m args below meth c B.U B.locs B.cells B.slots ∧ PostX ⟨T.setVm vm₁, locs, cells, slots⟩ argsL.toArray q B ∧
      Steps p.tables e below (T.setTop g) ((B.U.setTop { g with stack := rest }).pushFrame (.throwing q))) := by
  obtain ⟨mk, methM, cM, hnamed, hmethM, -, -, -, -, -, -, hsigM⟩ := Cond.codeWith_spec hcode
  have hstatic : methM.isStatic = true := Cond.static_spec hnamed hmethM hstat
  obtain ⟨kP, hkP, -⟩ := className_of_methodNamed hnamed
  have hinitP : kP.init = .initialized := Cond.initialized_spec (findClass_of_methodNamed hnamed) hkP hinit
  obtain ⟨vm₁, X₁, hstep₁⟩ := X.invokestatic hexec hown hlink hnamed hmethM hstatic hkP hinitP hy (g := g) hg (argsL := argsL) (rest := rest) (hlen _ hsigM) hstack hdg
  rcases hK m meth c ⟨T.setVm vm₁, locs, cells, slots⟩ { g with stack := rest } (.invokestatic index) mk argsL.toArray X₁ hg hsize hdg hW (X₁.named hnamed) (hpre vm₁ X₁.warmed) with ⟨v, B, X', hpost, hsteps⟩ | ⟨q, B, X', hpost, hsteps⟩
  · exact Or.inl ⟨v, vm₁, B, X₁.warmed, X', hpost, fun target h => hstep₁ _ fun acts => by rw [doInvoke_state]; exact hsteps.trans h⟩
  · exact Or.inr ⟨q, vm₁, B, X₁.warmed, X', hpost, hstep₁ _ fun acts => by rw [doInvoke_state]; exact hsteps⟩
theorem vx_callVW (X : Stand p l e R s m args below meth c T locs cells slots) (hexec : p.tables.exec = Jvm.exec) {own C : String} {index : Nat} {y : MethodName} {bytes : ByteArray} {maxL : Nat} {ret : Option FieldType} {hh : List (Nat × Nat × Nat × Nat)}
    (hown : s.vm.findClass own = some m.cls) (hlink : (Cond.methodLink own index y).before args s = true) (hinst : (Cond.instanceMethod y).before args s = true) (hsel : (Cond.selects C y y).before args s = true)
    (hcode : (Cond.codeWith y bytes maxL ret hh).before args s = true) (hy : y.cls ≠ "java/lang/invoke/MethodHandle" ∧ y.cls ≠ "java/lang/invoke/VarHandle")
    {W9 : Nat} {Pre : Pt → Array Value → Prop} {Post : Pt → Array Value → Option Value → Pt → Prop} (hK : Back l R p e below s args y 3 W9 Pre Post)
    {b : Addr} {cellB : Cell} (hcell : T.heap[b]? = some cellB) (hobj : cellB.vm.isStatics = false) (hcls : s.vm.findClass C = some cellB.cls)
    {g : JFrame} (hg : g.method = m) (hsize : g.locals.size = c.maxLocals) {argsL rest : List Value} (hlen : ∀ sig, parseMethodDescriptor y.desc = some sig → argsL.length = sig.parameters.length)
    (hstack : g.stack = argsL.reverse ++ .ref b :: rest) (hW : 2 * g.monitorRoom + (rest.map fun v => v.category).sum ≤ W9) (hdg : decode c.code g.pc = .ok (.invokevirtual index, 3))
    (hpre : ∀ vm₁, s.WarmedH vm₁ → Pre ⟨T.setVm vm₁, locs, cells, slots⟩ (Value.ref b :: argsL).toArray) :
    ∃ (v : Option Value) (vm₁ : Vm) (B : Pt), s.WarmedH vm₁ ∧ Stand p l e R s m args below meth c B.U B.locs B.cells B.slots ∧ Post ⟨T.setVm vm₁, locs, cells, slots⟩ (Value.ref b :: argsL).toArray v B ∧
      ∀ target, Steps p.tables e below (B.U.setTop { g with pc := g.pc + 3, stack := v.toList ++ rest }) target → Steps p.tables e below (T.setTop g) target := by
  obtain ⟨mk, methM, hnamed, hmethM, hstM, habM⟩ := Cond.instanceMethod_spec hinst
  obtain ⟨m8, methM', cM, hn8, hmethM', -, -, -, -, -, -, hsigM⟩ := Cond.codeWith_spec hcode
  cases Option.some.inj (hn8.symm.trans hnamed)
  cases hmethM.symm.trans hmethM'
  obtain ⟨c2, r2, m2, q1, q2, q3, q4, kP, hkP, hkPi⟩ := Cond.selects_spec hsel
  cases hcls.symm.trans q1
  cases (State.methodFound?_of_named hnamed hy).symm.trans q2
  cases hnamed.symm.trans q3
  have hselP : selectMethod e.platform s.vm cellB.cls mk = .method mk := by rw [Launch.admits_selectMethod X.admits]; exact q4
  obtain ⟨vm₁, X₁, hstep₁⟩ := X.invokevirtual hexec hown hlink hnamed hmethM hstM hkP hkPi hy (a := b) (cell := cellB) hcell
    (fun z h => by rw [h] at hobj; cases hobj) hselP hmethM habM hkP hkPi (g := g) hg (argsL := argsL) (rest := rest) (hlen _ hsigM) hstack hdg
  obtain ⟨v, B, X', hpost, hsteps⟩ := hK m meth c ⟨T.setVm vm₁, locs, cells, slots⟩ { g with stack := rest } (.invokevirtual index) mk (Value.ref b :: argsL).toArray X₁ hg hsize hdg hW (X₁.named hnamed) (hpre vm₁ X₁.warmed)
  exact ⟨v, vm₁, B, X₁.warmed, X', hpost, fun target h => hstep₁ _ fun acts => by rw [doInvoke_state]; exact hsteps.trans h⟩
abbrev vx_CVW (R : Room) (s : State) (args : Array Value) (own C : String) (index : Nat) (y : MethodName) (bytes : ByteArray) (maxL : Nat) (ret : Option FieldType) (hh : List (Nat × Nat × Nat × Nat)) (ws : List Cond) (rm : Room) (mc ms n : Nat) : Prop :=
  (rm.cells = mc ∧ rm.slots = ms ∧ rm.frames + 1 ≤ R.frames ∧ 8 + (maxL + 11) + rm.locals ≤ R.locals ∧ (∀ w ∈ ws, ∀ (a' : Array Value) (U : State), s.WarmedH U.vm → w.before a' U = true) ∧ Cond.codeWith y bytes maxL ret hh ∈ ws) ∧
  (Cond.codeWith y bytes maxL ret hh).before args s = true ∧ (Cond.initialized y.cls).before args s = true ∧ (y.cls ≠ "java/lang/invoke/MethodHandle" ∧ y.cls ≠ "java/lang/invoke/VarHandle") ∧
  (∀ sig, parseMethodDescriptor y.desc = some sig → n = sig.parameters.length) ∧ (Cond.methodLink own index y).before args s = true ∧ (Cond.instanceMethod y).before args s = true ∧ (Cond.selects C y y).before args s = true
theorem vx_cwVW {own C : String} {index maxL mc ms : Nat} {y : MethodName} {bytes : ByteArray} {ret : Option FieldType} {hh : List (Nat × Nat × Nat × Nat)} {Ts ws ws' : List Cond} {rm : Room} (n : Nat) (ht : ∀ w ∈ Ts, w.before args s = true) (hT : GoodIn Ts (wsV own index C y ws)) (hw : ws = Cond.codeWith y bytes maxL ret hh :: ws') (hrc : rm.cells = mc) (hrs : rm.slots = ms)
    (hd : y.cls = C ∧ y.cls ≠ "java/lang/invoke/MethodHandle" ∧ y.cls ≠ "java/lang/invoke/VarHandle" ∧ (parseMethodDescriptor y.desc).map (fun d => d.parameters.length) = some n) (hR : rm.frames + 1 ≤ R.frames ∧ 8 + (maxL + 11) + rm.locals ≤ R.locals) :
    vx_CVW R s args own C index y bytes maxL ret hh ws rm mc ms n := by
  obtain ⟨hC, hd⟩ := hd
  subst hC
  have ok : ∀ w ∈ wsV own index y.cls y ws, w.before args s = true := fun w h => ht w (hT w h).1
  have hG : GoodIn Ts ws := fun w h => hT w (by unfold wsV; exact List.mem_append_right _ h)
  have hc : Cond.codeWith y bytes maxL ret hh ∈ ws := by rw [hw]; exact List.mem_cons_self
  refine ⟨⟨hrc, hrs, hR.1, hR.2, pay_in ht hG, hc⟩, ht _ (hG _ hc).1, ok _ (by simp [wsV]), ⟨hd.1, hd.2.1⟩, fun sig h => ?_, ok _ (by simp [wsV]), ok _ (by simp [wsV]), ok _ (by simp [wsV])⟩
  have h2 := hd.2.2
  rw [h] at h2
  exact (Option.some.inj h2).symm
theorem vx_runVW {y : MethodName} {bytes cc : ByteArray} {maxL nL mc ms n index : Nat} {ret : Option FieldType} {hh : List (Nat × Nat × Nat × Nat)} {ws : List Cond} {rm : Room} {Pc : Array Value → State → Prop} {Qc : Array Value → State → Outcome → State → Prop} {free : Addr → Prop} {Ts : List Cond} {own C : String} {b : Addr} {As rest : List Value} {g : JFrame}
    (S : CallFix p m c cc nL s args Ts own) (hM : Met l y ws rm Pc Qc mc ms free) (cw : vx_CVW R s args own C index y bytes maxL ret hh ws rm mc ms n) (hp : PreV s H C b Pc As)
    (hg : g.method = m) (hn : As.length = n) (hsize : g.locals.size = nL) (hstack : g.stack = As.reverse ++ .ref b :: rest) (hW : 2 * g.monitorRoom + (rest.map fun v => v.category).sum ≤ 8) (hdg : decode cc g.pc = .ok (.invokevirtual index, 3)) (hf : cells + mc ≤ R.cells ∧ slots + ms ≤ R.slots) :
    va_Run p l e R s m args below meth c H locs cells slots mc ms g rest (Qc (Value.ref b :: As).toArray) free := by
  obtain ⟨⟨hrc, hrs, hfr, hlo, hws, hcw⟩, hcode, hini, hy, hlen, hl, hin, hse⟩ := cw
  have hK : Back l R p e below s args y 3 8 (PreOf R mc ms Pc) (PostOf Qc mc ms free) := va_backW (hh := hh) (bytes := bytes) (maxL := maxL) (ret := ret) hM hp.1 hrc hrs hfr hlo hws hcw (fun a' U hW => word_at hW (Or.inl (by first | rfl | simp [Cond.onTables, Cond.keeps, Cond.steady])) hini)
  obtain ⟨hx, hb, hml, ho, -⟩ := S
  obtain ⟨-, ⟨cellB, hcB, hoB, hclB⟩, hPc⟩ := hp
  intro T hT X
  obtain ⟨v, vm₁, ⟨U', l2, c2, s2⟩, hW₁, X', ⟨g', mk, t, L, e1, e2, hq, h1, hL, h2, h3⟩, st⟩ := vx_callVW X hx (C := C) (hh := hh) (bytes := bytes) (maxL := maxL) (ret := ret) ho hl hin hse hcode hy hK (by rw [hT]; exact hcB) hoB hclB hg (hsize.trans hml.symm) (argsL := As) (rest := rest) (fun sig h => hn.trans (hlen sig h)) hstack hW (by rw [hb]; exact hdg)
    (fun vm₁ hW₁ => ⟨hf.1, hf.2, hPc (T.setVm vm₁) hT hW₁⟩)
  dsimp only [Pt.U, Pt.locs, Pt.cells, Pt.slots] at X' e1 e2 h1 h2 h3 st
  subst h1; subst h2; subst h3
  exact ⟨v, (T.setVm vm₁).calling g' mk (Value.ref b :: As).toArray, t, U', L, hT, X', hL, e1, e2, hq, st⟩
section
variable {y : MethodName} {bytes cc : ByteArray} {maxL nL mc ms n index : Nat} {ret : Option FieldType} {ws : List Cond} {rm : Room} {Pc : Array Value → State → Prop} {Qc : Array Value → State → Outcome → State → Prop} {XC : String → State → State → Prop} {free : Addr → Prop} {Ts : List Cond} {own C : String} {b : Addr} {As rest : List Value} {g : JFrame}
theorem vx_runVX {hh : List (Nat × Nat × Nat × Nat)} (S : CallFix p m c cc nL s args Ts own) (hM : vx_Met l y ws rm Pc Qc XC mc ms free) (cw : vx_CVW R s args own C index y bytes maxL ret hh ws rm mc ms n) (hp : PreV s H C b Pc As)
    (hg : g.method = m) (hn : As.length = n) (hsize : g.locals.size = nL) (hstack : g.stack = As.reverse ++ .ref b :: rest) (hW : 2 * g.monitorRoom + (rest.map fun v => v.category).sum ≤ 8) (hdg : decode cc g.pc = .ok (.invokevirtual index, 3)) (hf : cells + mc ≤ R.cells ∧ slots + ms ≤ R.slots) :
    vx_Run p l e R s m args below meth c H locs cells slots mc ms g rest (Qc (Value.ref b :: As).toArray) XC free := by
  obtain ⟨⟨hrc, hrs, hfr, hlo, hws, hcw⟩, hcode, hini, hy, hlen, hl, hin, hse⟩ := cw
  have hK : vx_Back l R p e below s args y 3 8 (PreOf R mc ms Pc) (PostOf Qc mc ms free) (vx_Post XC mc ms free) := vx_backW (hh := hh) (bytes := bytes) (maxL := maxL) (ret := ret) hM hp.1 hrc hrs hfr hlo hws hcw (fun a' U hW => word_at hW (Or.inl (by first | rfl | simp [Cond.onTables, Cond.keeps, Cond.steady])) hini)
  obtain ⟨hx, hb, hml, ho, -⟩ := S
  obtain ⟨-, ⟨cellB, hcB, hoB, hclB⟩, hPc⟩ := hp
  intro T hT X
  rcases vx_callVX X hx (C := C) (hh := hh) (bytes := bytes) (maxL := maxL) (ret := ret) ho hl hin hse hcode hy hK (by rw [hT]; exact hcB) hoB hclB hg (hsize.trans hml.symm) (argsL := As) (rest := rest) (fun sig h => hn.trans (hlen sig h)) hstack hW (by rw [hb]; exact hdg)
    (fun vm₁ hW₁ => ⟨hf.1, hf.2, hPc (T.setVm vm₁) hT hW₁⟩) with ⟨v, vm₁, ⟨U', l2, c2, s2⟩, hW₁, X', ⟨g', mk, t, L, e1, e2, hq, h1, hL, h2, h3⟩, st⟩ | ⟨q, vm₁, ⟨U', l2, c2, s2⟩, hW₁, X', ⟨g', mk, t, L, E, ce, e1, e2, hq, hce, hcv, hcl, h1, hL, h2, h3⟩, st⟩
  · dsimp only [Pt.U, Pt.locs, Pt.cells, Pt.slots] at X' e1 e2 h1 h2 h3 st
    subst h1; subst h2; subst h3
    exact Or.inl ⟨v, (T.setVm vm₁).calling g' mk (Value.ref b :: As).toArray, t, U', L, hT, X', hL, e1, e2, hq, st⟩
  · dsimp only [Pt.U, Pt.locs, Pt.cells, Pt.slots] at X' e1 e2 h1 h2 h3 st hcl
    subst h1; subst h2; subst h3
    exact Or.inr ⟨q, (T.setVm vm₁).calling g' mk (Value.ref b :: As).toArray, t, U', L, E, ce, hT, X', hL, e1, e2, hq, hce, hcv, vx_cls hW₁ hcl, st⟩
theorem vx_runSX {hh : List (Nat × Nat × Nat × Nat)} (S : CallFix p m c cc nL s args Ts own) (hM : vx_Met l y ws rm Pc Qc XC mc ms free) (cw : vx_CSW R s args own index y bytes maxL ret hh ws rm mc ms n) (hp : PreS s H Pc As)
    (hg : g.method = m) (hn : As.length = n) (hsize : g.locals.size = nL) (hstack : g.stack = As.reverse ++ rest) (hW : 2 * g.monitorRoom + (rest.map fun v => v.category).sum ≤ 8) (hdg : decode cc g.pc = .ok (.invokestatic index, 3)) (hf : cells + mc ≤ R.cells ∧ slots + ms ≤ R.slots) :
    vx_Run p l e R s m args below meth c H locs cells slots mc ms g rest (Qc As.toArray) XC free := by
  obtain ⟨⟨hrc, hrs, hfr, hlo, hws, hcw⟩, hcode, hini, hy, hlen, hl, hstt⟩ := cw
  have hK : vx_Back l R p e below s args y 3 8 (PreOf R mc ms Pc) (PostOf Qc mc ms free) (vx_Post XC mc ms free) := vx_backW (hh := hh) (bytes := bytes) (maxL := maxL) (ret := ret) hM hp.1 hrc hrs hfr hlo hws hcw (fun a' U hW => word_at hW (Or.inl (by first | rfl | simp [Cond.onTables, Cond.keeps, Cond.steady])) hini)
  obtain ⟨hx, hb, hml, ho, -⟩ := S
  intro T hT X
  rcases vx_callSX X hx (hh := hh) (bytes := bytes) (maxL := maxL) (ret := ret) ho hl hstt hini hcode hy hK hg (hsize.trans hml.symm) (argsL := As) (rest := rest) (fun sig h => hn.trans (hlen sig h)) hstack hW (by rw [hb]; exact hdg)
    (fun vm₁ hW₁ => ⟨hf.1, hf.2, hp.2 (T.setVm vm₁) hT hW₁⟩) with ⟨v, vm₁, ⟨U', l2, c2, s2⟩, hW₁, X', ⟨g', mk, t, L, e1, e2, hq, h1, hL, h2, h3⟩, st⟩ | ⟨q, vm₁, ⟨U', l2, c2, s2⟩, hW₁, X', ⟨g', mk, t, L, E, ce, e1, e2, hq, hce, hcv, hcl, h1, hL, h2, h3⟩, st⟩
  · dsimp only [Pt.U, Pt.locs, Pt.cells, Pt.slots] at X' e1 e2 h1 h2 h3 st
    subst h1; subst h2; subst h3
    exact Or.inl ⟨v, (T.setVm vm₁).calling g' mk As.toArray, t, U', L, hT, X', hL, e1, e2, hq, st⟩
  · dsimp only [Pt.U, Pt.locs, Pt.cells, Pt.slots] at X' e1 e2 h1 h2 h3 st hcl
    subst h1; subst h2; subst h3
    exact Or.inr ⟨q, (T.setVm vm₁).calling g' mk As.toArray, t, U', L, E, ce, hT, X', hL, e1, e2, hq, hce, hcv, vx_cls hW₁ hcl, st⟩
end
end VXH
theorem vx_ofWH {l : Launch} {y : MethodName} {ws ws' : List Cond} {rm : Room} {Pc : Array Value → State → Prop} {Qc : Array Value → State → Outcome → State → Prop} {XC : String → State → State → Prop} {mc ms : Nat} {free : Addr → Prop} {cc : ByteArray} {maxL : Nat} {ret : Option FieldType} {hh : List (Nat × Nat × Nat × Nat)}
    (hy : plainName y.cls = true) (hw : ws = Cond.codeWith y cc maxL ret hh :: ws')
    (body : ∀ p e s m args below meth c s₁, BodyLoose p l y (headSpec ws rm) cc maxL ret e s m args below meth c s₁ → c.maxLocals = maxL → Pc args s →
      W p l e (headSpec ws rm).room s m args below meth c s.heap [] 0 0 (vx_MQ below Qc XC args s mc ms free) (entryFrame m args maxL)) : vx_Met l y ws rm Pc Qc XC mc ms free := by
  refine MetFree.of_bodyS (code := cc) (maxLocals := maxL) (ret := ret) hy ?_ ?_
  · intro args s m h hn
    obtain ⟨m9, meth, c, hn9, h1, h2, h3, h4, -, h5, h6, -⟩ := Cond.codeWith_spec (atoms_spec (ws := ws) h _ (by rw [hw]; exact List.mem_cons_self))
    cases hn.symm.trans hn9
    exact ⟨meth, c, h1, h2, h3, h4, h5, h6⟩
  · intro p e s m args below meth c s₁ B hml hP _
    have hh0 : s₁.heap = s.heap := by rw [B.state]; rfl
    obtain ⟨t, a1, o, b1, b2, b3⟩ := body p e s m args below meth c s₁ B hml hP s₁ hh0 (Stand.of_body B)
    exact ⟨t, o, a1, b1, b2, b3⟩
/-! ===== END ===== -/
end
section
def RX0 : String := "ToeplitzLab$Fractions"
def TX0 : u_T := fun k => match k with
  | 0 => ("ToeplitzLab$Fractions", "tops", "[J", true)
  | _ => ("ToeplitzLab$Fractions", "bottoms", "[J", true)
def tyX0 : Nat → FieldType := fun k => match k with
  | 0 => .array .long
  | _ => .array .long
abbrev wsX00 : List Cond := u_ws RX0 TX0 2
theorem nmX0 : ∀ a, a < 2 → ∀ b, b < 2 → a ≠ b → (TX0 a).2.1 ≠ (TX0 b).2.1 := by decide +kernel
theorem tyX0_ok : ∀ k, k < 2 → parseFieldDescriptor (TX0 k).2.2.1 = some (tyX0 k) := by decide +kernel
abbrev cX0_init : ByteArray := prog_2_method_1_code
def yX0_init : MethodName := ⟨RX0, "<init>", "()V"⟩
abbrev cX0_find : ByteArray := prog_2_method_2_code
def yX0_find : MethodName := ⟨RX0, "find", "(LToeplitzLab$State;I)Z"⟩
abbrev cX0_solve : ByteArray := prog_2_method_3_code
def yX0_solve : MethodName := ⟨RX0, "solve", "(LToeplitzLab$State;)Z"⟩
abbrev cX0_rowTimes : ByteArray := prog_2_method_4_code
def yX0_rowTimes : MethodName := ⟨RX0, "rowTimes", "(LToeplitzLab$State;IJ)J"⟩
abbrev cX0_isLarge : ByteArray := prog_2_method_5_code
def yX0_isLarge : MethodName := ⟨RX0, "isLarge", "(JJ)Z"⟩
abbrev cX0_greatestDivisor : ByteArray := prog_2_method_6_code
def yX0_greatestDivisor : MethodName := ⟨RX0, "greatestDivisor", "(JJ)J"⟩
abbrev cX0_commonMultiple : ByteArray := prog_2_method_7_code
def yX0_commonMultiple : MethodName := ⟨RX0, "commonMultiple", "(JJ)J"⟩
def RX1 : String := "ToeplitzLab$Grid"
def TX1 : u_T := fun k => match k with
  | 0 => ("ToeplitzLab$Grid", "cells", "[[I", true)
  | 1 => ("ToeplitzLab$Grid", "rows", "I", false)
  | 2 => ("ToeplitzLab$Grid", "columns", "I", false)
  | 3 => ("ToeplitzLab$Grid", "modulus", "I", false)
  | 4 => ("ToeplitzLab$Grid", "determinant", "I", false)
  | _ => ("ToeplitzLab$Grid", "firstFree", "I", false)
def tyX1 : Nat → FieldType := fun k => match k with
  | 0 => .array (.array .int)
  | 1 => .int
  | 2 => .int
  | 3 => .int
  | 4 => .int
  | _ => .int
abbrev wsX10 : List Cond := u_ws RX1 TX1 6
theorem nmX1 : ∀ a, a < 6 → ∀ b, b < 6 → a ≠ b → (TX1 a).2.1 ≠ (TX1 b).2.1 := by decide +kernel
theorem tyX1_ok : ∀ k, k < 6 → parseFieldDescriptor (TX1 k).2.2.1 = some (tyX1 k) := by decide +kernel
abbrev cX1_init : ByteArray := prog_3_method_1_code
def yX1_init : MethodName := ⟨RX1, "<init>", "()V"⟩
abbrev cX1_take : ByteArray := prog_3_method_2_code
def yX1_take : MethodName := ⟨RX1, "take", "(LToeplitzLab$State;III)V"⟩
abbrev cX1_height : ByteArray := prog_3_method_3_code
def yX1_height : MethodName := ⟨RX1, "height", "()I"⟩
abbrev cX1_at : ByteArray := prog_3_method_4_code
def yX1_at : MethodName := ⟨RX1, "at", "(II)I"⟩
abbrev cX1_put : ByteArray := prog_3_method_5_code
def yX1_put : MethodName := ⟨RX1, "put", "(III)V"⟩
abbrev cX1_determinant : ByteArray := prog_3_method_6_code
def yX1_determinant : MethodName := ⟨RX1, "determinant", "()I"⟩
abbrev cX1_eliminate : ByteArray := prog_3_method_7_code
def yX1_eliminate : MethodName := ⟨RX1, "eliminate", "(I)I"⟩
abbrev cX1_pivotRow : ByteArray := prog_3_method_8_code
def yX1_pivotRow : MethodName := ⟨RX1, "pivotRow", "(III)I"⟩
abbrev cX1_leadRow : ByteArray := prog_3_method_9_code
def yX1_leadRow : MethodName := ⟨RX1, "leadRow", "(III)I"⟩
abbrev cX1_clearColumn : ByteArray := prog_3_method_10_code
def yX1_clearColumn : MethodName := ⟨RX1, "clearColumn", "(II)V"⟩
abbrev cX1_inverseOf : ByteArray := prog_3_method_11_code
def yX1_inverseOf : MethodName := ⟨RX1, "inverseOf", "(I)I"⟩
abbrev cX1_ofKernel : ByteArray := prog_3_method_12_code
def yX1_ofKernel : MethodName := ⟨RX1, "ofKernel", "(I)I"⟩
abbrev cX1_displace : ByteArray := prog_3_method_13_code
def yX1_displace : MethodName := ⟨RX1, "displace", "(I)V"⟩
def RX2 : String := "ToeplitzLab$History"
def TX2 : u_T := fun k => match k with
  | 0 => ("ToeplitzLab$History", "kept", "[LToeplitzLab$State;", true)
  | 1 => ("ToeplitzLab$History", "next", "I", false)
  | _ => ("ToeplitzLab$History", "count", "I", false)
def tyX2 : Nat → FieldType := fun k => match k with
  | 0 => .array (.object "ToeplitzLab$State")
  | 1 => .int
  | _ => .int
abbrev wsX20 : List Cond := u_ws RX2 TX2 3
theorem nmX2 : ∀ a, a < 3 → ∀ b, b < 3 → a ≠ b → (TX2 a).2.1 ≠ (TX2 b).2.1 := by decide +kernel
theorem tyX2_ok : ∀ k, k < 3 → parseFieldDescriptor (TX2 k).2.2.1 = some (tyX2 k) := by decide +kernel
abbrev cX2_init : ByteArray := prog_4_method_1_code
def yX2_init : MethodName := ⟨RX2, "<init>", "()V"⟩
abbrev cX2_remember : ByteArray := prog_4_method_2_code
def yX2_remember : MethodName := ⟨RX2, "remember", "(LToeplitzLab$State;)V"⟩
abbrev cX2_takeLatest : ByteArray := prog_4_method_3_code
def yX2_takeLatest : MethodName := ⟨RX2, "takeLatest", "()LToeplitzLab$State;"⟩
abbrev cX2_forget : ByteArray := prog_4_method_4_code
def yX2_forget : MethodName := ⟨RX2, "forget", "()V"⟩
def RX3 : String := "ToeplitzLab$Input"
def TX3 : u_T := fun k => match k with
  | 0 => ("ToeplitzLab$Input", "text", "[B", true)
  | 1 => ("ToeplitzLab$Input", "filled", "I", false)
  | 2 => ("ToeplitzLab$Input", "system", "LToeplitzLab$State;", true)
  | 3 => ("ToeplitzLab$Input", "code", "I", false)
  | 4 => ("ToeplitzLab$Input", "start", "I", false)
  | 5 => ("ToeplitzLab$Input", "length", "I", false)
  | 6 => ("ToeplitzLab$Input", "kind", "I", false)
  | 7 => ("ToeplitzLab$Input", "end", "I", false)
  | 8 => ("ToeplitzLab$Input", "number", "I", false)
  | 9 => ("ToeplitzLab$Input", "from", "I", false)
  | 10 => ("ToeplitzLab$Input", "to", "I", false)
  | 11 => ("ToeplitzLab$Input", "bands", "I", false)
  | 12 => ("ToeplitzLab$Input", "toldDiagonals", "I", false)
  | _ => ("ToeplitzLab$Input", "toldRows", "I", false)
def tyX3 : Nat → FieldType := fun k => match k with
  | 0 => .array .byte
  | 1 => .int
  | 2 => .object "ToeplitzLab$State"
  | 3 => .int
  | 4 => .int
  | 5 => .int
  | 6 => .int
  | 7 => .int
  | 8 => .int
  | 9 => .int
  | 10 => .int
  | 11 => .int
  | 12 => .int
  | _ => .int
abbrev wsX30 : List Cond := u_ws RX3 TX3 14
theorem nmX3 : ∀ a, a < 14 → ∀ b, b < 14 → a ≠ b → (TX3 a).2.1 ≠ (TX3 b).2.1 := by decide +kernel
theorem tyX3_ok : ∀ k, k < 14 → parseFieldDescriptor (TX3 k).2.2.1 = some (tyX3 k) := by decide +kernel
abbrev cX3_init : ByteArray := prog_5_method_1_code
def yX3_init : MethodName := ⟨RX3, "<init>", "()V"⟩
abbrev cX3_putWord : ByteArray := prog_5_method_2_code
def yX3_putWord : MethodName := ⟨RX3, "putWord", "(I)V"⟩
abbrev cX3_parse : ByteArray := prog_5_method_3_code
def yX3_parse : MethodName := ⟨RX3, "parse", "(I)Z"⟩
abbrev cX3_readHead : ByteArray := prog_5_method_4_code
def yX3_readHead : MethodName := ⟨RX3, "readHead", "()Z"⟩
abbrev cX3_readLine : ByteArray := prog_5_method_5_code
def yX3_readLine : MethodName := ⟨RX3, "readLine", "()Z"⟩
abbrev cX3_readRange : ByteArray := prog_5_method_6_code
def yX3_readRange : MethodName := ⟨RX3, "readRange", "(Z)Z"⟩
abbrev cX3_readRangeValue : ByteArray := prog_5_method_7_code
def yX3_readRangeValue : MethodName := ⟨RX3, "readRangeValue", "()Z"⟩
abbrev cX3_readPart : ByteArray := prog_5_method_8_code
def yX3_readPart : MethodName := ⟨RX3, "readPart", "([II)Z"⟩
abbrev cX3_reachNumber : ByteArray := prog_5_method_9_code
def yX3_reachNumber : MethodName := ⟨RX3, "reachNumber", "(IIZ)Z"⟩
abbrev cX3_isWord : ByteArray := prog_5_method_10_code
def yX3_isWord : MethodName := ⟨RX3, "isWord", "(Ljava/lang/String;)Z"⟩
abbrev cX3_fail : ByteArray := prog_5_method_11_code
def yX3_fail : MethodName := ⟨RX3, "fail", "(I)Z"⟩
abbrev cX3_advance : ByteArray := prog_5_method_12_code
def yX3_advance : MethodName := ⟨RX3, "advance", "()V"⟩
abbrev cX3_runEnd : ByteArray := prog_5_method_13_code
def yX3_runEnd : MethodName := ⟨RX3, "runEnd", "(ICC)I"⟩
abbrev cX3_readDecimals : ByteArray := prog_5_method_14_code
def yX3_readDecimals : MethodName := ⟨RX3, "readDecimals", "()I"⟩
abbrev cX3_byteAt : ByteArray := prog_5_method_15_code
def yX3_byteAt : MethodName := ⟨RX3, "byteAt", "(I)I"⟩
def RX4 : String := "ToeplitzLab$Lifter"
def TX4 : u_T := fun k => match k with
  | 0 => ("ToeplitzLab$Lifter", "grid", "LToeplitzLab$Grid;", true)
  | _ => ("ToeplitzLab$Lifter", "fresh", "[I", true)
def tyX4 : Nat → FieldType := fun k => match k with
  | 0 => .object "ToeplitzLab$Grid"
  | _ => .array .int
abbrev wsX40 : List Cond := u_ws RX4 TX4 2
theorem nmX4 : ∀ a, a < 2 → ∀ b, b < 2 → a ≠ b → (TX4 a).2.1 ≠ (TX4 b).2.1 := by decide +kernel
theorem tyX4_ok : ∀ k, k < 2 → parseFieldDescriptor (TX4 k).2.2.1 = some (tyX4 k) := by decide +kernel
abbrev cX4_init : ByteArray := prog_6_method_1_code
def yX4_init : MethodName := ⟨RX4, "<init>", "()V"⟩
abbrev cX4_prepare : ByteArray := prog_6_method_2_code
def yX4_prepare : MethodName := ⟨RX4, "prepare", "(LToeplitzLab$State;)Z"⟩
abbrev cX4_ofInverse : ByteArray := prog_6_method_3_code
def yX4_ofInverse : MethodName := ⟨RX4, "ofInverse", "(II)I"⟩
abbrev cX4_addDigit : ByteArray := prog_6_method_4_code
def yX4_addDigit : MethodName := ⟨RX4, "addDigit", "(LToeplitzLab$State;)V"⟩
abbrev cX4_nextRest : ByteArray := prog_6_method_5_code
def yX4_nextRest : MethodName := ⟨RX4, "nextRest", "(LToeplitzLab$State;I)I"⟩
abbrev cX4_liftAndEnter : ByteArray := prog_6_method_6_code
def yX4_liftAndEnter : MethodName := ⟨RX4, "liftAndEnter", "(LToeplitzLab$State;LToeplitzLab$Fractions;)Z"⟩
def RX5 : String := "ToeplitzLab$Pairs"
def TX5 : u_T := fun k => match k with
  | 0 => ("ToeplitzLab$Pairs", "lefts", "[[I", true)
  | _ => ("ToeplitzLab$Pairs", "rights", "[[I", true)
def tyX5 : Nat → FieldType := fun k => match k with
  | 0 => .array (.array .int)
  | _ => .array (.array .int)
abbrev wsX50 : List Cond := u_ws RX5 TX5 2
theorem nmX5 : ∀ a, a < 2 → ∀ b, b < 2 → a ≠ b → (TX5 a).2.1 ≠ (TX5 b).2.1 := by decide +kernel
theorem tyX5_ok : ∀ k, k < 2 → parseFieldDescriptor (TX5 k).2.2.1 = some (tyX5 k) := by decide +kernel
abbrev cX5_init : ByteArray := prog_7_method_1_code
def yX5_init : MethodName := ⟨RX5, "<init>", "()V"⟩
abbrev cX5_component : ByteArray := prog_7_method_2_code
def yX5_component : MethodName := ⟨RX5, "component", "(IIZ)I"⟩
abbrev cX5_find : ByteArray := prog_7_method_3_code
def yX5_find : MethodName := ⟨RX5, "find", "(LToeplitzLab$Grid;I)I"⟩
abbrev cX5_keep : ByteArray := prog_7_method_4_code
def yX5_keep : MethodName := ⟨RX5, "keep", "(LToeplitzLab$Grid;IIII)V"⟩
abbrev cX5_subtract : ByteArray := prog_7_method_5_code
def yX5_subtract : MethodName := ⟨RX5, "subtract", "(LToeplitzLab$Grid;II)V"⟩
def RX6 : String := "ToeplitzLab$State"
def TX6 : u_T := fun k => match k with
  | 0 => ("ToeplitzLab$State", "order", "I", false)
  | 1 => ("ToeplitzLab$State", "modulus", "I", false)
  | 2 => ("ToeplitzLab$State", "diagonals", "[I", true)
  | 3 => ("ToeplitzLab$State", "sides", "[I", true)
  | 4 => ("ToeplitzLab$State", "probes", "[I", true)
  | 5 => ("ToeplitzLab$State", "digitCount", "I", false)
  | 6 => ("ToeplitzLab$State", "power", "J", false)
  | 7 => ("ToeplitzLab$State", "sums", "[J", true)
  | 8 => ("ToeplitzLab$State", "rests", "[I", true)
  | 9 => ("ToeplitzLab$State", "entryCount", "I", false)
  | _ => ("ToeplitzLab$State", "account", "[I", true)
def tyX6 : Nat → FieldType := fun k => match k with
  | 0 => .int
  | 1 => .int
  | 2 => .array .int
  | 3 => .array .int
  | 4 => .array .int
  | 5 => .int
  | 6 => .long
  | 7 => .array .long
  | 8 => .array .int
  | 9 => .int
  | _ => .array .int
abbrev wsX60 : List Cond := u_ws RX6 TX6 11
theorem nmX6 : ∀ a, a < 11 → ∀ b, b < 11 → a ≠ b → (TX6 a).2.1 ≠ (TX6 b).2.1 := by decide +kernel
theorem tyX6_ok : ∀ k, k < 11 → parseFieldDescriptor (TX6 k).2.2.1 = some (tyX6 k) := by decide +kernel
abbrev cX6_init : ByteArray := prog_8_method_1_code
def yX6_init : MethodName := ⟨RX6, "<init>", "()V"⟩
abbrev cX6_clear : ByteArray := prog_8_method_2_code
def yX6_clear : MethodName := ⟨RX6, "clear", "()V"⟩
abbrev cX6_become : ByteArray := prog_8_method_3_code
def yX6_become : MethodName := ⟨RX6, "become", "(LToeplitzLab$State;)V"⟩
abbrev cX6_along : ByteArray := prog_8_method_4_code
def yX6_along : MethodName := ⟨RX6, "along", "(I)I"⟩
abbrev cX6_putAlong : ByteArray := prog_8_method_5_code
def yX6_putAlong : MethodName := ⟨RX6, "putAlong", "(II)V"⟩
abbrev cX6_beginRefinement : ByteArray := prog_8_method_6_code
def yX6_beginRefinement : MethodName := ⟨RX6, "beginRefinement", "()V"⟩
abbrev cX6_digitLimit : ByteArray := prog_8_method_7_code
def yX6_digitLimit : MethodName := ⟨RX6, "digitLimit", "()I"⟩
abbrev cX6_digitOf : ByteArray := prog_8_method_8_code
def yX6_digitOf : MethodName := ⟨RX6, "digitOf", "(II)I"⟩
abbrev cX6_enter : ByteArray := prog_8_method_9_code
def yX6_enter : MethodName := ⟨RX6, "enter", "(Z)V"⟩
def RX7 : String := "ToeplitzLab"
def TX7 : u_T := fun k => match k with
  | 0 => ("ToeplitzLab", "input", "LToeplitzLab$Input;", true)
  | 1 => ("ToeplitzLab", "state", "LToeplitzLab$State;", true)
  | 2 => ("ToeplitzLab", "draft", "LToeplitzLab$State;", true)
  | 3 => ("ToeplitzLab", "history", "LToeplitzLab$History;", true)
  | 4 => ("ToeplitzLab", "slots", "[LToeplitzLab$State;", true)
  | 5 => ("ToeplitzLab", "slotUsed", "[Z", true)
  | 6 => ("ToeplitzLab", "grid", "LToeplitzLab$Grid;", true)
  | 7 => ("ToeplitzLab", "pairs", "LToeplitzLab$Pairs;", true)
  | 8 => ("ToeplitzLab", "fractions", "LToeplitzLab$Fractions;", true)
  | 9 => ("ToeplitzLab", "lifter", "LToeplitzLab$Lifter;", true)
  | _ => ("ToeplitzLab", "ends", "[I", true)
def tyX7 : Nat → FieldType := fun k => match k with
  | 0 => .object "ToeplitzLab$Input"
  | 1 => .object "ToeplitzLab$State"
  | 2 => .object "ToeplitzLab$State"
  | 3 => .object "ToeplitzLab$History"
  | 4 => .array (.object "ToeplitzLab$State")
  | 5 => .array .boolean
  | 6 => .object "ToeplitzLab$Grid"
  | 7 => .object "ToeplitzLab$Pairs"
  | 8 => .object "ToeplitzLab$Fractions"
  | 9 => .object "ToeplitzLab$Lifter"
  | _ => .array .int
abbrev wsX70 : List Cond := u_ws RX7 TX7 11
theorem nmX7 : ∀ a, a < 11 → ∀ b, b < 11 → a ≠ b → (TX7 a).2.1 ≠ (TX7 b).2.1 := by decide +kernel
theorem tyX7_ok : ∀ k, k < 11 → parseFieldDescriptor (TX7 k).2.2.1 = some (tyX7 k) := by decide +kernel
abbrev cX7_init : ByteArray := prog_1_method_1_code
def yX7_init : MethodName := ⟨RX7, "<init>", "()V"⟩
abbrev cX7_append : ByteArray := prog_1_method_2_code
def yX7_append : MethodName := ⟨RX7, "append", "(IIIII)I"⟩
abbrev cX7_load : ByteArray := prog_1_method_3_code
def yX7_load : MethodName := ⟨RX7, "load", "(I)I"⟩
abbrev cX7_parseError : ByteArray := prog_1_method_4_code
def yX7_parseError : MethodName := ⟨RX7, "parseError", "()I"⟩
abbrev cX7_errorPosition : ByteArray := prog_1_method_5_code
def yX7_errorPosition : MethodName := ⟨RX7, "errorPosition", "()I"⟩
abbrev cX7_buffered : ByteArray := prog_1_method_6_code
def yX7_buffered : MethodName := ⟨RX7, "buffered", "()I"⟩
abbrev cX7_size : ByteArray := prog_1_method_7_code
def yX7_size : MethodName := ⟨RX7, "size", "()I"⟩
abbrev cX7_prime : ByteArray := prog_1_method_8_code
def yX7_prime : MethodName := ⟨RX7, "prime", "()I"⟩
abbrev cX7_diagonal : ByteArray := prog_1_method_9_code
def yX7_diagonal : MethodName := ⟨RX7, "diagonal", "(I)I"⟩
abbrev cX7_entry : ByteArray := prog_1_method_10_code
def yX7_entry : MethodName := ⟨RX7, "entry", "(II)I"⟩
abbrev cX7_side : ByteArray := prog_1_method_11_code
def yX7_side : MethodName := ⟨RX7, "side", "(I)I"⟩
abbrev cX7_probe : ByteArray := prog_1_method_12_code
def yX7_probe : MethodName := ⟨RX7, "probe", "(I)I"⟩
abbrev cX7_minor : ByteArray := prog_1_method_13_code
def yX7_minor : MethodName := ⟨RX7, "minor", "(I)I"⟩
abbrev cX7_rank : ByteArray := prog_1_method_14_code
def yX7_rank : MethodName := ⟨RX7, "rank", "()I"⟩
abbrev cX7_isRegular : ByteArray := prog_1_method_15_code
def yX7_isRegular : MethodName := ⟨RX7, "isRegular", "()Z"⟩
abbrev cX7_steps : ByteArray := prog_1_method_16_code
def yX7_steps : MethodName := ⟨RX7, "steps", "()I"⟩
abbrev cX7_stepEnd : ByteArray := prog_1_method_17_code
def yX7_stepEnd : MethodName := ⟨RX7, "stepEnd", "(I)I"⟩
abbrev cX7_longestJump : ByteArray := prog_1_method_18_code
def yX7_longestJump : MethodName := ⟨RX7, "longestJump", "()I"⟩
abbrev cX7_tail : ByteArray := prog_1_method_19_code
def yX7_tail : MethodName := ⟨RX7, "tail", "()I"⟩
abbrev cX7_regularPrimes : ByteArray := prog_1_method_20_code
def yX7_regularPrimes : MethodName := ⟨RX7, "regularPrimes", "()I"⟩
abbrev cX7_minorIf : ByteArray := prog_1_method_21_code
def yX7_minorIf : MethodName := ⟨RX7, "minorIf", "(III)I"⟩
abbrev cX7_schur : ByteArray := prog_1_method_22_code
def yX7_schur : MethodName := ⟨RX7, "schur", "(III)I"⟩
abbrev cX7_displacement : ByteArray := prog_1_method_23_code
def yX7_displacement : MethodName := ⟨RX7, "displacement", "(III)I"⟩
abbrev cX7_generators : ByteArray := prog_1_method_24_code
def yX7_generators : MethodName := ⟨RX7, "generators", "(I)I"⟩
abbrev cX7_generator : ByteArray := prog_1_method_25_code
def yX7_generator : MethodName := ⟨RX7, "generator", "(IIIZ)I"⟩
abbrev cX7_mostGenerators : ByteArray := prog_1_method_26_code
def yX7_mostGenerators : MethodName := ⟨RX7, "mostGenerators", "()I"⟩
abbrev cX7_solution : ByteArray := prog_1_method_27_code
def yX7_solution : MethodName := ⟨RX7, "solution", "(I)I"⟩
abbrev cX7_inverse : ByteArray := prog_1_method_28_code
def yX7_inverse : MethodName := ⟨RX7, "inverse", "(II)I"⟩
abbrev cX7_kernel : ByteArray := prog_1_method_29_code
def yX7_kernel : MethodName := ⟨RX7, "kernel", "(I)I"⟩
abbrev cX7_isSolvable : ByteArray := prog_1_method_30_code
def yX7_isSolvable : MethodName := ⟨RX7, "isSolvable", "()Z"⟩
abbrev cX7_digits : ByteArray := prog_1_method_31_code
def yX7_digits : MethodName := ⟨RX7, "digits", "()I"⟩
abbrev cX7_mostDigits : ByteArray := prog_1_method_32_code
def yX7_mostDigits : MethodName := ⟨RX7, "mostDigits", "()I"⟩
abbrev cX7_digit : ByteArray := prog_1_method_33_code
def yX7_digit : MethodName := ⟨RX7, "digit", "(II)I"⟩
abbrev cX7_residual : ByteArray := prog_1_method_34_code
def yX7_residual : MethodName := ⟨RX7, "residual", "(I)I"⟩
abbrev cX7_value : ByteArray := prog_1_method_35_code
def yX7_value : MethodName := ⟨RX7, "value", "(I)J"⟩
abbrev cX7_centred : ByteArray := prog_1_method_36_code
def yX7_centred : MethodName := ⟨RX7, "centred", "(I)J"⟩
abbrev cX7_numerator : ByteArray := prog_1_method_37_code
def yX7_numerator : MethodName := ⟨RX7, "numerator", "(I)I"⟩
abbrev cX7_denominator : ByteArray := prog_1_method_38_code
def yX7_denominator : MethodName := ⟨RX7, "denominator", "(I)I"⟩
abbrev cX7_quotient : ByteArray := prog_1_method_39_code
def yX7_quotient : MethodName := ⟨RX7, "quotient", "(I)D"⟩
abbrev cX7_isExact : ByteArray := prog_1_method_40_code
def yX7_isExact : MethodName := ⟨RX7, "isExact", "()Z"⟩
abbrev cX7_liftsTo : ByteArray := prog_1_method_41_code
def yX7_liftsTo : MethodName := ⟨RX7, "liftsTo", "()I"⟩
abbrev cX7_product : ByteArray := prog_1_method_42_code
def yX7_product : MethodName := ⟨RX7, "product", "(I)I"⟩
abbrev cX7_circulant : ByteArray := prog_1_method_43_code
def yX7_circulant : MethodName := ⟨RX7, "circulant", "(II)I"⟩
abbrev cX7_wrapped : ByteArray := prog_1_method_44_code
def yX7_wrapped : MethodName := ⟨RX7, "wrapped", "(I)I"⟩
abbrev cX7_probeSolves : ByteArray := prog_1_method_45_code
def yX7_probeSolves : MethodName := ⟨RX7, "probeSolves", "()Z"⟩
abbrev cX7_entries : ByteArray := prog_1_method_46_code
def yX7_entries : MethodName := ⟨RX7, "entries", "()I"⟩
abbrev cX7_accountOf : ByteArray := prog_1_method_47_code
def yX7_accountOf : MethodName := ⟨RX7, "accountOf", "(II)I"⟩
abbrev cX7_setDiagonal : ByteArray := prog_1_method_48_code
def yX7_setDiagonal : MethodName := ⟨RX7, "setDiagonal", "(II)I"⟩
abbrev cX7_setSide : ByteArray := prog_1_method_49_code
def yX7_setSide : MethodName := ⟨RX7, "setSide", "(II)I"⟩
abbrev cX7_setProbe : ByteArray := prog_1_method_50_code
def yX7_setProbe : MethodName := ⟨RX7, "setProbe", "(II)I"⟩
abbrev cX7_setPrime : ByteArray := prog_1_method_51_code
def yX7_setPrime : MethodName := ⟨RX7, "setPrime", "(I)I"⟩
abbrev cX7_grow : ByteArray := prog_1_method_52_code
def yX7_grow : MethodName := ⟨RX7, "grow", "(III)I"⟩
abbrev cX7_shrink : ByteArray := prog_1_method_53_code
def yX7_shrink : MethodName := ⟨RX7, "shrink", "()I"⟩
abbrev cX7_lift : ByteArray := prog_1_method_54_code
def yX7_lift : MethodName := ⟨RX7, "lift", "()I"⟩
abbrev cX7_refine : ByteArray := prog_1_method_55_code
def yX7_refine : MethodName := ⟨RX7, "refine", "(I)I"⟩
abbrev cX7_undo : ByteArray := prog_1_method_56_code
def yX7_undo : MethodName := ⟨RX7, "undo", "()I"⟩
abbrev cX7_undoable : ByteArray := prog_1_method_57_code
def yX7_undoable : MethodName := ⟨RX7, "undoable", "()I"⟩
abbrev cX7_save : ByteArray := prog_1_method_58_code
def yX7_save : MethodName := ⟨RX7, "save", "(I)I"⟩
abbrev cX7_restore : ByteArray := prog_1_method_59_code
def yX7_restore : MethodName := ⟨RX7, "restore", "(I)I"⟩
abbrev cX7_requireSystem : ByteArray := prog_1_method_60_code
def yX7_requireSystem : MethodName := ⟨RX7, "requireSystem", "()V"⟩
abbrev cX7_requireRow : ByteArray := prog_1_method_61_code
def yX7_requireRow : MethodName := ⟨RX7, "requireRow", "(I)V"⟩
abbrev cX7_requireBehind : ByteArray := prog_1_method_62_code
def yX7_requireBehind : MethodName := ⟨RX7, "requireBehind", "(II)V"⟩
abbrev cX7_requireWrappedRow : ByteArray := prog_1_method_63_code
def yX7_requireWrappedRow : MethodName := ⟨RX7, "requireWrappedRow", "(I)V"⟩
abbrev cX7_requireDiagonal : ByteArray := prog_1_method_64_code
def yX7_requireDiagonal : MethodName := ⟨RX7, "requireDiagonal", "(I)V"⟩
abbrev cX7_requireSize : ByteArray := prog_1_method_65_code
def yX7_requireSize : MethodName := ⟨RX7, "requireSize", "(I)V"⟩
abbrev cX7_requireSlot : ByteArray := prog_1_method_66_code
def yX7_requireSlot : MethodName := ⟨RX7, "requireSlot", "(I)V"⟩
abbrev cX7_requireWithin : ByteArray := prog_1_method_67_code
def yX7_requireWithin : MethodName := ⟨RX7, "requireWithin", "(II)V"⟩
abbrev cX7_requireFraction : ByteArray := prog_1_method_68_code
def yX7_requireFraction : MethodName := ⟨RX7, "requireFraction", "(I)V"⟩
abbrev cX7_requireLifter : ByteArray := prog_1_method_69_code
def yX7_requireLifter : MethodName := ⟨RX7, "requireLifter", "()V"⟩
abbrev cX7_isListed : ByteArray := prog_1_method_70_code
def yX7_isListed : MethodName := ⟨RX7, "isListed", "(I)Z"⟩
abbrev cX7_reduced : ByteArray := prog_1_method_71_code
def yX7_reduced : MethodName := ⟨RX7, "reduced", "(II)I"⟩
abbrev cX7_leadingMinor : ByteArray := prog_1_method_72_code
def yX7_leadingMinor : MethodName := ⟨RX7, "leadingMinor", "(II)I"⟩
abbrev cX7_findSteps : ByteArray := prog_1_method_73_code
def yX7_findSteps : MethodName := ⟨RX7, "findSteps", "()I"⟩
abbrev cX7_startBehind : ByteArray := prog_1_method_74_code
def yX7_startBehind : MethodName := ⟨RX7, "startBehind", "(I)I"⟩
abbrev cX7_complementBehind : ByteArray := prog_1_method_75_code
def yX7_complementBehind : MethodName := ⟨RX7, "complementBehind", "(I)V"⟩
abbrev cX7_pairsBehind : ByteArray := prog_1_method_76_code
def yX7_pairsBehind : MethodName := ⟨RX7, "pairsBehind", "(I)I"⟩
abbrev cX7_eliminateWithSides : ByteArray := prog_1_method_77_code
def yX7_eliminateWithSides : MethodName := ⟨RX7, "eliminateWithSides", "()I"⟩
abbrev cX7_timesProbe : ByteArray := prog_1_method_78_code
def yX7_timesProbe : MethodName := ⟨RX7, "timesProbe", "(I)I"⟩
abbrev cX7_aroundCircle : ByteArray := prog_1_method_79_code
def yX7_aroundCircle : MethodName := ⟨RX7, "aroundCircle", "(I)I"⟩
def RX8 : String := "ToeplitzLabModel"
def TX8 : u_T := fun k => match k with
  | 0 => ("ToeplitzLabModel", "thrown", "I", false)
  | 1 => ("ToeplitzLabModel", "hasSystem", "Z", false)
  | 2 => ("ToeplitzLabModel", "s", "[I", true)
  | 3 => ("ToeplitzLabModel", "stores", "[I", true)
  | 4 => ("ToeplitzLabModel", "changes", "I", false)
  | 5 => ("ToeplitzLabModel", "isKept", "[Z", true)
  | 6 => ("ToeplitzLabModel", "buffer", "[I", true)
  | 7 => ("ToeplitzLabModel", "buffered", "I", false)
  | 8 => ("ToeplitzLabModel", "parseError", "I", false)
  | 9 => ("ToeplitzLabModel", "errorPosition", "I", false)
  | 10 => ("ToeplitzLabModel", "size", "I", false)
  | 11 => ("ToeplitzLabModel", "next", "I", false)
  | 12 => ("ToeplitzLabModel", "from", "I", false)
  | 13 => ("ToeplitzLabModel", "sort", "I", false)
  | 14 => ("ToeplitzLabModel", "number", "I", false)
  | 15 => ("ToeplitzLabModel", "wrong", "I", false)
  | 16 => ("ToeplitzLabModel", "wrongAt", "I", false)
  | 17 => ("ToeplitzLabModel", "read", "[I", true)
  | 18 => ("ToeplitzLabModel", "told", "[Z", true)
  | 19 => ("ToeplitzLabModel", "bands", "I", false)
  | 20 => ("ToeplitzLabModel", "grid", "[I", true)
  | 21 => ("ToeplitzLabModel", "p", "I", false)
  | 22 => ("ToeplitzLabModel", "leads", "[I", true)
  | 23 => ("ToeplitzLabModel", "ends", "[I", true)
  | 24 => ("ToeplitzLabModel", "endMany", "I", false)
  | 25 => ("ToeplitzLabModel", "shifted", "[I", true)
  | 26 => ("ToeplitzLabModel", "lefts", "[I", true)
  | 27 => ("ToeplitzLabModel", "rights", "[I", true)
  | 28 => ("ToeplitzLabModel", "up", "J", false)
  | 29 => ("ToeplitzLabModel", "down", "J", false)
  | 30 => ("ToeplitzLabModel", "ups", "[J", true)
  | _ => ("ToeplitzLabModel", "downs", "[J", true)
def tyX8 : Nat → FieldType := fun k => match k with
  | 0 => .int
  | 1 => .boolean
  | 2 => .array .int
  | 3 => .array .int
  | 4 => .int
  | 5 => .array .boolean
  | 6 => .array .int
  | 7 => .int
  | 8 => .int
  | 9 => .int
  | 10 => .int
  | 11 => .int
  | 12 => .int
  | 13 => .int
  | 14 => .int
  | 15 => .int
  | 16 => .int
  | 17 => .array .int
  | 18 => .array .boolean
  | 19 => .int
  | 20 => .array .int
  | 21 => .int
  | 22 => .array .int
  | 23 => .array .int
  | 24 => .int
  | 25 => .array .int
  | 26 => .array .int
  | 27 => .array .int
  | 28 => .long
  | 29 => .long
  | 30 => .array .long
  | _ => .array .long
abbrev wsX80 : List Cond := u_ws RX8 TX8 32
theorem nmX8 : ∀ a, a < 32 → ∀ b, b < 32 → a ≠ b → (TX8 a).2.1 ≠ (TX8 b).2.1 := by decide +kernel
theorem tyX8_ok : ∀ k, k < 32 → parseFieldDescriptor (TX8 k).2.2.1 = some (tyX8 k) := by decide +kernel
abbrev cX8_init : ByteArray := prog_10_method_1_code
def yX8_init : MethodName := ⟨RX8, "<init>", "()V"⟩
abbrev cX8_thrown : ByteArray := prog_10_method_2_code
def yX8_thrown : MethodName := ⟨RX8, "thrown", "()I"⟩
abbrev cX8_in : ByteArray := prog_10_method_3_code
def yX8_in : MethodName := ⟨RX8, "in", "(III)Z"⟩
abbrev cX8_refuse : ByteArray := prog_10_method_4_code
def yX8_refuse : MethodName := ⟨RX8, "refuse", "(ZI)Z"⟩
abbrev cX8_noSystem : ByteArray := prog_10_method_5_code
def yX8_noSystem : MethodName := ⟨RX8, "noSystem", "()Z"⟩
abbrev cX8_primeIndex : ByteArray := prog_10_method_6_code
def yX8_primeIndex : MethodName := ⟨RX8, "primeIndex", "(I)I"⟩
abbrev cX8_primeAt : ByteArray := prog_10_method_7_code
def yX8_primeAt : MethodName := ⟨RX8, "primeAt", "(I)I"⟩
abbrev cX8_append : ByteArray := prog_10_method_8_code
def yX8_append : MethodName := ⟨RX8, "append", "(IIIII)I"⟩
abbrev cX8_buffered : ByteArray := prog_10_method_9_code
def yX8_buffered : MethodName := ⟨RX8, "buffered", "()I"⟩
abbrev cX8_parseError : ByteArray := prog_10_method_10_code
def yX8_parseError : MethodName := ⟨RX8, "parseError", "()I"⟩
abbrev cX8_errorPosition : ByteArray := prog_10_method_11_code
def yX8_errorPosition : MethodName := ⟨RX8, "errorPosition", "()I"⟩
abbrev cX8_seen : ByteArray := prog_10_method_12_code
def yX8_seen : MethodName := ⟨RX8, "seen", "(I)I"⟩
abbrev cX8_isLetter : ByteArray := prog_10_method_13_code
def yX8_isLetter : MethodName := ⟨RX8, "isLetter", "(I)Z"⟩
abbrev cX8_isDigit : ByteArray := prog_10_method_14_code
def yX8_isDigit : MethodName := ⟨RX8, "isDigit", "(I)Z"⟩
abbrev cX8_token : ByteArray := prog_10_method_15_code
def yX8_token : MethodName := ⟨RX8, "token", "()V"⟩
abbrev cX8_fails : ByteArray := prog_10_method_16_code
def yX8_fails : MethodName := ⟨RX8, "fails", "(I)V"⟩
abbrev cX8_goesOn : ByteArray := prog_10_method_17_code
def yX8_goesOn : MethodName := ⟨RX8, "goesOn", "()V"⟩
abbrev cX8_isWord : ByteArray := prog_10_method_18_code
def yX8_isWord : MethodName := ⟨RX8, "isWord", "(Ljava/lang/String;)Z"⟩
abbrev cX8_expects : ByteArray := prog_10_method_19_code
def yX8_expects : MethodName := ⟨RX8, "expects", "(Ljava/lang/String;)V"⟩
abbrev cX8_numberHere : ByteArray := prog_10_method_20_code
def yX8_numberHere : MethodName := ⟨RX8, "numberHere", "(II)I"⟩
abbrev cX8_takes : ByteArray := prog_10_method_21_code
def yX8_takes : MethodName := ⟨RX8, "takes", "(II)I"⟩
abbrev cX8_signedHere : ByteArray := prog_10_method_22_code
def yX8_signedHere : MethodName := ⟨RX8, "signedHere", "(II)I"⟩
abbrev cX8_takesSigned : ByteArray := prog_10_method_23_code
def yX8_takesSigned : MethodName := ⟨RX8, "takesSigned", "(II)I"⟩
abbrev cX8_diagonalLine : ByteArray := prog_10_method_24_code
def yX8_diagonalLine : MethodName := ⟨RX8, "diagonalLine", "()V"⟩
abbrev cX8_bandLine : ByteArray := prog_10_method_25_code
def yX8_bandLine : MethodName := ⟨RX8, "bandLine", "()V"⟩
abbrev cX8_partLine : ByteArray := prog_10_method_26_code
def yX8_partLine : MethodName := ⟨RX8, "partLine", "(II)V"⟩
abbrev cX8_reads : ByteArray := prog_10_method_27_code
def yX8_reads : MethodName := ⟨RX8, "reads", "(I)V"⟩
abbrev cX8_load : ByteArray := prog_10_method_28_code
def yX8_load : MethodName := ⟨RX8, "load", "(I)I"⟩
abbrev cX8_begins : ByteArray := prog_10_method_29_code
def yX8_begins : MethodName := ⟨RX8, "begins", "()V"⟩
abbrev cX8_isRow : ByteArray := prog_10_method_30_code
def yX8_isRow : MethodName := ⟨RX8, "isRow", "(I)Z"⟩
abbrev cX8_isDiagonal : ByteArray := prog_10_method_31_code
def yX8_isDiagonal : MethodName := ⟨RX8, "isDiagonal", "(I)Z"⟩
abbrev cX8_noRow : ByteArray := prog_10_method_32_code
def yX8_noRow : MethodName := ⟨RX8, "noRow", "(I)Z"⟩
abbrev cX8_noRows : ByteArray := prog_10_method_33_code
def yX8_noRows : MethodName := ⟨RX8, "noRows", "(II)Z"⟩
abbrev cX8_its : ByteArray := prog_10_method_34_code
def yX8_its : MethodName := ⟨RX8, "its", "(I)I"⟩
abbrev cX8_size : ByteArray := prog_10_method_35_code
def yX8_size : MethodName := ⟨RX8, "size", "()I"⟩
abbrev cX8_prime : ByteArray := prog_10_method_36_code
def yX8_prime : MethodName := ⟨RX8, "prime", "()I"⟩
abbrev cX8_entries : ByteArray := prog_10_method_37_code
def yX8_entries : MethodName := ⟨RX8, "entries", "()I"⟩
abbrev cX8_undoable : ByteArray := prog_10_method_38_code
def yX8_undoable : MethodName := ⟨RX8, "undoable", "()I"⟩
abbrev cX8_entryOf : ByteArray := prog_10_method_39_code
def yX8_entryOf : MethodName := ⟨RX8, "entryOf", "(II)I"⟩
abbrev cX8_diagonal : ByteArray := prog_10_method_40_code
def yX8_diagonal : MethodName := ⟨RX8, "diagonal", "(I)I"⟩
abbrev cX8_entry : ByteArray := prog_10_method_41_code
def yX8_entry : MethodName := ⟨RX8, "entry", "(II)I"⟩
abbrev cX8_side : ByteArray := prog_10_method_42_code
def yX8_side : MethodName := ⟨RX8, "side", "(I)I"⟩
abbrev cX8_probe : ByteArray := prog_10_method_43_code
def yX8_probe : MethodName := ⟨RX8, "probe", "(I)I"⟩
abbrev cX8_mod : ByteArray := prog_10_method_44_code
def yX8_mod : MethodName := ⟨RX8, "mod", "(I)I"⟩
abbrev cX8_inverseOf : ByteArray := prog_10_method_45_code
def yX8_inverseOf : MethodName := ⟨RX8, "inverseOf", "(I)I"⟩
abbrev cX8_lays : ByteArray := prog_10_method_46_code
def yX8_lays : MethodName := ⟨RX8, "lays", "()V"⟩
abbrev cX8_swaps : ByteArray := prog_10_method_47_code
def yX8_swaps : MethodName := ⟨RX8, "swaps", "(II)V"⟩
abbrev cX8_takesOff : ByteArray := prog_10_method_48_code
def yX8_takesOff : MethodName := ⟨RX8, "takesOff", "(III)V"⟩
abbrev cX8_pivot : ByteArray := prog_10_method_49_code
def yX8_pivot : MethodName := ⟨RX8, "pivot", "(III)I"⟩
abbrev cX8_minorOf : ByteArray := prog_10_method_50_code
def yX8_minorOf : MethodName := ⟨RX8, "minorOf", "(II)I"⟩
abbrev cX8_minorNow : ByteArray := prog_10_method_51_code
def yX8_minorNow : MethodName := ⟨RX8, "minorNow", "(I)I"⟩
abbrev cX8_minor : ByteArray := prog_10_method_52_code
def yX8_minor : MethodName := ⟨RX8, "minor", "(I)I"⟩
abbrev cX8_reduces : ByteArray := prog_10_method_53_code
def yX8_reduces : MethodName := ⟨RX8, "reduces", "()I"⟩
abbrev cX8_rankNow : ByteArray := prog_10_method_54_code
def yX8_rankNow : MethodName := ⟨RX8, "rankNow", "()I"⟩
abbrev cX8_rank : ByteArray := prog_10_method_55_code
def yX8_rank : MethodName := ⟨RX8, "rank", "()I"⟩
abbrev cX8_isRegularNow : ByteArray := prog_10_method_56_code
def yX8_isRegularNow : MethodName := ⟨RX8, "isRegularNow", "()Z"⟩
abbrev cX8_isRegular : ByteArray := prog_10_method_57_code
def yX8_isRegular : MethodName := ⟨RX8, "isRegular", "()Z"⟩
abbrev cX8_laysEnds : ByteArray := prog_10_method_58_code
def yX8_laysEnds : MethodName := ⟨RX8, "laysEnds", "()V"⟩
abbrev cX8_steps : ByteArray := prog_10_method_59_code
def yX8_steps : MethodName := ⟨RX8, "steps", "()I"⟩
abbrev cX8_noStep : ByteArray := prog_10_method_60_code
def yX8_noStep : MethodName := ⟨RX8, "noStep", "(I)Z"⟩
abbrev cX8_stepEnd : ByteArray := prog_10_method_61_code
def yX8_stepEnd : MethodName := ⟨RX8, "stepEnd", "(I)I"⟩
abbrev cX8_longestJump : ByteArray := prog_10_method_62_code
def yX8_longestJump : MethodName := ⟨RX8, "longestJump", "()I"⟩
abbrev cX8_tail : ByteArray := prog_10_method_63_code
def yX8_tail : MethodName := ⟨RX8, "tail", "()I"⟩
abbrev cX8_regularPrimes : ByteArray := prog_10_method_64_code
def yX8_regularPrimes : MethodName := ⟨RX8, "regularPrimes", "()I"⟩
abbrev cX8_minorIf : ByteArray := prog_10_method_65_code
def yX8_minorIf : MethodName := ⟨RX8, "minorIf", "(III)I"⟩
abbrev cX8_complements : ByteArray := prog_10_method_66_code
def yX8_complements : MethodName := ⟨RX8, "complements", "(I)V"⟩
abbrev cX8_displaces : ByteArray := prog_10_method_67_code
def yX8_displaces : MethodName := ⟨RX8, "displaces", "(I)V"⟩
abbrev cX8_peels : ByteArray := prog_10_method_68_code
def yX8_peels : MethodName := ⟨RX8, "peels", "(IIII)V"⟩
abbrev cX8_laysPairs : ByteArray := prog_10_method_69_code
def yX8_laysPairs : MethodName := ⟨RX8, "laysPairs", "(I)I"⟩
abbrev cX8_noPlace : ByteArray := prog_10_method_70_code
def yX8_noPlace : MethodName := ⟨RX8, "noPlace", "(III)Z"⟩
abbrev cX8_schur : ByteArray := prog_10_method_71_code
def yX8_schur : MethodName := ⟨RX8, "schur", "(III)I"⟩
abbrev cX8_displacement : ByteArray := prog_10_method_72_code
def yX8_displacement : MethodName := ⟨RX8, "displacement", "(III)I"⟩
abbrev cX8_generators : ByteArray := prog_10_method_73_code
def yX8_generators : MethodName := ⟨RX8, "generators", "(I)I"⟩
abbrev cX8_generator : ByteArray := prog_10_method_74_code
def yX8_generator : MethodName := ⟨RX8, "generator", "(IIIZ)I"⟩
abbrev cX8_mostGenerators : ByteArray := prog_10_method_75_code
def yX8_mostGenerators : MethodName := ⟨RX8, "mostGenerators", "()I"⟩
abbrev cX8_reducesWith : ByteArray := prog_10_method_76_code
def yX8_reducesWith : MethodName := ⟨RX8, "reducesWith", "(I)I"⟩
abbrev cX8_noSolution : ByteArray := prog_10_method_77_code
def yX8_noSolution : MethodName := ⟨RX8, "noSolution", "(I)Z"⟩
abbrev cX8_solution : ByteArray := prog_10_method_78_code
def yX8_solution : MethodName := ⟨RX8, "solution", "(I)I"⟩
abbrev cX8_inverse : ByteArray := prog_10_method_79_code
def yX8_inverse : MethodName := ⟨RX8, "inverse", "(II)I"⟩
abbrev cX8_kernel : ByteArray := prog_10_method_80_code
def yX8_kernel : MethodName := ⟨RX8, "kernel", "(I)I"⟩
abbrev cX8_isSolvable : ByteArray := prog_10_method_81_code
def yX8_isSolvable : MethodName := ⟨RX8, "isSolvable", "()Z"⟩
abbrev cX8_mostNow : ByteArray := prog_10_method_82_code
def yX8_mostNow : MethodName := ⟨RX8, "mostNow", "()I"⟩
abbrev cX8_modulus : ByteArray := prog_10_method_83_code
def yX8_modulus : MethodName := ⟨RX8, "modulus", "()J"⟩
abbrev cX8_valueOf : ByteArray := prog_10_method_84_code
def yX8_valueOf : MethodName := ⟨RX8, "valueOf", "(I)J"⟩
abbrev cX8_digits : ByteArray := prog_10_method_85_code
def yX8_digits : MethodName := ⟨RX8, "digits", "()I"⟩
abbrev cX8_mostDigits : ByteArray := prog_10_method_86_code
def yX8_mostDigits : MethodName := ⟨RX8, "mostDigits", "()I"⟩
abbrev cX8_digit : ByteArray := prog_10_method_87_code
def yX8_digit : MethodName := ⟨RX8, "digit", "(II)I"⟩
abbrev cX8_residual : ByteArray := prog_10_method_88_code
def yX8_residual : MethodName := ⟨RX8, "residual", "(I)I"⟩
abbrev cX8_value : ByteArray := prog_10_method_89_code
def yX8_value : MethodName := ⟨RX8, "value", "(I)J"⟩
abbrev cX8_centred : ByteArray := prog_10_method_90_code
def yX8_centred : MethodName := ⟨RX8, "centred", "(I)J"⟩
abbrev cX8_isWide : ByteArray := prog_10_method_91_code
def yX8_isWide : MethodName := ⟨RX8, "isWide", "(JJ)Z"⟩
abbrev cX8_common : ByteArray := prog_10_method_92_code
def yX8_common : MethodName := ⟨RX8, "common", "(JJ)J"⟩
abbrev cX8_findsFraction : ByteArray := prog_10_method_93_code
def yX8_findsFraction : MethodName := ⟨RX8, "findsFraction", "(I)Z"⟩
abbrev cX8_numerator : ByteArray := prog_10_method_94_code
def yX8_numerator : MethodName := ⟨RX8, "numerator", "(I)I"⟩
abbrev cX8_denominator : ByteArray := prog_10_method_95_code
def yX8_denominator : MethodName := ⟨RX8, "denominator", "(I)I"⟩
abbrev cX8_quotient : ByteArray := prog_10_method_96_code
def yX8_quotient : MethodName := ⟨RX8, "quotient", "(I)D"⟩
abbrev cX8_isExactNow : ByteArray := prog_10_method_97_code
def yX8_isExactNow : MethodName := ⟨RX8, "isExactNow", "()Z"⟩
abbrev cX8_isExact : ByteArray := prog_10_method_98_code
def yX8_isExact : MethodName := ⟨RX8, "isExact", "()Z"⟩
abbrev cX8_canLift : ByteArray := prog_10_method_99_code
def yX8_canLift : MethodName := ⟨RX8, "canLift", "()Z"⟩
abbrev cX8_lifts : ByteArray := prog_10_method_100_code
def yX8_lifts : MethodName := ⟨RX8, "lifts", "()V"⟩
abbrev cX8_books : ByteArray := prog_10_method_101_code
def yX8_books : MethodName := ⟨RX8, "books", "()V"⟩
abbrev cX8_liftsTo : ByteArray := prog_10_method_102_code
def yX8_liftsTo : MethodName := ⟨RX8, "liftsTo", "()I"⟩
abbrev cX8_productOf : ByteArray := prog_10_method_103_code
def yX8_productOf : MethodName := ⟨RX8, "productOf", "(I)I"⟩
abbrev cX8_product : ByteArray := prog_10_method_104_code
def yX8_product : MethodName := ⟨RX8, "product", "(I)I"⟩
abbrev cX8_circulantOf : ByteArray := prog_10_method_105_code
def yX8_circulantOf : MethodName := ⟨RX8, "circulantOf", "(II)I"⟩
abbrev cX8_noWide : ByteArray := prog_10_method_106_code
def yX8_noWide : MethodName := ⟨RX8, "noWide", "(I)Z"⟩
abbrev cX8_circulant : ByteArray := prog_10_method_107_code
def yX8_circulant : MethodName := ⟨RX8, "circulant", "(II)I"⟩
abbrev cX8_wrapped : ByteArray := prog_10_method_108_code
def yX8_wrapped : MethodName := ⟨RX8, "wrapped", "(I)I"⟩
abbrev cX8_probeSolves : ByteArray := prog_10_method_109_code
def yX8_probeSolves : MethodName := ⟨RX8, "probeSolves", "()Z"⟩
abbrev cX8_accountOf : ByteArray := prog_10_method_110_code
def yX8_accountOf : MethodName := ⟨RX8, "accountOf", "(II)I"⟩
abbrev cX8_keeps : ByteArray := prog_10_method_111_code
def yX8_keeps : MethodName := ⟨RX8, "keeps", "(I)V"⟩
abbrev cX8_fetches : ByteArray := prog_10_method_112_code
def yX8_fetches : MethodName := ⟨RX8, "fetches", "(I)V"⟩
abbrev cX8_keepsAll : ByteArray := prog_10_method_113_code
def yX8_keepsAll : MethodName := ⟨RX8, "keepsAll", "()V"⟩
abbrev cX8_sets : ByteArray := prog_10_method_114_code
def yX8_sets : MethodName := ⟨RX8, "sets", "(IIZ)I"⟩
abbrev cX8_setDiagonal : ByteArray := prog_10_method_115_code
def yX8_setDiagonal : MethodName := ⟨RX8, "setDiagonal", "(II)I"⟩
abbrev cX8_setSide : ByteArray := prog_10_method_116_code
def yX8_setSide : MethodName := ⟨RX8, "setSide", "(II)I"⟩
abbrev cX8_setProbe : ByteArray := prog_10_method_117_code
def yX8_setProbe : MethodName := ⟨RX8, "setProbe", "(II)I"⟩
abbrev cX8_setPrime : ByteArray := prog_10_method_118_code
def yX8_setPrime : MethodName := ⟨RX8, "setPrime", "(I)I"⟩
abbrev cX8_grow : ByteArray := prog_10_method_119_code
def yX8_grow : MethodName := ⟨RX8, "grow", "(III)I"⟩
abbrev cX8_shrink : ByteArray := prog_10_method_120_code
def yX8_shrink : MethodName := ⟨RX8, "shrink", "()I"⟩
abbrev cX8_lift : ByteArray := prog_10_method_121_code
def yX8_lift : MethodName := ⟨RX8, "lift", "()I"⟩
abbrev cX8_refine : ByteArray := prog_10_method_122_code
def yX8_refine : MethodName := ⟨RX8, "refine", "(I)I"⟩
abbrev cX8_undo : ByteArray := prog_10_method_123_code
def yX8_undo : MethodName := ⟨RX8, "undo", "()I"⟩
abbrev cX8_save : ByteArray := prog_10_method_124_code
def yX8_save : MethodName := ⟨RX8, "save", "(I)I"⟩
abbrev cX8_restore : ByteArray := prog_10_method_125_code
def yX8_restore : MethodName := ⟨RX8, "restore", "(I)I"⟩
def RJx145de : String := "java/io/Serializable"
def TJx145de : u_T := fun k => match k with
  | _ => ("", "", "", false)
def tyJx145de : Nat → FieldType := fun k => match k with
  | _ => .int
abbrev wsJx145de0 : List Cond := u_ws RJx145de TJx145de 0
theorem nmJx145de : ∀ a, a < 0 → ∀ b, b < 0 → a ≠ b → (TJx145de a).2.1 ≠ (TJx145de b).2.1 := by decide +kernel
theorem tyJx145de_ok : ∀ k, k < 0 → parseFieldDescriptor (TJx145de k).2.2.1 = some (tyJx145de k) := by decide +kernel
def RJx9f9b0 : String := "java/lang/CharSequence"
def TJx9f9b0 : u_T := fun k => match k with
  | _ => ("", "", "", false)
def tyJx9f9b0 : Nat → FieldType := fun k => match k with
  | _ => .int
abbrev wsJx9f9b00 : List Cond := u_ws RJx9f9b0 TJx9f9b0 0
theorem nmJx9f9b0 : ∀ a, a < 0 → ∀ b, b < 0 → a ≠ b → (TJx9f9b0 a).2.1 ≠ (TJx9f9b0 b).2.1 := by decide +kernel
theorem tyJx9f9b0_ok : ∀ k, k < 0 → parseFieldDescriptor (TJx9f9b0 k).2.2.1 = some (tyJx9f9b0 k) := by decide +kernel
def RJxb160c : String := "java/lang/Comparable"
def TJxb160c : u_T := fun k => match k with
  | _ => ("", "", "", false)
def tyJxb160c : Nat → FieldType := fun k => match k with
  | _ => .int
abbrev wsJxb160c0 : List Cond := u_ws RJxb160c TJxb160c 0
theorem nmJxb160c : ∀ a, a < 0 → ∀ b, b < 0 → a ≠ b → (TJxb160c a).2.1 ≠ (TJxb160c b).2.1 := by decide +kernel
theorem tyJxb160c_ok : ∀ k, k < 0 → parseFieldDescriptor (TJxb160c k).2.2.1 = some (tyJxb160c k) := by decide +kernel
def RJ9 : String := "java/lang/Math"
def TJ9 : u_T := fun k => match k with
  | _ => ("", "", "", false)
def tyJ9 : Nat → FieldType := fun k => match k with
  | _ => .int
abbrev wsJ90 : List Cond := u_ws RJ9 TJ9 0
theorem nmJ9 : ∀ a, a < 0 → ∀ b, b < 0 → a ≠ b → (TJ9 a).2.1 ≠ (TJ9 b).2.1 := by decide +kernel
theorem tyJ9_ok : ∀ k, k < 0 → parseFieldDescriptor (TJ9 k).2.2.1 = some (tyJ9 k) := by decide +kernel
abbrev cJ9_floorMod_7cf53 : ByteArray := prog_15_method_50_code
def yJ9_floorMod_7cf53 : MethodName := ⟨RJ9, "floorMod", "(II)I"⟩
abbrev cJ9_abs_0f7a4 : ByteArray := prog_15_method_59_code
def yJ9_abs_0f7a4 : MethodName := ⟨RJ9, "abs", "(I)I"⟩
abbrev cJ9_abs_067f4 : ByteArray := prog_15_method_61_code
def yJ9_abs_067f4 : MethodName := ⟨RJ9, "abs", "(J)J"⟩
abbrev cJ9_max_7cf53 : ByteArray := prog_15_method_65_code
def yJ9_max_7cf53 : MethodName := ⟨RJ9, "max", "(II)I"⟩
abbrev cJ9_min_7cf53 : ByteArray := prog_15_method_69_code
def yJ9_min_7cf53 : MethodName := ⟨RJ9, "min", "(II)I"⟩
def RJ0 : String := "java/lang/String"
def TJ0 : u_T := fun k => match k with
  | _ => ("", "", "", false)
def tyJ0 : Nat → FieldType := fun k => match k with
  | _ => .int
abbrev wsJ00 : List Cond := u_ws RJ0 TJ0 0
theorem nmJ0 : ∀ a, a < 0 → ∀ b, b < 0 → a ≠ b → (TJ0 a).2.1 ≠ (TJ0 b).2.1 := by decide +kernel
theorem tyJ0_ok : ∀ k, k < 0 → parseFieldDescriptor (TJ0 k).2.2.1 = some (tyJ0 k) := by decide +kernel
abbrev cJ0_length_8abf5 : ByteArray := prog_17_method_54_code
def yJ0_length_8abf5 : MethodName := ⟨RJ0, "length", "()I"⟩
abbrev cJ0_charAt_5068e : ByteArray := prog_17_method_56_code
def yJ0_charAt_5068e : MethodName := ⟨RJ0, "charAt", "(I)C"⟩
abbrev cJ0_coder_7d493 : ByteArray := prog_17_method_152_code
def yJ0_coder_7d493 : MethodName := ⟨RJ0, "coder", "()B"⟩
abbrev cJ0_isLatin1_aae02 : ByteArray := prog_17_method_154_code
def yJ0_isLatin1_aae02 : MethodName := ⟨RJ0, "isLatin1", "()Z"⟩
abbrev cJ0_checkIndex_df160 : ByteArray := prog_17_method_155_code
def yJ0_checkIndex_df160 : MethodName := ⟨RJ0, "checkIndex", "(II)V"⟩
def RJ1 : String := "java/lang/StringLatin1"
def TJ1 : u_T := fun k => match k with
  | _ => ("", "", "", false)
def tyJ1 : Nat → FieldType := fun k => match k with
  | _ => .int
abbrev wsJ10 : List Cond := u_ws RJ1 TJ1 0
theorem nmJ1 : ∀ a, a < 0 → ∀ b, b < 0 → a ≠ b → (TJ1 a).2.1 ≠ (TJ1 b).2.1 := by decide +kernel
theorem tyJ1_ok : ∀ k, k < 0 → parseFieldDescriptor (TJ1 k).2.2.1 = some (tyJ1 k) := by decide +kernel
abbrev cJ1_charAt_3b067 : ByteArray := prog_18_method_2_code
def yJ1_charAt_3b067 : MethodName := ⟨RJ1, "charAt", "([BI)C"⟩
def RJ2 : String := "java/lang/StringUTF16"
def TJ2 : u_T := fun k => match k with
  | _ => ("", "", "", false)
def tyJ2 : Nat → FieldType := fun k => match k with
  | _ => .int
abbrev wsJ20 : List Cond := u_ws RJ2 TJ2 0
theorem nmJ2 : ∀ a, a < 0 → ∀ b, b < 0 → a ≠ b → (TJ2 a).2.1 ≠ (TJ2 b).2.1 := by decide +kernel
theorem tyJ2_ok : ∀ k, k < 0 → parseFieldDescriptor (TJ2 k).2.2.1 = some (tyJ2 k) := by decide +kernel
abbrev cJ2_getChar_3b067 : ByteArray := prog_19_method_5_code
def yJ2_getChar_3b067 : MethodName := ⟨RJ2, "getChar", "([BI)C"⟩
abbrev cJ2_length_9d52b : ByteArray := prog_19_method_6_code
def yJ2_length_9d52b : MethodName := ⟨RJ2, "length", "([B)I"⟩
abbrev cJ2_charAt_3b067 : ByteArray := prog_19_method_83_code
def yJ2_charAt_3b067 : MethodName := ⟨RJ2, "charAt", "([BI)C"⟩
abbrev cJ2_checkIndex_2214a : ByteArray := prog_19_method_91_code
def yJ2_checkIndex_2214a : MethodName := ⟨RJ2, "checkIndex", "(I[B)V"⟩
def RJ10 : String := "java/lang/System"
def TJ10 : u_T := fun k => match k with
  | _ => ("", "", "", false)
def tyJ10 : Nat → FieldType := fun k => match k with
  | _ => .int
abbrev wsJ100 : List Cond := u_ws RJ10 TJ10 0
theorem nmJ10 : ∀ a, a < 0 → ∀ b, b < 0 → a ≠ b → (TJ10 a).2.1 ≠ (TJ10 b).2.1 := by decide +kernel
theorem tyJ10_ok : ∀ k, k < 0 → parseFieldDescriptor (TJ10 k).2.2.1 = some (tyJ10 k) := by decide +kernel
def RJxfd54e : String := "java/lang/constant/Constable"
def TJxfd54e : u_T := fun k => match k with
  | _ => ("", "", "", false)
def tyJxfd54e : Nat → FieldType := fun k => match k with
  | _ => .int
abbrev wsJxfd54e0 : List Cond := u_ws RJxfd54e TJxfd54e 0
theorem nmJxfd54e : ∀ a, a < 0 → ∀ b, b < 0 → a ≠ b → (TJxfd54e a).2.1 ≠ (TJxfd54e b).2.1 := by decide +kernel
theorem tyJxfd54e_ok : ∀ k, k < 0 → parseFieldDescriptor (TJxfd54e k).2.2.1 = some (tyJxfd54e k) := by decide +kernel
def RJx3cf43 : String := "java/lang/constant/ConstantDesc"
def TJx3cf43 : u_T := fun k => match k with
  | _ => ("", "", "", false)
def tyJx3cf43 : Nat → FieldType := fun k => match k with
  | _ => .int
abbrev wsJx3cf430 : List Cond := u_ws RJx3cf43 TJx3cf43 0
theorem nmJx3cf43 : ∀ a, a < 0 → ∀ b, b < 0 → a ≠ b → (TJx3cf43 a).2.1 ≠ (TJx3cf43 b).2.1 := by decide +kernel
theorem tyJx3cf43_ok : ∀ k, k < 0 → parseFieldDescriptor (TJx3cf43 k).2.2.1 = some (tyJx3cf43 k) := by decide +kernel
def RJ7 : String := "java/util/Arrays"
def TJ7 : u_T := fun k => match k with
  | _ => ("", "", "", false)
def tyJ7 : Nat → FieldType := fun k => match k with
  | _ => .int
abbrev wsJ70 : List Cond := u_ws RJ7 TJ7 0
theorem nmJ7 : ∀ a, a < 0 → ∀ b, b < 0 → a ≠ b → (TJ7 a).2.1 ≠ (TJ7 b).2.1 := by decide +kernel
theorem tyJ7_ok : ∀ k, k < 0 → parseFieldDescriptor (TJ7 k).2.2.1 = some (tyJ7 k) := by decide +kernel
abbrev cJ7_fill_d0a16 : ByteArray := prog_22_method_101_code
def yJ7_fill_d0a16 : MethodName := ⟨RJ7, "fill", "([JJ)V"⟩
abbrev cJ7_fill_53178 : ByteArray := prog_22_method_103_code
def yJ7_fill_53178 : MethodName := ⟨RJ7, "fill", "([II)V"⟩
def RJ3 : String := "jdk/internal/util/Preconditions"
def TJ3 : u_T := fun k => match k with
  | _ => ("", "", "", false)
def tyJ3 : Nat → FieldType := fun k => match k with
  | _ => .int
abbrev wsJ30 : List Cond := u_ws RJ3 TJ3 0
theorem nmJ3 : ∀ a, a < 0 → ∀ b, b < 0 → a ≠ b → (TJ3 a).2.1 ≠ (TJ3 b).2.1 := by decide +kernel
theorem tyJ3_ok : ∀ k, k < 0 → parseFieldDescriptor (TJ3 k).2.2.1 = some (tyJ3 k) := by decide +kernel
abbrev cJ3_checkIndex_8e157 : ByteArray := prog_23_method_11_code
def yJ3_checkIndex_8e157 : MethodName := ⟨RJ3, "checkIndex", "(IILjava/util/function/BiFunction;)I"⟩
def RL : String := "ToeplitzLabLaw"
abbrev cL_load : ByteArray := method_3_code
def yL_load : MethodName := ⟨RL, "load", "(LToeplitzLab;I[J)I"⟩
abbrev cL_diagonal : ByteArray := method_4_code
def yL_diagonal : MethodName := ⟨RL, "diagonal", "(LToeplitzLab;I[J)I"⟩
abbrev cL_entry : ByteArray := method_5_code
def yL_entry : MethodName := ⟨RL, "entry", "(LToeplitzLab;II[J)I"⟩
abbrev cL_side : ByteArray := method_6_code
def yL_side : MethodName := ⟨RL, "side", "(LToeplitzLab;I[J)I"⟩
abbrev cL_probe : ByteArray := method_7_code
def yL_probe : MethodName := ⟨RL, "probe", "(LToeplitzLab;I[J)I"⟩
abbrev cL_minor : ByteArray := method_8_code
def yL_minor : MethodName := ⟨RL, "minor", "(LToeplitzLab;I[J)I"⟩
abbrev cL_rank : ByteArray := method_9_code
def yL_rank : MethodName := ⟨RL, "rank", "(LToeplitzLab;[J)I"⟩
abbrev cL_isRegular : ByteArray := method_10_code
def yL_isRegular : MethodName := ⟨RL, "isRegular", "(LToeplitzLab;[J)I"⟩
abbrev cL_steps : ByteArray := method_11_code
def yL_steps : MethodName := ⟨RL, "steps", "(LToeplitzLab;[J)I"⟩
abbrev cL_stepEnd : ByteArray := method_12_code
def yL_stepEnd : MethodName := ⟨RL, "stepEnd", "(LToeplitzLab;I[J)I"⟩
abbrev cL_longestJump : ByteArray := method_13_code
def yL_longestJump : MethodName := ⟨RL, "longestJump", "(LToeplitzLab;[J)I"⟩
abbrev cL_tail : ByteArray := method_14_code
def yL_tail : MethodName := ⟨RL, "tail", "(LToeplitzLab;[J)I"⟩
abbrev cL_regularPrimes : ByteArray := method_15_code
def yL_regularPrimes : MethodName := ⟨RL, "regularPrimes", "(LToeplitzLab;[J)I"⟩
abbrev cL_minorIf : ByteArray := method_16_code
def yL_minorIf : MethodName := ⟨RL, "minorIf", "(LToeplitzLab;III[J)I"⟩
abbrev cL_schur : ByteArray := method_17_code
def yL_schur : MethodName := ⟨RL, "schur", "(LToeplitzLab;III[J)I"⟩
abbrev cL_displacement : ByteArray := method_18_code
def yL_displacement : MethodName := ⟨RL, "displacement", "(LToeplitzLab;III[J)I"⟩
abbrev cL_generators : ByteArray := method_19_code
def yL_generators : MethodName := ⟨RL, "generators", "(LToeplitzLab;I[J)I"⟩
abbrev cL_generator : ByteArray := method_20_code
def yL_generator : MethodName := ⟨RL, "generator", "(LToeplitzLab;IIIZ[J)I"⟩
abbrev cL_mostGenerators : ByteArray := method_21_code
def yL_mostGenerators : MethodName := ⟨RL, "mostGenerators", "(LToeplitzLab;[J)I"⟩
abbrev cL_solution : ByteArray := method_22_code
def yL_solution : MethodName := ⟨RL, "solution", "(LToeplitzLab;I[J)I"⟩
abbrev cL_inverse : ByteArray := method_23_code
def yL_inverse : MethodName := ⟨RL, "inverse", "(LToeplitzLab;II[J)I"⟩
abbrev cL_kernel : ByteArray := method_24_code
def yL_kernel : MethodName := ⟨RL, "kernel", "(LToeplitzLab;I[J)I"⟩
abbrev cL_isSolvable : ByteArray := method_25_code
def yL_isSolvable : MethodName := ⟨RL, "isSolvable", "(LToeplitzLab;[J)I"⟩
abbrev cL_digits : ByteArray := method_26_code
def yL_digits : MethodName := ⟨RL, "digits", "(LToeplitzLab;[J)I"⟩
abbrev cL_mostDigits : ByteArray := method_27_code
def yL_mostDigits : MethodName := ⟨RL, "mostDigits", "(LToeplitzLab;[J)I"⟩
abbrev cL_digit : ByteArray := method_28_code
def yL_digit : MethodName := ⟨RL, "digit", "(LToeplitzLab;II[J)I"⟩
abbrev cL_residual : ByteArray := method_29_code
def yL_residual : MethodName := ⟨RL, "residual", "(LToeplitzLab;I[J)I"⟩
abbrev cL_value : ByteArray := method_30_code
def yL_value : MethodName := ⟨RL, "value", "(LToeplitzLab;I[J)I"⟩
abbrev cL_centred : ByteArray := method_31_code
def yL_centred : MethodName := ⟨RL, "centred", "(LToeplitzLab;I[J)I"⟩
abbrev cL_numerator : ByteArray := method_32_code
def yL_numerator : MethodName := ⟨RL, "numerator", "(LToeplitzLab;I[J)I"⟩
abbrev cL_denominator : ByteArray := method_33_code
def yL_denominator : MethodName := ⟨RL, "denominator", "(LToeplitzLab;I[J)I"⟩
abbrev cL_quotient : ByteArray := method_34_code
def yL_quotient : MethodName := ⟨RL, "quotient", "(LToeplitzLab;I[D)I"⟩
abbrev cL_isExact : ByteArray := method_35_code
def yL_isExact : MethodName := ⟨RL, "isExact", "(LToeplitzLab;[J)I"⟩
abbrev cL_liftsTo : ByteArray := method_36_code
def yL_liftsTo : MethodName := ⟨RL, "liftsTo", "(LToeplitzLab;[J)I"⟩
abbrev cL_product : ByteArray := method_37_code
def yL_product : MethodName := ⟨RL, "product", "(LToeplitzLab;I[J)I"⟩
abbrev cL_circulant : ByteArray := method_38_code
def yL_circulant : MethodName := ⟨RL, "circulant", "(LToeplitzLab;II[J)I"⟩
abbrev cL_wrapped : ByteArray := method_39_code
def yL_wrapped : MethodName := ⟨RL, "wrapped", "(LToeplitzLab;I[J)I"⟩
abbrev cL_probeSolves : ByteArray := method_40_code
def yL_probeSolves : MethodName := ⟨RL, "probeSolves", "(LToeplitzLab;[J)I"⟩
abbrev cL_accountOf : ByteArray := method_41_code
def yL_accountOf : MethodName := ⟨RL, "accountOf", "(LToeplitzLab;II[J)I"⟩
abbrev cL_setDiagonal : ByteArray := method_42_code
def yL_setDiagonal : MethodName := ⟨RL, "setDiagonal", "(LToeplitzLab;II[J)I"⟩
abbrev cL_setSide : ByteArray := method_43_code
def yL_setSide : MethodName := ⟨RL, "setSide", "(LToeplitzLab;II[J)I"⟩
abbrev cL_setProbe : ByteArray := method_44_code
def yL_setProbe : MethodName := ⟨RL, "setProbe", "(LToeplitzLab;II[J)I"⟩
abbrev cL_setPrime : ByteArray := method_45_code
def yL_setPrime : MethodName := ⟨RL, "setPrime", "(LToeplitzLab;I[J)I"⟩
abbrev cL_grow : ByteArray := method_46_code
def yL_grow : MethodName := ⟨RL, "grow", "(LToeplitzLab;III[J)I"⟩
abbrev cL_shrink : ByteArray := method_47_code
def yL_shrink : MethodName := ⟨RL, "shrink", "(LToeplitzLab;[J)I"⟩
abbrev cL_lift : ByteArray := method_48_code
def yL_lift : MethodName := ⟨RL, "lift", "(LToeplitzLab;[J)I"⟩
abbrev cL_refine : ByteArray := method_49_code
def yL_refine : MethodName := ⟨RL, "refine", "(LToeplitzLab;I[J)I"⟩
abbrev cL_undo : ByteArray := method_50_code
def yL_undo : MethodName := ⟨RL, "undo", "(LToeplitzLab;[J)I"⟩
abbrev cL_save : ByteArray := method_51_code
def yL_save : MethodName := ⟨RL, "save", "(LToeplitzLab;I[J)I"⟩
abbrev cL_restore : ByteArray := method_52_code
def yL_restore : MethodName := ⟨RL, "restore", "(LToeplitzLab;I[J)I"⟩
abbrev cL_law : ByteArray := code
def yL_law : MethodName := ⟨RL, "law", "([I)Z"⟩
abbrev vwCl : List vw_C := [(RX0, TX0, 2), (RX1, TX1, 6), (RX2, TX2, 3), (RX3, TX3, 14), (RX4, TX4, 2), (RX5, TX5, 2), (RX6, TX6, 11), (RX7, TX7, 11), (RX8, TX8, 32)]
end
section
/-! ===== a small machine over the system's things: a thing is (kind, number, row); what whole numbers and longs they hold is I and J; which of the things that are made late stand is B ===== -/
abbrev gR : Type := Nat × Nat × Nat
abbrev gV : Type := Value ⊕ gR
abbrev gI : Type := Nat → Nat → Nat → Nat → Int32
abbrev gJ : Type := Nat → Nat → Nat → Int64
abbrev gB : Type := Nat → Bool
abbrev gM : Type := List (Nat × gV) → List gV → gI → gJ → gB → Nat → Nat → Prop
/-- a row of code: place, length, instruction, two numbers, a value -/
abbrev gE : Type := Nat × Nat × Instr × Nat × Nat × gV
abbrev gQt : Type := gV → gI → gJ → gB → Prop
abbrev gXt : Type := Nat → gI → gJ → gB → Prop
/-- the objects' kinds: the number in vwCl; the fields (0 int, 1 long, 2 boolean, 100 + k a thing of kind k whose number is greater by the second) -/
def gobj (k : Nat) : Option (Nat × List (Nat × Nat)) := match k with
  | 3 => some (7, [(104, 0), (106, 0), (106, 1), (113, 0), (115, 0), (116, 0), (117, 0), (120, 0), (125, 0), (128, 0), (130, 0)])
  | 4 => some (3, [(105, 0), (0, 0), (106, 2), (0, 0), (0, 0), (0, 0), (0, 0), (0, 0), (0, 0), (0, 0), (0, 0), (0, 0), (0, 0), (0, 0)])
  | 6 => some (6, [(0, 0), (0, 0), (107, 0), (108, 0), (109, 0), (0, 0), (1, 0), (110, 0), (111, 0), (0, 0), (112, 0)])
  | 13 => some (2, [(114, 0), (0, 0), (0, 0)])
  | 17 => some (1, [(118, 0), (0, 0), (0, 0), (0, 0), (0, 0), (0, 0)])
  | 20 => some (5, [(121, 0), (123, 0)])
  | 25 => some (0, [(126, 0), (127, 0)])
  | 28 => some (4, [(117, 1), (129, 0)])
  | 31 => some (8, [(0, 0), (2, 0), (132, 0), (133, 0), (0, 0), (134, 0), (135, 0), (0, 0), (0, 0), (0, 0), (0, 0), (0, 0), (0, 0), (0, 0), (0, 0), (0, 0), (0, 0), (136, 0), (137, 0), (0, 0), (138, 0), (0, 0), (139, 0), (140, 0), (0, 0), (141, 0), (142, 0), (143, 0), (1, 0), (1, 0), (144, 0), (145, 0)])
  | _ => none
/-- the arrays' kinds: what they hold (0 int, 1 long, 2 boolean, 3 byte, 4 double, 5 rows of the kind that stands third, 6 states from the number that stands third on), how many -/
def garr (k : Nat) : Option (Nat × Nat × Nat) := match k with
  | 5 => some (3, 700, 0)
  | 7 => some (0, 13, 0)
  | 8 => some (0, 7, 0)
  | 9 => some (0, 7, 0)
  | 10 => some (1, 7, 0)
  | 11 => some (0, 7, 0)
  | 12 => some (0, 90, 0)
  | 14 => some (6, 8, 3)
  | 15 => some (6, 2, 11)
  | 16 => some (2, 2, 0)
  | 18 => some (5, 7, 19)
  | 19 => some (0, 14, 0)
  | 21 => some (5, 7, 22)
  | 22 => some (0, 7, 0)
  | 23 => some (5, 7, 24)
  | 24 => some (0, 7, 0)
  | 26 => some (1, 7, 0)
  | 27 => some (1, 7, 0)
  | 29 => some (0, 7, 0)
  | 30 => some (0, 8, 0)
  | 32 => some (0, 408, 0)
  | 33 => some (0, 4488, 0)
  | 34 => some (2, 2, 0)
  | 35 => some (0, 700, 0)
  | 36 => some (0, 408, 0)
  | 37 => some (2, 27, 0)
  | 38 => some (0, 56, 0)
  | 39 => some (0, 8, 0)
  | 40 => some (0, 8, 0)
  | 41 => some (0, 49, 0)
  | 42 => some (0, 343, 0)
  | 43 => some (0, 343, 0)
  | 44 => some (1, 7, 0)
  | 45 => some (1, 7, 0)
  | 46 => some (1, 1, 0)
  | 47 => some (4, 1, 0)
  | _ => none
/-- the things of a state -/
def gstate (n : Nat) : List gR := [(6, n, 0), (7, n, 0), (8, n, 0), (9, n, 0), (10, n, 0), (11, n, 0), (12, n, 0)]
def growsOf (k n : Nat) : List gR := [(k, n, 0), (k, n, 1), (k, n, 2), (k, n, 3), (k, n, 4), (k, n, 5), (k, n, 6)]
/-- the things that always stand -/
def gperm : List gR := [(3, 0, 0), (4, 0, 0), (5, 0, 0)] ++ gstate 0 ++ gstate 1 ++ gstate 2 ++ [(13, 0, 0), (14, 0, 0), (15, 0, 0), (16, 0, 0), (17, 0, 0), (18, 0, 0)] ++ growsOf 19 0 ++ [(17, 1, 0), (18, 1, 0)] ++ growsOf 19 1 ++ [(20, 0, 0), (21, 0, 0)] ++ growsOf 22 0 ++ [(23, 0, 0)] ++ growsOf 24 0 ++ [(25, 0, 0), (26, 0, 0), (27, 0, 0), (28, 0, 0), (29, 0, 0), (30, 0, 0), (31, 0, 0), (32, 0, 0), (33, 0, 0), (34, 0, 0), (35, 0, 0), (36, 0, 0), (37, 0, 0), (38, 0, 0), (39, 0, 0), (40, 0, 0), (41, 0, 0), (42, 0, 0), (43, 0, 0), (44, 0, 0), (45, 0, 0), (46, 0, 0), (47, 0, 0)]
def gall : List gR := gperm ++ gstate 3 ++ gstate 4 ++ gstate 5 ++ gstate 6 ++ gstate 7 ++ gstate 8 ++ gstate 9 ++ gstate 10 ++ gstate 11 ++ gstate 12
def gids (B : gB) : List gR := gall.filter (fun r => Nat.blt r.2.1 3 || B r.2.1)
/-- values -/
def gcat : gV → Nat
  | .inl v => v.category
  | .inr _ => 1
def gcv (ad : gR → Nat) : gV → Value
  | .inl v => v
  | .inr r => .ref (ad r)
def gcp (ad : gR → Nat) (q : Nat × gV) : Nat × Value := (q.1, gcv ad q.2)
/-- writing -/
def gUI (I : gI) (k n i j : Nat) (x : Int32) : gI := fun a b c d => if a = k ∧ b = n ∧ c = i ∧ d = j then x else I a b c d
def gUJ (J : gJ) (k n j : Nat) (x : Int64) : gJ := fun a b d => if a = k ∧ b = n ∧ d = j then x else J a b d
def gUB (B : gB) (n : Nat) : gB := fun a => if a = n then true else B a
/-- local places -/
def gset1 (ls : List (Nat × gV)) (a : Nat) (v : gV) : List (Nat × gV) := (a, v) :: ls.filter (fun q => !(q.1 == a) && !(q.1 + 1 == a && gcat q.2 == 2))
def gset2 (ls : List (Nat × gV)) (a : Nat) (v : gV) : List (Nat × gV) := (a, v) :: ls.filter (fun q => !(q.1 == a) && (!(q.1 == a + 1) && !(q.1 + 1 == a && gcat q.2 == 2)))
def gpick (live : List Nat) (ls : List (Nat × gV)) : List (Nat × gV) := live.filterMap (fun i => (ls.lookup i).map (fun v => (i, v)))
def gldv (ls : List (Nat × gV)) (a : Nat) (k : gV → Prop) : Prop := match ls.lookup a with
  | some v => k v
  | none => False
/-- what stands on top -/
def gvi (v : gV) (k : Int32 → Prop) : Prop := match v with
  | .inl (.int x) => k x
  | _ => False
def gvl (v : gV) (k : Int64 → Prop) : Prop := match v with
  | .inl (.long x) => k x
  | _ => False
def gvd (v : gV) (k : UInt64 → Prop) : Prop := match v with
  | .inl (.double x) => k x
  | _ => False
def gvr (v : gV) (k : gR → Prop) : Prop := match v with
  | .inr r => k r
  | _ => False
def gvn (v : gV) (a : Prop) (k : gR → Prop) : Prop := match v with
  | .inr r => k r
  | .inl .null => a
  | _ => False
def gtop (st : List gV) (k : gV → List gV → Prop) : Prop := match st with
  | v :: r => k v r
  | [] => False
def gpi (st : List gV) (k : Int32 → List gV → Prop) : Prop := gtop st fun v r => gvi v fun x => k x r
def gpl (st : List gV) (k : Int64 → List gV → Prop) : Prop := gtop st fun v r => gvl v fun x => k x r
def gpd (st : List gV) (k : UInt64 → List gV → Prop) : Prop := gtop st fun v r => gvd v fun x => k x r
def gpr (st : List gV) (k : gR → List gV → Prop) : Prop := gtop st fun v r => gvr v fun x => k x r
def gno (st : List gV) (k : Prop) : Prop := match st with
  | [] => k
  | _ => False
/-- the primes that stand in the static row -/
def gprime (j : Nat) : Int32 := ([2, 3, 5, 7, 11, 13, 17, 19, 23, 29, 31] : List Int32).getD j 0
/-- loads from arrays -/
def gial (L : Nat) (xs : Nat → Int32) (I : gI) (q : gR) (i : Int32) (k : Int32 → Prop) : Prop := match q.1 with
  | 0 => vp_in i L ∧ k (xs i.toNatClampNeg)
  | 1 => vp_in i 11 ∧ k (gprime i.toNatClampNeg)
  | kk => match garr kk with
    | some (0, n, _) => vp_in i n ∧ k (I kk q.2.1 q.2.2 i.toNatClampNeg)
    | _ => False
def gbal (I : gI) (q : gR) (i : Int32) (k : Int32 → Prop) : Prop := match garr q.1 with
  | some (2, n, _) => vp_in i n ∧ k (I q.1 q.2.1 q.2.2 i.toNatClampNeg)
  | some (3, n, _) => vp_in i n ∧ k (I q.1 q.2.1 q.2.2 i.toNatClampNeg)
  | _ => False
def glal (J : gJ) (q : gR) (i : Int32) (k : Int64 → Prop) : Prop := match garr q.1 with
  | some (1, n, _) => vp_in i n ∧ k (J q.1 q.2.1 i.toNatClampNeg)
  | _ => False
def gdal (J : gJ) (q : gR) (i : Int32) (k : UInt64 → Prop) : Prop := match garr q.1 with
  | some (4, n, _) => vp_in i n ∧ k (J q.1 q.2.1 i.toNatClampNeg).toUInt64
  | _ => False
def gaal (B : gB) (q : gR) (i : Int32) (k : gV → Prop) : Prop := match garr q.1 with
  | some (5, n, rk) => vp_in i n ∧ k (.inr (rk, q.2.1, i.toNatClampNeg))
  | some (6, n, rk) => vp_in i n ∧ (B (rk + i.toNatClampNeg + 17) = true → k (.inr (6, rk + i.toNatClampNeg, 0))) ∧ (B (rk + i.toNatClampNeg + 17) = false → k (.inl .null))
  | _ => False
/-- stores -/
def gias (I : gI) (q : gR) (i x : Int32) (k : gI → Prop) : Prop := match garr q.1 with
  | some (0, n, _) => vp_in i n ∧ k (gUI I q.1 q.2.1 q.2.2 i.toNatClampNeg x)
  | _ => False
def gbas (I : gI) (q : gR) (i x : Int32) (k : gI → Prop) : Prop := match garr q.1 with
  | some (2, n, _) => vp_in i n ∧ k (gUI I q.1 q.2.1 q.2.2 i.toNatClampNeg (vp_nar .boolean x))
  | some (3, n, _) => vp_in i n ∧ k (gUI I q.1 q.2.1 q.2.2 i.toNatClampNeg x.toInt8.toInt32)
  | _ => False
def glas (J : gJ) (q : gR) (i : Int32) (x : Int64) (k : gJ → Prop) : Prop := match garr q.1 with
  | some (1, n, _) => vp_in i n ∧ k (gUJ J q.1 q.2.1 i.toNatClampNeg x)
  | _ => False
def gdas (J : gJ) (q : gR) (i : Int32) (x : UInt64) (k : gJ → Prop) : Prop := match garr q.1 with
  | some (4, n, _) => vp_in i n ∧ k (gUJ J q.1 q.2.1 i.toNatClampNeg x.toInt64)
  | _ => False
def gaas (B : gB) (q v : gR) (i : Int32) (k : gB → Prop) : Prop := match garr q.1 with
  | some (6, n, rk) => vp_in i n ∧ v = (6, rk + i.toNatClampNeg, 0) ∧ k (gUB B (rk + i.toNatClampNeg + 17))
  | _ => False
def gln (L : Nat) (q : gR) (k : Int32 → Prop) : Prop := match q.1 with
  | 0 => k (Int32.ofNat L)
  | 1 => k 11
  | kk => match garr kk with
    | some (_, n, _) => k (Int32.ofNat n)
    | none => False
/-- fields -/
def gfg (I : gI) (J : gJ) (q : gR) (a b : Nat) (k : gV → Prop) : Prop := match Nat.beq q.1 a, gobj a with
  | true, some (_, fl) => match fl[b]? with
    | some (0, _) => k (.inl (.int (I a q.2.1 0 b)))
    | some (1, _) => k (.inl (.long (J a q.2.1 b)))
    | some (2, _) => k (.inl (.int (I a q.2.1 0 b)))
    | some (cd, dn) => k (.inr (cd - 100, q.2.1 + dn, 0))
    | none => False
  | _, _ => False
def gfp (I : gI) (J : gJ) (q : gR) (a b : Nat) (v : gV) (k : gI → gJ → Prop) : Prop := match Nat.beq q.1 a, gobj a with
  | true, some (_, fl) => match fl[b]? with
    | some (0, _) => gvi v fun x => k (gUI I a q.2.1 0 b x) J
    | some (1, _) => gvl v fun x => k I (gUJ J a q.2.1 b x)
    | some (2, _) => gvi v fun x => (x = 0 ∨ x = 1) ∧ k (gUI I a q.2.1 0 b x) J
    | _ => False
  | _, _ => False
/-- copies of whole stretches -/
def gcpI (I : gI) (s d : gR) (sp dp n : Nat) : gI := fun a b c j => if a = d.1 ∧ b = d.2.1 ∧ c = d.2.2 then va_cpy (I s.1 s.2.1 s.2.2) (I d.1 d.2.1 d.2.2) sp dp n j else I a b c j
def gcpJ (J : gJ) (s d : gR) (sp dp n : Nat) : gJ := fun a b j => if a = d.1 ∧ b = d.2.1 then va_cpy (J s.1 s.2.1) (J d.1 d.2.1) sp dp n j else J a b j
def gcpy (I : gI) (J : gJ) (s d : gR) (sp dp n : Int32) (k : gI → gJ → Prop) : Prop := match garr s.1, garr d.1 with
  | some (0, n0, _), some (0, n1, _) => (¬ sp < 0 ∧ ¬ dp < 0 ∧ ¬ n < 0 ∧ sp.toNatClampNeg + n.toNatClampNeg ≤ n0 ∧ dp.toNatClampNeg + n.toNatClampNeg ≤ n1 ∧ s ≠ d) ∧ k (gcpI I s d sp.toNatClampNeg dp.toNatClampNeg n.toNatClampNeg) J
  | some (1, n0, _), some (1, n1, _) => (¬ sp < 0 ∧ ¬ dp < 0 ∧ ¬ n < 0 ∧ sp.toNatClampNeg + n.toNatClampNeg ≤ n0 ∧ dp.toNatClampNeg + n.toNatClampNeg ≤ n1 ∧ s ≠ d) ∧ k I (gcpJ J s d sp.toNatClampNeg dp.toNatClampNeg n.toNatClampNeg)
  | _, _ => False
/-- a new state, all zero -/
def gnwI (I : gI) (m : Nat) : gI := fun a b c j => if b = m ∧ 6 ≤ a ∧ a ≤ 12 then 0 else I a b c j
def gnwJ (J : gJ) (m : Nat) : gJ := fun a b j => if b = m ∧ a = 6 ∧ j = 6 then 1 else if b = m ∧ a = 10 then 0 else J a b j
/-- which of three -/
def gx3 (k : Nat) (a b c : Prop) : Prop := match k with
  | 0 => a
  | 1 => b
  | _ => c
def gto (cd : List gE) (t : Nat) : List gE := cd.dropWhile (fun e => !(Nat.beq e.1 t))
def gsum (st : List gV) : Nat := (st.map gcat).sum
/-- a handler: from, to, where, for which of the three -/
abbrev gH : Type := List (Nat × Nat × Nat × Nat)
def ghf (hs : gH) (pc k : Nat) : Option Nat := match hs with
  | [] => none
  | (a, b, h, j) :: r => match Nat.ble a pc && Nat.blt pc b && Nat.beq j k with
    | true => some h
    | false => ghf r pc k
/-- from a handler's first row, which lays the exception away, on -/
def ghg (cd : List gE) (h : Nat) (go : List gE → List (Nat × gV) → Prop) (ls : List (Nat × gV)) : Prop := match gto cd h with
  | e :: rest => go rest (ls.filter (fun q => !(q.1 == e.2.2.2.1) && !(q.1 + 1 == e.2.2.2.1 && gcat q.2 == 2)))
  | [] => False
def gsw (x : Int32) (lo : Int) (ts : List Nat) (d : Nat) (k : Nat → Prop) : Prop := (∀ i : Nat, ∀ t : Nat, ts[i]? = some t → x.toInt = lo + i → k t) ∧ ((x.toInt < lo ∨ lo + ts.length ≤ x.toInt) → k d)
section GM
variable (C : Nat → List gV → gI → gJ → gB → gQt → gXt → Prop) (cd : List gE) (hs : gH) (mc ms L : Nat) (xs : Nat → Int32) (bo : Bool) (Q : gQt) (X : gXt)
/-- the receiver is of the kind that the call wants -/
def gkd (k : Nat) (args : List gV) : Bool := match k with
  | 0 => true
  | _ => match args with
    | .inr q :: _ => Nat.beq q.1 k
    | _ => false
/-- a call -/
def gcal (e : gE) (rest : List gE) (go : List gE → gM) : gM := fun ls st I J B c w =>
  match Nat.ble (gsum (st.drop (e.2.2.2.2.1 % 16))) 8 && (gkd (e.2.2.2.2.1 / 16) (st.take (e.2.2.2.2.1 % 16)).reverse && Nat.beq (st.take (e.2.2.2.2.1 % 16)).length (e.2.2.2.2.1 % 16)), e.2.2.2.2.2 with
  | true, .inr (tag, m1, m2) =>
    (fun (body : Prop) => match m1 with
      | 0 => body
      | _ => (c + m1 ≤ mc ∧ w + m2 ≤ ms) ∧ body)
    (C e.2.2.2.1 (st.take (e.2.2.2.2.1 % 16)).reverse I J B
      (fun v I' J' B' => match tag with
        | 0 => go rest ls (st.drop (e.2.2.2.2.1 % 16)) I' J' B' (c + m1) (w + m2)
        | 1 => gvi v fun x => go rest ls (.inl (.int x) :: st.drop (e.2.2.2.2.1 % 16)) I' J' B' (c + m1) (w + m2)
        | 2 => gvl v fun x => go rest ls (.inl (.long x) :: st.drop (e.2.2.2.2.1 % 16)) I' J' B' (c + m1) (w + m2)
        | 3 => gvd v fun x => go rest ls (.inl (.double x) :: st.drop (e.2.2.2.2.1 % 16)) I' J' B' (c + m1) (w + m2)
        | _ => gvn v (go rest ls (.inl .null :: st.drop (e.2.2.2.2.1 % 16)) I' J' B' (c + m1) (w + m2)) fun r => go rest ls (.inr r :: st.drop (e.2.2.2.2.1 % 16)) I' J' B' (c + m1) (w + m2))
      (match hs with
        | [] => X
        | _ => fun k I' J' B' => gx3 k
          (match ghf hs e.1 0 with
            | some h => ghg cd h (fun r ls' => go r ls' [] I' J' B' (c + m1) (w + m2)) ls
            | none => X 0 I' J' B')
          (match ghf hs e.1 1 with
            | some h => ghg cd h (fun r ls' => go r ls' [] I' J' B' (c + m1) (w + m2)) ls
            | none => X 1 I' J' B')
          (match ghf hs e.1 2 with
            | some h => ghg cd h (fun r ls' => go r ls' [] I' J' B' (c + m1) (w + m2)) ls
            | none => X 2 I' J' B')))
  | _, _ => False
def gbr (p : Prop) (rest : List gE) (a : Nat) (go : List gE → Prop) : Prop := (p → go (gto cd a)) ∧ (¬ p → go rest)
def gbn (p : Prop) (rest : List gE) (a : Nat) (go : List gE → Prop) : Prop := (¬ p → go (gto cd a)) ∧ (p → go rest)
/-- what a row does -/
def gsem (e : gE) (rest : List gE) (go : List gE → gM) : gM := fun ls st I J B c w =>
  let a := e.2.2.2.1
  let b := e.2.2.2.2.1
  let v := e.2.2.2.2.2
  match e.2.2.1 with
  | .iconst _ => gvi v fun x => go rest ls (.inl (.int x) :: st) I J B c w
  | .bipush _ => gvi v fun x => go rest ls (.inl (.int x) :: st) I J B c w
  | .sipush _ => gvi v fun x => go rest ls (.inl (.int x) :: st) I J B c w
  | .lconst _ => gvl v fun x => go rest ls (.inl (.long x) :: st) I J B c w
  | .dconst _ => go rest ls (.inl (.double FP.dconst0) :: st) I J B c w
  | .ldc _ => gvr v fun q => go rest ls (.inr q :: st) I J B c w
  | .ldc2_w _ => gvl v fun x => go rest ls (.inl (.long x) :: st) I J B c w
  | .aconst_null => go rest ls (.inl .null :: st) I J B c w
  | .getstatic _ => go rest ls (.inr (1, 0, 0) :: st) I J B c w
  | .iload_n _ => gldv ls a fun y => gvi y fun x => go rest ls (.inl (.int x) :: st) I J B c w
  | .iload _ => gldv ls a fun y => gvi y fun x => go rest ls (.inl (.int x) :: st) I J B c w
  | .lload_n _ => gldv ls a fun y => gvl y fun x => go rest ls (.inl (.long x) :: st) I J B c w
  | .lload _ => gldv ls a fun y => gvl y fun x => go rest ls (.inl (.long x) :: st) I J B c w
  | .dload _ => gldv ls a fun y => gvd y fun x => go rest ls (.inl (.double x) :: st) I J B c w
  | .aload_n _ => gldv ls a fun y => gvn y (go rest ls (.inl .null :: st) I J B c w) fun x => go rest ls (.inr x :: st) I J B c w
  | .aload _ => gldv ls a fun y => gvn y (go rest ls (.inl .null :: st) I J B c w) fun x => go rest ls (.inr x :: st) I J B c w
  | .istore_n _ => gpi st fun x r => go rest (gset1 ls a (.inl (.int x))) r I J B c w
  | .istore _ => gpi st fun x r => go rest (gset1 ls a (.inl (.int x))) r I J B c w
  | .astore_n _ => gtop st fun y r => gvn y (go rest (gset1 ls a (.inl .null)) r I J B c w) fun x => go rest (gset1 ls a (.inr x)) r I J B c w
  | .astore _ => gtop st fun y r => gvn y (go rest (gset1 ls a (.inl .null)) r I J B c w) fun x => go rest (gset1 ls a (.inr x)) r I J B c w
  | .lstore_n _ => gpl st fun x r => go rest (gset2 ls a (.inl (.long x))) r I J B c w
  | .lstore _ => gpl st fun x r => go rest (gset2 ls a (.inl (.long x))) r I J B c w
  | .dstore _ => gpd st fun x r => go rest (gset2 ls a (.inl (.double x))) r I J B c w
  | .iinc _ _ => gldv ls a fun y => gvi y fun x => gvi v fun z => go rest (gset1 ls a (.inl (.int (x + z)))) st I J B c w
  | .iadd => gpi st fun y r => gpi r fun x r => go rest ls (.inl (.int (x + y)) :: r) I J B c w
  | .isub => gpi st fun y r => gpi r fun x r => go rest ls (.inl (.int (x - y)) :: r) I J B c w
  | .imul => gpi st fun y r => gpi r fun x r => go rest ls (.inl (.int (x * y)) :: r) I J B c w
  | .iand => gpi st fun y r => gpi r fun x r => go rest ls (.inl (.int (x &&& y)) :: r) I J B c w
  | .ior => gpi st fun y r => gpi r fun x r => go rest ls (.inl (.int (x ||| y)) :: r) I J B c w
  | .ixor => gpi st fun y r => gpi r fun x r => go rest ls (.inl (.int (x ^^^ y)) :: r) I J B c w
  | .ishl => gpi st fun y r => gpi r fun x r => go rest ls (.inl (.int (x <<< (y &&& 31))) :: r) I J B c w
  | .ishr => gpi st fun y r => gpi r fun x r => go rest ls (.inl (.int (x >>> (y &&& 31))) :: r) I J B c w
  | .idiv => gpi st fun y r => gpi r fun x r => (¬ y = 0) ∧ go rest ls (.inl (.int (x / y)) :: r) I J B c w
  | .irem => gpi st fun y r => gpi r fun x r => (¬ y = 0) ∧ go rest ls (.inl (.int (x - x / y * y)) :: r) I J B c w
  | .ineg => gpi st fun x r => go rest ls (.inl (.int (-x)) :: r) I J B c w
  | .ladd => gpl st fun y r => gpl r fun x r => go rest ls (.inl (.long (x + y)) :: r) I J B c w
  | .lsub => gpl st fun y r => gpl r fun x r => go rest ls (.inl (.long (x - y)) :: r) I J B c w
  | .lmul => gpl st fun y r => gpl r fun x r => go rest ls (.inl (.long (x * y)) :: r) I J B c w
  | .ldiv => gpl st fun y r => gpl r fun x r => (¬ y = 0) ∧ go rest ls (.inl (.long (x / y)) :: r) I J B c w
  | .lrem => gpl st fun y r => gpl r fun x r => (¬ y = 0) ∧ go rest ls (.inl (.long (x - x / y * y)) :: r) I J B c w
  | .lneg => gpl st fun x r => go rest ls (.inl (.long (-x)) :: r) I J B c w
  | .lcmp => gpl st fun y r => gpl r fun x r => go rest ls (.inl (.int (lg_cmp x y)) :: r) I J B c w
  | .i2l => gpi st fun x r => go rest ls (.inl (.long x.toInt64) :: r) I J B c w
  | .l2i => gpl st fun x r => go rest ls (.inl (.int x.toInt32) :: r) I J B c w
  | .i2b => gpi st fun x r => go rest ls (.inl (.int x.toInt8.toInt32) :: r) I J B c w
  | .l2d => gpl st fun x r => go rest ls (.inl (.double (FP.l2d x)) :: r) I J B c w
  | .ddiv => gpd st fun y r => gpd r fun x r => vf_n64 (FP.ddiv x y) ∧ go rest ls (.inl (.double (FP.ddiv x y)) :: r) I J B c w
  | .dcmp o => gpd st fun y r => gpd r fun x r => go rest ls (.inl (.int (Op.cmpValue (FP.dcmp x y) o)) :: r) I J B c w
  | .pop => gtop st fun y r => match gcat y with
    | 1 => go rest ls r I J B c w
    | _ => False
  | .dup => gtop st fun y r => match gcat y with
    | 1 => go rest ls (y :: y :: r) I J B c w
    | _ => False
  | .dup2 => gtop st fun y r => match gcat y with
    | 2 => go rest ls (y :: y :: r) I J B c w
    | _ => gtop r fun z r => match gcat z with
      | 1 => go rest ls (y :: z :: y :: z :: r) I J B c w
      | _ => False
  | .ifCond .eq _ => gpi st fun x r => gbr cd (x = 0) rest a fun r' => go r' ls r I J B c w
  | .ifCond .ne _ => gpi st fun x r => gbn cd (x = 0) rest a fun r' => go r' ls r I J B c w
  | .ifCond .lt _ => gpi st fun x r => gbr cd (x < 0) rest a fun r' => go r' ls r I J B c w
  | .ifCond .ge _ => gpi st fun x r => gbr cd (0 ≤ x) rest a fun r' => go r' ls r I J B c w
  | .ifCond .gt _ => gpi st fun x r => gbr cd (0 < x) rest a fun r' => go r' ls r I J B c w
  | .ifCond .le _ => gpi st fun x r => gbr cd (x ≤ 0) rest a fun r' => go r' ls r I J B c w
  | .if_icmp .eq _ => gpi st fun y r => gpi r fun x r => gbr cd (x = y) rest a fun r' => go r' ls r I J B c w
  | .if_icmp .ne _ => gpi st fun y r => gpi r fun x r => gbn cd (x = y) rest a fun r' => go r' ls r I J B c w
  | .if_icmp .lt _ => gpi st fun y r => gpi r fun x r => gbr cd (x < y) rest a fun r' => go r' ls r I J B c w
  | .if_icmp .ge _ => gpi st fun y r => gpi r fun x r => gbr cd (y ≤ x) rest a fun r' => go r' ls r I J B c w
  | .if_icmp .gt _ => gpi st fun y r => gpi r fun x r => gbr cd (y < x) rest a fun r' => go r' ls r I J B c w
  | .if_icmp .le _ => gpi st fun y r => gpi r fun x r => gbr cd (x ≤ y) rest a fun r' => go r' ls r I J B c w
  | .goto _ => go (gto cd a) ls st I J B c w
  | .ifnull _ => gtop st fun y r => gvn y (go (gto cd a) ls r I J B c w) fun _ => go rest ls r I J B c w
  | .ifnonnull _ => gtop st fun y r => gvn y (go rest ls r I J B c w) fun _ => go (gto cd a) ls r I J B c w
  | .tableswitch d lo _ offs => gpi st fun x r => gsw x lo (offs.toList.map (fun o => ((e.1 : Int) + o).toNat)) ((e.1 : Int) + d).toNat fun t => go (gto cd t) ls r I J B c w
  | .iaload => gpi st fun i r => gpr r fun q r => gial L xs I q i fun x => go rest ls (.inl (.int x) :: r) I J B c w
  | .baload => gpi st fun i r => gpr r fun q r => gbal I q i fun x => go rest ls (.inl (.int x) :: r) I J B c w
  | .laload => gpi st fun i r => gpr r fun q r => glal J q i fun x => go rest ls (.inl (.long x) :: r) I J B c w
  | .daload => gpi st fun i r => gpr r fun q r => gdal J q i fun x => go rest ls (.inl (.double x) :: r) I J B c w
  | .aaload => gpi st fun i r => gpr r fun q r => gaal B q i fun x => go rest ls (x :: r) I J B c w
  | .iastore => gpi st fun x r => gpi r fun i r => gpr r fun q r => gias I q i x fun I' => go rest ls r I' J B c w
  | .bastore => gpi st fun x r => gpi r fun i r => gpr r fun q r => gbas I q i x fun I' => go rest ls r I' J B c w
  | .lastore => gpl st fun x r => gpi r fun i r => gpr r fun q r => glas J q i x fun J' => go rest ls r I J' B c w
  | .dastore => gpd st fun x r => gpi r fun i r => gpr r fun q r => gdas J q i x fun J' => go rest ls r I J' B c w
  | .aastore => gpr st fun x r => gpi r fun i r => gpr r fun q r => gaas B q x i fun B' => go rest ls r I J B' c w
  | .arraylength => gpr st fun q r => gln L q fun x => go rest ls (.inl (.int x) :: r) I J B c w
  | .getfield _ => gpr st fun q r => gfg I J q a b fun x => go rest ls (x :: r) I J B c w
  | .putfield _ => gtop st fun x r => gpr r fun q r => gfp I J q a b x fun I' J' => go rest ls r I' J' B c w
  | .ireturn => gpi st fun x r => gno r (match bo with
    | true => (x = 0 ∨ x = 1) ∧ Q (.inl (.int x)) I J B
    | false => Q (.inl (.int x)) I J B)
  | .lreturn => gpl st fun x r => gno r (Q (.inl (.long x)) I J B)
  | .dreturn => gpd st fun x r => gno r (Q (.inl (.double x)) I J B)
  | .areturn => gtop st fun x r => gno r (gvn x (Q x I J B) fun _ => Q x I J B)
  | .return_ => gno st (Q (.inl .null) I J B)
  | .new _ => match a with
    | 1 => gno st ((c + 1 ≤ mc ∧ w + 6 ≤ ms) ∧ X b I J B)
    | _ => Nat.ble (gsum st) 6 = true ∧ ∃ m, (3 ≤ m ∧ m ≤ 12 ∧ B m = false) ∧ (c + 7 ≤ mc ∧ w + 142 ≤ ms) ∧ go (rest.drop 2) ls (.inr (6, m, 0) :: st) (gnwI I m) (gnwJ J m) (gUB B m) (c + 7) (w + 142)
  | .invokevirtual _ => gcal C cd hs mc ms X e rest go ls st I J B c w
  | .invokestatic _ => match b with
    | 9 => gpi st fun n r => gpi r fun dp r => gpr r fun d r => gpi r fun sp r => gpr r fun s r => match Nat.ble (gsum r) 8 with
      | true => gcpy I J s d sp dp n fun I' J' => go rest ls r I' J' B c w
      | false => False
    | _ => gcal C cd hs mc ms X e rest go ls st I J B c w
  | _ => False
/-- on to a row, or stop where a cut stands, with the places that live there -/
def gcut (ct : List (Nat × List Nat)) (K : Nat → gM) (cur : List gE) (f : gM) : gM := match cur with
  | [] => fun _ _ _ _ _ _ _ => False
  | e :: _ => match ct.lookup e.1 with
    | some live => fun ls st I J B c w => K e.1 (gpick live ls) st I J B c w
    | none => f
def gstp (ct : List (Nat × List Nat)) (K : Nat → gM) : Nat → List gE → gM
  | 0, _ => fun _ _ _ _ _ _ _ => False
  | _ + 1, [] => fun _ _ _ _ _ _ _ => False
  | n + 1, e :: rest => gsem C cd hs mc ms L xs bo Q X e rest (fun cur => gcut ct K cur (gstp ct K n cur))
end GM
end
section
/-! ===== the rows of code, by program out of the printed decode rows and javap: each method of the class, of the reference, of the law ===== -/
def cd_X0_find : List gE := [(0, 1, .aload_n 1, 1, 0, .inl .null), (1, 3, .getfield 18, 6, 5, .inl .null), (4, 3, .ifCond .eq 21, 25, 0, .inl .null), (7, 1, .aload_n 1, 1, 0, .inl .null), (8, 3, .getfield 24, 6, 1, .inl .null), (11, 1, .iconst 1, 0, 0, .inl (.int 1)), (12, 3, .if_icmp .lt 13, 25, 0, .inl .null), (15, 1, .iload_n 2, 2, 0, .inl .null), (16, 3, .ifCond .lt 9, 25, 0, .inl .null), (19, 1, .iload_n 2, 2, 0, .inl .null), (20, 2, .bipush 7, 0, 0, .inl (.int 7)), (22, 3, .if_icmp .lt 5, 27, 0, .inl .null), (25, 1, .iconst 0, 0, 0, .inl (.int 0)), (26, 1, .ireturn, 0, 0, .inl .null), (27, 1, .aload_n 1, 1, 0, .inl .null), (28, 3, .getfield 27, 6, 6, .inl .null), (31, 1, .lstore_n 3, 3, 0, .inl .null), (32, 1, .lload_n 3, 3, 0, .inl .null), (33, 2, .lstore 5, 5, 0, .inl .null), (35, 1, .aload_n 1, 1, 0, .inl .null), (36, 3, .getfield 31, 6, 7, .inl .null), (39, 1, .iload_n 2, 2, 0, .inl .null), (40, 1, .laload, 0, 0, .inl .null), (41, 2, .lstore 7, 7, 0, .inl .null), (43, 1, .lconst 0, 0, 0, .inl (.long 0)), (44, 2, .lstore 9, 9, 0, .inl .null), (46, 1, .lconst 1, 0, 0, .inl (.long 1)), (47, 2, .lstore 11, 11, 0, .inl .null), (49, 1, .iconst 0, 0, 0, .inl (.int 0)), (50, 2, .istore 13, 13, 0, .inl .null), (52, 2, .iload 13, 13, 0, .inl .null), (54, 2, .bipush 100, 0, 0, .inl (.int 100)), (56, 3, .if_icmp .ge 68, 124, 0, .inl .null), (59, 2, .lload 7, 7, 0, .inl .null), (61, 1, .lconst 0, 0, 0, .inl (.long 0)), (62, 1, .lcmp, 0, 0, .inl .null), (63, 3, .ifCond .eq 61, 124, 0, .inl .null), (66, 2, .lload 7, 7, 0, .inl .null), (68, 1, .lload_n 3, 3, 0, .inl .null), (69, 3, .invokestatic 34, 3, 2, .inr (1, 0, 0)), (72, 3, .ifCond .eq 52, 124, 0, .inl .null), (75, 2, .lload 5, 5, 0, .inl .null), (77, 2, .lload 7, 7, 0, .inl .null), (79, 1, .ldiv, 0, 0, .inl .null), (80, 2, .lstore 14, 14, 0, .inl .null), (82, 2, .lload 5, 5, 0, .inl .null), (84, 2, .lload 14, 14, 0, .inl .null), (86, 2, .lload 7, 7, 0, .inl .null), (88, 1, .lmul, 0, 0, .inl .null), (89, 1, .lsub, 0, 0, .inl .null), (90, 2, .lstore 16, 16, 0, .inl .null), (92, 2, .lload 7, 7, 0, .inl .null), (94, 2, .lstore 5, 5, 0, .inl .null), (96, 2, .lload 16, 16, 0, .inl .null), (98, 2, .lstore 7, 7, 0, .inl .null), (100, 2, .lload 9, 9, 0, .inl .null), (102, 2, .lload 14, 14, 0, .inl .null), (104, 2, .lload 11, 11, 0, .inl .null), (106, 1, .lmul, 0, 0, .inl .null), (107, 1, .lsub, 0, 0, .inl .null), (108, 2, .lstore 18, 18, 0, .inl .null), (110, 2, .lload 11, 11, 0, .inl .null), (112, 2, .lstore 9, 9, 0, .inl .null), (114, 2, .lload 18, 18, 0, .inl .null), (116, 2, .lstore 11, 11, 0, .inl .null), (118, 3, .iinc 13 1, 13, 0, .inl (.int 1)), (121, 3, .goto (-69), 52, 0, .inl .null), (124, 2, .lload 11, 11, 0, .inl .null), (126, 1, .lconst 0, 0, 0, .inl (.long 0)), (127, 1, .lcmp, 0, 0, .inl .null), (128, 3, .ifCond .eq 25, 153, 0, .inl .null), (131, 2, .lload 11, 11, 0, .inl .null), (133, 1, .lload_n 3, 3, 0, .inl .null), (134, 3, .invokestatic 34, 3, 2, .inr (1, 0, 0)), (137, 3, .ifCond .ne 16, 153, 0, .inl .null), (140, 2, .lload 11, 11, 0, .inl .null), (142, 1, .aload_n 1, 1, 0, .inl .null), (143, 3, .getfield 24, 6, 1, .inl .null), (146, 1, .i2l, 0, 0, .inl .null), (147, 1, .lrem, 0, 0, .inl .null), (148, 1, .lconst 0, 0, 0, .inl (.long 0)), (149, 1, .lcmp, 0, 0, .inl .null), (150, 3, .ifCond .ne 5, 155, 0, .inl .null), (153, 1, .iconst 0, 0, 0, .inl (.int 0)), (154, 1, .ireturn, 0, 0, .inl .null), (155, 2, .lload 11, 11, 0, .inl .null), (157, 1, .lconst 0, 0, 0, .inl (.long 0)), (158, 1, .lcmp, 0, 0, .inl .null), (159, 3, .ifCond .ge 14, 173, 0, .inl .null), (162, 2, .lload 7, 7, 0, .inl .null), (164, 2, .lload 11, 11, 0, .inl .null), (166, 3, .invokestatic 38, 4, 2, .inr (2, 0, 0)), (169, 1, .lneg, 0, 0, .inl .null), (170, 3, .goto 10, 180, 0, .inl .null), (173, 2, .lload 7, 7, 0, .inl .null), (175, 2, .lload 11, 11, 0, .inl .null), (177, 3, .invokestatic 38, 4, 2, .inr (2, 0, 0)), (180, 2, .lstore 13, 13, 0, .inl .null), (182, 2, .lload 13, 13, 0, .inl .null), (184, 1, .lconst 0, 0, 0, .inl (.long 0)), (185, 1, .lcmp, 0, 0, .inl .null), (186, 3, .ifCond .ne 5, 191, 0, .inl .null), (189, 1, .iconst 0, 0, 0, .inl (.int 0)), (190, 1, .ireturn, 0, 0, .inl .null), (191, 1, .aload_n 0, 0, 0, .inl .null), (192, 3, .getfield 9, 25, 0, .inl .null), (195, 1, .iload_n 2, 2, 0, .inl .null), (196, 2, .lload 7, 7, 0, .inl .null), (198, 2, .lload 13, 13, 0, .inl .null), (200, 1, .ldiv, 0, 0, .inl .null), (201, 1, .lastore, 0, 0, .inl .null), (202, 1, .aload_n 0, 0, 0, .inl .null), (203, 3, .getfield 15, 25, 1, .inl .null), (206, 1, .iload_n 2, 2, 0, .inl .null), (207, 2, .lload 11, 11, 0, .inl .null), (209, 2, .lload 13, 13, 0, .inl .null), (211, 1, .ldiv, 0, 0, .inl .null), (212, 1, .lastore, 0, 0, .inl .null), (213, 1, .iconst 1, 0, 0, .inl (.int 1)), (214, 1, .ireturn, 0, 0, .inl .null)]
def cd_X0_solve : List gE := [(0, 1, .lconst 1, 0, 0, .inl (.long 1)), (1, 1, .lstore_n 2, 2, 0, .inl .null), (2, 1, .iconst 0, 0, 0, .inl (.int 0)), (3, 2, .istore 4, 4, 0, .inl .null), (5, 2, .iload 4, 4, 0, .inl .null), (7, 1, .aload_n 1, 1, 0, .inl .null), (8, 3, .getfield 42, 6, 0, .inl .null), (11, 3, .if_icmp .ge 49, 60, 0, .inl .null), (14, 1, .aload_n 0, 0, 0, .inl .null), (15, 1, .aload_n 1, 1, 0, .inl .null), (16, 2, .iload 4, 4, 0, .inl .null), (18, 3, .invokevirtual 45, 0, 403, .inr (1, 0, 0)), (21, 3, .ifCond .ne 5, 26, 0, .inl .null), (24, 1, .iconst 0, 0, 0, .inl (.int 0)), (25, 1, .ireturn, 0, 0, .inl .null), (26, 1, .lload_n 2, 2, 0, .inl .null), (27, 1, .aload_n 0, 0, 0, .inl .null), (28, 3, .getfield 15, 25, 1, .inl .null), (31, 2, .iload 4, 4, 0, .inl .null), (33, 1, .laload, 0, 0, .inl .null), (34, 3, .invokestatic 49, 5, 2, .inr (2, 0, 0)), (37, 1, .lstore_n 2, 2, 0, .inl .null), (38, 1, .lload_n 2, 2, 0, .inl .null), (39, 1, .lconst 1, 0, 0, .inl (.long 1)), (40, 1, .lcmp, 0, 0, .inl .null), (41, 3, .ifCond .lt 11, 52, 0, .inl .null), (44, 1, .lload_n 2, 2, 0, .inl .null), (45, 3, .ldc2_w 52, 0, 0, .inl (.long 1000000000)), (48, 1, .lcmp, 0, 0, .inl .null), (49, 3, .ifCond .le 5, 54, 0, .inl .null), (52, 1, .iconst 0, 0, 0, .inl (.int 0)), (53, 1, .ireturn, 0, 0, .inl .null), (54, 3, .iinc 4 1, 4, 0, .inl (.int 1)), (57, 3, .goto (-52), 5, 0, .inl .null), (60, 1, .iconst 0, 0, 0, .inl (.int 0)), (61, 2, .istore 4, 4, 0, .inl .null), (63, 2, .iload 4, 4, 0, .inl .null), (65, 1, .aload_n 1, 1, 0, .inl .null), (66, 3, .getfield 42, 6, 0, .inl .null), (69, 3, .if_icmp .ge 33, 102, 0, .inl .null), (72, 1, .aload_n 0, 0, 0, .inl .null), (73, 1, .aload_n 1, 1, 0, .inl .null), (74, 2, .iload 4, 4, 0, .inl .null), (76, 1, .lload_n 2, 2, 0, .inl .null), (77, 3, .invokevirtual 54, 2, 404, .inr (2, 0, 0)), (80, 1, .lload_n 2, 2, 0, .inl .null), (81, 1, .aload_n 1, 1, 0, .inl .null), (82, 3, .getfield 58, 6, 3, .inl .null), (85, 2, .iload 4, 4, 0, .inl .null), (87, 1, .iaload, 0, 0, .inl .null), (88, 1, .i2l, 0, 0, .inl .null), (89, 1, .lmul, 0, 0, .inl .null), (90, 1, .lcmp, 0, 0, .inl .null), (91, 3, .ifCond .eq 5, 96, 0, .inl .null), (94, 1, .iconst 0, 0, 0, .inl (.int 0)), (95, 1, .ireturn, 0, 0, .inl .null), (96, 3, .iinc 4 1, 4, 0, .inl (.int 1)), (99, 3, .goto (-36), 63, 0, .inl .null), (102, 1, .iconst 1, 0, 0, .inl (.int 1)), (103, 1, .ireturn, 0, 0, .inl .null)]
def cd_X0_rowTimes : List gE := [(0, 1, .lconst 0, 0, 0, .inl (.long 0)), (1, 2, .lstore 5, 5, 0, .inl .null), (3, 1, .iconst 0, 0, 0, .inl (.int 0)), (4, 2, .istore 7, 7, 0, .inl .null), (6, 2, .iload 7, 7, 0, .inl .null), (8, 1, .aload_n 1, 1, 0, .inl .null), (9, 3, .getfield 42, 6, 0, .inl .null), (12, 3, .if_icmp .ge 60, 72, 0, .inl .null), (15, 2, .iload 7, 7, 0, .inl .null), (17, 2, .bipush 7, 0, 0, .inl (.int 7)), (19, 3, .if_icmp .ge 53, 72, 0, .inl .null), (22, 1, .aload_n 0, 0, 0, .inl .null), (23, 3, .getfield 15, 25, 1, .inl .null), (26, 2, .iload 7, 7, 0, .inl .null), (28, 1, .laload, 0, 0, .inl .null), (29, 1, .lconst 0, 0, 0, .inl (.long 0)), (30, 1, .lcmp, 0, 0, .inl .null), (31, 3, .ifCond .eq 35, 66, 0, .inl .null), (34, 2, .lload 5, 5, 0, .inl .null), (36, 1, .aload_n 1, 1, 0, .inl .null), (37, 1, .iload_n 2, 2, 0, .inl .null), (38, 2, .iload 7, 7, 0, .inl .null), (40, 1, .isub, 0, 0, .inl .null), (41, 3, .invokevirtual 62, 46, 98, .inr (1, 0, 0)), (44, 1, .i2l, 0, 0, .inl .null), (45, 1, .lload_n 3, 3, 0, .inl .null), (46, 1, .aload_n 0, 0, 0, .inl .null), (47, 3, .getfield 15, 25, 1, .inl .null), (50, 2, .iload 7, 7, 0, .inl .null), (52, 1, .laload, 0, 0, .inl .null), (53, 1, .ldiv, 0, 0, .inl .null), (54, 1, .lmul, 0, 0, .inl .null), (55, 1, .aload_n 0, 0, 0, .inl .null), (56, 3, .getfield 9, 25, 0, .inl .null), (59, 2, .iload 7, 7, 0, .inl .null), (61, 1, .laload, 0, 0, .inl .null), (62, 1, .lmul, 0, 0, .inl .null), (63, 1, .ladd, 0, 0, .inl .null), (64, 2, .lstore 5, 5, 0, .inl .null), (66, 3, .iinc 7 1, 7, 0, .inl (.int 1)), (69, 3, .goto (-63), 6, 0, .inl .null), (72, 2, .lload 5, 5, 0, .inl .null), (74, 1, .lreturn, 0, 0, .inl .null)]
def cd_X0_isLarge : List gE := [(0, 1, .lload_n 0, 0, 0, .inl .null), (1, 3, .invokestatic 66, 306, 1, .inr (2, 0, 0)), (4, 2, .lstore 4, 4, 0, .inl .null), (6, 2, .lload 4, 4, 0, .inl .null), (8, 3, .ldc2_w 72, 0, 0, .inl (.long 1000000)), (11, 1, .lcmp, 0, 0, .inl .null), (12, 3, .ifCond .ge 17, 29, 0, .inl .null), (15, 3, .ldc2_w 74, 0, 0, .inl (.long 2)), (18, 2, .lload 4, 4, 0, .inl .null), (20, 1, .lmul, 0, 0, .inl .null), (21, 2, .lload 4, 4, 0, .inl .null), (23, 1, .lmul, 0, 0, .inl .null), (24, 1, .lload_n 2, 2, 0, .inl .null), (25, 1, .lcmp, 0, 0, .inl .null), (26, 3, .ifCond .le 7, 33, 0, .inl .null), (29, 1, .iconst 1, 0, 0, .inl (.int 1)), (30, 3, .goto 4, 34, 0, .inl .null), (33, 1, .iconst 0, 0, 0, .inl (.int 0)), (34, 1, .ireturn, 0, 0, .inl .null)]
def cd_X0_greatestDivisor : List gE := [(0, 1, .lload_n 0, 0, 0, .inl .null), (1, 3, .invokestatic 66, 306, 1, .inr (2, 0, 0)), (4, 2, .lstore 4, 4, 0, .inl .null), (6, 1, .lload_n 2, 2, 0, .inl .null), (7, 3, .invokestatic 66, 306, 1, .inr (2, 0, 0)), (10, 2, .lstore 6, 6, 0, .inl .null), (12, 1, .iconst 0, 0, 0, .inl (.int 0)), (13, 2, .istore 8, 8, 0, .inl .null), (15, 2, .iload 8, 8, 0, .inl .null), (17, 2, .bipush 100, 0, 0, .inl (.int 100)), (19, 3, .if_icmp .ge 31, 50, 0, .inl .null), (22, 2, .lload 6, 6, 0, .inl .null), (24, 1, .lconst 0, 0, 0, .inl (.long 0)), (25, 1, .lcmp, 0, 0, .inl .null), (26, 3, .ifCond .eq 24, 50, 0, .inl .null), (29, 2, .lload 4, 4, 0, .inl .null), (31, 2, .lload 6, 6, 0, .inl .null), (33, 1, .lrem, 0, 0, .inl .null), (34, 2, .lstore 9, 9, 0, .inl .null), (36, 2, .lload 6, 6, 0, .inl .null), (38, 2, .lstore 4, 4, 0, .inl .null), (40, 2, .lload 9, 9, 0, .inl .null), (42, 2, .lstore 6, 6, 0, .inl .null), (44, 3, .iinc 8 1, 8, 0, .inl (.int 1)), (47, 3, .goto (-32), 15, 0, .inl .null), (50, 2, .lload 4, 4, 0, .inl .null), (52, 1, .lreturn, 0, 0, .inl .null)]
def cd_X0_commonMultiple : List gE := [(0, 1, .lload_n 0, 0, 0, .inl .null), (1, 1, .lload_n 2, 2, 0, .inl .null), (2, 3, .invokestatic 38, 4, 2, .inr (2, 0, 0)), (5, 2, .lstore 4, 4, 0, .inl .null), (7, 2, .lload 4, 4, 0, .inl .null), (9, 1, .lconst 0, 0, 0, .inl (.long 0)), (10, 1, .lcmp, 0, 0, .inl .null), (11, 3, .ifCond .ne 7, 18, 0, .inl .null), (14, 1, .lconst 0, 0, 0, .inl (.long 0)), (15, 3, .goto 9, 24, 0, .inl .null), (18, 1, .lload_n 0, 0, 0, .inl .null), (19, 2, .lload 4, 4, 0, .inl .null), (21, 1, .ldiv, 0, 0, .inl .null), (22, 1, .lload_n 2, 2, 0, .inl .null), (23, 1, .lmul, 0, 0, .inl .null), (24, 1, .lreturn, 0, 0, .inl .null)]
def cd_X1_take : List gE := [(0, 1, .aload_n 0, 0, 0, .inl .null), (1, 1, .iconst 0, 0, 0, .inl (.int 0)), (2, 1, .iload_n 2, 2, 0, .inl .null), (3, 2, .bipush 7, 0, 0, .inl (.int 7)), (5, 3, .invokestatic 16, 308, 2, .inr (1, 0, 0)), (8, 3, .invokestatic 22, 307, 2, .inr (1, 0, 0)), (11, 3, .putfield 25, 17, 1, .inl .null), (14, 1, .aload_n 0, 0, 0, .inl .null), (15, 1, .aload_n 0, 0, 0, .inl .null), (16, 3, .getfield 25, 17, 1, .inl .null), (19, 1, .aload_n 0, 0, 0, .inl .null), (20, 3, .getfield 25, 17, 1, .inl .null), (23, 2, .iload 4, 4, 0, .inl .null), (25, 1, .iadd, 0, 0, .inl .null), (26, 2, .bipush 14, 0, 0, .inl (.int 14)), (28, 3, .invokestatic 16, 308, 2, .inr (1, 0, 0)), (31, 3, .invokestatic 22, 307, 2, .inr (1, 0, 0)), (34, 3, .putfield 29, 17, 2, .inl .null), (37, 1, .aload_n 0, 0, 0, .inl .null), (38, 1, .iload_n 3, 3, 0, .inl .null), (39, 3, .putfield 32, 17, 3, .inl .null), (42, 1, .iconst 0, 0, 0, .inl (.int 0)), (43, 2, .istore 5, 5, 0, .inl .null), (45, 2, .iload 5, 5, 0, .inl .null), (47, 1, .aload_n 0, 0, 0, .inl .null), (48, 3, .getfield 25, 17, 1, .inl .null), (51, 3, .if_icmp .ge 63, 114, 0, .inl .null), (54, 1, .iconst 0, 0, 0, .inl (.int 0)), (55, 2, .istore 6, 6, 0, .inl .null), (57, 2, .iload 6, 6, 0, .inl .null), (59, 1, .aload_n 0, 0, 0, .inl .null), (60, 3, .getfield 29, 17, 2, .inl .null), (63, 3, .if_icmp .ge 45, 108, 0, .inl .null), (66, 1, .aload_n 0, 0, 0, .inl .null), (67, 3, .getfield 11, 17, 0, .inl .null), (70, 2, .iload 5, 5, 0, .inl .null), (72, 1, .aaload, 0, 0, .inl .null), (73, 2, .iload 6, 6, 0, .inl .null), (75, 2, .iload 6, 6, 0, .inl .null), (77, 1, .aload_n 0, 0, 0, .inl .null), (78, 3, .getfield 25, 17, 1, .inl .null), (81, 3, .if_icmp .ge 19, 100, 0, .inl .null), (84, 1, .aload_n 1, 1, 0, .inl .null), (85, 2, .iload 5, 5, 0, .inl .null), (87, 2, .iload 6, 6, 0, .inl .null), (89, 1, .isub, 0, 0, .inl .null), (90, 3, .invokevirtual 35, 46, 98, .inr (1, 0, 0)), (93, 1, .iload_n 3, 3, 0, .inl .null), (94, 3, .invokestatic 41, 121, 2, .inr (1, 0, 0)), (97, 3, .goto 4, 101, 0, .inl .null), (100, 1, .iconst 0, 0, 0, .inl (.int 0)), (101, 1, .iastore, 0, 0, .inl .null), (102, 3, .iinc 6 1, 6, 0, .inl (.int 1)), (105, 3, .goto (-48), 57, 0, .inl .null), (108, 3, .iinc 5 1, 5, 0, .inl (.int 1)), (111, 3, .goto (-66), 45, 0, .inl .null), (114, 1, .return_, 0, 0, .inl .null)]
def cd_X1_height : List gE := [(0, 1, .aload_n 0, 0, 0, .inl .null), (1, 3, .getfield 25, 17, 1, .inl .null), (4, 1, .ireturn, 0, 0, .inl .null)]
def cd_X1_at : List gE := [(0, 1, .iload_n 1, 1, 0, .inl .null), (1, 3, .ifCond .lt 34, 35, 0, .inl .null), (4, 1, .iload_n 1, 1, 0, .inl .null), (5, 1, .aload_n 0, 0, 0, .inl .null), (6, 3, .getfield 25, 17, 1, .inl .null), (9, 3, .if_icmp .ge 26, 35, 0, .inl .null), (12, 1, .iload_n 2, 2, 0, .inl .null), (13, 3, .ifCond .lt 22, 35, 0, .inl .null), (16, 1, .iload_n 2, 2, 0, .inl .null), (17, 1, .aload_n 0, 0, 0, .inl .null), (18, 3, .getfield 29, 17, 2, .inl .null), (21, 3, .if_icmp .ge 14, 35, 0, .inl .null), (24, 1, .aload_n 0, 0, 0, .inl .null), (25, 3, .getfield 11, 17, 0, .inl .null), (28, 1, .iload_n 1, 1, 0, .inl .null), (29, 1, .aaload, 0, 0, .inl .null), (30, 1, .iload_n 2, 2, 0, .inl .null), (31, 1, .iaload, 0, 0, .inl .null), (32, 3, .goto 4, 36, 0, .inl .null), (35, 1, .iconst 0, 0, 0, .inl (.int 0)), (36, 1, .ireturn, 0, 0, .inl .null)]
def cd_X1_put : List gE := [(0, 1, .iload_n 1, 1, 0, .inl .null), (1, 3, .ifCond .lt 39, 40, 0, .inl .null), (4, 1, .iload_n 1, 1, 0, .inl .null), (5, 1, .aload_n 0, 0, 0, .inl .null), (6, 3, .getfield 25, 17, 1, .inl .null), (9, 3, .if_icmp .ge 31, 40, 0, .inl .null), (12, 1, .iload_n 2, 2, 0, .inl .null), (13, 3, .ifCond .lt 27, 40, 0, .inl .null), (16, 1, .iload_n 2, 2, 0, .inl .null), (17, 1, .aload_n 0, 0, 0, .inl .null), (18, 3, .getfield 29, 17, 2, .inl .null), (21, 3, .if_icmp .ge 19, 40, 0, .inl .null), (24, 1, .aload_n 0, 0, 0, .inl .null), (25, 3, .getfield 11, 17, 0, .inl .null), (28, 1, .iload_n 1, 1, 0, .inl .null), (29, 1, .aaload, 0, 0, .inl .null), (30, 1, .iload_n 2, 2, 0, .inl .null), (31, 1, .iload_n 3, 3, 0, .inl .null), (32, 1, .aload_n 0, 0, 0, .inl .null), (33, 3, .getfield 32, 17, 3, .inl .null), (36, 3, .invokestatic 41, 121, 2, .inr (1, 0, 0)), (39, 1, .iastore, 0, 0, .inl .null), (40, 1, .return_, 0, 0, .inl .null)]
def cd_X1_determinant : List gE := [(0, 1, .aload_n 0, 0, 0, .inl .null), (1, 3, .getfield 44, 17, 4, .inl .null), (4, 1, .ireturn, 0, 0, .inl .null)]
def cd_X1_eliminate : List gE := [(0, 1, .iconst 0, 0, 0, .inl (.int 0)), (1, 1, .iload_n 1, 1, 0, .inl .null), (2, 1, .aload_n 0, 0, 0, .inl .null), (3, 3, .getfield 25, 17, 1, .inl .null), (6, 3, .invokestatic 16, 308, 2, .inr (1, 0, 0)), (9, 3, .invokestatic 22, 307, 2, .inr (1, 0, 0)), (12, 1, .istore_n 2, 2, 0, .inl .null), (13, 1, .iconst 0, 0, 0, .inl (.int 0)), (14, 1, .istore_n 3, 3, 0, .inl .null), (15, 1, .aload_n 0, 0, 0, .inl .null), (16, 1, .iconst 1, 0, 0, .inl (.int 1)), (17, 1, .aload_n 0, 0, 0, .inl .null), (18, 3, .getfield 32, 17, 3, .inl .null), (21, 3, .invokestatic 41, 121, 2, .inr (1, 0, 0)), (24, 3, .putfield 44, 17, 4, .inl .null), (27, 1, .aload_n 0, 0, 0, .inl .null), (28, 1, .iload_n 2, 2, 0, .inl .null), (29, 3, .putfield 47, 17, 5, .inl .null), (32, 1, .iconst 0, 0, 0, .inl (.int 0)), (33, 2, .istore 4, 4, 0, .inl .null), (35, 2, .iload 4, 4, 0, .inl .null), (37, 1, .iload_n 2, 2, 0, .inl .null), (38, 3, .if_icmp .ge 81, 119, 0, .inl .null), (41, 1, .aload_n 0, 0, 0, .inl .null), (42, 1, .iload_n 3, 3, 0, .inl .null), (43, 1, .iload_n 2, 2, 0, .inl .null), (44, 2, .iload 4, 4, 0, .inl .null), (46, 3, .invokevirtual 50, 12, 276, .inr (1, 0, 0)), (49, 2, .istore 5, 5, 0, .inl .null), (51, 2, .iload 5, 5, 0, .inl .null), (53, 1, .iconst (-1), 0, 0, .inl (.int (-1))), (54, 3, .if_icmp .ne 24, 78, 0, .inl .null), (57, 1, .aload_n 0, 0, 0, .inl .null), (58, 1, .aload_n 0, 0, 0, .inl .null), (59, 3, .getfield 47, 17, 5, .inl .null), (62, 2, .iload 4, 4, 0, .inl .null), (64, 3, .invokestatic 16, 308, 2, .inr (1, 0, 0)), (67, 3, .putfield 47, 17, 5, .inl .null), (70, 1, .aload_n 0, 0, 0, .inl .null), (71, 1, .iconst 0, 0, 0, .inl (.int 0)), (72, 3, .putfield 44, 17, 4, .inl .null), (75, 3, .goto 38, 113, 0, .inl .null), (78, 1, .aload_n 0, 0, 0, .inl .null), (79, 1, .aload_n 0, 0, 0, .inl .null), (80, 3, .getfield 44, 17, 4, .inl .null), (83, 1, .aload_n 0, 0, 0, .inl .null), (84, 2, .iload 5, 5, 0, .inl .null), (86, 1, .iload_n 3, 3, 0, .inl .null), (87, 2, .iload 4, 4, 0, .inl .null), (89, 3, .invokevirtual 54, 13, 276, .inr (1, 0, 0)), (92, 1, .imul, 0, 0, .inl .null), (93, 1, .aload_n 0, 0, 0, .inl .null), (94, 3, .getfield 32, 17, 3, .inl .null), (97, 3, .invokestatic 41, 121, 2, .inr (1, 0, 0)), (100, 3, .putfield 44, 17, 4, .inl .null), (103, 1, .aload_n 0, 0, 0, .inl .null), (104, 1, .iload_n 3, 3, 0, .inl .null), (105, 2, .iload 4, 4, 0, .inl .null), (107, 3, .invokevirtual 57, 14, 275, .inr (0, 0, 0)), (110, 3, .iinc 3 1, 3, 0, .inl (.int 1)), (113, 3, .iinc 4 1, 4, 0, .inl (.int 1)), (116, 3, .goto (-81), 35, 0, .inl .null), (119, 1, .iload_n 3, 3, 0, .inl .null), (120, 1, .ireturn, 0, 0, .inl .null)]
def cd_X1_pivotRow : List gE := [(0, 1, .iload_n 1, 1, 0, .inl .null), (1, 2, .istore 4, 4, 0, .inl .null), (3, 2, .iload 4, 4, 0, .inl .null), (5, 1, .iload_n 2, 2, 0, .inl .null), (6, 3, .if_icmp .ge 24, 30, 0, .inl .null), (9, 1, .aload_n 0, 0, 0, .inl .null), (10, 3, .getfield 11, 17, 0, .inl .null), (13, 2, .iload 4, 4, 0, .inl .null), (15, 1, .aaload, 0, 0, .inl .null), (16, 1, .iload_n 3, 3, 0, .inl .null), (17, 1, .iaload, 0, 0, .inl .null), (18, 3, .ifCond .eq 6, 24, 0, .inl .null), (21, 2, .iload 4, 4, 0, .inl .null), (23, 1, .ireturn, 0, 0, .inl .null), (24, 3, .iinc 4 1, 4, 0, .inl (.int 1)), (27, 3, .goto (-24), 3, 0, .inl .null), (30, 1, .iconst (-1), 0, 0, .inl (.int (-1))), (31, 1, .ireturn, 0, 0, .inl .null)]
def cd_X1_leadRow : List gE := [(0, 1, .aload_n 0, 0, 0, .inl .null), (1, 3, .getfield 11, 17, 0, .inl .null), (4, 1, .iload_n 1, 1, 0, .inl .null), (5, 1, .aaload, 0, 0, .inl .null), (6, 1, .iload_n 3, 3, 0, .inl .null), (7, 1, .iaload, 0, 0, .inl .null), (8, 2, .istore 4, 4, 0, .inl .null), (10, 1, .aload_n 0, 0, 0, .inl .null), (11, 2, .iload 4, 4, 0, .inl .null), (13, 3, .invokevirtual 61, 15, 274, .inr (1, 0, 0)), (16, 2, .istore 5, 5, 0, .inl .null), (18, 1, .iconst 0, 0, 0, .inl (.int 0)), (19, 2, .istore 6, 6, 0, .inl .null), (21, 2, .iload 6, 6, 0, .inl .null), (23, 1, .aload_n 0, 0, 0, .inl .null), (24, 3, .getfield 29, 17, 2, .inl .null), (27, 3, .if_icmp .ge 64, 91, 0, .inl .null), (30, 1, .aload_n 0, 0, 0, .inl .null), (31, 3, .getfield 11, 17, 0, .inl .null), (34, 1, .iload_n 2, 2, 0, .inl .null), (35, 1, .aaload, 0, 0, .inl .null), (36, 2, .iload 6, 6, 0, .inl .null), (38, 1, .iaload, 0, 0, .inl .null), (39, 2, .istore 7, 7, 0, .inl .null), (41, 1, .aload_n 0, 0, 0, .inl .null), (42, 3, .getfield 11, 17, 0, .inl .null), (45, 1, .iload_n 2, 2, 0, .inl .null), (46, 1, .aaload, 0, 0, .inl .null), (47, 2, .iload 6, 6, 0, .inl .null), (49, 2, .iload 5, 5, 0, .inl .null), (51, 1, .aload_n 0, 0, 0, .inl .null), (52, 3, .getfield 11, 17, 0, .inl .null), (55, 1, .iload_n 1, 1, 0, .inl .null), (56, 1, .aaload, 0, 0, .inl .null), (57, 2, .iload 6, 6, 0, .inl .null), (59, 1, .iaload, 0, 0, .inl .null), (60, 1, .imul, 0, 0, .inl .null), (61, 1, .aload_n 0, 0, 0, .inl .null), (62, 3, .getfield 32, 17, 3, .inl .null), (65, 3, .invokestatic 41, 121, 2, .inr (1, 0, 0)), (68, 1, .iastore, 0, 0, .inl .null), (69, 1, .iload_n 1, 1, 0, .inl .null), (70, 1, .iload_n 2, 2, 0, .inl .null), (71, 3, .if_icmp .eq 14, 85, 0, .inl .null), (74, 1, .aload_n 0, 0, 0, .inl .null), (75, 3, .getfield 11, 17, 0, .inl .null), (78, 1, .iload_n 1, 1, 0, .inl .null), (79, 1, .aaload, 0, 0, .inl .null), (80, 2, .iload 6, 6, 0, .inl .null), (82, 2, .iload 7, 7, 0, .inl .null), (84, 1, .iastore, 0, 0, .inl .null), (85, 3, .iinc 6 1, 6, 0, .inl (.int 1)), (88, 3, .goto (-67), 21, 0, .inl .null), (91, 1, .iload_n 1, 1, 0, .inl .null), (92, 1, .iload_n 2, 2, 0, .inl .null), (93, 3, .if_icmp .ne 8, 101, 0, .inl .null), (96, 2, .iload 4, 4, 0, .inl .null), (98, 3, .goto 6, 104, 0, .inl .null), (101, 2, .iload 4, 4, 0, .inl .null), (103, 1, .ineg, 0, 0, .inl .null), (104, 1, .ireturn, 0, 0, .inl .null)]
def cd_X1_clearColumn : List gE := [(0, 1, .iconst 0, 0, 0, .inl (.int 0)), (1, 1, .istore_n 3, 3, 0, .inl .null), (2, 1, .iload_n 3, 3, 0, .inl .null), (3, 1, .aload_n 0, 0, 0, .inl .null), (4, 3, .getfield 25, 17, 1, .inl .null), (7, 3, .if_icmp .ge 85, 92, 0, .inl .null), (10, 1, .aload_n 0, 0, 0, .inl .null), (11, 3, .getfield 11, 17, 0, .inl .null), (14, 1, .iload_n 3, 3, 0, .inl .null), (15, 1, .aaload, 0, 0, .inl .null), (16, 1, .iload_n 2, 2, 0, .inl .null), (17, 1, .iaload, 0, 0, .inl .null), (18, 2, .istore 4, 4, 0, .inl .null), (20, 1, .iconst 0, 0, 0, .inl (.int 0)), (21, 2, .istore 5, 5, 0, .inl .null), (23, 2, .iload 5, 5, 0, .inl .null), (25, 1, .aload_n 0, 0, 0, .inl .null), (26, 3, .getfield 29, 17, 2, .inl .null), (29, 3, .if_icmp .ge 57, 86, 0, .inl .null), (32, 1, .iload_n 3, 3, 0, .inl .null), (33, 1, .iload_n 1, 1, 0, .inl .null), (34, 3, .if_icmp .eq 52, 86, 0, .inl .null), (37, 2, .iload 4, 4, 0, .inl .null), (39, 3, .ifCond .eq 47, 86, 0, .inl .null), (42, 1, .aload_n 0, 0, 0, .inl .null), (43, 3, .getfield 11, 17, 0, .inl .null), (46, 1, .iload_n 3, 3, 0, .inl .null), (47, 1, .aaload, 0, 0, .inl .null), (48, 2, .iload 5, 5, 0, .inl .null), (50, 1, .aload_n 0, 0, 0, .inl .null), (51, 3, .getfield 11, 17, 0, .inl .null), (54, 1, .iload_n 3, 3, 0, .inl .null), (55, 1, .aaload, 0, 0, .inl .null), (56, 2, .iload 5, 5, 0, .inl .null), (58, 1, .iaload, 0, 0, .inl .null), (59, 2, .iload 4, 4, 0, .inl .null), (61, 1, .aload_n 0, 0, 0, .inl .null), (62, 3, .getfield 11, 17, 0, .inl .null), (65, 1, .iload_n 1, 1, 0, .inl .null), (66, 1, .aaload, 0, 0, .inl .null), (67, 2, .iload 5, 5, 0, .inl .null), (69, 1, .iaload, 0, 0, .inl .null), (70, 1, .imul, 0, 0, .inl .null), (71, 1, .isub, 0, 0, .inl .null), (72, 1, .aload_n 0, 0, 0, .inl .null), (73, 3, .getfield 32, 17, 3, .inl .null), (76, 3, .invokestatic 41, 121, 2, .inr (1, 0, 0)), (79, 1, .iastore, 0, 0, .inl .null), (80, 3, .iinc 5 1, 5, 0, .inl (.int 1)), (83, 3, .goto (-60), 23, 0, .inl .null), (86, 3, .iinc 3 1, 3, 0, .inl (.int 1)), (89, 3, .goto (-87), 2, 0, .inl .null), (92, 1, .return_, 0, 0, .inl .null)]
def cd_X1_inverseOf : List gE := [(0, 1, .iconst 1, 0, 0, .inl (.int 1)), (1, 1, .istore_n 2, 2, 0, .inl .null), (2, 1, .iload_n 2, 2, 0, .inl .null), (3, 1, .aload_n 0, 0, 0, .inl .null), (4, 3, .getfield 32, 17, 3, .inl .null), (7, 3, .if_icmp .ge 23, 30, 0, .inl .null), (10, 1, .iload_n 2, 2, 0, .inl .null), (11, 1, .iload_n 1, 1, 0, .inl .null), (12, 1, .imul, 0, 0, .inl .null), (13, 1, .aload_n 0, 0, 0, .inl .null), (14, 3, .getfield 32, 17, 3, .inl .null), (17, 1, .irem, 0, 0, .inl .null), (18, 1, .iconst 1, 0, 0, .inl (.int 1)), (19, 3, .if_icmp .ne 5, 24, 0, .inl .null), (22, 1, .iload_n 2, 2, 0, .inl .null), (23, 1, .ireturn, 0, 0, .inl .null), (24, 3, .iinc 2 1, 2, 0, .inl (.int 1)), (27, 3, .goto (-25), 2, 0, .inl .null), (30, 1, .iconst 0, 0, 0, .inl (.int 0)), (31, 1, .ireturn, 0, 0, .inl .null)]
def cd_X1_ofKernel : List gE := [(0, 1, .iload_n 1, 1, 0, .inl .null), (1, 1, .aload_n 0, 0, 0, .inl .null), (2, 3, .getfield 47, 17, 5, .inl .null), (5, 3, .if_icmp .ne 5, 10, 0, .inl .null), (8, 1, .iconst 1, 0, 0, .inl (.int 1)), (9, 1, .ireturn, 0, 0, .inl .null), (10, 1, .iload_n 1, 1, 0, .inl .null), (11, 1, .aload_n 0, 0, 0, .inl .null), (12, 3, .getfield 47, 17, 5, .inl .null), (15, 3, .if_icmp .ge 23, 38, 0, .inl .null), (18, 1, .aload_n 0, 0, 0, .inl .null), (19, 1, .iload_n 1, 1, 0, .inl .null), (20, 1, .aload_n 0, 0, 0, .inl .null), (21, 3, .getfield 47, 17, 5, .inl .null), (24, 3, .invokevirtual 64, 8, 275, .inr (1, 0, 0)), (27, 1, .ineg, 0, 0, .inl .null), (28, 1, .aload_n 0, 0, 0, .inl .null), (29, 3, .getfield 32, 17, 3, .inl .null), (32, 3, .invokestatic 41, 121, 2, .inr (1, 0, 0)), (35, 3, .goto 4, 39, 0, .inl .null), (38, 1, .iconst 0, 0, 0, .inl (.int 0)), (39, 1, .ireturn, 0, 0, .inl .null)]
def cd_X1_displace : List gE := [(0, 1, .aload_n 0, 0, 0, .inl .null), (1, 3, .getfield 25, 17, 1, .inl .null), (4, 1, .iconst 1, 0, 0, .inl (.int 1)), (5, 1, .isub, 0, 0, .inl .null), (6, 1, .istore_n 2, 2, 0, .inl .null), (7, 1, .iload_n 2, 2, 0, .inl .null), (8, 1, .iload_n 1, 1, 0, .inl .null), (9, 3, .if_icmp .le 50, 59, 0, .inl .null), (12, 1, .aload_n 0, 0, 0, .inl .null), (13, 3, .getfield 25, 17, 1, .inl .null), (16, 1, .iconst 1, 0, 0, .inl (.int 1)), (17, 1, .isub, 0, 0, .inl .null), (18, 1, .istore_n 3, 3, 0, .inl .null), (19, 1, .iload_n 3, 3, 0, .inl .null), (20, 1, .iload_n 1, 1, 0, .inl .null), (21, 3, .if_icmp .le 32, 53, 0, .inl .null), (24, 1, .aload_n 0, 0, 0, .inl .null), (25, 1, .iload_n 2, 2, 0, .inl .null), (26, 1, .iload_n 3, 3, 0, .inl .null), (27, 1, .aload_n 0, 0, 0, .inl .null), (28, 1, .iload_n 2, 2, 0, .inl .null), (29, 1, .iload_n 3, 3, 0, .inl .null), (30, 3, .invokevirtual 64, 8, 275, .inr (1, 0, 0)), (33, 1, .aload_n 0, 0, 0, .inl .null), (34, 1, .iload_n 2, 2, 0, .inl .null), (35, 1, .iconst 1, 0, 0, .inl (.int 1)), (36, 1, .isub, 0, 0, .inl .null), (37, 1, .iload_n 3, 3, 0, .inl .null), (38, 1, .iconst 1, 0, 0, .inl (.int 1)), (39, 1, .isub, 0, 0, .inl .null), (40, 3, .invokevirtual 64, 8, 275, .inr (1, 0, 0)), (43, 1, .isub, 0, 0, .inl .null), (44, 3, .invokevirtual 67, 9, 276, .inr (0, 0, 0)), (47, 3, .iinc 3 (-1), 3, 0, .inl (.int (-1))), (50, 3, .goto (-31), 19, 0, .inl .null), (53, 3, .iinc 2 (-1), 2, 0, .inl (.int (-1))), (56, 3, .goto (-49), 7, 0, .inl .null), (59, 1, .return_, 0, 0, .inl .null)]
def cd_X2_remember : List gE := [(0, 1, .aload_n 0, 0, 0, .inl .null), (1, 3, .getfield 17, 13, 1, .inl .null), (4, 3, .ifCond .lt 12, 16, 0, .inl .null), (7, 1, .aload_n 0, 0, 0, .inl .null), (8, 3, .getfield 17, 13, 1, .inl .null), (11, 2, .bipush 8, 0, 0, .inl (.int 8)), (13, 3, .if_icmp .lt 8, 21, 0, .inl .null), (16, 1, .aload_n 0, 0, 0, .inl .null), (17, 1, .iconst 0, 0, 0, .inl (.int 0)), (18, 3, .putfield 17, 13, 1, .inl .null), (21, 1, .aload_n 0, 0, 0, .inl .null), (22, 3, .getfield 11, 13, 0, .inl .null), (25, 1, .aload_n 0, 0, 0, .inl .null), (26, 3, .getfield 17, 13, 1, .inl .null), (29, 1, .aaload, 0, 0, .inl .null), (30, 3, .ifnonnull 19, 49, 0, .inl .null), (33, 1, .aload_n 0, 0, 0, .inl .null), (34, 3, .getfield 11, 13, 0, .inl .null), (37, 1, .aload_n 0, 0, 0, .inl .null), (38, 3, .getfield 17, 13, 1, .inl .null), (41, 3, .new 9, 2, 0, .inl .null), (44, 1, .dup, 0, 0, .inl .null), (45, 3, .invokespecial 21, 0, 0, .inl .null), (48, 1, .aastore, 0, 0, .inl .null), (49, 1, .aload_n 0, 0, 0, .inl .null), (50, 3, .getfield 11, 13, 0, .inl .null), (53, 1, .aload_n 0, 0, 0, .inl .null), (54, 3, .getfield 17, 13, 1, .inl .null), (57, 1, .aaload, 0, 0, .inl .null), (58, 1, .aload_n 1, 1, 0, .inl .null), (59, 3, .invokevirtual 22, 45, 98, .inr (0, 0, 0)), (62, 1, .aload_n 0, 0, 0, .inl .null), (63, 1, .aload_n 0, 0, 0, .inl .null), (64, 3, .getfield 17, 13, 1, .inl .null), (67, 1, .iconst 1, 0, 0, .inl (.int 1)), (68, 1, .iadd, 0, 0, .inl .null), (69, 2, .bipush 8, 0, 0, .inl (.int 8)), (71, 1, .irem, 0, 0, .inl .null), (72, 3, .putfield 17, 13, 1, .inl .null), (75, 1, .aload_n 0, 0, 0, .inl .null), (76, 1, .aload_n 0, 0, 0, .inl .null), (77, 3, .getfield 26, 13, 2, .inl .null), (80, 1, .iconst 1, 0, 0, .inl (.int 1)), (81, 1, .iadd, 0, 0, .inl .null), (82, 2, .bipush 8, 0, 0, .inl (.int 8)), (84, 3, .invokestatic 29, 308, 2, .inr (1, 0, 0)), (87, 3, .putfield 26, 13, 2, .inl .null), (90, 1, .return_, 0, 0, .inl .null)]
def cd_X2_takeLatest : List gE := [(0, 1, .aload_n 0, 0, 0, .inl .null), (1, 3, .getfield 26, 13, 2, .inl .null), (4, 3, .ifCond .ne 5, 9, 0, .inl .null), (7, 1, .aconst_null, 0, 0, .inl .null), (8, 1, .areturn, 0, 0, .inl .null), (9, 1, .aload_n 0, 0, 0, .inl .null), (10, 1, .aload_n 0, 0, 0, .inl .null), (11, 3, .getfield 17, 13, 1, .inl .null), (14, 2, .bipush 8, 0, 0, .inl (.int 8)), (16, 1, .iadd, 0, 0, .inl .null), (17, 1, .iconst 1, 0, 0, .inl (.int 1)), (18, 1, .isub, 0, 0, .inl .null), (19, 2, .bipush 8, 0, 0, .inl (.int 8)), (21, 1, .irem, 0, 0, .inl .null), (22, 3, .putfield 17, 13, 1, .inl .null), (25, 1, .aload_n 0, 0, 0, .inl .null), (26, 1, .dup, 0, 0, .inl .null), (27, 3, .getfield 26, 13, 2, .inl .null), (30, 1, .iconst 1, 0, 0, .inl (.int 1)), (31, 1, .isub, 0, 0, .inl .null), (32, 3, .putfield 26, 13, 2, .inl .null), (35, 1, .aload_n 0, 0, 0, .inl .null), (36, 3, .getfield 11, 13, 0, .inl .null), (39, 1, .aload_n 0, 0, 0, .inl .null), (40, 3, .getfield 17, 13, 1, .inl .null), (43, 1, .aaload, 0, 0, .inl .null), (44, 1, .areturn, 0, 0, .inl .null)]
def cd_X2_forget : List gE := [(0, 1, .aload_n 0, 0, 0, .inl .null), (1, 1, .iconst 0, 0, 0, .inl (.int 0)), (2, 3, .putfield 26, 13, 2, .inl .null), (5, 1, .return_, 0, 0, .inl .null)]
def cd_X3_putWord : List gE := [(0, 2, .bipush 24, 0, 0, .inl (.int 24)), (2, 1, .istore_n 2, 2, 0, .inl .null), (3, 1, .iload_n 2, 2, 0, .inl .null), (4, 3, .ifCond .lt 51, 55, 0, .inl .null), (7, 1, .aload_n 0, 0, 0, .inl .null), (8, 3, .getfield 22, 4, 1, .inl .null), (11, 3, .ifCond .lt 38, 49, 0, .inl .null), (14, 1, .aload_n 0, 0, 0, .inl .null), (15, 3, .getfield 22, 4, 1, .inl .null), (18, 1, .aload_n 0, 0, 0, .inl .null), (19, 3, .getfield 9, 4, 0, .inl .null), (22, 1, .arraylength, 0, 0, .inl .null), (23, 3, .if_icmp .ge 26, 49, 0, .inl .null), (26, 1, .aload_n 0, 0, 0, .inl .null), (27, 3, .getfield 9, 4, 0, .inl .null), (30, 1, .aload_n 0, 0, 0, .inl .null), (31, 3, .getfield 22, 4, 1, .inl .null), (34, 1, .iload_n 1, 1, 0, .inl .null), (35, 1, .iload_n 2, 2, 0, .inl .null), (36, 1, .ishr, 0, 0, .inl .null), (37, 1, .i2b, 0, 0, .inl .null), (38, 1, .bastore, 0, 0, .inl .null), (39, 1, .aload_n 0, 0, 0, .inl .null), (40, 1, .dup, 0, 0, .inl .null), (41, 3, .getfield 22, 4, 1, .inl .null), (44, 1, .iconst 1, 0, 0, .inl (.int 1)), (45, 1, .iadd, 0, 0, .inl .null), (46, 3, .putfield 22, 4, 1, .inl .null), (49, 3, .iinc 2 (-8), 2, 0, .inl (.int (-8))), (52, 3, .goto (-49), 3, 0, .inl .null), (55, 1, .return_, 0, 0, .inl .null)]
def cd_X3_parse : List gE := [(0, 1, .aload_n 0, 0, 0, .inl .null), (1, 1, .iconst 0, 0, 0, .inl (.int 0)), (2, 1, .iload_n 1, 1, 0, .inl .null), (3, 1, .aload_n 0, 0, 0, .inl .null), (4, 3, .getfield 22, 4, 1, .inl .null), (7, 3, .invokestatic 26, 308, 2, .inr (1, 0, 0)), (10, 3, .invokestatic 32, 307, 2, .inr (1, 0, 0)), (13, 3, .putfield 35, 4, 5, .inl .null), (16, 1, .aload_n 0, 0, 0, .inl .null), (17, 1, .iconst 0, 0, 0, .inl (.int 0)), (18, 3, .putfield 22, 4, 1, .inl .null), (21, 1, .aload_n 0, 0, 0, .inl .null), (22, 1, .iconst 0, 0, 0, .inl (.int 0)), (23, 3, .putfield 38, 4, 3, .inl .null), (26, 1, .aload_n 0, 0, 0, .inl .null), (27, 1, .iconst 0, 0, 0, .inl (.int 0)), (28, 3, .putfield 41, 4, 7, .inl .null), (31, 1, .aload_n 0, 0, 0, .inl .null), (32, 1, .iconst 0, 0, 0, .inl (.int 0)), (33, 3, .putfield 44, 4, 11, .inl .null), (36, 1, .aload_n 0, 0, 0, .inl .null), (37, 1, .iconst 0, 0, 0, .inl (.int 0)), (38, 3, .putfield 47, 4, 12, .inl .null), (41, 1, .aload_n 0, 0, 0, .inl .null), (42, 1, .iconst 0, 0, 0, .inl (.int 0)), (43, 3, .putfield 50, 4, 13, .inl .null), (46, 1, .aload_n 0, 0, 0, .inl .null), (47, 3, .getfield 18, 4, 2, .inl .null), (50, 3, .invokevirtual 53, 44, 97, .inr (0, 0, 0)), (53, 1, .aload_n 0, 0, 0, .inl .null), (54, 3, .invokevirtual 56, 31, 65, .inr (0, 0, 0)), (57, 1, .aload_n 0, 0, 0, .inl .null), (58, 3, .invokevirtual 59, 23, 65, .inr (1, 0, 0)), (61, 3, .ifCond .ne 5, 66, 0, .inl .null), (64, 1, .iconst 0, 0, 0, .inl (.int 0)), (65, 1, .ireturn, 0, 0, .inl .null), (66, 1, .iconst 0, 0, 0, .inl (.int 0)), (67, 1, .istore_n 2, 2, 0, .inl .null), (68, 1, .iload_n 2, 2, 0, .inl .null), (69, 3, .sipush 700, 0, 0, .inl (.int 700)), (72, 3, .if_icmp .ge 30, 102, 0, .inl .null), (75, 1, .aload_n 0, 0, 0, .inl .null), (76, 3, .getfield 63, 4, 6, .inl .null), (79, 1, .iconst 4, 0, 0, .inl (.int 4)), (80, 3, .if_icmp .ne 22, 102, 0, .inl .null), (83, 1, .aload_n 0, 0, 0, .inl .null), (84, 3, .invokevirtual 56, 31, 65, .inr (0, 0, 0)), (87, 1, .aload_n 0, 0, 0, .inl .null), (88, 3, .invokevirtual 66, 24, 65, .inr (1, 0, 0)), (91, 3, .ifCond .ne 5, 96, 0, .inl .null), (94, 1, .iconst 0, 0, 0, .inl (.int 0)), (95, 1, .ireturn, 0, 0, .inl .null), (96, 3, .iinc 2 1, 2, 0, .inl (.int 1)), (99, 3, .goto (-31), 68, 0, .inl .null), (102, 1, .aload_n 0, 0, 0, .inl .null), (103, 3, .getfield 18, 4, 2, .inl .null), (106, 3, .invokevirtual 69, 48, 97, .inr (0, 0, 0)), (109, 1, .aload_n 0, 0, 0, .inl .null), (110, 3, .getfield 63, 4, 6, .inl .null), (113, 3, .ifCond .eq 11, 124, 0, .inl .null), (116, 1, .aload_n 0, 0, 0, .inl .null), (117, 1, .iconst 1, 0, 0, .inl (.int 1)), (118, 3, .invokevirtual 72, 30, 66, .inr (1, 0, 0)), (121, 3, .ifCond .eq 7, 128, 0, .inl .null), (124, 1, .iconst 1, 0, 0, .inl (.int 1)), (125, 3, .goto 4, 129, 0, .inl .null), (128, 1, .iconst 0, 0, 0, .inl (.int 0)), (129, 1, .ireturn, 0, 0, .inl .null)]
def cd_X3_readHead : List gE := [(0, 1, .aload_n 0, 0, 0, .inl .null), (1, 2, .ldc 76, 0, 0, .inr (2, 0, 0)), (3, 3, .invokevirtual 78, 29, 66, .inr (1, 0, 0)), (6, 3, .ifCond .ne 9, 15, 0, .inl .null), (9, 1, .aload_n 0, 0, 0, .inl .null), (10, 1, .iconst 1, 0, 0, .inl (.int 1)), (11, 3, .invokevirtual 72, 30, 66, .inr (1, 0, 0)), (14, 1, .ireturn, 0, 0, .inl .null), (15, 1, .aload_n 0, 0, 0, .inl .null), (16, 3, .invokevirtual 56, 31, 65, .inr (0, 0, 0)), (19, 1, .aload_n 0, 0, 0, .inl .null), (20, 1, .iconst 1, 0, 0, .inl (.int 1)), (21, 2, .bipush 7, 0, 0, .inl (.int 7)), (23, 1, .iconst 0, 0, 0, .inl (.int 0)), (24, 3, .invokevirtual 82, 28, 68, .inr (1, 0, 0)), (27, 3, .ifCond .ne 5, 32, 0, .inl .null), (30, 1, .iconst 0, 0, 0, .inl (.int 0)), (31, 1, .ireturn, 0, 0, .inl .null), (32, 1, .aload_n 0, 0, 0, .inl .null), (33, 3, .getfield 18, 4, 2, .inl .null), (36, 1, .aload_n 0, 0, 0, .inl .null), (37, 3, .getfield 86, 4, 8, .inl .null), (40, 3, .putfield 89, 6, 0, .inl .null), (43, 1, .aload_n 0, 0, 0, .inl .null), (44, 3, .invokevirtual 56, 31, 65, .inr (0, 0, 0)), (47, 1, .aload_n 0, 0, 0, .inl .null), (48, 2, .ldc 92, 0, 0, .inr (2, 1, 0)), (50, 3, .invokevirtual 78, 29, 66, .inr (1, 0, 0)), (53, 3, .ifCond .ne 9, 62, 0, .inl .null), (56, 1, .aload_n 0, 0, 0, .inl .null), (57, 1, .iconst 1, 0, 0, .inl (.int 1)), (58, 3, .invokevirtual 72, 30, 66, .inr (1, 0, 0)), (61, 1, .ireturn, 0, 0, .inl .null), (62, 1, .aload_n 0, 0, 0, .inl .null), (63, 3, .invokevirtual 56, 31, 65, .inr (0, 0, 0)), (66, 1, .aload_n 0, 0, 0, .inl .null), (67, 3, .getfield 63, 4, 6, .inl .null), (70, 1, .iconst 2, 0, 0, .inl (.int 2)), (71, 3, .if_icmp .eq 9, 80, 0, .inl .null), (74, 1, .aload_n 0, 0, 0, .inl .null), (75, 1, .iconst 1, 0, 0, .inl (.int 1)), (76, 3, .invokevirtual 72, 30, 66, .inr (1, 0, 0)), (79, 1, .ireturn, 0, 0, .inl .null), (80, 1, .aload_n 0, 0, 0, .inl .null), (81, 3, .getfield 86, 4, 8, .inl .null), (84, 3, .invokestatic 94, 120, 1, .inr (1, 0, 0)), (87, 3, .ifCond .ne 9, 96, 0, .inl .null), (90, 1, .aload_n 0, 0, 0, .inl .null), (91, 1, .iconst 2, 0, 0, .inl (.int 2)), (92, 3, .invokevirtual 72, 30, 66, .inr (1, 0, 0)), (95, 1, .ireturn, 0, 0, .inl .null), (96, 1, .aload_n 0, 0, 0, .inl .null), (97, 3, .getfield 18, 4, 2, .inl .null), (100, 1, .aload_n 0, 0, 0, .inl .null), (101, 3, .getfield 86, 4, 8, .inl .null), (104, 3, .putfield 97, 6, 1, .inl .null), (107, 1, .aload_n 0, 0, 0, .inl .null), (108, 3, .invokevirtual 56, 31, 65, .inr (0, 0, 0)), (111, 1, .iconst 1, 0, 0, .inl (.int 1)), (112, 1, .ireturn, 0, 0, .inl .null)]
def cd_X3_readLine : List gE := [(0, 1, .aload_n 0, 0, 0, .inl .null), (1, 2, .ldc 100, 0, 0, .inr (2, 2, 0)), (3, 3, .invokevirtual 78, 29, 66, .inr (1, 0, 0)), (6, 3, .ifCond .eq 24, 30, 0, .inl .null), (9, 1, .aload_n 0, 0, 0, .inl .null), (10, 1, .iconst 0, 0, 0, .inl (.int 0)), (11, 3, .invokevirtual 102, 25, 66, .inr (1, 0, 0)), (14, 3, .ifCond .eq 14, 28, 0, .inl .null), (17, 1, .aload_n 0, 0, 0, .inl .null), (18, 3, .invokevirtual 106, 26, 65, .inr (1, 0, 0)), (21, 3, .ifCond .eq 7, 28, 0, .inl .null), (24, 1, .iconst 1, 0, 0, .inl (.int 1)), (25, 3, .goto 4, 29, 0, .inl .null), (28, 1, .iconst 0, 0, 0, .inl (.int 0)), (29, 1, .ireturn, 0, 0, .inl .null), (30, 1, .aload_n 0, 0, 0, .inl .null), (31, 2, .ldc 109, 0, 0, .inr (2, 3, 0)), (33, 3, .invokevirtual 78, 29, 66, .inr (1, 0, 0)), (36, 3, .ifCond .eq 49, 85, 0, .inl .null), (39, 1, .aload_n 0, 0, 0, .inl .null), (40, 1, .dup, 0, 0, .inl .null), (41, 3, .getfield 44, 4, 11, .inl .null), (44, 1, .iconst 1, 0, 0, .inl (.int 1)), (45, 1, .iadd, 0, 0, .inl .null), (46, 3, .putfield 44, 4, 11, .inl .null), (49, 1, .aload_n 0, 0, 0, .inl .null), (50, 3, .getfield 44, 4, 11, .inl .null), (53, 2, .bipush 8, 0, 0, .inl (.int 8)), (55, 3, .if_icmp .le 9, 64, 0, .inl .null), (58, 1, .aload_n 0, 0, 0, .inl .null), (59, 1, .iconst 4, 0, 0, .inl (.int 4)), (60, 3, .invokevirtual 72, 30, 66, .inr (1, 0, 0)), (63, 1, .ireturn, 0, 0, .inl .null), (64, 1, .aload_n 0, 0, 0, .inl .null), (65, 1, .iconst 1, 0, 0, .inl (.int 1)), (66, 3, .invokevirtual 102, 25, 66, .inr (1, 0, 0)), (69, 3, .ifCond .eq 14, 83, 0, .inl .null), (72, 1, .aload_n 0, 0, 0, .inl .null), (73, 3, .invokevirtual 106, 26, 65, .inr (1, 0, 0)), (76, 3, .ifCond .eq 7, 83, 0, .inl .null), (79, 1, .iconst 1, 0, 0, .inl (.int 1)), (80, 3, .goto 4, 84, 0, .inl .null), (83, 1, .iconst 0, 0, 0, .inl (.int 0)), (84, 1, .ireturn, 0, 0, .inl .null), (85, 1, .aload_n 0, 0, 0, .inl .null), (86, 2, .ldc 111, 0, 0, .inr (2, 4, 0)), (88, 3, .invokevirtual 78, 29, 66, .inr (1, 0, 0)), (91, 3, .ifCond .eq 16, 107, 0, .inl .null), (94, 1, .aload_n 0, 0, 0, .inl .null), (95, 1, .aload_n 0, 0, 0, .inl .null), (96, 3, .getfield 18, 4, 2, .inl .null), (99, 3, .getfield 113, 6, 3, .inl .null), (102, 1, .iconst 1, 0, 0, .inl (.int 1)), (103, 3, .invokevirtual 117, 27, 67, .inr (1, 0, 0)), (106, 1, .ireturn, 0, 0, .inl .null), (107, 1, .aload_n 0, 0, 0, .inl .null), (108, 2, .ldc 121, 0, 0, .inr (2, 5, 0)), (110, 3, .invokevirtual 78, 29, 66, .inr (1, 0, 0)), (113, 3, .ifCond .eq 18, 131, 0, .inl .null), (116, 1, .aload_n 0, 0, 0, .inl .null), (117, 1, .aload_n 0, 0, 0, .inl .null), (118, 3, .getfield 18, 4, 2, .inl .null), (121, 3, .getfield 123, 6, 4, .inl .null), (124, 3, .sipush 128, 0, 0, .inl (.int 128)), (127, 3, .invokevirtual 117, 27, 67, .inr (1, 0, 0)), (130, 1, .ireturn, 0, 0, .inl .null), (131, 1, .aload_n 0, 0, 0, .inl .null), (132, 1, .iconst 1, 0, 0, .inl (.int 1)), (133, 3, .invokevirtual 72, 30, 66, .inr (1, 0, 0)), (136, 1, .ireturn, 0, 0, .inl .null)]
def cd_X3_readRange : List gE := [(0, 1, .aload_n 0, 0, 0, .inl .null), (1, 3, .getfield 18, 4, 2, .inl .null), (4, 3, .getfield 89, 6, 0, .inl .null), (7, 1, .iconst 1, 0, 0, .inl (.int 1)), (8, 1, .isub, 0, 0, .inl .null), (9, 1, .istore_n 2, 2, 0, .inl .null), (10, 1, .aload_n 0, 0, 0, .inl .null), (11, 3, .invokevirtual 56, 31, 65, .inr (0, 0, 0)), (14, 1, .aload_n 0, 0, 0, .inl .null), (15, 1, .iload_n 2, 2, 0, .inl .null), (16, 1, .ineg, 0, 0, .inl .null), (17, 1, .iload_n 2, 2, 0, .inl .null), (18, 1, .iconst 1, 0, 0, .inl (.int 1)), (19, 3, .invokevirtual 82, 28, 68, .inr (1, 0, 0)), (22, 3, .ifCond .ne 5, 27, 0, .inl .null), (25, 1, .iconst 0, 0, 0, .inl (.int 0)), (26, 1, .ireturn, 0, 0, .inl .null), (27, 1, .aload_n 0, 0, 0, .inl .null), (28, 1, .aload_n 0, 0, 0, .inl .null), (29, 3, .getfield 86, 4, 8, .inl .null), (32, 3, .putfield 126, 4, 9, .inl .null), (35, 1, .iload_n 1, 1, 0, .inl .null), (36, 3, .ifCond .eq 22, 58, 0, .inl .null), (39, 1, .aload_n 0, 0, 0, .inl .null), (40, 3, .invokevirtual 56, 31, 65, .inr (0, 0, 0)), (43, 1, .aload_n 0, 0, 0, .inl .null), (44, 1, .aload_n 0, 0, 0, .inl .null), (45, 3, .getfield 126, 4, 9, .inl .null), (48, 1, .iload_n 2, 2, 0, .inl .null), (49, 1, .iconst 1, 0, 0, .inl (.int 1)), (50, 3, .invokevirtual 82, 28, 68, .inr (1, 0, 0)), (53, 3, .ifCond .ne 5, 58, 0, .inl .null), (56, 1, .iconst 0, 0, 0, .inl (.int 0)), (57, 1, .ireturn, 0, 0, .inl .null), (58, 1, .aload_n 0, 0, 0, .inl .null), (59, 1, .aload_n 0, 0, 0, .inl .null), (60, 3, .getfield 86, 4, 8, .inl .null), (63, 3, .putfield 129, 4, 10, .inl .null), (66, 1, .iconst 0, 0, 0, .inl (.int 0)), (67, 1, .istore_n 3, 3, 0, .inl .null), (68, 1, .aload_n 0, 0, 0, .inl .null), (69, 3, .getfield 126, 4, 9, .inl .null), (72, 2, .istore 4, 4, 0, .inl .null), (74, 2, .iload 4, 4, 0, .inl .null), (76, 1, .aload_n 0, 0, 0, .inl .null), (77, 3, .getfield 129, 4, 10, .inl .null), (80, 3, .if_icmp .gt 21, 101, 0, .inl .null), (83, 1, .iload_n 3, 3, 0, .inl .null), (84, 1, .iconst 1, 0, 0, .inl (.int 1)), (85, 2, .iload 4, 4, 0, .inl .null), (87, 2, .bipush 7, 0, 0, .inl (.int 7)), (89, 1, .iadd, 0, 0, .inl .null), (90, 1, .iconst 1, 0, 0, .inl (.int 1)), (91, 1, .isub, 0, 0, .inl .null), (92, 1, .ishl, 0, 0, .inl .null), (93, 1, .ior, 0, 0, .inl .null), (94, 1, .istore_n 3, 3, 0, .inl .null), (95, 3, .iinc 4 1, 4, 0, .inl (.int 1)), (98, 3, .goto (-24), 74, 0, .inl .null), (101, 1, .aload_n 0, 0, 0, .inl .null), (102, 3, .getfield 47, 4, 12, .inl .null), (105, 1, .iload_n 3, 3, 0, .inl .null), (106, 1, .iand, 0, 0, .inl .null), (107, 3, .ifCond .eq 9, 116, 0, .inl .null), (110, 1, .aload_n 0, 0, 0, .inl .null), (111, 1, .iconst 3, 0, 0, .inl (.int 3)), (112, 3, .invokevirtual 72, 30, 66, .inr (1, 0, 0)), (115, 1, .ireturn, 0, 0, .inl .null), (116, 1, .aload_n 0, 0, 0, .inl .null), (117, 1, .dup, 0, 0, .inl .null), (118, 3, .getfield 47, 4, 12, .inl .null), (121, 1, .iload_n 3, 3, 0, .inl .null), (122, 1, .ior, 0, 0, .inl .null), (123, 3, .putfield 47, 4, 12, .inl .null), (126, 1, .aload_n 0, 0, 0, .inl .null), (127, 3, .invokevirtual 56, 31, 65, .inr (0, 0, 0)), (130, 1, .iconst 1, 0, 0, .inl (.int 1)), (131, 1, .ireturn, 0, 0, .inl .null)]
def cd_X3_readRangeValue : List gE := [(0, 1, .aload_n 0, 0, 0, .inl .null), (1, 2, .bipush (-50), 0, 0, .inl (.int (-50))), (3, 2, .bipush 50, 0, 0, .inl (.int 50)), (5, 1, .iconst 1, 0, 0, .inl (.int 1)), (6, 3, .invokevirtual 82, 28, 68, .inr (1, 0, 0)), (9, 3, .ifCond .ne 5, 14, 0, .inl .null), (12, 1, .iconst 0, 0, 0, .inl (.int 0)), (13, 1, .ireturn, 0, 0, .inl .null), (14, 1, .aload_n 0, 0, 0, .inl .null), (15, 3, .getfield 126, 4, 9, .inl .null), (18, 1, .istore_n 1, 1, 0, .inl .null), (19, 1, .iload_n 1, 1, 0, .inl .null), (20, 1, .aload_n 0, 0, 0, .inl .null), (21, 3, .getfield 129, 4, 10, .inl .null), (24, 3, .if_icmp .gt 21, 45, 0, .inl .null), (27, 1, .aload_n 0, 0, 0, .inl .null), (28, 3, .getfield 18, 4, 2, .inl .null), (31, 1, .iload_n 1, 1, 0, .inl .null), (32, 1, .aload_n 0, 0, 0, .inl .null), (33, 3, .getfield 86, 4, 8, .inl .null), (36, 3, .invokevirtual 132, 47, 99, .inr (0, 0, 0)), (39, 3, .iinc 1 1, 1, 0, .inl (.int 1)), (42, 3, .goto (-23), 19, 0, .inl .null), (45, 1, .aload_n 0, 0, 0, .inl .null), (46, 3, .invokevirtual 56, 31, 65, .inr (0, 0, 0)), (49, 1, .iconst 1, 0, 0, .inl (.int 1)), (50, 1, .ireturn, 0, 0, .inl .null)]
def cd_X3_readPart : List gE := [(0, 1, .aload_n 0, 0, 0, .inl .null), (1, 3, .invokevirtual 56, 31, 65, .inr (0, 0, 0)), (4, 1, .aload_n 0, 0, 0, .inl .null), (5, 1, .iconst 0, 0, 0, .inl (.int 0)), (6, 1, .aload_n 0, 0, 0, .inl .null), (7, 3, .getfield 18, 4, 2, .inl .null), (10, 3, .getfield 89, 6, 0, .inl .null), (13, 1, .iconst 1, 0, 0, .inl (.int 1)), (14, 1, .isub, 0, 0, .inl .null), (15, 1, .iconst 0, 0, 0, .inl (.int 0)), (16, 3, .invokevirtual 82, 28, 68, .inr (1, 0, 0)), (19, 3, .ifCond .ne 5, 24, 0, .inl .null), (22, 1, .iconst 0, 0, 0, .inl (.int 0)), (23, 1, .ireturn, 0, 0, .inl .null), (24, 1, .aload_n 0, 0, 0, .inl .null), (25, 3, .getfield 86, 4, 8, .inl .null), (28, 1, .istore_n 3, 3, 0, .inl .null), (29, 1, .iload_n 2, 2, 0, .inl .null), (30, 1, .iload_n 3, 3, 0, .inl .null), (31, 1, .ishl, 0, 0, .inl .null), (32, 2, .istore 4, 4, 0, .inl .null), (34, 1, .aload_n 0, 0, 0, .inl .null), (35, 3, .getfield 50, 4, 13, .inl .null), (38, 2, .iload 4, 4, 0, .inl .null), (40, 1, .iand, 0, 0, .inl .null), (41, 3, .ifCond .eq 9, 50, 0, .inl .null), (44, 1, .aload_n 0, 0, 0, .inl .null), (45, 1, .iconst 3, 0, 0, .inl (.int 3)), (46, 3, .invokevirtual 72, 30, 66, .inr (1, 0, 0)), (49, 1, .ireturn, 0, 0, .inl .null), (50, 1, .aload_n 0, 0, 0, .inl .null), (51, 1, .dup, 0, 0, .inl .null), (52, 3, .getfield 50, 4, 13, .inl .null), (55, 2, .iload 4, 4, 0, .inl .null), (57, 1, .ior, 0, 0, .inl .null), (58, 3, .putfield 50, 4, 13, .inl .null), (61, 1, .aload_n 0, 0, 0, .inl .null), (62, 3, .invokevirtual 56, 31, 65, .inr (0, 0, 0)), (65, 1, .aload_n 0, 0, 0, .inl .null), (66, 3, .sipush (-999), 0, 0, .inl (.int (-999))), (69, 3, .sipush 999, 0, 0, .inl (.int 999)), (72, 1, .iconst 1, 0, 0, .inl (.int 1)), (73, 3, .invokevirtual 82, 28, 68, .inr (1, 0, 0)), (76, 3, .ifCond .ne 5, 81, 0, .inl .null), (79, 1, .iconst 0, 0, 0, .inl (.int 0)), (80, 1, .ireturn, 0, 0, .inl .null), (81, 1, .iload_n 3, 3, 0, .inl .null), (82, 3, .ifCond .lt 16, 98, 0, .inl .null), (85, 1, .iload_n 3, 3, 0, .inl .null), (86, 1, .aload_n 1, 1, 0, .inl .null), (87, 1, .arraylength, 0, 0, .inl .null), (88, 3, .if_icmp .ge 10, 98, 0, .inl .null), (91, 1, .aload_n 1, 1, 0, .inl .null), (92, 1, .iload_n 3, 3, 0, .inl .null), (93, 1, .aload_n 0, 0, 0, .inl .null), (94, 3, .getfield 86, 4, 8, .inl .null), (97, 1, .iastore, 0, 0, .inl .null), (98, 1, .aload_n 0, 0, 0, .inl .null), (99, 3, .invokevirtual 56, 31, 65, .inr (0, 0, 0)), (102, 1, .iconst 1, 0, 0, .inl (.int 1)), (103, 1, .ireturn, 0, 0, .inl .null)]
def cd_X3_reachNumber : List gE := [(0, 1, .iload_n 3, 3, 0, .inl .null), (1, 3, .ifCond .eq 15, 16, 0, .inl .null), (4, 1, .aload_n 0, 0, 0, .inl .null), (5, 3, .getfield 63, 4, 6, .inl .null), (8, 1, .iconst 3, 0, 0, .inl (.int 3)), (9, 3, .if_icmp .ne 7, 16, 0, .inl .null), (12, 1, .iconst 1, 0, 0, .inl (.int 1)), (13, 3, .goto 4, 17, 0, .inl .null), (16, 1, .iconst 0, 0, 0, .inl (.int 0)), (17, 2, .istore 4, 4, 0, .inl .null), (19, 2, .iload 4, 4, 0, .inl .null), (21, 3, .ifCond .eq 7, 28, 0, .inl .null), (24, 1, .aload_n 0, 0, 0, .inl .null), (25, 3, .invokevirtual 56, 31, 65, .inr (0, 0, 0)), (28, 1, .aload_n 0, 0, 0, .inl .null), (29, 3, .getfield 63, 4, 6, .inl .null), (32, 1, .iconst 2, 0, 0, .inl (.int 2)), (33, 3, .if_icmp .eq 9, 42, 0, .inl .null), (36, 1, .aload_n 0, 0, 0, .inl .null), (37, 1, .iconst 1, 0, 0, .inl (.int 1)), (38, 3, .invokevirtual 72, 30, 66, .inr (1, 0, 0)), (41, 1, .ireturn, 0, 0, .inl .null), (42, 2, .iload 4, 4, 0, .inl .null), (44, 3, .ifCond .eq 12, 56, 0, .inl .null), (47, 1, .aload_n 0, 0, 0, .inl .null), (48, 1, .aload_n 0, 0, 0, .inl .null), (49, 3, .getfield 86, 4, 8, .inl .null), (52, 1, .ineg, 0, 0, .inl .null), (53, 3, .putfield 86, 4, 8, .inl .null), (56, 1, .aload_n 0, 0, 0, .inl .null), (57, 3, .getfield 86, 4, 8, .inl .null), (60, 1, .iload_n 1, 1, 0, .inl .null), (61, 3, .if_icmp .lt 11, 72, 0, .inl .null), (64, 1, .aload_n 0, 0, 0, .inl .null), (65, 3, .getfield 86, 4, 8, .inl .null), (68, 1, .iload_n 2, 2, 0, .inl .null), (69, 3, .if_icmp .le 11, 80, 0, .inl .null), (72, 1, .aload_n 0, 0, 0, .inl .null), (73, 1, .iconst 2, 0, 0, .inl (.int 2)), (74, 3, .invokevirtual 72, 30, 66, .inr (1, 0, 0)), (77, 3, .ifCond .eq 7, 84, 0, .inl .null), (80, 1, .iconst 1, 0, 0, .inl (.int 1)), (81, 3, .goto 4, 85, 0, .inl .null), (84, 1, .iconst 0, 0, 0, .inl (.int 0)), (85, 1, .ireturn, 0, 0, .inl .null)]
def cd_X3_isWord : List gE := [(0, 1, .aload_n 0, 0, 0, .inl .null), (1, 3, .getfield 63, 4, 6, .inl .null), (4, 1, .iconst 1, 0, 0, .inl (.int 1)), (5, 3, .if_icmp .ne 19, 24, 0, .inl .null), (8, 1, .aload_n 0, 0, 0, .inl .null), (9, 3, .getfield 41, 4, 7, .inl .null), (12, 1, .aload_n 0, 0, 0, .inl .null), (13, 3, .getfield 136, 4, 4, .inl .null), (16, 1, .isub, 0, 0, .inl .null), (17, 1, .aload_n 1, 1, 0, .inl .null), (18, 3, .invokevirtual 139, 311, 33, .inr (1, 0, 0)), (21, 3, .if_icmp .eq 5, 26, 0, .inl .null), (24, 1, .iconst 0, 0, 0, .inl (.int 0)), (25, 1, .ireturn, 0, 0, .inl .null), (26, 1, .iconst 0, 0, 0, .inl (.int 0)), (27, 1, .istore_n 2, 2, 0, .inl .null), (28, 1, .iload_n 2, 2, 0, .inl .null), (29, 1, .aload_n 1, 1, 0, .inl .null), (30, 3, .invokevirtual 139, 311, 33, .inr (1, 0, 0)), (33, 3, .if_icmp .ge 29, 62, 0, .inl .null), (36, 1, .aload_n 0, 0, 0, .inl .null), (37, 1, .aload_n 0, 0, 0, .inl .null), (38, 3, .getfield 136, 4, 4, .inl .null), (41, 1, .iload_n 2, 2, 0, .inl .null), (42, 1, .iadd, 0, 0, .inl .null), (43, 3, .invokevirtual 144, 34, 66, .inr (1, 0, 0)), (46, 1, .aload_n 1, 1, 0, .inl .null), (47, 1, .iload_n 2, 2, 0, .inl .null), (48, 3, .invokevirtual 148, 312, 34, .inr (1, 0, 0)), (51, 3, .if_icmp .eq 5, 56, 0, .inl .null), (54, 1, .iconst 0, 0, 0, .inl (.int 0)), (55, 1, .ireturn, 0, 0, .inl .null), (56, 3, .iinc 2 1, 2, 0, .inl (.int 1)), (59, 3, .goto (-31), 28, 0, .inl .null), (62, 1, .iconst 1, 0, 0, .inl (.int 1)), (63, 1, .ireturn, 0, 0, .inl .null)]
def cd_X3_fail : List gE := [(0, 1, .aload_n 0, 0, 0, .inl .null), (1, 1, .iload_n 1, 1, 0, .inl .null), (2, 3, .putfield 38, 4, 3, .inl .null), (5, 1, .iconst 0, 0, 0, .inl (.int 0)), (6, 1, .ireturn, 0, 0, .inl .null)]
def cd_X3_advance : List gE := [(0, 1, .aload_n 0, 0, 0, .inl .null), (1, 1, .aload_n 0, 0, 0, .inl .null), (2, 1, .aload_n 0, 0, 0, .inl .null), (3, 3, .getfield 41, 4, 7, .inl .null), (6, 2, .bipush 32, 0, 0, .inl (.int 32)), (8, 2, .bipush 32, 0, 0, .inl (.int 32)), (10, 3, .invokevirtual 152, 32, 68, .inr (1, 0, 0)), (13, 3, .putfield 136, 4, 4, .inl .null), (16, 1, .aload_n 0, 0, 0, .inl .null), (17, 1, .aload_n 0, 0, 0, .inl .null), (18, 3, .getfield 136, 4, 4, .inl .null), (21, 2, .bipush 97, 0, 0, .inl (.int 97)), (23, 2, .bipush 122, 0, 0, .inl (.int 122)), (25, 3, .invokevirtual 152, 32, 68, .inr (1, 0, 0)), (28, 1, .istore_n 1, 1, 0, .inl .null), (29, 1, .aload_n 0, 0, 0, .inl .null), (30, 1, .aload_n 0, 0, 0, .inl .null), (31, 3, .getfield 136, 4, 4, .inl .null), (34, 2, .bipush 48, 0, 0, .inl (.int 48)), (36, 2, .bipush 57, 0, 0, .inl (.int 57)), (38, 3, .invokevirtual 152, 32, 68, .inr (1, 0, 0)), (41, 1, .istore_n 2, 2, 0, .inl .null), (42, 1, .iload_n 1, 1, 0, .inl .null), (43, 1, .aload_n 0, 0, 0, .inl .null), (44, 3, .getfield 136, 4, 4, .inl .null), (47, 3, .if_icmp .le 34, 81, 0, .inl .null), (50, 1, .aload_n 0, 0, 0, .inl .null), (51, 1, .iload_n 1, 1, 0, .inl .null), (52, 3, .putfield 41, 4, 7, .inl .null), (55, 1, .aload_n 0, 0, 0, .inl .null), (56, 1, .aload_n 0, 0, 0, .inl .null), (57, 3, .getfield 41, 4, 7, .inl .null), (60, 1, .aload_n 0, 0, 0, .inl .null), (61, 3, .getfield 136, 4, 4, .inl .null), (64, 1, .isub, 0, 0, .inl .null), (65, 2, .bipush 8, 0, 0, .inl (.int 8)), (67, 3, .if_icmp .le 7, 74, 0, .inl .null), (70, 1, .iconst 5, 0, 0, .inl (.int 5)), (71, 3, .goto 4, 75, 0, .inl .null), (74, 1, .iconst 1, 0, 0, .inl (.int 1)), (75, 3, .putfield 63, 4, 6, .inl .null), (78, 3, .goto 120, 198, 0, .inl .null), (81, 1, .iload_n 2, 2, 0, .inl .null), (82, 1, .aload_n 0, 0, 0, .inl .null), (83, 3, .getfield 136, 4, 4, .inl .null), (86, 3, .if_icmp .le 41, 127, 0, .inl .null), (89, 1, .aload_n 0, 0, 0, .inl .null), (90, 1, .iload_n 2, 2, 0, .inl .null), (91, 3, .putfield 41, 4, 7, .inl .null), (94, 1, .aload_n 0, 0, 0, .inl .null), (95, 1, .aload_n 0, 0, 0, .inl .null), (96, 3, .getfield 41, 4, 7, .inl .null), (99, 1, .aload_n 0, 0, 0, .inl .null), (100, 3, .getfield 136, 4, 4, .inl .null), (103, 1, .isub, 0, 0, .inl .null), (104, 1, .iconst 4, 0, 0, .inl (.int 4)), (105, 3, .if_icmp .le 7, 112, 0, .inl .null), (108, 1, .iconst 5, 0, 0, .inl (.int 5)), (109, 3, .goto 4, 113, 0, .inl .null), (112, 1, .iconst 2, 0, 0, .inl (.int 2)), (113, 3, .putfield 63, 4, 6, .inl .null), (116, 1, .aload_n 0, 0, 0, .inl .null), (117, 1, .aload_n 0, 0, 0, .inl .null), (118, 3, .invokevirtual 156, 33, 65, .inr (1, 0, 0)), (121, 3, .putfield 86, 4, 8, .inl .null), (124, 3, .goto 74, 198, 0, .inl .null), (127, 1, .aload_n 0, 0, 0, .inl .null), (128, 3, .getfield 136, 4, 4, .inl .null), (131, 1, .aload_n 0, 0, 0, .inl .null), (132, 3, .getfield 35, 4, 5, .inl .null), (135, 3, .if_icmp .ge 50, 185, 0, .inl .null), (138, 1, .aload_n 0, 0, 0, .inl .null), (139, 1, .aload_n 0, 0, 0, .inl .null), (140, 3, .getfield 136, 4, 4, .inl .null), (143, 3, .invokevirtual 144, 34, 66, .inr (1, 0, 0)), (146, 1, .istore_n 3, 3, 0, .inl .null), (147, 1, .aload_n 0, 0, 0, .inl .null), (148, 1, .aload_n 0, 0, 0, .inl .null), (149, 3, .getfield 136, 4, 4, .inl .null), (152, 1, .iconst 1, 0, 0, .inl (.int 1)), (153, 1, .iadd, 0, 0, .inl .null), (154, 3, .putfield 41, 4, 7, .inl .null), (157, 1, .aload_n 0, 0, 0, .inl .null), (158, 1, .iload_n 3, 3, 0, .inl .null), (159, 2, .bipush 45, 0, 0, .inl (.int 45)), (161, 3, .if_icmp .ne 7, 168, 0, .inl .null), (164, 1, .iconst 3, 0, 0, .inl (.int 3)), (165, 3, .goto 14, 179, 0, .inl .null), (168, 1, .iload_n 3, 3, 0, .inl .null), (169, 2, .bipush 59, 0, 0, .inl (.int 59)), (171, 3, .if_icmp .ne 7, 178, 0, .inl .null), (174, 1, .iconst 4, 0, 0, .inl (.int 4)), (175, 3, .goto 4, 179, 0, .inl .null), (178, 1, .iconst 5, 0, 0, .inl (.int 5)), (179, 3, .putfield 63, 4, 6, .inl .null), (182, 3, .goto 16, 198, 0, .inl .null), (185, 1, .aload_n 0, 0, 0, .inl .null), (186, 1, .aload_n 0, 0, 0, .inl .null), (187, 3, .getfield 136, 4, 4, .inl .null), (190, 3, .putfield 41, 4, 7, .inl .null), (193, 1, .aload_n 0, 0, 0, .inl .null), (194, 1, .iconst 0, 0, 0, .inl (.int 0)), (195, 3, .putfield 63, 4, 6, .inl .null), (198, 1, .return_, 0, 0, .inl .null)]
def cd_X3_runEnd : List gE := [(0, 1, .iload_n 1, 1, 0, .inl .null), (1, 2, .istore 4, 4, 0, .inl .null), (3, 2, .iload 4, 4, 0, .inl .null), (5, 1, .aload_n 0, 0, 0, .inl .null), (6, 3, .getfield 35, 4, 5, .inl .null), (9, 3, .if_icmp .ge 29, 38, 0, .inl .null), (12, 1, .aload_n 0, 0, 0, .inl .null), (13, 2, .iload 4, 4, 0, .inl .null), (15, 3, .invokevirtual 144, 34, 66, .inr (1, 0, 0)), (18, 1, .iload_n 2, 2, 0, .inl .null), (19, 3, .if_icmp .lt 19, 38, 0, .inl .null), (22, 1, .aload_n 0, 0, 0, .inl .null), (23, 2, .iload 4, 4, 0, .inl .null), (25, 3, .invokevirtual 144, 34, 66, .inr (1, 0, 0)), (28, 1, .iload_n 3, 3, 0, .inl .null), (29, 3, .if_icmp .gt 9, 38, 0, .inl .null), (32, 3, .iinc 4 1, 4, 0, .inl (.int 1)), (35, 3, .goto (-32), 3, 0, .inl .null), (38, 2, .iload 4, 4, 0, .inl .null), (40, 1, .ireturn, 0, 0, .inl .null)]
def cd_X3_readDecimals : List gE := [(0, 1, .iconst 0, 0, 0, .inl (.int 0)), (1, 1, .istore_n 1, 1, 0, .inl .null), (2, 1, .aload_n 0, 0, 0, .inl .null), (3, 3, .getfield 136, 4, 4, .inl .null), (6, 1, .istore_n 2, 2, 0, .inl .null), (7, 1, .iload_n 2, 2, 0, .inl .null), (8, 1, .aload_n 0, 0, 0, .inl .null), (9, 3, .getfield 41, 4, 7, .inl .null), (12, 3, .if_icmp .ge 33, 45, 0, .inl .null), (15, 1, .iload_n 2, 2, 0, .inl .null), (16, 1, .aload_n 0, 0, 0, .inl .null), (17, 3, .getfield 136, 4, 4, .inl .null), (20, 1, .isub, 0, 0, .inl .null), (21, 1, .iconst 4, 0, 0, .inl (.int 4)), (22, 3, .if_icmp .ge 23, 45, 0, .inl .null), (25, 2, .bipush 10, 0, 0, .inl (.int 10)), (27, 1, .iload_n 1, 1, 0, .inl .null), (28, 1, .imul, 0, 0, .inl .null), (29, 1, .aload_n 0, 0, 0, .inl .null), (30, 1, .iload_n 2, 2, 0, .inl .null), (31, 3, .invokevirtual 144, 34, 66, .inr (1, 0, 0)), (34, 1, .iadd, 0, 0, .inl .null), (35, 2, .bipush 48, 0, 0, .inl (.int 48)), (37, 1, .isub, 0, 0, .inl .null), (38, 1, .istore_n 1, 1, 0, .inl .null), (39, 3, .iinc 2 1, 2, 0, .inl (.int 1)), (42, 3, .goto (-35), 7, 0, .inl .null), (45, 1, .iload_n 1, 1, 0, .inl .null), (46, 1, .ireturn, 0, 0, .inl .null)]
def cd_X3_byteAt : List gE := [(0, 1, .iload_n 1, 1, 0, .inl .null), (1, 3, .ifCond .lt 25, 26, 0, .inl .null), (4, 1, .iload_n 1, 1, 0, .inl .null), (5, 1, .aload_n 0, 0, 0, .inl .null), (6, 3, .getfield 9, 4, 0, .inl .null), (9, 1, .arraylength, 0, 0, .inl .null), (10, 3, .if_icmp .ge 16, 26, 0, .inl .null), (13, 1, .aload_n 0, 0, 0, .inl .null), (14, 3, .getfield 9, 4, 0, .inl .null), (17, 1, .iload_n 1, 1, 0, .inl .null), (18, 1, .baload, 0, 0, .inl .null), (19, 3, .sipush 255, 0, 0, .inl (.int 255)), (22, 1, .iand, 0, 0, .inl .null), (23, 3, .goto 4, 27, 0, .inl .null), (26, 1, .iconst (-1), 0, 0, .inl (.int (-1))), (27, 1, .ireturn, 0, 0, .inl .null)]
def cd_X4_prepare : List gE := [(0, 1, .aload_n 1, 1, 0, .inl .null), (1, 3, .getfield 22, 6, 0, .inl .null), (4, 1, .istore_n 2, 2, 0, .inl .null), (5, 1, .aload_n 0, 0, 0, .inl .null), (6, 3, .getfield 12, 28, 0, .inl .null), (9, 1, .aload_n 1, 1, 0, .inl .null), (10, 1, .iload_n 2, 2, 0, .inl .null), (11, 1, .aload_n 1, 1, 0, .inl .null), (12, 3, .getfield 28, 6, 1, .inl .null), (15, 1, .iload_n 2, 2, 0, .inl .null), (16, 3, .invokevirtual 31, 6, 277, .inr (0, 0, 0)), (19, 1, .iconst 0, 0, 0, .inl (.int 0)), (20, 1, .istore_n 3, 3, 0, .inl .null), (21, 1, .iload_n 3, 3, 0, .inl .null), (22, 1, .iload_n 2, 2, 0, .inl .null), (23, 3, .if_icmp .ge 21, 44, 0, .inl .null), (26, 1, .aload_n 0, 0, 0, .inl .null), (27, 3, .getfield 12, 28, 0, .inl .null), (30, 1, .iload_n 3, 3, 0, .inl .null), (31, 1, .iload_n 2, 2, 0, .inl .null), (32, 1, .iload_n 3, 3, 0, .inl .null), (33, 1, .iadd, 0, 0, .inl .null), (34, 1, .iconst 1, 0, 0, .inl (.int 1)), (35, 3, .invokevirtual 35, 9, 276, .inr (0, 0, 0)), (38, 3, .iinc 3 1, 3, 0, .inl (.int 1)), (41, 3, .goto (-20), 21, 0, .inl .null), (44, 1, .aload_n 0, 0, 0, .inl .null), (45, 3, .getfield 12, 28, 0, .inl .null), (48, 1, .iload_n 2, 2, 0, .inl .null), (49, 3, .invokevirtual 39, 11, 274, .inr (1, 0, 0)), (52, 1, .iload_n 2, 2, 0, .inl .null), (53, 3, .if_icmp .ne 7, 60, 0, .inl .null), (56, 1, .iconst 1, 0, 0, .inl (.int 1)), (57, 3, .goto 4, 61, 0, .inl .null), (60, 1, .iconst 0, 0, 0, .inl (.int 0)), (61, 1, .ireturn, 0, 0, .inl .null)]
def cd_X4_ofInverse : List gE := [(0, 1, .aload_n 0, 0, 0, .inl .null), (1, 3, .getfield 12, 28, 0, .inl .null), (4, 1, .iload_n 1, 1, 0, .inl .null), (5, 1, .aload_n 0, 0, 0, .inl .null), (6, 3, .getfield 12, 28, 0, .inl .null), (9, 3, .invokevirtual 43, 7, 273, .inr (1, 0, 0)), (12, 1, .iload_n 2, 2, 0, .inl .null), (13, 1, .iadd, 0, 0, .inl .null), (14, 3, .invokevirtual 47, 8, 275, .inr (1, 0, 0)), (17, 1, .ireturn, 0, 0, .inl .null)]
def cd_X4_addDigit : List gE := [(0, 1, .aload_n 1, 1, 0, .inl .null), (1, 3, .getfield 22, 6, 0, .inl .null), (4, 1, .aload_n 0, 0, 0, .inl .null), (5, 3, .getfield 18, 28, 1, .inl .null), (8, 1, .arraylength, 0, 0, .inl .null), (9, 3, .invokestatic 51, 308, 2, .inr (1, 0, 0)), (12, 1, .istore_n 2, 2, 0, .inl .null), (13, 1, .iconst 0, 0, 0, .inl (.int 0)), (14, 1, .istore_n 3, 3, 0, .inl .null), (15, 1, .iload_n 3, 3, 0, .inl .null), (16, 1, .iload_n 2, 2, 0, .inl .null), (17, 3, .if_icmp .ge 69, 86, 0, .inl .null), (20, 1, .iconst 0, 0, 0, .inl (.int 0)), (21, 2, .istore 4, 4, 0, .inl .null), (23, 1, .iconst 0, 0, 0, .inl (.int 0)), (24, 2, .istore 5, 5, 0, .inl .null), (26, 2, .iload 5, 5, 0, .inl .null), (28, 1, .iload_n 2, 2, 0, .inl .null), (29, 3, .if_icmp .ge 36, 65, 0, .inl .null), (32, 2, .iload 4, 4, 0, .inl .null), (34, 1, .aload_n 0, 0, 0, .inl .null), (35, 1, .iload_n 3, 3, 0, .inl .null), (36, 2, .iload 5, 5, 0, .inl .null), (38, 3, .invokevirtual 56, 36, 451, .inr (1, 0, 0)), (41, 1, .aload_n 1, 1, 0, .inl .null), (42, 3, .getfield 59, 6, 8, .inl .null), (45, 2, .iload 5, 5, 0, .inl .null), (47, 1, .iaload, 0, 0, .inl .null), (48, 1, .aload_n 1, 1, 0, .inl .null), (49, 3, .getfield 28, 6, 1, .inl .null), (52, 3, .invokestatic 62, 121, 2, .inr (1, 0, 0)), (55, 1, .imul, 0, 0, .inl .null), (56, 1, .iadd, 0, 0, .inl .null), (57, 2, .istore 4, 4, 0, .inl .null), (59, 3, .iinc 5 1, 5, 0, .inl (.int 1)), (62, 3, .goto (-36), 26, 0, .inl .null), (65, 1, .aload_n 0, 0, 0, .inl .null), (66, 3, .getfield 18, 28, 1, .inl .null), (69, 1, .iload_n 3, 3, 0, .inl .null), (70, 2, .iload 4, 4, 0, .inl .null), (72, 1, .aload_n 1, 1, 0, .inl .null), (73, 3, .getfield 28, 6, 1, .inl .null), (76, 3, .invokestatic 62, 121, 2, .inr (1, 0, 0)), (79, 1, .iastore, 0, 0, .inl .null), (80, 3, .iinc 3 1, 3, 0, .inl (.int 1)), (83, 3, .goto (-68), 15, 0, .inl .null), (86, 1, .iconst 0, 0, 0, .inl (.int 0)), (87, 1, .istore_n 3, 3, 0, .inl .null), (88, 1, .iload_n 3, 3, 0, .inl .null), (89, 1, .iload_n 2, 2, 0, .inl .null), (90, 3, .if_icmp .ge 42, 132, 0, .inl .null), (93, 1, .aload_n 1, 1, 0, .inl .null), (94, 3, .getfield 65, 6, 7, .inl .null), (97, 1, .iload_n 3, 3, 0, .inl .null), (98, 1, .dup2, 0, 0, .inl .null), (99, 1, .laload, 0, 0, .inl .null), (100, 1, .aload_n 0, 0, 0, .inl .null), (101, 3, .getfield 18, 28, 1, .inl .null), (104, 1, .iload_n 3, 3, 0, .inl .null), (105, 1, .iaload, 0, 0, .inl .null), (106, 1, .i2l, 0, 0, .inl .null), (107, 1, .aload_n 1, 1, 0, .inl .null), (108, 3, .getfield 69, 6, 6, .inl .null), (111, 1, .lmul, 0, 0, .inl .null), (112, 1, .ladd, 0, 0, .inl .null), (113, 1, .lastore, 0, 0, .inl .null), (114, 1, .aload_n 1, 1, 0, .inl .null), (115, 3, .getfield 59, 6, 8, .inl .null), (118, 1, .iload_n 3, 3, 0, .inl .null), (119, 1, .aload_n 0, 0, 0, .inl .null), (120, 1, .aload_n 1, 1, 0, .inl .null), (121, 1, .iload_n 3, 3, 0, .inl .null), (122, 3, .invokevirtual 73, 38, 451, .inr (1, 0, 0)), (125, 1, .iastore, 0, 0, .inl .null), (126, 3, .iinc 3 1, 3, 0, .inl (.int 1)), (129, 3, .goto (-41), 88, 0, .inl .null), (132, 1, .aload_n 1, 1, 0, .inl .null), (133, 1, .dup, 0, 0, .inl .null), (134, 3, .getfield 69, 6, 6, .inl .null), (137, 1, .aload_n 1, 1, 0, .inl .null), (138, 3, .getfield 28, 6, 1, .inl .null), (141, 1, .i2l, 0, 0, .inl .null), (142, 1, .lmul, 0, 0, .inl .null), (143, 3, .putfield 69, 6, 6, .inl .null), (146, 1, .aload_n 1, 1, 0, .inl .null), (147, 1, .dup, 0, 0, .inl .null), (148, 3, .getfield 77, 6, 5, .inl .null), (151, 1, .iconst 1, 0, 0, .inl (.int 1)), (152, 1, .iadd, 0, 0, .inl .null), (153, 3, .putfield 77, 6, 5, .inl .null), (156, 1, .return_, 0, 0, .inl .null)]
def cd_X4_nextRest : List gE := [(0, 1, .aload_n 1, 1, 0, .inl .null), (1, 3, .getfield 59, 6, 8, .inl .null), (4, 1, .iload_n 2, 2, 0, .inl .null), (5, 1, .iaload, 0, 0, .inl .null), (6, 1, .istore_n 3, 3, 0, .inl .null), (7, 1, .iconst 0, 0, 0, .inl (.int 0)), (8, 2, .istore 4, 4, 0, .inl .null), (10, 2, .iload 4, 4, 0, .inl .null), (12, 1, .aload_n 1, 1, 0, .inl .null), (13, 3, .getfield 22, 6, 0, .inl .null), (16, 3, .if_icmp .ge 38, 54, 0, .inl .null), (19, 2, .iload 4, 4, 0, .inl .null), (21, 1, .aload_n 0, 0, 0, .inl .null), (22, 3, .getfield 18, 28, 1, .inl .null), (25, 1, .arraylength, 0, 0, .inl .null), (26, 3, .if_icmp .ge 28, 54, 0, .inl .null), (29, 1, .iload_n 3, 3, 0, .inl .null), (30, 1, .aload_n 1, 1, 0, .inl .null), (31, 1, .iload_n 2, 2, 0, .inl .null), (32, 2, .iload 4, 4, 0, .inl .null), (34, 1, .isub, 0, 0, .inl .null), (35, 3, .invokevirtual 80, 46, 98, .inr (1, 0, 0)), (38, 1, .aload_n 0, 0, 0, .inl .null), (39, 3, .getfield 18, 28, 1, .inl .null), (42, 2, .iload 4, 4, 0, .inl .null), (44, 1, .iaload, 0, 0, .inl .null), (45, 1, .imul, 0, 0, .inl .null), (46, 1, .isub, 0, 0, .inl .null), (47, 1, .istore_n 3, 3, 0, .inl .null), (48, 3, .iinc 4 1, 4, 0, .inl (.int 1)), (51, 3, .goto (-41), 10, 0, .inl .null), (54, 1, .aload_n 1, 1, 0, .inl .null), (55, 3, .getfield 28, 6, 1, .inl .null), (58, 1, .iconst 1, 0, 0, .inl (.int 1)), (59, 3, .if_icmp .ge 7, 66, 0, .inl .null), (62, 1, .iconst 0, 0, 0, .inl (.int 0)), (63, 3, .goto 9, 72, 0, .inl .null), (66, 1, .iload_n 3, 3, 0, .inl .null), (67, 1, .aload_n 1, 1, 0, .inl .null), (68, 3, .getfield 28, 6, 1, .inl .null), (71, 1, .idiv, 0, 0, .inl .null), (72, 1, .ireturn, 0, 0, .inl .null)]
def cd_X4_liftAndEnter : List gE := [(0, 1, .aload_n 0, 0, 0, .inl .null), (1, 1, .aload_n 1, 1, 0, .inl .null), (2, 3, .invokevirtual 83, 37, 450, .inr (0, 0, 0)), (5, 1, .aload_n 2, 2, 0, .inl .null), (6, 1, .aload_n 1, 1, 0, .inl .null), (7, 3, .invokevirtual 87, 1, 402, .inr (1, 0, 0)), (10, 1, .istore_n 3, 3, 0, .inl .null), (11, 1, .aload_n 1, 1, 0, .inl .null), (12, 1, .iload_n 3, 3, 0, .inl .null), (13, 3, .invokevirtual 93, 51, 98, .inr (0, 0, 0)), (16, 1, .iload_n 3, 3, 0, .inl .null), (17, 1, .ireturn, 0, 0, .inl .null)]
def cd_X5_component : List gE := [(0, 1, .iload_n 1, 1, 0, .inl .null), (1, 3, .ifCond .lt 19, 20, 0, .inl .null), (4, 1, .iload_n 1, 1, 0, .inl .null), (5, 2, .bipush 7, 0, 0, .inl (.int 7)), (7, 3, .if_icmp .ge 13, 20, 0, .inl .null), (10, 1, .iload_n 2, 2, 0, .inl .null), (11, 3, .ifCond .lt 9, 20, 0, .inl .null), (14, 1, .iload_n 2, 2, 0, .inl .null), (15, 2, .bipush 7, 0, 0, .inl (.int 7)), (17, 3, .if_icmp .lt 5, 22, 0, .inl .null), (20, 1, .iconst 0, 0, 0, .inl (.int 0)), (21, 1, .ireturn, 0, 0, .inl .null), (22, 1, .iload_n 3, 3, 0, .inl .null), (23, 3, .ifCond .eq 14, 37, 0, .inl .null), (26, 1, .aload_n 0, 0, 0, .inl .null), (27, 3, .getfield 16, 20, 1, .inl .null), (30, 1, .iload_n 1, 1, 0, .inl .null), (31, 1, .aaload, 0, 0, .inl .null), (32, 1, .iload_n 2, 2, 0, .inl .null), (33, 1, .iaload, 0, 0, .inl .null), (34, 3, .goto 11, 45, 0, .inl .null), (37, 1, .aload_n 0, 0, 0, .inl .null), (38, 3, .getfield 11, 20, 0, .inl .null), (41, 1, .iload_n 1, 1, 0, .inl .null), (42, 1, .aaload, 0, 0, .inl .null), (43, 1, .iload_n 2, 2, 0, .inl .null), (44, 1, .iaload, 0, 0, .inl .null), (45, 1, .ireturn, 0, 0, .inl .null)]
def cd_X5_find : List gE := [(0, 1, .aload_n 1, 1, 0, .inl .null), (1, 3, .invokevirtual 19, 7, 273, .inr (1, 0, 0)), (4, 1, .istore_n 3, 3, 0, .inl .null), (5, 1, .iconst 0, 0, 0, .inl (.int 0)), (6, 2, .istore 4, 4, 0, .inl .null), (8, 1, .iconst 0, 0, 0, .inl (.int 0)), (9, 1, .iload_n 2, 2, 0, .inl .null), (10, 3, .invokestatic 25, 307, 2, .inr (1, 0, 0)), (13, 2, .istore 5, 5, 0, .inl .null), (15, 2, .iload 5, 5, 0, .inl .null), (17, 1, .iload_n 3, 3, 0, .inl .null), (18, 3, .if_icmp .ge 69, 87, 0, .inl .null), (21, 1, .iconst 0, 0, 0, .inl (.int 0)), (22, 1, .iload_n 2, 2, 0, .inl .null), (23, 3, .invokestatic 25, 307, 2, .inr (1, 0, 0)), (26, 2, .istore 6, 6, 0, .inl .null), (28, 2, .iload 6, 6, 0, .inl .null), (30, 1, .iload_n 3, 3, 0, .inl .null), (31, 3, .if_icmp .ge 50, 81, 0, .inl .null), (34, 1, .aload_n 1, 1, 0, .inl .null), (35, 2, .iload 5, 5, 0, .inl .null), (37, 2, .iload 6, 6, 0, .inl .null), (39, 3, .invokevirtual 31, 8, 275, .inr (1, 0, 0)), (42, 3, .ifCond .eq 33, 75, 0, .inl .null), (45, 2, .iload 4, 4, 0, .inl .null), (47, 2, .bipush 7, 0, 0, .inl (.int 7)), (49, 3, .if_icmp .ge 26, 75, 0, .inl .null), (52, 1, .aload_n 0, 0, 0, .inl .null), (53, 1, .aload_n 1, 1, 0, .inl .null), (54, 1, .iload_n 2, 2, 0, .inl .null), (55, 2, .iload 4, 4, 0, .inl .null), (57, 2, .iload 5, 5, 0, .inl .null), (59, 2, .iload 6, 6, 0, .inl .null), (61, 3, .invokevirtual 34, 42, 326, .inr (0, 0, 0)), (64, 1, .aload_n 0, 0, 0, .inl .null), (65, 1, .aload_n 1, 1, 0, .inl .null), (66, 1, .iload_n 2, 2, 0, .inl .null), (67, 2, .iload 4, 4, 0, .inl .null), (69, 3, .invokevirtual 38, 43, 324, .inr (0, 0, 0)), (72, 3, .iinc 4 1, 4, 0, .inl (.int 1)), (75, 3, .iinc 6 1, 6, 0, .inl (.int 1)), (78, 3, .goto (-50), 28, 0, .inl .null), (81, 3, .iinc 5 1, 5, 0, .inl (.int 1)), (84, 3, .goto (-69), 15, 0, .inl .null), (87, 2, .iload 4, 4, 0, .inl .null), (89, 1, .ireturn, 0, 0, .inl .null)]
def cd_X5_keep : List gE := [(0, 1, .aload_n 1, 1, 0, .inl .null), (1, 1, .aload_n 1, 1, 0, .inl .null), (2, 2, .iload 4, 4, 0, .inl .null), (4, 2, .iload 5, 5, 0, .inl .null), (6, 3, .invokevirtual 31, 8, 275, .inr (1, 0, 0)), (9, 3, .invokevirtual 42, 15, 274, .inr (1, 0, 0)), (12, 2, .istore 6, 6, 0, .inl .null), (14, 1, .iconst 0, 0, 0, .inl (.int 0)), (15, 1, .iload_n 2, 2, 0, .inl .null), (16, 3, .invokestatic 25, 307, 2, .inr (1, 0, 0)), (19, 2, .istore 7, 7, 0, .inl .null), (21, 2, .iload 7, 7, 0, .inl .null), (23, 1, .aload_n 1, 1, 0, .inl .null), (24, 3, .invokevirtual 19, 7, 273, .inr (1, 0, 0)), (27, 3, .if_icmp .ge 53, 80, 0, .inl .null), (30, 1, .aload_n 0, 0, 0, .inl .null), (31, 3, .getfield 11, 20, 0, .inl .null), (34, 1, .iload_n 3, 3, 0, .inl .null), (35, 1, .aaload, 0, 0, .inl .null), (36, 2, .iload 7, 7, 0, .inl .null), (38, 1, .aload_n 1, 1, 0, .inl .null), (39, 2, .iload 7, 7, 0, .inl .null), (41, 2, .iload 5, 5, 0, .inl .null), (43, 3, .invokevirtual 31, 8, 275, .inr (1, 0, 0)), (46, 2, .iload 6, 6, 0, .inl .null), (48, 1, .imul, 0, 0, .inl .null), (49, 1, .aload_n 1, 1, 0, .inl .null), (50, 3, .getfield 46, 17, 3, .inl .null), (53, 3, .invokestatic 50, 121, 2, .inr (1, 0, 0)), (56, 1, .iastore, 0, 0, .inl .null), (57, 1, .aload_n 0, 0, 0, .inl .null), (58, 3, .getfield 16, 20, 1, .inl .null), (61, 1, .iload_n 3, 3, 0, .inl .null), (62, 1, .aaload, 0, 0, .inl .null), (63, 2, .iload 7, 7, 0, .inl .null), (65, 1, .aload_n 1, 1, 0, .inl .null), (66, 2, .iload 4, 4, 0, .inl .null), (68, 2, .iload 7, 7, 0, .inl .null), (70, 3, .invokevirtual 31, 8, 275, .inr (1, 0, 0)), (73, 1, .iastore, 0, 0, .inl .null), (74, 3, .iinc 7 1, 7, 0, .inl (.int 1)), (77, 3, .goto (-56), 21, 0, .inl .null), (80, 1, .return_, 0, 0, .inl .null)]
def cd_X5_subtract : List gE := [(0, 1, .aload_n 1, 1, 0, .inl .null), (1, 3, .invokevirtual 19, 7, 273, .inr (1, 0, 0)), (4, 2, .istore 4, 4, 0, .inl .null), (6, 1, .iconst 0, 0, 0, .inl (.int 0)), (7, 1, .iload_n 2, 2, 0, .inl .null), (8, 3, .invokestatic 25, 307, 2, .inr (1, 0, 0)), (11, 2, .istore 5, 5, 0, .inl .null), (13, 2, .iload 5, 5, 0, .inl .null), (15, 2, .iload 4, 4, 0, .inl .null), (17, 3, .if_icmp .ge 65, 82, 0, .inl .null), (20, 1, .iconst 0, 0, 0, .inl (.int 0)), (21, 1, .iload_n 2, 2, 0, .inl .null), (22, 3, .invokestatic 25, 307, 2, .inr (1, 0, 0)), (25, 2, .istore 6, 6, 0, .inl .null), (27, 2, .iload 6, 6, 0, .inl .null), (29, 2, .iload 4, 4, 0, .inl .null), (31, 3, .if_icmp .ge 45, 76, 0, .inl .null), (34, 1, .aload_n 1, 1, 0, .inl .null), (35, 2, .iload 5, 5, 0, .inl .null), (37, 2, .iload 6, 6, 0, .inl .null), (39, 1, .aload_n 1, 1, 0, .inl .null), (40, 2, .iload 5, 5, 0, .inl .null), (42, 2, .iload 6, 6, 0, .inl .null), (44, 3, .invokevirtual 31, 8, 275, .inr (1, 0, 0)), (47, 1, .aload_n 0, 0, 0, .inl .null), (48, 3, .getfield 11, 20, 0, .inl .null), (51, 1, .iload_n 3, 3, 0, .inl .null), (52, 1, .aaload, 0, 0, .inl .null), (53, 2, .iload 5, 5, 0, .inl .null), (55, 1, .iaload, 0, 0, .inl .null), (56, 1, .aload_n 0, 0, 0, .inl .null), (57, 3, .getfield 16, 20, 1, .inl .null), (60, 1, .iload_n 3, 3, 0, .inl .null), (61, 1, .aaload, 0, 0, .inl .null), (62, 2, .iload 6, 6, 0, .inl .null), (64, 1, .iaload, 0, 0, .inl .null), (65, 1, .imul, 0, 0, .inl .null), (66, 1, .isub, 0, 0, .inl .null), (67, 3, .invokevirtual 53, 9, 276, .inr (0, 0, 0)), (70, 3, .iinc 6 1, 6, 0, .inl (.int 1)), (73, 3, .goto (-46), 27, 0, .inl .null), (76, 3, .iinc 5 1, 5, 0, .inl (.int 1)), (79, 3, .goto (-66), 13, 0, .inl .null), (82, 1, .return_, 0, 0, .inl .null)]
def cd_X6_clear : List gE := [(0, 1, .aload_n 0, 0, 0, .inl .null), (1, 1, .iconst 0, 0, 0, .inl (.int 0)), (2, 3, .putfield 35, 6, 0, .inl .null), (5, 1, .aload_n 0, 0, 0, .inl .null), (6, 1, .iconst 0, 0, 0, .inl (.int 0)), (7, 3, .putfield 39, 6, 1, .inl .null), (10, 1, .aload_n 0, 0, 0, .inl .null), (11, 3, .getfield 9, 6, 2, .inl .null), (14, 1, .iconst 0, 0, 0, .inl (.int 0)), (15, 3, .invokestatic 42, 310, 2, .inr (0, 0, 0)), (18, 1, .aload_n 0, 0, 0, .inl .null), (19, 3, .getfield 15, 6, 3, .inl .null), (22, 1, .iconst 0, 0, 0, .inl (.int 0)), (23, 3, .invokestatic 42, 310, 2, .inr (0, 0, 0)), (26, 1, .aload_n 0, 0, 0, .inl .null), (27, 3, .getfield 18, 6, 4, .inl .null), (30, 1, .iconst 0, 0, 0, .inl (.int 0)), (31, 3, .invokestatic 42, 310, 2, .inr (0, 0, 0)), (34, 1, .aload_n 0, 0, 0, .inl .null), (35, 1, .iconst 0, 0, 0, .inl (.int 0)), (36, 3, .putfield 48, 6, 9, .inl .null), (39, 1, .aload_n 0, 0, 0, .inl .null), (40, 3, .invokevirtual 51, 48, 97, .inr (0, 0, 0)), (43, 1, .return_, 0, 0, .inl .null)]
def cd_X6_become : List gE := [(0, 1, .aload_n 0, 0, 0, .inl .null), (1, 1, .aload_n 1, 1, 0, .inl .null), (2, 3, .getfield 35, 6, 0, .inl .null), (5, 3, .putfield 35, 6, 0, .inl .null), (8, 1, .aload_n 0, 0, 0, .inl .null), (9, 1, .aload_n 1, 1, 0, .inl .null), (10, 3, .getfield 39, 6, 1, .inl .null), (13, 3, .putfield 39, 6, 1, .inl .null), (16, 1, .aload_n 1, 1, 0, .inl .null), (17, 3, .getfield 9, 6, 2, .inl .null), (20, 1, .iconst 0, 0, 0, .inl (.int 0)), (21, 1, .aload_n 0, 0, 0, .inl .null), (22, 3, .getfield 9, 6, 2, .inl .null), (25, 1, .iconst 0, 0, 0, .inl (.int 0)), (26, 1, .aload_n 0, 0, 0, .inl .null), (27, 3, .getfield 9, 6, 2, .inl .null), (30, 1, .arraylength, 0, 0, .inl .null), (31, 3, .invokestatic 54, 0, 9, .inl .null), (34, 1, .aload_n 1, 1, 0, .inl .null), (35, 3, .getfield 15, 6, 3, .inl .null), (38, 1, .iconst 0, 0, 0, .inl (.int 0)), (39, 1, .aload_n 0, 0, 0, .inl .null), (40, 3, .getfield 15, 6, 3, .inl .null), (43, 1, .iconst 0, 0, 0, .inl (.int 0)), (44, 1, .aload_n 0, 0, 0, .inl .null), (45, 3, .getfield 15, 6, 3, .inl .null), (48, 1, .arraylength, 0, 0, .inl .null), (49, 3, .invokestatic 54, 0, 9, .inl .null), (52, 1, .aload_n 1, 1, 0, .inl .null), (53, 3, .getfield 18, 6, 4, .inl .null), (56, 1, .iconst 0, 0, 0, .inl (.int 0)), (57, 1, .aload_n 0, 0, 0, .inl .null), (58, 3, .getfield 18, 6, 4, .inl .null), (61, 1, .iconst 0, 0, 0, .inl (.int 0)), (62, 1, .aload_n 0, 0, 0, .inl .null), (63, 3, .getfield 18, 6, 4, .inl .null), (66, 1, .arraylength, 0, 0, .inl .null), (67, 3, .invokestatic 54, 0, 9, .inl .null), (70, 1, .aload_n 0, 0, 0, .inl .null), (71, 1, .aload_n 1, 1, 0, .inl .null), (72, 3, .getfield 60, 6, 5, .inl .null), (75, 3, .putfield 60, 6, 5, .inl .null), (78, 1, .aload_n 0, 0, 0, .inl .null), (79, 1, .aload_n 1, 1, 0, .inl .null), (80, 3, .getfield 21, 6, 6, .inl .null), (83, 3, .putfield 21, 6, 6, .inl .null), (86, 1, .aload_n 1, 1, 0, .inl .null), (87, 3, .getfield 25, 6, 7, .inl .null), (90, 1, .iconst 0, 0, 0, .inl (.int 0)), (91, 1, .aload_n 0, 0, 0, .inl .null), (92, 3, .getfield 25, 6, 7, .inl .null), (95, 1, .iconst 0, 0, 0, .inl (.int 0)), (96, 1, .aload_n 0, 0, 0, .inl .null), (97, 3, .getfield 25, 6, 7, .inl .null), (100, 1, .arraylength, 0, 0, .inl .null), (101, 3, .invokestatic 54, 0, 9, .inl .null), (104, 1, .aload_n 1, 1, 0, .inl .null), (105, 3, .getfield 29, 6, 8, .inl .null), (108, 1, .iconst 0, 0, 0, .inl (.int 0)), (109, 1, .aload_n 0, 0, 0, .inl .null), (110, 3, .getfield 29, 6, 8, .inl .null), (113, 1, .iconst 0, 0, 0, .inl (.int 0)), (114, 1, .aload_n 0, 0, 0, .inl .null), (115, 3, .getfield 29, 6, 8, .inl .null), (118, 1, .arraylength, 0, 0, .inl .null), (119, 3, .invokestatic 54, 0, 9, .inl .null), (122, 1, .aload_n 0, 0, 0, .inl .null), (123, 1, .aload_n 1, 1, 0, .inl .null), (124, 3, .getfield 48, 6, 9, .inl .null), (127, 3, .putfield 48, 6, 9, .inl .null), (130, 1, .aload_n 1, 1, 0, .inl .null), (131, 3, .getfield 32, 6, 10, .inl .null), (134, 1, .iconst 0, 0, 0, .inl (.int 0)), (135, 1, .aload_n 0, 0, 0, .inl .null), (136, 3, .getfield 32, 6, 10, .inl .null), (139, 1, .iconst 0, 0, 0, .inl (.int 0)), (140, 1, .aload_n 0, 0, 0, .inl .null), (141, 3, .getfield 32, 6, 10, .inl .null), (144, 1, .arraylength, 0, 0, .inl .null), (145, 3, .invokestatic 54, 0, 9, .inl .null), (148, 1, .return_, 0, 0, .inl .null)]
def cd_X6_along : List gE := [(0, 1, .iload_n 1, 1, 0, .inl .null), (1, 2, .bipush 7, 0, 0, .inl (.int 7)), (3, 1, .iadd, 0, 0, .inl .null), (4, 1, .iconst 1, 0, 0, .inl (.int 1)), (5, 1, .isub, 0, 0, .inl .null), (6, 1, .istore_n 2, 2, 0, .inl .null), (7, 1, .iload_n 2, 2, 0, .inl .null), (8, 3, .ifCond .lt 21, 29, 0, .inl .null), (11, 1, .iload_n 2, 2, 0, .inl .null), (12, 1, .aload_n 0, 0, 0, .inl .null), (13, 3, .getfield 9, 6, 2, .inl .null), (16, 1, .arraylength, 0, 0, .inl .null), (17, 3, .if_icmp .ge 12, 29, 0, .inl .null), (20, 1, .aload_n 0, 0, 0, .inl .null), (21, 3, .getfield 9, 6, 2, .inl .null), (24, 1, .iload_n 2, 2, 0, .inl .null), (25, 1, .iaload, 0, 0, .inl .null), (26, 3, .goto 4, 30, 0, .inl .null), (29, 1, .iconst 0, 0, 0, .inl (.int 0)), (30, 1, .ireturn, 0, 0, .inl .null)]
def cd_X6_putAlong : List gE := [(0, 1, .iload_n 1, 1, 0, .inl .null), (1, 2, .bipush 7, 0, 0, .inl (.int 7)), (3, 1, .iadd, 0, 0, .inl .null), (4, 1, .iconst 1, 0, 0, .inl (.int 1)), (5, 1, .isub, 0, 0, .inl .null), (6, 1, .istore_n 3, 3, 0, .inl .null), (7, 1, .iload_n 3, 3, 0, .inl .null), (8, 3, .ifCond .lt 19, 27, 0, .inl .null), (11, 1, .iload_n 3, 3, 0, .inl .null), (12, 1, .aload_n 0, 0, 0, .inl .null), (13, 3, .getfield 9, 6, 2, .inl .null), (16, 1, .arraylength, 0, 0, .inl .null), (17, 3, .if_icmp .ge 10, 27, 0, .inl .null), (20, 1, .aload_n 0, 0, 0, .inl .null), (21, 3, .getfield 9, 6, 2, .inl .null), (24, 1, .iload_n 3, 3, 0, .inl .null), (25, 1, .iload_n 2, 2, 0, .inl .null), (26, 1, .iastore, 0, 0, .inl .null), (27, 1, .return_, 0, 0, .inl .null)]
def cd_X6_beginRefinement : List gE := [(0, 1, .aload_n 0, 0, 0, .inl .null), (1, 1, .iconst 0, 0, 0, .inl (.int 0)), (2, 3, .putfield 60, 6, 5, .inl .null), (5, 1, .aload_n 0, 0, 0, .inl .null), (6, 1, .lconst 1, 0, 0, .inl (.long 1)), (7, 3, .putfield 21, 6, 6, .inl .null), (10, 1, .aload_n 0, 0, 0, .inl .null), (11, 3, .getfield 25, 6, 7, .inl .null), (14, 1, .lconst 0, 0, 0, .inl (.long 0)), (15, 3, .invokestatic 63, 309, 2, .inr (0, 0, 0)), (18, 1, .aload_n 0, 0, 0, .inl .null), (19, 3, .getfield 15, 6, 3, .inl .null), (22, 1, .iconst 0, 0, 0, .inl (.int 0)), (23, 1, .aload_n 0, 0, 0, .inl .null), (24, 3, .getfield 29, 6, 8, .inl .null), (27, 1, .iconst 0, 0, 0, .inl (.int 0)), (28, 1, .aload_n 0, 0, 0, .inl .null), (29, 3, .getfield 29, 6, 8, .inl .null), (32, 1, .arraylength, 0, 0, .inl .null), (33, 3, .invokestatic 54, 0, 9, .inl .null), (36, 1, .return_, 0, 0, .inl .null)]
def cd_X6_digitLimit : List gE := [(0, 1, .iconst 0, 0, 0, .inl (.int 0)), (1, 1, .istore_n 1, 1, 0, .inl .null), (2, 1, .aload_n 0, 0, 0, .inl .null), (3, 3, .getfield 39, 6, 1, .inl .null), (6, 1, .i2l, 0, 0, .inl .null), (7, 1, .lstore_n 2, 2, 0, .inl .null), (8, 1, .iload_n 1, 1, 0, .inl .null), (9, 2, .bipush 64, 0, 0, .inl (.int 64)), (11, 3, .if_icmp .ge 31, 42, 0, .inl .null), (14, 1, .lload_n 2, 2, 0, .inl .null), (15, 1, .lconst 1, 0, 0, .inl (.long 1)), (16, 1, .lcmp, 0, 0, .inl .null), (17, 3, .ifCond .le 25, 42, 0, .inl .null), (20, 1, .lload_n 2, 2, 0, .inl .null), (21, 3, .ldc2_w 66, 0, 0, .inl (.long 1000000000000)), (24, 1, .lcmp, 0, 0, .inl .null), (25, 3, .ifCond .gt 17, 42, 0, .inl .null), (28, 3, .iinc 1 1, 1, 0, .inl (.int 1)), (31, 1, .lload_n 2, 2, 0, .inl .null), (32, 1, .aload_n 0, 0, 0, .inl .null), (33, 3, .getfield 39, 6, 1, .inl .null), (36, 1, .i2l, 0, 0, .inl .null), (37, 1, .lmul, 0, 0, .inl .null), (38, 1, .lstore_n 2, 2, 0, .inl .null), (39, 3, .goto (-31), 8, 0, .inl .null), (42, 1, .iload_n 1, 1, 0, .inl .null), (43, 1, .ireturn, 0, 0, .inl .null)]
def cd_X6_digitOf : List gE := [(0, 1, .aload_n 0, 0, 0, .inl .null), (1, 3, .getfield 39, 6, 1, .inl .null), (4, 1, .iconst 1, 0, 0, .inl (.int 1)), (5, 3, .if_icmp .lt 16, 21, 0, .inl .null), (8, 1, .iload_n 2, 2, 0, .inl .null), (9, 3, .ifCond .lt 12, 21, 0, .inl .null), (12, 1, .iload_n 2, 2, 0, .inl .null), (13, 1, .aload_n 0, 0, 0, .inl .null), (14, 3, .getfield 25, 6, 7, .inl .null), (17, 1, .arraylength, 0, 0, .inl .null), (18, 3, .if_icmp .lt 5, 23, 0, .inl .null), (21, 1, .iconst 0, 0, 0, .inl (.int 0)), (22, 1, .ireturn, 0, 0, .inl .null), (23, 1, .aload_n 0, 0, 0, .inl .null), (24, 3, .getfield 25, 6, 7, .inl .null), (27, 1, .iload_n 2, 2, 0, .inl .null), (28, 1, .laload, 0, 0, .inl .null), (29, 1, .lstore_n 3, 3, 0, .inl .null), (30, 1, .iconst 0, 0, 0, .inl (.int 0)), (31, 2, .istore 5, 5, 0, .inl .null), (33, 2, .iload 5, 5, 0, .inl .null), (35, 1, .iload_n 1, 1, 0, .inl .null), (36, 3, .if_icmp .ge 17, 53, 0, .inl .null), (39, 1, .lload_n 3, 3, 0, .inl .null), (40, 1, .aload_n 0, 0, 0, .inl .null), (41, 3, .getfield 39, 6, 1, .inl .null), (44, 1, .i2l, 0, 0, .inl .null), (45, 1, .ldiv, 0, 0, .inl .null), (46, 1, .lstore_n 3, 3, 0, .inl .null), (47, 3, .iinc 5 1, 5, 0, .inl (.int 1)), (50, 3, .goto (-17), 33, 0, .inl .null), (53, 1, .lload_n 3, 3, 0, .inl .null), (54, 1, .aload_n 0, 0, 0, .inl .null), (55, 3, .getfield 39, 6, 1, .inl .null), (58, 1, .i2l, 0, 0, .inl .null), (59, 1, .lrem, 0, 0, .inl .null), (60, 1, .l2i, 0, 0, .inl .null), (61, 1, .ireturn, 0, 0, .inl .null)]
def cd_X6_enter : List gE := [(0, 1, .aload_n 0, 0, 0, .inl .null), (1, 3, .getfield 48, 6, 9, .inl .null), (4, 2, .bipush 30, 0, 0, .inl (.int 30)), (6, 3, .if_icmp .lt 4, 10, 0, .inl .null), (9, 1, .return_, 0, 0, .inl .null), (10, 1, .iconst 0, 0, 0, .inl (.int 0)), (11, 1, .istore_n 2, 2, 0, .inl .null), (12, 1, .iconst 0, 0, 0, .inl (.int 0)), (13, 1, .istore_n 3, 3, 0, .inl .null), (14, 1, .iload_n 3, 3, 0, .inl .null), (15, 1, .aload_n 0, 0, 0, .inl .null), (16, 3, .getfield 35, 6, 0, .inl .null), (19, 3, .if_icmp .ge 32, 51, 0, .inl .null), (22, 1, .iload_n 3, 3, 0, .inl .null), (23, 1, .aload_n 0, 0, 0, .inl .null), (24, 3, .getfield 29, 6, 8, .inl .null), (27, 1, .arraylength, 0, 0, .inl .null), (28, 3, .if_icmp .ge 23, 51, 0, .inl .null), (31, 1, .iload_n 2, 2, 0, .inl .null), (32, 1, .aload_n 0, 0, 0, .inl .null), (33, 3, .getfield 29, 6, 8, .inl .null), (36, 1, .iload_n 3, 3, 0, .inl .null), (37, 1, .iaload, 0, 0, .inl .null), (38, 3, .invokestatic 68, 305, 1, .inr (1, 0, 0)), (41, 3, .invokestatic 74, 307, 2, .inr (1, 0, 0)), (44, 1, .istore_n 2, 2, 0, .inl .null), (45, 3, .iinc 3 1, 3, 0, .inl (.int 1)), (48, 3, .goto (-34), 14, 0, .inl .null), (51, 1, .iconst 3, 0, 0, .inl (.int 3)), (52, 1, .aload_n 0, 0, 0, .inl .null), (53, 3, .getfield 48, 6, 9, .inl .null), (56, 1, .imul, 0, 0, .inl .null), (57, 1, .istore_n 3, 3, 0, .inl .null), (58, 1, .aload_n 0, 0, 0, .inl .null), (59, 3, .getfield 32, 6, 10, .inl .null), (62, 1, .iload_n 3, 3, 0, .inl .null), (63, 1, .aload_n 0, 0, 0, .inl .null), (64, 3, .getfield 60, 6, 5, .inl .null), (67, 1, .iastore, 0, 0, .inl .null), (68, 1, .aload_n 0, 0, 0, .inl .null), (69, 3, .getfield 32, 6, 10, .inl .null), (72, 1, .iload_n 3, 3, 0, .inl .null), (73, 1, .iconst 1, 0, 0, .inl (.int 1)), (74, 1, .iadd, 0, 0, .inl .null), (75, 1, .iload_n 2, 2, 0, .inl .null), (76, 1, .iastore, 0, 0, .inl .null), (77, 1, .aload_n 0, 0, 0, .inl .null), (78, 3, .getfield 32, 6, 10, .inl .null), (81, 1, .iload_n 3, 3, 0, .inl .null), (82, 1, .iconst 2, 0, 0, .inl (.int 2)), (83, 1, .iadd, 0, 0, .inl .null), (84, 1, .iload_n 1, 1, 0, .inl .null), (85, 3, .ifCond .eq 7, 92, 0, .inl .null), (88, 1, .iconst 1, 0, 0, .inl (.int 1)), (89, 3, .goto 4, 93, 0, .inl .null), (92, 1, .iconst 0, 0, 0, .inl (.int 0)), (93, 1, .iastore, 0, 0, .inl .null), (94, 1, .aload_n 0, 0, 0, .inl .null), (95, 1, .dup, 0, 0, .inl .null), (96, 3, .getfield 48, 6, 9, .inl .null), (99, 1, .iconst 1, 0, 0, .inl (.int 1)), (100, 1, .iadd, 0, 0, .inl .null), (101, 3, .putfield 48, 6, 9, .inl .null), (104, 1, .return_, 0, 0, .inl .null)]
def cd_X7_append : List gE := [(0, 1, .aload_n 0, 0, 0, .inl .null), (1, 3, .getfield 10, 3, 0, .inl .null), (4, 3, .getfield 73, 4, 1, .inl .null), (7, 3, .sipush 680, 0, 0, .inl (.int 680)), (10, 3, .if_icmp .le 5, 15, 0, .inl .null), (13, 1, .iconst (-1), 0, 0, .inl (.int (-1))), (14, 1, .ireturn, 0, 0, .inl .null), (15, 1, .aload_n 0, 0, 0, .inl .null), (16, 3, .getfield 10, 3, 0, .inl .null), (19, 1, .iload_n 1, 1, 0, .inl .null), (20, 3, .invokevirtual 77, 21, 66, .inr (0, 0, 0)), (23, 1, .aload_n 0, 0, 0, .inl .null), (24, 3, .getfield 10, 3, 0, .inl .null), (27, 1, .iload_n 2, 2, 0, .inl .null), (28, 3, .invokevirtual 77, 21, 66, .inr (0, 0, 0)), (31, 1, .aload_n 0, 0, 0, .inl .null), (32, 3, .getfield 10, 3, 0, .inl .null), (35, 1, .iload_n 3, 3, 0, .inl .null), (36, 3, .invokevirtual 77, 21, 66, .inr (0, 0, 0)), (39, 1, .aload_n 0, 0, 0, .inl .null), (40, 3, .getfield 10, 3, 0, .inl .null), (43, 2, .iload 4, 4, 0, .inl .null), (45, 3, .invokevirtual 77, 21, 66, .inr (0, 0, 0)), (48, 1, .aload_n 0, 0, 0, .inl .null), (49, 3, .getfield 10, 3, 0, .inl .null), (52, 2, .iload 5, 5, 0, .inl .null), (54, 3, .invokevirtual 77, 21, 66, .inr (0, 0, 0)), (57, 1, .aload_n 0, 0, 0, .inl .null), (58, 3, .getfield 10, 3, 0, .inl .null), (61, 3, .getfield 73, 4, 1, .inl .null), (64, 1, .ireturn, 0, 0, .inl .null)]
def cd_X7_load : List gE := [(0, 1, .iload_n 1, 1, 0, .inl .null), (1, 3, .ifCond .lt 14, 15, 0, .inl .null), (4, 1, .iload_n 1, 1, 0, .inl .null), (5, 1, .aload_n 0, 0, 0, .inl .null), (6, 3, .getfield 10, 3, 0, .inl .null), (9, 3, .getfield 73, 4, 1, .inl .null), (12, 3, .if_icmp .le 13, 25, 0, .inl .null), (15, 3, .new 81, 1, 1, .inl .null), (18, 1, .dup, 0, 0, .inl .null), (19, 2, .ldc 83, 0, 0, .inl .null), (21, 3, .invokespecial 85, 0, 0, .inl .null), (24, 1, .athrow, 0, 0, .inl .null), (25, 1, .aload_n 0, 0, 0, .inl .null), (26, 3, .getfield 10, 3, 0, .inl .null), (29, 1, .iload_n 1, 1, 0, .inl .null), (30, 3, .invokevirtual 88, 22, 66, .inr (1, 0, 0)), (33, 3, .ifCond .ne 13, 46, 0, .inl .null), (36, 3, .new 92, 1, 2, .inl .null), (39, 1, .dup, 0, 0, .inl .null), (40, 2, .ldc 94, 0, 0, .inl .null), (42, 3, .invokespecial 96, 0, 0, .inl .null), (45, 1, .athrow, 0, 0, .inl .null), (46, 1, .aload_n 0, 0, 0, .inl .null), (47, 3, .getfield 19, 3, 1, .inl .null), (50, 1, .aload_n 0, 0, 0, .inl .null), (51, 3, .getfield 10, 3, 0, .inl .null), (54, 3, .getfield 97, 4, 2, .inl .null), (57, 3, .invokevirtual 100, 45, 98, .inr (0, 0, 0)), (60, 1, .aload_n 0, 0, 0, .inl .null), (61, 3, .getfield 29, 3, 3, .inl .null), (64, 3, .invokevirtual 104, 20, 209, .inr (0, 0, 0)), (67, 1, .iconst 0, 0, 0, .inl (.int 0)), (68, 1, .istore_n 2, 2, 0, .inl .null), (69, 1, .iload_n 2, 2, 0, .inl .null), (70, 1, .iconst 2, 0, 0, .inl (.int 2)), (71, 3, .if_icmp .ge 16, 87, 0, .inl .null), (74, 1, .aload_n 0, 0, 0, .inl .null), (75, 3, .getfield 37, 3, 5, .inl .null), (78, 1, .iload_n 2, 2, 0, .inl .null), (79, 1, .iconst 0, 0, 0, .inl (.int 0)), (80, 1, .bastore, 0, 0, .inl .null), (81, 3, .iinc 2 1, 2, 0, .inl (.int 1)), (84, 3, .goto (-15), 69, 0, .inl .null), (87, 1, .aload_n 0, 0, 0, .inl .null), (88, 3, .getfield 19, 3, 1, .inl .null), (91, 3, .getfield 107, 6, 0, .inl .null), (94, 1, .ireturn, 0, 0, .inl .null)]
def cd_X7_parseError : List gE := [(0, 1, .aload_n 0, 0, 0, .inl .null), (1, 3, .getfield 10, 3, 0, .inl .null), (4, 3, .getfield 110, 4, 3, .inl .null), (7, 1, .ireturn, 0, 0, .inl .null)]
def cd_X7_errorPosition : List gE := [(0, 1, .aload_n 0, 0, 0, .inl .null), (1, 3, .getfield 10, 3, 0, .inl .null), (4, 3, .getfield 110, 4, 3, .inl .null), (7, 3, .ifCond .ne 7, 14, 0, .inl .null), (10, 1, .iconst (-1), 0, 0, .inl (.int (-1))), (11, 3, .goto 10, 21, 0, .inl .null), (14, 1, .aload_n 0, 0, 0, .inl .null), (15, 3, .getfield 10, 3, 0, .inl .null), (18, 3, .getfield 113, 4, 4, .inl .null), (21, 1, .ireturn, 0, 0, .inl .null)]
def cd_X7_buffered : List gE := [(0, 1, .aload_n 0, 0, 0, .inl .null), (1, 3, .getfield 10, 3, 0, .inl .null), (4, 3, .getfield 73, 4, 1, .inl .null), (7, 1, .ireturn, 0, 0, .inl .null)]
def cd_X7_size : List gE := [(0, 1, .aload_n 0, 0, 0, .inl .null), (1, 3, .getfield 19, 3, 1, .inl .null), (4, 3, .getfield 107, 6, 0, .inl .null), (7, 1, .ireturn, 0, 0, .inl .null)]
def cd_X7_prime : List gE := [(0, 1, .aload_n 0, 0, 0, .inl .null), (1, 3, .getfield 19, 3, 1, .inl .null), (4, 3, .getfield 116, 6, 1, .inl .null), (7, 1, .ireturn, 0, 0, .inl .null)]
def cd_X7_diagonal : List gE := [(0, 1, .aload_n 0, 0, 0, .inl .null), (1, 3, .invokevirtual 119, 110, 49, .inr (0, 1, 6)), (4, 1, .aload_n 0, 0, 0, .inl .null), (5, 1, .iload_n 1, 1, 0, .inl .null), (6, 3, .invokevirtual 122, 114, 50, .inr (0, 1, 6)), (9, 1, .aload_n 0, 0, 0, .inl .null), (10, 3, .getfield 19, 3, 1, .inl .null), (13, 1, .iload_n 1, 1, 0, .inl .null), (14, 3, .invokevirtual 125, 46, 98, .inr (1, 0, 0)), (17, 1, .ireturn, 0, 0, .inl .null)]
def cd_X7_entry : List gE := [(0, 1, .aload_n 0, 0, 0, .inl .null), (1, 3, .invokevirtual 119, 110, 49, .inr (0, 1, 6)), (4, 1, .aload_n 0, 0, 0, .inl .null), (5, 1, .iload_n 1, 1, 0, .inl .null), (6, 3, .invokevirtual 129, 111, 50, .inr (0, 1, 6)), (9, 1, .aload_n 0, 0, 0, .inl .null), (10, 1, .iload_n 2, 2, 0, .inl .null), (11, 3, .invokevirtual 129, 111, 50, .inr (0, 1, 6)), (14, 1, .aload_n 0, 0, 0, .inl .null), (15, 3, .getfield 19, 3, 1, .inl .null), (18, 1, .iload_n 1, 1, 0, .inl .null), (19, 1, .iload_n 2, 2, 0, .inl .null), (20, 1, .isub, 0, 0, .inl .null), (21, 3, .invokevirtual 125, 46, 98, .inr (1, 0, 0)), (24, 1, .ireturn, 0, 0, .inl .null)]
def cd_X7_side : List gE := [(0, 1, .aload_n 0, 0, 0, .inl .null), (1, 3, .invokevirtual 119, 110, 49, .inr (0, 1, 6)), (4, 1, .aload_n 0, 0, 0, .inl .null), (5, 1, .iload_n 1, 1, 0, .inl .null), (6, 3, .invokevirtual 129, 111, 50, .inr (0, 1, 6)), (9, 1, .aload_n 0, 0, 0, .inl .null), (10, 3, .getfield 19, 3, 1, .inl .null), (13, 3, .getfield 132, 6, 3, .inl .null), (16, 1, .iload_n 1, 1, 0, .inl .null), (17, 1, .iaload, 0, 0, .inl .null), (18, 1, .ireturn, 0, 0, .inl .null)]
def cd_X7_probe : List gE := [(0, 1, .aload_n 0, 0, 0, .inl .null), (1, 3, .invokevirtual 119, 110, 49, .inr (0, 1, 6)), (4, 1, .aload_n 0, 0, 0, .inl .null), (5, 1, .iload_n 1, 1, 0, .inl .null), (6, 3, .invokevirtual 129, 111, 50, .inr (0, 1, 6)), (9, 1, .aload_n 0, 0, 0, .inl .null), (10, 3, .getfield 19, 3, 1, .inl .null), (13, 3, .getfield 135, 6, 4, .inl .null), (16, 1, .iload_n 1, 1, 0, .inl .null), (17, 1, .iaload, 0, 0, .inl .null), (18, 1, .ireturn, 0, 0, .inl .null)]
def cd_X7_minor : List gE := [(0, 1, .aload_n 0, 0, 0, .inl .null), (1, 3, .invokevirtual 119, 110, 49, .inr (0, 1, 6)), (4, 1, .aload_n 0, 0, 0, .inl .null), (5, 1, .iload_n 1, 1, 0, .inl .null), (6, 3, .invokevirtual 138, 115, 50, .inr (0, 1, 6)), (9, 1, .aload_n 0, 0, 0, .inl .null), (10, 1, .iload_n 1, 1, 0, .inl .null), (11, 1, .aload_n 0, 0, 0, .inl .null), (12, 3, .getfield 19, 3, 1, .inl .null), (15, 3, .getfield 116, 6, 1, .inl .null), (18, 3, .invokevirtual 141, 122, 51, .inr (1, 0, 0)), (21, 1, .ireturn, 0, 0, .inl .null)]
def cd_X7_rank : List gE := [(0, 1, .aload_n 0, 0, 0, .inl .null), (1, 3, .invokevirtual 119, 110, 49, .inr (0, 1, 6)), (4, 1, .aload_n 0, 0, 0, .inl .null), (5, 3, .getfield 44, 3, 6, .inl .null), (8, 1, .aload_n 0, 0, 0, .inl .null), (9, 3, .getfield 19, 3, 1, .inl .null), (12, 1, .aload_n 0, 0, 0, .inl .null), (13, 3, .getfield 19, 3, 1, .inl .null), (16, 3, .getfield 107, 6, 0, .inl .null), (19, 1, .aload_n 0, 0, 0, .inl .null), (20, 3, .getfield 19, 3, 1, .inl .null), (23, 3, .getfield 116, 6, 1, .inl .null), (26, 1, .iconst 0, 0, 0, .inl (.int 0)), (27, 3, .invokevirtual 145, 6, 277, .inr (0, 0, 0)), (30, 1, .aload_n 0, 0, 0, .inl .null), (31, 3, .getfield 44, 3, 6, .inl .null), (34, 1, .aload_n 0, 0, 0, .inl .null), (35, 3, .getfield 19, 3, 1, .inl .null), (38, 3, .getfield 107, 6, 0, .inl .null), (41, 3, .invokevirtual 149, 11, 274, .inr (1, 0, 0)), (44, 1, .ireturn, 0, 0, .inl .null)]
def cd_X7_isRegular : List gE := [(0, 1, .aload_n 0, 0, 0, .inl .null), (1, 3, .invokevirtual 119, 110, 49, .inr (0, 1, 6)), (4, 1, .aload_n 0, 0, 0, .inl .null), (5, 1, .aload_n 0, 0, 0, .inl .null), (6, 3, .getfield 19, 3, 1, .inl .null), (9, 3, .getfield 107, 6, 0, .inl .null), (12, 1, .aload_n 0, 0, 0, .inl .null), (13, 3, .getfield 19, 3, 1, .inl .null), (16, 3, .getfield 116, 6, 1, .inl .null), (19, 3, .invokevirtual 141, 122, 51, .inr (1, 0, 0)), (22, 3, .ifCond .eq 7, 29, 0, .inl .null), (25, 1, .iconst 1, 0, 0, .inl (.int 1)), (26, 3, .goto 4, 30, 0, .inl .null), (29, 1, .iconst 0, 0, 0, .inl (.int 0)), (30, 1, .ireturn, 0, 0, .inl .null)]
def cd_X7_steps : List gE := [(0, 1, .aload_n 0, 0, 0, .inl .null), (1, 3, .invokevirtual 119, 110, 49, .inr (0, 1, 6)), (4, 1, .aload_n 0, 0, 0, .inl .null), (5, 3, .invokevirtual 152, 123, 49, .inr (1, 0, 0)), (8, 1, .ireturn, 0, 0, .inl .null)]
def cd_X7_stepEnd : List gE := [(0, 1, .aload_n 0, 0, 0, .inl .null), (1, 3, .invokevirtual 119, 110, 49, .inr (0, 1, 6)), (4, 1, .aload_n 0, 0, 0, .inl .null), (5, 1, .iload_n 1, 1, 0, .inl .null), (6, 3, .invokevirtual 156, 124, 50, .inr (1, 1, 6)), (9, 1, .ireturn, 0, 0, .inl .null)]
def cd_X7_longestJump : List gE := [(0, 1, .aload_n 0, 0, 0, .inl .null), (1, 3, .invokevirtual 119, 110, 49, .inr (0, 1, 6)), (4, 1, .aload_n 0, 0, 0, .inl .null), (5, 3, .invokevirtual 152, 123, 49, .inr (1, 0, 0)), (8, 1, .istore_n 1, 1, 0, .inl .null), (9, 1, .iconst 0, 0, 0, .inl (.int 0)), (10, 1, .istore_n 2, 2, 0, .inl .null), (11, 1, .iconst 1, 0, 0, .inl (.int 1)), (12, 1, .istore_n 3, 3, 0, .inl .null), (13, 1, .iload_n 3, 3, 0, .inl .null), (14, 1, .iload_n 1, 1, 0, .inl .null), (15, 3, .if_icmp .gt 29, 44, 0, .inl .null), (18, 1, .iload_n 2, 2, 0, .inl .null), (19, 1, .aload_n 0, 0, 0, .inl .null), (20, 3, .getfield 69, 3, 10, .inl .null), (23, 1, .iload_n 3, 3, 0, .inl .null), (24, 1, .iaload, 0, 0, .inl .null), (25, 1, .aload_n 0, 0, 0, .inl .null), (26, 3, .getfield 69, 3, 10, .inl .null), (29, 1, .iload_n 3, 3, 0, .inl .null), (30, 1, .iconst 1, 0, 0, .inl (.int 1)), (31, 1, .isub, 0, 0, .inl .null), (32, 1, .iaload, 0, 0, .inl .null), (33, 1, .isub, 0, 0, .inl .null), (34, 3, .invokestatic 159, 307, 2, .inr (1, 0, 0)), (37, 1, .istore_n 2, 2, 0, .inl .null), (38, 3, .iinc 3 1, 3, 0, .inl (.int 1)), (41, 3, .goto (-28), 13, 0, .inl .null), (44, 1, .iload_n 2, 2, 0, .inl .null), (45, 1, .ireturn, 0, 0, .inl .null)]
def cd_X7_tail : List gE := [(0, 1, .aload_n 0, 0, 0, .inl .null), (1, 3, .invokevirtual 119, 110, 49, .inr (0, 1, 6)), (4, 1, .aload_n 0, 0, 0, .inl .null), (5, 3, .getfield 19, 3, 1, .inl .null), (8, 3, .getfield 107, 6, 0, .inl .null), (11, 1, .aload_n 0, 0, 0, .inl .null), (12, 3, .getfield 69, 3, 10, .inl .null), (15, 1, .aload_n 0, 0, 0, .inl .null), (16, 3, .invokevirtual 152, 123, 49, .inr (1, 0, 0)), (19, 1, .iaload, 0, 0, .inl .null), (20, 1, .isub, 0, 0, .inl .null), (21, 1, .ireturn, 0, 0, .inl .null)]
def cd_X7_regularPrimes : List gE := [(0, 1, .aload_n 0, 0, 0, .inl .null), (1, 3, .invokevirtual 119, 110, 49, .inr (0, 1, 6)), (4, 1, .iconst 0, 0, 0, .inl (.int 0)), (5, 1, .istore_n 1, 1, 0, .inl .null), (6, 1, .iconst 0, 0, 0, .inl (.int 0)), (7, 1, .istore_n 2, 2, 0, .inl .null), (8, 1, .iload_n 2, 2, 0, .inl .null), (9, 3, .getstatic 164, 0, 0, .inr (1, 0, 0)), (12, 1, .arraylength, 0, 0, .inl .null), (13, 3, .if_icmp .ge 34, 47, 0, .inl .null), (16, 1, .aload_n 0, 0, 0, .inl .null), (17, 1, .aload_n 0, 0, 0, .inl .null), (18, 3, .getfield 19, 3, 1, .inl .null), (21, 3, .getfield 107, 6, 0, .inl .null), (24, 3, .getstatic 164, 0, 0, .inr (1, 0, 0)), (27, 1, .iload_n 2, 2, 0, .inl .null), (28, 1, .iaload, 0, 0, .inl .null), (29, 3, .invokevirtual 141, 122, 51, .inr (1, 0, 0)), (32, 3, .ifCond .eq 9, 41, 0, .inl .null), (35, 1, .iload_n 1, 1, 0, .inl .null), (36, 1, .iconst 1, 0, 0, .inl (.int 1)), (37, 1, .iload_n 2, 2, 0, .inl .null), (38, 1, .ishl, 0, 0, .inl .null), (39, 1, .ior, 0, 0, .inl .null), (40, 1, .istore_n 1, 1, 0, .inl .null), (41, 3, .iinc 2 1, 2, 0, .inl (.int 1)), (44, 3, .goto (-36), 8, 0, .inl .null), (47, 1, .iload_n 1, 1, 0, .inl .null), (48, 1, .ireturn, 0, 0, .inl .null)]
def cd_X7_minorIf : List gE := [(0, 1, .aload_n 0, 0, 0, .inl .null), (1, 3, .invokevirtual 119, 110, 49, .inr (0, 1, 6)), (4, 1, .aload_n 0, 0, 0, .inl .null), (5, 1, .iload_n 1, 1, 0, .inl .null), (6, 3, .invokevirtual 122, 114, 50, .inr (0, 1, 6)), (9, 1, .aload_n 0, 0, 0, .inl .null), (10, 1, .iload_n 3, 3, 0, .inl .null), (11, 3, .invokevirtual 138, 115, 50, .inr (0, 1, 6)), (14, 1, .iload_n 2, 2, 0, .inl .null), (15, 2, .bipush 50, 0, 0, .inl (.int 50)), (17, 3, .invokestatic 167, 117, 2, .inr (0, 1, 6)), (20, 1, .aload_n 0, 0, 0, .inl .null), (21, 3, .getfield 23, 3, 2, .inl .null), (24, 1, .aload_n 0, 0, 0, .inl .null), (25, 3, .getfield 19, 3, 1, .inl .null), (28, 3, .invokevirtual 100, 45, 98, .inr (0, 0, 0)), (31, 1, .aload_n 0, 0, 0, .inl .null), (32, 3, .getfield 23, 3, 2, .inl .null), (35, 1, .iload_n 1, 1, 0, .inl .null), (36, 1, .iload_n 2, 2, 0, .inl .null), (37, 3, .invokevirtual 171, 47, 99, .inr (0, 0, 0)), (40, 1, .aload_n 0, 0, 0, .inl .null), (41, 3, .getfield 44, 3, 6, .inl .null), (44, 1, .aload_n 0, 0, 0, .inl .null), (45, 3, .getfield 23, 3, 2, .inl .null), (48, 1, .iload_n 3, 3, 0, .inl .null), (49, 1, .aload_n 0, 0, 0, .inl .null), (50, 3, .getfield 23, 3, 2, .inl .null), (53, 3, .getfield 116, 6, 1, .inl .null), (56, 1, .iconst 0, 0, 0, .inl (.int 0)), (57, 3, .invokevirtual 145, 6, 277, .inr (0, 0, 0)), (60, 1, .aload_n 0, 0, 0, .inl .null), (61, 3, .getfield 44, 3, 6, .inl .null), (64, 1, .iload_n 3, 3, 0, .inl .null), (65, 3, .invokevirtual 149, 11, 274, .inr (1, 0, 0)), (68, 1, .pop, 0, 0, .inl .null), (69, 1, .aload_n 0, 0, 0, .inl .null), (70, 3, .getfield 44, 3, 6, .inl .null), (73, 3, .invokevirtual 174, 10, 273, .inr (1, 0, 0)), (76, 1, .ireturn, 0, 0, .inl .null)]
def cd_X7_schur : List gE := [(0, 1, .aload_n 0, 0, 0, .inl .null), (1, 3, .invokevirtual 119, 110, 49, .inr (0, 1, 6)), (4, 1, .aload_n 0, 0, 0, .inl .null), (5, 1, .iload_n 1, 1, 0, .inl .null), (6, 3, .invokevirtual 156, 124, 50, .inr (1, 1, 6)), (9, 2, .istore 4, 4, 0, .inl .null), (11, 1, .aload_n 0, 0, 0, .inl .null), (12, 2, .iload 4, 4, 0, .inl .null), (14, 1, .iload_n 2, 2, 0, .inl .null), (15, 3, .invokevirtual 177, 112, 51, .inr (0, 1, 6)), (18, 1, .aload_n 0, 0, 0, .inl .null), (19, 2, .iload 4, 4, 0, .inl .null), (21, 1, .iload_n 3, 3, 0, .inl .null), (22, 3, .invokevirtual 177, 112, 51, .inr (0, 1, 6)), (25, 1, .aload_n 0, 0, 0, .inl .null), (26, 2, .iload 4, 4, 0, .inl .null), (28, 3, .invokevirtual 180, 125, 50, .inr (0, 0, 0)), (31, 1, .aload_n 0, 0, 0, .inl .null), (32, 3, .getfield 44, 3, 6, .inl .null), (35, 1, .iload_n 2, 2, 0, .inl .null), (36, 1, .iload_n 3, 3, 0, .inl .null), (37, 3, .invokevirtual 183, 8, 275, .inr (1, 0, 0)), (40, 1, .ireturn, 0, 0, .inl .null)]
def cd_X7_displacement : List gE := [(0, 1, .aload_n 0, 0, 0, .inl .null), (1, 3, .invokevirtual 119, 110, 49, .inr (0, 1, 6)), (4, 1, .aload_n 0, 0, 0, .inl .null), (5, 1, .iload_n 1, 1, 0, .inl .null), (6, 3, .invokevirtual 156, 124, 50, .inr (1, 1, 6)), (9, 2, .istore 4, 4, 0, .inl .null), (11, 1, .aload_n 0, 0, 0, .inl .null), (12, 2, .iload 4, 4, 0, .inl .null), (14, 1, .iload_n 2, 2, 0, .inl .null), (15, 3, .invokevirtual 177, 112, 51, .inr (0, 1, 6)), (18, 1, .aload_n 0, 0, 0, .inl .null), (19, 2, .iload 4, 4, 0, .inl .null), (21, 1, .iload_n 3, 3, 0, .inl .null), (22, 3, .invokevirtual 177, 112, 51, .inr (0, 1, 6)), (25, 1, .aload_n 0, 0, 0, .inl .null), (26, 2, .iload 4, 4, 0, .inl .null), (28, 3, .invokevirtual 180, 125, 50, .inr (0, 0, 0)), (31, 1, .aload_n 0, 0, 0, .inl .null), (32, 3, .getfield 44, 3, 6, .inl .null), (35, 2, .iload 4, 4, 0, .inl .null), (37, 3, .invokevirtual 186, 17, 274, .inr (0, 0, 0)), (40, 1, .aload_n 0, 0, 0, .inl .null), (41, 3, .getfield 44, 3, 6, .inl .null), (44, 1, .iload_n 2, 2, 0, .inl .null), (45, 1, .iload_n 3, 3, 0, .inl .null), (46, 3, .invokevirtual 183, 8, 275, .inr (1, 0, 0)), (49, 1, .ireturn, 0, 0, .inl .null)]
def cd_X7_generators : List gE := [(0, 1, .aload_n 0, 0, 0, .inl .null), (1, 3, .invokevirtual 119, 110, 49, .inr (0, 1, 6)), (4, 1, .aload_n 0, 0, 0, .inl .null), (5, 1, .aload_n 0, 0, 0, .inl .null), (6, 1, .iload_n 1, 1, 0, .inl .null), (7, 3, .invokevirtual 156, 124, 50, .inr (1, 1, 6)), (10, 3, .invokevirtual 189, 126, 50, .inr (1, 0, 0)), (13, 1, .ireturn, 0, 0, .inl .null)]
def cd_X7_generator : List gE := [(0, 1, .aload_n 0, 0, 0, .inl .null), (1, 3, .invokevirtual 119, 110, 49, .inr (0, 1, 6)), (4, 1, .aload_n 0, 0, 0, .inl .null), (5, 1, .iload_n 1, 1, 0, .inl .null), (6, 3, .invokevirtual 156, 124, 50, .inr (1, 1, 6)), (9, 2, .istore 5, 5, 0, .inl .null), (11, 1, .aload_n 0, 0, 0, .inl .null), (12, 2, .iload 5, 5, 0, .inl .null), (14, 1, .iload_n 3, 3, 0, .inl .null), (15, 3, .invokevirtual 177, 112, 51, .inr (0, 1, 6)), (18, 1, .iload_n 2, 2, 0, .inl .null), (19, 3, .ifCond .lt 13, 32, 0, .inl .null), (22, 1, .iload_n 2, 2, 0, .inl .null), (23, 1, .aload_n 0, 0, 0, .inl .null), (24, 2, .iload 5, 5, 0, .inl .null), (26, 3, .invokevirtual 189, 126, 50, .inr (1, 0, 0)), (29, 3, .if_icmp .lt 13, 42, 0, .inl .null), (32, 3, .new 81, 1, 1, .inl .null), (35, 1, .dup, 0, 0, .inl .null), (36, 2, .ldc 192, 0, 0, .inl .null), (38, 3, .invokespecial 85, 0, 0, .inl .null), (41, 1, .athrow, 0, 0, .inl .null), (42, 1, .aload_n 0, 0, 0, .inl .null), (43, 3, .getfield 51, 3, 7, .inl .null), (46, 1, .iload_n 2, 2, 0, .inl .null), (47, 1, .iload_n 3, 3, 0, .inl .null), (48, 2, .iload 4, 4, 0, .inl .null), (50, 3, .invokevirtual 194, 40, 324, .inr (1, 0, 0)), (53, 1, .ireturn, 0, 0, .inl .null)]
def cd_X7_mostGenerators : List gE := [(0, 1, .aload_n 0, 0, 0, .inl .null), (1, 3, .invokevirtual 119, 110, 49, .inr (0, 1, 6)), (4, 1, .aload_n 0, 0, 0, .inl .null), (5, 3, .invokevirtual 152, 123, 49, .inr (1, 0, 0)), (8, 1, .istore_n 1, 1, 0, .inl .null), (9, 1, .iconst 0, 0, 0, .inl (.int 0)), (10, 1, .istore_n 2, 2, 0, .inl .null), (11, 1, .iconst 0, 0, 0, .inl (.int 0)), (12, 1, .istore_n 3, 3, 0, .inl .null), (13, 1, .iload_n 3, 3, 0, .inl .null), (14, 1, .iload_n 1, 1, 0, .inl .null), (15, 3, .if_icmp .gt 24, 39, 0, .inl .null), (18, 1, .iload_n 2, 2, 0, .inl .null), (19, 1, .aload_n 0, 0, 0, .inl .null), (20, 1, .aload_n 0, 0, 0, .inl .null), (21, 3, .getfield 69, 3, 10, .inl .null), (24, 1, .iload_n 3, 3, 0, .inl .null), (25, 1, .iaload, 0, 0, .inl .null), (26, 3, .invokevirtual 189, 126, 50, .inr (1, 0, 0)), (29, 3, .invokestatic 159, 307, 2, .inr (1, 0, 0)), (32, 1, .istore_n 2, 2, 0, .inl .null), (33, 3, .iinc 3 1, 3, 0, .inl (.int 1)), (36, 3, .goto (-23), 13, 0, .inl .null), (39, 1, .iload_n 2, 2, 0, .inl .null), (40, 1, .ireturn, 0, 0, .inl .null)]
def cd_X7_solution : List gE := [(0, 1, .aload_n 0, 0, 0, .inl .null), (1, 3, .invokevirtual 119, 110, 49, .inr (0, 1, 6)), (4, 1, .aload_n 0, 0, 0, .inl .null), (5, 1, .iload_n 1, 1, 0, .inl .null), (6, 3, .invokevirtual 129, 111, 50, .inr (0, 1, 6)), (9, 1, .aload_n 0, 0, 0, .inl .null), (10, 3, .invokevirtual 198, 127, 49, .inr (1, 0, 0)), (13, 1, .aload_n 0, 0, 0, .inl .null), (14, 3, .getfield 19, 3, 1, .inl .null), (17, 3, .getfield 107, 6, 0, .inl .null), (20, 3, .if_icmp .ge 13, 33, 0, .inl .null), (23, 3, .new 92, 1, 2, .inl .null), (26, 1, .dup, 0, 0, .inl .null), (27, 2, .ldc 201, 0, 0, .inl .null), (29, 3, .invokespecial 96, 0, 0, .inl .null), (32, 1, .athrow, 0, 0, .inl .null), (33, 1, .aload_n 0, 0, 0, .inl .null), (34, 3, .getfield 44, 3, 6, .inl .null), (37, 1, .iload_n 1, 1, 0, .inl .null), (38, 1, .aload_n 0, 0, 0, .inl .null), (39, 3, .getfield 19, 3, 1, .inl .null), (42, 3, .getfield 107, 6, 0, .inl .null), (45, 3, .invokevirtual 183, 8, 275, .inr (1, 0, 0)), (48, 1, .ireturn, 0, 0, .inl .null)]
def cd_X7_inverse : List gE := [(0, 1, .aload_n 0, 0, 0, .inl .null), (1, 3, .invokevirtual 119, 110, 49, .inr (0, 1, 6)), (4, 1, .aload_n 0, 0, 0, .inl .null), (5, 1, .iload_n 1, 1, 0, .inl .null), (6, 3, .invokevirtual 129, 111, 50, .inr (0, 1, 6)), (9, 1, .aload_n 0, 0, 0, .inl .null), (10, 1, .iload_n 2, 2, 0, .inl .null), (11, 3, .invokevirtual 129, 111, 50, .inr (0, 1, 6)), (14, 1, .aload_n 0, 0, 0, .inl .null), (15, 3, .invokevirtual 203, 119, 49, .inr (0, 1, 6)), (18, 1, .aload_n 0, 0, 0, .inl .null), (19, 3, .getfield 65, 3, 9, .inl .null), (22, 1, .iload_n 1, 1, 0, .inl .null), (23, 1, .iload_n 2, 2, 0, .inl .null), (24, 3, .invokevirtual 206, 36, 451, .inr (1, 0, 0)), (27, 1, .ireturn, 0, 0, .inl .null)]
def cd_X7_kernel : List gE := [(0, 1, .aload_n 0, 0, 0, .inl .null), (1, 3, .invokevirtual 119, 110, 49, .inr (0, 1, 6)), (4, 1, .aload_n 0, 0, 0, .inl .null), (5, 1, .iload_n 1, 1, 0, .inl .null), (6, 3, .invokevirtual 129, 111, 50, .inr (0, 1, 6)), (9, 1, .aload_n 0, 0, 0, .inl .null), (10, 3, .getfield 19, 3, 1, .inl .null), (13, 3, .getfield 107, 6, 0, .inl .null), (16, 1, .istore_n 2, 2, 0, .inl .null), (17, 1, .aload_n 0, 0, 0, .inl .null), (18, 3, .getfield 44, 3, 6, .inl .null), (21, 1, .aload_n 0, 0, 0, .inl .null), (22, 3, .getfield 19, 3, 1, .inl .null), (25, 1, .iload_n 2, 2, 0, .inl .null), (26, 1, .aload_n 0, 0, 0, .inl .null), (27, 3, .getfield 19, 3, 1, .inl .null), (30, 3, .getfield 116, 6, 1, .inl .null), (33, 1, .iconst 0, 0, 0, .inl (.int 0)), (34, 3, .invokevirtual 145, 6, 277, .inr (0, 0, 0)), (37, 1, .aload_n 0, 0, 0, .inl .null), (38, 3, .getfield 44, 3, 6, .inl .null), (41, 1, .iload_n 2, 2, 0, .inl .null), (42, 3, .invokevirtual 149, 11, 274, .inr (1, 0, 0)), (45, 1, .iload_n 2, 2, 0, .inl .null), (46, 3, .if_icmp .ne 13, 59, 0, .inl .null), (49, 3, .new 92, 1, 2, .inl .null), (52, 1, .dup, 0, 0, .inl .null), (53, 2, .ldc 209, 0, 0, .inl .null), (55, 3, .invokespecial 96, 0, 0, .inl .null), (58, 1, .athrow, 0, 0, .inl .null), (59, 1, .aload_n 0, 0, 0, .inl .null), (60, 3, .getfield 44, 3, 6, .inl .null), (63, 1, .iload_n 1, 1, 0, .inl .null), (64, 3, .invokevirtual 211, 16, 274, .inr (1, 0, 0)), (67, 1, .ireturn, 0, 0, .inl .null)]
def cd_X7_isSolvable : List gE := [(0, 1, .aload_n 0, 0, 0, .inl .null), (1, 3, .invokevirtual 119, 110, 49, .inr (0, 1, 6)), (4, 1, .aload_n 0, 0, 0, .inl .null), (5, 3, .invokevirtual 198, 127, 49, .inr (1, 0, 0)), (8, 1, .istore_n 1, 1, 0, .inl .null), (9, 1, .iload_n 1, 1, 0, .inl .null), (10, 1, .istore_n 2, 2, 0, .inl .null), (11, 1, .iload_n 2, 2, 0, .inl .null), (12, 1, .aload_n 0, 0, 0, .inl .null), (13, 3, .getfield 19, 3, 1, .inl .null), (16, 3, .getfield 107, 6, 0, .inl .null), (19, 3, .if_icmp .ge 29, 48, 0, .inl .null), (22, 1, .aload_n 0, 0, 0, .inl .null), (23, 3, .getfield 44, 3, 6, .inl .null), (26, 1, .iload_n 2, 2, 0, .inl .null), (27, 1, .aload_n 0, 0, 0, .inl .null), (28, 3, .getfield 19, 3, 1, .inl .null), (31, 3, .getfield 107, 6, 0, .inl .null), (34, 3, .invokevirtual 183, 8, 275, .inr (1, 0, 0)), (37, 3, .ifCond .eq 5, 42, 0, .inl .null), (40, 1, .iconst 0, 0, 0, .inl (.int 0)), (41, 1, .ireturn, 0, 0, .inl .null), (42, 3, .iinc 2 1, 2, 0, .inl (.int 1)), (45, 3, .goto (-34), 11, 0, .inl .null), (48, 1, .iconst 1, 0, 0, .inl (.int 1)), (49, 1, .ireturn, 0, 0, .inl .null)]
def cd_X7_digits : List gE := [(0, 1, .aload_n 0, 0, 0, .inl .null), (1, 3, .invokevirtual 119, 110, 49, .inr (0, 1, 6)), (4, 1, .aload_n 0, 0, 0, .inl .null), (5, 3, .getfield 19, 3, 1, .inl .null), (8, 3, .getfield 214, 6, 5, .inl .null), (11, 1, .ireturn, 0, 0, .inl .null)]
def cd_X7_mostDigits : List gE := [(0, 1, .aload_n 0, 0, 0, .inl .null), (1, 3, .invokevirtual 119, 110, 49, .inr (0, 1, 6)), (4, 1, .aload_n 0, 0, 0, .inl .null), (5, 3, .getfield 19, 3, 1, .inl .null), (8, 3, .invokevirtual 217, 49, 97, .inr (1, 0, 0)), (11, 1, .ireturn, 0, 0, .inl .null)]
def cd_X7_digit : List gE := [(0, 1, .aload_n 0, 0, 0, .inl .null), (1, 3, .invokevirtual 119, 110, 49, .inr (0, 1, 6)), (4, 1, .aload_n 0, 0, 0, .inl .null), (5, 1, .iload_n 2, 2, 0, .inl .null), (6, 3, .invokevirtual 129, 111, 50, .inr (0, 1, 6)), (9, 1, .iload_n 1, 1, 0, .inl .null), (10, 3, .ifCond .lt 14, 24, 0, .inl .null), (13, 1, .iload_n 1, 1, 0, .inl .null), (14, 1, .aload_n 0, 0, 0, .inl .null), (15, 3, .getfield 19, 3, 1, .inl .null), (18, 3, .getfield 214, 6, 5, .inl .null), (21, 3, .if_icmp .lt 13, 34, 0, .inl .null), (24, 3, .new 81, 1, 1, .inl .null), (27, 1, .dup, 0, 0, .inl .null), (28, 2, .ldc 220, 0, 0, .inl .null), (30, 3, .invokespecial 85, 0, 0, .inl .null), (33, 1, .athrow, 0, 0, .inl .null), (34, 1, .aload_n 0, 0, 0, .inl .null), (35, 3, .getfield 19, 3, 1, .inl .null), (38, 1, .iload_n 1, 1, 0, .inl .null), (39, 1, .iload_n 2, 2, 0, .inl .null), (40, 3, .invokevirtual 222, 50, 99, .inr (1, 0, 0)), (43, 1, .ireturn, 0, 0, .inl .null)]
def cd_X7_residual : List gE := [(0, 1, .aload_n 0, 0, 0, .inl .null), (1, 3, .invokevirtual 119, 110, 49, .inr (0, 1, 6)), (4, 1, .aload_n 0, 0, 0, .inl .null), (5, 1, .iload_n 1, 1, 0, .inl .null), (6, 3, .invokevirtual 129, 111, 50, .inr (0, 1, 6)), (9, 1, .aload_n 0, 0, 0, .inl .null), (10, 3, .getfield 19, 3, 1, .inl .null), (13, 3, .getfield 225, 6, 8, .inl .null), (16, 1, .iload_n 1, 1, 0, .inl .null), (17, 1, .iaload, 0, 0, .inl .null), (18, 1, .ireturn, 0, 0, .inl .null)]
def cd_X7_value : List gE := [(0, 1, .aload_n 0, 0, 0, .inl .null), (1, 3, .invokevirtual 119, 110, 49, .inr (0, 1, 6)), (4, 1, .aload_n 0, 0, 0, .inl .null), (5, 1, .iload_n 1, 1, 0, .inl .null), (6, 3, .invokevirtual 129, 111, 50, .inr (0, 1, 6)), (9, 1, .aload_n 0, 0, 0, .inl .null), (10, 3, .getfield 19, 3, 1, .inl .null), (13, 3, .getfield 228, 6, 7, .inl .null), (16, 1, .iload_n 1, 1, 0, .inl .null), (17, 1, .laload, 0, 0, .inl .null), (18, 1, .lreturn, 0, 0, .inl .null)]
def cd_X7_centred : List gE := [(0, 1, .aload_n 0, 0, 0, .inl .null), (1, 3, .invokevirtual 119, 110, 49, .inr (0, 1, 6)), (4, 1, .aload_n 0, 0, 0, .inl .null), (5, 1, .iload_n 1, 1, 0, .inl .null), (6, 3, .invokevirtual 129, 111, 50, .inr (0, 1, 6)), (9, 1, .aload_n 0, 0, 0, .inl .null), (10, 3, .getfield 19, 3, 1, .inl .null), (13, 3, .getfield 228, 6, 7, .inl .null), (16, 1, .iload_n 1, 1, 0, .inl .null), (17, 1, .laload, 0, 0, .inl .null), (18, 1, .lstore_n 2, 2, 0, .inl .null), (19, 3, .ldc2_w 232, 0, 0, .inl (.long 2)), (22, 1, .lload_n 2, 2, 0, .inl .null), (23, 1, .lmul, 0, 0, .inl .null), (24, 1, .aload_n 0, 0, 0, .inl .null), (25, 3, .getfield 19, 3, 1, .inl .null), (28, 3, .getfield 234, 6, 6, .inl .null), (31, 1, .lcmp, 0, 0, .inl .null), (32, 3, .ifCond .le 15, 47, 0, .inl .null), (35, 1, .lload_n 2, 2, 0, .inl .null), (36, 1, .aload_n 0, 0, 0, .inl .null), (37, 3, .getfield 19, 3, 1, .inl .null), (40, 3, .getfield 234, 6, 6, .inl .null), (43, 1, .lsub, 0, 0, .inl .null), (44, 3, .goto 4, 48, 0, .inl .null), (47, 1, .lload_n 2, 2, 0, .inl .null), (48, 1, .lreturn, 0, 0, .inl .null)]
def cd_X7_numerator : List gE := [(0, 1, .aload_n 0, 0, 0, .inl .null), (1, 3, .invokevirtual 119, 110, 49, .inr (0, 1, 6)), (4, 1, .aload_n 0, 0, 0, .inl .null), (5, 1, .iload_n 1, 1, 0, .inl .null), (6, 3, .invokevirtual 129, 111, 50, .inr (0, 1, 6)), (9, 1, .aload_n 0, 0, 0, .inl .null), (10, 1, .iload_n 1, 1, 0, .inl .null), (11, 3, .invokevirtual 238, 118, 50, .inr (0, 1, 6)), (14, 1, .aload_n 0, 0, 0, .inl .null), (15, 3, .getfield 58, 3, 8, .inl .null), (18, 3, .getfield 241, 25, 0, .inl .null), (21, 1, .iload_n 1, 1, 0, .inl .null), (22, 1, .laload, 0, 0, .inl .null), (23, 1, .l2i, 0, 0, .inl .null), (24, 1, .ireturn, 0, 0, .inl .null)]
def cd_X7_denominator : List gE := [(0, 1, .aload_n 0, 0, 0, .inl .null), (1, 3, .invokevirtual 119, 110, 49, .inr (0, 1, 6)), (4, 1, .aload_n 0, 0, 0, .inl .null), (5, 1, .iload_n 1, 1, 0, .inl .null), (6, 3, .invokevirtual 129, 111, 50, .inr (0, 1, 6)), (9, 1, .aload_n 0, 0, 0, .inl .null), (10, 3, .getfield 58, 3, 8, .inl .null), (13, 1, .aload_n 0, 0, 0, .inl .null), (14, 3, .getfield 19, 3, 1, .inl .null), (17, 1, .iload_n 1, 1, 0, .inl .null), (18, 3, .invokevirtual 244, 0, 403, .inr (1, 0, 0)), (21, 3, .ifCond .eq 16, 37, 0, .inl .null), (24, 1, .aload_n 0, 0, 0, .inl .null), (25, 3, .getfield 58, 3, 8, .inl .null), (28, 3, .getfield 248, 25, 1, .inl .null), (31, 1, .iload_n 1, 1, 0, .inl .null), (32, 1, .laload, 0, 0, .inl .null), (33, 1, .l2i, 0, 0, .inl .null), (34, 3, .goto 4, 38, 0, .inl .null), (37, 1, .iconst 0, 0, 0, .inl (.int 0)), (38, 1, .ireturn, 0, 0, .inl .null)]
def cd_X7_quotient : List gE := [(0, 1, .aload_n 0, 0, 0, .inl .null), (1, 3, .invokevirtual 119, 110, 49, .inr (0, 1, 6)), (4, 1, .aload_n 0, 0, 0, .inl .null), (5, 1, .iload_n 1, 1, 0, .inl .null), (6, 3, .invokevirtual 129, 111, 50, .inr (0, 1, 6)), (9, 1, .aload_n 0, 0, 0, .inl .null), (10, 1, .iload_n 1, 1, 0, .inl .null), (11, 3, .invokevirtual 238, 118, 50, .inr (0, 1, 6)), (14, 1, .aload_n 0, 0, 0, .inl .null), (15, 3, .getfield 58, 3, 8, .inl .null), (18, 3, .getfield 241, 25, 0, .inl .null), (21, 1, .iload_n 1, 1, 0, .inl .null), (22, 1, .laload, 0, 0, .inl .null), (23, 1, .l2d, 0, 0, .inl .null), (24, 1, .aload_n 0, 0, 0, .inl .null), (25, 3, .getfield 58, 3, 8, .inl .null), (28, 3, .getfield 248, 25, 1, .inl .null), (31, 1, .iload_n 1, 1, 0, .inl .null), (32, 1, .laload, 0, 0, .inl .null), (33, 1, .l2d, 0, 0, .inl .null), (34, 1, .ddiv, 0, 0, .inl .null), (35, 1, .dreturn, 0, 0, .inl .null)]
def cd_X7_isExact : List gE := [(0, 1, .aload_n 0, 0, 0, .inl .null), (1, 3, .invokevirtual 119, 110, 49, .inr (0, 1, 6)), (4, 1, .aload_n 0, 0, 0, .inl .null), (5, 3, .getfield 58, 3, 8, .inl .null), (8, 1, .aload_n 0, 0, 0, .inl .null), (9, 3, .getfield 19, 3, 1, .inl .null), (12, 3, .invokevirtual 251, 1, 402, .inr (1, 0, 0)), (15, 1, .ireturn, 0, 0, .inl .null)]
def cd_X7_liftsTo : List gE := [(0, 1, .aload_n 0, 0, 0, .inl .null), (1, 3, .invokevirtual 119, 110, 49, .inr (0, 1, 6)), (4, 1, .aload_n 0, 0, 0, .inl .null), (5, 3, .getfield 58, 3, 8, .inl .null), (8, 1, .aload_n 0, 0, 0, .inl .null), (9, 3, .getfield 19, 3, 1, .inl .null), (12, 3, .invokevirtual 251, 1, 402, .inr (1, 0, 0)), (15, 3, .ifCond .eq 5, 20, 0, .inl .null), (18, 1, .iconst 0, 0, 0, .inl (.int 0)), (19, 1, .ireturn, 0, 0, .inl .null), (20, 1, .aload_n 0, 0, 0, .inl .null), (21, 3, .getfield 65, 3, 9, .inl .null), (24, 1, .aload_n 0, 0, 0, .inl .null), (25, 3, .getfield 19, 3, 1, .inl .null), (28, 3, .invokevirtual 255, 35, 450, .inr (1, 0, 0)), (31, 3, .ifCond .ne 5, 36, 0, .inl .null), (34, 1, .iconst (-1), 0, 0, .inl (.int (-1))), (35, 1, .ireturn, 0, 0, .inl .null), (36, 1, .aload_n 0, 0, 0, .inl .null), (37, 3, .getfield 23, 3, 2, .inl .null), (40, 1, .aload_n 0, 0, 0, .inl .null), (41, 3, .getfield 19, 3, 1, .inl .null), (44, 3, .invokevirtual 100, 45, 98, .inr (0, 0, 0)), (47, 1, .aload_n 0, 0, 0, .inl .null), (48, 3, .getfield 23, 3, 2, .inl .null), (51, 3, .invokevirtual 217, 49, 97, .inr (1, 0, 0)), (54, 1, .aload_n 0, 0, 0, .inl .null), (55, 3, .getfield 23, 3, 2, .inl .null), (58, 3, .getfield 214, 6, 5, .inl .null), (61, 1, .isub, 0, 0, .inl .null), (62, 1, .istore_n 1, 1, 0, .inl .null), (63, 1, .iconst 1, 0, 0, .inl (.int 1)), (64, 1, .istore_n 2, 2, 0, .inl .null), (65, 1, .iload_n 2, 2, 0, .inl .null), (66, 1, .iload_n 1, 1, 0, .inl .null), (67, 3, .if_icmp .gt 36, 103, 0, .inl .null), (70, 1, .aload_n 0, 0, 0, .inl .null), (71, 3, .getfield 65, 3, 9, .inl .null), (74, 1, .aload_n 0, 0, 0, .inl .null), (75, 3, .getfield 23, 3, 2, .inl .null), (78, 3, .invokevirtual 258, 37, 450, .inr (0, 0, 0)), (81, 1, .aload_n 0, 0, 0, .inl .null), (82, 3, .getfield 58, 3, 8, .inl .null), (85, 1, .aload_n 0, 0, 0, .inl .null), (86, 3, .getfield 23, 3, 2, .inl .null), (89, 3, .invokevirtual 251, 1, 402, .inr (1, 0, 0)), (92, 3, .ifCond .eq 5, 97, 0, .inl .null), (95, 1, .iload_n 2, 2, 0, .inl .null), (96, 1, .ireturn, 0, 0, .inl .null), (97, 3, .iinc 2 1, 2, 0, .inl (.int 1)), (100, 3, .goto (-35), 65, 0, .inl .null), (103, 1, .iconst (-1), 0, 0, .inl (.int (-1))), (104, 1, .ireturn, 0, 0, .inl .null)]
def cd_X7_product : List gE := [(0, 1, .aload_n 0, 0, 0, .inl .null), (1, 3, .invokevirtual 119, 110, 49, .inr (0, 1, 6)), (4, 1, .aload_n 0, 0, 0, .inl .null), (5, 1, .iload_n 1, 1, 0, .inl .null), (6, 3, .invokevirtual 129, 111, 50, .inr (0, 1, 6)), (9, 1, .aload_n 0, 0, 0, .inl .null), (10, 1, .iload_n 1, 1, 0, .inl .null), (11, 3, .invokevirtual 261, 128, 50, .inr (1, 0, 0)), (14, 1, .ireturn, 0, 0, .inl .null)]
def cd_X7_circulant : List gE := [(0, 1, .aload_n 0, 0, 0, .inl .null), (1, 3, .invokevirtual 119, 110, 49, .inr (0, 1, 6)), (4, 1, .aload_n 0, 0, 0, .inl .null), (5, 1, .iload_n 1, 1, 0, .inl .null), (6, 3, .invokevirtual 264, 113, 50, .inr (0, 1, 6)), (9, 1, .aload_n 0, 0, 0, .inl .null), (10, 1, .iload_n 2, 2, 0, .inl .null), (11, 3, .invokevirtual 264, 113, 50, .inr (0, 1, 6)), (14, 1, .aload_n 0, 0, 0, .inl .null), (15, 1, .iload_n 1, 1, 0, .inl .null), (16, 1, .iload_n 2, 2, 0, .inl .null), (17, 1, .isub, 0, 0, .inl .null), (18, 3, .invokevirtual 267, 129, 50, .inr (1, 0, 0)), (21, 1, .ireturn, 0, 0, .inl .null)]
def cd_X7_wrapped : List gE := [(0, 1, .aload_n 0, 0, 0, .inl .null), (1, 3, .invokevirtual 119, 110, 49, .inr (0, 1, 6)), (4, 1, .aload_n 0, 0, 0, .inl .null), (5, 1, .iload_n 1, 1, 0, .inl .null), (6, 3, .invokevirtual 264, 113, 50, .inr (0, 1, 6)), (9, 1, .iconst 0, 0, 0, .inl (.int 0)), (10, 1, .istore_n 2, 2, 0, .inl .null), (11, 1, .iconst 0, 0, 0, .inl (.int 0)), (12, 1, .istore_n 3, 3, 0, .inl .null), (13, 1, .iload_n 3, 3, 0, .inl .null), (14, 1, .aload_n 0, 0, 0, .inl .null), (15, 3, .getfield 19, 3, 1, .inl .null), (18, 3, .getfield 107, 6, 0, .inl .null), (21, 3, .if_icmp .ge 29, 50, 0, .inl .null), (24, 1, .iload_n 2, 2, 0, .inl .null), (25, 1, .aload_n 0, 0, 0, .inl .null), (26, 1, .iload_n 1, 1, 0, .inl .null), (27, 1, .iload_n 3, 3, 0, .inl .null), (28, 1, .isub, 0, 0, .inl .null), (29, 3, .invokevirtual 267, 129, 50, .inr (1, 0, 0)), (32, 1, .aload_n 0, 0, 0, .inl .null), (33, 3, .getfield 19, 3, 1, .inl .null), (36, 3, .getfield 135, 6, 4, .inl .null), (39, 1, .iload_n 3, 3, 0, .inl .null), (40, 1, .iaload, 0, 0, .inl .null), (41, 1, .imul, 0, 0, .inl .null), (42, 1, .iadd, 0, 0, .inl .null), (43, 1, .istore_n 2, 2, 0, .inl .null), (44, 3, .iinc 3 1, 3, 0, .inl (.int 1)), (47, 3, .goto (-34), 13, 0, .inl .null), (50, 1, .iload_n 2, 2, 0, .inl .null), (51, 1, .ireturn, 0, 0, .inl .null)]
def cd_X7_probeSolves : List gE := [(0, 1, .aload_n 0, 0, 0, .inl .null), (1, 3, .invokevirtual 119, 110, 49, .inr (0, 1, 6)), (4, 1, .iconst 0, 0, 0, .inl (.int 0)), (5, 1, .istore_n 1, 1, 0, .inl .null), (6, 1, .iload_n 1, 1, 0, .inl .null), (7, 1, .aload_n 0, 0, 0, .inl .null), (8, 3, .getfield 19, 3, 1, .inl .null), (11, 3, .getfield 107, 6, 0, .inl .null), (14, 3, .if_icmp .ge 28, 42, 0, .inl .null), (17, 1, .aload_n 0, 0, 0, .inl .null), (18, 1, .iload_n 1, 1, 0, .inl .null), (19, 3, .invokevirtual 261, 128, 50, .inr (1, 0, 0)), (22, 1, .aload_n 0, 0, 0, .inl .null), (23, 3, .getfield 19, 3, 1, .inl .null), (26, 3, .getfield 132, 6, 3, .inl .null), (29, 1, .iload_n 1, 1, 0, .inl .null), (30, 1, .iaload, 0, 0, .inl .null), (31, 3, .if_icmp .eq 5, 36, 0, .inl .null), (34, 1, .iconst 0, 0, 0, .inl (.int 0)), (35, 1, .ireturn, 0, 0, .inl .null), (36, 3, .iinc 1 1, 1, 0, .inl (.int 1)), (39, 3, .goto (-33), 6, 0, .inl .null), (42, 1, .iconst 1, 0, 0, .inl (.int 1)), (43, 1, .ireturn, 0, 0, .inl .null)]
def cd_X7_entries : List gE := [(0, 1, .aload_n 0, 0, 0, .inl .null), (1, 3, .getfield 19, 3, 1, .inl .null), (4, 3, .getfield 270, 6, 9, .inl .null), (7, 1, .ireturn, 0, 0, .inl .null)]
def cd_X7_accountOf : List gE := [(0, 1, .aload_n 0, 0, 0, .inl .null), (1, 3, .invokevirtual 119, 110, 49, .inr (0, 1, 6)), (4, 1, .iload_n 1, 1, 0, .inl .null), (5, 3, .ifCond .lt 14, 19, 0, .inl .null), (8, 1, .iload_n 1, 1, 0, .inl .null), (9, 1, .aload_n 0, 0, 0, .inl .null), (10, 3, .getfield 19, 3, 1, .inl .null), (13, 3, .getfield 270, 6, 9, .inl .null), (16, 3, .if_icmp .lt 14, 30, 0, .inl .null), (19, 3, .new 81, 1, 1, .inl .null), (22, 1, .dup, 0, 0, .inl .null), (23, 3, .ldc_w 273, 0, 0, .inl .null), (26, 3, .invokespecial 85, 0, 0, .inl .null), (29, 1, .athrow, 0, 0, .inl .null), (30, 1, .iload_n 2, 2, 0, .inl .null), (31, 3, .ifCond .lt 8, 39, 0, .inl .null), (34, 1, .iload_n 2, 2, 0, .inl .null), (35, 1, .iconst 3, 0, 0, .inl (.int 3)), (36, 3, .if_icmp .lt 14, 50, 0, .inl .null), (39, 3, .new 92, 1, 2, .inl .null), (42, 1, .dup, 0, 0, .inl .null), (43, 3, .ldc_w 275, 0, 0, .inl .null), (46, 3, .invokespecial 96, 0, 0, .inl .null), (49, 1, .athrow, 0, 0, .inl .null), (50, 1, .aload_n 0, 0, 0, .inl .null), (51, 3, .getfield 19, 3, 1, .inl .null), (54, 3, .getfield 277, 6, 10, .inl .null), (57, 1, .iconst 3, 0, 0, .inl (.int 3)), (58, 1, .iload_n 1, 1, 0, .inl .null), (59, 1, .imul, 0, 0, .inl .null), (60, 1, .iload_n 2, 2, 0, .inl .null), (61, 1, .iadd, 0, 0, .inl .null), (62, 1, .iaload, 0, 0, .inl .null), (63, 1, .ireturn, 0, 0, .inl .null)]
def cd_X7_setDiagonal : List gE := [(0, 1, .aload_n 0, 0, 0, .inl .null), (1, 3, .invokevirtual 119, 110, 49, .inr (0, 1, 6)), (4, 1, .aload_n 0, 0, 0, .inl .null), (5, 1, .iload_n 1, 1, 0, .inl .null), (6, 3, .invokevirtual 122, 114, 50, .inr (0, 1, 6)), (9, 1, .iload_n 2, 2, 0, .inl .null), (10, 2, .bipush 50, 0, 0, .inl (.int 50)), (12, 3, .invokestatic 167, 117, 2, .inr (0, 1, 6)), (15, 1, .aload_n 0, 0, 0, .inl .null), (16, 3, .getfield 19, 3, 1, .inl .null), (19, 1, .iload_n 1, 1, 0, .inl .null), (20, 3, .invokevirtual 125, 46, 98, .inr (1, 0, 0)), (23, 1, .istore_n 3, 3, 0, .inl .null), (24, 1, .aload_n 0, 0, 0, .inl .null), (25, 3, .getfield 29, 3, 3, .inl .null), (28, 1, .aload_n 0, 0, 0, .inl .null), (29, 3, .getfield 19, 3, 1, .inl .null), (32, 3, .invokevirtual 280, 18, 210, .inr (0, 7, 142)), (35, 1, .aload_n 0, 0, 0, .inl .null), (36, 3, .getfield 19, 3, 1, .inl .null), (39, 1, .iload_n 1, 1, 0, .inl .null), (40, 1, .iload_n 2, 2, 0, .inl .null), (41, 3, .invokevirtual 171, 47, 99, .inr (0, 0, 0)), (44, 1, .aload_n 0, 0, 0, .inl .null), (45, 3, .getfield 19, 3, 1, .inl .null), (48, 3, .invokevirtual 283, 48, 97, .inr (0, 0, 0)), (51, 1, .iload_n 3, 3, 0, .inl .null), (52, 1, .ireturn, 0, 0, .inl .null)]
def cd_X7_setSide : List gE := [(0, 1, .aload_n 0, 0, 0, .inl .null), (1, 3, .invokevirtual 119, 110, 49, .inr (0, 1, 6)), (4, 1, .aload_n 0, 0, 0, .inl .null), (5, 1, .iload_n 1, 1, 0, .inl .null), (6, 3, .invokevirtual 129, 111, 50, .inr (0, 1, 6)), (9, 1, .iload_n 2, 2, 0, .inl .null), (10, 3, .sipush 999, 0, 0, .inl (.int 999)), (13, 3, .invokestatic 167, 117, 2, .inr (0, 1, 6)), (16, 1, .aload_n 0, 0, 0, .inl .null), (17, 3, .getfield 19, 3, 1, .inl .null), (20, 3, .getfield 132, 6, 3, .inl .null), (23, 1, .iload_n 1, 1, 0, .inl .null), (24, 1, .iaload, 0, 0, .inl .null), (25, 1, .istore_n 3, 3, 0, .inl .null), (26, 1, .aload_n 0, 0, 0, .inl .null), (27, 3, .getfield 29, 3, 3, .inl .null), (30, 1, .aload_n 0, 0, 0, .inl .null), (31, 3, .getfield 19, 3, 1, .inl .null), (34, 3, .invokevirtual 280, 18, 210, .inr (0, 7, 142)), (37, 1, .aload_n 0, 0, 0, .inl .null), (38, 3, .getfield 19, 3, 1, .inl .null), (41, 3, .getfield 132, 6, 3, .inl .null), (44, 1, .iload_n 1, 1, 0, .inl .null), (45, 1, .iload_n 2, 2, 0, .inl .null), (46, 1, .iastore, 0, 0, .inl .null), (47, 1, .aload_n 0, 0, 0, .inl .null), (48, 3, .getfield 19, 3, 1, .inl .null), (51, 3, .invokevirtual 283, 48, 97, .inr (0, 0, 0)), (54, 1, .iload_n 3, 3, 0, .inl .null), (55, 1, .ireturn, 0, 0, .inl .null)]
def cd_X7_setProbe : List gE := [(0, 1, .aload_n 0, 0, 0, .inl .null), (1, 3, .invokevirtual 119, 110, 49, .inr (0, 1, 6)), (4, 1, .aload_n 0, 0, 0, .inl .null), (5, 1, .iload_n 1, 1, 0, .inl .null), (6, 3, .invokevirtual 129, 111, 50, .inr (0, 1, 6)), (9, 1, .iload_n 2, 2, 0, .inl .null), (10, 3, .sipush 999, 0, 0, .inl (.int 999)), (13, 3, .invokestatic 167, 117, 2, .inr (0, 1, 6)), (16, 1, .aload_n 0, 0, 0, .inl .null), (17, 3, .getfield 19, 3, 1, .inl .null), (20, 3, .getfield 135, 6, 4, .inl .null), (23, 1, .iload_n 1, 1, 0, .inl .null), (24, 1, .iaload, 0, 0, .inl .null), (25, 1, .istore_n 3, 3, 0, .inl .null), (26, 1, .aload_n 0, 0, 0, .inl .null), (27, 3, .getfield 29, 3, 3, .inl .null), (30, 1, .aload_n 0, 0, 0, .inl .null), (31, 3, .getfield 19, 3, 1, .inl .null), (34, 3, .invokevirtual 280, 18, 210, .inr (0, 7, 142)), (37, 1, .aload_n 0, 0, 0, .inl .null), (38, 3, .getfield 19, 3, 1, .inl .null), (41, 3, .getfield 135, 6, 4, .inl .null), (44, 1, .iload_n 1, 1, 0, .inl .null), (45, 1, .iload_n 2, 2, 0, .inl .null), (46, 1, .iastore, 0, 0, .inl .null), (47, 1, .iload_n 3, 3, 0, .inl .null), (48, 1, .ireturn, 0, 0, .inl .null)]
def cd_X7_setPrime : List gE := [(0, 1, .aload_n 0, 0, 0, .inl .null), (1, 3, .invokevirtual 119, 110, 49, .inr (0, 1, 6)), (4, 1, .iload_n 1, 1, 0, .inl .null), (5, 3, .invokestatic 286, 120, 1, .inr (1, 0, 0)), (8, 3, .ifCond .ne 14, 22, 0, .inl .null), (11, 3, .new 92, 1, 2, .inl .null), (14, 1, .dup, 0, 0, .inl .null), (15, 3, .ldc_w 289, 0, 0, .inl .null), (18, 3, .invokespecial 96, 0, 0, .inl .null), (21, 1, .athrow, 0, 0, .inl .null), (22, 1, .aload_n 0, 0, 0, .inl .null), (23, 3, .getfield 19, 3, 1, .inl .null), (26, 3, .getfield 116, 6, 1, .inl .null), (29, 1, .istore_n 2, 2, 0, .inl .null), (30, 1, .aload_n 0, 0, 0, .inl .null), (31, 3, .getfield 29, 3, 3, .inl .null), (34, 1, .aload_n 0, 0, 0, .inl .null), (35, 3, .getfield 19, 3, 1, .inl .null), (38, 3, .invokevirtual 280, 18, 210, .inr (0, 7, 142)), (41, 1, .aload_n 0, 0, 0, .inl .null), (42, 3, .getfield 19, 3, 1, .inl .null), (45, 1, .iload_n 1, 1, 0, .inl .null), (46, 3, .putfield 116, 6, 1, .inl .null), (49, 1, .aload_n 0, 0, 0, .inl .null), (50, 3, .getfield 19, 3, 1, .inl .null), (53, 3, .invokevirtual 283, 48, 97, .inr (0, 0, 0)), (56, 1, .iload_n 2, 2, 0, .inl .null), (57, 1, .ireturn, 0, 0, .inl .null)]
def cd_X7_grow : List gE := [(0, 1, .aload_n 0, 0, 0, .inl .null), (1, 3, .invokevirtual 119, 110, 49, .inr (0, 1, 6)), (4, 1, .aload_n 0, 0, 0, .inl .null), (5, 3, .getfield 19, 3, 1, .inl .null), (8, 3, .getfield 107, 6, 0, .inl .null), (11, 2, .istore 4, 4, 0, .inl .null), (13, 2, .iload 4, 4, 0, .inl .null), (15, 2, .bipush 7, 0, 0, .inl (.int 7)), (17, 3, .if_icmp .lt 14, 31, 0, .inl .null), (20, 3, .new 92, 1, 2, .inl .null), (23, 1, .dup, 0, 0, .inl .null), (24, 3, .ldc_w 291, 0, 0, .inl .null), (27, 3, .invokespecial 96, 0, 0, .inl .null), (30, 1, .athrow, 0, 0, .inl .null), (31, 1, .iload_n 1, 1, 0, .inl .null), (32, 2, .bipush 50, 0, 0, .inl (.int 50)), (34, 3, .invokestatic 167, 117, 2, .inr (0, 1, 6)), (37, 1, .iload_n 2, 2, 0, .inl .null), (38, 2, .bipush 50, 0, 0, .inl (.int 50)), (40, 3, .invokestatic 167, 117, 2, .inr (0, 1, 6)), (43, 1, .iload_n 3, 3, 0, .inl .null), (44, 3, .sipush 999, 0, 0, .inl (.int 999)), (47, 3, .invokestatic 167, 117, 2, .inr (0, 1, 6)), (50, 1, .aload_n 0, 0, 0, .inl .null), (51, 3, .getfield 29, 3, 3, .inl .null), (54, 1, .aload_n 0, 0, 0, .inl .null), (55, 3, .getfield 19, 3, 1, .inl .null), (58, 3, .invokevirtual 280, 18, 210, .inr (0, 7, 142)), (61, 1, .aload_n 0, 0, 0, .inl .null), (62, 3, .getfield 19, 3, 1, .inl .null), (65, 2, .iload 4, 4, 0, .inl .null), (67, 1, .iconst 1, 0, 0, .inl (.int 1)), (68, 1, .iadd, 0, 0, .inl .null), (69, 3, .putfield 107, 6, 0, .inl .null), (72, 1, .aload_n 0, 0, 0, .inl .null), (73, 3, .getfield 19, 3, 1, .inl .null), (76, 2, .iload 4, 4, 0, .inl .null), (78, 1, .iload_n 1, 1, 0, .inl .null), (79, 3, .invokevirtual 171, 47, 99, .inr (0, 0, 0)), (82, 1, .aload_n 0, 0, 0, .inl .null), (83, 3, .getfield 19, 3, 1, .inl .null), (86, 2, .iload 4, 4, 0, .inl .null), (88, 1, .ineg, 0, 0, .inl .null), (89, 1, .iload_n 2, 2, 0, .inl .null), (90, 3, .invokevirtual 171, 47, 99, .inr (0, 0, 0)), (93, 1, .aload_n 0, 0, 0, .inl .null), (94, 3, .getfield 19, 3, 1, .inl .null), (97, 3, .getfield 132, 6, 3, .inl .null), (100, 2, .iload 4, 4, 0, .inl .null), (102, 1, .iload_n 3, 3, 0, .inl .null), (103, 1, .iastore, 0, 0, .inl .null), (104, 1, .aload_n 0, 0, 0, .inl .null), (105, 3, .getfield 19, 3, 1, .inl .null), (108, 3, .getfield 135, 6, 4, .inl .null), (111, 2, .iload 4, 4, 0, .inl .null), (113, 1, .iconst 0, 0, 0, .inl (.int 0)), (114, 1, .iastore, 0, 0, .inl .null), (115, 1, .aload_n 0, 0, 0, .inl .null), (116, 3, .getfield 19, 3, 1, .inl .null), (119, 3, .invokevirtual 283, 48, 97, .inr (0, 0, 0)), (122, 1, .aload_n 0, 0, 0, .inl .null), (123, 3, .getfield 19, 3, 1, .inl .null), (126, 3, .getfield 107, 6, 0, .inl .null), (129, 1, .ireturn, 0, 0, .inl .null)]
def cd_X7_shrink : List gE := [(0, 1, .aload_n 0, 0, 0, .inl .null), (1, 3, .invokevirtual 119, 110, 49, .inr (0, 1, 6)), (4, 1, .aload_n 0, 0, 0, .inl .null), (5, 3, .getfield 19, 3, 1, .inl .null), (8, 3, .getfield 107, 6, 0, .inl .null), (11, 1, .iconst 1, 0, 0, .inl (.int 1)), (12, 3, .if_icmp .ne 14, 26, 0, .inl .null), (15, 3, .new 92, 1, 2, .inl .null), (18, 1, .dup, 0, 0, .inl .null), (19, 3, .ldc_w 293, 0, 0, .inl .null), (22, 3, .invokespecial 96, 0, 0, .inl .null), (25, 1, .athrow, 0, 0, .inl .null), (26, 1, .aload_n 0, 0, 0, .inl .null), (27, 3, .getfield 29, 3, 3, .inl .null), (30, 1, .aload_n 0, 0, 0, .inl .null), (31, 3, .getfield 19, 3, 1, .inl .null), (34, 3, .invokevirtual 280, 18, 210, .inr (0, 7, 142)), (37, 1, .aload_n 0, 0, 0, .inl .null), (38, 3, .getfield 19, 3, 1, .inl .null), (41, 1, .dup, 0, 0, .inl .null), (42, 3, .getfield 107, 6, 0, .inl .null), (45, 1, .iconst 1, 0, 0, .inl (.int 1)), (46, 1, .isub, 0, 0, .inl .null), (47, 3, .putfield 107, 6, 0, .inl .null), (50, 1, .aload_n 0, 0, 0, .inl .null), (51, 3, .getfield 19, 3, 1, .inl .null), (54, 3, .invokevirtual 283, 48, 97, .inr (0, 0, 0)), (57, 1, .aload_n 0, 0, 0, .inl .null), (58, 3, .getfield 19, 3, 1, .inl .null), (61, 3, .getfield 107, 6, 0, .inl .null), (64, 1, .ireturn, 0, 0, .inl .null)]
def cd_X7_lift : List gE := [(0, 1, .aload_n 0, 0, 0, .inl .null), (1, 3, .invokevirtual 119, 110, 49, .inr (0, 1, 6)), (4, 1, .aload_n 0, 0, 0, .inl .null), (5, 3, .invokevirtual 203, 119, 49, .inr (0, 1, 6)), (8, 1, .aload_n 0, 0, 0, .inl .null), (9, 3, .getfield 19, 3, 1, .inl .null), (12, 3, .getfield 214, 6, 5, .inl .null), (15, 1, .aload_n 0, 0, 0, .inl .null), (16, 3, .getfield 19, 3, 1, .inl .null), (19, 3, .invokevirtual 217, 49, 97, .inr (1, 0, 0)), (22, 3, .if_icmp .lt 14, 36, 0, .inl .null), (25, 3, .new 92, 1, 2, .inl .null), (28, 1, .dup, 0, 0, .inl .null), (29, 3, .ldc_w 295, 0, 0, .inl .null), (32, 3, .invokespecial 96, 0, 0, .inl .null), (35, 1, .athrow, 0, 0, .inl .null), (36, 1, .aload_n 0, 0, 0, .inl .null), (37, 3, .getfield 29, 3, 3, .inl .null), (40, 1, .aload_n 0, 0, 0, .inl .null), (41, 3, .getfield 19, 3, 1, .inl .null), (44, 3, .invokevirtual 280, 18, 210, .inr (0, 7, 142)), (47, 1, .aload_n 0, 0, 0, .inl .null), (48, 3, .getfield 65, 3, 9, .inl .null), (51, 1, .aload_n 0, 0, 0, .inl .null), (52, 3, .getfield 19, 3, 1, .inl .null), (55, 1, .aload_n 0, 0, 0, .inl .null), (56, 3, .getfield 58, 3, 8, .inl .null), (59, 3, .invokevirtual 297, 39, 451, .inr (1, 0, 0)), (62, 1, .pop, 0, 0, .inl .null), (63, 1, .aload_n 0, 0, 0, .inl .null), (64, 3, .getfield 19, 3, 1, .inl .null), (67, 3, .getfield 214, 6, 5, .inl .null), (70, 1, .ireturn, 0, 0, .inl .null)]
def cd_X7_refine : List gE := [(0, 1, .aload_n 0, 0, 0, .inl .null), (1, 3, .invokevirtual 119, 110, 49, .inr (0, 1, 6)), (4, 1, .iload_n 1, 1, 0, .inl .null), (5, 1, .iconst 1, 0, 0, .inl (.int 1)), (6, 3, .if_icmp .lt 9, 15, 0, .inl .null), (9, 1, .iload_n 1, 1, 0, .inl .null), (10, 2, .bipush 40, 0, 0, .inl (.int 40)), (12, 3, .if_icmp .le 14, 26, 0, .inl .null), (15, 3, .new 92, 1, 2, .inl .null), (18, 1, .dup, 0, 0, .inl .null), (19, 3, .ldc_w 301, 0, 0, .inl .null), (22, 3, .invokespecial 96, 0, 0, .inl .null), (25, 1, .athrow, 0, 0, .inl .null), (26, 1, .aload_n 0, 0, 0, .inl .null), (27, 3, .invokevirtual 203, 119, 49, .inr (0, 1, 6)), (30, 1, .aload_n 0, 0, 0, .inl .null), (31, 3, .getfield 29, 3, 3, .inl .null), (34, 1, .aload_n 0, 0, 0, .inl .null), (35, 3, .getfield 19, 3, 1, .inl .null), (38, 3, .invokevirtual 280, 18, 210, .inr (0, 7, 142)), (41, 1, .iload_n 1, 1, 0, .inl .null), (42, 1, .aload_n 0, 0, 0, .inl .null), (43, 3, .getfield 19, 3, 1, .inl .null), (46, 3, .invokevirtual 217, 49, 97, .inr (1, 0, 0)), (49, 1, .aload_n 0, 0, 0, .inl .null), (50, 3, .getfield 19, 3, 1, .inl .null), (53, 3, .getfield 214, 6, 5, .inl .null), (56, 1, .isub, 0, 0, .inl .null), (57, 3, .invokestatic 303, 308, 2, .inr (1, 0, 0)), (60, 1, .istore_n 2, 2, 0, .inl .null), (61, 1, .aload_n 0, 0, 0, .inl .null), (62, 3, .getfield 58, 3, 8, .inl .null), (65, 1, .aload_n 0, 0, 0, .inl .null), (66, 3, .getfield 19, 3, 1, .inl .null), (69, 3, .invokevirtual 251, 1, 402, .inr (1, 0, 0)), (72, 1, .istore_n 3, 3, 0, .inl .null), (73, 1, .iconst 0, 0, 0, .inl (.int 0)), (74, 2, .istore 4, 4, 0, .inl .null), (76, 2, .iload 4, 4, 0, .inl .null), (78, 1, .iload_n 2, 2, 0, .inl .null), (79, 3, .if_icmp .ge 29, 108, 0, .inl .null), (82, 1, .iload_n 3, 3, 0, .inl .null), (83, 3, .ifCond .ne 25, 108, 0, .inl .null), (86, 1, .aload_n 0, 0, 0, .inl .null), (87, 3, .getfield 65, 3, 9, .inl .null), (90, 1, .aload_n 0, 0, 0, .inl .null), (91, 3, .getfield 19, 3, 1, .inl .null), (94, 1, .aload_n 0, 0, 0, .inl .null), (95, 3, .getfield 58, 3, 8, .inl .null), (98, 3, .invokevirtual 297, 39, 451, .inr (1, 0, 0)), (101, 1, .istore_n 3, 3, 0, .inl .null), (102, 3, .iinc 4 1, 4, 0, .inl (.int 1)), (105, 3, .goto (-29), 76, 0, .inl .null), (108, 2, .iload 4, 4, 0, .inl .null), (110, 1, .ireturn, 0, 0, .inl .null)]
def cd_X7_undo : List gE := [(0, 1, .aload_n 0, 0, 0, .inl .null), (1, 3, .getfield 29, 3, 3, .inl .null), (4, 3, .invokevirtual 306, 19, 209, .inr (4, 0, 0)), (7, 1, .astore_n 1, 1, 0, .inl .null), (8, 1, .aload_n 1, 1, 0, .inl .null), (9, 3, .ifnonnull 14, 23, 0, .inl .null), (12, 3, .new 310, 1, 0, .inl .null), (15, 1, .dup, 0, 0, .inl .null), (16, 3, .ldc_w 312, 0, 0, .inl .null), (19, 3, .invokespecial 314, 0, 0, .inl .null), (22, 1, .athrow, 0, 0, .inl .null), (23, 1, .aload_n 0, 0, 0, .inl .null), (24, 3, .getfield 19, 3, 1, .inl .null), (27, 1, .aload_n 1, 1, 0, .inl .null), (28, 3, .invokevirtual 100, 45, 98, .inr (0, 0, 0)), (31, 1, .aload_n 0, 0, 0, .inl .null), (32, 3, .getfield 29, 3, 3, .inl .null), (35, 3, .getfield 315, 13, 2, .inl .null), (38, 1, .ireturn, 0, 0, .inl .null)]
def cd_X7_undoable : List gE := [(0, 1, .aload_n 0, 0, 0, .inl .null), (1, 3, .getfield 29, 3, 3, .inl .null), (4, 3, .getfield 315, 13, 2, .inl .null), (7, 1, .ireturn, 0, 0, .inl .null)]
def cd_X7_save : List gE := [(0, 1, .aload_n 0, 0, 0, .inl .null), (1, 3, .invokevirtual 119, 110, 49, .inr (0, 1, 6)), (4, 1, .iload_n 1, 1, 0, .inl .null), (5, 3, .invokestatic 318, 116, 1, .inr (0, 1, 6)), (8, 1, .aload_n 0, 0, 0, .inl .null), (9, 3, .getfield 33, 3, 4, .inl .null), (12, 1, .iload_n 1, 1, 0, .inl .null), (13, 1, .aaload, 0, 0, .inl .null), (14, 3, .ifnonnull 16, 30, 0, .inl .null), (17, 1, .aload_n 0, 0, 0, .inl .null), (18, 3, .getfield 33, 3, 4, .inl .null), (21, 1, .iload_n 1, 1, 0, .inl .null), (22, 3, .new 16, 2, 0, .inl .null), (25, 1, .dup, 0, 0, .inl .null), (26, 3, .invokespecial 18, 0, 0, .inl .null), (29, 1, .aastore, 0, 0, .inl .null), (30, 1, .aload_n 0, 0, 0, .inl .null), (31, 3, .getfield 33, 3, 4, .inl .null), (34, 1, .iload_n 1, 1, 0, .inl .null), (35, 1, .aaload, 0, 0, .inl .null), (36, 1, .aload_n 0, 0, 0, .inl .null), (37, 3, .getfield 19, 3, 1, .inl .null), (40, 3, .invokevirtual 100, 45, 98, .inr (0, 0, 0)), (43, 1, .aload_n 0, 0, 0, .inl .null), (44, 3, .getfield 37, 3, 5, .inl .null), (47, 1, .iload_n 1, 1, 0, .inl .null), (48, 1, .iconst 1, 0, 0, .inl (.int 1)), (49, 1, .bastore, 0, 0, .inl .null), (50, 1, .aload_n 0, 0, 0, .inl .null), (51, 3, .getfield 19, 3, 1, .inl .null), (54, 3, .getfield 107, 6, 0, .inl .null), (57, 1, .ireturn, 0, 0, .inl .null)]
def cd_X7_restore : List gE := [(0, 1, .iload_n 1, 1, 0, .inl .null), (1, 3, .invokestatic 318, 116, 1, .inr (0, 1, 6)), (4, 1, .aload_n 0, 0, 0, .inl .null), (5, 3, .getfield 33, 3, 4, .inl .null), (8, 1, .iload_n 1, 1, 0, .inl .null), (9, 1, .aaload, 0, 0, .inl .null), (10, 1, .astore_n 2, 2, 0, .inl .null), (11, 1, .aload_n 2, 2, 0, .inl .null), (12, 3, .ifnull 12, 24, 0, .inl .null), (15, 1, .aload_n 0, 0, 0, .inl .null), (16, 3, .getfield 37, 3, 5, .inl .null), (19, 1, .iload_n 1, 1, 0, .inl .null), (20, 1, .baload, 0, 0, .inl .null), (21, 3, .ifCond .ne 14, 35, 0, .inl .null), (24, 3, .new 310, 1, 0, .inl .null), (27, 1, .dup, 0, 0, .inl .null), (28, 3, .ldc_w 321, 0, 0, .inl .null), (31, 3, .invokespecial 314, 0, 0, .inl .null), (34, 1, .athrow, 0, 0, .inl .null), (35, 1, .aload_n 0, 0, 0, .inl .null), (36, 3, .getfield 19, 3, 1, .inl .null), (39, 1, .aload_n 2, 2, 0, .inl .null), (40, 3, .invokevirtual 100, 45, 98, .inr (0, 0, 0)), (43, 1, .aload_n 0, 0, 0, .inl .null), (44, 3, .getfield 29, 3, 3, .inl .null), (47, 3, .invokevirtual 104, 20, 209, .inr (0, 0, 0)), (50, 1, .aload_n 0, 0, 0, .inl .null), (51, 3, .getfield 19, 3, 1, .inl .null), (54, 3, .getfield 107, 6, 0, .inl .null), (57, 1, .ireturn, 0, 0, .inl .null)]
def cd_X7_requireSystem : List gE := [(0, 1, .aload_n 0, 0, 0, .inl .null), (1, 3, .getfield 19, 3, 1, .inl .null), (4, 3, .getfield 107, 6, 0, .inl .null), (7, 3, .ifCond .ne 14, 21, 0, .inl .null), (10, 3, .new 310, 1, 0, .inl .null), (13, 1, .dup, 0, 0, .inl .null), (14, 3, .ldc_w 323, 0, 0, .inl .null), (17, 3, .invokespecial 314, 0, 0, .inl .null), (20, 1, .athrow, 0, 0, .inl .null), (21, 1, .return_, 0, 0, .inl .null)]
def cd_X7_requireRow : List gE := [(0, 1, .iload_n 1, 1, 0, .inl .null), (1, 3, .ifCond .lt 14, 15, 0, .inl .null), (4, 1, .iload_n 1, 1, 0, .inl .null), (5, 1, .aload_n 0, 0, 0, .inl .null), (6, 3, .getfield 19, 3, 1, .inl .null), (9, 3, .getfield 107, 6, 0, .inl .null), (12, 3, .if_icmp .lt 14, 26, 0, .inl .null), (15, 3, .new 81, 1, 1, .inl .null), (18, 1, .dup, 0, 0, .inl .null), (19, 3, .ldc_w 325, 0, 0, .inl .null), (22, 3, .invokespecial 85, 0, 0, .inl .null), (25, 1, .athrow, 0, 0, .inl .null), (26, 1, .return_, 0, 0, .inl .null)]
def cd_X7_requireBehind : List gE := [(0, 1, .iload_n 2, 2, 0, .inl .null), (1, 1, .iload_n 1, 1, 0, .inl .null), (2, 3, .if_icmp .lt 14, 16, 0, .inl .null), (5, 1, .iload_n 2, 2, 0, .inl .null), (6, 1, .aload_n 0, 0, 0, .inl .null), (7, 3, .getfield 19, 3, 1, .inl .null), (10, 3, .getfield 107, 6, 0, .inl .null), (13, 3, .if_icmp .lt 14, 27, 0, .inl .null), (16, 3, .new 81, 1, 1, .inl .null), (19, 1, .dup, 0, 0, .inl .null), (20, 3, .ldc_w 327, 0, 0, .inl .null), (23, 3, .invokespecial 85, 0, 0, .inl .null), (26, 1, .athrow, 0, 0, .inl .null), (27, 1, .return_, 0, 0, .inl .null)]
def cd_X7_requireWrappedRow : List gE := [(0, 1, .iload_n 1, 1, 0, .inl .null), (1, 3, .ifCond .lt 16, 17, 0, .inl .null), (4, 1, .iload_n 1, 1, 0, .inl .null), (5, 1, .iconst 2, 0, 0, .inl (.int 2)), (6, 1, .aload_n 0, 0, 0, .inl .null), (7, 3, .getfield 19, 3, 1, .inl .null), (10, 3, .getfield 107, 6, 0, .inl .null), (13, 1, .imul, 0, 0, .inl .null), (14, 3, .if_icmp .lt 14, 28, 0, .inl .null), (17, 3, .new 81, 1, 1, .inl .null), (20, 1, .dup, 0, 0, .inl .null), (21, 3, .ldc_w 329, 0, 0, .inl .null), (24, 3, .invokespecial 85, 0, 0, .inl .null), (27, 1, .athrow, 0, 0, .inl .null), (28, 1, .return_, 0, 0, .inl .null)]
def cd_X7_requireDiagonal : List gE := [(0, 1, .iload_n 1, 1, 0, .inl .null), (1, 1, .aload_n 0, 0, 0, .inl .null), (2, 3, .getfield 19, 3, 1, .inl .null), (5, 3, .getfield 107, 6, 0, .inl .null), (8, 1, .ineg, 0, 0, .inl .null), (9, 3, .if_icmp .le 14, 23, 0, .inl .null), (12, 1, .iload_n 1, 1, 0, .inl .null), (13, 1, .aload_n 0, 0, 0, .inl .null), (14, 3, .getfield 19, 3, 1, .inl .null), (17, 3, .getfield 107, 6, 0, .inl .null), (20, 3, .if_icmp .lt 14, 34, 0, .inl .null), (23, 3, .new 81, 1, 1, .inl .null), (26, 1, .dup, 0, 0, .inl .null), (27, 3, .ldc_w 331, 0, 0, .inl .null), (30, 3, .invokespecial 85, 0, 0, .inl .null), (33, 1, .athrow, 0, 0, .inl .null), (34, 1, .return_, 0, 0, .inl .null)]
def cd_X7_requireSize : List gE := [(0, 1, .iload_n 1, 1, 0, .inl .null), (1, 3, .ifCond .lt 14, 15, 0, .inl .null), (4, 1, .iload_n 1, 1, 0, .inl .null), (5, 1, .aload_n 0, 0, 0, .inl .null), (6, 3, .getfield 19, 3, 1, .inl .null), (9, 3, .getfield 107, 6, 0, .inl .null), (12, 3, .if_icmp .le 14, 26, 0, .inl .null), (15, 3, .new 81, 1, 1, .inl .null), (18, 1, .dup, 0, 0, .inl .null), (19, 3, .ldc_w 333, 0, 0, .inl .null), (22, 3, .invokespecial 85, 0, 0, .inl .null), (25, 1, .athrow, 0, 0, .inl .null), (26, 1, .return_, 0, 0, .inl .null)]
def cd_X7_requireSlot : List gE := [(0, 1, .iload_n 0, 0, 0, .inl .null), (1, 3, .ifCond .lt 8, 9, 0, .inl .null), (4, 1, .iload_n 0, 0, 0, .inl .null), (5, 1, .iconst 2, 0, 0, .inl (.int 2)), (6, 3, .if_icmp .lt 14, 20, 0, .inl .null), (9, 3, .new 81, 1, 1, .inl .null), (12, 1, .dup, 0, 0, .inl .null), (13, 3, .ldc_w 335, 0, 0, .inl .null), (16, 3, .invokespecial 85, 0, 0, .inl .null), (19, 1, .athrow, 0, 0, .inl .null), (20, 1, .return_, 0, 0, .inl .null)]
def cd_X7_requireWithin : List gE := [(0, 1, .iload_n 0, 0, 0, .inl .null), (1, 1, .iload_n 1, 1, 0, .inl .null), (2, 1, .ineg, 0, 0, .inl .null), (3, 3, .if_icmp .lt 8, 11, 0, .inl .null), (6, 1, .iload_n 0, 0, 0, .inl .null), (7, 1, .iload_n 1, 1, 0, .inl .null), (8, 3, .if_icmp .le 14, 22, 0, .inl .null), (11, 3, .new 92, 1, 2, .inl .null), (14, 1, .dup, 0, 0, .inl .null), (15, 3, .ldc_w 337, 0, 0, .inl .null), (18, 3, .invokespecial 96, 0, 0, .inl .null), (21, 1, .athrow, 0, 0, .inl .null), (22, 1, .return_, 0, 0, .inl .null)]
def cd_X7_requireFraction : List gE := [(0, 1, .aload_n 0, 0, 0, .inl .null), (1, 3, .getfield 58, 3, 8, .inl .null), (4, 1, .aload_n 0, 0, 0, .inl .null), (5, 3, .getfield 19, 3, 1, .inl .null), (8, 1, .iload_n 1, 1, 0, .inl .null), (9, 3, .invokevirtual 244, 0, 403, .inr (1, 0, 0)), (12, 3, .ifCond .ne 14, 26, 0, .inl .null), (15, 3, .new 92, 1, 2, .inl .null), (18, 1, .dup, 0, 0, .inl .null), (19, 3, .ldc_w 339, 0, 0, .inl .null), (22, 3, .invokespecial 96, 0, 0, .inl .null), (25, 1, .athrow, 0, 0, .inl .null), (26, 1, .return_, 0, 0, .inl .null)]
def cd_X7_requireLifter : List gE := [(0, 1, .aload_n 0, 0, 0, .inl .null), (1, 3, .getfield 65, 3, 9, .inl .null), (4, 1, .aload_n 0, 0, 0, .inl .null), (5, 3, .getfield 19, 3, 1, .inl .null), (8, 3, .invokevirtual 255, 35, 450, .inr (1, 0, 0)), (11, 3, .ifCond .ne 13, 24, 0, .inl .null), (14, 3, .new 92, 1, 2, .inl .null), (17, 1, .dup, 0, 0, .inl .null), (18, 2, .ldc 201, 0, 0, .inl .null), (20, 3, .invokespecial 96, 0, 0, .inl .null), (23, 1, .athrow, 0, 0, .inl .null), (24, 1, .return_, 0, 0, .inl .null)]
def cd_X7_isListed : List gE := [(0, 3, .getstatic 164, 0, 0, .inr (1, 0, 0)), (3, 1, .astore_n 1, 1, 0, .inl .null), (4, 1, .aload_n 1, 1, 0, .inl .null), (5, 1, .arraylength, 0, 0, .inl .null), (6, 1, .istore_n 2, 2, 0, .inl .null), (7, 1, .iconst 0, 0, 0, .inl (.int 0)), (8, 1, .istore_n 3, 3, 0, .inl .null), (9, 1, .iload_n 3, 3, 0, .inl .null), (10, 1, .iload_n 2, 2, 0, .inl .null), (11, 3, .if_icmp .ge 22, 33, 0, .inl .null), (14, 1, .aload_n 1, 1, 0, .inl .null), (15, 1, .iload_n 3, 3, 0, .inl .null), (16, 1, .iaload, 0, 0, .inl .null), (17, 2, .istore 4, 4, 0, .inl .null), (19, 2, .iload 4, 4, 0, .inl .null), (21, 1, .iload_n 0, 0, 0, .inl .null), (22, 3, .if_icmp .ne 5, 27, 0, .inl .null), (25, 1, .iconst 1, 0, 0, .inl (.int 1)), (26, 1, .ireturn, 0, 0, .inl .null), (27, 3, .iinc 3 1, 3, 0, .inl (.int 1)), (30, 3, .goto (-21), 9, 0, .inl .null), (33, 1, .iconst 0, 0, 0, .inl (.int 0)), (34, 1, .ireturn, 0, 0, .inl .null)]
def cd_X7_reduced : List gE := [(0, 1, .iload_n 1, 1, 0, .inl .null), (1, 1, .iconst 1, 0, 0, .inl (.int 1)), (2, 3, .if_icmp .ge 7, 9, 0, .inl .null), (5, 1, .iconst 0, 0, 0, .inl (.int 0)), (6, 3, .goto 8, 14, 0, .inl .null), (9, 1, .iload_n 0, 0, 0, .inl .null), (10, 1, .iload_n 1, 1, 0, .inl .null), (11, 3, .invokestatic 341, 304, 2, .inr (1, 0, 0)), (14, 1, .ireturn, 0, 0, .inl .null)]
def cd_X7_leadingMinor : List gE := [(0, 1, .aload_n 0, 0, 0, .inl .null), (1, 3, .getfield 44, 3, 6, .inl .null), (4, 1, .aload_n 0, 0, 0, .inl .null), (5, 3, .getfield 19, 3, 1, .inl .null), (8, 1, .iload_n 1, 1, 0, .inl .null), (9, 1, .iload_n 2, 2, 0, .inl .null), (10, 1, .iconst 0, 0, 0, .inl (.int 0)), (11, 3, .invokevirtual 145, 6, 277, .inr (0, 0, 0)), (14, 1, .aload_n 0, 0, 0, .inl .null), (15, 3, .getfield 44, 3, 6, .inl .null), (18, 1, .iload_n 1, 1, 0, .inl .null), (19, 3, .invokevirtual 149, 11, 274, .inr (1, 0, 0)), (22, 1, .pop, 0, 0, .inl .null), (23, 1, .aload_n 0, 0, 0, .inl .null), (24, 3, .getfield 44, 3, 6, .inl .null), (27, 3, .invokevirtual 174, 10, 273, .inr (1, 0, 0)), (30, 1, .ireturn, 0, 0, .inl .null)]
def cd_X7_findSteps : List gE := [(0, 1, .iconst 0, 0, 0, .inl (.int 0)), (1, 1, .istore_n 1, 1, 0, .inl .null), (2, 1, .aload_n 0, 0, 0, .inl .null), (3, 3, .getfield 69, 3, 10, .inl .null), (6, 1, .iconst 0, 0, 0, .inl (.int 0)), (7, 1, .iconst 0, 0, 0, .inl (.int 0)), (8, 1, .iastore, 0, 0, .inl .null), (9, 1, .iconst 1, 0, 0, .inl (.int 1)), (10, 1, .istore_n 2, 2, 0, .inl .null), (11, 1, .iload_n 2, 2, 0, .inl .null), (12, 1, .aload_n 0, 0, 0, .inl .null), (13, 3, .getfield 19, 3, 1, .inl .null), (16, 3, .getfield 107, 6, 0, .inl .null), (19, 3, .if_icmp .gt 45, 64, 0, .inl .null), (22, 1, .iload_n 1, 1, 0, .inl .null), (23, 1, .iconst 1, 0, 0, .inl (.int 1)), (24, 1, .iadd, 0, 0, .inl .null), (25, 1, .aload_n 0, 0, 0, .inl .null), (26, 3, .getfield 69, 3, 10, .inl .null), (29, 1, .arraylength, 0, 0, .inl .null), (30, 3, .if_icmp .ge 34, 64, 0, .inl .null), (33, 1, .aload_n 0, 0, 0, .inl .null), (34, 1, .iload_n 2, 2, 0, .inl .null), (35, 1, .aload_n 0, 0, 0, .inl .null), (36, 3, .getfield 19, 3, 1, .inl .null), (39, 3, .getfield 116, 6, 1, .inl .null), (42, 3, .invokevirtual 141, 122, 51, .inr (1, 0, 0)), (45, 3, .ifCond .eq 13, 58, 0, .inl .null), (48, 3, .iinc 1 1, 1, 0, .inl (.int 1)), (51, 1, .aload_n 0, 0, 0, .inl .null), (52, 3, .getfield 69, 3, 10, .inl .null), (55, 1, .iload_n 1, 1, 0, .inl .null), (56, 1, .iload_n 2, 2, 0, .inl .null), (57, 1, .iastore, 0, 0, .inl .null), (58, 3, .iinc 2 1, 2, 0, .inl (.int 1)), (61, 3, .goto (-50), 11, 0, .inl .null), (64, 1, .iload_n 1, 1, 0, .inl .null), (65, 1, .ireturn, 0, 0, .inl .null)]
def cd_X7_startBehind : List gE := [(0, 1, .aload_n 0, 0, 0, .inl .null), (1, 3, .invokevirtual 152, 123, 49, .inr (1, 0, 0)), (4, 1, .istore_n 2, 2, 0, .inl .null), (5, 1, .iload_n 1, 1, 0, .inl .null), (6, 3, .ifCond .lt 8, 14, 0, .inl .null), (9, 1, .iload_n 1, 1, 0, .inl .null), (10, 1, .iload_n 2, 2, 0, .inl .null), (11, 3, .if_icmp .le 14, 25, 0, .inl .null), (14, 3, .new 81, 1, 1, .inl .null), (17, 1, .dup, 0, 0, .inl .null), (18, 3, .ldc_w 344, 0, 0, .inl .null), (21, 3, .invokespecial 85, 0, 0, .inl .null), (24, 1, .athrow, 0, 0, .inl .null), (25, 1, .aload_n 0, 0, 0, .inl .null), (26, 3, .getfield 69, 3, 10, .inl .null), (29, 1, .iload_n 1, 1, 0, .inl .null), (30, 1, .iaload, 0, 0, .inl .null), (31, 1, .ireturn, 0, 0, .inl .null)]
def cd_X7_complementBehind : List gE := [(0, 1, .aload_n 0, 0, 0, .inl .null), (1, 3, .getfield 44, 3, 6, .inl .null), (4, 1, .aload_n 0, 0, 0, .inl .null), (5, 3, .getfield 19, 3, 1, .inl .null), (8, 1, .aload_n 0, 0, 0, .inl .null), (9, 3, .getfield 19, 3, 1, .inl .null), (12, 3, .getfield 107, 6, 0, .inl .null), (15, 1, .aload_n 0, 0, 0, .inl .null), (16, 3, .getfield 19, 3, 1, .inl .null), (19, 3, .getfield 116, 6, 1, .inl .null), (22, 1, .iconst 0, 0, 0, .inl (.int 0)), (23, 3, .invokevirtual 145, 6, 277, .inr (0, 0, 0)), (26, 1, .aload_n 0, 0, 0, .inl .null), (27, 3, .getfield 44, 3, 6, .inl .null), (30, 1, .iload_n 1, 1, 0, .inl .null), (31, 3, .invokevirtual 149, 11, 274, .inr (1, 0, 0)), (34, 1, .pop, 0, 0, .inl .null), (35, 1, .return_, 0, 0, .inl .null)]
def cd_X7_pairsBehind : List gE := [(0, 1, .aload_n 0, 0, 0, .inl .null), (1, 1, .iload_n 1, 1, 0, .inl .null), (2, 3, .invokevirtual 180, 125, 50, .inr (0, 0, 0)), (5, 1, .aload_n 0, 0, 0, .inl .null), (6, 3, .getfield 44, 3, 6, .inl .null), (9, 1, .iload_n 1, 1, 0, .inl .null), (10, 3, .invokevirtual 186, 17, 274, .inr (0, 0, 0)), (13, 1, .aload_n 0, 0, 0, .inl .null), (14, 3, .getfield 51, 3, 7, .inl .null), (17, 1, .aload_n 0, 0, 0, .inl .null), (18, 3, .getfield 44, 3, 6, .inl .null), (21, 1, .iload_n 1, 1, 0, .inl .null), (22, 3, .invokevirtual 346, 41, 323, .inr (1, 0, 0)), (25, 1, .ireturn, 0, 0, .inl .null)]
def cd_X7_eliminateWithSides : List gE := [(0, 1, .aload_n 0, 0, 0, .inl .null), (1, 3, .getfield 19, 3, 1, .inl .null), (4, 3, .getfield 107, 6, 0, .inl .null), (7, 1, .istore_n 1, 1, 0, .inl .null), (8, 1, .aload_n 0, 0, 0, .inl .null), (9, 3, .getfield 44, 3, 6, .inl .null), (12, 1, .aload_n 0, 0, 0, .inl .null), (13, 3, .getfield 19, 3, 1, .inl .null), (16, 1, .iload_n 1, 1, 0, .inl .null), (17, 1, .aload_n 0, 0, 0, .inl .null), (18, 3, .getfield 19, 3, 1, .inl .null), (21, 3, .getfield 116, 6, 1, .inl .null), (24, 1, .iconst 1, 0, 0, .inl (.int 1)), (25, 3, .invokevirtual 145, 6, 277, .inr (0, 0, 0)), (28, 1, .iconst 0, 0, 0, .inl (.int 0)), (29, 1, .istore_n 2, 2, 0, .inl .null), (30, 1, .iload_n 2, 2, 0, .inl .null), (31, 1, .iload_n 1, 1, 0, .inl .null), (32, 3, .if_icmp .ge 27, 59, 0, .inl .null), (35, 1, .aload_n 0, 0, 0, .inl .null), (36, 3, .getfield 44, 3, 6, .inl .null), (39, 1, .iload_n 2, 2, 0, .inl .null), (40, 1, .iload_n 1, 1, 0, .inl .null), (41, 1, .aload_n 0, 0, 0, .inl .null), (42, 3, .getfield 19, 3, 1, .inl .null), (45, 3, .getfield 132, 6, 3, .inl .null), (48, 1, .iload_n 2, 2, 0, .inl .null), (49, 1, .iaload, 0, 0, .inl .null), (50, 3, .invokevirtual 349, 9, 276, .inr (0, 0, 0)), (53, 3, .iinc 2 1, 2, 0, .inl (.int 1)), (56, 3, .goto (-26), 30, 0, .inl .null), (59, 1, .aload_n 0, 0, 0, .inl .null), (60, 3, .getfield 44, 3, 6, .inl .null), (63, 1, .iload_n 1, 1, 0, .inl .null), (64, 3, .invokevirtual 149, 11, 274, .inr (1, 0, 0)), (67, 1, .ireturn, 0, 0, .inl .null)]
def cd_X7_timesProbe : List gE := [(0, 1, .iconst 0, 0, 0, .inl (.int 0)), (1, 1, .istore_n 2, 2, 0, .inl .null), (2, 1, .iconst 0, 0, 0, .inl (.int 0)), (3, 1, .istore_n 3, 3, 0, .inl .null), (4, 1, .iload_n 3, 3, 0, .inl .null), (5, 1, .aload_n 0, 0, 0, .inl .null), (6, 3, .getfield 19, 3, 1, .inl .null), (9, 3, .getfield 107, 6, 0, .inl .null), (12, 3, .if_icmp .ge 32, 44, 0, .inl .null), (15, 1, .iload_n 2, 2, 0, .inl .null), (16, 1, .aload_n 0, 0, 0, .inl .null), (17, 3, .getfield 19, 3, 1, .inl .null), (20, 1, .iload_n 1, 1, 0, .inl .null), (21, 1, .iload_n 3, 3, 0, .inl .null), (22, 1, .isub, 0, 0, .inl .null), (23, 3, .invokevirtual 125, 46, 98, .inr (1, 0, 0)), (26, 1, .aload_n 0, 0, 0, .inl .null), (27, 3, .getfield 19, 3, 1, .inl .null), (30, 3, .getfield 135, 6, 4, .inl .null), (33, 1, .iload_n 3, 3, 0, .inl .null), (34, 1, .iaload, 0, 0, .inl .null), (35, 1, .imul, 0, 0, .inl .null), (36, 1, .iadd, 0, 0, .inl .null), (37, 1, .istore_n 2, 2, 0, .inl .null), (38, 3, .iinc 3 1, 3, 0, .inl (.int 1)), (41, 3, .goto (-37), 4, 0, .inl .null), (44, 1, .iload_n 2, 2, 0, .inl .null), (45, 1, .ireturn, 0, 0, .inl .null)]
def cd_X7_aroundCircle : List gE := [(0, 1, .aload_n 0, 0, 0, .inl .null), (1, 3, .getfield 19, 3, 1, .inl .null), (4, 3, .getfield 107, 6, 0, .inl .null), (7, 1, .istore_n 2, 2, 0, .inl .null), (8, 1, .iload_n 1, 1, 0, .inl .null), (9, 1, .iconst 2, 0, 0, .inl (.int 2)), (10, 1, .iload_n 2, 2, 0, .inl .null), (11, 1, .imul, 0, 0, .inl .null), (12, 3, .invokestatic 353, 121, 2, .inr (1, 0, 0)), (15, 1, .istore_n 3, 3, 0, .inl .null), (16, 1, .iload_n 3, 3, 0, .inl .null), (17, 1, .iload_n 2, 2, 0, .inl .null), (18, 3, .if_icmp .ne 5, 23, 0, .inl .null), (21, 1, .iconst 0, 0, 0, .inl (.int 0)), (22, 1, .ireturn, 0, 0, .inl .null), (23, 1, .aload_n 0, 0, 0, .inl .null), (24, 3, .getfield 19, 3, 1, .inl .null), (27, 1, .iload_n 3, 3, 0, .inl .null), (28, 1, .iload_n 2, 2, 0, .inl .null), (29, 3, .if_icmp .ge 7, 36, 0, .inl .null), (32, 1, .iload_n 3, 3, 0, .inl .null), (33, 3, .goto 8, 41, 0, .inl .null), (36, 1, .iload_n 3, 3, 0, .inl .null), (37, 1, .iconst 2, 0, 0, .inl (.int 2)), (38, 1, .iload_n 2, 2, 0, .inl .null), (39, 1, .imul, 0, 0, .inl .null), (40, 1, .isub, 0, 0, .inl .null), (41, 3, .invokevirtual 125, 46, 98, .inr (1, 0, 0)), (44, 1, .ireturn, 0, 0, .inl .null)]
def cd_X8_thrown : List gE := [(0, 1, .aload_n 0, 0, 0, .inl .null), (1, 3, .getfield 58, 31, 0, .inl .null), (4, 1, .ireturn, 0, 0, .inl .null)]
def cd_X8_in : List gE := [(0, 1, .iload_n 0, 0, 0, .inl .null), (1, 1, .iload_n 1, 1, 0, .inl .null), (2, 3, .if_icmp .lt 12, 14, 0, .inl .null), (5, 1, .iload_n 0, 0, 0, .inl .null), (6, 1, .iload_n 2, 2, 0, .inl .null), (7, 3, .if_icmp .gt 7, 14, 0, .inl .null), (10, 1, .iconst 1, 0, 0, .inl (.int 1)), (11, 3, .goto 4, 15, 0, .inl .null), (14, 1, .iconst 0, 0, 0, .inl (.int 0)), (15, 1, .ireturn, 0, 0, .inl .null)]
def cd_X8_refuse : List gE := [(0, 1, .aload_n 0, 0, 0, .inl .null), (1, 3, .getfield 58, 31, 0, .inl .null), (4, 3, .ifCond .ne 12, 16, 0, .inl .null), (7, 1, .iload_n 1, 1, 0, .inl .null), (8, 3, .ifCond .eq 8, 16, 0, .inl .null), (11, 1, .aload_n 0, 0, 0, .inl .null), (12, 1, .iload_n 2, 2, 0, .inl .null), (13, 3, .putfield 58, 31, 0, .inl .null), (16, 1, .aload_n 0, 0, 0, .inl .null), (17, 3, .getfield 58, 31, 0, .inl .null), (20, 3, .ifCond .eq 7, 27, 0, .inl .null), (23, 1, .iconst 1, 0, 0, .inl (.int 1)), (24, 3, .goto 4, 28, 0, .inl .null), (27, 1, .iconst 0, 0, 0, .inl (.int 0)), (28, 1, .ireturn, 0, 0, .inl .null)]
def cd_X8_noSystem : List gE := [(0, 1, .aload_n 0, 0, 0, .inl .null), (1, 1, .iconst 0, 0, 0, .inl (.int 0)), (2, 3, .putfield 58, 31, 0, .inl .null), (5, 1, .aload_n 0, 0, 0, .inl .null), (6, 1, .aload_n 0, 0, 0, .inl .null), (7, 3, .getfield 61, 31, 1, .inl .null), (10, 3, .ifCond .ne 7, 17, 0, .inl .null), (13, 1, .iconst 1, 0, 0, .inl (.int 1)), (14, 3, .goto 4, 18, 0, .inl .null), (17, 1, .iconst 0, 0, 0, .inl (.int 0)), (18, 1, .iconst 1, 0, 0, .inl (.int 1)), (19, 3, .invokevirtual 65, 132, 499, .inr (1, 0, 0)), (22, 1, .ireturn, 0, 0, .inl .null)]
def cd_X8_primeIndex : List gE := [(0, 1, .iconst 0, 0, 0, .inl (.int 0)), (1, 1, .istore_n 1, 1, 0, .inl .null), (2, 1, .iload_n 1, 1, 0, .inl .null), (3, 2, .bipush 11, 0, 0, .inl (.int 11)), (5, 3, .if_icmp .ge 19, 24, 0, .inl .null), (8, 1, .iload_n 1, 1, 0, .inl .null), (9, 3, .invokestatic 69, 135, 1, .inr (1, 0, 0)), (12, 1, .iload_n 0, 0, 0, .inl .null), (13, 3, .if_icmp .ne 5, 18, 0, .inl .null), (16, 1, .iload_n 1, 1, 0, .inl .null), (17, 1, .ireturn, 0, 0, .inl .null), (18, 3, .iinc 1 1, 1, 0, .inl (.int 1)), (21, 3, .goto (-19), 2, 0, .inl .null), (24, 1, .iconst (-1), 0, 0, .inl (.int (-1))), (25, 1, .ireturn, 0, 0, .inl .null)]
def cd_X8_primeAt : List gE := [(0, 1, .iload_n 0, 0, 0, .inl .null), (1, 55, .tableswitch 82 0 9 #[55, 57, 59, 61, 64, 67, 70, 73, 76, 79], 0, 0, .inl .null), (56, 1, .iconst 2, 0, 0, .inl (.int 2)), (57, 1, .ireturn, 0, 0, .inl .null), (58, 1, .iconst 3, 0, 0, .inl (.int 3)), (59, 1, .ireturn, 0, 0, .inl .null), (60, 1, .iconst 5, 0, 0, .inl (.int 5)), (61, 1, .ireturn, 0, 0, .inl .null), (62, 2, .bipush 7, 0, 0, .inl (.int 7)), (64, 1, .ireturn, 0, 0, .inl .null), (65, 2, .bipush 11, 0, 0, .inl (.int 11)), (67, 1, .ireturn, 0, 0, .inl .null), (68, 2, .bipush 13, 0, 0, .inl (.int 13)), (70, 1, .ireturn, 0, 0, .inl .null), (71, 2, .bipush 17, 0, 0, .inl (.int 17)), (73, 1, .ireturn, 0, 0, .inl .null), (74, 2, .bipush 19, 0, 0, .inl (.int 19)), (76, 1, .ireturn, 0, 0, .inl .null), (77, 2, .bipush 23, 0, 0, .inl (.int 23)), (79, 1, .ireturn, 0, 0, .inl .null), (80, 2, .bipush 29, 0, 0, .inl (.int 29)), (82, 1, .ireturn, 0, 0, .inl .null), (83, 2, .bipush 31, 0, 0, .inl (.int 31)), (85, 1, .ireturn, 0, 0, .inl .null)]
def cd_X8_append : List gE := [(0, 1, .aload_n 0, 0, 0, .inl .null), (1, 1, .iconst 0, 0, 0, .inl (.int 0)), (2, 3, .putfield 58, 31, 0, .inl .null), (5, 1, .aload_n 0, 0, 0, .inl .null), (6, 3, .getfield 73, 31, 7, .inl .null), (9, 2, .bipush 20, 0, 0, .inl (.int 20)), (11, 1, .iadd, 0, 0, .inl .null), (12, 3, .sipush 700, 0, 0, .inl (.int 700)), (15, 3, .if_icmp .le 5, 20, 0, .inl .null), (18, 1, .iconst (-1), 0, 0, .inl (.int (-1))), (19, 1, .ireturn, 0, 0, .inl .null), (20, 1, .iconst 0, 0, 0, .inl (.int 0)), (21, 2, .istore 6, 6, 0, .inl .null), (23, 2, .iload 6, 6, 0, .inl .null), (25, 2, .bipush 20, 0, 0, .inl (.int 20)), (27, 3, .if_icmp .ge 86, 113, 0, .inl .null), (30, 2, .iload 6, 6, 0, .inl .null), (32, 1, .iconst 4, 0, 0, .inl (.int 4)), (33, 3, .if_icmp .ge 7, 40, 0, .inl .null), (36, 1, .iload_n 1, 1, 0, .inl .null), (37, 3, .goto 39, 76, 0, .inl .null), (40, 2, .iload 6, 6, 0, .inl .null), (42, 2, .bipush 8, 0, 0, .inl (.int 8)), (44, 3, .if_icmp .ge 7, 51, 0, .inl .null), (47, 1, .iload_n 2, 2, 0, .inl .null), (48, 3, .goto 28, 76, 0, .inl .null), (51, 2, .iload 6, 6, 0, .inl .null), (53, 2, .bipush 12, 0, 0, .inl (.int 12)), (55, 3, .if_icmp .ge 7, 62, 0, .inl .null), (58, 1, .iload_n 3, 3, 0, .inl .null), (59, 3, .goto 17, 76, 0, .inl .null), (62, 2, .iload 6, 6, 0, .inl .null), (64, 2, .bipush 16, 0, 0, .inl (.int 16)), (66, 3, .if_icmp .ge 8, 74, 0, .inl .null), (69, 2, .iload 4, 4, 0, .inl .null), (71, 3, .goto 5, 76, 0, .inl .null), (74, 2, .iload 5, 5, 0, .inl .null), (76, 2, .istore 7, 7, 0, .inl .null), (78, 1, .aload_n 0, 0, 0, .inl .null), (79, 3, .getfield 20, 31, 6, .inl .null), (82, 1, .aload_n 0, 0, 0, .inl .null), (83, 3, .getfield 73, 31, 7, .inl .null), (86, 2, .iload 6, 6, 0, .inl .null), (88, 1, .iadd, 0, 0, .inl .null), (89, 2, .iload 7, 7, 0, .inl .null), (91, 2, .bipush 24, 0, 0, .inl (.int 24)), (93, 2, .bipush 8, 0, 0, .inl (.int 8)), (95, 2, .iload 6, 6, 0, .inl .null), (97, 1, .iconst 4, 0, 0, .inl (.int 4)), (98, 1, .irem, 0, 0, .inl .null), (99, 1, .imul, 0, 0, .inl .null), (100, 1, .isub, 0, 0, .inl .null), (101, 1, .ishr, 0, 0, .inl .null), (102, 3, .sipush 255, 0, 0, .inl (.int 255)), (105, 1, .iand, 0, 0, .inl .null), (106, 1, .iastore, 0, 0, .inl .null), (107, 3, .iinc 6 1, 6, 0, .inl (.int 1)), (110, 3, .goto (-87), 23, 0, .inl .null), (113, 1, .aload_n 0, 0, 0, .inl .null), (114, 1, .dup, 0, 0, .inl .null), (115, 3, .getfield 73, 31, 7, .inl .null), (118, 2, .bipush 20, 0, 0, .inl (.int 20)), (120, 1, .iadd, 0, 0, .inl .null), (121, 3, .putfield 73, 31, 7, .inl .null), (124, 1, .aload_n 0, 0, 0, .inl .null), (125, 3, .getfield 73, 31, 7, .inl .null), (128, 1, .ireturn, 0, 0, .inl .null)]
def cd_X8_buffered : List gE := [(0, 1, .aload_n 0, 0, 0, .inl .null), (1, 1, .iconst 0, 0, 0, .inl (.int 0)), (2, 3, .putfield 58, 31, 0, .inl .null), (5, 1, .aload_n 0, 0, 0, .inl .null), (6, 3, .getfield 73, 31, 7, .inl .null), (9, 1, .ireturn, 0, 0, .inl .null)]
def cd_X8_parseError : List gE := [(0, 1, .aload_n 0, 0, 0, .inl .null), (1, 1, .iconst 0, 0, 0, .inl (.int 0)), (2, 3, .putfield 58, 31, 0, .inl .null), (5, 1, .aload_n 0, 0, 0, .inl .null), (6, 3, .getfield 76, 31, 8, .inl .null), (9, 1, .ireturn, 0, 0, .inl .null)]
def cd_X8_errorPosition : List gE := [(0, 1, .aload_n 0, 0, 0, .inl .null), (1, 1, .iconst 0, 0, 0, .inl (.int 0)), (2, 3, .putfield 58, 31, 0, .inl .null), (5, 1, .aload_n 0, 0, 0, .inl .null), (6, 3, .getfield 23, 31, 9, .inl .null), (9, 1, .ireturn, 0, 0, .inl .null)]
def cd_X8_seen : List gE := [(0, 1, .iload_n 1, 1, 0, .inl .null), (1, 1, .aload_n 0, 0, 0, .inl .null), (2, 3, .getfield 79, 31, 10, .inl .null), (5, 3, .if_icmp .ge 12, 17, 0, .inl .null), (8, 1, .aload_n 0, 0, 0, .inl .null), (9, 3, .getfield 20, 31, 6, .inl .null), (12, 1, .iload_n 1, 1, 0, .inl .null), (13, 1, .iaload, 0, 0, .inl .null), (14, 3, .goto 4, 18, 0, .inl .null), (17, 1, .iconst (-1), 0, 0, .inl (.int (-1))), (18, 1, .ireturn, 0, 0, .inl .null)]
def cd_X8_isLetter : List gE := [(0, 1, .iload_n 0, 0, 0, .inl .null), (1, 2, .bipush 97, 0, 0, .inl (.int 97)), (3, 3, .if_icmp .lt 13, 16, 0, .inl .null), (6, 1, .iload_n 0, 0, 0, .inl .null), (7, 2, .bipush 122, 0, 0, .inl (.int 122)), (9, 3, .if_icmp .gt 7, 16, 0, .inl .null), (12, 1, .iconst 1, 0, 0, .inl (.int 1)), (13, 3, .goto 4, 17, 0, .inl .null), (16, 1, .iconst 0, 0, 0, .inl (.int 0)), (17, 1, .ireturn, 0, 0, .inl .null)]
def cd_X8_isDigit : List gE := [(0, 1, .iload_n 0, 0, 0, .inl .null), (1, 2, .bipush 48, 0, 0, .inl (.int 48)), (3, 3, .if_icmp .lt 13, 16, 0, .inl .null), (6, 1, .iload_n 0, 0, 0, .inl .null), (7, 2, .bipush 57, 0, 0, .inl (.int 57)), (9, 3, .if_icmp .gt 7, 16, 0, .inl .null), (12, 1, .iconst 1, 0, 0, .inl (.int 1)), (13, 3, .goto 4, 17, 0, .inl .null), (16, 1, .iconst 0, 0, 0, .inl (.int 0)), (17, 1, .ireturn, 0, 0, .inl .null)]
def cd_X8_token : List gE := [(0, 1, .aload_n 0, 0, 0, .inl .null), (1, 1, .aload_n 0, 0, 0, .inl .null), (2, 3, .getfield 82, 31, 11, .inl .null), (5, 3, .invokevirtual 85, 140, 498, .inr (1, 0, 0)), (8, 2, .bipush 32, 0, 0, .inl (.int 32)), (10, 3, .if_icmp .ne 16, 26, 0, .inl .null), (13, 1, .aload_n 0, 0, 0, .inl .null), (14, 1, .dup, 0, 0, .inl .null), (15, 3, .getfield 82, 31, 11, .inl .null), (18, 1, .iconst 1, 0, 0, .inl (.int 1)), (19, 1, .iadd, 0, 0, .inl .null), (20, 3, .putfield 82, 31, 11, .inl .null), (23, 3, .goto (-23), 0, 0, .inl .null), (26, 1, .aload_n 0, 0, 0, .inl .null), (27, 1, .aload_n 0, 0, 0, .inl .null), (28, 3, .getfield 82, 31, 11, .inl .null), (31, 3, .putfield 88, 31, 12, .inl .null), (34, 1, .aload_n 0, 0, 0, .inl .null), (35, 1, .aload_n 0, 0, 0, .inl .null), (36, 3, .getfield 82, 31, 11, .inl .null), (39, 3, .invokevirtual 85, 140, 498, .inr (1, 0, 0)), (42, 1, .istore_n 1, 1, 0, .inl .null), (43, 1, .iload_n 1, 1, 0, .inl .null), (44, 1, .iconst (-1), 0, 0, .inl (.int (-1))), (45, 3, .if_icmp .ne 11, 56, 0, .inl .null), (48, 1, .aload_n 0, 0, 0, .inl .null), (49, 1, .iconst 0, 0, 0, .inl (.int 0)), (50, 3, .putfield 91, 31, 13, .inl .null), (53, 3, .goto 202, 255, 0, .inl .null), (56, 1, .iload_n 1, 1, 0, .inl .null), (57, 3, .invokestatic 94, 141, 1, .inr (1, 0, 0)), (60, 3, .ifCond .eq 56, 116, 0, .inl .null), (63, 1, .aload_n 0, 0, 0, .inl .null), (64, 1, .aload_n 0, 0, 0, .inl .null), (65, 3, .getfield 82, 31, 11, .inl .null), (68, 3, .invokevirtual 85, 140, 498, .inr (1, 0, 0)), (71, 3, .invokestatic 94, 141, 1, .inr (1, 0, 0)), (74, 3, .ifCond .eq 16, 90, 0, .inl .null), (77, 1, .aload_n 0, 0, 0, .inl .null), (78, 1, .dup, 0, 0, .inl .null), (79, 3, .getfield 82, 31, 11, .inl .null), (82, 1, .iconst 1, 0, 0, .inl (.int 1)), (83, 1, .iadd, 0, 0, .inl .null), (84, 3, .putfield 82, 31, 11, .inl .null), (87, 3, .goto (-24), 63, 0, .inl .null), (90, 1, .aload_n 0, 0, 0, .inl .null), (91, 1, .aload_n 0, 0, 0, .inl .null), (92, 3, .getfield 82, 31, 11, .inl .null), (95, 1, .aload_n 0, 0, 0, .inl .null), (96, 3, .getfield 88, 31, 12, .inl .null), (99, 1, .isub, 0, 0, .inl .null), (100, 2, .bipush 8, 0, 0, .inl (.int 8)), (102, 3, .if_icmp .le 7, 109, 0, .inl .null), (105, 1, .iconst 5, 0, 0, .inl (.int 5)), (106, 3, .goto 4, 110, 0, .inl .null), (109, 1, .iconst 1, 0, 0, .inl (.int 1)), (110, 3, .putfield 91, 31, 13, .inl .null), (113, 3, .goto 142, 255, 0, .inl .null), (116, 1, .iload_n 1, 1, 0, .inl .null), (117, 3, .invokestatic 98, 142, 1, .inr (1, 0, 0)), (120, 3, .ifCond .eq 100, 220, 0, .inl .null), (123, 1, .aload_n 0, 0, 0, .inl .null), (124, 1, .iconst 0, 0, 0, .inl (.int 0)), (125, 3, .putfield 101, 31, 14, .inl .null), (128, 1, .aload_n 0, 0, 0, .inl .null), (129, 1, .aload_n 0, 0, 0, .inl .null), (130, 3, .getfield 82, 31, 11, .inl .null), (133, 3, .invokevirtual 85, 140, 498, .inr (1, 0, 0)), (136, 3, .invokestatic 98, 142, 1, .inr (1, 0, 0)), (139, 3, .ifCond .eq 56, 195, 0, .inl .null), (142, 1, .aload_n 0, 0, 0, .inl .null), (143, 1, .aload_n 0, 0, 0, .inl .null), (144, 3, .getfield 82, 31, 11, .inl .null), (147, 1, .aload_n 0, 0, 0, .inl .null), (148, 3, .getfield 88, 31, 12, .inl .null), (151, 1, .isub, 0, 0, .inl .null), (152, 1, .iconst 4, 0, 0, .inl (.int 4)), (153, 3, .if_icmp .ge 25, 178, 0, .inl .null), (156, 2, .bipush 10, 0, 0, .inl (.int 10)), (158, 1, .aload_n 0, 0, 0, .inl .null), (159, 3, .getfield 101, 31, 14, .inl .null), (162, 1, .imul, 0, 0, .inl .null), (163, 1, .aload_n 0, 0, 0, .inl .null), (164, 1, .aload_n 0, 0, 0, .inl .null), (165, 3, .getfield 82, 31, 11, .inl .null), (168, 3, .invokevirtual 85, 140, 498, .inr (1, 0, 0)), (171, 1, .iadd, 0, 0, .inl .null), (172, 2, .bipush 48, 0, 0, .inl (.int 48)), (174, 1, .isub, 0, 0, .inl .null), (175, 3, .goto 4, 179, 0, .inl .null), (178, 1, .iconst 0, 0, 0, .inl (.int 0)), (179, 3, .putfield 101, 31, 14, .inl .null), (182, 1, .aload_n 0, 0, 0, .inl .null), (183, 1, .dup, 0, 0, .inl .null), (184, 3, .getfield 82, 31, 11, .inl .null), (187, 1, .iconst 1, 0, 0, .inl (.int 1)), (188, 1, .iadd, 0, 0, .inl .null), (189, 3, .putfield 82, 31, 11, .inl .null), (192, 3, .goto (-64), 128, 0, .inl .null), (195, 1, .aload_n 0, 0, 0, .inl .null), (196, 1, .aload_n 0, 0, 0, .inl .null), (197, 3, .getfield 82, 31, 11, .inl .null), (200, 1, .aload_n 0, 0, 0, .inl .null), (201, 3, .getfield 88, 31, 12, .inl .null), (204, 1, .isub, 0, 0, .inl .null), (205, 1, .iconst 4, 0, 0, .inl (.int 4)), (206, 3, .if_icmp .le 7, 213, 0, .inl .null), (209, 1, .iconst 5, 0, 0, .inl (.int 5)), (210, 3, .goto 4, 214, 0, .inl .null), (213, 1, .iconst 2, 0, 0, .inl (.int 2)), (214, 3, .putfield 91, 31, 13, .inl .null), (217, 3, .goto 38, 255, 0, .inl .null), (220, 1, .aload_n 0, 0, 0, .inl .null), (221, 1, .iload_n 1, 1, 0, .inl .null), (222, 2, .bipush 59, 0, 0, .inl (.int 59)), (224, 3, .if_icmp .ne 7, 231, 0, .inl .null), (227, 1, .iconst 3, 0, 0, .inl (.int 3)), (228, 3, .goto 14, 242, 0, .inl .null), (231, 1, .iload_n 1, 1, 0, .inl .null), (232, 2, .bipush 45, 0, 0, .inl (.int 45)), (234, 3, .if_icmp .ne 7, 241, 0, .inl .null), (237, 1, .iconst 4, 0, 0, .inl (.int 4)), (238, 3, .goto 4, 242, 0, .inl .null), (241, 1, .iconst 5, 0, 0, .inl (.int 5)), (242, 3, .putfield 91, 31, 13, .inl .null), (245, 1, .aload_n 0, 0, 0, .inl .null), (246, 1, .dup, 0, 0, .inl .null), (247, 3, .getfield 82, 31, 11, .inl .null), (250, 1, .iconst 1, 0, 0, .inl (.int 1)), (251, 1, .iadd, 0, 0, .inl .null), (252, 3, .putfield 82, 31, 11, .inl .null), (255, 1, .return_, 0, 0, .inl .null)]
def cd_X8_fails : List gE := [(0, 1, .aload_n 0, 0, 0, .inl .null), (1, 3, .getfield 104, 31, 15, .inl .null), (4, 3, .ifCond .ne 16, 20, 0, .inl .null), (7, 1, .aload_n 0, 0, 0, .inl .null), (8, 1, .iload_n 1, 1, 0, .inl .null), (9, 3, .putfield 104, 31, 15, .inl .null), (12, 1, .aload_n 0, 0, 0, .inl .null), (13, 1, .aload_n 0, 0, 0, .inl .null), (14, 3, .getfield 88, 31, 12, .inl .null), (17, 3, .putfield 107, 31, 16, .inl .null), (20, 1, .return_, 0, 0, .inl .null)]
def cd_X8_goesOn : List gE := [(0, 1, .aload_n 0, 0, 0, .inl .null), (1, 3, .getfield 104, 31, 15, .inl .null), (4, 3, .ifCond .ne 7, 11, 0, .inl .null), (7, 1, .aload_n 0, 0, 0, .inl .null), (8, 3, .invokevirtual 110, 143, 497, .inr (0, 0, 0)), (11, 1, .return_, 0, 0, .inl .null)]
def cd_X8_isWord : List gE := [(0, 1, .aload_n 0, 0, 0, .inl .null), (1, 3, .getfield 104, 31, 15, .inl .null), (4, 3, .ifCond .ne 27, 31, 0, .inl .null), (7, 1, .aload_n 0, 0, 0, .inl .null), (8, 3, .getfield 91, 31, 13, .inl .null), (11, 1, .iconst 1, 0, 0, .inl (.int 1)), (12, 3, .if_icmp .ne 19, 31, 0, .inl .null), (15, 1, .aload_n 0, 0, 0, .inl .null), (16, 3, .getfield 82, 31, 11, .inl .null), (19, 1, .aload_n 0, 0, 0, .inl .null), (20, 3, .getfield 88, 31, 12, .inl .null), (23, 1, .isub, 0, 0, .inl .null), (24, 1, .aload_n 1, 1, 0, .inl .null), (25, 3, .invokevirtual 113, 311, 33, .inr (1, 0, 0)), (28, 3, .if_icmp .eq 5, 33, 0, .inl .null), (31, 1, .iconst 0, 0, 0, .inl (.int 0)), (32, 1, .ireturn, 0, 0, .inl .null), (33, 1, .iconst 0, 0, 0, .inl (.int 0)), (34, 1, .istore_n 2, 2, 0, .inl .null), (35, 1, .iload_n 2, 2, 0, .inl .null), (36, 1, .aload_n 1, 1, 0, .inl .null), (37, 3, .invokevirtual 113, 311, 33, .inr (1, 0, 0)), (40, 3, .if_icmp .ge 29, 69, 0, .inl .null), (43, 1, .aload_n 0, 0, 0, .inl .null), (44, 1, .aload_n 0, 0, 0, .inl .null), (45, 3, .getfield 88, 31, 12, .inl .null), (48, 1, .iload_n 2, 2, 0, .inl .null), (49, 1, .iadd, 0, 0, .inl .null), (50, 3, .invokevirtual 85, 140, 498, .inr (1, 0, 0)), (53, 1, .aload_n 1, 1, 0, .inl .null), (54, 1, .iload_n 2, 2, 0, .inl .null), (55, 3, .invokevirtual 119, 312, 34, .inr (1, 0, 0)), (58, 3, .if_icmp .eq 5, 63, 0, .inl .null), (61, 1, .iconst 0, 0, 0, .inl (.int 0)), (62, 1, .ireturn, 0, 0, .inl .null), (63, 3, .iinc 2 1, 2, 0, .inl (.int 1)), (66, 3, .goto (-31), 35, 0, .inl .null), (69, 1, .iconst 1, 0, 0, .inl (.int 1)), (70, 1, .ireturn, 0, 0, .inl .null)]
def cd_X8_expects : List gE := [(0, 1, .aload_n 0, 0, 0, .inl .null), (1, 1, .aload_n 1, 1, 0, .inl .null), (2, 3, .invokevirtual 123, 146, 498, .inr (1, 0, 0)), (5, 3, .ifCond .ne 8, 13, 0, .inl .null), (8, 1, .aload_n 0, 0, 0, .inl .null), (9, 1, .iconst 1, 0, 0, .inl (.int 1)), (10, 3, .invokevirtual 127, 144, 498, .inr (0, 0, 0)), (13, 1, .aload_n 0, 0, 0, .inl .null), (14, 3, .invokevirtual 131, 145, 497, .inr (0, 0, 0)), (17, 1, .return_, 0, 0, .inl .null)]
def cd_X8_numberHere : List gE := [(0, 1, .aload_n 0, 0, 0, .inl .null), (1, 3, .getfield 91, 31, 13, .inl .null), (4, 1, .iconst 2, 0, 0, .inl (.int 2)), (5, 3, .if_icmp .eq 11, 16, 0, .inl .null), (8, 1, .aload_n 0, 0, 0, .inl .null), (9, 1, .iconst 1, 0, 0, .inl (.int 1)), (10, 3, .invokevirtual 127, 144, 498, .inr (0, 0, 0)), (13, 3, .goto 20, 33, 0, .inl .null), (16, 1, .aload_n 0, 0, 0, .inl .null), (17, 3, .getfield 101, 31, 14, .inl .null), (20, 1, .iload_n 1, 1, 0, .inl .null), (21, 1, .iload_n 2, 2, 0, .inl .null), (22, 3, .invokestatic 134, 131, 3, .inr (1, 0, 0)), (25, 3, .ifCond .ne 8, 33, 0, .inl .null), (28, 1, .aload_n 0, 0, 0, .inl .null), (29, 1, .iconst 2, 0, 0, .inl (.int 2)), (30, 3, .invokevirtual 127, 144, 498, .inr (0, 0, 0)), (33, 1, .aload_n 0, 0, 0, .inl .null), (34, 3, .getfield 104, 31, 15, .inl .null), (37, 3, .ifCond .eq 7, 44, 0, .inl .null), (40, 1, .iload_n 1, 1, 0, .inl .null), (41, 3, .goto 7, 48, 0, .inl .null), (44, 1, .aload_n 0, 0, 0, .inl .null), (45, 3, .getfield 101, 31, 14, .inl .null), (48, 1, .ireturn, 0, 0, .inl .null)]
def cd_X8_takes : List gE := [(0, 1, .aload_n 0, 0, 0, .inl .null), (1, 1, .iload_n 1, 1, 0, .inl .null), (2, 1, .iload_n 2, 2, 0, .inl .null), (3, 3, .invokevirtual 138, 148, 499, .inr (1, 0, 0)), (6, 1, .istore_n 3, 3, 0, .inl .null), (7, 1, .aload_n 0, 0, 0, .inl .null), (8, 3, .invokevirtual 131, 145, 497, .inr (0, 0, 0)), (11, 1, .iload_n 3, 3, 0, .inl .null), (12, 1, .ireturn, 0, 0, .inl .null)]
def cd_X8_signedHere : List gE := [(0, 1, .aload_n 0, 0, 0, .inl .null), (1, 3, .getfield 104, 31, 15, .inl .null), (4, 3, .ifCond .ne 15, 19, 0, .inl .null), (7, 1, .aload_n 0, 0, 0, .inl .null), (8, 3, .getfield 91, 31, 13, .inl .null), (11, 1, .iconst 4, 0, 0, .inl (.int 4)), (12, 3, .if_icmp .ne 7, 19, 0, .inl .null), (15, 1, .iconst 1, 0, 0, .inl (.int 1)), (16, 3, .goto 4, 20, 0, .inl .null), (19, 1, .iconst 0, 0, 0, .inl (.int 0)), (20, 1, .istore_n 3, 3, 0, .inl .null), (21, 1, .iload_n 3, 3, 0, .inl .null), (22, 3, .ifCond .eq 7, 29, 0, .inl .null), (25, 1, .aload_n 0, 0, 0, .inl .null), (26, 3, .invokevirtual 110, 143, 497, .inr (0, 0, 0)), (29, 1, .aload_n 0, 0, 0, .inl .null), (30, 3, .getfield 91, 31, 13, .inl .null), (33, 1, .iconst 2, 0, 0, .inl (.int 2)), (34, 3, .if_icmp .eq 11, 45, 0, .inl .null), (37, 1, .aload_n 0, 0, 0, .inl .null), (38, 1, .iconst 1, 0, 0, .inl (.int 1)), (39, 3, .invokevirtual 127, 144, 498, .inr (0, 0, 0)), (42, 3, .goto 32, 74, 0, .inl .null), (45, 1, .iload_n 3, 3, 0, .inl .null), (46, 3, .ifCond .eq 11, 57, 0, .inl .null), (49, 1, .aload_n 0, 0, 0, .inl .null), (50, 3, .getfield 101, 31, 14, .inl .null), (53, 1, .ineg, 0, 0, .inl .null), (54, 3, .goto 7, 61, 0, .inl .null), (57, 1, .aload_n 0, 0, 0, .inl .null), (58, 3, .getfield 101, 31, 14, .inl .null), (61, 1, .iload_n 1, 1, 0, .inl .null), (62, 1, .iload_n 2, 2, 0, .inl .null), (63, 3, .invokestatic 134, 131, 3, .inr (1, 0, 0)), (66, 3, .ifCond .ne 8, 74, 0, .inl .null), (69, 1, .aload_n 0, 0, 0, .inl .null), (70, 1, .iconst 2, 0, 0, .inl (.int 2)), (71, 3, .invokevirtual 127, 144, 498, .inr (0, 0, 0)), (74, 1, .aload_n 0, 0, 0, .inl .null), (75, 3, .getfield 104, 31, 15, .inl .null), (78, 3, .ifCond .eq 7, 85, 0, .inl .null), (81, 1, .iload_n 1, 1, 0, .inl .null), (82, 3, .goto 19, 101, 0, .inl .null), (85, 1, .iload_n 3, 3, 0, .inl .null), (86, 3, .ifCond .eq 11, 97, 0, .inl .null), (89, 1, .aload_n 0, 0, 0, .inl .null), (90, 3, .getfield 101, 31, 14, .inl .null), (93, 1, .ineg, 0, 0, .inl .null), (94, 3, .goto 7, 101, 0, .inl .null), (97, 1, .aload_n 0, 0, 0, .inl .null), (98, 3, .getfield 101, 31, 14, .inl .null), (101, 1, .ireturn, 0, 0, .inl .null)]
def cd_X8_takesSigned : List gE := [(0, 1, .aload_n 0, 0, 0, .inl .null), (1, 1, .iload_n 1, 1, 0, .inl .null), (2, 1, .iload_n 2, 2, 0, .inl .null), (3, 3, .invokevirtual 142, 150, 499, .inr (1, 0, 0)), (6, 1, .istore_n 3, 3, 0, .inl .null), (7, 1, .aload_n 0, 0, 0, .inl .null), (8, 3, .invokevirtual 131, 145, 497, .inr (0, 0, 0)), (11, 1, .iload_n 3, 3, 0, .inl .null), (12, 1, .ireturn, 0, 0, .inl .null)]
def cd_X8_diagonalLine : List gE := [(0, 1, .aload_n 0, 0, 0, .inl .null), (1, 3, .invokevirtual 131, 145, 497, .inr (0, 0, 0)), (4, 1, .aload_n 0, 0, 0, .inl .null), (5, 1, .iconst 1, 0, 0, .inl (.int 1)), (6, 1, .aload_n 0, 0, 0, .inl .null), (7, 3, .getfield 27, 31, 17, .inl .null), (10, 1, .iconst 0, 0, 0, .inl (.int 0)), (11, 1, .iaload, 0, 0, .inl .null), (12, 1, .isub, 0, 0, .inl .null), (13, 1, .aload_n 0, 0, 0, .inl .null), (14, 3, .getfield 27, 31, 17, .inl .null), (17, 1, .iconst 0, 0, 0, .inl (.int 0)), (18, 1, .iaload, 0, 0, .inl .null), (19, 1, .iconst 1, 0, 0, .inl (.int 1)), (20, 1, .isub, 0, 0, .inl .null), (21, 3, .invokevirtual 142, 150, 499, .inr (1, 0, 0)), (24, 1, .istore_n 1, 1, 0, .inl .null), (25, 1, .aload_n 0, 0, 0, .inl .null), (26, 3, .getfield 104, 31, 15, .inl .null), (29, 3, .ifCond .ne 20, 49, 0, .inl .null), (32, 1, .aload_n 0, 0, 0, .inl .null), (33, 3, .getfield 30, 31, 18, .inl .null), (36, 1, .iload_n 1, 1, 0, .inl .null), (37, 2, .bipush 6, 0, 0, .inl (.int 6)), (39, 1, .iadd, 0, 0, .inl .null), (40, 1, .baload, 0, 0, .inl .null), (41, 3, .ifCond .eq 8, 49, 0, .inl .null), (44, 1, .aload_n 0, 0, 0, .inl .null), (45, 1, .iconst 3, 0, 0, .inl (.int 3)), (46, 3, .invokevirtual 127, 144, 498, .inr (0, 0, 0)), (49, 1, .aload_n 0, 0, 0, .inl .null), (50, 3, .invokevirtual 131, 145, 497, .inr (0, 0, 0)), (53, 1, .aload_n 0, 0, 0, .inl .null), (54, 2, .bipush (-50), 0, 0, .inl (.int (-50))), (56, 2, .bipush 50, 0, 0, .inl (.int 50)), (58, 3, .invokevirtual 145, 151, 499, .inr (1, 0, 0)), (61, 1, .istore_n 2, 2, 0, .inl .null), (62, 1, .aload_n 0, 0, 0, .inl .null), (63, 3, .getfield 104, 31, 15, .inl .null), (66, 3, .ifCond .ne 23, 89, 0, .inl .null), (69, 1, .aload_n 0, 0, 0, .inl .null), (70, 3, .getfield 30, 31, 18, .inl .null), (73, 1, .iload_n 1, 1, 0, .inl .null), (74, 2, .bipush 6, 0, 0, .inl (.int 6)), (76, 1, .iadd, 0, 0, .inl .null), (77, 1, .iconst 1, 0, 0, .inl (.int 1)), (78, 1, .bastore, 0, 0, .inl .null), (79, 1, .aload_n 0, 0, 0, .inl .null), (80, 3, .getfield 27, 31, 17, .inl .null), (83, 2, .bipush 8, 0, 0, .inl (.int 8)), (85, 1, .iload_n 1, 1, 0, .inl .null), (86, 1, .iadd, 0, 0, .inl .null), (87, 1, .iload_n 2, 2, 0, .inl .null), (88, 1, .iastore, 0, 0, .inl .null), (89, 1, .return_, 0, 0, .inl .null)]
def cd_X8_bandLine : List gE := [(0, 1, .aload_n 0, 0, 0, .inl .null), (1, 3, .getfield 148, 31, 19, .inl .null), (4, 2, .bipush 8, 0, 0, .inl (.int 8)), (6, 3, .if_icmp .ne 8, 14, 0, .inl .null), (9, 1, .aload_n 0, 0, 0, .inl .null), (10, 1, .iconst 4, 0, 0, .inl (.int 4)), (11, 3, .invokevirtual 127, 144, 498, .inr (0, 0, 0)), (14, 1, .aload_n 0, 0, 0, .inl .null), (15, 3, .invokevirtual 131, 145, 497, .inr (0, 0, 0)), (18, 1, .aload_n 0, 0, 0, .inl .null), (19, 1, .iconst 1, 0, 0, .inl (.int 1)), (20, 1, .aload_n 0, 0, 0, .inl .null), (21, 3, .getfield 27, 31, 17, .inl .null), (24, 1, .iconst 0, 0, 0, .inl (.int 0)), (25, 1, .iaload, 0, 0, .inl .null), (26, 1, .isub, 0, 0, .inl .null), (27, 1, .aload_n 0, 0, 0, .inl .null), (28, 3, .getfield 27, 31, 17, .inl .null), (31, 1, .iconst 0, 0, 0, .inl (.int 0)), (32, 1, .iaload, 0, 0, .inl .null), (33, 1, .iconst 1, 0, 0, .inl (.int 1)), (34, 1, .isub, 0, 0, .inl .null), (35, 3, .invokevirtual 145, 151, 499, .inr (1, 0, 0)), (38, 1, .istore_n 1, 1, 0, .inl .null), (39, 1, .aload_n 0, 0, 0, .inl .null), (40, 1, .iload_n 1, 1, 0, .inl .null), (41, 1, .aload_n 0, 0, 0, .inl .null), (42, 3, .getfield 27, 31, 17, .inl .null), (45, 1, .iconst 0, 0, 0, .inl (.int 0)), (46, 1, .iaload, 0, 0, .inl .null), (47, 1, .iconst 1, 0, 0, .inl (.int 1)), (48, 1, .isub, 0, 0, .inl .null), (49, 3, .invokevirtual 142, 150, 499, .inr (1, 0, 0)), (52, 1, .istore_n 2, 2, 0, .inl .null), (53, 1, .iload_n 1, 1, 0, .inl .null), (54, 1, .istore_n 3, 3, 0, .inl .null), (55, 1, .iload_n 3, 3, 0, .inl .null), (56, 1, .iload_n 2, 2, 0, .inl .null), (57, 3, .if_icmp .gt 33, 90, 0, .inl .null), (60, 1, .aload_n 0, 0, 0, .inl .null), (61, 3, .getfield 104, 31, 15, .inl .null), (64, 3, .ifCond .ne 26, 90, 0, .inl .null), (67, 1, .aload_n 0, 0, 0, .inl .null), (68, 3, .getfield 30, 31, 18, .inl .null), (71, 1, .iload_n 3, 3, 0, .inl .null), (72, 2, .bipush 6, 0, 0, .inl (.int 6)), (74, 1, .iadd, 0, 0, .inl .null), (75, 1, .baload, 0, 0, .inl .null), (76, 3, .ifCond .eq 8, 84, 0, .inl .null), (79, 1, .aload_n 0, 0, 0, .inl .null), (80, 1, .iconst 3, 0, 0, .inl (.int 3)), (81, 3, .invokevirtual 127, 144, 498, .inr (0, 0, 0)), (84, 3, .iinc 3 1, 3, 0, .inl (.int 1)), (87, 3, .goto (-32), 55, 0, .inl .null), (90, 1, .aload_n 0, 0, 0, .inl .null), (91, 3, .invokevirtual 131, 145, 497, .inr (0, 0, 0)), (94, 1, .aload_n 0, 0, 0, .inl .null), (95, 2, .bipush (-50), 0, 0, .inl (.int (-50))), (97, 2, .bipush 50, 0, 0, .inl (.int 50)), (99, 3, .invokevirtual 145, 151, 499, .inr (1, 0, 0)), (102, 1, .istore_n 3, 3, 0, .inl .null), (103, 1, .iload_n 1, 1, 0, .inl .null), (104, 2, .istore 4, 4, 0, .inl .null), (106, 2, .iload 4, 4, 0, .inl .null), (108, 1, .iload_n 2, 2, 0, .inl .null), (109, 3, .if_icmp .gt 38, 147, 0, .inl .null), (112, 1, .aload_n 0, 0, 0, .inl .null), (113, 3, .getfield 104, 31, 15, .inl .null), (116, 3, .ifCond .ne 31, 147, 0, .inl .null), (119, 1, .aload_n 0, 0, 0, .inl .null), (120, 3, .getfield 30, 31, 18, .inl .null), (123, 2, .iload 4, 4, 0, .inl .null), (125, 2, .bipush 6, 0, 0, .inl (.int 6)), (127, 1, .iadd, 0, 0, .inl .null), (128, 1, .iconst 1, 0, 0, .inl (.int 1)), (129, 1, .bastore, 0, 0, .inl .null), (130, 1, .aload_n 0, 0, 0, .inl .null), (131, 3, .getfield 27, 31, 17, .inl .null), (134, 2, .bipush 8, 0, 0, .inl (.int 8)), (136, 2, .iload 4, 4, 0, .inl .null), (138, 1, .iadd, 0, 0, .inl .null), (139, 1, .iload_n 3, 3, 0, .inl .null), (140, 1, .iastore, 0, 0, .inl .null), (141, 3, .iinc 4 1, 4, 0, .inl (.int 1)), (144, 3, .goto (-38), 106, 0, .inl .null), (147, 1, .aload_n 0, 0, 0, .inl .null), (148, 1, .dup, 0, 0, .inl .null), (149, 3, .getfield 148, 31, 19, .inl .null), (152, 1, .iconst 1, 0, 0, .inl (.int 1)), (153, 1, .iadd, 0, 0, .inl .null), (154, 3, .putfield 148, 31, 19, .inl .null), (157, 1, .return_, 0, 0, .inl .null)]
def cd_X8_partLine : List gE := [(0, 1, .aload_n 0, 0, 0, .inl .null), (1, 3, .invokevirtual 131, 145, 497, .inr (0, 0, 0)), (4, 1, .aload_n 0, 0, 0, .inl .null), (5, 1, .iconst 0, 0, 0, .inl (.int 0)), (6, 1, .aload_n 0, 0, 0, .inl .null), (7, 3, .getfield 27, 31, 17, .inl .null), (10, 1, .iconst 0, 0, 0, .inl (.int 0)), (11, 1, .iaload, 0, 0, .inl .null), (12, 1, .iconst 1, 0, 0, .inl (.int 1)), (13, 1, .isub, 0, 0, .inl .null), (14, 3, .invokevirtual 138, 148, 499, .inr (1, 0, 0)), (17, 1, .istore_n 3, 3, 0, .inl .null), (18, 1, .aload_n 0, 0, 0, .inl .null), (19, 3, .getfield 104, 31, 15, .inl .null), (22, 3, .ifCond .ne 19, 41, 0, .inl .null), (25, 1, .aload_n 0, 0, 0, .inl .null), (26, 3, .getfield 30, 31, 18, .inl .null), (29, 1, .iload_n 2, 2, 0, .inl .null), (30, 1, .iload_n 3, 3, 0, .inl .null), (31, 1, .iadd, 0, 0, .inl .null), (32, 1, .baload, 0, 0, .inl .null), (33, 3, .ifCond .eq 8, 41, 0, .inl .null), (36, 1, .aload_n 0, 0, 0, .inl .null), (37, 1, .iconst 3, 0, 0, .inl (.int 3)), (38, 3, .invokevirtual 127, 144, 498, .inr (0, 0, 0)), (41, 1, .aload_n 0, 0, 0, .inl .null), (42, 3, .invokevirtual 131, 145, 497, .inr (0, 0, 0)), (45, 1, .aload_n 0, 0, 0, .inl .null), (46, 3, .sipush (-999), 0, 0, .inl (.int (-999))), (49, 3, .sipush 999, 0, 0, .inl (.int 999)), (52, 3, .invokevirtual 145, 151, 499, .inr (1, 0, 0)), (55, 2, .istore 4, 4, 0, .inl .null), (57, 1, .aload_n 0, 0, 0, .inl .null), (58, 3, .getfield 104, 31, 15, .inl .null), (61, 3, .ifCond .ne 22, 83, 0, .inl .null), (64, 1, .aload_n 0, 0, 0, .inl .null), (65, 3, .getfield 30, 31, 18, .inl .null), (68, 1, .iload_n 2, 2, 0, .inl .null), (69, 1, .iload_n 3, 3, 0, .inl .null), (70, 1, .iadd, 0, 0, .inl .null), (71, 1, .iconst 1, 0, 0, .inl (.int 1)), (72, 1, .bastore, 0, 0, .inl .null), (73, 1, .aload_n 0, 0, 0, .inl .null), (74, 3, .getfield 27, 31, 17, .inl .null), (77, 1, .iload_n 1, 1, 0, .inl .null), (78, 1, .iload_n 3, 3, 0, .inl .null), (79, 1, .iadd, 0, 0, .inl .null), (80, 2, .iload 4, 4, 0, .inl .null), (82, 1, .iastore, 0, 0, .inl .null), (83, 1, .return_, 0, 0, .inl .null)]
def cd_X8_reads : List gE := [(0, 1, .aload_n 0, 0, 0, .inl .null), (1, 1, .iload_n 1, 1, 0, .inl .null), (2, 3, .putfield 79, 31, 10, .inl .null), (5, 1, .aload_n 0, 0, 0, .inl .null), (6, 1, .iconst 0, 0, 0, .inl (.int 0)), (7, 3, .putfield 82, 31, 11, .inl .null), (10, 1, .aload_n 0, 0, 0, .inl .null), (11, 1, .iconst 0, 0, 0, .inl (.int 0)), (12, 3, .putfield 104, 31, 15, .inl .null), (15, 1, .aload_n 0, 0, 0, .inl .null), (16, 1, .iconst (-1), 0, 0, .inl (.int (-1))), (17, 3, .putfield 107, 31, 16, .inl .null), (20, 1, .aload_n 0, 0, 0, .inl .null), (21, 1, .iconst 0, 0, 0, .inl (.int 0)), (22, 3, .putfield 148, 31, 19, .inl .null), (25, 1, .iconst 0, 0, 0, .inl (.int 0)), (26, 1, .istore_n 2, 2, 0, .inl .null), (27, 1, .iload_n 2, 2, 0, .inl .null), (28, 3, .sipush 408, 0, 0, .inl (.int 408)), (31, 3, .if_icmp .ge 16, 47, 0, .inl .null), (34, 1, .aload_n 0, 0, 0, .inl .null), (35, 3, .getfield 27, 31, 17, .inl .null), (38, 1, .iload_n 2, 2, 0, .inl .null), (39, 1, .iconst 0, 0, 0, .inl (.int 0)), (40, 1, .iastore, 0, 0, .inl .null), (41, 3, .iinc 2 1, 2, 0, .inl (.int 1)), (44, 3, .goto (-17), 27, 0, .inl .null), (47, 1, .iconst 0, 0, 0, .inl (.int 0)), (48, 1, .istore_n 2, 2, 0, .inl .null), (49, 1, .iload_n 2, 2, 0, .inl .null), (50, 1, .aload_n 0, 0, 0, .inl .null), (51, 3, .getfield 30, 31, 18, .inl .null), (54, 1, .arraylength, 0, 0, .inl .null), (55, 3, .if_icmp .ge 16, 71, 0, .inl .null), (58, 1, .aload_n 0, 0, 0, .inl .null), (59, 3, .getfield 30, 31, 18, .inl .null), (62, 1, .iload_n 2, 2, 0, .inl .null), (63, 1, .iconst 0, 0, 0, .inl (.int 0)), (64, 1, .bastore, 0, 0, .inl .null), (65, 3, .iinc 2 1, 2, 0, .inl (.int 1)), (68, 3, .goto (-19), 49, 0, .inl .null), (71, 1, .aload_n 0, 0, 0, .inl .null), (72, 3, .invokevirtual 110, 143, 497, .inr (0, 0, 0)), (75, 1, .aload_n 0, 0, 0, .inl .null), (76, 2, .ldc 151, 0, 0, .inr (2, 0, 0)), (78, 3, .invokevirtual 153, 147, 498, .inr (0, 0, 0)), (81, 1, .aload_n 0, 0, 0, .inl .null), (82, 3, .getfield 27, 31, 17, .inl .null), (85, 1, .iconst 0, 0, 0, .inl (.int 0)), (86, 1, .aload_n 0, 0, 0, .inl .null), (87, 1, .iconst 1, 0, 0, .inl (.int 1)), (88, 2, .bipush 7, 0, 0, .inl (.int 7)), (90, 3, .invokevirtual 157, 149, 499, .inr (1, 0, 0)), (93, 1, .iastore, 0, 0, .inl .null), (94, 1, .aload_n 0, 0, 0, .inl .null), (95, 2, .ldc 160, 0, 0, .inr (2, 1, 0)), (97, 3, .invokevirtual 153, 147, 498, .inr (0, 0, 0)), (100, 1, .aload_n 0, 0, 0, .inl .null), (101, 3, .getfield 104, 31, 15, .inl .null), (104, 3, .ifCond .ne 27, 131, 0, .inl .null), (107, 1, .aload_n 0, 0, 0, .inl .null), (108, 3, .getfield 91, 31, 13, .inl .null), (111, 1, .iconst 2, 0, 0, .inl (.int 2)), (112, 3, .if_icmp .ne 19, 131, 0, .inl .null), (115, 1, .aload_n 0, 0, 0, .inl .null), (116, 3, .getfield 101, 31, 14, .inl .null), (119, 3, .invokestatic 162, 134, 1, .inr (1, 0, 0)), (122, 1, .iconst (-1), 0, 0, .inl (.int (-1))), (123, 3, .if_icmp .ne 8, 131, 0, .inl .null), (126, 1, .aload_n 0, 0, 0, .inl .null), (127, 1, .iconst 2, 0, 0, .inl (.int 2)), (128, 3, .invokevirtual 127, 144, 498, .inr (0, 0, 0)), (131, 1, .aload_n 0, 0, 0, .inl .null), (132, 3, .getfield 27, 31, 17, .inl .null), (135, 1, .iconst 1, 0, 0, .inl (.int 1)), (136, 1, .aload_n 0, 0, 0, .inl .null), (137, 1, .iconst 2, 0, 0, .inl (.int 2)), (138, 2, .bipush 31, 0, 0, .inl (.int 31)), (140, 3, .invokevirtual 157, 149, 499, .inr (1, 0, 0)), (143, 1, .iastore, 0, 0, .inl .null), (144, 1, .aload_n 0, 0, 0, .inl .null), (145, 3, .getfield 104, 31, 15, .inl .null), (148, 3, .ifCond .ne 95, 243, 0, .inl .null), (151, 1, .aload_n 0, 0, 0, .inl .null), (152, 3, .getfield 91, 31, 13, .inl .null), (155, 1, .iconst 3, 0, 0, .inl (.int 3)), (156, 3, .if_icmp .ne 87, 243, 0, .inl .null), (159, 1, .aload_n 0, 0, 0, .inl .null), (160, 3, .invokevirtual 110, 143, 497, .inr (0, 0, 0)), (163, 1, .aload_n 0, 0, 0, .inl .null), (164, 2, .ldc 165, 0, 0, .inr (2, 2, 0)), (166, 3, .invokevirtual 123, 146, 498, .inr (1, 0, 0)), (169, 3, .ifCond .eq 10, 179, 0, .inl .null), (172, 1, .aload_n 0, 0, 0, .inl .null), (173, 3, .invokevirtual 167, 152, 497, .inr (0, 0, 0)), (176, 3, .goto (-32), 144, 0, .inl .null), (179, 1, .aload_n 0, 0, 0, .inl .null), (180, 2, .ldc 170, 0, 0, .inr (2, 3, 0)), (182, 3, .invokevirtual 123, 146, 498, .inr (1, 0, 0)), (185, 3, .ifCond .eq 10, 195, 0, .inl .null), (188, 1, .aload_n 0, 0, 0, .inl .null), (189, 3, .invokevirtual 172, 153, 497, .inr (0, 0, 0)), (192, 3, .goto (-48), 144, 0, .inl .null), (195, 1, .aload_n 0, 0, 0, .inl .null), (196, 2, .ldc 175, 0, 0, .inr (2, 4, 0)), (198, 3, .invokevirtual 123, 146, 498, .inr (1, 0, 0)), (201, 3, .ifCond .eq 14, 215, 0, .inl .null), (204, 1, .aload_n 0, 0, 0, .inl .null), (205, 2, .bipush 15, 0, 0, .inl (.int 15)), (207, 2, .bipush 13, 0, 0, .inl (.int 13)), (209, 3, .invokevirtual 177, 154, 499, .inr (0, 0, 0)), (212, 3, .goto (-68), 144, 0, .inl .null), (215, 1, .aload_n 0, 0, 0, .inl .null), (216, 2, .ldc 181, 0, 0, .inr (2, 5, 0)), (218, 3, .invokevirtual 123, 146, 498, .inr (1, 0, 0)), (221, 3, .ifCond .eq 14, 235, 0, .inl .null), (224, 1, .aload_n 0, 0, 0, .inl .null), (225, 2, .bipush 22, 0, 0, .inl (.int 22)), (227, 2, .bipush 20, 0, 0, .inl (.int 20)), (229, 3, .invokevirtual 177, 154, 499, .inr (0, 0, 0)), (232, 3, .goto (-88), 144, 0, .inl .null), (235, 1, .aload_n 0, 0, 0, .inl .null), (236, 1, .iconst 1, 0, 0, .inl (.int 1)), (237, 3, .invokevirtual 127, 144, 498, .inr (0, 0, 0)), (240, 3, .goto (-96), 144, 0, .inl .null), (243, 1, .aload_n 0, 0, 0, .inl .null), (244, 3, .getfield 91, 31, 13, .inl .null), (247, 3, .ifCond .eq 8, 255, 0, .inl .null), (250, 1, .aload_n 0, 0, 0, .inl .null), (251, 1, .iconst 1, 0, 0, .inl (.int 1)), (252, 3, .invokevirtual 127, 144, 498, .inr (0, 0, 0)), (255, 1, .return_, 0, 0, .inl .null)]
def cd_X8_load : List gE := [(0, 1, .aload_n 0, 0, 0, .inl .null), (1, 1, .iconst 0, 0, 0, .inl (.int 0)), (2, 3, .putfield 58, 31, 0, .inl .null), (5, 1, .aload_n 0, 0, 0, .inl .null), (6, 1, .iload_n 1, 1, 0, .inl .null), (7, 1, .iconst 0, 0, 0, .inl (.int 0)), (8, 1, .aload_n 0, 0, 0, .inl .null), (9, 3, .getfield 73, 31, 7, .inl .null), (12, 3, .invokestatic 134, 131, 3, .inr (1, 0, 0)), (15, 3, .ifCond .ne 7, 22, 0, .inl .null), (18, 1, .iconst 1, 0, 0, .inl (.int 1)), (19, 3, .goto 4, 23, 0, .inl .null), (22, 1, .iconst 0, 0, 0, .inl (.int 0)), (23, 1, .iconst 1, 0, 0, .inl (.int 1)), (24, 3, .invokevirtual 65, 132, 499, .inr (1, 0, 0)), (27, 3, .ifCond .eq 5, 32, 0, .inl .null), (30, 1, .iconst 0, 0, 0, .inl (.int 0)), (31, 1, .ireturn, 0, 0, .inl .null), (32, 1, .aload_n 0, 0, 0, .inl .null), (33, 1, .iconst 0, 0, 0, .inl (.int 0)), (34, 3, .putfield 73, 31, 7, .inl .null), (37, 1, .aload_n 0, 0, 0, .inl .null), (38, 1, .iload_n 1, 1, 0, .inl .null), (39, 3, .invokevirtual 183, 155, 498, .inr (0, 0, 0)), (42, 1, .aload_n 0, 0, 0, .inl .null), (43, 1, .aload_n 0, 0, 0, .inl .null), (44, 3, .getfield 104, 31, 15, .inl .null), (47, 3, .putfield 76, 31, 8, .inl .null), (50, 1, .aload_n 0, 0, 0, .inl .null), (51, 1, .aload_n 0, 0, 0, .inl .null), (52, 3, .getfield 104, 31, 15, .inl .null), (55, 3, .ifCond .ne 7, 62, 0, .inl .null), (58, 1, .iconst (-1), 0, 0, .inl (.int (-1))), (59, 3, .goto 7, 66, 0, .inl .null), (62, 1, .aload_n 0, 0, 0, .inl .null), (63, 3, .getfield 107, 31, 16, .inl .null), (66, 3, .putfield 23, 31, 9, .inl .null), (69, 1, .aload_n 0, 0, 0, .inl .null), (70, 1, .aload_n 0, 0, 0, .inl .null), (71, 3, .getfield 104, 31, 15, .inl .null), (74, 3, .ifCond .eq 7, 81, 0, .inl .null), (77, 1, .iconst 1, 0, 0, .inl (.int 1)), (78, 3, .goto 4, 82, 0, .inl .null), (81, 1, .iconst 0, 0, 0, .inl (.int 0)), (82, 1, .iconst 2, 0, 0, .inl (.int 2)), (83, 3, .invokevirtual 65, 132, 499, .inr (1, 0, 0)), (86, 3, .ifCond .eq 5, 91, 0, .inl .null), (89, 1, .iconst 0, 0, 0, .inl (.int 0)), (90, 1, .ireturn, 0, 0, .inl .null), (91, 1, .aload_n 0, 0, 0, .inl .null), (92, 1, .iconst 1, 0, 0, .inl (.int 1)), (93, 3, .putfield 61, 31, 1, .inl .null), (96, 1, .iconst 0, 0, 0, .inl (.int 0)), (97, 1, .istore_n 2, 2, 0, .inl .null), (98, 1, .iload_n 2, 2, 0, .inl .null), (99, 3, .sipush 408, 0, 0, .inl (.int 408)), (102, 3, .if_icmp .ge 21, 123, 0, .inl .null), (105, 1, .aload_n 0, 0, 0, .inl .null), (106, 3, .getfield 7, 31, 2, .inl .null), (109, 1, .iload_n 2, 2, 0, .inl .null), (110, 1, .aload_n 0, 0, 0, .inl .null), (111, 3, .getfield 27, 31, 17, .inl .null), (114, 1, .iload_n 2, 2, 0, .inl .null), (115, 1, .iaload, 0, 0, .inl .null), (116, 1, .iastore, 0, 0, .inl .null), (117, 3, .iinc 2 1, 2, 0, .inl (.int 1)), (120, 3, .goto (-22), 98, 0, .inl .null), (123, 1, .aload_n 0, 0, 0, .inl .null), (124, 3, .invokevirtual 186, 157, 497, .inr (0, 0, 0)), (127, 1, .aload_n 0, 0, 0, .inl .null), (128, 1, .iconst 0, 0, 0, .inl (.int 0)), (129, 3, .putfield 189, 31, 4, .inl .null), (132, 1, .aload_n 0, 0, 0, .inl .null), (133, 3, .getfield 16, 31, 5, .inl .null), (136, 1, .iconst 0, 0, 0, .inl (.int 0)), (137, 1, .iconst 0, 0, 0, .inl (.int 0)), (138, 1, .bastore, 0, 0, .inl .null), (139, 1, .aload_n 0, 0, 0, .inl .null), (140, 3, .getfield 16, 31, 5, .inl .null), (143, 1, .iconst 1, 0, 0, .inl (.int 1)), (144, 1, .iconst 0, 0, 0, .inl (.int 0)), (145, 1, .bastore, 0, 0, .inl .null), (146, 1, .aload_n 0, 0, 0, .inl .null), (147, 3, .getfield 7, 31, 2, .inl .null), (150, 1, .iconst 0, 0, 0, .inl (.int 0)), (151, 1, .iaload, 0, 0, .inl .null), (152, 1, .ireturn, 0, 0, .inl .null)]
def cd_X8_begins : List gE := [(0, 1, .aload_n 0, 0, 0, .inl .null), (1, 3, .getfield 7, 31, 2, .inl .null), (4, 2, .bipush 36, 0, 0, .inl (.int 36)), (6, 1, .iconst 0, 0, 0, .inl (.int 0)), (7, 1, .iastore, 0, 0, .inl .null), (8, 1, .iconst 0, 0, 0, .inl (.int 0)), (9, 1, .istore_n 1, 1, 0, .inl .null), (10, 1, .iload_n 1, 1, 0, .inl .null), (11, 1, .aload_n 0, 0, 0, .inl .null), (12, 3, .getfield 7, 31, 2, .inl .null), (15, 1, .iconst 0, 0, 0, .inl (.int 0)), (16, 1, .iaload, 0, 0, .inl .null), (17, 3, .if_icmp .ge 27, 44, 0, .inl .null), (20, 1, .aload_n 0, 0, 0, .inl .null), (21, 3, .getfield 7, 31, 2, .inl .null), (24, 2, .bipush 29, 0, 0, .inl (.int 29)), (26, 1, .iload_n 1, 1, 0, .inl .null), (27, 1, .iadd, 0, 0, .inl .null), (28, 1, .aload_n 0, 0, 0, .inl .null), (29, 3, .getfield 7, 31, 2, .inl .null), (32, 2, .bipush 15, 0, 0, .inl (.int 15)), (34, 1, .iload_n 1, 1, 0, .inl .null), (35, 1, .iadd, 0, 0, .inl .null), (36, 1, .iaload, 0, 0, .inl .null), (37, 1, .iastore, 0, 0, .inl .null), (38, 3, .iinc 1 1, 1, 0, .inl (.int 1)), (41, 3, .goto (-31), 10, 0, .inl .null), (44, 1, .return_, 0, 0, .inl .null)]
def cd_X8_isRow : List gE := [(0, 1, .iload_n 1, 1, 0, .inl .null), (1, 1, .iconst 0, 0, 0, .inl (.int 0)), (2, 1, .aload_n 0, 0, 0, .inl .null), (3, 3, .getfield 7, 31, 2, .inl .null), (6, 1, .iconst 0, 0, 0, .inl (.int 0)), (7, 1, .iaload, 0, 0, .inl .null), (8, 1, .iconst 1, 0, 0, .inl (.int 1)), (9, 1, .isub, 0, 0, .inl .null), (10, 3, .invokestatic 134, 131, 3, .inr (1, 0, 0)), (13, 1, .ireturn, 0, 0, .inl .null)]
def cd_X8_isDiagonal : List gE := [(0, 1, .iload_n 1, 1, 0, .inl .null), (1, 1, .iconst 1, 0, 0, .inl (.int 1)), (2, 1, .aload_n 0, 0, 0, .inl .null), (3, 3, .getfield 7, 31, 2, .inl .null), (6, 1, .iconst 0, 0, 0, .inl (.int 0)), (7, 1, .iaload, 0, 0, .inl .null), (8, 1, .isub, 0, 0, .inl .null), (9, 1, .aload_n 0, 0, 0, .inl .null), (10, 3, .getfield 7, 31, 2, .inl .null), (13, 1, .iconst 0, 0, 0, .inl (.int 0)), (14, 1, .iaload, 0, 0, .inl .null), (15, 1, .iconst 1, 0, 0, .inl (.int 1)), (16, 1, .isub, 0, 0, .inl .null), (17, 3, .invokestatic 134, 131, 3, .inr (1, 0, 0)), (20, 1, .ireturn, 0, 0, .inl .null)]
def cd_X8_noRow : List gE := [(0, 1, .aload_n 0, 0, 0, .inl .null), (1, 3, .invokevirtual 192, 133, 497, .inr (1, 0, 0)), (4, 3, .ifCond .ne 24, 28, 0, .inl .null), (7, 1, .aload_n 0, 0, 0, .inl .null), (8, 1, .aload_n 0, 0, 0, .inl .null), (9, 1, .iload_n 1, 1, 0, .inl .null), (10, 3, .invokevirtual 196, 158, 498, .inr (1, 0, 0)), (13, 3, .ifCond .ne 7, 20, 0, .inl .null), (16, 1, .iconst 1, 0, 0, .inl (.int 1)), (17, 3, .goto 4, 21, 0, .inl .null), (20, 1, .iconst 0, 0, 0, .inl (.int 0)), (21, 1, .iconst 2, 0, 0, .inl (.int 2)), (22, 3, .invokevirtual 65, 132, 499, .inr (1, 0, 0)), (25, 3, .ifCond .eq 7, 32, 0, .inl .null), (28, 1, .iconst 1, 0, 0, .inl (.int 1)), (29, 3, .goto 4, 33, 0, .inl .null), (32, 1, .iconst 0, 0, 0, .inl (.int 0)), (33, 1, .ireturn, 0, 0, .inl .null)]
def cd_X8_noRows : List gE := [(0, 1, .aload_n 0, 0, 0, .inl .null), (1, 1, .iload_n 1, 1, 0, .inl .null), (2, 3, .invokevirtual 199, 160, 498, .inr (1, 0, 0)), (5, 3, .ifCond .ne 24, 29, 0, .inl .null), (8, 1, .aload_n 0, 0, 0, .inl .null), (9, 1, .aload_n 0, 0, 0, .inl .null), (10, 1, .iload_n 2, 2, 0, .inl .null), (11, 3, .invokevirtual 196, 158, 498, .inr (1, 0, 0)), (14, 3, .ifCond .ne 7, 21, 0, .inl .null), (17, 1, .iconst 1, 0, 0, .inl (.int 1)), (18, 3, .goto 4, 22, 0, .inl .null), (21, 1, .iconst 0, 0, 0, .inl (.int 0)), (22, 1, .iconst 2, 0, 0, .inl (.int 2)), (23, 3, .invokevirtual 65, 132, 499, .inr (1, 0, 0)), (26, 3, .ifCond .eq 7, 33, 0, .inl .null), (29, 1, .iconst 1, 0, 0, .inl (.int 1)), (30, 3, .goto 4, 34, 0, .inl .null), (33, 1, .iconst 0, 0, 0, .inl (.int 0)), (34, 1, .ireturn, 0, 0, .inl .null)]
def cd_X8_its : List gE := [(0, 1, .aload_n 0, 0, 0, .inl .null), (1, 1, .iconst 0, 0, 0, .inl (.int 0)), (2, 3, .putfield 58, 31, 0, .inl .null), (5, 1, .aload_n 0, 0, 0, .inl .null), (6, 3, .getfield 61, 31, 1, .inl .null), (9, 3, .ifCond .eq 7, 16, 0, .inl .null), (12, 1, .iload_n 1, 1, 0, .inl .null), (13, 3, .goto 4, 17, 0, .inl .null), (16, 1, .iconst 0, 0, 0, .inl (.int 0)), (17, 1, .ireturn, 0, 0, .inl .null)]
def cd_X8_size : List gE := [(0, 1, .aload_n 0, 0, 0, .inl .null), (1, 1, .aload_n 0, 0, 0, .inl .null), (2, 3, .getfield 7, 31, 2, .inl .null), (5, 1, .iconst 0, 0, 0, .inl (.int 0)), (6, 1, .iaload, 0, 0, .inl .null), (7, 3, .invokevirtual 202, 162, 498, .inr (1, 0, 0)), (10, 1, .ireturn, 0, 0, .inl .null)]
def cd_X8_prime : List gE := [(0, 1, .aload_n 0, 0, 0, .inl .null), (1, 1, .aload_n 0, 0, 0, .inl .null), (2, 3, .getfield 7, 31, 2, .inl .null), (5, 1, .iconst 1, 0, 0, .inl (.int 1)), (6, 1, .iaload, 0, 0, .inl .null), (7, 3, .invokevirtual 202, 162, 498, .inr (1, 0, 0)), (10, 1, .ireturn, 0, 0, .inl .null)]
def cd_X8_entries : List gE := [(0, 1, .aload_n 0, 0, 0, .inl .null), (1, 1, .aload_n 0, 0, 0, .inl .null), (2, 3, .getfield 7, 31, 2, .inl .null), (5, 3, .sipush 317, 0, 0, .inl (.int 317)), (8, 1, .iaload, 0, 0, .inl .null), (9, 3, .invokevirtual 202, 162, 498, .inr (1, 0, 0)), (12, 1, .ireturn, 0, 0, .inl .null)]
def cd_X8_undoable : List gE := [(0, 1, .aload_n 0, 0, 0, .inl .null), (1, 1, .aload_n 0, 0, 0, .inl .null), (2, 3, .getfield 189, 31, 4, .inl .null), (5, 3, .invokevirtual 202, 162, 498, .inr (1, 0, 0)), (8, 1, .ireturn, 0, 0, .inl .null)]
def cd_X8_entryOf : List gE := [(0, 1, .aload_n 0, 0, 0, .inl .null), (1, 3, .getfield 7, 31, 2, .inl .null), (4, 2, .bipush 8, 0, 0, .inl (.int 8)), (6, 1, .iload_n 1, 1, 0, .inl .null), (7, 1, .iadd, 0, 0, .inl .null), (8, 1, .iload_n 2, 2, 0, .inl .null), (9, 1, .isub, 0, 0, .inl .null), (10, 1, .iaload, 0, 0, .inl .null), (11, 1, .ireturn, 0, 0, .inl .null)]
def cd_X8_diagonal : List gE := [(0, 1, .aload_n 0, 0, 0, .inl .null), (1, 3, .invokevirtual 192, 133, 497, .inr (1, 0, 0)), (4, 3, .ifCond .ne 24, 28, 0, .inl .null), (7, 1, .aload_n 0, 0, 0, .inl .null), (8, 1, .aload_n 0, 0, 0, .inl .null), (9, 1, .iload_n 1, 1, 0, .inl .null), (10, 3, .invokevirtual 205, 159, 498, .inr (1, 0, 0)), (13, 3, .ifCond .ne 7, 20, 0, .inl .null), (16, 1, .iconst 1, 0, 0, .inl (.int 1)), (17, 3, .goto 4, 21, 0, .inl .null), (20, 1, .iconst 0, 0, 0, .inl (.int 0)), (21, 1, .iconst 2, 0, 0, .inl (.int 2)), (22, 3, .invokevirtual 65, 132, 499, .inr (1, 0, 0)), (25, 3, .ifCond .eq 7, 32, 0, .inl .null), (28, 1, .iconst 0, 0, 0, .inl (.int 0)), (29, 3, .goto 12, 41, 0, .inl .null), (32, 1, .aload_n 0, 0, 0, .inl .null), (33, 3, .getfield 7, 31, 2, .inl .null), (36, 2, .bipush 8, 0, 0, .inl (.int 8)), (38, 1, .iload_n 1, 1, 0, .inl .null), (39, 1, .iadd, 0, 0, .inl .null), (40, 1, .iaload, 0, 0, .inl .null), (41, 1, .ireturn, 0, 0, .inl .null)]
def cd_X8_entry : List gE := [(0, 1, .aload_n 0, 0, 0, .inl .null), (1, 1, .iload_n 1, 1, 0, .inl .null), (2, 1, .iload_n 2, 2, 0, .inl .null), (3, 3, .invokevirtual 208, 161, 499, .inr (1, 0, 0)), (6, 3, .ifCond .eq 7, 13, 0, .inl .null), (9, 1, .iconst 0, 0, 0, .inl (.int 0)), (10, 3, .goto 9, 19, 0, .inl .null), (13, 1, .aload_n 0, 0, 0, .inl .null), (14, 1, .iload_n 1, 1, 0, .inl .null), (15, 1, .iload_n 2, 2, 0, .inl .null), (16, 3, .invokevirtual 212, 167, 499, .inr (1, 0, 0)), (19, 1, .ireturn, 0, 0, .inl .null)]
def cd_X8_side : List gE := [(0, 1, .aload_n 0, 0, 0, .inl .null), (1, 1, .iload_n 1, 1, 0, .inl .null), (2, 3, .invokevirtual 199, 160, 498, .inr (1, 0, 0)), (5, 3, .ifCond .eq 7, 12, 0, .inl .null), (8, 1, .iconst 0, 0, 0, .inl (.int 0)), (9, 3, .goto 12, 21, 0, .inl .null), (12, 1, .aload_n 0, 0, 0, .inl .null), (13, 3, .getfield 7, 31, 2, .inl .null), (16, 2, .bipush 15, 0, 0, .inl (.int 15)), (18, 1, .iload_n 1, 1, 0, .inl .null), (19, 1, .iadd, 0, 0, .inl .null), (20, 1, .iaload, 0, 0, .inl .null), (21, 1, .ireturn, 0, 0, .inl .null)]
def cd_X8_probe : List gE := [(0, 1, .aload_n 0, 0, 0, .inl .null), (1, 1, .iload_n 1, 1, 0, .inl .null), (2, 3, .invokevirtual 199, 160, 498, .inr (1, 0, 0)), (5, 3, .ifCond .eq 7, 12, 0, .inl .null), (8, 1, .iconst 0, 0, 0, .inl (.int 0)), (9, 3, .goto 12, 21, 0, .inl .null), (12, 1, .aload_n 0, 0, 0, .inl .null), (13, 3, .getfield 7, 31, 2, .inl .null), (16, 2, .bipush 22, 0, 0, .inl (.int 22)), (18, 1, .iload_n 1, 1, 0, .inl .null), (19, 1, .iadd, 0, 0, .inl .null), (20, 1, .iaload, 0, 0, .inl .null), (21, 1, .ireturn, 0, 0, .inl .null)]
def cd_X8_mod : List gE := [(0, 1, .iload_n 1, 1, 0, .inl .null), (1, 1, .aload_n 0, 0, 0, .inl .null), (2, 3, .getfield 215, 31, 21, .inl .null), (5, 1, .irem, 0, 0, .inl .null), (6, 1, .istore_n 2, 2, 0, .inl .null), (7, 1, .iload_n 2, 2, 0, .inl .null), (8, 3, .ifCond .ge 12, 20, 0, .inl .null), (11, 1, .iload_n 2, 2, 0, .inl .null), (12, 1, .aload_n 0, 0, 0, .inl .null), (13, 3, .getfield 215, 31, 21, .inl .null), (16, 1, .iadd, 0, 0, .inl .null), (17, 3, .goto 4, 21, 0, .inl .null), (20, 1, .iload_n 2, 2, 0, .inl .null), (21, 1, .ireturn, 0, 0, .inl .null)]
def cd_X8_inverseOf : List gE := [(0, 1, .iconst 1, 0, 0, .inl (.int 1)), (1, 1, .istore_n 2, 2, 0, .inl .null), (2, 1, .iload_n 2, 2, 0, .inl .null), (3, 1, .aload_n 0, 0, 0, .inl .null), (4, 3, .getfield 215, 31, 21, .inl .null), (7, 3, .if_icmp .ge 23, 30, 0, .inl .null), (10, 1, .iload_n 1, 1, 0, .inl .null), (11, 1, .iload_n 2, 2, 0, .inl .null), (12, 1, .imul, 0, 0, .inl .null), (13, 1, .aload_n 0, 0, 0, .inl .null), (14, 3, .getfield 215, 31, 21, .inl .null), (17, 1, .irem, 0, 0, .inl .null), (18, 1, .iconst 1, 0, 0, .inl (.int 1)), (19, 3, .if_icmp .ne 5, 24, 0, .inl .null), (22, 1, .iload_n 2, 2, 0, .inl .null), (23, 1, .ireturn, 0, 0, .inl .null), (24, 3, .iinc 2 1, 2, 0, .inl (.int 1)), (27, 3, .goto (-25), 2, 0, .inl .null), (30, 1, .iconst 0, 0, 0, .inl (.int 0)), (31, 1, .ireturn, 0, 0, .inl .null)]
def cd_X8_lays : List gE := [(0, 1, .iconst 0, 0, 0, .inl (.int 0)), (1, 1, .istore_n 1, 1, 0, .inl .null), (2, 1, .iload_n 1, 1, 0, .inl .null), (3, 1, .aload_n 0, 0, 0, .inl .null), (4, 3, .getfield 7, 31, 2, .inl .null), (7, 1, .iconst 0, 0, 0, .inl (.int 0)), (8, 1, .iaload, 0, 0, .inl .null), (9, 3, .if_icmp .ge 61, 70, 0, .inl .null), (12, 1, .iconst 0, 0, 0, .inl (.int 0)), (13, 1, .istore_n 2, 2, 0, .inl .null), (14, 1, .iload_n 2, 2, 0, .inl .null), (15, 1, .aload_n 0, 0, 0, .inl .null), (16, 3, .getfield 7, 31, 2, .inl .null), (19, 1, .iconst 0, 0, 0, .inl (.int 0)), (20, 1, .iaload, 0, 0, .inl .null), (21, 3, .if_icmp .ge 30, 51, 0, .inl .null), (24, 1, .aload_n 0, 0, 0, .inl .null), (25, 3, .getfield 33, 31, 20, .inl .null), (28, 2, .bipush 8, 0, 0, .inl (.int 8)), (30, 1, .iload_n 1, 1, 0, .inl .null), (31, 1, .imul, 0, 0, .inl .null), (32, 1, .iload_n 2, 2, 0, .inl .null), (33, 1, .iadd, 0, 0, .inl .null), (34, 1, .aload_n 0, 0, 0, .inl .null), (35, 1, .aload_n 0, 0, 0, .inl .null), (36, 1, .iload_n 1, 1, 0, .inl .null), (37, 1, .iload_n 2, 2, 0, .inl .null), (38, 3, .invokevirtual 212, 167, 499, .inr (1, 0, 0)), (41, 3, .invokevirtual 218, 172, 498, .inr (1, 0, 0)), (44, 1, .iastore, 0, 0, .inl .null), (45, 3, .iinc 2 1, 2, 0, .inl (.int 1)), (48, 3, .goto (-34), 14, 0, .inl .null), (51, 1, .aload_n 0, 0, 0, .inl .null), (52, 3, .getfield 33, 31, 20, .inl .null), (55, 2, .bipush 8, 0, 0, .inl (.int 8)), (57, 1, .iload_n 1, 1, 0, .inl .null), (58, 1, .imul, 0, 0, .inl .null), (59, 2, .bipush 7, 0, 0, .inl (.int 7)), (61, 1, .iadd, 0, 0, .inl .null), (62, 1, .iconst 0, 0, 0, .inl (.int 0)), (63, 1, .iastore, 0, 0, .inl .null), (64, 3, .iinc 1 1, 1, 0, .inl (.int 1)), (67, 3, .goto (-65), 2, 0, .inl .null), (70, 1, .return_, 0, 0, .inl .null)]
def cd_X8_swaps : List gE := [(0, 1, .iconst 0, 0, 0, .inl (.int 0)), (1, 1, .istore_n 3, 3, 0, .inl .null), (2, 1, .iload_n 3, 3, 0, .inl .null), (3, 2, .bipush 8, 0, 0, .inl (.int 8)), (5, 3, .if_icmp .ge 57, 62, 0, .inl .null), (8, 1, .aload_n 0, 0, 0, .inl .null), (9, 3, .getfield 33, 31, 20, .inl .null), (12, 2, .bipush 8, 0, 0, .inl (.int 8)), (14, 1, .iload_n 1, 1, 0, .inl .null), (15, 1, .imul, 0, 0, .inl .null), (16, 1, .iload_n 3, 3, 0, .inl .null), (17, 1, .iadd, 0, 0, .inl .null), (18, 1, .iaload, 0, 0, .inl .null), (19, 2, .istore 4, 4, 0, .inl .null), (21, 1, .aload_n 0, 0, 0, .inl .null), (22, 3, .getfield 33, 31, 20, .inl .null), (25, 2, .bipush 8, 0, 0, .inl (.int 8)), (27, 1, .iload_n 1, 1, 0, .inl .null), (28, 1, .imul, 0, 0, .inl .null), (29, 1, .iload_n 3, 3, 0, .inl .null), (30, 1, .iadd, 0, 0, .inl .null), (31, 1, .aload_n 0, 0, 0, .inl .null), (32, 3, .getfield 33, 31, 20, .inl .null), (35, 2, .bipush 8, 0, 0, .inl (.int 8)), (37, 1, .iload_n 2, 2, 0, .inl .null), (38, 1, .imul, 0, 0, .inl .null), (39, 1, .iload_n 3, 3, 0, .inl .null), (40, 1, .iadd, 0, 0, .inl .null), (41, 1, .iaload, 0, 0, .inl .null), (42, 1, .iastore, 0, 0, .inl .null), (43, 1, .aload_n 0, 0, 0, .inl .null), (44, 3, .getfield 33, 31, 20, .inl .null), (47, 2, .bipush 8, 0, 0, .inl (.int 8)), (49, 1, .iload_n 2, 2, 0, .inl .null), (50, 1, .imul, 0, 0, .inl .null), (51, 1, .iload_n 3, 3, 0, .inl .null), (52, 1, .iadd, 0, 0, .inl .null), (53, 2, .iload 4, 4, 0, .inl .null), (55, 1, .iastore, 0, 0, .inl .null), (56, 3, .iinc 3 1, 3, 0, .inl (.int 1)), (59, 3, .goto (-57), 2, 0, .inl .null), (62, 1, .return_, 0, 0, .inl .null)]
def cd_X8_takesOff : List gE := [(0, 1, .iconst 0, 0, 0, .inl (.int 0)), (1, 2, .istore 4, 4, 0, .inl .null), (3, 2, .iload 4, 4, 0, .inl .null), (5, 2, .bipush 8, 0, 0, .inl (.int 8)), (7, 3, .if_icmp .ge 52, 59, 0, .inl .null), (10, 1, .aload_n 0, 0, 0, .inl .null), (11, 3, .getfield 33, 31, 20, .inl .null), (14, 2, .bipush 8, 0, 0, .inl (.int 8)), (16, 1, .iload_n 1, 1, 0, .inl .null), (17, 1, .imul, 0, 0, .inl .null), (18, 2, .iload 4, 4, 0, .inl .null), (20, 1, .iadd, 0, 0, .inl .null), (21, 1, .aload_n 0, 0, 0, .inl .null), (22, 1, .aload_n 0, 0, 0, .inl .null), (23, 3, .getfield 33, 31, 20, .inl .null), (26, 2, .bipush 8, 0, 0, .inl (.int 8)), (28, 1, .iload_n 1, 1, 0, .inl .null), (29, 1, .imul, 0, 0, .inl .null), (30, 2, .iload 4, 4, 0, .inl .null), (32, 1, .iadd, 0, 0, .inl .null), (33, 1, .iaload, 0, 0, .inl .null), (34, 1, .iload_n 3, 3, 0, .inl .null), (35, 1, .aload_n 0, 0, 0, .inl .null), (36, 3, .getfield 33, 31, 20, .inl .null), (39, 2, .bipush 8, 0, 0, .inl (.int 8)), (41, 1, .iload_n 2, 2, 0, .inl .null), (42, 1, .imul, 0, 0, .inl .null), (43, 2, .iload 4, 4, 0, .inl .null), (45, 1, .iadd, 0, 0, .inl .null), (46, 1, .iaload, 0, 0, .inl .null), (47, 1, .imul, 0, 0, .inl .null), (48, 1, .isub, 0, 0, .inl .null), (49, 3, .invokevirtual 218, 172, 498, .inr (1, 0, 0)), (52, 1, .iastore, 0, 0, .inl .null), (53, 3, .iinc 4 1, 4, 0, .inl (.int 1)), (56, 3, .goto (-53), 3, 0, .inl .null), (59, 1, .return_, 0, 0, .inl .null)]
def cd_X8_pivot : List gE := [(0, 1, .iload_n 2, 2, 0, .inl .null), (1, 2, .istore 4, 4, 0, .inl .null), (3, 2, .iload 4, 4, 0, .inl .null), (5, 1, .iload_n 3, 3, 0, .inl .null), (6, 3, .if_icmp .ge 27, 33, 0, .inl .null), (9, 1, .aload_n 0, 0, 0, .inl .null), (10, 3, .getfield 33, 31, 20, .inl .null), (13, 2, .bipush 8, 0, 0, .inl (.int 8)), (15, 2, .iload 4, 4, 0, .inl .null), (17, 1, .imul, 0, 0, .inl .null), (18, 1, .iload_n 1, 1, 0, .inl .null), (19, 1, .iadd, 0, 0, .inl .null), (20, 1, .iaload, 0, 0, .inl .null), (21, 3, .ifCond .eq 6, 27, 0, .inl .null), (24, 2, .iload 4, 4, 0, .inl .null), (26, 1, .ireturn, 0, 0, .inl .null), (27, 3, .iinc 4 1, 4, 0, .inl (.int 1)), (30, 3, .goto (-27), 3, 0, .inl .null), (33, 1, .iconst (-1), 0, 0, .inl (.int (-1))), (34, 1, .ireturn, 0, 0, .inl .null)]
def cd_X8_minorOf : List gE := [(0, 1, .aload_n 0, 0, 0, .inl .null), (1, 1, .iload_n 2, 2, 0, .inl .null), (2, 3, .putfield 215, 31, 21, .inl .null), (5, 1, .aload_n 0, 0, 0, .inl .null), (6, 3, .invokevirtual 221, 174, 497, .inr (0, 0, 0)), (9, 1, .iconst 1, 0, 0, .inl (.int 1)), (10, 1, .aload_n 0, 0, 0, .inl .null), (11, 3, .getfield 215, 31, 21, .inl .null), (14, 1, .irem, 0, 0, .inl .null), (15, 1, .istore_n 3, 3, 0, .inl .null), (16, 1, .iconst 0, 0, 0, .inl (.int 0)), (17, 2, .istore 4, 4, 0, .inl .null), (19, 2, .iload 4, 4, 0, .inl .null), (21, 1, .iload_n 1, 1, 0, .inl .null), (22, 3, .if_icmp .ge 137, 159, 0, .inl .null), (25, 1, .aload_n 0, 0, 0, .inl .null), (26, 2, .iload 4, 4, 0, .inl .null), (28, 2, .iload 4, 4, 0, .inl .null), (30, 1, .iload_n 1, 1, 0, .inl .null), (31, 3, .invokevirtual 224, 177, 500, .inr (1, 0, 0)), (34, 2, .istore 5, 5, 0, .inl .null), (36, 2, .iload 5, 5, 0, .inl .null), (38, 1, .iconst (-1), 0, 0, .inl (.int (-1))), (39, 3, .if_icmp .ne 5, 44, 0, .inl .null), (42, 1, .iconst 0, 0, 0, .inl (.int 0)), (43, 1, .ireturn, 0, 0, .inl .null), (44, 2, .iload 5, 5, 0, .inl .null), (46, 2, .iload 4, 4, 0, .inl .null), (48, 3, .if_icmp .eq 18, 66, 0, .inl .null), (51, 1, .aload_n 0, 0, 0, .inl .null), (52, 2, .iload 5, 5, 0, .inl .null), (54, 2, .iload 4, 4, 0, .inl .null), (56, 3, .invokevirtual 228, 175, 499, .inr (0, 0, 0)), (59, 1, .aload_n 0, 0, 0, .inl .null), (60, 1, .iload_n 3, 3, 0, .inl .null), (61, 1, .ineg, 0, 0, .inl .null), (62, 3, .invokevirtual 218, 172, 498, .inr (1, 0, 0)), (65, 1, .istore_n 3, 3, 0, .inl .null), (66, 1, .iload_n 3, 3, 0, .inl .null), (67, 1, .aload_n 0, 0, 0, .inl .null), (68, 3, .getfield 33, 31, 20, .inl .null), (71, 2, .bipush 8, 0, 0, .inl (.int 8)), (73, 2, .iload 4, 4, 0, .inl .null), (75, 1, .imul, 0, 0, .inl .null), (76, 2, .iload 4, 4, 0, .inl .null), (78, 1, .iadd, 0, 0, .inl .null), (79, 1, .iaload, 0, 0, .inl .null), (80, 1, .imul, 0, 0, .inl .null), (81, 1, .aload_n 0, 0, 0, .inl .null), (82, 3, .getfield 215, 31, 21, .inl .null), (85, 1, .irem, 0, 0, .inl .null), (86, 1, .istore_n 3, 3, 0, .inl .null), (87, 1, .aload_n 0, 0, 0, .inl .null), (88, 1, .aload_n 0, 0, 0, .inl .null), (89, 3, .getfield 33, 31, 20, .inl .null), (92, 2, .bipush 8, 0, 0, .inl (.int 8)), (94, 2, .iload 4, 4, 0, .inl .null), (96, 1, .imul, 0, 0, .inl .null), (97, 2, .iload 4, 4, 0, .inl .null), (99, 1, .iadd, 0, 0, .inl .null), (100, 1, .iaload, 0, 0, .inl .null), (101, 3, .invokevirtual 231, 173, 498, .inr (1, 0, 0)), (104, 2, .istore 6, 6, 0, .inl .null), (106, 2, .iload 4, 4, 0, .inl .null), (108, 1, .iconst 1, 0, 0, .inl (.int 1)), (109, 1, .iadd, 0, 0, .inl .null), (110, 2, .istore 7, 7, 0, .inl .null), (112, 2, .iload 7, 7, 0, .inl .null), (114, 1, .iload_n 1, 1, 0, .inl .null), (115, 3, .if_icmp .ge 38, 153, 0, .inl .null), (118, 1, .aload_n 0, 0, 0, .inl .null), (119, 2, .iload 7, 7, 0, .inl .null), (121, 2, .iload 4, 4, 0, .inl .null), (123, 1, .aload_n 0, 0, 0, .inl .null), (124, 3, .getfield 33, 31, 20, .inl .null), (127, 2, .bipush 8, 0, 0, .inl (.int 8)), (129, 2, .iload 7, 7, 0, .inl .null), (131, 1, .imul, 0, 0, .inl .null), (132, 2, .iload 4, 4, 0, .inl .null), (134, 1, .iadd, 0, 0, .inl .null), (135, 1, .iaload, 0, 0, .inl .null), (136, 2, .iload 6, 6, 0, .inl .null), (138, 1, .imul, 0, 0, .inl .null), (139, 1, .aload_n 0, 0, 0, .inl .null), (140, 3, .getfield 215, 31, 21, .inl .null), (143, 1, .irem, 0, 0, .inl .null), (144, 3, .invokevirtual 234, 176, 500, .inr (0, 0, 0)), (147, 3, .iinc 7 1, 7, 0, .inl (.int 1)), (150, 3, .goto (-38), 112, 0, .inl .null), (153, 3, .iinc 4 1, 4, 0, .inl (.int 1)), (156, 3, .goto (-137), 19, 0, .inl .null), (159, 1, .iload_n 3, 3, 0, .inl .null), (160, 1, .ireturn, 0, 0, .inl .null)]
def cd_X8_minorNow : List gE := [(0, 1, .aload_n 0, 0, 0, .inl .null), (1, 1, .iload_n 1, 1, 0, .inl .null), (2, 1, .aload_n 0, 0, 0, .inl .null), (3, 3, .getfield 7, 31, 2, .inl .null), (6, 1, .iconst 1, 0, 0, .inl (.int 1)), (7, 1, .iaload, 0, 0, .inl .null), (8, 3, .invokevirtual 238, 178, 499, .inr (1, 0, 0)), (11, 1, .ireturn, 0, 0, .inl .null)]
def cd_X8_minor : List gE := [(0, 1, .aload_n 0, 0, 0, .inl .null), (1, 3, .invokevirtual 192, 133, 497, .inr (1, 0, 0)), (4, 3, .ifCond .ne 30, 34, 0, .inl .null), (7, 1, .aload_n 0, 0, 0, .inl .null), (8, 1, .iload_n 1, 1, 0, .inl .null), (9, 1, .iconst 0, 0, 0, .inl (.int 0)), (10, 1, .aload_n 0, 0, 0, .inl .null), (11, 3, .getfield 7, 31, 2, .inl .null), (14, 1, .iconst 0, 0, 0, .inl (.int 0)), (15, 1, .iaload, 0, 0, .inl .null), (16, 3, .invokestatic 134, 131, 3, .inr (1, 0, 0)), (19, 3, .ifCond .ne 7, 26, 0, .inl .null), (22, 1, .iconst 1, 0, 0, .inl (.int 1)), (23, 3, .goto 4, 27, 0, .inl .null), (26, 1, .iconst 0, 0, 0, .inl (.int 0)), (27, 1, .iconst 2, 0, 0, .inl (.int 2)), (28, 3, .invokevirtual 65, 132, 499, .inr (1, 0, 0)), (31, 3, .ifCond .eq 7, 38, 0, .inl .null), (34, 1, .iconst 0, 0, 0, .inl (.int 0)), (35, 3, .goto 8, 43, 0, .inl .null), (38, 1, .aload_n 0, 0, 0, .inl .null), (39, 1, .iload_n 1, 1, 0, .inl .null), (40, 3, .invokevirtual 241, 179, 498, .inr (1, 0, 0)), (43, 1, .ireturn, 0, 0, .inl .null)]
def cd_X8_reduces : List gE := [(0, 1, .iconst 0, 0, 0, .inl (.int 0)), (1, 1, .istore_n 1, 1, 0, .inl .null), (2, 1, .iconst 0, 0, 0, .inl (.int 0)), (3, 1, .istore_n 2, 2, 0, .inl .null), (4, 1, .iload_n 2, 2, 0, .inl .null), (5, 1, .aload_n 0, 0, 0, .inl .null), (6, 3, .getfield 7, 31, 2, .inl .null), (9, 1, .iconst 0, 0, 0, .inl (.int 0)), (10, 1, .iaload, 0, 0, .inl .null), (11, 3, .if_icmp .ge 166, 177, 0, .inl .null), (14, 1, .iload_n 1, 1, 0, .inl .null), (15, 1, .aload_n 0, 0, 0, .inl .null), (16, 3, .getfield 7, 31, 2, .inl .null), (19, 1, .iconst 0, 0, 0, .inl (.int 0)), (20, 1, .iaload, 0, 0, .inl .null), (21, 3, .if_icmp .ge 156, 177, 0, .inl .null), (24, 1, .aload_n 0, 0, 0, .inl .null), (25, 1, .iload_n 2, 2, 0, .inl .null), (26, 1, .iload_n 1, 1, 0, .inl .null), (27, 1, .aload_n 0, 0, 0, .inl .null), (28, 3, .getfield 7, 31, 2, .inl .null), (31, 1, .iconst 0, 0, 0, .inl (.int 0)), (32, 1, .iaload, 0, 0, .inl .null), (33, 3, .invokevirtual 224, 177, 500, .inr (1, 0, 0)), (36, 1, .istore_n 3, 3, 0, .inl .null), (37, 1, .iload_n 3, 3, 0, .inl .null), (38, 1, .iconst (-1), 0, 0, .inl (.int (-1))), (39, 3, .if_icmp .ne 6, 45, 0, .inl .null), (42, 3, .goto 129, 171, 0, .inl .null), (45, 1, .aload_n 0, 0, 0, .inl .null), (46, 1, .iload_n 3, 3, 0, .inl .null), (47, 1, .iload_n 1, 1, 0, .inl .null), (48, 3, .invokevirtual 228, 175, 499, .inr (0, 0, 0)), (51, 1, .aload_n 0, 0, 0, .inl .null), (52, 1, .aload_n 0, 0, 0, .inl .null), (53, 3, .getfield 33, 31, 20, .inl .null), (56, 2, .bipush 8, 0, 0, .inl (.int 8)), (58, 1, .iload_n 1, 1, 0, .inl .null), (59, 1, .imul, 0, 0, .inl .null), (60, 1, .iload_n 2, 2, 0, .inl .null), (61, 1, .iadd, 0, 0, .inl .null), (62, 1, .iaload, 0, 0, .inl .null), (63, 3, .invokevirtual 231, 173, 498, .inr (1, 0, 0)), (66, 2, .istore 4, 4, 0, .inl .null), (68, 1, .iconst 0, 0, 0, .inl (.int 0)), (69, 2, .istore 5, 5, 0, .inl .null), (71, 2, .iload 5, 5, 0, .inl .null), (73, 2, .bipush 8, 0, 0, .inl (.int 8)), (75, 3, .if_icmp .ge 41, 116, 0, .inl .null), (78, 1, .aload_n 0, 0, 0, .inl .null), (79, 3, .getfield 33, 31, 20, .inl .null), (82, 2, .bipush 8, 0, 0, .inl (.int 8)), (84, 1, .iload_n 1, 1, 0, .inl .null), (85, 1, .imul, 0, 0, .inl .null), (86, 2, .iload 5, 5, 0, .inl .null), (88, 1, .iadd, 0, 0, .inl .null), (89, 1, .aload_n 0, 0, 0, .inl .null), (90, 3, .getfield 33, 31, 20, .inl .null), (93, 2, .bipush 8, 0, 0, .inl (.int 8)), (95, 1, .iload_n 1, 1, 0, .inl .null), (96, 1, .imul, 0, 0, .inl .null), (97, 2, .iload 5, 5, 0, .inl .null), (99, 1, .iadd, 0, 0, .inl .null), (100, 1, .iaload, 0, 0, .inl .null), (101, 2, .iload 4, 4, 0, .inl .null), (103, 1, .imul, 0, 0, .inl .null), (104, 1, .aload_n 0, 0, 0, .inl .null), (105, 3, .getfield 215, 31, 21, .inl .null), (108, 1, .irem, 0, 0, .inl .null), (109, 1, .iastore, 0, 0, .inl .null), (110, 3, .iinc 5 1, 5, 0, .inl (.int 1)), (113, 3, .goto (-42), 71, 0, .inl .null), (116, 1, .iconst 0, 0, 0, .inl (.int 0)), (117, 2, .istore 5, 5, 0, .inl .null), (119, 2, .iload 5, 5, 0, .inl .null), (121, 1, .aload_n 0, 0, 0, .inl .null), (122, 3, .getfield 7, 31, 2, .inl .null), (125, 1, .iconst 0, 0, 0, .inl (.int 0)), (126, 1, .iaload, 0, 0, .inl .null), (127, 3, .if_icmp .ge 34, 161, 0, .inl .null), (130, 2, .iload 5, 5, 0, .inl .null), (132, 1, .iload_n 1, 1, 0, .inl .null), (133, 3, .if_icmp .eq 22, 155, 0, .inl .null), (136, 1, .aload_n 0, 0, 0, .inl .null), (137, 2, .iload 5, 5, 0, .inl .null), (139, 1, .iload_n 1, 1, 0, .inl .null), (140, 1, .aload_n 0, 0, 0, .inl .null), (141, 3, .getfield 33, 31, 20, .inl .null), (144, 2, .bipush 8, 0, 0, .inl (.int 8)), (146, 2, .iload 5, 5, 0, .inl .null), (148, 1, .imul, 0, 0, .inl .null), (149, 1, .iload_n 2, 2, 0, .inl .null), (150, 1, .iadd, 0, 0, .inl .null), (151, 1, .iaload, 0, 0, .inl .null), (152, 3, .invokevirtual 234, 176, 500, .inr (0, 0, 0)), (155, 3, .iinc 5 1, 5, 0, .inl (.int 1)), (158, 3, .goto (-39), 119, 0, .inl .null), (161, 1, .aload_n 0, 0, 0, .inl .null), (162, 3, .getfield 36, 31, 22, .inl .null), (165, 1, .iload_n 1, 1, 0, .inl .null), (166, 1, .iload_n 2, 2, 0, .inl .null), (167, 1, .iastore, 0, 0, .inl .null), (168, 3, .iinc 1 1, 1, 0, .inl (.int 1)), (171, 3, .iinc 2 1, 2, 0, .inl (.int 1)), (174, 3, .goto (-170), 4, 0, .inl .null), (177, 1, .iload_n 1, 1, 0, .inl .null), (178, 1, .ireturn, 0, 0, .inl .null)]
def cd_X8_rankNow : List gE := [(0, 1, .aload_n 0, 0, 0, .inl .null), (1, 1, .aload_n 0, 0, 0, .inl .null), (2, 3, .getfield 7, 31, 2, .inl .null), (5, 1, .iconst 1, 0, 0, .inl (.int 1)), (6, 1, .iaload, 0, 0, .inl .null), (7, 3, .putfield 215, 31, 21, .inl .null), (10, 1, .aload_n 0, 0, 0, .inl .null), (11, 3, .invokevirtual 221, 174, 497, .inr (0, 0, 0)), (14, 1, .aload_n 0, 0, 0, .inl .null), (15, 3, .invokevirtual 244, 181, 497, .inr (1, 0, 0)), (18, 1, .ireturn, 0, 0, .inl .null)]
def cd_X8_rank : List gE := [(0, 1, .aload_n 0, 0, 0, .inl .null), (1, 3, .invokevirtual 192, 133, 497, .inr (1, 0, 0)), (4, 3, .ifCond .eq 7, 11, 0, .inl .null), (7, 1, .iconst 0, 0, 0, .inl (.int 0)), (8, 3, .goto 7, 15, 0, .inl .null), (11, 1, .aload_n 0, 0, 0, .inl .null), (12, 3, .invokevirtual 247, 182, 497, .inr (1, 0, 0)), (15, 1, .ireturn, 0, 0, .inl .null)]
def cd_X8_isRegularNow : List gE := [(0, 1, .aload_n 0, 0, 0, .inl .null), (1, 1, .aload_n 0, 0, 0, .inl .null), (2, 3, .getfield 7, 31, 2, .inl .null), (5, 1, .iconst 0, 0, 0, .inl (.int 0)), (6, 1, .iaload, 0, 0, .inl .null), (7, 3, .invokevirtual 241, 179, 498, .inr (1, 0, 0)), (10, 3, .ifCond .eq 7, 17, 0, .inl .null), (13, 1, .iconst 1, 0, 0, .inl (.int 1)), (14, 3, .goto 4, 18, 0, .inl .null), (17, 1, .iconst 0, 0, 0, .inl (.int 0)), (18, 1, .ireturn, 0, 0, .inl .null)]
def cd_X8_isRegular : List gE := [(0, 1, .aload_n 0, 0, 0, .inl .null), (1, 3, .invokevirtual 192, 133, 497, .inr (1, 0, 0)), (4, 3, .ifCond .ne 14, 18, 0, .inl .null), (7, 1, .aload_n 0, 0, 0, .inl .null), (8, 3, .invokevirtual 250, 184, 497, .inr (1, 0, 0)), (11, 3, .ifCond .eq 7, 18, 0, .inl .null), (14, 1, .iconst 1, 0, 0, .inl (.int 1)), (15, 3, .goto 4, 19, 0, .inl .null), (18, 1, .iconst 0, 0, 0, .inl (.int 0)), (19, 1, .ireturn, 0, 0, .inl .null)]
def cd_X8_laysEnds : List gE := [(0, 1, .aload_n 0, 0, 0, .inl .null), (1, 1, .iconst 0, 0, 0, .inl (.int 0)), (2, 3, .putfield 253, 31, 24, .inl .null), (5, 1, .iconst 0, 0, 0, .inl (.int 0)), (6, 1, .istore_n 1, 1, 0, .inl .null), (7, 1, .iload_n 1, 1, 0, .inl .null), (8, 1, .aload_n 0, 0, 0, .inl .null), (9, 3, .getfield 7, 31, 2, .inl .null), (12, 1, .iconst 0, 0, 0, .inl (.int 0)), (13, 1, .iaload, 0, 0, .inl .null), (14, 3, .if_icmp .gt 37, 51, 0, .inl .null), (17, 1, .aload_n 0, 0, 0, .inl .null), (18, 1, .iload_n 1, 1, 0, .inl .null), (19, 3, .invokevirtual 241, 179, 498, .inr (1, 0, 0)), (22, 3, .ifCond .eq 23, 45, 0, .inl .null), (25, 1, .aload_n 0, 0, 0, .inl .null), (26, 3, .getfield 39, 31, 23, .inl .null), (29, 1, .aload_n 0, 0, 0, .inl .null), (30, 3, .getfield 253, 31, 24, .inl .null), (33, 1, .iload_n 1, 1, 0, .inl .null), (34, 1, .iastore, 0, 0, .inl .null), (35, 1, .aload_n 0, 0, 0, .inl .null), (36, 1, .dup, 0, 0, .inl .null), (37, 3, .getfield 253, 31, 24, .inl .null), (40, 1, .iconst 1, 0, 0, .inl (.int 1)), (41, 1, .iadd, 0, 0, .inl .null), (42, 3, .putfield 253, 31, 24, .inl .null), (45, 3, .iinc 1 1, 1, 0, .inl (.int 1)), (48, 3, .goto (-41), 7, 0, .inl .null), (51, 1, .return_, 0, 0, .inl .null)]
def cd_X8_steps : List gE := [(0, 1, .aload_n 0, 0, 0, .inl .null), (1, 3, .invokevirtual 192, 133, 497, .inr (1, 0, 0)), (4, 3, .ifCond .eq 5, 9, 0, .inl .null), (7, 1, .iconst 0, 0, 0, .inl (.int 0)), (8, 1, .ireturn, 0, 0, .inl .null), (9, 1, .aload_n 0, 0, 0, .inl .null), (10, 3, .invokevirtual 256, 186, 497, .inr (0, 0, 0)), (13, 1, .aload_n 0, 0, 0, .inl .null), (14, 3, .getfield 253, 31, 24, .inl .null), (17, 1, .iconst 1, 0, 0, .inl (.int 1)), (18, 1, .isub, 0, 0, .inl .null), (19, 1, .ireturn, 0, 0, .inl .null)]
def cd_X8_noStep : List gE := [(0, 1, .aload_n 0, 0, 0, .inl .null), (1, 3, .invokevirtual 192, 133, 497, .inr (1, 0, 0)), (4, 3, .ifCond .eq 5, 9, 0, .inl .null), (7, 1, .iconst 1, 0, 0, .inl (.int 1)), (8, 1, .ireturn, 0, 0, .inl .null), (9, 1, .aload_n 0, 0, 0, .inl .null), (10, 3, .invokevirtual 256, 186, 497, .inr (0, 0, 0)), (13, 1, .aload_n 0, 0, 0, .inl .null), (14, 1, .iload_n 1, 1, 0, .inl .null), (15, 1, .iconst 0, 0, 0, .inl (.int 0)), (16, 1, .aload_n 0, 0, 0, .inl .null), (17, 3, .getfield 253, 31, 24, .inl .null), (20, 1, .iconst 1, 0, 0, .inl (.int 1)), (21, 1, .isub, 0, 0, .inl .null), (22, 3, .invokestatic 134, 131, 3, .inr (1, 0, 0)), (25, 3, .ifCond .ne 7, 32, 0, .inl .null), (28, 1, .iconst 1, 0, 0, .inl (.int 1)), (29, 3, .goto 4, 33, 0, .inl .null), (32, 1, .iconst 0, 0, 0, .inl (.int 0)), (33, 1, .iconst 2, 0, 0, .inl (.int 2)), (34, 3, .invokevirtual 65, 132, 499, .inr (1, 0, 0)), (37, 1, .ireturn, 0, 0, .inl .null)]
def cd_X8_stepEnd : List gE := [(0, 1, .aload_n 0, 0, 0, .inl .null), (1, 1, .iload_n 1, 1, 0, .inl .null), (2, 3, .invokevirtual 259, 188, 498, .inr (1, 0, 0)), (5, 3, .ifCond .eq 7, 12, 0, .inl .null), (8, 1, .iconst 0, 0, 0, .inl (.int 0)), (9, 3, .goto 9, 18, 0, .inl .null), (12, 1, .aload_n 0, 0, 0, .inl .null), (13, 3, .getfield 39, 31, 23, .inl .null), (16, 1, .iload_n 1, 1, 0, .inl .null), (17, 1, .iaload, 0, 0, .inl .null), (18, 1, .ireturn, 0, 0, .inl .null)]
def cd_X8_longestJump : List gE := [(0, 1, .aload_n 0, 0, 0, .inl .null), (1, 3, .invokevirtual 192, 133, 497, .inr (1, 0, 0)), (4, 3, .ifCond .eq 5, 9, 0, .inl .null), (7, 1, .iconst 0, 0, 0, .inl (.int 0)), (8, 1, .ireturn, 0, 0, .inl .null), (9, 1, .aload_n 0, 0, 0, .inl .null), (10, 3, .invokevirtual 256, 186, 497, .inr (0, 0, 0)), (13, 1, .iconst 0, 0, 0, .inl (.int 0)), (14, 1, .istore_n 1, 1, 0, .inl .null), (15, 1, .iconst 1, 0, 0, .inl (.int 1)), (16, 1, .istore_n 2, 2, 0, .inl .null), (17, 1, .iload_n 2, 2, 0, .inl .null), (18, 1, .aload_n 0, 0, 0, .inl .null), (19, 3, .getfield 253, 31, 24, .inl .null), (22, 3, .if_icmp .ge 29, 51, 0, .inl .null), (25, 1, .iload_n 1, 1, 0, .inl .null), (26, 1, .aload_n 0, 0, 0, .inl .null), (27, 3, .getfield 39, 31, 23, .inl .null), (30, 1, .iload_n 2, 2, 0, .inl .null), (31, 1, .iaload, 0, 0, .inl .null), (32, 1, .aload_n 0, 0, 0, .inl .null), (33, 3, .getfield 39, 31, 23, .inl .null), (36, 1, .iload_n 2, 2, 0, .inl .null), (37, 1, .iconst 1, 0, 0, .inl (.int 1)), (38, 1, .isub, 0, 0, .inl .null), (39, 1, .iaload, 0, 0, .inl .null), (40, 1, .isub, 0, 0, .inl .null), (41, 3, .invokestatic 262, 307, 2, .inr (1, 0, 0)), (44, 1, .istore_n 1, 1, 0, .inl .null), (45, 3, .iinc 2 1, 2, 0, .inl (.int 1)), (48, 3, .goto (-31), 17, 0, .inl .null), (51, 1, .iload_n 1, 1, 0, .inl .null), (52, 1, .ireturn, 0, 0, .inl .null)]
def cd_X8_tail : List gE := [(0, 1, .aload_n 0, 0, 0, .inl .null), (1, 3, .invokevirtual 192, 133, 497, .inr (1, 0, 0)), (4, 3, .ifCond .eq 5, 9, 0, .inl .null), (7, 1, .iconst 0, 0, 0, .inl (.int 0)), (8, 1, .ireturn, 0, 0, .inl .null), (9, 1, .aload_n 0, 0, 0, .inl .null), (10, 3, .invokevirtual 256, 186, 497, .inr (0, 0, 0)), (13, 1, .aload_n 0, 0, 0, .inl .null), (14, 3, .getfield 7, 31, 2, .inl .null), (17, 1, .iconst 0, 0, 0, .inl (.int 0)), (18, 1, .iaload, 0, 0, .inl .null), (19, 1, .aload_n 0, 0, 0, .inl .null), (20, 3, .getfield 39, 31, 23, .inl .null), (23, 1, .aload_n 0, 0, 0, .inl .null), (24, 3, .getfield 253, 31, 24, .inl .null), (27, 1, .iconst 1, 0, 0, .inl (.int 1)), (28, 1, .isub, 0, 0, .inl .null), (29, 1, .iaload, 0, 0, .inl .null), (30, 1, .isub, 0, 0, .inl .null), (31, 1, .ireturn, 0, 0, .inl .null)]
def cd_X8_regularPrimes : List gE := [(0, 1, .aload_n 0, 0, 0, .inl .null), (1, 3, .invokevirtual 192, 133, 497, .inr (1, 0, 0)), (4, 3, .ifCond .eq 5, 9, 0, .inl .null), (7, 1, .iconst 0, 0, 0, .inl (.int 0)), (8, 1, .ireturn, 0, 0, .inl .null), (9, 1, .iconst 0, 0, 0, .inl (.int 0)), (10, 1, .istore_n 1, 1, 0, .inl .null), (11, 1, .iconst 0, 0, 0, .inl (.int 0)), (12, 1, .istore_n 2, 2, 0, .inl .null), (13, 1, .iload_n 2, 2, 0, .inl .null), (14, 2, .bipush 11, 0, 0, .inl (.int 11)), (16, 3, .if_icmp .ge 36, 52, 0, .inl .null), (19, 1, .iload_n 1, 1, 0, .inl .null), (20, 1, .aload_n 0, 0, 0, .inl .null), (21, 1, .aload_n 0, 0, 0, .inl .null), (22, 3, .getfield 7, 31, 2, .inl .null), (25, 1, .iconst 0, 0, 0, .inl (.int 0)), (26, 1, .iaload, 0, 0, .inl .null), (27, 1, .iload_n 2, 2, 0, .inl .null), (28, 3, .invokestatic 69, 135, 1, .inr (1, 0, 0)), (31, 3, .invokevirtual 238, 178, 499, .inr (1, 0, 0)), (34, 3, .ifCond .eq 9, 43, 0, .inl .null), (37, 1, .iconst 1, 0, 0, .inl (.int 1)), (38, 1, .iload_n 2, 2, 0, .inl .null), (39, 1, .ishl, 0, 0, .inl .null), (40, 3, .goto 4, 44, 0, .inl .null), (43, 1, .iconst 0, 0, 0, .inl (.int 0)), (44, 1, .ior, 0, 0, .inl .null), (45, 1, .istore_n 1, 1, 0, .inl .null), (46, 3, .iinc 2 1, 2, 0, .inl (.int 1)), (49, 3, .goto (-36), 13, 0, .inl .null), (52, 1, .iload_n 1, 1, 0, .inl .null), (53, 1, .ireturn, 0, 0, .inl .null)]
def cd_X8_minorIf : List gE := [(0, 1, .aload_n 0, 0, 0, .inl .null), (1, 3, .invokevirtual 192, 133, 497, .inr (1, 0, 0)), (4, 3, .ifCond .ne 62, 66, 0, .inl .null), (7, 1, .aload_n 0, 0, 0, .inl .null), (8, 1, .aload_n 0, 0, 0, .inl .null), (9, 1, .iload_n 1, 1, 0, .inl .null), (10, 3, .invokevirtual 205, 159, 498, .inr (1, 0, 0)), (13, 3, .ifCond .eq 17, 30, 0, .inl .null), (16, 1, .iload_n 3, 3, 0, .inl .null), (17, 1, .iconst 0, 0, 0, .inl (.int 0)), (18, 1, .aload_n 0, 0, 0, .inl .null), (19, 3, .getfield 7, 31, 2, .inl .null), (22, 1, .iconst 0, 0, 0, .inl (.int 0)), (23, 1, .iaload, 0, 0, .inl .null), (24, 3, .invokestatic 134, 131, 3, .inr (1, 0, 0)), (27, 3, .ifCond .ne 7, 34, 0, .inl .null), (30, 1, .iconst 1, 0, 0, .inl (.int 1)), (31, 3, .goto 4, 35, 0, .inl .null), (34, 1, .iconst 0, 0, 0, .inl (.int 0)), (35, 1, .iconst 2, 0, 0, .inl (.int 2)), (36, 3, .invokevirtual 65, 132, 499, .inr (1, 0, 0)), (39, 3, .ifCond .ne 27, 66, 0, .inl .null), (42, 1, .aload_n 0, 0, 0, .inl .null), (43, 1, .iload_n 2, 2, 0, .inl .null), (44, 2, .bipush (-50), 0, 0, .inl (.int (-50))), (46, 2, .bipush 50, 0, 0, .inl (.int 50)), (48, 3, .invokestatic 134, 131, 3, .inr (1, 0, 0)), (51, 3, .ifCond .ne 7, 58, 0, .inl .null), (54, 1, .iconst 1, 0, 0, .inl (.int 1)), (55, 3, .goto 4, 59, 0, .inl .null), (58, 1, .iconst 0, 0, 0, .inl (.int 0)), (59, 1, .iconst 3, 0, 0, .inl (.int 3)), (60, 3, .invokevirtual 65, 132, 499, .inr (1, 0, 0)), (63, 3, .ifCond .eq 5, 68, 0, .inl .null), (66, 1, .iconst 0, 0, 0, .inl (.int 0)), (67, 1, .ireturn, 0, 0, .inl .null), (68, 1, .aload_n 0, 0, 0, .inl .null), (69, 3, .getfield 7, 31, 2, .inl .null), (72, 2, .bipush 8, 0, 0, .inl (.int 8)), (74, 1, .iload_n 1, 1, 0, .inl .null), (75, 1, .iadd, 0, 0, .inl .null), (76, 1, .iaload, 0, 0, .inl .null), (77, 2, .istore 4, 4, 0, .inl .null), (79, 1, .aload_n 0, 0, 0, .inl .null), (80, 3, .getfield 7, 31, 2, .inl .null), (83, 2, .bipush 8, 0, 0, .inl (.int 8)), (85, 1, .iload_n 1, 1, 0, .inl .null), (86, 1, .iadd, 0, 0, .inl .null), (87, 1, .iload_n 2, 2, 0, .inl .null), (88, 1, .iastore, 0, 0, .inl .null), (89, 1, .aload_n 0, 0, 0, .inl .null), (90, 1, .iload_n 3, 3, 0, .inl .null), (91, 3, .invokevirtual 241, 179, 498, .inr (1, 0, 0)), (94, 2, .istore 5, 5, 0, .inl .null), (96, 1, .aload_n 0, 0, 0, .inl .null), (97, 3, .getfield 7, 31, 2, .inl .null), (100, 2, .bipush 8, 0, 0, .inl (.int 8)), (102, 1, .iload_n 1, 1, 0, .inl .null), (103, 1, .iadd, 0, 0, .inl .null), (104, 2, .iload 4, 4, 0, .inl .null), (106, 1, .iastore, 0, 0, .inl .null), (107, 2, .iload 5, 5, 0, .inl .null), (109, 1, .ireturn, 0, 0, .inl .null)]
def cd_X8_complements : List gE := [(0, 1, .aload_n 0, 0, 0, .inl .null), (1, 1, .aload_n 0, 0, 0, .inl .null), (2, 3, .getfield 7, 31, 2, .inl .null), (5, 1, .iconst 1, 0, 0, .inl (.int 1)), (6, 1, .iaload, 0, 0, .inl .null), (7, 3, .putfield 215, 31, 21, .inl .null), (10, 1, .aload_n 0, 0, 0, .inl .null), (11, 3, .invokevirtual 221, 174, 497, .inr (0, 0, 0)), (14, 1, .iconst 0, 0, 0, .inl (.int 0)), (15, 1, .istore_n 2, 2, 0, .inl .null), (16, 1, .iload_n 2, 2, 0, .inl .null), (17, 1, .iload_n 1, 1, 0, .inl .null), (18, 3, .if_icmp .ge 85, 103, 0, .inl .null), (21, 1, .aload_n 0, 0, 0, .inl .null), (22, 1, .aload_n 0, 0, 0, .inl .null), (23, 1, .iload_n 2, 2, 0, .inl .null), (24, 1, .iload_n 2, 2, 0, .inl .null), (25, 1, .iload_n 1, 1, 0, .inl .null), (26, 3, .invokevirtual 224, 177, 500, .inr (1, 0, 0)), (29, 1, .iload_n 2, 2, 0, .inl .null), (30, 3, .invokevirtual 228, 175, 499, .inr (0, 0, 0)), (33, 1, .aload_n 0, 0, 0, .inl .null), (34, 1, .aload_n 0, 0, 0, .inl .null), (35, 3, .getfield 33, 31, 20, .inl .null), (38, 2, .bipush 8, 0, 0, .inl (.int 8)), (40, 1, .iload_n 2, 2, 0, .inl .null), (41, 1, .imul, 0, 0, .inl .null), (42, 1, .iload_n 2, 2, 0, .inl .null), (43, 1, .iadd, 0, 0, .inl .null), (44, 1, .iaload, 0, 0, .inl .null), (45, 3, .invokevirtual 231, 173, 498, .inr (1, 0, 0)), (48, 1, .istore_n 3, 3, 0, .inl .null), (49, 1, .iload_n 2, 2, 0, .inl .null), (50, 1, .iconst 1, 0, 0, .inl (.int 1)), (51, 1, .iadd, 0, 0, .inl .null), (52, 2, .istore 4, 4, 0, .inl .null), (54, 2, .iload 4, 4, 0, .inl .null), (56, 1, .aload_n 0, 0, 0, .inl .null), (57, 3, .getfield 7, 31, 2, .inl .null), (60, 1, .iconst 0, 0, 0, .inl (.int 0)), (61, 1, .iaload, 0, 0, .inl .null), (62, 3, .if_icmp .ge 35, 97, 0, .inl .null), (65, 1, .aload_n 0, 0, 0, .inl .null), (66, 2, .iload 4, 4, 0, .inl .null), (68, 1, .iload_n 2, 2, 0, .inl .null), (69, 1, .aload_n 0, 0, 0, .inl .null), (70, 3, .getfield 33, 31, 20, .inl .null), (73, 2, .bipush 8, 0, 0, .inl (.int 8)), (75, 2, .iload 4, 4, 0, .inl .null), (77, 1, .imul, 0, 0, .inl .null), (78, 1, .iload_n 2, 2, 0, .inl .null), (79, 1, .iadd, 0, 0, .inl .null), (80, 1, .iaload, 0, 0, .inl .null), (81, 1, .iload_n 3, 3, 0, .inl .null), (82, 1, .imul, 0, 0, .inl .null), (83, 1, .aload_n 0, 0, 0, .inl .null), (84, 3, .getfield 215, 31, 21, .inl .null), (87, 1, .irem, 0, 0, .inl .null), (88, 3, .invokevirtual 234, 176, 500, .inr (0, 0, 0)), (91, 3, .iinc 4 1, 4, 0, .inl (.int 1)), (94, 3, .goto (-40), 54, 0, .inl .null), (97, 3, .iinc 2 1, 2, 0, .inl (.int 1)), (100, 3, .goto (-84), 16, 0, .inl .null), (103, 1, .return_, 0, 0, .inl .null)]
def cd_X8_displaces : List gE := [(0, 1, .aload_n 0, 0, 0, .inl .null), (1, 1, .iload_n 1, 1, 0, .inl .null), (2, 3, .invokevirtual 267, 194, 498, .inr (0, 0, 0)), (5, 1, .iload_n 1, 1, 0, .inl .null), (6, 1, .istore_n 2, 2, 0, .inl .null), (7, 1, .iload_n 2, 2, 0, .inl .null), (8, 1, .aload_n 0, 0, 0, .inl .null), (9, 3, .getfield 7, 31, 2, .inl .null), (12, 1, .iconst 0, 0, 0, .inl (.int 0)), (13, 1, .iaload, 0, 0, .inl .null), (14, 3, .if_icmp .ge 86, 100, 0, .inl .null), (17, 1, .iload_n 1, 1, 0, .inl .null), (18, 1, .istore_n 3, 3, 0, .inl .null), (19, 1, .iload_n 3, 3, 0, .inl .null), (20, 1, .aload_n 0, 0, 0, .inl .null), (21, 3, .getfield 7, 31, 2, .inl .null), (24, 1, .iconst 0, 0, 0, .inl (.int 0)), (25, 1, .iaload, 0, 0, .inl .null), (26, 3, .if_icmp .ge 68, 94, 0, .inl .null), (29, 1, .iload_n 2, 2, 0, .inl .null), (30, 1, .iload_n 1, 1, 0, .inl .null), (31, 3, .if_icmp .le 25, 56, 0, .inl .null), (34, 1, .iload_n 3, 3, 0, .inl .null), (35, 1, .iload_n 1, 1, 0, .inl .null), (36, 3, .if_icmp .le 20, 56, 0, .inl .null), (39, 1, .aload_n 0, 0, 0, .inl .null), (40, 3, .getfield 33, 31, 20, .inl .null), (43, 2, .bipush 8, 0, 0, .inl (.int 8)), (45, 1, .iload_n 2, 2, 0, .inl .null), (46, 1, .imul, 0, 0, .inl .null), (47, 1, .iload_n 3, 3, 0, .inl .null), (48, 1, .iadd, 0, 0, .inl .null), (49, 2, .bipush 9, 0, 0, .inl (.int 9)), (51, 1, .isub, 0, 0, .inl .null), (52, 1, .iaload, 0, 0, .inl .null), (53, 3, .goto 4, 57, 0, .inl .null), (56, 1, .iconst 0, 0, 0, .inl (.int 0)), (57, 2, .istore 4, 4, 0, .inl .null), (59, 1, .aload_n 0, 0, 0, .inl .null), (60, 3, .getfield 42, 31, 25, .inl .null), (63, 2, .bipush 7, 0, 0, .inl (.int 7)), (65, 1, .iload_n 2, 2, 0, .inl .null), (66, 1, .imul, 0, 0, .inl .null), (67, 1, .iload_n 3, 3, 0, .inl .null), (68, 1, .iadd, 0, 0, .inl .null), (69, 1, .aload_n 0, 0, 0, .inl .null), (70, 1, .aload_n 0, 0, 0, .inl .null), (71, 3, .getfield 33, 31, 20, .inl .null), (74, 2, .bipush 8, 0, 0, .inl (.int 8)), (76, 1, .iload_n 2, 2, 0, .inl .null), (77, 1, .imul, 0, 0, .inl .null), (78, 1, .iload_n 3, 3, 0, .inl .null), (79, 1, .iadd, 0, 0, .inl .null), (80, 1, .iaload, 0, 0, .inl .null), (81, 2, .iload 4, 4, 0, .inl .null), (83, 1, .isub, 0, 0, .inl .null), (84, 3, .invokevirtual 218, 172, 498, .inr (1, 0, 0)), (87, 1, .iastore, 0, 0, .inl .null), (88, 3, .iinc 3 1, 3, 0, .inl (.int 1)), (91, 3, .goto (-72), 19, 0, .inl .null), (94, 3, .iinc 2 1, 2, 0, .inl (.int 1)), (97, 3, .goto (-90), 7, 0, .inl .null), (100, 1, .return_, 0, 0, .inl .null)]
def cd_X8_peels : List gE := [(0, 1, .aload_n 0, 0, 0, .inl .null), (1, 1, .aload_n 0, 0, 0, .inl .null), (2, 3, .getfield 42, 31, 25, .inl .null), (5, 2, .bipush 7, 0, 0, .inl (.int 7)), (7, 1, .iload_n 2, 2, 0, .inl .null), (8, 1, .imul, 0, 0, .inl .null), (9, 1, .iload_n 3, 3, 0, .inl .null), (10, 1, .iadd, 0, 0, .inl .null), (11, 1, .iaload, 0, 0, .inl .null), (12, 3, .invokevirtual 231, 173, 498, .inr (1, 0, 0)), (15, 2, .istore 5, 5, 0, .inl .null), (17, 1, .iload_n 1, 1, 0, .inl .null), (18, 2, .istore 6, 6, 0, .inl .null), (20, 2, .iload 6, 6, 0, .inl .null), (22, 1, .aload_n 0, 0, 0, .inl .null), (23, 3, .getfield 7, 31, 2, .inl .null), (26, 1, .iconst 0, 0, 0, .inl (.int 0)), (27, 1, .iaload, 0, 0, .inl .null), (28, 3, .if_icmp .ge 67, 95, 0, .inl .null), (31, 1, .aload_n 0, 0, 0, .inl .null), (32, 3, .getfield 45, 31, 26, .inl .null), (35, 2, .bipush 49, 0, 0, .inl (.int 49)), (37, 2, .iload 4, 4, 0, .inl .null), (39, 1, .imul, 0, 0, .inl .null), (40, 2, .iload 6, 6, 0, .inl .null), (42, 1, .iadd, 0, 0, .inl .null), (43, 1, .aload_n 0, 0, 0, .inl .null), (44, 3, .getfield 42, 31, 25, .inl .null), (47, 2, .bipush 7, 0, 0, .inl (.int 7)), (49, 2, .iload 6, 6, 0, .inl .null), (51, 1, .imul, 0, 0, .inl .null), (52, 1, .iload_n 3, 3, 0, .inl .null), (53, 1, .iadd, 0, 0, .inl .null), (54, 1, .iaload, 0, 0, .inl .null), (55, 2, .iload 5, 5, 0, .inl .null), (57, 1, .imul, 0, 0, .inl .null), (58, 1, .aload_n 0, 0, 0, .inl .null), (59, 3, .getfield 215, 31, 21, .inl .null), (62, 1, .irem, 0, 0, .inl .null), (63, 1, .iastore, 0, 0, .inl .null), (64, 1, .aload_n 0, 0, 0, .inl .null), (65, 3, .getfield 48, 31, 27, .inl .null), (68, 2, .bipush 49, 0, 0, .inl (.int 49)), (70, 2, .iload 4, 4, 0, .inl .null), (72, 1, .imul, 0, 0, .inl .null), (73, 2, .iload 6, 6, 0, .inl .null), (75, 1, .iadd, 0, 0, .inl .null), (76, 1, .aload_n 0, 0, 0, .inl .null), (77, 3, .getfield 42, 31, 25, .inl .null), (80, 2, .bipush 7, 0, 0, .inl (.int 7)), (82, 1, .iload_n 2, 2, 0, .inl .null), (83, 1, .imul, 0, 0, .inl .null), (84, 2, .iload 6, 6, 0, .inl .null), (86, 1, .iadd, 0, 0, .inl .null), (87, 1, .iaload, 0, 0, .inl .null), (88, 1, .iastore, 0, 0, .inl .null), (89, 3, .iinc 6 1, 6, 0, .inl (.int 1)), (92, 3, .goto (-72), 20, 0, .inl .null), (95, 1, .iload_n 1, 1, 0, .inl .null), (96, 2, .istore 6, 6, 0, .inl .null), (98, 2, .iload 6, 6, 0, .inl .null), (100, 1, .aload_n 0, 0, 0, .inl .null), (101, 3, .getfield 7, 31, 2, .inl .null), (104, 1, .iconst 0, 0, 0, .inl (.int 0)), (105, 1, .iaload, 0, 0, .inl .null), (106, 3, .if_icmp .ge 87, 193, 0, .inl .null), (109, 1, .iload_n 1, 1, 0, .inl .null), (110, 2, .istore 7, 7, 0, .inl .null), (112, 2, .iload 7, 7, 0, .inl .null), (114, 1, .aload_n 0, 0, 0, .inl .null), (115, 3, .getfield 7, 31, 2, .inl .null), (118, 1, .iconst 0, 0, 0, .inl (.int 0)), (119, 1, .iaload, 0, 0, .inl .null), (120, 3, .if_icmp .ge 67, 187, 0, .inl .null), (123, 1, .aload_n 0, 0, 0, .inl .null), (124, 3, .getfield 42, 31, 25, .inl .null), (127, 2, .bipush 7, 0, 0, .inl (.int 7)), (129, 2, .iload 6, 6, 0, .inl .null), (131, 1, .imul, 0, 0, .inl .null), (132, 2, .iload 7, 7, 0, .inl .null), (134, 1, .iadd, 0, 0, .inl .null), (135, 1, .aload_n 0, 0, 0, .inl .null), (136, 1, .aload_n 0, 0, 0, .inl .null), (137, 3, .getfield 42, 31, 25, .inl .null), (140, 2, .bipush 7, 0, 0, .inl (.int 7)), (142, 2, .iload 6, 6, 0, .inl .null), (144, 1, .imul, 0, 0, .inl .null), (145, 2, .iload 7, 7, 0, .inl .null), (147, 1, .iadd, 0, 0, .inl .null), (148, 1, .iaload, 0, 0, .inl .null), (149, 1, .aload_n 0, 0, 0, .inl .null), (150, 3, .getfield 45, 31, 26, .inl .null), (153, 2, .bipush 49, 0, 0, .inl (.int 49)), (155, 2, .iload 4, 4, 0, .inl .null), (157, 1, .imul, 0, 0, .inl .null), (158, 2, .iload 6, 6, 0, .inl .null), (160, 1, .iadd, 0, 0, .inl .null), (161, 1, .iaload, 0, 0, .inl .null), (162, 1, .aload_n 0, 0, 0, .inl .null), (163, 3, .getfield 48, 31, 27, .inl .null), (166, 2, .bipush 49, 0, 0, .inl (.int 49)), (168, 2, .iload 4, 4, 0, .inl .null), (170, 1, .imul, 0, 0, .inl .null), (171, 2, .iload 7, 7, 0, .inl .null), (173, 1, .iadd, 0, 0, .inl .null), (174, 1, .iaload, 0, 0, .inl .null), (175, 1, .imul, 0, 0, .inl .null), (176, 1, .isub, 0, 0, .inl .null), (177, 3, .invokevirtual 218, 172, 498, .inr (1, 0, 0)), (180, 1, .iastore, 0, 0, .inl .null), (181, 3, .iinc 7 1, 7, 0, .inl (.int 1)), (184, 3, .goto (-72), 112, 0, .inl .null), (187, 3, .iinc 6 1, 6, 0, .inl (.int 1)), (190, 3, .goto (-92), 98, 0, .inl .null), (193, 1, .return_, 0, 0, .inl .null)]
def cd_X8_laysPairs : List gE := [(0, 1, .aload_n 0, 0, 0, .inl .null), (1, 1, .iload_n 1, 1, 0, .inl .null), (2, 3, .invokevirtual 270, 195, 498, .inr (0, 0, 0)), (5, 1, .iconst 0, 0, 0, .inl (.int 0)), (6, 1, .istore_n 2, 2, 0, .inl .null), (7, 1, .iload_n 1, 1, 0, .inl .null), (8, 1, .istore_n 3, 3, 0, .inl .null), (9, 1, .iload_n 3, 3, 0, .inl .null), (10, 1, .aload_n 0, 0, 0, .inl .null), (11, 3, .getfield 7, 31, 2, .inl .null), (14, 1, .iconst 0, 0, 0, .inl (.int 0)), (15, 1, .iaload, 0, 0, .inl .null), (16, 3, .if_icmp .ge 56, 72, 0, .inl .null), (19, 1, .iload_n 1, 1, 0, .inl .null), (20, 2, .istore 4, 4, 0, .inl .null), (22, 2, .iload 4, 4, 0, .inl .null), (24, 1, .aload_n 0, 0, 0, .inl .null), (25, 3, .getfield 7, 31, 2, .inl .null), (28, 1, .iconst 0, 0, 0, .inl (.int 0)), (29, 1, .iaload, 0, 0, .inl .null), (30, 3, .if_icmp .ge 36, 66, 0, .inl .null), (33, 1, .aload_n 0, 0, 0, .inl .null), (34, 3, .getfield 42, 31, 25, .inl .null), (37, 2, .bipush 7, 0, 0, .inl (.int 7)), (39, 1, .iload_n 3, 3, 0, .inl .null), (40, 1, .imul, 0, 0, .inl .null), (41, 2, .iload 4, 4, 0, .inl .null), (43, 1, .iadd, 0, 0, .inl .null), (44, 1, .iaload, 0, 0, .inl .null), (45, 3, .ifCond .eq 15, 60, 0, .inl .null), (48, 1, .aload_n 0, 0, 0, .inl .null), (49, 1, .iload_n 1, 1, 0, .inl .null), (50, 1, .iload_n 3, 3, 0, .inl .null), (51, 2, .iload 4, 4, 0, .inl .null), (53, 1, .iload_n 2, 2, 0, .inl .null), (54, 3, .invokevirtual 273, 196, 501, .inr (0, 0, 0)), (57, 3, .iinc 2 1, 2, 0, .inl (.int 1)), (60, 3, .iinc 4 1, 4, 0, .inl (.int 1)), (63, 3, .goto (-41), 22, 0, .inl .null), (66, 3, .iinc 3 1, 3, 0, .inl (.int 1)), (69, 3, .goto (-60), 9, 0, .inl .null), (72, 1, .iload_n 2, 2, 0, .inl .null), (73, 1, .ireturn, 0, 0, .inl .null)]
def cd_X8_noPlace : List gE := [(0, 1, .aload_n 0, 0, 0, .inl .null), (1, 1, .iload_n 1, 1, 0, .inl .null), (2, 3, .invokevirtual 259, 188, 498, .inr (1, 0, 0)), (5, 3, .ifCond .ne 58, 63, 0, .inl .null), (8, 1, .aload_n 0, 0, 0, .inl .null), (9, 1, .iload_n 2, 2, 0, .inl .null), (10, 1, .aload_n 0, 0, 0, .inl .null), (11, 3, .getfield 39, 31, 23, .inl .null), (14, 1, .iload_n 1, 1, 0, .inl .null), (15, 1, .iaload, 0, 0, .inl .null), (16, 1, .aload_n 0, 0, 0, .inl .null), (17, 3, .getfield 7, 31, 2, .inl .null), (20, 1, .iconst 0, 0, 0, .inl (.int 0)), (21, 1, .iaload, 0, 0, .inl .null), (22, 1, .iconst 1, 0, 0, .inl (.int 1)), (23, 1, .isub, 0, 0, .inl .null), (24, 3, .invokestatic 134, 131, 3, .inr (1, 0, 0)), (27, 3, .ifCond .eq 24, 51, 0, .inl .null), (30, 1, .iload_n 3, 3, 0, .inl .null), (31, 1, .aload_n 0, 0, 0, .inl .null), (32, 3, .getfield 39, 31, 23, .inl .null), (35, 1, .iload_n 1, 1, 0, .inl .null), (36, 1, .iaload, 0, 0, .inl .null), (37, 1, .aload_n 0, 0, 0, .inl .null), (38, 3, .getfield 7, 31, 2, .inl .null), (41, 1, .iconst 0, 0, 0, .inl (.int 0)), (42, 1, .iaload, 0, 0, .inl .null), (43, 1, .iconst 1, 0, 0, .inl (.int 1)), (44, 1, .isub, 0, 0, .inl .null), (45, 3, .invokestatic 134, 131, 3, .inr (1, 0, 0)), (48, 3, .ifCond .ne 7, 55, 0, .inl .null), (51, 1, .iconst 1, 0, 0, .inl (.int 1)), (52, 3, .goto 4, 56, 0, .inl .null), (55, 1, .iconst 0, 0, 0, .inl (.int 0)), (56, 1, .iconst 2, 0, 0, .inl (.int 2)), (57, 3, .invokevirtual 65, 132, 499, .inr (1, 0, 0)), (60, 3, .ifCond .eq 7, 67, 0, .inl .null), (63, 1, .iconst 1, 0, 0, .inl (.int 1)), (64, 3, .goto 4, 68, 0, .inl .null), (67, 1, .iconst 0, 0, 0, .inl (.int 0)), (68, 1, .ireturn, 0, 0, .inl .null)]
def cd_X8_schur : List gE := [(0, 1, .aload_n 0, 0, 0, .inl .null), (1, 1, .iload_n 1, 1, 0, .inl .null), (2, 1, .iload_n 2, 2, 0, .inl .null), (3, 1, .iload_n 3, 3, 0, .inl .null), (4, 3, .invokevirtual 277, 198, 500, .inr (1, 0, 0)), (7, 3, .ifCond .eq 5, 12, 0, .inl .null), (10, 1, .iconst 0, 0, 0, .inl (.int 0)), (11, 1, .ireturn, 0, 0, .inl .null), (12, 1, .aload_n 0, 0, 0, .inl .null), (13, 1, .aload_n 0, 0, 0, .inl .null), (14, 3, .getfield 39, 31, 23, .inl .null), (17, 1, .iload_n 1, 1, 0, .inl .null), (18, 1, .iaload, 0, 0, .inl .null), (19, 3, .invokevirtual 267, 194, 498, .inr (0, 0, 0)), (22, 1, .aload_n 0, 0, 0, .inl .null), (23, 3, .getfield 33, 31, 20, .inl .null), (26, 2, .bipush 8, 0, 0, .inl (.int 8)), (28, 1, .iload_n 2, 2, 0, .inl .null), (29, 1, .imul, 0, 0, .inl .null), (30, 1, .iload_n 3, 3, 0, .inl .null), (31, 1, .iadd, 0, 0, .inl .null), (32, 1, .iaload, 0, 0, .inl .null), (33, 1, .ireturn, 0, 0, .inl .null)]
def cd_X8_displacement : List gE := [(0, 1, .aload_n 0, 0, 0, .inl .null), (1, 1, .iload_n 1, 1, 0, .inl .null), (2, 1, .iload_n 2, 2, 0, .inl .null), (3, 1, .iload_n 3, 3, 0, .inl .null), (4, 3, .invokevirtual 277, 198, 500, .inr (1, 0, 0)), (7, 3, .ifCond .eq 5, 12, 0, .inl .null), (10, 1, .iconst 0, 0, 0, .inl (.int 0)), (11, 1, .ireturn, 0, 0, .inl .null), (12, 1, .aload_n 0, 0, 0, .inl .null), (13, 1, .aload_n 0, 0, 0, .inl .null), (14, 3, .getfield 39, 31, 23, .inl .null), (17, 1, .iload_n 1, 1, 0, .inl .null), (18, 1, .iaload, 0, 0, .inl .null), (19, 3, .invokevirtual 270, 195, 498, .inr (0, 0, 0)), (22, 1, .aload_n 0, 0, 0, .inl .null), (23, 3, .getfield 42, 31, 25, .inl .null), (26, 2, .bipush 7, 0, 0, .inl (.int 7)), (28, 1, .iload_n 2, 2, 0, .inl .null), (29, 1, .imul, 0, 0, .inl .null), (30, 1, .iload_n 3, 3, 0, .inl .null), (31, 1, .iadd, 0, 0, .inl .null), (32, 1, .iaload, 0, 0, .inl .null), (33, 1, .ireturn, 0, 0, .inl .null)]
def cd_X8_generators : List gE := [(0, 1, .aload_n 0, 0, 0, .inl .null), (1, 1, .iload_n 1, 1, 0, .inl .null), (2, 3, .invokevirtual 259, 188, 498, .inr (1, 0, 0)), (5, 3, .ifCond .eq 7, 12, 0, .inl .null), (8, 1, .iconst 0, 0, 0, .inl (.int 0)), (9, 3, .goto 13, 22, 0, .inl .null), (12, 1, .aload_n 0, 0, 0, .inl .null), (13, 1, .aload_n 0, 0, 0, .inl .null), (14, 3, .getfield 39, 31, 23, .inl .null), (17, 1, .iload_n 1, 1, 0, .inl .null), (18, 1, .iaload, 0, 0, .inl .null), (19, 3, .invokevirtual 280, 197, 498, .inr (1, 0, 0)), (22, 1, .ireturn, 0, 0, .inl .null)]
def cd_X8_generator : List gE := [(0, 1, .aload_n 0, 0, 0, .inl .null), (1, 1, .iload_n 1, 1, 0, .inl .null), (2, 3, .invokevirtual 259, 188, 498, .inr (1, 0, 0)), (5, 3, .ifCond .ne 70, 75, 0, .inl .null), (8, 1, .aload_n 0, 0, 0, .inl .null), (9, 1, .iload_n 3, 3, 0, .inl .null), (10, 1, .aload_n 0, 0, 0, .inl .null), (11, 3, .getfield 39, 31, 23, .inl .null), (14, 1, .iload_n 1, 1, 0, .inl .null), (15, 1, .iaload, 0, 0, .inl .null), (16, 1, .aload_n 0, 0, 0, .inl .null), (17, 3, .getfield 7, 31, 2, .inl .null), (20, 1, .iconst 0, 0, 0, .inl (.int 0)), (21, 1, .iaload, 0, 0, .inl .null), (22, 1, .iconst 1, 0, 0, .inl (.int 1)), (23, 1, .isub, 0, 0, .inl .null), (24, 3, .invokestatic 134, 131, 3, .inr (1, 0, 0)), (27, 3, .ifCond .ne 7, 34, 0, .inl .null), (30, 1, .iconst 1, 0, 0, .inl (.int 1)), (31, 3, .goto 4, 35, 0, .inl .null), (34, 1, .iconst 0, 0, 0, .inl (.int 0)), (35, 1, .iconst 2, 0, 0, .inl (.int 2)), (36, 3, .invokevirtual 65, 132, 499, .inr (1, 0, 0)), (39, 3, .ifCond .ne 36, 75, 0, .inl .null), (42, 1, .aload_n 0, 0, 0, .inl .null), (43, 1, .iload_n 2, 2, 0, .inl .null), (44, 1, .iconst 0, 0, 0, .inl (.int 0)), (45, 1, .aload_n 0, 0, 0, .inl .null), (46, 1, .aload_n 0, 0, 0, .inl .null), (47, 3, .getfield 39, 31, 23, .inl .null), (50, 1, .iload_n 1, 1, 0, .inl .null), (51, 1, .iaload, 0, 0, .inl .null), (52, 3, .invokevirtual 280, 197, 498, .inr (1, 0, 0)), (55, 1, .iconst 1, 0, 0, .inl (.int 1)), (56, 1, .isub, 0, 0, .inl .null), (57, 3, .invokestatic 134, 131, 3, .inr (1, 0, 0)), (60, 3, .ifCond .ne 7, 67, 0, .inl .null), (63, 1, .iconst 1, 0, 0, .inl (.int 1)), (64, 3, .goto 4, 68, 0, .inl .null), (67, 1, .iconst 0, 0, 0, .inl (.int 0)), (68, 1, .iconst 2, 0, 0, .inl (.int 2)), (69, 3, .invokevirtual 65, 132, 499, .inr (1, 0, 0)), (72, 3, .ifCond .eq 5, 77, 0, .inl .null), (75, 1, .iconst 0, 0, 0, .inl (.int 0)), (76, 1, .ireturn, 0, 0, .inl .null), (77, 2, .iload 4, 4, 0, .inl .null), (79, 3, .ifCond .eq 17, 96, 0, .inl .null), (82, 1, .aload_n 0, 0, 0, .inl .null), (83, 3, .getfield 48, 31, 27, .inl .null), (86, 2, .bipush 49, 0, 0, .inl (.int 49)), (88, 1, .iload_n 2, 2, 0, .inl .null), (89, 1, .imul, 0, 0, .inl .null), (90, 1, .iload_n 3, 3, 0, .inl .null), (91, 1, .iadd, 0, 0, .inl .null), (92, 1, .iaload, 0, 0, .inl .null), (93, 3, .goto 14, 107, 0, .inl .null), (96, 1, .aload_n 0, 0, 0, .inl .null), (97, 3, .getfield 45, 31, 26, .inl .null), (100, 2, .bipush 49, 0, 0, .inl (.int 49)), (102, 1, .iload_n 2, 2, 0, .inl .null), (103, 1, .imul, 0, 0, .inl .null), (104, 1, .iload_n 3, 3, 0, .inl .null), (105, 1, .iadd, 0, 0, .inl .null), (106, 1, .iaload, 0, 0, .inl .null), (107, 1, .ireturn, 0, 0, .inl .null)]
def cd_X8_mostGenerators : List gE := [(0, 1, .aload_n 0, 0, 0, .inl .null), (1, 3, .invokevirtual 192, 133, 497, .inr (1, 0, 0)), (4, 3, .ifCond .eq 5, 9, 0, .inl .null), (7, 1, .iconst 0, 0, 0, .inl (.int 0)), (8, 1, .ireturn, 0, 0, .inl .null), (9, 1, .aload_n 0, 0, 0, .inl .null), (10, 3, .invokevirtual 256, 186, 497, .inr (0, 0, 0)), (13, 1, .iconst 0, 0, 0, .inl (.int 0)), (14, 1, .istore_n 1, 1, 0, .inl .null), (15, 1, .iconst 0, 0, 0, .inl (.int 0)), (16, 1, .istore_n 2, 2, 0, .inl .null), (17, 1, .iload_n 2, 2, 0, .inl .null), (18, 1, .aload_n 0, 0, 0, .inl .null), (19, 3, .getfield 253, 31, 24, .inl .null), (22, 3, .if_icmp .ge 24, 46, 0, .inl .null), (25, 1, .iload_n 1, 1, 0, .inl .null), (26, 1, .aload_n 0, 0, 0, .inl .null), (27, 1, .aload_n 0, 0, 0, .inl .null), (28, 3, .getfield 39, 31, 23, .inl .null), (31, 1, .iload_n 2, 2, 0, .inl .null), (32, 1, .iaload, 0, 0, .inl .null), (33, 3, .invokevirtual 280, 197, 498, .inr (1, 0, 0)), (36, 3, .invokestatic 262, 307, 2, .inr (1, 0, 0)), (39, 1, .istore_n 1, 1, 0, .inl .null), (40, 3, .iinc 2 1, 2, 0, .inl (.int 1)), (43, 3, .goto (-26), 17, 0, .inl .null), (46, 1, .iload_n 1, 1, 0, .inl .null), (47, 1, .ireturn, 0, 0, .inl .null)]
def cd_X8_reducesWith : List gE := [(0, 1, .aload_n 0, 0, 0, .inl .null), (1, 1, .aload_n 0, 0, 0, .inl .null), (2, 3, .getfield 7, 31, 2, .inl .null), (5, 1, .iconst 1, 0, 0, .inl (.int 1)), (6, 1, .iaload, 0, 0, .inl .null), (7, 3, .putfield 215, 31, 21, .inl .null), (10, 1, .aload_n 0, 0, 0, .inl .null), (11, 3, .invokevirtual 221, 174, 497, .inr (0, 0, 0)), (14, 1, .iconst 0, 0, 0, .inl (.int 0)), (15, 1, .istore_n 2, 2, 0, .inl .null), (16, 1, .iload_n 2, 2, 0, .inl .null), (17, 1, .aload_n 0, 0, 0, .inl .null), (18, 3, .getfield 7, 31, 2, .inl .null), (21, 1, .iconst 0, 0, 0, .inl (.int 0)), (22, 1, .iaload, 0, 0, .inl .null), (23, 3, .if_icmp .ge 33, 56, 0, .inl .null), (26, 1, .aload_n 0, 0, 0, .inl .null), (27, 3, .getfield 33, 31, 20, .inl .null), (30, 2, .bipush 8, 0, 0, .inl (.int 8)), (32, 1, .iload_n 2, 2, 0, .inl .null), (33, 1, .imul, 0, 0, .inl .null), (34, 2, .bipush 7, 0, 0, .inl (.int 7)), (36, 1, .iadd, 0, 0, .inl .null), (37, 1, .aload_n 0, 0, 0, .inl .null), (38, 1, .aload_n 0, 0, 0, .inl .null), (39, 3, .getfield 7, 31, 2, .inl .null), (42, 1, .iload_n 1, 1, 0, .inl .null), (43, 1, .iload_n 2, 2, 0, .inl .null), (44, 1, .iadd, 0, 0, .inl .null), (45, 1, .iaload, 0, 0, .inl .null), (46, 3, .invokevirtual 218, 172, 498, .inr (1, 0, 0)), (49, 1, .iastore, 0, 0, .inl .null), (50, 3, .iinc 2 1, 2, 0, .inl (.int 1)), (53, 3, .goto (-37), 16, 0, .inl .null), (56, 1, .aload_n 0, 0, 0, .inl .null), (57, 3, .invokevirtual 244, 181, 497, .inr (1, 0, 0)), (60, 1, .ireturn, 0, 0, .inl .null)]
def cd_X8_noSolution : List gE := [(0, 1, .aload_n 0, 0, 0, .inl .null), (1, 1, .iload_n 1, 1, 0, .inl .null), (2, 3, .invokevirtual 199, 160, 498, .inr (1, 0, 0)), (5, 3, .ifCond .ne 23, 28, 0, .inl .null), (8, 1, .aload_n 0, 0, 0, .inl .null), (9, 1, .aload_n 0, 0, 0, .inl .null), (10, 3, .invokevirtual 250, 184, 497, .inr (1, 0, 0)), (13, 3, .ifCond .ne 7, 20, 0, .inl .null), (16, 1, .iconst 1, 0, 0, .inl (.int 1)), (17, 3, .goto 4, 21, 0, .inl .null), (20, 1, .iconst 0, 0, 0, .inl (.int 0)), (21, 1, .iconst 3, 0, 0, .inl (.int 3)), (22, 3, .invokevirtual 65, 132, 499, .inr (1, 0, 0)), (25, 3, .ifCond .eq 7, 32, 0, .inl .null), (28, 1, .iconst 1, 0, 0, .inl (.int 1)), (29, 3, .goto 4, 33, 0, .inl .null), (32, 1, .iconst 0, 0, 0, .inl (.int 0)), (33, 1, .ireturn, 0, 0, .inl .null)]
def cd_X8_solution : List gE := [(0, 1, .aload_n 0, 0, 0, .inl .null), (1, 1, .iload_n 1, 1, 0, .inl .null), (2, 3, .invokevirtual 283, 205, 498, .inr (1, 0, 0)), (5, 3, .ifCond .eq 5, 10, 0, .inl .null), (8, 1, .iconst 0, 0, 0, .inl (.int 0)), (9, 1, .ireturn, 0, 0, .inl .null), (10, 1, .aload_n 0, 0, 0, .inl .null), (11, 2, .bipush 15, 0, 0, .inl (.int 15)), (13, 3, .invokevirtual 286, 204, 498, .inr (1, 0, 0)), (16, 1, .istore_n 2, 2, 0, .inl .null), (17, 1, .aload_n 0, 0, 0, .inl .null), (18, 3, .getfield 33, 31, 20, .inl .null), (21, 2, .bipush 8, 0, 0, .inl (.int 8)), (23, 1, .iload_n 1, 1, 0, .inl .null), (24, 1, .imul, 0, 0, .inl .null), (25, 2, .bipush 7, 0, 0, .inl (.int 7)), (27, 1, .iadd, 0, 0, .inl .null), (28, 1, .iaload, 0, 0, .inl .null), (29, 1, .ireturn, 0, 0, .inl .null)]
def cd_X8_inverse : List gE := [(0, 1, .aload_n 0, 0, 0, .inl .null), (1, 1, .iload_n 1, 1, 0, .inl .null), (2, 1, .iload_n 2, 2, 0, .inl .null), (3, 3, .invokevirtual 208, 161, 499, .inr (1, 0, 0)), (6, 3, .ifCond .ne 23, 29, 0, .inl .null), (9, 1, .aload_n 0, 0, 0, .inl .null), (10, 1, .aload_n 0, 0, 0, .inl .null), (11, 3, .invokevirtual 250, 184, 497, .inr (1, 0, 0)), (14, 3, .ifCond .ne 7, 21, 0, .inl .null), (17, 1, .iconst 1, 0, 0, .inl (.int 1)), (18, 3, .goto 4, 22, 0, .inl .null), (21, 1, .iconst 0, 0, 0, .inl (.int 0)), (22, 1, .iconst 3, 0, 0, .inl (.int 3)), (23, 3, .invokevirtual 65, 132, 499, .inr (1, 0, 0)), (26, 3, .ifCond .eq 5, 31, 0, .inl .null), (29, 1, .iconst 0, 0, 0, .inl (.int 0)), (30, 1, .ireturn, 0, 0, .inl .null), (31, 1, .aload_n 0, 0, 0, .inl .null), (32, 1, .aload_n 0, 0, 0, .inl .null), (33, 3, .getfield 7, 31, 2, .inl .null), (36, 1, .iconst 1, 0, 0, .inl (.int 1)), (37, 1, .iaload, 0, 0, .inl .null), (38, 3, .putfield 215, 31, 21, .inl .null), (41, 1, .aload_n 0, 0, 0, .inl .null), (42, 3, .invokevirtual 221, 174, 497, .inr (0, 0, 0)), (45, 1, .aload_n 0, 0, 0, .inl .null), (46, 3, .getfield 33, 31, 20, .inl .null), (49, 2, .bipush 8, 0, 0, .inl (.int 8)), (51, 1, .iload_n 2, 2, 0, .inl .null), (52, 1, .imul, 0, 0, .inl .null), (53, 2, .bipush 7, 0, 0, .inl (.int 7)), (55, 1, .iadd, 0, 0, .inl .null), (56, 1, .iconst 1, 0, 0, .inl (.int 1)), (57, 1, .iastore, 0, 0, .inl .null), (58, 1, .aload_n 0, 0, 0, .inl .null), (59, 3, .invokevirtual 244, 181, 497, .inr (1, 0, 0)), (62, 1, .istore_n 3, 3, 0, .inl .null), (63, 1, .aload_n 0, 0, 0, .inl .null), (64, 3, .getfield 33, 31, 20, .inl .null), (67, 2, .bipush 8, 0, 0, .inl (.int 8)), (69, 1, .iload_n 1, 1, 0, .inl .null), (70, 1, .imul, 0, 0, .inl .null), (71, 2, .bipush 7, 0, 0, .inl (.int 7)), (73, 1, .iadd, 0, 0, .inl .null), (74, 1, .iaload, 0, 0, .inl .null), (75, 1, .ireturn, 0, 0, .inl .null)]
def cd_X8_kernel : List gE := [(0, 1, .aload_n 0, 0, 0, .inl .null), (1, 1, .iload_n 1, 1, 0, .inl .null), (2, 3, .invokevirtual 199, 160, 498, .inr (1, 0, 0)), (5, 3, .ifCond .ne 15, 20, 0, .inl .null), (8, 1, .aload_n 0, 0, 0, .inl .null), (9, 1, .aload_n 0, 0, 0, .inl .null), (10, 3, .invokevirtual 250, 184, 497, .inr (1, 0, 0)), (13, 1, .iconst 3, 0, 0, .inl (.int 3)), (14, 3, .invokevirtual 65, 132, 499, .inr (1, 0, 0)), (17, 3, .ifCond .eq 5, 22, 0, .inl .null), (20, 1, .iconst 0, 0, 0, .inl (.int 0)), (21, 1, .ireturn, 0, 0, .inl .null), (22, 1, .aload_n 0, 0, 0, .inl .null), (23, 3, .invokevirtual 247, 182, 497, .inr (1, 0, 0)), (26, 1, .istore_n 2, 2, 0, .inl .null), (27, 1, .iconst 0, 0, 0, .inl (.int 0)), (28, 1, .istore_n 3, 3, 0, .inl .null), (29, 1, .iload_n 3, 3, 0, .inl .null), (30, 1, .iload_n 2, 2, 0, .inl .null), (31, 3, .if_icmp .ge 19, 50, 0, .inl .null), (34, 1, .aload_n 0, 0, 0, .inl .null), (35, 3, .getfield 36, 31, 22, .inl .null), (38, 1, .iload_n 3, 3, 0, .inl .null), (39, 1, .iaload, 0, 0, .inl .null), (40, 1, .iload_n 3, 3, 0, .inl .null), (41, 3, .if_icmp .ne 9, 50, 0, .inl .null), (44, 3, .iinc 3 1, 3, 0, .inl (.int 1)), (47, 3, .goto (-18), 29, 0, .inl .null), (50, 1, .iload_n 1, 1, 0, .inl .null), (51, 1, .iload_n 3, 3, 0, .inl .null), (52, 3, .if_icmp .ne 7, 59, 0, .inl .null), (55, 1, .iconst 1, 0, 0, .inl (.int 1)), (56, 3, .goto 28, 84, 0, .inl .null), (59, 1, .iload_n 1, 1, 0, .inl .null), (60, 1, .iload_n 3, 3, 0, .inl .null), (61, 3, .if_icmp .ge 22, 83, 0, .inl .null), (64, 1, .aload_n 0, 0, 0, .inl .null), (65, 1, .aload_n 0, 0, 0, .inl .null), (66, 3, .getfield 33, 31, 20, .inl .null), (69, 2, .bipush 8, 0, 0, .inl (.int 8)), (71, 1, .iload_n 1, 1, 0, .inl .null), (72, 1, .imul, 0, 0, .inl .null), (73, 1, .iload_n 3, 3, 0, .inl .null), (74, 1, .iadd, 0, 0, .inl .null), (75, 1, .iaload, 0, 0, .inl .null), (76, 1, .ineg, 0, 0, .inl .null), (77, 3, .invokevirtual 218, 172, 498, .inr (1, 0, 0)), (80, 3, .goto 4, 84, 0, .inl .null), (83, 1, .iconst 0, 0, 0, .inl (.int 0)), (84, 1, .ireturn, 0, 0, .inl .null)]
def cd_X8_isSolvable : List gE := [(0, 1, .aload_n 0, 0, 0, .inl .null), (1, 3, .invokevirtual 192, 133, 497, .inr (1, 0, 0)), (4, 3, .ifCond .eq 5, 9, 0, .inl .null), (7, 1, .iconst 0, 0, 0, .inl (.int 0)), (8, 1, .ireturn, 0, 0, .inl .null), (9, 1, .aload_n 0, 0, 0, .inl .null), (10, 2, .bipush 15, 0, 0, .inl (.int 15)), (12, 3, .invokevirtual 286, 204, 498, .inr (1, 0, 0)), (15, 1, .istore_n 1, 1, 0, .inl .null), (16, 1, .iconst 1, 0, 0, .inl (.int 1)), (17, 1, .istore_n 2, 2, 0, .inl .null), (18, 1, .iload_n 1, 1, 0, .inl .null), (19, 1, .istore_n 3, 3, 0, .inl .null), (20, 1, .iload_n 3, 3, 0, .inl .null), (21, 1, .aload_n 0, 0, 0, .inl .null), (22, 3, .getfield 7, 31, 2, .inl .null), (25, 1, .iconst 0, 0, 0, .inl (.int 0)), (26, 1, .iaload, 0, 0, .inl .null), (27, 3, .if_icmp .ge 34, 61, 0, .inl .null), (30, 1, .iload_n 2, 2, 0, .inl .null), (31, 3, .ifCond .eq 22, 53, 0, .inl .null), (34, 1, .aload_n 0, 0, 0, .inl .null), (35, 3, .getfield 33, 31, 20, .inl .null), (38, 2, .bipush 8, 0, 0, .inl (.int 8)), (40, 1, .iload_n 3, 3, 0, .inl .null), (41, 1, .imul, 0, 0, .inl .null), (42, 2, .bipush 7, 0, 0, .inl (.int 7)), (44, 1, .iadd, 0, 0, .inl .null), (45, 1, .iaload, 0, 0, .inl .null), (46, 3, .ifCond .ne 7, 53, 0, .inl .null), (49, 1, .iconst 1, 0, 0, .inl (.int 1)), (50, 3, .goto 4, 54, 0, .inl .null), (53, 1, .iconst 0, 0, 0, .inl (.int 0)), (54, 1, .istore_n 2, 2, 0, .inl .null), (55, 3, .iinc 3 1, 3, 0, .inl (.int 1)), (58, 3, .goto (-38), 20, 0, .inl .null), (61, 1, .iload_n 2, 2, 0, .inl .null), (62, 1, .ireturn, 0, 0, .inl .null)]
def cd_X8_mostNow : List gE := [(0, 1, .iconst 0, 0, 0, .inl (.int 0)), (1, 1, .istore_n 1, 1, 0, .inl .null), (2, 1, .lconst 1, 0, 0, .inl (.long 1)), (3, 1, .lstore_n 2, 2, 0, .inl .null), (4, 1, .lload_n 2, 2, 0, .inl .null), (5, 1, .aload_n 0, 0, 0, .inl .null), (6, 3, .getfield 7, 31, 2, .inl .null), (9, 1, .iconst 1, 0, 0, .inl (.int 1)), (10, 1, .iaload, 0, 0, .inl .null), (11, 1, .i2l, 0, 0, .inl .null), (12, 1, .lmul, 0, 0, .inl .null), (13, 3, .ldc2_w 289, 0, 0, .inl (.long 1000000000000)), (16, 1, .lcmp, 0, 0, .inl .null), (17, 3, .ifCond .gt 19, 36, 0, .inl .null), (20, 1, .lload_n 2, 2, 0, .inl .null), (21, 1, .aload_n 0, 0, 0, .inl .null), (22, 3, .getfield 7, 31, 2, .inl .null), (25, 1, .iconst 1, 0, 0, .inl (.int 1)), (26, 1, .iaload, 0, 0, .inl .null), (27, 1, .i2l, 0, 0, .inl .null), (28, 1, .lmul, 0, 0, .inl .null), (29, 1, .lstore_n 2, 2, 0, .inl .null), (30, 3, .iinc 1 1, 1, 0, .inl (.int 1)), (33, 3, .goto (-29), 4, 0, .inl .null), (36, 1, .iload_n 1, 1, 0, .inl .null), (37, 1, .ireturn, 0, 0, .inl .null)]
def cd_X8_modulus : List gE := [(0, 1, .lconst 1, 0, 0, .inl (.long 1)), (1, 1, .lstore_n 1, 1, 0, .inl .null), (2, 1, .iconst 0, 0, 0, .inl (.int 0)), (3, 1, .istore_n 3, 3, 0, .inl .null), (4, 1, .iload_n 3, 3, 0, .inl .null), (5, 1, .aload_n 0, 0, 0, .inl .null), (6, 3, .getfield 7, 31, 2, .inl .null), (9, 2, .bipush 36, 0, 0, .inl (.int 36)), (11, 1, .iaload, 0, 0, .inl .null), (12, 3, .if_icmp .ge 19, 31, 0, .inl .null), (15, 1, .lload_n 1, 1, 0, .inl .null), (16, 1, .aload_n 0, 0, 0, .inl .null), (17, 3, .getfield 7, 31, 2, .inl .null), (20, 1, .iconst 1, 0, 0, .inl (.int 1)), (21, 1, .iaload, 0, 0, .inl .null), (22, 1, .i2l, 0, 0, .inl .null), (23, 1, .lmul, 0, 0, .inl .null), (24, 1, .lstore_n 1, 1, 0, .inl .null), (25, 3, .iinc 3 1, 3, 0, .inl (.int 1)), (28, 3, .goto (-24), 4, 0, .inl .null), (31, 1, .lload_n 1, 1, 0, .inl .null), (32, 1, .lreturn, 0, 0, .inl .null)]
def cd_X8_valueOf : List gE := [(0, 1, .lconst 0, 0, 0, .inl (.long 0)), (1, 1, .lstore_n 2, 2, 0, .inl .null), (2, 1, .aload_n 0, 0, 0, .inl .null), (3, 3, .getfield 7, 31, 2, .inl .null), (6, 2, .bipush 36, 0, 0, .inl (.int 36)), (8, 1, .iaload, 0, 0, .inl .null), (9, 1, .iconst 1, 0, 0, .inl (.int 1)), (10, 1, .isub, 0, 0, .inl .null), (11, 2, .istore 4, 4, 0, .inl .null), (13, 2, .iload 4, 4, 0, .inl .null), (15, 3, .ifCond .lt 36, 51, 0, .inl .null), (18, 1, .lload_n 2, 2, 0, .inl .null), (19, 1, .aload_n 0, 0, 0, .inl .null), (20, 3, .getfield 7, 31, 2, .inl .null), (23, 1, .iconst 1, 0, 0, .inl (.int 1)), (24, 1, .iaload, 0, 0, .inl .null), (25, 1, .i2l, 0, 0, .inl .null), (26, 1, .lmul, 0, 0, .inl .null), (27, 1, .aload_n 0, 0, 0, .inl .null), (28, 3, .getfield 7, 31, 2, .inl .null), (31, 2, .bipush 37, 0, 0, .inl (.int 37)), (33, 2, .bipush 7, 0, 0, .inl (.int 7)), (35, 2, .iload 4, 4, 0, .inl .null), (37, 1, .imul, 0, 0, .inl .null), (38, 1, .iadd, 0, 0, .inl .null), (39, 1, .iload_n 1, 1, 0, .inl .null), (40, 1, .iadd, 0, 0, .inl .null), (41, 1, .iaload, 0, 0, .inl .null), (42, 1, .i2l, 0, 0, .inl .null), (43, 1, .ladd, 0, 0, .inl .null), (44, 1, .lstore_n 2, 2, 0, .inl .null), (45, 3, .iinc 4 (-1), 4, 0, .inl (.int (-1))), (48, 3, .goto (-35), 13, 0, .inl .null), (51, 1, .lload_n 2, 2, 0, .inl .null), (52, 1, .lreturn, 0, 0, .inl .null)]
def cd_X8_digits : List gE := [(0, 1, .aload_n 0, 0, 0, .inl .null), (1, 3, .invokevirtual 192, 133, 497, .inr (1, 0, 0)), (4, 3, .ifCond .eq 7, 11, 0, .inl .null), (7, 1, .iconst 0, 0, 0, .inl (.int 0)), (8, 3, .goto 10, 18, 0, .inl .null), (11, 1, .aload_n 0, 0, 0, .inl .null), (12, 3, .getfield 7, 31, 2, .inl .null), (15, 2, .bipush 36, 0, 0, .inl (.int 36)), (17, 1, .iaload, 0, 0, .inl .null), (18, 1, .ireturn, 0, 0, .inl .null)]
def cd_X8_mostDigits : List gE := [(0, 1, .aload_n 0, 0, 0, .inl .null), (1, 3, .invokevirtual 192, 133, 497, .inr (1, 0, 0)), (4, 3, .ifCond .eq 7, 11, 0, .inl .null), (7, 1, .iconst 0, 0, 0, .inl (.int 0)), (8, 3, .goto 7, 15, 0, .inl .null), (11, 1, .aload_n 0, 0, 0, .inl .null), (12, 3, .invokevirtual 291, 210, 497, .inr (1, 0, 0)), (15, 1, .ireturn, 0, 0, .inl .null)]
def cd_X8_digit : List gE := [(0, 1, .aload_n 0, 0, 0, .inl .null), (1, 3, .invokevirtual 192, 133, 497, .inr (1, 0, 0)), (4, 3, .ifCond .ne 41, 45, 0, .inl .null), (7, 1, .aload_n 0, 0, 0, .inl .null), (8, 1, .iload_n 1, 1, 0, .inl .null), (9, 1, .iconst 0, 0, 0, .inl (.int 0)), (10, 1, .aload_n 0, 0, 0, .inl .null), (11, 3, .getfield 7, 31, 2, .inl .null), (14, 2, .bipush 36, 0, 0, .inl (.int 36)), (16, 1, .iaload, 0, 0, .inl .null), (17, 1, .iconst 1, 0, 0, .inl (.int 1)), (18, 1, .isub, 0, 0, .inl .null), (19, 3, .invokestatic 134, 131, 3, .inr (1, 0, 0)), (22, 3, .ifCond .eq 11, 33, 0, .inl .null), (25, 1, .aload_n 0, 0, 0, .inl .null), (26, 1, .iload_n 2, 2, 0, .inl .null), (27, 3, .invokevirtual 196, 158, 498, .inr (1, 0, 0)), (30, 3, .ifCond .ne 7, 37, 0, .inl .null), (33, 1, .iconst 1, 0, 0, .inl (.int 1)), (34, 3, .goto 4, 38, 0, .inl .null), (37, 1, .iconst 0, 0, 0, .inl (.int 0)), (38, 1, .iconst 2, 0, 0, .inl (.int 2)), (39, 3, .invokevirtual 65, 132, 499, .inr (1, 0, 0)), (42, 3, .ifCond .eq 7, 49, 0, .inl .null), (45, 1, .iconst 0, 0, 0, .inl (.int 0)), (46, 3, .goto 17, 63, 0, .inl .null), (49, 1, .aload_n 0, 0, 0, .inl .null), (50, 3, .getfield 7, 31, 2, .inl .null), (53, 2, .bipush 37, 0, 0, .inl (.int 37)), (55, 2, .bipush 7, 0, 0, .inl (.int 7)), (57, 1, .iload_n 1, 1, 0, .inl .null), (58, 1, .imul, 0, 0, .inl .null), (59, 1, .iadd, 0, 0, .inl .null), (60, 1, .iload_n 2, 2, 0, .inl .null), (61, 1, .iadd, 0, 0, .inl .null), (62, 1, .iaload, 0, 0, .inl .null), (63, 1, .ireturn, 0, 0, .inl .null)]
def cd_X8_residual : List gE := [(0, 1, .aload_n 0, 0, 0, .inl .null), (1, 1, .iload_n 1, 1, 0, .inl .null), (2, 3, .invokevirtual 199, 160, 498, .inr (1, 0, 0)), (5, 3, .ifCond .eq 7, 12, 0, .inl .null), (8, 1, .iconst 0, 0, 0, .inl (.int 0)), (9, 3, .goto 12, 21, 0, .inl .null), (12, 1, .aload_n 0, 0, 0, .inl .null), (13, 3, .getfield 7, 31, 2, .inl .null), (16, 2, .bipush 29, 0, 0, .inl (.int 29)), (18, 1, .iload_n 1, 1, 0, .inl .null), (19, 1, .iadd, 0, 0, .inl .null), (20, 1, .iaload, 0, 0, .inl .null), (21, 1, .ireturn, 0, 0, .inl .null)]
def cd_X8_value : List gE := [(0, 1, .aload_n 0, 0, 0, .inl .null), (1, 1, .iload_n 1, 1, 0, .inl .null), (2, 3, .invokevirtual 199, 160, 498, .inr (1, 0, 0)), (5, 3, .ifCond .eq 7, 12, 0, .inl .null), (8, 1, .lconst 0, 0, 0, .inl (.long 0)), (9, 3, .goto 8, 17, 0, .inl .null), (12, 1, .aload_n 0, 0, 0, .inl .null), (13, 1, .iload_n 1, 1, 0, .inl .null), (14, 3, .invokevirtual 294, 212, 498, .inr (2, 0, 0)), (17, 1, .lreturn, 0, 0, .inl .null)]
def cd_X8_centred : List gE := [(0, 1, .aload_n 0, 0, 0, .inl .null), (1, 1, .iload_n 1, 1, 0, .inl .null), (2, 3, .invokevirtual 199, 160, 498, .inr (1, 0, 0)), (5, 3, .ifCond .eq 5, 10, 0, .inl .null), (8, 1, .lconst 0, 0, 0, .inl (.long 0)), (9, 1, .lreturn, 0, 0, .inl .null), (10, 1, .aload_n 0, 0, 0, .inl .null), (11, 1, .iload_n 1, 1, 0, .inl .null), (12, 3, .invokevirtual 294, 212, 498, .inr (2, 0, 0)), (15, 1, .lstore_n 2, 2, 0, .inl .null), (16, 3, .ldc2_w 298, 0, 0, .inl (.long 2)), (19, 1, .lload_n 2, 2, 0, .inl .null), (20, 1, .lmul, 0, 0, .inl .null), (21, 1, .aload_n 0, 0, 0, .inl .null), (22, 3, .invokevirtual 300, 211, 497, .inr (2, 0, 0)), (25, 1, .lcmp, 0, 0, .inl .null), (26, 3, .ifCond .le 12, 38, 0, .inl .null), (29, 1, .lload_n 2, 2, 0, .inl .null), (30, 1, .aload_n 0, 0, 0, .inl .null), (31, 3, .invokevirtual 300, 211, 497, .inr (2, 0, 0)), (34, 1, .lsub, 0, 0, .inl .null), (35, 3, .goto 4, 39, 0, .inl .null), (38, 1, .lload_n 2, 2, 0, .inl .null), (39, 1, .lreturn, 0, 0, .inl .null)]
def cd_X8_isWide : List gE := [(0, 1, .lload_n 0, 0, 0, .inl .null), (1, 1, .lconst 0, 0, 0, .inl (.long 0)), (2, 1, .lcmp, 0, 0, .inl .null), (3, 3, .ifCond .le 19, 22, 0, .inl .null), (6, 3, .ldc2_w 298, 0, 0, .inl (.long 2)), (9, 1, .lload_n 0, 0, 0, .inl .null), (10, 1, .lmul, 0, 0, .inl .null), (11, 1, .lload_n 2, 2, 0, .inl .null), (12, 1, .lload_n 0, 0, 0, .inl .null), (13, 1, .ldiv, 0, 0, .inl .null), (14, 1, .lcmp, 0, 0, .inl .null), (15, 3, .ifCond .le 7, 22, 0, .inl .null), (18, 1, .iconst 1, 0, 0, .inl (.int 1)), (19, 3, .goto 4, 23, 0, .inl .null), (22, 1, .iconst 0, 0, 0, .inl (.int 0)), (23, 1, .ireturn, 0, 0, .inl .null)]
def cd_X8_common : List gE := [(0, 1, .lload_n 0, 0, 0, .inl .null), (1, 2, .lstore 4, 4, 0, .inl .null), (3, 1, .lload_n 2, 2, 0, .inl .null), (4, 2, .lstore 6, 6, 0, .inl .null), (6, 2, .lload 6, 6, 0, .inl .null), (8, 1, .lconst 0, 0, 0, .inl (.long 0)), (9, 1, .lcmp, 0, 0, .inl .null), (10, 3, .ifCond .eq 21, 31, 0, .inl .null), (13, 2, .lload 4, 4, 0, .inl .null), (15, 2, .lload 6, 6, 0, .inl .null), (17, 1, .lrem, 0, 0, .inl .null), (18, 2, .lstore 8, 8, 0, .inl .null), (20, 2, .lload 6, 6, 0, .inl .null), (22, 2, .lstore 4, 4, 0, .inl .null), (24, 2, .lload 8, 8, 0, .inl .null), (26, 2, .lstore 6, 6, 0, .inl .null), (28, 3, .goto (-22), 6, 0, .inl .null), (31, 2, .lload 4, 4, 0, .inl .null), (33, 1, .lreturn, 0, 0, .inl .null)]
def cd_X8_findsFraction : List gE := [(0, 1, .aload_n 0, 0, 0, .inl .null), (1, 3, .getfield 7, 31, 2, .inl .null), (4, 2, .bipush 36, 0, 0, .inl (.int 36)), (6, 1, .iaload, 0, 0, .inl .null), (7, 3, .ifCond .ne 5, 12, 0, .inl .null), (10, 1, .iconst 0, 0, 0, .inl (.int 0)), (11, 1, .ireturn, 0, 0, .inl .null), (12, 1, .aload_n 0, 0, 0, .inl .null), (13, 3, .invokevirtual 300, 211, 497, .inr (2, 0, 0)), (16, 1, .lstore_n 2, 2, 0, .inl .null), (17, 1, .lload_n 2, 2, 0, .inl .null), (18, 2, .lstore 4, 4, 0, .inl .null), (20, 1, .aload_n 0, 0, 0, .inl .null), (21, 1, .iload_n 1, 1, 0, .inl .null), (22, 3, .invokevirtual 294, 212, 498, .inr (2, 0, 0)), (25, 2, .lstore 6, 6, 0, .inl .null), (27, 1, .lconst 0, 0, 0, .inl (.long 0)), (28, 2, .lstore 8, 8, 0, .inl .null), (30, 1, .lconst 1, 0, 0, .inl (.long 1)), (31, 2, .lstore 10, 10, 0, .inl .null), (33, 2, .lload 6, 6, 0, .inl .null), (35, 1, .lload_n 2, 2, 0, .inl .null), (36, 3, .invokestatic 304, 219, 2, .inr (1, 0, 0)), (39, 3, .ifCond .eq 49, 88, 0, .inl .null), (42, 2, .lload 4, 4, 0, .inl .null), (44, 2, .lload 6, 6, 0, .inl .null), (46, 1, .ldiv, 0, 0, .inl .null), (47, 2, .lstore 12, 12, 0, .inl .null), (49, 2, .lload 4, 4, 0, .inl .null), (51, 2, .lload 12, 12, 0, .inl .null), (53, 2, .lload 6, 6, 0, .inl .null), (55, 1, .lmul, 0, 0, .inl .null), (56, 1, .lsub, 0, 0, .inl .null), (57, 2, .lstore 14, 14, 0, .inl .null), (59, 2, .lload 8, 8, 0, .inl .null), (61, 2, .lload 12, 12, 0, .inl .null), (63, 2, .lload 10, 10, 0, .inl .null), (65, 1, .lmul, 0, 0, .inl .null), (66, 1, .lsub, 0, 0, .inl .null), (67, 2, .lstore 16, 16, 0, .inl .null), (69, 2, .lload 6, 6, 0, .inl .null), (71, 2, .lstore 4, 4, 0, .inl .null), (73, 2, .lload 14, 14, 0, .inl .null), (75, 2, .lstore 6, 6, 0, .inl .null), (77, 2, .lload 10, 10, 0, .inl .null), (79, 2, .lstore 8, 8, 0, .inl .null), (81, 2, .lload 16, 16, 0, .inl .null), (83, 2, .lstore 10, 10, 0, .inl .null), (85, 3, .goto (-52), 33, 0, .inl .null), (88, 2, .lload 10, 10, 0, .inl .null), (90, 1, .lconst 0, 0, 0, .inl (.long 0)), (91, 1, .lcmp, 0, 0, .inl .null), (92, 3, .ifCond .eq 30, 122, 0, .inl .null), (95, 2, .lload 10, 10, 0, .inl .null), (97, 3, .invokestatic 308, 306, 1, .inr (2, 0, 0)), (100, 1, .lload_n 2, 2, 0, .inl .null), (101, 3, .invokestatic 304, 219, 2, .inr (1, 0, 0)), (104, 3, .ifCond .ne 18, 122, 0, .inl .null), (107, 2, .lload 10, 10, 0, .inl .null), (109, 1, .aload_n 0, 0, 0, .inl .null), (110, 3, .getfield 7, 31, 2, .inl .null), (113, 1, .iconst 1, 0, 0, .inl (.int 1)), (114, 1, .iaload, 0, 0, .inl .null), (115, 1, .i2l, 0, 0, .inl .null), (116, 1, .lrem, 0, 0, .inl .null), (117, 1, .lconst 0, 0, 0, .inl (.long 0)), (118, 1, .lcmp, 0, 0, .inl .null), (119, 3, .ifCond .ne 5, 124, 0, .inl .null), (122, 1, .iconst 0, 0, 0, .inl (.int 0)), (123, 1, .ireturn, 0, 0, .inl .null), (124, 2, .lload 10, 10, 0, .inl .null), (126, 3, .invokestatic 308, 306, 1, .inr (2, 0, 0)), (129, 2, .lload 6, 6, 0, .inl .null), (131, 3, .invokestatic 312, 220, 2, .inr (2, 0, 0)), (134, 2, .lstore 12, 12, 0, .inl .null), (136, 1, .aload_n 0, 0, 0, .inl .null), (137, 2, .lload 10, 10, 0, .inl .null), (139, 1, .lconst 0, 0, 0, .inl (.long 0)), (140, 1, .lcmp, 0, 0, .inl .null), (141, 3, .ifCond .ge 9, 150, 0, .inl .null), (144, 2, .lload 6, 6, 0, .inl .null), (146, 1, .lneg, 0, 0, .inl .null), (147, 3, .goto 5, 152, 0, .inl .null), (150, 2, .lload 6, 6, 0, .inl .null), (152, 2, .lload 12, 12, 0, .inl .null), (154, 1, .ldiv, 0, 0, .inl .null), (155, 3, .putfield 316, 31, 28, .inl .null), (158, 1, .aload_n 0, 0, 0, .inl .null), (159, 2, .lload 10, 10, 0, .inl .null), (161, 3, .invokestatic 308, 306, 1, .inr (2, 0, 0)), (164, 2, .lload 12, 12, 0, .inl .null), (166, 1, .ldiv, 0, 0, .inl .null), (167, 3, .putfield 320, 31, 29, .inl .null), (170, 1, .iconst 1, 0, 0, .inl (.int 1)), (171, 1, .ireturn, 0, 0, .inl .null)]
def cd_X8_numerator : List gE := [(0, 1, .aload_n 0, 0, 0, .inl .null), (1, 1, .iload_n 1, 1, 0, .inl .null), (2, 3, .invokevirtual 199, 160, 498, .inr (1, 0, 0)), (5, 3, .ifCond .ne 24, 29, 0, .inl .null), (8, 1, .aload_n 0, 0, 0, .inl .null), (9, 1, .aload_n 0, 0, 0, .inl .null), (10, 1, .iload_n 1, 1, 0, .inl .null), (11, 3, .invokevirtual 323, 221, 498, .inr (1, 0, 0)), (14, 3, .ifCond .ne 7, 21, 0, .inl .null), (17, 1, .iconst 1, 0, 0, .inl (.int 1)), (18, 3, .goto 4, 22, 0, .inl .null), (21, 1, .iconst 0, 0, 0, .inl (.int 0)), (22, 1, .iconst 3, 0, 0, .inl (.int 3)), (23, 3, .invokevirtual 65, 132, 499, .inr (1, 0, 0)), (26, 3, .ifCond .eq 7, 33, 0, .inl .null), (29, 1, .iconst 0, 0, 0, .inl (.int 0)), (30, 3, .goto 8, 38, 0, .inl .null), (33, 1, .aload_n 0, 0, 0, .inl .null), (34, 3, .getfield 316, 31, 28, .inl .null), (37, 1, .l2i, 0, 0, .inl .null), (38, 1, .ireturn, 0, 0, .inl .null)]
def cd_X8_denominator : List gE := [(0, 1, .aload_n 0, 0, 0, .inl .null), (1, 1, .iload_n 1, 1, 0, .inl .null), (2, 3, .invokevirtual 199, 160, 498, .inr (1, 0, 0)), (5, 3, .ifCond .ne 11, 16, 0, .inl .null), (8, 1, .aload_n 0, 0, 0, .inl .null), (9, 1, .iload_n 1, 1, 0, .inl .null), (10, 3, .invokevirtual 323, 221, 498, .inr (1, 0, 0)), (13, 3, .ifCond .ne 7, 20, 0, .inl .null), (16, 1, .iconst 0, 0, 0, .inl (.int 0)), (17, 3, .goto 8, 25, 0, .inl .null), (20, 1, .aload_n 0, 0, 0, .inl .null), (21, 3, .getfield 320, 31, 29, .inl .null), (24, 1, .l2i, 0, 0, .inl .null), (25, 1, .ireturn, 0, 0, .inl .null)]
def cd_X8_quotient : List gE := [(0, 1, .aload_n 0, 0, 0, .inl .null), (1, 1, .iload_n 1, 1, 0, .inl .null), (2, 3, .invokevirtual 199, 160, 498, .inr (1, 0, 0)), (5, 3, .ifCond .ne 24, 29, 0, .inl .null), (8, 1, .aload_n 0, 0, 0, .inl .null), (9, 1, .aload_n 0, 0, 0, .inl .null), (10, 1, .iload_n 1, 1, 0, .inl .null), (11, 3, .invokevirtual 323, 221, 498, .inr (1, 0, 0)), (14, 3, .ifCond .ne 7, 21, 0, .inl .null), (17, 1, .iconst 1, 0, 0, .inl (.int 1)), (18, 3, .goto 4, 22, 0, .inl .null), (21, 1, .iconst 0, 0, 0, .inl (.int 0)), (22, 1, .iconst 3, 0, 0, .inl (.int 3)), (23, 3, .invokevirtual 65, 132, 499, .inr (1, 0, 0)), (26, 3, .ifCond .eq 7, 33, 0, .inl .null), (29, 1, .dconst 0, 0, 0, .inl (.double FP.dconst0)), (30, 3, .goto 14, 44, 0, .inl .null), (33, 1, .aload_n 0, 0, 0, .inl .null), (34, 3, .getfield 316, 31, 28, .inl .null), (37, 1, .l2d, 0, 0, .inl .null), (38, 1, .aload_n 0, 0, 0, .inl .null), (39, 3, .getfield 320, 31, 29, .inl .null), (42, 1, .l2d, 0, 0, .inl .null), (43, 1, .ddiv, 0, 0, .inl .null), (44, 1, .dreturn, 0, 0, .inl .null)]
def cd_X8_isExactNow : List gE := [(0, 1, .lconst 1, 0, 0, .inl (.long 1)), (1, 1, .lstore_n 1, 1, 0, .inl .null), (2, 1, .iconst 0, 0, 0, .inl (.int 0)), (3, 1, .istore_n 3, 3, 0, .inl .null), (4, 1, .iload_n 3, 3, 0, .inl .null), (5, 1, .aload_n 0, 0, 0, .inl .null), (6, 3, .getfield 7, 31, 2, .inl .null), (9, 1, .iconst 0, 0, 0, .inl (.int 0)), (10, 1, .iaload, 0, 0, .inl .null), (11, 3, .if_icmp .ge 65, 76, 0, .inl .null), (14, 1, .aload_n 0, 0, 0, .inl .null), (15, 1, .iload_n 3, 3, 0, .inl .null), (16, 3, .invokevirtual 323, 221, 498, .inr (1, 0, 0)), (19, 3, .ifCond .ne 5, 24, 0, .inl .null), (22, 1, .iconst 0, 0, 0, .inl (.int 0)), (23, 1, .ireturn, 0, 0, .inl .null), (24, 1, .aload_n 0, 0, 0, .inl .null), (25, 3, .getfield 51, 31, 30, .inl .null), (28, 1, .iload_n 3, 3, 0, .inl .null), (29, 1, .aload_n 0, 0, 0, .inl .null), (30, 3, .getfield 316, 31, 28, .inl .null), (33, 1, .lastore, 0, 0, .inl .null), (34, 1, .aload_n 0, 0, 0, .inl .null), (35, 3, .getfield 55, 31, 31, .inl .null), (38, 1, .iload_n 3, 3, 0, .inl .null), (39, 1, .aload_n 0, 0, 0, .inl .null), (40, 3, .getfield 320, 31, 29, .inl .null), (43, 1, .lastore, 0, 0, .inl .null), (44, 1, .lload_n 1, 1, 0, .inl .null), (45, 1, .lload_n 1, 1, 0, .inl .null), (46, 1, .aload_n 0, 0, 0, .inl .null), (47, 3, .getfield 320, 31, 29, .inl .null), (50, 3, .invokestatic 312, 220, 2, .inr (2, 0, 0)), (53, 1, .ldiv, 0, 0, .inl .null), (54, 1, .aload_n 0, 0, 0, .inl .null), (55, 3, .getfield 320, 31, 29, .inl .null), (58, 1, .lmul, 0, 0, .inl .null), (59, 1, .lstore_n 1, 1, 0, .inl .null), (60, 1, .lload_n 1, 1, 0, .inl .null), (61, 3, .ldc2_w 326, 0, 0, .inl (.long 1000000000)), (64, 1, .lcmp, 0, 0, .inl .null), (65, 3, .ifCond .le 5, 70, 0, .inl .null), (68, 1, .iconst 0, 0, 0, .inl (.int 0)), (69, 1, .ireturn, 0, 0, .inl .null), (70, 3, .iinc 3 1, 3, 0, .inl (.int 1)), (73, 3, .goto (-69), 4, 0, .inl .null), (76, 1, .iconst 0, 0, 0, .inl (.int 0)), (77, 1, .istore_n 3, 3, 0, .inl .null), (78, 1, .iload_n 3, 3, 0, .inl .null), (79, 1, .aload_n 0, 0, 0, .inl .null), (80, 3, .getfield 7, 31, 2, .inl .null), (83, 1, .iconst 0, 0, 0, .inl (.int 0)), (84, 1, .iaload, 0, 0, .inl .null), (85, 3, .if_icmp .ge 83, 168, 0, .inl .null), (88, 1, .lconst 0, 0, 0, .inl (.long 0)), (89, 2, .lstore 4, 4, 0, .inl .null), (91, 1, .iconst 0, 0, 0, .inl (.int 0)), (92, 2, .istore 6, 6, 0, .inl .null), (94, 2, .iload 6, 6, 0, .inl .null), (96, 1, .aload_n 0, 0, 0, .inl .null), (97, 3, .getfield 7, 31, 2, .inl .null), (100, 1, .iconst 0, 0, 0, .inl (.int 0)), (101, 1, .iaload, 0, 0, .inl .null), (102, 3, .if_icmp .ge 40, 142, 0, .inl .null), (105, 2, .lload 4, 4, 0, .inl .null), (107, 1, .aload_n 0, 0, 0, .inl .null), (108, 1, .iload_n 3, 3, 0, .inl .null), (109, 2, .iload 6, 6, 0, .inl .null), (111, 3, .invokevirtual 212, 167, 499, .inr (1, 0, 0)), (114, 1, .i2l, 0, 0, .inl .null), (115, 1, .aload_n 0, 0, 0, .inl .null), (116, 3, .getfield 51, 31, 30, .inl .null), (119, 2, .iload 6, 6, 0, .inl .null), (121, 1, .laload, 0, 0, .inl .null), (122, 1, .lmul, 0, 0, .inl .null), (123, 1, .lload_n 1, 1, 0, .inl .null), (124, 1, .aload_n 0, 0, 0, .inl .null), (125, 3, .getfield 55, 31, 31, .inl .null), (128, 2, .iload 6, 6, 0, .inl .null), (130, 1, .laload, 0, 0, .inl .null), (131, 1, .ldiv, 0, 0, .inl .null), (132, 1, .lmul, 0, 0, .inl .null), (133, 1, .ladd, 0, 0, .inl .null), (134, 2, .lstore 4, 4, 0, .inl .null), (136, 3, .iinc 6 1, 6, 0, .inl (.int 1)), (139, 3, .goto (-45), 94, 0, .inl .null), (142, 2, .lload 4, 4, 0, .inl .null), (144, 1, .aload_n 0, 0, 0, .inl .null), (145, 3, .getfield 7, 31, 2, .inl .null), (148, 2, .bipush 15, 0, 0, .inl (.int 15)), (150, 1, .iload_n 3, 3, 0, .inl .null), (151, 1, .iadd, 0, 0, .inl .null), (152, 1, .iaload, 0, 0, .inl .null), (153, 1, .i2l, 0, 0, .inl .null), (154, 1, .lload_n 1, 1, 0, .inl .null), (155, 1, .lmul, 0, 0, .inl .null), (156, 1, .lcmp, 0, 0, .inl .null), (157, 3, .ifCond .eq 5, 162, 0, .inl .null), (160, 1, .iconst 0, 0, 0, .inl (.int 0)), (161, 1, .ireturn, 0, 0, .inl .null), (162, 3, .iinc 3 1, 3, 0, .inl (.int 1)), (165, 3, .goto (-87), 78, 0, .inl .null), (168, 1, .iconst 1, 0, 0, .inl (.int 1)), (169, 1, .ireturn, 0, 0, .inl .null)]
def cd_X8_isExact : List gE := [(0, 1, .aload_n 0, 0, 0, .inl .null), (1, 3, .invokevirtual 192, 133, 497, .inr (1, 0, 0)), (4, 3, .ifCond .ne 14, 18, 0, .inl .null), (7, 1, .aload_n 0, 0, 0, .inl .null), (8, 3, .invokevirtual 328, 225, 497, .inr (1, 0, 0)), (11, 3, .ifCond .eq 7, 18, 0, .inl .null), (14, 1, .iconst 1, 0, 0, .inl (.int 1)), (15, 3, .goto 4, 19, 0, .inl .null), (18, 1, .iconst 0, 0, 0, .inl (.int 0)), (19, 1, .ireturn, 0, 0, .inl .null)]
def cd_X8_canLift : List gE := [(0, 1, .aload_n 0, 0, 0, .inl .null), (1, 3, .getfield 7, 31, 2, .inl .null), (4, 2, .bipush 36, 0, 0, .inl (.int 36)), (6, 1, .iaload, 0, 0, .inl .null), (7, 1, .aload_n 0, 0, 0, .inl .null), (8, 3, .invokevirtual 291, 210, 497, .inr (1, 0, 0)), (11, 3, .if_icmp .ge 14, 25, 0, .inl .null), (14, 1, .aload_n 0, 0, 0, .inl .null), (15, 3, .invokevirtual 250, 184, 497, .inr (1, 0, 0)), (18, 3, .ifCond .eq 7, 25, 0, .inl .null), (21, 1, .iconst 1, 0, 0, .inl (.int 1)), (22, 3, .goto 4, 26, 0, .inl .null), (25, 1, .iconst 0, 0, 0, .inl (.int 0)), (26, 1, .ireturn, 0, 0, .inl .null)]
def cd_X8_lifts : List gE := [(0, 1, .aload_n 0, 0, 0, .inl .null), (1, 2, .bipush 29, 0, 0, .inl (.int 29)), (3, 3, .invokevirtual 286, 204, 498, .inr (1, 0, 0)), (6, 1, .istore_n 1, 1, 0, .inl .null), (7, 2, .bipush 37, 0, 0, .inl (.int 37)), (9, 2, .bipush 7, 0, 0, .inl (.int 7)), (11, 1, .aload_n 0, 0, 0, .inl .null), (12, 3, .getfield 7, 31, 2, .inl .null), (15, 2, .bipush 36, 0, 0, .inl (.int 36)), (17, 1, .iaload, 0, 0, .inl .null), (18, 1, .imul, 0, 0, .inl .null), (19, 1, .iadd, 0, 0, .inl .null), (20, 1, .istore_n 2, 2, 0, .inl .null), (21, 1, .iconst 0, 0, 0, .inl (.int 0)), (22, 1, .istore_n 3, 3, 0, .inl .null), (23, 1, .iload_n 3, 3, 0, .inl .null), (24, 1, .aload_n 0, 0, 0, .inl .null), (25, 3, .getfield 7, 31, 2, .inl .null), (28, 1, .iconst 0, 0, 0, .inl (.int 0)), (29, 1, .iaload, 0, 0, .inl .null), (30, 3, .if_icmp .ge 29, 59, 0, .inl .null), (33, 1, .aload_n 0, 0, 0, .inl .null), (34, 3, .getfield 7, 31, 2, .inl .null), (37, 1, .iload_n 2, 2, 0, .inl .null), (38, 1, .iload_n 3, 3, 0, .inl .null), (39, 1, .iadd, 0, 0, .inl .null), (40, 1, .aload_n 0, 0, 0, .inl .null), (41, 3, .getfield 33, 31, 20, .inl .null), (44, 2, .bipush 8, 0, 0, .inl (.int 8)), (46, 1, .iload_n 3, 3, 0, .inl .null), (47, 1, .imul, 0, 0, .inl .null), (48, 2, .bipush 7, 0, 0, .inl (.int 7)), (50, 1, .iadd, 0, 0, .inl .null), (51, 1, .iaload, 0, 0, .inl .null), (52, 1, .iastore, 0, 0, .inl .null), (53, 3, .iinc 3 1, 3, 0, .inl (.int 1)), (56, 3, .goto (-33), 23, 0, .inl .null), (59, 1, .iconst 0, 0, 0, .inl (.int 0)), (60, 1, .istore_n 3, 3, 0, .inl .null), (61, 1, .iload_n 3, 3, 0, .inl .null), (62, 1, .aload_n 0, 0, 0, .inl .null), (63, 3, .getfield 7, 31, 2, .inl .null), (66, 1, .iconst 0, 0, 0, .inl (.int 0)), (67, 1, .iaload, 0, 0, .inl .null), (68, 3, .if_icmp .ge 80, 148, 0, .inl .null), (71, 1, .aload_n 0, 0, 0, .inl .null), (72, 3, .getfield 7, 31, 2, .inl .null), (75, 2, .bipush 29, 0, 0, .inl (.int 29)), (77, 1, .iload_n 3, 3, 0, .inl .null), (78, 1, .iadd, 0, 0, .inl .null), (79, 1, .iaload, 0, 0, .inl .null), (80, 2, .istore 4, 4, 0, .inl .null), (82, 1, .iconst 0, 0, 0, .inl (.int 0)), (83, 2, .istore 5, 5, 0, .inl .null), (85, 2, .iload 5, 5, 0, .inl .null), (87, 1, .aload_n 0, 0, 0, .inl .null), (88, 3, .getfield 7, 31, 2, .inl .null), (91, 1, .iconst 0, 0, 0, .inl (.int 0)), (92, 1, .iaload, 0, 0, .inl .null), (93, 3, .if_icmp .ge 31, 124, 0, .inl .null), (96, 2, .iload 4, 4, 0, .inl .null), (98, 1, .aload_n 0, 0, 0, .inl .null), (99, 1, .iload_n 3, 3, 0, .inl .null), (100, 2, .iload 5, 5, 0, .inl .null), (102, 3, .invokevirtual 212, 167, 499, .inr (1, 0, 0)), (105, 1, .aload_n 0, 0, 0, .inl .null), (106, 3, .getfield 7, 31, 2, .inl .null), (109, 1, .iload_n 2, 2, 0, .inl .null), (110, 2, .iload 5, 5, 0, .inl .null), (112, 1, .iadd, 0, 0, .inl .null), (113, 1, .iaload, 0, 0, .inl .null), (114, 1, .imul, 0, 0, .inl .null), (115, 1, .isub, 0, 0, .inl .null), (116, 2, .istore 4, 4, 0, .inl .null), (118, 3, .iinc 5 1, 5, 0, .inl (.int 1)), (121, 3, .goto (-36), 85, 0, .inl .null), (124, 1, .aload_n 0, 0, 0, .inl .null), (125, 3, .getfield 7, 31, 2, .inl .null), (128, 2, .bipush 29, 0, 0, .inl (.int 29)), (130, 1, .iload_n 3, 3, 0, .inl .null), (131, 1, .iadd, 0, 0, .inl .null), (132, 2, .iload 4, 4, 0, .inl .null), (134, 1, .aload_n 0, 0, 0, .inl .null), (135, 3, .getfield 7, 31, 2, .inl .null), (138, 1, .iconst 1, 0, 0, .inl (.int 1)), (139, 1, .iaload, 0, 0, .inl .null), (140, 1, .idiv, 0, 0, .inl .null), (141, 1, .iastore, 0, 0, .inl .null), (142, 3, .iinc 3 1, 3, 0, .inl (.int 1)), (145, 3, .goto (-84), 61, 0, .inl .null), (148, 1, .aload_n 0, 0, 0, .inl .null), (149, 3, .getfield 7, 31, 2, .inl .null), (152, 2, .bipush 36, 0, 0, .inl (.int 36)), (154, 1, .dup2, 0, 0, .inl .null), (155, 1, .iaload, 0, 0, .inl .null), (156, 1, .iconst 1, 0, 0, .inl (.int 1)), (157, 1, .iadd, 0, 0, .inl .null), (158, 1, .iastore, 0, 0, .inl .null), (159, 1, .return_, 0, 0, .inl .null)]
def cd_X8_books : List gE := [(0, 1, .aload_n 0, 0, 0, .inl .null), (1, 3, .getfield 7, 31, 2, .inl .null), (4, 3, .sipush 317, 0, 0, .inl (.int 317)), (7, 1, .iaload, 0, 0, .inl .null), (8, 2, .bipush 30, 0, 0, .inl (.int 30)), (10, 3, .if_icmp .ne 4, 14, 0, .inl .null), (13, 1, .return_, 0, 0, .inl .null), (14, 1, .iconst 0, 0, 0, .inl (.int 0)), (15, 1, .istore_n 1, 1, 0, .inl .null), (16, 1, .iconst 0, 0, 0, .inl (.int 0)), (17, 1, .istore_n 2, 2, 0, .inl .null), (18, 1, .iload_n 2, 2, 0, .inl .null), (19, 1, .aload_n 0, 0, 0, .inl .null), (20, 3, .getfield 7, 31, 2, .inl .null), (23, 1, .iconst 0, 0, 0, .inl (.int 0)), (24, 1, .iaload, 0, 0, .inl .null), (25, 3, .if_icmp .ge 26, 51, 0, .inl .null), (28, 1, .iload_n 1, 1, 0, .inl .null), (29, 1, .aload_n 0, 0, 0, .inl .null), (30, 3, .getfield 7, 31, 2, .inl .null), (33, 2, .bipush 29, 0, 0, .inl (.int 29)), (35, 1, .iload_n 2, 2, 0, .inl .null), (36, 1, .iadd, 0, 0, .inl .null), (37, 1, .iaload, 0, 0, .inl .null), (38, 3, .invokestatic 331, 305, 1, .inr (1, 0, 0)), (41, 3, .invokestatic 262, 307, 2, .inr (1, 0, 0)), (44, 1, .istore_n 1, 1, 0, .inl .null), (45, 3, .iinc 2 1, 2, 0, .inl (.int 1)), (48, 3, .goto (-30), 18, 0, .inl .null), (51, 3, .sipush 318, 0, 0, .inl (.int 318)), (54, 1, .iconst 3, 0, 0, .inl (.int 3)), (55, 1, .aload_n 0, 0, 0, .inl .null), (56, 3, .getfield 7, 31, 2, .inl .null), (59, 3, .sipush 317, 0, 0, .inl (.int 317)), (62, 1, .iaload, 0, 0, .inl .null), (63, 1, .imul, 0, 0, .inl .null), (64, 1, .iadd, 0, 0, .inl .null), (65, 1, .istore_n 2, 2, 0, .inl .null), (66, 1, .aload_n 0, 0, 0, .inl .null), (67, 3, .getfield 7, 31, 2, .inl .null), (70, 1, .iload_n 2, 2, 0, .inl .null), (71, 1, .aload_n 0, 0, 0, .inl .null), (72, 3, .getfield 7, 31, 2, .inl .null), (75, 2, .bipush 36, 0, 0, .inl (.int 36)), (77, 1, .iaload, 0, 0, .inl .null), (78, 1, .iastore, 0, 0, .inl .null), (79, 1, .aload_n 0, 0, 0, .inl .null), (80, 3, .getfield 7, 31, 2, .inl .null), (83, 1, .iload_n 2, 2, 0, .inl .null), (84, 1, .iconst 1, 0, 0, .inl (.int 1)), (85, 1, .iadd, 0, 0, .inl .null), (86, 1, .iload_n 1, 1, 0, .inl .null), (87, 1, .iastore, 0, 0, .inl .null), (88, 1, .aload_n 0, 0, 0, .inl .null), (89, 3, .getfield 7, 31, 2, .inl .null), (92, 1, .iload_n 2, 2, 0, .inl .null), (93, 1, .iconst 2, 0, 0, .inl (.int 2)), (94, 1, .iadd, 0, 0, .inl .null), (95, 1, .aload_n 0, 0, 0, .inl .null), (96, 3, .invokevirtual 328, 225, 497, .inr (1, 0, 0)), (99, 3, .ifCond .eq 7, 106, 0, .inl .null), (102, 1, .iconst 1, 0, 0, .inl (.int 1)), (103, 3, .goto 4, 107, 0, .inl .null), (106, 1, .iconst 0, 0, 0, .inl (.int 0)), (107, 1, .iastore, 0, 0, .inl .null), (108, 1, .aload_n 0, 0, 0, .inl .null), (109, 3, .getfield 7, 31, 2, .inl .null), (112, 3, .sipush 317, 0, 0, .inl (.int 317)), (115, 1, .dup2, 0, 0, .inl .null), (116, 1, .iaload, 0, 0, .inl .null), (117, 1, .iconst 1, 0, 0, .inl (.int 1)), (118, 1, .iadd, 0, 0, .inl .null), (119, 1, .iastore, 0, 0, .inl .null), (120, 1, .return_, 0, 0, .inl .null)]
def cd_X8_liftsTo : List gE := [(0, 1, .aload_n 0, 0, 0, .inl .null), (1, 3, .invokevirtual 192, 133, 497, .inr (1, 0, 0)), (4, 3, .ifCond .eq 5, 9, 0, .inl .null), (7, 1, .iconst 0, 0, 0, .inl (.int 0)), (8, 1, .ireturn, 0, 0, .inl .null), (9, 1, .aload_n 0, 0, 0, .inl .null), (10, 1, .iconst 0, 0, 0, .inl (.int 0)), (11, 3, .invokevirtual 333, 239, 498, .inr (0, 0, 0)), (14, 1, .iconst 0, 0, 0, .inl (.int 0)), (15, 1, .istore_n 1, 1, 0, .inl .null), (16, 1, .aload_n 0, 0, 0, .inl .null), (17, 3, .invokevirtual 328, 225, 497, .inr (1, 0, 0)), (20, 1, .istore_n 2, 2, 0, .inl .null), (21, 1, .iload_n 2, 2, 0, .inl .null), (22, 3, .ifCond .ne 25, 47, 0, .inl .null), (25, 1, .aload_n 0, 0, 0, .inl .null), (26, 3, .invokevirtual 336, 227, 497, .inr (1, 0, 0)), (29, 3, .ifCond .eq 18, 47, 0, .inl .null), (32, 1, .aload_n 0, 0, 0, .inl .null), (33, 3, .invokevirtual 339, 228, 497, .inr (0, 0, 0)), (36, 3, .iinc 1 1, 1, 0, .inl (.int 1)), (39, 1, .aload_n 0, 0, 0, .inl .null), (40, 3, .invokevirtual 328, 225, 497, .inr (1, 0, 0)), (43, 1, .istore_n 2, 2, 0, .inl .null), (44, 3, .goto (-23), 21, 0, .inl .null), (47, 1, .aload_n 0, 0, 0, .inl .null), (48, 1, .iconst 0, 0, 0, .inl (.int 0)), (49, 3, .invokevirtual 342, 240, 498, .inr (0, 0, 0)), (52, 1, .iload_n 2, 2, 0, .inl .null), (53, 3, .ifCond .eq 7, 60, 0, .inl .null), (56, 1, .iload_n 1, 1, 0, .inl .null), (57, 3, .goto 4, 61, 0, .inl .null), (60, 1, .iconst (-1), 0, 0, .inl (.int (-1))), (61, 1, .ireturn, 0, 0, .inl .null)]
def cd_X8_productOf : List gE := [(0, 1, .iconst 0, 0, 0, .inl (.int 0)), (1, 1, .istore_n 2, 2, 0, .inl .null), (2, 1, .iconst 0, 0, 0, .inl (.int 0)), (3, 1, .istore_n 3, 3, 0, .inl .null), (4, 1, .iload_n 3, 3, 0, .inl .null), (5, 1, .aload_n 0, 0, 0, .inl .null), (6, 3, .getfield 7, 31, 2, .inl .null), (9, 1, .iconst 0, 0, 0, .inl (.int 0)), (10, 1, .iaload, 0, 0, .inl .null), (11, 3, .if_icmp .ge 28, 39, 0, .inl .null), (14, 1, .iload_n 2, 2, 0, .inl .null), (15, 1, .aload_n 0, 0, 0, .inl .null), (16, 1, .iload_n 1, 1, 0, .inl .null), (17, 1, .iload_n 3, 3, 0, .inl .null), (18, 3, .invokevirtual 212, 167, 499, .inr (1, 0, 0)), (21, 1, .aload_n 0, 0, 0, .inl .null), (22, 3, .getfield 7, 31, 2, .inl .null), (25, 2, .bipush 22, 0, 0, .inl (.int 22)), (27, 1, .iload_n 3, 3, 0, .inl .null), (28, 1, .iadd, 0, 0, .inl .null), (29, 1, .iaload, 0, 0, .inl .null), (30, 1, .imul, 0, 0, .inl .null), (31, 1, .iadd, 0, 0, .inl .null), (32, 1, .istore_n 2, 2, 0, .inl .null), (33, 3, .iinc 3 1, 3, 0, .inl (.int 1)), (36, 3, .goto (-32), 4, 0, .inl .null), (39, 1, .iload_n 2, 2, 0, .inl .null), (40, 1, .ireturn, 0, 0, .inl .null)]
def cd_X8_product : List gE := [(0, 1, .aload_n 0, 0, 0, .inl .null), (1, 1, .iload_n 1, 1, 0, .inl .null), (2, 3, .invokevirtual 199, 160, 498, .inr (1, 0, 0)), (5, 3, .ifCond .eq 7, 12, 0, .inl .null), (8, 1, .iconst 0, 0, 0, .inl (.int 0)), (9, 3, .goto 8, 17, 0, .inl .null), (12, 1, .aload_n 0, 0, 0, .inl .null), (13, 1, .iload_n 1, 1, 0, .inl .null), (14, 3, .invokevirtual 345, 231, 498, .inr (1, 0, 0)), (17, 1, .ireturn, 0, 0, .inl .null)]
def cd_X8_circulantOf : List gE := [(0, 1, .iconst 2, 0, 0, .inl (.int 2)), (1, 1, .aload_n 0, 0, 0, .inl .null), (2, 3, .getfield 7, 31, 2, .inl .null), (5, 1, .iconst 0, 0, 0, .inl (.int 0)), (6, 1, .iaload, 0, 0, .inl .null), (7, 1, .imul, 0, 0, .inl .null), (8, 1, .istore_n 3, 3, 0, .inl .null), (9, 1, .iload_n 1, 1, 0, .inl .null), (10, 1, .iload_n 2, 2, 0, .inl .null), (11, 1, .isub, 0, 0, .inl .null), (12, 1, .iload_n 3, 3, 0, .inl .null), (13, 1, .iadd, 0, 0, .inl .null), (14, 1, .iload_n 3, 3, 0, .inl .null), (15, 1, .irem, 0, 0, .inl .null), (16, 2, .istore 4, 4, 0, .inl .null), (18, 2, .iload 4, 4, 0, .inl .null), (20, 1, .aload_n 0, 0, 0, .inl .null), (21, 3, .getfield 7, 31, 2, .inl .null), (24, 1, .iconst 0, 0, 0, .inl (.int 0)), (25, 1, .iaload, 0, 0, .inl .null), (26, 3, .if_icmp .ge 16, 42, 0, .inl .null), (29, 1, .aload_n 0, 0, 0, .inl .null), (30, 3, .getfield 7, 31, 2, .inl .null), (33, 2, .bipush 8, 0, 0, .inl (.int 8)), (35, 2, .iload 4, 4, 0, .inl .null), (37, 1, .iadd, 0, 0, .inl .null), (38, 1, .iaload, 0, 0, .inl .null), (39, 3, .goto 30, 69, 0, .inl .null), (42, 2, .iload 4, 4, 0, .inl .null), (44, 1, .aload_n 0, 0, 0, .inl .null), (45, 3, .getfield 7, 31, 2, .inl .null), (48, 1, .iconst 0, 0, 0, .inl (.int 0)), (49, 1, .iaload, 0, 0, .inl .null), (50, 3, .if_icmp .ne 7, 57, 0, .inl .null), (53, 1, .iconst 0, 0, 0, .inl (.int 0)), (54, 3, .goto 15, 69, 0, .inl .null), (57, 1, .aload_n 0, 0, 0, .inl .null), (58, 3, .getfield 7, 31, 2, .inl .null), (61, 2, .bipush 8, 0, 0, .inl (.int 8)), (63, 2, .iload 4, 4, 0, .inl .null), (65, 1, .iadd, 0, 0, .inl .null), (66, 1, .iload_n 3, 3, 0, .inl .null), (67, 1, .isub, 0, 0, .inl .null), (68, 1, .iaload, 0, 0, .inl .null), (69, 1, .ireturn, 0, 0, .inl .null)]
def cd_X8_noWide : List gE := [(0, 1, .aload_n 0, 0, 0, .inl .null), (1, 3, .invokevirtual 192, 133, 497, .inr (1, 0, 0)), (4, 3, .ifCond .ne 34, 38, 0, .inl .null), (7, 1, .aload_n 0, 0, 0, .inl .null), (8, 1, .iload_n 1, 1, 0, .inl .null), (9, 1, .iconst 0, 0, 0, .inl (.int 0)), (10, 1, .iconst 2, 0, 0, .inl (.int 2)), (11, 1, .aload_n 0, 0, 0, .inl .null), (12, 3, .getfield 7, 31, 2, .inl .null), (15, 1, .iconst 0, 0, 0, .inl (.int 0)), (16, 1, .iaload, 0, 0, .inl .null), (17, 1, .imul, 0, 0, .inl .null), (18, 1, .iconst 1, 0, 0, .inl (.int 1)), (19, 1, .isub, 0, 0, .inl .null), (20, 3, .invokestatic 134, 131, 3, .inr (1, 0, 0)), (23, 3, .ifCond .ne 7, 30, 0, .inl .null), (26, 1, .iconst 1, 0, 0, .inl (.int 1)), (27, 3, .goto 4, 31, 0, .inl .null), (30, 1, .iconst 0, 0, 0, .inl (.int 0)), (31, 1, .iconst 2, 0, 0, .inl (.int 2)), (32, 3, .invokevirtual 65, 132, 499, .inr (1, 0, 0)), (35, 3, .ifCond .eq 7, 42, 0, .inl .null), (38, 1, .iconst 1, 0, 0, .inl (.int 1)), (39, 3, .goto 4, 43, 0, .inl .null), (42, 1, .iconst 0, 0, 0, .inl (.int 0)), (43, 1, .ireturn, 0, 0, .inl .null)]
def cd_X8_circulant : List gE := [(0, 1, .aload_n 0, 0, 0, .inl .null), (1, 1, .iload_n 1, 1, 0, .inl .null), (2, 3, .invokevirtual 348, 234, 498, .inr (1, 0, 0)), (5, 3, .ifCond .ne 34, 39, 0, .inl .null), (8, 1, .aload_n 0, 0, 0, .inl .null), (9, 1, .iload_n 2, 2, 0, .inl .null), (10, 1, .iconst 0, 0, 0, .inl (.int 0)), (11, 1, .iconst 2, 0, 0, .inl (.int 2)), (12, 1, .aload_n 0, 0, 0, .inl .null), (13, 3, .getfield 7, 31, 2, .inl .null), (16, 1, .iconst 0, 0, 0, .inl (.int 0)), (17, 1, .iaload, 0, 0, .inl .null), (18, 1, .imul, 0, 0, .inl .null), (19, 1, .iconst 1, 0, 0, .inl (.int 1)), (20, 1, .isub, 0, 0, .inl .null), (21, 3, .invokestatic 134, 131, 3, .inr (1, 0, 0)), (24, 3, .ifCond .ne 7, 31, 0, .inl .null), (27, 1, .iconst 1, 0, 0, .inl (.int 1)), (28, 3, .goto 4, 32, 0, .inl .null), (31, 1, .iconst 0, 0, 0, .inl (.int 0)), (32, 1, .iconst 2, 0, 0, .inl (.int 2)), (33, 3, .invokevirtual 65, 132, 499, .inr (1, 0, 0)), (36, 3, .ifCond .eq 7, 43, 0, .inl .null), (39, 1, .iconst 0, 0, 0, .inl (.int 0)), (40, 3, .goto 9, 49, 0, .inl .null), (43, 1, .aload_n 0, 0, 0, .inl .null), (44, 1, .iload_n 1, 1, 0, .inl .null), (45, 1, .iload_n 2, 2, 0, .inl .null), (46, 3, .invokevirtual 351, 233, 499, .inr (1, 0, 0)), (49, 1, .ireturn, 0, 0, .inl .null)]
def cd_X8_wrapped : List gE := [(0, 1, .aload_n 0, 0, 0, .inl .null), (1, 1, .iload_n 1, 1, 0, .inl .null), (2, 3, .invokevirtual 348, 234, 498, .inr (1, 0, 0)), (5, 3, .ifCond .eq 5, 10, 0, .inl .null), (8, 1, .iconst 0, 0, 0, .inl (.int 0)), (9, 1, .ireturn, 0, 0, .inl .null), (10, 1, .iconst 0, 0, 0, .inl (.int 0)), (11, 1, .istore_n 2, 2, 0, .inl .null), (12, 1, .iconst 0, 0, 0, .inl (.int 0)), (13, 1, .istore_n 3, 3, 0, .inl .null), (14, 1, .iload_n 3, 3, 0, .inl .null), (15, 1, .aload_n 0, 0, 0, .inl .null), (16, 3, .getfield 7, 31, 2, .inl .null), (19, 1, .iconst 0, 0, 0, .inl (.int 0)), (20, 1, .iaload, 0, 0, .inl .null), (21, 3, .if_icmp .ge 28, 49, 0, .inl .null), (24, 1, .iload_n 2, 2, 0, .inl .null), (25, 1, .aload_n 0, 0, 0, .inl .null), (26, 1, .iload_n 1, 1, 0, .inl .null), (27, 1, .iload_n 3, 3, 0, .inl .null), (28, 3, .invokevirtual 351, 233, 499, .inr (1, 0, 0)), (31, 1, .aload_n 0, 0, 0, .inl .null), (32, 3, .getfield 7, 31, 2, .inl .null), (35, 2, .bipush 22, 0, 0, .inl (.int 22)), (37, 1, .iload_n 3, 3, 0, .inl .null), (38, 1, .iadd, 0, 0, .inl .null), (39, 1, .iaload, 0, 0, .inl .null), (40, 1, .imul, 0, 0, .inl .null), (41, 1, .iadd, 0, 0, .inl .null), (42, 1, .istore_n 2, 2, 0, .inl .null), (43, 3, .iinc 3 1, 3, 0, .inl (.int 1)), (46, 3, .goto (-32), 14, 0, .inl .null), (49, 1, .iload_n 2, 2, 0, .inl .null), (50, 1, .ireturn, 0, 0, .inl .null)]
def cd_X8_probeSolves : List gE := [(0, 1, .aload_n 0, 0, 0, .inl .null), (1, 3, .invokevirtual 192, 133, 497, .inr (1, 0, 0)), (4, 3, .ifCond .ne 7, 11, 0, .inl .null), (7, 1, .iconst 1, 0, 0, .inl (.int 1)), (8, 3, .goto 4, 12, 0, .inl .null), (11, 1, .iconst 0, 0, 0, .inl (.int 0)), (12, 1, .istore_n 1, 1, 0, .inl .null), (13, 1, .iconst 0, 0, 0, .inl (.int 0)), (14, 1, .istore_n 2, 2, 0, .inl .null), (15, 1, .iload_n 2, 2, 0, .inl .null), (16, 1, .aload_n 0, 0, 0, .inl .null), (17, 3, .getfield 7, 31, 2, .inl .null), (20, 1, .iconst 0, 0, 0, .inl (.int 0)), (21, 1, .iaload, 0, 0, .inl .null), (22, 3, .if_icmp .ge 36, 58, 0, .inl .null), (25, 1, .iload_n 1, 1, 0, .inl .null), (26, 3, .ifCond .eq 32, 58, 0, .inl .null), (29, 1, .aload_n 0, 0, 0, .inl .null), (30, 1, .iload_n 2, 2, 0, .inl .null), (31, 3, .invokevirtual 345, 231, 498, .inr (1, 0, 0)), (34, 1, .aload_n 0, 0, 0, .inl .null), (35, 3, .getfield 7, 31, 2, .inl .null), (38, 2, .bipush 15, 0, 0, .inl (.int 15)), (40, 1, .iload_n 2, 2, 0, .inl .null), (41, 1, .iadd, 0, 0, .inl .null), (42, 1, .iaload, 0, 0, .inl .null), (43, 3, .if_icmp .ne 7, 50, 0, .inl .null), (46, 1, .iconst 1, 0, 0, .inl (.int 1)), (47, 3, .goto 4, 51, 0, .inl .null), (50, 1, .iconst 0, 0, 0, .inl (.int 0)), (51, 1, .istore_n 1, 1, 0, .inl .null), (52, 3, .iinc 2 1, 2, 0, .inl (.int 1)), (55, 3, .goto (-40), 15, 0, .inl .null), (58, 1, .iload_n 1, 1, 0, .inl .null), (59, 1, .ireturn, 0, 0, .inl .null)]
def cd_X8_accountOf : List gE := [(0, 1, .aload_n 0, 0, 0, .inl .null), (1, 3, .invokevirtual 192, 133, 497, .inr (1, 0, 0)), (4, 3, .ifCond .ne 56, 60, 0, .inl .null), (7, 1, .aload_n 0, 0, 0, .inl .null), (8, 1, .iload_n 1, 1, 0, .inl .null), (9, 1, .iconst 0, 0, 0, .inl (.int 0)), (10, 1, .aload_n 0, 0, 0, .inl .null), (11, 3, .getfield 7, 31, 2, .inl .null), (14, 3, .sipush 317, 0, 0, .inl (.int 317)), (17, 1, .iaload, 0, 0, .inl .null), (18, 1, .iconst 1, 0, 0, .inl (.int 1)), (19, 1, .isub, 0, 0, .inl .null), (20, 3, .invokestatic 134, 131, 3, .inr (1, 0, 0)), (23, 3, .ifCond .ne 7, 30, 0, .inl .null), (26, 1, .iconst 1, 0, 0, .inl (.int 1)), (27, 3, .goto 4, 31, 0, .inl .null), (30, 1, .iconst 0, 0, 0, .inl (.int 0)), (31, 1, .iconst 2, 0, 0, .inl (.int 2)), (32, 3, .invokevirtual 65, 132, 499, .inr (1, 0, 0)), (35, 3, .ifCond .ne 25, 60, 0, .inl .null), (38, 1, .aload_n 0, 0, 0, .inl .null), (39, 1, .iload_n 2, 2, 0, .inl .null), (40, 1, .iconst 0, 0, 0, .inl (.int 0)), (41, 1, .iconst 2, 0, 0, .inl (.int 2)), (42, 3, .invokestatic 134, 131, 3, .inr (1, 0, 0)), (45, 3, .ifCond .ne 7, 52, 0, .inl .null), (48, 1, .iconst 1, 0, 0, .inl (.int 1)), (49, 3, .goto 4, 53, 0, .inl .null), (52, 1, .iconst 0, 0, 0, .inl (.int 0)), (53, 1, .iconst 3, 0, 0, .inl (.int 3)), (54, 3, .invokevirtual 65, 132, 499, .inr (1, 0, 0)), (57, 3, .ifCond .eq 7, 64, 0, .inl .null), (60, 1, .iconst 0, 0, 0, .inl (.int 0)), (61, 3, .goto 17, 78, 0, .inl .null), (64, 1, .aload_n 0, 0, 0, .inl .null), (65, 3, .getfield 7, 31, 2, .inl .null), (68, 3, .sipush 318, 0, 0, .inl (.int 318)), (71, 1, .iconst 3, 0, 0, .inl (.int 3)), (72, 1, .iload_n 1, 1, 0, .inl .null), (73, 1, .imul, 0, 0, .inl .null), (74, 1, .iadd, 0, 0, .inl .null), (75, 1, .iload_n 2, 2, 0, .inl .null), (76, 1, .iadd, 0, 0, .inl .null), (77, 1, .iaload, 0, 0, .inl .null), (78, 1, .ireturn, 0, 0, .inl .null)]
def cd_X8_keeps : List gE := [(0, 1, .iconst 0, 0, 0, .inl (.int 0)), (1, 1, .istore_n 2, 2, 0, .inl .null), (2, 1, .iload_n 2, 2, 0, .inl .null), (3, 3, .sipush 408, 0, 0, .inl (.int 408)), (6, 3, .if_icmp .ge 27, 33, 0, .inl .null), (9, 1, .aload_n 0, 0, 0, .inl .null), (10, 3, .getfield 13, 31, 3, .inl .null), (13, 3, .sipush 408, 0, 0, .inl (.int 408)), (16, 1, .iload_n 1, 1, 0, .inl .null), (17, 1, .imul, 0, 0, .inl .null), (18, 1, .iload_n 2, 2, 0, .inl .null), (19, 1, .iadd, 0, 0, .inl .null), (20, 1, .aload_n 0, 0, 0, .inl .null), (21, 3, .getfield 7, 31, 2, .inl .null), (24, 1, .iload_n 2, 2, 0, .inl .null), (25, 1, .iaload, 0, 0, .inl .null), (26, 1, .iastore, 0, 0, .inl .null), (27, 3, .iinc 2 1, 2, 0, .inl (.int 1)), (30, 3, .goto (-28), 2, 0, .inl .null), (33, 1, .return_, 0, 0, .inl .null)]
def cd_X8_fetches : List gE := [(0, 1, .iconst 0, 0, 0, .inl (.int 0)), (1, 1, .istore_n 2, 2, 0, .inl .null), (2, 1, .iload_n 2, 2, 0, .inl .null), (3, 3, .sipush 408, 0, 0, .inl (.int 408)), (6, 3, .if_icmp .ge 27, 33, 0, .inl .null), (9, 1, .aload_n 0, 0, 0, .inl .null), (10, 3, .getfield 7, 31, 2, .inl .null), (13, 1, .iload_n 2, 2, 0, .inl .null), (14, 1, .aload_n 0, 0, 0, .inl .null), (15, 3, .getfield 13, 31, 3, .inl .null), (18, 3, .sipush 408, 0, 0, .inl (.int 408)), (21, 1, .iload_n 1, 1, 0, .inl .null), (22, 1, .imul, 0, 0, .inl .null), (23, 1, .iload_n 2, 2, 0, .inl .null), (24, 1, .iadd, 0, 0, .inl .null), (25, 1, .iaload, 0, 0, .inl .null), (26, 1, .iastore, 0, 0, .inl .null), (27, 3, .iinc 2 1, 2, 0, .inl (.int 1)), (30, 3, .goto (-28), 2, 0, .inl .null), (33, 1, .return_, 0, 0, .inl .null)]
def cd_X8_keepsAll : List gE := [(0, 1, .aload_n 0, 0, 0, .inl .null), (1, 3, .getfield 189, 31, 4, .inl .null), (4, 2, .bipush 8, 0, 0, .inl (.int 8)), (6, 3, .if_icmp .ne 46, 52, 0, .inl .null), (9, 3, .sipush 408, 0, 0, .inl (.int 408)), (12, 1, .istore_n 1, 1, 0, .inl .null), (13, 1, .iload_n 1, 1, 0, .inl .null), (14, 3, .sipush 3264, 0, 0, .inl (.int 3264)), (17, 3, .if_icmp .ge 25, 42, 0, .inl .null), (20, 1, .aload_n 0, 0, 0, .inl .null), (21, 3, .getfield 13, 31, 3, .inl .null), (24, 1, .iload_n 1, 1, 0, .inl .null), (25, 1, .aload_n 0, 0, 0, .inl .null), (26, 3, .getfield 13, 31, 3, .inl .null), (29, 1, .iload_n 1, 1, 0, .inl .null), (30, 3, .sipush 408, 0, 0, .inl (.int 408)), (33, 1, .iadd, 0, 0, .inl .null), (34, 1, .iaload, 0, 0, .inl .null), (35, 1, .iastore, 0, 0, .inl .null), (36, 3, .iinc 1 1, 1, 0, .inl (.int 1)), (39, 3, .goto (-26), 13, 0, .inl .null), (42, 1, .aload_n 0, 0, 0, .inl .null), (43, 1, .dup, 0, 0, .inl .null), (44, 3, .getfield 189, 31, 4, .inl .null), (47, 1, .iconst 1, 0, 0, .inl (.int 1)), (48, 1, .isub, 0, 0, .inl .null), (49, 3, .putfield 189, 31, 4, .inl .null), (52, 1, .aload_n 0, 0, 0, .inl .null), (53, 1, .iconst 1, 0, 0, .inl (.int 1)), (54, 1, .aload_n 0, 0, 0, .inl .null), (55, 3, .getfield 189, 31, 4, .inl .null), (58, 1, .iadd, 0, 0, .inl .null), (59, 3, .invokevirtual 333, 239, 498, .inr (0, 0, 0)), (62, 1, .aload_n 0, 0, 0, .inl .null), (63, 1, .dup, 0, 0, .inl .null), (64, 3, .getfield 189, 31, 4, .inl .null), (67, 1, .iconst 1, 0, 0, .inl (.int 1)), (68, 1, .iadd, 0, 0, .inl .null), (69, 3, .putfield 189, 31, 4, .inl .null), (72, 1, .return_, 0, 0, .inl .null)]
def cd_X8_sets : List gE := [(0, 1, .aload_n 0, 0, 0, .inl .null), (1, 3, .invokevirtual 354, 241, 497, .inr (0, 0, 0)), (4, 1, .aload_n 0, 0, 0, .inl .null), (5, 3, .getfield 7, 31, 2, .inl .null), (8, 1, .iload_n 1, 1, 0, .inl .null), (9, 1, .iaload, 0, 0, .inl .null), (10, 2, .istore 4, 4, 0, .inl .null), (12, 1, .aload_n 0, 0, 0, .inl .null), (13, 3, .getfield 7, 31, 2, .inl .null), (16, 1, .iload_n 1, 1, 0, .inl .null), (17, 1, .iload_n 2, 2, 0, .inl .null), (18, 1, .iastore, 0, 0, .inl .null), (19, 1, .iload_n 3, 3, 0, .inl .null), (20, 3, .ifCond .eq 7, 27, 0, .inl .null), (23, 1, .aload_n 0, 0, 0, .inl .null), (24, 3, .invokevirtual 186, 157, 497, .inr (0, 0, 0)), (27, 2, .iload 4, 4, 0, .inl .null), (29, 1, .ireturn, 0, 0, .inl .null)]
def cd_X8_setDiagonal : List gE := [(0, 1, .aload_n 0, 0, 0, .inl .null), (1, 3, .invokevirtual 192, 133, 497, .inr (1, 0, 0)), (4, 3, .ifCond .ne 48, 52, 0, .inl .null), (7, 1, .aload_n 0, 0, 0, .inl .null), (8, 1, .aload_n 0, 0, 0, .inl .null), (9, 1, .iload_n 1, 1, 0, .inl .null), (10, 3, .invokevirtual 205, 159, 498, .inr (1, 0, 0)), (13, 3, .ifCond .ne 7, 20, 0, .inl .null), (16, 1, .iconst 1, 0, 0, .inl (.int 1)), (17, 3, .goto 4, 21, 0, .inl .null), (20, 1, .iconst 0, 0, 0, .inl (.int 0)), (21, 1, .iconst 2, 0, 0, .inl (.int 2)), (22, 3, .invokevirtual 65, 132, 499, .inr (1, 0, 0)), (25, 3, .ifCond .ne 27, 52, 0, .inl .null), (28, 1, .aload_n 0, 0, 0, .inl .null), (29, 1, .iload_n 2, 2, 0, .inl .null), (30, 2, .bipush (-50), 0, 0, .inl (.int (-50))), (32, 2, .bipush 50, 0, 0, .inl (.int 50)), (34, 3, .invokestatic 134, 131, 3, .inr (1, 0, 0)), (37, 3, .ifCond .ne 7, 44, 0, .inl .null), (40, 1, .iconst 1, 0, 0, .inl (.int 1)), (41, 3, .goto 4, 45, 0, .inl .null), (44, 1, .iconst 0, 0, 0, .inl (.int 0)), (45, 1, .iconst 3, 0, 0, .inl (.int 3)), (46, 3, .invokevirtual 65, 132, 499, .inr (1, 0, 0)), (49, 3, .ifCond .eq 7, 56, 0, .inl .null), (52, 1, .iconst 0, 0, 0, .inl (.int 0)), (53, 3, .goto 13, 66, 0, .inl .null), (56, 1, .aload_n 0, 0, 0, .inl .null), (57, 2, .bipush 8, 0, 0, .inl (.int 8)), (59, 1, .iload_n 1, 1, 0, .inl .null), (60, 1, .iadd, 0, 0, .inl .null), (61, 1, .iload_n 2, 2, 0, .inl .null), (62, 1, .iconst 1, 0, 0, .inl (.int 1)), (63, 3, .invokevirtual 357, 242, 500, .inr (1, 0, 0)), (66, 1, .ireturn, 0, 0, .inl .null)]
def cd_X8_setSide : List gE := [(0, 1, .aload_n 0, 0, 0, .inl .null), (1, 1, .iload_n 1, 1, 0, .inl .null), (2, 3, .invokevirtual 199, 160, 498, .inr (1, 0, 0)), (5, 3, .ifCond .ne 29, 34, 0, .inl .null), (8, 1, .aload_n 0, 0, 0, .inl .null), (9, 1, .iload_n 2, 2, 0, .inl .null), (10, 3, .sipush (-999), 0, 0, .inl (.int (-999))), (13, 3, .sipush 999, 0, 0, .inl (.int 999)), (16, 3, .invokestatic 134, 131, 3, .inr (1, 0, 0)), (19, 3, .ifCond .ne 7, 26, 0, .inl .null), (22, 1, .iconst 1, 0, 0, .inl (.int 1)), (23, 3, .goto 4, 27, 0, .inl .null), (26, 1, .iconst 0, 0, 0, .inl (.int 0)), (27, 1, .iconst 3, 0, 0, .inl (.int 3)), (28, 3, .invokevirtual 65, 132, 499, .inr (1, 0, 0)), (31, 3, .ifCond .eq 7, 38, 0, .inl .null), (34, 1, .iconst 0, 0, 0, .inl (.int 0)), (35, 3, .goto 13, 48, 0, .inl .null), (38, 1, .aload_n 0, 0, 0, .inl .null), (39, 2, .bipush 15, 0, 0, .inl (.int 15)), (41, 1, .iload_n 1, 1, 0, .inl .null), (42, 1, .iadd, 0, 0, .inl .null), (43, 1, .iload_n 2, 2, 0, .inl .null), (44, 1, .iconst 1, 0, 0, .inl (.int 1)), (45, 3, .invokevirtual 357, 242, 500, .inr (1, 0, 0)), (48, 1, .ireturn, 0, 0, .inl .null)]
def cd_X8_setProbe : List gE := [(0, 1, .aload_n 0, 0, 0, .inl .null), (1, 1, .iload_n 1, 1, 0, .inl .null), (2, 3, .invokevirtual 199, 160, 498, .inr (1, 0, 0)), (5, 3, .ifCond .ne 29, 34, 0, .inl .null), (8, 1, .aload_n 0, 0, 0, .inl .null), (9, 1, .iload_n 2, 2, 0, .inl .null), (10, 3, .sipush (-999), 0, 0, .inl (.int (-999))), (13, 3, .sipush 999, 0, 0, .inl (.int 999)), (16, 3, .invokestatic 134, 131, 3, .inr (1, 0, 0)), (19, 3, .ifCond .ne 7, 26, 0, .inl .null), (22, 1, .iconst 1, 0, 0, .inl (.int 1)), (23, 3, .goto 4, 27, 0, .inl .null), (26, 1, .iconst 0, 0, 0, .inl (.int 0)), (27, 1, .iconst 3, 0, 0, .inl (.int 3)), (28, 3, .invokevirtual 65, 132, 499, .inr (1, 0, 0)), (31, 3, .ifCond .eq 7, 38, 0, .inl .null), (34, 1, .iconst 0, 0, 0, .inl (.int 0)), (35, 3, .goto 13, 48, 0, .inl .null), (38, 1, .aload_n 0, 0, 0, .inl .null), (39, 2, .bipush 22, 0, 0, .inl (.int 22)), (41, 1, .iload_n 1, 1, 0, .inl .null), (42, 1, .iadd, 0, 0, .inl .null), (43, 1, .iload_n 2, 2, 0, .inl .null), (44, 1, .iconst 0, 0, 0, .inl (.int 0)), (45, 3, .invokevirtual 357, 242, 500, .inr (1, 0, 0)), (48, 1, .ireturn, 0, 0, .inl .null)]
def cd_X8_setPrime : List gE := [(0, 1, .aload_n 0, 0, 0, .inl .null), (1, 3, .invokevirtual 192, 133, 497, .inr (1, 0, 0)), (4, 3, .ifCond .ne 24, 28, 0, .inl .null), (7, 1, .aload_n 0, 0, 0, .inl .null), (8, 1, .iload_n 1, 1, 0, .inl .null), (9, 3, .invokestatic 162, 134, 1, .inr (1, 0, 0)), (12, 1, .iconst (-1), 0, 0, .inl (.int (-1))), (13, 3, .if_icmp .ne 7, 20, 0, .inl .null), (16, 1, .iconst 1, 0, 0, .inl (.int 1)), (17, 3, .goto 4, 21, 0, .inl .null), (20, 1, .iconst 0, 0, 0, .inl (.int 0)), (21, 1, .iconst 2, 0, 0, .inl (.int 2)), (22, 3, .invokevirtual 65, 132, 499, .inr (1, 0, 0)), (25, 3, .ifCond .eq 7, 32, 0, .inl .null), (28, 1, .iconst 0, 0, 0, .inl (.int 0)), (29, 3, .goto 10, 39, 0, .inl .null), (32, 1, .aload_n 0, 0, 0, .inl .null), (33, 1, .iconst 1, 0, 0, .inl (.int 1)), (34, 1, .iload_n 1, 1, 0, .inl .null), (35, 1, .iconst 1, 0, 0, .inl (.int 1)), (36, 3, .invokevirtual 357, 242, 500, .inr (1, 0, 0)), (39, 1, .ireturn, 0, 0, .inl .null)]
def cd_X8_grow : List gE := [(0, 1, .aload_n 0, 0, 0, .inl .null), (1, 3, .invokevirtual 192, 133, 497, .inr (1, 0, 0)), (4, 3, .ifCond .ne 62, 66, 0, .inl .null), (7, 1, .aload_n 0, 0, 0, .inl .null), (8, 1, .aload_n 0, 0, 0, .inl .null), (9, 3, .getfield 7, 31, 2, .inl .null), (12, 1, .iconst 0, 0, 0, .inl (.int 0)), (13, 1, .iaload, 0, 0, .inl .null), (14, 2, .bipush 7, 0, 0, .inl (.int 7)), (16, 3, .if_icmp .eq 38, 54, 0, .inl .null), (19, 1, .iload_n 1, 1, 0, .inl .null), (20, 2, .bipush (-50), 0, 0, .inl (.int (-50))), (22, 2, .bipush 50, 0, 0, .inl (.int 50)), (24, 3, .invokestatic 134, 131, 3, .inr (1, 0, 0)), (27, 3, .ifCond .eq 27, 54, 0, .inl .null), (30, 1, .iload_n 2, 2, 0, .inl .null), (31, 2, .bipush (-50), 0, 0, .inl (.int (-50))), (33, 2, .bipush 50, 0, 0, .inl (.int 50)), (35, 3, .invokestatic 134, 131, 3, .inr (1, 0, 0)), (38, 3, .ifCond .eq 16, 54, 0, .inl .null), (41, 1, .iload_n 3, 3, 0, .inl .null), (42, 3, .sipush (-999), 0, 0, .inl (.int (-999))), (45, 3, .sipush 999, 0, 0, .inl (.int 999)), (48, 3, .invokestatic 134, 131, 3, .inr (1, 0, 0)), (51, 3, .ifCond .ne 7, 58, 0, .inl .null), (54, 1, .iconst 1, 0, 0, .inl (.int 1)), (55, 3, .goto 4, 59, 0, .inl .null), (58, 1, .iconst 0, 0, 0, .inl (.int 0)), (59, 1, .iconst 2, 0, 0, .inl (.int 2)), (60, 3, .invokevirtual 65, 132, 499, .inr (1, 0, 0)), (63, 3, .ifCond .eq 5, 68, 0, .inl .null), (66, 1, .iconst 0, 0, 0, .inl (.int 0)), (67, 1, .ireturn, 0, 0, .inl .null), (68, 1, .aload_n 0, 0, 0, .inl .null), (69, 3, .invokevirtual 354, 241, 497, .inr (0, 0, 0)), (72, 1, .aload_n 0, 0, 0, .inl .null), (73, 3, .getfield 7, 31, 2, .inl .null), (76, 1, .iconst 0, 0, 0, .inl (.int 0)), (77, 1, .iaload, 0, 0, .inl .null), (78, 2, .istore 4, 4, 0, .inl .null), (80, 1, .aload_n 0, 0, 0, .inl .null), (81, 3, .getfield 7, 31, 2, .inl .null), (84, 2, .bipush 8, 0, 0, .inl (.int 8)), (86, 2, .iload 4, 4, 0, .inl .null), (88, 1, .iadd, 0, 0, .inl .null), (89, 1, .iload_n 1, 1, 0, .inl .null), (90, 1, .iastore, 0, 0, .inl .null), (91, 1, .aload_n 0, 0, 0, .inl .null), (92, 3, .getfield 7, 31, 2, .inl .null), (95, 2, .bipush 8, 0, 0, .inl (.int 8)), (97, 2, .iload 4, 4, 0, .inl .null), (99, 1, .isub, 0, 0, .inl .null), (100, 1, .iload_n 2, 2, 0, .inl .null), (101, 1, .iastore, 0, 0, .inl .null), (102, 1, .aload_n 0, 0, 0, .inl .null), (103, 3, .getfield 7, 31, 2, .inl .null), (106, 2, .bipush 15, 0, 0, .inl (.int 15)), (108, 2, .iload 4, 4, 0, .inl .null), (110, 1, .iadd, 0, 0, .inl .null), (111, 1, .iload_n 3, 3, 0, .inl .null), (112, 1, .iastore, 0, 0, .inl .null), (113, 1, .aload_n 0, 0, 0, .inl .null), (114, 3, .getfield 7, 31, 2, .inl .null), (117, 2, .bipush 22, 0, 0, .inl (.int 22)), (119, 2, .iload 4, 4, 0, .inl .null), (121, 1, .iadd, 0, 0, .inl .null), (122, 1, .iconst 0, 0, 0, .inl (.int 0)), (123, 1, .iastore, 0, 0, .inl .null), (124, 1, .aload_n 0, 0, 0, .inl .null), (125, 3, .getfield 7, 31, 2, .inl .null), (128, 1, .iconst 0, 0, 0, .inl (.int 0)), (129, 1, .dup2, 0, 0, .inl .null), (130, 1, .iaload, 0, 0, .inl .null), (131, 1, .iconst 1, 0, 0, .inl (.int 1)), (132, 1, .iadd, 0, 0, .inl .null), (133, 1, .iastore, 0, 0, .inl .null), (134, 1, .aload_n 0, 0, 0, .inl .null), (135, 3, .invokevirtual 186, 157, 497, .inr (0, 0, 0)), (138, 1, .aload_n 0, 0, 0, .inl .null), (139, 3, .getfield 7, 31, 2, .inl .null), (142, 1, .iconst 0, 0, 0, .inl (.int 0)), (143, 1, .iaload, 0, 0, .inl .null), (144, 1, .ireturn, 0, 0, .inl .null)]
def cd_X8_shrink : List gE := [(0, 1, .aload_n 0, 0, 0, .inl .null), (1, 3, .invokevirtual 192, 133, 497, .inr (1, 0, 0)), (4, 3, .ifCond .ne 26, 30, 0, .inl .null), (7, 1, .aload_n 0, 0, 0, .inl .null), (8, 1, .aload_n 0, 0, 0, .inl .null), (9, 3, .getfield 7, 31, 2, .inl .null), (12, 1, .iconst 0, 0, 0, .inl (.int 0)), (13, 1, .iaload, 0, 0, .inl .null), (14, 1, .iconst 1, 0, 0, .inl (.int 1)), (15, 3, .if_icmp .ne 7, 22, 0, .inl .null), (18, 1, .iconst 1, 0, 0, .inl (.int 1)), (19, 3, .goto 4, 23, 0, .inl .null), (22, 1, .iconst 0, 0, 0, .inl (.int 0)), (23, 1, .iconst 2, 0, 0, .inl (.int 2)), (24, 3, .invokevirtual 65, 132, 499, .inr (1, 0, 0)), (27, 3, .ifCond .eq 5, 32, 0, .inl .null), (30, 1, .iconst 0, 0, 0, .inl (.int 0)), (31, 1, .ireturn, 0, 0, .inl .null), (32, 1, .aload_n 0, 0, 0, .inl .null), (33, 3, .invokevirtual 354, 241, 497, .inr (0, 0, 0)), (36, 1, .aload_n 0, 0, 0, .inl .null), (37, 3, .getfield 7, 31, 2, .inl .null), (40, 1, .iconst 0, 0, 0, .inl (.int 0)), (41, 1, .dup2, 0, 0, .inl .null), (42, 1, .iaload, 0, 0, .inl .null), (43, 1, .iconst 1, 0, 0, .inl (.int 1)), (44, 1, .isub, 0, 0, .inl .null), (45, 1, .iastore, 0, 0, .inl .null), (46, 1, .aload_n 0, 0, 0, .inl .null), (47, 3, .invokevirtual 186, 157, 497, .inr (0, 0, 0)), (50, 1, .aload_n 0, 0, 0, .inl .null), (51, 3, .getfield 7, 31, 2, .inl .null), (54, 1, .iconst 0, 0, 0, .inl (.int 0)), (55, 1, .iaload, 0, 0, .inl .null), (56, 1, .ireturn, 0, 0, .inl .null)]
def cd_X8_lift : List gE := [(0, 1, .aload_n 0, 0, 0, .inl .null), (1, 3, .invokevirtual 192, 133, 497, .inr (1, 0, 0)), (4, 3, .ifCond .ne 23, 27, 0, .inl .null), (7, 1, .aload_n 0, 0, 0, .inl .null), (8, 1, .aload_n 0, 0, 0, .inl .null), (9, 3, .invokevirtual 336, 227, 497, .inr (1, 0, 0)), (12, 3, .ifCond .ne 7, 19, 0, .inl .null), (15, 1, .iconst 1, 0, 0, .inl (.int 1)), (16, 3, .goto 4, 20, 0, .inl .null), (19, 1, .iconst 0, 0, 0, .inl (.int 0)), (20, 1, .iconst 2, 0, 0, .inl (.int 2)), (21, 3, .invokevirtual 65, 132, 499, .inr (1, 0, 0)), (24, 3, .ifCond .eq 5, 29, 0, .inl .null), (27, 1, .iconst 0, 0, 0, .inl (.int 0)), (28, 1, .ireturn, 0, 0, .inl .null), (29, 1, .aload_n 0, 0, 0, .inl .null), (30, 3, .invokevirtual 354, 241, 497, .inr (0, 0, 0)), (33, 1, .aload_n 0, 0, 0, .inl .null), (34, 3, .invokevirtual 339, 228, 497, .inr (0, 0, 0)), (37, 1, .aload_n 0, 0, 0, .inl .null), (38, 3, .invokevirtual 361, 229, 497, .inr (0, 0, 0)), (41, 1, .aload_n 0, 0, 0, .inl .null), (42, 3, .getfield 7, 31, 2, .inl .null), (45, 2, .bipush 36, 0, 0, .inl (.int 36)), (47, 1, .iaload, 0, 0, .inl .null), (48, 1, .ireturn, 0, 0, .inl .null)]
def cd_X8_refine : List gE := [(0, 1, .aload_n 0, 0, 0, .inl .null), (1, 3, .invokevirtual 192, 133, 497, .inr (1, 0, 0)), (4, 3, .ifCond .ne 33, 37, 0, .inl .null), (7, 1, .aload_n 0, 0, 0, .inl .null), (8, 1, .iload_n 1, 1, 0, .inl .null), (9, 1, .iconst 1, 0, 0, .inl (.int 1)), (10, 2, .bipush 40, 0, 0, .inl (.int 40)), (12, 3, .invokestatic 134, 131, 3, .inr (1, 0, 0)), (15, 3, .ifCond .eq 10, 25, 0, .inl .null), (18, 1, .aload_n 0, 0, 0, .inl .null), (19, 3, .invokevirtual 250, 184, 497, .inr (1, 0, 0)), (22, 3, .ifCond .ne 7, 29, 0, .inl .null), (25, 1, .iconst 1, 0, 0, .inl (.int 1)), (26, 3, .goto 4, 30, 0, .inl .null), (29, 1, .iconst 0, 0, 0, .inl (.int 0)), (30, 1, .iconst 2, 0, 0, .inl (.int 2)), (31, 3, .invokevirtual 65, 132, 499, .inr (1, 0, 0)), (34, 3, .ifCond .eq 5, 39, 0, .inl .null), (37, 1, .iconst 0, 0, 0, .inl (.int 0)), (38, 1, .ireturn, 0, 0, .inl .null), (39, 1, .aload_n 0, 0, 0, .inl .null), (40, 3, .invokevirtual 354, 241, 497, .inr (0, 0, 0)), (43, 1, .iconst 0, 0, 0, .inl (.int 0)), (44, 1, .istore_n 2, 2, 0, .inl .null), (45, 1, .iload_n 2, 2, 0, .inl .null), (46, 1, .iload_n 1, 1, 0, .inl .null), (47, 3, .if_icmp .ge 31, 78, 0, .inl .null), (50, 1, .aload_n 0, 0, 0, .inl .null), (51, 3, .invokevirtual 336, 227, 497, .inr (1, 0, 0)), (54, 3, .ifCond .eq 24, 78, 0, .inl .null), (57, 1, .aload_n 0, 0, 0, .inl .null), (58, 3, .invokevirtual 328, 225, 497, .inr (1, 0, 0)), (61, 3, .ifCond .ne 17, 78, 0, .inl .null), (64, 1, .aload_n 0, 0, 0, .inl .null), (65, 3, .invokevirtual 339, 228, 497, .inr (0, 0, 0)), (68, 1, .aload_n 0, 0, 0, .inl .null), (69, 3, .invokevirtual 361, 229, 497, .inr (0, 0, 0)), (72, 3, .iinc 2 1, 2, 0, .inl (.int 1)), (75, 3, .goto (-30), 45, 0, .inl .null), (78, 1, .iload_n 2, 2, 0, .inl .null), (79, 1, .ireturn, 0, 0, .inl .null)]
def cd_X8_undo : List gE := [(0, 1, .aload_n 0, 0, 0, .inl .null), (1, 1, .iconst 0, 0, 0, .inl (.int 0)), (2, 3, .putfield 58, 31, 0, .inl .null), (5, 1, .aload_n 0, 0, 0, .inl .null), (6, 1, .aload_n 0, 0, 0, .inl .null), (7, 3, .getfield 189, 31, 4, .inl .null), (10, 3, .ifCond .ne 7, 17, 0, .inl .null), (13, 1, .iconst 1, 0, 0, .inl (.int 1)), (14, 3, .goto 4, 18, 0, .inl .null), (17, 1, .iconst 0, 0, 0, .inl (.int 0)), (18, 1, .iconst 1, 0, 0, .inl (.int 1)), (19, 3, .invokevirtual 65, 132, 499, .inr (1, 0, 0)), (22, 3, .ifCond .eq 5, 27, 0, .inl .null), (25, 1, .iconst 0, 0, 0, .inl (.int 0)), (26, 1, .ireturn, 0, 0, .inl .null), (27, 1, .aload_n 0, 0, 0, .inl .null), (28, 1, .dup, 0, 0, .inl .null), (29, 3, .getfield 189, 31, 4, .inl .null), (32, 1, .iconst 1, 0, 0, .inl (.int 1)), (33, 1, .isub, 0, 0, .inl .null), (34, 3, .putfield 189, 31, 4, .inl .null), (37, 1, .aload_n 0, 0, 0, .inl .null), (38, 1, .iconst 1, 0, 0, .inl (.int 1)), (39, 1, .aload_n 0, 0, 0, .inl .null), (40, 3, .getfield 189, 31, 4, .inl .null), (43, 1, .iadd, 0, 0, .inl .null), (44, 3, .invokevirtual 342, 240, 498, .inr (0, 0, 0)), (47, 1, .aload_n 0, 0, 0, .inl .null), (48, 3, .getfield 189, 31, 4, .inl .null), (51, 1, .ireturn, 0, 0, .inl .null)]
def cd_X8_save : List gE := [(0, 1, .aload_n 0, 0, 0, .inl .null), (1, 3, .invokevirtual 192, 133, 497, .inr (1, 0, 0)), (4, 3, .ifCond .ne 25, 29, 0, .inl .null), (7, 1, .aload_n 0, 0, 0, .inl .null), (8, 1, .iload_n 1, 1, 0, .inl .null), (9, 1, .iconst 0, 0, 0, .inl (.int 0)), (10, 1, .iconst 1, 0, 0, .inl (.int 1)), (11, 3, .invokestatic 134, 131, 3, .inr (1, 0, 0)), (14, 3, .ifCond .ne 7, 21, 0, .inl .null), (17, 1, .iconst 1, 0, 0, .inl (.int 1)), (18, 3, .goto 4, 22, 0, .inl .null), (21, 1, .iconst 0, 0, 0, .inl (.int 0)), (22, 1, .iconst 2, 0, 0, .inl (.int 2)), (23, 3, .invokevirtual 65, 132, 499, .inr (1, 0, 0)), (26, 3, .ifCond .eq 5, 31, 0, .inl .null), (29, 1, .iconst 0, 0, 0, .inl (.int 0)), (30, 1, .ireturn, 0, 0, .inl .null), (31, 1, .aload_n 0, 0, 0, .inl .null), (32, 2, .bipush 9, 0, 0, .inl (.int 9)), (34, 1, .iload_n 1, 1, 0, .inl .null), (35, 1, .iadd, 0, 0, .inl .null), (36, 3, .invokevirtual 333, 239, 498, .inr (0, 0, 0)), (39, 1, .aload_n 0, 0, 0, .inl .null), (40, 3, .getfield 16, 31, 5, .inl .null), (43, 1, .iload_n 1, 1, 0, .inl .null), (44, 1, .iconst 1, 0, 0, .inl (.int 1)), (45, 1, .bastore, 0, 0, .inl .null), (46, 1, .aload_n 0, 0, 0, .inl .null), (47, 3, .getfield 7, 31, 2, .inl .null), (50, 1, .iconst 0, 0, 0, .inl (.int 0)), (51, 1, .iaload, 0, 0, .inl .null), (52, 1, .ireturn, 0, 0, .inl .null)]
def cd_X8_restore : List gE := [(0, 1, .aload_n 0, 0, 0, .inl .null), (1, 1, .iconst 0, 0, 0, .inl (.int 0)), (2, 3, .putfield 58, 31, 0, .inl .null), (5, 1, .aload_n 0, 0, 0, .inl .null), (6, 1, .iload_n 1, 1, 0, .inl .null), (7, 1, .iconst 0, 0, 0, .inl (.int 0)), (8, 1, .iconst 1, 0, 0, .inl (.int 1)), (9, 3, .invokestatic 134, 131, 3, .inr (1, 0, 0)), (12, 3, .ifCond .ne 7, 19, 0, .inl .null), (15, 1, .iconst 1, 0, 0, .inl (.int 1)), (16, 3, .goto 4, 20, 0, .inl .null), (19, 1, .iconst 0, 0, 0, .inl (.int 0)), (20, 1, .iconst 1, 0, 0, .inl (.int 1)), (21, 3, .invokevirtual 65, 132, 499, .inr (1, 0, 0)), (24, 3, .ifCond .ne 25, 49, 0, .inl .null), (27, 1, .aload_n 0, 0, 0, .inl .null), (28, 1, .aload_n 0, 0, 0, .inl .null), (29, 3, .getfield 16, 31, 5, .inl .null), (32, 1, .iload_n 1, 1, 0, .inl .null), (33, 1, .baload, 0, 0, .inl .null), (34, 3, .ifCond .ne 7, 41, 0, .inl .null), (37, 1, .iconst 1, 0, 0, .inl (.int 1)), (38, 3, .goto 4, 42, 0, .inl .null), (41, 1, .iconst 0, 0, 0, .inl (.int 0)), (42, 1, .iconst 2, 0, 0, .inl (.int 2)), (43, 3, .invokevirtual 65, 132, 499, .inr (1, 0, 0)), (46, 3, .ifCond .eq 5, 51, 0, .inl .null), (49, 1, .iconst 0, 0, 0, .inl (.int 0)), (50, 1, .ireturn, 0, 0, .inl .null), (51, 1, .aload_n 0, 0, 0, .inl .null), (52, 2, .bipush 9, 0, 0, .inl (.int 9)), (54, 1, .iload_n 1, 1, 0, .inl .null), (55, 1, .iadd, 0, 0, .inl .null), (56, 3, .invokevirtual 342, 240, 498, .inr (0, 0, 0)), (59, 1, .aload_n 0, 0, 0, .inl .null), (60, 1, .iconst 0, 0, 0, .inl (.int 0)), (61, 3, .putfield 189, 31, 4, .inl .null), (64, 1, .aload_n 0, 0, 0, .inl .null), (65, 3, .getfield 7, 31, 2, .inl .null), (68, 1, .iconst 0, 0, 0, .inl (.int 0)), (69, 1, .iaload, 0, 0, .inl .null), (70, 1, .ireturn, 0, 0, .inl .null)]
def cd_L_load : List gE := [(0, 1, .aload_n 2, 2, 0, .inl .null), (1, 1, .iconst 0, 0, 0, .inl (.int 0)), (2, 1, .aload_n 0, 0, 0, .inl .null), (3, 1, .iload_n 1, 1, 0, .inl .null), (4, 3, .invokevirtual 7, 53, 50, .inr (1, 1, 6)), (7, 1, .i2l, 0, 0, .inl .null), (8, 1, .lastore, 0, 0, .inl .null), (9, 3, .goto 9, 18, 0, .inl .null), (12, 1, .astore_n 3, 3, 0, .inl .null), (13, 1, .iconst 1, 0, 0, .inl (.int 1)), (14, 1, .ireturn, 0, 0, .inl .null), (15, 1, .astore_n 3, 3, 0, .inl .null), (16, 1, .iconst 2, 0, 0, .inl (.int 2)), (17, 1, .ireturn, 0, 0, .inl .null), (18, 1, .iconst 0, 0, 0, .inl (.int 0)), (19, 1, .ireturn, 0, 0, .inl .null)]
def cd_L_diagonal : List gE := [(0, 1, .aload_n 2, 2, 0, .inl .null), (1, 1, .iconst 0, 0, 0, .inl (.int 0)), (2, 1, .aload_n 0, 0, 0, .inl .null), (3, 1, .iload_n 1, 1, 0, .inl .null), (4, 3, .invokevirtual 17, 59, 50, .inr (1, 2, 12)), (7, 1, .i2l, 0, 0, .inl .null), (8, 1, .lastore, 0, 0, .inl .null), (9, 3, .goto 9, 18, 0, .inl .null), (12, 1, .astore_n 3, 3, 0, .inl .null), (13, 1, .iconst 1, 0, 0, .inl (.int 1)), (14, 1, .ireturn, 0, 0, .inl .null), (15, 1, .astore_n 3, 3, 0, .inl .null), (16, 1, .iconst 2, 0, 0, .inl (.int 2)), (17, 1, .ireturn, 0, 0, .inl .null), (18, 1, .iconst 0, 0, 0, .inl (.int 0)), (19, 1, .ireturn, 0, 0, .inl .null)]
def cd_L_entry : List gE := [(0, 1, .aload_n 3, 3, 0, .inl .null), (1, 1, .iconst 0, 0, 0, .inl (.int 0)), (2, 1, .aload_n 0, 0, 0, .inl .null), (3, 1, .iload_n 1, 1, 0, .inl .null), (4, 1, .iload_n 2, 2, 0, .inl .null), (5, 3, .invokevirtual 22, 60, 51, .inr (1, 3, 18)), (8, 1, .i2l, 0, 0, .inl .null), (9, 1, .lastore, 0, 0, .inl .null), (10, 3, .goto 11, 21, 0, .inl .null), (13, 2, .astore 4, 4, 0, .inl .null), (15, 1, .iconst 1, 0, 0, .inl (.int 1)), (16, 1, .ireturn, 0, 0, .inl .null), (17, 2, .astore 4, 4, 0, .inl .null), (19, 1, .iconst 2, 0, 0, .inl (.int 2)), (20, 1, .ireturn, 0, 0, .inl .null), (21, 1, .iconst 0, 0, 0, .inl (.int 0)), (22, 1, .ireturn, 0, 0, .inl .null)]
def cd_L_side : List gE := [(0, 1, .aload_n 2, 2, 0, .inl .null), (1, 1, .iconst 0, 0, 0, .inl (.int 0)), (2, 1, .aload_n 0, 0, 0, .inl .null), (3, 1, .iload_n 1, 1, 0, .inl .null), (4, 3, .invokevirtual 26, 61, 50, .inr (1, 2, 12)), (7, 1, .i2l, 0, 0, .inl .null), (8, 1, .lastore, 0, 0, .inl .null), (9, 3, .goto 9, 18, 0, .inl .null), (12, 1, .astore_n 3, 3, 0, .inl .null), (13, 1, .iconst 1, 0, 0, .inl (.int 1)), (14, 1, .ireturn, 0, 0, .inl .null), (15, 1, .astore_n 3, 3, 0, .inl .null), (16, 1, .iconst 2, 0, 0, .inl (.int 2)), (17, 1, .ireturn, 0, 0, .inl .null), (18, 1, .iconst 0, 0, 0, .inl (.int 0)), (19, 1, .ireturn, 0, 0, .inl .null)]
def cd_L_probe : List gE := [(0, 1, .aload_n 2, 2, 0, .inl .null), (1, 1, .iconst 0, 0, 0, .inl (.int 0)), (2, 1, .aload_n 0, 0, 0, .inl .null), (3, 1, .iload_n 1, 1, 0, .inl .null), (4, 3, .invokevirtual 29, 62, 50, .inr (1, 2, 12)), (7, 1, .i2l, 0, 0, .inl .null), (8, 1, .lastore, 0, 0, .inl .null), (9, 3, .goto 9, 18, 0, .inl .null), (12, 1, .astore_n 3, 3, 0, .inl .null), (13, 1, .iconst 1, 0, 0, .inl (.int 1)), (14, 1, .ireturn, 0, 0, .inl .null), (15, 1, .astore_n 3, 3, 0, .inl .null), (16, 1, .iconst 2, 0, 0, .inl (.int 2)), (17, 1, .ireturn, 0, 0, .inl .null), (18, 1, .iconst 0, 0, 0, .inl (.int 0)), (19, 1, .ireturn, 0, 0, .inl .null)]
def cd_L_minor : List gE := [(0, 1, .aload_n 2, 2, 0, .inl .null), (1, 1, .iconst 0, 0, 0, .inl (.int 0)), (2, 1, .aload_n 0, 0, 0, .inl .null), (3, 1, .iload_n 1, 1, 0, .inl .null), (4, 3, .invokevirtual 32, 63, 50, .inr (1, 2, 12)), (7, 1, .i2l, 0, 0, .inl .null), (8, 1, .lastore, 0, 0, .inl .null), (9, 3, .goto 9, 18, 0, .inl .null), (12, 1, .astore_n 3, 3, 0, .inl .null), (13, 1, .iconst 1, 0, 0, .inl (.int 1)), (14, 1, .ireturn, 0, 0, .inl .null), (15, 1, .astore_n 3, 3, 0, .inl .null), (16, 1, .iconst 2, 0, 0, .inl (.int 2)), (17, 1, .ireturn, 0, 0, .inl .null), (18, 1, .iconst 0, 0, 0, .inl (.int 0)), (19, 1, .ireturn, 0, 0, .inl .null)]
def cd_L_rank : List gE := [(0, 1, .aload_n 1, 1, 0, .inl .null), (1, 1, .iconst 0, 0, 0, .inl (.int 0)), (2, 1, .aload_n 0, 0, 0, .inl .null), (3, 3, .invokevirtual 35, 64, 49, .inr (1, 1, 6)), (6, 1, .i2l, 0, 0, .inl .null), (7, 1, .lastore, 0, 0, .inl .null), (8, 3, .goto 6, 14, 0, .inl .null), (11, 1, .astore_n 2, 2, 0, .inl .null), (12, 1, .iconst 1, 0, 0, .inl (.int 1)), (13, 1, .ireturn, 0, 0, .inl .null), (14, 1, .iconst 0, 0, 0, .inl (.int 0)), (15, 1, .ireturn, 0, 0, .inl .null)]
def cd_L_isRegular : List gE := [(0, 1, .aload_n 1, 1, 0, .inl .null), (1, 1, .iconst 0, 0, 0, .inl (.int 0)), (2, 1, .aload_n 0, 0, 0, .inl .null), (3, 3, .invokevirtual 39, 65, 49, .inr (1, 1, 6)), (6, 3, .ifCond .eq 7, 13, 0, .inl .null), (9, 1, .lconst 1, 0, 0, .inl (.long 1)), (10, 3, .goto 4, 14, 0, .inl .null), (13, 1, .lconst 0, 0, 0, .inl (.long 0)), (14, 1, .lastore, 0, 0, .inl .null), (15, 3, .goto 6, 21, 0, .inl .null), (18, 1, .astore_n 2, 2, 0, .inl .null), (19, 1, .iconst 1, 0, 0, .inl (.int 1)), (20, 1, .ireturn, 0, 0, .inl .null), (21, 1, .iconst 0, 0, 0, .inl (.int 0)), (22, 1, .ireturn, 0, 0, .inl .null)]
def cd_L_steps : List gE := [(0, 1, .aload_n 1, 1, 0, .inl .null), (1, 1, .iconst 0, 0, 0, .inl (.int 0)), (2, 1, .aload_n 0, 0, 0, .inl .null), (3, 3, .invokevirtual 43, 66, 49, .inr (1, 1, 6)), (6, 1, .i2l, 0, 0, .inl .null), (7, 1, .lastore, 0, 0, .inl .null), (8, 3, .goto 6, 14, 0, .inl .null), (11, 1, .astore_n 2, 2, 0, .inl .null), (12, 1, .iconst 1, 0, 0, .inl (.int 1)), (13, 1, .ireturn, 0, 0, .inl .null), (14, 1, .iconst 0, 0, 0, .inl (.int 0)), (15, 1, .ireturn, 0, 0, .inl .null)]
def cd_L_stepEnd : List gE := [(0, 1, .aload_n 2, 2, 0, .inl .null), (1, 1, .iconst 0, 0, 0, .inl (.int 0)), (2, 1, .aload_n 0, 0, 0, .inl .null), (3, 1, .iload_n 1, 1, 0, .inl .null), (4, 3, .invokevirtual 46, 67, 50, .inr (1, 2, 12)), (7, 1, .i2l, 0, 0, .inl .null), (8, 1, .lastore, 0, 0, .inl .null), (9, 3, .goto 9, 18, 0, .inl .null), (12, 1, .astore_n 3, 3, 0, .inl .null), (13, 1, .iconst 1, 0, 0, .inl (.int 1)), (14, 1, .ireturn, 0, 0, .inl .null), (15, 1, .astore_n 3, 3, 0, .inl .null), (16, 1, .iconst 2, 0, 0, .inl (.int 2)), (17, 1, .ireturn, 0, 0, .inl .null), (18, 1, .iconst 0, 0, 0, .inl (.int 0)), (19, 1, .ireturn, 0, 0, .inl .null)]
def cd_L_longestJump : List gE := [(0, 1, .aload_n 1, 1, 0, .inl .null), (1, 1, .iconst 0, 0, 0, .inl (.int 0)), (2, 1, .aload_n 0, 0, 0, .inl .null), (3, 3, .invokevirtual 49, 68, 49, .inr (1, 1, 6)), (6, 1, .i2l, 0, 0, .inl .null), (7, 1, .lastore, 0, 0, .inl .null), (8, 3, .goto 6, 14, 0, .inl .null), (11, 1, .astore_n 2, 2, 0, .inl .null), (12, 1, .iconst 1, 0, 0, .inl (.int 1)), (13, 1, .ireturn, 0, 0, .inl .null), (14, 1, .iconst 0, 0, 0, .inl (.int 0)), (15, 1, .ireturn, 0, 0, .inl .null)]
def cd_L_tail : List gE := [(0, 1, .aload_n 1, 1, 0, .inl .null), (1, 1, .iconst 0, 0, 0, .inl (.int 0)), (2, 1, .aload_n 0, 0, 0, .inl .null), (3, 3, .invokevirtual 52, 69, 49, .inr (1, 1, 6)), (6, 1, .i2l, 0, 0, .inl .null), (7, 1, .lastore, 0, 0, .inl .null), (8, 3, .goto 6, 14, 0, .inl .null), (11, 1, .astore_n 2, 2, 0, .inl .null), (12, 1, .iconst 1, 0, 0, .inl (.int 1)), (13, 1, .ireturn, 0, 0, .inl .null), (14, 1, .iconst 0, 0, 0, .inl (.int 0)), (15, 1, .ireturn, 0, 0, .inl .null)]
def cd_L_regularPrimes : List gE := [(0, 1, .aload_n 1, 1, 0, .inl .null), (1, 1, .iconst 0, 0, 0, .inl (.int 0)), (2, 1, .aload_n 0, 0, 0, .inl .null), (3, 3, .invokevirtual 55, 70, 49, .inr (1, 1, 6)), (6, 1, .i2l, 0, 0, .inl .null), (7, 1, .lastore, 0, 0, .inl .null), (8, 3, .goto 6, 14, 0, .inl .null), (11, 1, .astore_n 2, 2, 0, .inl .null), (12, 1, .iconst 1, 0, 0, .inl (.int 1)), (13, 1, .ireturn, 0, 0, .inl .null), (14, 1, .iconst 0, 0, 0, .inl (.int 0)), (15, 1, .ireturn, 0, 0, .inl .null)]
def cd_L_minorIf : List gE := [(0, 2, .aload 4, 4, 0, .inl .null), (2, 1, .iconst 0, 0, 0, .inl (.int 0)), (3, 1, .aload_n 0, 0, 0, .inl .null), (4, 1, .iload_n 1, 1, 0, .inl .null), (5, 1, .iload_n 2, 2, 0, .inl .null), (6, 1, .iload_n 3, 3, 0, .inl .null), (7, 3, .invokevirtual 58, 71, 52, .inr (1, 4, 24)), (10, 1, .i2l, 0, 0, .inl .null), (11, 1, .lastore, 0, 0, .inl .null), (12, 3, .goto 15, 27, 0, .inl .null), (15, 2, .astore 5, 5, 0, .inl .null), (17, 1, .iconst 1, 0, 0, .inl (.int 1)), (18, 1, .ireturn, 0, 0, .inl .null), (19, 2, .astore 5, 5, 0, .inl .null), (21, 1, .iconst 2, 0, 0, .inl (.int 2)), (22, 1, .ireturn, 0, 0, .inl .null), (23, 2, .astore 5, 5, 0, .inl .null), (25, 1, .iconst 3, 0, 0, .inl (.int 3)), (26, 1, .ireturn, 0, 0, .inl .null), (27, 1, .iconst 0, 0, 0, .inl (.int 0)), (28, 1, .ireturn, 0, 0, .inl .null)]
def cd_L_schur : List gE := [(0, 2, .aload 4, 4, 0, .inl .null), (2, 1, .iconst 0, 0, 0, .inl (.int 0)), (3, 1, .aload_n 0, 0, 0, .inl .null), (4, 1, .iload_n 1, 1, 0, .inl .null), (5, 1, .iload_n 2, 2, 0, .inl .null), (6, 1, .iload_n 3, 3, 0, .inl .null), (7, 3, .invokevirtual 62, 72, 52, .inr (1, 4, 24)), (10, 1, .i2l, 0, 0, .inl .null), (11, 1, .lastore, 0, 0, .inl .null), (12, 3, .goto 11, 23, 0, .inl .null), (15, 2, .astore 5, 5, 0, .inl .null), (17, 1, .iconst 1, 0, 0, .inl (.int 1)), (18, 1, .ireturn, 0, 0, .inl .null), (19, 2, .astore 5, 5, 0, .inl .null), (21, 1, .iconst 2, 0, 0, .inl (.int 2)), (22, 1, .ireturn, 0, 0, .inl .null), (23, 1, .iconst 0, 0, 0, .inl (.int 0)), (24, 1, .ireturn, 0, 0, .inl .null)]
def cd_L_displacement : List gE := [(0, 2, .aload 4, 4, 0, .inl .null), (2, 1, .iconst 0, 0, 0, .inl (.int 0)), (3, 1, .aload_n 0, 0, 0, .inl .null), (4, 1, .iload_n 1, 1, 0, .inl .null), (5, 1, .iload_n 2, 2, 0, .inl .null), (6, 1, .iload_n 3, 3, 0, .inl .null), (7, 3, .invokevirtual 65, 73, 52, .inr (1, 4, 24)), (10, 1, .i2l, 0, 0, .inl .null), (11, 1, .lastore, 0, 0, .inl .null), (12, 3, .goto 11, 23, 0, .inl .null), (15, 2, .astore 5, 5, 0, .inl .null), (17, 1, .iconst 1, 0, 0, .inl (.int 1)), (18, 1, .ireturn, 0, 0, .inl .null), (19, 2, .astore 5, 5, 0, .inl .null), (21, 1, .iconst 2, 0, 0, .inl (.int 2)), (22, 1, .ireturn, 0, 0, .inl .null), (23, 1, .iconst 0, 0, 0, .inl (.int 0)), (24, 1, .ireturn, 0, 0, .inl .null)]
def cd_L_generators : List gE := [(0, 1, .aload_n 2, 2, 0, .inl .null), (1, 1, .iconst 0, 0, 0, .inl (.int 0)), (2, 1, .aload_n 0, 0, 0, .inl .null), (3, 1, .iload_n 1, 1, 0, .inl .null), (4, 3, .invokevirtual 68, 74, 50, .inr (1, 2, 12)), (7, 1, .i2l, 0, 0, .inl .null), (8, 1, .lastore, 0, 0, .inl .null), (9, 3, .goto 9, 18, 0, .inl .null), (12, 1, .astore_n 3, 3, 0, .inl .null), (13, 1, .iconst 1, 0, 0, .inl (.int 1)), (14, 1, .ireturn, 0, 0, .inl .null), (15, 1, .astore_n 3, 3, 0, .inl .null), (16, 1, .iconst 2, 0, 0, .inl (.int 2)), (17, 1, .ireturn, 0, 0, .inl .null), (18, 1, .iconst 0, 0, 0, .inl (.int 0)), (19, 1, .ireturn, 0, 0, .inl .null)]
def cd_L_generator : List gE := [(0, 2, .aload 5, 5, 0, .inl .null), (2, 1, .iconst 0, 0, 0, .inl (.int 0)), (3, 1, .aload_n 0, 0, 0, .inl .null), (4, 1, .iload_n 1, 1, 0, .inl .null), (5, 1, .iload_n 2, 2, 0, .inl .null), (6, 1, .iload_n 3, 3, 0, .inl .null), (7, 2, .iload 4, 4, 0, .inl .null), (9, 3, .invokevirtual 71, 75, 53, .inr (1, 4, 24)), (12, 1, .i2l, 0, 0, .inl .null), (13, 1, .lastore, 0, 0, .inl .null), (14, 3, .goto 11, 25, 0, .inl .null), (17, 2, .astore 6, 6, 0, .inl .null), (19, 1, .iconst 1, 0, 0, .inl (.int 1)), (20, 1, .ireturn, 0, 0, .inl .null), (21, 2, .astore 6, 6, 0, .inl .null), (23, 1, .iconst 2, 0, 0, .inl (.int 2)), (24, 1, .ireturn, 0, 0, .inl .null), (25, 1, .iconst 0, 0, 0, .inl (.int 0)), (26, 1, .ireturn, 0, 0, .inl .null)]
def cd_L_mostGenerators : List gE := [(0, 1, .aload_n 1, 1, 0, .inl .null), (1, 1, .iconst 0, 0, 0, .inl (.int 0)), (2, 1, .aload_n 0, 0, 0, .inl .null), (3, 3, .invokevirtual 75, 76, 49, .inr (1, 1, 6)), (6, 1, .i2l, 0, 0, .inl .null), (7, 1, .lastore, 0, 0, .inl .null), (8, 3, .goto 6, 14, 0, .inl .null), (11, 1, .astore_n 2, 2, 0, .inl .null), (12, 1, .iconst 1, 0, 0, .inl (.int 1)), (13, 1, .ireturn, 0, 0, .inl .null), (14, 1, .iconst 0, 0, 0, .inl (.int 0)), (15, 1, .ireturn, 0, 0, .inl .null)]
def cd_L_solution : List gE := [(0, 1, .aload_n 2, 2, 0, .inl .null), (1, 1, .iconst 0, 0, 0, .inl (.int 0)), (2, 1, .aload_n 0, 0, 0, .inl .null), (3, 1, .iload_n 1, 1, 0, .inl .null), (4, 3, .invokevirtual 78, 77, 50, .inr (1, 3, 18)), (7, 1, .i2l, 0, 0, .inl .null), (8, 1, .lastore, 0, 0, .inl .null), (9, 3, .goto 12, 21, 0, .inl .null), (12, 1, .astore_n 3, 3, 0, .inl .null), (13, 1, .iconst 1, 0, 0, .inl (.int 1)), (14, 1, .ireturn, 0, 0, .inl .null), (15, 1, .astore_n 3, 3, 0, .inl .null), (16, 1, .iconst 2, 0, 0, .inl (.int 2)), (17, 1, .ireturn, 0, 0, .inl .null), (18, 1, .astore_n 3, 3, 0, .inl .null), (19, 1, .iconst 3, 0, 0, .inl (.int 3)), (20, 1, .ireturn, 0, 0, .inl .null), (21, 1, .iconst 0, 0, 0, .inl (.int 0)), (22, 1, .ireturn, 0, 0, .inl .null)]
def cd_L_inverse : List gE := [(0, 1, .aload_n 3, 3, 0, .inl .null), (1, 1, .iconst 0, 0, 0, .inl (.int 0)), (2, 1, .aload_n 0, 0, 0, .inl .null), (3, 1, .iload_n 1, 1, 0, .inl .null), (4, 1, .iload_n 2, 2, 0, .inl .null), (5, 3, .invokevirtual 81, 78, 51, .inr (1, 4, 24)), (8, 1, .i2l, 0, 0, .inl .null), (9, 1, .lastore, 0, 0, .inl .null), (10, 3, .goto 15, 25, 0, .inl .null), (13, 2, .astore 4, 4, 0, .inl .null), (15, 1, .iconst 1, 0, 0, .inl (.int 1)), (16, 1, .ireturn, 0, 0, .inl .null), (17, 2, .astore 4, 4, 0, .inl .null), (19, 1, .iconst 2, 0, 0, .inl (.int 2)), (20, 1, .ireturn, 0, 0, .inl .null), (21, 2, .astore 4, 4, 0, .inl .null), (23, 1, .iconst 3, 0, 0, .inl (.int 3)), (24, 1, .ireturn, 0, 0, .inl .null), (25, 1, .iconst 0, 0, 0, .inl (.int 0)), (26, 1, .ireturn, 0, 0, .inl .null)]
def cd_L_kernel : List gE := [(0, 1, .aload_n 2, 2, 0, .inl .null), (1, 1, .iconst 0, 0, 0, .inl (.int 0)), (2, 1, .aload_n 0, 0, 0, .inl .null), (3, 1, .iload_n 1, 1, 0, .inl .null), (4, 3, .invokevirtual 84, 79, 50, .inr (1, 3, 18)), (7, 1, .i2l, 0, 0, .inl .null), (8, 1, .lastore, 0, 0, .inl .null), (9, 3, .goto 12, 21, 0, .inl .null), (12, 1, .astore_n 3, 3, 0, .inl .null), (13, 1, .iconst 1, 0, 0, .inl (.int 1)), (14, 1, .ireturn, 0, 0, .inl .null), (15, 1, .astore_n 3, 3, 0, .inl .null), (16, 1, .iconst 2, 0, 0, .inl (.int 2)), (17, 1, .ireturn, 0, 0, .inl .null), (18, 1, .astore_n 3, 3, 0, .inl .null), (19, 1, .iconst 3, 0, 0, .inl (.int 3)), (20, 1, .ireturn, 0, 0, .inl .null), (21, 1, .iconst 0, 0, 0, .inl (.int 0)), (22, 1, .ireturn, 0, 0, .inl .null)]
def cd_L_isSolvable : List gE := [(0, 1, .aload_n 1, 1, 0, .inl .null), (1, 1, .iconst 0, 0, 0, .inl (.int 0)), (2, 1, .aload_n 0, 0, 0, .inl .null), (3, 3, .invokevirtual 87, 80, 49, .inr (1, 1, 6)), (6, 3, .ifCond .eq 7, 13, 0, .inl .null), (9, 1, .lconst 1, 0, 0, .inl (.long 1)), (10, 3, .goto 4, 14, 0, .inl .null), (13, 1, .lconst 0, 0, 0, .inl (.long 0)), (14, 1, .lastore, 0, 0, .inl .null), (15, 3, .goto 6, 21, 0, .inl .null), (18, 1, .astore_n 2, 2, 0, .inl .null), (19, 1, .iconst 1, 0, 0, .inl (.int 1)), (20, 1, .ireturn, 0, 0, .inl .null), (21, 1, .iconst 0, 0, 0, .inl (.int 0)), (22, 1, .ireturn, 0, 0, .inl .null)]
def cd_L_digits : List gE := [(0, 1, .aload_n 1, 1, 0, .inl .null), (1, 1, .iconst 0, 0, 0, .inl (.int 0)), (2, 1, .aload_n 0, 0, 0, .inl .null), (3, 3, .invokevirtual 90, 81, 49, .inr (1, 1, 6)), (6, 1, .i2l, 0, 0, .inl .null), (7, 1, .lastore, 0, 0, .inl .null), (8, 3, .goto 6, 14, 0, .inl .null), (11, 1, .astore_n 2, 2, 0, .inl .null), (12, 1, .iconst 1, 0, 0, .inl (.int 1)), (13, 1, .ireturn, 0, 0, .inl .null), (14, 1, .iconst 0, 0, 0, .inl (.int 0)), (15, 1, .ireturn, 0, 0, .inl .null)]
def cd_L_mostDigits : List gE := [(0, 1, .aload_n 1, 1, 0, .inl .null), (1, 1, .iconst 0, 0, 0, .inl (.int 0)), (2, 1, .aload_n 0, 0, 0, .inl .null), (3, 3, .invokevirtual 93, 82, 49, .inr (1, 1, 6)), (6, 1, .i2l, 0, 0, .inl .null), (7, 1, .lastore, 0, 0, .inl .null), (8, 3, .goto 6, 14, 0, .inl .null), (11, 1, .astore_n 2, 2, 0, .inl .null), (12, 1, .iconst 1, 0, 0, .inl (.int 1)), (13, 1, .ireturn, 0, 0, .inl .null), (14, 1, .iconst 0, 0, 0, .inl (.int 0)), (15, 1, .ireturn, 0, 0, .inl .null)]
def cd_L_digit : List gE := [(0, 1, .aload_n 3, 3, 0, .inl .null), (1, 1, .iconst 0, 0, 0, .inl (.int 0)), (2, 1, .aload_n 0, 0, 0, .inl .null), (3, 1, .iload_n 1, 1, 0, .inl .null), (4, 1, .iload_n 2, 2, 0, .inl .null), (5, 3, .invokevirtual 96, 83, 51, .inr (1, 3, 18)), (8, 1, .i2l, 0, 0, .inl .null), (9, 1, .lastore, 0, 0, .inl .null), (10, 3, .goto 11, 21, 0, .inl .null), (13, 2, .astore 4, 4, 0, .inl .null), (15, 1, .iconst 1, 0, 0, .inl (.int 1)), (16, 1, .ireturn, 0, 0, .inl .null), (17, 2, .astore 4, 4, 0, .inl .null), (19, 1, .iconst 2, 0, 0, .inl (.int 2)), (20, 1, .ireturn, 0, 0, .inl .null), (21, 1, .iconst 0, 0, 0, .inl (.int 0)), (22, 1, .ireturn, 0, 0, .inl .null)]
def cd_L_residual : List gE := [(0, 1, .aload_n 2, 2, 0, .inl .null), (1, 1, .iconst 0, 0, 0, .inl (.int 0)), (2, 1, .aload_n 0, 0, 0, .inl .null), (3, 1, .iload_n 1, 1, 0, .inl .null), (4, 3, .invokevirtual 99, 84, 50, .inr (1, 2, 12)), (7, 1, .i2l, 0, 0, .inl .null), (8, 1, .lastore, 0, 0, .inl .null), (9, 3, .goto 9, 18, 0, .inl .null), (12, 1, .astore_n 3, 3, 0, .inl .null), (13, 1, .iconst 1, 0, 0, .inl (.int 1)), (14, 1, .ireturn, 0, 0, .inl .null), (15, 1, .astore_n 3, 3, 0, .inl .null), (16, 1, .iconst 2, 0, 0, .inl (.int 2)), (17, 1, .ireturn, 0, 0, .inl .null), (18, 1, .iconst 0, 0, 0, .inl (.int 0)), (19, 1, .ireturn, 0, 0, .inl .null)]
def cd_L_value : List gE := [(0, 1, .aload_n 2, 2, 0, .inl .null), (1, 1, .iconst 0, 0, 0, .inl (.int 0)), (2, 1, .aload_n 0, 0, 0, .inl .null), (3, 1, .iload_n 1, 1, 0, .inl .null), (4, 3, .invokevirtual 102, 85, 50, .inr (2, 2, 12)), (7, 1, .lastore, 0, 0, .inl .null), (8, 3, .goto 9, 17, 0, .inl .null), (11, 1, .astore_n 3, 3, 0, .inl .null), (12, 1, .iconst 1, 0, 0, .inl (.int 1)), (13, 1, .ireturn, 0, 0, .inl .null), (14, 1, .astore_n 3, 3, 0, .inl .null), (15, 1, .iconst 2, 0, 0, .inl (.int 2)), (16, 1, .ireturn, 0, 0, .inl .null), (17, 1, .iconst 0, 0, 0, .inl (.int 0)), (18, 1, .ireturn, 0, 0, .inl .null)]
def cd_L_centred : List gE := [(0, 1, .aload_n 2, 2, 0, .inl .null), (1, 1, .iconst 0, 0, 0, .inl (.int 0)), (2, 1, .aload_n 0, 0, 0, .inl .null), (3, 1, .iload_n 1, 1, 0, .inl .null), (4, 3, .invokevirtual 106, 86, 50, .inr (2, 2, 12)), (7, 1, .lastore, 0, 0, .inl .null), (8, 3, .goto 9, 17, 0, .inl .null), (11, 1, .astore_n 3, 3, 0, .inl .null), (12, 1, .iconst 1, 0, 0, .inl (.int 1)), (13, 1, .ireturn, 0, 0, .inl .null), (14, 1, .astore_n 3, 3, 0, .inl .null), (15, 1, .iconst 2, 0, 0, .inl (.int 2)), (16, 1, .ireturn, 0, 0, .inl .null), (17, 1, .iconst 0, 0, 0, .inl (.int 0)), (18, 1, .ireturn, 0, 0, .inl .null)]
def cd_L_numerator : List gE := [(0, 1, .aload_n 2, 2, 0, .inl .null), (1, 1, .iconst 0, 0, 0, .inl (.int 0)), (2, 1, .aload_n 0, 0, 0, .inl .null), (3, 1, .iload_n 1, 1, 0, .inl .null), (4, 3, .invokevirtual 109, 87, 50, .inr (1, 3, 18)), (7, 1, .i2l, 0, 0, .inl .null), (8, 1, .lastore, 0, 0, .inl .null), (9, 3, .goto 12, 21, 0, .inl .null), (12, 1, .astore_n 3, 3, 0, .inl .null), (13, 1, .iconst 1, 0, 0, .inl (.int 1)), (14, 1, .ireturn, 0, 0, .inl .null), (15, 1, .astore_n 3, 3, 0, .inl .null), (16, 1, .iconst 2, 0, 0, .inl (.int 2)), (17, 1, .ireturn, 0, 0, .inl .null), (18, 1, .astore_n 3, 3, 0, .inl .null), (19, 1, .iconst 3, 0, 0, .inl (.int 3)), (20, 1, .ireturn, 0, 0, .inl .null), (21, 1, .iconst 0, 0, 0, .inl (.int 0)), (22, 1, .ireturn, 0, 0, .inl .null)]
def cd_L_denominator : List gE := [(0, 1, .aload_n 2, 2, 0, .inl .null), (1, 1, .iconst 0, 0, 0, .inl (.int 0)), (2, 1, .aload_n 0, 0, 0, .inl .null), (3, 1, .iload_n 1, 1, 0, .inl .null), (4, 3, .invokevirtual 112, 88, 50, .inr (1, 2, 12)), (7, 1, .i2l, 0, 0, .inl .null), (8, 1, .lastore, 0, 0, .inl .null), (9, 3, .goto 9, 18, 0, .inl .null), (12, 1, .astore_n 3, 3, 0, .inl .null), (13, 1, .iconst 1, 0, 0, .inl (.int 1)), (14, 1, .ireturn, 0, 0, .inl .null), (15, 1, .astore_n 3, 3, 0, .inl .null), (16, 1, .iconst 2, 0, 0, .inl (.int 2)), (17, 1, .ireturn, 0, 0, .inl .null), (18, 1, .iconst 0, 0, 0, .inl (.int 0)), (19, 1, .ireturn, 0, 0, .inl .null)]
def cd_L_quotient : List gE := [(0, 1, .aload_n 2, 2, 0, .inl .null), (1, 1, .iconst 0, 0, 0, .inl (.int 0)), (2, 1, .aload_n 0, 0, 0, .inl .null), (3, 1, .iload_n 1, 1, 0, .inl .null), (4, 3, .invokevirtual 115, 89, 50, .inr (3, 3, 18)), (7, 1, .dastore, 0, 0, .inl .null), (8, 3, .goto 12, 20, 0, .inl .null), (11, 1, .astore_n 3, 3, 0, .inl .null), (12, 1, .iconst 1, 0, 0, .inl (.int 1)), (13, 1, .ireturn, 0, 0, .inl .null), (14, 1, .astore_n 3, 3, 0, .inl .null), (15, 1, .iconst 2, 0, 0, .inl (.int 2)), (16, 1, .ireturn, 0, 0, .inl .null), (17, 1, .astore_n 3, 3, 0, .inl .null), (18, 1, .iconst 3, 0, 0, .inl (.int 3)), (19, 1, .ireturn, 0, 0, .inl .null), (20, 1, .iconst 0, 0, 0, .inl (.int 0)), (21, 1, .ireturn, 0, 0, .inl .null)]
def cd_L_isExact : List gE := [(0, 1, .aload_n 1, 1, 0, .inl .null), (1, 1, .iconst 0, 0, 0, .inl (.int 0)), (2, 1, .aload_n 0, 0, 0, .inl .null), (3, 3, .invokevirtual 119, 90, 49, .inr (1, 1, 6)), (6, 3, .ifCond .eq 7, 13, 0, .inl .null), (9, 1, .lconst 1, 0, 0, .inl (.long 1)), (10, 3, .goto 4, 14, 0, .inl .null), (13, 1, .lconst 0, 0, 0, .inl (.long 0)), (14, 1, .lastore, 0, 0, .inl .null), (15, 3, .goto 6, 21, 0, .inl .null), (18, 1, .astore_n 2, 2, 0, .inl .null), (19, 1, .iconst 1, 0, 0, .inl (.int 1)), (20, 1, .ireturn, 0, 0, .inl .null), (21, 1, .iconst 0, 0, 0, .inl (.int 0)), (22, 1, .ireturn, 0, 0, .inl .null)]
def cd_L_liftsTo : List gE := [(0, 1, .aload_n 1, 1, 0, .inl .null), (1, 1, .iconst 0, 0, 0, .inl (.int 0)), (2, 1, .aload_n 0, 0, 0, .inl .null), (3, 3, .invokevirtual 122, 91, 49, .inr (1, 1, 6)), (6, 1, .i2l, 0, 0, .inl .null), (7, 1, .lastore, 0, 0, .inl .null), (8, 3, .goto 6, 14, 0, .inl .null), (11, 1, .astore_n 2, 2, 0, .inl .null), (12, 1, .iconst 1, 0, 0, .inl (.int 1)), (13, 1, .ireturn, 0, 0, .inl .null), (14, 1, .iconst 0, 0, 0, .inl (.int 0)), (15, 1, .ireturn, 0, 0, .inl .null)]
def cd_L_product : List gE := [(0, 1, .aload_n 2, 2, 0, .inl .null), (1, 1, .iconst 0, 0, 0, .inl (.int 0)), (2, 1, .aload_n 0, 0, 0, .inl .null), (3, 1, .iload_n 1, 1, 0, .inl .null), (4, 3, .invokevirtual 125, 92, 50, .inr (1, 2, 12)), (7, 1, .i2l, 0, 0, .inl .null), (8, 1, .lastore, 0, 0, .inl .null), (9, 3, .goto 9, 18, 0, .inl .null), (12, 1, .astore_n 3, 3, 0, .inl .null), (13, 1, .iconst 1, 0, 0, .inl (.int 1)), (14, 1, .ireturn, 0, 0, .inl .null), (15, 1, .astore_n 3, 3, 0, .inl .null), (16, 1, .iconst 2, 0, 0, .inl (.int 2)), (17, 1, .ireturn, 0, 0, .inl .null), (18, 1, .iconst 0, 0, 0, .inl (.int 0)), (19, 1, .ireturn, 0, 0, .inl .null)]
def cd_L_circulant : List gE := [(0, 1, .aload_n 3, 3, 0, .inl .null), (1, 1, .iconst 0, 0, 0, .inl (.int 0)), (2, 1, .aload_n 0, 0, 0, .inl .null), (3, 1, .iload_n 1, 1, 0, .inl .null), (4, 1, .iload_n 2, 2, 0, .inl .null), (5, 3, .invokevirtual 128, 93, 51, .inr (1, 3, 18)), (8, 1, .i2l, 0, 0, .inl .null), (9, 1, .lastore, 0, 0, .inl .null), (10, 3, .goto 11, 21, 0, .inl .null), (13, 2, .astore 4, 4, 0, .inl .null), (15, 1, .iconst 1, 0, 0, .inl (.int 1)), (16, 1, .ireturn, 0, 0, .inl .null), (17, 2, .astore 4, 4, 0, .inl .null), (19, 1, .iconst 2, 0, 0, .inl (.int 2)), (20, 1, .ireturn, 0, 0, .inl .null), (21, 1, .iconst 0, 0, 0, .inl (.int 0)), (22, 1, .ireturn, 0, 0, .inl .null)]
def cd_L_wrapped : List gE := [(0, 1, .aload_n 2, 2, 0, .inl .null), (1, 1, .iconst 0, 0, 0, .inl (.int 0)), (2, 1, .aload_n 0, 0, 0, .inl .null), (3, 1, .iload_n 1, 1, 0, .inl .null), (4, 3, .invokevirtual 131, 94, 50, .inr (1, 2, 12)), (7, 1, .i2l, 0, 0, .inl .null), (8, 1, .lastore, 0, 0, .inl .null), (9, 3, .goto 9, 18, 0, .inl .null), (12, 1, .astore_n 3, 3, 0, .inl .null), (13, 1, .iconst 1, 0, 0, .inl (.int 1)), (14, 1, .ireturn, 0, 0, .inl .null), (15, 1, .astore_n 3, 3, 0, .inl .null), (16, 1, .iconst 2, 0, 0, .inl (.int 2)), (17, 1, .ireturn, 0, 0, .inl .null), (18, 1, .iconst 0, 0, 0, .inl (.int 0)), (19, 1, .ireturn, 0, 0, .inl .null)]
def cd_L_probeSolves : List gE := [(0, 1, .aload_n 1, 1, 0, .inl .null), (1, 1, .iconst 0, 0, 0, .inl (.int 0)), (2, 1, .aload_n 0, 0, 0, .inl .null), (3, 3, .invokevirtual 134, 95, 49, .inr (1, 1, 6)), (6, 3, .ifCond .eq 7, 13, 0, .inl .null), (9, 1, .lconst 1, 0, 0, .inl (.long 1)), (10, 3, .goto 4, 14, 0, .inl .null), (13, 1, .lconst 0, 0, 0, .inl (.long 0)), (14, 1, .lastore, 0, 0, .inl .null), (15, 3, .goto 6, 21, 0, .inl .null), (18, 1, .astore_n 2, 2, 0, .inl .null), (19, 1, .iconst 1, 0, 0, .inl (.int 1)), (20, 1, .ireturn, 0, 0, .inl .null), (21, 1, .iconst 0, 0, 0, .inl (.int 0)), (22, 1, .ireturn, 0, 0, .inl .null)]
def cd_L_accountOf : List gE := [(0, 1, .aload_n 3, 3, 0, .inl .null), (1, 1, .iconst 0, 0, 0, .inl (.int 0)), (2, 1, .aload_n 0, 0, 0, .inl .null), (3, 1, .iload_n 1, 1, 0, .inl .null), (4, 1, .iload_n 2, 2, 0, .inl .null), (5, 3, .invokevirtual 137, 97, 51, .inr (1, 2, 12)), (8, 1, .i2l, 0, 0, .inl .null), (9, 1, .lastore, 0, 0, .inl .null), (10, 3, .goto 15, 25, 0, .inl .null), (13, 2, .astore 4, 4, 0, .inl .null), (15, 1, .iconst 1, 0, 0, .inl (.int 1)), (16, 1, .ireturn, 0, 0, .inl .null), (17, 2, .astore 4, 4, 0, .inl .null), (19, 1, .iconst 2, 0, 0, .inl (.int 2)), (20, 1, .ireturn, 0, 0, .inl .null), (21, 2, .astore 4, 4, 0, .inl .null), (23, 1, .iconst 3, 0, 0, .inl (.int 3)), (24, 1, .ireturn, 0, 0, .inl .null), (25, 1, .iconst 0, 0, 0, .inl (.int 0)), (26, 1, .ireturn, 0, 0, .inl .null)]
def cd_L_setDiagonal : List gE := [(0, 1, .aload_n 3, 3, 0, .inl .null), (1, 1, .iconst 0, 0, 0, .inl (.int 0)), (2, 1, .aload_n 0, 0, 0, .inl .null), (3, 1, .iload_n 1, 1, 0, .inl .null), (4, 1, .iload_n 2, 2, 0, .inl .null), (5, 3, .invokevirtual 140, 98, 51, .inr (1, 10, 160)), (8, 1, .i2l, 0, 0, .inl .null), (9, 1, .lastore, 0, 0, .inl .null), (10, 3, .goto 15, 25, 0, .inl .null), (13, 2, .astore 4, 4, 0, .inl .null), (15, 1, .iconst 1, 0, 0, .inl (.int 1)), (16, 1, .ireturn, 0, 0, .inl .null), (17, 2, .astore 4, 4, 0, .inl .null), (19, 1, .iconst 2, 0, 0, .inl (.int 2)), (20, 1, .ireturn, 0, 0, .inl .null), (21, 2, .astore 4, 4, 0, .inl .null), (23, 1, .iconst 3, 0, 0, .inl (.int 3)), (24, 1, .ireturn, 0, 0, .inl .null), (25, 1, .iconst 0, 0, 0, .inl (.int 0)), (26, 1, .ireturn, 0, 0, .inl .null)]
def cd_L_setSide : List gE := [(0, 1, .aload_n 3, 3, 0, .inl .null), (1, 1, .iconst 0, 0, 0, .inl (.int 0)), (2, 1, .aload_n 0, 0, 0, .inl .null), (3, 1, .iload_n 1, 1, 0, .inl .null), (4, 1, .iload_n 2, 2, 0, .inl .null), (5, 3, .invokevirtual 143, 99, 51, .inr (1, 10, 160)), (8, 1, .i2l, 0, 0, .inl .null), (9, 1, .lastore, 0, 0, .inl .null), (10, 3, .goto 15, 25, 0, .inl .null), (13, 2, .astore 4, 4, 0, .inl .null), (15, 1, .iconst 1, 0, 0, .inl (.int 1)), (16, 1, .ireturn, 0, 0, .inl .null), (17, 2, .astore 4, 4, 0, .inl .null), (19, 1, .iconst 2, 0, 0, .inl (.int 2)), (20, 1, .ireturn, 0, 0, .inl .null), (21, 2, .astore 4, 4, 0, .inl .null), (23, 1, .iconst 3, 0, 0, .inl (.int 3)), (24, 1, .ireturn, 0, 0, .inl .null), (25, 1, .iconst 0, 0, 0, .inl (.int 0)), (26, 1, .ireturn, 0, 0, .inl .null)]
def cd_L_setProbe : List gE := [(0, 1, .aload_n 3, 3, 0, .inl .null), (1, 1, .iconst 0, 0, 0, .inl (.int 0)), (2, 1, .aload_n 0, 0, 0, .inl .null), (3, 1, .iload_n 1, 1, 0, .inl .null), (4, 1, .iload_n 2, 2, 0, .inl .null), (5, 3, .invokevirtual 146, 100, 51, .inr (1, 10, 160)), (8, 1, .i2l, 0, 0, .inl .null), (9, 1, .lastore, 0, 0, .inl .null), (10, 3, .goto 15, 25, 0, .inl .null), (13, 2, .astore 4, 4, 0, .inl .null), (15, 1, .iconst 1, 0, 0, .inl (.int 1)), (16, 1, .ireturn, 0, 0, .inl .null), (17, 2, .astore 4, 4, 0, .inl .null), (19, 1, .iconst 2, 0, 0, .inl (.int 2)), (20, 1, .ireturn, 0, 0, .inl .null), (21, 2, .astore 4, 4, 0, .inl .null), (23, 1, .iconst 3, 0, 0, .inl (.int 3)), (24, 1, .ireturn, 0, 0, .inl .null), (25, 1, .iconst 0, 0, 0, .inl (.int 0)), (26, 1, .ireturn, 0, 0, .inl .null)]
def cd_L_setPrime : List gE := [(0, 1, .aload_n 2, 2, 0, .inl .null), (1, 1, .iconst 0, 0, 0, .inl (.int 0)), (2, 1, .aload_n 0, 0, 0, .inl .null), (3, 1, .iload_n 1, 1, 0, .inl .null), (4, 3, .invokevirtual 149, 101, 50, .inr (1, 9, 154)), (7, 1, .i2l, 0, 0, .inl .null), (8, 1, .lastore, 0, 0, .inl .null), (9, 3, .goto 9, 18, 0, .inl .null), (12, 1, .astore_n 3, 3, 0, .inl .null), (13, 1, .iconst 1, 0, 0, .inl (.int 1)), (14, 1, .ireturn, 0, 0, .inl .null), (15, 1, .astore_n 3, 3, 0, .inl .null), (16, 1, .iconst 2, 0, 0, .inl (.int 2)), (17, 1, .ireturn, 0, 0, .inl .null), (18, 1, .iconst 0, 0, 0, .inl (.int 0)), (19, 1, .ireturn, 0, 0, .inl .null)]
def cd_L_grow : List gE := [(0, 2, .aload 4, 4, 0, .inl .null), (2, 1, .iconst 0, 0, 0, .inl (.int 0)), (3, 1, .aload_n 0, 0, 0, .inl .null), (4, 1, .iload_n 1, 1, 0, .inl .null), (5, 1, .iload_n 2, 2, 0, .inl .null), (6, 1, .iload_n 3, 3, 0, .inl .null), (7, 3, .invokevirtual 152, 102, 52, .inr (1, 12, 172)), (10, 1, .i2l, 0, 0, .inl .null), (11, 1, .lastore, 0, 0, .inl .null), (12, 3, .goto 11, 23, 0, .inl .null), (15, 2, .astore 5, 5, 0, .inl .null), (17, 1, .iconst 1, 0, 0, .inl (.int 1)), (18, 1, .ireturn, 0, 0, .inl .null), (19, 2, .astore 5, 5, 0, .inl .null), (21, 1, .iconst 2, 0, 0, .inl (.int 2)), (22, 1, .ireturn, 0, 0, .inl .null), (23, 1, .iconst 0, 0, 0, .inl (.int 0)), (24, 1, .ireturn, 0, 0, .inl .null)]
def cd_L_shrink : List gE := [(0, 1, .aload_n 1, 1, 0, .inl .null), (1, 1, .iconst 0, 0, 0, .inl (.int 0)), (2, 1, .aload_n 0, 0, 0, .inl .null), (3, 3, .invokevirtual 155, 103, 49, .inr (1, 9, 154)), (6, 1, .i2l, 0, 0, .inl .null), (7, 1, .lastore, 0, 0, .inl .null), (8, 3, .goto 9, 17, 0, .inl .null), (11, 1, .astore_n 2, 2, 0, .inl .null), (12, 1, .iconst 1, 0, 0, .inl (.int 1)), (13, 1, .ireturn, 0, 0, .inl .null), (14, 1, .astore_n 2, 2, 0, .inl .null), (15, 1, .iconst 2, 0, 0, .inl (.int 2)), (16, 1, .ireturn, 0, 0, .inl .null), (17, 1, .iconst 0, 0, 0, .inl (.int 0)), (18, 1, .ireturn, 0, 0, .inl .null)]
def cd_L_lift : List gE := [(0, 1, .aload_n 1, 1, 0, .inl .null), (1, 1, .iconst 0, 0, 0, .inl (.int 0)), (2, 1, .aload_n 0, 0, 0, .inl .null), (3, 3, .invokevirtual 158, 104, 49, .inr (1, 10, 160)), (6, 1, .i2l, 0, 0, .inl .null), (7, 1, .lastore, 0, 0, .inl .null), (8, 3, .goto 9, 17, 0, .inl .null), (11, 1, .astore_n 2, 2, 0, .inl .null), (12, 1, .iconst 1, 0, 0, .inl (.int 1)), (13, 1, .ireturn, 0, 0, .inl .null), (14, 1, .astore_n 2, 2, 0, .inl .null), (15, 1, .iconst 2, 0, 0, .inl (.int 2)), (16, 1, .ireturn, 0, 0, .inl .null), (17, 1, .iconst 0, 0, 0, .inl (.int 0)), (18, 1, .ireturn, 0, 0, .inl .null)]
def cd_L_refine : List gE := [(0, 1, .aload_n 2, 2, 0, .inl .null), (1, 1, .iconst 0, 0, 0, .inl (.int 0)), (2, 1, .aload_n 0, 0, 0, .inl .null), (3, 1, .iload_n 1, 1, 0, .inl .null), (4, 3, .invokevirtual 161, 105, 50, .inr (1, 10, 160)), (7, 1, .i2l, 0, 0, .inl .null), (8, 1, .lastore, 0, 0, .inl .null), (9, 3, .goto 9, 18, 0, .inl .null), (12, 1, .astore_n 3, 3, 0, .inl .null), (13, 1, .iconst 1, 0, 0, .inl (.int 1)), (14, 1, .ireturn, 0, 0, .inl .null), (15, 1, .astore_n 3, 3, 0, .inl .null), (16, 1, .iconst 2, 0, 0, .inl (.int 2)), (17, 1, .ireturn, 0, 0, .inl .null), (18, 1, .iconst 0, 0, 0, .inl (.int 0)), (19, 1, .ireturn, 0, 0, .inl .null)]
def cd_L_undo : List gE := [(0, 1, .aload_n 1, 1, 0, .inl .null), (1, 1, .iconst 0, 0, 0, .inl (.int 0)), (2, 1, .aload_n 0, 0, 0, .inl .null), (3, 3, .invokevirtual 164, 106, 49, .inr (1, 1, 6)), (6, 1, .i2l, 0, 0, .inl .null), (7, 1, .lastore, 0, 0, .inl .null), (8, 3, .goto 6, 14, 0, .inl .null), (11, 1, .astore_n 2, 2, 0, .inl .null), (12, 1, .iconst 1, 0, 0, .inl (.int 1)), (13, 1, .ireturn, 0, 0, .inl .null), (14, 1, .iconst 0, 0, 0, .inl (.int 0)), (15, 1, .ireturn, 0, 0, .inl .null)]
def cd_L_save : List gE := [(0, 1, .aload_n 2, 2, 0, .inl .null), (1, 1, .iconst 0, 0, 0, .inl (.int 0)), (2, 1, .aload_n 0, 0, 0, .inl .null), (3, 1, .iload_n 1, 1, 0, .inl .null), (4, 3, .invokevirtual 167, 108, 50, .inr (1, 9, 154)), (7, 1, .i2l, 0, 0, .inl .null), (8, 1, .lastore, 0, 0, .inl .null), (9, 3, .goto 9, 18, 0, .inl .null), (12, 1, .astore_n 3, 3, 0, .inl .null), (13, 1, .iconst 1, 0, 0, .inl (.int 1)), (14, 1, .ireturn, 0, 0, .inl .null), (15, 1, .astore_n 3, 3, 0, .inl .null), (16, 1, .iconst 2, 0, 0, .inl (.int 2)), (17, 1, .ireturn, 0, 0, .inl .null), (18, 1, .iconst 0, 0, 0, .inl (.int 0)), (19, 1, .ireturn, 0, 0, .inl .null)]
def cd_L_restore : List gE := [(0, 1, .aload_n 2, 2, 0, .inl .null), (1, 1, .iconst 0, 0, 0, .inl (.int 0)), (2, 1, .aload_n 0, 0, 0, .inl .null), (3, 1, .iload_n 1, 1, 0, .inl .null), (4, 3, .invokevirtual 170, 109, 50, .inr (1, 2, 12)), (7, 1, .i2l, 0, 0, .inl .null), (8, 1, .lastore, 0, 0, .inl .null), (9, 3, .goto 9, 18, 0, .inl .null), (12, 1, .astore_n 3, 3, 0, .inl .null), (13, 1, .iconst 1, 0, 0, .inl (.int 1)), (14, 1, .ireturn, 0, 0, .inl .null), (15, 1, .astore_n 3, 3, 0, .inl .null), (16, 1, .iconst 2, 0, 0, .inl (.int 2)), (17, 1, .ireturn, 0, 0, .inl .null), (18, 1, .iconst 0, 0, 0, .inl (.int 0)), (19, 1, .ireturn, 0, 0, .inl .null)]
def cd_J9_floorMod_7cf53 : List gE := [(0, 1, .iload_n 0, 0, 0, .inl .null), (1, 1, .iload_n 1, 1, 0, .inl .null), (2, 1, .irem, 0, 0, .inl .null), (3, 1, .istore_n 2, 2, 0, .inl .null), (4, 1, .iload_n 0, 0, 0, .inl .null), (5, 1, .iload_n 1, 1, 0, .inl .null), (6, 1, .ixor, 0, 0, .inl .null), (7, 3, .ifCond .ge 11, 18, 0, .inl .null), (10, 1, .iload_n 2, 2, 0, .inl .null), (11, 3, .ifCond .eq 7, 18, 0, .inl .null), (14, 1, .iload_n 2, 2, 0, .inl .null), (15, 1, .iload_n 1, 1, 0, .inl .null), (16, 1, .iadd, 0, 0, .inl .null), (17, 1, .ireturn, 0, 0, .inl .null), (18, 1, .iload_n 2, 2, 0, .inl .null), (19, 1, .ireturn, 0, 0, .inl .null)]
def cd_J9_abs_0f7a4 : List gE := [(0, 1, .iload_n 0, 0, 0, .inl .null), (1, 3, .ifCond .ge 8, 9, 0, .inl .null), (4, 1, .iload_n 0, 0, 0, .inl .null), (5, 1, .ineg, 0, 0, .inl .null), (6, 3, .goto 4, 10, 0, .inl .null), (9, 1, .iload_n 0, 0, 0, .inl .null), (10, 1, .ireturn, 0, 0, .inl .null)]
def cd_J9_abs_067f4 : List gE := [(0, 1, .lload_n 0, 0, 0, .inl .null), (1, 1, .lconst 0, 0, 0, .inl (.long 0)), (2, 1, .lcmp, 0, 0, .inl .null), (3, 3, .ifCond .ge 8, 11, 0, .inl .null), (6, 1, .lload_n 0, 0, 0, .inl .null), (7, 1, .lneg, 0, 0, .inl .null), (8, 3, .goto 4, 12, 0, .inl .null), (11, 1, .lload_n 0, 0, 0, .inl .null), (12, 1, .lreturn, 0, 0, .inl .null)]
def cd_J9_max_7cf53 : List gE := [(0, 1, .iload_n 0, 0, 0, .inl .null), (1, 1, .iload_n 1, 1, 0, .inl .null), (2, 3, .if_icmp .lt 7, 9, 0, .inl .null), (5, 1, .iload_n 0, 0, 0, .inl .null), (6, 3, .goto 4, 10, 0, .inl .null), (9, 1, .iload_n 1, 1, 0, .inl .null), (10, 1, .ireturn, 0, 0, .inl .null)]
def cd_J9_min_7cf53 : List gE := [(0, 1, .iload_n 0, 0, 0, .inl .null), (1, 1, .iload_n 1, 1, 0, .inl .null), (2, 3, .if_icmp .gt 7, 9, 0, .inl .null), (5, 1, .iload_n 0, 0, 0, .inl .null), (6, 3, .goto 4, 10, 0, .inl .null), (9, 1, .iload_n 1, 1, 0, .inl .null), (10, 1, .ireturn, 0, 0, .inl .null)]
def cd_J7_fill_d0a16 : List gE := [(0, 1, .iconst 0, 0, 0, .inl (.int 0)), (1, 1, .istore_n 3, 3, 0, .inl .null), (2, 1, .aload_n 0, 0, 0, .inl .null), (3, 1, .arraylength, 0, 0, .inl .null), (4, 2, .istore 4, 4, 0, .inl .null), (6, 1, .iload_n 3, 3, 0, .inl .null), (7, 2, .iload 4, 4, 0, .inl .null), (9, 3, .if_icmp .ge 13, 22, 0, .inl .null), (12, 1, .aload_n 0, 0, 0, .inl .null), (13, 1, .iload_n 3, 3, 0, .inl .null), (14, 1, .lload_n 1, 1, 0, .inl .null), (15, 1, .lastore, 0, 0, .inl .null), (16, 3, .iinc 3 1, 3, 0, .inl (.int 1)), (19, 3, .goto (-13), 6, 0, .inl .null), (22, 1, .return_, 0, 0, .inl .null)]
def cd_J7_fill_53178 : List gE := [(0, 1, .iconst 0, 0, 0, .inl (.int 0)), (1, 1, .istore_n 2, 2, 0, .inl .null), (2, 1, .aload_n 0, 0, 0, .inl .null), (3, 1, .arraylength, 0, 0, .inl .null), (4, 1, .istore_n 3, 3, 0, .inl .null), (5, 1, .iload_n 2, 2, 0, .inl .null), (6, 1, .iload_n 3, 3, 0, .inl .null), (7, 3, .if_icmp .ge 13, 20, 0, .inl .null), (10, 1, .aload_n 0, 0, 0, .inl .null), (11, 1, .iload_n 2, 2, 0, .inl .null), (12, 1, .iload_n 1, 1, 0, .inl .null), (13, 1, .iastore, 0, 0, .inl .null), (14, 3, .iinc 2 1, 2, 0, .inl (.int 1)), (17, 3, .goto (-12), 5, 0, .inl .null), (20, 1, .return_, 0, 0, .inl .null)]
set_option maxRecDepth 20000 in
def cd_L_law : List gE := [(0, 3, .new 8, 0, 0, .inl .null), (3, 1, .dup, 0, 0, .inl .null), (4, 3, .invokespecial 173, 0, 0, .inl .null), (7, 1, .astore_n 1, 1, 0, .inl .null), (8, 3, .new 174, 0, 0, .inl .null), (11, 1, .dup, 0, 0, .inl .null), (12, 3, .invokespecial 176, 0, 0, .inl .null), (15, 1, .astore_n 2, 2, 0, .inl .null), (16, 1, .iconst 1, 0, 0, .inl (.int 1)), (17, 2, .newarray .long, 0, 0, .inl .null), (19, 1, .astore_n 3, 3, 0, .inl .null), (20, 1, .iconst 1, 0, 0, .inl (.int 1)), (21, 2, .newarray .double, 0, 0, .inl .null), (23, 2, .astore 4, 4, 0, .inl .null), (25, 1, .iconst 0, 0, 0, .inl (.int 0)), (26, 2, .istore 5, 5, 0, .inl .null), (28, 2, .iload 5, 5, 0, .inl .null), (30, 1, .aload_n 0, 0, 0, .inl .null), (31, 1, .arraylength, 0, 0, .inl .null), (32, 2, .bipush 6, 0, 0, .inl (.int 6)), (34, 1, .isub, 0, 0, .inl .null), (35, 3, .if_icmp .gt 3326, 3361, 0, .inl .null), (38, 1, .aload_n 0, 0, 0, .inl .null), (39, 2, .iload 5, 5, 0, .inl .null), (41, 1, .iaload, 0, 0, .inl .null), (42, 2, .bipush 63, 0, 0, .inl (.int 63)), (44, 1, .iand, 0, 0, .inl .null), (45, 247, .tableswitch 3310 0 57 #[247, 320, 376, 389, 402, 415, 428, 441, 497, 565, 621, 677, 733, 777, 828, 872, 928, 972, 1016, 1060, 1140, 1220, 1300, 1356, 1464, 1508, 1564, 1632, 1688, 1739, 1783, 1827, 1895, 1951, 2006, 2061, 2117, 2173, 2250, 2301, 2345, 2401, 2469, 2525, 2576, 2589, 2657, 2725, 2793, 2861, 2917, 2997, 3041, 3085, 3141, 3185, 3198, 3254], 0, 0, .inl .null), (292, 1, .aload_n 1, 1, 0, .inl .null), (293, 1, .aload_n 0, 0, 0, .inl .null), (294, 2, .iload 5, 5, 0, .inl .null), (296, 1, .iconst 1, 0, 0, .inl (.int 1)), (297, 1, .iadd, 0, 0, .inl .null), (298, 1, .iaload, 0, 0, .inl .null), (299, 1, .aload_n 0, 0, 0, .inl .null), (300, 2, .iload 5, 5, 0, .inl .null), (302, 1, .iconst 2, 0, 0, .inl (.int 2)), (303, 1, .iadd, 0, 0, .inl .null), (304, 1, .iaload, 0, 0, .inl .null), (305, 1, .aload_n 0, 0, 0, .inl .null), (306, 2, .iload 5, 5, 0, .inl .null), (308, 1, .iconst 3, 0, 0, .inl (.int 3)), (309, 1, .iadd, 0, 0, .inl .null), (310, 1, .iaload, 0, 0, .inl .null), (311, 1, .aload_n 0, 0, 0, .inl .null), (312, 2, .iload 5, 5, 0, .inl .null), (314, 1, .iconst 4, 0, 0, .inl (.int 4)), (315, 1, .iadd, 0, 0, .inl .null), (316, 1, .iaload, 0, 0, .inl .null), (317, 1, .aload_n 0, 0, 0, .inl .null), (318, 2, .iload 5, 5, 0, .inl .null), (320, 1, .iconst 5, 0, 0, .inl (.int 5)), (321, 1, .iadd, 0, 0, .inl .null), (322, 1, .iaload, 0, 0, .inl .null), (323, 3, .invokevirtual 177, 52, 54, .inr (1, 0, 0)), (326, 1, .aload_n 2, 2, 0, .inl .null), (327, 1, .aload_n 0, 0, 0, .inl .null), (328, 2, .iload 5, 5, 0, .inl .null), (330, 1, .iconst 1, 0, 0, .inl (.int 1)), (331, 1, .iadd, 0, 0, .inl .null), (332, 1, .iaload, 0, 0, .inl .null), (333, 1, .aload_n 0, 0, 0, .inl .null), (334, 2, .iload 5, 5, 0, .inl .null), (336, 1, .iconst 2, 0, 0, .inl (.int 2)), (337, 1, .iadd, 0, 0, .inl .null), (338, 1, .iaload, 0, 0, .inl .null), (339, 1, .aload_n 0, 0, 0, .inl .null), (340, 2, .iload 5, 5, 0, .inl .null), (342, 1, .iconst 3, 0, 0, .inl (.int 3)), (343, 1, .iadd, 0, 0, .inl .null), (344, 1, .iaload, 0, 0, .inl .null), (345, 1, .aload_n 0, 0, 0, .inl .null), (346, 2, .iload 5, 5, 0, .inl .null), (348, 1, .iconst 4, 0, 0, .inl (.int 4)), (349, 1, .iadd, 0, 0, .inl .null), (350, 1, .iaload, 0, 0, .inl .null), (351, 1, .aload_n 0, 0, 0, .inl .null), (352, 2, .iload 5, 5, 0, .inl .null), (354, 1, .iconst 5, 0, 0, .inl (.int 5)), (355, 1, .iadd, 0, 0, .inl .null), (356, 1, .iaload, 0, 0, .inl .null), (357, 3, .invokevirtual 181, 136, 502, .inr (1, 0, 0)), (360, 3, .if_icmp .eq 2995, 3355, 0, .inl .null), (363, 1, .iconst 0, 0, 0, .inl (.int 0)), (364, 1, .ireturn, 0, 0, .inl .null), (365, 1, .aload_n 1, 1, 0, .inl .null), (366, 1, .aload_n 0, 0, 0, .inl .null), (367, 2, .iload 5, 5, 0, .inl .null), (369, 1, .iconst 1, 0, 0, .inl (.int 1)), (370, 1, .iadd, 0, 0, .inl .null), (371, 1, .iaload, 0, 0, .inl .null), (372, 1, .aload_n 3, 3, 0, .inl .null), (373, 3, .invokestatic 182, 254, 3, .inr (1, 1, 6)), (376, 2, .istore 6, 6, 0, .inl .null), (378, 1, .aload_n 2, 2, 0, .inl .null), (379, 1, .aload_n 0, 0, 0, .inl .null), (380, 2, .iload 5, 5, 0, .inl .null), (382, 1, .iconst 1, 0, 0, .inl (.int 1)), (383, 1, .iadd, 0, 0, .inl .null), (384, 1, .iaload, 0, 0, .inl .null), (385, 3, .invokevirtual 187, 156, 498, .inr (1, 0, 0)), (388, 2, .istore 7, 7, 0, .inl .null), (390, 1, .aload_n 2, 2, 0, .inl .null), (391, 3, .invokevirtual 188, 130, 497, .inr (1, 0, 0)), (394, 2, .iload 6, 6, 0, .inl .null), (396, 3, .if_icmp .eq 5, 401, 0, .inl .null), (399, 1, .iconst 0, 0, 0, .inl (.int 0)), (400, 1, .ireturn, 0, 0, .inl .null), (401, 2, .iload 6, 6, 0, .inl .null), (403, 3, .ifCond .ne 15, 418, 0, .inl .null), (406, 1, .aload_n 3, 3, 0, .inl .null), (407, 1, .iconst 0, 0, 0, .inl (.int 0)), (408, 1, .laload, 0, 0, .inl .null), (409, 2, .iload 7, 7, 0, .inl .null), (411, 1, .i2l, 0, 0, .inl .null), (412, 1, .lcmp, 0, 0, .inl .null), (413, 3, .ifCond .eq 5, 418, 0, .inl .null), (416, 1, .iconst 0, 0, 0, .inl (.int 0)), (417, 1, .ireturn, 0, 0, .inl .null), (418, 3, .goto 2937, 3355, 0, .inl .null), (421, 1, .aload_n 1, 1, 0, .inl .null), (422, 3, .invokevirtual 191, 54, 49, .inr (1, 0, 0)), (425, 1, .aload_n 2, 2, 0, .inl .null), (426, 3, .invokevirtual 194, 138, 497, .inr (1, 0, 0)), (429, 3, .if_icmp .eq 2926, 3355, 0, .inl .null), (432, 1, .iconst 0, 0, 0, .inl (.int 0)), (433, 1, .ireturn, 0, 0, .inl .null), (434, 1, .aload_n 1, 1, 0, .inl .null), (435, 3, .invokevirtual 195, 55, 49, .inr (1, 0, 0)), (438, 1, .aload_n 2, 2, 0, .inl .null), (439, 3, .invokevirtual 198, 139, 497, .inr (1, 0, 0)), (442, 3, .if_icmp .eq 2913, 3355, 0, .inl .null), (445, 1, .iconst 0, 0, 0, .inl (.int 0)), (446, 1, .ireturn, 0, 0, .inl .null), (447, 1, .aload_n 1, 1, 0, .inl .null), (448, 3, .invokevirtual 199, 56, 49, .inr (1, 0, 0)), (451, 1, .aload_n 2, 2, 0, .inl .null), (452, 3, .invokevirtual 202, 137, 497, .inr (1, 0, 0)), (455, 3, .if_icmp .eq 2900, 3355, 0, .inl .null), (458, 1, .iconst 0, 0, 0, .inl (.int 0)), (459, 1, .ireturn, 0, 0, .inl .null), (460, 1, .aload_n 1, 1, 0, .inl .null), (461, 3, .invokevirtual 203, 57, 49, .inr (1, 0, 0)), (464, 1, .aload_n 2, 2, 0, .inl .null), (465, 3, .invokevirtual 206, 163, 497, .inr (1, 0, 0)), (468, 3, .if_icmp .eq 2887, 3355, 0, .inl .null), (471, 1, .iconst 0, 0, 0, .inl (.int 0)), (472, 1, .ireturn, 0, 0, .inl .null), (473, 1, .aload_n 1, 1, 0, .inl .null), (474, 3, .invokevirtual 207, 58, 49, .inr (1, 0, 0)), (477, 1, .aload_n 2, 2, 0, .inl .null), (478, 3, .invokevirtual 210, 164, 497, .inr (1, 0, 0)), (481, 3, .if_icmp .eq 2874, 3355, 0, .inl .null), (484, 1, .iconst 0, 0, 0, .inl (.int 0)), (485, 1, .ireturn, 0, 0, .inl .null), (486, 1, .aload_n 1, 1, 0, .inl .null), (487, 1, .aload_n 0, 0, 0, .inl .null), (488, 2, .iload 5, 5, 0, .inl .null), (490, 1, .iconst 1, 0, 0, .inl (.int 1)), (491, 1, .iadd, 0, 0, .inl .null), (492, 1, .iaload, 0, 0, .inl .null), (493, 1, .aload_n 3, 3, 0, .inl .null), (494, 3, .invokestatic 211, 255, 3, .inr (1, 2, 12)), (497, 2, .istore 6, 6, 0, .inl .null), (499, 1, .aload_n 2, 2, 0, .inl .null), (500, 1, .aload_n 0, 0, 0, .inl .null), (501, 2, .iload 5, 5, 0, .inl .null), (503, 1, .iconst 1, 0, 0, .inl (.int 1)), (504, 1, .iadd, 0, 0, .inl .null), (505, 1, .iaload, 0, 0, .inl .null), (506, 3, .invokevirtual 213, 168, 498, .inr (1, 0, 0)), (509, 2, .istore 7, 7, 0, .inl .null), (511, 1, .aload_n 2, 2, 0, .inl .null), (512, 3, .invokevirtual 188, 130, 497, .inr (1, 0, 0)), (515, 2, .iload 6, 6, 0, .inl .null), (517, 3, .if_icmp .eq 5, 522, 0, .inl .null), (520, 1, .iconst 0, 0, 0, .inl (.int 0)), (521, 1, .ireturn, 0, 0, .inl .null), (522, 2, .iload 6, 6, 0, .inl .null), (524, 3, .ifCond .ne 15, 539, 0, .inl .null), (527, 1, .aload_n 3, 3, 0, .inl .null), (528, 1, .iconst 0, 0, 0, .inl (.int 0)), (529, 1, .laload, 0, 0, .inl .null), (530, 2, .iload 7, 7, 0, .inl .null), (532, 1, .i2l, 0, 0, .inl .null), (533, 1, .lcmp, 0, 0, .inl .null), (534, 3, .ifCond .eq 5, 539, 0, .inl .null), (537, 1, .iconst 0, 0, 0, .inl (.int 0)), (538, 1, .ireturn, 0, 0, .inl .null), (539, 3, .goto 2816, 3355, 0, .inl .null), (542, 1, .aload_n 1, 1, 0, .inl .null), (543, 1, .aload_n 0, 0, 0, .inl .null), (544, 2, .iload 5, 5, 0, .inl .null), (546, 1, .iconst 1, 0, 0, .inl (.int 1)), (547, 1, .iadd, 0, 0, .inl .null), (548, 1, .iaload, 0, 0, .inl .null), (549, 1, .aload_n 0, 0, 0, .inl .null), (550, 2, .iload 5, 5, 0, .inl .null), (552, 1, .iconst 2, 0, 0, .inl (.int 2)), (553, 1, .iadd, 0, 0, .inl .null), (554, 1, .iaload, 0, 0, .inl .null), (555, 1, .aload_n 3, 3, 0, .inl .null), (556, 3, .invokestatic 214, 256, 4, .inr (1, 3, 18)), (559, 2, .istore 6, 6, 0, .inl .null), (561, 1, .aload_n 2, 2, 0, .inl .null), (562, 1, .aload_n 0, 0, 0, .inl .null), (563, 2, .iload 5, 5, 0, .inl .null), (565, 1, .iconst 1, 0, 0, .inl (.int 1)), (566, 1, .iadd, 0, 0, .inl .null), (567, 1, .iaload, 0, 0, .inl .null), (568, 1, .aload_n 0, 0, 0, .inl .null), (569, 2, .iload 5, 5, 0, .inl .null), (571, 1, .iconst 2, 0, 0, .inl (.int 2)), (572, 1, .iadd, 0, 0, .inl .null), (573, 1, .iaload, 0, 0, .inl .null), (574, 3, .invokevirtual 217, 169, 499, .inr (1, 0, 0)), (577, 2, .istore 7, 7, 0, .inl .null), (579, 1, .aload_n 2, 2, 0, .inl .null), (580, 3, .invokevirtual 188, 130, 497, .inr (1, 0, 0)), (583, 2, .iload 6, 6, 0, .inl .null), (585, 3, .if_icmp .eq 5, 590, 0, .inl .null), (588, 1, .iconst 0, 0, 0, .inl (.int 0)), (589, 1, .ireturn, 0, 0, .inl .null), (590, 2, .iload 6, 6, 0, .inl .null), (592, 3, .ifCond .ne 15, 607, 0, .inl .null), (595, 1, .aload_n 3, 3, 0, .inl .null), (596, 1, .iconst 0, 0, 0, .inl (.int 0)), (597, 1, .laload, 0, 0, .inl .null), (598, 2, .iload 7, 7, 0, .inl .null), (600, 1, .i2l, 0, 0, .inl .null), (601, 1, .lcmp, 0, 0, .inl .null), (602, 3, .ifCond .eq 5, 607, 0, .inl .null), (605, 1, .iconst 0, 0, 0, .inl (.int 0)), (606, 1, .ireturn, 0, 0, .inl .null), (607, 3, .goto 2748, 3355, 0, .inl .null), (610, 1, .aload_n 1, 1, 0, .inl .null), (611, 1, .aload_n 0, 0, 0, .inl .null), (612, 2, .iload 5, 5, 0, .inl .null), (614, 1, .iconst 1, 0, 0, .inl (.int 1)), (615, 1, .iadd, 0, 0, .inl .null), (616, 1, .iaload, 0, 0, .inl .null), (617, 1, .aload_n 3, 3, 0, .inl .null), (618, 3, .invokestatic 218, 257, 3, .inr (1, 2, 12)), (621, 2, .istore 6, 6, 0, .inl .null), (623, 1, .aload_n 2, 2, 0, .inl .null), (624, 1, .aload_n 0, 0, 0, .inl .null), (625, 2, .iload 5, 5, 0, .inl .null), (627, 1, .iconst 1, 0, 0, .inl (.int 1)), (628, 1, .iadd, 0, 0, .inl .null), (629, 1, .iaload, 0, 0, .inl .null), (630, 3, .invokevirtual 220, 170, 498, .inr (1, 0, 0)), (633, 2, .istore 7, 7, 0, .inl .null), (635, 1, .aload_n 2, 2, 0, .inl .null), (636, 3, .invokevirtual 188, 130, 497, .inr (1, 0, 0)), (639, 2, .iload 6, 6, 0, .inl .null), (641, 3, .if_icmp .eq 5, 646, 0, .inl .null), (644, 1, .iconst 0, 0, 0, .inl (.int 0)), (645, 1, .ireturn, 0, 0, .inl .null), (646, 2, .iload 6, 6, 0, .inl .null), (648, 3, .ifCond .ne 15, 663, 0, .inl .null), (651, 1, .aload_n 3, 3, 0, .inl .null), (652, 1, .iconst 0, 0, 0, .inl (.int 0)), (653, 1, .laload, 0, 0, .inl .null), (654, 2, .iload 7, 7, 0, .inl .null), (656, 1, .i2l, 0, 0, .inl .null), (657, 1, .lcmp, 0, 0, .inl .null), (658, 3, .ifCond .eq 5, 663, 0, .inl .null), (661, 1, .iconst 0, 0, 0, .inl (.int 0)), (662, 1, .ireturn, 0, 0, .inl .null), (663, 3, .goto 2692, 3355, 0, .inl .null), (666, 1, .aload_n 1, 1, 0, .inl .null), (667, 1, .aload_n 0, 0, 0, .inl .null), (668, 2, .iload 5, 5, 0, .inl .null), (670, 1, .iconst 1, 0, 0, .inl (.int 1)), (671, 1, .iadd, 0, 0, .inl .null), (672, 1, .iaload, 0, 0, .inl .null), (673, 1, .aload_n 3, 3, 0, .inl .null), (674, 3, .invokestatic 221, 258, 3, .inr (1, 2, 12)), (677, 2, .istore 6, 6, 0, .inl .null), (679, 1, .aload_n 2, 2, 0, .inl .null), (680, 1, .aload_n 0, 0, 0, .inl .null), (681, 2, .iload 5, 5, 0, .inl .null), (683, 1, .iconst 1, 0, 0, .inl (.int 1)), (684, 1, .iadd, 0, 0, .inl .null), (685, 1, .iaload, 0, 0, .inl .null), (686, 3, .invokevirtual 223, 171, 498, .inr (1, 0, 0)), (689, 2, .istore 7, 7, 0, .inl .null), (691, 1, .aload_n 2, 2, 0, .inl .null), (692, 3, .invokevirtual 188, 130, 497, .inr (1, 0, 0)), (695, 2, .iload 6, 6, 0, .inl .null), (697, 3, .if_icmp .eq 5, 702, 0, .inl .null), (700, 1, .iconst 0, 0, 0, .inl (.int 0)), (701, 1, .ireturn, 0, 0, .inl .null), (702, 2, .iload 6, 6, 0, .inl .null), (704, 3, .ifCond .ne 15, 719, 0, .inl .null), (707, 1, .aload_n 3, 3, 0, .inl .null), (708, 1, .iconst 0, 0, 0, .inl (.int 0)), (709, 1, .laload, 0, 0, .inl .null), (710, 2, .iload 7, 7, 0, .inl .null), (712, 1, .i2l, 0, 0, .inl .null), (713, 1, .lcmp, 0, 0, .inl .null), (714, 3, .ifCond .eq 5, 719, 0, .inl .null), (717, 1, .iconst 0, 0, 0, .inl (.int 0)), (718, 1, .ireturn, 0, 0, .inl .null), (719, 3, .goto 2636, 3355, 0, .inl .null), (722, 1, .aload_n 1, 1, 0, .inl .null), (723, 1, .aload_n 0, 0, 0, .inl .null), (724, 2, .iload 5, 5, 0, .inl .null), (726, 1, .iconst 1, 0, 0, .inl (.int 1)), (727, 1, .iadd, 0, 0, .inl .null), (728, 1, .iaload, 0, 0, .inl .null), (729, 1, .aload_n 3, 3, 0, .inl .null), (730, 3, .invokestatic 224, 259, 3, .inr (1, 2, 12)), (733, 2, .istore 6, 6, 0, .inl .null), (735, 1, .aload_n 2, 2, 0, .inl .null), (736, 1, .aload_n 0, 0, 0, .inl .null), (737, 2, .iload 5, 5, 0, .inl .null), (739, 1, .iconst 1, 0, 0, .inl (.int 1)), (740, 1, .iadd, 0, 0, .inl .null), (741, 1, .iaload, 0, 0, .inl .null), (742, 3, .invokevirtual 226, 180, 498, .inr (1, 0, 0)), (745, 2, .istore 7, 7, 0, .inl .null), (747, 1, .aload_n 2, 2, 0, .inl .null), (748, 3, .invokevirtual 188, 130, 497, .inr (1, 0, 0)), (751, 2, .iload 6, 6, 0, .inl .null), (753, 3, .if_icmp .eq 5, 758, 0, .inl .null), (756, 1, .iconst 0, 0, 0, .inl (.int 0)), (757, 1, .ireturn, 0, 0, .inl .null), (758, 2, .iload 6, 6, 0, .inl .null), (760, 3, .ifCond .ne 15, 775, 0, .inl .null), (763, 1, .aload_n 3, 3, 0, .inl .null), (764, 1, .iconst 0, 0, 0, .inl (.int 0)), (765, 1, .laload, 0, 0, .inl .null), (766, 2, .iload 7, 7, 0, .inl .null), (768, 1, .i2l, 0, 0, .inl .null), (769, 1, .lcmp, 0, 0, .inl .null), (770, 3, .ifCond .eq 5, 775, 0, .inl .null), (773, 1, .iconst 0, 0, 0, .inl (.int 0)), (774, 1, .ireturn, 0, 0, .inl .null), (775, 3, .goto 2580, 3355, 0, .inl .null), (778, 1, .aload_n 1, 1, 0, .inl .null), (779, 1, .aload_n 3, 3, 0, .inl .null), (780, 3, .invokestatic 227, 260, 2, .inr (1, 1, 6)), (783, 2, .istore 6, 6, 0, .inl .null), (785, 1, .aload_n 2, 2, 0, .inl .null), (786, 3, .invokevirtual 230, 183, 497, .inr (1, 0, 0)), (789, 2, .istore 7, 7, 0, .inl .null), (791, 1, .aload_n 2, 2, 0, .inl .null), (792, 3, .invokevirtual 188, 130, 497, .inr (1, 0, 0)), (795, 2, .iload 6, 6, 0, .inl .null), (797, 3, .if_icmp .eq 5, 802, 0, .inl .null), (800, 1, .iconst 0, 0, 0, .inl (.int 0)), (801, 1, .ireturn, 0, 0, .inl .null), (802, 2, .iload 6, 6, 0, .inl .null), (804, 3, .ifCond .ne 15, 819, 0, .inl .null), (807, 1, .aload_n 3, 3, 0, .inl .null), (808, 1, .iconst 0, 0, 0, .inl (.int 0)), (809, 1, .laload, 0, 0, .inl .null), (810, 2, .iload 7, 7, 0, .inl .null), (812, 1, .i2l, 0, 0, .inl .null), (813, 1, .lcmp, 0, 0, .inl .null), (814, 3, .ifCond .eq 5, 819, 0, .inl .null), (817, 1, .iconst 0, 0, 0, .inl (.int 0)), (818, 1, .ireturn, 0, 0, .inl .null), (819, 3, .goto 2536, 3355, 0, .inl .null), (822, 1, .aload_n 1, 1, 0, .inl .null), (823, 1, .aload_n 3, 3, 0, .inl .null), (824, 3, .invokestatic 231, 261, 2, .inr (1, 1, 6)), (827, 2, .istore 6, 6, 0, .inl .null), (829, 1, .aload_n 2, 2, 0, .inl .null), (830, 3, .invokevirtual 233, 185, 497, .inr (1, 0, 0)), (833, 2, .istore 7, 7, 0, .inl .null), (835, 1, .aload_n 2, 2, 0, .inl .null), (836, 3, .invokevirtual 188, 130, 497, .inr (1, 0, 0)), (839, 2, .iload 6, 6, 0, .inl .null), (841, 3, .if_icmp .eq 5, 846, 0, .inl .null), (844, 1, .iconst 0, 0, 0, .inl (.int 0)), (845, 1, .ireturn, 0, 0, .inl .null), (846, 2, .iload 6, 6, 0, .inl .null), (848, 3, .ifCond .ne 22, 870, 0, .inl .null), (851, 1, .aload_n 3, 3, 0, .inl .null), (852, 1, .iconst 0, 0, 0, .inl (.int 0)), (853, 1, .laload, 0, 0, .inl .null), (854, 2, .iload 7, 7, 0, .inl .null), (856, 3, .ifCond .eq 7, 863, 0, .inl .null), (859, 1, .lconst 1, 0, 0, .inl (.long 1)), (860, 3, .goto 4, 864, 0, .inl .null), (863, 1, .lconst 0, 0, 0, .inl (.long 0)), (864, 1, .lcmp, 0, 0, .inl .null), (865, 3, .ifCond .eq 5, 870, 0, .inl .null), (868, 1, .iconst 0, 0, 0, .inl (.int 0)), (869, 1, .ireturn, 0, 0, .inl .null), (870, 3, .goto 2485, 3355, 0, .inl .null), (873, 1, .aload_n 1, 1, 0, .inl .null), (874, 1, .aload_n 3, 3, 0, .inl .null), (875, 3, .invokestatic 234, 262, 2, .inr (1, 1, 6)), (878, 2, .istore 6, 6, 0, .inl .null), (880, 1, .aload_n 2, 2, 0, .inl .null), (881, 3, .invokevirtual 236, 187, 497, .inr (1, 0, 0)), (884, 2, .istore 7, 7, 0, .inl .null), (886, 1, .aload_n 2, 2, 0, .inl .null), (887, 3, .invokevirtual 188, 130, 497, .inr (1, 0, 0)), (890, 2, .iload 6, 6, 0, .inl .null), (892, 3, .if_icmp .eq 5, 897, 0, .inl .null), (895, 1, .iconst 0, 0, 0, .inl (.int 0)), (896, 1, .ireturn, 0, 0, .inl .null), (897, 2, .iload 6, 6, 0, .inl .null), (899, 3, .ifCond .ne 15, 914, 0, .inl .null), (902, 1, .aload_n 3, 3, 0, .inl .null), (903, 1, .iconst 0, 0, 0, .inl (.int 0)), (904, 1, .laload, 0, 0, .inl .null), (905, 2, .iload 7, 7, 0, .inl .null), (907, 1, .i2l, 0, 0, .inl .null), (908, 1, .lcmp, 0, 0, .inl .null), (909, 3, .ifCond .eq 5, 914, 0, .inl .null), (912, 1, .iconst 0, 0, 0, .inl (.int 0)), (913, 1, .ireturn, 0, 0, .inl .null), (914, 3, .goto 2441, 3355, 0, .inl .null), (917, 1, .aload_n 1, 1, 0, .inl .null), (918, 1, .aload_n 0, 0, 0, .inl .null), (919, 2, .iload 5, 5, 0, .inl .null), (921, 1, .iconst 1, 0, 0, .inl (.int 1)), (922, 1, .iadd, 0, 0, .inl .null), (923, 1, .iaload, 0, 0, .inl .null), (924, 1, .aload_n 3, 3, 0, .inl .null), (925, 3, .invokestatic 237, 263, 3, .inr (1, 2, 12)), (928, 2, .istore 6, 6, 0, .inl .null), (930, 1, .aload_n 2, 2, 0, .inl .null), (931, 1, .aload_n 0, 0, 0, .inl .null), (932, 2, .iload 5, 5, 0, .inl .null), (934, 1, .iconst 1, 0, 0, .inl (.int 1)), (935, 1, .iadd, 0, 0, .inl .null), (936, 1, .iaload, 0, 0, .inl .null), (937, 3, .invokevirtual 239, 189, 498, .inr (1, 0, 0)), (940, 2, .istore 7, 7, 0, .inl .null), (942, 1, .aload_n 2, 2, 0, .inl .null), (943, 3, .invokevirtual 188, 130, 497, .inr (1, 0, 0)), (946, 2, .iload 6, 6, 0, .inl .null), (948, 3, .if_icmp .eq 5, 953, 0, .inl .null), (951, 1, .iconst 0, 0, 0, .inl (.int 0)), (952, 1, .ireturn, 0, 0, .inl .null), (953, 2, .iload 6, 6, 0, .inl .null), (955, 3, .ifCond .ne 15, 970, 0, .inl .null), (958, 1, .aload_n 3, 3, 0, .inl .null), (959, 1, .iconst 0, 0, 0, .inl (.int 0)), (960, 1, .laload, 0, 0, .inl .null), (961, 2, .iload 7, 7, 0, .inl .null), (963, 1, .i2l, 0, 0, .inl .null), (964, 1, .lcmp, 0, 0, .inl .null), (965, 3, .ifCond .eq 5, 970, 0, .inl .null), (968, 1, .iconst 0, 0, 0, .inl (.int 0)), (969, 1, .ireturn, 0, 0, .inl .null), (970, 3, .goto 2385, 3355, 0, .inl .null), (973, 1, .aload_n 1, 1, 0, .inl .null), (974, 1, .aload_n 3, 3, 0, .inl .null), (975, 3, .invokestatic 240, 264, 2, .inr (1, 1, 6)), (978, 2, .istore 6, 6, 0, .inl .null), (980, 1, .aload_n 2, 2, 0, .inl .null), (981, 3, .invokevirtual 242, 190, 497, .inr (1, 0, 0)), (984, 2, .istore 7, 7, 0, .inl .null), (986, 1, .aload_n 2, 2, 0, .inl .null), (987, 3, .invokevirtual 188, 130, 497, .inr (1, 0, 0)), (990, 2, .iload 6, 6, 0, .inl .null), (992, 3, .if_icmp .eq 5, 997, 0, .inl .null), (995, 1, .iconst 0, 0, 0, .inl (.int 0)), (996, 1, .ireturn, 0, 0, .inl .null), (997, 2, .iload 6, 6, 0, .inl .null), (999, 3, .ifCond .ne 15, 1014, 0, .inl .null), (1002, 1, .aload_n 3, 3, 0, .inl .null), (1003, 1, .iconst 0, 0, 0, .inl (.int 0)), (1004, 1, .laload, 0, 0, .inl .null), (1005, 2, .iload 7, 7, 0, .inl .null), (1007, 1, .i2l, 0, 0, .inl .null), (1008, 1, .lcmp, 0, 0, .inl .null), (1009, 3, .ifCond .eq 5, 1014, 0, .inl .null), (1012, 1, .iconst 0, 0, 0, .inl (.int 0)), (1013, 1, .ireturn, 0, 0, .inl .null), (1014, 3, .goto 2341, 3355, 0, .inl .null), (1017, 1, .aload_n 1, 1, 0, .inl .null), (1018, 1, .aload_n 3, 3, 0, .inl .null), (1019, 3, .invokestatic 243, 265, 2, .inr (1, 1, 6)), (1022, 2, .istore 6, 6, 0, .inl .null), (1024, 1, .aload_n 2, 2, 0, .inl .null), (1025, 3, .invokevirtual 245, 191, 497, .inr (1, 0, 0)), (1028, 2, .istore 7, 7, 0, .inl .null), (1030, 1, .aload_n 2, 2, 0, .inl .null), (1031, 3, .invokevirtual 188, 130, 497, .inr (1, 0, 0)), (1034, 2, .iload 6, 6, 0, .inl .null), (1036, 3, .if_icmp .eq 5, 1041, 0, .inl .null), (1039, 1, .iconst 0, 0, 0, .inl (.int 0)), (1040, 1, .ireturn, 0, 0, .inl .null), (1041, 2, .iload 6, 6, 0, .inl .null), (1043, 3, .ifCond .ne 15, 1058, 0, .inl .null), (1046, 1, .aload_n 3, 3, 0, .inl .null), (1047, 1, .iconst 0, 0, 0, .inl (.int 0)), (1048, 1, .laload, 0, 0, .inl .null), (1049, 2, .iload 7, 7, 0, .inl .null), (1051, 1, .i2l, 0, 0, .inl .null), (1052, 1, .lcmp, 0, 0, .inl .null), (1053, 3, .ifCond .eq 5, 1058, 0, .inl .null), (1056, 1, .iconst 0, 0, 0, .inl (.int 0)), (1057, 1, .ireturn, 0, 0, .inl .null), (1058, 3, .goto 2297, 3355, 0, .inl .null), (1061, 1, .aload_n 1, 1, 0, .inl .null), (1062, 1, .aload_n 3, 3, 0, .inl .null), (1063, 3, .invokestatic 246, 266, 2, .inr (1, 1, 6)), (1066, 2, .istore 6, 6, 0, .inl .null), (1068, 1, .aload_n 2, 2, 0, .inl .null), (1069, 3, .invokevirtual 248, 192, 497, .inr (1, 0, 0)), (1072, 2, .istore 7, 7, 0, .inl .null), (1074, 1, .aload_n 2, 2, 0, .inl .null), (1075, 3, .invokevirtual 188, 130, 497, .inr (1, 0, 0)), (1078, 2, .iload 6, 6, 0, .inl .null), (1080, 3, .if_icmp .eq 5, 1085, 0, .inl .null), (1083, 1, .iconst 0, 0, 0, .inl (.int 0)), (1084, 1, .ireturn, 0, 0, .inl .null), (1085, 2, .iload 6, 6, 0, .inl .null), (1087, 3, .ifCond .ne 15, 1102, 0, .inl .null), (1090, 1, .aload_n 3, 3, 0, .inl .null), (1091, 1, .iconst 0, 0, 0, .inl (.int 0)), (1092, 1, .laload, 0, 0, .inl .null), (1093, 2, .iload 7, 7, 0, .inl .null), (1095, 1, .i2l, 0, 0, .inl .null), (1096, 1, .lcmp, 0, 0, .inl .null), (1097, 3, .ifCond .eq 5, 1102, 0, .inl .null), (1100, 1, .iconst 0, 0, 0, .inl (.int 0)), (1101, 1, .ireturn, 0, 0, .inl .null), (1102, 3, .goto 2253, 3355, 0, .inl .null), (1105, 1, .aload_n 1, 1, 0, .inl .null), (1106, 1, .aload_n 0, 0, 0, .inl .null), (1107, 2, .iload 5, 5, 0, .inl .null), (1109, 1, .iconst 1, 0, 0, .inl (.int 1)), (1110, 1, .iadd, 0, 0, .inl .null), (1111, 1, .iaload, 0, 0, .inl .null), (1112, 1, .aload_n 0, 0, 0, .inl .null), (1113, 2, .iload 5, 5, 0, .inl .null), (1115, 1, .iconst 2, 0, 0, .inl (.int 2)), (1116, 1, .iadd, 0, 0, .inl .null), (1117, 1, .iaload, 0, 0, .inl .null), (1118, 1, .aload_n 0, 0, 0, .inl .null), (1119, 2, .iload 5, 5, 0, .inl .null), (1121, 1, .iconst 3, 0, 0, .inl (.int 3)), (1122, 1, .iadd, 0, 0, .inl .null), (1123, 1, .iaload, 0, 0, .inl .null), (1124, 1, .aload_n 3, 3, 0, .inl .null), (1125, 3, .invokestatic 249, 267, 5, .inr (1, 4, 24)), (1128, 2, .istore 6, 6, 0, .inl .null), (1130, 1, .aload_n 2, 2, 0, .inl .null), (1131, 1, .aload_n 0, 0, 0, .inl .null), (1132, 2, .iload 5, 5, 0, .inl .null), (1134, 1, .iconst 1, 0, 0, .inl (.int 1)), (1135, 1, .iadd, 0, 0, .inl .null), (1136, 1, .iaload, 0, 0, .inl .null), (1137, 1, .aload_n 0, 0, 0, .inl .null), (1138, 2, .iload 5, 5, 0, .inl .null), (1140, 1, .iconst 2, 0, 0, .inl (.int 2)), (1141, 1, .iadd, 0, 0, .inl .null), (1142, 1, .iaload, 0, 0, .inl .null), (1143, 1, .aload_n 0, 0, 0, .inl .null), (1144, 2, .iload 5, 5, 0, .inl .null), (1146, 1, .iconst 3, 0, 0, .inl (.int 3)), (1147, 1, .iadd, 0, 0, .inl .null), (1148, 1, .iaload, 0, 0, .inl .null), (1149, 3, .invokevirtual 252, 193, 500, .inr (1, 0, 0)), (1152, 2, .istore 7, 7, 0, .inl .null), (1154, 1, .aload_n 2, 2, 0, .inl .null), (1155, 3, .invokevirtual 188, 130, 497, .inr (1, 0, 0)), (1158, 2, .iload 6, 6, 0, .inl .null), (1160, 3, .if_icmp .eq 5, 1165, 0, .inl .null), (1163, 1, .iconst 0, 0, 0, .inl (.int 0)), (1164, 1, .ireturn, 0, 0, .inl .null), (1165, 2, .iload 6, 6, 0, .inl .null), (1167, 3, .ifCond .ne 15, 1182, 0, .inl .null), (1170, 1, .aload_n 3, 3, 0, .inl .null), (1171, 1, .iconst 0, 0, 0, .inl (.int 0)), (1172, 1, .laload, 0, 0, .inl .null), (1173, 2, .iload 7, 7, 0, .inl .null), (1175, 1, .i2l, 0, 0, .inl .null), (1176, 1, .lcmp, 0, 0, .inl .null), (1177, 3, .ifCond .eq 5, 1182, 0, .inl .null), (1180, 1, .iconst 0, 0, 0, .inl (.int 0)), (1181, 1, .ireturn, 0, 0, .inl .null), (1182, 3, .goto 2173, 3355, 0, .inl .null), (1185, 1, .aload_n 1, 1, 0, .inl .null), (1186, 1, .aload_n 0, 0, 0, .inl .null), (1187, 2, .iload 5, 5, 0, .inl .null), (1189, 1, .iconst 1, 0, 0, .inl (.int 1)), (1190, 1, .iadd, 0, 0, .inl .null), (1191, 1, .iaload, 0, 0, .inl .null), (1192, 1, .aload_n 0, 0, 0, .inl .null), (1193, 2, .iload 5, 5, 0, .inl .null), (1195, 1, .iconst 2, 0, 0, .inl (.int 2)), (1196, 1, .iadd, 0, 0, .inl .null), (1197, 1, .iaload, 0, 0, .inl .null), (1198, 1, .aload_n 0, 0, 0, .inl .null), (1199, 2, .iload 5, 5, 0, .inl .null), (1201, 1, .iconst 3, 0, 0, .inl (.int 3)), (1202, 1, .iadd, 0, 0, .inl .null), (1203, 1, .iaload, 0, 0, .inl .null), (1204, 1, .aload_n 3, 3, 0, .inl .null), (1205, 3, .invokestatic 253, 268, 5, .inr (1, 4, 24)), (1208, 2, .istore 6, 6, 0, .inl .null), (1210, 1, .aload_n 2, 2, 0, .inl .null), (1211, 1, .aload_n 0, 0, 0, .inl .null), (1212, 2, .iload 5, 5, 0, .inl .null), (1214, 1, .iconst 1, 0, 0, .inl (.int 1)), (1215, 1, .iadd, 0, 0, .inl .null), (1216, 1, .iaload, 0, 0, .inl .null), (1217, 1, .aload_n 0, 0, 0, .inl .null), (1218, 2, .iload 5, 5, 0, .inl .null), (1220, 1, .iconst 2, 0, 0, .inl (.int 2)), (1221, 1, .iadd, 0, 0, .inl .null), (1222, 1, .iaload, 0, 0, .inl .null), (1223, 1, .aload_n 0, 0, 0, .inl .null), (1224, 2, .iload 5, 5, 0, .inl .null), (1226, 1, .iconst 3, 0, 0, .inl (.int 3)), (1227, 1, .iadd, 0, 0, .inl .null), (1228, 1, .iaload, 0, 0, .inl .null), (1229, 3, .invokevirtual 255, 199, 500, .inr (1, 0, 0)), (1232, 2, .istore 7, 7, 0, .inl .null), (1234, 1, .aload_n 2, 2, 0, .inl .null), (1235, 3, .invokevirtual 188, 130, 497, .inr (1, 0, 0)), (1238, 2, .iload 6, 6, 0, .inl .null), (1240, 3, .if_icmp .eq 5, 1245, 0, .inl .null), (1243, 1, .iconst 0, 0, 0, .inl (.int 0)), (1244, 1, .ireturn, 0, 0, .inl .null), (1245, 2, .iload 6, 6, 0, .inl .null), (1247, 3, .ifCond .ne 15, 1262, 0, .inl .null), (1250, 1, .aload_n 3, 3, 0, .inl .null), (1251, 1, .iconst 0, 0, 0, .inl (.int 0)), (1252, 1, .laload, 0, 0, .inl .null), (1253, 2, .iload 7, 7, 0, .inl .null), (1255, 1, .i2l, 0, 0, .inl .null), (1256, 1, .lcmp, 0, 0, .inl .null), (1257, 3, .ifCond .eq 5, 1262, 0, .inl .null), (1260, 1, .iconst 0, 0, 0, .inl (.int 0)), (1261, 1, .ireturn, 0, 0, .inl .null), (1262, 3, .goto 2093, 3355, 0, .inl .null), (1265, 1, .aload_n 1, 1, 0, .inl .null), (1266, 1, .aload_n 0, 0, 0, .inl .null), (1267, 2, .iload 5, 5, 0, .inl .null), (1269, 1, .iconst 1, 0, 0, .inl (.int 1)), (1270, 1, .iadd, 0, 0, .inl .null), (1271, 1, .iaload, 0, 0, .inl .null), (1272, 1, .aload_n 0, 0, 0, .inl .null), (1273, 2, .iload 5, 5, 0, .inl .null), (1275, 1, .iconst 2, 0, 0, .inl (.int 2)), (1276, 1, .iadd, 0, 0, .inl .null), (1277, 1, .iaload, 0, 0, .inl .null), (1278, 1, .aload_n 0, 0, 0, .inl .null), (1279, 2, .iload 5, 5, 0, .inl .null), (1281, 1, .iconst 3, 0, 0, .inl (.int 3)), (1282, 1, .iadd, 0, 0, .inl .null), (1283, 1, .iaload, 0, 0, .inl .null), (1284, 1, .aload_n 3, 3, 0, .inl .null), (1285, 3, .invokestatic 256, 269, 5, .inr (1, 4, 24)), (1288, 2, .istore 6, 6, 0, .inl .null), (1290, 1, .aload_n 2, 2, 0, .inl .null), (1291, 1, .aload_n 0, 0, 0, .inl .null), (1292, 2, .iload 5, 5, 0, .inl .null), (1294, 1, .iconst 1, 0, 0, .inl (.int 1)), (1295, 1, .iadd, 0, 0, .inl .null), (1296, 1, .iaload, 0, 0, .inl .null), (1297, 1, .aload_n 0, 0, 0, .inl .null), (1298, 2, .iload 5, 5, 0, .inl .null), (1300, 1, .iconst 2, 0, 0, .inl (.int 2)), (1301, 1, .iadd, 0, 0, .inl .null), (1302, 1, .iaload, 0, 0, .inl .null), (1303, 1, .aload_n 0, 0, 0, .inl .null), (1304, 2, .iload 5, 5, 0, .inl .null), (1306, 1, .iconst 3, 0, 0, .inl (.int 3)), (1307, 1, .iadd, 0, 0, .inl .null), (1308, 1, .iaload, 0, 0, .inl .null), (1309, 3, .invokevirtual 258, 200, 500, .inr (1, 0, 0)), (1312, 2, .istore 7, 7, 0, .inl .null), (1314, 1, .aload_n 2, 2, 0, .inl .null), (1315, 3, .invokevirtual 188, 130, 497, .inr (1, 0, 0)), (1318, 2, .iload 6, 6, 0, .inl .null), (1320, 3, .if_icmp .eq 5, 1325, 0, .inl .null), (1323, 1, .iconst 0, 0, 0, .inl (.int 0)), (1324, 1, .ireturn, 0, 0, .inl .null), (1325, 2, .iload 6, 6, 0, .inl .null), (1327, 3, .ifCond .ne 15, 1342, 0, .inl .null), (1330, 1, .aload_n 3, 3, 0, .inl .null), (1331, 1, .iconst 0, 0, 0, .inl (.int 0)), (1332, 1, .laload, 0, 0, .inl .null), (1333, 2, .iload 7, 7, 0, .inl .null), (1335, 1, .i2l, 0, 0, .inl .null), (1336, 1, .lcmp, 0, 0, .inl .null), (1337, 3, .ifCond .eq 5, 1342, 0, .inl .null), (1340, 1, .iconst 0, 0, 0, .inl (.int 0)), (1341, 1, .ireturn, 0, 0, .inl .null), (1342, 3, .goto 2013, 3355, 0, .inl .null), (1345, 1, .aload_n 1, 1, 0, .inl .null), (1346, 1, .aload_n 0, 0, 0, .inl .null), (1347, 2, .iload 5, 5, 0, .inl .null), (1349, 1, .iconst 1, 0, 0, .inl (.int 1)), (1350, 1, .iadd, 0, 0, .inl .null), (1351, 1, .iaload, 0, 0, .inl .null), (1352, 1, .aload_n 3, 3, 0, .inl .null), (1353, 3, .invokestatic 259, 270, 3, .inr (1, 2, 12)), (1356, 2, .istore 6, 6, 0, .inl .null), (1358, 1, .aload_n 2, 2, 0, .inl .null), (1359, 1, .aload_n 0, 0, 0, .inl .null), (1360, 2, .iload 5, 5, 0, .inl .null), (1362, 1, .iconst 1, 0, 0, .inl (.int 1)), (1363, 1, .iadd, 0, 0, .inl .null), (1364, 1, .iaload, 0, 0, .inl .null), (1365, 3, .invokevirtual 261, 201, 498, .inr (1, 0, 0)), (1368, 2, .istore 7, 7, 0, .inl .null), (1370, 1, .aload_n 2, 2, 0, .inl .null), (1371, 3, .invokevirtual 188, 130, 497, .inr (1, 0, 0)), (1374, 2, .iload 6, 6, 0, .inl .null), (1376, 3, .if_icmp .eq 5, 1381, 0, .inl .null), (1379, 1, .iconst 0, 0, 0, .inl (.int 0)), (1380, 1, .ireturn, 0, 0, .inl .null), (1381, 2, .iload 6, 6, 0, .inl .null), (1383, 3, .ifCond .ne 15, 1398, 0, .inl .null), (1386, 1, .aload_n 3, 3, 0, .inl .null), (1387, 1, .iconst 0, 0, 0, .inl (.int 0)), (1388, 1, .laload, 0, 0, .inl .null), (1389, 2, .iload 7, 7, 0, .inl .null), (1391, 1, .i2l, 0, 0, .inl .null), (1392, 1, .lcmp, 0, 0, .inl .null), (1393, 3, .ifCond .eq 5, 1398, 0, .inl .null), (1396, 1, .iconst 0, 0, 0, .inl (.int 0)), (1397, 1, .ireturn, 0, 0, .inl .null), (1398, 3, .goto 1957, 3355, 0, .inl .null), (1401, 1, .aload_n 1, 1, 0, .inl .null), (1402, 1, .aload_n 0, 0, 0, .inl .null), (1403, 2, .iload 5, 5, 0, .inl .null), (1405, 1, .iconst 1, 0, 0, .inl (.int 1)), (1406, 1, .iadd, 0, 0, .inl .null), (1407, 1, .iaload, 0, 0, .inl .null), (1408, 1, .aload_n 0, 0, 0, .inl .null), (1409, 2, .iload 5, 5, 0, .inl .null), (1411, 1, .iconst 2, 0, 0, .inl (.int 2)), (1412, 1, .iadd, 0, 0, .inl .null), (1413, 1, .iaload, 0, 0, .inl .null), (1414, 1, .aload_n 0, 0, 0, .inl .null), (1415, 2, .iload 5, 5, 0, .inl .null), (1417, 1, .iconst 3, 0, 0, .inl (.int 3)), (1418, 1, .iadd, 0, 0, .inl .null), (1419, 1, .iaload, 0, 0, .inl .null), (1420, 1, .aload_n 0, 0, 0, .inl .null), (1421, 2, .iload 5, 5, 0, .inl .null), (1423, 1, .iconst 4, 0, 0, .inl (.int 4)), (1424, 1, .iadd, 0, 0, .inl .null), (1425, 1, .iaload, 0, 0, .inl .null), (1426, 3, .ifCond .eq 7, 1433, 0, .inl .null), (1429, 1, .iconst 1, 0, 0, .inl (.int 1)), (1430, 3, .goto 4, 1434, 0, .inl .null), (1433, 1, .iconst 0, 0, 0, .inl (.int 0)), (1434, 1, .aload_n 3, 3, 0, .inl .null), (1435, 3, .invokestatic 262, 271, 6, .inr (1, 4, 24)), (1438, 2, .istore 6, 6, 0, .inl .null), (1440, 1, .aload_n 2, 2, 0, .inl .null), (1441, 1, .aload_n 0, 0, 0, .inl .null), (1442, 2, .iload 5, 5, 0, .inl .null), (1444, 1, .iconst 1, 0, 0, .inl (.int 1)), (1445, 1, .iadd, 0, 0, .inl .null), (1446, 1, .iaload, 0, 0, .inl .null), (1447, 1, .aload_n 0, 0, 0, .inl .null), (1448, 2, .iload 5, 5, 0, .inl .null), (1450, 1, .iconst 2, 0, 0, .inl (.int 2)), (1451, 1, .iadd, 0, 0, .inl .null), (1452, 1, .iaload, 0, 0, .inl .null), (1453, 1, .aload_n 0, 0, 0, .inl .null), (1454, 2, .iload 5, 5, 0, .inl .null), (1456, 1, .iconst 3, 0, 0, .inl (.int 3)), (1457, 1, .iadd, 0, 0, .inl .null), (1458, 1, .iaload, 0, 0, .inl .null), (1459, 1, .aload_n 0, 0, 0, .inl .null), (1460, 2, .iload 5, 5, 0, .inl .null), (1462, 1, .iconst 4, 0, 0, .inl (.int 4)), (1463, 1, .iadd, 0, 0, .inl .null), (1464, 1, .iaload, 0, 0, .inl .null), (1465, 3, .ifCond .eq 7, 1472, 0, .inl .null), (1468, 1, .iconst 1, 0, 0, .inl (.int 1)), (1469, 3, .goto 4, 1473, 0, .inl .null), (1472, 1, .iconst 0, 0, 0, .inl (.int 0)), (1473, 3, .invokevirtual 265, 202, 501, .inr (1, 0, 0)), (1476, 2, .istore 7, 7, 0, .inl .null), (1478, 1, .aload_n 2, 2, 0, .inl .null), (1479, 3, .invokevirtual 188, 130, 497, .inr (1, 0, 0)), (1482, 2, .iload 6, 6, 0, .inl .null), (1484, 3, .if_icmp .eq 5, 1489, 0, .inl .null), (1487, 1, .iconst 0, 0, 0, .inl (.int 0)), (1488, 1, .ireturn, 0, 0, .inl .null), (1489, 2, .iload 6, 6, 0, .inl .null), (1491, 3, .ifCond .ne 15, 1506, 0, .inl .null), (1494, 1, .aload_n 3, 3, 0, .inl .null), (1495, 1, .iconst 0, 0, 0, .inl (.int 0)), (1496, 1, .laload, 0, 0, .inl .null), (1497, 2, .iload 7, 7, 0, .inl .null), (1499, 1, .i2l, 0, 0, .inl .null), (1500, 1, .lcmp, 0, 0, .inl .null), (1501, 3, .ifCond .eq 5, 1506, 0, .inl .null), (1504, 1, .iconst 0, 0, 0, .inl (.int 0)), (1505, 1, .ireturn, 0, 0, .inl .null), (1506, 3, .goto 1849, 3355, 0, .inl .null), (1509, 1, .aload_n 1, 1, 0, .inl .null), (1510, 1, .aload_n 3, 3, 0, .inl .null), (1511, 3, .invokestatic 266, 272, 2, .inr (1, 1, 6)), (1514, 2, .istore 6, 6, 0, .inl .null), (1516, 1, .aload_n 2, 2, 0, .inl .null), (1517, 3, .invokevirtual 268, 203, 497, .inr (1, 0, 0)), (1520, 2, .istore 7, 7, 0, .inl .null), (1522, 1, .aload_n 2, 2, 0, .inl .null), (1523, 3, .invokevirtual 188, 130, 497, .inr (1, 0, 0)), (1526, 2, .iload 6, 6, 0, .inl .null), (1528, 3, .if_icmp .eq 5, 1533, 0, .inl .null), (1531, 1, .iconst 0, 0, 0, .inl (.int 0)), (1532, 1, .ireturn, 0, 0, .inl .null), (1533, 2, .iload 6, 6, 0, .inl .null), (1535, 3, .ifCond .ne 15, 1550, 0, .inl .null), (1538, 1, .aload_n 3, 3, 0, .inl .null), (1539, 1, .iconst 0, 0, 0, .inl (.int 0)), (1540, 1, .laload, 0, 0, .inl .null), (1541, 2, .iload 7, 7, 0, .inl .null), (1543, 1, .i2l, 0, 0, .inl .null), (1544, 1, .lcmp, 0, 0, .inl .null), (1545, 3, .ifCond .eq 5, 1550, 0, .inl .null), (1548, 1, .iconst 0, 0, 0, .inl (.int 0)), (1549, 1, .ireturn, 0, 0, .inl .null), (1550, 3, .goto 1805, 3355, 0, .inl .null), (1553, 1, .aload_n 1, 1, 0, .inl .null), (1554, 1, .aload_n 0, 0, 0, .inl .null), (1555, 2, .iload 5, 5, 0, .inl .null), (1557, 1, .iconst 1, 0, 0, .inl (.int 1)), (1558, 1, .iadd, 0, 0, .inl .null), (1559, 1, .iaload, 0, 0, .inl .null), (1560, 1, .aload_n 3, 3, 0, .inl .null), (1561, 3, .invokestatic 269, 273, 3, .inr (1, 3, 18)), (1564, 2, .istore 6, 6, 0, .inl .null), (1566, 1, .aload_n 2, 2, 0, .inl .null), (1567, 1, .aload_n 0, 0, 0, .inl .null), (1568, 2, .iload 5, 5, 0, .inl .null), (1570, 1, .iconst 1, 0, 0, .inl (.int 1)), (1571, 1, .iadd, 0, 0, .inl .null), (1572, 1, .iaload, 0, 0, .inl .null), (1573, 3, .invokevirtual 271, 206, 498, .inr (1, 0, 0)), (1576, 2, .istore 7, 7, 0, .inl .null), (1578, 1, .aload_n 2, 2, 0, .inl .null), (1579, 3, .invokevirtual 188, 130, 497, .inr (1, 0, 0)), (1582, 2, .iload 6, 6, 0, .inl .null), (1584, 3, .if_icmp .eq 5, 1589, 0, .inl .null), (1587, 1, .iconst 0, 0, 0, .inl (.int 0)), (1588, 1, .ireturn, 0, 0, .inl .null), (1589, 2, .iload 6, 6, 0, .inl .null), (1591, 3, .ifCond .ne 15, 1606, 0, .inl .null), (1594, 1, .aload_n 3, 3, 0, .inl .null), (1595, 1, .iconst 0, 0, 0, .inl (.int 0)), (1596, 1, .laload, 0, 0, .inl .null), (1597, 2, .iload 7, 7, 0, .inl .null), (1599, 1, .i2l, 0, 0, .inl .null), (1600, 1, .lcmp, 0, 0, .inl .null), (1601, 3, .ifCond .eq 5, 1606, 0, .inl .null), (1604, 1, .iconst 0, 0, 0, .inl (.int 0)), (1605, 1, .ireturn, 0, 0, .inl .null), (1606, 3, .goto 1749, 3355, 0, .inl .null), (1609, 1, .aload_n 1, 1, 0, .inl .null), (1610, 1, .aload_n 0, 0, 0, .inl .null), (1611, 2, .iload 5, 5, 0, .inl .null), (1613, 1, .iconst 1, 0, 0, .inl (.int 1)), (1614, 1, .iadd, 0, 0, .inl .null), (1615, 1, .iaload, 0, 0, .inl .null), (1616, 1, .aload_n 0, 0, 0, .inl .null), (1617, 2, .iload 5, 5, 0, .inl .null), (1619, 1, .iconst 2, 0, 0, .inl (.int 2)), (1620, 1, .iadd, 0, 0, .inl .null), (1621, 1, .iaload, 0, 0, .inl .null), (1622, 1, .aload_n 3, 3, 0, .inl .null), (1623, 3, .invokestatic 272, 274, 4, .inr (1, 4, 24)), (1626, 2, .istore 6, 6, 0, .inl .null), (1628, 1, .aload_n 2, 2, 0, .inl .null), (1629, 1, .aload_n 0, 0, 0, .inl .null), (1630, 2, .iload 5, 5, 0, .inl .null), (1632, 1, .iconst 1, 0, 0, .inl (.int 1)), (1633, 1, .iadd, 0, 0, .inl .null), (1634, 1, .iaload, 0, 0, .inl .null), (1635, 1, .aload_n 0, 0, 0, .inl .null), (1636, 2, .iload 5, 5, 0, .inl .null), (1638, 1, .iconst 2, 0, 0, .inl (.int 2)), (1639, 1, .iadd, 0, 0, .inl .null), (1640, 1, .iaload, 0, 0, .inl .null), (1641, 3, .invokevirtual 274, 207, 499, .inr (1, 0, 0)), (1644, 2, .istore 7, 7, 0, .inl .null), (1646, 1, .aload_n 2, 2, 0, .inl .null), (1647, 3, .invokevirtual 188, 130, 497, .inr (1, 0, 0)), (1650, 2, .iload 6, 6, 0, .inl .null), (1652, 3, .if_icmp .eq 5, 1657, 0, .inl .null), (1655, 1, .iconst 0, 0, 0, .inl (.int 0)), (1656, 1, .ireturn, 0, 0, .inl .null), (1657, 2, .iload 6, 6, 0, .inl .null), (1659, 3, .ifCond .ne 15, 1674, 0, .inl .null), (1662, 1, .aload_n 3, 3, 0, .inl .null), (1663, 1, .iconst 0, 0, 0, .inl (.int 0)), (1664, 1, .laload, 0, 0, .inl .null), (1665, 2, .iload 7, 7, 0, .inl .null), (1667, 1, .i2l, 0, 0, .inl .null), (1668, 1, .lcmp, 0, 0, .inl .null), (1669, 3, .ifCond .eq 5, 1674, 0, .inl .null), (1672, 1, .iconst 0, 0, 0, .inl (.int 0)), (1673, 1, .ireturn, 0, 0, .inl .null), (1674, 3, .goto 1681, 3355, 0, .inl .null), (1677, 1, .aload_n 1, 1, 0, .inl .null), (1678, 1, .aload_n 0, 0, 0, .inl .null), (1679, 2, .iload 5, 5, 0, .inl .null), (1681, 1, .iconst 1, 0, 0, .inl (.int 1)), (1682, 1, .iadd, 0, 0, .inl .null), (1683, 1, .iaload, 0, 0, .inl .null), (1684, 1, .aload_n 3, 3, 0, .inl .null), (1685, 3, .invokestatic 275, 275, 3, .inr (1, 3, 18)), (1688, 2, .istore 6, 6, 0, .inl .null), (1690, 1, .aload_n 2, 2, 0, .inl .null), (1691, 1, .aload_n 0, 0, 0, .inl .null), (1692, 2, .iload 5, 5, 0, .inl .null), (1694, 1, .iconst 1, 0, 0, .inl (.int 1)), (1695, 1, .iadd, 0, 0, .inl .null), (1696, 1, .iaload, 0, 0, .inl .null), (1697, 3, .invokevirtual 277, 208, 498, .inr (1, 0, 0)), (1700, 2, .istore 7, 7, 0, .inl .null), (1702, 1, .aload_n 2, 2, 0, .inl .null), (1703, 3, .invokevirtual 188, 130, 497, .inr (1, 0, 0)), (1706, 2, .iload 6, 6, 0, .inl .null), (1708, 3, .if_icmp .eq 5, 1713, 0, .inl .null), (1711, 1, .iconst 0, 0, 0, .inl (.int 0)), (1712, 1, .ireturn, 0, 0, .inl .null), (1713, 2, .iload 6, 6, 0, .inl .null), (1715, 3, .ifCond .ne 15, 1730, 0, .inl .null), (1718, 1, .aload_n 3, 3, 0, .inl .null), (1719, 1, .iconst 0, 0, 0, .inl (.int 0)), (1720, 1, .laload, 0, 0, .inl .null), (1721, 2, .iload 7, 7, 0, .inl .null), (1723, 1, .i2l, 0, 0, .inl .null), (1724, 1, .lcmp, 0, 0, .inl .null), (1725, 3, .ifCond .eq 5, 1730, 0, .inl .null), (1728, 1, .iconst 0, 0, 0, .inl (.int 0)), (1729, 1, .ireturn, 0, 0, .inl .null), (1730, 3, .goto 1625, 3355, 0, .inl .null), (1733, 1, .aload_n 1, 1, 0, .inl .null), (1734, 1, .aload_n 3, 3, 0, .inl .null), (1735, 3, .invokestatic 278, 276, 2, .inr (1, 1, 6)), (1738, 2, .istore 6, 6, 0, .inl .null), (1740, 1, .aload_n 2, 2, 0, .inl .null), (1741, 3, .invokevirtual 280, 209, 497, .inr (1, 0, 0)), (1744, 2, .istore 7, 7, 0, .inl .null), (1746, 1, .aload_n 2, 2, 0, .inl .null), (1747, 3, .invokevirtual 188, 130, 497, .inr (1, 0, 0)), (1750, 2, .iload 6, 6, 0, .inl .null), (1752, 3, .if_icmp .eq 5, 1757, 0, .inl .null), (1755, 1, .iconst 0, 0, 0, .inl (.int 0)), (1756, 1, .ireturn, 0, 0, .inl .null), (1757, 2, .iload 6, 6, 0, .inl .null), (1759, 3, .ifCond .ne 22, 1781, 0, .inl .null), (1762, 1, .aload_n 3, 3, 0, .inl .null), (1763, 1, .iconst 0, 0, 0, .inl (.int 0)), (1764, 1, .laload, 0, 0, .inl .null), (1765, 2, .iload 7, 7, 0, .inl .null), (1767, 3, .ifCond .eq 7, 1774, 0, .inl .null), (1770, 1, .lconst 1, 0, 0, .inl (.long 1)), (1771, 3, .goto 4, 1775, 0, .inl .null), (1774, 1, .lconst 0, 0, 0, .inl (.long 0)), (1775, 1, .lcmp, 0, 0, .inl .null), (1776, 3, .ifCond .eq 5, 1781, 0, .inl .null), (1779, 1, .iconst 0, 0, 0, .inl (.int 0)), (1780, 1, .ireturn, 0, 0, .inl .null), (1781, 3, .goto 1574, 3355, 0, .inl .null), (1784, 1, .aload_n 1, 1, 0, .inl .null), (1785, 1, .aload_n 3, 3, 0, .inl .null), (1786, 3, .invokestatic 281, 277, 2, .inr (1, 1, 6)), (1789, 2, .istore 6, 6, 0, .inl .null), (1791, 1, .aload_n 2, 2, 0, .inl .null), (1792, 3, .invokevirtual 283, 213, 497, .inr (1, 0, 0)), (1795, 2, .istore 7, 7, 0, .inl .null), (1797, 1, .aload_n 2, 2, 0, .inl .null), (1798, 3, .invokevirtual 188, 130, 497, .inr (1, 0, 0)), (1801, 2, .iload 6, 6, 0, .inl .null), (1803, 3, .if_icmp .eq 5, 1808, 0, .inl .null), (1806, 1, .iconst 0, 0, 0, .inl (.int 0)), (1807, 1, .ireturn, 0, 0, .inl .null), (1808, 2, .iload 6, 6, 0, .inl .null), (1810, 3, .ifCond .ne 15, 1825, 0, .inl .null), (1813, 1, .aload_n 3, 3, 0, .inl .null), (1814, 1, .iconst 0, 0, 0, .inl (.int 0)), (1815, 1, .laload, 0, 0, .inl .null), (1816, 2, .iload 7, 7, 0, .inl .null), (1818, 1, .i2l, 0, 0, .inl .null), (1819, 1, .lcmp, 0, 0, .inl .null), (1820, 3, .ifCond .eq 5, 1825, 0, .inl .null), (1823, 1, .iconst 0, 0, 0, .inl (.int 0)), (1824, 1, .ireturn, 0, 0, .inl .null), (1825, 3, .goto 1530, 3355, 0, .inl .null), (1828, 1, .aload_n 1, 1, 0, .inl .null), (1829, 1, .aload_n 3, 3, 0, .inl .null), (1830, 3, .invokestatic 284, 278, 2, .inr (1, 1, 6)), (1833, 2, .istore 6, 6, 0, .inl .null), (1835, 1, .aload_n 2, 2, 0, .inl .null), (1836, 3, .invokevirtual 286, 214, 497, .inr (1, 0, 0)), (1839, 2, .istore 7, 7, 0, .inl .null), (1841, 1, .aload_n 2, 2, 0, .inl .null), (1842, 3, .invokevirtual 188, 130, 497, .inr (1, 0, 0)), (1845, 2, .iload 6, 6, 0, .inl .null), (1847, 3, .if_icmp .eq 5, 1852, 0, .inl .null), (1850, 1, .iconst 0, 0, 0, .inl (.int 0)), (1851, 1, .ireturn, 0, 0, .inl .null), (1852, 2, .iload 6, 6, 0, .inl .null), (1854, 3, .ifCond .ne 15, 1869, 0, .inl .null), (1857, 1, .aload_n 3, 3, 0, .inl .null), (1858, 1, .iconst 0, 0, 0, .inl (.int 0)), (1859, 1, .laload, 0, 0, .inl .null), (1860, 2, .iload 7, 7, 0, .inl .null), (1862, 1, .i2l, 0, 0, .inl .null), (1863, 1, .lcmp, 0, 0, .inl .null), (1864, 3, .ifCond .eq 5, 1869, 0, .inl .null), (1867, 1, .iconst 0, 0, 0, .inl (.int 0)), (1868, 1, .ireturn, 0, 0, .inl .null), (1869, 3, .goto 1486, 3355, 0, .inl .null), (1872, 1, .aload_n 1, 1, 0, .inl .null), (1873, 1, .aload_n 0, 0, 0, .inl .null), (1874, 2, .iload 5, 5, 0, .inl .null), (1876, 1, .iconst 1, 0, 0, .inl (.int 1)), (1877, 1, .iadd, 0, 0, .inl .null), (1878, 1, .iaload, 0, 0, .inl .null), (1879, 1, .aload_n 0, 0, 0, .inl .null), (1880, 2, .iload 5, 5, 0, .inl .null), (1882, 1, .iconst 2, 0, 0, .inl (.int 2)), (1883, 1, .iadd, 0, 0, .inl .null), (1884, 1, .iaload, 0, 0, .inl .null), (1885, 1, .aload_n 3, 3, 0, .inl .null), (1886, 3, .invokestatic 287, 279, 4, .inr (1, 3, 18)), (1889, 2, .istore 6, 6, 0, .inl .null), (1891, 1, .aload_n 2, 2, 0, .inl .null), (1892, 1, .aload_n 0, 0, 0, .inl .null), (1893, 2, .iload 5, 5, 0, .inl .null), (1895, 1, .iconst 1, 0, 0, .inl (.int 1)), (1896, 1, .iadd, 0, 0, .inl .null), (1897, 1, .iaload, 0, 0, .inl .null), (1898, 1, .aload_n 0, 0, 0, .inl .null), (1899, 2, .iload 5, 5, 0, .inl .null), (1901, 1, .iconst 2, 0, 0, .inl (.int 2)), (1902, 1, .iadd, 0, 0, .inl .null), (1903, 1, .iaload, 0, 0, .inl .null), (1904, 3, .invokevirtual 289, 215, 499, .inr (1, 0, 0)), (1907, 2, .istore 7, 7, 0, .inl .null), (1909, 1, .aload_n 2, 2, 0, .inl .null), (1910, 3, .invokevirtual 188, 130, 497, .inr (1, 0, 0)), (1913, 2, .iload 6, 6, 0, .inl .null), (1915, 3, .if_icmp .eq 5, 1920, 0, .inl .null), (1918, 1, .iconst 0, 0, 0, .inl (.int 0)), (1919, 1, .ireturn, 0, 0, .inl .null), (1920, 2, .iload 6, 6, 0, .inl .null), (1922, 3, .ifCond .ne 15, 1937, 0, .inl .null), (1925, 1, .aload_n 3, 3, 0, .inl .null), (1926, 1, .iconst 0, 0, 0, .inl (.int 0)), (1927, 1, .laload, 0, 0, .inl .null), (1928, 2, .iload 7, 7, 0, .inl .null), (1930, 1, .i2l, 0, 0, .inl .null), (1931, 1, .lcmp, 0, 0, .inl .null), (1932, 3, .ifCond .eq 5, 1937, 0, .inl .null), (1935, 1, .iconst 0, 0, 0, .inl (.int 0)), (1936, 1, .ireturn, 0, 0, .inl .null), (1937, 3, .goto 1418, 3355, 0, .inl .null), (1940, 1, .aload_n 1, 1, 0, .inl .null), (1941, 1, .aload_n 0, 0, 0, .inl .null), (1942, 2, .iload 5, 5, 0, .inl .null), (1944, 1, .iconst 1, 0, 0, .inl (.int 1)), (1945, 1, .iadd, 0, 0, .inl .null), (1946, 1, .iaload, 0, 0, .inl .null), (1947, 1, .aload_n 3, 3, 0, .inl .null), (1948, 3, .invokestatic 290, 280, 3, .inr (1, 2, 12)), (1951, 2, .istore 6, 6, 0, .inl .null), (1953, 1, .aload_n 2, 2, 0, .inl .null), (1954, 1, .aload_n 0, 0, 0, .inl .null), (1955, 2, .iload 5, 5, 0, .inl .null), (1957, 1, .iconst 1, 0, 0, .inl (.int 1)), (1958, 1, .iadd, 0, 0, .inl .null), (1959, 1, .iaload, 0, 0, .inl .null), (1960, 3, .invokevirtual 292, 216, 498, .inr (1, 0, 0)), (1963, 2, .istore 7, 7, 0, .inl .null), (1965, 1, .aload_n 2, 2, 0, .inl .null), (1966, 3, .invokevirtual 188, 130, 497, .inr (1, 0, 0)), (1969, 2, .iload 6, 6, 0, .inl .null), (1971, 3, .if_icmp .eq 5, 1976, 0, .inl .null), (1974, 1, .iconst 0, 0, 0, .inl (.int 0)), (1975, 1, .ireturn, 0, 0, .inl .null), (1976, 2, .iload 6, 6, 0, .inl .null), (1978, 3, .ifCond .ne 15, 1993, 0, .inl .null), (1981, 1, .aload_n 3, 3, 0, .inl .null), (1982, 1, .iconst 0, 0, 0, .inl (.int 0)), (1983, 1, .laload, 0, 0, .inl .null), (1984, 2, .iload 7, 7, 0, .inl .null), (1986, 1, .i2l, 0, 0, .inl .null), (1987, 1, .lcmp, 0, 0, .inl .null), (1988, 3, .ifCond .eq 5, 1993, 0, .inl .null), (1991, 1, .iconst 0, 0, 0, .inl (.int 0)), (1992, 1, .ireturn, 0, 0, .inl .null), (1993, 3, .goto 1362, 3355, 0, .inl .null), (1996, 1, .aload_n 1, 1, 0, .inl .null), (1997, 1, .aload_n 0, 0, 0, .inl .null), (1998, 2, .iload 5, 5, 0, .inl .null), (2000, 1, .iconst 1, 0, 0, .inl (.int 1)), (2001, 1, .iadd, 0, 0, .inl .null), (2002, 1, .iaload, 0, 0, .inl .null), (2003, 1, .aload_n 3, 3, 0, .inl .null), (2004, 3, .invokestatic 293, 281, 3, .inr (1, 2, 12)), (2007, 2, .istore 6, 6, 0, .inl .null), (2009, 1, .aload_n 2, 2, 0, .inl .null), (2010, 1, .aload_n 0, 0, 0, .inl .null), (2011, 2, .iload 5, 5, 0, .inl .null), (2013, 1, .iconst 1, 0, 0, .inl (.int 1)), (2014, 1, .iadd, 0, 0, .inl .null), (2015, 1, .iaload, 0, 0, .inl .null), (2016, 3, .invokevirtual 295, 217, 498, .inr (2, 0, 0)), (2019, 2, .lstore 7, 7, 0, .inl .null), (2021, 1, .aload_n 2, 2, 0, .inl .null), (2022, 3, .invokevirtual 188, 130, 497, .inr (1, 0, 0)), (2025, 2, .iload 6, 6, 0, .inl .null), (2027, 3, .if_icmp .eq 5, 2032, 0, .inl .null), (2030, 1, .iconst 0, 0, 0, .inl (.int 0)), (2031, 1, .ireturn, 0, 0, .inl .null), (2032, 2, .iload 6, 6, 0, .inl .null), (2034, 3, .ifCond .ne 14, 2048, 0, .inl .null), (2037, 1, .aload_n 3, 3, 0, .inl .null), (2038, 1, .iconst 0, 0, 0, .inl (.int 0)), (2039, 1, .laload, 0, 0, .inl .null), (2040, 2, .lload 7, 7, 0, .inl .null), (2042, 1, .lcmp, 0, 0, .inl .null), (2043, 3, .ifCond .eq 5, 2048, 0, .inl .null), (2046, 1, .iconst 0, 0, 0, .inl (.int 0)), (2047, 1, .ireturn, 0, 0, .inl .null), (2048, 3, .goto 1307, 3355, 0, .inl .null), (2051, 1, .aload_n 1, 1, 0, .inl .null), (2052, 1, .aload_n 0, 0, 0, .inl .null), (2053, 2, .iload 5, 5, 0, .inl .null), (2055, 1, .iconst 1, 0, 0, .inl (.int 1)), (2056, 1, .iadd, 0, 0, .inl .null), (2057, 1, .iaload, 0, 0, .inl .null), (2058, 1, .aload_n 3, 3, 0, .inl .null), (2059, 3, .invokestatic 296, 282, 3, .inr (1, 2, 12)), (2062, 2, .istore 6, 6, 0, .inl .null), (2064, 1, .aload_n 2, 2, 0, .inl .null), (2065, 1, .aload_n 0, 0, 0, .inl .null), (2066, 2, .iload 5, 5, 0, .inl .null), (2068, 1, .iconst 1, 0, 0, .inl (.int 1)), (2069, 1, .iadd, 0, 0, .inl .null), (2070, 1, .iaload, 0, 0, .inl .null), (2071, 3, .invokevirtual 298, 218, 498, .inr (2, 0, 0)), (2074, 2, .lstore 7, 7, 0, .inl .null), (2076, 1, .aload_n 2, 2, 0, .inl .null), (2077, 3, .invokevirtual 188, 130, 497, .inr (1, 0, 0)), (2080, 2, .iload 6, 6, 0, .inl .null), (2082, 3, .if_icmp .eq 5, 2087, 0, .inl .null), (2085, 1, .iconst 0, 0, 0, .inl (.int 0)), (2086, 1, .ireturn, 0, 0, .inl .null), (2087, 2, .iload 6, 6, 0, .inl .null), (2089, 3, .ifCond .ne 14, 2103, 0, .inl .null), (2092, 1, .aload_n 3, 3, 0, .inl .null), (2093, 1, .iconst 0, 0, 0, .inl (.int 0)), (2094, 1, .laload, 0, 0, .inl .null), (2095, 2, .lload 7, 7, 0, .inl .null), (2097, 1, .lcmp, 0, 0, .inl .null), (2098, 3, .ifCond .eq 5, 2103, 0, .inl .null), (2101, 1, .iconst 0, 0, 0, .inl (.int 0)), (2102, 1, .ireturn, 0, 0, .inl .null), (2103, 3, .goto 1252, 3355, 0, .inl .null), (2106, 1, .aload_n 1, 1, 0, .inl .null), (2107, 1, .aload_n 0, 0, 0, .inl .null), (2108, 2, .iload 5, 5, 0, .inl .null), (2110, 1, .iconst 1, 0, 0, .inl (.int 1)), (2111, 1, .iadd, 0, 0, .inl .null), (2112, 1, .iaload, 0, 0, .inl .null), (2113, 1, .aload_n 3, 3, 0, .inl .null), (2114, 3, .invokestatic 299, 283, 3, .inr (1, 3, 18)), (2117, 2, .istore 6, 6, 0, .inl .null), (2119, 1, .aload_n 2, 2, 0, .inl .null), (2120, 1, .aload_n 0, 0, 0, .inl .null), (2121, 2, .iload 5, 5, 0, .inl .null), (2123, 1, .iconst 1, 0, 0, .inl (.int 1)), (2124, 1, .iadd, 0, 0, .inl .null), (2125, 1, .iaload, 0, 0, .inl .null), (2126, 3, .invokevirtual 301, 222, 498, .inr (1, 0, 0)), (2129, 2, .istore 7, 7, 0, .inl .null), (2131, 1, .aload_n 2, 2, 0, .inl .null), (2132, 3, .invokevirtual 188, 130, 497, .inr (1, 0, 0)), (2135, 2, .iload 6, 6, 0, .inl .null), (2137, 3, .if_icmp .eq 5, 2142, 0, .inl .null), (2140, 1, .iconst 0, 0, 0, .inl (.int 0)), (2141, 1, .ireturn, 0, 0, .inl .null), (2142, 2, .iload 6, 6, 0, .inl .null), (2144, 3, .ifCond .ne 15, 2159, 0, .inl .null), (2147, 1, .aload_n 3, 3, 0, .inl .null), (2148, 1, .iconst 0, 0, 0, .inl (.int 0)), (2149, 1, .laload, 0, 0, .inl .null), (2150, 2, .iload 7, 7, 0, .inl .null), (2152, 1, .i2l, 0, 0, .inl .null), (2153, 1, .lcmp, 0, 0, .inl .null), (2154, 3, .ifCond .eq 5, 2159, 0, .inl .null), (2157, 1, .iconst 0, 0, 0, .inl (.int 0)), (2158, 1, .ireturn, 0, 0, .inl .null), (2159, 3, .goto 1196, 3355, 0, .inl .null), (2162, 1, .aload_n 1, 1, 0, .inl .null), (2163, 1, .aload_n 0, 0, 0, .inl .null), (2164, 2, .iload 5, 5, 0, .inl .null), (2166, 1, .iconst 1, 0, 0, .inl (.int 1)), (2167, 1, .iadd, 0, 0, .inl .null), (2168, 1, .iaload, 0, 0, .inl .null), (2169, 1, .aload_n 3, 3, 0, .inl .null), (2170, 3, .invokestatic 302, 284, 3, .inr (1, 2, 12)), (2173, 2, .istore 6, 6, 0, .inl .null), (2175, 1, .aload_n 2, 2, 0, .inl .null), (2176, 1, .aload_n 0, 0, 0, .inl .null), (2177, 2, .iload 5, 5, 0, .inl .null), (2179, 1, .iconst 1, 0, 0, .inl (.int 1)), (2180, 1, .iadd, 0, 0, .inl .null), (2181, 1, .iaload, 0, 0, .inl .null), (2182, 3, .invokevirtual 304, 223, 498, .inr (1, 0, 0)), (2185, 2, .istore 7, 7, 0, .inl .null), (2187, 1, .aload_n 2, 2, 0, .inl .null), (2188, 3, .invokevirtual 188, 130, 497, .inr (1, 0, 0)), (2191, 2, .iload 6, 6, 0, .inl .null), (2193, 3, .if_icmp .eq 5, 2198, 0, .inl .null), (2196, 1, .iconst 0, 0, 0, .inl (.int 0)), (2197, 1, .ireturn, 0, 0, .inl .null), (2198, 2, .iload 6, 6, 0, .inl .null), (2200, 3, .ifCond .ne 15, 2215, 0, .inl .null), (2203, 1, .aload_n 3, 3, 0, .inl .null), (2204, 1, .iconst 0, 0, 0, .inl (.int 0)), (2205, 1, .laload, 0, 0, .inl .null), (2206, 2, .iload 7, 7, 0, .inl .null), (2208, 1, .i2l, 0, 0, .inl .null), (2209, 1, .lcmp, 0, 0, .inl .null), (2210, 3, .ifCond .eq 5, 2215, 0, .inl .null), (2213, 1, .iconst 0, 0, 0, .inl (.int 0)), (2214, 1, .ireturn, 0, 0, .inl .null), (2215, 3, .goto 1140, 3355, 0, .inl .null), (2218, 1, .aload_n 1, 1, 0, .inl .null), (2219, 1, .aload_n 0, 0, 0, .inl .null), (2220, 2, .iload 5, 5, 0, .inl .null), (2222, 1, .iconst 1, 0, 0, .inl (.int 1)), (2223, 1, .iadd, 0, 0, .inl .null), (2224, 1, .iaload, 0, 0, .inl .null), (2225, 2, .aload 4, 4, 0, .inl .null), (2227, 3, .invokestatic 305, 285, 3, .inr (1, 3, 18)), (2230, 2, .istore 6, 6, 0, .inl .null), (2232, 1, .aload_n 2, 2, 0, .inl .null), (2233, 1, .aload_n 0, 0, 0, .inl .null), (2234, 2, .iload 5, 5, 0, .inl .null), (2236, 1, .iconst 1, 0, 0, .inl (.int 1)), (2237, 1, .iadd, 0, 0, .inl .null), (2238, 1, .iaload, 0, 0, .inl .null), (2239, 3, .invokevirtual 308, 224, 498, .inr (3, 0, 0)), (2242, 2, .dstore 7, 7, 0, .inl .null), (2244, 1, .aload_n 2, 2, 0, .inl .null), (2245, 3, .invokevirtual 188, 130, 497, .inr (1, 0, 0)), (2248, 2, .iload 6, 6, 0, .inl .null), (2250, 3, .if_icmp .eq 5, 2255, 0, .inl .null), (2253, 1, .iconst 0, 0, 0, .inl (.int 0)), (2254, 1, .ireturn, 0, 0, .inl .null), (2255, 2, .iload 6, 6, 0, .inl .null), (2257, 3, .ifCond .ne 35, 2292, 0, .inl .null), (2260, 2, .aload 4, 4, 0, .inl .null), (2262, 1, .iconst 0, 0, 0, .inl (.int 0)), (2263, 1, .daload, 0, 0, .inl .null), (2264, 2, .dload 7, 7, 0, .inl .null), (2266, 1, .dcmp .l, 0, 0, .inl .null), (2267, 3, .ifCond .eq 25, 2292, 0, .inl .null), (2270, 2, .aload 4, 4, 0, .inl .null), (2272, 1, .iconst 0, 0, 0, .inl (.int 0)), (2273, 1, .daload, 0, 0, .inl .null), (2274, 2, .aload 4, 4, 0, .inl .null), (2276, 1, .iconst 0, 0, 0, .inl (.int 0)), (2277, 1, .daload, 0, 0, .inl .null), (2278, 1, .dcmp .l, 0, 0, .inl .null), (2279, 3, .ifCond .eq 11, 2290, 0, .inl .null), (2282, 2, .dload 7, 7, 0, .inl .null), (2284, 2, .dload 7, 7, 0, .inl .null), (2286, 1, .dcmp .l, 0, 0, .inl .null), (2287, 3, .ifCond .ne 5, 2292, 0, .inl .null), (2290, 1, .iconst 0, 0, 0, .inl (.int 0)), (2291, 1, .ireturn, 0, 0, .inl .null), (2292, 3, .goto 1063, 3355, 0, .inl .null), (2295, 1, .aload_n 1, 1, 0, .inl .null), (2296, 1, .aload_n 3, 3, 0, .inl .null), (2297, 3, .invokestatic 309, 286, 2, .inr (1, 1, 6)), (2300, 2, .istore 6, 6, 0, .inl .null), (2302, 1, .aload_n 2, 2, 0, .inl .null), (2303, 3, .invokevirtual 311, 226, 497, .inr (1, 0, 0)), (2306, 2, .istore 7, 7, 0, .inl .null), (2308, 1, .aload_n 2, 2, 0, .inl .null), (2309, 3, .invokevirtual 188, 130, 497, .inr (1, 0, 0)), (2312, 2, .iload 6, 6, 0, .inl .null), (2314, 3, .if_icmp .eq 5, 2319, 0, .inl .null), (2317, 1, .iconst 0, 0, 0, .inl (.int 0)), (2318, 1, .ireturn, 0, 0, .inl .null), (2319, 2, .iload 6, 6, 0, .inl .null), (2321, 3, .ifCond .ne 22, 2343, 0, .inl .null), (2324, 1, .aload_n 3, 3, 0, .inl .null), (2325, 1, .iconst 0, 0, 0, .inl (.int 0)), (2326, 1, .laload, 0, 0, .inl .null), (2327, 2, .iload 7, 7, 0, .inl .null), (2329, 3, .ifCond .eq 7, 2336, 0, .inl .null), (2332, 1, .lconst 1, 0, 0, .inl (.long 1)), (2333, 3, .goto 4, 2337, 0, .inl .null), (2336, 1, .lconst 0, 0, 0, .inl (.long 0)), (2337, 1, .lcmp, 0, 0, .inl .null), (2338, 3, .ifCond .eq 5, 2343, 0, .inl .null), (2341, 1, .iconst 0, 0, 0, .inl (.int 0)), (2342, 1, .ireturn, 0, 0, .inl .null), (2343, 3, .goto 1012, 3355, 0, .inl .null), (2346, 1, .aload_n 1, 1, 0, .inl .null), (2347, 1, .aload_n 3, 3, 0, .inl .null), (2348, 3, .invokestatic 312, 287, 2, .inr (1, 1, 6)), (2351, 2, .istore 6, 6, 0, .inl .null), (2353, 1, .aload_n 2, 2, 0, .inl .null), (2354, 3, .invokevirtual 314, 230, 497, .inr (1, 0, 0)), (2357, 2, .istore 7, 7, 0, .inl .null), (2359, 1, .aload_n 2, 2, 0, .inl .null), (2360, 3, .invokevirtual 188, 130, 497, .inr (1, 0, 0)), (2363, 2, .iload 6, 6, 0, .inl .null), (2365, 3, .if_icmp .eq 5, 2370, 0, .inl .null), (2368, 1, .iconst 0, 0, 0, .inl (.int 0)), (2369, 1, .ireturn, 0, 0, .inl .null), (2370, 2, .iload 6, 6, 0, .inl .null), (2372, 3, .ifCond .ne 15, 2387, 0, .inl .null), (2375, 1, .aload_n 3, 3, 0, .inl .null), (2376, 1, .iconst 0, 0, 0, .inl (.int 0)), (2377, 1, .laload, 0, 0, .inl .null), (2378, 2, .iload 7, 7, 0, .inl .null), (2380, 1, .i2l, 0, 0, .inl .null), (2381, 1, .lcmp, 0, 0, .inl .null), (2382, 3, .ifCond .eq 5, 2387, 0, .inl .null), (2385, 1, .iconst 0, 0, 0, .inl (.int 0)), (2386, 1, .ireturn, 0, 0, .inl .null), (2387, 3, .goto 968, 3355, 0, .inl .null), (2390, 1, .aload_n 1, 1, 0, .inl .null), (2391, 1, .aload_n 0, 0, 0, .inl .null), (2392, 2, .iload 5, 5, 0, .inl .null), (2394, 1, .iconst 1, 0, 0, .inl (.int 1)), (2395, 1, .iadd, 0, 0, .inl .null), (2396, 1, .iaload, 0, 0, .inl .null), (2397, 1, .aload_n 3, 3, 0, .inl .null), (2398, 3, .invokestatic 315, 288, 3, .inr (1, 2, 12)), (2401, 2, .istore 6, 6, 0, .inl .null), (2403, 1, .aload_n 2, 2, 0, .inl .null), (2404, 1, .aload_n 0, 0, 0, .inl .null), (2405, 2, .iload 5, 5, 0, .inl .null), (2407, 1, .iconst 1, 0, 0, .inl (.int 1)), (2408, 1, .iadd, 0, 0, .inl .null), (2409, 1, .iaload, 0, 0, .inl .null), (2410, 3, .invokevirtual 317, 232, 498, .inr (1, 0, 0)), (2413, 2, .istore 7, 7, 0, .inl .null), (2415, 1, .aload_n 2, 2, 0, .inl .null), (2416, 3, .invokevirtual 188, 130, 497, .inr (1, 0, 0)), (2419, 2, .iload 6, 6, 0, .inl .null), (2421, 3, .if_icmp .eq 5, 2426, 0, .inl .null), (2424, 1, .iconst 0, 0, 0, .inl (.int 0)), (2425, 1, .ireturn, 0, 0, .inl .null), (2426, 2, .iload 6, 6, 0, .inl .null), (2428, 3, .ifCond .ne 15, 2443, 0, .inl .null), (2431, 1, .aload_n 3, 3, 0, .inl .null), (2432, 1, .iconst 0, 0, 0, .inl (.int 0)), (2433, 1, .laload, 0, 0, .inl .null), (2434, 2, .iload 7, 7, 0, .inl .null), (2436, 1, .i2l, 0, 0, .inl .null), (2437, 1, .lcmp, 0, 0, .inl .null), (2438, 3, .ifCond .eq 5, 2443, 0, .inl .null), (2441, 1, .iconst 0, 0, 0, .inl (.int 0)), (2442, 1, .ireturn, 0, 0, .inl .null), (2443, 3, .goto 912, 3355, 0, .inl .null), (2446, 1, .aload_n 1, 1, 0, .inl .null), (2447, 1, .aload_n 0, 0, 0, .inl .null), (2448, 2, .iload 5, 5, 0, .inl .null), (2450, 1, .iconst 1, 0, 0, .inl (.int 1)), (2451, 1, .iadd, 0, 0, .inl .null), (2452, 1, .iaload, 0, 0, .inl .null), (2453, 1, .aload_n 0, 0, 0, .inl .null), (2454, 2, .iload 5, 5, 0, .inl .null), (2456, 1, .iconst 2, 0, 0, .inl (.int 2)), (2457, 1, .iadd, 0, 0, .inl .null), (2458, 1, .iaload, 0, 0, .inl .null), (2459, 1, .aload_n 3, 3, 0, .inl .null), (2460, 3, .invokestatic 318, 289, 4, .inr (1, 3, 18)), (2463, 2, .istore 6, 6, 0, .inl .null), (2465, 1, .aload_n 2, 2, 0, .inl .null), (2466, 1, .aload_n 0, 0, 0, .inl .null), (2467, 2, .iload 5, 5, 0, .inl .null), (2469, 1, .iconst 1, 0, 0, .inl (.int 1)), (2470, 1, .iadd, 0, 0, .inl .null), (2471, 1, .iaload, 0, 0, .inl .null), (2472, 1, .aload_n 0, 0, 0, .inl .null), (2473, 2, .iload 5, 5, 0, .inl .null), (2475, 1, .iconst 2, 0, 0, .inl (.int 2)), (2476, 1, .iadd, 0, 0, .inl .null), (2477, 1, .iaload, 0, 0, .inl .null), (2478, 3, .invokevirtual 320, 235, 499, .inr (1, 0, 0)), (2481, 2, .istore 7, 7, 0, .inl .null), (2483, 1, .aload_n 2, 2, 0, .inl .null), (2484, 3, .invokevirtual 188, 130, 497, .inr (1, 0, 0)), (2487, 2, .iload 6, 6, 0, .inl .null), (2489, 3, .if_icmp .eq 5, 2494, 0, .inl .null), (2492, 1, .iconst 0, 0, 0, .inl (.int 0)), (2493, 1, .ireturn, 0, 0, .inl .null), (2494, 2, .iload 6, 6, 0, .inl .null), (2496, 3, .ifCond .ne 15, 2511, 0, .inl .null), (2499, 1, .aload_n 3, 3, 0, .inl .null), (2500, 1, .iconst 0, 0, 0, .inl (.int 0)), (2501, 1, .laload, 0, 0, .inl .null), (2502, 2, .iload 7, 7, 0, .inl .null), (2504, 1, .i2l, 0, 0, .inl .null), (2505, 1, .lcmp, 0, 0, .inl .null), (2506, 3, .ifCond .eq 5, 2511, 0, .inl .null), (2509, 1, .iconst 0, 0, 0, .inl (.int 0)), (2510, 1, .ireturn, 0, 0, .inl .null), (2511, 3, .goto 844, 3355, 0, .inl .null), (2514, 1, .aload_n 1, 1, 0, .inl .null), (2515, 1, .aload_n 0, 0, 0, .inl .null), (2516, 2, .iload 5, 5, 0, .inl .null), (2518, 1, .iconst 1, 0, 0, .inl (.int 1)), (2519, 1, .iadd, 0, 0, .inl .null), (2520, 1, .iaload, 0, 0, .inl .null), (2521, 1, .aload_n 3, 3, 0, .inl .null), (2522, 3, .invokestatic 321, 290, 3, .inr (1, 2, 12)), (2525, 2, .istore 6, 6, 0, .inl .null), (2527, 1, .aload_n 2, 2, 0, .inl .null), (2528, 1, .aload_n 0, 0, 0, .inl .null), (2529, 2, .iload 5, 5, 0, .inl .null), (2531, 1, .iconst 1, 0, 0, .inl (.int 1)), (2532, 1, .iadd, 0, 0, .inl .null), (2533, 1, .iaload, 0, 0, .inl .null), (2534, 3, .invokevirtual 323, 236, 498, .inr (1, 0, 0)), (2537, 2, .istore 7, 7, 0, .inl .null), (2539, 1, .aload_n 2, 2, 0, .inl .null), (2540, 3, .invokevirtual 188, 130, 497, .inr (1, 0, 0)), (2543, 2, .iload 6, 6, 0, .inl .null), (2545, 3, .if_icmp .eq 5, 2550, 0, .inl .null), (2548, 1, .iconst 0, 0, 0, .inl (.int 0)), (2549, 1, .ireturn, 0, 0, .inl .null), (2550, 2, .iload 6, 6, 0, .inl .null), (2552, 3, .ifCond .ne 15, 2567, 0, .inl .null), (2555, 1, .aload_n 3, 3, 0, .inl .null), (2556, 1, .iconst 0, 0, 0, .inl (.int 0)), (2557, 1, .laload, 0, 0, .inl .null), (2558, 2, .iload 7, 7, 0, .inl .null), (2560, 1, .i2l, 0, 0, .inl .null), (2561, 1, .lcmp, 0, 0, .inl .null), (2562, 3, .ifCond .eq 5, 2567, 0, .inl .null), (2565, 1, .iconst 0, 0, 0, .inl (.int 0)), (2566, 1, .ireturn, 0, 0, .inl .null), (2567, 3, .goto 788, 3355, 0, .inl .null), (2570, 1, .aload_n 1, 1, 0, .inl .null), (2571, 1, .aload_n 3, 3, 0, .inl .null), (2572, 3, .invokestatic 324, 291, 2, .inr (1, 1, 6)), (2575, 2, .istore 6, 6, 0, .inl .null), (2577, 1, .aload_n 2, 2, 0, .inl .null), (2578, 3, .invokevirtual 326, 237, 497, .inr (1, 0, 0)), (2581, 2, .istore 7, 7, 0, .inl .null), (2583, 1, .aload_n 2, 2, 0, .inl .null), (2584, 3, .invokevirtual 188, 130, 497, .inr (1, 0, 0)), (2587, 2, .iload 6, 6, 0, .inl .null), (2589, 3, .if_icmp .eq 5, 2594, 0, .inl .null), (2592, 1, .iconst 0, 0, 0, .inl (.int 0)), (2593, 1, .ireturn, 0, 0, .inl .null), (2594, 2, .iload 6, 6, 0, .inl .null), (2596, 3, .ifCond .ne 22, 2618, 0, .inl .null), (2599, 1, .aload_n 3, 3, 0, .inl .null), (2600, 1, .iconst 0, 0, 0, .inl (.int 0)), (2601, 1, .laload, 0, 0, .inl .null), (2602, 2, .iload 7, 7, 0, .inl .null), (2604, 3, .ifCond .eq 7, 2611, 0, .inl .null), (2607, 1, .lconst 1, 0, 0, .inl (.long 1)), (2608, 3, .goto 4, 2612, 0, .inl .null), (2611, 1, .lconst 0, 0, 0, .inl (.long 0)), (2612, 1, .lcmp, 0, 0, .inl .null), (2613, 3, .ifCond .eq 5, 2618, 0, .inl .null), (2616, 1, .iconst 0, 0, 0, .inl (.int 0)), (2617, 1, .ireturn, 0, 0, .inl .null), (2618, 3, .goto 737, 3355, 0, .inl .null), (2621, 1, .aload_n 1, 1, 0, .inl .null), (2622, 3, .invokevirtual 327, 96, 49, .inr (1, 0, 0)), (2625, 1, .aload_n 2, 2, 0, .inl .null), (2626, 3, .invokevirtual 330, 165, 497, .inr (1, 0, 0)), (2629, 3, .if_icmp .eq 726, 3355, 0, .inl .null), (2632, 1, .iconst 0, 0, 0, .inl (.int 0)), (2633, 1, .ireturn, 0, 0, .inl .null), (2634, 1, .aload_n 1, 1, 0, .inl .null), (2635, 1, .aload_n 0, 0, 0, .inl .null), (2636, 2, .iload 5, 5, 0, .inl .null), (2638, 1, .iconst 1, 0, 0, .inl (.int 1)), (2639, 1, .iadd, 0, 0, .inl .null), (2640, 1, .iaload, 0, 0, .inl .null), (2641, 1, .aload_n 0, 0, 0, .inl .null), (2642, 2, .iload 5, 5, 0, .inl .null), (2644, 1, .iconst 2, 0, 0, .inl (.int 2)), (2645, 1, .iadd, 0, 0, .inl .null), (2646, 1, .iaload, 0, 0, .inl .null), (2647, 1, .aload_n 3, 3, 0, .inl .null), (2648, 3, .invokestatic 331, 292, 4, .inr (1, 2, 12)), (2651, 2, .istore 6, 6, 0, .inl .null), (2653, 1, .aload_n 2, 2, 0, .inl .null), (2654, 1, .aload_n 0, 0, 0, .inl .null), (2655, 2, .iload 5, 5, 0, .inl .null), (2657, 1, .iconst 1, 0, 0, .inl (.int 1)), (2658, 1, .iadd, 0, 0, .inl .null), (2659, 1, .iaload, 0, 0, .inl .null), (2660, 1, .aload_n 0, 0, 0, .inl .null), (2661, 2, .iload 5, 5, 0, .inl .null), (2663, 1, .iconst 2, 0, 0, .inl (.int 2)), (2664, 1, .iadd, 0, 0, .inl .null), (2665, 1, .iaload, 0, 0, .inl .null), (2666, 3, .invokevirtual 333, 238, 499, .inr (1, 0, 0)), (2669, 2, .istore 7, 7, 0, .inl .null), (2671, 1, .aload_n 2, 2, 0, .inl .null), (2672, 3, .invokevirtual 188, 130, 497, .inr (1, 0, 0)), (2675, 2, .iload 6, 6, 0, .inl .null), (2677, 3, .if_icmp .eq 5, 2682, 0, .inl .null), (2680, 1, .iconst 0, 0, 0, .inl (.int 0)), (2681, 1, .ireturn, 0, 0, .inl .null), (2682, 2, .iload 6, 6, 0, .inl .null), (2684, 3, .ifCond .ne 15, 2699, 0, .inl .null), (2687, 1, .aload_n 3, 3, 0, .inl .null), (2688, 1, .iconst 0, 0, 0, .inl (.int 0)), (2689, 1, .laload, 0, 0, .inl .null), (2690, 2, .iload 7, 7, 0, .inl .null), (2692, 1, .i2l, 0, 0, .inl .null), (2693, 1, .lcmp, 0, 0, .inl .null), (2694, 3, .ifCond .eq 5, 2699, 0, .inl .null), (2697, 1, .iconst 0, 0, 0, .inl (.int 0)), (2698, 1, .ireturn, 0, 0, .inl .null), (2699, 3, .goto 656, 3355, 0, .inl .null), (2702, 1, .aload_n 1, 1, 0, .inl .null), (2703, 1, .aload_n 0, 0, 0, .inl .null), (2704, 2, .iload 5, 5, 0, .inl .null), (2706, 1, .iconst 1, 0, 0, .inl (.int 1)), (2707, 1, .iadd, 0, 0, .inl .null), (2708, 1, .iaload, 0, 0, .inl .null), (2709, 1, .aload_n 0, 0, 0, .inl .null), (2710, 2, .iload 5, 5, 0, .inl .null), (2712, 1, .iconst 2, 0, 0, .inl (.int 2)), (2713, 1, .iadd, 0, 0, .inl .null), (2714, 1, .iaload, 0, 0, .inl .null), (2715, 1, .aload_n 3, 3, 0, .inl .null), (2716, 3, .invokestatic 334, 293, 4, .inr (1, 10, 160)), (2719, 2, .istore 6, 6, 0, .inl .null), (2721, 1, .aload_n 2, 2, 0, .inl .null), (2722, 1, .aload_n 0, 0, 0, .inl .null), (2723, 2, .iload 5, 5, 0, .inl .null), (2725, 1, .iconst 1, 0, 0, .inl (.int 1)), (2726, 1, .iadd, 0, 0, .inl .null), (2727, 1, .iaload, 0, 0, .inl .null), (2728, 1, .aload_n 0, 0, 0, .inl .null), (2729, 2, .iload 5, 5, 0, .inl .null), (2731, 1, .iconst 2, 0, 0, .inl (.int 2)), (2732, 1, .iadd, 0, 0, .inl .null), (2733, 1, .iaload, 0, 0, .inl .null), (2734, 3, .invokevirtual 336, 243, 499, .inr (1, 0, 0)), (2737, 2, .istore 7, 7, 0, .inl .null), (2739, 1, .aload_n 2, 2, 0, .inl .null), (2740, 3, .invokevirtual 188, 130, 497, .inr (1, 0, 0)), (2743, 2, .iload 6, 6, 0, .inl .null), (2745, 3, .if_icmp .eq 5, 2750, 0, .inl .null), (2748, 1, .iconst 0, 0, 0, .inl (.int 0)), (2749, 1, .ireturn, 0, 0, .inl .null), (2750, 2, .iload 6, 6, 0, .inl .null), (2752, 3, .ifCond .ne 15, 2767, 0, .inl .null), (2755, 1, .aload_n 3, 3, 0, .inl .null), (2756, 1, .iconst 0, 0, 0, .inl (.int 0)), (2757, 1, .laload, 0, 0, .inl .null), (2758, 2, .iload 7, 7, 0, .inl .null), (2760, 1, .i2l, 0, 0, .inl .null), (2761, 1, .lcmp, 0, 0, .inl .null), (2762, 3, .ifCond .eq 5, 2767, 0, .inl .null), (2765, 1, .iconst 0, 0, 0, .inl (.int 0)), (2766, 1, .ireturn, 0, 0, .inl .null), (2767, 3, .goto 588, 3355, 0, .inl .null), (2770, 1, .aload_n 1, 1, 0, .inl .null), (2771, 1, .aload_n 0, 0, 0, .inl .null), (2772, 2, .iload 5, 5, 0, .inl .null), (2774, 1, .iconst 1, 0, 0, .inl (.int 1)), (2775, 1, .iadd, 0, 0, .inl .null), (2776, 1, .iaload, 0, 0, .inl .null), (2777, 1, .aload_n 0, 0, 0, .inl .null), (2778, 2, .iload 5, 5, 0, .inl .null), (2780, 1, .iconst 2, 0, 0, .inl (.int 2)), (2781, 1, .iadd, 0, 0, .inl .null), (2782, 1, .iaload, 0, 0, .inl .null), (2783, 1, .aload_n 3, 3, 0, .inl .null), (2784, 3, .invokestatic 337, 294, 4, .inr (1, 10, 160)), (2787, 2, .istore 6, 6, 0, .inl .null), (2789, 1, .aload_n 2, 2, 0, .inl .null), (2790, 1, .aload_n 0, 0, 0, .inl .null), (2791, 2, .iload 5, 5, 0, .inl .null), (2793, 1, .iconst 1, 0, 0, .inl (.int 1)), (2794, 1, .iadd, 0, 0, .inl .null), (2795, 1, .iaload, 0, 0, .inl .null), (2796, 1, .aload_n 0, 0, 0, .inl .null), (2797, 2, .iload 5, 5, 0, .inl .null), (2799, 1, .iconst 2, 0, 0, .inl (.int 2)), (2800, 1, .iadd, 0, 0, .inl .null), (2801, 1, .iaload, 0, 0, .inl .null), (2802, 3, .invokevirtual 339, 244, 499, .inr (1, 0, 0)), (2805, 2, .istore 7, 7, 0, .inl .null), (2807, 1, .aload_n 2, 2, 0, .inl .null), (2808, 3, .invokevirtual 188, 130, 497, .inr (1, 0, 0)), (2811, 2, .iload 6, 6, 0, .inl .null), (2813, 3, .if_icmp .eq 5, 2818, 0, .inl .null), (2816, 1, .iconst 0, 0, 0, .inl (.int 0)), (2817, 1, .ireturn, 0, 0, .inl .null), (2818, 2, .iload 6, 6, 0, .inl .null), (2820, 3, .ifCond .ne 15, 2835, 0, .inl .null), (2823, 1, .aload_n 3, 3, 0, .inl .null), (2824, 1, .iconst 0, 0, 0, .inl (.int 0)), (2825, 1, .laload, 0, 0, .inl .null), (2826, 2, .iload 7, 7, 0, .inl .null), (2828, 1, .i2l, 0, 0, .inl .null), (2829, 1, .lcmp, 0, 0, .inl .null), (2830, 3, .ifCond .eq 5, 2835, 0, .inl .null), (2833, 1, .iconst 0, 0, 0, .inl (.int 0)), (2834, 1, .ireturn, 0, 0, .inl .null), (2835, 3, .goto 520, 3355, 0, .inl .null), (2838, 1, .aload_n 1, 1, 0, .inl .null), (2839, 1, .aload_n 0, 0, 0, .inl .null), (2840, 2, .iload 5, 5, 0, .inl .null), (2842, 1, .iconst 1, 0, 0, .inl (.int 1)), (2843, 1, .iadd, 0, 0, .inl .null), (2844, 1, .iaload, 0, 0, .inl .null), (2845, 1, .aload_n 0, 0, 0, .inl .null), (2846, 2, .iload 5, 5, 0, .inl .null), (2848, 1, .iconst 2, 0, 0, .inl (.int 2)), (2849, 1, .iadd, 0, 0, .inl .null), (2850, 1, .iaload, 0, 0, .inl .null), (2851, 1, .aload_n 3, 3, 0, .inl .null), (2852, 3, .invokestatic 340, 295, 4, .inr (1, 10, 160)), (2855, 2, .istore 6, 6, 0, .inl .null), (2857, 1, .aload_n 2, 2, 0, .inl .null), (2858, 1, .aload_n 0, 0, 0, .inl .null), (2859, 2, .iload 5, 5, 0, .inl .null), (2861, 1, .iconst 1, 0, 0, .inl (.int 1)), (2862, 1, .iadd, 0, 0, .inl .null), (2863, 1, .iaload, 0, 0, .inl .null), (2864, 1, .aload_n 0, 0, 0, .inl .null), (2865, 2, .iload 5, 5, 0, .inl .null), (2867, 1, .iconst 2, 0, 0, .inl (.int 2)), (2868, 1, .iadd, 0, 0, .inl .null), (2869, 1, .iaload, 0, 0, .inl .null), (2870, 3, .invokevirtual 342, 245, 499, .inr (1, 0, 0)), (2873, 2, .istore 7, 7, 0, .inl .null), (2875, 1, .aload_n 2, 2, 0, .inl .null), (2876, 3, .invokevirtual 188, 130, 497, .inr (1, 0, 0)), (2879, 2, .iload 6, 6, 0, .inl .null), (2881, 3, .if_icmp .eq 5, 2886, 0, .inl .null), (2884, 1, .iconst 0, 0, 0, .inl (.int 0)), (2885, 1, .ireturn, 0, 0, .inl .null), (2886, 2, .iload 6, 6, 0, .inl .null), (2888, 3, .ifCond .ne 15, 2903, 0, .inl .null), (2891, 1, .aload_n 3, 3, 0, .inl .null), (2892, 1, .iconst 0, 0, 0, .inl (.int 0)), (2893, 1, .laload, 0, 0, .inl .null), (2894, 2, .iload 7, 7, 0, .inl .null), (2896, 1, .i2l, 0, 0, .inl .null), (2897, 1, .lcmp, 0, 0, .inl .null), (2898, 3, .ifCond .eq 5, 2903, 0, .inl .null), (2901, 1, .iconst 0, 0, 0, .inl (.int 0)), (2902, 1, .ireturn, 0, 0, .inl .null), (2903, 3, .goto 452, 3355, 0, .inl .null), (2906, 1, .aload_n 1, 1, 0, .inl .null), (2907, 1, .aload_n 0, 0, 0, .inl .null), (2908, 2, .iload 5, 5, 0, .inl .null), (2910, 1, .iconst 1, 0, 0, .inl (.int 1)), (2911, 1, .iadd, 0, 0, .inl .null), (2912, 1, .iaload, 0, 0, .inl .null), (2913, 1, .aload_n 3, 3, 0, .inl .null), (2914, 3, .invokestatic 343, 296, 3, .inr (1, 9, 154)), (2917, 2, .istore 6, 6, 0, .inl .null), (2919, 1, .aload_n 2, 2, 0, .inl .null), (2920, 1, .aload_n 0, 0, 0, .inl .null), (2921, 2, .iload 5, 5, 0, .inl .null), (2923, 1, .iconst 1, 0, 0, .inl (.int 1)), (2924, 1, .iadd, 0, 0, .inl .null), (2925, 1, .iaload, 0, 0, .inl .null), (2926, 3, .invokevirtual 345, 246, 498, .inr (1, 0, 0)), (2929, 2, .istore 7, 7, 0, .inl .null), (2931, 1, .aload_n 2, 2, 0, .inl .null), (2932, 3, .invokevirtual 188, 130, 497, .inr (1, 0, 0)), (2935, 2, .iload 6, 6, 0, .inl .null), (2937, 3, .if_icmp .eq 5, 2942, 0, .inl .null), (2940, 1, .iconst 0, 0, 0, .inl (.int 0)), (2941, 1, .ireturn, 0, 0, .inl .null), (2942, 2, .iload 6, 6, 0, .inl .null), (2944, 3, .ifCond .ne 15, 2959, 0, .inl .null), (2947, 1, .aload_n 3, 3, 0, .inl .null), (2948, 1, .iconst 0, 0, 0, .inl (.int 0)), (2949, 1, .laload, 0, 0, .inl .null), (2950, 2, .iload 7, 7, 0, .inl .null), (2952, 1, .i2l, 0, 0, .inl .null), (2953, 1, .lcmp, 0, 0, .inl .null), (2954, 3, .ifCond .eq 5, 2959, 0, .inl .null), (2957, 1, .iconst 0, 0, 0, .inl (.int 0)), (2958, 1, .ireturn, 0, 0, .inl .null), (2959, 3, .goto 396, 3355, 0, .inl .null), (2962, 1, .aload_n 1, 1, 0, .inl .null), (2963, 1, .aload_n 0, 0, 0, .inl .null), (2964, 2, .iload 5, 5, 0, .inl .null), (2966, 1, .iconst 1, 0, 0, .inl (.int 1)), (2967, 1, .iadd, 0, 0, .inl .null), (2968, 1, .iaload, 0, 0, .inl .null), (2969, 1, .aload_n 0, 0, 0, .inl .null), (2970, 2, .iload 5, 5, 0, .inl .null), (2972, 1, .iconst 2, 0, 0, .inl (.int 2)), (2973, 1, .iadd, 0, 0, .inl .null), (2974, 1, .iaload, 0, 0, .inl .null), (2975, 1, .aload_n 0, 0, 0, .inl .null), (2976, 2, .iload 5, 5, 0, .inl .null), (2978, 1, .iconst 3, 0, 0, .inl (.int 3)), (2979, 1, .iadd, 0, 0, .inl .null), (2980, 1, .iaload, 0, 0, .inl .null), (2981, 1, .aload_n 3, 3, 0, .inl .null), (2982, 3, .invokestatic 346, 297, 5, .inr (1, 12, 172)), (2985, 2, .istore 6, 6, 0, .inl .null), (2987, 1, .aload_n 2, 2, 0, .inl .null), (2988, 1, .aload_n 0, 0, 0, .inl .null), (2989, 2, .iload 5, 5, 0, .inl .null), (2991, 1, .iconst 1, 0, 0, .inl (.int 1)), (2992, 1, .iadd, 0, 0, .inl .null), (2993, 1, .iaload, 0, 0, .inl .null), (2994, 1, .aload_n 0, 0, 0, .inl .null), (2995, 2, .iload 5, 5, 0, .inl .null), (2997, 1, .iconst 2, 0, 0, .inl (.int 2)), (2998, 1, .iadd, 0, 0, .inl .null), (2999, 1, .iaload, 0, 0, .inl .null), (3000, 1, .aload_n 0, 0, 0, .inl .null), (3001, 2, .iload 5, 5, 0, .inl .null), (3003, 1, .iconst 3, 0, 0, .inl (.int 3)), (3004, 1, .iadd, 0, 0, .inl .null), (3005, 1, .iaload, 0, 0, .inl .null), (3006, 3, .invokevirtual 348, 247, 500, .inr (1, 0, 0)), (3009, 2, .istore 7, 7, 0, .inl .null), (3011, 1, .aload_n 2, 2, 0, .inl .null), (3012, 3, .invokevirtual 188, 130, 497, .inr (1, 0, 0)), (3015, 2, .iload 6, 6, 0, .inl .null), (3017, 3, .if_icmp .eq 5, 3022, 0, .inl .null), (3020, 1, .iconst 0, 0, 0, .inl (.int 0)), (3021, 1, .ireturn, 0, 0, .inl .null), (3022, 2, .iload 6, 6, 0, .inl .null), (3024, 3, .ifCond .ne 15, 3039, 0, .inl .null), (3027, 1, .aload_n 3, 3, 0, .inl .null), (3028, 1, .iconst 0, 0, 0, .inl (.int 0)), (3029, 1, .laload, 0, 0, .inl .null), (3030, 2, .iload 7, 7, 0, .inl .null), (3032, 1, .i2l, 0, 0, .inl .null), (3033, 1, .lcmp, 0, 0, .inl .null), (3034, 3, .ifCond .eq 5, 3039, 0, .inl .null), (3037, 1, .iconst 0, 0, 0, .inl (.int 0)), (3038, 1, .ireturn, 0, 0, .inl .null), (3039, 3, .goto 316, 3355, 0, .inl .null), (3042, 1, .aload_n 1, 1, 0, .inl .null), (3043, 1, .aload_n 3, 3, 0, .inl .null), (3044, 3, .invokestatic 349, 298, 2, .inr (1, 9, 154)), (3047, 2, .istore 6, 6, 0, .inl .null), (3049, 1, .aload_n 2, 2, 0, .inl .null), (3050, 3, .invokevirtual 351, 248, 497, .inr (1, 0, 0)), (3053, 2, .istore 7, 7, 0, .inl .null), (3055, 1, .aload_n 2, 2, 0, .inl .null), (3056, 3, .invokevirtual 188, 130, 497, .inr (1, 0, 0)), (3059, 2, .iload 6, 6, 0, .inl .null), (3061, 3, .if_icmp .eq 5, 3066, 0, .inl .null), (3064, 1, .iconst 0, 0, 0, .inl (.int 0)), (3065, 1, .ireturn, 0, 0, .inl .null), (3066, 2, .iload 6, 6, 0, .inl .null), (3068, 3, .ifCond .ne 15, 3083, 0, .inl .null), (3071, 1, .aload_n 3, 3, 0, .inl .null), (3072, 1, .iconst 0, 0, 0, .inl (.int 0)), (3073, 1, .laload, 0, 0, .inl .null), (3074, 2, .iload 7, 7, 0, .inl .null), (3076, 1, .i2l, 0, 0, .inl .null), (3077, 1, .lcmp, 0, 0, .inl .null), (3078, 3, .ifCond .eq 5, 3083, 0, .inl .null), (3081, 1, .iconst 0, 0, 0, .inl (.int 0)), (3082, 1, .ireturn, 0, 0, .inl .null), (3083, 3, .goto 272, 3355, 0, .inl .null), (3086, 1, .aload_n 1, 1, 0, .inl .null), (3087, 1, .aload_n 3, 3, 0, .inl .null), (3088, 3, .invokestatic 352, 299, 2, .inr (1, 10, 160)), (3091, 2, .istore 6, 6, 0, .inl .null), (3093, 1, .aload_n 2, 2, 0, .inl .null), (3094, 3, .invokevirtual 354, 249, 497, .inr (1, 0, 0)), (3097, 2, .istore 7, 7, 0, .inl .null), (3099, 1, .aload_n 2, 2, 0, .inl .null), (3100, 3, .invokevirtual 188, 130, 497, .inr (1, 0, 0)), (3103, 2, .iload 6, 6, 0, .inl .null), (3105, 3, .if_icmp .eq 5, 3110, 0, .inl .null), (3108, 1, .iconst 0, 0, 0, .inl (.int 0)), (3109, 1, .ireturn, 0, 0, .inl .null), (3110, 2, .iload 6, 6, 0, .inl .null), (3112, 3, .ifCond .ne 15, 3127, 0, .inl .null), (3115, 1, .aload_n 3, 3, 0, .inl .null), (3116, 1, .iconst 0, 0, 0, .inl (.int 0)), (3117, 1, .laload, 0, 0, .inl .null), (3118, 2, .iload 7, 7, 0, .inl .null), (3120, 1, .i2l, 0, 0, .inl .null), (3121, 1, .lcmp, 0, 0, .inl .null), (3122, 3, .ifCond .eq 5, 3127, 0, .inl .null), (3125, 1, .iconst 0, 0, 0, .inl (.int 0)), (3126, 1, .ireturn, 0, 0, .inl .null), (3127, 3, .goto 228, 3355, 0, .inl .null), (3130, 1, .aload_n 1, 1, 0, .inl .null), (3131, 1, .aload_n 0, 0, 0, .inl .null), (3132, 2, .iload 5, 5, 0, .inl .null), (3134, 1, .iconst 1, 0, 0, .inl (.int 1)), (3135, 1, .iadd, 0, 0, .inl .null), (3136, 1, .iaload, 0, 0, .inl .null), (3137, 1, .aload_n 3, 3, 0, .inl .null), (3138, 3, .invokestatic 355, 300, 3, .inr (1, 10, 160)), (3141, 2, .istore 6, 6, 0, .inl .null), (3143, 1, .aload_n 2, 2, 0, .inl .null), (3144, 1, .aload_n 0, 0, 0, .inl .null), (3145, 2, .iload 5, 5, 0, .inl .null), (3147, 1, .iconst 1, 0, 0, .inl (.int 1)), (3148, 1, .iadd, 0, 0, .inl .null), (3149, 1, .iaload, 0, 0, .inl .null), (3150, 3, .invokevirtual 357, 250, 498, .inr (1, 0, 0)), (3153, 2, .istore 7, 7, 0, .inl .null), (3155, 1, .aload_n 2, 2, 0, .inl .null), (3156, 3, .invokevirtual 188, 130, 497, .inr (1, 0, 0)), (3159, 2, .iload 6, 6, 0, .inl .null), (3161, 3, .if_icmp .eq 5, 3166, 0, .inl .null), (3164, 1, .iconst 0, 0, 0, .inl (.int 0)), (3165, 1, .ireturn, 0, 0, .inl .null), (3166, 2, .iload 6, 6, 0, .inl .null), (3168, 3, .ifCond .ne 15, 3183, 0, .inl .null), (3171, 1, .aload_n 3, 3, 0, .inl .null), (3172, 1, .iconst 0, 0, 0, .inl (.int 0)), (3173, 1, .laload, 0, 0, .inl .null), (3174, 2, .iload 7, 7, 0, .inl .null), (3176, 1, .i2l, 0, 0, .inl .null), (3177, 1, .lcmp, 0, 0, .inl .null), (3178, 3, .ifCond .eq 5, 3183, 0, .inl .null), (3181, 1, .iconst 0, 0, 0, .inl (.int 0)), (3182, 1, .ireturn, 0, 0, .inl .null), (3183, 3, .goto 172, 3355, 0, .inl .null), (3186, 1, .aload_n 1, 1, 0, .inl .null), (3187, 1, .aload_n 3, 3, 0, .inl .null), (3188, 3, .invokestatic 358, 301, 2, .inr (1, 1, 6)), (3191, 2, .istore 6, 6, 0, .inl .null), (3193, 1, .aload_n 2, 2, 0, .inl .null), (3194, 3, .invokevirtual 360, 251, 497, .inr (1, 0, 0)), (3197, 2, .istore 7, 7, 0, .inl .null), (3199, 1, .aload_n 2, 2, 0, .inl .null), (3200, 3, .invokevirtual 188, 130, 497, .inr (1, 0, 0)), (3203, 2, .iload 6, 6, 0, .inl .null), (3205, 3, .if_icmp .eq 5, 3210, 0, .inl .null), (3208, 1, .iconst 0, 0, 0, .inl (.int 0)), (3209, 1, .ireturn, 0, 0, .inl .null), (3210, 2, .iload 6, 6, 0, .inl .null), (3212, 3, .ifCond .ne 15, 3227, 0, .inl .null), (3215, 1, .aload_n 3, 3, 0, .inl .null), (3216, 1, .iconst 0, 0, 0, .inl (.int 0)), (3217, 1, .laload, 0, 0, .inl .null), (3218, 2, .iload 7, 7, 0, .inl .null), (3220, 1, .i2l, 0, 0, .inl .null), (3221, 1, .lcmp, 0, 0, .inl .null), (3222, 3, .ifCond .eq 5, 3227, 0, .inl .null), (3225, 1, .iconst 0, 0, 0, .inl (.int 0)), (3226, 1, .ireturn, 0, 0, .inl .null), (3227, 3, .goto 128, 3355, 0, .inl .null), (3230, 1, .aload_n 1, 1, 0, .inl .null), (3231, 3, .invokevirtual 361, 107, 49, .inr (1, 0, 0)), (3234, 1, .aload_n 2, 2, 0, .inl .null), (3235, 3, .invokevirtual 364, 166, 497, .inr (1, 0, 0)), (3238, 3, .if_icmp .eq 117, 3355, 0, .inl .null), (3241, 1, .iconst 0, 0, 0, .inl (.int 0)), (3242, 1, .ireturn, 0, 0, .inl .null), (3243, 1, .aload_n 1, 1, 0, .inl .null), (3244, 1, .aload_n 0, 0, 0, .inl .null), (3245, 2, .iload 5, 5, 0, .inl .null), (3247, 1, .iconst 1, 0, 0, .inl (.int 1)), (3248, 1, .iadd, 0, 0, .inl .null), (3249, 1, .iaload, 0, 0, .inl .null), (3250, 1, .aload_n 3, 3, 0, .inl .null), (3251, 3, .invokestatic 365, 302, 3, .inr (1, 9, 154)), (3254, 2, .istore 6, 6, 0, .inl .null), (3256, 1, .aload_n 2, 2, 0, .inl .null), (3257, 1, .aload_n 0, 0, 0, .inl .null), (3258, 2, .iload 5, 5, 0, .inl .null), (3260, 1, .iconst 1, 0, 0, .inl (.int 1)), (3261, 1, .iadd, 0, 0, .inl .null), (3262, 1, .iaload, 0, 0, .inl .null), (3263, 3, .invokevirtual 367, 252, 498, .inr (1, 0, 0)), (3266, 2, .istore 7, 7, 0, .inl .null), (3268, 1, .aload_n 2, 2, 0, .inl .null), (3269, 3, .invokevirtual 188, 130, 497, .inr (1, 0, 0)), (3272, 2, .iload 6, 6, 0, .inl .null), (3274, 3, .if_icmp .eq 5, 3279, 0, .inl .null), (3277, 1, .iconst 0, 0, 0, .inl (.int 0)), (3278, 1, .ireturn, 0, 0, .inl .null), (3279, 2, .iload 6, 6, 0, .inl .null), (3281, 3, .ifCond .ne 15, 3296, 0, .inl .null), (3284, 1, .aload_n 3, 3, 0, .inl .null), (3285, 1, .iconst 0, 0, 0, .inl (.int 0)), (3286, 1, .laload, 0, 0, .inl .null), (3287, 2, .iload 7, 7, 0, .inl .null), (3289, 1, .i2l, 0, 0, .inl .null), (3290, 1, .lcmp, 0, 0, .inl .null), (3291, 3, .ifCond .eq 5, 3296, 0, .inl .null), (3294, 1, .iconst 0, 0, 0, .inl (.int 0)), (3295, 1, .ireturn, 0, 0, .inl .null), (3296, 3, .goto 59, 3355, 0, .inl .null), (3299, 1, .aload_n 1, 1, 0, .inl .null), (3300, 1, .aload_n 0, 0, 0, .inl .null), (3301, 2, .iload 5, 5, 0, .inl .null), (3303, 1, .iconst 1, 0, 0, .inl (.int 1)), (3304, 1, .iadd, 0, 0, .inl .null), (3305, 1, .iaload, 0, 0, .inl .null), (3306, 1, .aload_n 3, 3, 0, .inl .null), (3307, 3, .invokestatic 368, 303, 3, .inr (1, 2, 12)), (3310, 2, .istore 6, 6, 0, .inl .null), (3312, 1, .aload_n 2, 2, 0, .inl .null), (3313, 1, .aload_n 0, 0, 0, .inl .null), (3314, 2, .iload 5, 5, 0, .inl .null), (3316, 1, .iconst 1, 0, 0, .inl (.int 1)), (3317, 1, .iadd, 0, 0, .inl .null), (3318, 1, .iaload, 0, 0, .inl .null), (3319, 3, .invokevirtual 370, 253, 498, .inr (1, 0, 0)), (3322, 2, .istore 7, 7, 0, .inl .null), (3324, 1, .aload_n 2, 2, 0, .inl .null), (3325, 3, .invokevirtual 188, 130, 497, .inr (1, 0, 0)), (3328, 2, .iload 6, 6, 0, .inl .null), (3330, 3, .if_icmp .eq 5, 3335, 0, .inl .null), (3333, 1, .iconst 0, 0, 0, .inl (.int 0)), (3334, 1, .ireturn, 0, 0, .inl .null), (3335, 2, .iload 6, 6, 0, .inl .null), (3337, 3, .ifCond .ne 15, 3352, 0, .inl .null), (3340, 1, .aload_n 3, 3, 0, .inl .null), (3341, 1, .iconst 0, 0, 0, .inl (.int 0)), (3342, 1, .laload, 0, 0, .inl .null), (3343, 2, .iload 7, 7, 0, .inl .null), (3345, 1, .i2l, 0, 0, .inl .null), (3346, 1, .lcmp, 0, 0, .inl .null), (3347, 3, .ifCond .eq 5, 3352, 0, .inl .null), (3350, 1, .iconst 0, 0, 0, .inl (.int 0)), (3351, 1, .ireturn, 0, 0, .inl .null), (3352, 3, .goto 3, 3355, 0, .inl .null), (3355, 3, .iinc 5 6, 5, 0, .inl (.int 6)), (3358, 3, .goto (-3330), 28, 0, .inl .null), (3361, 1, .iconst 1, 0, 0, .inl (.int 1)), (3362, 1, .ireturn, 0, 0, .inl .null)]
def hyT0 : List MethodName := [yX0_find, yX0_solve, yX0_rowTimes, yX0_isLarge, yX0_greatestDivisor, yX0_commonMultiple, yX1_take, yX1_height, yX1_at, yX1_put, yX1_determinant, yX1_eliminate, yX1_pivotRow, yX1_leadRow, yX1_clearColumn, yX1_inverseOf, yX1_ofKernel, yX1_displace, yX2_remember, yX2_takeLatest, yX2_forget, yX3_putWord, yX3_parse, yX3_readHead, yX3_readLine, yX3_readRange, yX3_readRangeValue, yX3_readPart, yX3_reachNumber, yX3_isWord, yX3_fail, yX3_advance, yX3_runEnd, yX3_readDecimals, yX3_byteAt, yX4_prepare, yX4_ofInverse, yX4_addDigit, yX4_nextRest, yX4_liftAndEnter]
def hyT1 : List MethodName := [yX5_component, yX5_find, yX5_keep, yX5_subtract, yX6_clear, yX6_become, yX6_along, yX6_putAlong, yX6_beginRefinement, yX6_digitLimit, yX6_digitOf, yX6_enter, yX7_append, yX7_load, yX7_parseError, yX7_errorPosition, yX7_buffered, yX7_size, yX7_prime, yX7_diagonal, yX7_entry, yX7_side, yX7_probe, yX7_minor, yX7_rank, yX7_isRegular, yX7_steps, yX7_stepEnd, yX7_longestJump, yX7_tail, yX7_regularPrimes, yX7_minorIf, yX7_schur, yX7_displacement, yX7_generators, yX7_generator, yX7_mostGenerators, yX7_solution, yX7_inverse, yX7_kernel]
def hyT2 : List MethodName := [yX7_isSolvable, yX7_digits, yX7_mostDigits, yX7_digit, yX7_residual, yX7_value, yX7_centred, yX7_numerator, yX7_denominator, yX7_quotient, yX7_isExact, yX7_liftsTo, yX7_product, yX7_circulant, yX7_wrapped, yX7_probeSolves, yX7_entries, yX7_accountOf, yX7_setDiagonal, yX7_setSide, yX7_setProbe, yX7_setPrime, yX7_grow, yX7_shrink, yX7_lift, yX7_refine, yX7_undo, yX7_undoable, yX7_save, yX7_restore, yX7_requireSystem, yX7_requireRow, yX7_requireBehind, yX7_requireWrappedRow, yX7_requireDiagonal, yX7_requireSize, yX7_requireSlot, yX7_requireWithin, yX7_requireFraction, yX7_requireLifter]
def hyT3 : List MethodName := [yX7_isListed, yX7_reduced, yX7_leadingMinor, yX7_findSteps, yX7_startBehind, yX7_complementBehind, yX7_pairsBehind, yX7_eliminateWithSides, yX7_timesProbe, yX7_aroundCircle, yX8_thrown, yX8_in, yX8_refuse, yX8_noSystem, yX8_primeIndex, yX8_primeAt, yX8_append, yX8_buffered, yX8_parseError, yX8_errorPosition, yX8_seen, yX8_isLetter, yX8_isDigit, yX8_token, yX8_fails, yX8_goesOn, yX8_isWord, yX8_expects, yX8_numberHere, yX8_takes, yX8_signedHere, yX8_takesSigned, yX8_diagonalLine, yX8_bandLine, yX8_partLine, yX8_reads, yX8_load, yX8_begins, yX8_isRow, yX8_isDiagonal]
def hyT4 : List MethodName := [yX8_noRow, yX8_noRows, yX8_its, yX8_size, yX8_prime, yX8_entries, yX8_undoable, yX8_entryOf, yX8_diagonal, yX8_entry, yX8_side, yX8_probe, yX8_mod, yX8_inverseOf, yX8_lays, yX8_swaps, yX8_takesOff, yX8_pivot, yX8_minorOf, yX8_minorNow, yX8_minor, yX8_reduces, yX8_rankNow, yX8_rank, yX8_isRegularNow, yX8_isRegular, yX8_laysEnds, yX8_steps, yX8_noStep, yX8_stepEnd, yX8_longestJump, yX8_tail, yX8_regularPrimes, yX8_minorIf, yX8_complements, yX8_displaces, yX8_peels, yX8_laysPairs, yX8_noPlace, yX8_schur]
def hyT5 : List MethodName := [yX8_displacement, yX8_generators, yX8_generator, yX8_mostGenerators, yX8_reducesWith, yX8_noSolution, yX8_solution, yX8_inverse, yX8_kernel, yX8_isSolvable, yX8_mostNow, yX8_modulus, yX8_valueOf, yX8_digits, yX8_mostDigits, yX8_digit, yX8_residual, yX8_value, yX8_centred, yX8_isWide, yX8_common, yX8_findsFraction, yX8_numerator, yX8_denominator, yX8_quotient, yX8_isExactNow, yX8_isExact, yX8_canLift, yX8_lifts, yX8_books, yX8_liftsTo, yX8_productOf, yX8_product, yX8_circulantOf, yX8_noWide, yX8_circulant, yX8_wrapped, yX8_probeSolves, yX8_accountOf, yX8_keeps]
def hyT6 : List MethodName := [yX8_fetches, yX8_keepsAll, yX8_sets, yX8_setDiagonal, yX8_setSide, yX8_setProbe, yX8_setPrime, yX8_grow, yX8_shrink, yX8_lift, yX8_refine, yX8_undo, yX8_save, yX8_restore, yL_load, yL_diagonal, yL_entry, yL_side, yL_probe, yL_minor, yL_rank, yL_isRegular, yL_steps, yL_stepEnd, yL_longestJump, yL_tail, yL_regularPrimes, yL_minorIf, yL_schur, yL_displacement, yL_generators, yL_generator, yL_mostGenerators, yL_solution, yL_inverse, yL_kernel, yL_isSolvable, yL_digits, yL_mostDigits, yL_digit]
def hyT7 : List MethodName := [yL_residual, yL_value, yL_centred, yL_numerator, yL_denominator, yL_quotient, yL_isExact, yL_liftsTo, yL_product, yL_circulant, yL_wrapped, yL_probeSolves, yL_accountOf, yL_setDiagonal, yL_setSide, yL_setProbe, yL_setPrime, yL_grow, yL_shrink, yL_lift, yL_refine, yL_undo, yL_save, yL_restore, yJ9_floorMod_7cf53, yJ9_abs_0f7a4, yJ9_abs_067f4, yJ9_max_7cf53, yJ9_min_7cf53, yJ7_fill_d0a16, yJ7_fill_53178, yJ0_length_8abf5, yJ0_charAt_5068e, yL_law]
def hy (y : Nat) : MethodName := match y / 40 with
  | 0 => hyT0.getD (y % 40) yL_law
  | 1 => hyT1.getD (y % 40) yL_law
  | 2 => hyT2.getD (y % 40) yL_law
  | 3 => hyT3.getD (y % 40) yL_law
  | 4 => hyT4.getD (y % 40) yL_law
  | 5 => hyT5.getD (y % 40) yL_law
  | 6 => hyT6.getD (y % 40) yL_law
  | 7 => hyT7.getD (y % 40) yL_law
  | _ => yL_law
def hbT0 : List ByteArray := [cX0_find, cX0_solve, cX0_rowTimes, cX0_isLarge, cX0_greatestDivisor, cX0_commonMultiple, cX1_take, cX1_height, cX1_at, cX1_put, cX1_determinant, cX1_eliminate, cX1_pivotRow, cX1_leadRow, cX1_clearColumn, cX1_inverseOf, cX1_ofKernel, cX1_displace, cX2_remember, cX2_takeLatest, cX2_forget, cX3_putWord, cX3_parse, cX3_readHead, cX3_readLine, cX3_readRange, cX3_readRangeValue, cX3_readPart, cX3_reachNumber, cX3_isWord, cX3_fail, cX3_advance, cX3_runEnd, cX3_readDecimals, cX3_byteAt, cX4_prepare, cX4_ofInverse, cX4_addDigit, cX4_nextRest, cX4_liftAndEnter]
def hbT1 : List ByteArray := [cX5_component, cX5_find, cX5_keep, cX5_subtract, cX6_clear, cX6_become, cX6_along, cX6_putAlong, cX6_beginRefinement, cX6_digitLimit, cX6_digitOf, cX6_enter, cX7_append, cX7_load, cX7_parseError, cX7_errorPosition, cX7_buffered, cX7_size, cX7_prime, cX7_diagonal, cX7_entry, cX7_side, cX7_probe, cX7_minor, cX7_rank, cX7_isRegular, cX7_steps, cX7_stepEnd, cX7_longestJump, cX7_tail, cX7_regularPrimes, cX7_minorIf, cX7_schur, cX7_displacement, cX7_generators, cX7_generator, cX7_mostGenerators, cX7_solution, cX7_inverse, cX7_kernel]
def hbT2 : List ByteArray := [cX7_isSolvable, cX7_digits, cX7_mostDigits, cX7_digit, cX7_residual, cX7_value, cX7_centred, cX7_numerator, cX7_denominator, cX7_quotient, cX7_isExact, cX7_liftsTo, cX7_product, cX7_circulant, cX7_wrapped, cX7_probeSolves, cX7_entries, cX7_accountOf, cX7_setDiagonal, cX7_setSide, cX7_setProbe, cX7_setPrime, cX7_grow, cX7_shrink, cX7_lift, cX7_refine, cX7_undo, cX7_undoable, cX7_save, cX7_restore, cX7_requireSystem, cX7_requireRow, cX7_requireBehind, cX7_requireWrappedRow, cX7_requireDiagonal, cX7_requireSize, cX7_requireSlot, cX7_requireWithin, cX7_requireFraction, cX7_requireLifter]
def hbT3 : List ByteArray := [cX7_isListed, cX7_reduced, cX7_leadingMinor, cX7_findSteps, cX7_startBehind, cX7_complementBehind, cX7_pairsBehind, cX7_eliminateWithSides, cX7_timesProbe, cX7_aroundCircle, cX8_thrown, cX8_in, cX8_refuse, cX8_noSystem, cX8_primeIndex, cX8_primeAt, cX8_append, cX8_buffered, cX8_parseError, cX8_errorPosition, cX8_seen, cX8_isLetter, cX8_isDigit, cX8_token, cX8_fails, cX8_goesOn, cX8_isWord, cX8_expects, cX8_numberHere, cX8_takes, cX8_signedHere, cX8_takesSigned, cX8_diagonalLine, cX8_bandLine, cX8_partLine, cX8_reads, cX8_load, cX8_begins, cX8_isRow, cX8_isDiagonal]
def hbT4 : List ByteArray := [cX8_noRow, cX8_noRows, cX8_its, cX8_size, cX8_prime, cX8_entries, cX8_undoable, cX8_entryOf, cX8_diagonal, cX8_entry, cX8_side, cX8_probe, cX8_mod, cX8_inverseOf, cX8_lays, cX8_swaps, cX8_takesOff, cX8_pivot, cX8_minorOf, cX8_minorNow, cX8_minor, cX8_reduces, cX8_rankNow, cX8_rank, cX8_isRegularNow, cX8_isRegular, cX8_laysEnds, cX8_steps, cX8_noStep, cX8_stepEnd, cX8_longestJump, cX8_tail, cX8_regularPrimes, cX8_minorIf, cX8_complements, cX8_displaces, cX8_peels, cX8_laysPairs, cX8_noPlace, cX8_schur]
def hbT5 : List ByteArray := [cX8_displacement, cX8_generators, cX8_generator, cX8_mostGenerators, cX8_reducesWith, cX8_noSolution, cX8_solution, cX8_inverse, cX8_kernel, cX8_isSolvable, cX8_mostNow, cX8_modulus, cX8_valueOf, cX8_digits, cX8_mostDigits, cX8_digit, cX8_residual, cX8_value, cX8_centred, cX8_isWide, cX8_common, cX8_findsFraction, cX8_numerator, cX8_denominator, cX8_quotient, cX8_isExactNow, cX8_isExact, cX8_canLift, cX8_lifts, cX8_books, cX8_liftsTo, cX8_productOf, cX8_product, cX8_circulantOf, cX8_noWide, cX8_circulant, cX8_wrapped, cX8_probeSolves, cX8_accountOf, cX8_keeps]
def hbT6 : List ByteArray := [cX8_fetches, cX8_keepsAll, cX8_sets, cX8_setDiagonal, cX8_setSide, cX8_setProbe, cX8_setPrime, cX8_grow, cX8_shrink, cX8_lift, cX8_refine, cX8_undo, cX8_save, cX8_restore, cL_load, cL_diagonal, cL_entry, cL_side, cL_probe, cL_minor, cL_rank, cL_isRegular, cL_steps, cL_stepEnd, cL_longestJump, cL_tail, cL_regularPrimes, cL_minorIf, cL_schur, cL_displacement, cL_generators, cL_generator, cL_mostGenerators, cL_solution, cL_inverse, cL_kernel, cL_isSolvable, cL_digits, cL_mostDigits, cL_digit]
def hbT7 : List ByteArray := [cL_residual, cL_value, cL_centred, cL_numerator, cL_denominator, cL_quotient, cL_isExact, cL_liftsTo, cL_product, cL_circulant, cL_wrapped, cL_probeSolves, cL_accountOf, cL_setDiagonal, cL_setSide, cL_setProbe, cL_setPrime, cL_grow, cL_shrink, cL_lift, cL_refine, cL_undo, cL_save, cL_restore, cJ9_floorMod_7cf53, cJ9_abs_0f7a4, cJ9_abs_067f4, cJ9_max_7cf53, cJ9_min_7cf53, cJ7_fill_d0a16, cJ7_fill_53178, cJ0_length_8abf5, cJ0_charAt_5068e, cL_law]
def hb (y : Nat) : ByteArray := match y / 40 with
  | 0 => hbT0.getD (y % 40) cL_law
  | 1 => hbT1.getD (y % 40) cL_law
  | 2 => hbT2.getD (y % 40) cL_law
  | 3 => hbT3.getD (y % 40) cL_law
  | 4 => hbT4.getD (y % 40) cL_law
  | 5 => hbT5.getD (y % 40) cL_law
  | 6 => hbT6.getD (y % 40) cL_law
  | 7 => hbT7.getD (y % 40) cL_law
  | _ => cL_law
def hmlT0 : List Nat := [20, 5, 8, 6, 11, 6, 7, 1, 3, 4, 1, 6, 5, 8, 6, 3, 2, 4, 2, 1, 1, 3, 3, 1, 1, 5, 2, 5, 5, 3, 2, 4, 5, 3, 2, 4, 3, 6, 5, 4]
def hmlT1 : List Nat := [4, 7, 8, 7, 1, 2, 3, 4, 1, 4, 6, 4, 6, 3, 1, 1, 1, 1, 1, 2, 3, 2, 2, 2, 1, 1, 1, 2, 4, 1, 3, 4, 5, 5, 2, 6, 4, 2, 3, 3]
def hmlT2 : List Nat := [3, 1, 1, 3, 2, 2, 4, 2, 2, 2, 1, 3, 2, 3, 4, 2, 1, 3, 4, 4, 4, 3, 5, 1, 1, 5, 2, 1, 2, 3, 1, 2, 3, 2, 2, 2, 1, 2, 2, 1]
def hmlT3 : List Nat := [5, 2, 3, 3, 3, 2, 2, 3, 4, 4, 1, 3, 3, 1, 2, 1, 8, 1, 1, 1, 2, 1, 1, 2, 2, 1, 3, 2, 3, 4, 4, 4, 3, 5, 5, 3, 3, 2, 2, 2]
def hmlT4 : List Nat := [2, 3, 2, 1, 1, 1, 1, 3, 2, 3, 2, 2, 3, 3, 3, 5, 5, 5, 8, 2, 2, 6, 1, 1, 1, 1, 2, 1, 2, 2, 3, 1, 3, 6, 5, 5, 8, 5, 4, 4]
def hmlT5 : List Nat := [4, 2, 5, 3, 3, 2, 3, 4, 4, 4, 4, 4, 5, 1, 1, 3, 2, 2, 4, 4, 10, 18, 2, 2, 2, 7, 1, 1, 6, 3, 3, 4, 2, 5, 2, 3, 4, 3, 3, 3]
def hmlT6 : List Nat := [3, 2, 5, 3, 3, 3, 2, 5, 1, 1, 3, 1, 2, 2, 4, 4, 5, 4, 4, 4, 3, 3, 3, 4, 3, 3, 3, 6, 6, 6, 4, 7, 3, 4, 5, 4, 3, 3, 3, 5]
def hmlT7 : List Nat := [4, 4, 4, 4, 4, 4, 3, 3, 4, 5, 4, 3, 5, 5, 5, 5, 4, 6, 3, 3, 4, 3, 4, 4, 3, 1, 2, 2, 2, 5, 4, 1, 2, 9]
def hml (y : Nat) : Nat := match y / 40 with
  | 0 => hmlT0.getD (y % 40) 0
  | 1 => hmlT1.getD (y % 40) 0
  | 2 => hmlT2.getD (y % 40) 0
  | 3 => hmlT3.getD (y % 40) 0
  | 4 => hmlT4.getD (y % 40) 0
  | 5 => hmlT5.getD (y % 40) 0
  | 6 => hmlT6.getD (y % 40) 0
  | 7 => hmlT7.getD (y % 40) 0
  | _ => 0
def hrT0 : List (Option FieldType) := [some .boolean, some .boolean, some .long, some .boolean, some .long, some .long, none, some .int, some .int, none, some .int, some .int, some .int, some .int, none, some .int, some .int, none, none, some (.object "ToeplitzLab$State"), none, none, some .boolean, some .boolean, some .boolean, some .boolean, some .boolean, some .boolean, some .boolean, some .boolean, some .boolean, none, some .int, some .int, some .int, some .boolean, some .int, none, some .int, some .boolean]
def hrT1 : List (Option FieldType) := [some .int, some .int, none, none, none, none, some .int, none, none, some .int, some .int, none, some .int, some .int, some .int, some .int, some .int, some .int, some .int, some .int, some .int, some .int, some .int, some .int, some .int, some .boolean, some .int, some .int, some .int, some .int, some .int, some .int, some .int, some .int, some .int, some .int, some .int, some .int, some .int, some .int]
def hrT2 : List (Option FieldType) := [some .boolean, some .int, some .int, some .int, some .int, some .long, some .long, some .int, some .int, some .double, some .boolean, some .int, some .int, some .int, some .int, some .boolean, some .int, some .int, some .int, some .int, some .int, some .int, some .int, some .int, some .int, some .int, some .int, some .int, some .int, some .int, none, none, none, none, none, none, none, none, none, none]
def hrT3 : List (Option FieldType) := [some .boolean, some .int, some .int, some .int, some .int, none, some .int, some .int, some .int, some .int, some .int, some .boolean, some .boolean, some .boolean, some .int, some .int, some .int, some .int, some .int, some .int, some .int, some .boolean, some .boolean, none, none, none, some .boolean, none, some .int, some .int, some .int, some .int, none, none, none, none, some .int, none, some .boolean, some .boolean]
def hrT4 : List (Option FieldType) := [some .boolean, some .boolean, some .int, some .int, some .int, some .int, some .int, some .int, some .int, some .int, some .int, some .int, some .int, some .int, none, none, none, some .int, some .int, some .int, some .int, some .int, some .int, some .int, some .boolean, some .boolean, none, some .int, some .boolean, some .int, some .int, some .int, some .int, some .int, none, none, none, some .int, some .boolean, some .int]
def hrT5 : List (Option FieldType) := [some .int, some .int, some .int, some .int, some .int, some .boolean, some .int, some .int, some .int, some .boolean, some .int, some .long, some .long, some .int, some .int, some .int, some .int, some .long, some .long, some .boolean, some .long, some .boolean, some .int, some .int, some .double, some .boolean, some .boolean, some .boolean, none, none, some .int, some .int, some .int, some .int, some .boolean, some .int, some .int, some .boolean, some .int, none]
def hrT6 : List (Option FieldType) := [none, none, some .int, some .int, some .int, some .int, some .int, some .int, some .int, some .int, some .int, some .int, some .int, some .int, some .int, some .int, some .int, some .int, some .int, some .int, some .int, some .int, some .int, some .int, some .int, some .int, some .int, some .int, some .int, some .int, some .int, some .int, some .int, some .int, some .int, some .int, some .int, some .int, some .int, some .int]
def hrT7 : List (Option FieldType) := [some .int, some .int, some .int, some .int, some .int, some .int, some .int, some .int, some .int, some .int, some .int, some .int, some .int, some .int, some .int, some .int, some .int, some .int, some .int, some .int, some .int, some .int, some .int, some .int, some .int, some .int, some .long, some .int, some .int, none, none, some .int, some .char, some .boolean]
def hr (y : Nat) : (Option FieldType) := match y / 40 with
  | 0 => hrT0.getD (y % 40) none
  | 1 => hrT1.getD (y % 40) none
  | 2 => hrT2.getD (y % 40) none
  | 3 => hrT3.getD (y % 40) none
  | 4 => hrT4.getD (y % 40) none
  | 5 => hrT5.getD (y % 40) none
  | 6 => hrT6.getD (y % 40) none
  | 7 => hrT7.getD (y % 40) none
  | _ => none
def hmcT0 : List Nat := [0, 0, 0, 0, 0, 0, 0, 0, 0, 0, 0, 0, 0, 0, 0, 0, 0, 0, 7, 0, 0, 0, 0, 0, 0, 0, 0, 0, 0, 0, 0, 0, 0, 0, 0, 0, 0, 0, 0, 0]
def hmcT1 : List Nat := [0, 0, 0, 0, 0, 0, 0, 0, 0, 0, 0, 0, 0, 1, 0, 0, 0, 0, 0, 2, 3, 2, 2, 2, 1, 1, 1, 2, 1, 1, 1, 4, 4, 4, 2, 4, 1, 3, 4, 3]
def hmcT2 : List Nat := [1, 1, 1, 3, 2, 2, 2, 3, 2, 3, 1, 1, 2, 3, 2, 1, 0, 2, 10, 10, 10, 9, 12, 9, 10, 10, 1, 0, 9, 2, 1, 1, 1, 1, 1, 1, 1, 1, 1, 1]
def hmcT3 : List Nat := [0, 0, 0, 0, 1, 0, 0, 0, 0, 0, 0, 0, 0, 0, 0, 0, 0, 0, 0, 0, 0, 0, 0, 0, 0, 0, 0, 0, 0, 0, 0, 0, 0, 0, 0, 0, 0, 0, 0, 0]
def hmcT4 : List Nat := [0, 0, 0, 0, 0, 0, 0, 0, 0, 0, 0, 0, 0, 0, 0, 0, 0, 0, 0, 0, 0, 0, 0, 0, 0, 0, 0, 0, 0, 0, 0, 0, 0, 0, 0, 0, 0, 0, 0, 0]
def hmcT5 : List Nat := [0, 0, 0, 0, 0, 0, 0, 0, 0, 0, 0, 0, 0, 0, 0, 0, 0, 0, 0, 0, 0, 0, 0, 0, 0, 0, 0, 0, 0, 0, 0, 0, 0, 0, 0, 0, 0, 0, 0, 0]
def hmcT6 : List Nat := [0, 0, 0, 0, 0, 0, 0, 0, 0, 0, 0, 0, 0, 0, 1, 2, 3, 2, 2, 2, 1, 1, 1, 2, 1, 1, 1, 4, 4, 4, 2, 4, 1, 3, 4, 3, 1, 1, 1, 3]
def hmcT7 : List Nat := [2, 2, 2, 3, 2, 3, 1, 1, 2, 3, 2, 1, 2, 10, 10, 10, 9, 12, 9, 10, 10, 1, 9, 2, 0, 0, 0, 0, 0, 0, 0, 0, 0, 173]
def hmc (y : Nat) : Nat := match y / 40 with
  | 0 => hmcT0.getD (y % 40) 0
  | 1 => hmcT1.getD (y % 40) 0
  | 2 => hmcT2.getD (y % 40) 0
  | 3 => hmcT3.getD (y % 40) 0
  | 4 => hmcT4.getD (y % 40) 0
  | 5 => hmcT5.getD (y % 40) 0
  | 6 => hmcT6.getD (y % 40) 0
  | 7 => hmcT7.getD (y % 40) 0
  | _ => 0
def hmsT0 : List Nat := [0, 0, 0, 0, 0, 0, 0, 0, 0, 0, 0, 0, 0, 0, 0, 0, 0, 0, 142, 0, 0, 0, 0, 0, 0, 0, 0, 0, 0, 0, 0, 0, 0, 0, 0, 0, 0, 0, 0, 0]
def hmsT1 : List Nat := [0, 0, 0, 0, 0, 0, 0, 0, 0, 0, 0, 0, 0, 6, 0, 0, 0, 0, 0, 12, 18, 12, 12, 12, 6, 6, 6, 12, 6, 6, 6, 24, 24, 24, 12, 24, 6, 18, 24, 18]
def hmsT2 : List Nat := [6, 6, 6, 18, 12, 12, 12, 18, 12, 18, 6, 6, 12, 18, 12, 6, 0, 12, 160, 160, 160, 154, 172, 154, 160, 160, 6, 0, 154, 12, 6, 6, 6, 6, 6, 6, 6, 6, 6, 6]
def hmsT3 : List Nat := [0, 0, 0, 0, 6, 0, 0, 0, 0, 0, 0, 0, 0, 0, 0, 0, 0, 0, 0, 0, 0, 0, 0, 0, 0, 0, 0, 0, 0, 0, 0, 0, 0, 0, 0, 0, 0, 0, 0, 0]
def hmsT4 : List Nat := [0, 0, 0, 0, 0, 0, 0, 0, 0, 0, 0, 0, 0, 0, 0, 0, 0, 0, 0, 0, 0, 0, 0, 0, 0, 0, 0, 0, 0, 0, 0, 0, 0, 0, 0, 0, 0, 0, 0, 0]
def hmsT5 : List Nat := [0, 0, 0, 0, 0, 0, 0, 0, 0, 0, 0, 0, 0, 0, 0, 0, 0, 0, 0, 0, 0, 0, 0, 0, 0, 0, 0, 0, 0, 0, 0, 0, 0, 0, 0, 0, 0, 0, 0, 0]
def hmsT6 : List Nat := [0, 0, 0, 0, 0, 0, 0, 0, 0, 0, 0, 0, 0, 0, 6, 12, 18, 12, 12, 12, 6, 6, 6, 12, 6, 6, 6, 24, 24, 24, 12, 24, 6, 18, 24, 18, 6, 6, 6, 18]
def hmsT7 : List Nat := [12, 12, 12, 18, 12, 18, 6, 6, 12, 18, 12, 6, 12, 160, 160, 160, 154, 172, 154, 160, 160, 6, 154, 12, 0, 0, 0, 0, 0, 0, 0, 0, 0, 1938]
def hms (y : Nat) : Nat := match y / 40 with
  | 0 => hmsT0.getD (y % 40) 0
  | 1 => hmsT1.getD (y % 40) 0
  | 2 => hmsT2.getD (y % 40) 0
  | 3 => hmsT3.getD (y % 40) 0
  | 4 => hmsT4.getD (y % 40) 0
  | 5 => hmsT5.getD (y % 40) 0
  | 6 => hmsT6.getD (y % 40) 0
  | 7 => hmsT7.getD (y % 40) 0
  | _ => 0
def hfrT0 : List Nat := [3, 4, 2, 2, 2, 3, 3, 1, 1, 3, 1, 4, 1, 3, 3, 1, 3, 4, 4, 1, 1, 1, 8, 7, 7, 5, 5, 5, 4, 6, 1, 3, 2, 2, 1, 5, 2, 3, 2, 5]
def hfrT1 : List Nat := [1, 5, 3, 4, 3, 2, 1, 1, 2, 1, 1, 2, 2, 9, 1, 1, 1, 1, 1, 8, 8, 8, 8, 8, 8, 8, 8, 8, 8, 8, 8, 8, 8, 8, 8, 8, 8, 8, 8, 8]
def hfrT2 : List Nat := [8, 8, 8, 8, 8, 8, 8, 8, 8, 8, 8, 8, 8, 8, 8, 8, 1, 8, 8, 8, 8, 8, 8, 8, 8, 8, 7, 1, 8, 8, 7, 7, 7, 7, 7, 7, 7, 7, 7, 7]
def hfrT3 : List Nat := [1, 2, 5, 6, 7, 5, 6, 5, 2, 3, 1, 1, 1, 2, 2, 1, 1, 1, 1, 1, 1, 1, 1, 2, 1, 3, 6, 7, 2, 4, 3, 4, 5, 5, 5, 8, 9, 1, 2, 2]
def hfrT4 : List Nat := [3, 4, 1, 2, 2, 2, 2, 1, 3, 5, 4, 4, 1, 1, 2, 1, 2, 1, 3, 4, 5, 3, 4, 5, 5, 6, 5, 6, 6, 7, 6, 6, 4, 5, 3, 4, 2, 5, 7, 8]
def hfrT5 : List Nat := [8, 7, 7, 6, 4, 6, 7, 6, 6, 5, 1, 1, 1, 3, 3, 3, 4, 4, 4, 1, 1, 2, 4, 4, 4, 3, 4, 6, 5, 4, 7, 2, 4, 1, 3, 4, 4, 3, 3, 1]
def hfrT6 : List Nat := [1, 2, 3, 4, 4, 4, 4, 3, 3, 7, 7, 2, 3, 2, 10, 9, 9, 9, 9, 9, 9, 9, 9, 9, 9, 9, 9, 9, 9, 9, 9, 9, 9, 9, 9, 9, 9, 9, 9, 9]
def hfrT7 : List Nat := [9, 9, 9, 9, 9, 9, 9, 9, 9, 9, 9, 9, 9, 9, 9, 9, 9, 9, 9, 9, 9, 8, 9, 9, 1, 1, 1, 1, 1, 1, 1, 5, 5, 11]
def hfr (y : Nat) : Nat := match y / 40 with
  | 0 => hfrT0.getD (y % 40) 0
  | 1 => hfrT1.getD (y % 40) 0
  | 2 => hfrT2.getD (y % 40) 0
  | 3 => hfrT3.getD (y % 40) 0
  | 4 => hfrT4.getD (y % 40) 0
  | 5 => hfrT5.getD (y % 40) 0
  | 6 => hfrT6.getD (y % 40) 0
  | 7 => hfrT7.getD (y % 40) 0
  | _ => 0
def hloT0 : List Nat := [71, 110, 42, 41, 41, 71, 63, 20, 20, 63, 20, 90, 20, 63, 63, 20, 63, 86, 81, 20, 20, 20, 173, 153, 153, 112, 112, 112, 88, 131, 20, 65, 41, 41, 20, 115, 42, 66, 42, 134]
def hloT1 : List Nat := [20, 112, 63, 86, 80, 60, 20, 20, 60, 20, 20, 41, 42, 195, 20, 20, 20, 20, 20, 121, 121, 121, 121, 137, 120, 137, 159, 181, 159, 159, 137, 121, 181, 181, 181, 181, 159, 137, 158, 121]
def hloT2 : List Nat := [137, 120, 120, 121, 121, 121, 121, 131, 121, 131, 134, 138, 121, 121, 121, 120, 20, 120, 121, 121, 121, 120, 121, 120, 158, 158, 100, 20, 120, 120, 100, 100, 100, 100, 100, 100, 100, 100, 110, 138]
def hloT3 : List Nat := [20, 42, 115, 137, 159, 115, 138, 115, 42, 63, 20, 20, 20, 42, 40, 20, 20, 20, 20, 20, 20, 20, 20, 41, 20, 62, 131, 153, 42, 82, 62, 85, 108, 108, 108, 174, 196, 20, 42, 42]
def hloT4 : List Nat := [63, 84, 20, 41, 41, 41, 41, 20, 63, 106, 84, 84, 20, 20, 42, 20, 42, 20, 66, 93, 114, 66, 91, 111, 114, 134, 114, 135, 135, 156, 135, 135, 93, 114, 66, 90, 42, 114, 156, 179]
def hloT5 : List Nat := [179, 156, 156, 138, 91, 134, 155, 134, 134, 113, 20, 20, 20, 62, 62, 63, 84, 84, 84, 20, 20, 49, 86, 86, 86, 86, 112, 134, 113, 112, 154, 42, 84, 20, 62, 83, 83, 65, 62, 20]
def hloT6 : List Nat := [20, 42, 63, 87, 87, 87, 87, 63, 63, 154, 154, 42, 62, 42, 217, 142, 143, 142, 142, 158, 140, 157, 179, 202, 182, 179, 159, 144, 205, 205, 202, 206, 182, 158, 180, 143, 159, 140, 140, 143]
def hloT7 : List Nat := [142, 142, 144, 152, 142, 152, 154, 160, 142, 143, 144, 141, 142, 144, 144, 144, 142, 145, 140, 178, 182, 121, 141, 142, 20, 20, 20, 20, 20, 20, 20, 110, 110, 240]
def hlo (y : Nat) : Nat := match y / 40 with
  | 0 => hloT0.getD (y % 40) 0
  | 1 => hloT1.getD (y % 40) 0
  | 2 => hloT2.getD (y % 40) 0
  | 3 => hloT3.getD (y % 40) 0
  | 4 => hloT4.getD (y % 40) 0
  | 5 => hloT5.getD (y % 40) 0
  | 6 => hloT6.getD (y % 40) 0
  | 7 => hloT7.getD (y % 40) 0
  | _ => 0
def hrm (y : Nat) : Room := { frames := hfr y, cells := hmc y, slots := hms y, locals := hlo y }
def hhtT0 : List (List (Nat × Nat × Nat × Nat)) := [[], [], [], [], [], [], [], [], [], [], [], [], [], [], [], [], [], [], [], [], [], [], [], [], [], [], [], [], [], [], [], [], [], [], [], [], [], [], [], []]
def hhtT1 : List (List (Nat × Nat × Nat × Nat)) := [[], [], [], [], [], [], [], [], [], [], [], [], [], [], [], [], [], [], [], [], [], [], [], [], [], [], [], [], [], [], [], [], [], [], [], [], [], [], [], []]
def hhtT2 : List (List (Nat × Nat × Nat × Nat)) := [[], [], [], [], [], [], [], [], [], [], [], [], [], [], [], [], [], [], [], [], [], [], [], [], [], [], [], [], [], [], [], [], [], [], [], [], [], [], [], []]
def hhtT3 : List (List (Nat × Nat × Nat × Nat)) := [[], [], [], [], [], [], [], [], [], [], [], [], [], [], [], [], [], [], [], [], [], [], [], [], [], [], [], [], [], [], [], [], [], [], [], [], [], [], [], []]
def hhtT4 : List (List (Nat × Nat × Nat × Nat)) := [[], [], [], [], [], [], [], [], [], [], [], [], [], [], [], [], [], [], [], [], [], [], [], [], [], [], [], [], [], [], [], [], [], [], [], [], [], [], [], []]
def hhtT5 : List (List (Nat × Nat × Nat × Nat)) := [[], [], [], [], [], [], [], [], [], [], [], [], [], [], [], [], [], [], [], [], [], [], [], [], [], [], [], [], [], [], [], [], [], [], [], [], [], [], [], []]
def hhtT6 : List (List (Nat × Nat × Nat × Nat)) := [[], [], [], [], [], [], [], [], [], [], [], [], [], [], [(0, 9, 12, 13), (0, 9, 15, 15)], [(0, 9, 12, 20), (0, 9, 15, 13)], [(0, 10, 13, 20), (0, 10, 17, 13)], [(0, 9, 12, 20), (0, 9, 15, 13)], [(0, 9, 12, 20), (0, 9, 15, 13)], [(0, 9, 12, 20), (0, 9, 15, 13)], [(0, 8, 11, 20)], [(0, 15, 18, 20)], [(0, 8, 11, 20)], [(0, 9, 12, 20), (0, 9, 15, 13)], [(0, 8, 11, 20)], [(0, 8, 11, 20)], [(0, 8, 11, 20)], [(0, 12, 15, 20), (0, 12, 19, 13), (0, 12, 23, 15)], [(0, 12, 15, 20), (0, 12, 19, 13)], [(0, 12, 15, 20), (0, 12, 19, 13)], [(0, 9, 12, 20), (0, 9, 15, 13)], [(0, 14, 17, 20), (0, 14, 21, 13)], [(0, 8, 11, 20)], [(0, 9, 12, 20), (0, 9, 15, 13), (0, 9, 18, 15)], [(0, 10, 13, 20), (0, 10, 17, 13), (0, 10, 21, 15)], [(0, 9, 12, 20), (0, 9, 15, 13), (0, 9, 18, 15)], [(0, 15, 18, 20)], [(0, 8, 11, 20)], [(0, 8, 11, 20)], [(0, 10, 13, 20), (0, 10, 17, 13)]]
def hhtT7 : List (List (Nat × Nat × Nat × Nat)) := [[(0, 9, 12, 20), (0, 9, 15, 13)], [(0, 8, 11, 20), (0, 8, 14, 13)], [(0, 8, 11, 20), (0, 8, 14, 13)], [(0, 9, 12, 20), (0, 9, 15, 13), (0, 9, 18, 15)], [(0, 9, 12, 20), (0, 9, 15, 13)], [(0, 8, 11, 20), (0, 8, 14, 13), (0, 8, 17, 15)], [(0, 15, 18, 20)], [(0, 8, 11, 20)], [(0, 9, 12, 20), (0, 9, 15, 13)], [(0, 10, 13, 20), (0, 10, 17, 13)], [(0, 9, 12, 20), (0, 9, 15, 13)], [(0, 15, 18, 20)], [(0, 10, 13, 20), (0, 10, 17, 13), (0, 10, 21, 15)], [(0, 10, 13, 20), (0, 10, 17, 13), (0, 10, 21, 15)], [(0, 10, 13, 20), (0, 10, 17, 13), (0, 10, 21, 15)], [(0, 10, 13, 20), (0, 10, 17, 13), (0, 10, 21, 15)], [(0, 9, 12, 20), (0, 9, 15, 15)], [(0, 12, 15, 20), (0, 12, 19, 15)], [(0, 8, 11, 20), (0, 8, 14, 15)], [(0, 8, 11, 20), (0, 8, 14, 15)], [(0, 9, 12, 20), (0, 9, 15, 15)], [(0, 8, 11, 20)], [(0, 9, 12, 20), (0, 9, 15, 13)], [(0, 9, 12, 13), (0, 9, 15, 20)], [], [], [], [], [], [], [], [], [], []]
def hht (y : Nat) : (List (Nat × Nat × Nat × Nat)) := match y / 40 with
  | 0 => hhtT0.getD (y % 40) []
  | 1 => hhtT1.getD (y % 40) []
  | 2 => hhtT2.getD (y % 40) []
  | 3 => hhtT3.getD (y % 40) []
  | 4 => hhtT4.getD (y % 40) []
  | 5 => hhtT5.getD (y % 40) []
  | 6 => hhtT6.getD (y % 40) []
  | 7 => hhtT7.getD (y % 40) []
  | _ => []
def gcls (i : Nat) : String := ([RX0, RX1, RX2, RX3, RX4, RX5, RX6, RX7, RX8, RL, "java/lang/Math", "java/util/Arrays", "java/lang/String"] : List String).getD i RL
def hclT0 : List Nat := [0, 0, 0, 0, 0, 0, 1, 1, 1, 1, 1, 1, 1, 1, 1, 1, 1, 1, 2, 2, 2, 3, 3, 3, 3, 3, 3, 3, 3, 3, 3, 3, 3, 3, 3, 4, 4, 4, 4, 4]
def hclT1 : List Nat := [5, 5, 5, 5, 6, 6, 6, 6, 6, 6, 6, 6, 7, 7, 7, 7, 7, 7, 7, 7, 7, 7, 7, 7, 7, 7, 7, 7, 7, 7, 7, 7, 7, 7, 7, 7, 7, 7, 7, 7]
def hclT2 : List Nat := [7, 7, 7, 7, 7, 7, 7, 7, 7, 7, 7, 7, 7, 7, 7, 7, 7, 7, 7, 7, 7, 7, 7, 7, 7, 7, 7, 7, 7, 7, 7, 7, 7, 7, 7, 7, 7, 7, 7, 7]
def hclT3 : List Nat := [7, 7, 7, 7, 7, 7, 7, 7, 7, 7, 8, 8, 8, 8, 8, 8, 8, 8, 8, 8, 8, 8, 8, 8, 8, 8, 8, 8, 8, 8, 8, 8, 8, 8, 8, 8, 8, 8, 8, 8]
def hclT4 : List Nat := [8, 8, 8, 8, 8, 8, 8, 8, 8, 8, 8, 8, 8, 8, 8, 8, 8, 8, 8, 8, 8, 8, 8, 8, 8, 8, 8, 8, 8, 8, 8, 8, 8, 8, 8, 8, 8, 8, 8, 8]
def hclT5 : List Nat := [8, 8, 8, 8, 8, 8, 8, 8, 8, 8, 8, 8, 8, 8, 8, 8, 8, 8, 8, 8, 8, 8, 8, 8, 8, 8, 8, 8, 8, 8, 8, 8, 8, 8, 8, 8, 8, 8, 8, 8]
def hclT6 : List Nat := [8, 8, 8, 8, 8, 8, 8, 8, 8, 8, 8, 8, 8, 8, 9, 9, 9, 9, 9, 9, 9, 9, 9, 9, 9, 9, 9, 9, 9, 9, 9, 9, 9, 9, 9, 9, 9, 9, 9, 9]
def hclT7 : List Nat := [9, 9, 9, 9, 9, 9, 9, 9, 9, 9, 9, 9, 9, 9, 9, 9, 9, 9, 9, 9, 9, 9, 9, 9, 10, 10, 10, 10, 10, 11, 11, 12, 12, 9]
def hcl (y : Nat) : Nat := match y / 40 with
  | 0 => hclT0.getD (y % 40) 9
  | 1 => hclT1.getD (y % 40) 9
  | 2 => hclT2.getD (y % 40) 9
  | 3 => hclT3.getD (y % 40) 9
  | 4 => hclT4.getD (y % 40) 9
  | 5 => hclT5.getD (y % 40) 9
  | 6 => hclT6.getD (y % 40) 9
  | 7 => hclT7.getD (y % 40) 9
  | _ => 9
def gMtT0 : List (List gE × gH × Nat × Nat × Bool) := [(cd_X0_find, [], 0, 0, true), (cd_X0_solve, [], 0, 0, true), (cd_X0_rowTimes, [], 0, 0, false), (cd_X0_isLarge, [], 0, 0, true), (cd_X0_greatestDivisor, [], 0, 0, false), (cd_X0_commonMultiple, [], 0, 0, false), (cd_X1_take, [], 0, 0, false), (cd_X1_height, [], 0, 0, false), (cd_X1_at, [], 0, 0, false), (cd_X1_put, [], 0, 0, false), (cd_X1_determinant, [], 0, 0, false), (cd_X1_eliminate, [], 0, 0, false), (cd_X1_pivotRow, [], 0, 0, false), (cd_X1_leadRow, [], 0, 0, false), (cd_X1_clearColumn, [], 0, 0, false), (cd_X1_inverseOf, [], 0, 0, false), (cd_X1_ofKernel, [], 0, 0, false), (cd_X1_displace, [], 0, 0, false), (cd_X2_remember, [], 7, 142, false), (cd_X2_takeLatest, [], 0, 0, false), (cd_X2_forget, [], 0, 0, false), (cd_X3_putWord, [], 0, 0, false), (cd_X3_parse, [], 0, 0, true), (cd_X3_readHead, [], 0, 0, true), (cd_X3_readLine, [], 0, 0, true), (cd_X3_readRange, [], 0, 0, true), (cd_X3_readRangeValue, [], 0, 0, true), (cd_X3_readPart, [], 0, 0, true), (cd_X3_reachNumber, [], 0, 0, true), (cd_X3_isWord, [], 0, 0, true), (cd_X3_fail, [], 0, 0, true), (cd_X3_advance, [], 0, 0, false), (cd_X3_runEnd, [], 0, 0, false), (cd_X3_readDecimals, [], 0, 0, false), (cd_X3_byteAt, [], 0, 0, false), (cd_X4_prepare, [], 0, 0, true), (cd_X4_ofInverse, [], 0, 0, false), (cd_X4_addDigit, [], 0, 0, false), (cd_X4_nextRest, [], 0, 0, false), (cd_X4_liftAndEnter, [], 0, 0, true)]
def gMtT1 : List (List gE × gH × Nat × Nat × Bool) := [(cd_X5_component, [], 0, 0, false), (cd_X5_find, [], 0, 0, false), (cd_X5_keep, [], 0, 0, false), (cd_X5_subtract, [], 0, 0, false), (cd_X6_clear, [], 0, 0, false), (cd_X6_become, [], 0, 0, false), (cd_X6_along, [], 0, 0, false), (cd_X6_putAlong, [], 0, 0, false), (cd_X6_beginRefinement, [], 0, 0, false), (cd_X6_digitLimit, [], 0, 0, false), (cd_X6_digitOf, [], 0, 0, false), (cd_X6_enter, [], 0, 0, false), (cd_X7_append, [], 0, 0, false), (cd_X7_load, [], 1, 6, false), (cd_X7_parseError, [], 0, 0, false), (cd_X7_errorPosition, [], 0, 0, false), (cd_X7_buffered, [], 0, 0, false), (cd_X7_size, [], 0, 0, false), (cd_X7_prime, [], 0, 0, false), (cd_X7_diagonal, [], 2, 12, false), (cd_X7_entry, [], 3, 18, false), (cd_X7_side, [], 2, 12, false), (cd_X7_probe, [], 2, 12, false), (cd_X7_minor, [], 2, 12, false), (cd_X7_rank, [], 1, 6, false), (cd_X7_isRegular, [], 1, 6, true), (cd_X7_steps, [], 1, 6, false), (cd_X7_stepEnd, [], 2, 12, false), (cd_X7_longestJump, [], 1, 6, false), (cd_X7_tail, [], 1, 6, false), (cd_X7_regularPrimes, [], 1, 6, false), (cd_X7_minorIf, [], 4, 24, false), (cd_X7_schur, [], 4, 24, false), (cd_X7_displacement, [], 4, 24, false), (cd_X7_generators, [], 2, 12, false), (cd_X7_generator, [], 4, 24, false), (cd_X7_mostGenerators, [], 1, 6, false), (cd_X7_solution, [], 3, 18, false), (cd_X7_inverse, [], 4, 24, false), (cd_X7_kernel, [], 3, 18, false)]
def gMtT2 : List (List gE × gH × Nat × Nat × Bool) := [(cd_X7_isSolvable, [], 1, 6, true), (cd_X7_digits, [], 1, 6, false), (cd_X7_mostDigits, [], 1, 6, false), (cd_X7_digit, [], 3, 18, false), (cd_X7_residual, [], 2, 12, false), (cd_X7_value, [], 2, 12, false), (cd_X7_centred, [], 2, 12, false), (cd_X7_numerator, [], 3, 18, false), (cd_X7_denominator, [], 2, 12, false), (cd_X7_quotient, [], 3, 18, false), (cd_X7_isExact, [], 1, 6, true), (cd_X7_liftsTo, [], 1, 6, false), (cd_X7_product, [], 2, 12, false), (cd_X7_circulant, [], 3, 18, false), (cd_X7_wrapped, [], 2, 12, false), (cd_X7_probeSolves, [], 1, 6, true), (cd_X7_entries, [], 0, 0, false), (cd_X7_accountOf, [], 2, 12, false), (cd_X7_setDiagonal, [], 10, 160, false), (cd_X7_setSide, [], 10, 160, false), (cd_X7_setProbe, [], 10, 160, false), (cd_X7_setPrime, [], 9, 154, false), (cd_X7_grow, [], 12, 172, false), (cd_X7_shrink, [], 9, 154, false), (cd_X7_lift, [], 10, 160, false), (cd_X7_refine, [], 10, 160, false), (cd_X7_undo, [], 1, 6, false), (cd_X7_undoable, [], 0, 0, false), (cd_X7_save, [], 9, 154, false), (cd_X7_restore, [], 2, 12, false), (cd_X7_requireSystem, [], 1, 6, false), (cd_X7_requireRow, [], 1, 6, false), (cd_X7_requireBehind, [], 1, 6, false), (cd_X7_requireWrappedRow, [], 1, 6, false), (cd_X7_requireDiagonal, [], 1, 6, false), (cd_X7_requireSize, [], 1, 6, false), (cd_X7_requireSlot, [], 1, 6, false), (cd_X7_requireWithin, [], 1, 6, false), (cd_X7_requireFraction, [], 1, 6, false), (cd_X7_requireLifter, [], 1, 6, false)]
def gMtT3 : List (List gE × gH × Nat × Nat × Bool) := [(cd_X7_isListed, [], 0, 0, true), (cd_X7_reduced, [], 0, 0, false), (cd_X7_leadingMinor, [], 0, 0, false), (cd_X7_findSteps, [], 0, 0, false), (cd_X7_startBehind, [], 1, 6, false), (cd_X7_complementBehind, [], 0, 0, false), (cd_X7_pairsBehind, [], 0, 0, false), (cd_X7_eliminateWithSides, [], 0, 0, false), (cd_X7_timesProbe, [], 0, 0, false), (cd_X7_aroundCircle, [], 0, 0, false), (cd_X8_thrown, [], 0, 0, false), (cd_X8_in, [], 0, 0, true), (cd_X8_refuse, [], 0, 0, true), (cd_X8_noSystem, [], 0, 0, true), (cd_X8_primeIndex, [], 0, 0, false), (cd_X8_primeAt, [], 0, 0, false), (cd_X8_append, [], 0, 0, false), (cd_X8_buffered, [], 0, 0, false), (cd_X8_parseError, [], 0, 0, false), (cd_X8_errorPosition, [], 0, 0, false), (cd_X8_seen, [], 0, 0, false), (cd_X8_isLetter, [], 0, 0, true), (cd_X8_isDigit, [], 0, 0, true), (cd_X8_token, [], 0, 0, false), (cd_X8_fails, [], 0, 0, false), (cd_X8_goesOn, [], 0, 0, false), (cd_X8_isWord, [], 0, 0, true), (cd_X8_expects, [], 0, 0, false), (cd_X8_numberHere, [], 0, 0, false), (cd_X8_takes, [], 0, 0, false), (cd_X8_signedHere, [], 0, 0, false), (cd_X8_takesSigned, [], 0, 0, false), (cd_X8_diagonalLine, [], 0, 0, false), (cd_X8_bandLine, [], 0, 0, false), (cd_X8_partLine, [], 0, 0, false), (cd_X8_reads, [], 0, 0, false), (cd_X8_load, [], 0, 0, false), (cd_X8_begins, [], 0, 0, false), (cd_X8_isRow, [], 0, 0, true), (cd_X8_isDiagonal, [], 0, 0, true)]
def gMtT4 : List (List gE × gH × Nat × Nat × Bool) := [(cd_X8_noRow, [], 0, 0, true), (cd_X8_noRows, [], 0, 0, true), (cd_X8_its, [], 0, 0, false), (cd_X8_size, [], 0, 0, false), (cd_X8_prime, [], 0, 0, false), (cd_X8_entries, [], 0, 0, false), (cd_X8_undoable, [], 0, 0, false), (cd_X8_entryOf, [], 0, 0, false), (cd_X8_diagonal, [], 0, 0, false), (cd_X8_entry, [], 0, 0, false), (cd_X8_side, [], 0, 0, false), (cd_X8_probe, [], 0, 0, false), (cd_X8_mod, [], 0, 0, false), (cd_X8_inverseOf, [], 0, 0, false), (cd_X8_lays, [], 0, 0, false), (cd_X8_swaps, [], 0, 0, false), (cd_X8_takesOff, [], 0, 0, false), (cd_X8_pivot, [], 0, 0, false), (cd_X8_minorOf, [], 0, 0, false), (cd_X8_minorNow, [], 0, 0, false), (cd_X8_minor, [], 0, 0, false), (cd_X8_reduces, [], 0, 0, false), (cd_X8_rankNow, [], 0, 0, false), (cd_X8_rank, [], 0, 0, false), (cd_X8_isRegularNow, [], 0, 0, true), (cd_X8_isRegular, [], 0, 0, true), (cd_X8_laysEnds, [], 0, 0, false), (cd_X8_steps, [], 0, 0, false), (cd_X8_noStep, [], 0, 0, true), (cd_X8_stepEnd, [], 0, 0, false), (cd_X8_longestJump, [], 0, 0, false), (cd_X8_tail, [], 0, 0, false), (cd_X8_regularPrimes, [], 0, 0, false), (cd_X8_minorIf, [], 0, 0, false), (cd_X8_complements, [], 0, 0, false), (cd_X8_displaces, [], 0, 0, false), (cd_X8_peels, [], 0, 0, false), (cd_X8_laysPairs, [], 0, 0, false), (cd_X8_noPlace, [], 0, 0, true), (cd_X8_schur, [], 0, 0, false)]
def gMtT5 : List (List gE × gH × Nat × Nat × Bool) := [(cd_X8_displacement, [], 0, 0, false), (cd_X8_generators, [], 0, 0, false), (cd_X8_generator, [], 0, 0, false), (cd_X8_mostGenerators, [], 0, 0, false), (cd_X8_reducesWith, [], 0, 0, false), (cd_X8_noSolution, [], 0, 0, true), (cd_X8_solution, [], 0, 0, false), (cd_X8_inverse, [], 0, 0, false), (cd_X8_kernel, [], 0, 0, false), (cd_X8_isSolvable, [], 0, 0, true), (cd_X8_mostNow, [], 0, 0, false), (cd_X8_modulus, [], 0, 0, false), (cd_X8_valueOf, [], 0, 0, false), (cd_X8_digits, [], 0, 0, false), (cd_X8_mostDigits, [], 0, 0, false), (cd_X8_digit, [], 0, 0, false), (cd_X8_residual, [], 0, 0, false), (cd_X8_value, [], 0, 0, false), (cd_X8_centred, [], 0, 0, false), (cd_X8_isWide, [], 0, 0, true), (cd_X8_common, [], 0, 0, false), (cd_X8_findsFraction, [], 0, 0, true), (cd_X8_numerator, [], 0, 0, false), (cd_X8_denominator, [], 0, 0, false), (cd_X8_quotient, [], 0, 0, false), (cd_X8_isExactNow, [], 0, 0, true), (cd_X8_isExact, [], 0, 0, true), (cd_X8_canLift, [], 0, 0, true), (cd_X8_lifts, [], 0, 0, false), (cd_X8_books, [], 0, 0, false), (cd_X8_liftsTo, [], 0, 0, false), (cd_X8_productOf, [], 0, 0, false), (cd_X8_product, [], 0, 0, false), (cd_X8_circulantOf, [], 0, 0, false), (cd_X8_noWide, [], 0, 0, true), (cd_X8_circulant, [], 0, 0, false), (cd_X8_wrapped, [], 0, 0, false), (cd_X8_probeSolves, [], 0, 0, true), (cd_X8_accountOf, [], 0, 0, false), (cd_X8_keeps, [], 0, 0, false)]
def gMtT6 : List (List gE × gH × Nat × Nat × Bool) := [(cd_X8_fetches, [], 0, 0, false), (cd_X8_keepsAll, [], 0, 0, false), (cd_X8_sets, [], 0, 0, false), (cd_X8_setDiagonal, [], 0, 0, false), (cd_X8_setSide, [], 0, 0, false), (cd_X8_setProbe, [], 0, 0, false), (cd_X8_setPrime, [], 0, 0, false), (cd_X8_grow, [], 0, 0, false), (cd_X8_shrink, [], 0, 0, false), (cd_X8_lift, [], 0, 0, false), (cd_X8_refine, [], 0, 0, false), (cd_X8_undo, [], 0, 0, false), (cd_X8_save, [], 0, 0, false), (cd_X8_restore, [], 0, 0, false), (cd_L_load, [(0, 9, 12, 1), (0, 9, 15, 2)], 1, 6, false), (cd_L_diagonal, [(0, 9, 12, 0), (0, 9, 15, 1)], 2, 12, false), (cd_L_entry, [(0, 10, 13, 0), (0, 10, 17, 1)], 3, 18, false), (cd_L_side, [(0, 9, 12, 0), (0, 9, 15, 1)], 2, 12, false), (cd_L_probe, [(0, 9, 12, 0), (0, 9, 15, 1)], 2, 12, false), (cd_L_minor, [(0, 9, 12, 0), (0, 9, 15, 1)], 2, 12, false), (cd_L_rank, [(0, 8, 11, 0)], 1, 6, false), (cd_L_isRegular, [(0, 15, 18, 0)], 1, 6, false), (cd_L_steps, [(0, 8, 11, 0)], 1, 6, false), (cd_L_stepEnd, [(0, 9, 12, 0), (0, 9, 15, 1)], 2, 12, false), (cd_L_longestJump, [(0, 8, 11, 0)], 1, 6, false), (cd_L_tail, [(0, 8, 11, 0)], 1, 6, false), (cd_L_regularPrimes, [(0, 8, 11, 0)], 1, 6, false), (cd_L_minorIf, [(0, 12, 15, 0), (0, 12, 19, 1), (0, 12, 23, 2)], 4, 24, false), (cd_L_schur, [(0, 12, 15, 0), (0, 12, 19, 1)], 4, 24, false), (cd_L_displacement, [(0, 12, 15, 0), (0, 12, 19, 1)], 4, 24, false), (cd_L_generators, [(0, 9, 12, 0), (0, 9, 15, 1)], 2, 12, false), (cd_L_generator, [(0, 14, 17, 0), (0, 14, 21, 1)], 4, 24, false), (cd_L_mostGenerators, [(0, 8, 11, 0)], 1, 6, false), (cd_L_solution, [(0, 9, 12, 0), (0, 9, 15, 1), (0, 9, 18, 2)], 3, 18, false), (cd_L_inverse, [(0, 10, 13, 0), (0, 10, 17, 1), (0, 10, 21, 2)], 4, 24, false), (cd_L_kernel, [(0, 9, 12, 0), (0, 9, 15, 1), (0, 9, 18, 2)], 3, 18, false), (cd_L_isSolvable, [(0, 15, 18, 0)], 1, 6, false), (cd_L_digits, [(0, 8, 11, 0)], 1, 6, false), (cd_L_mostDigits, [(0, 8, 11, 0)], 1, 6, false), (cd_L_digit, [(0, 10, 13, 0), (0, 10, 17, 1)], 3, 18, false)]
def gMtT7 : List (List gE × gH × Nat × Nat × Bool) := [(cd_L_residual, [(0, 9, 12, 0), (0, 9, 15, 1)], 2, 12, false), (cd_L_value, [(0, 8, 11, 0), (0, 8, 14, 1)], 2, 12, false), (cd_L_centred, [(0, 8, 11, 0), (0, 8, 14, 1)], 2, 12, false), (cd_L_numerator, [(0, 9, 12, 0), (0, 9, 15, 1), (0, 9, 18, 2)], 3, 18, false), (cd_L_denominator, [(0, 9, 12, 0), (0, 9, 15, 1)], 2, 12, false), (cd_L_quotient, [(0, 8, 11, 0), (0, 8, 14, 1), (0, 8, 17, 2)], 3, 18, false), (cd_L_isExact, [(0, 15, 18, 0)], 1, 6, false), (cd_L_liftsTo, [(0, 8, 11, 0)], 1, 6, false), (cd_L_product, [(0, 9, 12, 0), (0, 9, 15, 1)], 2, 12, false), (cd_L_circulant, [(0, 10, 13, 0), (0, 10, 17, 1)], 3, 18, false), (cd_L_wrapped, [(0, 9, 12, 0), (0, 9, 15, 1)], 2, 12, false), (cd_L_probeSolves, [(0, 15, 18, 0)], 1, 6, false), (cd_L_accountOf, [(0, 10, 13, 0), (0, 10, 17, 1), (0, 10, 21, 2)], 2, 12, false), (cd_L_setDiagonal, [(0, 10, 13, 0), (0, 10, 17, 1), (0, 10, 21, 2)], 10, 160, false), (cd_L_setSide, [(0, 10, 13, 0), (0, 10, 17, 1), (0, 10, 21, 2)], 10, 160, false), (cd_L_setProbe, [(0, 10, 13, 0), (0, 10, 17, 1), (0, 10, 21, 2)], 10, 160, false), (cd_L_setPrime, [(0, 9, 12, 0), (0, 9, 15, 2)], 9, 154, false), (cd_L_grow, [(0, 12, 15, 0), (0, 12, 19, 2)], 12, 172, false), (cd_L_shrink, [(0, 8, 11, 0), (0, 8, 14, 2)], 9, 154, false), (cd_L_lift, [(0, 8, 11, 0), (0, 8, 14, 2)], 10, 160, false), (cd_L_refine, [(0, 9, 12, 0), (0, 9, 15, 2)], 10, 160, false), (cd_L_undo, [(0, 8, 11, 0)], 1, 6, false), (cd_L_save, [(0, 9, 12, 0), (0, 9, 15, 1)], 9, 154, false), (cd_L_restore, [(0, 9, 12, 1), (0, 9, 15, 0)], 2, 12, false), (cd_J9_floorMod_7cf53, [], 0, 0, false), (cd_J9_abs_0f7a4, [], 0, 0, false), (cd_J9_abs_067f4, [], 0, 0, false), (cd_J9_max_7cf53, [], 0, 0, false), (cd_J9_min_7cf53, [], 0, 0, false), (cd_J7_fill_d0a16, [], 0, 0, false), (cd_J7_fill_53178, [], 0, 0, false), ([], [], 0, 0, false), ([], [], 0, 0, false), (cd_L_law, [], 173, 1938, true)]
def gMt (y : Nat) : (List gE × gH × Nat × Nat × Bool) := match y / 40 with
  | 0 => gMtT0.getD (y % 40) ([], [], 0, 0, false)
  | 1 => gMtT1.getD (y % 40) ([], [], 0, 0, false)
  | 2 => gMtT2.getD (y % 40) ([], [], 0, 0, false)
  | 3 => gMtT3.getD (y % 40) ([], [], 0, 0, false)
  | 4 => gMtT4.getD (y % 40) ([], [], 0, 0, false)
  | 5 => gMtT5.getD (y % 40) ([], [], 0, 0, false)
  | 6 => gMtT6.getD (y % 40) ([], [], 0, 0, false)
  | 7 => gMtT7.getD (y % 40) ([], [], 0, 0, false)
  | _ => ([], [], 0, 0, false)
end
section
/-! ===== what the small machine's states say of the heap ===== -/
abbrev gEn : Type := Launch × va_G × (Nat → ClassId) × Nat × (gR → Nat) × Nat × (Nat → Int32)
abbrev gl (E : gEn) : Launch := E.1
abbrev gD (E : gEn) : va_G := E.2.1
abbrev gca (E : gEn) : Nat → ClassId := E.2.2.1
abbrev gB0 (E : gEn) : Nat := E.2.2.2.1
abbrev gax (E : gEn) : gR → Nat := E.2.2.2.2.1
abbrev gL (E : gEn) : Nat := E.2.2.2.2.2.1
abbrev gXs (E : gEn) : Nat → Int32 := E.2.2.2.2.2.2
def gA (E : gEn) : Nat → Prop := fun q => gB0 E ≤ q
def gfval (ad : gR → Nat) (I : gI) (J : gJ) (k n j cd dn : Nat) : Value :=
  if cd = 1 then .long (J k n j) else if cd < 100 then .int (I k n 0 j) else .ref (ad (cd - 100, n + dn, 0))
def gfvals (ad : gR → Nat) (I : gI) (J : gJ) (k n : Nat) (fl : List (Nat × Nat)) : List Value := fl.mapIdx (fun j q => gfval ad I J k n j q.1 q.2)
def garrE (ca : Nat → ClassId) (ad : gR → Nat) (I : gI) (J : gJ) (B : gB) (r : gR) (t n rk : Nat) : va_E := match t with
  | 0 => .inl (ca 0, n, .inl (I r.1 r.2.1 r.2.2))
  | 1 => .inl (ca 1, n, .inr (.inl (J r.1 r.2.1)))
  | 2 => .inl (ca 2, n, .inl (I r.1 r.2.1 r.2.2))
  | 3 => .inl (ca 3, n, .inl (I r.1 r.2.1 r.2.2))
  | 4 => .inl (ca 4, n, .inr (.inr (.inr (.inl (fun j => (J r.1 r.2.1 j).toUInt64)))))
  | 5 => .inl (ca 5, n, .inr (.inr (.inr (.inr (fun j => some (ad (rk, r.2.1, j)))))))
  | _ => .inl (ca 6, n, .inr (.inr (.inr (.inr (fun j => if Nat.blt j n && B (rk + j + 17) then some (ad (6, rk + j, 0)) else none)))))
def genc (ca : Nat → ClassId) (ad : gR → Nat) (I : gI) (J : gJ) (B : gB) (r : gR) : va_E := match gobj r.1 with
  | some (ci, fl) => .inr (ci, gfvals ad I J r.1 r.2.1 fl)
  | none => match garr r.1 with
    | some (t, n, rk) => garrE ca ad I J B r t n rk
    | none => .inl (ca 0, 0, .inl (fun _ => 0))
def gws (E : gEn) (ad : gR → Nat) (I : gI) (J : gJ) (B : gB) : va_W := (gids B).map (fun r => (ad r, genc (gca E) ad I J B r))
/-- what stands late stands with what holds it -/
def gBok (B : gB) : Prop := ∀ n, 3 ≤ n → n ≤ 12 → B (n + 17) = true → B n = true
def gRep (E : gEn) (ad : gR → Nat) (I : gI) (J : gJ) (B : gB) (H : Heap) : Prop := va_P (gD E) vwCl (gws E ad I J B) H ∧ va_D (gA E) (gws E ad I J B) ∧ (∀ r : gR, r.1 ≤ 2 → ad r = gax E r) ∧ gBok B
def gtys (E : gEn) : List (ClassId × FieldType) := [(gca E 0, .int), (gca E 1, .long), (gca E 2, .boolean), (gca E 3, .byte), (gca E 4, .double), (gca E 5, .array .int), (gca E 6, .object "ToeplitzLab$State")]
def gVl (B : gB) (r : gR) : Prop := r = (0, 0, 0) ∨ r = (1, 0, 0) ∨ (r.1 = 2 ∧ r.2.1 < 6 ∧ r.2.2 = 0) ∨ r ∈ gids B
def gVv (B : gB) (v : gV) : Prop := match v with
  | .inl _ => True
  | .inr r => gVl B r
def gExt (ad0 : gR → Nat) (Bs : gB) (ad : gR → Nat) : Prop := ∀ r, gVl Bs r → ad r = ad0 r
def gLe (B B' : gB) : Prop := ∀ n, B n = true → B' n = true
/-- the words that ride along in every method's list -/
def gBig : List Cond := lw_tbl.filter goodWord
/-- words of the tables that are handed on by themselves -/
def gNst : List Cond := [.fieldLinkNest "ToeplitzLab$Pairs" 46 "ToeplitzLab$Grid" "modulus" "I" "ToeplitzLab", .methodLinkNest "ToeplitzLab$Grid" 41 yX7_reduced "ToeplitzLab", .methodLinkNest "ToeplitzLab$Lifter" 62 yX7_reduced "ToeplitzLab", .methodLinkNest "ToeplitzLab$Pairs" 50 yX7_reduced "ToeplitzLab", .methodLinkNest "ToeplitzLab$Input" 94 yX7_isListed "ToeplitzLab", .methodLinkNest "ToeplitzLab$History" 21 yX6_init "ToeplitzLab", .methodLinkNest "ToeplitzLab" 18 yX6_init "ToeplitzLab",
  .declares ⟨"java/lang/RuntimeException", "<init>", "(Ljava/lang/String;)V"⟩, .declares ⟨"java/lang/Exception", "<init>", "(Ljava/lang/String;)V"⟩, .declares ⟨"java/lang/Throwable", "<init>", "(Ljava/lang/String;)V"⟩,
  .castable "java/lang/IllegalStateException" "java/lang/IllegalStateException", .castable "java/lang/IndexOutOfBoundsException" "java/lang/IndexOutOfBoundsException", .castable "java/lang/IllegalArgumentException" "java/lang/IllegalArgumentException"]
/-- the texts: where they stand in the pools -/
def gTxt : List (String × Nat × String) := [("ToeplitzLab", 83, "there are not so many bytes"), ("ToeplitzLab", 94, "the text has an error"), ("ToeplitzLab", 323, "there is no system"), ("ToeplitzLab", 331, "there is no such diagonal"), ("ToeplitzLab", 325, "there is no such row or column"), ("ToeplitzLab", 333, "there is no such size"), ("ToeplitzLab", 344, "there is no such step"), ("ToeplitzLab", 337, "a number is out of its range"), ("ToeplitzLab", 327, "there is no such row or column behind the step"), ("ToeplitzLab", 192, "there is no such pair"), ("ToeplitzLab", 201, "the matrix is not regular"), ("ToeplitzLab", 209, "the matrix is regular"), ("ToeplitzLab", 220, "there is no such digit"), ("ToeplitzLab", 339, "there is no fraction"), ("ToeplitzLab", 329, "there is no such row or column of the circulant"), ("ToeplitzLab", 273, "there is no such entry"), ("ToeplitzLab", 275, "there is no such property"), ("ToeplitzLab", 289, "this is none of the primes"), ("ToeplitzLab", 291, "the system has its greatest size"), ("ToeplitzLab", 293, "the system has its smallest size"), ("ToeplitzLab", 295, "there is no room for a digit"), ("ToeplitzLab", 301, "the number of lifts is out of its range"), ("ToeplitzLab", 312, "there is nothing to undo"), ("ToeplitzLab", 335, "there is no such slot"), ("ToeplitzLab", 321, "nothing is saved there")]
/-- the words that are looked for: where they stand in the pools, and their numbers -/
def gTx2 : List (String × Nat × String × Nat) := [("ToeplitzLab$Input", 76, "toeplitz", 0), ("ToeplitzLab$Input", 92, "prime", 1), ("ToeplitzLab$Input", 100, "diagonal", 2), ("ToeplitzLab$Input", 109, "band", 3), ("ToeplitzLab$Input", 111, "side", 4), ("ToeplitzLab$Input", 121, "probe", 5), ("ToeplitzLabModel", 151, "toeplitz", 0), ("ToeplitzLabModel", 160, "prime", 1), ("ToeplitzLabModel", 165, "diagonal", 2), ("ToeplitzLabModel", 170, "band", 3), ("ToeplitzLabModel", 175, "side", 4), ("ToeplitzLabModel", 181, "probe", 5)]
def gTl : List Nat := [8, 5, 8, 4, 4, 5]
def gTb : List (List Int32) := [[116, 111, 101, 112, 108, 105, 116, 122], [112, 114, 105, 109, 101], [100, 105, 97, 103, 111, 110, 97, 108], [98, 97, 110, 100], [115, 105, 100, 101], [112, 114, 111, 98, 101]]
def gxn (k : Nat) : String := match k with
  | 0 => "java/lang/IllegalStateException"
  | 1 => "java/lang/IndexOutOfBoundsException"
  | _ => "java/lang/IllegalArgumentException"
/-- what is known of the tables and of what stood before -/
def gEv (E : gEn) (U : State) (H : Heap) : Prop :=
  va_K (gD E) vwCl (gtys E) U ∧ (∀ w ∈ gNst, va_Nw w U) ∧
  vx_Zq Bundle.tN "UNASSIGNED_STACK" Bundle.steD (gA E) U H ∧ vx_Zq Bundle.tN "SUPPRESSED_SENTINEL" Bundle.listD (gA E) U H ∧
  va_Z "ToeplitzLab" "PRIMES" "[I" (.ref (gax E (1, 0, 0))) (gA E) U H ∧ va_T .int (gax E (1, 0, 0)) 11 (fun j => .int (gprime j)) (gA E) U H ∧
  va_X (gax E (0, 0, 0)) (gL E) (gXs E) U H ∧ (¬ gA E (gax E (0, 0, 0)) ∧ gax E (0, 0, 0) < H.size) ∧
  (∀ q ∈ gTxt, ∃ a, vk_R q.1 q.2.1 q.2.2 a U) ∧ (∀ q ∈ gTx2, vk_R q.1 q.2.1 q.2.2.1 (gax E (2, q.2.2.2, 0)) U) ∧
  vk_S 6 gTl gTb (fun k => gax E (2, k, 0)) (fun k => gax E (2, k, 1)) (gA E) U H ∧ va_Z "java/lang/String" "COMPACT_STRINGS" "Z" (.int 1) (gA E) U H ∧
  va_Zq "jdk/internal/util/Preconditions" "SIOOBE_FORMATTER" "Ljava/util/function/BiFunction;" (gA E) U H ∧
  (∀ k k2 : Nat, k < 3 → k2 < 3 → k ≠ k2 → va_Nc (gxn k) (gxn k2) U) ∧
  (gl E).stackTraces = false ∧ gB0 E ≤ H.size
def gout (y : Nat) (ad : gR → Nat) (v : gV) : Option Value := match hr y with
  | none => none
  | some _ => some (gcv ad v)
def gQc (E : gEn) (y : Nat) (ad0 : gR → Nat) (Bs : gB) (Q : gQt) : Array Value → State → Outcome → State → Prop := fun _ st o t =>
  (∃ (v : gV) (I : gI) (J : gJ) (B : gB) (ad : gR → Nat), o = .returned (gout y ad v) ∧ Q v I J B ∧ gRep E ad I J B t.heap ∧ gExt ad0 Bs ad ∧ gLe Bs B ∧ gVv B v) ∧ va_F (gA E) st t
def gXc (E : gEn) (ad0 : gR → Nat) (Bs : gB) (X : gXt) : String → State → State → Prop := fun En st t =>
  (∃ (k : Nat) (I : gI) (J : gJ) (B : gB) (ad : gR → Nat), (k < 3 ∧ gxn k = En) ∧ X k I J B ∧ gRep E ad I J B t.heap ∧ gExt ad0 Bs ad ∧ gLe Bs B) ∧ va_F (gA E) st t
def hcw (y : Nat) : Cond := match hht y with
  | [] => Cond.code (hy y) (hb y) (hml y) (hr y)
  | hh => Cond.codeWith (hy y) (hb y) (hml y) (hr y) hh
def hws (y : Nat) : List Cond := hcw y :: gBig
/-- a method's contract: called with args over I, J, B it ends with Q, or throws with X -/
def gCm (E : gEn) (y : Nat) (ws : List Cond) (args : List gV) (I : gI) (J : gJ) (B : gB) (Q : gQt) (X : gXt) : Prop :=
  (∀ v ∈ args, gVv B v) → ∀ ad : gR → Nat, vx_Met (gl E) (hy y) ws (hrm y) (va_Pc (args.map (gcv ad)) (fun U => gEv E U U.heap ∧ gRep E ad I J B U.heap)) (gQc E y ad B Q) (gXc E ad B X) (hmc y) (hms y) (gA E)
abbrev gC (E : gEn) (y : Nat) (args : List gV) (I : gI) (J : gJ) (B : gB) (Q : gQt) (X : gXt) : Prop := gCm E y (hws y) args I J B Q X
def gCx (E : gEn) (y : Nat) (p : Program) (e : Env) (s : State) (m : MethodId) (args : Array Value) (below : List Frame) (meth : Method) (cc : Code) : Prop :=
  p.tables.exec = Jvm.exec ∧ cc.code = hb y ∧ meth.sig.returnType = hr y ∧ cc.maxLocals = hml y ∧ s.vm.findClass (hy y).cls = some m.cls ∧ (∀ w ∈ gBig, w.before args s = true) ∧ meth.locks = false ∧ gEv E s s.heap
def gSt (E : gEn) (y : Nat) (ad0 : gR → Nat) (Bs : gB) (s : State) (H : Heap) (locs : List Loc) (LS : Array Slot) (ad : gR → Nat) (ls : List (Nat × gV)) (st : List gV) (I : gI) (J : gJ) (B : gB) : Prop :=
  gRep E ad I J B H ∧ va_S (gA E) s.heap H locs ∧ lv_has LS (hml y) (ls.map (gcp ad)) ∧ gExt ad0 Bs ad ∧ gLe Bs B ∧ (∀ q ∈ ls, gVv B q.2) ∧ (∀ v ∈ st, gVv B v)
/-- from here on the method comes to its end -/
def gG (E : gEn) (y pc : Nat) (ls : List (Nat × gV)) (st : List gV) (I : gI) (J : gJ) (B : gB) (c w : Nat) (Q : gQt) (X : gXt) : Prop :=
  c ≤ hmc y → w ≤ hms y → ∀ (p : Program) (e : Env) (s : State) (m : MethodId) (args : Array Value) (below : List Frame) (meth : Method) (cc : Code) (ad0 : gR → Nat) (Bs : gB), gCx E y p e s m args below meth cc → cc.exceptionTable.toList = tableOf (hht y) →
    ∀ (H : Heap) (locs : List Loc) (LS : Array Slot) (ad : gR → Nat), gSt E y ad0 Bs s H locs LS ad ls st I J B →
      W p (gl E) e (hrm y) s m args below meth cc H locs c w (vx_MQ below (gQc E y ad0 Bs Q) (gXc E ad0 Bs X) args s (hmc y) (hms y) (gA E)) (F0 m pc LS (st.map (gcv ad)))
end
section
theorem gNst_warm {w : Cond} (hw : w ∈ gNst) {s U : State} (hW : s.WarmedH U.vm) (h : va_Nw w s) : va_Nw w U := by
  simp only [gNst, List.mem_cons, List.not_mem_nil, or_false] at hw
  rcases hw with rfl | rfl | rfl | rfl | rfl | rfl | rfl | rfl | rfl | rfl | rfl | rfl | rfl
  · exact va_Nw.warmF hW h
  · exact va_Nw.warmM hW h
  · exact va_Nw.warmM hW h
  · exact va_Nw.warmM hW h
  · exact va_Nw.warmM hW h
  · exact va_Nw.warmM hW h
  · exact va_Nw.warmM hW h
  · exact va_Nw.warmD hW h
  · exact va_Nw.warmD hW h
  · exact va_Nw.warmD hW h
  · exact va_Nw.warmC hW h
  · exact va_Nw.warmC hW h
  · exact va_Nw.warmC hW h
/-- what is known goes on -/
theorem gEv.to {E : gEn} {s U : State} {H H1 : Heap} (hW : s.WarmedH U.vm) (h : gEv E s H) (hz : H.size ≤ H1.size) (hq : ∀ a : Nat, a < H.size → ¬ gA E a → H1[a]? = H[a]?) : gEv E U H1 := by
  obtain ⟨h1, h2, h3, h4, h5, h6, h7, ⟨h8, h9⟩, h10, h11, h12, h13, h14, h17, h15, h16⟩ := h
  have hv := hW.alike
  exact ⟨h1.moved hv, fun w hw => gNst_warm hw hW (h2 w hw), (h3.moved hv).kept hq, (h4.moved hv).kept hq, (h5.moved hv).kept hq, (h6.moved hv).kept hq,
    (h7.moved hv).kept (hq _ h9 h8), ⟨h8, Nat.lt_of_lt_of_le h9 hz⟩, fun q hq => (h10 q hq).imp fun a ha => ha.warm hW, fun q hq => (h11 q hq).warm hW,
    (h12.moved hv).kept hq, (h13.moved hv).kept hq, (h14.moved hv).kept hq, fun k k2 hk hk2 hn => (h17 k k2 hk hk2 hn).moved hv, h15, Nat.le_trans h16 hz⟩
section GP
variable {E : gEn} {y pc : Nat} {ls : List (Nat × gV)} {st r : List gV} {I : gI} {J : gJ} {B : gB} {c w : Nat} {Q : gQt} {X : gXt}
theorem gSt.tk {ad0 : gR → Nat} {Bs : gB} {s : State} {H : Heap} {locs : List Loc} {LS : Array Slot} {ad : gR → Nat} {st2 : List gV} (h : gSt E y ad0 Bs s H locs LS ad ls st I J B) (hv : ∀ v ∈ st2, gVv B v) : gSt E y ad0 Bs s H locs LS ad ls st2 I J B := ⟨h.1, h.2.1, h.2.2.1, h.2.2.2.1, h.2.2.2.2.1, h.2.2.2.2.2.1, hv⟩
theorem gSt.vs {ad0 : gR → Nat} {Bs : gB} {s : State} {H : Heap} {locs : List Loc} {LS : Array Slot} {ad : gR → Nat} (h : gSt E y ad0 Bs s H locs LS ad ls st I J B) : ∀ v ∈ st, gVv B v := h.2.2.2.2.2.2
theorem gvs_n {z : Value} (h : ∀ v ∈ r, gVv B v) : ∀ v ∈ (.inl z :: r : List gV), gVv B v := List.forall_mem_cons.mpr ⟨trivial, h⟩
theorem gvs_d {z : gV} (h : ∀ v ∈ (z :: r), gVv B v) : ∀ v ∈ r, gVv B v := (List.forall_mem_cons.mp h).2
theorem gvs_h {z : gV} (h : ∀ v ∈ (z :: r), gVv B v) : gVv B z := (List.forall_mem_cons.mp h).1
theorem gvs_c {z : gV} (h0 : gVv B z) (h : ∀ v ∈ r, gVv B v) : ∀ v ∈ (z :: r), gVv B v := List.forall_mem_cons.mpr ⟨h0, h⟩
theorem gp_iadd {x : Int32} {z : Int32} (hd : decode (hb y) pc = .ok (.iadd, 1)) (k : gG E y (pc + 1) ls (.inl (.int (x + z)) :: r) I J B c w Q X) : gG E y pc ls (.inl (.int z) :: .inl (.int x) :: r) I J B c w Q X := by
  intro hc hw p e s m args below meth cc ad0 Bs hC hT H locs LS ad hS
  exact lv_iadd hC.1 hC.2.1 hd (k hc hw p e s m args below meth cc ad0 Bs hC hT H locs LS ad (hS.tk (gvs_n (gvs_d (gvs_d (hS.vs))))))
theorem gp_isub {x : Int32} {z : Int32} (hd : decode (hb y) pc = .ok (.isub, 1)) (k : gG E y (pc + 1) ls (.inl (.int (x - z)) :: r) I J B c w Q X) : gG E y pc ls (.inl (.int z) :: .inl (.int x) :: r) I J B c w Q X := by
  intro hc hw p e s m args below meth cc ad0 Bs hC hT H locs LS ad hS
  exact lv_isub hC.1 hC.2.1 hd (k hc hw p e s m args below meth cc ad0 Bs hC hT H locs LS ad (hS.tk (gvs_n (gvs_d (gvs_d (hS.vs))))))
theorem gp_imul {x : Int32} {z : Int32} (hd : decode (hb y) pc = .ok (.imul, 1)) (k : gG E y (pc + 1) ls (.inl (.int (x * z)) :: r) I J B c w Q X) : gG E y pc ls (.inl (.int z) :: .inl (.int x) :: r) I J B c w Q X := by
  intro hc hw p e s m args below meth cc ad0 Bs hC hT H locs LS ad hS
  exact lv_imul hC.1 hC.2.1 hd (k hc hw p e s m args below meth cc ad0 Bs hC hT H locs LS ad (hS.tk (gvs_n (gvs_d (gvs_d (hS.vs))))))
theorem gp_iand {x : Int32} {z : Int32} (hd : decode (hb y) pc = .ok (.iand, 1)) (k : gG E y (pc + 1) ls (.inl (.int (x &&& z)) :: r) I J B c w Q X) : gG E y pc ls (.inl (.int z) :: .inl (.int x) :: r) I J B c w Q X := by
  intro hc hw p e s m args below meth cc ad0 Bs hC hT H locs LS ad hS
  exact lv_iand hC.1 hC.2.1 hd (k hc hw p e s m args below meth cc ad0 Bs hC hT H locs LS ad (hS.tk (gvs_n (gvs_d (gvs_d (hS.vs))))))
theorem gp_ior {x : Int32} {z : Int32} (hd : decode (hb y) pc = .ok (.ior, 1)) (k : gG E y (pc + 1) ls (.inl (.int (x ||| z)) :: r) I J B c w Q X) : gG E y pc ls (.inl (.int z) :: .inl (.int x) :: r) I J B c w Q X := by
  intro hc hw p e s m args below meth cc ad0 Bs hC hT H locs LS ad hS
  exact lv_ior hC.1 hC.2.1 hd (k hc hw p e s m args below meth cc ad0 Bs hC hT H locs LS ad (hS.tk (gvs_n (gvs_d (gvs_d (hS.vs))))))
theorem gp_ixor {x : Int32} {z : Int32} (hd : decode (hb y) pc = .ok (.ixor, 1)) (k : gG E y (pc + 1) ls (.inl (.int (x ^^^ z)) :: r) I J B c w Q X) : gG E y pc ls (.inl (.int z) :: .inl (.int x) :: r) I J B c w Q X := by
  intro hc hw p e s m args below meth cc ad0 Bs hC hT H locs LS ad hS
  exact lv_ixor hC.1 hC.2.1 hd (k hc hw p e s m args below meth cc ad0 Bs hC hT H locs LS ad (hS.tk (gvs_n (gvs_d (gvs_d (hS.vs))))))
theorem gp_ishl {x : Int32} {z : Int32} (hd : decode (hb y) pc = .ok (.ishl, 1)) (k : gG E y (pc + 1) ls (.inl (.int (x <<< (z &&& 31))) :: r) I J B c w Q X) : gG E y pc ls (.inl (.int z) :: .inl (.int x) :: r) I J B c w Q X := by
  intro hc hw p e s m args below meth cc ad0 Bs hC hT H locs LS ad hS
  exact lv_ishl hC.1 hC.2.1 hd (k hc hw p e s m args below meth cc ad0 Bs hC hT H locs LS ad (hS.tk (gvs_n (gvs_d (gvs_d (hS.vs))))))
theorem gp_ishr {x : Int32} {z : Int32} (hd : decode (hb y) pc = .ok (.ishr, 1)) (k : gG E y (pc + 1) ls (.inl (.int (x >>> (z &&& 31))) :: r) I J B c w Q X) : gG E y pc ls (.inl (.int z) :: .inl (.int x) :: r) I J B c w Q X := by
  intro hc hw p e s m args below meth cc ad0 Bs hC hT H locs LS ad hS
  exact lv_ishr hC.1 hC.2.1 hd (k hc hw p e s m args below meth cc ad0 Bs hC hT H locs LS ad (hS.tk (gvs_n (gvs_d (gvs_d (hS.vs))))))
theorem gp_idiv {x : Int32} {z : Int32} (hd : decode (hb y) pc = .ok (.idiv, 1)) (h0 : ¬ z = 0) (k : gG E y (pc + 1) ls (.inl (.int (x / z)) :: r) I J B c w Q X) : gG E y pc ls (.inl (.int z) :: .inl (.int x) :: r) I J B c w Q X := by
  intro hc hw p e s m args below meth cc ad0 Bs hC hT H locs LS ad hS
  exact lv_idiv hC.1 hC.2.1 hd h0 (k hc hw p e s m args below meth cc ad0 Bs hC hT H locs LS ad (hS.tk (gvs_n (gvs_d (gvs_d (hS.vs))))))
theorem gp_irem {x : Int32} {z : Int32} (hd : decode (hb y) pc = .ok (.irem, 1)) (h0 : ¬ z = 0) (k : gG E y (pc + 1) ls (.inl (.int (x - x / z * z)) :: r) I J B c w Q X) : gG E y pc ls (.inl (.int z) :: .inl (.int x) :: r) I J B c w Q X := by
  intro hc hw p e s m args below meth cc ad0 Bs hC hT H locs LS ad hS
  exact lv_irem hC.1 hC.2.1 hd h0 (k hc hw p e s m args below meth cc ad0 Bs hC hT H locs LS ad (hS.tk (gvs_n (gvs_d (gvs_d (hS.vs))))))
theorem gp_ladd {x : Int64} {z : Int64} (hd : decode (hb y) pc = .ok (.ladd, 1)) (k : gG E y (pc + 1) ls (.inl (.long (x + z)) :: r) I J B c w Q X) : gG E y pc ls (.inl (.long z) :: .inl (.long x) :: r) I J B c w Q X := by
  intro hc hw p e s m args below meth cc ad0 Bs hC hT H locs LS ad hS
  exact lv_ladd hC.1 hC.2.1 hd (k hc hw p e s m args below meth cc ad0 Bs hC hT H locs LS ad (hS.tk (gvs_n (gvs_d (gvs_d (hS.vs))))))
theorem gp_lsub {x : Int64} {z : Int64} (hd : decode (hb y) pc = .ok (.lsub, 1)) (k : gG E y (pc + 1) ls (.inl (.long (x - z)) :: r) I J B c w Q X) : gG E y pc ls (.inl (.long z) :: .inl (.long x) :: r) I J B c w Q X := by
  intro hc hw p e s m args below meth cc ad0 Bs hC hT H locs LS ad hS
  exact lv_lsub hC.1 hC.2.1 hd (k hc hw p e s m args below meth cc ad0 Bs hC hT H locs LS ad (hS.tk (gvs_n (gvs_d (gvs_d (hS.vs))))))
theorem gp_lmul {x : Int64} {z : Int64} (hd : decode (hb y) pc = .ok (.lmul, 1)) (k : gG E y (pc + 1) ls (.inl (.long (x * z)) :: r) I J B c w Q X) : gG E y pc ls (.inl (.long z) :: .inl (.long x) :: r) I J B c w Q X := by
  intro hc hw p e s m args below meth cc ad0 Bs hC hT H locs LS ad hS
  exact lv_lmul hC.1 hC.2.1 hd (k hc hw p e s m args below meth cc ad0 Bs hC hT H locs LS ad (hS.tk (gvs_n (gvs_d (gvs_d (hS.vs))))))
theorem gp_ldiv {x : Int64} {z : Int64} (hd : decode (hb y) pc = .ok (.ldiv, 1)) (h0 : ¬ z = 0) (k : gG E y (pc + 1) ls (.inl (.long (x / z)) :: r) I J B c w Q X) : gG E y pc ls (.inl (.long z) :: .inl (.long x) :: r) I J B c w Q X := by
  intro hc hw p e s m args below meth cc ad0 Bs hC hT H locs LS ad hS
  exact lv_ldiv hC.1 hC.2.1 hd h0 (k hc hw p e s m args below meth cc ad0 Bs hC hT H locs LS ad (hS.tk (gvs_n (gvs_d (gvs_d (hS.vs))))))
theorem gp_lrem {x : Int64} {z : Int64} (hd : decode (hb y) pc = .ok (.lrem, 1)) (h0 : ¬ z = 0) (k : gG E y (pc + 1) ls (.inl (.long (x - x / z * z)) :: r) I J B c w Q X) : gG E y pc ls (.inl (.long z) :: .inl (.long x) :: r) I J B c w Q X := by
  intro hc hw p e s m args below meth cc ad0 Bs hC hT H locs LS ad hS
  exact lv_lrem hC.1 hC.2.1 hd h0 (k hc hw p e s m args below meth cc ad0 Bs hC hT H locs LS ad (hS.tk (gvs_n (gvs_d (gvs_d (hS.vs))))))
theorem gp_ineg {x : Int32} (hd : decode (hb y) pc = .ok (.ineg, 1)) (k : gG E y (pc + 1) ls (.inl (.int (-x)) :: r) I J B c w Q X) : gG E y pc ls (.inl (.int x) :: r) I J B c w Q X := by
  intro hc hw p e s m args below meth cc ad0 Bs hC hT H locs LS ad hS
  exact lv_ineg hC.1 hC.2.1 hd (k hc hw p e s m args below meth cc ad0 Bs hC hT H locs LS ad (hS.tk (gvs_n (gvs_d (hS.vs)))))
theorem gp_lneg {x : Int64} (hd : decode (hb y) pc = .ok (.lneg, 1)) (k : gG E y (pc + 1) ls (.inl (.long (-x)) :: r) I J B c w Q X) : gG E y pc ls (.inl (.long x) :: r) I J B c w Q X := by
  intro hc hw p e s m args below meth cc ad0 Bs hC hT H locs LS ad hS
  exact lv_lneg hC.1 hC.2.1 hd (k hc hw p e s m args below meth cc ad0 Bs hC hT H locs LS ad (hS.tk (gvs_n (gvs_d (hS.vs)))))
theorem gp_lcmp {x : Int64} {z : Int64} (hd : decode (hb y) pc = .ok (.lcmp, 1)) (k : gG E y (pc + 1) ls (.inl (.int (lg_cmp x z)) :: r) I J B c w Q X) : gG E y pc ls (.inl (.long z) :: .inl (.long x) :: r) I J B c w Q X := by
  intro hc hw p e s m args below meth cc ad0 Bs hC hT H locs LS ad hS
  exact W.lcmp hC.1 hC.2.1 hd (k hc hw p e s m args below meth cc ad0 Bs hC hT H locs LS ad (hS.tk (gvs_n (gvs_d (gvs_d (hS.vs))))))
theorem gp_i2l {x : Int32} (hd : decode (hb y) pc = .ok (.i2l, 1)) (k : gG E y (pc + 1) ls (.inl (.long (x.toInt64)) :: r) I J B c w Q X) : gG E y pc ls (.inl (.int x) :: r) I J B c w Q X := by
  intro hc hw p e s m args below meth cc ad0 Bs hC hT H locs LS ad hS
  exact lv_i2l hC.1 hC.2.1 hd rfl (k hc hw p e s m args below meth cc ad0 Bs hC hT H locs LS ad (hS.tk (gvs_n (gvs_d (hS.vs)))))
theorem gp_l2i {x : Int64} (hd : decode (hb y) pc = .ok (.l2i, 1)) (k : gG E y (pc + 1) ls (.inl (.int (x.toInt32)) :: r) I J B c w Q X) : gG E y pc ls (.inl (.long x) :: r) I J B c w Q X := by
  intro hc hw p e s m args below meth cc ad0 Bs hC hT H locs LS ad hS
  exact lv_l2i hC.1 hC.2.1 hd rfl (k hc hw p e s m args below meth cc ad0 Bs hC hT H locs LS ad (hS.tk (gvs_n (gvs_d (hS.vs)))))
theorem gp_i2b {x : Int32} (hd : decode (hb y) pc = .ok (.i2b, 1)) (k : gG E y (pc + 1) ls (.inl (.int (x.toInt8.toInt32)) :: r) I J B c w Q X) : gG E y pc ls (.inl (.int x) :: r) I J B c w Q X := by
  intro hc hw p e s m args below meth cc ad0 Bs hC hT H locs LS ad hS
  exact lv_i2b hC.1 hC.2.1 hd rfl (k hc hw p e s m args below meth cc ad0 Bs hC hT H locs LS ad (hS.tk (gvs_n (gvs_d (hS.vs)))))
theorem gp_l2d {x : Int64} (hd : decode (hb y) pc = .ok (.l2d, 1)) (k : gG E y (pc + 1) ls (.inl (.double (FP.l2d x)) :: r) I J B c w Q X) : gG E y pc ls (.inl (.long x) :: r) I J B c w Q X := by
  intro hc hw p e s m args below meth cc ad0 Bs hC hT H locs LS ad hS
  exact lv_l2d hC.1 hC.2.1 hd (k hc hw p e s m args below meth cc ad0 Bs hC hT H locs LS ad (hS.tk (gvs_n (gvs_d (hS.vs)))))
theorem gp_ddiv {x : UInt64} {z : UInt64} (hd : decode (hb y) pc = .ok (.ddiv, 1)) (h0 : vf_n64 (FP.ddiv x z)) (k : gG E y (pc + 1) ls (.inl (.double (FP.ddiv x z)) :: r) I J B c w Q X) : gG E y pc ls (.inl (.double z) :: .inl (.double x) :: r) I J B c w Q X := by
  intro hc hw p e s m args below meth cc ad0 Bs hC hT H locs LS ad hS
  exact lv_ddiv hC.1 hC.2.1 hd h0 (k hc hw p e s m args below meth cc ad0 Bs hC hT H locs LS ad (hS.tk (gvs_n (gvs_d (gvs_d (hS.vs))))))
theorem gp_dcmp {x : UInt64} {z : UInt64} {o : CmpOp} (hd : decode (hb y) pc = .ok (.dcmp o, 1)) (k : gG E y (pc + 1) ls (.inl (.int (Op.cmpValue (FP.dcmp x z) o)) :: r) I J B c w Q X) : gG E y pc ls (.inl (.double z) :: .inl (.double x) :: r) I J B c w Q X := by
  intro hc hw p e s m args below meth cc ad0 Bs hC hT H locs LS ad hS
  exact lv_dcmp hC.1 hC.2.1 hd (k hc hw p e s m args below meth cc ad0 Bs hC hT H locs LS ad (hS.tk (gvs_n (gvs_d (gvs_d (hS.vs))))))
theorem gp_iconst  {n : Int} {x : Int32} (hd : decode (hb y) pc = .ok (.iconst n, 1)) (h0 : Int32.ofInt n = x) (k : gG E y (pc + 1) ls (.inl (.int (x)) :: r) I J B c w Q X) : gG E y pc ls (r) I J B c w Q X := by
  intro hc hw p e s m args below meth cc ad0 Bs hC hT H locs LS ad hS
  exact lv_iconst hC.1 hC.2.1 hd h0 (k hc hw p e s m args below meth cc ad0 Bs hC hT H locs LS ad (hS.tk (gvs_n (hS.vs))))
theorem gp_bipush  {n : Int} {x : Int32} (hd : decode (hb y) pc = .ok (.bipush n, 2)) (h0 : (Int8.ofInt n).toInt32 = x) (k : gG E y (pc + 2) ls (.inl (.int (x)) :: r) I J B c w Q X) : gG E y pc ls (r) I J B c w Q X := by
  intro hc hw p e s m args below meth cc ad0 Bs hC hT H locs LS ad hS
  exact lv_bipush hC.1 hC.2.1 hd h0 (k hc hw p e s m args below meth cc ad0 Bs hC hT H locs LS ad (hS.tk (gvs_n (hS.vs))))
theorem gp_sipush  {n : Int} {x : Int32} (hd : decode (hb y) pc = .ok (.sipush n, 3)) (h0 : (Int16.ofInt n).toInt32 = x) (k : gG E y (pc + 3) ls (.inl (.int (x)) :: r) I J B c w Q X) : gG E y pc ls (r) I J B c w Q X := by
  intro hc hw p e s m args below meth cc ad0 Bs hC hT H locs LS ad hS
  exact lv_sipush hC.1 hC.2.1 hd h0 (k hc hw p e s m args below meth cc ad0 Bs hC hT H locs LS ad (hS.tk (gvs_n (hS.vs))))
theorem gp_lconst  {n : Fin 2} {x : Int64} (hd : decode (hb y) pc = .ok (.lconst n, 1)) (h0 : Int64.ofNat (n : Nat) = x) (k : gG E y (pc + 1) ls (.inl (.long (x)) :: r) I J B c w Q X) : gG E y pc ls (r) I J B c w Q X := by
  intro hc hw p e s m args below meth cc ad0 Bs hC hT H locs LS ad hS
  exact lv_lconst hC.1 hC.2.1 hd h0 (k hc hw p e s m args below meth cc ad0 Bs hC hT H locs LS ad (hS.tk (gvs_n (hS.vs))))
theorem gp_dconst  (hd : decode (hb y) pc = .ok (.dconst 0, 1)) (k : gG E y (pc + 1) ls (.inl (.double (FP.dconst0)) :: r) I J B c w Q X) : gG E y pc ls (r) I J B c w Q X := by
  intro hc hw p e s m args below meth cc ad0 Bs hC hT H locs LS ad hS
  exact lv_dconst0 hC.1 hC.2.1 hd (k hc hw p e s m args below meth cc ad0 Bs hC hT H locs LS ad (hS.tk (gvs_n (hS.vs))))
theorem gp_null (hd : decode (hb y) pc = .ok (.aconst_null, 1)) (k : gG E y (pc + 1) ls (.inl .null :: r) I J B c w Q X) : gG E y pc ls r I J B c w Q X := by
  intro hc hw p e s m args below meth cc ad0 Bs hC hT H locs LS ad hS
  exact lv_null hC.1 hC.2.1 hd (k hc hw p e s m args below meth cc ad0 Bs hC hT H locs LS ad (hS.tk (gvs_n hS.vs)))
theorem gp_ldc2 {n : Nat} {x : Int64} (hd : decode (hb y) pc = .ok (.ldc2_w n, 3)) (h0 : Cond.constantLong (hy y).cls n x ∈ gBig) (k : gG E y (pc + 3) ls (.inl (.long x) :: r) I J B c w Q X) : gG E y pc ls r I J B c w Q X := by
  intro hc hw p e s m args below meth cc ad0 Bs hC hT H locs LS ad hS
  exact lv_ldc2 hC.1 hC.2.1 hC.2.2.2.2.1 (hC.2.2.2.2.2.1 _ h0) hd (k hc hw p e s m args below meth cc ad0 Bs hC hT H locs LS ad (hS.tk (gvs_n hS.vs)))
theorem gTx2_lt : ∀ q ∈ gTx2, q.2.2.2 < 6 := by decide
theorem gp_ldcS {n k0 : Nat} {tx : String} (hd : decode (hb y) pc = .ok (.ldc n, 2)) (h0 : ((hy y).cls, n, tx, k0) ∈ gTx2) (k : gG E y (pc + 2) ls (.inr (2, k0, 0) :: r) I J B c w Q X) : gG E y pc ls r I J B c w Q X := by
  intro hc hw p e s m args below meth cc ad0 Bs hC hT H locs LS ad hS
  obtain ⟨hx, hb, hr, hml, hown, hts, hlk, hE⟩ := hC
  have hq := hE.2.2.2.2.2.2.2.2.2.1 _ h0
  have e2 : ad (2, k0, 0) = gax E (2, k0, 0) := hS.1.2.2.1 _ (Nat.le_refl 2)
  refine va_ldcS hx hb hown hq hd ?_
  have kk := k hc hw p e s m args below meth cc ad0 Bs ⟨hx, hb, hr, hml, hown, hts, hlk, hE⟩ hT H locs LS ad (hS.tk (gvs_c (Or.inr (Or.inr (Or.inl ⟨rfl, gTx2_lt _ h0, rfl⟩))) hS.vs))
  rw [List.map_cons] at kk
  rw [show gcv ad (.inr (2, k0, 0)) = .ref (gax E (2, k0, 0)) from congrArg Value.ref e2] at kk
  exact kk
theorem gcat_cv (ad : gR → Nat) (v : gV) : (gcv ad v).category = gcat v := by cases v <;> rfl
theorem gp_pop {v : gV} (h0 : gcat v = 1) (hd : decode (hb y) pc = .ok (.pop, 1)) (k : gG E y (pc + 1) ls r I J B c w Q X) : gG E y pc ls (v :: r) I J B c w Q X := by
  intro hc hw p e s m args below meth cc ad0 Bs hC hT H locs LS ad hS
  exact lv_pop hC.1 hC.2.1 hd ((gcat_cv ad v).trans h0) (k hc hw p e s m args below meth cc ad0 Bs hC hT H locs LS ad (hS.tk (gvs_d hS.vs)))
theorem gp_dup {v : gV} (h0 : gcat v = 1) (hd : decode (hb y) pc = .ok (.dup, 1)) (k : gG E y (pc + 1) ls (v :: v :: r) I J B c w Q X) : gG E y pc ls (v :: r) I J B c w Q X := by
  intro hc hw p e s m args below meth cc ad0 Bs hC hT H locs LS ad hS
  exact lv_dup hC.1 hC.2.1 hd ((gcat_cv ad v).trans h0) (k hc hw p e s m args below meth cc ad0 Bs hC hT H locs LS ad (hS.tk (gvs_c (gvs_h hS.vs) hS.vs)))
theorem gp_dup2 {v : gV} (h0 : gcat v = 2) (hd : decode (hb y) pc = .ok (.dup2, 1)) (k : gG E y (pc + 1) ls (v :: v :: r) I J B c w Q X) : gG E y pc ls (v :: r) I J B c w Q X := by
  intro hc hw p e s m args below meth cc ad0 Bs hC hT H locs LS ad hS
  exact lv_dup2_2 hC.1 hC.2.1 hd ((gcat_cv ad v).trans h0) (k hc hw p e s m args below meth cc ad0 Bs hC hT H locs LS ad (hS.tk (gvs_c (gvs_h hS.vs) hS.vs)))
theorem gp_dup2b {v u : gV} (h0 : gcat v = 1) (h1 : gcat u = 1) (hd : decode (hb y) pc = .ok (.dup2, 1)) (k : gG E y (pc + 1) ls (v :: u :: v :: u :: r) I J B c w Q X) : gG E y pc ls (v :: u :: r) I J B c w Q X := by
  intro hc hw p e s m args below meth cc ad0 Bs hC hT H locs LS ad hS
  exact lv_dup2_11 hC.1 hC.2.1 hd ((gcat_cv ad v).trans h0) ((gcat_cv ad u).trans h1) (k hc hw p e s m args below meth cc ad0 Bs hC hT H locs LS ad (hS.tk (gvs_c (gvs_h hS.vs) (gvs_c (gvs_h (gvs_d hS.vs)) hS.vs))))
theorem gp_goto {off : Int} {t : Nat} (hd : decode (hb y) pc = .ok (.goto off, 3)) (ht : (pc : Int) + off = (t : Int)) (k : gG E y t ls st I J B c w Q X) : gG E y pc ls st I J B c w Q X := by
  intro hc hw p e s m args below meth cc ad0 Bs hC hT H locs LS ad hS
  exact lv_goto hC.1 hC.2.1 hd ht (k hc hw p e s m args below meth cc ad0 Bs hC hT H locs LS ad hS)
theorem gp_if_eq {x : Int32} {off : Int} {t : Nat} (hd : decode (hb y) pc = .ok (.ifCond .eq off, 3)) (ht : (pc : Int) + off = (t : Int)) (kt : x = 0 → gG E y t ls r I J B c w Q X) (kf : ¬ (x = 0) → gG E y (pc + 3) ls r I J B c w Q X) : gG E y pc ls (.inl (.int x) :: r) I J B c w Q X := by
  intro hc hw p e s m args below meth cc ad0 Bs hC hT H locs LS ad hS
  exact lv_if_eq hC.1 hC.2.1 hd ht (fun h => kt h hc hw p e s m args below meth cc ad0 Bs hC hT H locs LS ad (hS.tk (gvs_d hS.vs))) (fun h => kf h hc hw p e s m args below meth cc ad0 Bs hC hT H locs LS ad (hS.tk (gvs_d hS.vs)))
theorem gp_if_ne {x : Int32} {off : Int} {t : Nat} (hd : decode (hb y) pc = .ok (.ifCond .ne off, 3)) (ht : (pc : Int) + off = (t : Int)) (kt : ¬ x = 0 → gG E y t ls r I J B c w Q X) (kf : x = 0 → gG E y (pc + 3) ls r I J B c w Q X) : gG E y pc ls (.inl (.int x) :: r) I J B c w Q X := by
  intro hc hw p e s m args below meth cc ad0 Bs hC hT H locs LS ad hS
  exact lv_if_ne hC.1 hC.2.1 hd ht (fun h => kt h hc hw p e s m args below meth cc ad0 Bs hC hT H locs LS ad (hS.tk (gvs_d hS.vs))) (fun h => kf h hc hw p e s m args below meth cc ad0 Bs hC hT H locs LS ad (hS.tk (gvs_d hS.vs)))
theorem gp_if_lt {x : Int32} {off : Int} {t : Nat} (hd : decode (hb y) pc = .ok (.ifCond .lt off, 3)) (ht : (pc : Int) + off = (t : Int)) (kt : x < 0 → gG E y t ls r I J B c w Q X) (kf : ¬ (x < 0) → gG E y (pc + 3) ls r I J B c w Q X) : gG E y pc ls (.inl (.int x) :: r) I J B c w Q X := by
  intro hc hw p e s m args below meth cc ad0 Bs hC hT H locs LS ad hS
  exact lv_if_lt hC.1 hC.2.1 hd ht (fun h => kt h hc hw p e s m args below meth cc ad0 Bs hC hT H locs LS ad (hS.tk (gvs_d hS.vs))) (fun h => kf h hc hw p e s m args below meth cc ad0 Bs hC hT H locs LS ad (hS.tk (gvs_d hS.vs)))
theorem gp_if_ge {x : Int32} {off : Int} {t : Nat} (hd : decode (hb y) pc = .ok (.ifCond .ge off, 3)) (ht : (pc : Int) + off = (t : Int)) (kt : 0 ≤ x → gG E y t ls r I J B c w Q X) (kf : ¬ (0 ≤ x) → gG E y (pc + 3) ls r I J B c w Q X) : gG E y pc ls (.inl (.int x) :: r) I J B c w Q X := by
  intro hc hw p e s m args below meth cc ad0 Bs hC hT H locs LS ad hS
  exact lv_if_ge hC.1 hC.2.1 hd ht (fun h => kt h hc hw p e s m args below meth cc ad0 Bs hC hT H locs LS ad (hS.tk (gvs_d hS.vs))) (fun h => kf h hc hw p e s m args below meth cc ad0 Bs hC hT H locs LS ad (hS.tk (gvs_d hS.vs)))
theorem gp_if_gt {x : Int32} {off : Int} {t : Nat} (hd : decode (hb y) pc = .ok (.ifCond .gt off, 3)) (ht : (pc : Int) + off = (t : Int)) (kt : 0 < x → gG E y t ls r I J B c w Q X) (kf : ¬ (0 < x) → gG E y (pc + 3) ls r I J B c w Q X) : gG E y pc ls (.inl (.int x) :: r) I J B c w Q X := by
  intro hc hw p e s m args below meth cc ad0 Bs hC hT H locs LS ad hS
  exact lv_if_gt hC.1 hC.2.1 hd ht (fun h => kt h hc hw p e s m args below meth cc ad0 Bs hC hT H locs LS ad (hS.tk (gvs_d hS.vs))) (fun h => kf h hc hw p e s m args below meth cc ad0 Bs hC hT H locs LS ad (hS.tk (gvs_d hS.vs)))
theorem gp_if_le {x : Int32} {off : Int} {t : Nat} (hd : decode (hb y) pc = .ok (.ifCond .le off, 3)) (ht : (pc : Int) + off = (t : Int)) (kt : x ≤ 0 → gG E y t ls r I J B c w Q X) (kf : ¬ (x ≤ 0) → gG E y (pc + 3) ls r I J B c w Q X) : gG E y pc ls (.inl (.int x) :: r) I J B c w Q X := by
  intro hc hw p e s m args below meth cc ad0 Bs hC hT H locs LS ad hS
  exact lv_if_le hC.1 hC.2.1 hd ht (fun h => kt h hc hw p e s m args below meth cc ad0 Bs hC hT H locs LS ad (hS.tk (gvs_d hS.vs))) (fun h => kf h hc hw p e s m args below meth cc ad0 Bs hC hT H locs LS ad (hS.tk (gvs_d hS.vs)))
theorem gp_icmp_eq {x z : Int32} {off : Int} {t : Nat} (hd : decode (hb y) pc = .ok (.if_icmp .eq off, 3)) (ht : (pc : Int) + off = (t : Int)) (kt : x = z → gG E y t ls r I J B c w Q X) (kf : ¬ (x = z) → gG E y (pc + 3) ls r I J B c w Q X) : gG E y pc ls (.inl (.int z) :: .inl (.int x) :: r) I J B c w Q X := by
  intro hc hw p e s m args below meth cc ad0 Bs hC hT H locs LS ad hS
  exact lv_icmp_eq hC.1 hC.2.1 hd ht (fun h => kt h hc hw p e s m args below meth cc ad0 Bs hC hT H locs LS ad (hS.tk (gvs_d (gvs_d hS.vs)))) (fun h => kf h hc hw p e s m args below meth cc ad0 Bs hC hT H locs LS ad (hS.tk (gvs_d (gvs_d hS.vs))))
theorem gp_icmp_ne {x z : Int32} {off : Int} {t : Nat} (hd : decode (hb y) pc = .ok (.if_icmp .ne off, 3)) (ht : (pc : Int) + off = (t : Int)) (kt : ¬ x = z → gG E y t ls r I J B c w Q X) (kf : x = z → gG E y (pc + 3) ls r I J B c w Q X) : gG E y pc ls (.inl (.int z) :: .inl (.int x) :: r) I J B c w Q X := by
  intro hc hw p e s m args below meth cc ad0 Bs hC hT H locs LS ad hS
  exact lv_icmp_ne hC.1 hC.2.1 hd ht (fun h => kt h hc hw p e s m args below meth cc ad0 Bs hC hT H locs LS ad (hS.tk (gvs_d (gvs_d hS.vs)))) (fun h => kf h hc hw p e s m args below meth cc ad0 Bs hC hT H locs LS ad (hS.tk (gvs_d (gvs_d hS.vs))))
theorem gp_icmp_lt {x z : Int32} {off : Int} {t : Nat} (hd : decode (hb y) pc = .ok (.if_icmp .lt off, 3)) (ht : (pc : Int) + off = (t : Int)) (kt : x < z → gG E y t ls r I J B c w Q X) (kf : ¬ (x < z) → gG E y (pc + 3) ls r I J B c w Q X) : gG E y pc ls (.inl (.int z) :: .inl (.int x) :: r) I J B c w Q X := by
  intro hc hw p e s m args below meth cc ad0 Bs hC hT H locs LS ad hS
  exact lv_icmp_lt hC.1 hC.2.1 hd ht (fun h => kt h hc hw p e s m args below meth cc ad0 Bs hC hT H locs LS ad (hS.tk (gvs_d (gvs_d hS.vs)))) (fun h => kf h hc hw p e s m args below meth cc ad0 Bs hC hT H locs LS ad (hS.tk (gvs_d (gvs_d hS.vs))))
theorem gp_icmp_ge {x z : Int32} {off : Int} {t : Nat} (hd : decode (hb y) pc = .ok (.if_icmp .ge off, 3)) (ht : (pc : Int) + off = (t : Int)) (kt : z ≤ x → gG E y t ls r I J B c w Q X) (kf : ¬ (z ≤ x) → gG E y (pc + 3) ls r I J B c w Q X) : gG E y pc ls (.inl (.int z) :: .inl (.int x) :: r) I J B c w Q X := by
  intro hc hw p e s m args below meth cc ad0 Bs hC hT H locs LS ad hS
  exact lv_icmp_ge hC.1 hC.2.1 hd ht (fun h => kt h hc hw p e s m args below meth cc ad0 Bs hC hT H locs LS ad (hS.tk (gvs_d (gvs_d hS.vs)))) (fun h => kf h hc hw p e s m args below meth cc ad0 Bs hC hT H locs LS ad (hS.tk (gvs_d (gvs_d hS.vs))))
theorem gp_icmp_gt {x z : Int32} {off : Int} {t : Nat} (hd : decode (hb y) pc = .ok (.if_icmp .gt off, 3)) (ht : (pc : Int) + off = (t : Int)) (kt : z < x → gG E y t ls r I J B c w Q X) (kf : ¬ (z < x) → gG E y (pc + 3) ls r I J B c w Q X) : gG E y pc ls (.inl (.int z) :: .inl (.int x) :: r) I J B c w Q X := by
  intro hc hw p e s m args below meth cc ad0 Bs hC hT H locs LS ad hS
  exact lv_icmp_gt hC.1 hC.2.1 hd ht (fun h => kt h hc hw p e s m args below meth cc ad0 Bs hC hT H locs LS ad (hS.tk (gvs_d (gvs_d hS.vs)))) (fun h => kf h hc hw p e s m args below meth cc ad0 Bs hC hT H locs LS ad (hS.tk (gvs_d (gvs_d hS.vs))))
theorem gp_icmp_le {x z : Int32} {off : Int} {t : Nat} (hd : decode (hb y) pc = .ok (.if_icmp .le off, 3)) (ht : (pc : Int) + off = (t : Int)) (kt : x ≤ z → gG E y t ls r I J B c w Q X) (kf : ¬ (x ≤ z) → gG E y (pc + 3) ls r I J B c w Q X) : gG E y pc ls (.inl (.int z) :: .inl (.int x) :: r) I J B c w Q X := by
  intro hc hw p e s m args below meth cc ad0 Bs hC hT H locs LS ad hS
  exact lv_icmp_le hC.1 hC.2.1 hd ht (fun h => kt h hc hw p e s m args below meth cc ad0 Bs hC hT H locs LS ad (hS.tk (gvs_d (gvs_d hS.vs)))) (fun h => kf h hc hw p e s m args below meth cc ad0 Bs hC hT H locs LS ad (hS.tk (gvs_d (gvs_d hS.vs))))
theorem gp_ifnull_r {q : gR} {off : Int} (hd : decode (hb y) pc = .ok (.ifnull off, 3)) (k : gG E y (pc + 3) ls r I J B c w Q X) : gG E y pc ls (.inr q :: r) I J B c w Q X := by
  intro hc hw p e s m args below meth cc ad0 Bs hC hT H locs LS ad hS
  exact lv_ifnull hC.1 hC.2.1 hd (k hc hw p e s m args below meth cc ad0 Bs hC hT H locs LS ad (hS.tk (gvs_d hS.vs)))
theorem gp_ifnull_n {off : Int} {t : Nat} (hd : decode (hb y) pc = .ok (.ifnull off, 3)) (ht : (pc : Int) + off = (t : Int)) (k : gG E y t ls r I J B c w Q X) : gG E y pc ls (.inl .null :: r) I J B c w Q X := by
  intro hc hw p e s m args below meth cc ad0 Bs hC hT H locs LS ad hS
  exact lv_ifnullN hC.1 hC.2.1 hd ht (k hc hw p e s m args below meth cc ad0 Bs hC hT H locs LS ad (hS.tk (gvs_d hS.vs)))
theorem gp_ifnonnull_r {q : gR} {off : Int} {t : Nat} (hd : decode (hb y) pc = .ok (.ifnonnull off, 3)) (ht : (pc : Int) + off = (t : Int)) (k : gG E y t ls r I J B c w Q X) : gG E y pc ls (.inr q :: r) I J B c w Q X := by
  intro hc hw p e s m args below meth cc ad0 Bs hC hT H locs LS ad hS
  exact lv_ifnonnull hC.1 hC.2.1 hd ht (k hc hw p e s m args below meth cc ad0 Bs hC hT H locs LS ad (hS.tk (gvs_d hS.vs)))
theorem gp_ifnonnull_n {off : Int} (hd : decode (hb y) pc = .ok (.ifnonnull off, 3)) (k : gG E y (pc + 3) ls r I J B c w Q X) : gG E y pc ls (.inl .null :: r) I J B c w Q X := by
  intro hc hw p e s m args below meth cc ad0 Bs hC hT H locs LS ad hS
  exact lv_ifnonnullN hC.1 hC.2.1 hd (k hc hw p e s m args below meth cc ad0 Bs hC hT H locs LS ad (hS.tk (gvs_d hS.vs)))
theorem glk {a : Nat} {v : gV} : ∀ {l : List (Nat × gV)}, l.lookup a = some v → (a, v) ∈ l
  | [], h => by cases h
  | (b, u) :: l, h => by
    rw [List.lookup_cons] at h
    by_cases e : a = b
    · subst e
      simp at h
      subst h
      exact List.mem_cons_self
    · rw [show (a == b) = false from by simpa using e] at h
      exact List.mem_cons_of_mem _ (glk h)
theorem gSt.ld {ad0 : gR → Nat} {Bs : gB} {s : State} {H : Heap} {locs : List Loc} {LS : Array Slot} {ad : gR → Nat} {a : Nat} {v : gV} (h : gSt E y ad0 Bs s H locs LS ad ls st I J B) (hl : ls.lookup a = some v) : LS[a]? = some (.val (gcv ad v)) ∧ gVv B v := ⟨h.2.2.1.2.2 (a, gcv ad v) (List.mem_map.mpr ⟨(a, v), glk hl, rfl⟩), h.2.2.2.2.2.1 _ (glk hl)⟩
theorem gp_iload_n {j : Fin 4} {a : Nat} {x : Int32} (hd : decode (hb y) pc = .ok (.iload_n j, 1)) (hj : (j : Nat) = a) (hl : ls.lookup a = some (.inl (.int x))) (k : gG E y (pc + 1) ls (.inl (.int x) :: r) I J B c w Q X) : gG E y pc ls r I J B c w Q X := by
  intro hc hw p e s m args below meth cc ad0 Bs hC hT H locs LS ad hS
  exact lv_iload_n hC.1 hC.2.1 hd hj (hS.ld hl).1 (k hc hw p e s m args below meth cc ad0 Bs hC hT H locs LS ad (hS.tk (gvs_n hS.vs)))
theorem gp_lload_n {j : Fin 4} {a : Nat} {x : Int64} (hd : decode (hb y) pc = .ok (.lload_n j, 1)) (hj : (j : Nat) = a) (hl : ls.lookup a = some (.inl (.long x))) (k : gG E y (pc + 1) ls (.inl (.long x) :: r) I J B c w Q X) : gG E y pc ls r I J B c w Q X := by
  intro hc hw p e s m args below meth cc ad0 Bs hC hT H locs LS ad hS
  exact lv_lload_n hC.1 hC.2.1 hd hj (hS.ld hl).1 (k hc hw p e s m args below meth cc ad0 Bs hC hT H locs LS ad (hS.tk (gvs_n hS.vs)))
theorem gp_iload {a : Nat} {x : Int32} (hd : decode (hb y) pc = .ok (.iload a, 2)) (hl : ls.lookup a = some (.inl (.int x))) (k : gG E y (pc + 2) ls (.inl (.int x) :: r) I J B c w Q X) : gG E y pc ls r I J B c w Q X := by
  intro hc hw p e s m args below meth cc ad0 Bs hC hT H locs LS ad hS
  exact lv_iload hC.1 hC.2.1 hd (hS.ld hl).1 (k hc hw p e s m args below meth cc ad0 Bs hC hT H locs LS ad (hS.tk (gvs_n hS.vs)))
theorem gp_lload {a : Nat} {x : Int64} (hd : decode (hb y) pc = .ok (.lload a, 2)) (hl : ls.lookup a = some (.inl (.long x))) (k : gG E y (pc + 2) ls (.inl (.long x) :: r) I J B c w Q X) : gG E y pc ls r I J B c w Q X := by
  intro hc hw p e s m args below meth cc ad0 Bs hC hT H locs LS ad hS
  exact lv_lload hC.1 hC.2.1 hd (hS.ld hl).1 (k hc hw p e s m args below meth cc ad0 Bs hC hT H locs LS ad (hS.tk (gvs_n hS.vs)))
theorem gp_dload {a : Nat} {x : UInt64} (hd : decode (hb y) pc = .ok (.dload a, 2)) (hl : ls.lookup a = some (.inl (.double x))) (k : gG E y (pc + 2) ls (.inl (.double x) :: r) I J B c w Q X) : gG E y pc ls r I J B c w Q X := by
  intro hc hw p e s m args below meth cc ad0 Bs hC hT H locs LS ad hS
  exact lv_dload hC.1 hC.2.1 hd (hS.ld hl).1 (k hc hw p e s m args below meth cc ad0 Bs hC hT H locs LS ad (hS.tk (gvs_n hS.vs)))
theorem gp_aload_n {j : Fin 4} {a : Nat} {x : gR} (hd : decode (hb y) pc = .ok (.aload_n j, 1)) (hj : (j : Nat) = a) (hl : ls.lookup a = some (.inr x)) (k : gG E y (pc + 1) ls (.inr x :: r) I J B c w Q X) : gG E y pc ls r I J B c w Q X := by
  intro hc hw p e s m args below meth cc ad0 Bs hC hT H locs LS ad hS
  exact lv_aload_n hC.1 hC.2.1 hd hj (hS.ld hl).1 (k hc hw p e s m args below meth cc ad0 Bs hC hT H locs LS ad (hS.tk (gvs_c (hS.ld hl).2 hS.vs)))
theorem gp_aload {a : Nat} {x : gR} (hd : decode (hb y) pc = .ok (.aload a, 2)) (hl : ls.lookup a = some (.inr x)) (k : gG E y (pc + 2) ls (.inr x :: r) I J B c w Q X) : gG E y pc ls r I J B c w Q X := by
  intro hc hw p e s m args below meth cc ad0 Bs hC hT H locs LS ad hS
  exact lv_aload hC.1 hC.2.1 hd (hS.ld hl).1 (k hc hw p e s m args below meth cc ad0 Bs hC hT H locs LS ad (hS.tk (gvs_c (hS.ld hl).2 hS.vs)))
theorem gp_aload_nN {j : Fin 4} {a : Nat} (hd : decode (hb y) pc = .ok (.aload_n j, 1)) (hj : (j : Nat) = a) (hl : ls.lookup a = some (.inl .null)) (k : gG E y (pc + 1) ls (.inl .null :: r) I J B c w Q X) : gG E y pc ls r I J B c w Q X := by
  intro hc hw p e s m args below meth cc ad0 Bs hC hT H locs LS ad hS
  exact lv_aload_nN hC.1 hC.2.1 hd hj (hS.ld hl).1 (k hc hw p e s m args below meth cc ad0 Bs hC hT H locs LS ad (hS.tk (gvs_n hS.vs)))
theorem gp_aloadN {a : Nat} (hd : decode (hb y) pc = .ok (.aload a, 2)) (hl : ls.lookup a = some (.inl .null)) (k : gG E y (pc + 2) ls (.inl .null :: r) I J B c w Q X) : gG E y pc ls r I J B c w Q X := by
  intro hc hw p e s m args below meth cc ad0 Bs hC hT H locs LS ad hS
  exact lv_aloadN hC.1 hC.2.1 hd (hS.ld hl).1 (k hc hw p e s m args below meth cc ad0 Bs hC hT H locs LS ad (hS.tk (gvs_n hS.vs)))
theorem gmap_f1 (ad : gR → Nat) (a : Nat) (v : gV) : (a, gcv ad v) :: (ls.map (gcp ad)).filter (fun q => !(q.1 == a) && !(q.1 + 1 == a && q.2.category == 2)) = (gset1 ls a v).map (gcp ad) := by
  unfold gset1
  rw [List.map_cons, List.filter_map]
  congr 2
  apply List.filter_congr
  intro q _
  simp only [Function.comp, gcp, gcat_cv]
theorem gmap_f2 (ad : gR → Nat) (a : Nat) (v : gV) : (a, gcv ad v) :: (ls.map (gcp ad)).filter (fun q => !(q.1 == a) && (!(q.1 == a + 1) && !(q.1 + 1 == a && q.2.category == 2))) = (gset2 ls a v).map (gcp ad) := by
  unfold gset2
  rw [List.map_cons, List.filter_map]
  congr 2
  apply List.filter_congr
  intro q _
  simp only [Function.comp, gcp, gcat_cv]
theorem gSt.sv {ad0 : gR → Nat} {Bs : gB} {s : State} {H : Heap} {locs : List Loc} {LS LS2 : Array Slot} {ad : gR → Nat} {ls2 : List (Nat × gV)} {st2 : List gV} (h : gSt E y ad0 Bs s H locs LS ad ls st I J B) (hl : lv_has LS2 (hml y) (ls2.map (gcp ad))) (h2 : ∀ q ∈ ls2, gVv B q.2) (hv : ∀ v ∈ st2, gVv B v) : gSt E y ad0 Bs s H locs LS2 ad ls2 st2 I J B := ⟨h.1, h.2.1, hl, h.2.2.2.1, h.2.2.2.2.1, h2, hv⟩
theorem gset1_v {a : Nat} {v : gV} (h : ∀ q ∈ ls, gVv B q.2) (hv : gVv B v) : ∀ q ∈ gset1 ls a v, gVv B q.2 := by
  intro q hq
  rcases List.mem_cons.mp hq with rfl | hq
  · exact hv
  · exact h q (List.mem_filter.mp hq).1
theorem gset2_v {a : Nat} {v : gV} (h : ∀ q ∈ ls, gVv B q.2) (hv : gVv B v) : ∀ q ∈ gset2 ls a v, gVv B q.2 := by
  intro q hq
  rcases List.mem_cons.mp hq with rfl | hq
  · exact hv
  · exact h q (List.mem_filter.mp hq).1
theorem gp_istore_n {j : Fin 4} {a : Nat} {x : Int32} (hd : decode (hb y) pc = .ok (.istore_n j, 1)) (hj : (j : Nat) = a) (hn : a < hml y) (k : gG E y (pc + 1) (gset1 ls a (.inl (.int x))) r I J B c w Q X) : gG E y pc ls (.inl (.int x) :: r) I J B c w Q X := by
  intro hc hw p e s m args below meth cc ad0 Bs hC hT H locs LS ad hS
  exact lv_istore_n hC.1 hC.2.1 hd hj hS.2.2.1 hn (gmap_f1 ad a (.inl (.int x))) (fun LS2 hl => k hc hw p e s m args below meth cc ad0 Bs hC hT H locs LS2 ad (hS.sv hl (gset1_v hS.2.2.2.2.2.1 trivial) (gvs_d hS.vs)))
theorem gp_istore {a : Nat} {x : Int32} (hd : decode (hb y) pc = .ok (.istore a, 2)) (hn : a < hml y) (k : gG E y (pc + 2) (gset1 ls a (.inl (.int x))) r I J B c w Q X) : gG E y pc ls (.inl (.int x) :: r) I J B c w Q X := by
  intro hc hw p e s m args below meth cc ad0 Bs hC hT H locs LS ad hS
  exact lv_istore hC.1 hC.2.1 hd hS.2.2.1 hn (gmap_f1 ad a (.inl (.int x))) (fun LS2 hl => k hc hw p e s m args below meth cc ad0 Bs hC hT H locs LS2 ad (hS.sv hl (gset1_v hS.2.2.2.2.2.1 trivial) (gvs_d hS.vs)))
theorem gp_lstore_n {j : Fin 4} {a : Nat} {x : Int64} (hd : decode (hb y) pc = .ok (.lstore_n j, 1)) (hj : (j : Nat) = a) (hn : a + 1 < hml y) (k : gG E y (pc + 1) (gset2 ls a (.inl (.long x))) r I J B c w Q X) : gG E y pc ls (.inl (.long x) :: r) I J B c w Q X := by
  intro hc hw p e s m args below meth cc ad0 Bs hC hT H locs LS ad hS
  exact lv_lstore_n hC.1 hC.2.1 hd hj hS.2.2.1 hn (gmap_f2 ad a (.inl (.long x))) (fun LS2 hl => k hc hw p e s m args below meth cc ad0 Bs hC hT H locs LS2 ad (hS.sv hl (gset2_v hS.2.2.2.2.2.1 trivial) (gvs_d hS.vs)))
theorem gp_lstore {a : Nat} {x : Int64} (hd : decode (hb y) pc = .ok (.lstore a, 2)) (hn : a + 1 < hml y) (k : gG E y (pc + 2) (gset2 ls a (.inl (.long x))) r I J B c w Q X) : gG E y pc ls (.inl (.long x) :: r) I J B c w Q X := by
  intro hc hw p e s m args below meth cc ad0 Bs hC hT H locs LS ad hS
  exact lv_lstore hC.1 hC.2.1 hd hS.2.2.1 hn (gmap_f2 ad a (.inl (.long x))) (fun LS2 hl => k hc hw p e s m args below meth cc ad0 Bs hC hT H locs LS2 ad (hS.sv hl (gset2_v hS.2.2.2.2.2.1 trivial) (gvs_d hS.vs)))
theorem gp_dstore {a : Nat} {x : UInt64} (hd : decode (hb y) pc = .ok (.dstore a, 2)) (hn : a + 1 < hml y) (k : gG E y (pc + 2) (gset2 ls a (.inl (.double x))) r I J B c w Q X) : gG E y pc ls (.inl (.double x) :: r) I J B c w Q X := by
  intro hc hw p e s m args below meth cc ad0 Bs hC hT H locs LS ad hS
  exact lv_dstore hC.1 hC.2.1 hd hS.2.2.1 hn (gmap_f2 ad a (.inl (.double x))) (fun LS2 hl => k hc hw p e s m args below meth cc ad0 Bs hC hT H locs LS2 ad (hS.sv hl (gset2_v hS.2.2.2.2.2.1 trivial) (gvs_d hS.vs)))
theorem gp_astore_n {j : Fin 4} {a : Nat} {x : gR} (hd : decode (hb y) pc = .ok (.astore_n j, 1)) (hj : (j : Nat) = a) (hn : a < hml y) (k : gG E y (pc + 1) (gset1 ls a (.inr x)) r I J B c w Q X) : gG E y pc ls (.inr x :: r) I J B c w Q X := by
  intro hc hw p e s m args below meth cc ad0 Bs hC hT H locs LS ad hS
  exact lv_astore_n hC.1 hC.2.1 hd hj hS.2.2.1 hn (gmap_f1 ad a (.inr x)) (fun LS2 hl => k hc hw p e s m args below meth cc ad0 Bs hC hT H locs LS2 ad (hS.sv hl (gset1_v hS.2.2.2.2.2.1 (gvs_h hS.vs)) (gvs_d hS.vs)))
theorem gp_astore_nN {j : Fin 4} {a : Nat} (hd : decode (hb y) pc = .ok (.astore_n j, 1)) (hj : (j : Nat) = a) (hn : a < hml y) (k : gG E y (pc + 1) (gset1 ls a (.inl .null)) r I J B c w Q X) : gG E y pc ls (.inl .null :: r) I J B c w Q X := by
  intro hc hw p e s m args below meth cc ad0 Bs hC hT H locs LS ad hS
  exact lv_astore_nN hC.1 hC.2.1 hd hj hS.2.2.1 hn (gmap_f1 ad a (.inl .null)) (fun LS2 hl => k hc hw p e s m args below meth cc ad0 Bs hC hT H locs LS2 ad (hS.sv hl (gset1_v hS.2.2.2.2.2.1 trivial) (gvs_d hS.vs)))
theorem gp_astore {a : Nat} {x : gR} (hd : decode (hb y) pc = .ok (.astore a, 2)) (hn : a < hml y) (k : gG E y (pc + 2) (gset1 ls a (.inr x)) r I J B c w Q X) : gG E y pc ls (.inr x :: r) I J B c w Q X := by
  intro hc hw p e s m args below meth cc ad0 Bs hC hT H locs LS ad hS
  exact lv_astore hC.1 hC.2.1 hd hS.2.2.1 hn (gmap_f1 ad a (.inr x)) (fun LS2 hl => k hc hw p e s m args below meth cc ad0 Bs hC hT H locs LS2 ad (hS.sv hl (gset1_v hS.2.2.2.2.2.1 (gvs_h hS.vs)) (gvs_d hS.vs)))
theorem gp_astoreN {a : Nat} (hd : decode (hb y) pc = .ok (.astore a, 2)) (hn : a < hml y) (k : gG E y (pc + 2) (gset1 ls a (.inl .null)) r I J B c w Q X) : gG E y pc ls (.inl .null :: r) I J B c w Q X := by
  intro hc hw p e s m args below meth cc ad0 Bs hC hT H locs LS ad hS
  exact lv_astoreN hC.1 hC.2.1 hd hS.2.2.1 hn (gmap_f1 ad a (.inl .null)) (fun LS2 hl => k hc hw p e s m args below meth cc ad0 Bs hC hT H locs LS2 ad (hS.sv hl (gset1_v hS.2.2.2.2.2.1 trivial) (gvs_d hS.vs)))
theorem gp_iinc {a : Nat} {n : Int} {x z : Int32} (hd : decode (hb y) pc = .ok (.iinc a n, 3)) (hz : Int32.ofInt n = z) (hl : ls.lookup a = some (.inl (.int x))) (hn : a < hml y) (k : gG E y (pc + 3) (gset1 ls a (.inl (.int (x + z)))) st I J B c w Q X) : gG E y pc ls st I J B c w Q X := by
  intro hc hw p e s m args below meth cc ad0 Bs hC hT H locs LS ad hS
  obtain ⟨q, hq⟩ := List.getElem?_of_mem (List.mem_map.mpr ⟨(a, .inl (.int x)), glk hl, rfl⟩ : ((a, Value.int x) : Nat × Value) ∈ ls.map (gcp ad))
  exact lv_iinc hC.1 hC.2.1 hd hS.2.2.1 hq (by rw [hz]) hn (gmap_f1 ad a (.inl (.int (x + z)))) (fun LS2 hl => k hc hw p e s m args below meth cc ad0 Bs hC hT H locs LS2 ad (hS.sv hl (gset1_v hS.2.2.2.2.2.1 trivial) hS.vs))
theorem gp_pick {live : List Nat} (k : gG E y pc (gpick live ls) st I J B c w Q X) : gG E y pc ls st I J B c w Q X := by
  intro hc hw p e s m args below meth cc ad0 Bs hC hT H locs LS ad hS
  have hm : ∀ q ∈ gpick live ls, q ∈ ls := by
    intro q hq
    obtain ⟨i, -, hi⟩ := List.mem_filterMap.mp hq
    cases e : ls.lookup i with
    | none => rw [e] at hi; cases hi
    | some v => rw [e] at hi; cases hi; exact glk e
  exact k hc hw p e s m args below meth cc ad0 Bs hC hT H locs LS ad (hS.sv ⟨hS.2.2.1.1, hS.2.2.1.2.1, fun q hq => by
    obtain ⟨z, hz, rfl⟩ := List.mem_map.mp hq
    exact hS.2.2.1.2.2 _ (List.mem_map.mpr ⟨z, hm z hz, rfl⟩)⟩ (fun q hq => hS.2.2.2.2.2.1 q (hm q hq)) hS.vs)
end GP
end
section
/-! ===== the rows that read and write the heap ===== -/
theorem gall_nodup : gall.Nodup := by decide +kernel
theorem gids_nodup (B : gB) : (gids B).Nodup := List.Pairwise.filter _ gall_nodup
theorem gids_all {B : gB} {r : gR} (h : r ∈ gids B) : r ∈ gall := (List.mem_filter.mp h).1
theorem gall_i0 : ∀ r ∈ gall, r.2.2 = 0 ∨ (gobj r.1 = none ∧ (garr r.1).map (fun z => z.1) = some 0) := by decide +kernel
theorem gall_k3 : ∀ r ∈ gall, 3 ≤ r.1 := by decide +kernel
theorem garr_obj {k : Nat} {z : Nat × Nat × Nat} (h : garr k = some z) : gobj k = none := by
  unfold garr at h
  split at h <;> first | rfl | cases h
theorem gV_ids {B : gB} {r : gR} (h : gVl B r) (h3 : 3 ≤ r.1) : r ∈ gids B := by
  rcases h with rfl | rfl | h | h
  · exact absurd h3 (by decide)
  · exact absurd h3 (by decide)
  · omega
  · exact h
theorem genc_obj {ca : Nat → ClassId} {ad : gR → Nat} {I : gI} {J : gJ} {B : gB} {r : gR} {ci : Nat} {fl : List (Nat × Nat)} (h : gobj r.1 = some (ci, fl)) : genc ca ad I J B r = .inr (ci, gfvals ad I J r.1 r.2.1 fl) := by
  unfold genc
  rw [h]
theorem genc_arr {ca : Nat → ClassId} {ad : gR → Nat} {I : gI} {J : gJ} {B : gB} {r : gR} {t n rk : Nat} (h : garr r.1 = some (t, n, rk)) : genc ca ad I J B r = garrE ca ad I J B r t n rk := by
  unfold genc
  rw [garr_obj h, h]
theorem gfvals_get {ad : gR → Nat} {I : gI} {J : gJ} {k n b : Nat} {fl : List (Nat × Nat)} {q : Nat × Nat} (h : fl[b]? = some q) : (gfvals ad I J k n fl)[b]? = some (gfval ad I J k n b q.1 q.2) := by
  unfold gfvals
  rw [List.getElem?_mapIdx, h]
  rfl
theorem gfvals_len {ad : gR → Nat} {I : gI} {J : gJ} {k n : Nat} {fl : List (Nat × Nat)} : (gfvals ad I J k n fl).length = fl.length := by
  unfold gfvals
  rw [List.length_mapIdx]
theorem gws_get {E : gEn} {ad : gR → Nat} {I : gI} {J : gJ} {B : gB} {r : gR} (h : r ∈ gids B) : ∃ q : Nat, (gids B)[q]? = some r ∧ (gws E ad I J B)[q]? = some (ad r, genc (gca E) ad I J B r) := by
  obtain ⟨q, hq⟩ := List.getElem?_of_mem h
  exact ⟨q, hq, by unfold gws; rw [List.getElem?_map, hq]; rfl⟩
theorem gws_set {E : gEn} {ad : gR → Nat} {I I2 : gI} {J J2 : gJ} {B B2 : gB} {r : gR} {q : Nat} {e : va_E} (hq : (gids B)[q]? = some r) (hB : gids B2 = gids B) (he : genc (gca E) ad I2 J2 B2 r = e)
    (ho : ∀ r2 ∈ gids B, r2 ≠ r → genc (gca E) ad I2 J2 B2 r2 = genc (gca E) ad I J B r2) : (gws E ad I J B).set q (ad r, e) = gws E ad I2 J2 B2 := by
  subst he
  unfold gws
  rw [hB]
  apply List.ext_getElem?
  intro j
  rw [List.getElem?_set, List.length_map]
  by_cases hj : q = j
  · subst hj
    rw [if_pos rfl, if_pos (List.getElem?_eq_some_iff.mp hq).1, List.getElem?_map, hq]
    rfl
  · rw [if_neg hj, List.getElem?_map, List.getElem?_map]
    cases hr : (gids B)[j]? with
    | none => rfl
    | some r2 =>
      have hne : r2 ≠ r := by
        intro e
        subst e
        obtain ⟨h1, e1⟩ := List.getElem?_eq_some_iff.mp hq
        obtain ⟨h2, e2⟩ := List.getElem?_eq_some_iff.mp hr
        have hp := List.pairwise_iff_getElem.mp (gids_nodup B)
        rcases Nat.lt_or_gt_of_ne hj with h | h
        · exact hp q j h1 h2 h (e1.trans e2.symm)
        · exact hp j q h2 h1 h (e2.trans e1.symm)
      simp only [Option.map_some]
      rw [ho r2 (List.mem_of_getElem? hr) hne]
theorem gUI_ne {I : gI} {k n i j a b c : Nat} {x : Int32} (h : (a, b, c) ≠ ((k, n, i) : gR)) : gUI I k n i j x a b c = I a b c := by
  funext d
  unfold gUI
  rw [if_neg]
  rintro ⟨rfl, rfl, rfl, -⟩
  exact h rfl
theorem gUI_eq {I : gI} {k n i j : Nat} {x : Int32} : gUI I k n i j x k n i = upd (I k n i) j x := by
  funext d
  unfold gUI upd
  simp
theorem gUJ_ne {J : gJ} {k n j a b : Nat} {x : Int64} (h : ¬ (a = k ∧ b = n)) : gUJ J k n j x a b = J a b := by
  funext d
  unfold gUJ
  rw [if_neg]
  rintro ⟨h1, h2, -⟩
  exact h ⟨h1, h2⟩
theorem gUJ_eq {J : gJ} {k n j : Nat} {x : Int64} : gUJ J k n j x k n = vp_updL (J k n) j x := by
  funext d
  unfold gUJ vp_updL
  simp
/-- a thing's picture speaks of its own numbers -/
theorem genc_cong {ca : Nat → ClassId} {ad : gR → Nat} {I I2 : gI} {J J2 : gJ} {B B2 : gB} {r : gR} (hr : r ∈ gall) (hI : I2 r.1 r.2.1 r.2.2 = I r.1 r.2.1 r.2.2) (hJ : (gobj r.1 ≠ none ∨ (garr r.1).map (fun z => z.1) ≠ some 0) → J2 r.1 r.2.1 = J r.1 r.2.1)
    (hB : ∀ n rk, garr r.1 = some (6, n, rk) → ∀ j, j < n → B2 (rk + j + 17) = B (rk + j + 17)) : genc ca ad I2 J2 B2 r = genc ca ad I J B r := by
  unfold genc
  cases ho : gobj r.1 with
  | some z =>
    obtain ⟨ci, fl⟩ := z
    have h0 : r.2.2 = 0 := by
      rcases gall_i0 r hr with h | ⟨h, -⟩
      · exact h
      · rw [h] at ho; cases ho
    rw [h0] at hI
    simp only
    congr 2
    unfold gfvals
    congr 1
    funext j q
    unfold gfval
    rw [hI, hJ (Or.inl (by rw [ho]; exact fun h => by cases h))]
  | none =>
    cases ha : garr r.1 with
    | none => rfl
    | some z =>
      obtain ⟨t, n, rk⟩ := z
      simp only
      unfold garrE
      split
      · rw [hI]
      · rw [hJ (Or.inr (by rw [ha]; simp))]
      · rw [hI]
      · rw [hI]
      · rw [hJ (Or.inr (by rw [ha]; simp))]
      · rfl
      · rename_i t0 h0 h1 h2 h3 h4 h5
        have ht : t = 6 := by
          revert ha h0 h1 h2 h3 h4 h5
          unfold garr
          split <;> intro ha <;> first | (cases ha; first | (intro h0; exact absurd rfl h0) | (intro _ h1; exact absurd rfl h1) | (intro _ _ h1; exact absurd rfl h1) | (intro _ _ _ h1; exact absurd rfl h1) | (intro _ _ _ _ h1; exact absurd rfl h1) | (intro _ _ _ _ _ h1; exact absurd rfl h1) | (intros; rfl)) | cases ha
        subst ht
        congr 7
        funext j
        by_cases hj : j < n
        · rw [hB n rk ha j hj]
        · have e : Nat.blt j n = false := by
            cases h : Nat.blt j n with
            | false => rfl
            | true => exact absurd (Nat.le_of_ble_eq_true h) (by omega)
          rw [e]; rfl

section GH
variable {E : gEn} {y pc : Nat} {ls : List (Nat × gV)} {st r : List gV} {I : gI} {J : gJ} {B : gB} {c w : Nat} {Q : gQt} {X : gXt}
/-- what a field's number in the pool names -/
def gFl (own : String) (n ci b : Nat) : Prop := ∃ (C : String) (T : u_T) (N : Nat) (ty : Nat → FieldType), vwCl[ci]? = some (C, T, N) ∧ (∀ w ∈ u_ws C T N, w ∈ gBig) ∧ b < N ∧ (∀ k, k < N → parseFieldDescriptor (T k).2.2.1 = some (ty k)) ∧ (∀ a, a < N → ∀ b, b < N → a ≠ b → (T a).2.1 ≠ (T b).2.1) ∧
  (Cond.fieldLink own n (T b).1 (T b).2.1 (T b).2.2.1 ∈ gBig ∨ ∃ host, Cond.fieldLinkNest own n (T b).1 (T b).2.1 (T b).2.2.1 host ∈ gNst)
/-- a field that may be written, and its type -/
def gFw (ci b : Nat) (ty : FieldType) : Prop := ∃ (C : String) (T : u_T) (N : Nat), vwCl[ci]? = some (C, T, N) ∧ (T b).2.2.2 = false ∧ parseFieldDescriptor (T b).2.2.1 = some ty
/-- a read of a field, as the heap has it -/
theorem gh_get {p : Program} {e : Env} {R : Room} {s : State} {m : MethodId} {args : Array Value} {below : List Frame} {meth : Method} {cc : Code} {H : Heap} {locs : List Loc} {LS : Array Slot} {Z : State → Prop} {ad : gR → Nat} {n : Nat} {q : gR} {ci b : Nat} {fl : List (Nat × Nat)} {z : Nat × Nat} {rest : List Value}
    (hC : gCx E y p e s m args below meth cc) (hR : gRep E ad I J B H) (hq : q ∈ gids B) (hd : decode (hb y) pc = .ok (.getfield n, 3)) (ho : gobj q.1 = some (ci, fl)) (hf : fl[b]? = some z) (hl : gFl (hy y).cls n ci b)
    (k : W p (gl E) e R s m args below meth cc H locs c w Z (F0 m (pc + 3) LS (gfval ad I J q.1 q.2.1 b z.1 z.2 :: rest))) : W p (gl E) e R s m args below meth cc H locs c w Z (F0 m pc LS (.ref (ad q) :: rest)) := by
  obtain ⟨hx, hb, hr, hml, hown, hts, hlk, hE⟩ := hC
  obtain ⟨C, T, N, ty, h1, h2, h3, h4, h5, h6⟩ := hl
  obtain ⟨q0, -, hq0⟩ := gws_get (E := E) (ad := ad) (I := I) (J := J) hq
  rw [genc_obj ho] at hq0
  rcases h6 with h6 | ⟨host, h6⟩
  · exact va_get (D := gD E) (tys := gtys E) (C := C) (T := T) (N := N) hx hb hts h2 hown hE.1 hR.1 q0 hq0 h1 b h3 (hts _ h6) (fun _ h => h) (gfvals_get hf) hd k
  · exact va_getN (D := gD E) (tys := gtys E) (C := C) (T := T) (N := N) hx hb hts h2 hown hE.1 hR.1 q0 hq0 h1 b h3 (va_Nw.use rfl (hE.2.1 _ h6)) (fun _ h => h) (gfvals_get hf) hd k
/-- the references that fields hold stand -/
theorem gall_ref : ∀ r ∈ gall, ∀ z, gobj r.1 = some z → ∀ f ∈ z.2, 100 ≤ f.1 → (f.1 - 100, r.2.1 + f.2, 0) ∈ gall ∧ (Nat.blt r.2.1 3 = true → Nat.blt (r.2.1 + f.2) 3 = true) ∧ (Nat.blt r.2.1 3 = false → f.2 = 0) := by
  have h : ∀ r ∈ gall, ∀ f ∈ ((gobj r.1).map (fun z => z.2)).getD [], 100 ≤ f.1 → (f.1 - 100, r.2.1 + f.2, 0) ∈ gall ∧ (Nat.blt r.2.1 3 = true → Nat.blt (r.2.1 + f.2) 3 = true) ∧ (Nat.blt r.2.1 3 = false → f.2 = 0) := by decide +kernel
  intro r hr z hz
  have h1 := h r hr
  rw [hz] at h1
  exact h1
theorem gV_of {q : gR} (h : q ∈ gids B) : gVv B (.inr q) := Or.inr (Or.inr (Or.inr h))
theorem gids_ref {q : gR} {z : Nat × List (Nat × Nat)} {f : Nat × Nat} (hq : q ∈ gids B) (ho : gobj q.1 = some z) (hf : f ∈ z.2) (h100 : 100 ≤ f.1) : (f.1 - 100, q.2.1 + f.2, 0) ∈ gids B := by
  obtain ⟨h1, h2⟩ := List.mem_filter.mp hq
  obtain ⟨g1, g2, g3⟩ := gall_ref q h1 z ho f hf h100
  refine List.mem_filter.mpr ⟨g1, ?_⟩
  cases hb : Nat.blt q.2.1 3 with
  | true => simp only [g2 hb, Bool.true_or]
  | false =>
    rw [g3 hb, Nat.add_zero]
    rw [hb, Bool.false_or] at h2
    simp only [h2, Bool.or_true]
theorem gobj_cd {k : Nat} {z : Nat × List (Nat × Nat)} (h : gobj k = some z) : ∀ f ∈ z.2, f.1 ≤ 2 ∨ 100 ≤ f.1 := by
  unfold gobj at h
  split at h <;> first | (cases h; decide) | cases h
theorem gobj_k3 {k : Nat} {z : Nat × List (Nat × Nat)} (h : gobj k = some z) : 3 ≤ k := by
  unfold gobj at h
  split at h <;> first | omega | cases h
theorem gp_getfield {n a b : Nat} {q : gR} (hd : decode (hb y) pc = .ok (.getfield n, 3)) (hl : ∀ z, gobj a = some z → gFl (hy y).cls n z.1 b) (k : gfg I J q a b fun x => gG E y (pc + 3) ls (x :: r) I J B c w Q X) : gG E y pc ls (.inr q :: r) I J B c w Q X := by
  intro hc hw p e s m args below meth cc ad0 Bs hC hT H locs LS ad hS
  unfold gfg at k
  split at k
  · rename_i x ci fl hqa ho
    have hqa : q.1 = a := Nat.eq_of_beq_eq_true hqa
    subst hqa
    have h3 := gobj_k3 ho
    have hq : q ∈ gids B := gV_ids (gvs_h hS.vs) h3
    have hdr := gvs_d hS.vs
    split at k
    · rename_i dn hf
      exact gh_get hC hS.1 hq hd ho hf (hl _ ho) (k hc hw p e s m args below meth cc ad0 Bs hC hT H locs LS ad (hS.tk (gvs_n hdr)))
    · rename_i dn hf
      exact gh_get hC hS.1 hq hd ho hf (hl _ ho) (k hc hw p e s m args below meth cc ad0 Bs hC hT H locs LS ad (hS.tk (gvs_n hdr)))
    · rename_i dn hf
      exact gh_get hC hS.1 hq hd ho hf (hl _ ho) (k hc hw p e s m args below meth cc ad0 Bs hC hT H locs LS ad (hS.tk (gvs_n hdr)))
    · rename_i cd dn h0 h1 h2 hf
      have hm := List.mem_of_getElem? hf
      have h100 : 100 ≤ cd := by
        rcases gobj_cd ho _ hm with h | h
        · have e0 : cd ≠ 0 := fun z => h0 z
          have e1 : cd ≠ 1 := fun z => h1 z
          have e2 : cd ≠ 2 := fun z => h2 z
          have h : cd ≤ 2 := h
          omega
        · exact h
      refine gh_get hC hS.1 hq hd ho hf (hl _ ho) ?_
      have hv := gV_of (gids_ref hq ho hm h100)
      have kk := k hc hw p e s m args below meth cc ad0 Bs hC hT H locs LS ad (hS.tk (gvs_c hv hdr))
      have e : gfval ad I J q.1 q.2.1 b cd dn = .ref (ad (cd - 100, q.2.1 + dn, 0)) := by
        unfold gfval
        rw [if_neg (by omega), if_neg (by omega)]
      rw [show ((cd, dn) : Nat × Nat).1 = cd from rfl, show ((cd, dn) : Nat × Nat).2 = dn from rfl, e]
      exact kk
    · exact absurd k id
  · exact absurd k id
end GH
end
section
/-! ===== writes and rows of numbers ===== -/
section GH
variable {E : gEn} {y pc : Nat} {ls : List (Nat × gV)} {st r : List gV} {I : gI} {J : gJ} {B : gB} {c w : Nat} {Q : gQt} {X : gXt}
/-- the world behind a write that changes one thing's picture -/
theorem gRep.put {ad : gR → Nat} {H H1 : Heap} {I2 : gI} {J2 : gJ} {B2 : gB} {q : gR} {q0 : Nat} {e : va_E} (hR : gRep E ad I J B H) (hq : (gids B)[q0]? = some q) (hB : gids B2 = gids B) (hk : gBok B2) (he : genc (gca E) ad I2 J2 B2 q = e)
    (ho : ∀ r2 ∈ gids B, r2 ≠ q → genc (gca E) ad I2 J2 B2 r2 = genc (gca E) ad I J B r2) (hP : va_P (gD E) vwCl ((gws E ad I J B).set q0 (ad q, e)) H1) (hD : va_D (gA E) ((gws E ad I J B).set q0 (ad q, e))) : gRep E ad I2 J2 B2 H1 := by
  rw [gws_set (I2 := I2) (J2 := J2) (B2 := B2) hq hB he ho] at hP hD
  exact ⟨hP, hD, hR.2.2.1, hk⟩
theorem gSt.ht {ad0 : gR → Nat} {Bs : gB} {s : State} {H H1 : Heap} {locs locs1 : List Loc} {LS : Array Slot} {ad : gR → Nat} {I2 : gI} {J2 : gJ} {st2 : List gV} (h : gSt E y ad0 Bs s H locs LS ad ls st I J B) (hR : gRep E ad I2 J2 B H1) (hS : va_S (gA E) s.heap H1 locs1) (hv : ∀ v ∈ st2, gVv B v) : gSt E y ad0 Bs s H1 locs1 LS ad ls st2 I2 J2 B := ⟨hR, hS, h.2.2.1, h.2.2.2.1, h.2.2.2.2.1, h.2.2.2.2.2.1, hv⟩
theorem gne_I {q r2 : gR} {I : gI} {j : Nat} {x : Int32} (h : r2 ≠ q) : gUI I q.1 q.2.1 q.2.2 j x r2.1 r2.2.1 r2.2.2 = I r2.1 r2.2.1 r2.2.2 := gUI_ne h
/-- a write of a whole number in a thing -/
theorem genc_UI {ca : Nat → ClassId} {ad : gR → Nat} {q : gR} {j : Nat} {x : Int32} : ∀ r2 ∈ gids B, r2 ≠ q → genc ca ad (gUI I q.1 q.2.1 q.2.2 j x) J B r2 = genc ca ad I J B r2 := fun _ h2 hne => genc_cong (gids_all h2) (gne_I hne) (fun _ => rfl) (fun _ _ _ _ _ => rfl)
theorem genc_UJ {ca : Nat → ClassId} {ad : gR → Nat} {q : gR} {j : Nat} {x : Int64} (hq : q ∈ gids B) (hk : gobj q.1 ≠ none ∨ (garr q.1).map (fun z => z.1) ≠ some 0) : ∀ r2 ∈ gids B, r2 ≠ q → genc ca ad I (gUJ J q.1 q.2.1 j x) B r2 = genc ca ad I J B r2 := by
  intro r2 h2 hne
  refine genc_cong (gids_all h2) rfl (fun h => gUJ_ne ?_) (fun _ _ _ _ _ => rfl)
  rintro ⟨e1, e2⟩
  have z1 : q.2.2 = 0 := by
    rcases gall_i0 q (gids_all hq) with h | ⟨h, h'⟩
    · exact h
    · rcases hk with hk | hk
      · exact absurd h hk
      · exact absurd h' hk
  have z2 : r2.2.2 = 0 := by
    rcases gall_i0 r2 (gids_all h2) with h3 | ⟨h3, h'⟩
    · exact h3
    · rcases h with h | h
      · exact absurd h3 h
      · exact absurd h' h
  exact hne (Prod.ext e1 (Prod.ext e2 (z2.trans z1.symm)))
theorem gobj_0 {q : gR} {z : Nat × List (Nat × Nat)} (hq : q ∈ gids B) (h : gobj q.1 = some z) : q.2.2 = 0 := by
  rcases gall_i0 q (gids_all hq) with h1 | ⟨h1, -⟩
  · exact h1
  · rw [h] at h1; cases h1
theorem gfvals_set_I {ad : gR → Nat} {k n b : Nat} {fl : List (Nat × Nat)} {cd dn : Nat} {x : Int32} (hf : fl[b]? = some (cd, dn)) (hcd : cd ≠ 1 ∧ cd < 100) : (gfvals ad I J k n fl).set b (.int x) = gfvals ad (gUI I k n 0 b x) J k n fl := by
  apply List.ext_getElem?
  intro j
  rw [List.getElem?_set, gfvals_len]
  have hb := (List.getElem?_eq_some_iff.mp hf).1
  by_cases hj : b = j
  · subst hj
    rw [if_pos rfl, if_pos hb, gfvals_get hf]
    unfold gfval
    rw [if_neg hcd.1, if_pos hcd.2]
    simp [gUI]
  · rw [if_neg hj]
    unfold gfvals
    rw [List.getElem?_mapIdx, List.getElem?_mapIdx]
    cases fl[j]? with
    | none => rfl
    | some z =>
      simp only [Option.map_some]
      unfold gfval
      rw [show gUI I k n 0 b x k n 0 j = I k n 0 j from by unfold gUI; rw [if_neg]; rintro ⟨-, -, -, e⟩; exact hj e.symm]
theorem gfvals_set_J {ad : gR → Nat} {k n b : Nat} {fl : List (Nat × Nat)} {dn : Nat} {x : Int64} (hf : fl[b]? = some (1, dn)) : (gfvals ad I J k n fl).set b (.long x) = gfvals ad I (gUJ J k n b x) k n fl := by
  apply List.ext_getElem?
  intro j
  rw [List.getElem?_set, gfvals_len]
  have hb := (List.getElem?_eq_some_iff.mp hf).1
  by_cases hj : b = j
  · subst hj
    rw [if_pos rfl, if_pos hb, gfvals_get hf]
    unfold gfval
    rw [if_pos rfl]
    simp [gUJ]
  · rw [if_neg hj]
    unfold gfvals
    rw [List.getElem?_mapIdx, List.getElem?_mapIdx]
    cases fl[j]? with
    | none => rfl
    | some z =>
      simp only [Option.map_some]
      unfold gfval
      rw [show gUJ J k n b x k n j = J k n j from by unfold gUJ; rw [if_neg]; rintro ⟨-, -, e⟩; exact hj e.symm]
/-- a write of a field, as the heap has it -/
theorem gh_put {p : Program} {e : Env} {R : Room} {s : State} {m : MethodId} {args : Array Value} {below : List Frame} {meth : Method} {cc : Code} {H : Heap} {locs : List Loc} {LS : Array Slot} {Z : State → Prop} {ad : gR → Nat} {n : Nat} {q : gR} {ci b : Nat} {fl : List (Nat × Nat)} {ty : FieldType} {v : Value} {rest : List Value} {I2 : gI} {J2 : gJ}
    (hC : gCx E y p e s m args below meth cc) (hR : gRep E ad I J B H) (hS0 : va_S (gA E) s.heap H locs) (hq : q ∈ gids B) (hd : decode (hb y) pc = .ok (.putfield n, 3)) (ho : gobj q.1 = some (ci, fl)) (hb2 : b < fl.length) (hl : gFl (hy y).cls n ci b) (hfw : gFw ci b ty) (hn : narrow ty v = v) (hfit : fits ty v = true)
    (he : (gfvals ad I J q.1 q.2.1 fl).set b v = gfvals ad I2 J2 q.1 q.2.1 fl) (hoth : ∀ r2 ∈ gids B, r2 ≠ q → genc (gca E) ad I2 J2 B r2 = genc (gca E) ad I J B r2)
    (k : ∀ (H1 : Heap) (locs1 : List Loc), gRep E ad I2 J2 B H1 → va_S (gA E) s.heap H1 locs1 → W p (gl E) e R s m args below meth cc H1 locs1 c w Z (F0 m (pc + 3) LS rest)) : W p (gl E) e R s m args below meth cc H locs c w Z (F0 m pc LS (v :: .ref (ad q) :: rest)) := by
  obtain ⟨hx, hb, hr, hml, hown, hts, hlk, hE⟩ := hC
  obtain ⟨C, T, N, ty0, h1, h2, h3, h4, h5, h6⟩ := hl
  obtain ⟨C', T', N', g1, g2, g3⟩ := hfw
  cases Option.some.inj (g1.symm.trans h1)
  obtain ⟨q0, hq1, hq0⟩ := gws_get (E := E) (ad := ad) (I := I) (J := J) hq
  rw [genc_obj ho] at hq0
  have hlen : b < (gfvals ad I J q.1 q.2.1 fl).length := by rw [gfvals_len]; exact hb2
  rcases h6 with h6 | ⟨host, h6⟩
  · refine va_put (D := gD E) (tys := gtys E) (C := C) (T := T) (N := N) hx hb hts h2 ty0 h4 h5 hown hE.1 hR.1 hR.2.1 hS0 q0 hq0 h1 b h3 (hts _ h6) (fun _ h => h) g2 g3 hn hfit hlen hd (fun H1 locs1 hP hD hS => ?_)
    refine k H1 locs1 (gRep.put (I2 := I2) (J2 := J2) hR hq1 rfl hR.2.2.2 ?_ hoth hP hD) hS
    rw [genc_obj ho, he]
  · refine va_putN (D := gD E) (tys := gtys E) (C := C) (T := T) (N := N) hx hb hts h2 ty0 h4 h5 hown hE.1 hR.1 hR.2.1 hS0 q0 hq0 h1 b h3 (va_Nw.use rfl (hE.2.1 _ h6)) (fun _ h => h) g2 g3 hn hfit hlen hd (fun H1 locs1 hP hD hS => ?_)
    refine k H1 locs1 (gRep.put (I2 := I2) (J2 := J2) hR hq1 rfl hR.2.2.2 ?_ hoth hP hD) hS
    rw [genc_obj ho, he]
theorem gvi_e {v : gV} {k : Int32 → Prop} (h : gvi v k) : ∃ x, v = .inl (.int x) ∧ k x := by
  unfold gvi at h
  split at h
  · exact ⟨_, rfl, h⟩
  · exact absurd h id
theorem gvl_e {v : gV} {k : Int64 → Prop} (h : gvl v k) : ∃ x, v = .inl (.long x) ∧ k x := by
  unfold gvl at h
  split at h
  · exact ⟨_, rfl, h⟩
  · exact absurd h id
theorem gvd_e {v : gV} {k : UInt64 → Prop} (h : gvd v k) : ∃ x, v = .inl (.double x) ∧ k x := by
  unfold gvd at h
  split at h
  · exact ⟨_, rfl, h⟩
  · exact absurd h id
theorem gvr_e {v : gV} {k : gR → Prop} (h : gvr v k) : ∃ x, v = .inr x ∧ k x := by
  unfold gvr at h
  split at h
  · exact ⟨_, rfl, h⟩
  · exact absurd h id
theorem gvn_e {v : gV} {a : Prop} {k : gR → Prop} (h : gvn v a k) : (v = .inl .null ∧ a) ∨ ∃ x, v = .inr x ∧ k x := by
  unfold gvn at h
  split at h
  · exact Or.inr ⟨_, rfl, h⟩
  · exact Or.inl ⟨rfl, h⟩
  · exact absurd h id
theorem fits_bool {x : Int32} (h : x = 0 ∨ x = 1) : narrow .boolean (.int x) = .int x ∧ fits .boolean (.int x) = true := by
  rcases h with rfl | rfl <;> decide
/-- which type a written field has -/
def gFt (cd : Nat) : FieldType := if cd = 1 then .long else if cd = 2 then .boolean else .int
theorem gp_putfield {n a b : Nat} {q : gR} {v : gV} (hd : decode (hb y) pc = .ok (.putfield n, 3)) (hl : ∀ z, gobj a = some z → gFl (hy y).cls n z.1 b ∧ ∀ u, z.2[b]? = some u → u.1 ≤ 2 → gFw z.1 b (gFt u.1)) (k : gfp I J q a b v fun I2 J2 => gG E y (pc + 3) ls r I2 J2 B c w Q X) : gG E y pc ls (v :: .inr q :: r) I J B c w Q X := by
  intro hc hw p e s m args below meth cc ad0 Bs hC hT H locs LS ad hS
  unfold gfp at k
  split at k
  · rename_i x ci fl hqa ho
    have hqa : q.1 = a := Nat.eq_of_beq_eq_true hqa
    subst hqa
    have h3 := gobj_k3 ho
    have hq : q ∈ gids B := gV_ids (gvs_h (gvs_d hS.vs)) h3
    have hz := gobj_0 hq ho
    have hdr := gvs_d (gvs_d hS.vs)
    obtain ⟨hl1, hl2⟩ := hl _ ho
    have hI : ∀ x : Int32, ∀ r2 ∈ gids B, r2 ≠ q → genc (gca E) ad (gUI I q.1 q.2.1 0 b x) J B r2 = genc (gca E) ad I J B r2 := fun x => by
      have h := genc_UI (ca := gca E) (ad := ad) (I := I) (J := J) (B := B) (q := q) (j := b) (x := x)
      rw [hz] at h
      exact h
    split at k
    · rename_i dn hf
      obtain ⟨x, rfl, k⟩ := gvi_e k
      exact gh_put hC hS.1 hS.2.1 hq hd ho (List.getElem?_eq_some_iff.mp hf).1 hl1 (hl2 _ hf (show (0 : Nat) ≤ 2 by decide)) rfl rfl (gfvals_set_I hf ⟨by decide, by decide⟩) (hI x) (fun H1 locs1 hR hS1 => k hc hw p e s m args below meth cc ad0 Bs hC hT H1 locs1 LS ad (hS.ht hR hS1 hdr))
    · rename_i dn hf
      obtain ⟨x, rfl, k⟩ := gvl_e k
      exact gh_put hC hS.1 hS.2.1 hq hd ho (List.getElem?_eq_some_iff.mp hf).1 hl1 (hl2 _ hf (show (1 : Nat) ≤ 2 by decide)) rfl rfl (gfvals_set_J hf) (genc_UJ hq (Or.inl (by rw [ho]; exact fun h => by cases h))) (fun H1 locs1 hR hS1 => k hc hw p e s m args below meth cc ad0 Bs hC hT H1 locs1 LS ad (hS.ht hR hS1 hdr))
    · rename_i dn hf
      obtain ⟨x, rfl, h01, k⟩ := gvi_e k
      exact gh_put hC hS.1 hS.2.1 hq hd ho (List.getElem?_eq_some_iff.mp hf).1 hl1 (hl2 _ hf (show (2 : Nat) ≤ 2 by decide)) (fits_bool h01).1 (fits_bool h01).2 (gfvals_set_I hf ⟨by decide, by decide⟩) (hI x) (fun H1 locs1 hR hS1 => k hc hw p e s m args below meth cc ad0 Bs hC hT H1 locs1 LS ad (hS.ht hR hS1 hdr))
    · exact absurd k id
  · exact absurd k id
/-! rows of numbers -/
theorem garr_k3 {k : Nat} {z : Nat × Nat × Nat} (h : garr k = some z) : 3 ≤ k := by
  unfold garr at h
  split at h <;> first | omega | cases h
theorem gq_ids {q : gR} {z : Nat × Nat × Nat} (h : gVl B q) (ha : garr q.1 = some z) : q ∈ gids B := gV_ids h (garr_k3 ha)
theorem gx_0 (ad : gR → Nat) (H : Heap) (hR : gRep E ad I J B H) (q : gR) (h : gVl B q) (hk : q.1 = 0) : ad q = gax E (0, 0, 0) := by
  rcases h with rfl | rfl | h | h
  · exact hR.2.2.1 _ (by decide)
  · exact absurd hk (by decide)
  · omega
  · exact absurd (gall_k3 q (gids_all h)) (by omega)
theorem gx_1 (ad : gR → Nat) (H : Heap) (hR : gRep E ad I J B H) (q : gR) (h : gVl B q) (hk : q.1 = 1) : ad q = gax E (1, 0, 0) := by
  rcases h with rfl | rfl | h | h
  · exact absurd hk (by decide)
  · exact hR.2.2.1 _ (by decide)
  · omega
  · exact absurd (gall_k3 q (gids_all h)) (by omega)
theorem gp_iaload {q : gR} {i : Int32} (hd : decode (hb y) pc = .ok (.iaload, 1)) (k : gial (gL E) (gXs E) I q i fun x => gG E y (pc + 1) ls (.inl (.int x) :: r) I J B c w Q X) : gG E y pc ls (.inl (.int i) :: .inr q :: r) I J B c w Q X := by
  intro hc hw p e s m args below meth cc ad0 Bs hC hT H locs LS ad hS
  have hv := gvs_h (gvs_d hS.vs)
  have hdr := gvs_d (gvs_d hS.vs)
  have hE := hC.2.2.2.2.2.2.2
  unfold gial at k
  split at k
  · rename_i hk
    obtain ⟨hin, k⟩ := k
    have h7 := hE.2.2.2.2.2.2.1
    have h8 := hE.2.2.2.2.2.2.2.1
    have e0 : gcv ad (.inr q) = .ref (gax E (0, 0, 0)) := congrArg Value.ref (gx_0 ad H hS.1 q hv hk)
    rw [List.map_cons, List.map_cons, e0]
    exact va_sld hC.1 hC.2.1 h7 h8.2 h8.1 hS.2.1 hin hd (k hc hw p e s m args below meth cc ad0 Bs hC hT H locs LS ad (hS.tk (gvs_n hdr)))
  · rename_i hk
    obtain ⟨hin, k⟩ := k
    have h6 := hE.2.2.2.2.2.1
    have e0 : gcv ad (.inr q) = .ref (gax E (1, 0, 0)) := congrArg Value.ref (gx_1 ad H hS.1 q hv hk)
    rw [List.map_cons, List.map_cons, e0]
    exact va_ti hC.1 hC.2.1 h6 hS.2.1 hin rfl hd (k hc hw p e s m args below meth cc ad0 Bs hC hT H locs LS ad (hS.tk (gvs_n hdr)))
  · split at k
    · rename_i n rk ha
      obtain ⟨hin, k⟩ := k
      have hq := gq_ids hv ha
      obtain ⟨q0, -, hq0⟩ := gws_get (E := E) (ad := ad) (I := I) (J := J) hq
      rw [genc_arr ha] at hq0
      exact va_iald hC.1 hC.2.1 hE.1 hS.1.1 q0 0 hq0 rfl hin hd (k hc hw p e s m args below meth cc ad0 Bs hC hT H locs LS ad (hS.tk (gvs_n hdr)))
    · exact absurd k id
theorem gp_baload {q : gR} {i : Int32} (hd : decode (hb y) pc = .ok (.baload, 1)) (k : gbal I q i fun x => gG E y (pc + 1) ls (.inl (.int x) :: r) I J B c w Q X) : gG E y pc ls (.inl (.int i) :: .inr q :: r) I J B c w Q X := by
  intro hc hw p e s m args below meth cc ad0 Bs hC hT H locs LS ad hS
  have hv := gvs_h (gvs_d hS.vs)
  have hdr := gvs_d (gvs_d hS.vs)
  have hE := hC.2.2.2.2.2.2.2
  unfold gbal at k
  split at k
  · rename_i n rk ha
    obtain ⟨hin, k⟩ := k
    obtain ⟨q0, -, hq0⟩ := gws_get (E := E) (ad := ad) (I := I) (J := J) (gq_ids hv ha)
    rw [genc_arr ha] at hq0
    exact va_zald hC.1 hC.2.1 hE.1 hS.1.1 q0 2 hq0 rfl hin hd (k hc hw p e s m args below meth cc ad0 Bs hC hT H locs LS ad (hS.tk (gvs_n hdr)))
  · rename_i n rk ha
    obtain ⟨hin, k⟩ := k
    obtain ⟨q0, -, hq0⟩ := gws_get (E := E) (ad := ad) (I := I) (J := J) (gq_ids hv ha)
    rw [genc_arr ha] at hq0
    exact va_bald hC.1 hC.2.1 hE.1 hS.1.1 q0 3 hq0 rfl hin hd (k hc hw p e s m args below meth cc ad0 Bs hC hT H locs LS ad (hS.tk (gvs_n hdr)))
  · exact absurd k id
theorem gp_laload {q : gR} {i : Int32} (hd : decode (hb y) pc = .ok (.laload, 1)) (k : glal J q i fun x => gG E y (pc + 1) ls (.inl (.long x) :: r) I J B c w Q X) : gG E y pc ls (.inl (.int i) :: .inr q :: r) I J B c w Q X := by
  intro hc hw p e s m args below meth cc ad0 Bs hC hT H locs LS ad hS
  have hv := gvs_h (gvs_d hS.vs)
  have hdr := gvs_d (gvs_d hS.vs)
  have hE := hC.2.2.2.2.2.2.2
  unfold glal at k
  split at k
  · rename_i n rk ha
    obtain ⟨hin, k⟩ := k
    obtain ⟨q0, -, hq0⟩ := gws_get (E := E) (ad := ad) (I := I) (J := J) (gq_ids hv ha)
    rw [genc_arr ha] at hq0
    exact va_lald hC.1 hC.2.1 hE.1 hS.1.1 q0 1 hq0 rfl hin hd (k hc hw p e s m args below meth cc ad0 Bs hC hT H locs LS ad (hS.tk (gvs_n hdr)))
  · exact absurd k id
theorem gp_daload {q : gR} {i : Int32} (hd : decode (hb y) pc = .ok (.daload, 1)) (k : gdal J q i fun x => gG E y (pc + 1) ls (.inl (.double x) :: r) I J B c w Q X) : gG E y pc ls (.inl (.int i) :: .inr q :: r) I J B c w Q X := by
  intro hc hw p e s m args below meth cc ad0 Bs hC hT H locs LS ad hS
  have hv := gvs_h (gvs_d hS.vs)
  have hdr := gvs_d (gvs_d hS.vs)
  have hE := hC.2.2.2.2.2.2.2
  unfold gdal at k
  split at k
  · rename_i n rk ha
    obtain ⟨hin, k⟩ := k
    obtain ⟨q0, -, hq0⟩ := gws_get (E := E) (ad := ad) (I := I) (J := J) (gq_ids hv ha)
    rw [genc_arr ha] at hq0
    exact va_dald hC.1 hC.2.1 hE.1 hS.1.1 q0 4 hq0 rfl hin hd (k hc hw p e s m args below meth cc ad0 Bs hC hT H locs LS ad (hS.tk (gvs_n hdr)))
  · exact absurd k id
theorem gp_iastore {q : gR} {i x : Int32} (hd : decode (hb y) pc = .ok (.iastore, 1)) (k : gias I q i x fun I2 => gG E y (pc + 1) ls r I2 J B c w Q X) : gG E y pc ls (.inl (.int x) :: .inl (.int i) :: .inr q :: r) I J B c w Q X := by
  intro hc hw p e s m args below meth cc ad0 Bs hC hT H locs LS ad hS
  have hv := gvs_h (gvs_d (gvs_d hS.vs))
  have hdr := gvs_d (gvs_d (gvs_d hS.vs))
  have hE := hC.2.2.2.2.2.2.2
  unfold gias at k
  split at k
  · rename_i n rk ha
    obtain ⟨hin, k⟩ := k
    obtain ⟨q0, hq1, hq0⟩ := gws_get (E := E) (ad := ad) (I := I) (J := J) (gq_ids hv ha)
    rw [genc_arr ha] at hq0
    refine va_iast hC.1 hC.2.1 hE.1 hS.1.1 hS.1.2.1 hS.2.1 q0 0 hq0 rfl hin hd (fun H1 locs1 hP hD hS1 => ?_)
    refine k hc hw p e s m args below meth cc ad0 Bs hC hT H1 locs1 LS ad (hS.ht (gRep.put hS.1 hq1 rfl hS.1.2.2.2 ?_ genc_UI hP hD) hS1 hdr)
    rw [genc_arr ha]
    unfold garrE
    simp only
    rw [gUI_eq]
  · exact absurd k id
theorem gp_bastore {q : gR} {i x : Int32} (hd : decode (hb y) pc = .ok (.bastore, 1)) (k : gbas I q i x fun I2 => gG E y (pc + 1) ls r I2 J B c w Q X) : gG E y pc ls (.inl (.int x) :: .inl (.int i) :: .inr q :: r) I J B c w Q X := by
  intro hc hw p e s m args below meth cc ad0 Bs hC hT H locs LS ad hS
  have hv := gvs_h (gvs_d (gvs_d hS.vs))
  have hdr := gvs_d (gvs_d (gvs_d hS.vs))
  have hE := hC.2.2.2.2.2.2.2
  unfold gbas at k
  split at k
  · rename_i n rk ha
    obtain ⟨hin, k⟩ := k
    obtain ⟨q0, hq1, hq0⟩ := gws_get (E := E) (ad := ad) (I := I) (J := J) (gq_ids hv ha)
    rw [genc_arr ha] at hq0
    refine va_zast hC.1 hC.2.1 hE.1 hS.1.1 hS.1.2.1 hS.2.1 q0 2 hq0 rfl hin hd (fun H1 locs1 hP hD hS1 => ?_)
    refine k hc hw p e s m args below meth cc ad0 Bs hC hT H1 locs1 LS ad (hS.ht (gRep.put hS.1 hq1 rfl hS.1.2.2.2 ?_ genc_UI hP hD) hS1 hdr)
    rw [genc_arr ha]
    unfold garrE
    simp only
    rw [gUI_eq]
  · rename_i n rk ha
    obtain ⟨hin, k⟩ := k
    obtain ⟨q0, hq1, hq0⟩ := gws_get (E := E) (ad := ad) (I := I) (J := J) (gq_ids hv ha)
    rw [genc_arr ha] at hq0
    refine va_bast hC.1 hC.2.1 hE.1 hS.1.1 hS.1.2.1 hS.2.1 q0 3 hq0 rfl hin hd (fun H1 locs1 hP hD hS1 => ?_)
    rw [vp_nar_byte] at hP hD
    refine k hc hw p e s m args below meth cc ad0 Bs hC hT H1 locs1 LS ad (hS.ht (gRep.put hS.1 hq1 rfl hS.1.2.2.2 ?_ genc_UI hP hD) hS1 hdr)
    rw [genc_arr ha]
    unfold garrE
    simp only
    rw [gUI_eq]
  · exact absurd k id
theorem gp_lastore {q : gR} {i : Int32} {x : Int64} (hd : decode (hb y) pc = .ok (.lastore, 1)) (k : glas J q i x fun J2 => gG E y (pc + 1) ls r I J2 B c w Q X) : gG E y pc ls (.inl (.long x) :: .inl (.int i) :: .inr q :: r) I J B c w Q X := by
  intro hc hw p e s m args below meth cc ad0 Bs hC hT H locs LS ad hS
  have hv := gvs_h (gvs_d (gvs_d hS.vs))
  have hdr := gvs_d (gvs_d (gvs_d hS.vs))
  have hE := hC.2.2.2.2.2.2.2
  unfold glas at k
  split at k
  · rename_i n rk ha
    obtain ⟨hin, k⟩ := k
    have hq := gq_ids hv ha
    obtain ⟨q0, hq1, hq0⟩ := gws_get (E := E) (ad := ad) (I := I) (J := J) hq
    rw [genc_arr ha] at hq0
    refine va_last hC.1 hC.2.1 hE.1 hS.1.1 hS.1.2.1 hS.2.1 q0 1 hq0 rfl hin hd (fun H1 locs1 hP hD hS1 => ?_)
    refine k hc hw p e s m args below meth cc ad0 Bs hC hT H1 locs1 LS ad (hS.ht (gRep.put hS.1 hq1 rfl hS.1.2.2.2 ?_ (genc_UJ hq (Or.inr (by rw [ha]; simp))) hP hD) hS1 hdr)
    rw [genc_arr ha]
    unfold garrE
    simp only
    rw [gUJ_eq]
  · exact absurd k id
theorem gp_dastore {q : gR} {i : Int32} {x : UInt64} (hd : decode (hb y) pc = .ok (.dastore, 1)) (k : gdas J q i x fun J2 => gG E y (pc + 1) ls r I J2 B c w Q X) : gG E y pc ls (.inl (.double x) :: .inl (.int i) :: .inr q :: r) I J B c w Q X := by
  intro hc hw p e s m args below meth cc ad0 Bs hC hT H locs LS ad hS
  have hv := gvs_h (gvs_d (gvs_d hS.vs))
  have hdr := gvs_d (gvs_d (gvs_d hS.vs))
  have hE := hC.2.2.2.2.2.2.2
  unfold gdas at k
  split at k
  · rename_i n rk ha
    obtain ⟨hin, k⟩ := k
    have hq := gq_ids hv ha
    obtain ⟨q0, hq1, hq0⟩ := gws_get (E := E) (ad := ad) (I := I) (J := J) hq
    rw [genc_arr ha] at hq0
    refine va_dast hC.1 hC.2.1 hE.1 hS.1.1 hS.1.2.1 hS.2.1 q0 4 hq0 rfl hin hd (fun H1 locs1 hP hD hS1 => ?_)
    refine k hc hw p e s m args below meth cc ad0 Bs hC hT H1 locs1 LS ad (hS.ht (gRep.put hS.1 hq1 rfl hS.1.2.2.2 ?_ (genc_UJ hq (Or.inr (by rw [ha]; simp))) hP hD) hS1 hdr)
    rw [genc_arr ha]
    unfold garrE
    simp only
    rw [gUJ_eq]
    congr 7
    funext j
    simp only [vp_updL, vf_upd]
    split <;> simp
  · exact absurd k id
theorem gp_arraylength {q : gR} (hd : decode (hb y) pc = .ok (.arraylength, 1)) (k : gln (gL E) q fun x => gG E y (pc + 1) ls (.inl (.int x) :: r) I J B c w Q X) : gG E y pc ls (.inr q :: r) I J B c w Q X := by
  intro hc hw p e s m args below meth cc ad0 Bs hC hT H locs LS ad hS
  have hv := gvs_h hS.vs
  have hdr := gvs_d hS.vs
  have hE := hC.2.2.2.2.2.2.2
  unfold gln at k
  split at k
  · rename_i hk
    have h7 := hE.2.2.2.2.2.2.1
    have h8 := hE.2.2.2.2.2.2.2.1
    have e0 : gcv ad (.inr q) = .ref (gax E (0, 0, 0)) := congrArg Value.ref (gx_0 ad H hS.1 q hv hk)
    rw [List.map_cons, e0]
    exact va_slen hC.1 hC.2.1 h7 h8.2 h8.1 hS.2.1 hd (k hc hw p e s m args below meth cc ad0 Bs hC hT H locs LS ad (hS.tk (gvs_n hdr)))
  · rename_i hk
    have h6 := hE.2.2.2.2.2.1
    have e0 : gcv ad (.inr q) = .ref (gax E (1, 0, 0)) := congrArg Value.ref (gx_1 ad H hS.1 q hv hk)
    rw [List.map_cons, e0]
    exact va_tlen hC.1 hC.2.1 h6 hS.2.1 rfl hd (k hc hw p e s m args below meth cc ad0 Bs hC hT H locs LS ad (hS.tk (gvs_n hdr)))
  · split at k
    · rename_i t n rk ha
      have hq := gq_ids hv ha
      obtain ⟨q0, -, hq0⟩ := gws_get (E := E) (ad := ad) (I := I) (J := J) hq
      rw [genc_arr ha] at hq0
      have hh := k hc hw p e s m args below meth cc ad0 Bs hC hT H locs LS ad (hS.tk (gvs_n hdr))
      unfold garrE at hq0
      split at hq0
      · exact va_alen hC.1 hC.2.1 hE.1 hS.1.1 q0 0 hq0 (ty := .int) rfl rfl hd hh
      · exact va_alen hC.1 hC.2.1 hE.1 hS.1.1 q0 1 hq0 (ty := .long) rfl rfl hd hh
      · exact va_alen hC.1 hC.2.1 hE.1 hS.1.1 q0 2 hq0 (ty := .boolean) rfl rfl hd hh
      · exact va_alen hC.1 hC.2.1 hE.1 hS.1.1 q0 3 hq0 (ty := .byte) rfl rfl hd hh
      · exact va_alen hC.1 hC.2.1 hE.1 hS.1.1 q0 4 hq0 (ty := .double) rfl rfl hd hh
      · exact va_alen hC.1 hC.2.1 hE.1 hS.1.1 q0 5 hq0 (ty := .array .int) rfl rfl hd hh
      · exact va_alen hC.1 hC.2.1 hE.1 hS.1.1 q0 6 hq0 (ty := .object "ToeplitzLab$State") rfl rfl hd hh
    · exact absurd k id
theorem gp_getstatic {n : Nat} (hd : decode (hb y) pc = .ok (.getstatic n, 3)) (hl : Cond.fieldLink (hy y).cls n "ToeplitzLab" "PRIMES" "[I" ∈ gBig) (k : gG E y (pc + 3) ls (.inr (1, 0, 0) :: r) I J B c w Q X) : gG E y pc ls r I J B c w Q X := by
  intro hc hw p e s m args below meth cc ad0 Bs hC hT H locs LS ad hS
  have hE := hC.2.2.2.2.2.2.2
  have e2 : ad (1, 0, 0) = gax E (1, 0, 0) := hS.1.2.2.1 _ (by decide)
  refine va_gets hC.1 hC.2.1 hE.2.2.2.2.1 hS.2.1 hC.2.2.2.2.1 (hC.2.2.2.2.2.1 _ hl) (fun _ h => h) hd ?_
  have kk := k hc hw p e s m args below meth cc ad0 Bs hC hT H locs LS ad (hS.tk (gvs_c (Or.inr (Or.inl rfl)) hS.vs))
  rw [List.map_cons, show gcv ad (.inr (1, 0, 0)) = .ref (gax E (1, 0, 0)) from congrArg Value.ref e2] at kk
  exact kk
end GH
end
section
/-! ===== rows of references, copies, ends, throws, calls ===== -/
section GH
variable {E : gEn} {y pc : Nat} {ls : List (Nat × gV)} {st r : List gV} {I : gI} {J : gJ} {B : gB} {c w : Nat} {Q : gQt} {X : gXt}
/-- the rows that outer rows hold stand; the states that kept rows hold stand -/
theorem gall_rows : ∀ r ∈ gall, ∀ n rk, garr r.1 = some (5, n, rk) → ∀ j, j < n → (rk, r.2.1, j) ∈ gall := by
  have h : ∀ r ∈ gall, (garr r.1).all (fun z => !(Nat.beq z.1 5) || (List.range z.2.1).all (fun j => decide ((z.2.2, r.2.1, j) ∈ gall))) = true := by decide +kernel
  intro r hr n rk ha j hj
  have h1 := h r hr
  rw [ha] at h1
  simp only [Option.all_some] at h1
  have h2 : (List.range n).all (fun j => decide ((rk, r.2.1, j) ∈ gall)) = true := h1
  have h3 := List.all_eq_true.mp h2 j (List.mem_range.mpr hj)
  exact of_decide_eq_true h3
theorem gall_sts : ∀ k n rk, garr k = some (6, n, rk) → 3 ≤ rk ∧ rk + n ≤ 13 := by
  intro k n rk h
  unfold garr at h
  split at h <;> cases h <;> decide
theorem gall_st : ∀ m, m ≤ 12 → (6, m, 0) ∈ gall := by
  have h : ∀ m, m < 13 → (6, m, 0) ∈ gall := by decide +kernel
  intro m hm
  exact h m (by omega)
theorem gids_st {m : Nat} (h : m ≤ 12) (hB : B m = true) : (6, m, 0) ∈ gids B := List.mem_filter.mpr ⟨gall_st m h, by simp only [hB, Bool.or_true]⟩
theorem gids_row {q : gR} {n rk j : Nat} (hq : q ∈ gids B) (ha : garr q.1 = some (5, n, rk)) (hj : j < n) : (rk, q.2.1, j) ∈ gids B := by
  obtain ⟨h1, h2⟩ := List.mem_filter.mp hq
  exact List.mem_filter.mpr ⟨gall_rows q h1 n rk ha j hj, h2⟩
theorem gp_aaload {q : gR} {i : Int32} (hd : decode (hb y) pc = .ok (.aaload, 1)) (k : gaal B q i fun x => gG E y (pc + 1) ls (x :: r) I J B c w Q X) : gG E y pc ls (.inl (.int i) :: .inr q :: r) I J B c w Q X := by
  intro hc hw p e s m args below meth cc ad0 Bs hC hT H locs LS ad hS
  have hv := gvs_h (gvs_d hS.vs)
  have hdr := gvs_d (gvs_d hS.vs)
  have hE := hC.2.2.2.2.2.2.2
  unfold gaal at k
  split at k
  · rename_i n rk ha
    obtain ⟨hin, k⟩ := k
    have hlt : i.toNatClampNeg < n := Nat.not_le.mp fun q => hin (Or.inr q)
    have hq := gq_ids hv ha
    obtain ⟨q0, -, hq0⟩ := gws_get (E := E) (ad := ad) (I := I) (J := J) hq
    rw [genc_arr ha] at hq0
    refine W.aald (v := .ref (ad (rk, q.2.1, i.toNatClampNeg))) (ty := .array .int) hC.1 hC.2.1 (hS.1.1 q0 _ hq0) ((hE.1.2 5 (gca E 5, .array .int) rfl).1 n (fun j => va_rf (some (ad (rk, q.2.1, j))))) rfl (fun q => by cases q) (by show ¬ (i < 0 ∨ (arrV _ _ _).slots.size ≤ _); rw [arrV_size]; exact hin) (by show (arrV _ _ _).slots[_]? = _; rw [arrV_read _ _ hlt]; rfl) rfl rfl hd ?_
    exact k hc hw p e s m args below meth cc ad0 Bs hC hT H locs LS ad (hS.tk (gvs_c (gV_of (gids_row hq ha hlt)) hdr))
  · rename_i n rk ha
    obtain ⟨hin, k1, k2⟩ := k
    have hlt : i.toNatClampNeg < n := Nat.not_le.mp fun q => hin (Or.inr q)
    have hq := gq_ids hv ha
    obtain ⟨q0, -, hq0⟩ := gws_get (E := E) (ad := ad) (I := I) (J := J) hq
    rw [genc_arr ha] at hq0
    have hbl : Nat.blt i.toNatClampNeg n = true := Nat.ble_eq_true_of_le hlt
    obtain ⟨hr1, hr2⟩ := gall_sts _ _ _ ha
    cases hb : B (rk + i.toNatClampNeg + 17) with
    | true =>
      refine W.aald (v := .ref (ad (6, rk + i.toNatClampNeg, 0))) (ty := .object "ToeplitzLab$State") hC.1 hC.2.1 (hS.1.1 q0 _ hq0) ((hE.1.2 6 (gca E 6, .object "ToeplitzLab$State") rfl).1 n (fun j => va_rf (if Nat.blt j n && B (rk + j + 17) then some (ad (6, rk + j, 0)) else none))) rfl (fun q => by cases q) (by show ¬ (i < 0 ∨ (arrV _ _ _).slots.size ≤ _); rw [arrV_size]; exact hin) (by show (arrV _ _ _).slots[_]? = _; rw [arrV_read _ _ hlt]; simp [hbl, hb, va_rf]) rfl rfl hd ?_
      exact k1 hb hc hw p e s m args below meth cc ad0 Bs hC hT H locs LS ad (hS.tk (gvs_c (gV_of (gids_st (by omega) (hS.1.2.2.2 _ (by omega) (by omega) hb))) hdr))
    | false =>
      refine W.aald (v := .null) (ty := .object "ToeplitzLab$State") hC.1 hC.2.1 (hS.1.1 q0 _ hq0) ((hE.1.2 6 (gca E 6, .object "ToeplitzLab$State") rfl).1 n (fun j => va_rf (if Nat.blt j n && B (rk + j + 17) then some (ad (6, rk + j, 0)) else none))) rfl (fun q => by cases q) (by show ¬ (i < 0 ∨ (arrV _ _ _).slots.size ≤ _); rw [arrV_size]; exact hin) (by show (arrV _ _ _).slots[_]? = _; rw [arrV_read _ _ hlt]; simp [hbl, hb, va_rf]) rfl rfl hd ?_
      exact k2 hb hc hw p e s m args below meth cc ad0 Bs hC hT H locs LS ad (hS.tk (gvs_n hdr))
  · exact absurd k id
theorem gall_n12 : ∀ r ∈ gall, r.2.1 ≤ 12 := by decide +kernel
theorem gids_flag {f : Nat} (hf : 13 ≤ f) : gids (gUB B f) = gids B := by
  unfold gids
  apply List.filter_congr
  intro r hr
  have h := gall_n12 r hr
  rw [show gUB B f r.2.1 = B r.2.1 from if_neg (by omega)]
theorem gBok_flag {f : Nat} (h : gBok B) (hf : 20 ≤ f) (hB : B (f - 17) = true) : gBok (gUB B f) := by
  intro n h1 h2 h3
  unfold gUB at h3 ⊢
  rw [if_neg (by omega)]
  by_cases e : n + 17 = f
  · rw [show f - 17 = n by omega] at hB
    exact hB
  · rw [if_neg e] at h3
    exact h n h1 h2 h3
theorem gLe_UB {f : Nat} : gLe B (gUB B f) := fun n h => by
  unfold gUB
  split
  · rfl
  · exact h
theorem gLe.tr {B1 B2 B3 : gB} (h1 : gLe B1 B2) (h2 : gLe B2 B3) : gLe B1 B3 := fun n h => h2 n (h1 n h)
theorem gids_le {B1 B2 : gB} (h : gLe B1 B2) {q : gR} (hq : q ∈ gids B1) : q ∈ gids B2 := by
  obtain ⟨h1, h2⟩ := List.mem_filter.mp hq
  refine List.mem_filter.mpr ⟨h1, ?_⟩
  rcases Bool.or_eq_true_iff.mp h2 with h3 | h3
  · simp only [h3, Bool.true_or]
  · simp only [h _ h3, Bool.or_true]
theorem gVl_le {B1 B2 : gB} (h : gLe B1 B2) {q : gR} (hq : gVl B1 q) : gVl B2 q := by
  rcases hq with e | e | e | e
  · exact Or.inl e
  · exact Or.inr (Or.inl e)
  · exact Or.inr (Or.inr (Or.inl e))
  · exact Or.inr (Or.inr (Or.inr (gids_le h e)))
theorem gVv_le {B1 B2 : gB} (h : gLe B1 B2) {v : gV} (hv : gVv B1 v) : gVv B2 v := by
  cases v with
  | inl _ => trivial
  | inr q => exact gVl_le h hv
theorem gp_aastore {q v : gR} {i : Int32} (hd : decode (hb y) pc = .ok (.aastore, 1)) (k : gaas B q v i fun B2 => gG E y (pc + 1) ls r I J B2 c w Q X) : gG E y pc ls (.inr v :: .inl (.int i) :: .inr q :: r) I J B c w Q X := by
  intro hc hw p e s m args below meth cc ad0 Bs hC hT H locs LS ad hS
  have hv := gvs_h (gvs_d (gvs_d hS.vs))
  have hvv := gvs_h hS.vs
  have hdr := gvs_d (gvs_d (gvs_d hS.vs))
  have hE := hC.2.2.2.2.2.2.2
  unfold gaas at k
  split at k
  · rename_i n rk ha
    obtain ⟨hin, rfl, k⟩ := k
    have hlt : i.toNatClampNeg < n := Nat.not_le.mp fun q => hin (Or.inr q)
    have hq := gq_ids hv ha
    obtain ⟨q0, hq1, hq0⟩ := gws_get (E := E) (ad := ad) (I := I) (J := J) hq
    rw [genc_arr ha] at hq0
    obtain ⟨hr1, hr2⟩ := gall_sts _ _ _ ha
    have hvi : (6, rk + i.toNatClampNeg, 0) ∈ gids B := gV_ids hvv (show (3 : Nat) ≤ 6 by decide)
    have hBm : B (rk + i.toNatClampNeg) = true := by
      have h2 := (List.mem_filter.mp hvi).2
      rcases Bool.or_eq_true_iff.mp h2 with h3 | h3
      · have : rk + i.toNatClampNeg < 3 := Nat.le_of_ble_eq_true h3
        omega
      · exact h3
    obtain ⟨qk, -, hqk⟩ := gws_get (E := E) (ad := ad) (I := I) (J := J) hvi
    rw [genc_obj (ci := 6) rfl] at hqk
    have hf : 13 ≤ rk + i.toNatClampNeg + 17 := by omega
    refine va_astq (r := (RX6, TX6, 11)) (ci := 6) hC.1 hC.2.1 hE.1 hS.1.1 hS.1.2.1 hS.2.1 q0 6 qk hq0 rfl hqk rfl hin hd (fun H1 locs1 hP hD hS1 => ?_)
    have hR := gRep.put (I2 := I) (J2 := J) (B2 := gUB B (rk + i.toNatClampNeg + 17)) hS.1 hq1 (gids_flag hf) (gBok_flag hS.1.2.2.2 (by omega) (by rw [show rk + i.toNatClampNeg + 17 - 17 = rk + i.toNatClampNeg by omega]; exact hBm)) ?_ ?_ hP hD
    · exact k hc hw p e s m args below meth cc ad0 Bs hC hT H1 locs1 LS ad ⟨hR, hS1, hS.2.2.1, hS.2.2.2.1, hS.2.2.2.2.1.tr gLe_UB, fun z hz => gVv_le gLe_UB (hS.2.2.2.2.2.1 z hz), fun z hz => gVv_le gLe_UB (hdr z hz)⟩
    · rw [genc_arr ha]
      unfold garrE
      simp only
      congr 7
      funext j
      unfold va_up gUB
      by_cases hj : j = i.toNatClampNeg
      · subst hj
        rw [if_pos rfl, if_pos rfl, show Nat.blt i.toNatClampNeg n = true from Nat.ble_eq_true_of_le hlt]
        rfl
      · rw [if_neg hj, if_neg (show ¬ rk + j + 17 = rk + i.toNatClampNeg + 17 by omega)]
    · intro r2 h2 hne
      refine genc_cong (gids_all h2) rfl (fun _ => rfl) ?_
      intro n2 rk2 ha2 j hj
      unfold gUB
      rw [if_neg]
      intro e
      obtain ⟨g1, g2⟩ := gall_sts _ _ _ ha2
      have hk : r2.1 = q.1 := by
        have key : ∀ k k2 n n2 rk rk2 : Nat, garr k = some (6, n, rk) → garr k2 = some (6, n2, rk2) → ∀ j i, j < n2 → i < n → rk2 + j + 17 = rk + i + 17 → k2 = k := by
          intro k k2 n n2 rk rk2 h1 h2
          unfold garr at h1 h2
          split at h1 <;> cases h1 <;> split at h2 <;> cases h2 <;> intro j i h3 h4 h5 <;> first | rfl | omega
        exact key _ _ _ _ _ _ ha ha2 _ _ hj hlt e
      have key2 : ∀ r ∈ gall, ∀ r2 ∈ gall, (garr r.1).map (fun z => z.1) = some 6 → r2.1 = r.1 → r2 = r := by decide +kernel
      exact hne (key2 q (gids_all hq) r2 (gids_all h2) (by rw [ha]; rfl) hk)
  · exact absurd k id
end GH
end
section
/-! ===== copies, ends, throws, calls ===== -/
section GH
variable {E : gEn} {y pc : Nat} {ls : List (Nat × gV)} {st r : List gV} {I : gI} {J : gJ} {B : gB} {c w : Nat} {Q : gQt} {X : gXt}
theorem gcpI_ne {s d : gR} {sp dp n a b e : Nat} (h : (a, b, e) ≠ d) : gcpI I s d sp dp n a b e = I a b e := by
  funext j
  unfold gcpI
  rw [if_neg]
  rintro ⟨h1, h2, h3⟩
  exact h (Prod.ext h1 (Prod.ext h2 h3))
theorem gcpI_eq {s d : gR} {sp dp n : Nat} : gcpI I s d sp dp n d.1 d.2.1 d.2.2 = va_cpy (I s.1 s.2.1 s.2.2) (I d.1 d.2.1 d.2.2) sp dp n := by
  funext j
  unfold gcpI
  rw [if_pos ⟨rfl, rfl, rfl⟩]
theorem gcpJ_ne {s d : gR} {sp dp n a b : Nat} (h : ¬ (a = d.1 ∧ b = d.2.1)) : gcpJ J s d sp dp n a b = J a b := by
  funext j
  unfold gcpJ
  rw [if_neg h]
theorem gcpJ_eq {s d : gR} {sp dp n : Nat} : gcpJ J s d sp dp n d.1 d.2.1 = va_cpy (J s.1 s.2.1) (J d.1 d.2.1) sp dp n := by
  funext j
  unfold gcpJ
  rw [if_pos ⟨rfl, rfl⟩]
theorem gsum_cv (ad : gR → Nat) (st : List gV) : ((st.map (gcv ad)).map fun v => v.category).sum = gsum st := by
  unfold gsum
  rw [List.map_map]
  congr 1
  apply List.map_congr_left
  intro v _
  exact gcat_cv ad v
theorem gp_copy {n : Nat} {s0 d : gR} {sp dp k0 : Int32} (hd : decode (hb y) pc = .ok (.invokestatic n, 3)) (hl : Cond.methodLink (hy y).cls n arraycopyName ∈ gBig ∧ Cond.native arraycopyName ∈ gBig ∧ Cond.static arraycopyName ∈ gBig ∧ Cond.initialized "java/lang/System" ∈ gBig) (hfc : 1 ≤ hfr y) (hlc : 26 ≤ hlo y) (hsm : gsum r ≤ 8)
    (k : gcpy I J s0 d sp dp k0 fun I2 J2 => gG E y (pc + 3) ls r I2 J2 B c w Q X) : gG E y pc ls (.inl (.int k0) :: .inl (.int dp) :: .inr d :: .inl (.int sp) :: .inr s0 :: r) I J B c w Q X := by
  intro hc hw p e s m args below meth cc ad0 Bs hC hT H locs LS ad hS
  have hvd := gvs_h (gvs_d (gvs_d hS.vs))
  have hvs := gvs_h (gvs_d (gvs_d (gvs_d (gvs_d hS.vs))))
  have hdr := gvs_d (gvs_d (gvs_d (gvs_d (gvs_d hS.vs))))
  obtain ⟨hx, hb, hr, hml, hown, hts, hlk, hE⟩ := id hC
  obtain ⟨l1, l2, l3, l4⟩ := hl
  have hroom : (((r.map (gcv ad)).map fun v => v.category).sum + (nativeFrameWords "java/lang/System" "arraycopy" 5 + 11)) ≤ (hrm y).locals := by
    rw [gsum_cv]
    show gsum r + (nativeFrameWords "java/lang/System" "arraycopy" 5 + 11) ≤ hlo y
    have : nativeFrameWords "java/lang/System" "arraycopy" 5 = 7 := by decide +kernel
    omega
  unfold gcpy at k
  split at k
  · rename_i n0 r0 n1 r1 ha0 ha1
    obtain ⟨⟨h1, h2, h3, h4, h5, h6⟩, k⟩ := k
    obtain ⟨q0, -, hq0⟩ := gws_get (E := E) (ad := ad) (I := I) (J := J) (gq_ids hvs ha0)
    obtain ⟨q1, hq11, hq1⟩ := gws_get (E := E) (ad := ad) (I := I) (J := J) (gq_ids hvd ha1)
    rw [genc_arr ha0] at hq0
    rw [genc_arr ha1] at hq1
    refine va_copyi hx hb (hml.trans hS.2.2.1.1.symm) hown (hts _ l1) (hts _ l2) (hts _ l3) (hts _ l4) hE.1 hS.1.1 hS.1.2.1 hS.2.1 q0 q1 0 0 hq0 hq1 rfl rfl rfl h1 h2 h3 h4 h5 (fun _ _ => rfl) hfc hroom hd (fun H1 locs1 hP hD hS1 => ?_)
    refine k hc hw p e s m args below meth cc ad0 Bs hC hT H1 locs1 LS ad (hS.ht (gRep.put hS.1 hq11 rfl hS.1.2.2.2 ?_ ?_ hP hD) hS1 hdr)
    · rw [genc_arr ha1]
      unfold garrE
      simp only
      rw [gcpI_eq]
    · intro r2 hr2 hne
      exact genc_cong (gids_all hr2) (gcpI_ne hne) (fun _ => rfl) (fun _ _ _ _ _ => rfl)
  · rename_i n0 r0 n1 r1 ha0 ha1
    obtain ⟨⟨h1, h2, h3, h4, h5, h6⟩, k⟩ := k
    have hqd := gq_ids hvd ha1
    obtain ⟨q0, -, hq0⟩ := gws_get (E := E) (ad := ad) (I := I) (J := J) (gq_ids hvs ha0)
    obtain ⟨q1, hq11, hq1⟩ := gws_get (E := E) (ad := ad) (I := I) (J := J) hqd
    rw [genc_arr ha0] at hq0
    rw [genc_arr ha1] at hq1
    refine va_copyl hx hb (hml.trans hS.2.2.1.1.symm) hown (hts _ l1) (hts _ l2) (hts _ l3) (hts _ l4) hE.1 hS.1.1 hS.1.2.1 hS.2.1 q0 q1 1 1 hq0 hq1 rfl rfl rfl h1 h2 h3 h4 h5 (fun _ _ => rfl) hfc hroom hd (fun H1 locs1 hP hD hS1 => ?_)
    refine k hc hw p e s m args below meth cc ad0 Bs hC hT H1 locs1 LS ad (hS.ht (gRep.put hS.1 hq11 rfl hS.1.2.2.2 ?_ ?_ hP hD) hS1 hdr)
    · rw [genc_arr ha1]
      unfold garrE
      simp only
      rw [gcpJ_eq]
    · intro r2 hr2 hne
      refine genc_cong (gids_all hr2) rfl (fun h => gcpJ_ne ?_) (fun _ _ _ _ _ => rfl)
      rintro ⟨e1, e2⟩
      have z1 : d.2.2 = 0 := by
        rcases gall_i0 d (gids_all hqd) with h | ⟨h, h'⟩
        · exact h
        · rw [ha1] at h'; exact absurd h' (by simp)
      have z2 : r2.2.2 = 0 := by
        rcases gall_i0 r2 (gids_all hr2) with h3 | ⟨h3, h'⟩
        · exact h3
        · rcases h with h | h
          · exact absurd h3 h
          · exact absurd h' h
      exact hne (Prod.ext e1 (Prod.ext e2 (z2.trans z1.symm)))
  · exact absurd k id
/-! ends -/
theorem gfree {E : gEn} {s : State} {H : Heap} {locs : List Loc} (h : va_S (gA E) s.heap H locs) : ∀ q ∈ locs, gA E q.base := h.2.2
theorem gQ_of {ad0 ad : gR → Nat} {Bs : gB} {s t : State} {H : Heap} {locs : List Loc} {v : gV} {args : Array Value} (hR : gRep E ad I J B H) (hS : va_S (gA E) s.heap H locs) (hx : gExt ad0 Bs ad) (hle : gLe Bs B) (hv : gVv B v) (hq : Q v I J B) (ht : t.heap = H) : gQc E y ad0 Bs Q args s (.returned (gout y ad v)) t := ⟨⟨v, I, J, B, ad, rfl, hq, by rw [ht]; exact hR, hx, hle, hv⟩, hS.F ht⟩
theorem gp_ireturn {x : Int32} (hd : decode (hb y) pc = .ok (.ireturn, 1)) (hr : hr y = some .int) (k : Q (.inl (.int x)) I J B) : gG E y pc ls [.inl (.int x)] I J B c w Q X := by
  intro hc hw p e s m args below meth cc ad0 Bs hC hT H locs LS ad hS
  refine vx_ret (W.widen hc hw ?_)
  refine W.iret (v := x) hC.1 hC.2.1 (hC.2.2.1.trans hr) (fun t ht hW => ?_) (gfree hS.2.1) hd hC.2.2.2.2.2.2.1
  have h := gQ_of (y := y) (args := args) (v := .inl (.int x)) hS.1 hS.2.1 hS.2.2.2.1 hS.2.2.2.2.1 trivial k ht
  unfold gout at h
  rw [hr] at h
  exact h
theorem gp_zreturn {x : Int32} {ty : FieldType} (hd : decode (hb y) pc = .ok (.ireturn, 1)) (hr : hr y = some ty) (hn : narrow ty (.int x) = .int x) (k : Q (.inl (.int x)) I J B) : gG E y pc ls [.inl (.int x)] I J B c w Q X := by
  intro hc hw p e s m args below meth cc ad0 Bs hC hT H locs LS ad hS
  refine vx_ret (W.widen hc hw ?_)
  refine W.zret (v := x) hC.1 hC.2.1 (hC.2.2.1.trans hr) hn (fun t ht hW => ?_) (gfree hS.2.1) hd hC.2.2.2.2.2.2.1
  have h := gQ_of (y := y) (args := args) (v := .inl (.int x)) hS.1 hS.2.1 hS.2.2.2.1 hS.2.2.2.2.1 trivial k ht
  unfold gout at h
  rw [hr] at h
  exact h
theorem gp_lreturn {x : Int64} (hd : decode (hb y) pc = .ok (.lreturn, 1)) (hr : hr y = some .long) (k : Q (.inl (.long x)) I J B) : gG E y pc ls [.inl (.long x)] I J B c w Q X := by
  intro hc hw p e s m args below meth cc ad0 Bs hC hT H locs LS ad hS
  refine vx_ret (W.widen hc hw ?_)
  refine W.lret (v := x) hC.1 hC.2.1 (hC.2.2.1.trans hr) (fun t ht hW => ?_) (gfree hS.2.1) hd hC.2.2.2.2.2.2.1
  have h := gQ_of (y := y) (args := args) (v := .inl (.long x)) hS.1 hS.2.1 hS.2.2.2.1 hS.2.2.2.2.1 trivial k ht
  unfold gout at h
  rw [hr] at h
  exact h
theorem gp_dreturn {x : UInt64} (hd : decode (hb y) pc = .ok (.dreturn, 1)) (hr : hr y = some .double) (k : Q (.inl (.double x)) I J B) : gG E y pc ls [.inl (.double x)] I J B c w Q X := by
  intro hc hw p e s m args below meth cc ad0 Bs hC hT H locs LS ad hS
  refine vx_ret (W.widen hc hw ?_)
  refine W.dret (v := x) hC.1 hC.2.1 (hC.2.2.1.trans hr) (fun t ht hW => ?_) (gfree hS.2.1) hd hC.2.2.2.2.2.2.1
  have h := gQ_of (y := y) (args := args) (v := .inl (.double x)) hS.1 hS.2.1 hS.2.2.2.1 hS.2.2.2.2.1 trivial k ht
  unfold gout at h
  rw [hr] at h
  exact h
theorem gp_vreturn (hd : decode (hb y) pc = .ok (.return_, 1)) (hr : hr y = none) (k : Q (.inl .null) I J B) : gG E y pc ls [] I J B c w Q X := by
  intro hc hw p e s m args below meth cc ad0 Bs hC hT H locs LS ad hS
  refine vx_ret (W.widen hc hw ?_)
  refine W.vret hC.1 hC.2.1 (hC.2.2.1.trans hr) (fun t ht hW => ?_) (gfree hS.2.1) hd hC.2.2.2.2.2.2.1
  have h := gQ_of (y := y) (args := args) (v := .inl .null) hS.1 hS.2.1 hS.2.2.2.1 hS.2.2.2.2.1 trivial k ht
  unfold gout at h
  rw [hr] at h
  exact h
theorem gp_areturn {v : gV} {C : String} (hd : decode (hb y) pc = .ok (.areturn, 1)) (hr : hr y = some (.object C)) (hv : v = .inl .null ∨ ∃ q, v = .inr q) (k : Q v I J B) : gG E y pc ls [v] I J B c w Q X := by
  intro hc hw p e s m args below meth cc ad0 Bs hC hT H locs LS ad hS
  refine vx_ret (W.widen hc hw ?_)
  refine W.aret (v := gcv ad v) hC.1 hC.2.1 (hC.2.2.1.trans hr) (Or.inl ⟨C, rfl⟩) ?_ (fun t ht hW => ?_) (gfree hS.2.1) hd hC.2.2.2.2.2.2.1
  · rcases hv with rfl | ⟨q, rfl⟩
    · exact Or.inl rfl
    · exact Or.inr ⟨_, rfl⟩
  · have h := gQ_of (y := y) (args := args) (v := v) hS.1 hS.2.1 hS.2.2.2.1 hS.2.2.2.2.1 (gvs_h hS.vs) k ht
    unfold gout at h
    rw [hr] at h
    exact h
end GH
end
section
/-! ===== throws and calls ===== -/
theorem gNst_tab : ∀ w ∈ gNst, w.onTables = true := by decide +kernel
section GH
variable {E : gEn} {y pc : Nat} {ls : List (Nat × gV)} {st r : List gV} {I : gI} {J : gJ} {B : gB} {c w : Nat} {Q : gQt} {X : gXt}
theorem gRep.kept {ad : gR → Nat} {H H1 : Heap} (h : gRep E ad I J B H) (hq : ∀ q : Nat, q < H.size → H1[q]? = H[q]?) : gRep E ad I J B H1 :=
  ⟨h.1.kept (fun k q hk => hq q.1 (h.1 k q hk).lt), h.2⟩
def gnames : List String := ["java/lang/RuntimeException", "java/lang/Exception"]
/-- what a throw's numbers in the pool name -/
def gThr (own : String) (ik is ic k : Nat) : Prop :=
  Cond.classLink own ik (gxn k) ∈ gBig ∧ Cond.initialized (gxn k) ∈ gBig ∧ (∃ tx, (own, is, tx) ∈ gTxt) ∧ (∀ w ∈ vx_atS own ic (gxn k) gnames, w ∈ gBig ∨ w ∈ gNst) ∧
  (∀ w ∈ Cond.classLink own ik (gxn k) :: Cond.initialized (gxn k) :: vx_atS own ic (gxn k) gnames, vx_ot w = true) ∧ Bundle.fit (gxn k) = true ∧ (∀ n ∈ gnames, Bundle.fit n = true) ∧ k < 3
theorem gp_throw {ik is ic k : Nat} (d0 : decode (hb y) pc = .ok (.new ik, 3)) (d3 : decode (hb y) (pc + 3) = .ok (.dup, 1)) (d4 : decode (hb y) (pc + 4) = .ok (.ldc is, 2)) (d6 : decode (hb y) (pc + 6) = .ok (.invokespecial ic, 3)) (d9 : decode (hb y) (pc + 9) = .ok (.athrow, 1))
    (hl : gThr (hy y).cls ik is ic k) (ht : hht y = []) (hfc : 5 < hfr y) (hlc : 82 ≤ hlo y) (hr1 : c + 1 ≤ hmc y) (hr2 : w + 6 ≤ hms y) (kx : X k I J B) : gG E y pc ls [] I J B c w Q X := by
  intro hc hw p e s m args below meth cc ad0 Bs hC hT H locs LS ad hS
  obtain ⟨hx, hb, hr, hml, hown, hts, hlk, hE⟩ := id hC
  obtain ⟨l1, l2, ⟨tx, l3⟩, l4, l5, l6, l7, l8⟩ := hl
  have hTx := hE.2.2.2.2.2.2.2.2.1 _ l3
  obtain ⟨sa, hsa⟩ := hTx
  have hU := hE.2.2.1
  have hN := hE.2.2.2.1
  have htr : (gl E).stackTraces = false := hE.2.2.2.2.2.2.2.2.2.2.2.2.2.2.1
  refine vx_throwS (names := gnames) (text := tx) (sa := sa) hx hb htr hown l6 l7 (hts _ l1) (hts _ l2) hsa (fun w hw => ?_) l5 hU hN hS.2.1 (hS.2.2.1.1.trans hml.symm) d0 d3 d4 d6 d9 ?_ hfc ?_ hr1 hr2 hlk ?_ (gfree hS.2.1) hr1 hr2
  · rcases l4 w hw with h | h
    · exact hts _ h
    · exact va_Nw.use (gNst_tab w h) (hE.2.1 _ h)
  · intro x hx
    rw [hT, ht] at hx
    cases hx
  · show 0 + 82 ≤ hlo y
    omega
  · intro t ht hz hq
    exact ⟨⟨k, I, J, B, ad, ⟨l8, rfl⟩, kx, hS.1.kept hq, hS.2.2.2.1, hS.2.2.2.2.1⟩, Nat.le_trans hS.2.1.1 hz, fun q h1 h2 => (hq q (Nat.lt_of_lt_of_le h1 hS.2.1.1)).trans (hS.2.1.2.1 q h1 h2)⟩
theorem gp_throwW {ik is ic k : Nat} (d0 : decode (hb y) pc = .ok (.new ik, 3)) (d3 : decode (hb y) (pc + 3) = .ok (.dup, 1)) (d4 : decode (hb y) (pc + 4) = .ok (.ldc_w is, 3)) (d6 : decode (hb y) (pc + 7) = .ok (.invokespecial ic, 3)) (d9 : decode (hb y) (pc + 10) = .ok (.athrow, 1))
    (hl : gThr (hy y).cls ik is ic k) (ht : hht y = []) (hfc : 5 < hfr y) (hlc : 82 ≤ hlo y) (hr1 : c + 1 ≤ hmc y) (hr2 : w + 6 ≤ hms y) (kx : X k I J B) : gG E y pc ls [] I J B c w Q X := by
  intro hc hw p e s m args below meth cc ad0 Bs hC hT H locs LS ad hS
  obtain ⟨hx, hb, hr, hml, hown, hts, hlk, hE⟩ := id hC
  obtain ⟨l1, l2, ⟨tx, l3⟩, l4, l5, l6, l7, l8⟩ := hl
  have hTx := hE.2.2.2.2.2.2.2.2.1 _ l3
  obtain ⟨sa, hsa⟩ := hTx
  have hU := hE.2.2.1
  have hN := hE.2.2.2.1
  have htr : (gl E).stackTraces = false := hE.2.2.2.2.2.2.2.2.2.2.2.2.2.2.1
  refine vx_throwSW (names := gnames) (text := tx) (sa := sa) hx hb htr hown l6 l7 (hts _ l1) (hts _ l2) hsa (fun w hw => ?_) l5 hU hN hS.2.1 (hS.2.2.1.1.trans hml.symm) d0 d3 d4 d6 d9 ?_ hfc ?_ hr1 hr2 hlk ?_ (gfree hS.2.1) hr1 hr2
  · rcases l4 w hw with h | h
    · exact hts _ h
    · exact va_Nw.use (gNst_tab w h) (hE.2.1 _ h)
  · intro x hx
    rw [hT, ht] at hx
    cases hx
  · show 0 + 82 ≤ hlo y
    omega
  · intro t ht hz hq
    exact ⟨⟨k, I, J, B, ad, ⟨l8, rfl⟩, kx, hS.1.kept hq, hS.2.2.2.1, hS.2.2.2.2.1⟩, Nat.le_trans hS.2.1.1 hz, fun q h1 h2 => (hq q (Nat.lt_of_lt_of_le h1 hS.2.1.1)).trans (hS.2.1.2.1 q h1 h2)⟩
end GH
end
section
section GH
variable {E : gEn} {y y2 pc : Nat} {ls : List (Nat × gV)} {st r : List gV} {I : gI} {J : gJ} {B : gB} {c w : Nat} {Q : gQt} {X : gXt}
theorem gBig_good {w : Cond} (h : w ∈ gBig) : (w.onTables && w.keeps) = true ∨ ∃ ty, w = .arrayClass ty := good_of_word (List.mem_filter.mp h).2
theorem gPc_blind {av : List Value} {ad : gR → Nat} : FrameBlind (va_Pc av (fun U => gEv E U U.heap ∧ gRep E ad I J B U.heap)) := by
  intro a U g mk h
  obtain ⟨h1, h2, h3⟩ := h
  refine ⟨h1, ?_, h3⟩
  exact gEv.to (U := U.calling g mk a) (H1 := U.heap) (State.WarmedH.refl U) h2 (Nat.le_refl _) (fun _ _ _ => rfl)
theorem gPc_at {s U : State} {H : Heap} {locs : List Loc} {ad : gR → Nat} (hE : gEv E s s.heap) (hS : va_S (gA E) s.heap H locs) (hR : gRep E ad I J B H) (hU : U.heap = H) (hW : s.WarmedH U.vm) : gEv E U U.heap ∧ gRep E ad I J B U.heap := by
  rw [hU]
  exact ⟨hE.to hW hS.1 hS.2.1, hR⟩
/-- what goes on the caller's stack -/
def gpush (y2 : Nat) (v : gV) (r : List gV) : List gV := match hr y2 with
  | none => r
  | some _ => v :: r
theorem gpush_cv {ad : gR → Nat} {v : gV} : (gout y2 ad v).toList ++ r.map (gcv ad) = (gpush y2 v r).map (gcv ad) := by
  unfold gout gpush
  cases hr y2 <;> rfl
/-- thrown over this frame -/
def gGx (E : gEn) (y pc : Nat) (ls : List (Nat × gV)) (k : Nat) (I : gI) (J : gJ) (B : gB) (c w : Nat) (Q : gQt) (X : gXt) : Prop :=
  c ≤ hmc y → w ≤ hms y → ∀ (p : Program) (e : Env) (s : State) (m : MethodId) (args : Array Value) (below : List Frame) (meth : Method) (cc : Code) (ad0 : gR → Nat) (Bs : gB), gCx E y p e s m args below meth cc → cc.exceptionTable.toList = tableOf (hht y) →
    ∀ (H : Heap) (locs : List Loc) (LS : Array Slot) (ad : gR → Nat), gSt E y ad0 Bs s H locs LS ad ls [] I J B → ∀ (q : Addr) (ce : Cell) (rest : List Value), H[q]? = some ce → ce.vm = .none → s.vm.findClass (gxn k) = some ce.cls →
      vx_W p (gl E) e (hrm y) s m args below meth cc H locs c w (vx_MQ below (gQc E y ad0 Bs Q) (gXc E ad0 Bs X) args s (hmc y) (hms y) (gA E)) (F0 m pc LS rest) q
theorem gvs_cv {ad ad2 : gR → Nat} (hx : gExt ad B ad2) (hv : ∀ v ∈ st, gVv B v) : st.map (gcv ad2) = st.map (gcv ad) := by
  apply List.map_congr_left
  intro v h
  cases v with
  | inl u => rfl
  | inr q => exact congrArg Value.ref (hx q (hv _ h))
theorem gls_cv {ad ad2 : gR → Nat} (hx : gExt ad B ad2) (hv : ∀ q ∈ ls, gVv B q.2) : ls.map (gcp ad2) = ls.map (gcp ad) := by
  apply List.map_congr_left
  intro q h
  obtain ⟨a, v⟩ := q
  cases v with
  | inl u => rfl
  | inr q => exact Prod.ext rfl (congrArg Value.ref (hx q (hv _ h)))
/-- behind a run of a callee -/
theorem g_run {p : Program} {e : Env} {s : State} {m : MethodId} {args a2 : Array Value} {below : List Frame} {meth : Method} {cc : Code} {ad0 : gR → Nat} {Bs : gB} {H : Heap} {locs : List Loc} {LS : Array Slot} {ad : gR → Nat} {st0 : List Value} {Q2 : gQt} {X2 : gXt}
    (hc2 : c + hmc y2 ≤ hmc y) (hw2 : w + hms y2 ≤ hms y) (hC : gCx E y p e s m args below meth cc) (hT : cc.exceptionTable.toList = tableOf (hht y)) (hS : gSt E y ad0 Bs s H locs LS ad ls st I J B) (hr2 : ∀ v ∈ r, gVv B v)
    (hrun : vx_Run p (gl E) e (hrm y) s m args below meth cc H locs c w (hmc y2) (hms y2) (F0 m pc LS st0) (r.map (gcv ad)) (gQc E y2 ad B Q2 a2) (gXc E ad B X2) (gA E))
    (kk : ∀ v I2 J2 B2, Q2 v I2 J2 B2 → gG E y (pc + 3) ls (gpush y2 v r) I2 J2 B2 (c + hmc y2) (w + hms y2) Q X)
    (kx : ∀ k I2 J2 B2, k < 3 → X2 k I2 J2 B2 → gGx E y pc ls k I2 J2 B2 (c + hmc y2) (w + hms y2) Q X) :
    W p (gl E) e (hrm y) s m args below meth cc H locs c w (vx_MQ below (gQc E y ad0 Bs Q) (gXc E ad0 Bs X) args s (hmc y) (hms y) (gA E)) (F0 m pc LS st0) := by
  intro T hTT Xs
  rcases hrun T hTT Xs with ⟨v, st₀, t, T', L, h0, X', hL, e1, e2, ⟨⟨v0, I2, J2, B2, ad2, hv, hq, hR, hx, hle, hvv⟩, hF⟩, stp⟩ | ⟨q, st₀, t, T', L, En, ce, h0, X', hL, e1, e2, ⟨⟨k, I2, J2, B2, ad2, ⟨hk, hkE⟩, hq, hR, hx, hle⟩, hF⟩, hce, hcv, hcl, stp⟩
  · cases hv
    obtain ⟨k1, k2, k3⟩ := vx_keep h0 e1 hS.2.1 (fun _ _ h => h) (fun _ h => h) hL hF
    have hSt : gSt E y ad0 Bs s T'.heap (locs ++ L) LS ad2 ls (gpush y2 v0 r) I2 J2 B2 := by
      refine ⟨by rw [e1]; exact hR, k3, ?_, fun q h => (hx q (gVl_le hS.2.2.2.2.1 h)).trans (hS.2.2.2.1 q h), hS.2.2.2.2.1.tr hle, fun q hq => gVv_le hle (hS.2.2.2.2.2.1 q hq), ?_⟩
      · rw [gls_cv hx hS.2.2.2.2.2.1]
        exact hS.2.2.1
      · unfold gpush
        cases hr y2 with
        | none => exact fun v h => gVv_le hle (hr2 v h)
        | some _ => exact gvs_c hvv (fun v h => gVv_le hle (hr2 v h))
    have hW := kk v0 I2 J2 B2 hq hc2 hw2 p e s m args below meth cc ad0 Bs hC hT T'.heap (locs ++ L) LS ad2 hSt
    rw [← gpush_cv, gvs_cv hx hr2] at hW
    obtain ⟨t2, a1, b1⟩ := hW T' rfl X'
    exact ⟨t2, stp t2 a1, b1⟩
  · obtain ⟨k1, k2, k3⟩ := vx_keep h0 e1 hS.2.1 (fun _ _ h => h) (fun _ h => h) hL hF
    have hSt : gSt E y ad0 Bs s T'.heap (locs ++ L) LS ad2 ls [] I2 J2 B2 := by
      refine ⟨by rw [e1]; exact hR, k3, ?_, fun q h => (hx q (gVl_le hS.2.2.2.2.1 h)).trans (hS.2.2.2.1 q h), hS.2.2.2.2.1.tr hle, fun q hq => gVv_le hle (hS.2.2.2.2.2.1 q hq), fun v h => by cases h⟩
      rw [gls_cv hx hS.2.2.2.2.2.1]
      exact hS.2.2.1
    have hW := kx k I2 J2 B2 hk hq hc2 hw2 p e s m args below meth cc ad0 Bs hC hT T'.heap (locs ++ L) LS ad2 hSt q ce (r.map (gcv ad)) (by rw [e1]; exact hce) hcv (by rw [hkE]; exact hcl)
    obtain ⟨t2, a1, b1⟩ := hW T' rfl X'
    exact ⟨t2, stp.trans a1, b1⟩
/-- what a call needs of its callee -/
def gCe (y2 n : Nat) : Prop := (hy y2).cls ≠ "java/lang/invoke/MethodHandle" ∧ (hy y2).cls ≠ "java/lang/invoke/VarHandle" ∧ (parseMethodDescriptor (hy y2).desc).map (fun d => d.parameters.length) = some n
def gRm (y y2 : Nat) : Prop := hfr y2 + 1 ≤ hfr y ∧ 8 + (hml y2 + 11) + hlo y2 ≤ hlo y
theorem gGood_hws (h : hht y2 = []) (hc : Cond.code (hy y2) (hb y2) (hml y2) (hr y2) ∈ gBig) : GoodIn gBig (hws y2) := by
  intro u hu
  unfold hws hcw at hu
  rw [h] at hu
  rcases List.mem_cons.mp hu with rfl | hu
  · exact ⟨hc, gBig_good hc⟩
  · exact ⟨hu, gBig_good hu⟩
theorem hws_code (h : hht y2 = []) : hws y2 = Cond.code (hy y2) (hb y2) (hml y2) (hr y2) :: gBig := by
  unfold hws hcw
  rw [h]
/-- the words of a call of an instance method -/
def gCV (own : String) (n y2 np : Nat) : Prop := gCe y2 np ∧ hht y2 = [] ∧ Cond.code (hy y2) (hb y2) (hml y2) (hr y2) ∈ gBig ∧ Cond.methodLink own n (hy y2) ∈ gBig ∧ Cond.instanceMethod (hy y2) ∈ gBig ∧ Cond.selects (hy y2).cls (hy y2) (hy y2) ∈ gBig ∧ Cond.initialized (hy y2).cls ∈ gBig
/-- the words of a call of a static one -/
def gCS (own : String) (n y2 np : Nat) : Prop := gCe y2 np ∧ hht y2 = [] ∧ Cond.code (hy y2) (hb y2) (hml y2) (hr y2) ∈ gBig ∧ Cond.methodLink own n (hy y2) ∈ gBig ∧ Cond.static (hy y2) ∈ gBig ∧ Cond.initialized (hy y2).cls ∈ gBig
theorem gp_callV {n np : Nat} {q : gR} {as : List gV} {ci : Nat} {fl : List (Nat × Nat)} {z : vw_C} {Q2 : gQt} {X2 : gXt} (hd : decode (hb y) pc = .ok (.invokevirtual n, 3)) (hl : gCV (hy y).cls n y2 np) (hm : gRm y y2) (hn : as.length = np) (ho : gobj q.1 = some (ci, fl)) (hz : vwCl[ci]? = some z) (hz1 : z.1 = (hy y2).cls)
    (hsm : gsum r ≤ 8) (hc2 : c + hmc y2 ≤ hmc y) (hw2 : w + hms y2 ≤ hms y) (hM : gC E y2 (.inr q :: as) I J B Q2 X2)
    (kk : ∀ v I2 J2 B2, Q2 v I2 J2 B2 → gG E y (pc + 3) ls (gpush y2 v r) I2 J2 B2 (c + hmc y2) (w + hms y2) Q X)
    (kx : ∀ k I2 J2 B2, k < 3 → X2 k I2 J2 B2 → gGx E y pc ls k I2 J2 B2 (c + hmc y2) (w + hms y2) Q X) : gG E y pc ls (as.reverse ++ .inr q :: r) I J B c w Q X := by
  intro hc hw p e s m args below meth cc ad0 Bs hC hT H locs LS ad hS
  obtain ⟨ux, ub, ur, uml, hown, hts, ulk, hE⟩ := id hC
  obtain ⟨⟨e1, e2, e3⟩, l0, l1, l2, l3, l4, l5⟩ := hl
  have hvq : gVv B (.inr q) := hS.vs _ (by simp)
  have hva : ∀ v ∈ (.inr q :: as : List gV), gVv B v := by
    intro v h
    rcases List.mem_cons.mp h with rfl | h
    · exact hvq
    · exact hS.vs v (by simp [h])
  have hvr : ∀ v ∈ r, gVv B v := fun v h => hS.vs v (by simp [h])
  have hq : q ∈ gids B := gV_ids hvq (gobj_k3 ho)
  obtain ⟨q0, -, hq0⟩ := gws_get (E := E) (ad := ad) (I := I) (J := J) hq
  rw [genc_obj ho] at hq0
  have hrecv := va_recv hE.1 hS.1.1 hz hq0
  rw [hz1] at hrecv
  have hgood : GoodIn gBig (wsV (hy y).cls n (hy y2).cls (hy y2) (hws y2)) := by
    intro u hu
    unfold wsV at hu
    rcases List.mem_append.mp hu with hu | hu
    · simp only [List.mem_cons, List.not_mem_nil, or_false] at hu
      rcases hu with rfl | rfl | rfl | rfl
      · exact ⟨l2, gBig_good l2⟩
      · exact ⟨l3, gBig_good l3⟩
      · exact ⟨l4, gBig_good l4⟩
      · exact ⟨l5, gBig_good l5⟩
    · exact gGood_hws l0 l1 u hu
  have cw : CallW (hrm y) s args (hy y).cls (hy y2).cls n (hy y2) (hb y2) (hml y2) (hr y2) (hws y2) (hrm y2) (hmc y2) (hms y2) np := cwV np hts hgood (hws_code l0) rfl rfl ⟨rfl, e1, e2, e3⟩ hm
  have hrun := vx_runV (Ts := gBig) (g := F0 m pc LS ((as.map (gcv ad)).reverse ++ .ref (ad q) :: r.map (gcv ad))) (As := as.map (gcv ad)) (rest := r.map (gcv ad)) (b := ad q) (H := H) (locs := locs) (cells := c) (slots := w) (e := e) (below := below) (meth := meth) ⟨ux, ub, uml, hown, hts⟩ (hM hva ad) cw
    ⟨gPc_blind, hrecv, fun U hU hW => ⟨rfl, gPc_at hE hS.2.1 hS.1 hU hW⟩⟩ rfl (by rw [List.length_map]; exact hn) hS.2.2.1.1 rfl (lv_room (by rw [gsum_cv]; exact hsm)) hd ⟨hc2, hw2⟩
  have key := g_run (y2 := y2) hc2 hw2 hC hT hS hvr hrun kk kx
  rw [List.map_append, List.map_reverse]
  exact key
theorem gp_callT {n np : Nat} {q : gR} {as : List gV} {Q2 : gQt} {X2 : gXt} (hd : decode (hb y) pc = .ok (.invokevirtual n, 3)) (hl : gCV (hy y).cls n y2 np) (hm : gRm y y2) (hn : as.length = np) (ho : q.1 = 2) (hz1 : (hy y2).cls = "java/lang/String")
    (hsm : gsum r ≤ 8) (hc2 : c + hmc y2 ≤ hmc y) (hw2 : w + hms y2 ≤ hms y) (hM : gC E y2 (.inr q :: as) I J B Q2 X2)
    (kk : ∀ v I2 J2 B2, Q2 v I2 J2 B2 → gG E y (pc + 3) ls (gpush y2 v r) I2 J2 B2 (c + hmc y2) (w + hms y2) Q X)
    (kx : ∀ k I2 J2 B2, k < 3 → X2 k I2 J2 B2 → gGx E y pc ls k I2 J2 B2 (c + hmc y2) (w + hms y2) Q X) : gG E y pc ls (as.reverse ++ .inr q :: r) I J B c w Q X := by
  intro hc hw p e s m args below meth cc ad0 Bs hC hT H locs LS ad hS
  obtain ⟨ux, ub, ur, uml, hown, hts, ulk, hE⟩ := id hC
  obtain ⟨⟨e1, e2, e3⟩, l0, l1, l2, l3, l4, l5⟩ := hl
  have hvq : gVv B (.inr q) := hS.vs _ (by simp)
  have hva : ∀ v ∈ (.inr q :: as : List gV), gVv B v := by
    intro v h
    rcases List.mem_cons.mp h with rfl | h
    · exact hvq
    · exact hS.vs v (by simp [h])
  have hvr : ∀ v ∈ r, gVv B v := fun v h => hS.vs v (by simp [h])
  have hq : q.2.1 < 6 ∧ q.2.2 = 0 := by
    rcases hvq with rfl | rfl | h | h
    · exact absurd ho (by decide)
    · exact absurd ho (by decide)
    · exact h.2
    · exact absurd (gall_k3 q (gids_all h)) (by omega)
  have hrecv := vk_recv hE.2.2.2.2.2.2.2.2.2.2.1 hq.1 hS.2.1
  have had : ad q = gax E (2, q.2.1, 0) := by
    have hqe : q = (2, q.2.1, 0) := Prod.ext ho (Prod.ext rfl hq.2)
    rw [hS.1.2.2.1 q (by omega), hqe]
  rw [← hz1, ← had] at hrecv
  have hgood : GoodIn gBig (wsV (hy y).cls n (hy y2).cls (hy y2) (hws y2)) := by
    intro u hu
    unfold wsV at hu
    rcases List.mem_append.mp hu with hu | hu
    · simp only [List.mem_cons, List.not_mem_nil, or_false] at hu
      rcases hu with rfl | rfl | rfl | rfl
      · exact ⟨l2, gBig_good l2⟩
      · exact ⟨l3, gBig_good l3⟩
      · exact ⟨l4, gBig_good l4⟩
      · exact ⟨l5, gBig_good l5⟩
    · exact gGood_hws l0 l1 u hu
  have cw : CallW (hrm y) s args (hy y).cls (hy y2).cls n (hy y2) (hb y2) (hml y2) (hr y2) (hws y2) (hrm y2) (hmc y2) (hms y2) np := cwV np hts hgood (hws_code l0) rfl rfl ⟨rfl, e1, e2, e3⟩ hm
  have hrun := vx_runV (Ts := gBig) (g := F0 m pc LS ((as.map (gcv ad)).reverse ++ .ref (ad q) :: r.map (gcv ad))) (As := as.map (gcv ad)) (rest := r.map (gcv ad)) (b := ad q) (H := H) (locs := locs) (cells := c) (slots := w) (e := e) (below := below) (meth := meth) ⟨ux, ub, uml, hown, hts⟩ (hM hva ad) cw
    ⟨gPc_blind, hrecv, fun U hU hW => ⟨rfl, gPc_at hE hS.2.1 hS.1 hU hW⟩⟩ rfl (by rw [List.length_map]; exact hn) hS.2.2.1.1 rfl (lv_room (by rw [gsum_cv]; exact hsm)) hd ⟨hc2, hw2⟩
  have key := g_run (y2 := y2) hc2 hw2 hC hT hS hvr hrun kk kx
  rw [List.map_append, List.map_reverse]
  exact key
theorem gp_callS {n np : Nat} {as : List gV} {Q2 : gQt} {X2 : gXt} (hd : decode (hb y) pc = .ok (.invokestatic n, 3)) (hl : gCS (hy y).cls n y2 np) (hm : gRm y y2) (hn : as.length = np)
    (hsm : gsum r ≤ 8) (hc2 : c + hmc y2 ≤ hmc y) (hw2 : w + hms y2 ≤ hms y) (hM : gC E y2 as I J B Q2 X2)
    (kk : ∀ v I2 J2 B2, Q2 v I2 J2 B2 → gG E y (pc + 3) ls (gpush y2 v r) I2 J2 B2 (c + hmc y2) (w + hms y2) Q X)
    (kx : ∀ k I2 J2 B2, k < 3 → X2 k I2 J2 B2 → gGx E y pc ls k I2 J2 B2 (c + hmc y2) (w + hms y2) Q X) : gG E y pc ls (as.reverse ++ r) I J B c w Q X := by
  intro hc hw p e s m args below meth cc ad0 Bs hC hT H locs LS ad hS
  obtain ⟨ux, ub, ur, uml, hown, hts, ulk, hE⟩ := id hC
  obtain ⟨⟨e1, e2, e3⟩, l0, l1, l2, l3, l5⟩ := hl
  have hva : ∀ v ∈ as, gVv B v := fun v h => hS.vs v (by simp [h])
  have hvr : ∀ v ∈ r, gVv B v := fun v h => hS.vs v (by simp [h])
  have hgood : GoodIn gBig (va_wsS (hy y).cls n (hy y2) (hws y2)) := by
    intro u hu
    unfold va_wsS at hu
    rcases List.mem_append.mp hu with hu | hu
    · simp only [List.mem_cons, List.not_mem_nil, or_false] at hu
      rcases hu with rfl | rfl | rfl
      · exact ⟨l2, gBig_good l2⟩
      · exact ⟨l3, gBig_good l3⟩
      · exact ⟨l5, gBig_good l5⟩
    · exact gGood_hws l0 l1 u hu
  have cw := va_cwS (R := hrm y) (s := s) (args := args) (own := (hy y).cls) (index := n) (y := hy y2) (bytes := hb y2) (maxL := hml y2) (ret := hr y2) (mc := hmc y2) (ms := hms y2) (rm := hrm y2) np hts hgood (hws_code l0) rfl rfl ⟨e1, e2, e3⟩ hm
  have hrun := vx_runS (Ts := gBig) (g := F0 m pc LS ((as.map (gcv ad)).reverse ++ r.map (gcv ad))) (As := as.map (gcv ad)) (rest := r.map (gcv ad)) (H := H) (locs := locs) (cells := c) (slots := w) (e := e) (below := below) (meth := meth) ⟨ux, ub, uml, hown, hts⟩ (hM hva ad) cw
    ⟨gPc_blind, fun U hU hW => ⟨rfl, gPc_at hE hS.2.1 hS.1 hU hW⟩⟩ rfl (by rw [List.length_map]; exact hn) hS.2.2.1.1 rfl (lv_room (by rw [gsum_cv]; exact hsm)) hd ⟨hc2, hw2⟩
  have key := g_run (y2 := y2) hc2 hw2 hC hT hS hvr hrun kk kx
  rw [List.map_append, List.map_reverse]
  exact key
end GH
end
section
/-! ===== a static call of a nest mate's method, and of one with a table ===== -/
section GN
variable {p : Program} {l : Launch} {e : Env} {R : Room} {s : State} {m : MethodId} {args : Array Value} {below : List Frame} {meth : Method} {c : Code} {T : State} {locs : List Loc} {cells slots : Nat}
theorem gx_callSN (X : Stand p l e R s m args below meth c T locs cells slots) (hexec : p.tables.exec = Jvm.exec) {own host : String} {index : Nat} {y : MethodName} {bytes : ByteArray} {maxL : Nat} {ret : Option FieldType}
    (hown : s.vm.findClass own = some m.cls) (hlink : (Cond.methodLinkNest own index y host).before args s = true) (hstat : (Cond.static y).before args s = true) (hinit : (Cond.initialized y.cls).before args s = true)
    (hcode : (Cond.code y bytes maxL ret).before args s = true) (hy : y.cls ≠ "java/lang/invoke/MethodHandle" ∧ y.cls ≠ "java/lang/invoke/VarHandle")
    {W9 : Nat} {Pre : Pt → Array Value → Prop} {Post : Pt → Array Value → Option Value → Pt → Prop} {PostX : Pt → Array Value → Addr → Pt → Prop} (hK : vx_Back l R p e below s args y 3 W9 Pre Post PostX)
    {g : JFrame} (hg : g.method = m) (hsize : g.locals.size = c.maxLocals) {argsL rest : List Value} (hlen : ∀ sig, parseMethodDescriptor y.desc = some sig → argsL.length = sig.parameters.length)
    (hstack : g.stack = argsL.reverse ++ rest) (hW : 2 * g.monitorRoom + (rest.map fun v => v.category).sum ≤ W9) (hdg : decode c.code g.pc = .ok (.invokestatic index, 3))
    (hpre : ∀ vm₁, s.WarmedH vm₁ → Pre ⟨T.setVm vm₁, locs, cells, slots⟩ argsL.toArray) :
    (∃ (v : Option Value) (vm₁ : Vm) (B : Pt), s.WarmedH vm₁ ∧ Stand p l e R s m args below meth c B.U B.locs B.cells B.slots ∧ Post ⟨T.setVm vm₁, locs, cells, slots⟩ argsL.toArray v B ∧
      ∀ target, Steps p.tables e below (B.U.setTop { g with pc := g.pc + 3, stack := v.toList ++ rest }) target → Steps p.tables e below (T.setTop g) target) ∨
    (∃ (q : Addr) (vm₁ : Vm) (B : Pt), s.WarmedH vm₁ ∧ Stand p l e R s m args below meth c B.U B.locs B.cells B.slots ∧ PostX ⟨T.setVm vm₁, locs, cells, slots⟩ argsL.toArray q B ∧
      Steps p.tables e below (T.setTop g) ((B.U.setTop { g with stack := rest }).pushFrame (.throwing q))) := by
  obtain ⟨mk, hnamed⟩ := Cond.code_named hcode
  obtain ⟨methM, cM, hmethM, -, -, -, -, -, -, hsigM⟩ := Cond.code_spec hnamed hcode
  have hstatic : methM.isStatic = true := Cond.static_spec hnamed hmethM hstat
  obtain ⟨kP, hkP, -⟩ := className_of_methodNamed hnamed
  have hinitP : kP.init = .initialized := Cond.initialized_spec (findClass_of_methodNamed hnamed) hkP hinit
  obtain ⟨vm₁, X₁, hstep₁⟩ := X.invokestaticNest hexec hown hlink hnamed hmethM hstatic hkP hinitP hy (g := g) hg (argsL := argsL) (rest := rest) (hlen _ hsigM) hstack hdg
  rcases hK m meth c ⟨T.setVm vm₁, locs, cells, slots⟩ { g with stack := rest } (.invokestatic index) mk argsL.toArray X₁ hg hsize hdg hW (X₁.named hnamed) (hpre vm₁ X₁.warmed) with ⟨v, B, X', hpost, hsteps⟩ | ⟨q, B, X', hpost, hsteps⟩
  · exact Or.inl ⟨v, vm₁, B, X₁.warmed, X', hpost, fun target h => hstep₁ _ fun acts => by rw [doInvoke_state]; exact hsteps.trans h⟩
  · exact Or.inr ⟨q, vm₁, B, X₁.warmed, X', hpost, hstep₁ _ fun acts => by rw [doInvoke_state]; exact hsteps⟩
end GN
section GN2
variable {p : Program} {l : Launch} {e : Env} {R : Room} {s : State} {m : MethodId} {args : Array Value} {below : List Frame} {meth : Method} {c : Code} {H : Heap} {locs : List Loc} {cells slots : Nat}
variable {y : MethodName} {bytes cc : ByteArray} {maxL nL mc ms n index : Nat} {ret : Option FieldType} {ws : List Cond} {rm : Room} {Pc : Array Value → State → Prop} {Qc : Array Value → State → Outcome → State → Prop} {XC : String → State → State → Prop} {free : Addr → Prop} {Ts : List Cond} {own host : String} {As rest : List Value} {g : JFrame}
theorem gx_runSN (S : CallFix p m c cc nL s args Ts own) (hM : vx_Met l y ws rm Pc Qc XC mc ms free) (cw : va_CN R s args own index y host bytes maxL ret ws rm mc ms n ∧ (Cond.static y).before args s = true) (hp : PreS s H Pc As)
    (hg : g.method = m) (hn : As.length = n) (hsize : g.locals.size = nL) (hstack : g.stack = As.reverse ++ rest) (hW : 2 * g.monitorRoom + (rest.map fun v => v.category).sum ≤ 8) (hdg : decode cc g.pc = .ok (.invokestatic index, 3)) (hf : cells + mc ≤ R.cells ∧ slots + ms ≤ R.slots) :
    vx_Run p l e R s m args below meth c H locs cells slots mc ms g rest (Qc As.toArray) XC free := by
  obtain ⟨⟨⟨hrc, hrs, hfr, hlo, hws, hcw⟩, hcode, hini, hy, hlen, hl⟩, hstt⟩ := cw
  have hK : vx_Back l R p e below s args y 3 8 (PreOf R mc ms Pc) (PostOf Qc mc ms free) (vx_Post XC mc ms free) := vx_back (bytes := bytes) (maxL := maxL) (ret := ret) hM hp.1 hrc hrs hfr hlo hws hcw (fun a' U hW => word_at hW (Or.inl (by first | rfl | simp [Cond.onTables, Cond.keeps, Cond.steady])) hini)
  obtain ⟨hx, hb, hml, ho, -⟩ := S
  intro T hT X
  rcases gx_callSN X hx (bytes := bytes) (maxL := maxL) (ret := ret) ho hl hstt hini hcode hy hK hg (hsize.trans hml.symm) (argsL := As) (rest := rest) (fun sig h => hn.trans (hlen sig h)) hstack hW (by rw [hb]; exact hdg)
    (fun vm₁ hW₁ => ⟨hf.1, hf.2, hp.2 (T.setVm vm₁) hT hW₁⟩) with ⟨v, vm₁, ⟨U', l2, c2, s2⟩, hW₁, X', ⟨g', mk, t, L, e1, e2, hq, h1, hL, h2, h3⟩, st⟩ | ⟨q, vm₁, ⟨U', l2, c2, s2⟩, hW₁, X', ⟨g', mk, t, L, E, ce, e1, e2, hq, hce, hcv, hcl, h1, hL, h2, h3⟩, st⟩
  · dsimp only [Pt.U, Pt.locs, Pt.cells, Pt.slots] at X' e1 e2 h1 h2 h3 st
    subst h1; subst h2; subst h3
    exact Or.inl ⟨v, (T.setVm vm₁).calling g' mk As.toArray, t, U', L, hT, X', hL, e1, e2, hq, st⟩
  · dsimp only [Pt.U, Pt.locs, Pt.cells, Pt.slots] at X' e1 e2 h1 h2 h3 st hcl
    subst h1; subst h2; subst h3
    exact Or.inr ⟨q, (T.setVm vm₁).calling g' mk As.toArray, t, U', L, E, ce, hT, X', hL, e1, e2, hq, hce, hcv, vx_cls hW₁ hcl, st⟩
end GN2
section GH
variable {E : gEn} {y y2 pc : Nat} {ls : List (Nat × gV)} {st r : List gV} {I : gI} {J : gJ} {B : gB} {c w : Nat} {Q : gQt} {X : gXt}
/-- the words of a call of a nest mate's static one -/
def gCN (own : String) (n y2 np : Nat) : Prop := gCe y2 np ∧ hht y2 = [] ∧ Cond.code (hy y2) (hb y2) (hml y2) (hr y2) ∈ gBig ∧ (∃ host, Cond.methodLinkNest own n (hy y2) host ∈ gNst) ∧ Cond.static (hy y2) ∈ gBig ∧ Cond.initialized (hy y2).cls ∈ gBig
theorem gp_callSN {n np : Nat} {as : List gV} {Q2 : gQt} {X2 : gXt} (hd : decode (hb y) pc = .ok (.invokestatic n, 3)) (hl : gCN (hy y).cls n y2 np) (hm : gRm y y2) (hn : as.length = np)
    (hsm : gsum r ≤ 8) (hc2 : c + hmc y2 ≤ hmc y) (hw2 : w + hms y2 ≤ hms y) (hM : gC E y2 as I J B Q2 X2)
    (kk : ∀ v I2 J2 B2, Q2 v I2 J2 B2 → gG E y (pc + 3) ls (gpush y2 v r) I2 J2 B2 (c + hmc y2) (w + hms y2) Q X)
    (kx : ∀ k I2 J2 B2, k < 3 → X2 k I2 J2 B2 → gGx E y pc ls k I2 J2 B2 (c + hmc y2) (w + hms y2) Q X) : gG E y pc ls (as.reverse ++ r) I J B c w Q X := by
  intro hc hw p e s m args below meth cc ad0 Bs hC hT H locs LS ad hS
  obtain ⟨ux, ub, ur, uml, hown, hts, ulk, hE⟩ := id hC
  obtain ⟨⟨e1, e2, e3⟩, l0, l1, ⟨host, l2⟩, l3, l5⟩ := hl
  have hva : ∀ v ∈ as, gVv B v := fun v h => hS.vs v (by simp [h])
  have hvr : ∀ v ∈ r, gVv B v := fun v h => hS.vs v (by simp [h])
  have cw := va_cnB (R := hrm y) (s := s) (args := args) (own := (hy y).cls) (index := n) (y := hy y2) (bytes := hb y2) (maxL := hml y2) (ret := hr y2) (mc := hmc y2) (ms := hms y2) (rm := hrm y2) np hts (gGood_hws l0 l1) (hws_code l0) rfl rfl (hE.2.1 _ l2) (hts _ l5) ⟨e1, e2, e3⟩ hm
  have hrun := gx_runSN (Ts := gBig) (g := F0 m pc LS ((as.map (gcv ad)).reverse ++ r.map (gcv ad))) (As := as.map (gcv ad)) (rest := r.map (gcv ad)) (H := H) (locs := locs) (cells := c) (slots := w) (e := e) (below := below) (meth := meth) ⟨ux, ub, uml, hown, hts⟩ (hM hva ad) ⟨cw, hts _ l3⟩
    ⟨gPc_blind, fun U hU hW => ⟨rfl, gPc_at hE hS.2.1 hS.1 hU hW⟩⟩ rfl (by rw [List.length_map]; exact hn) hS.2.2.1.1 rfl (lv_room (by rw [gsum_cv]; exact hsm)) hd ⟨hc2, hw2⟩
  have key := g_run (y2 := y2) hc2 hw2 hC hT hS hvr hrun kk kx
  rw [List.map_append, List.map_reverse]
  exact key
/-- the words of a call of a static one with a table -/
def gCX (own : String) (n y2 np : Nat) : Prop := gCe y2 np ∧ hht y2 ≠ [] ∧ hcw y2 ∈ gBig ∧ Cond.methodLink own n (hy y2) ∈ gBig ∧ Cond.static (hy y2) ∈ gBig ∧ Cond.initialized (hy y2).cls ∈ gBig
theorem gp_callSX {n np : Nat} {as : List gV} {Q2 : gQt} {X2 : gXt} (hd : decode (hb y) pc = .ok (.invokestatic n, 3)) (hl : gCX (hy y).cls n y2 np) (hm : gRm y y2) (hn : as.length = np)
    (hsm : gsum r ≤ 8) (hc2 : c + hmc y2 ≤ hmc y) (hw2 : w + hms y2 ≤ hms y) (hM : gC E y2 as I J B Q2 X2)
    (kk : ∀ v I2 J2 B2, Q2 v I2 J2 B2 → gG E y (pc + 3) ls (gpush y2 v r) I2 J2 B2 (c + hmc y2) (w + hms y2) Q X)
    (kx : ∀ k I2 J2 B2, k < 3 → X2 k I2 J2 B2 → gGx E y pc ls k I2 J2 B2 (c + hmc y2) (w + hms y2) Q X) : gG E y pc ls (as.reverse ++ r) I J B c w Q X := by
  intro hc hw p e s m args below meth cc ad0 Bs hC hT H locs LS ad hS
  obtain ⟨ux, ub, ur, uml, hown, hts, ulk, hE⟩ := id hC
  obtain ⟨⟨e1, e2, e3⟩, l0, l1, l2, l3, l5⟩ := hl
  have hva : ∀ v ∈ as, gVv B v := fun v h => hS.vs v (by simp [h])
  have hvr : ∀ v ∈ r, gVv B v := fun v h => hS.vs v (by simp [h])
  have hcw9 : hcw y2 = Cond.codeWith (hy y2) (hb y2) (hml y2) (hr y2) (hht y2) := by
    unfold hcw
    cases h : hht y2 with
    | nil => exact absurd h l0
    | cons a b => rfl
  have hgood : GoodIn gBig (va_wsS (hy y).cls n (hy y2) (hws y2)) := by
    intro u hu
    unfold va_wsS at hu
    rcases List.mem_append.mp hu with hu | hu
    · simp only [List.mem_cons, List.not_mem_nil, or_false] at hu
      rcases hu with rfl | rfl | rfl
      · exact ⟨l2, gBig_good l2⟩
      · exact ⟨l3, gBig_good l3⟩
      · exact ⟨l5, gBig_good l5⟩
    · rcases List.mem_cons.mp hu with rfl | hu
      · exact ⟨l1, gBig_good l1⟩
      · exact ⟨hu, gBig_good hu⟩
  have cw := vx_cwSW (R := hrm y) (s := s) (args := args) (own := (hy y).cls) (index := n) (y := hy y2) (bytes := hb y2) (maxL := hml y2) (ret := hr y2) (mc := hmc y2) (ms := hms y2) (rm := hrm y2) (hh := hht y2) np hts hgood (by rw [← hcw9]; rfl) rfl rfl ⟨e1, e2, e3⟩ hm
  have hrun := vx_runSX (Ts := gBig) (g := F0 m pc LS ((as.map (gcv ad)).reverse ++ r.map (gcv ad))) (As := as.map (gcv ad)) (rest := r.map (gcv ad)) (H := H) (locs := locs) (cells := c) (slots := w) (e := e) (below := below) (meth := meth) ⟨ux, ub, uml, hown, hts⟩ (hM hva ad) cw
    ⟨gPc_blind, fun U hU hW => ⟨rfl, gPc_at hE hS.2.1 hS.1 hU hW⟩⟩ rfl (by rw [List.length_map]; exact hn) hS.2.2.1.1 rfl (lv_room (by rw [gsum_cv]; exact hsm)) hd ⟨hc2, hw2⟩
  have key := g_run (y2 := y2) hc2 hw2 hC hT hS hvr hrun kk kx
  rw [List.map_append, List.map_reverse]
  exact key
/-- not caught: it goes on -/
theorem gx_out {k : Nat} (ht : hht y = []) (hk : k < 3) (hq : X k I J B) : gGx E y pc ls k I J B c w Q X := by
  intro hc hw p e s m args below meth cc ad0 Bs hC hT H locs LS ad hS q ce rest h1 h2 h3
  refine vx_out (E := gxn k) ?_ hC.2.2.2.2.2.2.1 h1 h2 h3 ?_ (gfree hS.2.1) hc hw
  · intro x hx
    rw [hT, ht] at hx
    cases hx
  · intro t ht _
    exact ⟨⟨k, I, J, B, ad, ⟨hk, rfl⟩, hq, by rw [ht]; exact hS.1, hS.2.2.2.1, hS.2.2.2.2.1⟩, hS.2.1.F ht⟩
/-- the rows of a method's table name the three -/
def gHok (own : String) : List (Nat × Nat × Nat × Nat) → gH → Prop
  | [], [] => True
  | (a, b, h, i) :: t, (a2, b2, h2, j) :: t2 => (a2 = a ∧ b2 = b ∧ h2 = h ∧ j < 3 ∧ i ≠ 0 ∧ Cond.classLink own i (gxn j) ∈ gBig) ∧ gHok own t t2
  | _, _ => False
theorem gcov {a b h i pc : Nat} : covers (⟨a, b, h, i⟩ : ExceptionTableEntry) pc = (Nat.ble a pc && Nat.blt pc b) := by
  unfold covers
  rw [Bool.eq_iff_iff]
  simp [Nat.blt, Nat.ble_eq, Nat.succ_le_iff]
/-- what goes by a row that names another -/
def gBy (s : State) (args : Array Value) (own : String) (pc k : Nat) (z : ExceptionTableEntry) : Prop := covers z pc = false ∨ (z.catchType ≠ 0 ∧ ∃ nm : String, (Cond.classLink own z.catchType nm).before args s = true ∧ va_Nc (gxn k) nm s)
theorem gh_find {s : State} {args : Array Value} {own : String} {k : Nat} (hts : ∀ w ∈ gBig, w.before args s = true) (hE : gEv E s s.heap) (hk : k < 3) : ∀ (hh : List (Nat × Nat × Nat × Nat)) (hs : gH), gHok own hh hs →
    (∀ h, ghf hs pc k = some h → ∃ (pre : List ExceptionTableEntry) (x : ExceptionTableEntry) (suf : List ExceptionTableEntry), tableOf hh = pre ++ x :: suf ∧ (∀ z ∈ pre, gBy s args own pc k z) ∧ covers x pc = true ∧ x.catchType ≠ 0 ∧ x.handlerPc = h ∧ (Cond.classLink own x.catchType (gxn k)).before args s = true) ∧
    (ghf hs pc k = none → ∀ z ∈ tableOf hh, gBy s args own pc k z)
  | [], [], _ => ⟨fun h e => (by cases e), fun _ z hz => (by cases hz)⟩
  | (a, b, h, i) :: t, (a2, b2, h2, j) :: t2, ⟨⟨e1, e2, e3, hj, hi, hw⟩, ht⟩ => by
    subst e1; subst e2; subst e3
    obtain ⟨g1, g2⟩ := gh_find hts hE hk t t2 ht
    have hby : ¬ (Nat.ble a2 pc && Nat.blt pc b2 && Nat.beq j k) = true → gBy s args own pc k ⟨a2, b2, h2, i⟩ := by
      intro hn
      by_cases hc : (Nat.ble a2 pc && Nat.blt pc b2) = true
      · have hjk : j ≠ k := by
          intro e
          subst e
          apply hn
          rw [hc, Bool.true_and]
          exact Nat.beq_refl j
        exact Or.inr ⟨hi, gxn j, hts _ hw, hE.2.2.2.2.2.2.2.2.2.2.2.2.2.1 k j hk hj (fun e => hjk e.symm)⟩
      · refine Or.inl ?_
        rw [gcov]
        revert hc
        cases (Nat.ble a2 pc && Nat.blt pc b2) <;> simp
    constructor
    · intro h0 hf
      rw [ghf] at hf
      split at hf
      · rename_i hc
        cases hf
        have hc2 := Bool.and_eq_true_iff.mp hc
        have hjk : j = k := Nat.eq_of_beq_eq_true hc2.2
        subst hjk
        exact ⟨[], ⟨a2, b2, h2, i⟩, tableOf t, rfl, fun z hz => (by cases hz), (by rw [gcov]; exact hc2.1), hi, rfl, hts _ hw⟩
      · rename_i hc
        obtain ⟨pre, x, suf, q1, q2, q3⟩ := g1 h0 hf
        refine ⟨⟨a2, b2, h2, i⟩ :: pre, x, suf, ?_, ?_, q3⟩
        · show ⟨a2, b2, h2, i⟩ :: tableOf t = _
          rw [q1]
          rfl
        · intro z hz
          rcases List.mem_cons.mp hz with rfl | hz
          · exact hby (by rw [hc]; decide)
          · exact q2 z hz
    · intro hf z hz
      rw [ghf] at hf
      split at hf
      · cases hf
      · rename_i hc
        have hz : z ∈ (⟨a2, b2, h2, i⟩ : ExceptionTableEntry) :: tableOf t := hz
        rcases List.mem_cons.mp hz with rfl | hz
        · exact hby (by rw [hc]; decide)
        · exact g2 hf z hz
theorem gx_catch {k h a : Nat} {hs : gH} (hok : gHok (hy y).cls (hht y) hs) (hk : k < 3) (hf : ghf hs pc k = some h) {e0 : Nat} {ins : Instr} (hd : decode (hb y) h = .ok (ins, e0)) (hi : (∃ j : Fin 4, ins = .astore_n j ∧ (j : Nat) = a ∧ e0 = 1) ∨ (ins = .astore a ∧ e0 = 2)) (hn : a < hml y)
    (kk : gG E y (h + e0) (ls.filter (fun q => !(q.1 == a) && !(q.1 + 1 == a && gcat q.2 == 2))) [] I J B c w Q X) : gGx E y pc ls k I J B c w Q X := by
  intro hc hw p e s m args below meth cc ad0 Bs hC hT H locs LS ad hS q ce rest h1 h2 h3
  obtain ⟨ux, ub, ur, uml, hown, hts, ulk, hE⟩ := id hC
  obtain ⟨pre, x, suf, q1, q2, q3, q4, q5, q6⟩ := (gh_find (pc := pc) hts hE hk (hht y) hs hok).1 h hf
  have hcast : (Cond.castable (gxn k) (gxn k)).before args s = true := by
    rcases (show k = 0 ∨ k = 1 ∨ k = 2 by omega) with rfl | rfl | rfl
    · exact va_Nw.use rfl (hE.2.1 (.castable "java/lang/IllegalStateException" "java/lang/IllegalStateException") (by simp [gNst]))
    · exact va_Nw.use rfl (hE.2.1 (.castable "java/lang/IndexOutOfBoundsException" "java/lang/IndexOutOfBoundsException") (by simp [gNst]))
    · exact va_Nw.use rfl (hE.2.1 (.castable "java/lang/IllegalArgumentException" "java/lang/IllegalArgumentException") (by simp [gNst]))
  refine vx_catch hown pre x suf (hT.trans q1) q2 q3 q4 q6 hcast h1 h2 h3 ?_
  rw [q5]
  have hfin : ∀ LS2 : Array Slot, lv_has LS2 (hml y) ((a, Value.ref q) :: (ls.map (gcp ad)).filter (fun q => !(q.1 == a) && !(q.1 + 1 == a && q.2.category == 2))) → lv_has LS2 (hml y) ((ls.filter (fun q => !(q.1 == a) && !(q.1 + 1 == a && gcat q.2 == 2))).map (gcp ad)) := by
    intro LS2 hl
    refine ⟨hl.1, hl.2.1, fun z hz => hl.2.2 z (List.mem_cons_of_mem _ ?_)⟩
    rw [List.filter_map]
    obtain ⟨u, hu, rfl⟩ := List.mem_map.mp hz
    refine List.mem_map.mpr ⟨u, ?_, rfl⟩
    obtain ⟨u1, u2⟩ := List.mem_filter.mp hu
    refine List.mem_filter.mpr ⟨u1, ?_⟩
    simp only [Function.comp, gcp, gcat_cv]
    exact u2
  have hvl : ∀ z ∈ ls.filter (fun q => !(q.1 == a) && !(q.1 + 1 == a && gcat q.2 == 2)), gVv B z.2 := fun z hz => hS.2.2.2.2.2.1 z (List.mem_filter.mp hz).1
  rcases hi with ⟨j, rfl, hj, rfl⟩ | ⟨rfl, rfl⟩
  · exact lv_astore_n ux ub hd hj hS.2.2.1 hn rfl (fun LS2 hl => kk hc hw p e s m args below meth cc ad0 Bs hC hT H locs LS2 ad (hS.sv (hfin LS2 hl) hvl (fun v h => by cases h)))
  · exact lv_astore ux ub hd hS.2.2.1 hn rfl (fun LS2 hl => kk hc hw p e s m args below meth cc ad0 Bs hC hT H locs LS2 ad (hS.sv (hfin LS2 hl) hvl (fun v h => by cases h)))
theorem gx_pass {k : Nat} {hs : gH} (hok : gHok (hy y).cls (hht y) hs) (hk : k < 3) (hf : ghf hs pc k = none) (hq : X k I J B) : gGx E y pc ls k I J B c w Q X := by
  intro hc hw p e s m args below meth cc ad0 Bs hC hT H locs LS ad hS q ce rest h1 h2 h3
  obtain ⟨ux, ub, ur, uml, hown, hts, ulk, hE⟩ := id hC
  have hp := (gh_find (pc := pc) hts hE hk (hht y) hs hok).2 hf
  refine vx_outP hown ulk (fun z hz => hp z (by rw [← hT]; exact hz)) h1 h2 h3 ?_ (gfree hS.2.1) hc hw
  intro t ht _
  exact ⟨⟨k, I, J, B, ad, ⟨hk, rfl⟩, hq, by rw [ht]; exact hS.1, hS.2.2.2.1, hS.2.2.2.2.1⟩, hS.2.1.F ht⟩
end GH
end
section
/-! ===== which words the tables hold, by their places ===== -/
theorem gsubl {α : Type} {L : List α} {f : α → Cond} {is : List Nat} {T : List Cond} (h : L.map f = is.filterMap (fun i => T[i]?)) : ∀ t ∈ L, f t ∈ T := by
  intro t ht
  have h1 : f t ∈ L.map f := List.mem_map.mpr ⟨t, ht, rfl⟩
  rw [h] at h1
  obtain ⟨i, -, hi⟩ := List.mem_filterMap.mp h1
  exact List.mem_of_getElem? hi
theorem gpc1 {w : Cond} (h : w ∈ tables_1_1) : w ∈ lw_tbl := List.mem_append_right _ (List.mem_append_left _ h)
theorem gpc2 {w : Cond} (h : w ∈ tables_1_2) : w ∈ lw_tbl := List.mem_append_right _ (List.mem_append_right _ (List.mem_append_left _ h))
theorem gpc3 {w : Cond} (h : w ∈ tables_1_3) : w ∈ lw_tbl := List.mem_append_right _ (List.mem_append_right _ (List.mem_append_right _ (List.mem_append_left _ h)))
theorem gpc4 {w : Cond} (h : w ∈ tables_1_4) : w ∈ lw_tbl := List.mem_append_right _ (List.mem_append_right _ (List.mem_append_right _ (List.mem_append_right _ (List.mem_append_left _ h))))
theorem gpc5 {w : Cond} (h : w ∈ tables_1_5) : w ∈ lw_tbl := List.mem_append_right _ (List.mem_append_right _ (List.mem_append_right _ (List.mem_append_right _ (List.mem_append_right _ (List.mem_append_left _ h)))))
theorem gpc6 {w : Cond} (h : w ∈ tables_1_6) : w ∈ lw_tbl := List.mem_append_right _ (List.mem_append_right _ (List.mem_append_right _ (List.mem_append_right _ (List.mem_append_right _ (List.mem_append_right _ (List.mem_append_left _ h))))))
theorem gpc7 {w : Cond} (h : w ∈ tables_1_7) : w ∈ lw_tbl := List.mem_append_right _ (List.mem_append_right _ (List.mem_append_right _ (List.mem_append_right _ (List.mem_append_right _ (List.mem_append_right _ (List.mem_append_right _ (List.mem_append_left _ h)))))))
theorem gpc8 {w : Cond} (h : w ∈ tables_1_8) : w ∈ lw_tbl := List.mem_append_right _ (List.mem_append_right _ (List.mem_append_right _ (List.mem_append_right _ (List.mem_append_right _ (List.mem_append_right _ (List.mem_append_right _ (List.mem_append_right _ h)))))))
theorem gBig_of {w : Cond} (h : w ∈ lw_tbl) (h2 : goodWord w = true) : w ∈ gBig := List.mem_filter.mpr ⟨h, h2⟩
def gML_2 : List (Nat × Nat × Nat) := [(9, 177, 52), (7, 77, 21), (9, 191, 54), (9, 195, 55), (9, 199, 56), (9, 203, 57), (9, 207, 58), (9, 327, 96), (9, 361, 107), (9, 182, 254), (9, 7, 53), (7, 88, 22), (3, 26, 308), (3, 32, 307), (3, 53, 44), (6, 42, 310), (6, 51, 48), (6, 63, 309), (3, 56, 31), (3, 152, 32), (3, 144, 34), (3, 156, 33), (3, 59, 23), (3, 78, 29), (3, 139, 311), (3, 148, 312)]
set_option maxRecDepth 100000 in
set_option maxHeartbeats 4000000 in
theorem gML_2_w : gML_2.map (fun t : Nat × Nat × Nat => Cond.methodLink (gcls t.1) t.2.1 (hy t.2.2)) = ([41, 45, 49, 53, 57, 61, 65, 69, 73, 77, 82, 153, 157, 160, 163, 167, 170, 174, 180, 184, 188, 192, 196, 201, 205, 215] : List Nat).filterMap (fun i => tables_1_2[i]?) := rfl
def gML_3 : List (Nat × Nat × Nat) := [(3, 72, 30), (3, 82, 28), (3, 66, 24), (3, 102, 25), (3, 106, 26), (3, 132, 47), (3, 117, 27), (3, 69, 48), (7, 100, 45), (7, 104, 20), (9, 211, 255), (9, 17, 59), (7, 119, 110), (7, 122, 114), (7, 125, 46), (9, 214, 256), (9, 22, 60), (7, 129, 111), (9, 218, 257), (9, 26, 61), (9, 221, 258), (9, 29, 62), (9, 224, 259), (9, 32, 63), (7, 138, 115), (7, 141, 122), (7, 145, 6), (1, 16, 308), (1, 22, 307), (1, 35, 46), (7, 341, 304), (7, 149, 11), (1, 50, 12), (1, 54, 13), (1, 61, 15), (1, 57, 14), (7, 174, 10), (9, 227, 260), (9, 35, 64), (9, 231, 261), (9, 39, 65), (9, 234, 262), (9, 43, 66), (7, 152, 123), (9, 237, 263), (9, 46, 67), (7, 156, 124), (9, 240, 264), (9, 49, 68), (7, 159, 307), (9, 243, 265)]
set_option maxRecDepth 100000 in
set_option maxHeartbeats 4000000 in
theorem gML_3_w : gML_3.map (fun t : Nat × Nat × Nat => Cond.methodLink (gcls t.1) t.2.1 (hy t.2.2)) = ([13, 17, 27, 32, 36, 40, 46, 51, 68, 72, 76, 80, 84, 104, 109, 113, 116, 120, 125, 128, 132, 135, 139, 142, 146, 151, 155, 159, 160, 161, 165, 168, 172, 176, 180, 184, 188, 192, 195, 199, 202, 206, 209, 213, 217, 220, 224, 229, 232, 236, 237] : List Nat).filterMap (fun i => tables_1_3[i]?) := rfl
def gML_4 : List (Nat × Nat × Nat) := [(9, 52, 69), (9, 246, 266), (9, 55, 70), (9, 249, 267), (9, 58, 71), (7, 167, 117), (7, 171, 47), (9, 253, 268), (9, 62, 72), (7, 177, 112), (7, 180, 125), (7, 183, 8), (9, 256, 269), (9, 65, 73), (7, 186, 17), (1, 64, 8), (1, 67, 9), (9, 259, 270), (9, 68, 74), (7, 189, 126), (7, 346, 41), (5, 19, 7), (5, 25, 307), (5, 31, 8), (5, 34, 42), (5, 42, 15), (5, 38, 43), (5, 53, 9), (9, 262, 271), (9, 71, 75), (7, 194, 40), (9, 266, 272), (9, 75, 76), (9, 269, 273), (9, 78, 77), (7, 198, 127), (7, 349, 9), (9, 272, 274), (9, 81, 78), (7, 203, 119), (7, 255, 35), (4, 31, 6), (4, 35, 9), (4, 39, 11), (7, 206, 36), (4, 43, 7), (4, 47, 8), (9, 275, 275), (9, 84, 79), (7, 211, 16), (9, 278, 276), (9, 87, 80), (9, 281, 277), (9, 90, 81), (9, 284, 278), (9, 93, 82), (7, 217, 49), (9, 287, 279), (9, 96, 83), (7, 222, 50), (9, 290, 280), (9, 99, 84), (9, 293, 281), (9, 102, 85), (9, 296, 282), (9, 106, 86), (9, 299, 283), (9, 109, 87), (7, 238, 118), (7, 244, 0), (0, 34, 3), (0, 66, 306)]
set_option maxRecDepth 100000 in
set_option maxHeartbeats 4000000 in
theorem gML_4_w : gML_4.map (fun t : Nat × Nat × Nat => Cond.methodLink (gcls t.1) t.2.1 (hy t.2.2)) = ([0, 4, 7, 11, 14, 18, 22, 23, 26, 30, 35, 39, 43, 46, 50, 54, 55, 59, 62, 66, 70, 74, 78, 79, 80, 84, 86, 90, 91, 94, 99, 103, 106, 110, 113, 117, 121, 123, 126, 130, 134, 138, 139, 140, 141, 145, 146, 147, 150, 155, 159, 162, 166, 169, 173, 176, 180, 185, 188, 193, 197, 200, 204, 207, 211, 214, 219, 222, 226, 230, 234, 237] : List Nat).filterMap (fun i => tables_1_4[i]?) := rfl
def gML_5 : List (Nat × Nat × Nat) := [(0, 38, 4), (9, 302, 284), (9, 112, 88), (9, 305, 285), (9, 115, 89), (9, 309, 286), (9, 119, 90), (7, 251, 1), (0, 45, 0), (0, 49, 5), (0, 54, 2), (0, 62, 46), (9, 312, 287), (9, 122, 91), (7, 258, 37), (4, 51, 308), (4, 56, 36), (4, 73, 38), (4, 80, 46), (9, 315, 288), (9, 125, 92), (7, 261, 128), (9, 318, 289), (9, 128, 93), (7, 264, 113), (7, 267, 129), (7, 353, 121), (9, 321, 290), (9, 131, 94), (9, 324, 291), (9, 134, 95), (9, 331, 292), (9, 137, 97), (9, 334, 293), (9, 140, 98), (7, 280, 18), (2, 22, 45), (2, 29, 308), (7, 283, 48), (9, 337, 294), (9, 143, 99), (9, 340, 295), (9, 146, 100), (9, 343, 296), (9, 149, 101), (7, 286, 120), (9, 346, 297), (9, 152, 102), (9, 349, 298), (9, 155, 103), (9, 352, 299), (9, 158, 104), (7, 297, 39), (4, 83, 37), (4, 87, 1), (4, 93, 51), (6, 68, 305), (6, 74, 307), (9, 355, 300), (9, 161, 105), (7, 303, 308), (9, 358, 301), (9, 164, 106), (7, 306, 19), (9, 365, 302), (9, 167, 108), (7, 318, 116), (9, 368, 303), (9, 170, 109)]
set_option maxRecDepth 100000 in
set_option maxHeartbeats 4000000 in
theorem gML_5_w : gML_5.map (fun t : Nat × Nat × Nat => Cond.methodLink (gcls t.1) t.2.1 (hy t.2.2)) = ([2, 6, 9, 13, 16, 20, 23, 27, 31, 32, 36, 40, 41, 44, 48, 52, 53, 55, 59, 60, 63, 67, 71, 74, 78, 83, 87, 88, 91, 95, 98, 102, 105, 111, 114, 118, 123, 124, 125, 126, 129, 133, 136, 140, 143, 147, 149, 152, 157, 160, 165, 168, 173, 177, 178, 179, 183, 186, 187, 190, 195, 196, 199, 203, 208, 211, 215, 219, 222] : List Nat).filterMap (fun i => tables_1_5[i]?) := rfl
def gML_6 : List (Nat × Nat × Nat) := [(9, 188, 130), (9, 181, 136), (9, 202, 137), (9, 194, 138), (9, 198, 139), (9, 187, 156), (8, 134, 131), (8, 65, 132), (8, 183, 155), (8, 110, 143), (8, 85, 140), (8, 94, 141), (8, 98, 142), (8, 153, 147), (8, 123, 146), (8, 113, 311), (8, 119, 312), (8, 127, 144), (8, 131, 145), (8, 157, 149), (8, 138, 148), (8, 162, 134), (8, 69, 135), (8, 167, 152), (8, 142, 150), (8, 145, 151), (8, 172, 153), (8, 177, 154), (8, 186, 157), (9, 206, 163), (8, 202, 162), (9, 210, 164), (9, 330, 165), (9, 364, 166), (9, 213, 168), (8, 192, 133), (8, 205, 159), (9, 217, 169), (8, 208, 161)]
set_option maxRecDepth 100000 in
set_option maxHeartbeats 4000000 in
theorem gML_6_w : gML_6.map (fun t : Nat × Nat × Nat => Cond.methodLink (gcls t.1) t.2.1 (hy t.2.2)) = ([90, 94, 98, 102, 106, 110, 114, 117, 121, 125, 129, 133, 136, 140, 144, 148, 149, 150, 154, 158, 162, 167, 170, 174, 178, 182, 187, 192, 197, 201, 205, 209, 213, 217, 221, 225, 229, 233, 237] : List Nat).filterMap (fun i => tables_1_6[i]?) := rfl
def gML_7 : List (Nat × Nat × Nat) := [(8, 199, 160), (8, 196, 158), (8, 212, 167), (9, 220, 170), (9, 223, 171), (9, 226, 180), (8, 241, 179), (8, 238, 178), (8, 221, 174), (8, 218, 172), (8, 224, 177), (8, 228, 175), (8, 231, 173), (8, 234, 176), (9, 230, 183), (8, 247, 182), (8, 244, 181), (9, 233, 185), (8, 250, 184), (9, 236, 187), (8, 256, 186), (9, 239, 189), (8, 259, 188), (9, 242, 190), (8, 262, 307), (9, 245, 191), (9, 248, 192), (9, 252, 193), (9, 255, 199), (8, 277, 198), (8, 267, 194), (9, 258, 200), (8, 270, 195), (9, 261, 201), (8, 280, 197), (8, 273, 196), (9, 265, 202), (9, 268, 203), (9, 271, 206), (8, 283, 205), (8, 286, 204), (9, 274, 207), (9, 277, 208), (9, 280, 209), (9, 283, 213), (9, 286, 214), (8, 291, 210), (9, 289, 215), (9, 292, 216), (9, 295, 217), (8, 294, 212), (9, 298, 218), (8, 300, 211), (9, 301, 222), (8, 323, 221), (8, 304, 219), (8, 308, 306), (8, 312, 220), (9, 304, 223), (9, 308, 224), (9, 311, 226), (8, 328, 225)]
set_option maxRecDepth 100000 in
set_option maxHeartbeats 4000000 in
theorem gML_7_w : gML_7.map (fun t : Nat × Nat × Nat => Cond.methodLink (gcls t.1) t.2.1 (hy t.2.2)) = ([1, 5, 9, 13, 17, 21, 25, 29, 33, 37, 41, 45, 49, 53, 57, 61, 65, 69, 73, 77, 81, 85, 89, 93, 97, 98, 102, 106, 110, 114, 118, 122, 126, 130, 134, 138, 142, 146, 150, 154, 158, 162, 166, 170, 174, 178, 182, 187, 191, 195, 199, 203, 208, 212, 216, 220, 223, 224, 227, 231, 235, 239] : List Nat).filterMap (fun i => tables_1_7[i]?) := rfl
def gML_8 : List (Nat × Nat × Nat) := [(9, 314, 230), (8, 333, 239), (8, 336, 227), (8, 339, 228), (8, 342, 240), (9, 317, 232), (8, 345, 231), (9, 320, 235), (8, 348, 234), (8, 351, 233), (9, 323, 236), (9, 326, 237), (9, 333, 238), (9, 336, 243), (8, 357, 242), (8, 354, 241), (9, 339, 244), (9, 342, 245), (9, 345, 246), (9, 348, 247), (9, 351, 248), (9, 354, 249), (8, 361, 229), (8, 331, 305), (9, 357, 250), (9, 360, 251), (9, 367, 252), (9, 370, 253)]
set_option maxRecDepth 100000 in
set_option maxHeartbeats 4000000 in
theorem gML_8_w : gML_8.map (fun t : Nat × Nat × Nat => Cond.methodLink (gcls t.1) t.2.1 (hy t.2.2)) = ([4, 8, 12, 16, 20, 24, 28, 32, 36, 40, 44, 48, 52, 56, 60, 64, 68, 72, 76, 80, 84, 88, 92, 96, 97, 101, 105, 109] : List Nat).filterMap (fun i => tables_1_8[i]?) := rfl
def gML : List (Nat × Nat × Nat) := gML_2 ++ gML_3 ++ gML_4 ++ gML_5 ++ gML_6 ++ gML_7 ++ gML_8
theorem gML_ok : ∀ t ∈ gML, (fun t : Nat × Nat × Nat => Cond.methodLink (gcls t.1) t.2.1 (hy t.2.2)) t ∈ gBig := by
  intro t ht
  rcases List.mem_append.mp ht with ht | ht
  rotate_left
  · exact gBig_of (gpc8 (gsubl gML_8_w t ht)) rfl
  rcases List.mem_append.mp ht with ht | ht
  rotate_left
  · exact gBig_of (gpc7 (gsubl gML_7_w t ht)) rfl
  rcases List.mem_append.mp ht with ht | ht
  rotate_left
  · exact gBig_of (gpc6 (gsubl gML_6_w t ht)) rfl
  rcases List.mem_append.mp ht with ht | ht
  rotate_left
  · exact gBig_of (gpc5 (gsubl gML_5_w t ht)) rfl
  rcases List.mem_append.mp ht with ht | ht
  rotate_left
  · exact gBig_of (gpc4 (gsubl gML_4_w t ht)) rfl
  rcases List.mem_append.mp ht with ht | ht
  rotate_left
  · exact gBig_of (gpc3 (gsubl gML_3_w t ht)) rfl
  exact gBig_of (gpc2 (gsubl gML_2_w t ht)) rfl
def gTX (ci : Nat) : u_T := ([TX0, TX1, TX2, TX3, TX4, TX5, TX6, TX7, TX8] : List u_T).getD ci TX0
def gFT_1 : List (Nat × Nat × Nat × Nat) := [(4, 22, 6, 0), (6, 35, 6, 0), (0, 42, 6, 0), (7, 107, 6, 0), (3, 89, 6, 0), (6, 39, 6, 1), (0, 24, 6, 1), (4, 28, 6, 1), (3, 97, 6, 1), (7, 116, 6, 1), (6, 9, 6, 2), (6, 15, 6, 3), (0, 58, 6, 3), (3, 113, 6, 3), (7, 132, 6, 3), (6, 18, 6, 4), (3, 123, 6, 4), (7, 135, 6, 4), (0, 18, 6, 5), (6, 60, 6, 5), (4, 77, 6, 5), (7, 214, 6, 5), (6, 21, 6, 6), (0, 27, 6, 6), (4, 69, 6, 6), (7, 234, 6, 6), (6, 25, 6, 7), (0, 31, 6, 7), (4, 65, 6, 7), (7, 228, 6, 7), (6, 29, 6, 8), (4, 59, 6, 8), (7, 225, 6, 8), (6, 48, 6, 9), (7, 270, 6, 9), (6, 32, 6, 10), (7, 277, 6, 10), (3, 9, 3, 0), (7, 73, 3, 1), (3, 22, 3, 1), (3, 18, 3, 2), (7, 97, 3, 2), (3, 38, 3, 3), (7, 110, 3, 3), (7, 113, 3, 4), (3, 136, 3, 4), (3, 35, 3, 5), (3, 63, 3, 6), (3, 41, 3, 7), (3, 86, 3, 8), (3, 126, 3, 9), (3, 129, 3, 10), (3, 44, 3, 11), (3, 47, 3, 12), (3, 50, 3, 13), (2, 11, 2, 0), (2, 17, 2, 1), (2, 26, 2, 2), (7, 315, 2, 2), (1, 11, 1, 0), (1, 25, 1, 1), (1, 29, 1, 2), (1, 32, 1, 3), (1, 44, 1, 4), (1, 47, 1, 5), (5, 11, 5, 0), (5, 16, 5, 1), (0, 9, 0, 0), (7, 241, 0, 0), (0, 15, 0, 1), (7, 248, 0, 1)]
set_option maxRecDepth 100000 in
set_option maxHeartbeats 4000000 in
theorem gFT_1_w : gFT_1.map (fun t : Nat × Nat × Nat × Nat => Cond.fieldLink (gcls t.1) t.2.1 (gTX t.2.2.1 t.2.2.2).1 (gTX t.2.2.1 t.2.2.2).2.1 (gTX t.2.2.1 t.2.2.2).2.2.1) = ([43, 44, 45, 46, 47, 48, 49, 50, 51, 52, 53, 54, 55, 56, 57, 58, 59, 60, 61, 62, 63, 64, 65, 66, 67, 68, 69, 70, 71, 72, 73, 74, 75, 76, 77, 78, 79, 106, 107, 108, 109, 110, 111, 112, 113, 114, 115, 116, 117, 118, 119, 120, 121, 122, 123, 163, 164, 165, 166, 182, 183, 184, 185, 187, 188, 210, 211, 223, 224, 225, 226] : List Nat).filterMap (fun i => tables_1_1[i]?) := rfl
def gFT_2 : List (Nat × Nat × Nat × Nat) := [(4, 12, 4, 0), (4, 18, 4, 1), (7, 10, 7, 0), (7, 19, 7, 1), (7, 23, 7, 2), (7, 29, 7, 3), (7, 33, 7, 4), (7, 37, 7, 5), (7, 44, 7, 6), (7, 51, 7, 7), (7, 58, 7, 8), (7, 65, 7, 9), (7, 69, 7, 10)]
set_option maxRecDepth 100000 in
set_option maxHeartbeats 4000000 in
theorem gFT_2_w : gFT_2.map (fun t : Nat × Nat × Nat × Nat => Cond.fieldLink (gcls t.1) t.2.1 (gTX t.2.2.1 t.2.2.2).1 (gTX t.2.2.1 t.2.2.2).2.1 (gTX t.2.2.1 t.2.2.2).2.2.1) = ([0, 1, 7, 8, 9, 10, 11, 12, 13, 14, 15, 16, 17] : List Nat).filterMap (fun i => tables_1_2[i]?) := rfl
def gFT_5 : List (Nat × Nat × Nat × Nat) := [(8, 58, 8, 0), (8, 61, 8, 1), (8, 7, 8, 2), (8, 13, 8, 3), (8, 189, 8, 4), (8, 16, 8, 5), (8, 20, 8, 6)]
set_option maxRecDepth 100000 in
set_option maxHeartbeats 4000000 in
theorem gFT_5_w : gFT_5.map (fun t : Nat × Nat × Nat × Nat => Cond.fieldLink (gcls t.1) t.2.1 (gTX t.2.2.1 t.2.2.2).1 (gTX t.2.2.1 t.2.2.2).2.1 (gTX t.2.2.1 t.2.2.2).2.2.1) = ([233, 234, 235, 236, 237, 238, 239] : List Nat).filterMap (fun i => tables_1_5[i]?) := rfl
def gFT_6 : List (Nat × Nat × Nat × Nat) := [(8, 73, 8, 7), (8, 76, 8, 8), (8, 23, 8, 9), (8, 79, 8, 10), (8, 82, 8, 11), (8, 88, 8, 12), (8, 91, 8, 13), (8, 101, 8, 14), (8, 104, 8, 15), (8, 107, 8, 16), (8, 27, 8, 17), (8, 30, 8, 18), (8, 148, 8, 19), (8, 33, 8, 20), (8, 215, 8, 21), (8, 36, 8, 22), (8, 39, 8, 23), (8, 253, 8, 24), (8, 42, 8, 25), (8, 45, 8, 26), (8, 48, 8, 27), (8, 316, 8, 28), (8, 320, 8, 29), (8, 51, 8, 30), (8, 55, 8, 31)]
set_option maxRecDepth 100000 in
set_option maxHeartbeats 4000000 in
theorem gFT_6_w : gFT_6.map (fun t : Nat × Nat × Nat × Nat => Cond.fieldLink (gcls t.1) t.2.1 (gTX t.2.2.1 t.2.2.2).1 (gTX t.2.2.1 t.2.2.2).2.1 (gTX t.2.2.1 t.2.2.2).2.2.1) = ([0, 1, 2, 3, 4, 5, 6, 7, 8, 9, 10, 11, 12, 13, 14, 15, 16, 17, 18, 19, 20, 21, 22, 23, 24] : List Nat).filterMap (fun i => tables_1_6[i]?) := rfl
def gFT : List (Nat × Nat × Nat × Nat) := gFT_1 ++ gFT_2 ++ gFT_5 ++ gFT_6
theorem gFT_ok : ∀ t ∈ gFT, (fun t : Nat × Nat × Nat × Nat => Cond.fieldLink (gcls t.1) t.2.1 (gTX t.2.2.1 t.2.2.2).1 (gTX t.2.2.1 t.2.2.2).2.1 (gTX t.2.2.1 t.2.2.2).2.2.1) t ∈ gBig := by
  intro t ht
  rcases List.mem_append.mp ht with ht | ht
  rotate_left
  · exact gBig_of (gpc6 (gsubl gFT_6_w t ht)) rfl
  rcases List.mem_append.mp ht with ht | ht
  rotate_left
  · exact gBig_of (gpc5 (gsubl gFT_5_w t ht)) rfl
  rcases List.mem_append.mp ht with ht | ht
  rotate_left
  · exact gBig_of (gpc2 (gsubl gFT_2_w t ht)) rfl
  exact gBig_of (gpc1 (gsubl gFT_1_w t ht)) rfl
def gYc_2 : List Nat := [52, 21, 54, 55, 56, 57, 58, 96, 107, 53, 22, 308, 307, 44, 310, 48, 309, 31, 32, 34, 33, 23, 29, 311, 312]
set_option maxRecDepth 100000 in
set_option maxHeartbeats 4000000 in
theorem gYc_2_w : gYc_2.map (fun y : Nat => Cond.code (hy y) (hb y) (hml y) (hr y)) = ([44, 48, 52, 56, 60, 64, 68, 72, 76, 85, 156, 159, 162, 166, 169, 173, 176, 183, 187, 191, 195, 199, 204, 208, 218] : List Nat).filterMap (fun i => tables_1_2[i]?) := rfl
def gYc_3 : List Nat := [30, 28, 120, 24, 25, 26, 47, 27, 45, 20, 59, 110, 114, 46, 60, 111, 61, 62, 63, 115, 122, 6, 121, 304, 11, 12, 13, 15, 14, 10, 64, 65, 66, 123, 67, 124, 68]
set_option maxRecDepth 100000 in
set_option maxHeartbeats 4000000 in
theorem gYc_3_w : gYc_3.map (fun y : Nat => Cond.code (hy y) (hb y) (hml y) (hr y)) = ([16, 20, 24, 30, 35, 39, 43, 49, 71, 75, 83, 87, 107, 112, 119, 123, 131, 138, 145, 149, 154, 158, 164, 167, 171, 175, 179, 183, 187, 191, 198, 205, 212, 216, 223, 227, 235] : List Nat).filterMap (fun i => tables_1_3[i]?) := rfl
def gYc_4 : List Nat := [69, 70, 71, 117, 72, 112, 125, 8, 73, 17, 9, 74, 126, 41, 7, 42, 43, 75, 40, 76, 77, 127, 78, 119, 35, 36, 79, 16, 80, 81, 82, 49, 83, 50, 84, 85, 86, 87, 118, 0, 3, 306]
set_option maxRecDepth 100000 in
set_option maxHeartbeats 4000000 in
theorem gYc_4_w : gYc_4.map (fun y : Nat => Cond.code (hy y) (hb y) (hml y) (hr y)) = ([3, 10, 17, 20, 29, 33, 38, 42, 49, 53, 58, 65, 69, 73, 77, 83, 89, 97, 102, 109, 116, 120, 129, 133, 137, 144, 153, 158, 165, 172, 179, 183, 191, 196, 203, 210, 217, 225, 229, 233, 236, 239] : List Nat).filterMap (fun i => tables_1_4[i]?) := rfl
def gYc_5 : List Nat := [4, 88, 89, 90, 1, 5, 2, 91, 37, 38, 92, 128, 93, 113, 129, 94, 95, 97, 98, 18, 99, 100, 101, 102, 103, 104, 39, 51, 305, 105, 106, 19, 108, 116, 109]
set_option maxRecDepth 100000 in
set_option maxHeartbeats 4000000 in
theorem gYc_5_w : gYc_5.map (fun y : Nat => Cond.code (hy y) (hb y) (hml y) (hr y)) = ([4, 12, 19, 26, 30, 34, 39, 47, 51, 58, 66, 70, 77, 81, 86, 94, 101, 108, 117, 121, 132, 139, 146, 155, 163, 171, 176, 182, 185, 193, 202, 206, 214, 217, 225] : List Nat).filterMap (fun i => tables_1_5[i]?) := rfl
def gYc_6 : List Nat := [130, 136, 137, 138, 139, 156, 131, 132, 155, 143, 140, 141, 142, 147, 146, 144, 145, 149, 148, 134, 135, 152, 150, 151, 153, 154, 157, 163, 162, 164, 165, 166, 168, 133, 159, 169]
set_option maxRecDepth 100000 in
set_option maxHeartbeats 4000000 in
theorem gYc_6_w : gYc_6.map (fun y : Nat => Cond.code (hy y) (hb y) (hml y) (hr y)) = ([93, 97, 101, 105, 109, 113, 116, 120, 124, 128, 132, 135, 138, 143, 147, 153, 157, 161, 165, 169, 172, 177, 181, 185, 190, 195, 200, 204, 208, 212, 216, 220, 224, 228, 232, 236] : List Nat).filterMap (fun i => tables_1_6[i]?) := rfl
def gYc_7 : List Nat := [161, 160, 158, 167, 170, 171, 180, 179, 178, 174, 172, 177, 175, 173, 176, 183, 182, 181, 185, 184, 187, 186, 189, 188, 190, 191, 192, 193, 199, 198, 194, 200, 195, 201, 197, 196, 202, 203, 206, 205, 204, 207, 208, 209, 213, 214, 210, 215, 216, 217, 212, 218, 211, 222, 221, 219, 220, 223, 224, 226]
set_option maxRecDepth 100000 in
set_option maxHeartbeats 4000000 in
theorem gYc_7_w : gYc_7.map (fun y : Nat => Cond.code (hy y) (hb y) (hml y) (hr y)) = ([0, 4, 8, 12, 16, 20, 24, 28, 32, 36, 40, 44, 48, 52, 56, 60, 64, 68, 72, 76, 80, 84, 88, 92, 96, 101, 105, 109, 113, 117, 121, 125, 129, 133, 137, 141, 145, 149, 153, 157, 161, 165, 169, 173, 177, 181, 185, 190, 194, 198, 202, 206, 211, 215, 219, 222, 226, 230, 234, 238] : List Nat).filterMap (fun i => tables_1_7[i]?) := rfl
def gYc_8 : List Nat := [225, 230, 239, 227, 228, 240, 232, 231, 235, 234, 233, 236, 237, 238, 243, 242, 241, 244, 245, 246, 247, 248, 249, 229, 250, 251, 252, 253]
set_option maxRecDepth 100000 in
set_option maxHeartbeats 4000000 in
theorem gYc_8_w : gYc_8.map (fun y : Nat => Cond.code (hy y) (hb y) (hml y) (hr y)) = ([2, 7, 11, 15, 19, 23, 27, 31, 35, 39, 43, 47, 51, 55, 59, 63, 67, 71, 75, 79, 83, 87, 91, 95, 100, 104, 108, 112] : List Nat).filterMap (fun i => tables_1_8[i]?) := rfl
def gYc : List Nat := gYc_2 ++ gYc_3 ++ gYc_4 ++ gYc_5 ++ gYc_6 ++ gYc_7 ++ gYc_8
theorem gYc_ok : ∀ t ∈ gYc, (fun y : Nat => Cond.code (hy y) (hb y) (hml y) (hr y)) t ∈ gBig := by
  intro t ht
  rcases List.mem_append.mp ht with ht | ht
  rotate_left
  · exact gBig_of (gpc8 (gsubl gYc_8_w t ht)) rfl
  rcases List.mem_append.mp ht with ht | ht
  rotate_left
  · exact gBig_of (gpc7 (gsubl gYc_7_w t ht)) rfl
  rcases List.mem_append.mp ht with ht | ht
  rotate_left
  · exact gBig_of (gpc6 (gsubl gYc_6_w t ht)) rfl
  rcases List.mem_append.mp ht with ht | ht
  rotate_left
  · exact gBig_of (gpc5 (gsubl gYc_5_w t ht)) rfl
  rcases List.mem_append.mp ht with ht | ht
  rotate_left
  · exact gBig_of (gpc4 (gsubl gYc_4_w t ht)) rfl
  rcases List.mem_append.mp ht with ht | ht
  rotate_left
  · exact gBig_of (gpc3 (gsubl gYc_3_w t ht)) rfl
  exact gBig_of (gpc2 (gsubl gYc_2_w t ht)) rfl
def gYx_2 : List Nat := [254]
set_option maxRecDepth 100000 in
set_option maxHeartbeats 4000000 in
theorem gYx_2_w : gYx_2.map (fun y : Nat => Cond.codeWith (hy y) (hb y) (hml y) (hr y) (hht y)) = ([79] : List Nat).filterMap (fun i => tables_1_2[i]?) := rfl
def gYx_3 : List Nat := [255, 256, 257, 258, 259, 260, 261, 262, 263, 264, 265]
set_option maxRecDepth 100000 in
set_option maxHeartbeats 4000000 in
theorem gYx_3_w : gYx_3.map (fun y : Nat => Cond.codeWith (hy y) (hb y) (hml y) (hr y) (hht y)) = ([78, 115, 127, 134, 141, 194, 201, 208, 219, 231, 239] : List Nat).filterMap (fun i => tables_1_3[i]?) := rfl
def gYx_4 : List Nat := [266, 267, 268, 269, 270, 271, 272, 273, 274, 275, 276, 277, 278, 279, 280, 281, 282, 283]
set_option maxRecDepth 100000 in
set_option maxHeartbeats 4000000 in
theorem gYx_4_w : gYx_4.map (fun y : Nat => Cond.codeWith (hy y) (hb y) (hml y) (hr y) (hht y)) = ([6, 13, 25, 45, 61, 93, 105, 112, 125, 149, 161, 168, 175, 187, 199, 206, 213, 221] : List Nat).filterMap (fun i => tables_1_4[i]?) := rfl
def gYx_5 : List Nat := [284, 285, 286, 287, 288, 289, 290, 291, 292, 293, 294, 295, 296, 297, 298, 299, 300, 301, 302, 303]
set_option maxRecDepth 100000 in
set_option maxHeartbeats 4000000 in
theorem gYx_5_w : gYx_5.map (fun y : Nat => Cond.codeWith (hy y) (hb y) (hml y) (hr y) (hht y)) = ([8, 15, 22, 43, 62, 73, 90, 97, 104, 113, 128, 135, 142, 151, 159, 167, 189, 198, 210, 221] : List Nat).filterMap (fun i => tables_1_5[i]?) := rfl
def gYx : List Nat := gYx_2 ++ gYx_3 ++ gYx_4 ++ gYx_5
theorem gYx_ok : ∀ t ∈ gYx, (fun y : Nat => Cond.codeWith (hy y) (hb y) (hml y) (hr y) (hht y)) t ∈ gBig := by
  intro t ht
  rcases List.mem_append.mp ht with ht | ht
  rotate_left
  · exact gBig_of (gpc5 (gsubl gYx_5_w t ht)) rfl
  rcases List.mem_append.mp ht with ht | ht
  rotate_left
  · exact gBig_of (gpc4 (gsubl gYx_4_w t ht)) rfl
  rcases List.mem_append.mp ht with ht | ht
  rotate_left
  · exact gBig_of (gpc3 (gsubl gYx_3_w t ht)) rfl
  exact gBig_of (gpc2 (gsubl gYx_2_w t ht)) rfl
def gYi_2 : List Nat := [52, 21, 54, 55, 56, 57, 58, 96, 107, 53, 22, 44, 48, 31, 32, 34, 33, 23, 29, 311, 312]
set_option maxRecDepth 100000 in
set_option maxHeartbeats 4000000 in
theorem gYi_2_w : gYi_2.map (fun y : Nat => Cond.instanceMethod (hy y)) = ([42, 46, 50, 54, 58, 62, 66, 70, 74, 83, 154, 164, 171, 182, 186, 190, 194, 198, 203, 206, 216] : List Nat).filterMap (fun i => tables_1_2[i]?) := rfl
def gYi_3 : List Nat := [30, 28, 24, 25, 26, 47, 27, 45, 20, 59, 110, 114, 46, 60, 111, 61, 62, 63, 115, 122, 6, 11, 12, 13, 15, 14, 10, 64, 65, 66, 123, 67, 124, 68]
set_option maxRecDepth 100000 in
set_option maxHeartbeats 4000000 in
theorem gYi_3_w : gYi_3.map (fun y : Nat => Cond.instanceMethod (hy y)) = ([15, 19, 29, 34, 38, 41, 48, 69, 73, 81, 86, 106, 110, 117, 122, 129, 136, 143, 148, 153, 156, 169, 174, 178, 181, 186, 189, 196, 203, 210, 215, 221, 226, 233] : List Nat).filterMap (fun i => tables_1_3[i]?) := rfl
def gYi_4 : List Nat := [69, 70, 71, 72, 112, 125, 8, 73, 17, 9, 74, 126, 41, 7, 42, 43, 75, 40, 76, 77, 127, 78, 119, 35, 36, 79, 16, 80, 81, 82, 49, 83, 50, 84, 85, 86, 87, 118, 0]
set_option maxRecDepth 100000 in
set_option maxHeartbeats 4000000 in
theorem gYi_4_w : gYi_4.map (fun y : Nat => Cond.instanceMethod (hy y)) = ([1, 8, 15, 27, 32, 37, 40, 47, 51, 56, 63, 68, 71, 75, 82, 88, 95, 100, 107, 114, 119, 127, 132, 135, 142, 151, 156, 163, 170, 177, 181, 189, 194, 201, 208, 215, 223, 228, 231] : List Nat).filterMap (fun i => tables_1_4[i]?) := rfl
def gYi_5 : List Nat := [88, 89, 90, 1, 2, 91, 37, 38, 92, 128, 93, 113, 129, 94, 95, 97, 98, 18, 99, 100, 101, 102, 103, 104, 39, 51, 105, 106, 19, 108, 109]
set_option maxRecDepth 100000 in
set_option maxHeartbeats 4000000 in
theorem gYi_5_w : gYi_5.map (fun y : Nat => Cond.instanceMethod (hy y)) = ([10, 17, 24, 28, 38, 45, 49, 57, 64, 69, 75, 80, 85, 92, 99, 106, 115, 119, 130, 137, 144, 153, 161, 169, 174, 180, 191, 200, 204, 212, 223] : List Nat).filterMap (fun i => tables_1_5[i]?) := rfl
def gYi_6 : List Nat := [130, 136, 137, 138, 139, 156, 132, 155, 143, 140, 147, 146, 144, 145, 149, 148, 152, 150, 151, 153, 154, 157, 163, 162, 164, 165, 166, 168, 133, 159, 169, 161]
set_option maxRecDepth 100000 in
set_option maxHeartbeats 4000000 in
theorem gYi_6_w : gYi_6.map (fun y : Nat => Cond.instanceMethod (hy y)) = ([91, 95, 99, 103, 107, 111, 119, 123, 127, 131, 142, 146, 152, 156, 160, 164, 176, 180, 184, 189, 194, 199, 202, 207, 210, 214, 218, 222, 227, 231, 234, 239] : List Nat).filterMap (fun i => tables_1_6[i]?) := rfl
def gYi_7 : List Nat := [160, 158, 167, 170, 171, 180, 179, 178, 174, 172, 177, 175, 173, 176, 183, 182, 181, 185, 184, 187, 186, 189, 188, 190, 191, 192, 193, 199, 198, 194, 200, 195, 201, 197, 196, 202, 203, 206, 205, 204, 207, 208, 209, 213, 214, 210, 215, 216, 217, 212, 218, 211, 222, 221, 223, 224, 226]
set_option maxRecDepth 100000 in
set_option maxHeartbeats 4000000 in
theorem gYi_7_w : gYi_7.map (fun y : Nat => Cond.instanceMethod (hy y)) = ([3, 7, 11, 14, 18, 22, 27, 31, 35, 39, 43, 47, 51, 55, 58, 63, 67, 70, 75, 78, 83, 86, 91, 94, 99, 103, 107, 111, 116, 120, 123, 128, 131, 136, 140, 143, 147, 151, 156, 160, 163, 167, 171, 175, 179, 184, 188, 192, 196, 201, 204, 210, 213, 218, 228, 232, 236] : List Nat).filterMap (fun i => tables_1_7[i]?) := rfl
def gYi_8 : List Nat := [225, 230, 239, 227, 228, 240, 232, 231, 235, 234, 233, 236, 237, 238, 243, 242, 241, 244, 245, 246, 247, 248, 249, 229, 250, 251, 252, 253]
set_option maxRecDepth 100000 in
set_option maxHeartbeats 4000000 in
theorem gYi_8_w : gYi_8.map (fun y : Nat => Cond.instanceMethod (hy y)) = ([1, 5, 10, 14, 18, 22, 25, 30, 33, 38, 42, 45, 49, 53, 57, 62, 66, 69, 73, 77, 81, 85, 89, 94, 98, 102, 106, 110] : List Nat).filterMap (fun i => tables_1_8[i]?) := rfl
def gYi : List Nat := gYi_2 ++ gYi_3 ++ gYi_4 ++ gYi_5 ++ gYi_6 ++ gYi_7 ++ gYi_8
theorem gYi_ok : ∀ t ∈ gYi, (fun y : Nat => Cond.instanceMethod (hy y)) t ∈ gBig := by
  intro t ht
  rcases List.mem_append.mp ht with ht | ht
  rotate_left
  · exact gBig_of (gpc8 (gsubl gYi_8_w t ht)) rfl
  rcases List.mem_append.mp ht with ht | ht
  rotate_left
  · exact gBig_of (gpc7 (gsubl gYi_7_w t ht)) rfl
  rcases List.mem_append.mp ht with ht | ht
  rotate_left
  · exact gBig_of (gpc6 (gsubl gYi_6_w t ht)) rfl
  rcases List.mem_append.mp ht with ht | ht
  rotate_left
  · exact gBig_of (gpc5 (gsubl gYi_5_w t ht)) rfl
  rcases List.mem_append.mp ht with ht | ht
  rotate_left
  · exact gBig_of (gpc4 (gsubl gYi_4_w t ht)) rfl
  rcases List.mem_append.mp ht with ht | ht
  rotate_left
  · exact gBig_of (gpc3 (gsubl gYi_3_w t ht)) rfl
  exact gBig_of (gpc2 (gsubl gYi_2_w t ht)) rfl
def gYs_2 : List Nat := [254, 308, 307, 310, 309]
set_option maxRecDepth 100000 in
set_option maxHeartbeats 4000000 in
theorem gYs_2_w : gYs_2.map (fun y : Nat => Cond.static (hy y)) = ([78, 158, 161, 168, 175] : List Nat).filterMap (fun i => tables_1_2[i]?) := rfl
def gYs_3 : List Nat := [120, 255, 256, 257, 258, 259, 121, 304, 260, 261, 262, 263, 264, 265]
set_option maxRecDepth 100000 in
set_option maxHeartbeats 4000000 in
theorem gYs_3_w : gYs_3.map (fun y : Nat => Cond.static (hy y)) = ([23, 77, 114, 126, 133, 140, 163, 166, 193, 200, 207, 218, 230, 238] : List Nat).filterMap (fun i => tables_1_3[i]?) := rfl
def gYs_4 : List Nat := [266, 267, 117, 268, 269, 270, 271, 272, 273, 274, 275, 276, 277, 278, 279, 280, 281, 282, 283, 3, 306]
set_option maxRecDepth 100000 in
set_option maxHeartbeats 4000000 in
theorem gYs_4_w : gYs_4.map (fun y : Nat => Cond.static (hy y)) = ([5, 12, 19, 24, 44, 60, 92, 104, 111, 124, 148, 160, 167, 174, 186, 198, 205, 212, 220, 235, 238] : List Nat).filterMap (fun i => tables_1_4[i]?) := rfl
def gYs_5 : List Nat := [4, 284, 285, 286, 5, 287, 288, 289, 290, 291, 292, 293, 294, 295, 296, 297, 298, 299, 305, 300, 301, 302, 116, 303]
set_option maxRecDepth 100000 in
set_option maxHeartbeats 4000000 in
theorem gYs_5_w : gYs_5.map (fun y : Nat => Cond.static (hy y)) = ([3, 7, 14, 21, 33, 42, 61, 72, 89, 96, 103, 112, 127, 134, 141, 150, 158, 166, 184, 188, 197, 209, 216, 220] : List Nat).filterMap (fun i => tables_1_5[i]?) := rfl
def gYs_6 : List Nat := [131, 141, 142, 134, 135]
set_option maxRecDepth 100000 in
set_option maxHeartbeats 4000000 in
theorem gYs_6_w : gYs_6.map (fun y : Nat => Cond.static (hy y)) = ([115, 134, 137, 168, 171] : List Nat).filterMap (fun i => tables_1_6[i]?) := rfl
def gYs_7 : List Nat := [219, 220]
set_option maxRecDepth 100000 in
set_option maxHeartbeats 4000000 in
theorem gYs_7_w : gYs_7.map (fun y : Nat => Cond.static (hy y)) = ([221, 225] : List Nat).filterMap (fun i => tables_1_7[i]?) := rfl
def gYs : List Nat := gYs_2 ++ gYs_3 ++ gYs_4 ++ gYs_5 ++ gYs_6 ++ gYs_7
theorem gYs_ok : ∀ t ∈ gYs, (fun y : Nat => Cond.static (hy y)) t ∈ gBig := by
  intro t ht
  rcases List.mem_append.mp ht with ht | ht
  rotate_left
  · exact gBig_of (gpc7 (gsubl gYs_7_w t ht)) rfl
  rcases List.mem_append.mp ht with ht | ht
  rotate_left
  · exact gBig_of (gpc6 (gsubl gYs_6_w t ht)) rfl
  rcases List.mem_append.mp ht with ht | ht
  rotate_left
  · exact gBig_of (gpc5 (gsubl gYs_5_w t ht)) rfl
  rcases List.mem_append.mp ht with ht | ht
  rotate_left
  · exact gBig_of (gpc4 (gsubl gYs_4_w t ht)) rfl
  rcases List.mem_append.mp ht with ht | ht
  rotate_left
  · exact gBig_of (gpc3 (gsubl gYs_3_w t ht)) rfl
  exact gBig_of (gpc2 (gsubl gYs_2_w t ht)) rfl
def gYp_2 : List Nat := [52, 21, 54, 55, 56, 57, 58, 96, 107, 53, 22, 44, 48, 311, 312]
set_option maxRecDepth 100000 in
set_option maxHeartbeats 4000000 in
theorem gYp_2_w : gYp_2.map (fun y : Nat => Cond.selects (hy y).cls (hy y) (hy y)) = ([43, 47, 51, 55, 59, 63, 67, 71, 75, 84, 155, 165, 172, 207, 217] : List Nat).filterMap (fun i => tables_1_2[i]?) := rfl
def gYp_3 : List Nat := [47, 45, 20, 59, 46, 60, 61, 62, 63, 6, 11, 15, 10, 64, 65, 66, 67, 68]
set_option maxRecDepth 100000 in
set_option maxHeartbeats 4000000 in
theorem gYp_3_w : gYp_3.map (fun y : Nat => Cond.selects (hy y).cls (hy y) (hy y)) = ([42, 70, 74, 82, 111, 118, 130, 137, 144, 157, 170, 182, 190, 197, 204, 211, 222, 234] : List Nat).filterMap (fun i => tables_1_3[i]?) := rfl
def gYp_4 : List Nat := [69, 70, 71, 72, 8, 73, 17, 9, 74, 41, 7, 75, 40, 76, 77, 78, 35, 36, 79, 16, 80, 81, 82, 49, 83, 50, 84, 85, 86, 87, 0]
set_option maxRecDepth 100000 in
set_option maxHeartbeats 4000000 in
theorem gYp_4_w : gYp_4.map (fun y : Nat => Cond.selects (hy y).cls (hy y) (hy y)) = ([2, 9, 16, 28, 41, 48, 52, 57, 64, 72, 76, 96, 101, 108, 115, 128, 136, 143, 152, 157, 164, 171, 178, 182, 190, 195, 202, 209, 216, 224, 232] : List Nat).filterMap (fun i => tables_1_4[i]?) := rfl
def gYp_5 : List Nat := [88, 89, 90, 1, 91, 37, 92, 93, 94, 95, 97, 98, 18, 99, 100, 101, 102, 103, 104, 39, 51, 105, 106, 19, 108, 109]
set_option maxRecDepth 100000 in
set_option maxHeartbeats 4000000 in
theorem gYp_5_w : gYp_5.map (fun y : Nat => Cond.selects (hy y).cls (hy y) (hy y)) = ([11, 18, 25, 29, 46, 50, 65, 76, 93, 100, 107, 116, 120, 131, 138, 145, 154, 162, 170, 175, 181, 192, 201, 205, 213, 224] : List Nat).filterMap (fun i => tables_1_5[i]?) := rfl
def gYp_6 : List Nat := [130, 136, 137, 138, 139, 156, 163, 164, 165, 166, 168, 169]
set_option maxRecDepth 100000 in
set_option maxHeartbeats 4000000 in
theorem gYp_6_w : gYp_6.map (fun y : Nat => Cond.selects (hy y).cls (hy y) (hy y)) = ([92, 96, 100, 104, 108, 112, 203, 211, 215, 219, 223, 235] : List Nat).filterMap (fun i => tables_1_6[i]?) := rfl
def gYp_7 : List Nat := [170, 171, 180, 183, 185, 187, 189, 190, 191, 192, 193, 199, 200, 201, 202, 203, 206, 207, 208, 209, 213, 214, 215, 216, 217, 218, 222, 223, 224, 226]
set_option maxRecDepth 100000 in
set_option maxHeartbeats 4000000 in
theorem gYp_7_w : gYp_7.map (fun y : Nat => Cond.selects (hy y).cls (hy y) (hy y)) = ([15, 19, 23, 59, 71, 79, 87, 95, 100, 104, 108, 112, 124, 132, 144, 148, 152, 164, 168, 172, 176, 180, 189, 193, 197, 205, 214, 229, 233, 237] : List Nat).filterMap (fun i => tables_1_7[i]?) := rfl
def gYp_8 : List Nat := [230, 232, 235, 236, 237, 238, 243, 244, 245, 246, 247, 248, 249, 250, 251, 252, 253]
set_option maxRecDepth 100000 in
set_option maxHeartbeats 4000000 in
theorem gYp_8_w : gYp_8.map (fun y : Nat => Cond.selects (hy y).cls (hy y) (hy y)) = ([6, 26, 34, 46, 50, 54, 58, 70, 74, 78, 82, 86, 90, 99, 103, 107, 111] : List Nat).filterMap (fun i => tables_1_8[i]?) := rfl
def gYp : List Nat := gYp_2 ++ gYp_3 ++ gYp_4 ++ gYp_5 ++ gYp_6 ++ gYp_7 ++ gYp_8
theorem gYp_ok : ∀ t ∈ gYp, (fun y : Nat => Cond.selects (hy y).cls (hy y) (hy y)) t ∈ gBig := by
  intro t ht
  rcases List.mem_append.mp ht with ht | ht
  rotate_left
  · exact gBig_of (gpc8 (gsubl gYp_8_w t ht)) rfl
  rcases List.mem_append.mp ht with ht | ht
  rotate_left
  · exact gBig_of (gpc7 (gsubl gYp_7_w t ht)) rfl
  rcases List.mem_append.mp ht with ht | ht
  rotate_left
  · exact gBig_of (gpc6 (gsubl gYp_6_w t ht)) rfl
  rcases List.mem_append.mp ht with ht | ht
  rotate_left
  · exact gBig_of (gpc5 (gsubl gYp_5_w t ht)) rfl
  rcases List.mem_append.mp ht with ht | ht
  rotate_left
  · exact gBig_of (gpc4 (gsubl gYp_4_w t ht)) rfl
  rcases List.mem_append.mp ht with ht | ht
  rotate_left
  · exact gBig_of (gpc3 (gsubl gYp_3_w t ht)) rfl
  exact gBig_of (gpc2 (gsubl gYp_2_w t ht)) rfl
def gYq : List Nat := [31, 32, 34, 33, 23, 29, 30, 28, 24, 25, 26, 27, 110, 114, 111, 115, 122, 12, 13, 14, 123, 124, 112, 125, 126, 42, 43, 127, 119, 118, 2, 38, 128, 113, 129, 132, 155, 143, 140, 147, 146, 144, 145, 149, 148, 152, 150, 151, 153, 154, 157, 162, 133, 159, 161, 160, 158, 167, 179, 178, 174, 172, 177, 175, 173, 176, 182, 181, 184, 186, 188, 198, 194, 195, 197, 196, 205, 204, 210, 212, 211, 221, 225, 239, 227, 228, 240, 231, 234, 233, 242, 241, 229]
set_option maxRecDepth 100000 in
set_option maxHeartbeats 4000000 in
theorem gYq_w : gYq.map (fun y : Nat => Cond.selects (hy y).cls (hy y) (hy y)) = ([1, 2, 3, 4, 5, 6, 7, 8, 9, 10, 11, 12, 13, 14, 15, 16, 17, 18, 19, 20, 21, 22, 23, 24, 25, 26, 27, 28, 29, 30, 31, 32, 33, 34, 35, 36, 37, 38, 39, 40, 41, 42, 43, 44, 45, 46, 47, 48, 49, 50, 51, 52, 53, 54, 55, 56, 57, 58, 59, 60, 61, 62, 63, 64, 65, 66, 67, 68, 69, 70, 71, 72, 73, 74, 75, 76, 77, 78, 79, 80, 81, 82, 83, 84, 85, 86, 87, 88, 89, 90, 91, 92, 93] : List Nat).filterMap (fun i => (k2_sels lw_privs)[i]?) := rfl
theorem gYq_ok : ∀ t ∈ gYq, Cond.selects (hy t).cls (hy t) (hy t) ∈ gBig := fun t ht => gBig_of (List.mem_append_left _ (gsubl gYq_w t ht)) rfl
def gIn_1 : List String := ["ToeplitzLabLaw", "ToeplitzLab", "ToeplitzLab$Input", "ToeplitzLab$State", "ToeplitzLab$History", "ToeplitzLab$Grid", "ToeplitzLab$Pairs", "ToeplitzLab$Fractions", "ToeplitzLab$Lifter", "ToeplitzLabModel", "java/lang/IndexOutOfBoundsException", "java/lang/Math", "java/util/Arrays", "java/lang/System", "java/lang/String", "java/lang/IllegalArgumentException", "java/lang/IllegalStateException"]
set_option maxRecDepth 100000 in
set_option maxHeartbeats 4000000 in
theorem gIn_1_w : gIn_1.map (fun s : String => Cond.initialized s) = ([0, 1, 2, 3, 4, 5, 6, 7, 8, 9, 13, 14, 15, 16, 17, 21, 22] : List Nat).filterMap (fun i => tables_1_1[i]?) := rfl
def gIn : List String := gIn_1
theorem gIn_ok : ∀ t ∈ gIn, (fun s : String => Cond.initialized s) t ∈ gBig := by
  intro t ht
  exact gBig_of (gpc1 (gsubl gIn_1_w t ht)) rfl
def gCl_2 : List (String × Nat × String) := [("ToeplitzLabLaw", 13, "java/lang/IndexOutOfBoundsException"), ("ToeplitzLabLaw", 15, "java/lang/IllegalArgumentException"), ("ToeplitzLab", 81, "java/lang/IndexOutOfBoundsException")]
set_option maxRecDepth 100000 in
set_option maxHeartbeats 4000000 in
theorem gCl_2_w : gCl_2.map (fun t : String × Nat × String => Cond.classLink t.1 t.2.1 t.2.2) = ([80, 81, 86] : List Nat).filterMap (fun i => tables_1_2[i]?) := rfl
def gCl_3 : List (String × Nat × String) := [("ToeplitzLab", 92, "java/lang/IllegalArgumentException"), ("ToeplitzLabLaw", 20, "java/lang/IllegalStateException"), ("ToeplitzLab", 310, "java/lang/IllegalStateException")]
set_option maxRecDepth 100000 in
set_option maxHeartbeats 4000000 in
theorem gCl_3_w : gCl_3.map (fun t : String × Nat × String => Cond.classLink t.1 t.2.1 t.2.2) = ([52, 79, 88] : List Nat).filterMap (fun i => tables_1_3[i]?) := rfl
def gCl : List (String × Nat × String) := gCl_2 ++ gCl_3
theorem gCl_ok : ∀ t ∈ gCl, (fun t : String × Nat × String => Cond.classLink t.1 t.2.1 t.2.2) t ∈ gBig := by
  intro t ht
  rcases List.mem_append.mp ht with ht | ht
  rotate_left
  · exact gBig_of (gpc3 (gsubl gCl_3_w t ht)) rfl
  exact gBig_of (gpc2 (gsubl gCl_2_w t ht)) rfl
def gKl_4 : List (String × Nat × Int64) := [("ToeplitzLab$State", 66, 1000000000000), ("ToeplitzLab", 232, 2)]
set_option maxRecDepth 100000 in
set_option maxHeartbeats 4000000 in
theorem gKl_4_w : gKl_4.map (fun t : String × Nat × Int64 => Cond.constantLong t.1 t.2.1 t.2.2) = ([184, 218] : List Nat).filterMap (fun i => tables_1_4[i]?) := rfl
def gKl_5 : List (String × Nat × Int64) := [("ToeplitzLab$Fractions", 72, 1000000), ("ToeplitzLab$Fractions", 74, 2), ("ToeplitzLab$Fractions", 52, 1000000000)]
set_option maxRecDepth 100000 in
set_option maxHeartbeats 4000000 in
theorem gKl_5_w : gKl_5.map (fun t : String × Nat × Int64 => Cond.constantLong t.1 t.2.1 t.2.2) = ([0, 1, 35] : List Nat).filterMap (fun i => tables_1_5[i]?) := rfl
def gKl_7 : List (String × Nat × Int64) := [("ToeplitzLabModel", 289, 1000000000000), ("ToeplitzLabModel", 298, 2)]
set_option maxRecDepth 100000 in
set_option maxHeartbeats 4000000 in
theorem gKl_7_w : gKl_7.map (fun t : String × Nat × Int64 => Cond.constantLong t.1 t.2.1 t.2.2) = ([186, 207] : List Nat).filterMap (fun i => tables_1_7[i]?) := rfl
def gKl_8 : List (String × Nat × Int64) := [("ToeplitzLabModel", 326, 1000000000)]
set_option maxRecDepth 100000 in
set_option maxHeartbeats 4000000 in
theorem gKl_8_w : gKl_8.map (fun t : String × Nat × Int64 => Cond.constantLong t.1 t.2.1 t.2.2) = ([3] : List Nat).filterMap (fun i => tables_1_8[i]?) := rfl
def gKl : List (String × Nat × Int64) := gKl_4 ++ gKl_5 ++ gKl_7 ++ gKl_8
theorem gKl_ok : ∀ t ∈ gKl, (fun t : String × Nat × Int64 => Cond.constantLong t.1 t.2.1 t.2.2) t ∈ gBig := by
  intro t ht
  rcases List.mem_append.mp ht with ht | ht
  rotate_left
  · exact gBig_of (gpc8 (gsubl gKl_8_w t ht)) rfl
  rcases List.mem_append.mp ht with ht | ht
  rotate_left
  · exact gBig_of (gpc7 (gsubl gKl_7_w t ht)) rfl
  rcases List.mem_append.mp ht with ht | ht
  rotate_left
  · exact gBig_of (gpc5 (gsubl gKl_5_w t ht)) rfl
  exact gBig_of (gpc4 (gsubl gKl_4_w t ht)) rfl
end
section
/-! ===== the words of the throws, the copies, the fields of the classes ===== -/
theorem gw_cpl : Cond.methodLink "ToeplitzLab$State" 54 arraycopyName ∈ gBig := gBig_of (gpc2 (List.mem_of_getElem? (i := 177) rfl)) rfl
theorem gw_cpn : Cond.native arraycopyName ∈ gBig := gBig_of (gpc2 (List.mem_of_getElem? (i := 179) rfl)) rfl
theorem gw_cps : Cond.static arraycopyName ∈ gBig := gBig_of (gpc2 (List.mem_of_getElem? (i := 178) rfl)) rfl
theorem gw_pri : Cond.fieldLink "ToeplitzLab" 164 "ToeplitzLab" "PRIMES" "[I" ∈ gBig := gBig_of (gpc3 (List.mem_of_getElem? (i := 25) rfl)) rfl
set_option maxRecDepth 100000 in
theorem gat_1 : ∀ w ∈ (vx_atS RX7 85 (gxn 1) ["java/lang/RuntimeException", "java/lang/Exception"]).filter goodWord, w ∈ lw_tbl := by decide +kernel
theorem gan_1 : ∀ w ∈ (vx_atS RX7 85 (gxn 1) ["java/lang/RuntimeException", "java/lang/Exception"]).filter (fun w => !goodWord w), w ∈ gNst := by decide +kernel
theorem gag_1 : ∀ w ∈ vx_atS RX7 85 (gxn 1) ["java/lang/RuntimeException", "java/lang/Exception"], vx_ot w = true := by decide +kernel
set_option maxRecDepth 100000 in
theorem gat_2 : ∀ w ∈ (vx_atS RX7 96 (gxn 2) ["java/lang/RuntimeException", "java/lang/Exception"]).filter goodWord, w ∈ lw_tbl := by decide +kernel
theorem gan_2 : ∀ w ∈ (vx_atS RX7 96 (gxn 2) ["java/lang/RuntimeException", "java/lang/Exception"]).filter (fun w => !goodWord w), w ∈ gNst := by decide +kernel
theorem gag_2 : ∀ w ∈ vx_atS RX7 96 (gxn 2) ["java/lang/RuntimeException", "java/lang/Exception"], vx_ot w = true := by decide +kernel
set_option maxRecDepth 100000 in
theorem gat_0 : ∀ w ∈ (vx_atS RX7 314 (gxn 0) ["java/lang/RuntimeException", "java/lang/Exception"]).filter goodWord, w ∈ lw_tbl := by decide +kernel
theorem gan_0 : ∀ w ∈ (vx_atS RX7 314 (gxn 0) ["java/lang/RuntimeException", "java/lang/Exception"]).filter (fun w => !goodWord w), w ∈ gNst := by decide +kernel
theorem gag_0 : ∀ w ∈ vx_atS RX7 314 (gxn 0) ["java/lang/RuntimeException", "java/lang/Exception"], vx_ot w = true := by decide +kernel
theorem guw_0 : ∀ w ∈ u_ws RX0 TX0 2, w ∈ lw_tbl := by decide +kernel
theorem gug_0 : ∀ w ∈ u_ws RX0 TX0 2, goodWord w = true := by decide +kernel
theorem guw_1 : ∀ w ∈ u_ws RX1 TX1 6, w ∈ lw_tbl := by decide +kernel
theorem gug_1 : ∀ w ∈ u_ws RX1 TX1 6, goodWord w = true := by decide +kernel
theorem guw_2 : ∀ w ∈ u_ws RX2 TX2 3, w ∈ lw_tbl := by decide +kernel
theorem gug_2 : ∀ w ∈ u_ws RX2 TX2 3, goodWord w = true := by decide +kernel
theorem guw_3 : ∀ w ∈ u_ws RX3 TX3 14, w ∈ lw_tbl := by decide +kernel
theorem gug_3 : ∀ w ∈ u_ws RX3 TX3 14, goodWord w = true := by decide +kernel
theorem guw_4 : ∀ w ∈ u_ws RX4 TX4 2, w ∈ lw_tbl := by decide +kernel
theorem gug_4 : ∀ w ∈ u_ws RX4 TX4 2, goodWord w = true := by decide +kernel
theorem guw_5 : ∀ w ∈ u_ws RX5 TX5 2, w ∈ lw_tbl := by decide +kernel
theorem gug_5 : ∀ w ∈ u_ws RX5 TX5 2, goodWord w = true := by decide +kernel
theorem guw_6 : ∀ w ∈ u_ws RX6 TX6 11, w ∈ lw_tbl := by decide +kernel
theorem gug_6 : ∀ w ∈ u_ws RX6 TX6 11, goodWord w = true := by decide +kernel
theorem guw_7 : ∀ w ∈ u_ws RX7 TX7 11, w ∈ lw_tbl := by decide +kernel
theorem gug_7 : ∀ w ∈ u_ws RX7 TX7 11, goodWord w = true := by decide +kernel
theorem guw_8 : ∀ w ∈ u_ws RX8 TX8 32, w ∈ lw_tbl := by decide +kernel
theorem gug_8 : ∀ w ∈ u_ws RX8 TX8 32, goodWord w = true := by decide +kernel
end
section
/-! ===== a row of code is what it seems: checks, and what they give ===== -/
theorem gCl_in {i : Nat} : gcls 7 = RX7 := rfl
theorem gnm_fit : ∀ n ∈ gnames, Bundle.fit n = true := by decide +kernel
theorem gThr_1 {is : Nat} (h : ∃ tx, (RX7, is, tx) ∈ gTxt) : gThr RX7 81 is 85 1 := by
  refine ⟨gCl_ok ("ToeplitzLab", 81, "java/lang/IndexOutOfBoundsException") (by simp [gCl, gCl_2, gCl_3]), gIn_ok "java/lang/IndexOutOfBoundsException" (by simp [gIn, gIn_1]), h, fun w hw => ?_, ?_, by decide +kernel, gnm_fit, by decide⟩
  · cases hg : goodWord w with
    | true => exact Or.inl (gBig_of (gat_1 w (List.mem_filter.mpr ⟨hw, hg⟩)) hg)
    | false => exact Or.inr (gan_1 w (List.mem_filter.mpr ⟨hw, by rw [hg]; rfl⟩))
  · intro w hw
    rcases List.mem_cons.mp hw with rfl | hw
    · rfl
    · rcases List.mem_cons.mp hw with rfl | hw
      · rfl
      · exact gag_1 w hw
theorem gThr_2 {is : Nat} (h : ∃ tx, (RX7, is, tx) ∈ gTxt) : gThr RX7 92 is 96 2 := by
  refine ⟨gCl_ok ("ToeplitzLab", 92, "java/lang/IllegalArgumentException") (by simp [gCl, gCl_2, gCl_3]), gIn_ok "java/lang/IllegalArgumentException" (by simp [gIn, gIn_1]), h, fun w hw => ?_, ?_, by decide +kernel, gnm_fit, by decide⟩
  · cases hg : goodWord w with
    | true => exact Or.inl (gBig_of (gat_2 w (List.mem_filter.mpr ⟨hw, hg⟩)) hg)
    | false => exact Or.inr (gan_2 w (List.mem_filter.mpr ⟨hw, by rw [hg]; rfl⟩))
  · intro w hw
    rcases List.mem_cons.mp hw with rfl | hw
    · rfl
    · rcases List.mem_cons.mp hw with rfl | hw
      · rfl
      · exact gag_2 w hw
theorem gThr_0 {is : Nat} (h : ∃ tx, (RX7, is, tx) ∈ gTxt) : gThr RX7 310 is 314 0 := by
  refine ⟨gCl_ok ("ToeplitzLab", 310, "java/lang/IllegalStateException") (by simp [gCl, gCl_2, gCl_3]), gIn_ok "java/lang/IllegalStateException" (by simp [gIn, gIn_1]), h, fun w hw => ?_, ?_, by decide +kernel, gnm_fit, by decide⟩
  · cases hg : goodWord w with
    | true => exact Or.inl (gBig_of (gat_0 w (List.mem_filter.mpr ⟨hw, hg⟩)) hg)
    | false => exact Or.inr (gan_0 w (List.mem_filter.mpr ⟨hw, by rw [hg]; rfl⟩))
  · intro w hw
    rcases List.mem_cons.mp hw with rfl | hw
    · rfl
    · rcases List.mem_cons.mp hw with rfl | hw
      · rfl
      · exact gag_0 w hw
def gthrT : List (Nat × Nat × Nat × Nat) := [(81, 83, 85, 1), (81, 192, 85, 1), (81, 220, 85, 1), (81, 273, 85, 1), (81, 325, 85, 1), (81, 327, 85, 1), (81, 329, 85, 1), (81, 331, 85, 1), (81, 333, 85, 1), (81, 335, 85, 1), (81, 344, 85, 1), (92, 94, 96, 2), (92, 201, 96, 2), (92, 209, 96, 2), (92, 275, 96, 2), (92, 289, 96, 2), (92, 291, 96, 2), (92, 293, 96, 2), (92, 295, 96, 2), (92, 301, 96, 2), (92, 337, 96, 2), (92, 339, 96, 2), (310, 312, 314, 0), (310, 321, 314, 0), (310, 323, 314, 0)]
theorem gthrT_ok : ∀ t ∈ gthrT, gThr RX7 t.1 t.2.1 t.2.2.1 t.2.2.2 := by
  intro t ht
  simp only [gthrT, List.mem_cons, List.not_mem_nil, or_false] at ht
  rcases ht with rfl | rfl | rfl | rfl | rfl | rfl | rfl | rfl | rfl | rfl | rfl | rfl | rfl | rfl | rfl | rfl | rfl | rfl | rfl | rfl | rfl | rfl | rfl | rfl | rfl
  · exact gThr_1 ⟨_, List.mem_of_getElem? (i := 0) rfl⟩
  · exact gThr_1 ⟨_, List.mem_of_getElem? (i := 9) rfl⟩
  · exact gThr_1 ⟨_, List.mem_of_getElem? (i := 12) rfl⟩
  · exact gThr_1 ⟨_, List.mem_of_getElem? (i := 15) rfl⟩
  · exact gThr_1 ⟨_, List.mem_of_getElem? (i := 4) rfl⟩
  · exact gThr_1 ⟨_, List.mem_of_getElem? (i := 8) rfl⟩
  · exact gThr_1 ⟨_, List.mem_of_getElem? (i := 14) rfl⟩
  · exact gThr_1 ⟨_, List.mem_of_getElem? (i := 3) rfl⟩
  · exact gThr_1 ⟨_, List.mem_of_getElem? (i := 5) rfl⟩
  · exact gThr_1 ⟨_, List.mem_of_getElem? (i := 23) rfl⟩
  · exact gThr_1 ⟨_, List.mem_of_getElem? (i := 6) rfl⟩
  · exact gThr_2 ⟨_, List.mem_of_getElem? (i := 1) rfl⟩
  · exact gThr_2 ⟨_, List.mem_of_getElem? (i := 10) rfl⟩
  · exact gThr_2 ⟨_, List.mem_of_getElem? (i := 11) rfl⟩
  · exact gThr_2 ⟨_, List.mem_of_getElem? (i := 16) rfl⟩
  · exact gThr_2 ⟨_, List.mem_of_getElem? (i := 17) rfl⟩
  · exact gThr_2 ⟨_, List.mem_of_getElem? (i := 18) rfl⟩
  · exact gThr_2 ⟨_, List.mem_of_getElem? (i := 19) rfl⟩
  · exact gThr_2 ⟨_, List.mem_of_getElem? (i := 20) rfl⟩
  · exact gThr_2 ⟨_, List.mem_of_getElem? (i := 21) rfl⟩
  · exact gThr_2 ⟨_, List.mem_of_getElem? (i := 7) rfl⟩
  · exact gThr_2 ⟨_, List.mem_of_getElem? (i := 13) rfl⟩
  · exact gThr_0 ⟨_, List.mem_of_getElem? (i := 22) rfl⟩
  · exact gThr_0 ⟨_, List.mem_of_getElem? (i := 24) rfl⟩
  · exact gThr_0 ⟨_, List.mem_of_getElem? (i := 2) rfl⟩
def gsz (ci : Nat) : Nat := ([2, 6, 3, 14, 2, 2, 11, 11, 32] : List Nat).getD ci 0
theorem gFl_of {own : String} {n ci b : Nat} (hci : ci < 9) (hb2 : b < gsz ci) (hw : Cond.fieldLink own n (gTX ci b).1 (gTX ci b).2.1 (gTX ci b).2.2.1 ∈ gBig ∨ ∃ host, Cond.fieldLinkNest own n (gTX ci b).1 (gTX ci b).2.1 (gTX ci b).2.2.1 host ∈ gNst) : gFl own n ci b := by
  match ci, hci with
  | 0, _ => exact ⟨RX0, TX0, 2, tyX0, rfl, fun w h => gBig_of (guw_0 w h) (gug_0 w h), hb2, tyX0_ok, nmX0, hw⟩
  | 1, _ => exact ⟨RX1, TX1, 6, tyX1, rfl, fun w h => gBig_of (guw_1 w h) (gug_1 w h), hb2, tyX1_ok, nmX1, hw⟩
  | 2, _ => exact ⟨RX2, TX2, 3, tyX2, rfl, fun w h => gBig_of (guw_2 w h) (gug_2 w h), hb2, tyX2_ok, nmX2, hw⟩
  | 3, _ => exact ⟨RX3, TX3, 14, tyX3, rfl, fun w h => gBig_of (guw_3 w h) (gug_3 w h), hb2, tyX3_ok, nmX3, hw⟩
  | 4, _ => exact ⟨RX4, TX4, 2, tyX4, rfl, fun w h => gBig_of (guw_4 w h) (gug_4 w h), hb2, tyX4_ok, nmX4, hw⟩
  | 5, _ => exact ⟨RX5, TX5, 2, tyX5, rfl, fun w h => gBig_of (guw_5 w h) (gug_5 w h), hb2, tyX5_ok, nmX5, hw⟩
  | 6, _ => exact ⟨RX6, TX6, 11, tyX6, rfl, fun w h => gBig_of (guw_6 w h) (gug_6 w h), hb2, tyX6_ok, nmX6, hw⟩
  | 7, _ => exact ⟨RX7, TX7, 11, tyX7, rfl, fun w h => gBig_of (guw_7 w h) (gug_7 w h), hb2, tyX7_ok, nmX7, hw⟩
  | 8, _ => exact ⟨RX8, TX8, 32, tyX8, rfl, fun w h => gBig_of (guw_8 w h) (gug_8 w h), hb2, tyX8_ok, nmX8, hw⟩
def gFWt : List (Nat × Nat × Nat) := [(1, 1, 0), (1, 2, 0), (1, 3, 0), (1, 4, 0), (1, 5, 0), (2, 1, 0), (2, 2, 0), (3, 1, 0), (3, 3, 0), (3, 4, 0), (3, 5, 0), (3, 6, 0), (3, 7, 0), (3, 8, 0), (3, 9, 0), (3, 10, 0), (3, 11, 0), (3, 12, 0), (3, 13, 0), (6, 0, 0), (6, 1, 0), (6, 5, 0), (6, 6, 1), (6, 9, 0), (8, 0, 0), (8, 1, 2), (8, 4, 0), (8, 7, 0), (8, 8, 0), (8, 9, 0), (8, 10, 0), (8, 11, 0), (8, 12, 0), (8, 13, 0), (8, 14, 0), (8, 15, 0), (8, 16, 0), (8, 19, 0), (8, 21, 0), (8, 24, 0), (8, 28, 1), (8, 29, 1)]
theorem gFWt_ok : ∀ t ∈ gFWt, gFw t.1 t.2.1 (gFt t.2.2) := by
  intro t ht
  simp only [gFWt, List.mem_cons, List.not_mem_nil, or_false] at ht
  rcases ht with rfl | rfl | rfl | rfl | rfl | rfl | rfl | rfl | rfl | rfl | rfl | rfl | rfl | rfl | rfl | rfl | rfl | rfl | rfl | rfl | rfl | rfl | rfl | rfl | rfl | rfl | rfl | rfl | rfl | rfl | rfl | rfl | rfl | rfl | rfl | rfl | rfl | rfl | rfl | rfl | rfl | rfl
  · exact ⟨RX1, TX1, 6, rfl, rfl, tyX1_ok 1 (by decide)⟩
  · exact ⟨RX1, TX1, 6, rfl, rfl, tyX1_ok 2 (by decide)⟩
  · exact ⟨RX1, TX1, 6, rfl, rfl, tyX1_ok 3 (by decide)⟩
  · exact ⟨RX1, TX1, 6, rfl, rfl, tyX1_ok 4 (by decide)⟩
  · exact ⟨RX1, TX1, 6, rfl, rfl, tyX1_ok 5 (by decide)⟩
  · exact ⟨RX2, TX2, 3, rfl, rfl, tyX2_ok 1 (by decide)⟩
  · exact ⟨RX2, TX2, 3, rfl, rfl, tyX2_ok 2 (by decide)⟩
  · exact ⟨RX3, TX3, 14, rfl, rfl, tyX3_ok 1 (by decide)⟩
  · exact ⟨RX3, TX3, 14, rfl, rfl, tyX3_ok 3 (by decide)⟩
  · exact ⟨RX3, TX3, 14, rfl, rfl, tyX3_ok 4 (by decide)⟩
  · exact ⟨RX3, TX3, 14, rfl, rfl, tyX3_ok 5 (by decide)⟩
  · exact ⟨RX3, TX3, 14, rfl, rfl, tyX3_ok 6 (by decide)⟩
  · exact ⟨RX3, TX3, 14, rfl, rfl, tyX3_ok 7 (by decide)⟩
  · exact ⟨RX3, TX3, 14, rfl, rfl, tyX3_ok 8 (by decide)⟩
  · exact ⟨RX3, TX3, 14, rfl, rfl, tyX3_ok 9 (by decide)⟩
  · exact ⟨RX3, TX3, 14, rfl, rfl, tyX3_ok 10 (by decide)⟩
  · exact ⟨RX3, TX3, 14, rfl, rfl, tyX3_ok 11 (by decide)⟩
  · exact ⟨RX3, TX3, 14, rfl, rfl, tyX3_ok 12 (by decide)⟩
  · exact ⟨RX3, TX3, 14, rfl, rfl, tyX3_ok 13 (by decide)⟩
  · exact ⟨RX6, TX6, 11, rfl, rfl, tyX6_ok 0 (by decide)⟩
  · exact ⟨RX6, TX6, 11, rfl, rfl, tyX6_ok 1 (by decide)⟩
  · exact ⟨RX6, TX6, 11, rfl, rfl, tyX6_ok 5 (by decide)⟩
  · exact ⟨RX6, TX6, 11, rfl, rfl, tyX6_ok 6 (by decide)⟩
  · exact ⟨RX6, TX6, 11, rfl, rfl, tyX6_ok 9 (by decide)⟩
  · exact ⟨RX8, TX8, 32, rfl, rfl, tyX8_ok 0 (by decide)⟩
  · exact ⟨RX8, TX8, 32, rfl, rfl, tyX8_ok 1 (by decide)⟩
  · exact ⟨RX8, TX8, 32, rfl, rfl, tyX8_ok 4 (by decide)⟩
  · exact ⟨RX8, TX8, 32, rfl, rfl, tyX8_ok 7 (by decide)⟩
  · exact ⟨RX8, TX8, 32, rfl, rfl, tyX8_ok 8 (by decide)⟩
  · exact ⟨RX8, TX8, 32, rfl, rfl, tyX8_ok 9 (by decide)⟩
  · exact ⟨RX8, TX8, 32, rfl, rfl, tyX8_ok 10 (by decide)⟩
  · exact ⟨RX8, TX8, 32, rfl, rfl, tyX8_ok 11 (by decide)⟩
  · exact ⟨RX8, TX8, 32, rfl, rfl, tyX8_ok 12 (by decide)⟩
  · exact ⟨RX8, TX8, 32, rfl, rfl, tyX8_ok 13 (by decide)⟩
  · exact ⟨RX8, TX8, 32, rfl, rfl, tyX8_ok 14 (by decide)⟩
  · exact ⟨RX8, TX8, 32, rfl, rfl, tyX8_ok 15 (by decide)⟩
  · exact ⟨RX8, TX8, 32, rfl, rfl, tyX8_ok 16 (by decide)⟩
  · exact ⟨RX8, TX8, 32, rfl, rfl, tyX8_ok 19 (by decide)⟩
  · exact ⟨RX8, TX8, 32, rfl, rfl, tyX8_ok 21 (by decide)⟩
  · exact ⟨RX8, TX8, 32, rfl, rfl, tyX8_ok 24 (by decide)⟩
  · exact ⟨RX8, TX8, 32, rfl, rfl, tyX8_ok 28 (by decide)⟩
  · exact ⟨RX8, TX8, 32, rfl, rfl, tyX8_ok 29 (by decide)⟩
def gnpT : List Nat := [2, 1, 3, 2, 2, 2, 4, 0, 2, 3, 0, 1, 3, 3, 2, 1, 1, 1, 1, 0, 0, 1, 1, 0, 0, 1, 0, 2, 3, 1, 1, 0, 3, 0, 1, 1, 2, 1, 2, 2, 3, 2, 5, 3, 0, 1, 1, 2, 0, 0, 2, 1, 5, 1, 0, 0, 0, 0, 0, 1, 2, 1, 1, 1, 0, 0, 0, 1, 0, 0, 0, 3, 3, 3, 1, 4, 0, 1, 2, 1, 0, 0, 0, 2, 1, 1, 1, 1, 1, 1, 0, 0, 1, 2, 1, 0, 0, 2, 2, 2, 2, 1, 3, 0, 0, 1, 0, 0, 1, 1, 0, 1, 2, 1, 1, 1, 1, 2, 1, 0, 1, 2, 2, 0, 1, 1, 1, 0, 1, 1, 0, 3, 2, 0, 1, 1, 5, 0, 0, 0, 1, 1, 1, 0, 1, 0, 1, 1, 2, 2, 2, 2, 0, 0, 2, 1, 1, 0, 1, 1, 1, 2, 1, 0, 0, 0, 0, 2, 1, 2, 1, 1, 1, 1, 0, 2, 3, 3, 2, 1, 1, 0, 0, 0, 0, 0, 0, 0, 1, 1, 0, 0, 0, 3, 1, 1, 4, 1, 3, 3, 3, 1, 4, 0, 1, 1, 1, 2, 1, 0, 0, 0, 1, 0, 0, 2, 1, 1, 1, 2, 2, 1, 1, 1, 1, 0, 0, 0, 0, 0, 0, 1, 1, 2, 1, 2, 1, 0, 2, 1, 1, 0, 3, 2, 2, 2, 1, 3, 0, 0, 1, 0, 1, 1, 3, 3, 4, 3, 3, 3, 2, 2, 2, 3, 2, 2, 2, 5, 5, 5, 3, 6, 2, 3, 4, 3, 2, 2, 2, 4, 3, 3, 3, 3, 3, 3, 2, 2, 3, 4, 3, 2, 4, 4, 4, 4, 3, 5, 2, 2, 3, 2, 3, 3, 2, 1, 1, 2, 2, 2, 2, 0, 1, 1]
def hnp (y : Nat) : Nat := gnpT.getD y 0
set_option maxRecDepth 100000 in
theorem hnp_ok : ∀ y, y < 314 → (parseMethodDescriptor (hy y).desc).map (fun d => d.parameters.length) = some (hnp y) := by decide +kernel
set_option maxRecDepth 100000 in
theorem hcl_l : (List.range 314).map (fun y => (hy y).cls) = (List.range 314).map (fun y => gcls (hcl y)) := rfl
theorem hcl_ok {y : Nat} (h : y < 314) : (hy y).cls = gcls (hcl y) := by
  have h1 := congrArg (fun l => l[y]?) hcl_l
  simp only [List.getElem?_map, List.getElem?_range h, Option.map_some, Option.some.injEq] at h1
  exact h1
theorem gcls_n : ∀ i, i < 13 → gcls i ≠ "java/lang/invoke/MethodHandle" ∧ gcls i ≠ "java/lang/invoke/VarHandle" := by decide +kernel
theorem hcl_lt : ∀ y, y < 314 → hcl y < 13 := by decide +kernel
theorem gIn_cl : ∀ i, i < 13 → Cond.initialized (gcls i) ∈ gBig := by
  intro i hi
  match i, hi with
  | 0, _ => exact gBig_of (gpc1 (List.mem_of_getElem? (i := 7) rfl)) rfl
  | 1, _ => exact gBig_of (gpc1 (List.mem_of_getElem? (i := 5) rfl)) rfl
  | 2, _ => exact gBig_of (gpc1 (List.mem_of_getElem? (i := 4) rfl)) rfl
  | 3, _ => exact gBig_of (gpc1 (List.mem_of_getElem? (i := 2) rfl)) rfl
  | 4, _ => exact gBig_of (gpc1 (List.mem_of_getElem? (i := 8) rfl)) rfl
  | 5, _ => exact gBig_of (gpc1 (List.mem_of_getElem? (i := 6) rfl)) rfl
  | 6, _ => exact gBig_of (gpc1 (List.mem_of_getElem? (i := 3) rfl)) rfl
  | 7, _ => exact gBig_of (gpc1 (List.mem_of_getElem? (i := 1) rfl)) rfl
  | 8, _ => exact gBig_of (gpc1 (List.mem_of_getElem? (i := 9) rfl)) rfl
  | 9, _ => exact gBig_of (gpc1 (List.mem_of_getElem? (i := 0) rfl)) rfl
  | 10, _ => exact gBig_of (gpc1 (List.mem_of_getElem? (i := 14) rfl)) rfl
  | 11, _ => exact gBig_of (gpc1 (List.mem_of_getElem? (i := 15) rfl)) rfl
  | 12, _ => exact gBig_of (gpc1 (List.mem_of_getElem? (i := 17) rfl)) rfl
theorem gCe_ok {y2 : Nat} (h : y2 < 314) : gCe y2 (hnp y2) := by
  unfold gCe
  rw [hcl_ok h]
  exact ⟨(gcls_n _ (hcl_lt y2 h)).1, (gcls_n _ (hcl_lt y2 h)).2, hnp_ok y2 h⟩
theorem gin_y {y2 : Nat} (h : y2 < 314) : Cond.initialized (hy y2).cls ∈ gBig := by
  rw [hcl_ok h]
  exact gIn_cl _ (hcl_lt y2 h)
def gNlink : List (Nat × Nat × Nat) := [(1, 41, 121), (3, 94, 120), (4, 62, 121), (5, 50, 121)]
theorem gNlink_ok : ∀ t ∈ gNlink, ∃ host, Cond.methodLinkNest (gcls t.1) t.2.1 (hy t.2.2) host ∈ gNst := by
  intro t ht
  simp only [gNlink, List.mem_cons, List.not_mem_nil, or_false] at ht
  rcases ht with rfl | rfl | rfl | rfl
  · exact ⟨"ToeplitzLab", List.mem_of_getElem? (i := 1) rfl⟩
  · exact ⟨"ToeplitzLab", List.mem_of_getElem? (i := 4) rfl⟩
  · exact ⟨"ToeplitzLab", List.mem_of_getElem? (i := 2) rfl⟩
  · exact ⟨"ToeplitzLab", List.mem_of_getElem? (i := 3) rfl⟩
end
section
/-! ===== one row of code: its check, and that it does what gsem says ===== -/
def gtgt (pc : Nat) (off : Int) (a : Nat) : Bool := decide ((pc : Int) + off = (a : Int))
def gvI (v : gV) (k : Int32 → Bool) : Bool := match v with
  | .inl (.int x) => k x
  | _ => false
def gvL (v : gV) (k : Int64 → Bool) : Bool := match v with
  | .inl (.long x) => k x
  | _ => false
/-- the kind that a method is called upon -/
def gclc (a k : Nat) : Bool := match gobj k with
  | some (ci, _) => match vwCl[ci]? with
    | some z => decide (z.1 = gcls (hcl a))
    | none => false
  | none => Nat.beq k 2 && Nat.beq (hcl a) 12
/-- a call's tag and room -/
def gcalc (y a : Nat) (v : gV) : Bool := match v with
  | .inr (tag, m1, m2) => Nat.beq m1 (hmc a) && (Nat.beq m2 (hms a) && ((Nat.blt 0 m1 || Nat.beq m2 0) && ((Nat.beq tag 0 == (hr a).isNone) && (Nat.ble (hfr a + 1) (hfr y) && Nat.ble (8 + (hml a + 11) + hlo a) (hlo y)))))
  | _ => false
/-- the check of a row, by its instruction -/
def gck2 (y : Nat) (e : gE) (rest : List gE) : Bool :=
  let a := e.2.2.2.1
  let b := e.2.2.2.2.1
  let v := e.2.2.2.2.2
  match e.2.2.1 with
  | .iconst n => Nat.beq e.2.1 1 && gvI v fun x => decide (Int32.ofInt n = x)
  | .bipush n => Nat.beq e.2.1 2 && gvI v fun x => decide ((Int8.ofInt n).toInt32 = x)
  | .sipush n => Nat.beq e.2.1 3 && gvI v fun x => decide ((Int16.ofInt n).toInt32 = x)
  | .lconst n => Nat.beq e.2.1 1 && gvL v fun x => decide (Int64.ofNat (n : Nat) = x)
  | .dconst n => Nat.beq e.2.1 1 && Nat.beq (n : Nat) 0
  | .ldc n => Nat.beq e.2.1 2 && match v with
    | .inr (2, k, 0) => gTx2.any (fun q => decide (q.1 = (hy y).cls) && (Nat.beq q.2.1 n && Nat.beq q.2.2.2 k))
    | .inr _ => false
    | _ => true
  | .ldc2_w n => Nat.beq e.2.1 3 && gvL v fun x => gKl.any (fun q => decide (q.1 = (hy y).cls) && (Nat.beq q.2.1 n && decide (q.2.2 = x)))
  | .getstatic n => Nat.beq e.2.1 3 && (Nat.beq n 164 && Nat.beq (hcl y) 7)
  | .iload_n j => Nat.beq e.2.1 1 && Nat.beq (j : Nat) a
  | .lload_n j => Nat.beq e.2.1 1 && Nat.beq (j : Nat) a
  | .aload_n j => Nat.beq e.2.1 1 && Nat.beq (j : Nat) a
  | .iload j => Nat.beq e.2.1 2 && Nat.beq j a
  | .lload j => Nat.beq e.2.1 2 && Nat.beq j a
  | .dload j => Nat.beq e.2.1 2 && Nat.beq j a
  | .aload j => Nat.beq e.2.1 2 && Nat.beq j a
  | .istore_n j => Nat.beq e.2.1 1 && (Nat.beq (j : Nat) a && Nat.blt a (hml y))
  | .astore_n j => Nat.beq e.2.1 1 && (Nat.beq (j : Nat) a && Nat.blt a (hml y))
  | .lstore_n j => Nat.beq e.2.1 1 && (Nat.beq (j : Nat) a && Nat.blt (a + 1) (hml y))
  | .istore j => Nat.beq e.2.1 2 && (Nat.beq j a && Nat.blt a (hml y))
  | .astore j => Nat.beq e.2.1 2 && (Nat.beq j a && Nat.blt a (hml y))
  | .lstore j => Nat.beq e.2.1 2 && (Nat.beq j a && Nat.blt (a + 1) (hml y))
  | .dstore j => Nat.beq e.2.1 2 && (Nat.beq j a && Nat.blt (a + 1) (hml y))
  | .iinc j n => Nat.beq e.2.1 3 && (Nat.beq j a && (Nat.blt a (hml y) && gvI v fun x => decide (Int32.ofInt n = x)))
  | .ifCond _ off => Nat.beq e.2.1 3 && gtgt e.1 off a
  | .if_icmp _ off => Nat.beq e.2.1 3 && gtgt e.1 off a
  | .goto off => Nat.beq e.2.1 3 && gtgt e.1 off a
  | .ifnull off => Nat.beq e.2.1 3 && gtgt e.1 off a
  | .ifnonnull off => Nat.beq e.2.1 3 && gtgt e.1 off a
  | .tableswitch d lo hi offs => decide (0 ≤ (e.1 : Int) + d) && (offs.toList.all (fun o => decide (0 ≤ (e.1 : Int) + o)) && decide (hi = lo + (offs.size : Int) - 1))
  | .getfield n => Nat.beq e.2.1 3 && match gobj a with
    | some (ci, _) => Nat.blt ci 9 && (Nat.blt b (gsz ci) && (gFT.contains (hcl y, n, ci, b) || decide ((hcl y, n, ci, b) = ((5, 46, 1, 3) : Nat × Nat × Nat × Nat))))
    | none => false
  | .putfield n => Nat.beq e.2.1 3 && match gobj a with
    | some (ci, fl) => Nat.blt ci 9 && (Nat.blt b (gsz ci) && (gFT.contains (hcl y, n, ci, b) && match fl[b]? with
      | some u => Nat.blt 2 u.1 || gFWt.contains (ci, b, u.1)
      | none => true))
    | none => false
  | .invokevirtual n => Nat.beq e.2.1 3 && (Nat.blt a 314 && (gYc.contains a && (gML.contains (hcl y, n, a) && (gYi.contains a && ((gYp.contains a || gYq.contains a) && (Nat.beq (b % 16) (hnp a + 1) && (Nat.blt 0 (b / 16) && gclc a (b / 16) && gcalc y a v)))))))
  | .invokestatic n => Nat.beq e.2.1 3 && (if b = 9 then decide (n = 54 ∧ hcl y = 6) && (Nat.ble 1 (hfr y) && Nat.ble 26 (hlo y)) else (Nat.blt a 314 && (gYs.contains a && (Nat.beq (b % 16) (hnp a) && (Nat.beq (b / 16) 0 && gcalc y a v))) && ((gYc.contains a && (gML.contains (hcl y, n, a) || gNlink.contains (hcl y, n, a))) || (gYx.contains a && gML.contains (hcl y, n, a)))))
  | .ireturn => Nat.beq e.2.1 1 && (decide (hr y = some .int) || decide (hr y = some .boolean))
  | .lreturn => Nat.beq e.2.1 1 && decide (hr y = some .long)
  | .dreturn => Nat.beq e.2.1 1 && decide (hr y = some .double)
  | .areturn => Nat.beq e.2.1 1 && decide (hr y = some (.object "ToeplitzLab$State"))
  | .return_ => Nat.beq e.2.1 1 && decide (hr y = none)
  | .new ik => match a with
    | 1 => Nat.beq (hcl y) 7 && ((hht y).isEmpty && (Nat.blt 5 (hfr y) && (Nat.ble 82 (hlo y) && (match rest with
      | (p3, l3, .dup, _) :: (p4, l4, .ldc is, _) :: (p6, l6, .invokespecial ic, _) :: (p9, l9, .athrow, _) :: _ => Nat.beq p3 (e.1 + 3) && (Nat.beq l3 1 && (Nat.beq p4 (e.1 + 4) && (Nat.beq l4 2 && (Nat.beq p6 (e.1 + 6) && (Nat.beq l6 3 && (Nat.beq p9 (e.1 + 9) && (Nat.beq l9 1 && gthrT.contains (ik, is, ic, b))))))))
      | (p3, l3, .dup, _) :: (p4, l4, .ldc_w is, _) :: (p6, l6, .invokespecial ic, _) :: (p9, l9, .athrow, _) :: _ => Nat.beq p3 (e.1 + 3) && (Nat.beq l3 1 && (Nat.beq p4 (e.1 + 4) && (Nat.beq l4 3 && (Nat.beq p6 (e.1 + 7) && (Nat.beq l6 3 && (Nat.beq p9 (e.1 + 10) && (Nat.beq l9 1 && gthrT.contains (ik, is, ic, b))))))))
      | _ => false))))
    | _ => Nat.ble 3 (hfr y) && (Nat.ble 40 (hlo y) && (match rest with
      | (p3, l3, .dup, _) :: (p4, l4, .invokespecial ic, _) :: rest2 => Nat.beq p3 (e.1 + 3) && (Nat.beq l3 1 && (Nat.beq p4 (e.1 + 4) && (Nat.beq l4 3 && ((decide ((hcl y, ik, ic) = ((2, 9, 21) : Nat × Nat × Nat)) || decide ((hcl y, ik, ic) = ((7, 16, 18) : Nat × Nat × Nat))) && (match rest2 with
        | e7 :: _ => Nat.beq e7.1 (e.1 + 7)
        | [] => true)))))
      | _ => false))
  | .invokespecial _ => true
  | .ldc_w _ => true
  | _ => Nat.beq e.2.1 1
def gck1 (y : Nat) (e : gE) (rest : List gE) : Bool := decide (decode (hb y) e.1 = .ok (e.2.2.1, e.2.1)) && ((match rest with
  | [] => true
  | e2 :: _ => Nat.beq e2.1 (e.1 + e.2.1)) && gck2 y e rest)
def gckL (y : Nat) : List gE → Bool
  | [] => true
  | e :: rest => gck1 y e rest && gckL y rest
end
section
/-! ===== one row of code does what gsem says ===== -/
/-- a new state: from 'new' over its constructor (proved in another part) -/
def gNewOK (E : gEn) : Prop := ∀ (y pc : Nat) (ls : List (Nat × gV)) (st : List gV) (I : gI) (J : gJ) (B : gB) (c w : Nat) (Q : gQt) (X : gXt) (ik ic m : Nat), ((hcl y, ik, ic) = ((2, 9, 21) : Nat × Nat × Nat) ∨ (hcl y, ik, ic) = ((7, 16, 18) : Nat × Nat × Nat)) → (hy y).cls = gcls (hcl y) →
  decode (hb y) pc = .ok (.new ik, 3) → decode (hb y) (pc + 3) = .ok (.dup, 1) → decode (hb y) (pc + 4) = .ok (.invokespecial ic, 3) → 3 ≤ hfr y → 40 ≤ hlo y → gsum st ≤ 6 → (3 ≤ m ∧ m ≤ 12 ∧ B m = false) → (c + 7 ≤ hmc y ∧ w + 142 ≤ hms y) →
  gG E y (pc + 7) ls (.inr (6, m, 0) :: st) (gnwI I m) (gnwJ J m) (gUB B m) (c + 7) (w + 142) Q X → gG E y pc ls st I J B c w Q X
theorem gtop_e {st : List gV} {k : gV → List gV → Prop} (h : gtop st k) : ∃ v r, st = v :: r ∧ k v r := by
  unfold gtop at h
  split at h
  · exact ⟨_, _, rfl, h⟩
  · exact absurd h id
theorem gpi_e {st : List gV} {k : Int32 → List gV → Prop} (h : gpi st k) : ∃ x r, st = .inl (.int x) :: r ∧ k x r := by
  obtain ⟨v, r, rfl, h⟩ := gtop_e h
  obtain ⟨x, rfl, h⟩ := gvi_e h
  exact ⟨x, r, rfl, h⟩
theorem gpl_e {st : List gV} {k : Int64 → List gV → Prop} (h : gpl st k) : ∃ x r, st = .inl (.long x) :: r ∧ k x r := by
  obtain ⟨v, r, rfl, h⟩ := gtop_e h
  obtain ⟨x, rfl, h⟩ := gvl_e h
  exact ⟨x, r, rfl, h⟩
theorem gpd_e {st : List gV} {k : UInt64 → List gV → Prop} (h : gpd st k) : ∃ x r, st = .inl (.double x) :: r ∧ k x r := by
  obtain ⟨v, r, rfl, h⟩ := gtop_e h
  obtain ⟨x, rfl, h⟩ := gvd_e h
  exact ⟨x, r, rfl, h⟩
theorem gpr_e {st : List gV} {k : gR → List gV → Prop} (h : gpr st k) : ∃ x r, st = .inr x :: r ∧ k x r := by
  obtain ⟨v, r, rfl, h⟩ := gtop_e h
  obtain ⟨x, rfl, h⟩ := gvr_e h
  exact ⟨x, r, rfl, h⟩
theorem gno_e {st : List gV} {k : Prop} (h : gno st k) : st = [] ∧ k := by
  unfold gno at h
  split at h
  · exact ⟨rfl, h⟩
  · exact absurd h id
theorem gldv_e {ls : List (Nat × gV)} {a : Nat} {k : gV → Prop} (h : gldv ls a k) : ∃ v, ls.lookup a = some v ∧ k v := by
  unfold gldv at h
  split at h
  · rename_i v e
    exact ⟨v, e, h⟩
  · exact absurd h id
theorem gvI_e {v : gV} {k : Int32 → Bool} (h : gvI v k = true) {x : Int32} (e : v = .inl (.int x)) : k x = true := by
  subst e
  exact h
theorem gvL_e {v : gV} {k : Int64 → Bool} (h : gvL v k = true) {x : Int64} (e : v = .inl (.long x)) : k x = true := by
  subst e
  exact h
theorem gband {a b : Bool} (h : (a && b) = true) : a = true ∧ b = true := Bool.and_eq_true_iff.mp h
theorem gto_h {cd : List gE} {t : Nat} {e : gE} {r : List gE} (h : gto cd t = e :: r) : e.1 = t := by
  unfold gto at h
  have h1 := List.head?_dropWhile_not (fun e : gE => !(Nat.beq e.1 t)) cd
  rw [h] at h1
  simp only [List.head?_cons] at h1
  exact Nat.eq_of_beq_eq_true (by simpa using h1)
theorem gto_s {cd : List gE} {t : Nat} : ∃ pre, cd = pre ++ gto cd t := ⟨cd.takeWhile (fun e => !(Nat.beq e.1 t)), (List.takeWhile_append_dropWhile).symm⟩
theorem gckL_at {y : Nat} : ∀ {pre : List gE} {e : gE} {rest : List gE}, gckL y (pre ++ e :: rest) = true → gck1 y e rest = true
  | [], e, rest, h => (gband h).1
  | _ :: pre, e, rest, h => gckL_at (pre := pre) (gband h).2
section GS
variable {E : gEn} {y : Nat} {cd : List gE} {hs : gH} {bo : Bool} {Q : gQt} {X : gXt} {e : gE} {rest : List gE} {go : List gE → gM} {ls : List (Nat × gV)} {st : List gV} {I : gI} {J : gJ} {B : gB} {c w : Nat}
/-- going on to a row that stands in the code -/
def gGo (E : gEn) (y : Nat) (cd : List gE) (Q : gQt) (X : gXt) (go : List gE → gM) : Prop := ∀ (cur : List gE) (ls : List (Nat × gV)) (st : List gV) (I : gI) (J : gJ) (B : gB) (c w : Nat), (∃ pre, cd = pre ++ cur) → go cur ls st I J B c w → ∃ e r, cur = e :: r ∧ gG E y e.1 ls st I J B c w Q X
theorem gGo.nx (hgo : gGo E y cd Q X go) (hsuf : ∃ pre, cd = pre ++ e :: rest) (hck : gck1 y e rest = true) (h : go rest ls st I J B c w) : gG E y (e.1 + e.2.1) ls st I J B c w Q X := by
  obtain ⟨pre, hp⟩ := hsuf
  obtain ⟨e2, r2, rfl, hG⟩ := hgo rest ls st I J B c w ⟨pre ++ [e], by rw [hp]; simp⟩ h
  have h2 := (gband (gband hck).2).1
  rw [← Nat.eq_of_beq_eq_true h2]
  exact hG
theorem gGo.jm {t : Nat} (hgo : gGo E y cd Q X go) (h : go (gto cd t) ls st I J B c w) : gG E y t ls st I J B c w Q X := by
  obtain ⟨e2, r2, he, hG⟩ := hgo (gto cd t) ls st I J B c w gto_s h
  rw [← gto_h he]
  exact hG
theorem gdec (hck : gck1 y e rest = true) : decode (hb y) e.1 = .ok (e.2.2.1, e.2.1) := of_decide_eq_true (gband hck).1

end GS
end
section
/-! ===== every row of code does what gsem says (by wip/whole/p20.py) ===== -/
theorem gYc_t : ∀ t ∈ gYc, hht t = [] := by decide +kernel
theorem gYx_t : ∀ t ∈ gYx, hht t ≠ [] := by decide +kernel
theorem gx3_0 {a b c : Prop} : gx3 0 a b c = a := rfl
theorem gx3_1 {a b c : Prop} : gx3 1 a b c = b := rfl
theorem gx3_2 {a b c : Prop} : gx3 2 a b c = c := rfl
def gHcl : List (Nat × Nat) := [(20, 0), (13, 1), (15, 2)]
/-- the handlers of the small machine are those of the method's table -/
def gckH (y : Nat) (cd : List gE) (hs : gH) : Bool := match hs with
  | [] => (hht y).isEmpty
  | _ => Nat.beq (hcl y) 9 && (Nat.beq hs.length (hht y).length && ((hs.zip (hht y)).all (fun q => Nat.beq q.1.1 q.2.1 && (Nat.beq q.1.2.1 q.2.2.1 && (Nat.beq q.1.2.2.1 q.2.2.2.1 && gHcl.contains (q.2.2.2.2, q.1.2.2.2)))) && hs.all (fun z => match gto cd z.2.2.1 with
    | (_, _, .astore_n _, _) :: _ => true
    | (_, _, .astore _, _) :: _ => true
    | _ => false)))

section GZ
variable {E : gEn} {y : Nat} {cd : List gE} {hs : gH} {bo : Bool} {Q : gQt} {X : gXt} {rest : List gE} {go : List gE → gM} {ls : List (Nat × gV)} {st : List gV} {I : gI} {J : gJ} {B : gB} {c w : Nat} {pc len a b : Nat} {v : gV}
theorem gG_in (h : c ≤ hmc y → w ≤ hms y → gG E y pc ls st I J B c w Q X) : gG E y pc ls st I J B c w Q X := fun hc hw => h hc hw hc hw
theorem gtgt_e {off : Int} (h : gtgt pc off a = true) : (pc : Int) + off = (a : Int) := of_decide_eq_true h
theorem ghok_of {own : String} : ∀ {hh : List (Nat × Nat × Nat × Nat)} {hs : gH}, own = RL → hs.length = hh.length → (∀ q ∈ hs.zip hh, (Nat.beq q.1.1 q.2.1 && (Nat.beq q.1.2.1 q.2.2.1 && (Nat.beq q.1.2.2.1 q.2.2.2.1 && gHcl.contains (q.2.2.2.2, q.1.2.2.2)))) = true) → gHok own hh hs
  | [], [], _, _, _ => trivial
  | [], _ :: _, _, h, _ => by cases h
  | _ :: _, [], _, h, _ => by cases h
  | (a, b, h, i) :: t, (a2, b2, h2, j) :: t2, ho, hl, hq => by
    have h0 := hq ((a2, b2, h2, j), (a, b, h, i)) (by simp)
    obtain ⟨e1, h0⟩ := gband h0
    obtain ⟨e2, h0⟩ := gband h0
    obtain ⟨e3, h0⟩ := gband h0
    refine ⟨⟨Nat.eq_of_beq_eq_true e1, Nat.eq_of_beq_eq_true e2, Nat.eq_of_beq_eq_true e3, ?_⟩, ghok_of ho (by simpa using hl) (fun q h => hq q (by simp only [List.zip_cons_cons, List.mem_cons]; exact Or.inr h))⟩
    have h1 : (i, j) ∈ gHcl := List.contains_iff_mem.mp h0
    subst ho
    simp only [gHcl, List.mem_cons, List.not_mem_nil, or_false, Prod.mk.injEq] at h1
    rcases h1 with ⟨rfl, rfl⟩ | ⟨rfl, rfl⟩ | ⟨rfl, rfl⟩
    · exact ⟨by decide, by decide, gCl_ok ("ToeplitzLabLaw", 20, "java/lang/IllegalStateException") (by simp [gCl, gCl_2, gCl_3])⟩
    · exact ⟨by decide, by decide, gCl_ok ("ToeplitzLabLaw", 13, "java/lang/IndexOutOfBoundsException") (by simp [gCl, gCl_2, gCl_3])⟩
    · exact ⟨by decide, by decide, gCl_ok ("ToeplitzLabLaw", 15, "java/lang/IllegalArgumentException") (by simp [gCl, gCl_2, gCl_3])⟩
theorem ghf_mem {k h : Nat} : ∀ {hs : gH}, ghf hs pc k = some h → ∃ z ∈ hs, z.2.2.1 = h
  | [], e => by cases e
  | (a, b, h2, j) :: r, e => by
    unfold ghf at e
    split at e
    · cases e
      exact ⟨_, List.mem_cons_self, rfl⟩
    · obtain ⟨z, hz, h3⟩ := ghf_mem e
      exact ⟨z, List.mem_cons_of_mem _ hz, h3⟩
/-- what a handler leads to -/
theorem gh_go {k h : Nat} (hgo : gGo E y cd Q X go) (hcd : gckL y cd = true) (hcl2 : (hy y).cls = gcls (hcl y)) (hne : hs ≠ []) (hH : gckH y cd hs = true) (hk : k < 3) (hf : ghf hs pc k = some h) (h0 : ghg cd h (fun r ls2 => go r ls2 [] I J B c w) ls) : gGx E y pc ls k I J B c w Q X := by
  have hH2 : (Nat.beq (hcl y) 9 && (Nat.beq hs.length (hht y).length && ((hs.zip (hht y)).all (fun q => Nat.beq q.1.1 q.2.1 && (Nat.beq q.1.2.1 q.2.2.1 && (Nat.beq q.1.2.2.1 q.2.2.2.1 && gHcl.contains (q.2.2.2.2, q.1.2.2.2)))) && hs.all (fun z => match gto cd z.2.2.1 with
    | (_, _, .astore_n _, _) :: _ => true
    | (_, _, .astore _, _) :: _ => true
    | _ => false)))) = true := by
    unfold gckH at hH
    split at hH
    · exact absurd rfl hne
    · exact hH
  obtain ⟨c1, hH2⟩ := gband hH2
  obtain ⟨c2, hH2⟩ := gband hH2
  obtain ⟨c3, c4⟩ := gband hH2
  have hok : gHok (hy y).cls (hht y) hs := ghok_of (by rw [hcl2, Nat.eq_of_beq_eq_true c1]; rfl) (Nat.eq_of_beq_eq_true c2) (List.all_eq_true.mp c3)
  obtain ⟨z, hz, hzh⟩ := ghf_mem hf
  have c5 := List.all_eq_true.mp c4 z hz
  simp only at c5
  rw [hzh] at c5
  unfold ghg at h0
  obtain ⟨pre, hpre⟩ := gto_s (cd := cd) (t := h)
  cases hg : gto cd h with
  | nil => rw [hg] at c5; cases c5
  | cons e r =>
    rw [hg] at c5 h0 hpre
    have ht := gto_h hg
    have hck : gck1 y e r = true := gckL_at (by rw [hpre] at hcd; exact hcd)
    obtain ⟨pc2, len2, ins2, a2, b2, v2⟩ := e
    have hpc : pc2 = h := ht
    subst hpc
    have hst : (∃ j : Fin 4, ins2 = .astore_n j ∧ (j : Nat) = a2 ∧ len2 = 1 ∧ a2 < hml y) ∨ (ins2 = .astore a2 ∧ len2 = 2 ∧ a2 < hml y) := by
      split at c5
      · rename_i heq
        cases heq
        obtain ⟨d1, d2⟩ := gband (gband hck).2
        obtain ⟨d2, d3⟩ := gband d2
        obtain ⟨d3, d4⟩ := gband d3
        exact Or.inl ⟨_, rfl, Nat.eq_of_beq_eq_true d3, Nat.eq_of_beq_eq_true d2, Nat.le_of_ble_eq_true d4⟩
      · rename_i heq
        cases heq
        obtain ⟨d1, d2⟩ := gband (gband hck).2
        obtain ⟨d2, d3⟩ := gband d2
        obtain ⟨d3, d4⟩ := gband d3
        have e4 := Nat.eq_of_beq_eq_true d3
        subst e4
        exact Or.inr ⟨rfl, Nat.eq_of_beq_eq_true d2, Nat.le_of_ble_eq_true d4⟩
      · cases c5
    have hG := hgo.nx ⟨pre, hpre⟩ hck h0
    rcases hst with ⟨j, e1, e2, e3, e4⟩ | ⟨e1, e2, e3⟩
    · exact gx_catch hok hk hf (gdec hck) (Or.inl ⟨j, e1, e2, e3⟩) e4 hG
    · exact gx_catch hok hk hf (gdec hck) (Or.inr ⟨e1, e2⟩) e3 hG
theorem gh_no {k : Nat} (hcl2 : (hy y).cls = gcls (hcl y)) (hne : hs ≠ []) (hH : gckH y cd hs = true) (hk : k < 3) (hf : ghf hs pc k = none) (h0 : X k I J B) : gGx E y pc ls k I J B c w Q X := by
  have hH2 : (Nat.beq (hcl y) 9 && (Nat.beq hs.length (hht y).length && ((hs.zip (hht y)).all (fun q => Nat.beq q.1.1 q.2.1 && (Nat.beq q.1.2.1 q.2.2.1 && (Nat.beq q.1.2.2.1 q.2.2.2.1 && gHcl.contains (q.2.2.2.2, q.1.2.2.2)))) && hs.all (fun z => match gto cd z.2.2.1 with
    | (_, _, .astore_n _, _) :: _ => true
    | (_, _, .astore _, _) :: _ => true
    | _ => false)))) = true := by
    unfold gckH at hH
    split at hH
    · exact absurd rfl hne
    · exact hH
  obtain ⟨c1, hH2⟩ := gband hH2
  obtain ⟨c2, hH2⟩ := gband hH2
  obtain ⟨c3, c4⟩ := gband hH2
  have hok : gHok (hy y).cls (hht y) hs := ghok_of (by rw [hcl2, Nat.eq_of_beq_eq_true c1]; rfl) (Nat.eq_of_beq_eq_true c2) (List.all_eq_true.mp c3)
  exact gx_pass hok hk hf h0

theorem gs_iadd  (hgo : gGo E y cd Q X go) (hsuf : ∃ pre, cd = pre ++ (pc, len, .iadd, a, b, v) :: rest) (hck : gck1 y (pc, len, .iadd, a, b, v) rest = true) (h : gsem (gC E) cd hs (hmc y) (hms y) (gL E) (gXs E) bo Q X (pc, len, .iadd, a, b, v) rest go ls st I J B c w)  : gG E y pc ls st I J B c w Q X := by
  obtain ⟨z, r, rfl, h⟩ := gpi_e h
  obtain ⟨x, r, rfl, h⟩ := gpi_e h
  have hl : len = 1 := Nat.eq_of_beq_eq_true (gband (gband hck).2).2
  subst hl
  exact gp_iadd (gdec hck) (hgo.nx hsuf hck h)
theorem gs_isub  (hgo : gGo E y cd Q X go) (hsuf : ∃ pre, cd = pre ++ (pc, len, .isub, a, b, v) :: rest) (hck : gck1 y (pc, len, .isub, a, b, v) rest = true) (h : gsem (gC E) cd hs (hmc y) (hms y) (gL E) (gXs E) bo Q X (pc, len, .isub, a, b, v) rest go ls st I J B c w)  : gG E y pc ls st I J B c w Q X := by
  obtain ⟨z, r, rfl, h⟩ := gpi_e h
  obtain ⟨x, r, rfl, h⟩ := gpi_e h
  have hl : len = 1 := Nat.eq_of_beq_eq_true (gband (gband hck).2).2
  subst hl
  exact gp_isub (gdec hck) (hgo.nx hsuf hck h)
theorem gs_imul  (hgo : gGo E y cd Q X go) (hsuf : ∃ pre, cd = pre ++ (pc, len, .imul, a, b, v) :: rest) (hck : gck1 y (pc, len, .imul, a, b, v) rest = true) (h : gsem (gC E) cd hs (hmc y) (hms y) (gL E) (gXs E) bo Q X (pc, len, .imul, a, b, v) rest go ls st I J B c w)  : gG E y pc ls st I J B c w Q X := by
  obtain ⟨z, r, rfl, h⟩ := gpi_e h
  obtain ⟨x, r, rfl, h⟩ := gpi_e h
  have hl : len = 1 := Nat.eq_of_beq_eq_true (gband (gband hck).2).2
  subst hl
  exact gp_imul (gdec hck) (hgo.nx hsuf hck h)
theorem gs_iand  (hgo : gGo E y cd Q X go) (hsuf : ∃ pre, cd = pre ++ (pc, len, .iand, a, b, v) :: rest) (hck : gck1 y (pc, len, .iand, a, b, v) rest = true) (h : gsem (gC E) cd hs (hmc y) (hms y) (gL E) (gXs E) bo Q X (pc, len, .iand, a, b, v) rest go ls st I J B c w)  : gG E y pc ls st I J B c w Q X := by
  obtain ⟨z, r, rfl, h⟩ := gpi_e h
  obtain ⟨x, r, rfl, h⟩ := gpi_e h
  have hl : len = 1 := Nat.eq_of_beq_eq_true (gband (gband hck).2).2
  subst hl
  exact gp_iand (gdec hck) (hgo.nx hsuf hck h)
theorem gs_ior  (hgo : gGo E y cd Q X go) (hsuf : ∃ pre, cd = pre ++ (pc, len, .ior, a, b, v) :: rest) (hck : gck1 y (pc, len, .ior, a, b, v) rest = true) (h : gsem (gC E) cd hs (hmc y) (hms y) (gL E) (gXs E) bo Q X (pc, len, .ior, a, b, v) rest go ls st I J B c w)  : gG E y pc ls st I J B c w Q X := by
  obtain ⟨z, r, rfl, h⟩ := gpi_e h
  obtain ⟨x, r, rfl, h⟩ := gpi_e h
  have hl : len = 1 := Nat.eq_of_beq_eq_true (gband (gband hck).2).2
  subst hl
  exact gp_ior (gdec hck) (hgo.nx hsuf hck h)
theorem gs_ixor  (hgo : gGo E y cd Q X go) (hsuf : ∃ pre, cd = pre ++ (pc, len, .ixor, a, b, v) :: rest) (hck : gck1 y (pc, len, .ixor, a, b, v) rest = true) (h : gsem (gC E) cd hs (hmc y) (hms y) (gL E) (gXs E) bo Q X (pc, len, .ixor, a, b, v) rest go ls st I J B c w)  : gG E y pc ls st I J B c w Q X := by
  obtain ⟨z, r, rfl, h⟩ := gpi_e h
  obtain ⟨x, r, rfl, h⟩ := gpi_e h
  have hl : len = 1 := Nat.eq_of_beq_eq_true (gband (gband hck).2).2
  subst hl
  exact gp_ixor (gdec hck) (hgo.nx hsuf hck h)
theorem gs_ishl  (hgo : gGo E y cd Q X go) (hsuf : ∃ pre, cd = pre ++ (pc, len, .ishl, a, b, v) :: rest) (hck : gck1 y (pc, len, .ishl, a, b, v) rest = true) (h : gsem (gC E) cd hs (hmc y) (hms y) (gL E) (gXs E) bo Q X (pc, len, .ishl, a, b, v) rest go ls st I J B c w)  : gG E y pc ls st I J B c w Q X := by
  obtain ⟨z, r, rfl, h⟩ := gpi_e h
  obtain ⟨x, r, rfl, h⟩ := gpi_e h
  have hl : len = 1 := Nat.eq_of_beq_eq_true (gband (gband hck).2).2
  subst hl
  exact gp_ishl (gdec hck) (hgo.nx hsuf hck h)
theorem gs_ishr  (hgo : gGo E y cd Q X go) (hsuf : ∃ pre, cd = pre ++ (pc, len, .ishr, a, b, v) :: rest) (hck : gck1 y (pc, len, .ishr, a, b, v) rest = true) (h : gsem (gC E) cd hs (hmc y) (hms y) (gL E) (gXs E) bo Q X (pc, len, .ishr, a, b, v) rest go ls st I J B c w)  : gG E y pc ls st I J B c w Q X := by
  obtain ⟨z, r, rfl, h⟩ := gpi_e h
  obtain ⟨x, r, rfl, h⟩ := gpi_e h
  have hl : len = 1 := Nat.eq_of_beq_eq_true (gband (gband hck).2).2
  subst hl
  exact gp_ishr (gdec hck) (hgo.nx hsuf hck h)
theorem gs_idiv  (hgo : gGo E y cd Q X go) (hsuf : ∃ pre, cd = pre ++ (pc, len, .idiv, a, b, v) :: rest) (hck : gck1 y (pc, len, .idiv, a, b, v) rest = true) (h : gsem (gC E) cd hs (hmc y) (hms y) (gL E) (gXs E) bo Q X (pc, len, .idiv, a, b, v) rest go ls st I J B c w)  : gG E y pc ls st I J B c w Q X := by
  obtain ⟨z, r, rfl, h⟩ := gpi_e h
  obtain ⟨x, r, rfl, h⟩ := gpi_e h
  have hl : len = 1 := Nat.eq_of_beq_eq_true (gband (gband hck).2).2
  subst hl
  exact gp_idiv (gdec hck) h.1 (hgo.nx hsuf hck h.2)
theorem gs_irem  (hgo : gGo E y cd Q X go) (hsuf : ∃ pre, cd = pre ++ (pc, len, .irem, a, b, v) :: rest) (hck : gck1 y (pc, len, .irem, a, b, v) rest = true) (h : gsem (gC E) cd hs (hmc y) (hms y) (gL E) (gXs E) bo Q X (pc, len, .irem, a, b, v) rest go ls st I J B c w)  : gG E y pc ls st I J B c w Q X := by
  obtain ⟨z, r, rfl, h⟩ := gpi_e h
  obtain ⟨x, r, rfl, h⟩ := gpi_e h
  have hl : len = 1 := Nat.eq_of_beq_eq_true (gband (gband hck).2).2
  subst hl
  exact gp_irem (gdec hck) h.1 (hgo.nx hsuf hck h.2)
theorem gs_ladd  (hgo : gGo E y cd Q X go) (hsuf : ∃ pre, cd = pre ++ (pc, len, .ladd, a, b, v) :: rest) (hck : gck1 y (pc, len, .ladd, a, b, v) rest = true) (h : gsem (gC E) cd hs (hmc y) (hms y) (gL E) (gXs E) bo Q X (pc, len, .ladd, a, b, v) rest go ls st I J B c w)  : gG E y pc ls st I J B c w Q X := by
  obtain ⟨z, r, rfl, h⟩ := gpl_e h
  obtain ⟨x, r, rfl, h⟩ := gpl_e h
  have hl : len = 1 := Nat.eq_of_beq_eq_true (gband (gband hck).2).2
  subst hl
  exact gp_ladd (gdec hck) (hgo.nx hsuf hck h)
theorem gs_lsub  (hgo : gGo E y cd Q X go) (hsuf : ∃ pre, cd = pre ++ (pc, len, .lsub, a, b, v) :: rest) (hck : gck1 y (pc, len, .lsub, a, b, v) rest = true) (h : gsem (gC E) cd hs (hmc y) (hms y) (gL E) (gXs E) bo Q X (pc, len, .lsub, a, b, v) rest go ls st I J B c w)  : gG E y pc ls st I J B c w Q X := by
  obtain ⟨z, r, rfl, h⟩ := gpl_e h
  obtain ⟨x, r, rfl, h⟩ := gpl_e h
  have hl : len = 1 := Nat.eq_of_beq_eq_true (gband (gband hck).2).2
  subst hl
  exact gp_lsub (gdec hck) (hgo.nx hsuf hck h)
theorem gs_lmul  (hgo : gGo E y cd Q X go) (hsuf : ∃ pre, cd = pre ++ (pc, len, .lmul, a, b, v) :: rest) (hck : gck1 y (pc, len, .lmul, a, b, v) rest = true) (h : gsem (gC E) cd hs (hmc y) (hms y) (gL E) (gXs E) bo Q X (pc, len, .lmul, a, b, v) rest go ls st I J B c w)  : gG E y pc ls st I J B c w Q X := by
  obtain ⟨z, r, rfl, h⟩ := gpl_e h
  obtain ⟨x, r, rfl, h⟩ := gpl_e h
  have hl : len = 1 := Nat.eq_of_beq_eq_true (gband (gband hck).2).2
  subst hl
  exact gp_lmul (gdec hck) (hgo.nx hsuf hck h)
theorem gs_lcmp  (hgo : gGo E y cd Q X go) (hsuf : ∃ pre, cd = pre ++ (pc, len, .lcmp, a, b, v) :: rest) (hck : gck1 y (pc, len, .lcmp, a, b, v) rest = true) (h : gsem (gC E) cd hs (hmc y) (hms y) (gL E) (gXs E) bo Q X (pc, len, .lcmp, a, b, v) rest go ls st I J B c w)  : gG E y pc ls st I J B c w Q X := by
  obtain ⟨z, r, rfl, h⟩ := gpl_e h
  obtain ⟨x, r, rfl, h⟩ := gpl_e h
  have hl : len = 1 := Nat.eq_of_beq_eq_true (gband (gband hck).2).2
  subst hl
  exact gp_lcmp (gdec hck) (hgo.nx hsuf hck h)
theorem gs_ldiv  (hgo : gGo E y cd Q X go) (hsuf : ∃ pre, cd = pre ++ (pc, len, .ldiv, a, b, v) :: rest) (hck : gck1 y (pc, len, .ldiv, a, b, v) rest = true) (h : gsem (gC E) cd hs (hmc y) (hms y) (gL E) (gXs E) bo Q X (pc, len, .ldiv, a, b, v) rest go ls st I J B c w)  : gG E y pc ls st I J B c w Q X := by
  obtain ⟨z, r, rfl, h⟩ := gpl_e h
  obtain ⟨x, r, rfl, h⟩ := gpl_e h
  have hl : len = 1 := Nat.eq_of_beq_eq_true (gband (gband hck).2).2
  subst hl
  exact gp_ldiv (gdec hck) h.1 (hgo.nx hsuf hck h.2)
theorem gs_lrem  (hgo : gGo E y cd Q X go) (hsuf : ∃ pre, cd = pre ++ (pc, len, .lrem, a, b, v) :: rest) (hck : gck1 y (pc, len, .lrem, a, b, v) rest = true) (h : gsem (gC E) cd hs (hmc y) (hms y) (gL E) (gXs E) bo Q X (pc, len, .lrem, a, b, v) rest go ls st I J B c w)  : gG E y pc ls st I J B c w Q X := by
  obtain ⟨z, r, rfl, h⟩ := gpl_e h
  obtain ⟨x, r, rfl, h⟩ := gpl_e h
  have hl : len = 1 := Nat.eq_of_beq_eq_true (gband (gband hck).2).2
  subst hl
  exact gp_lrem (gdec hck) h.1 (hgo.nx hsuf hck h.2)
theorem gs_ineg  (hgo : gGo E y cd Q X go) (hsuf : ∃ pre, cd = pre ++ (pc, len, .ineg, a, b, v) :: rest) (hck : gck1 y (pc, len, .ineg, a, b, v) rest = true) (h : gsem (gC E) cd hs (hmc y) (hms y) (gL E) (gXs E) bo Q X (pc, len, .ineg, a, b, v) rest go ls st I J B c w)  : gG E y pc ls st I J B c w Q X := by
  obtain ⟨x, r, rfl, h⟩ := gpi_e h
  have hl : len = 1 := Nat.eq_of_beq_eq_true (gband (gband hck).2).2
  subst hl
  exact gp_ineg (gdec hck) (hgo.nx hsuf hck h)
theorem gs_lneg  (hgo : gGo E y cd Q X go) (hsuf : ∃ pre, cd = pre ++ (pc, len, .lneg, a, b, v) :: rest) (hck : gck1 y (pc, len, .lneg, a, b, v) rest = true) (h : gsem (gC E) cd hs (hmc y) (hms y) (gL E) (gXs E) bo Q X (pc, len, .lneg, a, b, v) rest go ls st I J B c w)  : gG E y pc ls st I J B c w Q X := by
  obtain ⟨x, r, rfl, h⟩ := gpl_e h
  have hl : len = 1 := Nat.eq_of_beq_eq_true (gband (gband hck).2).2
  subst hl
  exact gp_lneg (gdec hck) (hgo.nx hsuf hck h)
theorem gs_i2l  (hgo : gGo E y cd Q X go) (hsuf : ∃ pre, cd = pre ++ (pc, len, .i2l, a, b, v) :: rest) (hck : gck1 y (pc, len, .i2l, a, b, v) rest = true) (h : gsem (gC E) cd hs (hmc y) (hms y) (gL E) (gXs E) bo Q X (pc, len, .i2l, a, b, v) rest go ls st I J B c w)  : gG E y pc ls st I J B c w Q X := by
  obtain ⟨x, r, rfl, h⟩ := gpi_e h
  have hl : len = 1 := Nat.eq_of_beq_eq_true (gband (gband hck).2).2
  subst hl
  exact gp_i2l (gdec hck) (hgo.nx hsuf hck h)
theorem gs_l2i  (hgo : gGo E y cd Q X go) (hsuf : ∃ pre, cd = pre ++ (pc, len, .l2i, a, b, v) :: rest) (hck : gck1 y (pc, len, .l2i, a, b, v) rest = true) (h : gsem (gC E) cd hs (hmc y) (hms y) (gL E) (gXs E) bo Q X (pc, len, .l2i, a, b, v) rest go ls st I J B c w)  : gG E y pc ls st I J B c w Q X := by
  obtain ⟨x, r, rfl, h⟩ := gpl_e h
  have hl : len = 1 := Nat.eq_of_beq_eq_true (gband (gband hck).2).2
  subst hl
  exact gp_l2i (gdec hck) (hgo.nx hsuf hck h)
theorem gs_i2b  (hgo : gGo E y cd Q X go) (hsuf : ∃ pre, cd = pre ++ (pc, len, .i2b, a, b, v) :: rest) (hck : gck1 y (pc, len, .i2b, a, b, v) rest = true) (h : gsem (gC E) cd hs (hmc y) (hms y) (gL E) (gXs E) bo Q X (pc, len, .i2b, a, b, v) rest go ls st I J B c w)  : gG E y pc ls st I J B c w Q X := by
  obtain ⟨x, r, rfl, h⟩ := gpi_e h
  have hl : len = 1 := Nat.eq_of_beq_eq_true (gband (gband hck).2).2
  subst hl
  exact gp_i2b (gdec hck) (hgo.nx hsuf hck h)
theorem gs_l2d  (hgo : gGo E y cd Q X go) (hsuf : ∃ pre, cd = pre ++ (pc, len, .l2d, a, b, v) :: rest) (hck : gck1 y (pc, len, .l2d, a, b, v) rest = true) (h : gsem (gC E) cd hs (hmc y) (hms y) (gL E) (gXs E) bo Q X (pc, len, .l2d, a, b, v) rest go ls st I J B c w)  : gG E y pc ls st I J B c w Q X := by
  obtain ⟨x, r, rfl, h⟩ := gpl_e h
  have hl : len = 1 := Nat.eq_of_beq_eq_true (gband (gband hck).2).2
  subst hl
  exact gp_l2d (gdec hck) (hgo.nx hsuf hck h)
theorem gs_ddiv  (hgo : gGo E y cd Q X go) (hsuf : ∃ pre, cd = pre ++ (pc, len, .ddiv, a, b, v) :: rest) (hck : gck1 y (pc, len, .ddiv, a, b, v) rest = true) (h : gsem (gC E) cd hs (hmc y) (hms y) (gL E) (gXs E) bo Q X (pc, len, .ddiv, a, b, v) rest go ls st I J B c w)  : gG E y pc ls st I J B c w Q X := by
  obtain ⟨z, r, rfl, h⟩ := gpd_e h
  obtain ⟨x, r, rfl, h⟩ := gpd_e h
  have hl : len = 1 := Nat.eq_of_beq_eq_true (gband (gband hck).2).2
  subst hl
  exact gp_ddiv (gdec hck) h.1 (hgo.nx hsuf hck h.2)
theorem gs_dcmp {o : CmpOp} (hgo : gGo E y cd Q X go) (hsuf : ∃ pre, cd = pre ++ (pc, len, .dcmp o, a, b, v) :: rest) (hck : gck1 y (pc, len, .dcmp o, a, b, v) rest = true) (h : gsem (gC E) cd hs (hmc y) (hms y) (gL E) (gXs E) bo Q X (pc, len, .dcmp o, a, b, v) rest go ls st I J B c w)  : gG E y pc ls st I J B c w Q X := by
  obtain ⟨z, r, rfl, h⟩ := gpd_e h
  obtain ⟨x, r, rfl, h⟩ := gpd_e h
  have hl : len = 1 := Nat.eq_of_beq_eq_true (gband (gband hck).2).2
  subst hl
  exact gp_dcmp (gdec hck) (hgo.nx hsuf hck h)
theorem gs_iconst {n : Int} (hgo : gGo E y cd Q X go) (hsuf : ∃ pre, cd = pre ++ (pc, len, .iconst n, a, b, v) :: rest) (hck : gck1 y (pc, len, .iconst n, a, b, v) rest = true) (h : gsem (gC E) cd hs (hmc y) (hms y) (gL E) (gXs E) bo Q X (pc, len, .iconst n, a, b, v) rest go ls st I J B c w)  : gG E y pc ls st I J B c w Q X := by
  obtain ⟨x, rfl, h⟩ := gvi_e h
  obtain ⟨hl, h2⟩ := gband (gband (gband hck).2).2
  have hl := Nat.eq_of_beq_eq_true hl
  subst hl
  exact gp_iconst (gdec hck) (of_decide_eq_true (gvI_e h2 rfl)) (hgo.nx hsuf hck h)
theorem gs_bipush {n : Int} (hgo : gGo E y cd Q X go) (hsuf : ∃ pre, cd = pre ++ (pc, len, .bipush n, a, b, v) :: rest) (hck : gck1 y (pc, len, .bipush n, a, b, v) rest = true) (h : gsem (gC E) cd hs (hmc y) (hms y) (gL E) (gXs E) bo Q X (pc, len, .bipush n, a, b, v) rest go ls st I J B c w)  : gG E y pc ls st I J B c w Q X := by
  obtain ⟨x, rfl, h⟩ := gvi_e h
  obtain ⟨hl, h2⟩ := gband (gband (gband hck).2).2
  have hl := Nat.eq_of_beq_eq_true hl
  subst hl
  exact gp_bipush (gdec hck) (of_decide_eq_true (gvI_e h2 rfl)) (hgo.nx hsuf hck h)
theorem gs_sipush {n : Int} (hgo : gGo E y cd Q X go) (hsuf : ∃ pre, cd = pre ++ (pc, len, .sipush n, a, b, v) :: rest) (hck : gck1 y (pc, len, .sipush n, a, b, v) rest = true) (h : gsem (gC E) cd hs (hmc y) (hms y) (gL E) (gXs E) bo Q X (pc, len, .sipush n, a, b, v) rest go ls st I J B c w)  : gG E y pc ls st I J B c w Q X := by
  obtain ⟨x, rfl, h⟩ := gvi_e h
  obtain ⟨hl, h2⟩ := gband (gband (gband hck).2).2
  have hl := Nat.eq_of_beq_eq_true hl
  subst hl
  exact gp_sipush (gdec hck) (of_decide_eq_true (gvI_e h2 rfl)) (hgo.nx hsuf hck h)
theorem gs_lconst {n : Fin 2} (hgo : gGo E y cd Q X go) (hsuf : ∃ pre, cd = pre ++ (pc, len, .lconst n, a, b, v) :: rest) (hck : gck1 y (pc, len, .lconst n, a, b, v) rest = true) (h : gsem (gC E) cd hs (hmc y) (hms y) (gL E) (gXs E) bo Q X (pc, len, .lconst n, a, b, v) rest go ls st I J B c w)  : gG E y pc ls st I J B c w Q X := by
  obtain ⟨x, rfl, h⟩ := gvl_e h
  obtain ⟨hl, h2⟩ := gband (gband (gband hck).2).2
  have hl := Nat.eq_of_beq_eq_true hl
  subst hl
  exact gp_lconst (gdec hck) (of_decide_eq_true (gvL_e h2 rfl)) (hgo.nx hsuf hck h)
theorem gs_dconst {n : Fin 2} (hgo : gGo E y cd Q X go) (hsuf : ∃ pre, cd = pre ++ (pc, len, .dconst n, a, b, v) :: rest) (hck : gck1 y (pc, len, .dconst n, a, b, v) rest = true) (h : gsem (gC E) cd hs (hmc y) (hms y) (gL E) (gXs E) bo Q X (pc, len, .dconst n, a, b, v) rest go ls st I J B c w)  : gG E y pc ls st I J B c w Q X := by
  obtain ⟨hl, h2⟩ := gband (gband (gband hck).2).2
  have hl := Nat.eq_of_beq_eq_true hl
  subst hl
  have hn : n = 0 := Fin.ext (Nat.eq_of_beq_eq_true h2)
  subst hn
  exact gp_dconst (gdec hck) (hgo.nx hsuf hck h)
theorem gs_ldc {n : Nat} (hgo : gGo E y cd Q X go) (hsuf : ∃ pre, cd = pre ++ (pc, len, .ldc n, a, b, v) :: rest) (hck : gck1 y (pc, len, .ldc n, a, b, v) rest = true) (h : gsem (gC E) cd hs (hmc y) (hms y) (gL E) (gXs E) bo Q X (pc, len, .ldc n, a, b, v) rest go ls st I J B c w)  : gG E y pc ls st I J B c w Q X := by
  obtain ⟨q, rfl, h⟩ := gvr_e h
  obtain ⟨hl, h2⟩ := gband (gband (gband hck).2).2
  have hl := Nat.eq_of_beq_eq_true hl
  subst hl
  obtain ⟨q1, q2, q3⟩ := q
  simp only at h2
  split at h2
  · rename_i k heq
    cases heq
    obtain ⟨z, hz, h3⟩ := List.any_eq_true.mp h2
    obtain ⟨e1, h3⟩ := gband h3
    obtain ⟨e2, e3⟩ := gband h3
    have e1 := of_decide_eq_true e1
    have e2 := Nat.eq_of_beq_eq_true e2
    have e3 := Nat.eq_of_beq_eq_true e3
    obtain ⟨z1, z2, z3, z4⟩ := z
    simp only at e1 e2 e3
    subst e1
    subst e2
    subst e3
    exact gp_ldcS (gdec hck) hz (hgo.nx hsuf hck h)
  · cases h2
  · rename_i hno _
    exact absurd rfl (hno _)
theorem gs_ldc2 {n : Nat} (hgo : gGo E y cd Q X go) (hsuf : ∃ pre, cd = pre ++ (pc, len, .ldc2_w n, a, b, v) :: rest) (hck : gck1 y (pc, len, .ldc2_w n, a, b, v) rest = true) (h : gsem (gC E) cd hs (hmc y) (hms y) (gL E) (gXs E) bo Q X (pc, len, .ldc2_w n, a, b, v) rest go ls st I J B c w)  : gG E y pc ls st I J B c w Q X := by
  obtain ⟨x, rfl, h⟩ := gvl_e h
  obtain ⟨hl, h2⟩ := gband (gband (gband hck).2).2
  have hl := Nat.eq_of_beq_eq_true hl
  subst hl
  have h2 := gvL_e h2 rfl
  obtain ⟨z, hz, h3⟩ := List.any_eq_true.mp h2
  obtain ⟨e1, h3⟩ := gband h3
  obtain ⟨e2, e3⟩ := gband h3
  have e1 := of_decide_eq_true e1
  have e2 := Nat.eq_of_beq_eq_true e2
  have e3 := of_decide_eq_true e3
  have h4 := gKl_ok z hz
  simp only at h4
  rw [e1, e2, e3] at h4
  exact gp_ldc2 (gdec hck) h4 (hgo.nx hsuf hck h)
theorem gs_null  (hgo : gGo E y cd Q X go) (hsuf : ∃ pre, cd = pre ++ (pc, len, .aconst_null, a, b, v) :: rest) (hck : gck1 y (pc, len, .aconst_null, a, b, v) rest = true) (h : gsem (gC E) cd hs (hmc y) (hms y) (gL E) (gXs E) bo Q X (pc, len, .aconst_null, a, b, v) rest go ls st I J B c w)  : gG E y pc ls st I J B c w Q X := by
  have hl : len = 1 := Nat.eq_of_beq_eq_true (gband (gband hck).2).2
  subst hl
  exact gp_null (gdec hck) (hgo.nx hsuf hck h)
theorem gs_getstatic {n : Nat} (hgo : gGo E y cd Q X go) (hsuf : ∃ pre, cd = pre ++ (pc, len, .getstatic n, a, b, v) :: rest) (hck : gck1 y (pc, len, .getstatic n, a, b, v) rest = true) (h : gsem (gC E) cd hs (hmc y) (hms y) (gL E) (gXs E) bo Q X (pc, len, .getstatic n, a, b, v) rest go ls st I J B c w) (hcl2 : (hy y).cls = gcls (hcl y)) : gG E y pc ls st I J B c w Q X := by
  obtain ⟨hl, h2⟩ := gband (gband (gband hck).2).2
  have hl := Nat.eq_of_beq_eq_true hl
  subst hl
  obtain ⟨h2, h3⟩ := gband h2
  have h2 := Nat.eq_of_beq_eq_true h2
  subst h2
  have hcc : (hy y).cls = "ToeplitzLab" := by rw [hcl2, Nat.eq_of_beq_eq_true h3]; rfl
  exact gp_getstatic (gdec hck) (by rw [hcc]; exact gw_pri) (hgo.nx hsuf hck h)
theorem gs_iload_n {j : Fin 4} (hgo : gGo E y cd Q X go) (hsuf : ∃ pre, cd = pre ++ (pc, len, .iload_n j, a, b, v) :: rest) (hck : gck1 y (pc, len, .iload_n j, a, b, v) rest = true) (h : gsem (gC E) cd hs (hmc y) (hms y) (gL E) (gXs E) bo Q X (pc, len, .iload_n j, a, b, v) rest go ls st I J B c w)  : gG E y pc ls st I J B c w Q X := by
  obtain ⟨u, hu, h⟩ := gldv_e h
  obtain ⟨x, rfl, h⟩ := gvi_e h
  obtain ⟨hl, h2⟩ := gband (gband (gband hck).2).2
  have hl := Nat.eq_of_beq_eq_true hl
  subst hl
  exact gp_iload_n (gdec hck) (Nat.eq_of_beq_eq_true h2) hu (hgo.nx hsuf hck h)
theorem gs_lload_n {j : Fin 4} (hgo : gGo E y cd Q X go) (hsuf : ∃ pre, cd = pre ++ (pc, len, .lload_n j, a, b, v) :: rest) (hck : gck1 y (pc, len, .lload_n j, a, b, v) rest = true) (h : gsem (gC E) cd hs (hmc y) (hms y) (gL E) (gXs E) bo Q X (pc, len, .lload_n j, a, b, v) rest go ls st I J B c w)  : gG E y pc ls st I J B c w Q X := by
  obtain ⟨u, hu, h⟩ := gldv_e h
  obtain ⟨x, rfl, h⟩ := gvl_e h
  obtain ⟨hl, h2⟩ := gband (gband (gband hck).2).2
  have hl := Nat.eq_of_beq_eq_true hl
  subst hl
  exact gp_lload_n (gdec hck) (Nat.eq_of_beq_eq_true h2) hu (hgo.nx hsuf hck h)
theorem gs_iload {j : Nat} (hgo : gGo E y cd Q X go) (hsuf : ∃ pre, cd = pre ++ (pc, len, .iload j, a, b, v) :: rest) (hck : gck1 y (pc, len, .iload j, a, b, v) rest = true) (h : gsem (gC E) cd hs (hmc y) (hms y) (gL E) (gXs E) bo Q X (pc, len, .iload j, a, b, v) rest go ls st I J B c w)  : gG E y pc ls st I J B c w Q X := by
  obtain ⟨u, hu, h⟩ := gldv_e h
  obtain ⟨x, rfl, h⟩ := gvi_e h
  obtain ⟨hl, h2⟩ := gband (gband (gband hck).2).2
  have hl := Nat.eq_of_beq_eq_true hl
  subst hl
  have h2 := Nat.eq_of_beq_eq_true h2
  subst h2
  exact gp_iload (gdec hck) hu (hgo.nx hsuf hck h)
theorem gs_lload {j : Nat} (hgo : gGo E y cd Q X go) (hsuf : ∃ pre, cd = pre ++ (pc, len, .lload j, a, b, v) :: rest) (hck : gck1 y (pc, len, .lload j, a, b, v) rest = true) (h : gsem (gC E) cd hs (hmc y) (hms y) (gL E) (gXs E) bo Q X (pc, len, .lload j, a, b, v) rest go ls st I J B c w)  : gG E y pc ls st I J B c w Q X := by
  obtain ⟨u, hu, h⟩ := gldv_e h
  obtain ⟨x, rfl, h⟩ := gvl_e h
  obtain ⟨hl, h2⟩ := gband (gband (gband hck).2).2
  have hl := Nat.eq_of_beq_eq_true hl
  subst hl
  have h2 := Nat.eq_of_beq_eq_true h2
  subst h2
  exact gp_lload (gdec hck) hu (hgo.nx hsuf hck h)
theorem gs_dload {j : Nat} (hgo : gGo E y cd Q X go) (hsuf : ∃ pre, cd = pre ++ (pc, len, .dload j, a, b, v) :: rest) (hck : gck1 y (pc, len, .dload j, a, b, v) rest = true) (h : gsem (gC E) cd hs (hmc y) (hms y) (gL E) (gXs E) bo Q X (pc, len, .dload j, a, b, v) rest go ls st I J B c w)  : gG E y pc ls st I J B c w Q X := by
  obtain ⟨u, hu, h⟩ := gldv_e h
  obtain ⟨x, rfl, h⟩ := gvd_e h
  obtain ⟨hl, h2⟩ := gband (gband (gband hck).2).2
  have hl := Nat.eq_of_beq_eq_true hl
  subst hl
  have h2 := Nat.eq_of_beq_eq_true h2
  subst h2
  exact gp_dload (gdec hck) hu (hgo.nx hsuf hck h)
theorem gvn_e {v : gV} {p : Prop} {k : gR → Prop} (h : gvn v p k) : (v = .inl .null ∧ p) ∨ ∃ q, v = .inr q ∧ k q := by
  unfold gvn at h
  split at h
  · exact Or.inr ⟨_, rfl, h⟩
  · exact Or.inl ⟨rfl, h⟩
  · exact absurd h id
theorem gs_aload_n {j : Fin 4} (hgo : gGo E y cd Q X go) (hsuf : ∃ pre, cd = pre ++ (pc, len, .aload_n j, a, b, v) :: rest) (hck : gck1 y (pc, len, .aload_n j, a, b, v) rest = true) (h : gsem (gC E) cd hs (hmc y) (hms y) (gL E) (gXs E) bo Q X (pc, len, .aload_n j, a, b, v) rest go ls st I J B c w)  : gG E y pc ls st I J B c w Q X := by
  obtain ⟨u, hu, h⟩ := gldv_e h
  obtain ⟨hl, h2⟩ := gband (gband (gband hck).2).2
  have hl := Nat.eq_of_beq_eq_true hl
  subst hl
  rcases gvn_e h with ⟨rfl, h⟩ | ⟨x, rfl, h⟩
  · exact gp_aload_nN (gdec hck) (Nat.eq_of_beq_eq_true h2) hu (hgo.nx hsuf hck h)
  · exact gp_aload_n (gdec hck) (Nat.eq_of_beq_eq_true h2) hu (hgo.nx hsuf hck h)
theorem gs_aload {j : Nat} (hgo : gGo E y cd Q X go) (hsuf : ∃ pre, cd = pre ++ (pc, len, .aload j, a, b, v) :: rest) (hck : gck1 y (pc, len, .aload j, a, b, v) rest = true) (h : gsem (gC E) cd hs (hmc y) (hms y) (gL E) (gXs E) bo Q X (pc, len, .aload j, a, b, v) rest go ls st I J B c w)  : gG E y pc ls st I J B c w Q X := by
  obtain ⟨u, hu, h⟩ := gldv_e h
  obtain ⟨hl, h2⟩ := gband (gband (gband hck).2).2
  have hl := Nat.eq_of_beq_eq_true hl
  subst hl
  have h2 := Nat.eq_of_beq_eq_true h2
  subst h2
  rcases gvn_e h with ⟨rfl, h⟩ | ⟨x, rfl, h⟩
  · exact gp_aloadN (gdec hck) hu (hgo.nx hsuf hck h)
  · exact gp_aload (gdec hck) hu (hgo.nx hsuf hck h)
theorem gs_istore_n {j : Fin 4} (hgo : gGo E y cd Q X go) (hsuf : ∃ pre, cd = pre ++ (pc, len, .istore_n j, a, b, v) :: rest) (hck : gck1 y (pc, len, .istore_n j, a, b, v) rest = true) (h : gsem (gC E) cd hs (hmc y) (hms y) (gL E) (gXs E) bo Q X (pc, len, .istore_n j, a, b, v) rest go ls st I J B c w)  : gG E y pc ls st I J B c w Q X := by
  obtain ⟨x, r, rfl, h⟩ := gpi_e h
  obtain ⟨hl, h2⟩ := gband (gband (gband hck).2).2
  have hl := Nat.eq_of_beq_eq_true hl
  subst hl
  obtain ⟨h2, h3⟩ := gband h2
  have h2 := Nat.eq_of_beq_eq_true h2
  have h3 := Nat.le_of_ble_eq_true h3
  exact gp_istore_n (gdec hck) h2 h3 (hgo.nx hsuf hck h)
theorem gs_lstore_n {j : Fin 4} (hgo : gGo E y cd Q X go) (hsuf : ∃ pre, cd = pre ++ (pc, len, .lstore_n j, a, b, v) :: rest) (hck : gck1 y (pc, len, .lstore_n j, a, b, v) rest = true) (h : gsem (gC E) cd hs (hmc y) (hms y) (gL E) (gXs E) bo Q X (pc, len, .lstore_n j, a, b, v) rest go ls st I J B c w)  : gG E y pc ls st I J B c w Q X := by
  obtain ⟨x, r, rfl, h⟩ := gpl_e h
  obtain ⟨hl, h2⟩ := gband (gband (gband hck).2).2
  have hl := Nat.eq_of_beq_eq_true hl
  subst hl
  obtain ⟨h2, h3⟩ := gband h2
  have h2 := Nat.eq_of_beq_eq_true h2
  have h3 := Nat.le_of_ble_eq_true h3
  exact gp_lstore_n (gdec hck) h2 h3 (hgo.nx hsuf hck h)
theorem gs_istore {j : Nat} (hgo : gGo E y cd Q X go) (hsuf : ∃ pre, cd = pre ++ (pc, len, .istore j, a, b, v) :: rest) (hck : gck1 y (pc, len, .istore j, a, b, v) rest = true) (h : gsem (gC E) cd hs (hmc y) (hms y) (gL E) (gXs E) bo Q X (pc, len, .istore j, a, b, v) rest go ls st I J B c w)  : gG E y pc ls st I J B c w Q X := by
  obtain ⟨x, r, rfl, h⟩ := gpi_e h
  obtain ⟨hl, h2⟩ := gband (gband (gband hck).2).2
  have hl := Nat.eq_of_beq_eq_true hl
  subst hl
  obtain ⟨h2, h3⟩ := gband h2
  have h2 := Nat.eq_of_beq_eq_true h2
  have h3 := Nat.le_of_ble_eq_true h3
  subst h2
  exact gp_istore (gdec hck) h3 (hgo.nx hsuf hck h)
theorem gs_lstore {j : Nat} (hgo : gGo E y cd Q X go) (hsuf : ∃ pre, cd = pre ++ (pc, len, .lstore j, a, b, v) :: rest) (hck : gck1 y (pc, len, .lstore j, a, b, v) rest = true) (h : gsem (gC E) cd hs (hmc y) (hms y) (gL E) (gXs E) bo Q X (pc, len, .lstore j, a, b, v) rest go ls st I J B c w)  : gG E y pc ls st I J B c w Q X := by
  obtain ⟨x, r, rfl, h⟩ := gpl_e h
  obtain ⟨hl, h2⟩ := gband (gband (gband hck).2).2
  have hl := Nat.eq_of_beq_eq_true hl
  subst hl
  obtain ⟨h2, h3⟩ := gband h2
  have h2 := Nat.eq_of_beq_eq_true h2
  have h3 := Nat.le_of_ble_eq_true h3
  subst h2
  exact gp_lstore (gdec hck) h3 (hgo.nx hsuf hck h)
theorem gs_dstore {j : Nat} (hgo : gGo E y cd Q X go) (hsuf : ∃ pre, cd = pre ++ (pc, len, .dstore j, a, b, v) :: rest) (hck : gck1 y (pc, len, .dstore j, a, b, v) rest = true) (h : gsem (gC E) cd hs (hmc y) (hms y) (gL E) (gXs E) bo Q X (pc, len, .dstore j, a, b, v) rest go ls st I J B c w)  : gG E y pc ls st I J B c w Q X := by
  obtain ⟨x, r, rfl, h⟩ := gpd_e h
  obtain ⟨hl, h2⟩ := gband (gband (gband hck).2).2
  have hl := Nat.eq_of_beq_eq_true hl
  subst hl
  obtain ⟨h2, h3⟩ := gband h2
  have h2 := Nat.eq_of_beq_eq_true h2
  have h3 := Nat.le_of_ble_eq_true h3
  subst h2
  exact gp_dstore (gdec hck) h3 (hgo.nx hsuf hck h)
theorem gs_astore_n {j : Fin 4} (hgo : gGo E y cd Q X go) (hsuf : ∃ pre, cd = pre ++ (pc, len, .astore_n j, a, b, v) :: rest) (hck : gck1 y (pc, len, .astore_n j, a, b, v) rest = true) (h : gsem (gC E) cd hs (hmc y) (hms y) (gL E) (gXs E) bo Q X (pc, len, .astore_n j, a, b, v) rest go ls st I J B c w)  : gG E y pc ls st I J B c w Q X := by
  obtain ⟨u, r, rfl, h⟩ := gtop_e h
  obtain ⟨hl, h2⟩ := gband (gband (gband hck).2).2
  have hl := Nat.eq_of_beq_eq_true hl
  subst hl
  obtain ⟨h2, h3⟩ := gband h2
  have h2 := Nat.eq_of_beq_eq_true h2
  have h3 := Nat.le_of_ble_eq_true h3
  rcases gvn_e h with ⟨rfl, h⟩ | ⟨x, rfl, h⟩
  · exact gp_astore_nN (gdec hck) h2 h3 (hgo.nx hsuf hck h)
  · exact gp_astore_n (gdec hck) h2 h3 (hgo.nx hsuf hck h)
theorem gs_astore {j : Nat} (hgo : gGo E y cd Q X go) (hsuf : ∃ pre, cd = pre ++ (pc, len, .astore j, a, b, v) :: rest) (hck : gck1 y (pc, len, .astore j, a, b, v) rest = true) (h : gsem (gC E) cd hs (hmc y) (hms y) (gL E) (gXs E) bo Q X (pc, len, .astore j, a, b, v) rest go ls st I J B c w)  : gG E y pc ls st I J B c w Q X := by
  obtain ⟨u, r, rfl, h⟩ := gtop_e h
  obtain ⟨hl, h2⟩ := gband (gband (gband hck).2).2
  have hl := Nat.eq_of_beq_eq_true hl
  subst hl
  obtain ⟨h2, h3⟩ := gband h2
  have h2 := Nat.eq_of_beq_eq_true h2
  have h3 := Nat.le_of_ble_eq_true h3
  subst h2
  rcases gvn_e h with ⟨rfl, h⟩ | ⟨x, rfl, h⟩
  · exact gp_astoreN (gdec hck) h3 (hgo.nx hsuf hck h)
  · exact gp_astore (gdec hck) h3 (hgo.nx hsuf hck h)
theorem gs_iinc {j : Nat} {n : Int} (hgo : gGo E y cd Q X go) (hsuf : ∃ pre, cd = pre ++ (pc, len, .iinc j n, a, b, v) :: rest) (hck : gck1 y (pc, len, .iinc j n, a, b, v) rest = true) (h : gsem (gC E) cd hs (hmc y) (hms y) (gL E) (gXs E) bo Q X (pc, len, .iinc j n, a, b, v) rest go ls st I J B c w)  : gG E y pc ls st I J B c w Q X := by
  obtain ⟨u, hu, h⟩ := gldv_e h
  obtain ⟨x, rfl, h⟩ := gvi_e h
  obtain ⟨z, rfl, h⟩ := gvi_e h
  obtain ⟨hl, h2⟩ := gband (gband (gband hck).2).2
  have hl := Nat.eq_of_beq_eq_true hl
  subst hl
  obtain ⟨h2, h3⟩ := gband h2
  have h2 := Nat.eq_of_beq_eq_true h2
  subst h2
  obtain ⟨h3, h4⟩ := gband h3
  exact gp_iinc (gdec hck) (of_decide_eq_true (gvI_e h4 rfl)) hu (Nat.le_of_ble_eq_true h3) (hgo.nx hsuf hck h)
theorem gcat_1 {v : gV} {p q : Prop} (h : match gcat v with | 1 => p | _ => q) (hq : ¬ q) : gcat v = 1 ∧ p := by
  split at h
  · rename_i e
    exact ⟨e, h⟩
  · exact absurd h hq
theorem gs_pop  (hgo : gGo E y cd Q X go) (hsuf : ∃ pre, cd = pre ++ (pc, len, .pop, a, b, v) :: rest) (hck : gck1 y (pc, len, .pop, a, b, v) rest = true) (h : gsem (gC E) cd hs (hmc y) (hms y) (gL E) (gXs E) bo Q X (pc, len, .pop, a, b, v) rest go ls st I J B c w)  : gG E y pc ls st I J B c w Q X := by
  obtain ⟨u, r, rfl, h⟩ := gtop_e h
  obtain ⟨h0, h⟩ := gcat_1 h id
  have hl : len = 1 := Nat.eq_of_beq_eq_true (gband (gband hck).2).2
  subst hl
  exact gp_pop h0 (gdec hck) (hgo.nx hsuf hck h)
theorem gs_dup  (hgo : gGo E y cd Q X go) (hsuf : ∃ pre, cd = pre ++ (pc, len, .dup, a, b, v) :: rest) (hck : gck1 y (pc, len, .dup, a, b, v) rest = true) (h : gsem (gC E) cd hs (hmc y) (hms y) (gL E) (gXs E) bo Q X (pc, len, .dup, a, b, v) rest go ls st I J B c w)  : gG E y pc ls st I J B c w Q X := by
  obtain ⟨u, r, rfl, h⟩ := gtop_e h
  obtain ⟨h0, h⟩ := gcat_1 h id
  have hl : len = 1 := Nat.eq_of_beq_eq_true (gband (gband hck).2).2
  subst hl
  exact gp_dup h0 (gdec hck) (hgo.nx hsuf hck h)
theorem gs_dup2  (hgo : gGo E y cd Q X go) (hsuf : ∃ pre, cd = pre ++ (pc, len, .dup2, a, b, v) :: rest) (hck : gck1 y (pc, len, .dup2, a, b, v) rest = true) (h : gsem (gC E) cd hs (hmc y) (hms y) (gL E) (gXs E) bo Q X (pc, len, .dup2, a, b, v) rest go ls st I J B c w)  : gG E y pc ls st I J B c w Q X := by
  obtain ⟨u, r, rfl, h⟩ := gtop_e h
  have hl : len = 1 := Nat.eq_of_beq_eq_true (gband (gband hck).2).2
  subst hl
  split at h
  · rename_i e
    exact gp_dup2 e (gdec hck) (hgo.nx hsuf hck h)
  · rename_i e
    obtain ⟨u2, r, rfl, h⟩ := gtop_e h
    obtain ⟨h0, h⟩ := gcat_1 h id
    have e1 : gcat u = 1 := by
      have h7 : ∀ v : gV, gcat v = 1 ∨ gcat v = 2 := by
        intro v
        cases v with
        | inl z => cases z <;> first | exact Or.inl rfl | exact Or.inr rfl
        | inr z => exact Or.inl rfl
      rcases h7 u with h8 | h8
      · exact h8
      · exact absurd h8 e
    exact gp_dup2b e1 h0 (gdec hck) (hgo.nx hsuf hck h)
theorem gs_if_eq {off : Int} (hgo : gGo E y cd Q X go) (hsuf : ∃ pre, cd = pre ++ (pc, len, .ifCond .eq off, a, b, v) :: rest) (hck : gck1 y (pc, len, .ifCond .eq off, a, b, v) rest = true) (h : gsem (gC E) cd hs (hmc y) (hms y) (gL E) (gXs E) bo Q X (pc, len, .ifCond .eq off, a, b, v) rest go ls st I J B c w)  : gG E y pc ls st I J B c w Q X := by
  obtain ⟨x, r, rfl, h⟩ := gpi_e h
  obtain ⟨hl, h2⟩ := gband (gband (gband hck).2).2
  have hl := Nat.eq_of_beq_eq_true hl
  subst hl
  have ht := gtgt_e h2
  exact gp_if_eq (gdec hck) ht (fun e => hgo.jm (h.1 e)) (fun e => hgo.nx hsuf hck (h.2 e))
theorem gs_if_ne {off : Int} (hgo : gGo E y cd Q X go) (hsuf : ∃ pre, cd = pre ++ (pc, len, .ifCond .ne off, a, b, v) :: rest) (hck : gck1 y (pc, len, .ifCond .ne off, a, b, v) rest = true) (h : gsem (gC E) cd hs (hmc y) (hms y) (gL E) (gXs E) bo Q X (pc, len, .ifCond .ne off, a, b, v) rest go ls st I J B c w)  : gG E y pc ls st I J B c w Q X := by
  obtain ⟨x, r, rfl, h⟩ := gpi_e h
  obtain ⟨hl, h2⟩ := gband (gband (gband hck).2).2
  have hl := Nat.eq_of_beq_eq_true hl
  subst hl
  have ht := gtgt_e h2
  exact gp_if_ne (gdec hck) ht (fun e => hgo.jm (h.1 e)) (fun e => hgo.nx hsuf hck (h.2 e))
theorem gs_if_lt {off : Int} (hgo : gGo E y cd Q X go) (hsuf : ∃ pre, cd = pre ++ (pc, len, .ifCond .lt off, a, b, v) :: rest) (hck : gck1 y (pc, len, .ifCond .lt off, a, b, v) rest = true) (h : gsem (gC E) cd hs (hmc y) (hms y) (gL E) (gXs E) bo Q X (pc, len, .ifCond .lt off, a, b, v) rest go ls st I J B c w)  : gG E y pc ls st I J B c w Q X := by
  obtain ⟨x, r, rfl, h⟩ := gpi_e h
  obtain ⟨hl, h2⟩ := gband (gband (gband hck).2).2
  have hl := Nat.eq_of_beq_eq_true hl
  subst hl
  have ht := gtgt_e h2
  exact gp_if_lt (gdec hck) ht (fun e => hgo.jm (h.1 e)) (fun e => hgo.nx hsuf hck (h.2 e))
theorem gs_if_ge {off : Int} (hgo : gGo E y cd Q X go) (hsuf : ∃ pre, cd = pre ++ (pc, len, .ifCond .ge off, a, b, v) :: rest) (hck : gck1 y (pc, len, .ifCond .ge off, a, b, v) rest = true) (h : gsem (gC E) cd hs (hmc y) (hms y) (gL E) (gXs E) bo Q X (pc, len, .ifCond .ge off, a, b, v) rest go ls st I J B c w)  : gG E y pc ls st I J B c w Q X := by
  obtain ⟨x, r, rfl, h⟩ := gpi_e h
  obtain ⟨hl, h2⟩ := gband (gband (gband hck).2).2
  have hl := Nat.eq_of_beq_eq_true hl
  subst hl
  have ht := gtgt_e h2
  exact gp_if_ge (gdec hck) ht (fun e => hgo.jm (h.1 e)) (fun e => hgo.nx hsuf hck (h.2 e))
theorem gs_if_gt {off : Int} (hgo : gGo E y cd Q X go) (hsuf : ∃ pre, cd = pre ++ (pc, len, .ifCond .gt off, a, b, v) :: rest) (hck : gck1 y (pc, len, .ifCond .gt off, a, b, v) rest = true) (h : gsem (gC E) cd hs (hmc y) (hms y) (gL E) (gXs E) bo Q X (pc, len, .ifCond .gt off, a, b, v) rest go ls st I J B c w)  : gG E y pc ls st I J B c w Q X := by
  obtain ⟨x, r, rfl, h⟩ := gpi_e h
  obtain ⟨hl, h2⟩ := gband (gband (gband hck).2).2
  have hl := Nat.eq_of_beq_eq_true hl
  subst hl
  have ht := gtgt_e h2
  exact gp_if_gt (gdec hck) ht (fun e => hgo.jm (h.1 e)) (fun e => hgo.nx hsuf hck (h.2 e))
theorem gs_if_le {off : Int} (hgo : gGo E y cd Q X go) (hsuf : ∃ pre, cd = pre ++ (pc, len, .ifCond .le off, a, b, v) :: rest) (hck : gck1 y (pc, len, .ifCond .le off, a, b, v) rest = true) (h : gsem (gC E) cd hs (hmc y) (hms y) (gL E) (gXs E) bo Q X (pc, len, .ifCond .le off, a, b, v) rest go ls st I J B c w)  : gG E y pc ls st I J B c w Q X := by
  obtain ⟨x, r, rfl, h⟩ := gpi_e h
  obtain ⟨hl, h2⟩ := gband (gband (gband hck).2).2
  have hl := Nat.eq_of_beq_eq_true hl
  subst hl
  have ht := gtgt_e h2
  exact gp_if_le (gdec hck) ht (fun e => hgo.jm (h.1 e)) (fun e => hgo.nx hsuf hck (h.2 e))
theorem gs_icmp_eq {off : Int} (hgo : gGo E y cd Q X go) (hsuf : ∃ pre, cd = pre ++ (pc, len, .if_icmp .eq off, a, b, v) :: rest) (hck : gck1 y (pc, len, .if_icmp .eq off, a, b, v) rest = true) (h : gsem (gC E) cd hs (hmc y) (hms y) (gL E) (gXs E) bo Q X (pc, len, .if_icmp .eq off, a, b, v) rest go ls st I J B c w)  : gG E y pc ls st I J B c w Q X := by
  obtain ⟨z, r, rfl, h⟩ := gpi_e h
  obtain ⟨x, r, rfl, h⟩ := gpi_e h
  obtain ⟨hl, h2⟩ := gband (gband (gband hck).2).2
  have hl := Nat.eq_of_beq_eq_true hl
  subst hl
  have ht := gtgt_e h2
  exact gp_icmp_eq (gdec hck) ht (fun e => hgo.jm (h.1 e)) (fun e => hgo.nx hsuf hck (h.2 e))
theorem gs_icmp_ne {off : Int} (hgo : gGo E y cd Q X go) (hsuf : ∃ pre, cd = pre ++ (pc, len, .if_icmp .ne off, a, b, v) :: rest) (hck : gck1 y (pc, len, .if_icmp .ne off, a, b, v) rest = true) (h : gsem (gC E) cd hs (hmc y) (hms y) (gL E) (gXs E) bo Q X (pc, len, .if_icmp .ne off, a, b, v) rest go ls st I J B c w)  : gG E y pc ls st I J B c w Q X := by
  obtain ⟨z, r, rfl, h⟩ := gpi_e h
  obtain ⟨x, r, rfl, h⟩ := gpi_e h
  obtain ⟨hl, h2⟩ := gband (gband (gband hck).2).2
  have hl := Nat.eq_of_beq_eq_true hl
  subst hl
  have ht := gtgt_e h2
  exact gp_icmp_ne (gdec hck) ht (fun e => hgo.jm (h.1 e)) (fun e => hgo.nx hsuf hck (h.2 e))
theorem gs_icmp_lt {off : Int} (hgo : gGo E y cd Q X go) (hsuf : ∃ pre, cd = pre ++ (pc, len, .if_icmp .lt off, a, b, v) :: rest) (hck : gck1 y (pc, len, .if_icmp .lt off, a, b, v) rest = true) (h : gsem (gC E) cd hs (hmc y) (hms y) (gL E) (gXs E) bo Q X (pc, len, .if_icmp .lt off, a, b, v) rest go ls st I J B c w)  : gG E y pc ls st I J B c w Q X := by
  obtain ⟨z, r, rfl, h⟩ := gpi_e h
  obtain ⟨x, r, rfl, h⟩ := gpi_e h
  obtain ⟨hl, h2⟩ := gband (gband (gband hck).2).2
  have hl := Nat.eq_of_beq_eq_true hl
  subst hl
  have ht := gtgt_e h2
  exact gp_icmp_lt (gdec hck) ht (fun e => hgo.jm (h.1 e)) (fun e => hgo.nx hsuf hck (h.2 e))
theorem gs_icmp_ge {off : Int} (hgo : gGo E y cd Q X go) (hsuf : ∃ pre, cd = pre ++ (pc, len, .if_icmp .ge off, a, b, v) :: rest) (hck : gck1 y (pc, len, .if_icmp .ge off, a, b, v) rest = true) (h : gsem (gC E) cd hs (hmc y) (hms y) (gL E) (gXs E) bo Q X (pc, len, .if_icmp .ge off, a, b, v) rest go ls st I J B c w)  : gG E y pc ls st I J B c w Q X := by
  obtain ⟨z, r, rfl, h⟩ := gpi_e h
  obtain ⟨x, r, rfl, h⟩ := gpi_e h
  obtain ⟨hl, h2⟩ := gband (gband (gband hck).2).2
  have hl := Nat.eq_of_beq_eq_true hl
  subst hl
  have ht := gtgt_e h2
  exact gp_icmp_ge (gdec hck) ht (fun e => hgo.jm (h.1 e)) (fun e => hgo.nx hsuf hck (h.2 e))
theorem gs_icmp_gt {off : Int} (hgo : gGo E y cd Q X go) (hsuf : ∃ pre, cd = pre ++ (pc, len, .if_icmp .gt off, a, b, v) :: rest) (hck : gck1 y (pc, len, .if_icmp .gt off, a, b, v) rest = true) (h : gsem (gC E) cd hs (hmc y) (hms y) (gL E) (gXs E) bo Q X (pc, len, .if_icmp .gt off, a, b, v) rest go ls st I J B c w)  : gG E y pc ls st I J B c w Q X := by
  obtain ⟨z, r, rfl, h⟩ := gpi_e h
  obtain ⟨x, r, rfl, h⟩ := gpi_e h
  obtain ⟨hl, h2⟩ := gband (gband (gband hck).2).2
  have hl := Nat.eq_of_beq_eq_true hl
  subst hl
  have ht := gtgt_e h2
  exact gp_icmp_gt (gdec hck) ht (fun e => hgo.jm (h.1 e)) (fun e => hgo.nx hsuf hck (h.2 e))
theorem gs_icmp_le {off : Int} (hgo : gGo E y cd Q X go) (hsuf : ∃ pre, cd = pre ++ (pc, len, .if_icmp .le off, a, b, v) :: rest) (hck : gck1 y (pc, len, .if_icmp .le off, a, b, v) rest = true) (h : gsem (gC E) cd hs (hmc y) (hms y) (gL E) (gXs E) bo Q X (pc, len, .if_icmp .le off, a, b, v) rest go ls st I J B c w)  : gG E y pc ls st I J B c w Q X := by
  obtain ⟨z, r, rfl, h⟩ := gpi_e h
  obtain ⟨x, r, rfl, h⟩ := gpi_e h
  obtain ⟨hl, h2⟩ := gband (gband (gband hck).2).2
  have hl := Nat.eq_of_beq_eq_true hl
  subst hl
  have ht := gtgt_e h2
  exact gp_icmp_le (gdec hck) ht (fun e => hgo.jm (h.1 e)) (fun e => hgo.nx hsuf hck (h.2 e))
theorem gs_goto {off : Int} (hgo : gGo E y cd Q X go) (hsuf : ∃ pre, cd = pre ++ (pc, len, .goto off, a, b, v) :: rest) (hck : gck1 y (pc, len, .goto off, a, b, v) rest = true) (h : gsem (gC E) cd hs (hmc y) (hms y) (gL E) (gXs E) bo Q X (pc, len, .goto off, a, b, v) rest go ls st I J B c w)  : gG E y pc ls st I J B c w Q X := by
  obtain ⟨hl, h2⟩ := gband (gband (gband hck).2).2
  have hl := Nat.eq_of_beq_eq_true hl
  subst hl
  have ht := gtgt_e h2
  exact gp_goto (gdec hck) ht (hgo.jm h)
theorem gs_ifnull {off : Int} (hgo : gGo E y cd Q X go) (hsuf : ∃ pre, cd = pre ++ (pc, len, .ifnull off, a, b, v) :: rest) (hck : gck1 y (pc, len, .ifnull off, a, b, v) rest = true) (h : gsem (gC E) cd hs (hmc y) (hms y) (gL E) (gXs E) bo Q X (pc, len, .ifnull off, a, b, v) rest go ls st I J B c w)  : gG E y pc ls st I J B c w Q X := by
  obtain ⟨u, r, rfl, h⟩ := gtop_e h
  obtain ⟨hl, h2⟩ := gband (gband (gband hck).2).2
  have hl := Nat.eq_of_beq_eq_true hl
  subst hl
  have ht := gtgt_e h2
  rcases gvn_e h with ⟨rfl, h⟩ | ⟨x, rfl, h⟩
  · exact gp_ifnull_n (gdec hck) ht (hgo.jm h)
  · exact gp_ifnull_r (gdec hck) (hgo.nx hsuf hck h)
theorem gs_ifnonnull {off : Int} (hgo : gGo E y cd Q X go) (hsuf : ∃ pre, cd = pre ++ (pc, len, .ifnonnull off, a, b, v) :: rest) (hck : gck1 y (pc, len, .ifnonnull off, a, b, v) rest = true) (h : gsem (gC E) cd hs (hmc y) (hms y) (gL E) (gXs E) bo Q X (pc, len, .ifnonnull off, a, b, v) rest go ls st I J B c w)  : gG E y pc ls st I J B c w Q X := by
  obtain ⟨u, r, rfl, h⟩ := gtop_e h
  obtain ⟨hl, h2⟩ := gband (gband (gband hck).2).2
  have hl := Nat.eq_of_beq_eq_true hl
  subst hl
  have ht := gtgt_e h2
  rcases gvn_e h with ⟨rfl, h⟩ | ⟨x, rfl, h⟩
  · exact gp_ifnonnull_n (gdec hck) (hgo.nx hsuf hck h)
  · exact gp_ifnonnull_r (gdec hck) ht (hgo.jm h)
theorem gial_m {L : Nat} {xs : Nat → Int32} {q : gR} {i : Int32} {k k2 : Int32 → Prop} (hk : ∀ x, k x → k2 x) (h : gial L xs I q i k) : gial L xs I q i k2 := by
  unfold gial at h ⊢
  split at h
  · exact ⟨h.1, hk _ h.2⟩
  · exact ⟨h.1, hk _ h.2⟩
  · split at h
    · exact ⟨h.1, hk _ h.2⟩
    · exact absurd h id
theorem gbal_m {q : gR} {i : Int32} {k k2 : Int32 → Prop} (hk : ∀ x, k x → k2 x) (h : gbal I q i k) : gbal I q i k2 := by
  unfold gbal at h ⊢
  split at h
  · exact ⟨h.1, hk _ h.2⟩
  · exact ⟨h.1, hk _ h.2⟩
  · exact absurd h id
theorem glal_m {q : gR} {i : Int32} {k k2 : Int64 → Prop} (hk : ∀ x, k x → k2 x) (h : glal J q i k) : glal J q i k2 := by
  unfold glal at h ⊢
  split at h
  · exact ⟨h.1, hk _ h.2⟩
  · exact absurd h id
theorem gdal_m {q : gR} {i : Int32} {k k2 : UInt64 → Prop} (hk : ∀ x, k x → k2 x) (h : gdal J q i k) : gdal J q i k2 := by
  unfold gdal at h ⊢
  split at h
  · exact ⟨h.1, hk _ h.2⟩
  · exact absurd h id
theorem gaal_m {q : gR} {i : Int32} {k k2 : gV → Prop} (hk : ∀ x, k x → k2 x) (h : gaal B q i k) : gaal B q i k2 := by
  unfold gaal at h ⊢
  split at h
  · exact ⟨h.1, hk _ h.2⟩
  · exact ⟨h.1, fun e => hk _ (h.2.1 e), fun e => hk _ (h.2.2 e)⟩
  · exact absurd h id
theorem gias_m {q : gR} {i x : Int32} {k k2 : gI → Prop} (hk : ∀ x, k x → k2 x) (h : gias I q i x k) : gias I q i x k2 := by
  unfold gias at h ⊢
  split at h
  · exact ⟨h.1, hk _ h.2⟩
  · exact absurd h id
theorem gbas_m {q : gR} {i x : Int32} {k k2 : gI → Prop} (hk : ∀ x, k x → k2 x) (h : gbas I q i x k) : gbas I q i x k2 := by
  unfold gbas at h ⊢
  split at h
  · exact ⟨h.1, hk _ h.2⟩
  · exact ⟨h.1, hk _ h.2⟩
  · exact absurd h id
theorem glas_m {q : gR} {i : Int32} {x : Int64} {k k2 : gJ → Prop} (hk : ∀ x, k x → k2 x) (h : glas J q i x k) : glas J q i x k2 := by
  unfold glas at h ⊢
  split at h
  · exact ⟨h.1, hk _ h.2⟩
  · exact absurd h id
theorem gdas_m {q : gR} {i : Int32} {x : UInt64} {k k2 : gJ → Prop} (hk : ∀ x, k x → k2 x) (h : gdas J q i x k) : gdas J q i x k2 := by
  unfold gdas at h ⊢
  split at h
  · exact ⟨h.1, hk _ h.2⟩
  · exact absurd h id
theorem gaas_m {q u : gR} {i : Int32} {k k2 : gB → Prop} (hk : ∀ x, k x → k2 x) (h : gaas B q u i k) : gaas B q u i k2 := by
  unfold gaas at h ⊢
  split at h
  · exact ⟨h.1, h.2.1, hk _ h.2.2⟩
  · exact absurd h id
theorem gln_m {L : Nat} {q : gR} {k k2 : Int32 → Prop} (hk : ∀ x, k x → k2 x) (h : gln L q k) : gln L q k2 := by
  unfold gln at h ⊢
  split at h
  · exact hk _ h
  · exact hk _ h
  · split at h
    · exact hk _ h
    · exact absurd h id
theorem gfg_m {q : gR} {a b : Nat} {k k2 : gV → Prop} (hk : ∀ x, k x → k2 x) (h : gfg I J q a b k) : gfg I J q a b k2 := by
  unfold gfg at h ⊢
  split at h
  · split at h
    · exact hk _ h
    · exact hk _ h
    · exact hk _ h
    · exact hk _ h
    · exact absurd h id
  · exact absurd h id
theorem gvi_m {v : gV} {k k2 : Int32 → Prop} (hk : ∀ x, k x → k2 x) (h : gvi v k) : gvi v k2 := by
  obtain ⟨x, rfl, h⟩ := gvi_e h
  exact hk _ h
theorem gvl_m {v : gV} {k k2 : Int64 → Prop} (hk : ∀ x, k x → k2 x) (h : gvl v k) : gvl v k2 := by
  obtain ⟨x, rfl, h⟩ := gvl_e h
  exact hk _ h
theorem gfp_m {q : gR} {a b : Nat} {v : gV} {k k2 : gI → gJ → Prop} (hk : ∀ x z, k x z → k2 x z) (h : gfp I J q a b v k) : gfp I J q a b v k2 := by
  unfold gfp at h ⊢
  split at h
  · split at h
    · exact gvi_m (fun x h => hk _ _ h) h
    · exact gvl_m (fun x h => hk _ _ h) h
    · exact gvi_m (fun x h => ⟨h.1, hk _ _ h.2⟩) h
    · exact absurd h id
  · exact absurd h id
theorem gcpy_m {s0 d : gR} {sp dp n : Int32} {k k2 : gI → gJ → Prop} (hk : ∀ x z, k x z → k2 x z) (h : gcpy I J s0 d sp dp n k) : gcpy I J s0 d sp dp n k2 := by
  unfold gcpy at h ⊢
  split at h
  · exact ⟨h.1, hk _ _ h.2⟩
  · exact ⟨h.1, hk _ _ h.2⟩
  · exact absurd h id
theorem gs_iaload  (hgo : gGo E y cd Q X go) (hsuf : ∃ pre, cd = pre ++ (pc, len, .iaload, a, b, v) :: rest) (hck : gck1 y (pc, len, .iaload, a, b, v) rest = true) (h : gsem (gC E) cd hs (hmc y) (hms y) (gL E) (gXs E) bo Q X (pc, len, .iaload, a, b, v) rest go ls st I J B c w)  : gG E y pc ls st I J B c w Q X := by
  obtain ⟨i, r, rfl, h⟩ := gpi_e h
  obtain ⟨q, r, rfl, h⟩ := gpr_e h
  have hl : len = 1 := Nat.eq_of_beq_eq_true (gband (gband hck).2).2
  subst hl
  exact gp_iaload (gdec hck) (gial_m (fun x h => hgo.nx hsuf hck h) h)
theorem gs_baload  (hgo : gGo E y cd Q X go) (hsuf : ∃ pre, cd = pre ++ (pc, len, .baload, a, b, v) :: rest) (hck : gck1 y (pc, len, .baload, a, b, v) rest = true) (h : gsem (gC E) cd hs (hmc y) (hms y) (gL E) (gXs E) bo Q X (pc, len, .baload, a, b, v) rest go ls st I J B c w)  : gG E y pc ls st I J B c w Q X := by
  obtain ⟨i, r, rfl, h⟩ := gpi_e h
  obtain ⟨q, r, rfl, h⟩ := gpr_e h
  have hl : len = 1 := Nat.eq_of_beq_eq_true (gband (gband hck).2).2
  subst hl
  exact gp_baload (gdec hck) (gbal_m (fun x h => hgo.nx hsuf hck h) h)
theorem gs_laload  (hgo : gGo E y cd Q X go) (hsuf : ∃ pre, cd = pre ++ (pc, len, .laload, a, b, v) :: rest) (hck : gck1 y (pc, len, .laload, a, b, v) rest = true) (h : gsem (gC E) cd hs (hmc y) (hms y) (gL E) (gXs E) bo Q X (pc, len, .laload, a, b, v) rest go ls st I J B c w)  : gG E y pc ls st I J B c w Q X := by
  obtain ⟨i, r, rfl, h⟩ := gpi_e h
  obtain ⟨q, r, rfl, h⟩ := gpr_e h
  have hl : len = 1 := Nat.eq_of_beq_eq_true (gband (gband hck).2).2
  subst hl
  exact gp_laload (gdec hck) (glal_m (fun x h => hgo.nx hsuf hck h) h)
theorem gs_daload  (hgo : gGo E y cd Q X go) (hsuf : ∃ pre, cd = pre ++ (pc, len, .daload, a, b, v) :: rest) (hck : gck1 y (pc, len, .daload, a, b, v) rest = true) (h : gsem (gC E) cd hs (hmc y) (hms y) (gL E) (gXs E) bo Q X (pc, len, .daload, a, b, v) rest go ls st I J B c w)  : gG E y pc ls st I J B c w Q X := by
  obtain ⟨i, r, rfl, h⟩ := gpi_e h
  obtain ⟨q, r, rfl, h⟩ := gpr_e h
  have hl : len = 1 := Nat.eq_of_beq_eq_true (gband (gband hck).2).2
  subst hl
  exact gp_daload (gdec hck) (gdal_m (fun x h => hgo.nx hsuf hck h) h)
theorem gs_aaload  (hgo : gGo E y cd Q X go) (hsuf : ∃ pre, cd = pre ++ (pc, len, .aaload, a, b, v) :: rest) (hck : gck1 y (pc, len, .aaload, a, b, v) rest = true) (h : gsem (gC E) cd hs (hmc y) (hms y) (gL E) (gXs E) bo Q X (pc, len, .aaload, a, b, v) rest go ls st I J B c w)  : gG E y pc ls st I J B c w Q X := by
  obtain ⟨i, r, rfl, h⟩ := gpi_e h
  obtain ⟨q, r, rfl, h⟩ := gpr_e h
  have hl : len = 1 := Nat.eq_of_beq_eq_true (gband (gband hck).2).2
  subst hl
  exact gp_aaload (gdec hck) (gaal_m (fun x h => hgo.nx hsuf hck h) h)
theorem gs_iastore  (hgo : gGo E y cd Q X go) (hsuf : ∃ pre, cd = pre ++ (pc, len, .iastore, a, b, v) :: rest) (hck : gck1 y (pc, len, .iastore, a, b, v) rest = true) (h : gsem (gC E) cd hs (hmc y) (hms y) (gL E) (gXs E) bo Q X (pc, len, .iastore, a, b, v) rest go ls st I J B c w)  : gG E y pc ls st I J B c w Q X := by
  obtain ⟨x, r, rfl, h⟩ := gpi_e h
  obtain ⟨i, r, rfl, h⟩ := gpi_e h
  obtain ⟨q, r, rfl, h⟩ := gpr_e h
  have hl : len = 1 := Nat.eq_of_beq_eq_true (gband (gband hck).2).2
  subst hl
  exact gp_iastore (gdec hck) (gias_m (fun x h => hgo.nx hsuf hck h) h)
theorem gs_bastore  (hgo : gGo E y cd Q X go) (hsuf : ∃ pre, cd = pre ++ (pc, len, .bastore, a, b, v) :: rest) (hck : gck1 y (pc, len, .bastore, a, b, v) rest = true) (h : gsem (gC E) cd hs (hmc y) (hms y) (gL E) (gXs E) bo Q X (pc, len, .bastore, a, b, v) rest go ls st I J B c w)  : gG E y pc ls st I J B c w Q X := by
  obtain ⟨x, r, rfl, h⟩ := gpi_e h
  obtain ⟨i, r, rfl, h⟩ := gpi_e h
  obtain ⟨q, r, rfl, h⟩ := gpr_e h
  have hl : len = 1 := Nat.eq_of_beq_eq_true (gband (gband hck).2).2
  subst hl
  exact gp_bastore (gdec hck) (gbas_m (fun x h => hgo.nx hsuf hck h) h)
theorem gs_lastore  (hgo : gGo E y cd Q X go) (hsuf : ∃ pre, cd = pre ++ (pc, len, .lastore, a, b, v) :: rest) (hck : gck1 y (pc, len, .lastore, a, b, v) rest = true) (h : gsem (gC E) cd hs (hmc y) (hms y) (gL E) (gXs E) bo Q X (pc, len, .lastore, a, b, v) rest go ls st I J B c w)  : gG E y pc ls st I J B c w Q X := by
  obtain ⟨x, r, rfl, h⟩ := gpl_e h
  obtain ⟨i, r, rfl, h⟩ := gpi_e h
  obtain ⟨q, r, rfl, h⟩ := gpr_e h
  have hl : len = 1 := Nat.eq_of_beq_eq_true (gband (gband hck).2).2
  subst hl
  exact gp_lastore (gdec hck) (glas_m (fun x h => hgo.nx hsuf hck h) h)
theorem gs_dastore  (hgo : gGo E y cd Q X go) (hsuf : ∃ pre, cd = pre ++ (pc, len, .dastore, a, b, v) :: rest) (hck : gck1 y (pc, len, .dastore, a, b, v) rest = true) (h : gsem (gC E) cd hs (hmc y) (hms y) (gL E) (gXs E) bo Q X (pc, len, .dastore, a, b, v) rest go ls st I J B c w)  : gG E y pc ls st I J B c w Q X := by
  obtain ⟨x, r, rfl, h⟩ := gpd_e h
  obtain ⟨i, r, rfl, h⟩ := gpi_e h
  obtain ⟨q, r, rfl, h⟩ := gpr_e h
  have hl : len = 1 := Nat.eq_of_beq_eq_true (gband (gband hck).2).2
  subst hl
  exact gp_dastore (gdec hck) (gdas_m (fun x h => hgo.nx hsuf hck h) h)
theorem gs_aastore  (hgo : gGo E y cd Q X go) (hsuf : ∃ pre, cd = pre ++ (pc, len, .aastore, a, b, v) :: rest) (hck : gck1 y (pc, len, .aastore, a, b, v) rest = true) (h : gsem (gC E) cd hs (hmc y) (hms y) (gL E) (gXs E) bo Q X (pc, len, .aastore, a, b, v) rest go ls st I J B c w)  : gG E y pc ls st I J B c w Q X := by
  obtain ⟨x, r, rfl, h⟩ := gpr_e h
  obtain ⟨i, r, rfl, h⟩ := gpi_e h
  obtain ⟨q, r, rfl, h⟩ := gpr_e h
  have hl : len = 1 := Nat.eq_of_beq_eq_true (gband (gband hck).2).2
  subst hl
  exact gp_aastore (gdec hck) (gaas_m (fun x h => hgo.nx hsuf hck h) h)
theorem gs_arraylength  (hgo : gGo E y cd Q X go) (hsuf : ∃ pre, cd = pre ++ (pc, len, .arraylength, a, b, v) :: rest) (hck : gck1 y (pc, len, .arraylength, a, b, v) rest = true) (h : gsem (gC E) cd hs (hmc y) (hms y) (gL E) (gXs E) bo Q X (pc, len, .arraylength, a, b, v) rest go ls st I J B c w)  : gG E y pc ls st I J B c w Q X := by
  obtain ⟨q, r, rfl, h⟩ := gpr_e h
  have hl : len = 1 := Nat.eq_of_beq_eq_true (gband (gband hck).2).2
  subst hl
  exact gp_arraylength (gdec hck) (gln_m (fun x h => hgo.nx hsuf hck h) h)
theorem gfl_of {n ci b : Nat} {own : Nat} (hci : ci < 9) (hb2 : b < gsz ci) (h : (gFT.contains (own, n, ci, b) || decide ((own, n, ci, b) = ((5, 46, 1, 3) : Nat × Nat × Nat × Nat))) = true) : gFl (gcls own) n ci b := by
  refine gFl_of hci hb2 ?_
  rcases Bool.or_eq_true_iff.mp h with h | h
  · exact Or.inl (gFT_ok _ (List.contains_iff_mem.mp h))
  · have h := of_decide_eq_true h
    simp only [Prod.mk.injEq] at h
    obtain ⟨rfl, rfl, rfl, rfl⟩ := h
    exact Or.inr ⟨"ToeplitzLab", List.mem_of_getElem? (i := 0) rfl⟩
theorem gs_getfield {n : Nat} (hgo : gGo E y cd Q X go) (hsuf : ∃ pre, cd = pre ++ (pc, len, .getfield n, a, b, v) :: rest) (hck : gck1 y (pc, len, .getfield n, a, b, v) rest = true) (h : gsem (gC E) cd hs (hmc y) (hms y) (gL E) (gXs E) bo Q X (pc, len, .getfield n, a, b, v) rest go ls st I J B c w) (hcl2 : (hy y).cls = gcls (hcl y)) : gG E y pc ls st I J B c w Q X := by
  obtain ⟨q, r, rfl, h⟩ := gpr_e h
  obtain ⟨hl, h2⟩ := gband (gband (gband hck).2).2
  have hl := Nat.eq_of_beq_eq_true hl
  subst hl
  refine gp_getfield (a := a) (b := b) (gdec hck) ?_ (gfg_m (fun x h => hgo.nx hsuf hck h) h)
  intro z hz
  rw [hz] at h2
  obtain ⟨ci, fl⟩ := z
  obtain ⟨h2, h3⟩ := gband h2
  obtain ⟨h3, h4⟩ := gband h3
  rw [hcl2]
  exact gfl_of (Nat.le_of_ble_eq_true h2) (Nat.le_of_ble_eq_true h3) h4
theorem gs_putfield {n : Nat} (hgo : gGo E y cd Q X go) (hsuf : ∃ pre, cd = pre ++ (pc, len, .putfield n, a, b, v) :: rest) (hck : gck1 y (pc, len, .putfield n, a, b, v) rest = true) (h : gsem (gC E) cd hs (hmc y) (hms y) (gL E) (gXs E) bo Q X (pc, len, .putfield n, a, b, v) rest go ls st I J B c w) (hcl2 : (hy y).cls = gcls (hcl y)) : gG E y pc ls st I J B c w Q X := by
  obtain ⟨x, r, rfl, h⟩ := gtop_e h
  obtain ⟨q, r, rfl, h⟩ := gpr_e h
  obtain ⟨hl, h2⟩ := gband (gband (gband hck).2).2
  have hl := Nat.eq_of_beq_eq_true hl
  subst hl
  refine gp_putfield (a := a) (b := b) (gdec hck) ?_ (gfp_m (fun x z h => hgo.nx hsuf hck h) h)
  intro z hz
  rw [hz] at h2
  obtain ⟨ci, fl⟩ := z
  obtain ⟨h2, h3⟩ := gband h2
  obtain ⟨h3, h4⟩ := gband h3
  obtain ⟨h4, h5⟩ := gband h4
  rw [hcl2]
  refine ⟨gfl_of (Nat.le_of_ble_eq_true h2) (Nat.le_of_ble_eq_true h3) (by simp only [h4, Bool.true_or]), fun u hu hu2 => ?_⟩
  simp only at hu h5
  rw [hu] at h5
  rcases Bool.or_eq_true_iff.mp h5 with h6 | h6
  · exact absurd (Nat.le_of_ble_eq_true h6) (by omega)
  · exact gFWt_ok _ (List.contains_iff_mem.mp h6)
theorem gs_ireturn  (hgo : gGo E y cd Q X go) (hsuf : ∃ pre, cd = pre ++ (pc, len, .ireturn, a, b, v) :: rest) (hck : gck1 y (pc, len, .ireturn, a, b, v) rest = true) (h : gsem (gC E) cd hs (hmc y) (hms y) (gL E) (gXs E) bo Q X (pc, len, .ireturn, a, b, v) rest go ls st I J B c w) (hbo : bo = true ↔ hr y = some .boolean) : gG E y pc ls st I J B c w Q X := by
  obtain ⟨x, r, rfl, h⟩ := gpi_e h
  obtain ⟨rfl, h⟩ := gno_e h
  obtain ⟨hl, h2⟩ := gband (gband (gband hck).2).2
  have hl := Nat.eq_of_beq_eq_true hl
  subst hl
  cases bo with
  | true =>
    have e := hbo.mp rfl
    refine gp_zreturn (gdec hck) e ?_ h.2
    rcases h.1 with rfl | rfl <;> rfl
  | false =>
    rcases Bool.or_eq_true_iff.mp h2 with h3 | h3
    · exact gp_ireturn (gdec hck) (of_decide_eq_true h3) h
    · exact absurd (hbo.mpr (of_decide_eq_true h3)) (by simp)
theorem gs_lreturn  (hgo : gGo E y cd Q X go) (hsuf : ∃ pre, cd = pre ++ (pc, len, .lreturn, a, b, v) :: rest) (hck : gck1 y (pc, len, .lreturn, a, b, v) rest = true) (h : gsem (gC E) cd hs (hmc y) (hms y) (gL E) (gXs E) bo Q X (pc, len, .lreturn, a, b, v) rest go ls st I J B c w)  : gG E y pc ls st I J B c w Q X := by
  obtain ⟨x, r, rfl, h⟩ := gpl_e h
  obtain ⟨rfl, h⟩ := gno_e h
  obtain ⟨hl, h2⟩ := gband (gband (gband hck).2).2
  have hl := Nat.eq_of_beq_eq_true hl
  subst hl
  exact gp_lreturn (gdec hck) (of_decide_eq_true h2) h
theorem gs_dreturn  (hgo : gGo E y cd Q X go) (hsuf : ∃ pre, cd = pre ++ (pc, len, .dreturn, a, b, v) :: rest) (hck : gck1 y (pc, len, .dreturn, a, b, v) rest = true) (h : gsem (gC E) cd hs (hmc y) (hms y) (gL E) (gXs E) bo Q X (pc, len, .dreturn, a, b, v) rest go ls st I J B c w)  : gG E y pc ls st I J B c w Q X := by
  obtain ⟨x, r, rfl, h⟩ := gpd_e h
  obtain ⟨rfl, h⟩ := gno_e h
  obtain ⟨hl, h2⟩ := gband (gband (gband hck).2).2
  have hl := Nat.eq_of_beq_eq_true hl
  subst hl
  exact gp_dreturn (gdec hck) (of_decide_eq_true h2) h
theorem gs_areturn  (hgo : gGo E y cd Q X go) (hsuf : ∃ pre, cd = pre ++ (pc, len, .areturn, a, b, v) :: rest) (hck : gck1 y (pc, len, .areturn, a, b, v) rest = true) (h : gsem (gC E) cd hs (hmc y) (hms y) (gL E) (gXs E) bo Q X (pc, len, .areturn, a, b, v) rest go ls st I J B c w)  : gG E y pc ls st I J B c w Q X := by
  obtain ⟨u, r, rfl, h⟩ := gtop_e h
  obtain ⟨rfl, h⟩ := gno_e h
  obtain ⟨hl, h2⟩ := gband (gband (gband hck).2).2
  have hl := Nat.eq_of_beq_eq_true hl
  subst hl
  rcases gvn_e h with ⟨rfl, h⟩ | ⟨x, rfl, h⟩
  · exact gp_areturn (gdec hck) (of_decide_eq_true h2) (Or.inl rfl) h
  · exact gp_areturn (gdec hck) (of_decide_eq_true h2) (Or.inr ⟨x, rfl⟩) h
theorem gs_return  (hgo : gGo E y cd Q X go) (hsuf : ∃ pre, cd = pre ++ (pc, len, .return_, a, b, v) :: rest) (hck : gck1 y (pc, len, .return_, a, b, v) rest = true) (h : gsem (gC E) cd hs (hmc y) (hms y) (gL E) (gXs E) bo Q X (pc, len, .return_, a, b, v) rest go ls st I J B c w)  : gG E y pc ls st I J B c w Q X := by
  obtain ⟨rfl, h⟩ := gno_e h
  obtain ⟨hl, h2⟩ := gband (gband (gband hck).2).2
  have hl := Nat.eq_of_beq_eq_true hl
  subst hl
  exact gp_vreturn (gdec hck) (of_decide_eq_true h2) h
theorem ggkd_e {k : Nat} {args : List gV} (hk : 0 < k) (h : gkd k args = true) : ∃ q as, args = .inr q :: as ∧ q.1 = k := by
  unfold gkd at h
  split at h
  · exact absurd hk (by omega)
  · split at h
    · exact ⟨_, _, rfl, Nat.eq_of_beq_eq_true h⟩
    · cases h
theorem grev {st : List gV} {n : Nat} {as : List gV} (h : (st.take n).reverse = as) : st = as.reverse ++ st.drop n := by
  rw [← h, List.reverse_reverse, List.take_append_drop]
/-- what stands behind a call, as the small machine says it -/
abbrev gQ2 (tag : Nat) (rest : List gE) (go : List gE → gM) (ls : List (Nat × gV)) (r : List gV) (c w : Nat) : gQt := fun v I' J' B' => match tag with
  | 0 => go rest ls r I' J' B' c w
  | 1 => gvi v fun x => go rest ls (.inl (.int x) :: r) I' J' B' c w
  | 2 => gvl v fun x => go rest ls (.inl (.long x) :: r) I' J' B' c w
  | 3 => gvd v fun x => go rest ls (.inl (.double x) :: r) I' J' B' c w
  | _ => gvn v (go rest ls (.inl .null :: r) I' J' B' c w) fun r2 => go rest ls (.inr r2 :: r) I' J' B' c w
theorem gQ2_e {tag : Nat} {r : List gV} {u : gV} {I2 : gI} {J2 : gJ} {B2 : gB} (ht : (Nat.beq tag 0 == (hr a).isNone) = true) (h : gQ2 tag rest go ls r c w u I2 J2 B2) : go rest ls (gpush a u r) I2 J2 B2 c w := by
  have ht := eq_of_beq ht
  unfold gpush
  cases hn : hr a with
  | none =>
    rw [hn] at ht
    have h0 := Nat.eq_of_beq_eq_true (ht.trans rfl)
    subst h0
    exact h
  | some ty =>
    rw [hn] at ht
    have h0 : tag ≠ 0 := by
      intro e
      subst e
      cases ht
    match tag, h0 with
    | 0, h0 => exact absurd rfl h0
    | 1, _ =>
      obtain ⟨x, rfl, h⟩ := gvi_e h
      exact h
    | 2, _ =>
      obtain ⟨x, rfl, h⟩ := gvl_e h
      exact h
    | 3, _ =>
      obtain ⟨x, rfl, h⟩ := gvd_e h
      exact h
    | n + 4, _ =>
      rcases gvn_e h with ⟨rfl, h⟩ | ⟨x, rfl, h⟩
      · exact h
      · exact h
abbrev gX2 (cd : List gE) (hs : gH) (X : gXt) (pc : Nat) (go : List gE → gM) (ls : List (Nat × gV)) (c w : Nat) : gXt := match hs with
  | [] => X
  | _ => fun k I' J' B' => gx3 k
    (match ghf hs pc 0 with
      | some h => ghg cd h (fun r ls' => go r ls' [] I' J' B' c w) ls
      | none => X 0 I' J' B')
    (match ghf hs pc 1 with
      | some h => ghg cd h (fun r ls' => go r ls' [] I' J' B' c w) ls
      | none => X 1 I' J' B')
    (match ghf hs pc 2 with
      | some h => ghg cd h (fun r ls' => go r ls' [] I' J' B' c w) ls
      | none => X 2 I' J' B')
theorem gX2_e {k : Nat} (hgo : gGo E y cd Q X go) (hcd : gckL y cd = true) (hcl2 : (hy y).cls = gcls (hcl y)) (hH : gckH y cd hs = true) (hk : k < 3) (h : gX2 cd hs X pc go ls c w k I J B) : gGx E y pc ls k I J B c w Q X := by
  cases hs with
  | nil => exact gx_out (List.isEmpty_iff.mp hH) hk h
  | cons z zs =>
    have hne : z :: zs ≠ [] := by simp
    have key : ∀ j, j < 3 → (match ghf (z :: zs) pc j with
      | some h => ghg cd h (fun r ls' => go r ls' [] I J B c w) ls
      | none => X j I J B) → gGx E y pc ls j I J B c w Q X := by
      intro j hj hm
      cases hf : ghf (z :: zs) pc j with
      | none =>
        rw [hf] at hm
        exact gh_no hcl2 hne hH hj hf hm
      | some t =>
        rw [hf] at hm
        exact gh_go hgo hcd hcl2 hne hH hj hf hm
    rcases (show k = 0 ∨ k = 1 ∨ k = 2 by omega) with rfl | rfl | rfl
    · exact key 0 (by decide) h
    · exact key 1 (by decide) h
    · exact key 2 (by decide) h
theorem gcal_e {e : gE} (hc : c ≤ hmc y) (hw : w ≤ hms y) (hg : gcalc y e.2.2.2.1 e.2.2.2.2.2 = true) (h : gcal (gC E) cd hs (hmc y) (hms y) X e rest go ls st I J B c w) : ∃ tag, (gsum (st.drop (e.2.2.2.2.1 % 16)) ≤ 8 ∧ gkd (e.2.2.2.2.1 / 16) (st.take (e.2.2.2.2.1 % 16)).reverse = true ∧ (st.take (e.2.2.2.2.1 % 16)).length = e.2.2.2.2.1 % 16) ∧ (Nat.beq tag 0 == (hr e.2.2.2.1).isNone) = true ∧ gRm y e.2.2.2.1 ∧
    (c + hmc e.2.2.2.1 ≤ hmc y ∧ w + hms e.2.2.2.1 ≤ hms y) ∧ gC E e.2.2.2.1 (st.take (e.2.2.2.2.1 % 16)).reverse I J B (gQ2 tag rest go ls (st.drop (e.2.2.2.2.1 % 16)) (c + hmc e.2.2.2.1) (w + hms e.2.2.2.1)) (gX2 cd hs X e.1 go ls (c + hmc e.2.2.2.1) (w + hms e.2.2.2.1)) := by
  unfold gcal at h
  split at h
  · rename_i tag m1 m2 heq
    simp only [Prod.mk.injEq] at heq
    obtain ⟨h1, h2⟩ := heq
    rw [h2] at hg
    obtain ⟨g1, hg⟩ := gband hg
    obtain ⟨g2, hg⟩ := gband hg
    obtain ⟨g3, hg⟩ := gband hg
    obtain ⟨g4, hg⟩ := gband hg
    obtain ⟨g5, g6⟩ := gband hg
    obtain ⟨k1, k2⟩ := gband h1
    obtain ⟨k2, k3⟩ := gband k2
    have g1 := Nat.eq_of_beq_eq_true g1
    have g2 := Nat.eq_of_beq_eq_true g2
    subst g1
    subst g2
    refine ⟨tag, ⟨Nat.le_of_ble_eq_true k1, k2, Nat.eq_of_beq_eq_true k3⟩, g4, ⟨Nat.le_of_ble_eq_true g5, Nat.le_of_ble_eq_true g6⟩, ?_⟩
    simp only at h
    split at h
    · rename_i h0
      rcases Bool.or_eq_true_iff.mp g3 with g7 | g7
      · have := Nat.le_of_ble_eq_true g7
        omega
      · have := Nat.eq_of_beq_eq_true g7
        exact ⟨⟨by omega, by omega⟩, h⟩
    · exact h
  · exact absurd h id
theorem glen {e : Nat} {as : List gV} {q : gV} (h : (st.take e).reverse = q :: as) (hl : (st.take e).length = e) {n : Nat} (hn : e = n + 1) : as.length = n := by
  have h1 := congrArg List.length h
  rw [List.length_reverse, hl, hn, List.length_cons] at h1
  omega

theorem gs_invokevirtual {n : Nat} (hgo : gGo E y cd Q X go) (hsuf : ∃ pre, cd = pre ++ (pc, len, .invokevirtual n, a, b, v) :: rest) (hck : gck1 y (pc, len, .invokevirtual n, a, b, v) rest = true) (h : gsem (gC E) cd hs (hmc y) (hms y) (gL E) (gXs E) bo Q X (pc, len, .invokevirtual n, a, b, v) rest go ls st I J B c w) (hcd : gckL y cd = true) (hcl2 : (hy y).cls = gcls (hcl y)) (hH : gckH y cd hs = true) : gG E y pc ls st I J B c w Q X := by
  obtain ⟨hl, h2⟩ := gband (gband (gband hck).2).2
  have hl := Nat.eq_of_beq_eq_true hl
  subst hl
  refine gG_in fun hc hw => ?_
  obtain ⟨ha, h2⟩ := gband h2
  obtain ⟨k1, h2⟩ := gband h2
  obtain ⟨k2, h2⟩ := gband h2
  obtain ⟨k3, h2⟩ := gband h2
  obtain ⟨k4, h2⟩ := gband h2
  obtain ⟨k5, h2⟩ := gband h2
  obtain ⟨k6, h2⟩ := gband h2
  obtain ⟨k7, k8⟩ := gband h2
  obtain ⟨tag, ⟨s1, s2, s3⟩, s4, s5, ⟨s6, s7⟩, s8⟩ := gcal_e hc hw k8 h
  simp only at s1 s2 s3 s4 s5 s6 s7 s8
  obtain ⟨q, as, hq, hqk⟩ := ggkd_e (Nat.le_of_ble_eq_true k6) s2
  have ha : a < 314 := Nat.le_of_ble_eq_true ha
  have hst := grev hq
  have hll := glen hq s3 (Nat.eq_of_beq_eq_true k5)
  have hsel : Cond.selects (hy a).cls (hy a) (hy a) ∈ gBig := by
    rcases Bool.or_eq_true_iff.mp k4 with k | k
    · exact gYp_ok a (List.contains_iff_mem.mp k)
    · exact gYq_ok a (List.contains_iff_mem.mp k)
  have hcv : gCV (hy y).cls n a (hnp a) := ⟨gCe_ok ha, gYc_t a (List.contains_iff_mem.mp k1), gYc_ok a (List.contains_iff_mem.mp k1), by rw [hcl2]; exact gML_ok (hcl y, n, a) (List.contains_iff_mem.mp k2), gYi_ok a (List.contains_iff_mem.mp k3), hsel, gin_y ha⟩
  rw [hq] at s8
  rw [hst, List.reverse_cons, List.append_assoc, List.singleton_append]
  have kk := fun u I2 J2 B2 (hu : gQ2 tag rest go ls (st.drop (b % 16)) (c + hmc a) (w + hms a) u I2 J2 B2) => hgo.nx hsuf hck (gQ2_e s4 hu)
  have kx := fun k I2 J2 B2 (hk : k < 3) (hu : gX2 cd hs X pc go ls (c + hmc a) (w + hms a) k I2 J2 B2) => gX2_e hgo hcd hcl2 hH hk hu
  unfold gclc at k7
  cases ho : gobj (b / 16) with
  | none =>
    rw [ho] at k7
    obtain ⟨k8, k9⟩ := gband k7
    exact gp_callT (gdec hck) hcv s5 hll (hqk.trans (Nat.eq_of_beq_eq_true k8)) (by rw [hcl_ok ha, Nat.eq_of_beq_eq_true k9]; rfl) s1 s6 s7 s8 kk kx
  | some z =>
    obtain ⟨ci, fl⟩ := z
    rw [ho] at k7
    simp only at k7
    cases hz : vwCl[ci]? with
    | none => rw [hz] at k7; cases k7
    | some z =>
      rw [hz] at k7
      exact gp_callV (gdec hck) hcv s5 hll (by rw [hqk]; exact ho) hz (by rw [hcl_ok ha]; exact of_decide_eq_true k7) s1 s6 s7 s8 kk kx
theorem gs_invokestatic {n : Nat} (hgo : gGo E y cd Q X go) (hsuf : ∃ pre, cd = pre ++ (pc, len, .invokestatic n, a, b, v) :: rest) (hck : gck1 y (pc, len, .invokestatic n, a, b, v) rest = true) (h : gsem (gC E) cd hs (hmc y) (hms y) (gL E) (gXs E) bo Q X (pc, len, .invokestatic n, a, b, v) rest go ls st I J B c w) (hcd : gckL y cd = true) (hcl2 : (hy y).cls = gcls (hcl y)) (hH : gckH y cd hs = true) : gG E y pc ls st I J B c w Q X := by
  obtain ⟨hl, h2⟩ := gband (gband (gband hck).2).2
  have hl := Nat.eq_of_beq_eq_true hl
  subst hl
  refine gG_in fun hc hw => ?_
  by_cases hb9 : b = 9
  · subst hb9
    obtain ⟨h2, h3⟩ := gband h2
    have h2 := of_decide_eq_true h2
    obtain ⟨h3, h4⟩ := gband h3
    obtain ⟨rfl, h6⟩ := h2
    obtain ⟨k0, r, rfl, h⟩ := gpi_e h
    obtain ⟨dp, r, rfl, h⟩ := gpi_e h
    obtain ⟨d, r, rfl, h⟩ := gpr_e h
    obtain ⟨sp, r, rfl, h⟩ := gpi_e h
    obtain ⟨s0, r, rfl, h⟩ := gpr_e h
    split at h
    · rename_i hsm
      have hcc : (hy y).cls = "ToeplitzLab$State" := by rw [hcl2, h6]; rfl
      exact gp_copy (gdec hck) ⟨by rw [hcc]; exact gw_cpl, gw_cpn, gw_cps, gIn_ok "java/lang/System" (by simp [gIn, gIn_1])⟩ (Nat.le_of_ble_eq_true h3) (Nat.le_of_ble_eq_true h4) (Nat.le_of_ble_eq_true hsm) (gcpy_m (fun x z h => hgo.nx hsuf hck h) h)
    · exact absurd h id
  have h2 := (congrArg (fun z : Bool => z = true) (if_neg hb9)).mp h2
  have h : gcal (gC E) cd hs (hmc y) (hms y) X (pc, 3, .invokestatic n, a, b, v) rest go ls st I J B c w := by
    unfold gsem at h
    simp only at h
    split at h
    · exact absurd rfl hb9
    · exact h
  obtain ⟨h2, k9⟩ := gband h2
  obtain ⟨ha, h2⟩ := gband h2
  obtain ⟨k1, h2⟩ := gband h2
  obtain ⟨k5, h2⟩ := gband h2
  obtain ⟨k6, k8⟩ := gband h2
  obtain ⟨tag, ⟨s1, s2, s3⟩, s4, s5, ⟨s6, s7⟩, s8⟩ := gcal_e hc hw k8 h
  simp only at s1 s2 s3 s4 s5 s6 s7 s8
  have ha : a < 314 := Nat.le_of_ble_eq_true ha
  have hll : (st.take (b % 16)).reverse.length = hnp a := by
    rw [List.length_reverse, s3]
    exact Nat.eq_of_beq_eq_true k5
  have hst := grev (st := st) (n := b % 16) rfl
  have kk := fun u I2 J2 B2 (hu : gQ2 tag rest go ls (st.drop (b % 16)) (c + hmc a) (w + hms a) u I2 J2 B2) => hgo.nx hsuf hck (gQ2_e s4 hu)
  have kx := fun k I2 J2 B2 (hk : k < 3) (hu : gX2 cd hs X pc go ls (c + hmc a) (w + hms a) k I2 J2 B2) => gX2_e hgo hcd hcl2 hH hk hu
  have hs1 := gYs_ok a (List.contains_iff_mem.mp k1)
  generalize hgen : st.drop (b % 16) = r at *
  generalize hgen2 : (st.take (b % 16)).reverse = as at *
  rw [hst]
  rcases Bool.or_eq_true_iff.mp k9 with k | k
  · obtain ⟨j1, j2⟩ := gband k
    rcases Bool.or_eq_true_iff.mp j2 with j | j
    · exact gp_callS (gdec hck) ⟨gCe_ok ha, gYc_t a (List.contains_iff_mem.mp j1), gYc_ok a (List.contains_iff_mem.mp j1), by rw [hcl2]; exact gML_ok (hcl y, n, a) (List.contains_iff_mem.mp j), hs1, gin_y ha⟩ s5 hll s1 s6 s7 s8 kk kx
    · exact gp_callSN (gdec hck) ⟨gCe_ok ha, gYc_t a (List.contains_iff_mem.mp j1), gYc_ok a (List.contains_iff_mem.mp j1), by rw [hcl2]; exact gNlink_ok (hcl y, n, a) (List.contains_iff_mem.mp j), hs1, gin_y ha⟩ s5 hll s1 s6 s7 s8 kk kx
  · obtain ⟨j1, j2⟩ := gband k
    have hx := gYx_t a (List.contains_iff_mem.mp j1)
    have hcw2 : hcw a ∈ gBig := by
      have h3 := gYx_ok a (List.contains_iff_mem.mp j1)
      unfold hcw
      split
      · rename_i h4
        exact absurd h4 hx
      · exact h3
    exact gp_callSX (gdec hck) ⟨gCe_ok ha, hx, hcw2, by rw [hcl2]; exact gML_ok (hcl y, n, a) (List.contains_iff_mem.mp j2), hs1, gin_y ha⟩ s5 hll s1 s6 s7 s8 kk kx
end GZ
end
section
theorem zz_1 : vwCl.length = 9 := rfl
end
