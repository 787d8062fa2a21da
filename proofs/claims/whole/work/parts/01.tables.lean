-- ===== PART A: goes FIRST, ahead of the names: the tables' words, and 'selects' of the private methods out of them =====
/-- a private method of a class that the tables say can be made, by its rows of tables_1 -/
def lw_okq (q : MethodName × Nat) : Prop := (q.1.cls ≠ "java/lang/invoke/MethodHandle" ∧ q.1.cls ≠ "java/lang/invoke/VarHandle") ∧ Cond.instantiable q.1.cls q.2 ∈ tables_1 ∧ Cond.privateMethod q.1 ∈ tables_1 ∧ Cond.instanceMethod q.1 ∈ tables_1
theorem lw_p0 : lw_okq (⟨"CarriedHistory$Draft", "readParents", "(LCarriedHistory$Tape;I)V"⟩, 8) := ⟨⟨by decide +kernel, by decide +kernel⟩, List.mem_of_getElem? (i := 177) (by decide +kernel), List.mem_of_getElem? (i := 643) (by decide +kernel), List.mem_of_getElem? (i := 644) (by decide +kernel)⟩
theorem lw_p1 : lw_okq (⟨"CarriedHistory$Draft", "readEdits", "(LCarriedHistory$Tape;LCarriedHistory$Commits;)V"⟩, 8) := ⟨⟨by decide +kernel, by decide +kernel⟩, List.mem_of_getElem? (i := 177) (by decide +kernel), List.mem_of_getElem? (i := 690) (by decide +kernel), List.mem_of_getElem? (i := 691) (by decide +kernel)⟩
theorem lw_p2 : lw_okq (⟨"CarriedHistory$Draft", "readEdit", "(LCarriedHistory$Tape;LCarriedHistory$Commits;)V"⟩, 8) := ⟨⟨by decide +kernel, by decide +kernel⟩, List.mem_of_getElem? (i := 177) (by decide +kernel), List.mem_of_getElem? (i := 694) (by decide +kernel), List.mem_of_getElem? (i := 695) (by decide +kernel)⟩
theorem lw_p3 : lw_okq (⟨"CarriedHistory$Draft", "putFile", "(II)I"⟩, 8) := ⟨⟨by decide +kernel, by decide +kernel⟩, List.mem_of_getElem? (i := 177) (by decide +kernel), List.mem_of_getElem? (i := 713) (by decide +kernel), List.mem_of_getElem? (i := 714) (by decide +kernel)⟩
theorem lw_p4 : lw_okq (⟨"CarriedHistory$Draft", "fetch", "(LCarriedHistory$Tree;I)I"⟩, 8) := ⟨⟨by decide +kernel, by decide +kernel⟩, List.mem_of_getElem? (i := 177) (by decide +kernel), List.mem_of_getElem? (i := 736) (by decide +kernel), List.mem_of_getElem? (i := 737) (by decide +kernel)⟩
theorem lw_p5 : lw_okq (⟨"CarriedHistory$Draft", "moveAll", "(II)I"⟩, 8) := ⟨⟨by decide +kernel, by decide +kernel⟩, List.mem_of_getElem? (i := 177) (by decide +kernel), List.mem_of_getElem? (i := 749) (by decide +kernel), List.mem_of_getElem? (i := 750) (by decide +kernel)⟩
theorem lw_p6 : lw_okq (⟨"CarriedHistory$Draft", "readMessage", "(LCarriedHistory$Tape;)V"⟩, 8) := ⟨⟨by decide +kernel, by decide +kernel⟩, List.mem_of_getElem? (i := 177) (by decide +kernel), List.mem_of_getElem? (i := 760) (by decide +kernel), List.mem_of_getElem? (i := 761) (by decide +kernel)⟩
theorem lw_p7 : lw_okq (⟨"CarriedHistory$Commits", "isAs", "(ILCarriedHistory$Draft;)Z"⟩, 12) := ⟨⟨by decide +kernel, by decide +kernel⟩, List.mem_of_getElem? (i := 74) (by decide +kernel), List.mem_of_getElem? (i := 781) (by decide +kernel), List.mem_of_getElem? (i := 782) (by decide +kernel)⟩
theorem lw_p8 : lw_okq (⟨"CarriedHistory$Commits", "write", "(ILCarriedHistory$Draft;I)V"⟩, 12) := ⟨⟨by decide +kernel, by decide +kernel⟩, List.mem_of_getElem? (i := 74) (by decide +kernel), List.mem_of_getElem? (i := 793) (by decide +kernel), List.mem_of_getElem? (i := 794) (by decide +kernel)⟩
theorem lw_p9 : lw_okq (⟨"CarriedHistory$PlanText", "readLine", "(LCarriedHistory$Tape;)V"⟩, 4) := ⟨⟨by decide +kernel, by decide +kernel⟩, List.mem_of_getElem? (i := 269) (by decide +kernel), List.mem_of_getElem? (i := 833) (by decide +kernel), List.mem_of_getElem? (i := 834) (by decide +kernel)⟩
theorem lw_p10 : lw_okq (⟨"CarriedHistory$PlanText", "readWord", "(LCarriedHistory$Tape;)I"⟩, 4) := ⟨⟨by decide +kernel, by decide +kernel⟩, List.mem_of_getElem? (i := 269) (by decide +kernel), List.mem_of_getElem? (i := 837) (by decide +kernel), List.mem_of_getElem? (i := 838) (by decide +kernel)⟩
theorem lw_p11 : lw_okq (⟨"CarriedHistory$PlanText", "isSpelt", "(LCarriedHistory$Tape;Ljava/lang/String;)Z"⟩, 4) := ⟨⟨by decide +kernel, by decide +kernel⟩, List.mem_of_getElem? (i := 269) (by decide +kernel), List.mem_of_getElem? (i := 860) (by decide +kernel), List.mem_of_getElem? (i := 861) (by decide +kernel)⟩
theorem lw_p12 : lw_okq (⟨"CarriedHistory$PlanText", "isTooMany", "(I)Z"⟩, 4) := ⟨⟨by decide +kernel, by decide +kernel⟩, List.mem_of_getElem? (i := 269) (by decide +kernel), List.mem_of_getElem? (i := 916) (by decide +kernel), List.mem_of_getElem? (i := 917) (by decide +kernel)⟩
theorem lw_p13 : lw_okq (⟨"CarriedHistory$PlanText", "pairsOf", "(I)LCarriedHistory$Pairs;"⟩, 4) := ⟨⟨by decide +kernel, by decide +kernel⟩, List.mem_of_getElem? (i := 269) (by decide +kernel), List.mem_of_getElem? (i := 920) (by decide +kernel), List.mem_of_getElem? (i := 921) (by decide +kernel)⟩
theorem lw_p14 : lw_okq (⟨"CarriedHistory$PlanText", "readPair", "(LCarriedHistory$Tape;I)V"⟩, 4) := ⟨⟨by decide +kernel, by decide +kernel⟩, List.mem_of_getElem? (i := 269) (by decide +kernel), List.mem_of_getElem? (i := 930) (by decide +kernel), List.mem_of_getElem? (i := 931) (by decide +kernel)⟩
theorem lw_p15 : lw_okq (⟨"CarriedHistory$PlanText", "readCommit", "(LCarriedHistory$Tape;I)I"⟩, 4) := ⟨⟨by decide +kernel, by decide +kernel⟩, List.mem_of_getElem? (i := 269) (by decide +kernel), List.mem_of_getElem? (i := 934) (by decide +kernel), List.mem_of_getElem? (i := 935) (by decide +kernel)⟩
def lw_privs_1 : List (MethodName × Nat) := [(⟨"CarriedHistory$Draft", "readParents", "(LCarriedHistory$Tape;I)V"⟩, 8), (⟨"CarriedHistory$Draft", "readEdits", "(LCarriedHistory$Tape;LCarriedHistory$Commits;)V"⟩, 8), (⟨"CarriedHistory$Draft", "readEdit", "(LCarriedHistory$Tape;LCarriedHistory$Commits;)V"⟩, 8), (⟨"CarriedHistory$Draft", "putFile", "(II)I"⟩, 8), (⟨"CarriedHistory$Draft", "fetch", "(LCarriedHistory$Tree;I)I"⟩, 8), (⟨"CarriedHistory$Draft", "moveAll", "(II)I"⟩, 8), (⟨"CarriedHistory$Draft", "readMessage", "(LCarriedHistory$Tape;)V"⟩, 8), (⟨"CarriedHistory$Commits", "isAs", "(ILCarriedHistory$Draft;)Z"⟩, 12), (⟨"CarriedHistory$Commits", "write", "(ILCarriedHistory$Draft;I)V"⟩, 12), (⟨"CarriedHistory$PlanText", "readLine", "(LCarriedHistory$Tape;)V"⟩, 4), (⟨"CarriedHistory$PlanText", "readWord", "(LCarriedHistory$Tape;)I"⟩, 4), (⟨"CarriedHistory$PlanText", "isSpelt", "(LCarriedHistory$Tape;Ljava/lang/String;)Z"⟩, 4), (⟨"CarriedHistory$PlanText", "isTooMany", "(I)Z"⟩, 4), (⟨"CarriedHistory$PlanText", "pairsOf", "(I)LCarriedHistory$Pairs;"⟩, 4), (⟨"CarriedHistory$PlanText", "readPair", "(LCarriedHistory$Tape;I)V"⟩, 4), (⟨"CarriedHistory$PlanText", "readCommit", "(LCarriedHistory$Tape;I)I"⟩, 4)]
theorem lw_r1 : ∀ q ∈ lw_privs_1, lw_okq q := List.forall_mem_cons.mpr ⟨lw_p0, List.forall_mem_cons.mpr ⟨lw_p1, List.forall_mem_cons.mpr ⟨lw_p2, List.forall_mem_cons.mpr ⟨lw_p3, List.forall_mem_cons.mpr ⟨lw_p4, List.forall_mem_cons.mpr ⟨lw_p5, List.forall_mem_cons.mpr ⟨lw_p6, List.forall_mem_cons.mpr ⟨lw_p7, List.forall_mem_cons.mpr ⟨lw_p8, List.forall_mem_cons.mpr ⟨lw_p9, List.forall_mem_cons.mpr ⟨lw_p10, List.forall_mem_cons.mpr ⟨lw_p11, List.forall_mem_cons.mpr ⟨lw_p12, List.forall_mem_cons.mpr ⟨lw_p13, List.forall_mem_cons.mpr ⟨lw_p14, List.forall_mem_cons.mpr ⟨lw_p15, fun _ h => absurd h List.not_mem_nil⟩⟩⟩⟩⟩⟩⟩⟩⟩⟩⟩⟩⟩⟩⟩⟩
theorem lw_p16 : lw_okq (⟨"CarriedHistory$PlanText", "readSide", "(LCarriedHistory$Tape;I)I"⟩, 4) := ⟨⟨by decide +kernel, by decide +kernel⟩, List.mem_of_getElem? (i := 269) (by decide +kernel), List.mem_of_getElem? (i := 939) (by decide +kernel), List.mem_of_getElem? (i := 940) (by decide +kernel)⟩
theorem lw_p17 : lw_okq (⟨"CarriedHistory$PlanText", "readSetting", "(LCarriedHistory$Tape;I)V"⟩, 4) := ⟨⟨by decide +kernel, by decide +kernel⟩, List.mem_of_getElem? (i := 269) (by decide +kernel), List.mem_of_getElem? (i := 953) (by decide +kernel), List.mem_of_getElem? (i := 954) (by decide +kernel)⟩
theorem lw_p18 : lw_okq (⟨"CarriedHistory$PlanText", "readTo", "(LCarriedHistory$Tape;)V"⟩, 4) := ⟨⟨by decide +kernel, by decide +kernel⟩, List.mem_of_getElem? (i := 269) (by decide +kernel), List.mem_of_getElem? (i := 957) (by decide +kernel), List.mem_of_getElem? (i := 958) (by decide +kernel)⟩
theorem lw_p19 : lw_okq (⟨"CarriedHistory$Refs", "take", "(ILCarriedHistory$Refs;I)V"⟩, 5) := ⟨⟨by decide +kernel, by decide +kernel⟩, List.mem_of_getElem? (i := 422) (by decide +kernel), List.mem_of_getElem? (i := 1006) (by decide +kernel), List.mem_of_getElem? (i := 1007) (by decide +kernel)⟩
theorem lw_p20 : lw_okq (⟨"CarriedHistory$Refs", "makeRoom", "(I)I"⟩, 5) := ⟨⟨by decide +kernel, by decide +kernel⟩, List.mem_of_getElem? (i := 422) (by decide +kernel), List.mem_of_getElem? (i := 1014) (by decide +kernel), List.mem_of_getElem? (i := 1015) (by decide +kernel)⟩
theorem lw_p21 : lw_okq (⟨"CarriedHistory", "carry", "(IZ)I"⟩, 17) := ⟨⟨by decide +kernel, by decide +kernel⟩, List.mem_of_getElem? (i := 30) (by decide +kernel), List.mem_of_getElem? (i := 1022) (by decide +kernel), List.mem_of_getElem? (i := 1023) (by decide +kernel)⟩
theorem lw_p22 : lw_okq (⟨"CarriedHistory$Rewriter", "gatherParents", "(LCarriedHistory$Plan;I)V"⟩, 10) := ⟨⟨by decide +kernel, by decide +kernel⟩, List.mem_of_getElem? (i := 68) (by decide +kernel), List.mem_of_getElem? (i := 1092) (by decide +kernel), List.mem_of_getElem? (i := 1093) (by decide +kernel)⟩
theorem lw_p23 : lw_okq (⟨"CarriedHistory$Rewriter", "thinParents", "(I)V"⟩, 10) := ⟨⟨by decide +kernel, by decide +kernel⟩, List.mem_of_getElem? (i := 68) (by decide +kernel), List.mem_of_getElem? (i := 1098) (by decide +kernel), List.mem_of_getElem? (i := 1099) (by decide +kernel)⟩
theorem lw_p24 : lw_okq (⟨"CarriedHistory$Rewriter", "isNeedless", "(IZ)Z"⟩, 10) := ⟨⟨by decide +kernel, by decide +kernel⟩, List.mem_of_getElem? (i := 68) (by decide +kernel), List.mem_of_getElem? (i := 1102) (by decide +kernel), List.mem_of_getElem? (i := 1103) (by decide +kernel)⟩
theorem lw_p25 : lw_okq (⟨"CarriedHistory$Rewriter", "bringsNothing", "()Z"⟩, 10) := ⟨⟨by decide +kernel, by decide +kernel⟩, List.mem_of_getElem? (i := 68) (by decide +kernel), List.mem_of_getElem? (i := 1112) (by decide +kernel), List.mem_of_getElem? (i := 1113) (by decide +kernel)⟩
theorem lw_p26 : lw_okq (⟨"CarriedHistory$Rewriter", "isEmptyByItself", "(LCarriedHistory$Plan;I)Z"⟩, 10) := ⟨⟨by decide +kernel, by decide +kernel⟩, List.mem_of_getElem? (i := 68) (by decide +kernel), List.mem_of_getElem? (i := 1116) (by decide +kernel), List.mem_of_getElem? (i := 1117) (by decide +kernel)⟩
theorem lw_p27 : lw_okq (⟨"CarriedHistory$Rewriter", "isSkipped", "(LCarriedHistory$Plan;I)Z"⟩, 10) := ⟨⟨by decide +kernel, by decide +kernel⟩, List.mem_of_getElem? (i := 68) (by decide +kernel), List.mem_of_getElem? (i := 1120) (by decide +kernel), List.mem_of_getElem? (i := 1121) (by decide +kernel)⟩
theorem lw_p28 : lw_okq (⟨"CarriedHistory$Rewriter", "carryMessage", "(LCarriedHistory$Plan;I)V"⟩, 10) := ⟨⟨by decide +kernel, by decide +kernel⟩, List.mem_of_getElem? (i := 68) (by decide +kernel), List.mem_of_getElem? (i := 1124) (by decide +kernel), List.mem_of_getElem? (i := 1125) (by decide +kernel)⟩
theorem lw_p29 : lw_okq (⟨"CarriedHistory$Rewriter", "endOfPiece", "(II)I"⟩, 10) := ⟨⟨by decide +kernel, by decide +kernel⟩, List.mem_of_getElem? (i := 68) (by decide +kernel), List.mem_of_getElem? (i := 1129) (by decide +kernel), List.mem_of_getElem? (i := 1130) (by decide +kernel)⟩
theorem lw_p30 : lw_okq (⟨"CarriedHistory$Rewriter", "carryMention", "(III)Z"⟩, 10) := ⟨⟨by decide +kernel, by decide +kernel⟩, List.mem_of_getElem? (i := 68) (by decide +kernel), List.mem_of_getElem? (i := 1133) (by decide +kernel), List.mem_of_getElem? (i := 1134) (by decide +kernel)⟩
theorem lw_p31 : lw_okq (⟨"CarriedHistory$Rewriter", "wordAt", "(III)I"⟩, 10) := ⟨⟨by decide +kernel, by decide +kernel⟩, List.mem_of_getElem? (i := 68) (by decide +kernel), List.mem_of_getElem? (i := 1141) (by decide +kernel), List.mem_of_getElem? (i := 1142) (by decide +kernel)⟩
def lw_privs_2 : List (MethodName × Nat) := [(⟨"CarriedHistory$PlanText", "readSide", "(LCarriedHistory$Tape;I)I"⟩, 4), (⟨"CarriedHistory$PlanText", "readSetting", "(LCarriedHistory$Tape;I)V"⟩, 4), (⟨"CarriedHistory$PlanText", "readTo", "(LCarriedHistory$Tape;)V"⟩, 4), (⟨"CarriedHistory$Refs", "take", "(ILCarriedHistory$Refs;I)V"⟩, 5), (⟨"CarriedHistory$Refs", "makeRoom", "(I)I"⟩, 5), (⟨"CarriedHistory", "carry", "(IZ)I"⟩, 17), (⟨"CarriedHistory$Rewriter", "gatherParents", "(LCarriedHistory$Plan;I)V"⟩, 10), (⟨"CarriedHistory$Rewriter", "thinParents", "(I)V"⟩, 10), (⟨"CarriedHistory$Rewriter", "isNeedless", "(IZ)Z"⟩, 10), (⟨"CarriedHistory$Rewriter", "bringsNothing", "()Z"⟩, 10), (⟨"CarriedHistory$Rewriter", "isEmptyByItself", "(LCarriedHistory$Plan;I)Z"⟩, 10), (⟨"CarriedHistory$Rewriter", "isSkipped", "(LCarriedHistory$Plan;I)Z"⟩, 10), (⟨"CarriedHistory$Rewriter", "carryMessage", "(LCarriedHistory$Plan;I)V"⟩, 10), (⟨"CarriedHistory$Rewriter", "endOfPiece", "(II)I"⟩, 10), (⟨"CarriedHistory$Rewriter", "carryMention", "(III)Z"⟩, 10), (⟨"CarriedHistory$Rewriter", "wordAt", "(III)I"⟩, 10)]
theorem lw_r2 : ∀ q ∈ lw_privs_2, lw_okq q := List.forall_mem_cons.mpr ⟨lw_p16, List.forall_mem_cons.mpr ⟨lw_p17, List.forall_mem_cons.mpr ⟨lw_p18, List.forall_mem_cons.mpr ⟨lw_p19, List.forall_mem_cons.mpr ⟨lw_p20, List.forall_mem_cons.mpr ⟨lw_p21, List.forall_mem_cons.mpr ⟨lw_p22, List.forall_mem_cons.mpr ⟨lw_p23, List.forall_mem_cons.mpr ⟨lw_p24, List.forall_mem_cons.mpr ⟨lw_p25, List.forall_mem_cons.mpr ⟨lw_p26, List.forall_mem_cons.mpr ⟨lw_p27, List.forall_mem_cons.mpr ⟨lw_p28, List.forall_mem_cons.mpr ⟨lw_p29, List.forall_mem_cons.mpr ⟨lw_p30, List.forall_mem_cons.mpr ⟨lw_p31, fun _ h => absurd h List.not_mem_nil⟩⟩⟩⟩⟩⟩⟩⟩⟩⟩⟩⟩⟩⟩⟩⟩
theorem lw_p32 : lw_okq (⟨"CarriedHistory$Rewriter", "addWord", "(I)V"⟩, 10) := ⟨⟨by decide +kernel, by decide +kernel⟩, List.mem_of_getElem? (i := 68) (by decide +kernel), List.mem_of_getElem? (i := 1146) (by decide +kernel), List.mem_of_getElem? (i := 1147) (by decide +kernel)⟩
theorem lw_p33 : lw_okq (⟨"CarriedHistory", "layRefs", "(LCarriedHistory$Plan;I)V"⟩, 17) := ⟨⟨by decide +kernel, by decide +kernel⟩, List.mem_of_getElem? (i := 30) (by decide +kernel), List.mem_of_getElem? (i := 1151) (by decide +kernel), List.mem_of_getElem? (i := 1152) (by decide +kernel)⟩
theorem lw_p34 : lw_okq (⟨"CarriedHistory", "settleOn", "(LCarriedHistory$Refs;I)I"⟩, 17) := ⟨⟨by decide +kernel, by decide +kernel⟩, List.mem_of_getElem? (i := 30) (by decide +kernel), List.mem_of_getElem? (i := 1194) (by decide +kernel), List.mem_of_getElem? (i := 1195) (by decide +kernel)⟩
theorem lw_p35 : lw_okq (⟨"CarriedHistory$Change", "add", "(IIIII)V"⟩, 18) := ⟨⟨by decide +kernel, by decide +kernel⟩, List.mem_of_getElem? (i := 453) (by decide +kernel), List.mem_of_getElem? (i := 1211) (by decide +kernel), List.mem_of_getElem? (i := 1212) (by decide +kernel)⟩
theorem lw_p36 : lw_okq (⟨"CarriedHistory", "readWholePath", "(I)I"⟩, 17) := ⟨⟨by decide +kernel, by decide +kernel⟩, List.mem_of_getElem? (i := 30) (by decide +kernel), List.mem_of_getElem? (i := 1416) (by decide +kernel), List.mem_of_getElem? (i := 1417) (by decide +kernel)⟩
theorem lw_p37 : lw_okq (⟨"CarriedHistory", "isTouched", "(II)Z"⟩, 17) := ⟨⟨by decide +kernel, by decide +kernel⟩, List.mem_of_getElem? (i := 30) (by decide +kernel), List.mem_of_getElem? (i := 1444) (by decide +kernel), List.mem_of_getElem? (i := 1445) (by decide +kernel)⟩
theorem lw_p38 : lw_okq (⟨"CarriedHistory", "mapIs", "(LCarriedHistory$Plan;I)I"⟩, 17) := ⟨⟨by decide +kernel, by decide +kernel⟩, List.mem_of_getElem? (i := 30) (by decide +kernel), List.mem_of_getElem? (i := 1457) (by decide +kernel), List.mem_of_getElem? (i := 1458) (by decide +kernel)⟩
theorem lw_p39 : lw_okq (⟨"CarriedHistory", "flawsOf", "(LCarriedHistory$Plan;II)I"⟩, 17) := ⟨⟨by decide +kernel, by decide +kernel⟩, List.mem_of_getElem? (i := 30) (by decide +kernel), List.mem_of_getElem? (i := 1500) (by decide +kernel), List.mem_of_getElem? (i := 1501) (by decide +kernel)⟩
theorem lw_p40 : lw_okq (⟨"CarriedHistory", "isFlawed", "(LCarriedHistory$Plan;III)Z"⟩, 17) := ⟨⟨by decide +kernel, by decide +kernel⟩, List.mem_of_getElem? (i := 30) (by decide +kernel), List.mem_of_getElem? (i := 1505) (by decide +kernel), List.mem_of_getElem? (i := 1506) (by decide +kernel)⟩
theorem lw_p41 : lw_okq (⟨"CarriedHistory", "childless", "()I"⟩, 17) := ⟨⟨by decide +kernel, by decide +kernel⟩, List.mem_of_getElem? (i := 30) (by decide +kernel), List.mem_of_getElem? (i := 1517) (by decide +kernel), List.mem_of_getElem? (i := 1518) (by decide +kernel)⟩
theorem lw_p42 : lw_okq (⟨"CarriedHistory", "greatestGeneration", "()I"⟩, 17) := ⟨⟨by decide +kernel, by decide +kernel⟩, List.mem_of_getElem? (i := 30) (by decide +kernel), List.mem_of_getElem? (i := 1527) (by decide +kernel), List.mem_of_getElem? (i := 1528) (by decide +kernel)⟩
theorem lw_p43 : lw_okq (⟨"CarriedHistory", "unlikeTrees", "()I"⟩, 17) := ⟨⟨by decide +kernel, by decide +kernel⟩, List.mem_of_getElem? (i := 30) (by decide +kernel), List.mem_of_getElem? (i := 1532) (by decide +kernel), List.mem_of_getElem? (i := 1533) (by decide +kernel)⟩
theorem lw_p44 : lw_okq (⟨"CarriedHistory", "withParents", "(Z)I"⟩, 17) := ⟨⟨by decide +kernel, by decide +kernel⟩, List.mem_of_getElem? (i := 30) (by decide +kernel), List.mem_of_getElem? (i := 1536) (by decide +kernel), List.mem_of_getElem? (i := 1537) (by decide +kernel)⟩
theorem lw_p45 : lw_okq (⟨"CarriedHistory", "countChildren", "()V"⟩, 17) := ⟨⟨by decide +kernel, by decide +kernel⟩, List.mem_of_getElem? (i := 30) (by decide +kernel), List.mem_of_getElem? (i := 1544) (by decide +kernel), List.mem_of_getElem? (i := 1545) (by decide +kernel)⟩
theorem lw_p46 : lw_okq (⟨"CarriedHistory", "nextListed", "()I"⟩, 17) := ⟨⟨by decide +kernel, by decide +kernel⟩, List.mem_of_getElem? (i := 30) (by decide +kernel), List.mem_of_getElem? (i := 1549) (by decide +kernel), List.mem_of_getElem? (i := 1550) (by decide +kernel)⟩
theorem lw_p47 : lw_okq (⟨"CarriedHistory", "markBases", "(II)V"⟩, 17) := ⟨⟨by decide +kernel, by decide +kernel⟩, List.mem_of_getElem? (i := 30) (by decide +kernel), List.mem_of_getElem? (i := 1586) (by decide +kernel), List.mem_of_getElem? (i := 1587) (by decide +kernel)⟩
def lw_privs_3 : List (MethodName × Nat) := [(⟨"CarriedHistory$Rewriter", "addWord", "(I)V"⟩, 10), (⟨"CarriedHistory", "layRefs", "(LCarriedHistory$Plan;I)V"⟩, 17), (⟨"CarriedHistory", "settleOn", "(LCarriedHistory$Refs;I)I"⟩, 17), (⟨"CarriedHistory$Change", "add", "(IIIII)V"⟩, 18), (⟨"CarriedHistory", "readWholePath", "(I)I"⟩, 17), (⟨"CarriedHistory", "isTouched", "(II)Z"⟩, 17), (⟨"CarriedHistory", "mapIs", "(LCarriedHistory$Plan;I)I"⟩, 17), (⟨"CarriedHistory", "flawsOf", "(LCarriedHistory$Plan;II)I"⟩, 17), (⟨"CarriedHistory", "isFlawed", "(LCarriedHistory$Plan;III)Z"⟩, 17), (⟨"CarriedHistory", "childless", "()I"⟩, 17), (⟨"CarriedHistory", "greatestGeneration", "()I"⟩, 17), (⟨"CarriedHistory", "unlikeTrees", "()I"⟩, 17), (⟨"CarriedHistory", "withParents", "(Z)I"⟩, 17), (⟨"CarriedHistory", "countChildren", "()V"⟩, 17), (⟨"CarriedHistory", "nextListed", "()I"⟩, 17), (⟨"CarriedHistory", "markBases", "(II)V"⟩, 17)]
theorem lw_r3 : ∀ q ∈ lw_privs_3, lw_okq q := List.forall_mem_cons.mpr ⟨lw_p32, List.forall_mem_cons.mpr ⟨lw_p33, List.forall_mem_cons.mpr ⟨lw_p34, List.forall_mem_cons.mpr ⟨lw_p35, List.forall_mem_cons.mpr ⟨lw_p36, List.forall_mem_cons.mpr ⟨lw_p37, List.forall_mem_cons.mpr ⟨lw_p38, List.forall_mem_cons.mpr ⟨lw_p39, List.forall_mem_cons.mpr ⟨lw_p40, List.forall_mem_cons.mpr ⟨lw_p41, List.forall_mem_cons.mpr ⟨lw_p42, List.forall_mem_cons.mpr ⟨lw_p43, List.forall_mem_cons.mpr ⟨lw_p44, List.forall_mem_cons.mpr ⟨lw_p45, List.forall_mem_cons.mpr ⟨lw_p46, List.forall_mem_cons.mpr ⟨lw_p47, fun _ h => absurd h List.not_mem_nil⟩⟩⟩⟩⟩⟩⟩⟩⟩⟩⟩⟩⟩⟩⟩⟩
theorem lw_p48 : lw_okq (⟨"CarriedHistory$Change", "gather", "()V"⟩, 18) := ⟨⟨by decide +kernel, by decide +kernel⟩, List.mem_of_getElem? (i := 453) (by decide +kernel), List.mem_of_getElem? (i := 1629) (by decide +kernel), List.mem_of_getElem? (i := 1630) (by decide +kernel)⟩
theorem lw_p49 : lw_okq (⟨"CarriedHistory$Change", "longestInBoth", "(II)I"⟩, 18) := ⟨⟨by decide +kernel, by decide +kernel⟩, List.mem_of_getElem? (i := 453) (by decide +kernel), List.mem_of_getElem? (i := 1641) (by decide +kernel), List.mem_of_getElem? (i := 1642) (by decide +kernel)⟩
theorem lw_p50 : lw_okq (⟨"CarriedHistory$Change", "pairNext", "()Z"⟩, 18) := ⟨⟨by decide +kernel, by decide +kernel⟩, List.mem_of_getElem? (i := 453) (by decide +kernel), List.mem_of_getElem? (i := 1647) (by decide +kernel), List.mem_of_getElem? (i := 1648) (by decide +kernel)⟩
theorem lw_p51 : lw_okq (⟨"CarriedHistory", "parentWithFile", "(II)I"⟩, 17) := ⟨⟨by decide +kernel, by decide +kernel⟩, List.mem_of_getElem? (i := 30) (by decide +kernel), List.mem_of_getElem? (i := 1680) (by decide +kernel), List.mem_of_getElem? (i := 1681) (by decide +kernel)⟩
theorem lw_p52 : lw_okq (⟨"CarriedHistory", "parentRenamed", "(II)I"⟩, 17) := ⟨⟨by decide +kernel, by decide +kernel⟩, List.mem_of_getElem? (i := 30) (by decide +kernel), List.mem_of_getElem? (i := 1684) (by decide +kernel), List.mem_of_getElem? (i := 1685) (by decide +kernel)⟩
theorem lw_p53 : lw_okq (⟨"CarriedHistory", "unlikeContents", "()I"⟩, 17) := ⟨⟨by decide +kernel, by decide +kernel⟩, List.mem_of_getElem? (i := 30) (by decide +kernel), List.mem_of_getElem? (i := 1708) (by decide +kernel), List.mem_of_getElem? (i := 1709) (by decide +kernel)⟩
theorem lw_p54 : lw_okq (⟨"CarriedHistory", "isNewContent", "(I)Z"⟩, 17) := ⟨⟨by decide +kernel, by decide +kernel⟩, List.mem_of_getElem? (i := 30) (by decide +kernel), List.mem_of_getElem? (i := 1712) (by decide +kernel), List.mem_of_getElem? (i := 1713) (by decide +kernel)⟩
theorem lw_p55 : lw_okq (⟨"CarriedHistoryModel", "isCommit", "(I)Z"⟩, 72) := ⟨⟨by decide +kernel, by decide +kernel⟩, List.mem_of_getElem? (i := 1716) (by decide +kernel), List.mem_of_getElem? (i := 1943) (by decide +kernel), List.mem_of_getElem? (i := 1944) (by decide +kernel)⟩
theorem lw_p56 : lw_okq (⟨"CarriedHistoryModel", "parentAt", "(II)I"⟩, 72) := ⟨⟨by decide +kernel, by decide +kernel⟩, List.mem_of_getElem? (i := 1716) (by decide +kernel), List.mem_of_getElem? (i := 1950) (by decide +kernel), List.mem_of_getElem? (i := 1951) (by decide +kernel)⟩
theorem lw_p57 : lw_okq (⟨"CarriedHistoryModel", "laysHeights", "()V"⟩, 72) := ⟨⟨by decide +kernel, by decide +kernel⟩, List.mem_of_getElem? (i := 1716) (by decide +kernel), List.mem_of_getElem? (i := 1954) (by decide +kernel), List.mem_of_getElem? (i := 1955) (by decide +kernel)⟩
theorem lw_p58 : lw_okq (⟨"CarriedHistoryModel", "marksWithAncestors", "([ZI)V"⟩, 72) := ⟨⟨by decide +kernel, by decide +kernel⟩, List.mem_of_getElem? (i := 1716) (by decide +kernel), List.mem_of_getElem? (i := 1961) (by decide +kernel), List.mem_of_getElem? (i := 1962) (by decide +kernel)⟩
theorem lw_p59 : lw_okq (⟨"CarriedHistoryModel", "walksBack", "([Z)V"⟩, 72) := ⟨⟨by decide +kernel, by decide +kernel⟩, List.mem_of_getElem? (i := 1716) (by decide +kernel), List.mem_of_getElem? (i := 1968) (by decide +kernel), List.mem_of_getElem? (i := 1969) (by decide +kernel)⟩
theorem lw_p60 : lw_okq (⟨"CarriedHistoryModel", "children", "(I)I"⟩, 72) := ⟨⟨by decide +kernel, by decide +kernel⟩, List.mem_of_getElem? (i := 1716) (by decide +kernel), List.mem_of_getElem? (i := 1975) (by decide +kernel), List.mem_of_getElem? (i := 1976) (by decide +kernel)⟩
theorem lw_p61 : lw_okq (⟨"CarriedHistoryModel", "unlikeParent", "(I)I"⟩, 72) := ⟨⟨by decide +kernel, by decide +kernel⟩, List.mem_of_getElem? (i := 1716) (by decide +kernel), List.mem_of_getElem? (i := 1979) (by decide +kernel), List.mem_of_getElem? (i := 1980) (by decide +kernel)⟩
theorem lw_p62 : lw_okq (⟨"CarriedHistoryModel", "gone", "(II)I"⟩, 72) := ⟨⟨by decide +kernel, by decide +kernel⟩, List.mem_of_getElem? (i := 1716) (by decide +kernel), List.mem_of_getElem? (i := 1983) (by decide +kernel), List.mem_of_getElem? (i := 1984) (by decide +kernel)⟩
theorem lw_p63 : lw_okq (⟨"CarriedHistoryModel", "pathAt", "(II)I"⟩, 72) := ⟨⟨by decide +kernel, by decide +kernel⟩, List.mem_of_getElem? (i := 1716) (by decide +kernel), List.mem_of_getElem? (i := 1987) (by decide +kernel), List.mem_of_getElem? (i := 1988) (by decide +kernel)⟩
def lw_privs_4 : List (MethodName × Nat) := [(⟨"CarriedHistory$Change", "gather", "()V"⟩, 18), (⟨"CarriedHistory$Change", "longestInBoth", "(II)I"⟩, 18), (⟨"CarriedHistory$Change", "pairNext", "()Z"⟩, 18), (⟨"CarriedHistory", "parentWithFile", "(II)I"⟩, 17), (⟨"CarriedHistory", "parentRenamed", "(II)I"⟩, 17), (⟨"CarriedHistory", "unlikeContents", "()I"⟩, 17), (⟨"CarriedHistory", "isNewContent", "(I)Z"⟩, 17), (⟨"CarriedHistoryModel", "isCommit", "(I)Z"⟩, 72), (⟨"CarriedHistoryModel", "parentAt", "(II)I"⟩, 72), (⟨"CarriedHistoryModel", "laysHeights", "()V"⟩, 72), (⟨"CarriedHistoryModel", "marksWithAncestors", "([ZI)V"⟩, 72), (⟨"CarriedHistoryModel", "walksBack", "([Z)V"⟩, 72), (⟨"CarriedHistoryModel", "children", "(I)I"⟩, 72), (⟨"CarriedHistoryModel", "unlikeParent", "(I)I"⟩, 72), (⟨"CarriedHistoryModel", "gone", "(II)I"⟩, 72), (⟨"CarriedHistoryModel", "pathAt", "(II)I"⟩, 72)]
theorem lw_r4 : ∀ q ∈ lw_privs_4, lw_okq q := List.forall_mem_cons.mpr ⟨lw_p48, List.forall_mem_cons.mpr ⟨lw_p49, List.forall_mem_cons.mpr ⟨lw_p50, List.forall_mem_cons.mpr ⟨lw_p51, List.forall_mem_cons.mpr ⟨lw_p52, List.forall_mem_cons.mpr ⟨lw_p53, List.forall_mem_cons.mpr ⟨lw_p54, List.forall_mem_cons.mpr ⟨lw_p55, List.forall_mem_cons.mpr ⟨lw_p56, List.forall_mem_cons.mpr ⟨lw_p57, List.forall_mem_cons.mpr ⟨lw_p58, List.forall_mem_cons.mpr ⟨lw_p59, List.forall_mem_cons.mpr ⟨lw_p60, List.forall_mem_cons.mpr ⟨lw_p61, List.forall_mem_cons.mpr ⟨lw_p62, List.forall_mem_cons.mpr ⟨lw_p63, fun _ h => absurd h List.not_mem_nil⟩⟩⟩⟩⟩⟩⟩⟩⟩⟩⟩⟩⟩⟩⟩⟩
theorem lw_p64 : lw_okq (⟨"CarriedHistoryModel", "fileAt", "(II)I"⟩, 72) := ⟨⟨by decide +kernel, by decide +kernel⟩, List.mem_of_getElem? (i := 1716) (by decide +kernel), List.mem_of_getElem? (i := 1994) (by decide +kernel), List.mem_of_getElem? (i := 1995) (by decide +kernel)⟩
theorem lw_p65 : lw_okq (⟨"CarriedHistoryModel", "newOnes", "(II)I"⟩, 72) := ⟨⟨by decide +kernel, by decide +kernel⟩, List.mem_of_getElem? (i := 1716) (by decide +kernel), List.mem_of_getElem? (i := 1998) (by decide +kernel), List.mem_of_getElem? (i := 1999) (by decide +kernel)⟩
theorem lw_p66 : lw_okq (⟨"CarriedHistoryModel", "changed", "(II)I"⟩, 72) := ⟨⟨by decide +kernel, by decide +kernel⟩, List.mem_of_getElem? (i := 1716) (by decide +kernel), List.mem_of_getElem? (i := 2002) (by decide +kernel), List.mem_of_getElem? (i := 2003) (by decide +kernel)⟩
theorem lw_p67 : lw_okq (⟨"CarriedHistoryModel", "contentBy", "(II)I"⟩, 72) := ⟨⟨by decide +kernel, by decide +kernel⟩, List.mem_of_getElem? (i := 1716) (by decide +kernel), List.mem_of_getElem? (i := 2006) (by decide +kernel), List.mem_of_getElem? (i := 2007) (by decide +kernel)⟩
theorem lw_p68 : lw_okq (⟨"CarriedHistoryModel", "contentAt", "(II)I"⟩, 72) := ⟨⟨by decide +kernel, by decide +kernel⟩, List.mem_of_getElem? (i := 1716) (by decide +kernel), List.mem_of_getElem? (i := 2010) (by decide +kernel), List.mem_of_getElem? (i := 2011) (by decide +kernel)⟩
theorem lw_p69 : lw_okq (⟨"CarriedHistoryModel", "isAncestor", "(II)Z"⟩, 72) := ⟨⟨by decide +kernel, by decide +kernel⟩, List.mem_of_getElem? (i := 1716) (by decide +kernel), List.mem_of_getElem? (i := 2018) (by decide +kernel), List.mem_of_getElem? (i := 2019) (by decide +kernel)⟩
theorem lw_p70 : lw_okq (⟨"CarriedHistoryModel", "types", "(I)V"⟩, 72) := ⟨⟨by decide +kernel, by decide +kernel⟩, List.mem_of_getElem? (i := 1716) (by decide +kernel), List.mem_of_getElem? (i := 2026) (by decide +kernel), List.mem_of_getElem? (i := 2027) (by decide +kernel)⟩
theorem lw_p71 : lw_okq (⟨"CarriedHistoryModel", "beginsText", "(I)V"⟩, 72) := ⟨⟨by decide +kernel, by decide +kernel⟩, List.mem_of_getElem? (i := 1716) (by decide +kernel), List.mem_of_getElem? (i := 2034) (by decide +kernel), List.mem_of_getElem? (i := 2035) (by decide +kernel)⟩
theorem lw_p72 : lw_okq (⟨"CarriedHistoryModel", "readsParents", "()Z"⟩, 72) := ⟨⟨by decide +kernel, by decide +kernel⟩, List.mem_of_getElem? (i := 1716) (by decide +kernel), List.mem_of_getElem? (i := 2038) (by decide +kernel), List.mem_of_getElem? (i := 2039) (by decide +kernel)⟩
theorem lw_p73 : lw_okq (⟨"CarriedHistoryModel", "here", "()I"⟩, 72) := ⟨⟨by decide +kernel, by decide +kernel⟩, List.mem_of_getElem? (i := 1716) (by decide +kernel), List.mem_of_getElem? (i := 2042) (by decide +kernel), List.mem_of_getElem? (i := 2043) (by decide +kernel)⟩
theorem lw_p74 : lw_okq (⟨"CarriedHistoryModel", "readsParent", "()Z"⟩, 72) := ⟨⟨by decide +kernel, by decide +kernel⟩, List.mem_of_getElem? (i := 1716) (by decide +kernel), List.mem_of_getElem? (i := 2046) (by decide +kernel), List.mem_of_getElem? (i := 2047) (by decide +kernel)⟩
theorem lw_p75 : lw_okq (⟨"CarriedHistoryModel", "wrongAt", "(II)Z"⟩, 72) := ⟨⟨by decide +kernel, by decide +kernel⟩, List.mem_of_getElem? (i := 1716) (by decide +kernel), List.mem_of_getElem? (i := 2053) (by decide +kernel), List.mem_of_getElem? (i := 2054) (by decide +kernel)⟩
theorem lw_p76 : lw_okq (⟨"CarriedHistoryModel", "readsNumber", "()Z"⟩, 72) := ⟨⟨by decide +kernel, by decide +kernel⟩, List.mem_of_getElem? (i := 1716) (by decide +kernel), List.mem_of_getElem? (i := 2057) (by decide +kernel), List.mem_of_getElem? (i := 2058) (by decide +kernel)⟩
theorem lw_p77 : lw_okq (⟨"CarriedHistoryModel", "isTold", "(I)Z"⟩, 72) := ⟨⟨by decide +kernel, by decide +kernel⟩, List.mem_of_getElem? (i := 1716) (by decide +kernel), List.mem_of_getElem? (i := 2061) (by decide +kernel), List.mem_of_getElem? (i := 2062) (by decide +kernel)⟩
theorem lw_p78 : lw_okq (⟨"CarriedHistoryModel", "takesSign", "(I)Z"⟩, 72) := ⟨⟨by decide +kernel, by decide +kernel⟩, List.mem_of_getElem? (i := 1716) (by decide +kernel), List.mem_of_getElem? (i := 2065) (by decide +kernel), List.mem_of_getElem? (i := 2066) (by decide +kernel)⟩
theorem lw_p79 : lw_okq (⟨"CarriedHistoryModel", "readsEdits", "()Z"⟩, 72) := ⟨⟨by decide +kernel, by decide +kernel⟩, List.mem_of_getElem? (i := 1716) (by decide +kernel), List.mem_of_getElem? (i := 2069) (by decide +kernel), List.mem_of_getElem? (i := 2070) (by decide +kernel)⟩
def lw_privs_5 : List (MethodName × Nat) := [(⟨"CarriedHistoryModel", "fileAt", "(II)I"⟩, 72), (⟨"CarriedHistoryModel", "newOnes", "(II)I"⟩, 72), (⟨"CarriedHistoryModel", "changed", "(II)I"⟩, 72), (⟨"CarriedHistoryModel", "contentBy", "(II)I"⟩, 72), (⟨"CarriedHistoryModel", "contentAt", "(II)I"⟩, 72), (⟨"CarriedHistoryModel", "isAncestor", "(II)Z"⟩, 72), (⟨"CarriedHistoryModel", "types", "(I)V"⟩, 72), (⟨"CarriedHistoryModel", "beginsText", "(I)V"⟩, 72), (⟨"CarriedHistoryModel", "readsParents", "()Z"⟩, 72), (⟨"CarriedHistoryModel", "here", "()I"⟩, 72), (⟨"CarriedHistoryModel", "readsParent", "()Z"⟩, 72), (⟨"CarriedHistoryModel", "wrongAt", "(II)Z"⟩, 72), (⟨"CarriedHistoryModel", "readsNumber", "()Z"⟩, 72), (⟨"CarriedHistoryModel", "isTold", "(I)Z"⟩, 72), (⟨"CarriedHistoryModel", "takesSign", "(I)Z"⟩, 72), (⟨"CarriedHistoryModel", "readsEdits", "()Z"⟩, 72)]
theorem lw_r5 : ∀ q ∈ lw_privs_5, lw_okq q := List.forall_mem_cons.mpr ⟨lw_p64, List.forall_mem_cons.mpr ⟨lw_p65, List.forall_mem_cons.mpr ⟨lw_p66, List.forall_mem_cons.mpr ⟨lw_p67, List.forall_mem_cons.mpr ⟨lw_p68, List.forall_mem_cons.mpr ⟨lw_p69, List.forall_mem_cons.mpr ⟨lw_p70, List.forall_mem_cons.mpr ⟨lw_p71, List.forall_mem_cons.mpr ⟨lw_p72, List.forall_mem_cons.mpr ⟨lw_p73, List.forall_mem_cons.mpr ⟨lw_p74, List.forall_mem_cons.mpr ⟨lw_p75, List.forall_mem_cons.mpr ⟨lw_p76, List.forall_mem_cons.mpr ⟨lw_p77, List.forall_mem_cons.mpr ⟨lw_p78, List.forall_mem_cons.mpr ⟨lw_p79, fun _ h => absurd h List.not_mem_nil⟩⟩⟩⟩⟩⟩⟩⟩⟩⟩⟩⟩⟩⟩⟩⟩
theorem lw_p80 : lw_okq (⟨"CarriedHistoryModel", "copyTree", "(II)V"⟩, 72) := ⟨⟨by decide +kernel, by decide +kernel⟩, List.mem_of_getElem? (i := 1716) (by decide +kernel), List.mem_of_getElem? (i := 2073) (by decide +kernel), List.mem_of_getElem? (i := 2074) (by decide +kernel)⟩
theorem lw_p81 : lw_okq (⟨"CarriedHistoryModel", "readsEdit", "()Z"⟩, 72) := ⟨⟨by decide +kernel, by decide +kernel⟩, List.mem_of_getElem? (i := 1716) (by decide +kernel), List.mem_of_getElem? (i := 2077) (by decide +kernel), List.mem_of_getElem? (i := 2078) (by decide +kernel)⟩
theorem lw_p82 : lw_okq (⟨"CarriedHistoryModel", "setsFile", "(I)Z"⟩, 72) := ⟨⟨by decide +kernel, by decide +kernel⟩, List.mem_of_getElem? (i := 1716) (by decide +kernel), List.mem_of_getElem? (i := 2081) (by decide +kernel), List.mem_of_getElem? (i := 2082) (by decide +kernel)⟩
theorem lw_p83 : lw_okq (⟨"CarriedHistoryModel", "readsPath", "(I)Z"⟩, 72) := ⟨⟨by decide +kernel, by decide +kernel⟩, List.mem_of_getElem? (i := 1716) (by decide +kernel), List.mem_of_getElem? (i := 2085) (by decide +kernel), List.mem_of_getElem? (i := 2086) (by decide +kernel)⟩
theorem lw_p84 : lw_okq (⟨"CarriedHistoryModel", "readsContent", "()Z"⟩, 72) := ⟨⟨by decide +kernel, by decide +kernel⟩, List.mem_of_getElem? (i := 1716) (by decide +kernel), List.mem_of_getElem? (i := 2092) (by decide +kernel), List.mem_of_getElem? (i := 2093) (by decide +kernel)⟩
theorem lw_p85 : lw_okq (⟨"CarriedHistoryModel", "kindAt", "(II)I"⟩, 72) := ⟨⟨by decide +kernel, by decide +kernel⟩, List.mem_of_getElem? (i := 1716) (by decide +kernel), List.mem_of_getElem? (i := 2096) (by decide +kernel), List.mem_of_getElem? (i := 2097) (by decide +kernel)⟩
theorem lw_p86 : lw_okq (⟨"CarriedHistoryModel", "filesBelow", "(II)I"⟩, 72) := ⟨⟨by decide +kernel, by decide +kernel⟩, List.mem_of_getElem? (i := 1716) (by decide +kernel), List.mem_of_getElem? (i := 2100) (by decide +kernel), List.mem_of_getElem? (i := 2101) (by decide +kernel)⟩
theorem lw_p87 : lw_okq (⟨"CarriedHistoryModel", "isBarred", "(II)Z"⟩, 72) := ⟨⟨by decide +kernel, by decide +kernel⟩, List.mem_of_getElem? (i := 1716) (by decide +kernel), List.mem_of_getElem? (i := 2113) (by decide +kernel), List.mem_of_getElem? (i := 2114) (by decide +kernel)⟩
theorem lw_p88 : lw_okq (⟨"CarriedHistoryModel", "puts", "(III)V"⟩, 72) := ⟨⟨by decide +kernel, by decide +kernel⟩, List.mem_of_getElem? (i := 1716) (by decide +kernel), List.mem_of_getElem? (i := 2117) (by decide +kernel), List.mem_of_getElem? (i := 2118) (by decide +kernel)⟩
theorem lw_p89 : lw_okq (⟨"CarriedHistoryModel", "takesAway", "(I)Z"⟩, 72) := ⟨⟨by decide +kernel, by decide +kernel⟩, List.mem_of_getElem? (i := 1716) (by decide +kernel), List.mem_of_getElem? (i := 2121) (by decide +kernel), List.mem_of_getElem? (i := 2122) (by decide +kernel)⟩
theorem lw_p90 : lw_okq (⟨"CarriedHistoryModel", "takes", "(II)V"⟩, 72) := ⟨⟨by decide +kernel, by decide +kernel⟩, List.mem_of_getElem? (i := 1716) (by decide +kernel), List.mem_of_getElem? (i := 2125) (by decide +kernel), List.mem_of_getElem? (i := 2126) (by decide +kernel)⟩
theorem lw_p91 : lw_okq (⟨"CarriedHistoryModel", "movesThere", "(I)Z"⟩, 72) := ⟨⟨by decide +kernel, by decide +kernel⟩, List.mem_of_getElem? (i := 1716) (by decide +kernel), List.mem_of_getElem? (i := 2129) (by decide +kernel), List.mem_of_getElem? (i := 2130) (by decide +kernel)⟩
theorem lw_p92 : lw_okq (⟨"CarriedHistoryModel", "isTooLong", "(II)Z"⟩, 72) := ⟨⟨by decide +kernel, by decide +kernel⟩, List.mem_of_getElem? (i := 1716) (by decide +kernel), List.mem_of_getElem? (i := 2133) (by decide +kernel), List.mem_of_getElem? (i := 2134) (by decide +kernel)⟩
theorem lw_p93 : lw_okq (⟨"CarriedHistoryModel", "fetches", "(I)Z"⟩, 72) := ⟨⟨by decide +kernel, by decide +kernel⟩, List.mem_of_getElem? (i := 1716) (by decide +kernel), List.mem_of_getElem? (i := 2141) (by decide +kernel), List.mem_of_getElem? (i := 2142) (by decide +kernel)⟩
theorem lw_p94 : lw_okq (⟨"CarriedHistoryModel", "readsSaid", "()Z"⟩, 72) := ⟨⟨by decide +kernel, by decide +kernel⟩, List.mem_of_getElem? (i := 1716) (by decide +kernel), List.mem_of_getElem? (i := 2145) (by decide +kernel), List.mem_of_getElem? (i := 2146) (by decide +kernel)⟩
theorem lw_p95 : lw_okq (⟨"CarriedHistoryModel", "comes", "(III)I"⟩, 72) := ⟨⟨by decide +kernel, by decide +kernel⟩, List.mem_of_getElem? (i := 1716) (by decide +kernel), List.mem_of_getElem? (i := 2149) (by decide +kernel), List.mem_of_getElem? (i := 2150) (by decide +kernel)⟩
def lw_privs_6 : List (MethodName × Nat) := [(⟨"CarriedHistoryModel", "copyTree", "(II)V"⟩, 72), (⟨"CarriedHistoryModel", "readsEdit", "()Z"⟩, 72), (⟨"CarriedHistoryModel", "setsFile", "(I)Z"⟩, 72), (⟨"CarriedHistoryModel", "readsPath", "(I)Z"⟩, 72), (⟨"CarriedHistoryModel", "readsContent", "()Z"⟩, 72), (⟨"CarriedHistoryModel", "kindAt", "(II)I"⟩, 72), (⟨"CarriedHistoryModel", "filesBelow", "(II)I"⟩, 72), (⟨"CarriedHistoryModel", "isBarred", "(II)Z"⟩, 72), (⟨"CarriedHistoryModel", "puts", "(III)V"⟩, 72), (⟨"CarriedHistoryModel", "takesAway", "(I)Z"⟩, 72), (⟨"CarriedHistoryModel", "takes", "(II)V"⟩, 72), (⟨"CarriedHistoryModel", "movesThere", "(I)Z"⟩, 72), (⟨"CarriedHistoryModel", "isTooLong", "(II)Z"⟩, 72), (⟨"CarriedHistoryModel", "fetches", "(I)Z"⟩, 72), (⟨"CarriedHistoryModel", "readsSaid", "()Z"⟩, 72), (⟨"CarriedHistoryModel", "comes", "(III)I"⟩, 72)]
theorem lw_r6 : ∀ q ∈ lw_privs_6, lw_okq q := List.forall_mem_cons.mpr ⟨lw_p80, List.forall_mem_cons.mpr ⟨lw_p81, List.forall_mem_cons.mpr ⟨lw_p82, List.forall_mem_cons.mpr ⟨lw_p83, List.forall_mem_cons.mpr ⟨lw_p84, List.forall_mem_cons.mpr ⟨lw_p85, List.forall_mem_cons.mpr ⟨lw_p86, List.forall_mem_cons.mpr ⟨lw_p87, List.forall_mem_cons.mpr ⟨lw_p88, List.forall_mem_cons.mpr ⟨lw_p89, List.forall_mem_cons.mpr ⟨lw_p90, List.forall_mem_cons.mpr ⟨lw_p91, List.forall_mem_cons.mpr ⟨lw_p92, List.forall_mem_cons.mpr ⟨lw_p93, List.forall_mem_cons.mpr ⟨lw_p94, List.forall_mem_cons.mpr ⟨lw_p95, fun _ h => absurd h List.not_mem_nil⟩⟩⟩⟩⟩⟩⟩⟩⟩⟩⟩⟩⟩⟩⟩⟩
theorem lw_p96 : lw_okq (⟨"CarriedHistoryModel", "isSameAs", "(IIII)Z"⟩, 72) := ⟨⟨by decide +kernel, by decide +kernel⟩, List.mem_of_getElem? (i := 1716) (by decide +kernel), List.mem_of_getElem? (i := 2153) (by decide +kernel), List.mem_of_getElem? (i := 2154) (by decide +kernel)⟩
theorem lw_p97 : lw_okq (⟨"CarriedHistoryModel", "areLike", "(II)Z"⟩, 72) := ⟨⟨by decide +kernel, by decide +kernel⟩, List.mem_of_getElem? (i := 1716) (by decide +kernel), List.mem_of_getElem? (i := 2157) (by decide +kernel), List.mem_of_getElem? (i := 2158) (by decide +kernel)⟩
theorem lw_p98 : lw_okq (⟨"CarriedHistoryModel", "refs", "(I)I"⟩, 72) := ⟨⟨by decide +kernel, by decide +kernel⟩, List.mem_of_getElem? (i := 1716) (by decide +kernel), List.mem_of_getElem? (i := 2168) (by decide +kernel), List.mem_of_getElem? (i := 2169) (by decide +kernel)⟩
theorem lw_p99 : lw_okq (⟨"CarriedHistoryModel", "laysRef", "(IIII)V"⟩, 72) := ⟨⟨by decide +kernel, by decide +kernel⟩, List.mem_of_getElem? (i := 1716) (by decide +kernel), List.mem_of_getElem? (i := 2172) (by decide +kernel), List.mem_of_getElem? (i := 2173) (by decide +kernel)⟩
theorem lw_p100 : lw_okq (⟨"CarriedHistoryModel", "beginsPlan", "()V"⟩, 72) := ⟨⟨by decide +kernel, by decide +kernel⟩, List.mem_of_getElem? (i := 1716) (by decide +kernel), List.mem_of_getElem? (i := 2187) (by decide +kernel), List.mem_of_getElem? (i := 2188) (by decide +kernel)⟩
theorem lw_p101 : lw_okq (⟨"CarriedHistoryModel", "readsHistory", "(II)Z"⟩, 72) := ⟨⟨by decide +kernel, by decide +kernel⟩, List.mem_of_getElem? (i := 1716) (by decide +kernel), List.mem_of_getElem? (i := 2192) (by decide +kernel), List.mem_of_getElem? (i := 2193) (by decide +kernel)⟩
theorem lw_p102 : lw_okq (⟨"CarriedHistoryModel", "readsWord", "()V"⟩, 72) := ⟨⟨by decide +kernel, by decide +kernel⟩, List.mem_of_getElem? (i := 1716) (by decide +kernel), List.mem_of_getElem? (i := 2196) (by decide +kernel), List.mem_of_getElem? (i := 2197) (by decide +kernel)⟩
theorem lw_p103 : lw_okq (⟨"CarriedHistoryModel", "readsUpTo", "(II)Z"⟩, 72) := ⟨⟨by decide +kernel, by decide +kernel⟩, List.mem_of_getElem? (i := 1716) (by decide +kernel), List.mem_of_getElem? (i := 2200) (by decide +kernel), List.mem_of_getElem? (i := 2201) (by decide +kernel)⟩
theorem lw_p104 : lw_okq (⟨"CarriedHistoryModel", "readsLine", "()Z"⟩, 72) := ⟨⟨by decide +kernel, by decide +kernel⟩, List.mem_of_getElem? (i := 1716) (by decide +kernel), List.mem_of_getElem? (i := 2204) (by decide +kernel), List.mem_of_getElem? (i := 2205) (by decide +kernel)⟩
theorem lw_p105 : lw_okq (⟨"CarriedHistoryModel", "readsList", "(I)Z"⟩, 72) := ⟨⟨by decide +kernel, by decide +kernel⟩, List.mem_of_getElem? (i := 1716) (by decide +kernel), List.mem_of_getElem? (i := 2230) (by decide +kernel), List.mem_of_getElem? (i := 2231) (by decide +kernel)⟩
theorem lw_p106 : lw_okq (⟨"CarriedHistoryModel", "readsGraft", "()Z"⟩, 72) := ⟨⟨by decide +kernel, by decide +kernel⟩, List.mem_of_getElem? (i := 1716) (by decide +kernel), List.mem_of_getElem? (i := 2234) (by decide +kernel), List.mem_of_getElem? (i := 2235) (by decide +kernel)⟩
theorem lw_p107 : lw_okq (⟨"CarriedHistoryModel", "isNamed", "(II)Z"⟩, 72) := ⟨⟨by decide +kernel, by decide +kernel⟩, List.mem_of_getElem? (i := 1716) (by decide +kernel), List.mem_of_getElem? (i := 2238) (by decide +kernel), List.mem_of_getElem? (i := 2239) (by decide +kernel)⟩
theorem lw_p108 : lw_okq (⟨"CarriedHistoryModel", "adds", "(III)Z"⟩, 72) := ⟨⟨by decide +kernel, by decide +kernel⟩, List.mem_of_getElem? (i := 1716) (by decide +kernel), List.mem_of_getElem? (i := 2245) (by decide +kernel), List.mem_of_getElem? (i := 2246) (by decide +kernel)⟩
theorem lw_p109 : lw_okq (⟨"CarriedHistoryModel", "readsPair", "(I)Z"⟩, 72) := ⟨⟨by decide +kernel, by decide +kernel⟩, List.mem_of_getElem? (i := 1716) (by decide +kernel), List.mem_of_getElem? (i := 2249) (by decide +kernel), List.mem_of_getElem? (i := 2250) (by decide +kernel)⟩
theorem lw_p110 : lw_okq (⟨"CarriedHistoryModel", "readsFirst", "(I)Z"⟩, 72) := ⟨⟨by decide +kernel, by decide +kernel⟩, List.mem_of_getElem? (i := 1716) (by decide +kernel), List.mem_of_getElem? (i := 2253) (by decide +kernel), List.mem_of_getElem? (i := 2254) (by decide +kernel)⟩
theorem lw_p111 : lw_okq (⟨"CarriedHistoryModel", "readsPlace", "()Z"⟩, 72) := ⟨⟨by decide +kernel, by decide +kernel⟩, List.mem_of_getElem? (i := 1716) (by decide +kernel), List.mem_of_getElem? (i := 2257) (by decide +kernel), List.mem_of_getElem? (i := 2258) (by decide +kernel)⟩
def lw_privs_7 : List (MethodName × Nat) := [(⟨"CarriedHistoryModel", "isSameAs", "(IIII)Z"⟩, 72), (⟨"CarriedHistoryModel", "areLike", "(II)Z"⟩, 72), (⟨"CarriedHistoryModel", "refs", "(I)I"⟩, 72), (⟨"CarriedHistoryModel", "laysRef", "(IIII)V"⟩, 72), (⟨"CarriedHistoryModel", "beginsPlan", "()V"⟩, 72), (⟨"CarriedHistoryModel", "readsHistory", "(II)Z"⟩, 72), (⟨"CarriedHistoryModel", "readsWord", "()V"⟩, 72), (⟨"CarriedHistoryModel", "readsUpTo", "(II)Z"⟩, 72), (⟨"CarriedHistoryModel", "readsLine", "()Z"⟩, 72), (⟨"CarriedHistoryModel", "readsList", "(I)Z"⟩, 72), (⟨"CarriedHistoryModel", "readsGraft", "()Z"⟩, 72), (⟨"CarriedHistoryModel", "isNamed", "(II)Z"⟩, 72), (⟨"CarriedHistoryModel", "adds", "(III)Z"⟩, 72), (⟨"CarriedHistoryModel", "readsPair", "(I)Z"⟩, 72), (⟨"CarriedHistoryModel", "readsFirst", "(I)Z"⟩, 72), (⟨"CarriedHistoryModel", "readsPlace", "()Z"⟩, 72)]
theorem lw_r7 : ∀ q ∈ lw_privs_7, lw_okq q := List.forall_mem_cons.mpr ⟨lw_p96, List.forall_mem_cons.mpr ⟨lw_p97, List.forall_mem_cons.mpr ⟨lw_p98, List.forall_mem_cons.mpr ⟨lw_p99, List.forall_mem_cons.mpr ⟨lw_p100, List.forall_mem_cons.mpr ⟨lw_p101, List.forall_mem_cons.mpr ⟨lw_p102, List.forall_mem_cons.mpr ⟨lw_p103, List.forall_mem_cons.mpr ⟨lw_p104, List.forall_mem_cons.mpr ⟨lw_p105, List.forall_mem_cons.mpr ⟨lw_p106, List.forall_mem_cons.mpr ⟨lw_p107, List.forall_mem_cons.mpr ⟨lw_p108, List.forall_mem_cons.mpr ⟨lw_p109, List.forall_mem_cons.mpr ⟨lw_p110, List.forall_mem_cons.mpr ⟨lw_p111, fun _ h => absurd h List.not_mem_nil⟩⟩⟩⟩⟩⟩⟩⟩⟩⟩⟩⟩⟩⟩⟩⟩
theorem lw_p112 : lw_okq (⟨"CarriedHistoryModel", "readsLetters", "()Z"⟩, 72) := ⟨⟨by decide +kernel, by decide +kernel⟩, List.mem_of_getElem? (i := 1716) (by decide +kernel), List.mem_of_getElem? (i := 2261) (by decide +kernel), List.mem_of_getElem? (i := 2262) (by decide +kernel)⟩
theorem lw_p113 : lw_okq (⟨"CarriedHistoryModel", "readsOnce", "(I)Z"⟩, 72) := ⟨⟨by decide +kernel, by decide +kernel⟩, List.mem_of_getElem? (i := 1716) (by decide +kernel), List.mem_of_getElem? (i := 2265) (by decide +kernel), List.mem_of_getElem? (i := 2266) (by decide +kernel)⟩
theorem lw_p114 : lw_okq (⟨"CarriedHistoryModel", "readsSign", "()Z"⟩, 72) := ⟨⟨by decide +kernel, by decide +kernel⟩, List.mem_of_getElem? (i := 1716) (by decide +kernel), List.mem_of_getElem? (i := 2269) (by decide +kernel), List.mem_of_getElem? (i := 2270) (by decide +kernel)⟩
theorem lw_p115 : lw_okq (⟨"CarriedHistoryModel", "readsSkip", "()Z"⟩, 72) := ⟨⟨by decide +kernel, by decide +kernel⟩, List.mem_of_getElem? (i := 1716) (by decide +kernel), List.mem_of_getElem? (i := 2273) (by decide +kernel), List.mem_of_getElem? (i := 2274) (by decide +kernel)⟩
theorem lw_p116 : lw_okq (⟨"CarriedHistoryModel", "forgets", "(I)V"⟩, 72) := ⟨⟨by decide +kernel, by decide +kernel⟩, List.mem_of_getElem? (i := 1716) (by decide +kernel), List.mem_of_getElem? (i := 2277) (by decide +kernel), List.mem_of_getElem? (i := 2278) (by decide +kernel)⟩
theorem lw_p117 : lw_okq (⟨"CarriedHistoryModel", "isToldPlan", "(I)Z"⟩, 72) := ⟨⟨by decide +kernel, by decide +kernel⟩, List.mem_of_getElem? (i := 1716) (by decide +kernel), List.mem_of_getElem? (i := 2285) (by decide +kernel), List.mem_of_getElem? (i := 2286) (by decide +kernel)⟩
theorem lw_p118 : lw_okq (⟨"CarriedHistoryModel", "ofPlan", "(II)I"⟩, 72) := ⟨⟨by decide +kernel, by decide +kernel⟩, List.mem_of_getElem? (i := 1716) (by decide +kernel), List.mem_of_getElem? (i := 2289) (by decide +kernel), List.mem_of_getElem? (i := 2290) (by decide +kernel)⟩
theorem lw_p119 : lw_okq (⟨"CarriedHistoryModel", "manyOf", "(II)I"⟩, 72) := ⟨⟨by decide +kernel, by decide +kernel⟩, List.mem_of_getElem? (i := 1716) (by decide +kernel), List.mem_of_getElem? (i := 2293) (by decide +kernel), List.mem_of_getElem? (i := 2294) (by decide +kernel)⟩
theorem lw_p120 : lw_okq (⟨"CarriedHistoryModel", "mapped", "(II)I"⟩, 72) := ⟨⟨by decide +kernel, by decide +kernel⟩, List.mem_of_getElem? (i := 1716) (by decide +kernel), List.mem_of_getElem? (i := 2297) (by decide +kernel), List.mem_of_getElem? (i := 2298) (by decide +kernel)⟩
theorem lw_p121 : lw_okq (⟨"CarriedHistoryModel", "withoutImage", "(I)I"⟩, 72) := ⟨⟨by decide +kernel, by decide +kernel⟩, List.mem_of_getElem? (i := 1716) (by decide +kernel), List.mem_of_getElem? (i := 2301) (by decide +kernel), List.mem_of_getElem? (i := 2302) (by decide +kernel)⟩
theorem lw_p122 : lw_okq (⟨"CarriedHistoryModel", "remembers", "(I)V"⟩, 72) := ⟨⟨by decide +kernel, by decide +kernel⟩, List.mem_of_getElem? (i := 1716) (by decide +kernel), List.mem_of_getElem? (i := 2309) (by decide +kernel), List.mem_of_getElem? (i := 2310) (by decide +kernel)⟩
theorem lw_p123 : lw_okq (⟨"CarriedHistoryModel", "runs", "(I)I"⟩, 72) := ⟨⟨by decide +kernel, by decide +kernel⟩, List.mem_of_getElem? (i := 1716) (by decide +kernel), List.mem_of_getElem? (i := 2313) (by decide +kernel), List.mem_of_getElem? (i := 2314) (by decide +kernel)⟩
theorem lw_p124 : lw_okq (⟨"CarriedHistoryModel", "marksPlan", "(I)V"⟩, 72) := ⟨⟨by decide +kernel, by decide +kernel⟩, List.mem_of_getElem? (i := 1716) (by decide +kernel), List.mem_of_getElem? (i := 2317) (by decide +kernel), List.mem_of_getElem? (i := 2318) (by decide +kernel)⟩
theorem lw_p125 : lw_okq (⟨"CarriedHistoryModel", "walksFore", "(I[Z)V"⟩, 72) := ⟨⟨by decide +kernel, by decide +kernel⟩, List.mem_of_getElem? (i := 1716) (by decide +kernel), List.mem_of_getElem? (i := 2321) (by decide +kernel), List.mem_of_getElem? (i := 2322) (by decide +kernel)⟩
theorem lw_p126 : lw_okq (⟨"CarriedHistoryModel", "foreMany", "(II)I"⟩, 72) := ⟨⟨by decide +kernel, by decide +kernel⟩, List.mem_of_getElem? (i := 1716) (by decide +kernel), List.mem_of_getElem? (i := 2325) (by decide +kernel), List.mem_of_getElem? (i := 2326) (by decide +kernel)⟩
theorem lw_p127 : lw_okq (⟨"CarriedHistoryModel", "graftOf", "(II)I"⟩, 72) := ⟨⟨by decide +kernel, by decide +kernel⟩, List.mem_of_getElem? (i := 1716) (by decide +kernel), List.mem_of_getElem? (i := 2329) (by decide +kernel), List.mem_of_getElem? (i := 2330) (by decide +kernel)⟩
def lw_privs_8 : List (MethodName × Nat) := [(⟨"CarriedHistoryModel", "readsLetters", "()Z"⟩, 72), (⟨"CarriedHistoryModel", "readsOnce", "(I)Z"⟩, 72), (⟨"CarriedHistoryModel", "readsSign", "()Z"⟩, 72), (⟨"CarriedHistoryModel", "readsSkip", "()Z"⟩, 72), (⟨"CarriedHistoryModel", "forgets", "(I)V"⟩, 72), (⟨"CarriedHistoryModel", "isToldPlan", "(I)Z"⟩, 72), (⟨"CarriedHistoryModel", "ofPlan", "(II)I"⟩, 72), (⟨"CarriedHistoryModel", "manyOf", "(II)I"⟩, 72), (⟨"CarriedHistoryModel", "mapped", "(II)I"⟩, 72), (⟨"CarriedHistoryModel", "withoutImage", "(I)I"⟩, 72), (⟨"CarriedHistoryModel", "remembers", "(I)V"⟩, 72), (⟨"CarriedHistoryModel", "runs", "(I)I"⟩, 72), (⟨"CarriedHistoryModel", "marksPlan", "(I)V"⟩, 72), (⟨"CarriedHistoryModel", "walksFore", "(I[Z)V"⟩, 72), (⟨"CarriedHistoryModel", "foreMany", "(II)I"⟩, 72), (⟨"CarriedHistoryModel", "graftOf", "(II)I"⟩, 72)]
theorem lw_r8 : ∀ q ∈ lw_privs_8, lw_okq q := List.forall_mem_cons.mpr ⟨lw_p112, List.forall_mem_cons.mpr ⟨lw_p113, List.forall_mem_cons.mpr ⟨lw_p114, List.forall_mem_cons.mpr ⟨lw_p115, List.forall_mem_cons.mpr ⟨lw_p116, List.forall_mem_cons.mpr ⟨lw_p117, List.forall_mem_cons.mpr ⟨lw_p118, List.forall_mem_cons.mpr ⟨lw_p119, List.forall_mem_cons.mpr ⟨lw_p120, List.forall_mem_cons.mpr ⟨lw_p121, List.forall_mem_cons.mpr ⟨lw_p122, List.forall_mem_cons.mpr ⟨lw_p123, List.forall_mem_cons.mpr ⟨lw_p124, List.forall_mem_cons.mpr ⟨lw_p125, List.forall_mem_cons.mpr ⟨lw_p126, List.forall_mem_cons.mpr ⟨lw_p127, fun _ h => absurd h List.not_mem_nil⟩⟩⟩⟩⟩⟩⟩⟩⟩⟩⟩⟩⟩⟩⟩⟩
theorem lw_p128 : lw_okq (⟨"CarriedHistoryModel", "firstOf", "(III)I"⟩, 72) := ⟨⟨by decide +kernel, by decide +kernel⟩, List.mem_of_getElem? (i := 1716) (by decide +kernel), List.mem_of_getElem? (i := 2333) (by decide +kernel), List.mem_of_getElem? (i := 2334) (by decide +kernel)⟩
theorem lw_p129 : lw_okq (⟨"CarriedHistoryModel", "secondOf", "(III)I"⟩, 72) := ⟨⟨by decide +kernel, by decide +kernel⟩, List.mem_of_getElem? (i := 1716) (by decide +kernel), List.mem_of_getElem? (i := 2337) (by decide +kernel), List.mem_of_getElem? (i := 2338) (by decide +kernel)⟩
theorem lw_p130 : lw_okq (⟨"CarriedHistoryModel", "foreAt", "(III)I"⟩, 72) := ⟨⟨by decide +kernel, by decide +kernel⟩, List.mem_of_getElem? (i := 1716) (by decide +kernel), List.mem_of_getElem? (i := 2341) (by decide +kernel), List.mem_of_getElem? (i := 2342) (by decide +kernel)⟩
theorem lw_p131 : lw_okq (⟨"CarriedHistoryModel", "rewrites", "(II)Z"⟩, 72) := ⟨⟨by decide +kernel, by decide +kernel⟩, List.mem_of_getElem? (i := 1716) (by decide +kernel), List.mem_of_getElem? (i := 2345) (by decide +kernel), List.mem_of_getElem? (i := 2346) (by decide +kernel)⟩
theorem lw_p132 : lw_okq (⟨"CarriedHistoryModel", "carriesTree", "(II)V"⟩, 72) := ⟨⟨by decide +kernel, by decide +kernel⟩, List.mem_of_getElem? (i := 1716) (by decide +kernel), List.mem_of_getElem? (i := 2349) (by decide +kernel), List.mem_of_getElem? (i := 2350) (by decide +kernel)⟩
theorem lw_p133 : lw_okq (⟨"CarriedHistoryModel", "isTaken", "(III)Z"⟩, 72) := ⟨⟨by decide +kernel, by decide +kernel⟩, List.mem_of_getElem? (i := 1716) (by decide +kernel), List.mem_of_getElem? (i := 2353) (by decide +kernel), List.mem_of_getElem? (i := 2354) (by decide +kernel)⟩
theorem lw_p134 : lw_okq (⟨"CarriedHistoryModel", "carriedPath", "(II)I"⟩, 72) := ⟨⟨by decide +kernel, by decide +kernel⟩, List.mem_of_getElem? (i := 1716) (by decide +kernel), List.mem_of_getElem? (i := 2360) (by decide +kernel), List.mem_of_getElem? (i := 2361) (by decide +kernel)⟩
theorem lw_p135 : lw_okq (⟨"CarriedHistoryModel", "moveOf", "(II)I"⟩, 72) := ⟨⟨by decide +kernel, by decide +kernel⟩, List.mem_of_getElem? (i := 1716) (by decide +kernel), List.mem_of_getElem? (i := 2364) (by decide +kernel), List.mem_of_getElem? (i := 2365) (by decide +kernel)⟩
theorem lw_p136 : lw_okq (⟨"CarriedHistoryModel", "isInTheWay", "(I)Z"⟩, 72) := ⟨⟨by decide +kernel, by decide +kernel⟩, List.mem_of_getElem? (i := 1716) (by decide +kernel), List.mem_of_getElem? (i := 2368) (by decide +kernel), List.mem_of_getElem? (i := 2369) (by decide +kernel)⟩
theorem lw_p137 : lw_okq (⟨"CarriedHistoryModel", "swapped", "(II)I"⟩, 72) := ⟨⟨by decide +kernel, by decide +kernel⟩, List.mem_of_getElem? (i := 1716) (by decide +kernel), List.mem_of_getElem? (i := 2372) (by decide +kernel), List.mem_of_getElem? (i := 2373) (by decide +kernel)⟩
theorem lw_p138 : lw_okq (⟨"CarriedHistoryModel", "carriesParents", "(II)V"⟩, 72) := ⟨⟨by decide +kernel, by decide +kernel⟩, List.mem_of_getElem? (i := 1716) (by decide +kernel), List.mem_of_getElem? (i := 2376) (by decide +kernel), List.mem_of_getElem? (i := 2377) (by decide +kernel)⟩
theorem lw_p139 : lw_okq (⟨"CarriedHistoryModel", "carriesAll", "(II)V"⟩, 72) := ⟨⟨by decide +kernel, by decide +kernel⟩, List.mem_of_getElem? (i := 1716) (by decide +kernel), List.mem_of_getElem? (i := 2380) (by decide +kernel), List.mem_of_getElem? (i := 2381) (by decide +kernel)⟩
theorem lw_p140 : lw_okq (⟨"CarriedHistoryModel", "imageAt", "(II)I"⟩, 72) := ⟨⟨by decide +kernel, by decide +kernel⟩, List.mem_of_getElem? (i := 1716) (by decide +kernel), List.mem_of_getElem? (i := 2384) (by decide +kernel), List.mem_of_getElem? (i := 2385) (by decide +kernel)⟩
theorem lw_p141 : lw_okq (⟨"CarriedHistoryModel", "isCarried", "(I)Z"⟩, 72) := ⟨⟨by decide +kernel, by decide +kernel⟩, List.mem_of_getElem? (i := 1716) (by decide +kernel), List.mem_of_getElem? (i := 2388) (by decide +kernel), List.mem_of_getElem? (i := 2389) (by decide +kernel)⟩
theorem lw_p142 : lw_okq (⟨"CarriedHistoryModel", "goesFor", "(III)Z"⟩, 72) := ⟨⟨by decide +kernel, by decide +kernel⟩, List.mem_of_getElem? (i := 1716) (by decide +kernel), List.mem_of_getElem? (i := 2392) (by decide +kernel), List.mem_of_getElem? (i := 2393) (by decide +kernel)⟩
theorem lw_p143 : lw_okq (⟨"CarriedHistoryModel", "isElder", "(III)Z"⟩, 72) := ⟨⟨by decide +kernel, by decide +kernel⟩, List.mem_of_getElem? (i := 1716) (by decide +kernel), List.mem_of_getElem? (i := 2396) (by decide +kernel), List.mem_of_getElem? (i := 2397) (by decide +kernel)⟩
def lw_privs_9 : List (MethodName × Nat) := [(⟨"CarriedHistoryModel", "firstOf", "(III)I"⟩, 72), (⟨"CarriedHistoryModel", "secondOf", "(III)I"⟩, 72), (⟨"CarriedHistoryModel", "foreAt", "(III)I"⟩, 72), (⟨"CarriedHistoryModel", "rewrites", "(II)Z"⟩, 72), (⟨"CarriedHistoryModel", "carriesTree", "(II)V"⟩, 72), (⟨"CarriedHistoryModel", "isTaken", "(III)Z"⟩, 72), (⟨"CarriedHistoryModel", "carriedPath", "(II)I"⟩, 72), (⟨"CarriedHistoryModel", "moveOf", "(II)I"⟩, 72), (⟨"CarriedHistoryModel", "isInTheWay", "(I)Z"⟩, 72), (⟨"CarriedHistoryModel", "swapped", "(II)I"⟩, 72), (⟨"CarriedHistoryModel", "carriesParents", "(II)V"⟩, 72), (⟨"CarriedHistoryModel", "carriesAll", "(II)V"⟩, 72), (⟨"CarriedHistoryModel", "imageAt", "(II)I"⟩, 72), (⟨"CarriedHistoryModel", "isCarried", "(I)Z"⟩, 72), (⟨"CarriedHistoryModel", "goesFor", "(III)Z"⟩, 72), (⟨"CarriedHistoryModel", "isElder", "(III)Z"⟩, 72)]
theorem lw_r9 : ∀ q ∈ lw_privs_9, lw_okq q := List.forall_mem_cons.mpr ⟨lw_p128, List.forall_mem_cons.mpr ⟨lw_p129, List.forall_mem_cons.mpr ⟨lw_p130, List.forall_mem_cons.mpr ⟨lw_p131, List.forall_mem_cons.mpr ⟨lw_p132, List.forall_mem_cons.mpr ⟨lw_p133, List.forall_mem_cons.mpr ⟨lw_p134, List.forall_mem_cons.mpr ⟨lw_p135, List.forall_mem_cons.mpr ⟨lw_p136, List.forall_mem_cons.mpr ⟨lw_p137, List.forall_mem_cons.mpr ⟨lw_p138, List.forall_mem_cons.mpr ⟨lw_p139, List.forall_mem_cons.mpr ⟨lw_p140, List.forall_mem_cons.mpr ⟨lw_p141, List.forall_mem_cons.mpr ⟨lw_p142, List.forall_mem_cons.mpr ⟨lw_p143, fun _ h => absurd h List.not_mem_nil⟩⟩⟩⟩⟩⟩⟩⟩⟩⟩⟩⟩⟩⟩⟩⟩
theorem lw_p144 : lw_okq (⟨"CarriedHistoryModel", "marksElders", "(II)V"⟩, 72) := ⟨⟨by decide +kernel, by decide +kernel⟩, List.mem_of_getElem? (i := 1716) (by decide +kernel), List.mem_of_getElem? (i := 2400) (by decide +kernel), List.mem_of_getElem? (i := 2401) (by decide +kernel)⟩
theorem lw_p145 : lw_okq (⟨"CarriedHistoryModel", "closesUp", "()V"⟩, 72) := ⟨⟨by decide +kernel, by decide +kernel⟩, List.mem_of_getElem? (i := 1716) (by decide +kernel), List.mem_of_getElem? (i := 2404) (by decide +kernel), List.mem_of_getElem? (i := 2405) (by decide +kernel)⟩
theorem lw_p146 : lw_okq (⟨"CarriedHistoryModel", "isEmpty", "(II)Z"⟩, 72) := ⟨⟨by decide +kernel, by decide +kernel⟩, List.mem_of_getElem? (i := 1716) (by decide +kernel), List.mem_of_getElem? (i := 2408) (by decide +kernel), List.mem_of_getElem? (i := 2409) (by decide +kernel)⟩
theorem lw_p147 : lw_okq (⟨"CarriedHistoryModel", "isEmptyByItself", "(II)Z"⟩, 72) := ⟨⟨by decide +kernel, by decide +kernel⟩, List.mem_of_getElem? (i := 1716) (by decide +kernel), List.mem_of_getElem? (i := 2412) (by decide +kernel), List.mem_of_getElem? (i := 2413) (by decide +kernel)⟩
theorem lw_p148 : lw_okq (⟨"CarriedHistoryModel", "isSkipped", "(II)Z"⟩, 72) := ⟨⟨by decide +kernel, by decide +kernel⟩, List.mem_of_getElem? (i := 1716) (by decide +kernel), List.mem_of_getElem? (i := 2416) (by decide +kernel), List.mem_of_getElem? (i := 2417) (by decide +kernel)⟩
theorem lw_p149 : lw_okq (⟨"CarriedHistoryModel", "maps", "(IIII)V"⟩, 72) := ⟨⟨by decide +kernel, by decide +kernel⟩, List.mem_of_getElem? (i := 1716) (by decide +kernel), List.mem_of_getElem? (i := 2420) (by decide +kernel), List.mem_of_getElem? (i := 2421) (by decide +kernel)⟩
theorem lw_p150 : lw_okq (⟨"CarriedHistoryModel", "carriesSaid", "(II)V"⟩, 72) := ⟨⟨by decide +kernel, by decide +kernel⟩, List.mem_of_getElem? (i := 1716) (by decide +kernel), List.mem_of_getElem? (i := 2424) (by decide +kernel), List.mem_of_getElem? (i := 2425) (by decide +kernel)⟩
theorem lw_p151 : lw_okq (⟨"CarriedHistoryModel", "saidAt", "(II)I"⟩, 72) := ⟨⟨by decide +kernel, by decide +kernel⟩, List.mem_of_getElem? (i := 1716) (by decide +kernel), List.mem_of_getElem? (i := 2428) (by decide +kernel), List.mem_of_getElem? (i := 2429) (by decide +kernel)⟩
theorem lw_p152 : lw_okq (⟨"CarriedHistoryModel", "carriesMention", "(II)V"⟩, 72) := ⟨⟨by decide +kernel, by decide +kernel⟩, List.mem_of_getElem? (i := 1716) (by decide +kernel), List.mem_of_getElem? (i := 2432) (by decide +kernel), List.mem_of_getElem? (i := 2433) (by decide +kernel)⟩
theorem lw_p153 : lw_okq (⟨"CarriedHistoryModel", "says", "(I)V"⟩, 72) := ⟨⟨by decide +kernel, by decide +kernel⟩, List.mem_of_getElem? (i := 1716) (by decide +kernel), List.mem_of_getElem? (i := 2436) (by decide +kernel), List.mem_of_getElem? (i := 2437) (by decide +kernel)⟩
theorem lw_p154 : lw_okq (⟨"CarriedHistoryModel", "saysNumber", "(I)V"⟩, 72) := ⟨⟨by decide +kernel, by decide +kernel⟩, List.mem_of_getElem? (i := 1716) (by decide +kernel), List.mem_of_getElem? (i := 2440) (by decide +kernel), List.mem_of_getElem? (i := 2441) (by decide +kernel)⟩
theorem lw_p155 : lw_okq (⟨"CarriedHistoryModel", "carriesLetters", "(II)V"⟩, 72) := ⟨⟨by decide +kernel, by decide +kernel⟩, List.mem_of_getElem? (i := 1716) (by decide +kernel), List.mem_of_getElem? (i := 2444) (by decide +kernel), List.mem_of_getElem? (i := 2445) (by decide +kernel)⟩
theorem lw_p156 : lw_okq (⟨"CarriedHistoryModel", "wordFor", "(II)I"⟩, 72) := ⟨⟨by decide +kernel, by decide +kernel⟩, List.mem_of_getElem? (i := 1716) (by decide +kernel), List.mem_of_getElem? (i := 2448) (by decide +kernel), List.mem_of_getElem? (i := 2449) (by decide +kernel)⟩
theorem lw_p157 : lw_okq (⟨"CarriedHistoryModel", "saysLetters", "(I)V"⟩, 72) := ⟨⟨by decide +kernel, by decide +kernel⟩, List.mem_of_getElem? (i := 1716) (by decide +kernel), List.mem_of_getElem? (i := 2452) (by decide +kernel), List.mem_of_getElem? (i := 2453) (by decide +kernel)⟩
theorem lw_p158 : lw_okq (⟨"CarriedHistoryModel", "laysRefs", "(I)I"⟩, 72) := ⟨⟨by decide +kernel, by decide +kernel⟩, List.mem_of_getElem? (i := 1716) (by decide +kernel), List.mem_of_getElem? (i := 2459) (by decide +kernel), List.mem_of_getElem? (i := 2460) (by decide +kernel)⟩
theorem lw_p159 : lw_okq (⟨"CarriedHistoryModel", "isLaid", "(III)Z"⟩, 72) := ⟨⟨by decide +kernel, by decide +kernel⟩, List.mem_of_getElem? (i := 1716) (by decide +kernel), List.mem_of_getElem? (i := 2463) (by decide +kernel), List.mem_of_getElem? (i := 2464) (by decide +kernel)⟩
def lw_privs_10 : List (MethodName × Nat) := [(⟨"CarriedHistoryModel", "marksElders", "(II)V"⟩, 72), (⟨"CarriedHistoryModel", "closesUp", "()V"⟩, 72), (⟨"CarriedHistoryModel", "isEmpty", "(II)Z"⟩, 72), (⟨"CarriedHistoryModel", "isEmptyByItself", "(II)Z"⟩, 72), (⟨"CarriedHistoryModel", "isSkipped", "(II)Z"⟩, 72), (⟨"CarriedHistoryModel", "maps", "(IIII)V"⟩, 72), (⟨"CarriedHistoryModel", "carriesSaid", "(II)V"⟩, 72), (⟨"CarriedHistoryModel", "saidAt", "(II)I"⟩, 72), (⟨"CarriedHistoryModel", "carriesMention", "(II)V"⟩, 72), (⟨"CarriedHistoryModel", "says", "(I)V"⟩, 72), (⟨"CarriedHistoryModel", "saysNumber", "(I)V"⟩, 72), (⟨"CarriedHistoryModel", "carriesLetters", "(II)V"⟩, 72), (⟨"CarriedHistoryModel", "wordFor", "(II)I"⟩, 72), (⟨"CarriedHistoryModel", "saysLetters", "(I)V"⟩, 72), (⟨"CarriedHistoryModel", "laysRefs", "(I)I"⟩, 72), (⟨"CarriedHistoryModel", "isLaid", "(III)Z"⟩, 72)]
theorem lw_r10 : ∀ q ∈ lw_privs_10, lw_okq q := List.forall_mem_cons.mpr ⟨lw_p144, List.forall_mem_cons.mpr ⟨lw_p145, List.forall_mem_cons.mpr ⟨lw_p146, List.forall_mem_cons.mpr ⟨lw_p147, List.forall_mem_cons.mpr ⟨lw_p148, List.forall_mem_cons.mpr ⟨lw_p149, List.forall_mem_cons.mpr ⟨lw_p150, List.forall_mem_cons.mpr ⟨lw_p151, List.forall_mem_cons.mpr ⟨lw_p152, List.forall_mem_cons.mpr ⟨lw_p153, List.forall_mem_cons.mpr ⟨lw_p154, List.forall_mem_cons.mpr ⟨lw_p155, List.forall_mem_cons.mpr ⟨lw_p156, List.forall_mem_cons.mpr ⟨lw_p157, List.forall_mem_cons.mpr ⟨lw_p158, List.forall_mem_cons.mpr ⟨lw_p159, fun _ h => absurd h List.not_mem_nil⟩⟩⟩⟩⟩⟩⟩⟩⟩⟩⟩⟩⟩⟩⟩⟩
theorem lw_p160 : lw_okq (⟨"CarriedHistoryModel", "goesBack", "(II)V"⟩, 72) := ⟨⟨by decide +kernel, by decide +kernel⟩, List.mem_of_getElem? (i := 1716) (by decide +kernel), List.mem_of_getElem? (i := 2467) (by decide +kernel), List.mem_of_getElem? (i := 2468) (by decide +kernel)⟩
theorem lw_p161 : lw_okq (⟨"CarriedHistoryModel", "pairs", "(IZ)I"⟩, 72) := ⟨⟨by decide +kernel, by decide +kernel⟩, List.mem_of_getElem? (i := 1716) (by decide +kernel), List.mem_of_getElem? (i := 2503) (by decide +kernel), List.mem_of_getElem? (i := 2504) (by decide +kernel)⟩
theorem lw_p162 : lw_okq (⟨"CarriedHistoryModel", "isKept", "(II)Z"⟩, 72) := ⟨⟨by decide +kernel, by decide +kernel⟩, List.mem_of_getElem? (i := 1716) (by decide +kernel), List.mem_of_getElem? (i := 2507) (by decide +kernel), List.mem_of_getElem? (i := 2508) (by decide +kernel)⟩
theorem lw_p163 : lw_okq (⟨"CarriedHistoryModel", "isElderApart", "(III)Z"⟩, 72) := ⟨⟨by decide +kernel, by decide +kernel⟩, List.mem_of_getElem? (i := 1716) (by decide +kernel), List.mem_of_getElem? (i := 2511) (by decide +kernel), List.mem_of_getElem? (i := 2512) (by decide +kernel)⟩
theorem lw_p164 : lw_okq (⟨"CarriedHistoryModel", "twins", "(I)I"⟩, 72) := ⟨⟨by decide +kernel, by decide +kernel⟩, List.mem_of_getElem? (i := 1716) (by decide +kernel), List.mem_of_getElem? (i := 2515) (by decide +kernel), List.mem_of_getElem? (i := 2516) (by decide +kernel)⟩
theorem lw_p165 : lw_okq (⟨"CarriedHistoryModel", "lostByKept", "(I)I"⟩, 72) := ⟨⟨by decide +kernel, by decide +kernel⟩, List.mem_of_getElem? (i := 1716) (by decide +kernel), List.mem_of_getElem? (i := 2519) (by decide +kernel), List.mem_of_getElem? (i := 2520) (by decide +kernel)⟩
theorem lw_p166 : lw_okq (⟨"CarriedHistoryModel", "thinned", "(I)I"⟩, 72) := ⟨⟨by decide +kernel, by decide +kernel⟩, List.mem_of_getElem? (i := 1716) (by decide +kernel), List.mem_of_getElem? (i := 2523) (by decide +kernel), List.mem_of_getElem? (i := 2524) (by decide +kernel)⟩
theorem lw_p167 : lw_okq (⟨"CarriedHistoryModel", "notMapped", "(I)I"⟩, 72) := ⟨⟨by decide +kernel, by decide +kernel⟩, List.mem_of_getElem? (i := 1716) (by decide +kernel), List.mem_of_getElem? (i := 2527) (by decide +kernel), List.mem_of_getElem? (i := 2528) (by decide +kernel)⟩
theorem lw_p168 : lw_okq (⟨"CarriedHistoryModel", "branchAt", "(II)I"⟩, 72) := ⟨⟨by decide +kernel, by decide +kernel⟩, List.mem_of_getElem? (i := 1716) (by decide +kernel), List.mem_of_getElem? (i := 2535) (by decide +kernel), List.mem_of_getElem? (i := 2536) (by decide +kernel)⟩
theorem lw_p169 : lw_okq (⟨"CarriedHistoryModel", "putsTogether", "(II)Z"⟩, 72) := ⟨⟨by decide +kernel, by decide +kernel⟩, List.mem_of_getElem? (i := 1716) (by decide +kernel), List.mem_of_getElem? (i := 2539) (by decide +kernel), List.mem_of_getElem? (i := 2540) (by decide +kernel)⟩
theorem lw_p170 : lw_okq (⟨"CarriedHistoryModel", "isTree", "(I)Z"⟩, 72) := ⟨⟨by decide +kernel, by decide +kernel⟩, List.mem_of_getElem? (i := 1716) (by decide +kernel), List.mem_of_getElem? (i := 2543) (by decide +kernel), List.mem_of_getElem? (i := 2544) (by decide +kernel)⟩
theorem lw_p171 : lw_okq (⟨"CarriedHistoryModel", "laysChange", "(I)V"⟩, 72) := ⟨⟨by decide +kernel, by decide +kernel⟩, List.mem_of_getElem? (i := 1716) (by decide +kernel), List.mem_of_getElem? (i := 2551) (by decide +kernel), List.mem_of_getElem? (i := 2552) (by decide +kernel)⟩
theorem lw_p172 : lw_okq (⟨"CarriedHistoryModel", "before", "(I)I"⟩, 72) := ⟨⟨by decide +kernel, by decide +kernel⟩, List.mem_of_getElem? (i := 1716) (by decide +kernel), List.mem_of_getElem? (i := 2555) (by decide +kernel), List.mem_of_getElem? (i := 2556) (by decide +kernel)⟩
theorem lw_p173 : lw_okq (⟨"CarriedHistoryModel", "notes", "(III)V"⟩, 72) := ⟨⟨by decide +kernel, by decide +kernel⟩, List.mem_of_getElem? (i := 1716) (by decide +kernel), List.mem_of_getElem? (i := 2559) (by decide +kernel), List.mem_of_getElem? (i := 2560) (by decide +kernel)⟩
theorem lw_p174 : lw_okq (⟨"CarriedHistoryModel", "changesThere", "(I)Z"⟩, 72) := ⟨⟨by decide +kernel, by decide +kernel⟩, List.mem_of_getElem? (i := 1716) (by decide +kernel), List.mem_of_getElem? (i := 2563) (by decide +kernel), List.mem_of_getElem? (i := 2564) (by decide +kernel)⟩
theorem lw_p175 : lw_okq (⟨"CarriedHistoryModel", "marksHistory", "(I[Z)V"⟩, 72) := ⟨⟨by decide +kernel, by decide +kernel⟩, List.mem_of_getElem? (i := 1716) (by decide +kernel), List.mem_of_getElem? (i := 2571) (by decide +kernel), List.mem_of_getElem? (i := 2572) (by decide +kernel)⟩
def lw_privs_11 : List (MethodName × Nat) := [(⟨"CarriedHistoryModel", "goesBack", "(II)V"⟩, 72), (⟨"CarriedHistoryModel", "pairs", "(IZ)I"⟩, 72), (⟨"CarriedHistoryModel", "isKept", "(II)Z"⟩, 72), (⟨"CarriedHistoryModel", "isElderApart", "(III)Z"⟩, 72), (⟨"CarriedHistoryModel", "twins", "(I)I"⟩, 72), (⟨"CarriedHistoryModel", "lostByKept", "(I)I"⟩, 72), (⟨"CarriedHistoryModel", "thinned", "(I)I"⟩, 72), (⟨"CarriedHistoryModel", "notMapped", "(I)I"⟩, 72), (⟨"CarriedHistoryModel", "branchAt", "(II)I"⟩, 72), (⟨"CarriedHistoryModel", "putsTogether", "(II)Z"⟩, 72), (⟨"CarriedHistoryModel", "isTree", "(I)Z"⟩, 72), (⟨"CarriedHistoryModel", "laysChange", "(I)V"⟩, 72), (⟨"CarriedHistoryModel", "before", "(I)I"⟩, 72), (⟨"CarriedHistoryModel", "notes", "(III)V"⟩, 72), (⟨"CarriedHistoryModel", "changesThere", "(I)Z"⟩, 72), (⟨"CarriedHistoryModel", "marksHistory", "(I[Z)V"⟩, 72)]
theorem lw_r11 : ∀ q ∈ lw_privs_11, lw_okq q := List.forall_mem_cons.mpr ⟨lw_p160, List.forall_mem_cons.mpr ⟨lw_p161, List.forall_mem_cons.mpr ⟨lw_p162, List.forall_mem_cons.mpr ⟨lw_p163, List.forall_mem_cons.mpr ⟨lw_p164, List.forall_mem_cons.mpr ⟨lw_p165, List.forall_mem_cons.mpr ⟨lw_p166, List.forall_mem_cons.mpr ⟨lw_p167, List.forall_mem_cons.mpr ⟨lw_p168, List.forall_mem_cons.mpr ⟨lw_p169, List.forall_mem_cons.mpr ⟨lw_p170, List.forall_mem_cons.mpr ⟨lw_p171, List.forall_mem_cons.mpr ⟨lw_p172, List.forall_mem_cons.mpr ⟨lw_p173, List.forall_mem_cons.mpr ⟨lw_p174, List.forall_mem_cons.mpr ⟨lw_p175, fun _ h => absurd h List.not_mem_nil⟩⟩⟩⟩⟩⟩⟩⟩⟩⟩⟩⟩⟩⟩⟩⟩
theorem lw_p176 : lw_okq (⟨"CarriedHistoryModel", "spells", "(I)V"⟩, 72) := ⟨⟨by decide +kernel, by decide +kernel⟩, List.mem_of_getElem? (i := 1716) (by decide +kernel), List.mem_of_getElem? (i := 2579) (by decide +kernel), List.mem_of_getElem? (i := 2580) (by decide +kernel)⟩
theorem lw_p177 : lw_okq (⟨"CarriedHistoryModel", "spellsNumber", "(I)V"⟩, 72) := ⟨⟨by decide +kernel, by decide +kernel⟩, List.mem_of_getElem? (i := 1716) (by decide +kernel), List.mem_of_getElem? (i := 2583) (by decide +kernel), List.mem_of_getElem? (i := 2584) (by decide +kernel)⟩
theorem lw_p178 : lw_okq (⟨"CarriedHistoryModel", "spellsFile", "(II)V"⟩, 72) := ⟨⟨by decide +kernel, by decide +kernel⟩, List.mem_of_getElem? (i := 1716) (by decide +kernel), List.mem_of_getElem? (i := 2587) (by decide +kernel), List.mem_of_getElem? (i := 2588) (by decide +kernel)⟩
theorem lw_p179 : lw_okq (⟨"CarriedHistoryModel", "readsWholePath", "(I)Z"⟩, 72) := ⟨⟨by decide +kernel, by decide +kernel⟩, List.mem_of_getElem? (i := 1716) (by decide +kernel), List.mem_of_getElem? (i := 2595) (by decide +kernel), List.mem_of_getElem? (i := 2596) (by decide +kernel)⟩
theorem lw_p180 : lw_okq (⟨"CarriedHistoryModel", "lookAt", "(III)I"⟩, 72) := ⟨⟨by decide +kernel, by decide +kernel⟩, List.mem_of_getElem? (i := 1716) (by decide +kernel), List.mem_of_getElem? (i := 2599) (by decide +kernel), List.mem_of_getElem? (i := 2600) (by decide +kernel)⟩
theorem lw_p181 : lw_okq (⟨"CarriedHistoryModel", "isNewEntry", "(III)Z"⟩, 72) := ⟨⟨by decide +kernel, by decide +kernel⟩, List.mem_of_getElem? (i := 1716) (by decide +kernel), List.mem_of_getElem? (i := 2603) (by decide +kernel), List.mem_of_getElem? (i := 2604) (by decide +kernel)⟩
theorem lw_p182 : lw_okq (⟨"CarriedHistoryModel", "counts", "(II)Z"⟩, 72) := ⟨⟨by decide +kernel, by decide +kernel⟩, List.mem_of_getElem? (i := 1716) (by decide +kernel), List.mem_of_getElem? (i := 2611) (by decide +kernel), List.mem_of_getElem? (i := 2612) (by decide +kernel)⟩
theorem lw_p183 : lw_okq (⟨"CarriedHistoryModel", "hasChild", "(I[Z)Z"⟩, 72) := ⟨⟨by decide +kernel, by decide +kernel⟩, List.mem_of_getElem? (i := 1716) (by decide +kernel), List.mem_of_getElem? (i := 2615) (by decide +kernel), List.mem_of_getElem? (i := 2616) (by decide +kernel)⟩
theorem lw_p184 : lw_okq (⟨"CarriedHistoryModel", "isFirstTree", "(I[Z)Z"⟩, 72) := ⟨⟨by decide +kernel, by decide +kernel⟩, List.mem_of_getElem? (i := 1716) (by decide +kernel), List.mem_of_getElem? (i := 2619) (by decide +kernel), List.mem_of_getElem? (i := 2620) (by decide +kernel)⟩
theorem lw_p185 : lw_okq (⟨"CarriedHistoryModel", "nextListed", "()I"⟩, 72) := ⟨⟨by decide +kernel, by decide +kernel⟩, List.mem_of_getElem? (i := 1716) (by decide +kernel), List.mem_of_getElem? (i := 2627) (by decide +kernel), List.mem_of_getElem? (i := 2628) (by decide +kernel)⟩
theorem lw_p186 : lw_okq (⟨"CarriedHistoryModel", "isRefApart", "(III)Z"⟩, 72) := ⟨⟨by decide +kernel, by decide +kernel⟩, List.mem_of_getElem? (i := 1716) (by decide +kernel), List.mem_of_getElem? (i := 2639) (by decide +kernel), List.mem_of_getElem? (i := 2640) (by decide +kernel)⟩
theorem lw_p187 : lw_okq (⟨"CarriedHistoryModel", "isTouching", "(II)Z"⟩, 72) := ⟨⟨by decide +kernel, by decide +kernel⟩, List.mem_of_getElem? (i := 1716) (by decide +kernel), List.mem_of_getElem? (i := 2647) (by decide +kernel), List.mem_of_getElem? (i := 2648) (by decide +kernel)⟩
theorem lw_p188 : lw_okq (⟨"CarriedHistoryModel", "isSameThere", "(III)Z"⟩, 72) := ⟨⟨by decide +kernel, by decide +kernel⟩, List.mem_of_getElem? (i := 1716) (by decide +kernel), List.mem_of_getElem? (i := 2651) (by decide +kernel), List.mem_of_getElem? (i := 2652) (by decide +kernel)⟩
theorem lw_p189 : lw_okq (⟨"CarriedHistoryModel", "marksOf", "(IIZ)V"⟩, 72) := ⟨⟨by decide +kernel, by decide +kernel⟩, List.mem_of_getElem? (i := 1716) (by decide +kernel), List.mem_of_getElem? (i := 2659) (by decide +kernel), List.mem_of_getElem? (i := 2660) (by decide +kernel)⟩
theorem lw_p190 : lw_okq (⟨"CarriedHistoryModel", "isBelowMarked", "(I)Z"⟩, 72) := ⟨⟨by decide +kernel, by decide +kernel⟩, List.mem_of_getElem? (i := 1716) (by decide +kernel), List.mem_of_getElem? (i := 2663) (by decide +kernel), List.mem_of_getElem? (i := 2664) (by decide +kernel)⟩
theorem lw_p191 : lw_okq (⟨"CarriedHistoryModel", "laysPairs", "(II)V"⟩, 72) := ⟨⟨by decide +kernel, by decide +kernel⟩, List.mem_of_getElem? (i := 1716) (by decide +kernel), List.mem_of_getElem? (i := 2679) (by decide +kernel), List.mem_of_getElem? (i := 2680) (by decide +kernel)⟩
def lw_privs_12 : List (MethodName × Nat) := [(⟨"CarriedHistoryModel", "spells", "(I)V"⟩, 72), (⟨"CarriedHistoryModel", "spellsNumber", "(I)V"⟩, 72), (⟨"CarriedHistoryModel", "spellsFile", "(II)V"⟩, 72), (⟨"CarriedHistoryModel", "readsWholePath", "(I)Z"⟩, 72), (⟨"CarriedHistoryModel", "lookAt", "(III)I"⟩, 72), (⟨"CarriedHistoryModel", "isNewEntry", "(III)Z"⟩, 72), (⟨"CarriedHistoryModel", "counts", "(II)Z"⟩, 72), (⟨"CarriedHistoryModel", "hasChild", "(I[Z)Z"⟩, 72), (⟨"CarriedHistoryModel", "isFirstTree", "(I[Z)Z"⟩, 72), (⟨"CarriedHistoryModel", "nextListed", "()I"⟩, 72), (⟨"CarriedHistoryModel", "isRefApart", "(III)Z"⟩, 72), (⟨"CarriedHistoryModel", "isTouching", "(II)Z"⟩, 72), (⟨"CarriedHistoryModel", "isSameThere", "(III)Z"⟩, 72), (⟨"CarriedHistoryModel", "marksOf", "(IIZ)V"⟩, 72), (⟨"CarriedHistoryModel", "isBelowMarked", "(I)Z"⟩, 72), (⟨"CarriedHistoryModel", "laysPairs", "(II)V"⟩, 72)]
theorem lw_r12 : ∀ q ∈ lw_privs_12, lw_okq q := List.forall_mem_cons.mpr ⟨lw_p176, List.forall_mem_cons.mpr ⟨lw_p177, List.forall_mem_cons.mpr ⟨lw_p178, List.forall_mem_cons.mpr ⟨lw_p179, List.forall_mem_cons.mpr ⟨lw_p180, List.forall_mem_cons.mpr ⟨lw_p181, List.forall_mem_cons.mpr ⟨lw_p182, List.forall_mem_cons.mpr ⟨lw_p183, List.forall_mem_cons.mpr ⟨lw_p184, List.forall_mem_cons.mpr ⟨lw_p185, List.forall_mem_cons.mpr ⟨lw_p186, List.forall_mem_cons.mpr ⟨lw_p187, List.forall_mem_cons.mpr ⟨lw_p188, List.forall_mem_cons.mpr ⟨lw_p189, List.forall_mem_cons.mpr ⟨lw_p190, List.forall_mem_cons.mpr ⟨lw_p191, fun _ h => absurd h List.not_mem_nil⟩⟩⟩⟩⟩⟩⟩⟩⟩⟩⟩⟩⟩⟩⟩⟩
theorem lw_p192 : lw_okq (⟨"CarriedHistoryModel", "pairsNext", "(II)Z"⟩, 72) := ⟨⟨by decide +kernel, by decide +kernel⟩, List.mem_of_getElem? (i := 1716) (by decide +kernel), List.mem_of_getElem? (i := 2683) (by decide +kernel), List.mem_of_getElem? (i := 2684) (by decide +kernel)⟩
theorem lw_p193 : lw_okq (⟨"CarriedHistoryModel", "isPaired", "([II)Z"⟩, 72) := ⟨⟨by decide +kernel, by decide +kernel⟩, List.mem_of_getElem? (i := 1716) (by decide +kernel), List.mem_of_getElem? (i := 2687) (by decide +kernel), List.mem_of_getElem? (i := 2688) (by decide +kernel)⟩
theorem lw_p194 : lw_okq (⟨"CarriedHistoryModel", "likenessOf", "(II)F"⟩, 72) := ⟨⟨by decide +kernel, by decide +kernel⟩, List.mem_of_getElem? (i := 1716) (by decide +kernel), List.mem_of_getElem? (i := 2691) (by decide +kernel), List.mem_of_getElem? (i := 2692) (by decide +kernel)⟩
theorem lw_p195 : lw_okq (⟨"CarriedHistoryModel", "inBoth", "(II)I"⟩, 72) := ⟨⟨by decide +kernel, by decide +kernel⟩, List.mem_of_getElem? (i := 1716) (by decide +kernel), List.mem_of_getElem? (i := 2695) (by decide +kernel), List.mem_of_getElem? (i := 2696) (by decide +kernel)⟩
theorem lw_p196 : lw_okq (⟨"CarriedHistoryModel", "stepsByPath", "()Z"⟩, 72) := ⟨⟨by decide +kernel, by decide +kernel⟩, List.mem_of_getElem? (i := 1716) (by decide +kernel), List.mem_of_getElem? (i := 2729) (by decide +kernel), List.mem_of_getElem? (i := 2730) (by decide +kernel)⟩
theorem lw_p197 : lw_okq (⟨"CarriedHistoryModel", "steps", "(IIZ)V"⟩, 72) := ⟨⟨by decide +kernel, by decide +kernel⟩, List.mem_of_getElem? (i := 1716) (by decide +kernel), List.mem_of_getElem? (i := 2733) (by decide +kernel), List.mem_of_getElem? (i := 2734) (by decide +kernel)⟩
theorem lw_p198 : lw_okq (⟨"CarriedHistoryModel", "stepsByName", "()Z"⟩, 72) := ⟨⟨by decide +kernel, by decide +kernel⟩, List.mem_of_getElem? (i := 1716) (by decide +kernel), List.mem_of_getElem? (i := 2737) (by decide +kernel), List.mem_of_getElem? (i := 2738) (by decide +kernel)⟩
theorem lw_p199 : lw_okq (⟨"CarriedHistoryModel", "trees", "()I"⟩, 72) := ⟨⟨by decide +kernel, by decide +kernel⟩, List.mem_of_getElem? (i := 1716) (by decide +kernel), List.mem_of_getElem? (i := 2760) (by decide +kernel), List.mem_of_getElem? (i := 2761) (by decide +kernel)⟩
theorem lw_p200 : lw_okq (⟨"CarriedHistoryModel", "contents", "()I"⟩, 72) := ⟨⟨by decide +kernel, by decide +kernel⟩, List.mem_of_getElem? (i := 1716) (by decide +kernel), List.mem_of_getElem? (i := 2764) (by decide +kernel), List.mem_of_getElem? (i := 2765) (by decide +kernel)⟩
theorem lw_p201 : lw_okq (⟨"CarriedHistoryModel", "isFirstContent", "(II)Z"⟩, 72) := ⟨⟨by decide +kernel, by decide +kernel⟩, List.mem_of_getElem? (i := 1716) (by decide +kernel), List.mem_of_getElem? (i := 2768) (by decide +kernel), List.mem_of_getElem? (i := 2769) (by decide +kernel)⟩
def lw_privs_13 : List (MethodName × Nat) := [(⟨"CarriedHistoryModel", "pairsNext", "(II)Z"⟩, 72), (⟨"CarriedHistoryModel", "isPaired", "([II)Z"⟩, 72), (⟨"CarriedHistoryModel", "likenessOf", "(II)F"⟩, 72), (⟨"CarriedHistoryModel", "inBoth", "(II)I"⟩, 72), (⟨"CarriedHistoryModel", "stepsByPath", "()Z"⟩, 72), (⟨"CarriedHistoryModel", "steps", "(IIZ)V"⟩, 72), (⟨"CarriedHistoryModel", "stepsByName", "()Z"⟩, 72), (⟨"CarriedHistoryModel", "trees", "()I"⟩, 72), (⟨"CarriedHistoryModel", "contents", "()I"⟩, 72), (⟨"CarriedHistoryModel", "isFirstContent", "(II)Z"⟩, 72)]
theorem lw_r13 : ∀ q ∈ lw_privs_13, lw_okq q := List.forall_mem_cons.mpr ⟨lw_p192, List.forall_mem_cons.mpr ⟨lw_p193, List.forall_mem_cons.mpr ⟨lw_p194, List.forall_mem_cons.mpr ⟨lw_p195, List.forall_mem_cons.mpr ⟨lw_p196, List.forall_mem_cons.mpr ⟨lw_p197, List.forall_mem_cons.mpr ⟨lw_p198, List.forall_mem_cons.mpr ⟨lw_p199, List.forall_mem_cons.mpr ⟨lw_p200, List.forall_mem_cons.mpr ⟨lw_p201, fun _ h => absurd h List.not_mem_nil⟩⟩⟩⟩⟩⟩⟩⟩⟩⟩
def lw_privs : List (MethodName × Nat) := lw_privs_1 ++ (lw_privs_2 ++ (lw_privs_3 ++ (lw_privs_4 ++ (lw_privs_5 ++ (lw_privs_6 ++ (lw_privs_7 ++ (lw_privs_8 ++ (lw_privs_9 ++ (lw_privs_10 ++ (lw_privs_11 ++ (lw_privs_12 ++ (lw_privs_13))))))))))))
def lw_tbl : List Cond := k2_sels lw_privs ++ tables_1
theorem lw_privs_ok : ∀ q ∈ lw_privs, lw_okq q := by
  show ∀ q ∈ lw_privs_1 ++ (lw_privs_2 ++ (lw_privs_3 ++ (lw_privs_4 ++ (lw_privs_5 ++ (lw_privs_6 ++ (lw_privs_7 ++ (lw_privs_8 ++ (lw_privs_9 ++ (lw_privs_10 ++ (lw_privs_11 ++ (lw_privs_12 ++ (lw_privs_13)))))))))))), lw_okq q
  exact List.forall_mem_append.mpr ⟨lw_r1, List.forall_mem_append.mpr ⟨lw_r2, List.forall_mem_append.mpr ⟨lw_r3, List.forall_mem_append.mpr ⟨lw_r4, List.forall_mem_append.mpr ⟨lw_r5, List.forall_mem_append.mpr ⟨lw_r6, List.forall_mem_append.mpr ⟨lw_r7, List.forall_mem_append.mpr ⟨lw_r8, List.forall_mem_append.mpr ⟨lw_r9, List.forall_mem_append.mpr ⟨lw_r10, List.forall_mem_append.mpr ⟨lw_r11, List.forall_mem_append.mpr ⟨lw_r12, lw_r13⟩⟩⟩⟩⟩⟩⟩⟩⟩⟩⟩⟩
/-- the streams that the claim lets the run draw from -/
abbrev lw_cs : List Choice := [Jvm.Choice.named "NaN.bits"]
theorem lw_bits : nanBits ∈ lw_cs := by first | decide | exact List.mem_cons_self | simp [lw_cs, nanBits]
def RX0 : String := "CarriedHistory$Change"
def TX0 : u_T := fun k => match k with
  | 0 => ("CarriedHistory$Change", "count", "I", false)
  | 1 => ("CarriedHistory$Change", "path", "[I", true)
  | 2 => ("CarriedHistory$Change", "was", "[I", true)
  | 3 => ("CarriedHistory$Change", "is", "[I", true)
  | 4 => ("CarriedHistory$Change", "wasAt", "[I", true)
  | 5 => ("CarriedHistory$Change", "isAt", "[I", true)
  | 6 => ("CarriedHistory$Change", "pairs", "I", false)
  | 7 => ("CarriedHistory$Change", "pairFrom", "[I", true)
  | 8 => ("CarriedHistory$Change", "pairTo", "[I", true)
  | 9 => ("CarriedHistory$Change", "pairLikeness", "[F", true)
  | 10 => ("CarriedHistory$Change", "goneCount", "I", false)
  | 11 => ("CarriedHistory$Change", "newCount", "I", false)
  | 12 => ("CarriedHistory$Change", "gone", "[I", true)
  | 13 => ("CarriedHistory$Change", "come", "[I", true)
  | 14 => ("CarriedHistory$Change", "values", "[F", true)
  | 15 => ("CarriedHistory$Change", "digits", "[I", true)
  | 16 => ("CarriedHistory$Change", "otherDigits", "[I", true)
  | _ => ("CarriedHistory$Change", "common", "[I", true)
def tyX0 : Nat → FieldType := fun k => match k with
  | 0 => .int
  | 1 => .array .int
  | 2 => .array .int
  | 3 => .array .int
  | 4 => .array .int
  | 5 => .array .int
  | 6 => .int
  | 7 => .array .int
  | 8 => .array .int
  | 9 => .array .float
  | 10 => .int
  | 11 => .int
  | 12 => .array .int
  | 13 => .array .int
  | 14 => .array .float
  | 15 => .array .int
  | 16 => .array .int
  | _ => .array .int
theorem nmX0 : ∀ a, a < 18 → ∀ b, b < 18 → a ≠ b → (TX0 a).2.1 ≠ (TX0 b).2.1 := by decide +kernel
theorem tyX0_ok : ∀ k, k < 18 → parseFieldDescriptor (TX0 k).2.2.1 = some (tyX0 k) := by decide +kernel
abbrev cX0_init : ByteArray := prog_2_method_1_code
def yX0_init : MethodName := ⟨RX0, "<init>", "()V"⟩
abbrev cX0_digitsIn : ByteArray := prog_2_method_2_code
def yX0_digitsIn : MethodName := ⟨RX0, "digitsIn", "(I)I"⟩
abbrev cX0_digitFromBehind : ByteArray := prog_2_method_3_code
def yX0_digitFromBehind : MethodName := ⟨RX0, "digitFromBehind", "(II)I"⟩
abbrev cX0_measure : ByteArray := prog_2_method_4_code
def yX0_measure : MethodName := ⟨RX0, "measure", "(LCarriedHistory$Tree;LCarriedHistory$Tree;)V"⟩
abbrev cX0_add : ByteArray := prog_2_method_5_code
def yX0_add : MethodName := ⟨RX0, "add", "(IIIII)V"⟩
abbrev cX0_countOf : ByteArray := prog_2_method_6_code
def yX0_countOf : MethodName := ⟨RX0, "countOf", "(I)I"⟩
abbrev cX0_isLike : ByteArray := prog_2_method_7_code
def yX0_isLike : MethodName := ⟨RX0, "isLike", "(LCarriedHistory$Change;)Z"⟩
abbrev cX0_fits : ByteArray := prog_2_method_8_code
def yX0_fits : MethodName := ⟨RX0, "fits", "(LCarriedHistory$Tree;)Z"⟩
abbrev cX0_apply : ByteArray := prog_2_method_9_code
def yX0_apply : MethodName := ⟨RX0, "apply", "(LCarriedHistory$Tree;)V"⟩
abbrev cX0_pairUp : ByteArray := prog_2_method_10_code
def yX0_pairUp : MethodName := ⟨RX0, "pairUp", "()V"⟩
abbrev cX0_gather : ByteArray := prog_2_method_11_code
def yX0_gather : MethodName := ⟨RX0, "gather", "()V"⟩
abbrev cX0_pairNext : ByteArray := prog_2_method_12_code
def yX0_pairNext : MethodName := ⟨RX0, "pairNext", "()Z"⟩
abbrev cX0_pairedWith : ByteArray := prog_2_method_13_code
def yX0_pairedWith : MethodName := ⟨RX0, "pairedWith", "(I)I"⟩
abbrev cX0_alike : ByteArray := prog_2_method_14_code
def yX0_alike : MethodName := ⟨RX0, "alike", "(II)F"⟩
abbrev cX0_spread : ByteArray := prog_2_method_15_code
def yX0_spread : MethodName := ⟨RX0, "spread", "(I[I)I"⟩
abbrev cX0_longestInBoth : ByteArray := prog_2_method_16_code
def yX0_longestInBoth : MethodName := ⟨RX0, "longestInBoth", "(II)I"⟩
def RX1 : String := "CarriedHistory$Commits"
def TX1 : u_T := fun k => match k with
  | 0 => ("CarriedHistory$Commits", "count", "I", false)
  | 1 => ("CarriedHistory$Commits", "parentCount", "[I", true)
  | 2 => ("CarriedHistory$Commits", "parents", "[I", true)
  | 3 => ("CarriedHistory$Commits", "treeOf", "[I", true)
  | 4 => ("CarriedHistory$Commits", "trees", "[LCarriedHistory$Tree;", true)
  | 5 => ("CarriedHistory$Commits", "messages", "[B", true)
  | 6 => ("CarriedHistory$Commits", "messageLength", "[I", true)
  | 7 => ("CarriedHistory$Commits", "who", "[I", true)
  | 8 => ("CarriedHistory$Commits", "hour", "[I", true)
  | 9 => ("CarriedHistory$Commits", "generation", "[I", true)
  | 10 => ("CarriedHistory$Commits", "ancestors", "LCarriedHistory$Marks;", true)
  | _ => ("CarriedHistory$Commits", "noFiles", "LCarriedHistory$Tree;", true)
def tyX1 : Nat → FieldType := fun k => match k with
  | 0 => .int
  | 1 => .array .int
  | 2 => .array .int
  | 3 => .array .int
  | 4 => .array (.object "CarriedHistory$Tree")
  | 5 => .array .byte
  | 6 => .array .int
  | 7 => .array .int
  | 8 => .array .int
  | 9 => .array .int
  | 10 => .object "CarriedHistory$Marks"
  | _ => .object "CarriedHistory$Tree"
theorem nmX1 : ∀ a, a < 12 → ∀ b, b < 12 → a ≠ b → (TX1 a).2.1 ≠ (TX1 b).2.1 := by decide +kernel
theorem tyX1_ok : ∀ k, k < 12 → parseFieldDescriptor (TX1 k).2.2.1 = some (tyX1 k) := by decide +kernel
abbrev cX1_init : ByteArray := prog_3_method_1_code
def yX1_init : MethodName := ⟨RX1, "<init>", "()V"⟩
abbrev cX1_has : ByteArray := prog_3_method_2_code
def yX1_has : MethodName := ⟨RX1, "has", "(I)Z"⟩
abbrev cX1_parent : ByteArray := prog_3_method_3_code
def yX1_parent : MethodName := ⟨RX1, "parent", "(II)I"⟩
abbrev cX1_tree : ByteArray := prog_3_method_4_code
def yX1_tree : MethodName := ⟨RX1, "tree", "(I)LCarriedHistory$Tree;"⟩
abbrev cX1_firstTree : ByteArray := prog_3_method_5_code
def yX1_firstTree : MethodName := ⟨RX1, "firstTree", "(I)LCarriedHistory$Tree;"⟩
abbrev cX1_messageByte : ByteArray := prog_3_method_6_code
def yX1_messageByte : MethodName := ⟨RX1, "messageByte", "(II)I"⟩
abbrev cX1_isAbove : ByteArray := prog_3_method_7_code
def yX1_isAbove : MethodName := ⟨RX1, "isAbove", "(II)Z"⟩
abbrev cX1_childrenOf : ByteArray := prog_3_method_8_code
def yX1_childrenOf : MethodName := ⟨RX1, "childrenOf", "(I)I"⟩
abbrev cX1_markWithAncestors : ByteArray := prog_3_method_9_code
def yX1_markWithAncestors : MethodName := ⟨RX1, "markWithAncestors", "(ILCarriedHistory$Marks;I)V"⟩
abbrev cX1_markHistory : ByteArray := prog_3_method_10_code
def yX1_markHistory : MethodName := ⟨RX1, "markHistory", "(LCarriedHistory$Refs;LCarriedHistory$Marks;I)V"⟩
abbrev cX1_lowestWith : ByteArray := prog_3_method_11_code
def yX1_lowestWith : MethodName := ⟨RX1, "lowestWith", "(LCarriedHistory$Tree;)I"⟩
abbrev cX1_unlikeTrees : ByteArray := prog_3_method_12_code
def yX1_unlikeTrees : MethodName := ⟨RX1, "unlikeTrees", "()I"⟩
abbrev cX1_settle : ByteArray := prog_3_method_13_code
def yX1_settle : MethodName := ⟨RX1, "settle", "(LCarriedHistory$Draft;)I"⟩
abbrev cX1_isAs : ByteArray := prog_3_method_14_code
def yX1_isAs : MethodName := ⟨RX1, "isAs", "(ILCarriedHistory$Draft;)Z"⟩
abbrev cX1_write : ByteArray := prog_3_method_15_code
def yX1_write : MethodName := ⟨RX1, "write", "(ILCarriedHistory$Draft;I)V"⟩
def RX2 : String := "CarriedHistory$Draft"
def TX2 : u_T := fun k => match k with
  | 0 => ("CarriedHistory$Draft", "parents", "[I", true)
  | 1 => ("CarriedHistory$Draft", "parentCount", "I", false)
  | 2 => ("CarriedHistory$Draft", "tree", "LCarriedHistory$Tree;", true)
  | 3 => ("CarriedHistory$Draft", "message", "[B", true)
  | 4 => ("CarriedHistory$Draft", "messageLength", "I", false)
  | 5 => ("CarriedHistory$Draft", "who", "I", false)
  | 6 => ("CarriedHistory$Draft", "hour", "I", false)
  | _ => ("CarriedHistory$Draft", "before", "LCarriedHistory$Tree;", true)
def tyX2 : Nat → FieldType := fun k => match k with
  | 0 => .array .int
  | 1 => .int
  | 2 => .object "CarriedHistory$Tree"
  | 3 => .array .byte
  | 4 => .int
  | 5 => .int
  | 6 => .int
  | _ => .object "CarriedHistory$Tree"
theorem nmX2 : ∀ a, a < 8 → ∀ b, b < 8 → a ≠ b → (TX2 a).2.1 ≠ (TX2 b).2.1 := by decide +kernel
theorem tyX2_ok : ∀ k, k < 8 → parseFieldDescriptor (TX2 k).2.2.1 = some (tyX2 k) := by decide +kernel
abbrev cX2_init : ByteArray := prog_4_method_1_code
def yX2_init : MethodName := ⟨RX2, "<init>", "()V"⟩
abbrev cX2_begin : ByteArray := prog_4_method_2_code
def yX2_begin : MethodName := ⟨RX2, "begin", "(II)V"⟩
abbrev cX2_hasParent : ByteArray := prog_4_method_3_code
def yX2_hasParent : MethodName := ⟨RX2, "hasParent", "(I)Z"⟩
abbrev cX2_addParent : ByteArray := prog_4_method_4_code
def yX2_addParent : MethodName := ⟨RX2, "addParent", "(I)V"⟩
abbrev cX2_addToMessage : ByteArray := prog_4_method_5_code
def yX2_addToMessage : MethodName := ⟨RX2, "addToMessage", "(I)V"⟩
abbrev cX2_takeMessage : ByteArray := prog_4_method_6_code
def yX2_takeMessage : MethodName := ⟨RX2, "takeMessage", "(LCarriedHistory$Commits;I)V"⟩
abbrev cX2_read : ByteArray := prog_4_method_7_code
def yX2_read : MethodName := ⟨RX2, "read", "(LCarriedHistory$Tape;ILCarriedHistory$Commits;)I"⟩
abbrev cX2_readParents : ByteArray := prog_4_method_8_code
def yX2_readParents : MethodName := ⟨RX2, "readParents", "(LCarriedHistory$Tape;I)V"⟩
abbrev cX2_readEdits : ByteArray := prog_4_method_9_code
def yX2_readEdits : MethodName := ⟨RX2, "readEdits", "(LCarriedHistory$Tape;LCarriedHistory$Commits;)V"⟩
abbrev cX2_readEdit : ByteArray := prog_4_method_10_code
def yX2_readEdit : MethodName := ⟨RX2, "readEdit", "(LCarriedHistory$Tape;LCarriedHistory$Commits;)V"⟩
abbrev cX2_putFile : ByteArray := prog_4_method_11_code
def yX2_putFile : MethodName := ⟨RX2, "putFile", "(II)I"⟩
abbrev cX2_moveAll : ByteArray := prog_4_method_12_code
def yX2_moveAll : MethodName := ⟨RX2, "moveAll", "(II)I"⟩
abbrev cX2_fetch : ByteArray := prog_4_method_13_code
def yX2_fetch : MethodName := ⟨RX2, "fetch", "(LCarriedHistory$Tree;I)I"⟩
abbrev cX2_readMessage : ByteArray := prog_4_method_14_code
def yX2_readMessage : MethodName := ⟨RX2, "readMessage", "(LCarriedHistory$Tape;)V"⟩
def RX3 : String := "CarriedHistory$Marks"
def TX3 : u_T := fun k => match k with
  | 0 => ("CarriedHistory$Marks", "low", "[J", true)
  | _ => ("CarriedHistory$Marks", "high", "[J", true)
def tyX3 : Nat → FieldType := fun k => match k with
  | 0 => .array .long
  | _ => .array .long
theorem nmX3 : ∀ a, a < 2 → ∀ b, b < 2 → a ≠ b → (TX3 a).2.1 ≠ (TX3 b).2.1 := by decide +kernel
theorem tyX3_ok : ∀ k, k < 2 → parseFieldDescriptor (TX3 k).2.2.1 = some (tyX3 k) := by decide +kernel
abbrev cX3_init : ByteArray := prog_5_method_1_code
def yX3_init : MethodName := ⟨RX3, "<init>", "(I)V"⟩
abbrev cX3_has : ByteArray := prog_5_method_2_code
def yX3_has : MethodName := ⟨RX3, "has", "(II)Z"⟩
abbrev cX3_put : ByteArray := prog_5_method_3_code
def yX3_put : MethodName := ⟨RX3, "put", "(II)V"⟩
abbrev cX3_cut : ByteArray := prog_5_method_4_code
def yX3_cut : MethodName := ⟨RX3, "cut", "(II)V"⟩
abbrev cX3_clear : ByteArray := prog_5_method_5_code
def yX3_clear : MethodName := ⟨RX3, "clear", "(I)V"⟩
abbrev cX3_putAll : ByteArray := prog_5_method_6_code
def yX3_putAll : MethodName := ⟨RX3, "putAll", "(ILCarriedHistory$Marks;I)V"⟩
abbrev cX3_cutAll : ByteArray := prog_5_method_7_code
def yX3_cutAll : MethodName := ⟨RX3, "cutAll", "(ILCarriedHistory$Marks;I)V"⟩
abbrev cX3_onlyIn : ByteArray := prog_5_method_8_code
def yX3_onlyIn : MethodName := ⟨RX3, "onlyIn", "(ILCarriedHistory$Marks;I)V"⟩
abbrev cX3_size : ByteArray := prog_5_method_9_code
def yX3_size : MethodName := ⟨RX3, "size", "(I)I"⟩
abbrev cX3_sizeInBoth : ByteArray := prog_5_method_10_code
def yX3_sizeInBoth : MethodName := ⟨RX3, "sizeInBoth", "(ILCarriedHistory$Marks;I)I"⟩
abbrev cX3_nth : ByteArray := prog_5_method_11_code
def yX3_nth : MethodName := ⟨RX3, "nth", "(II)I"⟩
def RX4 : String := "CarriedHistory$Pairs"
def TX4 : u_T := fun k => match k with
  | 0 => ("CarriedHistory$Pairs", "count", "I", false)
  | 1 => ("CarriedHistory$Pairs", "first", "[I", true)
  | _ => ("CarriedHistory$Pairs", "second", "[I", true)
def tyX4 : Nat → FieldType := fun k => match k with
  | 0 => .int
  | 1 => .array .int
  | _ => .array .int
theorem nmX4 : ∀ a, a < 3 → ∀ b, b < 3 → a ≠ b → (TX4 a).2.1 ≠ (TX4 b).2.1 := by decide +kernel
theorem tyX4_ok : ∀ k, k < 3 → parseFieldDescriptor (TX4 k).2.2.1 = some (tyX4 k) := by decide +kernel
abbrev cX4_init : ByteArray := prog_6_method_1_code
def yX4_init : MethodName := ⟨RX4, "<init>", "(I)V"⟩
abbrev cX4_find : ByteArray := prog_6_method_2_code
def yX4_find : MethodName := ⟨RX4, "find", "(I)I"⟩
abbrev cX4_add : ByteArray := prog_6_method_3_code
def yX4_add : MethodName := ⟨RX4, "add", "(II)V"⟩
abbrev cX4_exchanged : ByteArray := prog_6_method_4_code
def yX4_exchanged : MethodName := ⟨RX4, "exchanged", "(I)I"⟩
abbrev cX4_cover : ByteArray := prog_6_method_5_code
def yX4_cover : MethodName := ⟨RX4, "cover", "(I)Z"⟩
abbrev cX4_copy : ByteArray := prog_6_method_6_code
def yX4_copy : MethodName := ⟨RX4, "copy", "(LCarriedHistory$Pairs;)V"⟩
def RX5 : String := "CarriedHistory$Plan"
def TX5 : u_T := fun k => match k with
  | 0 => ("CarriedHistory$Plan", "isTold", "Z", false)
  | 1 => ("CarriedHistory$Plan", "lines", "I", false)
  | 2 => ("CarriedHistory$Plan", "from", "I", false)
  | 3 => ("CarriedHistory$Plan", "to", "I", false)
  | 4 => ("CarriedHistory$Plan", "keeps", "LCarriedHistory$Pairs;", true)
  | 5 => ("CarriedHistory$Plan", "drops", "LCarriedHistory$Pairs;", true)
  | 6 => ("CarriedHistory$Plan", "moves", "LCarriedHistory$Pairs;", true)
  | 7 => ("CarriedHistory$Plan", "swaps", "LCarriedHistory$Pairs;", true)
  | 8 => ("CarriedHistory$Plan", "words", "LCarriedHistory$Pairs;", true)
  | 9 => ("CarriedHistory$Plan", "grafts", "LCarriedHistory$Pairs;", true)
  | 10 => ("CarriedHistory$Plan", "signs", "LCarriedHistory$Pairs;", true)
  | 11 => ("CarriedHistory$Plan", "skips", "I", false)
  | 12 => ("CarriedHistory$Plan", "merges", "I", false)
  | 13 => ("CarriedHistory$Plan", "empty", "I", false)
  | 14 => ("CarriedHistory$Plan", "tags", "I", false)
  | 15 => ("CarriedHistory$Plan", "since", "I", false)
  | 16 => ("CarriedHistory$Plan", "most", "I", false)
  | 17 => ("CarriedHistory$Plan", "image", "[I", true)
  | _ => ("CarriedHistory$Plan", "fate", "[I", true)
def tyX5 : Nat → FieldType := fun k => match k with
  | 0 => .boolean
  | 1 => .int
  | 2 => .int
  | 3 => .int
  | 4 => .object "CarriedHistory$Pairs"
  | 5 => .object "CarriedHistory$Pairs"
  | 6 => .object "CarriedHistory$Pairs"
  | 7 => .object "CarriedHistory$Pairs"
  | 8 => .object "CarriedHistory$Pairs"
  | 9 => .object "CarriedHistory$Pairs"
  | 10 => .object "CarriedHistory$Pairs"
  | 11 => .int
  | 12 => .int
  | 13 => .int
  | 14 => .int
  | 15 => .int
  | 16 => .int
  | 17 => .array .int
  | _ => .array .int
theorem nmX5 : ∀ a, a < 19 → ∀ b, b < 19 → a ≠ b → (TX5 a).2.1 ≠ (TX5 b).2.1 := by decide +kernel
theorem tyX5_ok : ∀ k, k < 19 → parseFieldDescriptor (TX5 k).2.2.1 = some (tyX5 k) := by decide +kernel
abbrev cX5_init : ByteArray := prog_7_method_1_code
def yX5_init : MethodName := ⟨RX5, "<init>", "()V"⟩
abbrev cX5_begin : ByteArray := prog_7_method_2_code
def yX5_begin : MethodName := ⟨RX5, "begin", "()V"⟩
abbrev cX5_copy : ByteArray := prog_7_method_3_code
def yX5_copy : MethodName := ⟨RX5, "copy", "(LCarriedHistory$Plan;)V"⟩
abbrev cX5_takeMap : ByteArray := prog_7_method_4_code
def yX5_takeMap : MethodName := ⟨RX5, "takeMap", "([I[I)V"⟩
abbrev cX5_isMapped : ByteArray := prog_7_method_5_code
def yX5_isMapped : MethodName := ⟨RX5, "isMapped", "(I)Z"⟩
abbrev cX5_isKept : ByteArray := prog_7_method_6_code
def yX5_isKept : MethodName := ⟨RX5, "isKept", "(I)Z"⟩
abbrev cX5_foreCount : ByteArray := prog_7_method_7_code
def yX5_foreCount : MethodName := ⟨RX5, "foreCount", "(LCarriedHistory$Commits;I)I"⟩
abbrev cX5_foreAt : ByteArray := prog_7_method_8_code
def yX5_foreAt : MethodName := ⟨RX5, "foreAt", "(LCarriedHistory$Commits;II)I"⟩
abbrev cX5_placeOf : ByteArray := prog_7_method_9_code
def yX5_placeOf : MethodName := ⟨RX5, "placeOf", "(I)I"⟩
def RX6 : String := "CarriedHistory$PlanText"
def TX6 : u_T := fun k => match k with
  | 0 => ("CarriedHistory$PlanText", "told", "LCarriedHistory$Plan;", true)
  | 1 => ("CarriedHistory$PlanText", "commitCount", "I", false)
  | 2 => ("CarriedHistory$PlanText", "start", "I", false)
  | _ => ("CarriedHistory$PlanText", "toldOnce", "I", false)
def tyX6 : Nat → FieldType := fun k => match k with
  | 0 => .object "CarriedHistory$Plan"
  | 1 => .int
  | 2 => .int
  | _ => .int
theorem nmX6 : ∀ a, a < 4 → ∀ b, b < 4 → a ≠ b → (TX6 a).2.1 ≠ (TX6 b).2.1 := by decide +kernel
theorem tyX6_ok : ∀ k, k < 4 → parseFieldDescriptor (TX6 k).2.2.1 = some (tyX6 k) := by decide +kernel
abbrev cX6_init : ByteArray := prog_8_method_1_code
def yX6_init : MethodName := ⟨RX6, "<init>", "()V"⟩
abbrev cX6_read : ByteArray := prog_8_method_2_code
def yX6_read : MethodName := ⟨RX6, "read", "(LCarriedHistory$Tape;II)I"⟩
abbrev cX6_readLine : ByteArray := prog_8_method_3_code
def yX6_readLine : MethodName := ⟨RX6, "readLine", "(LCarriedHistory$Tape;)V"⟩
abbrev cX6_readWord : ByteArray := prog_8_method_4_code
def yX6_readWord : MethodName := ⟨RX6, "readWord", "(LCarriedHistory$Tape;)I"⟩
abbrev cX6_isSpelt : ByteArray := prog_8_method_5_code
def yX6_isSpelt : MethodName := ⟨RX6, "isSpelt", "(LCarriedHistory$Tape;Ljava/lang/String;)Z"⟩
abbrev cX6_spelling : ByteArray := prog_8_method_6_code
def yX6_spelling : MethodName := ⟨RX6, "spelling", "(I)Ljava/lang/String;"⟩
abbrev cX6_isTooMany : ByteArray := prog_8_method_7_code
def yX6_isTooMany : MethodName := ⟨RX6, "isTooMany", "(I)Z"⟩
abbrev cX6_pairsOf : ByteArray := prog_8_method_8_code
def yX6_pairsOf : MethodName := ⟨RX6, "pairsOf", "(I)LCarriedHistory$Pairs;"⟩
abbrev cX6_readPair : ByteArray := prog_8_method_9_code
def yX6_readPair : MethodName := ⟨RX6, "readPair", "(LCarriedHistory$Tape;I)V"⟩
abbrev cX6_readSide : ByteArray := prog_8_method_10_code
def yX6_readSide : MethodName := ⟨RX6, "readSide", "(LCarriedHistory$Tape;I)I"⟩
abbrev cX6_readCommit : ByteArray := prog_8_method_11_code
def yX6_readCommit : MethodName := ⟨RX6, "readCommit", "(LCarriedHistory$Tape;I)I"⟩
abbrev cX6_readSetting : ByteArray := prog_8_method_12_code
def yX6_readSetting : MethodName := ⟨RX6, "readSetting", "(LCarriedHistory$Tape;I)V"⟩
abbrev cX6_readTo : ByteArray := prog_8_method_13_code
def yX6_readTo : MethodName := ⟨RX6, "readTo", "(LCarriedHistory$Tape;)V"⟩
def RX7 : String := "CarriedHistory$Refs"
def TX7 : u_T := fun k => match k with
  | 0 => ("CarriedHistory$Refs", "count", "I", false)
  | 1 => ("CarriedHistory$Refs", "kind", "[I", true)
  | 2 => ("CarriedHistory$Refs", "letter", "[I", true)
  | 3 => ("CarriedHistory$Refs", "at", "[I", true)
  | _ => ("CarriedHistory$Refs", "laidBy", "[I", true)
def tyX7 : Nat → FieldType := fun k => match k with
  | 0 => .int
  | 1 => .array .int
  | 2 => .array .int
  | 3 => .array .int
  | _ => .array .int
theorem nmX7 : ∀ a, a < 5 → ∀ b, b < 5 → a ≠ b → (TX7 a).2.1 ≠ (TX7 b).2.1 := by decide +kernel
theorem tyX7_ok : ∀ k, k < 5 → parseFieldDescriptor (TX7 k).2.2.1 = some (tyX7 k) := by decide +kernel
abbrev cX7_init : ByteArray := prog_9_method_1_code
def yX7_init : MethodName := ⟨RX7, "<init>", "()V"⟩
abbrev cX7_find : ByteArray := prog_9_method_2_code
def yX7_find : MethodName := ⟨RX7, "find", "(II)I"⟩
abbrev cX7_branch : ByteArray := prog_9_method_3_code
def yX7_branch : MethodName := ⟨RX7, "branch", "(I)I"⟩
abbrev cX7_lay : ByteArray := prog_9_method_4_code
def yX7_lay : MethodName := ⟨RX7, "lay", "(IIII)V"⟩
abbrev cX7_makeRoom : ByteArray := prog_9_method_5_code
def yX7_makeRoom : MethodName := ⟨RX7, "makeRoom", "(I)I"⟩
abbrev cX7_take : ByteArray := prog_9_method_6_code
def yX7_take : MethodName := ⟨RX7, "take", "(ILCarriedHistory$Refs;I)V"⟩
abbrev cX7_remove : ByteArray := prog_9_method_7_code
def yX7_remove : MethodName := ⟨RX7, "remove", "(II)V"⟩
abbrev cX7_removeLaidBy : ByteArray := prog_9_method_8_code
def yX7_removeLaidBy : MethodName := ⟨RX7, "removeLaidBy", "(I)V"⟩
abbrev cX7_copy : ByteArray := prog_9_method_9_code
def yX7_copy : MethodName := ⟨RX7, "copy", "(LCarriedHistory$Refs;)V"⟩
abbrev cX7_missesOf : ByteArray := prog_9_method_10_code
def yX7_missesOf : MethodName := ⟨RX7, "missesOf", "(LCarriedHistory$Refs;)I"⟩
abbrev cX7_movesOf : ByteArray := prog_9_method_11_code
def yX7_movesOf : MethodName := ⟨RX7, "movesOf", "(LCarriedHistory$Refs;)I"⟩
def RX8 : String := "CarriedHistory$Rewriter"
def TX8 : u_T := fun k => match k with
  | 0 => ("CarriedHistory$Rewriter", "commits", "LCarriedHistory$Commits;", true)
  | 1 => ("CarriedHistory$Rewriter", "draft", "LCarriedHistory$Draft;", true)
  | 2 => ("CarriedHistory$Rewriter", "elders", "LCarriedHistory$Marks;", true)
  | 3 => ("CarriedHistory$Rewriter", "ofPlan", "LCarriedHistory$Marks;", true)
  | 4 => ("CarriedHistory$Rewriter", "image", "[I", true)
  | 5 => ("CarriedHistory$Rewriter", "fate", "[I", true)
  | 6 => ("CarriedHistory$Rewriter", "taken", "I", false)
  | 7 => ("CarriedHistory$Rewriter", "lost", "I", false)
  | 8 => ("CarriedHistory$Rewriter", "countsAs", "[I", true)
  | _ => ("CarriedHistory$Rewriter", "goes", "[Z", true)
def tyX8 : Nat → FieldType := fun k => match k with
  | 0 => .object "CarriedHistory$Commits"
  | 1 => .object "CarriedHistory$Draft"
  | 2 => .object "CarriedHistory$Marks"
  | 3 => .object "CarriedHistory$Marks"
  | 4 => .array .int
  | 5 => .array .int
  | 6 => .int
  | 7 => .int
  | 8 => .array .int
  | _ => .array .boolean
theorem nmX8 : ∀ a, a < 10 → ∀ b, b < 10 → a ≠ b → (TX8 a).2.1 ≠ (TX8 b).2.1 := by decide +kernel
theorem tyX8_ok : ∀ k, k < 10 → parseFieldDescriptor (TX8 k).2.2.1 = some (tyX8 k) := by decide +kernel
abbrev cX8_init : ByteArray := prog_10_method_1_code
def yX8_init : MethodName := ⟨RX8, "<init>", "()V"⟩
abbrev cX8_tree : ByteArray := prog_10_method_2_code
def yX8_tree : MethodName := ⟨RX8, "tree", "()LCarriedHistory$Tree;"⟩
abbrev cX8_isOfPlan : ByteArray := prog_10_method_3_code
def yX8_isOfPlan : MethodName := ⟨RX8, "isOfPlan", "(I)Z"⟩
abbrev cX8_markPlan : ByteArray := prog_10_method_4_code
def yX8_markPlan : MethodName := ⟨RX8, "markPlan", "(LCarriedHistory$Plan;LCarriedHistory$Refs;)V"⟩
abbrev cX8_begin : ByteArray := prog_10_method_5_code
def yX8_begin : MethodName := ⟨RX8, "begin", "(LCarriedHistory$Plan;LCarriedHistory$Refs;Z)V"⟩
abbrev cX8_rewrite : ByteArray := prog_10_method_6_code
def yX8_rewrite : MethodName := ⟨RX8, "rewrite", "(LCarriedHistory$Plan;I)Z"⟩
abbrev cX8_carryTree : ByteArray := prog_10_method_7_code
def yX8_carryTree : MethodName := ⟨RX8, "carryTree", "(LCarriedHistory$Plan;LCarriedHistory$Tree;)V"⟩
abbrev cX8_gatherParents : ByteArray := prog_10_method_8_code
def yX8_gatherParents : MethodName := ⟨RX8, "gatherParents", "(LCarriedHistory$Plan;I)V"⟩
abbrev cX8_thinParents : ByteArray := prog_10_method_9_code
def yX8_thinParents : MethodName := ⟨RX8, "thinParents", "(I)V"⟩
abbrev cX8_isNeedless : ByteArray := prog_10_method_10_code
def yX8_isNeedless : MethodName := ⟨RX8, "isNeedless", "(IZ)Z"⟩
abbrev cX8_bringsNothing : ByteArray := prog_10_method_11_code
def yX8_bringsNothing : MethodName := ⟨RX8, "bringsNothing", "()Z"⟩
abbrev cX8_isEmptyByItself : ByteArray := prog_10_method_12_code
def yX8_isEmptyByItself : MethodName := ⟨RX8, "isEmptyByItself", "(LCarriedHistory$Plan;I)Z"⟩
abbrev cX8_isSkipped : ByteArray := prog_10_method_13_code
def yX8_isSkipped : MethodName := ⟨RX8, "isSkipped", "(LCarriedHistory$Plan;I)Z"⟩
abbrev cX8_carryMessage : ByteArray := prog_10_method_14_code
def yX8_carryMessage : MethodName := ⟨RX8, "carryMessage", "(LCarriedHistory$Plan;I)V"⟩
abbrev cX8_endOfPiece : ByteArray := prog_10_method_15_code
def yX8_endOfPiece : MethodName := ⟨RX8, "endOfPiece", "(II)I"⟩
abbrev cX8_carryMention : ByteArray := prog_10_method_16_code
def yX8_carryMention : MethodName := ⟨RX8, "carryMention", "(III)Z"⟩
abbrev cX8_wordAt : ByteArray := prog_10_method_17_code
def yX8_wordAt : MethodName := ⟨RX8, "wordAt", "(III)I"⟩
abbrev cX8_addWord : ByteArray := prog_10_method_18_code
def yX8_addWord : MethodName := ⟨RX8, "addWord", "(I)V"⟩
def RX9 : String := "CarriedHistory$Tape"
def TX9 : u_T := fun k => match k with
  | 0 => ("CarriedHistory$Tape", "bytes", "[B", true)
  | 1 => ("CarriedHistory$Tape", "length", "I", false)
  | 2 => ("CarriedHistory$Tape", "place", "I", false)
  | 3 => ("CarriedHistory$Tape", "end", "I", false)
  | _ => ("CarriedHistory$Tape", "fault", "I", false)
def tyX9 : Nat → FieldType := fun k => match k with
  | 0 => .array .byte
  | 1 => .int
  | 2 => .int
  | 3 => .int
  | _ => .int
theorem nmX9 : ∀ a, a < 5 → ∀ b, b < 5 → a ≠ b → (TX9 a).2.1 ≠ (TX9 b).2.1 := by decide +kernel
theorem tyX9_ok : ∀ k, k < 5 → parseFieldDescriptor (TX9 k).2.2.1 = some (tyX9 k) := by decide +kernel
abbrev cX9_init : ByteArray := prog_11_method_1_code
def yX9_init : MethodName := ⟨RX9, "<init>", "()V"⟩
abbrev cX9_add : ByteArray := prog_11_method_2_code
def yX9_add : MethodName := ⟨RX9, "add", "(I)V"⟩
abbrev cX9_at : ByteArray := prog_11_method_3_code
def yX9_at : MethodName := ⟨RX9, "at", "(I)I"⟩
abbrev cX9_begin : ByteArray := prog_11_method_4_code
def yX9_begin : MethodName := ⟨RX9, "begin", "(I)V"⟩
abbrev cX9_isAtEnd : ByteArray := prog_11_method_5_code
def yX9_isAtEnd : MethodName := ⟨RX9, "isAtEnd", "()Z"⟩
abbrev cX9_next : ByteArray := prog_11_method_6_code
def yX9_next : MethodName := ⟨RX9, "next", "()I"⟩
abbrev cX9_isDigit : ByteArray := prog_11_method_7_code
def yX9_isDigit : MethodName := ⟨RX9, "isDigit", "()Z"⟩
abbrev cX9_isLetter : ByteArray := prog_11_method_8_code
def yX9_isLetter : MethodName := ⟨RX9, "isLetter", "()Z"⟩
abbrev cX9_fail : ByteArray := prog_11_method_9_code
def yX9_fail : MethodName := ⟨RX9, "fail", "(II)V"⟩
abbrev cX9_expect : ByteArray := prog_11_method_10_code
def yX9_expect : MethodName := ⟨RX9, "expect", "(I)Z"⟩
abbrev cX9_digit : ByteArray := prog_11_method_11_code
def yX9_digit : MethodName := ⟨RX9, "digit", "(II)I"⟩
abbrev cX9_digits : ByteArray := prog_11_method_12_code
def yX9_digits : MethodName := ⟨RX9, "digits", "(II)I"⟩
abbrev cX9_word : ByteArray := prog_11_method_13_code
def yX9_word : MethodName := ⟨RX9, "word", "()I"⟩
abbrev cX9_path : ByteArray := prog_11_method_14_code
def yX9_path : MethodName := ⟨RX9, "path", "(I)I"⟩
def RX10 : String := "CarriedHistory$Tree"
def TX10 : u_T := fun k => match k with
  | 0 => ("CarriedHistory$Tree", "path", "[I", true)
  | 1 => ("CarriedHistory$Tree", "content", "[I", true)
  | _ => ("CarriedHistory$Tree", "count", "I", false)
def tyX10 : Nat → FieldType := fun k => match k with
  | 0 => .array .int
  | 1 => .array .int
  | _ => .int
theorem nmX10 : ∀ a, a < 3 → ∀ b, b < 3 → a ≠ b → (TX10 a).2.1 ≠ (TX10 b).2.1 := by decide +kernel
theorem tyX10_ok : ∀ k, k < 3 → parseFieldDescriptor (TX10 k).2.2.1 = some (tyX10 k) := by decide +kernel
abbrev cX10_init : ByteArray := prog_12_method_1_code
def yX10_init : MethodName := ⟨RX10, "<init>", "(I)V"⟩
abbrev cX10_withName : ByteArray := prog_12_method_2_code
def yX10_withName : MethodName := ⟨RX10, "withName", "(III)I"⟩
abbrev cX10_namesIn : ByteArray := prog_12_method_3_code
def yX10_namesIn : MethodName := ⟨RX10, "namesIn", "(I)I"⟩
abbrev cX10_covers : ByteArray := prog_12_method_4_code
def yX10_covers : MethodName := ⟨RX10, "covers", "(II)Z"⟩
abbrev cX10_moved : ByteArray := prog_12_method_5_code
def yX10_moved : MethodName := ⟨RX10, "moved", "(III)I"⟩
abbrev cX10_copy : ByteArray := prog_12_method_6_code
def yX10_copy : MethodName := ⟨RX10, "copy", "(LCarriedHistory$Tree;)V"⟩
abbrev cX10_find : ByteArray := prog_12_method_7_code
def yX10_find : MethodName := ⟨RX10, "find", "(I)I"⟩
abbrev cX10_contentAt : ByteArray := prog_12_method_8_code
def yX10_contentAt : MethodName := ⟨RX10, "contentAt", "(I)I"⟩
abbrev cX10_filesAt : ByteArray := prog_12_method_9_code
def yX10_filesAt : MethodName := ⟨RX10, "filesAt", "(I)I"⟩
abbrev cX10_hasFolder : ByteArray := prog_12_method_10_code
def yX10_hasFolder : MethodName := ⟨RX10, "hasFolder", "(I)Z"⟩
abbrev cX10_hasFileAhead : ByteArray := prog_12_method_11_code
def yX10_hasFileAhead : MethodName := ⟨RX10, "hasFileAhead", "(I)Z"⟩
abbrev cX10_hasFilesAlone : ByteArray := prog_12_method_12_code
def yX10_hasFilesAlone : MethodName := ⟨RX10, "hasFilesAlone", "(I)Z"⟩
abbrev cX10_entriesIn : ByteArray := prog_12_method_13_code
def yX10_entriesIn : MethodName := ⟨RX10, "entriesIn", "(I)I"⟩
abbrev cX10_put : ByteArray := prog_12_method_14_code
def yX10_put : MethodName := ⟨RX10, "put", "(II)V"⟩
abbrev cX10_removeFile : ByteArray := prog_12_method_15_code
def yX10_removeFile : MethodName := ⟨RX10, "removeFile", "(I)V"⟩
abbrev cX10_removeAt : ByteArray := prog_12_method_16_code
def yX10_removeAt : MethodName := ⟨RX10, "removeAt", "(I)V"⟩
abbrev cX10_takeAll : ByteArray := prog_12_method_17_code
def yX10_takeAll : MethodName := ⟨RX10, "takeAll", "(LCarriedHistory$Tree;)Z"⟩
abbrev cX10_clashes : ByteArray := prog_12_method_18_code
def yX10_clashes : MethodName := ⟨RX10, "clashes", "()Z"⟩
abbrev cX10_isTaken : ByteArray := prog_12_method_19_code
def yX10_isTaken : MethodName := ⟨RX10, "isTaken", "(I)Z"⟩
abbrev cX10_isLike : ByteArray := prog_12_method_20_code
def yX10_isLike : MethodName := ⟨RX10, "isLike", "(LCarriedHistory$Tree;)Z"⟩
abbrev cX10_isLikeAt : ByteArray := prog_12_method_21_code
def yX10_isLikeAt : MethodName := ⟨RX10, "isLikeAt", "(LCarriedHistory$Tree;I)Z"⟩
abbrev cX10_spell : ByteArray := prog_12_method_22_code
def yX10_spell : MethodName := ⟨RX10, "spell", "(Ljava/lang/StringBuilder;)V"⟩
abbrev cX10_spellPath : ByteArray := prog_12_method_23_code
def yX10_spellPath : MethodName := ⟨RX10, "spellPath", "(Ljava/lang/StringBuilder;I)V"⟩
abbrev cX10_spellContent : ByteArray := prog_12_method_24_code
def yX10_spellContent : MethodName := ⟨RX10, "spellContent", "(Ljava/lang/StringBuilder;I)V"⟩
def RX11 : String := "CarriedHistory"
def TX11 : u_T := fun k => match k with
  | 0 => ("CarriedHistory", "tape", "LCarriedHistory$Tape;", true)
  | 1 => ("CarriedHistory", "rewriter", "LCarriedHistory$Rewriter;", true)
  | 2 => ("CarriedHistory", "commits", "LCarriedHistory$Commits;", true)
  | 3 => ("CarriedHistory", "draft", "LCarriedHistory$Draft;", true)
  | 4 => ("CarriedHistory", "histories", "[LCarriedHistory$Refs;", true)
  | 5 => ("CarriedHistory", "plans", "[LCarriedHistory$Plan;", true)
  | 6 => ("CarriedHistory", "planText", "LCarriedHistory$PlanText;", true)
  | 7 => ("CarriedHistory", "laidRefs", "LCarriedHistory$Refs;", true)
  | 8 => ("CarriedHistory", "change", "LCarriedHistory$Change;", true)
  | 9 => ("CarriedHistory", "otherChange", "LCarriedHistory$Change;", true)
  | 10 => ("CarriedHistory", "marks", "LCarriedHistory$Marks;", true)
  | 11 => ("CarriedHistory", "row", "[I", true)
  | 12 => ("CarriedHistory", "slots", "[I", true)
  | 13 => ("CarriedHistory", "text", "Ljava/lang/StringBuilder;", true)
  | 14 => ("CarriedHistory", "savedHistories", "[LCarriedHistory$Refs;", true)
  | 15 => ("CarriedHistory", "savedPlans", "[LCarriedHistory$Plan;", true)
  | _ => ("CarriedHistory", "savedCommits", "I", false)
def tyX11 : Nat → FieldType := fun k => match k with
  | 0 => .object "CarriedHistory$Tape"
  | 1 => .object "CarriedHistory$Rewriter"
  | 2 => .object "CarriedHistory$Commits"
  | 3 => .object "CarriedHistory$Draft"
  | 4 => .array (.object "CarriedHistory$Refs")
  | 5 => .array (.object "CarriedHistory$Plan")
  | 6 => .object "CarriedHistory$PlanText"
  | 7 => .object "CarriedHistory$Refs"
  | 8 => .object "CarriedHistory$Change"
  | 9 => .object "CarriedHistory$Change"
  | 10 => .object "CarriedHistory$Marks"
  | 11 => .array .int
  | 12 => .array .int
  | 13 => .object "java/lang/StringBuilder"
  | 14 => .array (.object "CarriedHistory$Refs")
  | 15 => .array (.object "CarriedHistory$Plan")
  | _ => .int
theorem nmX11 : ∀ a, a < 17 → ∀ b, b < 17 → a ≠ b → (TX11 a).2.1 ≠ (TX11 b).2.1 := by decide +kernel
theorem tyX11_ok : ∀ k, k < 17 → parseFieldDescriptor (TX11 k).2.2.1 = some (tyX11 k) := by decide +kernel
abbrev cX11_init : ByteArray := prog_1_method_1_code
def yX11_init : MethodName := ⟨RX11, "<init>", "()V"⟩
abbrev cX11_feed : ByteArray := prog_1_method_2_code
def yX11_feed : MethodName := ⟨RX11, "feed", "(IIIII)I"⟩
abbrev cX11_commit : ByteArray := prog_1_method_3_code
def yX11_commit : MethodName := ⟨RX11, "commit", "(III)I"⟩
abbrev cX11_plan : ByteArray := prog_1_method_4_code
def yX11_plan : MethodName := ⟨RX11, "plan", "(II)I"⟩
abbrev cX11_check : ByteArray := prog_1_method_5_code
def yX11_check : MethodName := ⟨RX11, "check", "(I)I"⟩
abbrev cX11_ref : ByteArray := prog_1_method_6_code
def yX11_ref : MethodName := ⟨RX11, "ref", "(IIII)I"⟩
abbrev cX11_run : ByteArray := prog_1_method_7_code
def yX11_run : MethodName := ⟨RX11, "run", "(I)I"⟩
abbrev cX11_again : ByteArray := prog_1_method_8_code
def yX11_again : MethodName := ⟨RX11, "again", "(I)I"⟩
abbrev cX11_carry : ByteArray := prog_1_method_9_code
def yX11_carry : MethodName := ⟨RX11, "carry", "(IZ)I"⟩
abbrev cX11_layRefs : ByteArray := prog_1_method_10_code
def yX11_layRefs : MethodName := ⟨RX11, "layRefs", "(LCarriedHistory$Plan;I)V"⟩
abbrev cX11_join : ByteArray := prog_1_method_11_code
def yX11_join : MethodName := ⟨RX11, "join", "(IIIII)I"⟩
abbrev cX11_replay : ByteArray := prog_1_method_12_code
def yX11_replay : MethodName := ⟨RX11, "replay", "(III)I"⟩
abbrev cX11_settleOn : ByteArray := prog_1_method_13_code
def yX11_settleOn : MethodName := ⟨RX11, "settleOn", "(LCarriedHistory$Refs;I)I"⟩
abbrev cX11_commitIs : ByteArray := prog_1_method_14_code
def yX11_commitIs : MethodName := ⟨RX11, "commitIs", "(II)I"⟩
abbrev cX11_spelt : ByteArray := prog_1_method_15_code
def yX11_spelt : MethodName := ⟨RX11, "spelt", "(II)I"⟩
abbrev cX11_look : ByteArray := prog_1_method_16_code
def yX11_look : MethodName := ⟨RX11, "look", "(III)I"⟩
abbrev cX11_touches : ByteArray := prog_1_method_17_code
def yX11_touches : MethodName := ⟨RX11, "touches", "(II)I"⟩
abbrev cX11_readWholePath : ByteArray := prog_1_method_18_code
def yX11_readWholePath : MethodName := ⟨RX11, "readWholePath", "(I)I"⟩
abbrev cX11_isTouched : ByteArray := prog_1_method_19_code
def yX11_isTouched : MethodName := ⟨RX11, "isTouched", "(II)Z"⟩
abbrev cX11_planIs : ByteArray := prog_1_method_20_code
def yX11_planIs : MethodName := ⟨RX11, "planIs", "(II)I"⟩
abbrev cX11_mapIs : ByteArray := prog_1_method_21_code
def yX11_mapIs : MethodName := ⟨RX11, "mapIs", "(LCarriedHistory$Plan;I)I"⟩
abbrev cX11_image : ByteArray := prog_1_method_22_code
def yX11_image : MethodName := ⟨RX11, "image", "(III)I"⟩
abbrev cX11_tried : ByteArray := prog_1_method_23_code
def yX11_tried : MethodName := ⟨RX11, "tried", "(III)I"⟩
abbrev cX11_share : ByteArray := prog_1_method_24_code
def yX11_share : MethodName := ⟨RX11, "share", "(I)J"⟩
abbrev cX11_sound : ByteArray := prog_1_method_25_code
def yX11_sound : MethodName := ⟨RX11, "sound", "(II)I"⟩
abbrev cX11_flawsOf : ByteArray := prog_1_method_26_code
def yX11_flawsOf : MethodName := ⟨RX11, "flawsOf", "(LCarriedHistory$Plan;II)I"⟩
abbrev cX11_isFlawed : ByteArray := prog_1_method_27_code
def yX11_isFlawed : MethodName := ⟨RX11, "isFlawed", "(LCarriedHistory$Plan;III)Z"⟩
abbrev cX11_refIs : ByteArray := prog_1_method_28_code
def yX11_refIs : MethodName := ⟨RX11, "refIs", "(III)I"⟩
abbrev cX11_historyIs : ByteArray := prog_1_method_29_code
def yX11_historyIs : MethodName := ⟨RX11, "historyIs", "(II)I"⟩
abbrev cX11_withParents : ByteArray := prog_1_method_30_code
def yX11_withParents : MethodName := ⟨RX11, "withParents", "(Z)I"⟩
abbrev cX11_childless : ByteArray := prog_1_method_31_code
def yX11_childless : MethodName := ⟨RX11, "childless", "()I"⟩
abbrev cX11_greatestGeneration : ByteArray := prog_1_method_32_code
def yX11_greatestGeneration : MethodName := ⟨RX11, "greatestGeneration", "()I"⟩
abbrev cX11_unlikeTrees : ByteArray := prog_1_method_33_code
def yX11_unlikeTrees : MethodName := ⟨RX11, "unlikeTrees", "()I"⟩
abbrev cX11_listing : ByteArray := prog_1_method_34_code
def yX11_listing : MethodName := ⟨RX11, "listing", "(II)I"⟩
abbrev cX11_countChildren : ByteArray := prog_1_method_35_code
def yX11_countChildren : MethodName := ⟨RX11, "countChildren", "()V"⟩
abbrev cX11_nextListed : ByteArray := prog_1_method_36_code
def yX11_nextListed : MethodName := ⟨RX11, "nextListed", "()I"⟩
abbrev cX11_apart : ByteArray := prog_1_method_37_code
def yX11_apart : MethodName := ⟨RX11, "apart", "(III)I"⟩
abbrev cX11_picked : ByteArray := prog_1_method_38_code
def yX11_picked : MethodName := ⟨RX11, "picked", "(II)I"⟩
abbrev cX11_ancestor : ByteArray := prog_1_method_39_code
def yX11_ancestor : MethodName := ⟨RX11, "ancestor", "(II)I"⟩
abbrev cX11_base : ByteArray := prog_1_method_40_code
def yX11_base : MethodName := ⟨RX11, "base", "(III)I"⟩
abbrev cX11_markBases : ByteArray := prog_1_method_41_code
def yX11_markBases : MethodName := ⟨RX11, "markBases", "(II)V"⟩
abbrev cX11_way : ByteArray := prog_1_method_42_code
def yX11_way : MethodName := ⟨RX11, "way", "(II)I"⟩
abbrev cX11_halving : ByteArray := prog_1_method_43_code
def yX11_halving : MethodName := ⟨RX11, "halving", "(III)I"⟩
abbrev cX11_line : ByteArray := prog_1_method_44_code
def yX11_line : MethodName := ⟨RX11, "line", "(II)I"⟩
abbrev cX11_diff : ByteArray := prog_1_method_45_code
def yX11_diff : MethodName := ⟨RX11, "diff", "(III)I"⟩
abbrev cX11_renamed : ByteArray := prog_1_method_46_code
def yX11_renamed : MethodName := ⟨RX11, "renamed", "(IIII)I"⟩
abbrev cX11_likeness : ByteArray := prog_1_method_47_code
def yX11_likeness : MethodName := ⟨RX11, "likeness", "(IIIII)I"⟩
abbrev cX11_origin : ByteArray := prog_1_method_48_code
def yX11_origin : MethodName := ⟨RX11, "origin", "(III)I"⟩
abbrev cX11_parentWithFile : ByteArray := prog_1_method_49_code
def yX11_parentWithFile : MethodName := ⟨RX11, "parentWithFile", "(II)I"⟩
abbrev cX11_parentRenamed : ByteArray := prog_1_method_50_code
def yX11_parentRenamed : MethodName := ⟨RX11, "parentRenamed", "(II)I"⟩
abbrev cX11_keep : ByteArray := prog_1_method_51_code
def yX11_keep : MethodName := ⟨RX11, "keep", "()I"⟩
abbrev cX11_undo : ByteArray := prog_1_method_52_code
def yX11_undo : MethodName := ⟨RX11, "undo", "()Z"⟩
abbrev cX11_count : ByteArray := prog_1_method_53_code
def yX11_count : MethodName := ⟨RX11, "count", "(I)I"⟩
abbrev cX11_unlikeContents : ByteArray := prog_1_method_54_code
def yX11_unlikeContents : MethodName := ⟨RX11, "unlikeContents", "()I"⟩
abbrev cX11_isNewContent : ByteArray := prog_1_method_55_code
def yX11_isNewContent : MethodName := ⟨RX11, "isNewContent", "(I)Z"⟩
abbrev cX11_isWho : ByteArray := prog_1_method_56_code
def yX11_isWho : MethodName := ⟨RX11, "isWho", "(I)Z"⟩
abbrev cX11_isHour : ByteArray := prog_1_method_57_code
def yX11_isHour : MethodName := ⟨RX11, "isHour", "(I)Z"⟩
abbrev cX11_isPlan : ByteArray := prog_1_method_58_code
def yX11_isPlan : MethodName := ⟨RX11, "isPlan", "(I)Z"⟩
abbrev cX11_isHistory : ByteArray := prog_1_method_59_code
def yX11_isHistory : MethodName := ⟨RX11, "isHistory", "(I)Z"⟩
abbrev cX11_isLetter : ByteArray := prog_1_method_60_code
def yX11_isLetter : MethodName := ⟨RX11, "isLetter", "(I)Z"⟩
abbrev cX11_isFile : ByteArray := prog_1_method_61_code
def yX11_isFile : MethodName := ⟨RX11, "isFile", "(I)Z"⟩
abbrev cX11_hundredths : ByteArray := prog_1_method_62_code
def yX11_hundredths : MethodName := ⟨RX11, "hundredths", "(F)I"⟩
abbrev cX11_floatBits : ByteArray := prog_1_method_63_code
def yX11_floatBits : MethodName := ⟨RX11, "floatBits", "(F)I"⟩
abbrev cX11_doubleBits : ByteArray := prog_1_method_64_code
def yX11_doubleBits : MethodName := ⟨RX11, "doubleBits", "(D)J"⟩
def RX12 : String := "CarriedHistoryModel"
def TX12 : u_T := fun k => match k with
  | 0 => ("CarriedHistoryModel", "commits", "I", false)
  | 1 => ("CarriedHistoryModel", "parentMany", "[I", true)
  | 2 => ("CarriedHistoryModel", "parentOf", "[I", true)
  | 3 => ("CarriedHistoryModel", "whoOf", "[I", true)
  | 4 => ("CarriedHistoryModel", "hourOf", "[I", true)
  | 5 => ("CarriedHistoryModel", "saidMany", "[I", true)
  | 6 => ("CarriedHistoryModel", "said", "[I", true)
  | 7 => ("CarriedHistoryModel", "fileMany", "[I", true)
  | 8 => ("CarriedHistoryModel", "pathOf", "[I", true)
  | 9 => ("CarriedHistoryModel", "contentOf", "[I", true)
  | 10 => ("CarriedHistoryModel", "newParents", "[I", true)
  | 11 => ("CarriedHistoryModel", "newSaid", "[I", true)
  | 12 => ("CarriedHistoryModel", "newParentMany", "I", false)
  | 13 => ("CarriedHistoryModel", "newSaidMany", "I", false)
  | 14 => ("CarriedHistoryModel", "come", "[Z", true)
  | 15 => ("CarriedHistoryModel", "comeToo", "[Z", true)
  | 16 => ("CarriedHistoryModel", "heightOf", "[I", true)
  | 17 => ("CarriedHistoryModel", "tape", "[B", true)
  | 18 => ("CarriedHistoryModel", "taped", "I", false)
  | 19 => ("CarriedHistoryModel", "place0", "I", false)
  | 20 => ("CarriedHistoryModel", "length0", "I", false)
  | 21 => ("CarriedHistoryModel", "fault", "I", false)
  | 22 => ("CarriedHistoryModel", "number0", "I", false)
  | 23 => ("CarriedHistoryModel", "path0", "I", false)
  | 24 => ("CarriedHistoryModel", "refAt", "[I", true)
  | 25 => ("CarriedHistoryModel", "refBy", "[I", true)
  | 26 => ("CarriedHistoryModel", "plans", "[I", true)
  | 27 => ("CarriedHistoryModel", "kindOf", "[I", true)
  | 28 => ("CarriedHistoryModel", "imageOf", "[I", true)
  | 29 => ("CarriedHistoryModel", "word0", "I", false)
  | 30 => ("CarriedHistoryModel", "wordAt", "I", false)
  | 31 => ("CarriedHistoryModel", "elders", "[Z", true)
  | 32 => ("CarriedHistoryModel", "takenMany", "I", false)
  | 33 => ("CarriedHistoryModel", "lostMany", "I", false)
  | 34 => ("CarriedHistoryModel", "carried", "[I", true)
  | 35 => ("CarriedHistoryModel", "countsAs", "[I", true)
  | 36 => ("CarriedHistoryModel", "goes", "[Z", true)
  | 37 => ("CarriedHistoryModel", "carriedMany", "I", false)
  | 38 => ("CarriedHistoryModel", "sayAt", "I", false)
  | 39 => ("CarriedHistoryModel", "ofThePlan", "[Z", true)
  | 40 => ("CarriedHistoryModel", "laidAt", "[I", true)
  | 41 => ("CarriedHistoryModel", "laidBy", "[I", true)
  | 42 => ("CarriedHistoryModel", "kindWas", "[I", true)
  | 43 => ("CarriedHistoryModel", "imageWas", "[I", true)
  | 44 => ("CarriedHistoryModel", "changePath", "[I", true)
  | 45 => ("CarriedHistoryModel", "changeTo", "[I", true)
  | 46 => ("CarriedHistoryModel", "changeOf", "[I", true)
  | 47 => ("CarriedHistoryModel", "otherPath", "[I", true)
  | 48 => ("CarriedHistoryModel", "otherTo", "[I", true)
  | 49 => ("CarriedHistoryModel", "changeMany", "I", false)
  | 50 => ("CarriedHistoryModel", "spellAt", "I", false)
  | 51 => ("CarriedHistoryModel", "spellIs", "I", false)
  | 52 => ("CarriedHistoryModel", "left", "[Z", true)
  | 53 => ("CarriedHistoryModel", "ofOne", "[Z", true)
  | 54 => ("CarriedHistoryModel", "ofOther", "[Z", true)
  | 55 => ("CarriedHistoryModel", "stepsTo", "[I", true)
  | 56 => ("CarriedHistoryModel", "tableOf", "[I", true)
  | 57 => ("CarriedHistoryModel", "pairFrom", "[I", true)
  | 58 => ("CarriedHistoryModel", "pairTo", "[I", true)
  | 59 => ("CarriedHistoryModel", "pairMany", "I", false)
  | 60 => ("CarriedHistoryModel", "originOf", "I", false)
  | 61 => ("CarriedHistoryModel", "originFile", "I", false)
  | 62 => ("CarriedHistoryModel", "originUnlike", "I", false)
  | 63 => ("CarriedHistoryModel", "originRenamed", "I", false)
  | 64 => ("CarriedHistoryModel", "originWorn", "F", false)
  | 65 => ("CarriedHistoryModel", "keptRefAt", "[I", true)
  | 66 => ("CarriedHistoryModel", "keptRefBy", "[I", true)
  | 67 => ("CarriedHistoryModel", "keptPlans", "[I", true)
  | 68 => ("CarriedHistoryModel", "keptKind", "[I", true)
  | 69 => ("CarriedHistoryModel", "keptImage", "[I", true)
  | 70 => ("CarriedHistoryModel", "keptCommits", "I", false)
  | _ => ("CarriedHistoryModel", "isSaved", "Z", false)
def tyX12 : Nat → FieldType := fun k => match k with
  | 0 => .int
  | 1 => .array .int
  | 2 => .array .int
  | 3 => .array .int
  | 4 => .array .int
  | 5 => .array .int
  | 6 => .array .int
  | 7 => .array .int
  | 8 => .array .int
  | 9 => .array .int
  | 10 => .array .int
  | 11 => .array .int
  | 12 => .int
  | 13 => .int
  | 14 => .array .boolean
  | 15 => .array .boolean
  | 16 => .array .int
  | 17 => .array .byte
  | 18 => .int
  | 19 => .int
  | 20 => .int
  | 21 => .int
  | 22 => .int
  | 23 => .int
  | 24 => .array .int
  | 25 => .array .int
  | 26 => .array .int
  | 27 => .array .int
  | 28 => .array .int
  | 29 => .int
  | 30 => .int
  | 31 => .array .boolean
  | 32 => .int
  | 33 => .int
  | 34 => .array .int
  | 35 => .array .int
  | 36 => .array .boolean
  | 37 => .int
  | 38 => .int
  | 39 => .array .boolean
  | 40 => .array .int
  | 41 => .array .int
  | 42 => .array .int
  | 43 => .array .int
  | 44 => .array .int
  | 45 => .array .int
  | 46 => .array .int
  | 47 => .array .int
  | 48 => .array .int
  | 49 => .int
  | 50 => .int
  | 51 => .int
  | 52 => .array .boolean
  | 53 => .array .boolean
  | 54 => .array .boolean
  | 55 => .array .int
  | 56 => .array .int
  | 57 => .array .int
  | 58 => .array .int
  | 59 => .int
  | 60 => .int
  | 61 => .int
  | 62 => .int
  | 63 => .int
  | 64 => .float
  | 65 => .array .int
  | 66 => .array .int
  | 67 => .array .int
  | 68 => .array .int
  | 69 => .array .int
  | 70 => .int
  | _ => .boolean
theorem nmX12 : ∀ a, a < 72 → ∀ b, b < 72 → a ≠ b → (TX12 a).2.1 ≠ (TX12 b).2.1 := by decide +kernel
theorem tyX12_ok : ∀ k, k < 72 → parseFieldDescriptor (TX12 k).2.2.1 = some (tyX12 k) := by decide +kernel
abbrev cX12_init : ByteArray := prog_14_method_1_code
def yX12_init : MethodName := ⟨RX12, "<init>", "()V"⟩
abbrev cX12_in : ByteArray := prog_14_method_2_code
def yX12_in : MethodName := ⟨RX12, "in", "(III)Z"⟩
abbrev cX12_min : ByteArray := prog_14_method_3_code
def yX12_min : MethodName := ⟨RX12, "min", "(II)I"⟩
abbrev cX12_max : ByteArray := prog_14_method_4_code
def yX12_max : MethodName := ⟨RX12, "max", "(II)I"⟩
abbrev cX12_has : ByteArray := prog_14_method_5_code
def yX12_has : MethodName := ⟨RX12, "has", "(II)Z"⟩
abbrev cX12_names : ByteArray := prog_14_method_6_code
def yX12_names : MethodName := ⟨RX12, "names", "(I)I"⟩
abbrev cX12_begins : ByteArray := prog_14_method_7_code
def yX12_begins : MethodName := ⟨RX12, "begins", "(II)Z"⟩
abbrev cX12_isAtOrBelow : ByteArray := prog_14_method_8_code
def yX12_isAtOrBelow : MethodName := ⟨RX12, "isAtOrBelow", "(II)Z"⟩
abbrev cX12_moved : ByteArray := prog_14_method_9_code
def yX12_moved : MethodName := ⟨RX12, "moved", "(III)I"⟩
abbrev cX12_digits : ByteArray := prog_14_method_10_code
def yX12_digits : MethodName := ⟨RX12, "digits", "(I)I"⟩
abbrev cX12_rowOf : ByteArray := prog_14_method_11_code
def yX12_rowOf : MethodName := ⟨RX12, "rowOf", "(I)I"⟩
abbrev cX12_pathAt : ByteArray := prog_14_method_12_code
def yX12_pathAt : MethodName := ⟨RX12, "pathAt", "(II)I"⟩
abbrev cX12_contentAt : ByteArray := prog_14_method_13_code
def yX12_contentAt : MethodName := ⟨RX12, "contentAt", "(II)I"⟩
abbrev cX12_fileAt : ByteArray := prog_14_method_14_code
def yX12_fileAt : MethodName := ⟨RX12, "fileAt", "(II)I"⟩
abbrev cX12_contentBy : ByteArray := prog_14_method_15_code
def yX12_contentBy : MethodName := ⟨RX12, "contentBy", "(II)I"⟩
abbrev cX12_filesBelow : ByteArray := prog_14_method_16_code
def yX12_filesBelow : MethodName := ⟨RX12, "filesBelow", "(II)I"⟩
abbrev cX12_kindAt : ByteArray := prog_14_method_17_code
def yX12_kindAt : MethodName := ⟨RX12, "kindAt", "(II)I"⟩
abbrev cX12_isBarred : ByteArray := prog_14_method_18_code
def yX12_isBarred : MethodName := ⟨RX12, "isBarred", "(II)Z"⟩
abbrev cX12_copyTree : ByteArray := prog_14_method_19_code
def yX12_copyTree : MethodName := ⟨RX12, "copyTree", "(II)V"⟩
abbrev cX12_puts : ByteArray := prog_14_method_20_code
def yX12_puts : MethodName := ⟨RX12, "puts", "(III)V"⟩
abbrev cX12_takes : ByteArray := prog_14_method_21_code
def yX12_takes : MethodName := ⟨RX12, "takes", "(II)V"⟩
abbrev cX12_areLike : ByteArray := prog_14_method_22_code
def yX12_areLike : MethodName := ⟨RX12, "areLike", "(II)Z"⟩
abbrev cX12_isCommit : ByteArray := prog_14_method_23_code
def yX12_isCommit : MethodName := ⟨RX12, "isCommit", "(I)Z"⟩
abbrev cX12_parentAt : ByteArray := prog_14_method_24_code
def yX12_parentAt : MethodName := ⟨RX12, "parentAt", "(II)I"⟩
abbrev cX12_isSameAs : ByteArray := prog_14_method_25_code
def yX12_isSameAs : MethodName := ⟨RX12, "isSameAs", "(IIII)Z"⟩
abbrev cX12_comes : ByteArray := prog_14_method_26_code
def yX12_comes : MethodName := ⟨RX12, "comes", "(III)I"⟩
abbrev cX12_clears : ByteArray := prog_14_method_27_code
def yX12_clears : MethodName := ⟨RX12, "clears", "([Z)V"⟩
abbrev cX12_walksBack : ByteArray := prog_14_method_28_code
def yX12_walksBack : MethodName := ⟨RX12, "walksBack", "([Z)V"⟩
abbrev cX12_marksWithAncestors : ByteArray := prog_14_method_29_code
def yX12_marksWithAncestors : MethodName := ⟨RX12, "marksWithAncestors", "([ZI)V"⟩
abbrev cX12_isAncestor : ByteArray := prog_14_method_30_code
def yX12_isAncestor : MethodName := ⟨RX12, "isAncestor", "(II)Z"⟩
abbrev cX12_sizeOf : ByteArray := prog_14_method_31_code
def yX12_sizeOf : MethodName := ⟨RX12, "sizeOf", "([Z)I"⟩
abbrev cX12_laysHeights : ByteArray := prog_14_method_32_code
def yX12_laysHeights : MethodName := ⟨RX12, "laysHeights", "()V"⟩
abbrev cX12_children : ByteArray := prog_14_method_33_code
def yX12_children : MethodName := ⟨RX12, "children", "(I)I"⟩
abbrev cX12_unlikeParent : ByteArray := prog_14_method_34_code
def yX12_unlikeParent : MethodName := ⟨RX12, "unlikeParent", "(I)I"⟩
abbrev cX12_commitIs : ByteArray := prog_14_method_35_code
def yX12_commitIs : MethodName := ⟨RX12, "commitIs", "(II)I"⟩
abbrev cX12_ancestor : ByteArray := prog_14_method_36_code
def yX12_ancestor : MethodName := ⟨RX12, "ancestor", "(II)I"⟩
abbrev cX12_types : ByteArray := prog_14_method_37_code
def yX12_types : MethodName := ⟨RX12, "types", "(I)V"⟩
abbrev cX12_feed : ByteArray := prog_14_method_38_code
def yX12_feed : MethodName := ⟨RX12, "feed", "(IIIII)I"⟩
abbrev cX12_here : ByteArray := prog_14_method_39_code
def yX12_here : MethodName := ⟨RX12, "here", "()I"⟩
abbrev cX12_wrongAt : ByteArray := prog_14_method_40_code
def yX12_wrongAt : MethodName := ⟨RX12, "wrongAt", "(II)Z"⟩
abbrev cX12_isDigit : ByteArray := prog_14_method_41_code
def yX12_isDigit : MethodName := ⟨RX12, "isDigit", "(I)Z"⟩
abbrev cX12_isSmall : ByteArray := prog_14_method_42_code
def yX12_isSmall : MethodName := ⟨RX12, "isSmall", "(I)Z"⟩
abbrev cX12_takesSign : ByteArray := prog_14_method_43_code
def yX12_takesSign : MethodName := ⟨RX12, "takesSign", "(I)Z"⟩
abbrev cX12_beginsText : ByteArray := prog_14_method_44_code
def yX12_beginsText : MethodName := ⟨RX12, "beginsText", "(I)V"⟩
abbrev cX12_readsNumber : ByteArray := prog_14_method_45_code
def yX12_readsNumber : MethodName := ⟨RX12, "readsNumber", "()Z"⟩
abbrev cX12_readsContent : ByteArray := prog_14_method_46_code
def yX12_readsContent : MethodName := ⟨RX12, "readsContent", "()Z"⟩
abbrev cX12_readsPath : ByteArray := prog_14_method_47_code
def yX12_readsPath : MethodName := ⟨RX12, "readsPath", "(I)Z"⟩
abbrev cX12_isTold : ByteArray := prog_14_method_48_code
def yX12_isTold : MethodName := ⟨RX12, "isTold", "(I)Z"⟩
abbrev cX12_readsParent : ByteArray := prog_14_method_49_code
def yX12_readsParent : MethodName := ⟨RX12, "readsParent", "()Z"⟩
abbrev cX12_readsParents : ByteArray := prog_14_method_50_code
def yX12_readsParents : MethodName := ⟨RX12, "readsParents", "()Z"⟩
abbrev cX12_setsFile : ByteArray := prog_14_method_51_code
def yX12_setsFile : MethodName := ⟨RX12, "setsFile", "(I)Z"⟩
abbrev cX12_takesAway : ByteArray := prog_14_method_52_code
def yX12_takesAway : MethodName := ⟨RX12, "takesAway", "(I)Z"⟩
abbrev cX12_isTooLong : ByteArray := prog_14_method_53_code
def yX12_isTooLong : MethodName := ⟨RX12, "isTooLong", "(II)Z"⟩
abbrev cX12_movesThere : ByteArray := prog_14_method_54_code
def yX12_movesThere : MethodName := ⟨RX12, "movesThere", "(I)Z"⟩
abbrev cX12_fetches : ByteArray := prog_14_method_55_code
def yX12_fetches : MethodName := ⟨RX12, "fetches", "(I)Z"⟩
abbrev cX12_readsEdit : ByteArray := prog_14_method_56_code
def yX12_readsEdit : MethodName := ⟨RX12, "readsEdit", "()Z"⟩
abbrev cX12_readsEdits : ByteArray := prog_14_method_57_code
def yX12_readsEdits : MethodName := ⟨RX12, "readsEdits", "()Z"⟩
abbrev cX12_readsSaid : ByteArray := prog_14_method_58_code
def yX12_readsSaid : MethodName := ⟨RX12, "readsSaid", "()Z"⟩
abbrev cX12_commit : ByteArray := prog_14_method_59_code
def yX12_commit : MethodName := ⟨RX12, "commit", "(III)I"⟩
abbrev cX12_isHistory : ByteArray := prog_14_method_60_code
def yX12_isHistory : MethodName := ⟨RX12, "isHistory", "(I)Z"⟩
abbrev cX12_refs : ByteArray := prog_14_method_61_code
def yX12_refs : MethodName := ⟨RX12, "refs", "(I)I"⟩
abbrev cX12_laysRef : ByteArray := prog_14_method_62_code
def yX12_laysRef : MethodName := ⟨RX12, "laysRef", "(IIII)V"⟩
abbrev cX12_ref : ByteArray := prog_14_method_63_code
def yX12_ref : MethodName := ⟨RX12, "ref", "(IIII)I"⟩
abbrev cX12_refIs : ByteArray := prog_14_method_64_code
def yX12_refIs : MethodName := ⟨RX12, "refIs", "(III)I"⟩
abbrev cX12_isPlan : ByteArray := prog_14_method_65_code
def yX12_isPlan : MethodName := ⟨RX12, "isPlan", "(I)Z"⟩
abbrev cX12_isToldPlan : ByteArray := prog_14_method_66_code
def yX12_isToldPlan : MethodName := ⟨RX12, "isToldPlan", "(I)Z"⟩
abbrev cX12_ofPlan : ByteArray := prog_14_method_67_code
def yX12_ofPlan : MethodName := ⟨RX12, "ofPlan", "(II)I"⟩
abbrev cX12_listAt : ByteArray := prog_14_method_68_code
def yX12_listAt : MethodName := ⟨RX12, "listAt", "(I)I"⟩
abbrev cX12_manyOf : ByteArray := prog_14_method_69_code
def yX12_manyOf : MethodName := ⟨RX12, "manyOf", "(II)I"⟩
abbrev cX12_firstOf : ByteArray := prog_14_method_70_code
def yX12_firstOf : MethodName := ⟨RX12, "firstOf", "(III)I"⟩
abbrev cX12_secondOf : ByteArray := prog_14_method_71_code
def yX12_secondOf : MethodName := ⟨RX12, "secondOf", "(III)I"⟩
abbrev cX12_readsWord : ByteArray := prog_14_method_72_code
def yX12_readsWord : MethodName := ⟨RX12, "readsWord", "()V"⟩
abbrev cX12_readsUpTo : ByteArray := prog_14_method_73_code
def yX12_readsUpTo : MethodName := ⟨RX12, "readsUpTo", "(II)Z"⟩
abbrev cX12_readsPlace : ByteArray := prog_14_method_74_code
def yX12_readsPlace : MethodName := ⟨RX12, "readsPlace", "()Z"⟩
abbrev cX12_readsLetters : ByteArray := prog_14_method_75_code
def yX12_readsLetters : MethodName := ⟨RX12, "readsLetters", "()Z"⟩
abbrev cX12_adds : ByteArray := prog_14_method_76_code
def yX12_adds : MethodName := ⟨RX12, "adds", "(III)Z"⟩
abbrev cX12_isNamed : ByteArray := prog_14_method_77_code
def yX12_isNamed : MethodName := ⟨RX12, "isNamed", "(II)Z"⟩
abbrev cX12_readsFirst : ByteArray := prog_14_method_78_code
def yX12_readsFirst : MethodName := ⟨RX12, "readsFirst", "(I)Z"⟩
abbrev cX12_readsPair : ByteArray := prog_14_method_79_code
def yX12_readsPair : MethodName := ⟨RX12, "readsPair", "(I)Z"⟩
abbrev cX12_readsGraft : ByteArray := prog_14_method_80_code
def yX12_readsGraft : MethodName := ⟨RX12, "readsGraft", "()Z"⟩
abbrev cX12_readsSign : ByteArray := prog_14_method_81_code
def yX12_readsSign : MethodName := ⟨RX12, "readsSign", "()Z"⟩
abbrev cX12_listOf : ByteArray := prog_14_method_82_code
def yX12_listOf : MethodName := ⟨RX12, "listOf", "(I)I"⟩
abbrev cX12_onceOf : ByteArray := prog_14_method_83_code
def yX12_onceOf : MethodName := ⟨RX12, "onceOf", "(I)I"⟩
abbrev cX12_readsOnce : ByteArray := prog_14_method_84_code
def yX12_readsOnce : MethodName := ⟨RX12, "readsOnce", "(I)Z"⟩
abbrev cX12_readsList : ByteArray := prog_14_method_85_code
def yX12_readsList : MethodName := ⟨RX12, "readsList", "(I)Z"⟩
abbrev cX12_readsSkip : ByteArray := prog_14_method_86_code
def yX12_readsSkip : MethodName := ⟨RX12, "readsSkip", "()Z"⟩
abbrev cX12_readsLine : ByteArray := prog_14_method_87_code
def yX12_readsLine : MethodName := ⟨RX12, "readsLine", "()Z"⟩
abbrev cX12_readsHistory : ByteArray := prog_14_method_88_code
def yX12_readsHistory : MethodName := ⟨RX12, "readsHistory", "(II)Z"⟩
abbrev cX12_beginsPlan : ByteArray := prog_14_method_89_code
def yX12_beginsPlan : MethodName := ⟨RX12, "beginsPlan", "()V"⟩
abbrev cX12_forgets : ByteArray := prog_14_method_90_code
def yX12_forgets : MethodName := ⟨RX12, "forgets", "(I)V"⟩
abbrev cX12_plan : ByteArray := prog_14_method_91_code
def yX12_plan : MethodName := ⟨RX12, "plan", "(II)I"⟩
abbrev cX12_mapped : ByteArray := prog_14_method_92_code
def yX12_mapped : MethodName := ⟨RX12, "mapped", "(II)I"⟩
abbrev cX12_withoutImage : ByteArray := prog_14_method_93_code
def yX12_withoutImage : MethodName := ⟨RX12, "withoutImage", "(I)I"⟩
abbrev cX12_planIs : ByteArray := prog_14_method_94_code
def yX12_planIs : MethodName := ⟨RX12, "planIs", "(II)I"⟩
abbrev cX12_graftOf : ByteArray := prog_14_method_95_code
def yX12_graftOf : MethodName := ⟨RX12, "graftOf", "(II)I"⟩
abbrev cX12_foreMany : ByteArray := prog_14_method_96_code
def yX12_foreMany : MethodName := ⟨RX12, "foreMany", "(II)I"⟩
abbrev cX12_foreAt : ByteArray := prog_14_method_97_code
def yX12_foreAt : MethodName := ⟨RX12, "foreAt", "(III)I"⟩
abbrev cX12_walksFore : ByteArray := prog_14_method_98_code
def yX12_walksFore : MethodName := ⟨RX12, "walksFore", "(I[Z)V"⟩
abbrev cX12_marksElders : ByteArray := prog_14_method_99_code
def yX12_marksElders : MethodName := ⟨RX12, "marksElders", "(II)V"⟩
abbrev cX12_isElder : ByteArray := prog_14_method_100_code
def yX12_isElder : MethodName := ⟨RX12, "isElder", "(III)Z"⟩
abbrev cX12_isTaken : ByteArray := prog_14_method_101_code
def yX12_isTaken : MethodName := ⟨RX12, "isTaken", "(III)Z"⟩
abbrev cX12_moveOf : ByteArray := prog_14_method_102_code
def yX12_moveOf : MethodName := ⟨RX12, "moveOf", "(II)I"⟩
abbrev cX12_carriedPath : ByteArray := prog_14_method_103_code
def yX12_carriedPath : MethodName := ⟨RX12, "carriedPath", "(II)I"⟩
abbrev cX12_isInTheWay : ByteArray := prog_14_method_104_code
def yX12_isInTheWay : MethodName := ⟨RX12, "isInTheWay", "(I)Z"⟩
abbrev cX12_swapped : ByteArray := prog_14_method_105_code
def yX12_swapped : MethodName := ⟨RX12, "swapped", "(II)I"⟩
abbrev cX12_carriesTree : ByteArray := prog_14_method_106_code
def yX12_carriesTree : MethodName := ⟨RX12, "carriesTree", "(II)V"⟩
abbrev cX12_imageAt : ByteArray := prog_14_method_107_code
def yX12_imageAt : MethodName := ⟨RX12, "imageAt", "(II)I"⟩
abbrev cX12_isCarried : ByteArray := prog_14_method_108_code
def yX12_isCarried : MethodName := ⟨RX12, "isCarried", "(I)Z"⟩
abbrev cX12_carriesAll : ByteArray := prog_14_method_109_code
def yX12_carriesAll : MethodName := ⟨RX12, "carriesAll", "(II)V"⟩
abbrev cX12_goesFor : ByteArray := prog_14_method_110_code
def yX12_goesFor : MethodName := ⟨RX12, "goesFor", "(III)Z"⟩
abbrev cX12_closesUp : ByteArray := prog_14_method_111_code
def yX12_closesUp : MethodName := ⟨RX12, "closesUp", "()V"⟩
abbrev cX12_carriesParents : ByteArray := prog_14_method_112_code
def yX12_carriesParents : MethodName := ⟨RX12, "carriesParents", "(II)V"⟩
abbrev cX12_isEmptyByItself : ByteArray := prog_14_method_113_code
def yX12_isEmptyByItself : MethodName := ⟨RX12, "isEmptyByItself", "(II)Z"⟩
abbrev cX12_isEmpty : ByteArray := prog_14_method_114_code
def yX12_isEmpty : MethodName := ⟨RX12, "isEmpty", "(II)Z"⟩
abbrev cX12_saidAt : ByteArray := prog_14_method_115_code
def yX12_saidAt : MethodName := ⟨RX12, "saidAt", "(II)I"⟩
abbrev cX12_says : ByteArray := prog_14_method_116_code
def yX12_says : MethodName := ⟨RX12, "says", "(I)V"⟩
abbrev cX12_saysNumber : ByteArray := prog_14_method_117_code
def yX12_saysNumber : MethodName := ⟨RX12, "saysNumber", "(I)V"⟩
abbrev cX12_carriesMention : ByteArray := prog_14_method_118_code
def yX12_carriesMention : MethodName := ⟨RX12, "carriesMention", "(II)V"⟩
abbrev cX12_saysLetters : ByteArray := prog_14_method_119_code
def yX12_saysLetters : MethodName := ⟨RX12, "saysLetters", "(I)V"⟩
abbrev cX12_wordFor : ByteArray := prog_14_method_120_code
def yX12_wordFor : MethodName := ⟨RX12, "wordFor", "(II)I"⟩
abbrev cX12_carriesLetters : ByteArray := prog_14_method_121_code
def yX12_carriesLetters : MethodName := ⟨RX12, "carriesLetters", "(II)V"⟩
abbrev cX12_carriesSaid : ByteArray := prog_14_method_122_code
def yX12_carriesSaid : MethodName := ⟨RX12, "carriesSaid", "(II)V"⟩
abbrev cX12_isSkipped : ByteArray := prog_14_method_123_code
def yX12_isSkipped : MethodName := ⟨RX12, "isSkipped", "(II)Z"⟩
abbrev cX12_maps : ByteArray := prog_14_method_124_code
def yX12_maps : MethodName := ⟨RX12, "maps", "(IIII)V"⟩
abbrev cX12_rewrites : ByteArray := prog_14_method_125_code
def yX12_rewrites : MethodName := ⟨RX12, "rewrites", "(II)Z"⟩
abbrev cX12_marksPlan : ByteArray := prog_14_method_126_code
def yX12_marksPlan : MethodName := ⟨RX12, "marksPlan", "(I)V"⟩
abbrev cX12_isLaid : ByteArray := prog_14_method_127_code
def yX12_isLaid : MethodName := ⟨RX12, "isLaid", "(III)Z"⟩
abbrev cX12_laysRefs : ByteArray := prog_14_method_128_code
def yX12_laysRefs : MethodName := ⟨RX12, "laysRefs", "(I)I"⟩
abbrev cX12_remembers : ByteArray := prog_14_method_129_code
def yX12_remembers : MethodName := ⟨RX12, "remembers", "(I)V"⟩
abbrev cX12_goesBack : ByteArray := prog_14_method_130_code
def yX12_goesBack : MethodName := ⟨RX12, "goesBack", "(II)V"⟩
abbrev cX12_runs : ByteArray := prog_14_method_131_code
def yX12_runs : MethodName := ⟨RX12, "runs", "(I)I"⟩
abbrev cX12_run : ByteArray := prog_14_method_132_code
def yX12_run : MethodName := ⟨RX12, "run", "(I)I"⟩
abbrev cX12_again : ByteArray := prog_14_method_133_code
def yX12_again : MethodName := ⟨RX12, "again", "(I)I"⟩
abbrev cX12_image : ByteArray := prog_14_method_134_code
def yX12_image : MethodName := ⟨RX12, "image", "(III)I"⟩
abbrev cX12_tried : ByteArray := prog_14_method_135_code
def yX12_tried : MethodName := ⟨RX12, "tried", "(III)I"⟩
abbrev cX12_share : ByteArray := prog_14_method_136_code
def yX12_share : MethodName := ⟨RX12, "share", "(I)J"⟩
abbrev cX12_isKept : ByteArray := prog_14_method_137_code
def yX12_isKept : MethodName := ⟨RX12, "isKept", "(II)Z"⟩
abbrev cX12_pairs : ByteArray := prog_14_method_138_code
def yX12_pairs : MethodName := ⟨RX12, "pairs", "(IZ)I"⟩
abbrev cX12_isElderApart : ByteArray := prog_14_method_139_code
def yX12_isElderApart : MethodName := ⟨RX12, "isElderApart", "(III)Z"⟩
abbrev cX12_twins : ByteArray := prog_14_method_140_code
def yX12_twins : MethodName := ⟨RX12, "twins", "(I)I"⟩
abbrev cX12_lostByKept : ByteArray := prog_14_method_141_code
def yX12_lostByKept : MethodName := ⟨RX12, "lostByKept", "(I)I"⟩
abbrev cX12_thinned : ByteArray := prog_14_method_142_code
def yX12_thinned : MethodName := ⟨RX12, "thinned", "(I)I"⟩
abbrev cX12_notMapped : ByteArray := prog_14_method_143_code
def yX12_notMapped : MethodName := ⟨RX12, "notMapped", "(I)I"⟩
abbrev cX12_sound : ByteArray := prog_14_method_144_code
def yX12_sound : MethodName := ⟨RX12, "sound", "(II)I"⟩
abbrev cX12_branchAt : ByteArray := prog_14_method_145_code
def yX12_branchAt : MethodName := ⟨RX12, "branchAt", "(II)I"⟩
abbrev cX12_putsTogether : ByteArray := prog_14_method_146_code
def yX12_putsTogether : MethodName := ⟨RX12, "putsTogether", "(II)Z"⟩
abbrev cX12_isTree : ByteArray := prog_14_method_147_code
def yX12_isTree : MethodName := ⟨RX12, "isTree", "(I)Z"⟩
abbrev cX12_join : ByteArray := prog_14_method_148_code
def yX12_join : MethodName := ⟨RX12, "join", "(IIIII)I"⟩
abbrev cX12_before : ByteArray := prog_14_method_149_code
def yX12_before : MethodName := ⟨RX12, "before", "(I)I"⟩
abbrev cX12_notes : ByteArray := prog_14_method_150_code
def yX12_notes : MethodName := ⟨RX12, "notes", "(III)V"⟩
abbrev cX12_laysChange : ByteArray := prog_14_method_151_code
def yX12_laysChange : MethodName := ⟨RX12, "laysChange", "(I)V"⟩
abbrev cX12_changesThere : ByteArray := prog_14_method_152_code
def yX12_changesThere : MethodName := ⟨RX12, "changesThere", "(I)Z"⟩
abbrev cX12_replay : ByteArray := prog_14_method_153_code
def yX12_replay : MethodName := ⟨RX12, "replay", "(III)I"⟩
abbrev cX12_picked : ByteArray := prog_14_method_154_code
def yX12_picked : MethodName := ⟨RX12, "picked", "(II)I"⟩
abbrev cX12_spells : ByteArray := prog_14_method_155_code
def yX12_spells : MethodName := ⟨RX12, "spells", "(I)V"⟩
abbrev cX12_spellsNumber : ByteArray := prog_14_method_156_code
def yX12_spellsNumber : MethodName := ⟨RX12, "spellsNumber", "(I)V"⟩
abbrev cX12_spellsFile : ByteArray := prog_14_method_157_code
def yX12_spellsFile : MethodName := ⟨RX12, "spellsFile", "(II)V"⟩
abbrev cX12_spelt : ByteArray := prog_14_method_158_code
def yX12_spelt : MethodName := ⟨RX12, "spelt", "(II)I"⟩
abbrev cX12_isNewEntry : ByteArray := prog_14_method_159_code
def yX12_isNewEntry : MethodName := ⟨RX12, "isNewEntry", "(III)Z"⟩
abbrev cX12_lookAt : ByteArray := prog_14_method_160_code
def yX12_lookAt : MethodName := ⟨RX12, "lookAt", "(III)I"⟩
abbrev cX12_readsWholePath : ByteArray := prog_14_method_161_code
def yX12_readsWholePath : MethodName := ⟨RX12, "readsWholePath", "(I)Z"⟩
abbrev cX12_look : ByteArray := prog_14_method_162_code
def yX12_look : MethodName := ⟨RX12, "look", "(III)I"⟩
abbrev cX12_marksHistory : ByteArray := prog_14_method_163_code
def yX12_marksHistory : MethodName := ⟨RX12, "marksHistory", "(I[Z)V"⟩
abbrev cX12_hasChild : ByteArray := prog_14_method_164_code
def yX12_hasChild : MethodName := ⟨RX12, "hasChild", "(I[Z)Z"⟩
abbrev cX12_isFirstTree : ByteArray := prog_14_method_165_code
def yX12_isFirstTree : MethodName := ⟨RX12, "isFirstTree", "(I[Z)Z"⟩
abbrev cX12_counts : ByteArray := prog_14_method_166_code
def yX12_counts : MethodName := ⟨RX12, "counts", "(II)Z"⟩
abbrev cX12_historyIs : ByteArray := prog_14_method_167_code
def yX12_historyIs : MethodName := ⟨RX12, "historyIs", "(II)I"⟩
abbrev cX12_nextListed : ByteArray := prog_14_method_168_code
def yX12_nextListed : MethodName := ⟨RX12, "nextListed", "()I"⟩
abbrev cX12_listing : ByteArray := prog_14_method_169_code
def yX12_listing : MethodName := ⟨RX12, "listing", "(II)I"⟩
abbrev cX12_line : ByteArray := prog_14_method_170_code
def yX12_line : MethodName := ⟨RX12, "line", "(II)I"⟩
abbrev cX12_isRefApart : ByteArray := prog_14_method_171_code
def yX12_isRefApart : MethodName := ⟨RX12, "isRefApart", "(III)Z"⟩
abbrev cX12_apart : ByteArray := prog_14_method_172_code
def yX12_apart : MethodName := ⟨RX12, "apart", "(III)I"⟩
abbrev cX12_isSameThere : ByteArray := prog_14_method_173_code
def yX12_isSameThere : MethodName := ⟨RX12, "isSameThere", "(III)Z"⟩
abbrev cX12_isTouching : ByteArray := prog_14_method_174_code
def yX12_isTouching : MethodName := ⟨RX12, "isTouching", "(II)Z"⟩
abbrev cX12_touches : ByteArray := prog_14_method_175_code
def yX12_touches : MethodName := ⟨RX12, "touches", "(II)I"⟩
abbrev cX12_marksOf : ByteArray := prog_14_method_176_code
def yX12_marksOf : MethodName := ⟨RX12, "marksOf", "(IIZ)V"⟩
abbrev cX12_isBelowMarked : ByteArray := prog_14_method_177_code
def yX12_isBelowMarked : MethodName := ⟨RX12, "isBelowMarked", "(I)Z"⟩
abbrev cX12_base : ByteArray := prog_14_method_178_code
def yX12_base : MethodName := ⟨RX12, "base", "(III)I"⟩
abbrev cX12_way : ByteArray := prog_14_method_179_code
def yX12_way : MethodName := ⟨RX12, "way", "(II)I"⟩
abbrev cX12_halving : ByteArray := prog_14_method_180_code
def yX12_halving : MethodName := ⟨RX12, "halving", "(III)I"⟩
abbrev cX12_gone : ByteArray := prog_14_method_181_code
def yX12_gone : MethodName := ⟨RX12, "gone", "(II)I"⟩
abbrev cX12_newOnes : ByteArray := prog_14_method_182_code
def yX12_newOnes : MethodName := ⟨RX12, "newOnes", "(II)I"⟩
abbrev cX12_changed : ByteArray := prog_14_method_183_code
def yX12_changed : MethodName := ⟨RX12, "changed", "(II)I"⟩
abbrev cX12_digitAt : ByteArray := prog_14_method_184_code
def yX12_digitAt : MethodName := ⟨RX12, "digitAt", "(II)I"⟩
abbrev cX12_inBoth : ByteArray := prog_14_method_185_code
def yX12_inBoth : MethodName := ⟨RX12, "inBoth", "(II)I"⟩
abbrev cX12_likenessOf : ByteArray := prog_14_method_186_code
def yX12_likenessOf : MethodName := ⟨RX12, "likenessOf", "(II)F"⟩
abbrev cX12_isPaired : ByteArray := prog_14_method_187_code
def yX12_isPaired : MethodName := ⟨RX12, "isPaired", "([II)Z"⟩
abbrev cX12_pairsNext : ByteArray := prog_14_method_188_code
def yX12_pairsNext : MethodName := ⟨RX12, "pairsNext", "(II)Z"⟩
abbrev cX12_laysPairs : ByteArray := prog_14_method_189_code
def yX12_laysPairs : MethodName := ⟨RX12, "laysPairs", "(II)V"⟩
abbrev cX12_diff : ByteArray := prog_14_method_190_code
def yX12_diff : MethodName := ⟨RX12, "diff", "(III)I"⟩
abbrev cX12_hundredths : ByteArray := prog_14_method_191_code
def yX12_hundredths : MethodName := ⟨RX12, "hundredths", "(F)I"⟩
abbrev cX12_renamed : ByteArray := prog_14_method_192_code
def yX12_renamed : MethodName := ⟨RX12, "renamed", "(IIII)I"⟩
abbrev cX12_likeness : ByteArray := prog_14_method_193_code
def yX12_likeness : MethodName := ⟨RX12, "likeness", "(IIIII)I"⟩
abbrev cX12_steps : ByteArray := prog_14_method_194_code
def yX12_steps : MethodName := ⟨RX12, "steps", "(IIZ)V"⟩
abbrev cX12_stepsByPath : ByteArray := prog_14_method_195_code
def yX12_stepsByPath : MethodName := ⟨RX12, "stepsByPath", "()Z"⟩
abbrev cX12_stepsByName : ByteArray := prog_14_method_196_code
def yX12_stepsByName : MethodName := ⟨RX12, "stepsByName", "()Z"⟩
abbrev cX12_origin : ByteArray := prog_14_method_197_code
def yX12_origin : MethodName := ⟨RX12, "origin", "(III)I"⟩
abbrev cX12_copies : ByteArray := prog_14_method_198_code
def yX12_copies : MethodName := ⟨RX12, "copies", "([I[II)V"⟩
abbrev cX12_keep : ByteArray := prog_14_method_199_code
def yX12_keep : MethodName := ⟨RX12, "keep", "()I"⟩
abbrev cX12_undo : ByteArray := prog_14_method_200_code
def yX12_undo : MethodName := ⟨RX12, "undo", "()Z"⟩
abbrev cX12_check : ByteArray := prog_14_method_201_code
def yX12_check : MethodName := ⟨RX12, "check", "(I)I"⟩
abbrev cX12_trees : ByteArray := prog_14_method_202_code
def yX12_trees : MethodName := ⟨RX12, "trees", "()I"⟩
abbrev cX12_isFirstContent : ByteArray := prog_14_method_203_code
def yX12_isFirstContent : MethodName := ⟨RX12, "isFirstContent", "(II)Z"⟩
abbrev cX12_contents : ByteArray := prog_14_method_204_code
def yX12_contents : MethodName := ⟨RX12, "contents", "()I"⟩
abbrev cX12_count : ByteArray := prog_14_method_205_code
def yX12_count : MethodName := ⟨RX12, "count", "(I)I"⟩
def RJx145de : String := "java/io/Serializable"
def TJx145de : u_T := fun k => match k with
  | _ => ("", "", "", false)
def tyJx145de : Nat → FieldType := fun k => match k with
  | _ => .int
def RJ5 : String := "java/lang/AbstractStringBuilder"
def TJ5 : u_T := fun k => match k with
  | _ => ("", "", "", false)
def tyJ5 : Nat → FieldType := fun k => match k with
  | _ => .int
abbrev cJ5_init_d00df : ByteArray := prog_15_method_2_code
def yJ5_init_d00df : MethodName := ⟨RJ5, "<init>", "(I)V"⟩
abbrev cJ5_length_8abf5 : ByteArray := prog_15_method_6_code
def yJ5_length_8abf5 : MethodName := ⟨RJ5, "length", "()I"⟩
abbrev cJ5_ensureCapacityInternal_d00df : ByteArray := prog_15_method_9_code
def yJ5_ensureCapacityInternal_d00df : MethodName := ⟨RJ5, "ensureCapacityInternal", "(I)V"⟩
abbrev cJ5_newCapacity_0f7a4 : ByteArray := prog_15_method_10_code
def yJ5_newCapacity_0f7a4 : MethodName := ⟨RJ5, "newCapacity", "(I)I"⟩
abbrev cJ5_inflate_da8c8 : ByteArray := prog_15_method_11_code
def yJ5_inflate_da8c8 : MethodName := ⟨RJ5, "inflate", "()V"⟩
abbrev cJ5_setLength_d00df : ByteArray := prog_15_method_13_code
def yJ5_setLength_d00df : MethodName := ⟨RJ5, "setLength", "(I)V"⟩
abbrev cJ5_charAt_5068e : ByteArray := prog_15_method_14_code
def yJ5_charAt_5068e : MethodName := ⟨RJ5, "charAt", "(I)C"⟩
abbrev cJ5_append_3fe6f : ByteArray := prog_15_method_31_code
def yJ5_append_3fe6f : MethodName := ⟨RJ5, "append", "(C)Ljava/lang/AbstractStringBuilder;"⟩
abbrev cJ5_append_c97b9 : ByteArray := prog_15_method_32_code
def yJ5_append_c97b9 : MethodName := ⟨RJ5, "append", "(I)Ljava/lang/AbstractStringBuilder;"⟩
abbrev cJ5_isLatin1_aae02 : ByteArray := prog_15_method_68_code
def yJ5_isLatin1_aae02 : MethodName := ⟨RJ5, "isLatin1", "()Z"⟩
def RJx2cfe8 : String := "java/lang/Appendable"
def TJx2cfe8 : u_T := fun k => match k with
  | _ => ("", "", "", false)
def tyJx2cfe8 : Nat → FieldType := fun k => match k with
  | _ => .int
def RJx9f9b0 : String := "java/lang/CharSequence"
def TJx9f9b0 : u_T := fun k => match k with
  | _ => ("", "", "", false)
def tyJx9f9b0 : Nat → FieldType := fun k => match k with
  | _ => .int
def RJx8e188 : String := "java/lang/Cloneable"
def TJx8e188 : u_T := fun k => match k with
  | _ => ("", "", "", false)
def tyJx8e188 : Nat → FieldType := fun k => match k with
  | _ => .int
def RJxb160c : String := "java/lang/Comparable"
def TJxb160c : u_T := fun k => match k with
  | _ => ("", "", "", false)
def tyJxb160c : Nat → FieldType := fun k => match k with
  | _ => .int
def RJxe99ae : String := "java/lang/Double"
def TJxe99ae : u_T := fun k => match k with
  | _ => ("", "", "", false)
def tyJxe99ae : Nat → FieldType := fun k => match k with
  | _ => .int
abbrev cJxe99ae_isNaN_b9ae7 : ByteArray := prog_17_method_6_code
def yJxe99ae_isNaN_b9ae7 : MethodName := ⟨RJxe99ae, "isNaN", "(D)Z"⟩
abbrev cJxe99ae_doubleToLongBits_ccdee : ByteArray := prog_17_method_23_code
def yJxe99ae_doubleToLongBits_ccdee : MethodName := ⟨RJxe99ae, "doubleToLongBits", "(D)J"⟩
def RJxf58ca : String := "java/lang/Float"
def TJxf58ca : u_T := fun k => match k with
  | _ => ("", "", "", false)
def tyJxf58ca : Nat → FieldType := fun k => match k with
  | _ => .int
abbrev cJxf58ca_isNaN_12338 : ByteArray := prog_18_method_6_code
def yJxf58ca_isNaN_12338 : MethodName := ⟨RJxf58ca, "isNaN", "(F)Z"⟩
abbrev cJxf58ca_floatToIntBits_5c35a : ByteArray := prog_18_method_24_code
def yJxf58ca_floatToIntBits_5c35a : MethodName := ⟨RJxf58ca, "floatToIntBits", "(F)I"⟩
def RJ6 : String := "java/lang/Integer"
def TJ6 : u_T := fun k => match k with
  | _ => ("", "", "", false)
def tyJ6 : Nat → FieldType := fun k => match k with
  | _ => .int
abbrev cJ6_getChars_ba4f3 : ByteArray := prog_19_method_12_code
def yJ6_getChars_ba4f3 : MethodName := ⟨RJ6, "getChars", "(II[B)I"⟩
abbrev cJ6_stringSize_0f7a4 : ByteArray := prog_19_method_13_code
def yJ6_stringSize_0f7a4 : MethodName := ⟨RJ6, "stringSize", "(I)I"⟩
def RJ13 : String := "java/lang/Long"
def TJ13 : u_T := fun k => match k with
  | _ => ("", "", "", false)
def tyJ13 : Nat → FieldType := fun k => match k with
  | _ => .int
abbrev cJ13_bitCount_95d88 : ByteArray := prog_20_method_50_code
def yJ13_bitCount_95d88 : MethodName := ⟨RJ13, "bitCount", "(J)I"⟩
def RJ9 : String := "java/lang/Math"
def TJ9 : u_T := fun k => match k with
  | _ => ("", "", "", false)
def tyJ9 : Nat → FieldType := fun k => match k with
  | _ => .int
abbrev cJ9_max_7cf53 : ByteArray := prog_21_method_65_code
def yJ9_max_7cf53 : MethodName := ⟨RJ9, "max", "(II)I"⟩
abbrev cJ9_min_7cf53 : ByteArray := prog_21_method_69_code
def yJ9_min_7cf53 : MethodName := ⟨RJ9, "min", "(II)I"⟩
def RJxd2413 : String := "java/lang/Number"
def TJxd2413 : u_T := fun k => match k with
  | _ => ("", "", "", false)
def tyJxd2413 : Nat → FieldType := fun k => match k with
  | _ => .int
def RJ0 : String := "java/lang/String"
def TJ0 : u_T := fun k => match k with
  | _ => ("", "", "", false)
def tyJ0 : Nat → FieldType := fun k => match k with
  | _ => .int
abbrev cJ0_length_8abf5 : ByteArray := prog_23_method_54_code
def yJ0_length_8abf5 : MethodName := ⟨RJ0, "length", "()I"⟩
abbrev cJ0_charAt_5068e : ByteArray := prog_23_method_56_code
def yJ0_charAt_5068e : MethodName := ⟨RJ0, "charAt", "(I)C"⟩
abbrev cJ0_coder_7d493 : ByteArray := prog_23_method_152_code
def yJ0_coder_7d493 : MethodName := ⟨RJ0, "coder", "()B"⟩
abbrev cJ0_isLatin1_aae02 : ByteArray := prog_23_method_154_code
def yJ0_isLatin1_aae02 : MethodName := ⟨RJ0, "isLatin1", "()Z"⟩
abbrev cJ0_checkIndex_df160 : ByteArray := prog_23_method_155_code
def yJ0_checkIndex_df160 : MethodName := ⟨RJ0, "checkIndex", "(II)V"⟩
abbrev cJ0_checkBoundsOffCount_cabcc : ByteArray := prog_23_method_157_code
def yJ0_checkBoundsOffCount_cabcc : MethodName := ⟨RJ0, "checkBoundsOffCount", "(III)I"⟩
abbrev cJ0_checkBoundsBeginEnd_23922 : ByteArray := prog_23_method_158_code
def yJ0_checkBoundsBeginEnd_23922 : MethodName := ⟨RJ0, "checkBoundsBeginEnd", "(III)V"⟩
def RJ4 : String := "java/lang/StringBuilder"
def TJ4 : u_T := fun k => match k with
  | 0 => ("java/lang/AbstractStringBuilder", "value", "[B", false)
  | 1 => ("java/lang/AbstractStringBuilder", "coder", "B", false)
  | 2 => ("java/lang/AbstractStringBuilder", "maybeLatin1", "Z", false)
  | _ => ("java/lang/AbstractStringBuilder", "count", "I", false)
def tyJ4 : Nat → FieldType := fun k => match k with
  | 0 => .array .byte
  | 1 => .byte
  | 2 => .boolean
  | _ => .int
theorem nmJ4 : ∀ a, a < 4 → ∀ b, b < 4 → a ≠ b → (TJ4 a).2.1 ≠ (TJ4 b).2.1 := by decide +kernel
theorem tyJ4_ok : ∀ k, k < 4 → parseFieldDescriptor (TJ4 k).2.2.1 = some (tyJ4 k) := by decide +kernel
abbrev cJ4_init_da8c8 : ByteArray := prog_24_method_1_code
def yJ4_init_da8c8 : MethodName := ⟨RJ4, "<init>", "()V"⟩
abbrev cJ4_append_cf468 : ByteArray := prog_24_method_14_code
def yJ4_append_cf468 : MethodName := ⟨RJ4, "append", "(C)Ljava/lang/StringBuilder;"⟩
abbrev cJ4_append_bf812 : ByteArray := prog_24_method_15_code
def yJ4_append_bf812 : MethodName := ⟨RJ4, "append", "(I)Ljava/lang/StringBuilder;"⟩
abbrev cJ4_charAt_5068e : ByteArray := prog_24_method_88_code
def yJ4_charAt_5068e : MethodName := ⟨RJ4, "charAt", "(I)C"⟩
abbrev cJ4_setLength_d00df : ByteArray := prog_24_method_89_code
def yJ4_setLength_d00df : MethodName := ⟨RJ4, "setLength", "(I)V"⟩
abbrev cJ4_length_8abf5 : ByteArray := prog_24_method_93_code
def yJ4_length_8abf5 : MethodName := ⟨RJ4, "length", "()I"⟩
def RJ1 : String := "java/lang/StringLatin1"
def TJ1 : u_T := fun k => match k with
  | _ => ("", "", "", false)
def tyJ1 : Nat → FieldType := fun k => match k with
  | _ => .int
abbrev cJ1_charAt_3b067 : ByteArray := prog_25_method_2_code
def yJ1_charAt_3b067 : MethodName := ⟨RJ1, "charAt", "([BI)C"⟩
abbrev cJ1_canEncode_fc78d : ByteArray := prog_25_method_3_code
def yJ1_canEncode_fc78d : MethodName := ⟨RJ1, "canEncode", "(C)Z"⟩
abbrev cJ1_fillNull_b72d1 : ByteArray := prog_25_method_48_code
def yJ1_fillNull_b72d1 : MethodName := ⟨RJ1, "fillNull", "([BII)V"⟩
abbrev cJ1_inflate_0e8fd : ByteArray := prog_25_method_50_code
def yJ1_inflate_0e8fd : MethodName := ⟨RJ1, "inflate", "([BI[BII)V"⟩
def RJ2 : String := "java/lang/StringUTF16"
def TJ2 : u_T := fun k => match k with
  | _ => ("", "", "", false)
def tyJ2 : Nat → FieldType := fun k => match k with
  | _ => .int
abbrev cJ2_newBytesFor_77867 : ByteArray := prog_26_method_2_code
def yJ2_newBytesFor_77867 : MethodName := ⟨RJ2, "newBytesFor", "(I)[B"⟩
abbrev cJ2_newBytesLength_0f7a4 : ByteArray := prog_26_method_3_code
def yJ2_newBytesLength_0f7a4 : MethodName := ⟨RJ2, "newBytesLength", "(I)I"⟩
abbrev cJ2_putChar_b72d1 : ByteArray := prog_26_method_4_code
def yJ2_putChar_b72d1 : MethodName := ⟨RJ2, "putChar", "([BII)V"⟩
abbrev cJ2_getChar_3b067 : ByteArray := prog_26_method_5_code
def yJ2_getChar_3b067 : MethodName := ⟨RJ2, "getChar", "([BI)C"⟩
abbrev cJ2_length_9d52b : ByteArray := prog_26_method_6_code
def yJ2_length_9d52b : MethodName := ⟨RJ2, "length", "([B)I"⟩
abbrev cJ2_fillNull_b72d1 : ByteArray := prog_26_method_70_code
def yJ2_fillNull_b72d1 : MethodName := ⟨RJ2, "fillNull", "([BII)V"⟩
abbrev cJ2_putCharSB_b72d1 : ByteArray := prog_26_method_71_code
def yJ2_putCharSB_b72d1 : MethodName := ⟨RJ2, "putCharSB", "([BII)V"⟩
abbrev cJ2_getChars_46870 : ByteArray := prog_26_method_77_code
def yJ2_getChars_46870 : MethodName := ⟨RJ2, "getChars", "(III[B)I"⟩
abbrev cJ2_charAt_3b067 : ByteArray := prog_26_method_83_code
def yJ2_charAt_3b067 : MethodName := ⟨RJ2, "charAt", "([BI)C"⟩
abbrev cJ2_inflate_0e8fd : ByteArray := prog_26_method_86_code
def yJ2_inflate_0e8fd : MethodName := ⟨RJ2, "inflate", "([BI[BII)V"⟩
abbrev cJ2_getChars_ba4f3 : ByteArray := prog_26_method_89_code
def yJ2_getChars_ba4f3 : MethodName := ⟨RJ2, "getChars", "(II[B)I"⟩
abbrev cJ2_checkIndex_2214a : ByteArray := prog_26_method_91_code
def yJ2_checkIndex_2214a : MethodName := ⟨RJ2, "checkIndex", "(I[B)V"⟩
abbrev cJ2_checkBoundsBeginEnd_d044e : ByteArray := prog_26_method_93_code
def yJ2_checkBoundsBeginEnd_d044e : MethodName := ⟨RJ2, "checkBoundsBeginEnd", "(II[B)V"⟩
abbrev cJ2_checkBoundsOffCount_d044e : ByteArray := prog_26_method_94_code
def yJ2_checkBoundsOffCount_d044e : MethodName := ⟨RJ2, "checkBoundsOffCount", "(II[B)V"⟩
def RJ10 : String := "java/lang/System"
def TJ10 : u_T := fun k => match k with
  | _ => ("", "", "", false)
def tyJ10 : Nat → FieldType := fun k => match k with
  | _ => .int
def RJxfd54e : String := "java/lang/constant/Constable"
def TJxfd54e : u_T := fun k => match k with
  | _ => ("", "", "", false)
def tyJxfd54e : Nat → FieldType := fun k => match k with
  | _ => .int
def RJx3cf43 : String := "java/lang/constant/ConstantDesc"
def TJx3cf43 : u_T := fun k => match k with
  | _ => ("", "", "", false)
def tyJx3cf43 : Nat → FieldType := fun k => match k with
  | _ => .int
def RJ7 : String := "java/util/Arrays"
def TJ7 : u_T := fun k => match k with
  | _ => ("", "", "", false)
def tyJ7 : Nat → FieldType := fun k => match k with
  | _ => .int
abbrev cJ7_rangeCheck_23922 : ByteArray := prog_28_method_30_code
def yJ7_rangeCheck_23922 : MethodName := ⟨RJ7, "rangeCheck", "(III)V"⟩
abbrev cJ7_fill_53178 : ByteArray := prog_28_method_103_code
def yJ7_fill_53178 : MethodName := ⟨RJ7, "fill", "([II)V"⟩
abbrev cJ7_fill_eb02e : ByteArray := prog_28_method_110_code
def yJ7_fill_eb02e : MethodName := ⟨RJ7, "fill", "([BIIB)V"⟩
abbrev cJ7_copyOf_9075b : ByteArray := prog_28_method_121_code
def yJ7_copyOf_9075b : MethodName := ⟨RJ7, "copyOf", "([BI)[B"⟩
def RJ8 : String := "jdk/internal/util/ArraysSupport"
def TJ8 : u_T := fun k => match k with
  | _ => ("", "", "", false)
def tyJ8 : Nat → FieldType := fun k => match k with
  | _ => .int
abbrev cJ8_newLength_cabcc : ByteArray := prog_29_method_27_code
def yJ8_newLength_cabcc : MethodName := ⟨RJ8, "newLength", "(III)I"⟩
abbrev cJ8_hugeLength_7cf53 : ByteArray := prog_29_method_28_code
def yJ8_hugeLength_7cf53 : MethodName := ⟨RJ8, "hugeLength", "(II)I"⟩
def RJ3 : String := "jdk/internal/util/Preconditions"
def TJ3 : u_T := fun k => match k with
  | _ => ("", "", "", false)
def tyJ3 : Nat → FieldType := fun k => match k with
  | _ => .int
abbrev cJ3_checkIndex_8e157 : ByteArray := prog_30_method_11_code
def yJ3_checkIndex_8e157 : MethodName := ⟨RJ3, "checkIndex", "(IILjava/util/function/BiFunction;)I"⟩
abbrev cJ3_checkFromToIndex_8c36e : ByteArray := prog_30_method_12_code
def yJ3_checkFromToIndex_8c36e : MethodName := ⟨RJ3, "checkFromToIndex", "(IIILjava/util/function/BiFunction;)I"⟩
abbrev cJ3_checkFromIndexSize_8c36e : ByteArray := prog_30_method_13_code
def yJ3_checkFromIndexSize_8c36e : MethodName := ⟨RJ3, "checkFromIndexSize", "(IIILjava/util/function/BiFunction;)I"⟩
def RL : String := "CarriedHistoryLaw"
abbrev cL_law : ByteArray := code
def yL_law : MethodName := ⟨RL, "law", "([I)Z"⟩
abbrev vwCl : List vw_C := [(RJ4, TJ4, 4), (RX0, TX0, 18), (RX1, TX1, 12), (RX2, TX2, 8), (RX3, TX3, 2), (RX4, TX4, 3), (RX5, TX5, 19), (RX6, TX6, 4), (RX7, TX7, 5), (RX8, TX8, 10), (RX9, TX9, 5), (RX10, TX10, 3), (RX11, TX11, 17), (RX12, TX12, 72)]
-- the words that hold at every later state, too; beyond the tables: the private methods of AbstractStringBuilder, in a StringBuilder
def lw_x2 : List Cond := [.selects RJ4 yJ5_ensureCapacityInternal_d00df yJ5_ensureCapacityInternal_d00df, .selects RJ4 yJ5_newCapacity_0f7a4 yJ5_newCapacity_0f7a4]
def lw_tbz : List Cond := lw_x2 ++ lw_tbl
def gAll : List Cond := lw_tbz.filter goodWord
theorem gAll_x2 {w : Cond} (h : w ∈ lw_x2) (hg : goodWord w = true) : w ∈ gAll := List.mem_filter.mpr ⟨List.mem_append_left _ h, hg⟩
theorem gAll_in {w : Cond} (h : w ∈ gAll) : w ∈ lw_tbz := (List.mem_filter.mp h).1
theorem gAll_good : GoodIn gAll gAll := fun w h => ⟨h, good_of_word (List.mem_filter.mp h).2⟩
theorem gAll_of {w : Cond} (h : w ∈ tables_1) (hg : goodWord w = true) : w ∈ gAll := List.mem_filter.mpr ⟨List.mem_append_right _ (List.mem_append_right _ h), hg⟩
theorem gt_1 {j : Nat} {w : Cond} (h : tables_1_1[j]? = some w) (hg : goodWord w = true) : w ∈ gAll := gAll_of (show w ∈ tables_1 from List.mem_append_left _ (List.mem_of_getElem? h)) hg
theorem gt_2 {j : Nat} {w : Cond} (h : tables_1_2[j]? = some w) (hg : goodWord w = true) : w ∈ gAll := gAll_of (show w ∈ tables_1 from List.mem_append_right _ (List.mem_append_left _ (List.mem_of_getElem? h))) hg
theorem gt_3 {j : Nat} {w : Cond} (h : tables_1_3[j]? = some w) (hg : goodWord w = true) : w ∈ gAll := gAll_of (show w ∈ tables_1 from List.mem_append_right _ (List.mem_append_right _ (List.mem_append_left _ (List.mem_of_getElem? h)))) hg
theorem gt_4 {j : Nat} {w : Cond} (h : tables_1_4[j]? = some w) (hg : goodWord w = true) : w ∈ gAll := gAll_of (show w ∈ tables_1 from List.mem_append_right _ (List.mem_append_right _ (List.mem_append_right _ (List.mem_append_left _ (List.mem_of_getElem? h))))) hg
theorem gt_5 {j : Nat} {w : Cond} (h : tables_1_5[j]? = some w) (hg : goodWord w = true) : w ∈ gAll := gAll_of (show w ∈ tables_1 from List.mem_append_right _ (List.mem_append_right _ (List.mem_append_right _ (List.mem_append_right _ (List.mem_append_left _ (List.mem_of_getElem? h)))))) hg
theorem gt_6 {j : Nat} {w : Cond} (h : tables_1_6[j]? = some w) (hg : goodWord w = true) : w ∈ gAll := gAll_of (show w ∈ tables_1 from List.mem_append_right _ (List.mem_append_right _ (List.mem_append_right _ (List.mem_append_right _ (List.mem_append_right _ (List.mem_append_left _ (List.mem_of_getElem? h))))))) hg
theorem gt_7 {j : Nat} {w : Cond} (h : tables_1_7[j]? = some w) (hg : goodWord w = true) : w ∈ gAll := gAll_of (show w ∈ tables_1 from List.mem_append_right _ (List.mem_append_right _ (List.mem_append_right _ (List.mem_append_right _ (List.mem_append_right _ (List.mem_append_right _ (List.mem_append_left _ (List.mem_of_getElem? h)))))))) hg
theorem gt_8 {j : Nat} {w : Cond} (h : tables_1_8[j]? = some w) (hg : goodWord w = true) : w ∈ gAll := gAll_of (show w ∈ tables_1 from List.mem_append_right _ (List.mem_append_right _ (List.mem_append_right _ (List.mem_append_right _ (List.mem_append_right _ (List.mem_append_right _ (List.mem_append_right _ (List.mem_append_left _ (List.mem_of_getElem? h))))))))) hg
theorem gt_9 {j : Nat} {w : Cond} (h : tables_1_9[j]? = some w) (hg : goodWord w = true) : w ∈ gAll := gAll_of (show w ∈ tables_1 from List.mem_append_right _ (List.mem_append_right _ (List.mem_append_right _ (List.mem_append_right _ (List.mem_append_right _ (List.mem_append_right _ (List.mem_append_right _ (List.mem_append_right _ (List.mem_append_left _ (List.mem_of_getElem? h)))))))))) hg
theorem gt_10 {j : Nat} {w : Cond} (h : tables_1_10[j]? = some w) (hg : goodWord w = true) : w ∈ gAll := gAll_of (show w ∈ tables_1 from List.mem_append_right _ (List.mem_append_right _ (List.mem_append_right _ (List.mem_append_right _ (List.mem_append_right _ (List.mem_append_right _ (List.mem_append_right _ (List.mem_append_right _ (List.mem_append_right _ (List.mem_append_left _ (List.mem_of_getElem? h))))))))))) hg
theorem gt_11 {j : Nat} {w : Cond} (h : tables_1_11[j]? = some w) (hg : goodWord w = true) : w ∈ gAll := gAll_of (show w ∈ tables_1 from List.mem_append_right _ (List.mem_append_right _ (List.mem_append_right _ (List.mem_append_right _ (List.mem_append_right _ (List.mem_append_right _ (List.mem_append_right _ (List.mem_append_right _ (List.mem_append_right _ (List.mem_append_right _ (List.mem_append_left _ (List.mem_of_getElem? h)))))))))))) hg
theorem gt_12 {j : Nat} {w : Cond} (h : tables_1_12[j]? = some w) (hg : goodWord w = true) : w ∈ gAll := gAll_of (show w ∈ tables_1 from List.mem_append_right _ (List.mem_append_right _ (List.mem_append_right _ (List.mem_append_right _ (List.mem_append_right _ (List.mem_append_right _ (List.mem_append_right _ (List.mem_append_right _ (List.mem_append_right _ (List.mem_append_right _ (List.mem_append_right _ ((List.mem_of_getElem? h))))))))))))) hg
theorem gAll_sel {q : MethodName × Nat} (h : q ∈ lw_privs) : Cond.selects q.1.cls q.1 q.1 ∈ gAll := List.mem_filter.mpr ⟨List.mem_append_right _ (List.mem_append_left _ (List.mem_map.mpr ⟨q, h, rfl⟩)), rfl⟩
theorem gs_1 {j : Nat} {y : MethodName} {n : Nat} (h : lw_privs_1[j]? = some (y, n)) : Cond.selects y.cls y y ∈ gAll := gAll_sel (q := (y, n)) (show (y, n) ∈ lw_privs from List.mem_append_left _ (List.mem_of_getElem? h))
theorem gs_2 {j : Nat} {y : MethodName} {n : Nat} (h : lw_privs_2[j]? = some (y, n)) : Cond.selects y.cls y y ∈ gAll := gAll_sel (q := (y, n)) (show (y, n) ∈ lw_privs from List.mem_append_right _ (List.mem_append_left _ (List.mem_of_getElem? h)))
theorem gs_3 {j : Nat} {y : MethodName} {n : Nat} (h : lw_privs_3[j]? = some (y, n)) : Cond.selects y.cls y y ∈ gAll := gAll_sel (q := (y, n)) (show (y, n) ∈ lw_privs from List.mem_append_right _ (List.mem_append_right _ (List.mem_append_left _ (List.mem_of_getElem? h))))
theorem gs_4 {j : Nat} {y : MethodName} {n : Nat} (h : lw_privs_4[j]? = some (y, n)) : Cond.selects y.cls y y ∈ gAll := gAll_sel (q := (y, n)) (show (y, n) ∈ lw_privs from List.mem_append_right _ (List.mem_append_right _ (List.mem_append_right _ (List.mem_append_left _ (List.mem_of_getElem? h)))))
theorem gs_5 {j : Nat} {y : MethodName} {n : Nat} (h : lw_privs_5[j]? = some (y, n)) : Cond.selects y.cls y y ∈ gAll := gAll_sel (q := (y, n)) (show (y, n) ∈ lw_privs from List.mem_append_right _ (List.mem_append_right _ (List.mem_append_right _ (List.mem_append_right _ (List.mem_append_left _ (List.mem_of_getElem? h))))))
theorem gs_6 {j : Nat} {y : MethodName} {n : Nat} (h : lw_privs_6[j]? = some (y, n)) : Cond.selects y.cls y y ∈ gAll := gAll_sel (q := (y, n)) (show (y, n) ∈ lw_privs from List.mem_append_right _ (List.mem_append_right _ (List.mem_append_right _ (List.mem_append_right _ (List.mem_append_right _ (List.mem_append_left _ (List.mem_of_getElem? h)))))))
theorem gs_7 {j : Nat} {y : MethodName} {n : Nat} (h : lw_privs_7[j]? = some (y, n)) : Cond.selects y.cls y y ∈ gAll := gAll_sel (q := (y, n)) (show (y, n) ∈ lw_privs from List.mem_append_right _ (List.mem_append_right _ (List.mem_append_right _ (List.mem_append_right _ (List.mem_append_right _ (List.mem_append_right _ (List.mem_append_left _ (List.mem_of_getElem? h))))))))
theorem gs_8 {j : Nat} {y : MethodName} {n : Nat} (h : lw_privs_8[j]? = some (y, n)) : Cond.selects y.cls y y ∈ gAll := gAll_sel (q := (y, n)) (show (y, n) ∈ lw_privs from List.mem_append_right _ (List.mem_append_right _ (List.mem_append_right _ (List.mem_append_right _ (List.mem_append_right _ (List.mem_append_right _ (List.mem_append_right _ (List.mem_append_left _ (List.mem_of_getElem? h)))))))))
theorem gs_9 {j : Nat} {y : MethodName} {n : Nat} (h : lw_privs_9[j]? = some (y, n)) : Cond.selects y.cls y y ∈ gAll := gAll_sel (q := (y, n)) (show (y, n) ∈ lw_privs from List.mem_append_right _ (List.mem_append_right _ (List.mem_append_right _ (List.mem_append_right _ (List.mem_append_right _ (List.mem_append_right _ (List.mem_append_right _ (List.mem_append_right _ (List.mem_append_left _ (List.mem_of_getElem? h))))))))))
theorem gs_10 {j : Nat} {y : MethodName} {n : Nat} (h : lw_privs_10[j]? = some (y, n)) : Cond.selects y.cls y y ∈ gAll := gAll_sel (q := (y, n)) (show (y, n) ∈ lw_privs from List.mem_append_right _ (List.mem_append_right _ (List.mem_append_right _ (List.mem_append_right _ (List.mem_append_right _ (List.mem_append_right _ (List.mem_append_right _ (List.mem_append_right _ (List.mem_append_right _ (List.mem_append_left _ (List.mem_of_getElem? h)))))))))))
theorem gs_11 {j : Nat} {y : MethodName} {n : Nat} (h : lw_privs_11[j]? = some (y, n)) : Cond.selects y.cls y y ∈ gAll := gAll_sel (q := (y, n)) (show (y, n) ∈ lw_privs from List.mem_append_right _ (List.mem_append_right _ (List.mem_append_right _ (List.mem_append_right _ (List.mem_append_right _ (List.mem_append_right _ (List.mem_append_right _ (List.mem_append_right _ (List.mem_append_right _ (List.mem_append_right _ (List.mem_append_left _ (List.mem_of_getElem? h))))))))))))
theorem gs_12 {j : Nat} {y : MethodName} {n : Nat} (h : lw_privs_12[j]? = some (y, n)) : Cond.selects y.cls y y ∈ gAll := gAll_sel (q := (y, n)) (show (y, n) ∈ lw_privs from List.mem_append_right _ (List.mem_append_right _ (List.mem_append_right _ (List.mem_append_right _ (List.mem_append_right _ (List.mem_append_right _ (List.mem_append_right _ (List.mem_append_right _ (List.mem_append_right _ (List.mem_append_right _ (List.mem_append_right _ (List.mem_append_left _ (List.mem_of_getElem? h)))))))))))))
theorem gs_13 {j : Nat} {y : MethodName} {n : Nat} (h : lw_privs_13[j]? = some (y, n)) : Cond.selects y.cls y y ∈ gAll := gAll_sel (q := (y, n)) (show (y, n) ∈ lw_privs from List.mem_append_right _ (List.mem_append_right _ (List.mem_append_right _ (List.mem_append_right _ (List.mem_append_right _ (List.mem_append_right _ (List.mem_append_right _ (List.mem_append_right _ (List.mem_append_right _ (List.mem_append_right _ (List.mem_append_right _ (List.mem_append_right _ ((List.mem_of_getElem? h))))))))))))))
theorem gly_0 : ∀ k, k < 4 → u_lay RJ4 TJ4 k ∈ gAll := fun k hk => match k, hk with
  | 0, _ => gt_3 (j := 63) rfl rfl
  | 1, _ => gt_3 (j := 65) rfl rfl
  | 2, _ => gt_3 (j := 67) rfl rfl
  | 3, _ => gt_3 (j := 69) rfl rfl
  | z + 4, h => absurd h (by omega)
theorem gin_0 : ∀ w ∈ u_ws RJ4 TJ4 4, w ∈ gAll := by
  intro w hw
  obtain ⟨k, hk, rfl⟩ := List.mem_map.mp hw
  exact gly_0 k (List.mem_range.mp hk)
theorem gly_1 : ∀ k, k < 18 → u_lay RX0 TX0 k ∈ gAll := fun k hk => match k, hk with
  | 0, _ => gt_3 (j := 1) rfl rfl
  | 1, _ => gt_3 (j := 3) rfl rfl
  | 2, _ => gt_3 (j := 5) rfl rfl
  | 3, _ => gt_3 (j := 7) rfl rfl
  | 4, _ => gt_3 (j := 9) rfl rfl
  | 5, _ => gt_3 (j := 11) rfl rfl
  | 6, _ => gt_3 (j := 13) rfl rfl
  | 7, _ => gt_3 (j := 15) rfl rfl
  | 8, _ => gt_3 (j := 17) rfl rfl
  | 9, _ => gt_3 (j := 19) rfl rfl
  | 10, _ => gt_3 (j := 21) rfl rfl
  | 11, _ => gt_3 (j := 23) rfl rfl
  | 12, _ => gt_3 (j := 25) rfl rfl
  | 13, _ => gt_3 (j := 27) rfl rfl
  | 14, _ => gt_3 (j := 29) rfl rfl
  | 15, _ => gt_3 (j := 31) rfl rfl
  | 16, _ => gt_3 (j := 33) rfl rfl
  | 17, _ => gt_3 (j := 35) rfl rfl
  | z + 18, h => absurd h (by omega)
theorem gin_1 : ∀ w ∈ u_ws RX0 TX0 18, w ∈ gAll := by
  intro w hw
  obtain ⟨k, hk, rfl⟩ := List.mem_map.mp hw
  exact gly_1 k (List.mem_range.mp hk)
theorem gly_2 : ∀ k, k < 12 → u_lay RX1 TX1 k ∈ gAll := fun k hk => match k, hk with
  | 0, _ => gt_1 (j := 151) rfl rfl
  | 1, _ => gt_1 (j := 153) rfl rfl
  | 2, _ => gt_1 (j := 155) rfl rfl
  | 3, _ => gt_1 (j := 157) rfl rfl
  | 4, _ => gt_1 (j := 159) rfl rfl
  | 5, _ => gt_1 (j := 161) rfl rfl
  | 6, _ => gt_1 (j := 163) rfl rfl
  | 7, _ => gt_1 (j := 165) rfl rfl
  | 8, _ => gt_1 (j := 167) rfl rfl
  | 9, _ => gt_1 (j := 169) rfl rfl
  | 10, _ => gt_1 (j := 171) rfl rfl
  | 11, _ => gt_1 (j := 173) rfl rfl
  | z + 12, h => absurd h (by omega)
theorem gin_2 : ∀ w ∈ u_ws RX1 TX1 12, w ∈ gAll := by
  intro w hw
  obtain ⟨k, hk, rfl⟩ := List.mem_map.mp hw
  exact gly_2 k (List.mem_range.mp hk)
theorem gly_3 : ∀ k, k < 8 → u_lay RX2 TX2 k ∈ gAll := fun k hk => match k, hk with
  | 0, _ => gt_1 (j := 205) rfl rfl
  | 1, _ => gt_1 (j := 207) rfl rfl
  | 2, _ => gt_1 (j := 209) rfl rfl
  | 3, _ => gt_1 (j := 211) rfl rfl
  | 4, _ => gt_1 (j := 213) rfl rfl
  | 5, _ => gt_1 (j := 215) rfl rfl
  | 6, _ => gt_1 (j := 217) rfl rfl
  | 7, _ => gt_1 (j := 219) rfl rfl
  | z + 8, h => absurd h (by omega)
theorem gin_3 : ∀ w ∈ u_ws RX2 TX2 8, w ∈ gAll := by
  intro w hw
  obtain ⟨k, hk, rfl⟩ := List.mem_map.mp hw
  exact gly_3 k (List.mem_range.mp hk)
theorem gly_4 : ∀ k, k < 2 → u_lay RX3 TX3 k ∈ gAll := fun k hk => match k, hk with
  | 0, _ => gt_1 (j := 89) rfl rfl
  | 1, _ => gt_1 (j := 91) rfl rfl
  | z + 2, h => absurd h (by omega)
theorem gin_4 : ∀ w ∈ u_ws RX3 TX3 2, w ∈ gAll := by
  intro w hw
  obtain ⟨k, hk, rfl⟩ := List.mem_map.mp hw
  exact gly_4 k (List.mem_range.mp hk)
theorem gly_5 : ∀ k, k < 3 → u_lay RX4 TX4 k ∈ gAll := fun k hk => match k, hk with
  | 0, _ => gt_2 (j := 56) rfl rfl
  | 1, _ => gt_2 (j := 58) rfl rfl
  | 2, _ => gt_2 (j := 60) rfl rfl
  | z + 3, h => absurd h (by omega)
theorem gin_5 : ∀ w ∈ u_ws RX4 TX4 3, w ∈ gAll := by
  intro w hw
  obtain ⟨k, hk, rfl⟩ := List.mem_map.mp hw
  exact gly_5 k (List.mem_range.mp hk)
theorem gly_6 : ∀ k, k < 19 → u_lay RX5 TX5 k ∈ gAll := fun k hk => match k, hk with
  | 0, _ => gt_2 (j := 129) rfl rfl
  | 1, _ => gt_2 (j := 131) rfl rfl
  | 2, _ => gt_2 (j := 133) rfl rfl
  | 3, _ => gt_2 (j := 135) rfl rfl
  | 4, _ => gt_2 (j := 137) rfl rfl
  | 5, _ => gt_2 (j := 139) rfl rfl
  | 6, _ => gt_2 (j := 141) rfl rfl
  | 7, _ => gt_2 (j := 143) rfl rfl
  | 8, _ => gt_2 (j := 145) rfl rfl
  | 9, _ => gt_2 (j := 147) rfl rfl
  | 10, _ => gt_2 (j := 149) rfl rfl
  | 11, _ => gt_2 (j := 151) rfl rfl
  | 12, _ => gt_2 (j := 153) rfl rfl
  | 13, _ => gt_2 (j := 155) rfl rfl
  | 14, _ => gt_2 (j := 157) rfl rfl
  | 15, _ => gt_2 (j := 159) rfl rfl
  | 16, _ => gt_2 (j := 161) rfl rfl
  | 17, _ => gt_2 (j := 163) rfl rfl
  | 18, _ => gt_2 (j := 165) rfl rfl
  | z + 19, h => absurd h (by omega)
theorem gin_6 : ∀ w ∈ u_ws RX5 TX5 19, w ∈ gAll := by
  intro w hw
  obtain ⟨k, hk, rfl⟩ := List.mem_map.mp hw
  exact gly_6 k (List.mem_range.mp hk)
theorem gly_7 : ∀ k, k < 4 → u_lay RX6 TX6 k ∈ gAll := fun k hk => match k, hk with
  | 0, _ => gt_2 (j := 173) rfl rfl
  | 1, _ => gt_2 (j := 175) rfl rfl
  | 2, _ => gt_2 (j := 177) rfl rfl
  | 3, _ => gt_2 (j := 179) rfl rfl
  | z + 4, h => absurd h (by omega)
theorem gin_7 : ∀ w ∈ u_ws RX6 TX6 4, w ∈ gAll := by
  intro w hw
  obtain ⟨k, hk, rfl⟩ := List.mem_map.mp hw
  exact gly_7 k (List.mem_range.mp hk)
theorem gly_8 : ∀ k, k < 5 → u_lay RX7 TX7 k ∈ gAll := fun k hk => match k, hk with
  | 0, _ => gt_2 (j := 201) rfl rfl
  | 1, _ => gt_2 (j := 203) rfl rfl
  | 2, _ => gt_2 (j := 205) rfl rfl
  | 3, _ => gt_2 (j := 207) rfl rfl
  | 4, _ => gt_2 (j := 209) rfl rfl
  | z + 5, h => absurd h (by omega)
theorem gin_8 : ∀ w ∈ u_ws RX7 TX7 5, w ∈ gAll := by
  intro w hw
  obtain ⟨k, hk, rfl⟩ := List.mem_map.mp hw
  exact gly_8 k (List.mem_range.mp hk)
theorem gly_9 : ∀ k, k < 10 → u_lay RX8 TX8 k ∈ gAll := fun k hk => match k, hk with
  | 0, _ => gt_2 (j := 0) rfl rfl
  | 1, _ => gt_2 (j := 2) rfl rfl
  | 2, _ => gt_2 (j := 4) rfl rfl
  | 3, _ => gt_2 (j := 6) rfl rfl
  | 4, _ => gt_2 (j := 8) rfl rfl
  | 5, _ => gt_2 (j := 10) rfl rfl
  | 6, _ => gt_2 (j := 12) rfl rfl
  | 7, _ => gt_2 (j := 14) rfl rfl
  | 8, _ => gt_2 (j := 16) rfl rfl
  | 9, _ => gt_2 (j := 18) rfl rfl
  | z + 10, h => absurd h (by omega)
theorem gin_9 : ∀ w ∈ u_ws RX8 TX8 10, w ∈ gAll := by
  intro w hw
  obtain ⟨k, hk, rfl⟩ := List.mem_map.mp hw
  exact gly_9 k (List.mem_range.mp hk)
theorem gly_10 : ∀ k, k < 5 → u_lay RX9 TX9 k ∈ gAll := fun k hk => match k, hk with
  | 0, _ => gt_1 (j := 55) rfl rfl
  | 1, _ => gt_1 (j := 57) rfl rfl
  | 2, _ => gt_1 (j := 59) rfl rfl
  | 3, _ => gt_1 (j := 61) rfl rfl
  | 4, _ => gt_1 (j := 63) rfl rfl
  | z + 5, h => absurd h (by omega)
theorem gin_10 : ∀ w ∈ u_ws RX9 TX9 5, w ∈ gAll := by
  intro w hw
  obtain ⟨k, hk, rfl⟩ := List.mem_map.mp hw
  exact gly_10 k (List.mem_range.mp hk)
theorem gly_11 : ∀ k, k < 3 → u_lay RX10 TX10 k ∈ gAll := fun k hk => match k, hk with
  | 0, _ => gt_1 (j := 116) rfl rfl
  | 1, _ => gt_1 (j := 118) rfl rfl
  | 2, _ => gt_1 (j := 120) rfl rfl
  | z + 3, h => absurd h (by omega)
theorem gin_11 : ∀ w ∈ u_ws RX10 TX10 3, w ∈ gAll := by
  intro w hw
  obtain ⟨k, hk, rfl⟩ := List.mem_map.mp hw
  exact gly_11 k (List.mem_range.mp hk)
theorem gly_12 : ∀ k, k < 17 → u_lay RX11 TX11 k ∈ gAll := fun k hk => match k, hk with
  | 0, _ => gt_3 (j := 90) rfl rfl
  | 1, _ => gt_3 (j := 92) rfl rfl
  | 2, _ => gt_3 (j := 94) rfl rfl
  | 3, _ => gt_3 (j := 96) rfl rfl
  | 4, _ => gt_3 (j := 98) rfl rfl
  | 5, _ => gt_3 (j := 100) rfl rfl
  | 6, _ => gt_3 (j := 102) rfl rfl
  | 7, _ => gt_3 (j := 104) rfl rfl
  | 8, _ => gt_3 (j := 106) rfl rfl
  | 9, _ => gt_3 (j := 108) rfl rfl
  | 10, _ => gt_3 (j := 110) rfl rfl
  | 11, _ => gt_3 (j := 112) rfl rfl
  | 12, _ => gt_3 (j := 114) rfl rfl
  | 13, _ => gt_3 (j := 116) rfl rfl
  | 14, _ => gt_3 (j := 118) rfl rfl
  | 15, _ => gt_3 (j := 120) rfl rfl
  | 16, _ => gt_3 (j := 122) rfl rfl
  | z + 17, h => absurd h (by omega)
theorem gin_12 : ∀ w ∈ u_ws RX11 TX11 17, w ∈ gAll := by
  intro w hw
  obtain ⟨k, hk, rfl⟩ := List.mem_map.mp hw
  exact gly_12 k (List.mem_range.mp hk)
theorem gly_13 : ∀ k, k < 72 → u_lay RX12 TX12 k ∈ gAll := fun k hk => match k, hk with
  | 0, _ => gt_8 (j := 113) rfl rfl
  | 1, _ => gt_8 (j := 115) rfl rfl
  | 2, _ => gt_8 (j := 117) rfl rfl
  | 3, _ => gt_8 (j := 119) rfl rfl
  | 4, _ => gt_8 (j := 121) rfl rfl
  | 5, _ => gt_8 (j := 123) rfl rfl
  | 6, _ => gt_8 (j := 125) rfl rfl
  | 7, _ => gt_8 (j := 127) rfl rfl
  | 8, _ => gt_8 (j := 129) rfl rfl
  | 9, _ => gt_8 (j := 131) rfl rfl
  | 10, _ => gt_8 (j := 133) rfl rfl
  | 11, _ => gt_8 (j := 135) rfl rfl
  | 12, _ => gt_8 (j := 137) rfl rfl
  | 13, _ => gt_8 (j := 139) rfl rfl
  | 14, _ => gt_8 (j := 141) rfl rfl
  | 15, _ => gt_8 (j := 143) rfl rfl
  | 16, _ => gt_8 (j := 145) rfl rfl
  | 17, _ => gt_8 (j := 147) rfl rfl
  | 18, _ => gt_8 (j := 149) rfl rfl
  | 19, _ => gt_8 (j := 151) rfl rfl
  | 20, _ => gt_8 (j := 153) rfl rfl
  | 21, _ => gt_8 (j := 155) rfl rfl
  | 22, _ => gt_8 (j := 157) rfl rfl
  | 23, _ => gt_8 (j := 159) rfl rfl
  | 24, _ => gt_8 (j := 161) rfl rfl
  | 25, _ => gt_8 (j := 163) rfl rfl
  | 26, _ => gt_8 (j := 165) rfl rfl
  | 27, _ => gt_8 (j := 167) rfl rfl
  | 28, _ => gt_8 (j := 169) rfl rfl
  | 29, _ => gt_8 (j := 171) rfl rfl
  | 30, _ => gt_8 (j := 173) rfl rfl
  | 31, _ => gt_8 (j := 175) rfl rfl
  | 32, _ => gt_8 (j := 177) rfl rfl
  | 33, _ => gt_8 (j := 179) rfl rfl
  | 34, _ => gt_8 (j := 181) rfl rfl
  | 35, _ => gt_8 (j := 183) rfl rfl
  | 36, _ => gt_8 (j := 185) rfl rfl
  | 37, _ => gt_8 (j := 187) rfl rfl
  | 38, _ => gt_8 (j := 189) rfl rfl
  | 39, _ => gt_8 (j := 191) rfl rfl
  | 40, _ => gt_8 (j := 193) rfl rfl
  | 41, _ => gt_8 (j := 195) rfl rfl
  | 42, _ => gt_8 (j := 197) rfl rfl
  | 43, _ => gt_8 (j := 199) rfl rfl
  | 44, _ => gt_8 (j := 201) rfl rfl
  | 45, _ => gt_8 (j := 203) rfl rfl
  | 46, _ => gt_8 (j := 205) rfl rfl
  | 47, _ => gt_8 (j := 207) rfl rfl
  | 48, _ => gt_8 (j := 209) rfl rfl
  | 49, _ => gt_8 (j := 211) rfl rfl
  | 50, _ => gt_8 (j := 213) rfl rfl
  | 51, _ => gt_8 (j := 215) rfl rfl
  | 52, _ => gt_8 (j := 217) rfl rfl
  | 53, _ => gt_8 (j := 219) rfl rfl
  | 54, _ => gt_8 (j := 221) rfl rfl
  | 55, _ => gt_8 (j := 223) rfl rfl
  | 56, _ => gt_8 (j := 225) rfl rfl
  | 57, _ => gt_8 (j := 227) rfl rfl
  | 58, _ => gt_8 (j := 229) rfl rfl
  | 59, _ => gt_8 (j := 231) rfl rfl
  | 60, _ => gt_8 (j := 233) rfl rfl
  | 61, _ => gt_8 (j := 235) rfl rfl
  | 62, _ => gt_8 (j := 237) rfl rfl
  | 63, _ => gt_8 (j := 239) rfl rfl
  | 64, _ => gt_9 (j := 1) rfl rfl
  | 65, _ => gt_9 (j := 3) rfl rfl
  | 66, _ => gt_9 (j := 5) rfl rfl
  | 67, _ => gt_9 (j := 7) rfl rfl
  | 68, _ => gt_9 (j := 9) rfl rfl
  | 69, _ => gt_9 (j := 11) rfl rfl
  | 70, _ => gt_9 (j := 13) rfl rfl
  | 71, _ => gt_9 (j := 15) rfl rfl
  | z + 72, h => absurd h (by omega)
theorem gin_13 : ∀ w ∈ u_ws RX12 TX12 72, w ∈ gAll := by
  intro w hw
  obtain ⟨k, hk, rfl⟩ := List.mem_map.mp hw
  exact gly_13 k (List.mem_range.mp hk)
