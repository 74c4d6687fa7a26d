section
-- ===== PART A: goes FIRST, ahead of the names: the tables' words, and 'selects' of the private methods out of them =====
/-- a private method of a class that the tables say can be made, by its rows of tables_1 -/
def lw_okq (q : MethodName × Nat) : Prop := (q.1.cls ≠ "java/lang/invoke/MethodHandle" ∧ q.1.cls ≠ "java/lang/invoke/VarHandle") ∧ Cond.instantiable q.1.cls q.2 ∈ tables_1 ∧ Cond.privateMethod q.1 ∈ tables_1 ∧ Cond.instanceMethod q.1 ∈ tables_1
theorem lw_p0 : lw_okq (⟨"java/lang/Throwable", "fillInStackTrace", "(I)Ljava/lang/Throwable;"⟩, 6) := ⟨⟨by decide +kernel, by decide +kernel⟩, List.mem_of_getElem? (i := 353) (by decide +kernel), List.mem_of_getElem? (i := 351) (by decide +kernel), List.mem_of_getElem? (i := 352) (by decide +kernel)⟩
theorem lw_p1 : lw_okq (⟨"ScaffoldPlanner$Plan", "isHeldBy", "(II)Z"⟩, 7) := ⟨⟨by decide +kernel, by decide +kernel⟩, List.mem_of_getElem? (i := 33) (by decide +kernel), List.mem_of_getElem? (i := 423) (by decide +kernel), List.mem_of_getElem? (i := 424) (by decide +kernel)⟩
theorem lw_p2 : lw_okq (⟨"ScaffoldPlanner", "keepChange", "()V"⟩, 11) := ⟨⟨by decide +kernel, by decide +kernel⟩, List.mem_of_getElem? (i := 25) (by decide +kernel), List.mem_of_getElem? (i := 465) (by decide +kernel), List.mem_of_getElem? (i := 466) (by decide +kernel)⟩
theorem lw_p3 : lw_okq (⟨"ScaffoldPlanner$History", "planAt", "(I)LScaffoldPlanner$Plan;"⟩, 3) := ⟨⟨by decide +kernel, by decide +kernel⟩, List.mem_of_getElem? (i := 81) (by decide +kernel), List.mem_of_getElem? (i := 473) (by decide +kernel), List.mem_of_getElem? (i := 474) (by decide +kernel)⟩
theorem lw_p4 : lw_okq (⟨"ScaffoldPlanner", "isJobCarriedOut", "()Z"⟩, 11) := ⟨⟨by decide +kernel, by decide +kernel⟩, List.mem_of_getElem? (i := 25) (by decide +kernel), List.mem_of_getElem? (i := 552) (by decide +kernel), List.mem_of_getElem? (i := 553) (by decide +kernel)⟩
theorem lw_p5 : lw_okq (⟨"ScaffoldPlanner$Ways", "isStepTaken", "(I)Z"⟩, 4) := ⟨⟨by decide +kernel, by decide +kernel⟩, List.mem_of_getElem? (i := 101) (by decide +kernel), List.mem_of_getElem? (i := 562) (by decide +kernel), List.mem_of_getElem? (i := 563) (by decide +kernel)⟩
theorem lw_p6 : lw_okq (⟨"ScaffoldPlanner$Ways", "nextDecks", "(LScaffoldPlanner$Plan;I)I"⟩, 4) := ⟨⟨by decide +kernel, by decide +kernel⟩, List.mem_of_getElem? (i := 101) (by decide +kernel), List.mem_of_getElem? (i := 567) (by decide +kernel), List.mem_of_getElem? (i := 568) (by decide +kernel)⟩
theorem lw_p7 : lw_okq (⟨"ScaffoldPlanner$Judge", "examineLevel", "(LScaffoldPlanner$Plan;LScaffoldPlanner$Work;)V"⟩, 3) := ⟨⟨by decide +kernel, by decide +kernel⟩, List.mem_of_getElem? (i := 122) (by decide +kernel), List.mem_of_getElem? (i := 577) (by decide +kernel), List.mem_of_getElem? (i := 578) (by decide +kernel)⟩
theorem lw_p8 : lw_okq (⟨"ScaffoldPlanner$Judge", "refuse", "(II)V"⟩, 3) := ⟨⟨by decide +kernel, by decide +kernel⟩, List.mem_of_getElem? (i := 122) (by decide +kernel), List.mem_of_getElem? (i := 585) (by decide +kernel), List.mem_of_getElem? (i := 586) (by decide +kernel)⟩
theorem lw_p9 : lw_okq (⟨"ScaffoldPlanner$Judge", "examinePlace", "(LScaffoldPlanner$Plan;LScaffoldPlanner$Work;)V"⟩, 3) := ⟨⟨by decide +kernel, by decide +kernel⟩, List.mem_of_getElem? (i := 122) (by decide +kernel), List.mem_of_getElem? (i := 589) (by decide +kernel), List.mem_of_getElem? (i := 590) (by decide +kernel)⟩
theorem lw_p10 : lw_okq (⟨"ScaffoldPlanner$Judge", "examineDecksOfLadder", "(LScaffoldPlanner$Plan;LScaffoldPlanner$Work;)V"⟩, 3) := ⟨⟨by decide +kernel, by decide +kernel⟩, List.mem_of_getElem? (i := 122) (by decide +kernel), List.mem_of_getElem? (i := 597) (by decide +kernel), List.mem_of_getElem? (i := 598) (by decide +kernel)⟩
theorem lw_p11 : lw_okq (⟨"ScaffoldPlanner$Judge", "examineLaddersOfDeck", "(LScaffoldPlanner$Plan;LScaffoldPlanner$Work;)V"⟩, 3) := ⟨⟨by decide +kernel, by decide +kernel⟩, List.mem_of_getElem? (i := 122) (by decide +kernel), List.mem_of_getElem? (i := 601) (by decide +kernel), List.mem_of_getElem? (i := 602) (by decide +kernel)⟩
theorem lw_p12 : lw_okq (⟨"ScaffoldPlanner$Judge", "examinePiecesOfLevel", "(LScaffoldPlanner$Plan;LScaffoldPlanner$Work;)V"⟩, 3) := ⟨⟨by decide +kernel, by decide +kernel⟩, List.mem_of_getElem? (i := 122) (by decide +kernel), List.mem_of_getElem? (i := 605) (by decide +kernel), List.mem_of_getElem? (i := 606) (by decide +kernel)⟩
theorem lw_p13 : lw_okq (⟨"ScaffoldPlanner$Judge", "examineStanding", "(LScaffoldPlanner$Plan;LScaffoldPlanner$Ways;LScaffoldPlanner$Work;)V"⟩, 3) := ⟨⟨by decide +kernel, by decide +kernel⟩, List.mem_of_getElem? (i := 122) (by decide +kernel), List.mem_of_getElem? (i := 614) (by decide +kernel), List.mem_of_getElem? (i := 615) (by decide +kernel)⟩
theorem lw_p14 : lw_okq (⟨"ScaffoldPlanner$Judge", "examineYard", "(LScaffoldPlanner$Plan;LScaffoldPlanner$Work;)V"⟩, 3) := ⟨⟨by decide +kernel, by decide +kernel⟩, List.mem_of_getElem? (i := 122) (by decide +kernel), List.mem_of_getElem? (i := 623) (by decide +kernel), List.mem_of_getElem? (i := 624) (by decide +kernel)⟩
theorem lw_p15 : lw_okq (⟨"ScaffoldPlanner$Plan", "supply", "(II)V"⟩, 7) := ⟨⟨by decide +kernel, by decide +kernel⟩, List.mem_of_getElem? (i := 33) (by decide +kernel), List.mem_of_getElem? (i := 639) (by decide +kernel), List.mem_of_getElem? (i := 640) (by decide +kernel)⟩
def lw_privs_1 : List (MethodName × Nat) := [(⟨"java/lang/Throwable", "fillInStackTrace", "(I)Ljava/lang/Throwable;"⟩, 6), (⟨"ScaffoldPlanner$Plan", "isHeldBy", "(II)Z"⟩, 7), (⟨"ScaffoldPlanner", "keepChange", "()V"⟩, 11), (⟨"ScaffoldPlanner$History", "planAt", "(I)LScaffoldPlanner$Plan;"⟩, 3), (⟨"ScaffoldPlanner", "isJobCarriedOut", "()Z"⟩, 11), (⟨"ScaffoldPlanner$Ways", "isStepTaken", "(I)Z"⟩, 4), (⟨"ScaffoldPlanner$Ways", "nextDecks", "(LScaffoldPlanner$Plan;I)I"⟩, 4), (⟨"ScaffoldPlanner$Judge", "examineLevel", "(LScaffoldPlanner$Plan;LScaffoldPlanner$Work;)V"⟩, 3), (⟨"ScaffoldPlanner$Judge", "refuse", "(II)V"⟩, 3), (⟨"ScaffoldPlanner$Judge", "examinePlace", "(LScaffoldPlanner$Plan;LScaffoldPlanner$Work;)V"⟩, 3), (⟨"ScaffoldPlanner$Judge", "examineDecksOfLadder", "(LScaffoldPlanner$Plan;LScaffoldPlanner$Work;)V"⟩, 3), (⟨"ScaffoldPlanner$Judge", "examineLaddersOfDeck", "(LScaffoldPlanner$Plan;LScaffoldPlanner$Work;)V"⟩, 3), (⟨"ScaffoldPlanner$Judge", "examinePiecesOfLevel", "(LScaffoldPlanner$Plan;LScaffoldPlanner$Work;)V"⟩, 3), (⟨"ScaffoldPlanner$Judge", "examineStanding", "(LScaffoldPlanner$Plan;LScaffoldPlanner$Ways;LScaffoldPlanner$Work;)V"⟩, 3), (⟨"ScaffoldPlanner$Judge", "examineYard", "(LScaffoldPlanner$Plan;LScaffoldPlanner$Work;)V"⟩, 3), (⟨"ScaffoldPlanner$Plan", "supply", "(II)V"⟩, 7)]
theorem lw_r1 : ∀ q ∈ lw_privs_1, lw_okq q := List.forall_mem_cons.mpr ⟨lw_p0, List.forall_mem_cons.mpr ⟨lw_p1, List.forall_mem_cons.mpr ⟨lw_p2, List.forall_mem_cons.mpr ⟨lw_p3, List.forall_mem_cons.mpr ⟨lw_p4, List.forall_mem_cons.mpr ⟨lw_p5, List.forall_mem_cons.mpr ⟨lw_p6, List.forall_mem_cons.mpr ⟨lw_p7, List.forall_mem_cons.mpr ⟨lw_p8, List.forall_mem_cons.mpr ⟨lw_p9, List.forall_mem_cons.mpr ⟨lw_p10, List.forall_mem_cons.mpr ⟨lw_p11, List.forall_mem_cons.mpr ⟨lw_p12, List.forall_mem_cons.mpr ⟨lw_p13, List.forall_mem_cons.mpr ⟨lw_p14, List.forall_mem_cons.mpr ⟨lw_p15, fun _ h => absurd h List.not_mem_nil⟩⟩⟩⟩⟩⟩⟩⟩⟩⟩⟩⟩⟩⟩⟩⟩
theorem lw_p16 : lw_okq (⟨"ScaffoldPlanner$Judge", "examineLowest", "(II)V"⟩, 3) := ⟨⟨by decide +kernel, by decide +kernel⟩, List.mem_of_getElem? (i := 122) (by decide +kernel), List.mem_of_getElem? (i := 644) (by decide +kernel), List.mem_of_getElem? (i := 645) (by decide +kernel)⟩
theorem lw_p17 : lw_okq (⟨"ScaffoldPlanner", "addRefusal", "()V"⟩, 11) := ⟨⟨by decide +kernel, by decide +kernel⟩, List.mem_of_getElem? (i := 25) (by decide +kernel), List.mem_of_getElem? (i := 654) (by decide +kernel), List.mem_of_getElem? (i := 655) (by decide +kernel)⟩
theorem lw_p18 : lw_okq (⟨"ScaffoldPlanner", "leastTieSet", "(I)I"⟩, 11) := ⟨⟨by decide +kernel, by decide +kernel⟩, List.mem_of_getElem? (i := 25) (by decide +kernel), List.mem_of_getElem? (i := 797) (by decide +kernel), List.mem_of_getElem? (i := 798) (by decide +kernel)⟩
theorem lw_p19 : lw_okq (⟨"ScaffoldPlanner$Dismantler", "isDone", "(I)Z"⟩, 8) := ⟨⟨by decide +kernel, by decide +kernel⟩, List.mem_of_getElem? (i := 199) (by decide +kernel), List.mem_of_getElem? (i := 836) (by decide +kernel), List.mem_of_getElem? (i := 837) (by decide +kernel)⟩
theorem lw_p20 : lw_okq (⟨"ScaffoldPlanner$CommandText", "letter", "()I"⟩, 3) := ⟨⟨by decide +kernel, by decide +kernel⟩, List.mem_of_getElem? (i := 242) (by decide +kernel), List.mem_of_getElem? (i := 933) (by decide +kernel), List.mem_of_getElem? (i := 934) (by decide +kernel)⟩
theorem lw_p21 : lw_okq (⟨"ScaffoldPlanner$CommandText", "readDigit", "()I"⟩, 3) := ⟨⟨by decide +kernel, by decide +kernel⟩, List.mem_of_getElem? (i := 242) (by decide +kernel), List.mem_of_getElem? (i := 940) (by decide +kernel), List.mem_of_getElem? (i := 941) (by decide +kernel)⟩
theorem lw_p22 : lw_okq (⟨"ScaffoldPlanner", "carryOutCommands", "()I"⟩, 11) := ⟨⟨by decide +kernel, by decide +kernel⟩, List.mem_of_getElem? (i := 25) (by decide +kernel), List.mem_of_getElem? (i := 949) (by decide +kernel), List.mem_of_getElem? (i := 950) (by decide +kernel)⟩
theorem lw_p23 : lw_okq (⟨"ScaffoldPlanner", "isInRange", "(LScaffoldPlanner$Work;)Z"⟩, 11) := ⟨⟨by decide +kernel, by decide +kernel⟩, List.mem_of_getElem? (i := 25) (by decide +kernel), List.mem_of_getElem? (i := 954) (by decide +kernel), List.mem_of_getElem? (i := 955) (by decide +kernel)⟩
theorem lw_p24 : lw_okq (⟨"ScaffoldPlannerModel", "begins", "(I)V"⟩, 23) := ⟨⟨by decide +kernel, by decide +kernel⟩, List.mem_of_getElem? (i := 977) (by decide +kernel), List.mem_of_getElem? (i := 983) (by decide +kernel), List.mem_of_getElem? (i := 984) (by decide +kernel)⟩
theorem lw_p25 : lw_okq (⟨"ScaffoldPlannerModel", "wrong", "()I"⟩, 23) := ⟨⟨by decide +kernel, by decide +kernel⟩, List.mem_of_getElem? (i := 977) (by decide +kernel), List.mem_of_getElem? (i := 1090) (by decide +kernel), List.mem_of_getElem? (i := 1091) (by decide +kernel)⟩
theorem lw_p26 : lw_okq (⟨"ScaffoldPlannerModel", "isHeld", "(I)Z"⟩, 23) := ⟨⟨by decide +kernel, by decide +kernel⟩, List.mem_of_getElem? (i := 977) (by decide +kernel), List.mem_of_getElem? (i := 1094) (by decide +kernel), List.mem_of_getElem? (i := 1095) (by decide +kernel)⟩
theorem lw_p27 : lw_okq (⟨"ScaffoldPlannerModel", "postHigh", "(I)I"⟩, 23) := ⟨⟨by decide +kernel, by decide +kernel⟩, List.mem_of_getElem? (i := 977) (by decide +kernel), List.mem_of_getElem? (i := 1098) (by decide +kernel), List.mem_of_getElem? (i := 1099) (by decide +kernel)⟩
theorem lw_p28 : lw_okq (⟨"ScaffoldPlannerModel", "high", "(I)I"⟩, 23) := ⟨⟨by decide +kernel, by decide +kernel⟩, List.mem_of_getElem? (i := 977) (by decide +kernel), List.mem_of_getElem? (i := 1102) (by decide +kernel), List.mem_of_getElem? (i := 1103) (by decide +kernel)⟩
theorem lw_p29 : lw_okq (⟨"ScaffoldPlannerModel", "left", "(I)I"⟩, 23) := ⟨⟨by decide +kernel, by decide +kernel⟩, List.mem_of_getElem? (i := 977) (by decide +kernel), List.mem_of_getElem? (i := 1106) (by decide +kernel), List.mem_of_getElem? (i := 1107) (by decide +kernel)⟩
theorem lw_p30 : lw_okq (⟨"ScaffoldPlannerModel", "isBraced", "(II)Z"⟩, 23) := ⟨⟨by decide +kernel, by decide +kernel⟩, List.mem_of_getElem? (i := 977) (by decide +kernel), List.mem_of_getElem? (i := 1116) (by decide +kernel), List.mem_of_getElem? (i := 1117) (by decide +kernel)⟩
theorem lw_p31 : lw_okq (⟨"ScaffoldPlannerModel", "has", "(III)Z"⟩, 23) := ⟨⟨by decide +kernel, by decide +kernel⟩, List.mem_of_getElem? (i := 977) (by decide +kernel), List.mem_of_getElem? (i := 1120) (by decide +kernel), List.mem_of_getElem? (i := 1121) (by decide +kernel)⟩
def lw_privs_2 : List (MethodName × Nat) := [(⟨"ScaffoldPlanner$Judge", "examineLowest", "(II)V"⟩, 3), (⟨"ScaffoldPlanner", "addRefusal", "()V"⟩, 11), (⟨"ScaffoldPlanner", "leastTieSet", "(I)I"⟩, 11), (⟨"ScaffoldPlanner$Dismantler", "isDone", "(I)Z"⟩, 8), (⟨"ScaffoldPlanner$CommandText", "letter", "()I"⟩, 3), (⟨"ScaffoldPlanner$CommandText", "readDigit", "()I"⟩, 3), (⟨"ScaffoldPlanner", "carryOutCommands", "()I"⟩, 11), (⟨"ScaffoldPlanner", "isInRange", "(LScaffoldPlanner$Work;)Z"⟩, 11), (⟨"ScaffoldPlannerModel", "begins", "(I)V"⟩, 23), (⟨"ScaffoldPlannerModel", "wrong", "()I"⟩, 23), (⟨"ScaffoldPlannerModel", "isHeld", "(I)Z"⟩, 23), (⟨"ScaffoldPlannerModel", "postHigh", "(I)I"⟩, 23), (⟨"ScaffoldPlannerModel", "high", "(I)I"⟩, 23), (⟨"ScaffoldPlannerModel", "left", "(I)I"⟩, 23), (⟨"ScaffoldPlannerModel", "isBraced", "(II)Z"⟩, 23), (⟨"ScaffoldPlannerModel", "has", "(III)Z"⟩, 23)]
theorem lw_r2 : ∀ q ∈ lw_privs_2, lw_okq q := List.forall_mem_cons.mpr ⟨lw_p16, List.forall_mem_cons.mpr ⟨lw_p17, List.forall_mem_cons.mpr ⟨lw_p18, List.forall_mem_cons.mpr ⟨lw_p19, List.forall_mem_cons.mpr ⟨lw_p20, List.forall_mem_cons.mpr ⟨lw_p21, List.forall_mem_cons.mpr ⟨lw_p22, List.forall_mem_cons.mpr ⟨lw_p23, List.forall_mem_cons.mpr ⟨lw_p24, List.forall_mem_cons.mpr ⟨lw_p25, List.forall_mem_cons.mpr ⟨lw_p26, List.forall_mem_cons.mpr ⟨lw_p27, List.forall_mem_cons.mpr ⟨lw_p28, List.forall_mem_cons.mpr ⟨lw_p29, List.forall_mem_cons.mpr ⟨lw_p30, List.forall_mem_cons.mpr ⟨lw_p31, fun _ h => absurd h List.not_mem_nil⟩⟩⟩⟩⟩⟩⟩⟩⟩⟩⟩⟩⟩⟩⟩⟩
theorem lw_p32 : lw_okq (⟨"ScaffoldPlannerModel", "right", "(I)I"⟩, 23) := ⟨⟨by decide +kernel, by decide +kernel⟩, List.mem_of_getElem? (i := 977) (by decide +kernel), List.mem_of_getElem? (i := 1124) (by decide +kernel), List.mem_of_getElem? (i := 1125) (by decide +kernel)⟩
theorem lw_p33 : lw_okq (⟨"ScaffoldPlannerModel", "loadOf", "(I)I"⟩, 23) := ⟨⟨by decide +kernel, by decide +kernel⟩, List.mem_of_getElem? (i := 977) (by decide +kernel), List.mem_of_getElem? (i := 1128) (by decide +kernel), List.mem_of_getElem? (i := 1129) (by decide +kernel)⟩
theorem lw_p34 : lw_okq (⟨"ScaffoldPlannerModel", "classes", "(I)I"⟩, 23) := ⟨⟨by decide +kernel, by decide +kernel⟩, List.mem_of_getElem? (i := 977) (by decide +kernel), List.mem_of_getElem? (i := 1132) (by decide +kernel), List.mem_of_getElem? (i := 1133) (by decide +kernel)⟩
theorem lw_p35 : lw_okq (⟨"ScaffoldPlannerModel", "deckAt", "(II)I"⟩, 23) := ⟨⟨by decide +kernel, by decide +kernel⟩, List.mem_of_getElem? (i := 977) (by decide +kernel), List.mem_of_getElem? (i := 1136) (by decide +kernel), List.mem_of_getElem? (i := 1137) (by decide +kernel)⟩
theorem lw_p36 : lw_okq (⟨"ScaffoldPlannerModel", "fails", "(I)I"⟩, 23) := ⟨⟨by decide +kernel, by decide +kernel⟩, List.mem_of_getElem? (i := 977) (by decide +kernel), List.mem_of_getElem? (i := 1140) (by decide +kernel), List.mem_of_getElem? (i := 1141) (by decide +kernel)⟩
theorem lw_p37 : lw_okq (⟨"ScaffoldPlannerModel", "changes", "([I)V"⟩, 23) := ⟨⟨by decide +kernel, by decide +kernel⟩, List.mem_of_getElem? (i := 977) (by decide +kernel), List.mem_of_getElem? (i := 1144) (by decide +kernel), List.mem_of_getElem? (i := 1145) (by decide +kernel)⟩
theorem lw_p38 : lw_okq (⟨"ScaffoldPlannerModel", "isPlace", "(I)Z"⟩, 23) := ⟨⟨by decide +kernel, by decide +kernel⟩, List.mem_of_getElem? (i := 977) (by decide +kernel), List.mem_of_getElem? (i := 1156) (by decide +kernel), List.mem_of_getElem? (i := 1157) (by decide +kernel)⟩
theorem lw_p39 : lw_okq (⟨"ScaffoldPlannerModel", "works", "(IIIZI)Z"⟩, 23) := ⟨⟨by decide +kernel, by decide +kernel⟩, List.mem_of_getElem? (i := 977) (by decide +kernel), List.mem_of_getElem? (i := 1160) (by decide +kernel), List.mem_of_getElem? (i := 1161) (by decide +kernel)⟩
theorem lw_p40 : lw_okq (⟨"ScaffoldPlannerModel", "against", "(IIIZI)I"⟩, 23) := ⟨⟨by decide +kernel, by decide +kernel⟩, List.mem_of_getElem? (i := 977) (by decide +kernel), List.mem_of_getElem? (i := 1164) (by decide +kernel), List.mem_of_getElem? (i := 1165) (by decide +kernel)⟩
theorem lw_p41 : lw_okq (⟨"ScaffoldPlannerModel", "refuses", "(II)I"⟩, 23) := ⟨⟨by decide +kernel, by decide +kernel⟩, List.mem_of_getElem? (i := 977) (by decide +kernel), List.mem_of_getElem? (i := 1168) (by decide +kernel), List.mem_of_getElem? (i := 1169) (by decide +kernel)⟩
theorem lw_p42 : lw_okq (⟨"ScaffoldPlannerModel", "isThere", "(III)Z"⟩, 23) := ⟨⟨by decide +kernel, by decide +kernel⟩, List.mem_of_getElem? (i := 977) (by decide +kernel), List.mem_of_getElem? (i := 1172) (by decide +kernel), List.mem_of_getElem? (i := 1173) (by decide +kernel)⟩
theorem lw_p43 : lw_okq (⟨"ScaffoldPlannerModel", "byThings", "(IIIZ)I"⟩, 23) := ⟨⟨by decide +kernel, by decide +kernel⟩, List.mem_of_getElem? (i := 977) (by decide +kernel), List.mem_of_getElem? (i := 1179) (by decide +kernel), List.mem_of_getElem? (i := 1180) (by decide +kernel)⟩
theorem lw_p44 : lw_okq (⟨"ScaffoldPlannerModel", "hinders", "(I)I"⟩, 23) := ⟨⟨by decide +kernel, by decide +kernel⟩, List.mem_of_getElem? (i := 977) (by decide +kernel), List.mem_of_getElem? (i := 1183) (by decide +kernel), List.mem_of_getElem? (i := 1184) (by decide +kernel)⟩
theorem lw_p45 : lw_okq (⟨"ScaffoldPlannerModel", "highest", "(I)I"⟩, 23) := ⟨⟨by decide +kernel, by decide +kernel⟩, List.mem_of_getElem? (i := 977) (by decide +kernel), List.mem_of_getElem? (i := 1187) (by decide +kernel), List.mem_of_getElem? (i := 1188) (by decide +kernel)⟩
theorem lw_p46 : lw_okq (⟨"ScaffoldPlannerModel", "hasStand", "(III)Z"⟩, 23) := ⟨⟨by decide +kernel, by decide +kernel⟩, List.mem_of_getElem? (i := 977) (by decide +kernel), List.mem_of_getElem? (i := 1191) (by decide +kernel), List.mem_of_getElem? (i := 1192) (by decide +kernel)⟩
theorem lw_p47 : lw_okq (⟨"ScaffoldPlannerModel", "walks", "()V"⟩, 23) := ⟨⟨by decide +kernel, by decide +kernel⟩, List.mem_of_getElem? (i := 977) (by decide +kernel), List.mem_of_getElem? (i := 1195) (by decide +kernel), List.mem_of_getElem? (i := 1196) (by decide +kernel)⟩
def lw_privs_3 : List (MethodName × Nat) := [(⟨"ScaffoldPlannerModel", "right", "(I)I"⟩, 23), (⟨"ScaffoldPlannerModel", "loadOf", "(I)I"⟩, 23), (⟨"ScaffoldPlannerModel", "classes", "(I)I"⟩, 23), (⟨"ScaffoldPlannerModel", "deckAt", "(II)I"⟩, 23), (⟨"ScaffoldPlannerModel", "fails", "(I)I"⟩, 23), (⟨"ScaffoldPlannerModel", "changes", "([I)V"⟩, 23), (⟨"ScaffoldPlannerModel", "isPlace", "(I)Z"⟩, 23), (⟨"ScaffoldPlannerModel", "works", "(IIIZI)Z"⟩, 23), (⟨"ScaffoldPlannerModel", "against", "(IIIZI)I"⟩, 23), (⟨"ScaffoldPlannerModel", "refuses", "(II)I"⟩, 23), (⟨"ScaffoldPlannerModel", "isThere", "(III)Z"⟩, 23), (⟨"ScaffoldPlannerModel", "byThings", "(IIIZ)I"⟩, 23), (⟨"ScaffoldPlannerModel", "hinders", "(I)I"⟩, 23), (⟨"ScaffoldPlannerModel", "highest", "(I)I"⟩, 23), (⟨"ScaffoldPlannerModel", "hasStand", "(III)Z"⟩, 23), (⟨"ScaffoldPlannerModel", "walks", "()V"⟩, 23)]
theorem lw_r3 : ∀ q ∈ lw_privs_3, lw_okq q := List.forall_mem_cons.mpr ⟨lw_p32, List.forall_mem_cons.mpr ⟨lw_p33, List.forall_mem_cons.mpr ⟨lw_p34, List.forall_mem_cons.mpr ⟨lw_p35, List.forall_mem_cons.mpr ⟨lw_p36, List.forall_mem_cons.mpr ⟨lw_p37, List.forall_mem_cons.mpr ⟨lw_p38, List.forall_mem_cons.mpr ⟨lw_p39, List.forall_mem_cons.mpr ⟨lw_p40, List.forall_mem_cons.mpr ⟨lw_p41, List.forall_mem_cons.mpr ⟨lw_p42, List.forall_mem_cons.mpr ⟨lw_p43, List.forall_mem_cons.mpr ⟨lw_p44, List.forall_mem_cons.mpr ⟨lw_p45, List.forall_mem_cons.mpr ⟨lw_p46, List.forall_mem_cons.mpr ⟨lw_p47, fun _ h => absurd h List.not_mem_nil⟩⟩⟩⟩⟩⟩⟩⟩⟩⟩⟩⟩⟩⟩⟩⟩
theorem lw_p48 : lw_okq (⟨"ScaffoldPlannerModel", "comes", "(III)V"⟩, 23) := ⟨⟨by decide +kernel, by decide +kernel⟩, List.mem_of_getElem? (i := 977) (by decide +kernel), List.mem_of_getElem? (i := 1199) (by decide +kernel), List.mem_of_getElem? (i := 1200) (by decide +kernel)⟩
theorem lw_p49 : lw_okq (⟨"ScaffoldPlannerModel", "isReached", "(II)Z"⟩, 23) := ⟨⟨by decide +kernel, by decide +kernel⟩, List.mem_of_getElem? (i := 977) (by decide +kernel), List.mem_of_getElem? (i := 1203) (by decide +kernel), List.mem_of_getElem? (i := 1204) (by decide +kernel)⟩
theorem lw_p50 : lw_okq (⟨"ScaffoldPlannerModel", "byYard", "(II)I"⟩, 23) := ⟨⟨by decide +kernel, by decide +kernel⟩, List.mem_of_getElem? (i := 977) (by decide +kernel), List.mem_of_getElem? (i := 1207) (by decide +kernel), List.mem_of_getElem? (i := 1208) (by decide +kernel)⟩
theorem lw_p51 : lw_okq (⟨"ScaffoldPlannerModel", "does", "(IIIZI)V"⟩, 23) := ⟨⟨by decide +kernel, by decide +kernel⟩, List.mem_of_getElem? (i := 977) (by decide +kernel), List.mem_of_getElem? (i := 1211) (by decide +kernel), List.mem_of_getElem? (i := 1212) (by decide +kernel)⟩
theorem lw_p52 : lw_okq (⟨"ScaffoldPlannerModel", "posts", "()I"⟩, 23) := ⟨⟨by decide +kernel, by decide +kernel⟩, List.mem_of_getElem? (i := 977) (by decide +kernel), List.mem_of_getElem? (i := 1215) (by decide +kernel), List.mem_of_getElem? (i := 1216) (by decide +kernel)⟩
theorem lw_p53 : lw_okq (⟨"ScaffoldPlannerModel", "reports", "(III)V"⟩, 23) := ⟨⟨by decide +kernel, by decide +kernel⟩, List.mem_of_getElem? (i := 977) (by decide +kernel), List.mem_of_getElem? (i := 1219) (by decide +kernel), List.mem_of_getElem? (i := 1220) (by decide +kernel)⟩
theorem lw_p54 : lw_okq (⟨"ScaffoldPlannerModel", "decks", "(I)I"⟩, 23) := ⟨⟨by decide +kernel, by decide +kernel⟩, List.mem_of_getElem? (i := 977) (by decide +kernel), List.mem_of_getElem? (i := 1231) (by decide +kernel), List.mem_of_getElem? (i := 1232) (by decide +kernel)⟩
theorem lw_p55 : lw_okq (⟨"ScaffoldPlannerModel", "pieces", "(I)I"⟩, 23) := ⟨⟨by decide +kernel, by decide +kernel⟩, List.mem_of_getElem? (i := 977) (by decide +kernel), List.mem_of_getElem? (i := 1239) (by decide +kernel), List.mem_of_getElem? (i := 1240) (by decide +kernel)⟩
theorem lw_p56 : lw_okq (⟨"ScaffoldPlannerModel", "deckSet", "(IZ)I"⟩, 23) := ⟨⟨by decide +kernel, by decide +kernel⟩, List.mem_of_getElem? (i := 977) (by decide +kernel), List.mem_of_getElem? (i := 1265) (by decide +kernel), List.mem_of_getElem? (i := 1266) (by decide +kernel)⟩
theorem lw_p57 : lw_okq (⟨"ScaffoldPlannerModel", "bracedSet", "(I)I"⟩, 23) := ⟨⟨by decide +kernel, by decide +kernel⟩, List.mem_of_getElem? (i := 977) (by decide +kernel), List.mem_of_getElem? (i := 1269) (by decide +kernel), List.mem_of_getElem? (i := 1270) (by decide +kernel)⟩
theorem lw_p58 : lw_okq (⟨"ScaffoldPlannerModel", "tiesBy", "(IZ)I"⟩, 23) := ⟨⟨by decide +kernel, by decide +kernel⟩, List.mem_of_getElem? (i := 977) (by decide +kernel), List.mem_of_getElem? (i := 1277) (by decide +kernel), List.mem_of_getElem? (i := 1278) (by decide +kernel)⟩
theorem lw_p59 : lw_okq (⟨"ScaffoldPlannerModel", "leastTies", "(I)I"⟩, 23) := ⟨⟨by decide +kernel, by decide +kernel⟩, List.mem_of_getElem? (i := 977) (by decide +kernel), List.mem_of_getElem? (i := 1293) (by decide +kernel), List.mem_of_getElem? (i := 1294) (by decide +kernel)⟩
theorem lw_p60 : lw_okq (⟨"ScaffoldPlannerModel", "dismantles", "()Z"⟩, 23) := ⟨⟨by decide +kernel, by decide +kernel⟩, List.mem_of_getElem? (i := 977) (by decide +kernel), List.mem_of_getElem? (i := 1309) (by decide +kernel), List.mem_of_getElem? (i := 1310) (by decide +kernel)⟩
theorem lw_p61 : lw_okq (⟨"ScaffoldPlannerModel", "levels", "()I"⟩, 23) := ⟨⟨by decide +kernel, by decide +kernel⟩, List.mem_of_getElem? (i := 977) (by decide +kernel), List.mem_of_getElem? (i := 1313) (by decide +kernel), List.mem_of_getElem? (i := 1314) (by decide +kernel)⟩
theorem lw_p62 : lw_okq (⟨"ScaffoldPlannerModel", "takesFirst", "()Z"⟩, 23) := ⟨⟨by decide +kernel, by decide +kernel⟩, List.mem_of_getElem? (i := 977) (by decide +kernel), List.mem_of_getElem? (i := 1317) (by decide +kernel), List.mem_of_getElem? (i := 1318) (by decide +kernel)⟩
theorem lw_p63 : lw_okq (⟨"ScaffoldPlannerModel", "reached", "()I"⟩, 23) := ⟨⟨by decide +kernel, by decide +kernel⟩, List.mem_of_getElem? (i := 977) (by decide +kernel), List.mem_of_getElem? (i := 1329) (by decide +kernel), List.mem_of_getElem? (i := 1330) (by decide +kernel)⟩
def lw_privs_4 : List (MethodName × Nat) := [(⟨"ScaffoldPlannerModel", "comes", "(III)V"⟩, 23), (⟨"ScaffoldPlannerModel", "isReached", "(II)Z"⟩, 23), (⟨"ScaffoldPlannerModel", "byYard", "(II)I"⟩, 23), (⟨"ScaffoldPlannerModel", "does", "(IIIZI)V"⟩, 23), (⟨"ScaffoldPlannerModel", "posts", "()I"⟩, 23), (⟨"ScaffoldPlannerModel", "reports", "(III)V"⟩, 23), (⟨"ScaffoldPlannerModel", "decks", "(I)I"⟩, 23), (⟨"ScaffoldPlannerModel", "pieces", "(I)I"⟩, 23), (⟨"ScaffoldPlannerModel", "deckSet", "(IZ)I"⟩, 23), (⟨"ScaffoldPlannerModel", "bracedSet", "(I)I"⟩, 23), (⟨"ScaffoldPlannerModel", "tiesBy", "(IZ)I"⟩, 23), (⟨"ScaffoldPlannerModel", "leastTies", "(I)I"⟩, 23), (⟨"ScaffoldPlannerModel", "dismantles", "()Z"⟩, 23), (⟨"ScaffoldPlannerModel", "levels", "()I"⟩, 23), (⟨"ScaffoldPlannerModel", "takesFirst", "()Z"⟩, 23), (⟨"ScaffoldPlannerModel", "reached", "()I"⟩, 23)]
theorem lw_r4 : ∀ q ∈ lw_privs_4, lw_okq q := List.forall_mem_cons.mpr ⟨lw_p48, List.forall_mem_cons.mpr ⟨lw_p49, List.forall_mem_cons.mpr ⟨lw_p50, List.forall_mem_cons.mpr ⟨lw_p51, List.forall_mem_cons.mpr ⟨lw_p52, List.forall_mem_cons.mpr ⟨lw_p53, List.forall_mem_cons.mpr ⟨lw_p54, List.forall_mem_cons.mpr ⟨lw_p55, List.forall_mem_cons.mpr ⟨lw_p56, List.forall_mem_cons.mpr ⟨lw_p57, List.forall_mem_cons.mpr ⟨lw_p58, List.forall_mem_cons.mpr ⟨lw_p59, List.forall_mem_cons.mpr ⟨lw_p60, List.forall_mem_cons.mpr ⟨lw_p61, List.forall_mem_cons.mpr ⟨lw_p62, List.forall_mem_cons.mpr ⟨lw_p63, fun _ h => absurd h List.not_mem_nil⟩⟩⟩⟩⟩⟩⟩⟩⟩⟩⟩⟩⟩⟩⟩⟩
theorem lw_p64 : lw_okq (⟨"ScaffoldPlannerModel", "isText", "()Z"⟩, 23) := ⟨⟨by decide +kernel, by decide +kernel⟩, List.mem_of_getElem? (i := 977) (by decide +kernel), List.mem_of_getElem? (i := 1349) (by decide +kernel), List.mem_of_getElem? (i := 1350) (by decide +kernel)⟩
theorem lw_p65 : lw_okq (⟨"ScaffoldPlannerModel", "command", "()Z"⟩, 23) := ⟨⟨by decide +kernel, by decide +kernel⟩, List.mem_of_getElem? (i := 977) (by decide +kernel), List.mem_of_getElem? (i := 1353) (by decide +kernel), List.mem_of_getElem? (i := 1354) (by decide +kernel)⟩
theorem lw_p66 : lw_okq (⟨"ScaffoldPlannerModel", "skips", "(I)Z"⟩, 23) := ⟨⟨by decide +kernel, by decide +kernel⟩, List.mem_of_getElem? (i := 977) (by decide +kernel), List.mem_of_getElem? (i := 1357) (by decide +kernel), List.mem_of_getElem? (i := 1358) (by decide +kernel)⟩
theorem lw_p67 : lw_okq (⟨"ScaffoldPlannerModel", "here", "()I"⟩, 23) := ⟨⟨by decide +kernel, by decide +kernel⟩, List.mem_of_getElem? (i := 977) (by decide +kernel), List.mem_of_getElem? (i := 1361) (by decide +kernel), List.mem_of_getElem? (i := 1362) (by decide +kernel)⟩
theorem lw_p68 : lw_okq (⟨"ScaffoldPlannerModel", "digit", "(I)Z"⟩, 23) := ⟨⟨by decide +kernel, by decide +kernel⟩, List.mem_of_getElem? (i := 977) (by decide +kernel), List.mem_of_getElem? (i := 1365) (by decide +kernel), List.mem_of_getElem? (i := 1366) (by decide +kernel)⟩
def lw_privs_5 : List (MethodName × Nat) := [(⟨"ScaffoldPlannerModel", "isText", "()Z"⟩, 23), (⟨"ScaffoldPlannerModel", "command", "()Z"⟩, 23), (⟨"ScaffoldPlannerModel", "skips", "(I)Z"⟩, 23), (⟨"ScaffoldPlannerModel", "here", "()I"⟩, 23), (⟨"ScaffoldPlannerModel", "digit", "(I)Z"⟩, 23)]
theorem lw_r5 : ∀ q ∈ lw_privs_5, lw_okq q := List.forall_mem_cons.mpr ⟨lw_p64, List.forall_mem_cons.mpr ⟨lw_p65, List.forall_mem_cons.mpr ⟨lw_p66, List.forall_mem_cons.mpr ⟨lw_p67, List.forall_mem_cons.mpr ⟨lw_p68, fun _ h => absurd h List.not_mem_nil⟩⟩⟩⟩⟩
def lw_privs : List (MethodName × Nat) := lw_privs_1 ++ (lw_privs_2 ++ (lw_privs_3 ++ (lw_privs_4 ++ (lw_privs_5))))
def lw_tbl : List Cond := k2_sels lw_privs ++ tables_1
theorem lw_privs_ok : ∀ q ∈ lw_privs, lw_okq q := by
  show ∀ q ∈ lw_privs_1 ++ (lw_privs_2 ++ (lw_privs_3 ++ (lw_privs_4 ++ (lw_privs_5)))), lw_okq q
  exact List.forall_mem_append.mpr ⟨lw_r1, List.forall_mem_append.mpr ⟨lw_r2, List.forall_mem_append.mpr ⟨lw_r3, List.forall_mem_append.mpr ⟨lw_r4, lw_r5⟩⟩⟩⟩
/-- the streams that the claim lets the run draw from -/
abbrev lw_cs : List Choice := [Jvm.Choice.named "NaN.bits"]
theorem lw_bits : nanBits ∈ lw_cs := by first | decide | exact List.mem_cons_self | simp [lw_cs, nanBits]
-- ===== end of PART A; then your names; then what follows =====
/-! THE CLAIM OUT OF ONE WALK OF THE LAW'S BODY. Your part is whole_start (and what it stands on); all else here is the same for every law, but numbers. -/
def R_law : String := "ScaffoldPlannerLaw"
def lw_P (b : Addr) (xs : List Int32) (args : Array Value) (s : State) : Prop := args = #[.ref b] ∧ s.IntsAt b xs ∧ xs.length ≤ 2560 ∧ (Jvm.Cond.and given_1 narrow_1).before args s = true
/-- what a walk over the start with the record d0 says of its end, said of the start itself -/
theorem lw_closed {s t : State} {o : Outcome} {d0 : Drawn} {L : List Loc} {k n : Nat} (hd0 : s.drawn.sameBut d0 lw_cs) (hv : ∃ v, o = .returned v) (hW : (s.setDrawn d0).WarmedH t.vm) (hs : (s.setDrawn d0).sameButNew ({ t with vm := s.vm } : State) L k n) : State.butDraws s t lw_cs (fun t1 => Framed s o t1 L k n) := by
  have h2 : t.drawn = d0 := congrArg State.drawn hs.1
  refine ⟨⟨hv, hW, State.sameButNew.setDrawn hs s.drawn⟩, ?_, by decide⟩
  rw [h2]
  exact hd0
def lw_Q (_ : Array Value) (s : State) (o : Outcome) (t : State) : Prop := o = .returned (some (.int 1)) ∧ State.butDraws s t lw_cs (fun t1 => Framed s o t1 [] 603072 7178346)
def lw_Z (below : List Frame) (a : Array Value) (s : State) : State → Prop := fun t => ∃ o, t.status = .running ∧ Ended t below o ∧ lw_Q a s o t
/-- the law's own end, with 1 on the stack, nothing written that was there before, its room as the claim has it; d0: the record of draws at this point (at the entry s.drawn: begin with 'refine W.base ?_' and 'have hd0 := Drawn.sameBut.refl s.drawn lw_cs') -/
theorem lw_ret {p : Program} {l : Launch} {e : Env} {s : State} {m : MethodId} {below : List Frame} {meth : Method} {c : Code} {b : Nat} {d0 : Drawn} (hd0 : s.drawn.sameBut d0 lw_cs) (hx : p.tables.exec = Jvm.exec) (hb : c.code = code) (hr : meth.sig.returnType = ret) (hlocks : meth.locks = false) {pc : Nat} {H : Heap} {ls : Array Slot} (hdg : decode code pc = .ok (.ireturn, 1)) : W p l e room_1 (s.setDrawn d0) m #[Value.ref b] below meth c H [] 603072 7178346 (lw_Z below #[Value.ref b] s) (F0 m pc ls [.int 1]) := by
  intro T hT X
  obtain ⟨fs, hret, hrun, hended, hW, hframe⟩ := X.leave (v := some (.int 1)) (hlocks := hlocks) (fun h => by rw [hr] at h; cases h)
  have hmeth' : T.vm.method? m = some meth := X.method'
  refine ⟨T.setFrames fs, ?_, .returned (some (.int 1)), hrun, hended, rfl, lw_closed hd0 ⟨_, rfl⟩ hW hframe⟩
  jvm_step X.here [X.here.top, hx, hb, hdg, hmeth', hr, ret, narrow_b1]
  (try refine ⟨rfl, ?_⟩); (try refine ⟨rfl, ?_⟩)
  first | (intro acts; rw [hret _ acts rfl rfl rfl]) | rw [hret _ _ rfl rfl rfl]
  exact Steps.refl _
/-- what holds at the law's entry: the machine, the code, the tables' words (any of lw_tbl by 'hts w (by decide +kernel)'), the script of L ints xs at the cell b, what the Statement gives of the start (any of its parts by flat_of_before) -/
def lw_At (p : Program) (s : State) (m : MethodId) (meth : Method) (c : Code) (b L : Nat) (xs : Nat → Int32) : Prop :=
  p.tables.exec = Jvm.exec ∧ c.code = code ∧ meth.sig.returnType = ret ∧ c.maxLocals = 9 ∧ s.vm.findClass R_law = some m.cls ∧ (∀ w ∈ lw_tbl, w.before #[Value.ref b] s = true) ∧ va_X b L xs s s.heap ∧ b < s.heap.size ∧ meth.locks = false ∧ (Jvm.Cond.and given_1 narrow_1).before #[Value.ref b] s = true
end
section
/-! ===== BEGIN words of one list among another's, by their places ===== -/
theorem goodIn_r {big : List Cond} (ws : List Cond) (ps : List Nat) (hp : ws = ps.filterMap (fun i => big[i]?)) (h : ws.all goodWord = true) : GoodIn big ws := by
  intro w hw
  have h1 := List.all_eq_true.mp h w hw
  rw [hp] at hw
  obtain ⟨i, -, hi⟩ := List.mem_filterMap.mp hw
  have hm : w ∈ big := by first | exact List.mem_of_getElem? hi | exact List.getElem?_mem hi
  exact ⟨hm, good_of_word h1⟩
theorem goodIn_app {big a b : List Cond} (ha : GoodIn big a) (hb : GoodIn big b) : GoodIn big (a ++ b) := fun w h => (List.mem_append.mp h).elim (ha w) (hb w)
theorem goodIn_ca {big a b : List Cond} {c : Cond} (ha : GoodIn big (c :: a)) (hb : GoodIn big b) : GoodIn big (c :: (a ++ b)) := fun w h => (List.mem_cons.mp h).elim (fun e => ha w (List.mem_cons.mpr (Or.inl e))) (fun h => (List.mem_append.mp h).elim (fun h => ha w (List.mem_cons.mpr (Or.inr h))) (hb w))
theorem goodIn_sub {big ws : List Cond} (hm : ∀ w ∈ ws, w ∈ big) (h : ws.all goodWord = true) : GoodIn big ws := fun w hw => ⟨hm w hw, good_of_word (List.all_eq_true.mp h w hw)⟩
/-! ===== END ===== -/

/-! ===== BEGIN exceptions that leave a method, and their catching by the caller (launches without stack traces) ===== -/
section VXA
/-! The laws vx_back, vx_callV, vx_callS, vx_callSW, vx_throw0, vx_throwS follow proofs of the library, with one case more: JvmDerived/Free/Laws.lean (Back.of_free), Shelf42/LK1.lean (callV, callS), Shelf/KitTraced.lean (throwNew0V, throwNewS). -/
/-- where a method has thrown q: the class by its name, the cell, what was written, the world -/
def vx_T (XC : String → State → State → Prop) (st : State) (q : Addr) (t : State) (mc ms : Nat) (free : Addr → Prop) : Prop :=
  ∃ (E : String) (ce : Cell) (L : List Loc), XC E st t ∧ t.heap[q]? = some ce ∧ ce.vm = .none ∧ st.vm.findClass E = some ce.cls ∧ st.WarmedH t.vm ∧ st.sameButNew ({ t with vm := st.vm } : State) L mc ms ∧ ∀ z ∈ L, free z.base
def vx_Q (Qc : Array Value → State → Outcome → State → Prop) (XC : String → State → State → Prop) (mc ms : Nat) (free : Addr → Prop) : Array Value → State → Outcome → State → Prop := fun a st o t =>
  (Qc a st o t ∧ ∃ L, FrameEnd st o t L mc ms ∧ ∀ q ∈ L, free q.base) ∨ ∃ q, o = .threw q ∧ vx_T XC st q t mc ms free
/-- a callee that returns or throws -/
def vx_Met (l : Launch) (y : MethodName) (ws : List Cond) (rm : Room) (Pc : Array Value → State → Prop) (Qc : Array Value → State → Outcome → State → Prop) (XC : String → State → State → Prop) (mc ms : Nat) (free : Addr → Prop) : Prop :=
  MetFree l y (headSpec ws rm) Pc (fun _ _ _ _ _ => True) (vx_Q Qc XC mc ms free)
def vx_Post (XC : String → State → State → Prop) (mc ms : Nat) (free : Addr → Prop) : Pt → Array Value → Addr → Pt → Prop := fun A a q B =>
  ∃ (g : JFrame) (mk : MethodId) (t : State) (L : List Loc) (E : String) (ce : Cell), B.U.heap = t.heap ∧ B.U.vm = t.vm ∧ XC E (A.U.calling g mk a) t ∧ t.heap[q]? = some ce ∧ ce.vm = .none ∧ A.U.vm.findClass E = some ce.cls ∧ B.locs = A.locs ++ L ∧ (∀ z ∈ L, free z.base) ∧ B.cells = A.cells + mc ∧ B.slots = A.slots + ms
def vx_Back (l : Launch) (R : Room) (p : Program) (e : Env) (below : List Frame) (s : State) (sargs : Array Value) (y : MethodName) (len W9 : Nat)
    (Pre : Pt → Array Value → Prop) (Post : Pt → Array Value → Option Value → Pt → Prop) (PostX : Pt → Array Value → Addr → Pt → Prop) : Prop :=
  ∀ (m : MethodId) (meth : Method) (c : Code) (A : Pt) (g : JFrame) (ig : Instr) (mk : MethodId) (a : Array Value),
    Stand p l e R s m sargs below meth c A.U A.locs A.cells A.slots → g.method = m → g.locals.size = c.maxLocals → decode c.code g.pc = .ok (ig, len) →
    2 * g.monitorRoom + (g.stack.map fun v => v.category).sum ≤ W9 → A.U.methodNamed? y = some mk → Pre A a →
    (∃ (v : Option Value) (B : Pt), Stand p l e R s m sargs below meth c B.U B.locs B.cells B.slots ∧ Post A a v B ∧
      Steps p.tables e below (doInvoke e (A.U.setTop g) [] mk a).1 (B.U.setTop { g with pc := g.pc + len, stack := v.toList ++ g.stack })) ∨
    (∃ (q : Addr) (B : Pt), Stand p l e R s m sargs below meth c B.U B.locs B.cells B.slots ∧ PostX A a q B ∧
      Steps p.tables e below (doInvoke e (A.U.setTop g) [] mk a).1 ((B.U.setTop g).pushFrame (.throwing q)))
section Payer
variable {l : Launch} {R : Room} {p : Program} {e : Env} {below : List Frame} {s : State} {sargs : Array Value} {y : MethodName} {len W9 : Nat}
theorem vx_back {ws : List Cond} {rm : Room} {Pc : Array Value → State → Prop} {Qc : Array Value → State → Outcome → State → Prop} {XC : String → State → State → Prop} {mc ms : Nat} {free : Addr → Prop} {bytes : ByteArray} {maxL : Nat} {ret : Option FieldType}
    (hM : vx_Met l y ws rm Pc Qc XC mc ms free) (hblind : FrameBlind Pc) (hrc : rm.cells = mc) (hrs : rm.slots = ms)
    (hframes : rm.frames + 1 ≤ R.frames) (hlocals : W9 + (maxL + 11) + rm.locals ≤ R.locals)
    (hws : ∀ w ∈ ws, ∀ a' U, s.WarmedH U.vm → w.before a' U = true) (hcode : Cond.code y bytes maxL ret ∈ ws) (hinit : ∀ a' U, s.WarmedH U.vm → (Cond.initialized y.cls).before a' U = true) :
    vx_Back l R p e below s sargs y len W9 (PreOf R mc ms Pc) (PostOf Qc mc ms free) (vx_Post XC mc ms free) := by
  intro m meth c A g ig mk a X hg hsize hdg hW hn hp
  have h1 : (headSpec ws rm).pre.before a A.U = true := atoms_intro fun w hw => hws w hw _ _ X.warmed
  have h2 : (Cond.code y bytes maxL ret).before a A.U = true := hws _ hcode _ _ X.warmed
  have h3 : (Cond.initialized y.cls).before a A.U = true := hinit _ _ X.warmed
  have h4 : A.cells + (headSpec ws rm).room.cells ≤ R.cells := by rw [show (headSpec ws rm).room.cells = mc from hrc]; exact hp.1
  have h5 : A.slots + (headSpec ws rm).room.slots ≤ R.slots := by rw [show (headSpec ws rm).room.slots = ms from hrs]; exact hp.2.1
  have hPc : Pc a (A.U.calling g mk a) := hblind _ _ _ _ hp.2.2
  obtain ⟨U, Ls, c0, s0⟩ := A
  dsimp only [Pt.U, Pt.locs, Pt.cells, Pt.slots] at h1 h2 h3 h4 h5 X hn hPc ⊢
  obtain ⟨methY, cY, hmY, hcY, -, hlY, -, -, -, -⟩ := Cond.code_spec hn h2
  obtain ⟨kY, hkY, -⟩ := className_of_methodNamed hn
  have hinitY : kY.init = .initialized := Cond.initialized_spec (findClass_of_methodNamed hn) hkY h3
  have h : At U g.method c below := by rw [hg]; exact X.here
  have hlocals9 : W9 + (maxL + 11) + (headSpec ws rm).room.locals ≤ R.locals := hlocals
  have happ : (headSpec ws rm).appliesLoose y e.platform (U.calling g mk a) = true :=
    Spec.appliesLoose_calling (g := g) h hdg hn hkY hinitY
      (X.room_calling (g := g) (R' := (headSpec ws rm).room) hsize hmY hcY hframes (by rw [hlY]; omega) h4 h5) h1
  obtain ⟨mid, hmid⟩ := h.above
  have hfr : (U.setTop g).frames = (.java g :: mid) ++ below := by rw [State.frames_setTop' g h.top, hmid]; rfl
  obtain ⟨o, s₂, hsteps, -, hend, hq⟩ := Steps.callFree hM p X.admits X.cas X.clock (acts := []) hfr happ hPc trivial
  have hq' : vx_Q Qc XC mc ms free a (U.calling g mk a) o s₂ := hq
  rw [State.frames_setTop' g h.top] at hend
  obtain ⟨g₀, hg0⟩ := Option.isSome_iff_exists.mp h.top
  obtain ⟨r, hr⟩ := State.topJava?_eq_some.mp hg0
  have hr' : (({ U with heap := s₂.heap, slotsUsed := s₂.slotsUsed } : State).setVm s₂.vm).frames = .java g₀ :: r := hr
  rcases hq' with ⟨hqc, L, hfe, hL⟩ | ⟨q, rfl, E, ce, L, hx, hce, hcv, hcl, hW₂, hsm, hL⟩
  · obtain ⟨⟨v, rfl⟩, hW₂, e2, q2, q3, q4, q5, q6⟩ := id hfe
    have e3 : s₂ = ({ (U.calling g mk a).setFrames s₂.frames with heap := s₂.heap, slotsUsed := s₂.slotsUsed } : State).setVm s₂.vm := by
      have : s₂ = ({ s₂ with vm := (U.calling g mk a).vm } : State).setVm s₂.vm := rfl
      rw [e2] at this
      exact this
    obtain ⟨c₂, i₂, len₂, hc₂, hd₂, hf₂⟩ := hend
    have hW' : U.WarmedH s₂.vm := hW₂
    have hcc : c₂ = c := by
      have h1 : s₂.code? g.method = U.code? g.method := by
        rw [State.code?_eq, State.code?_eq, hW'.alike.method?]
      exact Option.some.inj (hc₂.symm.trans (h1.trans h.code))
    subst hcc
    have hlen : len₂ = len := by rw [hdg] at hd₂; cases hd₂; rfl
    subst hlen
    have hs₂ : s₂ = (({ U with heap := s₂.heap, slotsUsed := s₂.slotsUsed } : State).setVm s₂.vm).setTop { g with pc := g.pc + len₂, stack := v.toList ++ g.stack } := by
      refine e3.trans ?_
      rw [hf₂, State.calling_eq h.top, State.setFrames_setFrames, State.setTop_of_frames _ hr', hr]
      rfl
    have hsame : U.sameButNew ({ U with heap := s₂.heap, slotsUsed := s₂.slotsUsed } : State) L mc ms := by
      refine ⟨?_, q2, q3, q4, q5, q6⟩
      obtain ⟨t, ht, -⟩ := State.frames_cons hr
      show ({ U with heap := s₂.heap, slotsUsed := s₂.slotsUsed } : State) = { U.setFrames U.frames with heap := s₂.heap, slotsUsed := s₂.slotsUsed }
      rw [State.setFrames_self ht]
    subst hg
    refine Or.inl ⟨v, ⟨(({ U with heap := s₂.heap, slotsUsed := s₂.slotsUsed } : State).setVm s₂.vm), Ls ++ L, c0 + mc, s0 + ms⟩,
      ⟨X.admits, X.cas, X.clock, X.frames, X.room, X.hears, X.method, X.code, (X.here.setHeapUsed s₂.heap s₂.slotsUsed).setVm hW'.alike, X.tail, State.WarmedH.trans X.warmed hW', X.limits, X.bytes, X.same.trans (hsame.setVm s.vm)⟩,
      ⟨g, mk, s₂, L, rfl, rfl, hqc, rfl, hL, rfl, rfl⟩, ?_⟩
    show Steps p.tables e below _ ((({ U with heap := s₂.heap, slotsUsed := s₂.slotsUsed } : State).setVm s₂.vm).setTop { g with pc := g.pc + len₂, stack := v.toList ++ g.stack })
    rw [← hs₂]
    exact hsteps
  · obtain ⟨e2, q2, q3, q4, q5, q6⟩ := id hsm
    have e3 : s₂ = ({ (U.calling g mk a).setFrames s₂.frames with heap := s₂.heap, slotsUsed := s₂.slotsUsed } : State).setVm s₂.vm := by
      have : s₂ = ({ s₂ with vm := (U.calling g mk a).vm } : State).setVm s₂.vm := rfl
      rw [e2] at this
      exact this
    have hf₂ : s₂.frames = .throwing q :: .java g :: U.frames.tail := hend
    have hW' : U.WarmedH s₂.vm := hW₂
    have hs₂ : s₂ = ((({ U with heap := s₂.heap, slotsUsed := s₂.slotsUsed } : State).setVm s₂.vm).setTop g).pushFrame (.throwing q) := by
      refine e3.trans ?_
      rw [hf₂, State.calling_eq h.top, State.setFrames_setFrames, State.pushFrame, State.frames_setTop _ hr', State.setTop_of_frames _ hr', State.setFrames_setFrames, hr]
      rfl
    have hsame : U.sameButNew ({ U with heap := s₂.heap, slotsUsed := s₂.slotsUsed } : State) L mc ms := by
      refine ⟨?_, q2, q3, q4, q5, q6⟩
      obtain ⟨t, ht, -⟩ := State.frames_cons hr
      show ({ U with heap := s₂.heap, slotsUsed := s₂.slotsUsed } : State) = { U.setFrames U.frames with heap := s₂.heap, slotsUsed := s₂.slotsUsed }
      rw [State.setFrames_self ht]
    subst hg
    refine Or.inr ⟨q, ⟨(({ U with heap := s₂.heap, slotsUsed := s₂.slotsUsed } : State).setVm s₂.vm), Ls ++ L, c0 + mc, s0 + ms⟩,
      ⟨X.admits, X.cas, X.clock, X.frames, X.room, X.hears, X.method, X.code, (X.here.setHeapUsed s₂.heap s₂.slotsUsed).setVm hW'.alike, X.tail, State.WarmedH.trans X.warmed hW', X.limits, X.bytes, X.same.trans (hsame.setVm s.vm)⟩,
      ⟨g, mk, s₂, L, E, ce, rfl, rfl, hx, hce, hcv, hcl, rfl, hL, rfl, rfl⟩, ?_⟩
    show Steps p.tables e below _ (((({ U with heap := s₂.heap, slotsUsed := s₂.slotsUsed } : State).setVm s₂.vm).setTop g).pushFrame (.throwing q))
    rw [← hs₂]
    exact hsteps
end Payer
section Calls
variable {p : Program} {l : Launch} {e : Env} {R : Room} {s : State} {m : MethodId} {args : Array Value} {below : List Frame} {meth : Method} {c : Code} {T : State} {locs : List Loc} {cells slots : Nat}
theorem vx_callV (X : Stand p l e R s m args below meth c T locs cells slots) (hexec : p.tables.exec = Jvm.exec) {own C : String} {index : Nat} {y : MethodName} {bytes : ByteArray} {maxL : Nat} {ret : Option FieldType}
    (hown : s.vm.findClass own = some m.cls) (hlink : (Cond.methodLink own index y).before args s = true) (hinst : (Cond.instanceMethod y).before args s = true) (hsel : (Cond.selects C y y).before args s = true)
    (hcode : (Cond.code y bytes maxL ret).before args s = true) (hy : y.cls ≠ "java/lang/invoke/MethodHandle" ∧ y.cls ≠ "java/lang/invoke/VarHandle")
    {W9 : Nat} {Pre : Pt → Array Value → Prop} {Post : Pt → Array Value → Option Value → Pt → Prop} {PostX : Pt → Array Value → Addr → Pt → Prop} (hK : vx_Back l R p e below s args y 3 W9 Pre Post PostX)
    {b : Addr} {cellB : Cell} (hcell : T.heap[b]? = some cellB) (hobj : cellB.vm.isStatics = false) (hcls : s.vm.findClass C = some cellB.cls)
    {g : JFrame} (hg : g.method = m) (hsize : g.locals.size = c.maxLocals) {argsL rest : List Value} (hlen : ∀ sig, parseMethodDescriptor y.desc = some sig → argsL.length = sig.parameters.length)
    (hstack : g.stack = argsL.reverse ++ .ref b :: rest) (hW : 2 * g.monitorRoom + (rest.map fun v => v.category).sum ≤ W9) (hdg : decode c.code g.pc = .ok (.invokevirtual index, 3))
    (hpre : ∀ vm₁, s.WarmedH vm₁ → Pre ⟨T.setVm vm₁, locs, cells, slots⟩ (Value.ref b :: argsL).toArray) :
    (∃ (v : Option Value) (vm₁ : Vm) (B : Pt), s.WarmedH vm₁ ∧ Stand p l e R s m args below meth c B.U B.locs B.cells B.slots ∧ Post ⟨T.setVm vm₁, locs, cells, slots⟩ (Value.ref b :: argsL).toArray v B ∧
      ∀ target, Steps p.tables e below (B.U.setTop { g with pc := g.pc + 3, stack := v.toList ++ rest }) target → Steps p.tables e below (T.setTop g) target) ∨
    (∃ (q : Addr) (vm₁ : Vm) (B : Pt), s.WarmedH vm₁ ∧ Stand p l e R s m args below meth c B.U B.locs B.cells B.slots ∧ PostX ⟨T.setVm vm₁, locs, cells, slots⟩ (Value.ref b :: argsL).toArray q B ∧
      Steps p.tables e below (T.setTop g) ((B.U.setTop { g with stack := rest }).pushFrame (.throwing q))) := by
  obtain ⟨mk, methM, hnamed, hmethM, hstM, habM⟩ := Cond.instanceMethod_spec hinst
  obtain ⟨methM', cM, hmethM', -, -, -, -, -, -, hsigM⟩ := Cond.code_spec hnamed hcode
  cases hmethM.symm.trans hmethM'
  obtain ⟨c2, r2, m2, q1, q2, q3, q4, kP, hkP, hkPi⟩ := Cond.selects_spec hsel
  cases hcls.symm.trans q1
  cases (State.methodFound?_of_named hnamed hy).symm.trans q2
  cases hnamed.symm.trans q3
  have hselP : selectMethod e.platform s.vm cellB.cls mk = .method mk := by rw [Launch.admits_selectMethod X.admits]; exact q4
  obtain ⟨vm₁, X₁, hstep₁⟩ := X.invokevirtual hexec hown hlink hnamed hmethM hstM hkP hkPi hy (a := b) (cell := cellB) hcell
    (fun z h => by rw [h] at hobj; cases hobj) hselP hmethM habM hkP hkPi (g := g) hg (argsL := argsL) (rest := rest) (hlen _ hsigM) hstack hdg
  rcases hK m meth c ⟨T.setVm vm₁, locs, cells, slots⟩ { g with stack := rest } (.invokevirtual index) mk (Value.ref b :: argsL).toArray X₁ hg hsize hdg hW (X₁.named hnamed) (hpre vm₁ X₁.warmed) with ⟨v, B, X', hpost, hsteps⟩ | ⟨q, B, X', hpost, hsteps⟩
  · exact Or.inl ⟨v, vm₁, B, X₁.warmed, X', hpost, fun target h => hstep₁ _ fun acts => by rw [doInvoke_state]; exact hsteps.trans h⟩
  · exact Or.inr ⟨q, vm₁, B, X₁.warmed, X', hpost, hstep₁ _ fun acts => by rw [doInvoke_state]; exact hsteps⟩
theorem vx_callS (X : Stand p l e R s m args below meth c T locs cells slots) (hexec : p.tables.exec = Jvm.exec) {own : String} {index : Nat} {y : MethodName} {bytes : ByteArray} {maxL : Nat} {ret : Option FieldType}
    (hown : s.vm.findClass own = some m.cls) (hlink : (Cond.methodLink own index y).before args s = true) (hstat : (Cond.static y).before args s = true) (hinit : (Cond.initialized y.cls).before args s = true)
    (hcode : (Cond.code y bytes maxL ret).before args s = true) (hy : y.cls ≠ "java/lang/invoke/MethodHandle" ∧ y.cls ≠ "java/lang/invoke/VarHandle")
    {W9 : Nat} {Pre : Pt → Array Value → Prop} {Post : Pt → Array Value → Option Value → Pt → Prop} {PostX : Pt → Array Value → Addr → Pt → Prop} (hK : vx_Back l R p e below s args y 3 W9 Pre Post PostX)
    {g : JFrame} (hg : g.method = m) (hsize : g.locals.size = c.maxLocals) {argsL rest : List Value} (hlen : ∀ sig, parseMethodDescriptor y.desc = some sig → argsL.length = sig.parameters.length)
    (hstack : g.stack = argsL.reverse ++ rest) (hW : 2 * g.monitorRoom + (rest.map fun v => v.category).sum ≤ W9) (hdg : decode c.code g.pc = .ok (.invokestatic index, 3))
    (hpre : ∀ vm₁, s.WarmedH vm₁ → Pre ⟨T.setVm vm₁, locs, cells, slots⟩ argsL.toArray) :
    (∃ (v : Option Value) (vm₁ : Vm) (B : Pt), s.WarmedH vm₁ ∧ Stand p l e R s m args below meth c B.U B.locs B.cells B.slots ∧ Post ⟨T.setVm vm₁, locs, cells, slots⟩ argsL.toArray v B ∧
      ∀ target, Steps p.tables e below (B.U.setTop { g with pc := g.pc + 3, stack := v.toList ++ rest }) target → Steps p.tables e below (T.setTop g) target) ∨
    (∃ (q : Addr) (vm₁ : Vm) (B : Pt), s.WarmedH vm₁ ∧ Stand p l e R s m args below meth c B.U B.locs B.cells B.slots ∧ PostX ⟨T.setVm vm₁, locs, cells, slots⟩ argsL.toArray q B ∧
      Steps p.tables e below (T.setTop g) ((B.U.setTop { g with stack := rest }).pushFrame (.throwing q))) := by
  obtain ⟨mk, hnamed⟩ := Cond.code_named hcode
  obtain ⟨methM, cM, hmethM, -, -, -, -, -, -, hsigM⟩ := Cond.code_spec hnamed hcode
  have hstatic : methM.isStatic = true := Cond.static_spec hnamed hmethM hstat
  obtain ⟨kP, hkP, -⟩ := className_of_methodNamed hnamed
  have hinitP : kP.init = .initialized := Cond.initialized_spec (findClass_of_methodNamed hnamed) hkP hinit
  obtain ⟨vm₁, X₁, hstep₁⟩ := X.invokestatic hexec hown hlink hnamed hmethM hstatic hkP hinitP hy (g := g) hg (argsL := argsL) (rest := rest) (hlen _ hsigM) hstack hdg
  rcases hK m meth c ⟨T.setVm vm₁, locs, cells, slots⟩ { g with stack := rest } (.invokestatic index) mk argsL.toArray X₁ hg hsize hdg hW (X₁.named hnamed) (hpre vm₁ X₁.warmed) with ⟨v, B, X', hpost, hsteps⟩ | ⟨q, B, X', hpost, hsteps⟩
  · exact Or.inl ⟨v, vm₁, B, X₁.warmed, X', hpost, fun target h => hstep₁ _ fun acts => by rw [doInvoke_state]; exact hsteps.trans h⟩
  · exact Or.inr ⟨q, vm₁, B, X₁.warmed, X', hpost, hstep₁ _ fun acts => by rw [doInvoke_state]; exact hsteps⟩
end Calls
theorem vx_cls {s : State} {T : State} {vm₁ : Vm} {E : String} {k : ClassId} (hW : s.WarmedH vm₁) (h : (T.setVm vm₁).vm.findClass E = some k) : s.vm.findClass E = some k := by
  have h1 : vm₁.findClass E = some k := h
  rw [hW.alike.findClass] at h1
  exact h1
/-- the method's frame g, with q thrown over it -/
def vx_W (p : Program) (l : Launch) (e : Env) (R : Room) (s : State) (m : MethodId) (args : Array Value) (below : List Frame) (meth : Method) (c : Code) (H : Heap) (locs : List Loc) (cells slots : Nat) (Q : State → Prop) (g : JFrame) (q : Addr) : Prop :=
  ∀ T : State, T.heap = H → Stand p l e R s m args below meth c T locs cells slots → ∃ t, Steps p.tables e below ((T.setTop g).pushFrame (.throwing q)) t ∧ Q t
def vx_Run (p : Program) (l : Launch) (e : Env) (R : Room) (s : State) (m : MethodId) (args : Array Value) (below : List Frame) (meth : Method) (c : Code) (H : Heap) (locs : List Loc) (cells slots mc ms : Nat) (g : JFrame) (rest : List Value) (Qa : State → Outcome → State → Prop) (XC : String → State → State → Prop) (free : Addr → Prop) : Prop :=
  ∀ T : State, T.heap = H → Stand p l e R s m args below meth c T locs cells slots →
    (∃ (v : Option Value) (st₀ t T' : State) (L : List Loc), st₀.heap = H ∧ Stand p l e R s m args below meth c T' (locs ++ L) (cells + mc) (slots + ms) ∧ (∀ q ∈ L, free q.base) ∧ T'.heap = t.heap ∧ T'.vm = t.vm ∧ Qa st₀ (.returned v) t ∧
      Goes p e below T g T' { g with pc := g.pc + 3, stack := v.toList ++ rest }) ∨
    (∃ (q : Addr) (st₀ t T' : State) (L : List Loc) (E : String) (ce : Cell), st₀.heap = H ∧ Stand p l e R s m args below meth c T' (locs ++ L) (cells + mc) (slots + ms) ∧ (∀ z ∈ L, free z.base) ∧ T'.heap = t.heap ∧ T'.vm = t.vm ∧ XC E st₀ t ∧ t.heap[q]? = some ce ∧ ce.vm = .none ∧ s.vm.findClass E = some ce.cls ∧
      Steps p.tables e below (T.setTop g) ((T'.setTop { g with stack := rest }).pushFrame (.throwing q)))
def vx_X {S : Type} (px : S → Prop) (B : String → S → State → Prop) (A : Nat → Prop) : String → State → State → Prop := fun E st t => ∃ u : S, px u ∧ B E u t ∧ va_F A st t
section Runs
variable {p : Program} {l : Launch} {e : Env} {R : Room} {s : State} {m : MethodId} {args : Array Value} {below : List Frame} {meth : Method} {c : Code} {H : Heap} {locs : List Loc} {cells slots : Nat}
variable {y : MethodName} {bytes cc : ByteArray} {maxL nL mc ms n index : Nat} {ret : Option FieldType} {ws : List Cond} {rm : Room} {Pc : Array Value → State → Prop} {Qc : Array Value → State → Outcome → State → Prop} {XC : String → State → State → Prop} {free : Addr → Prop} {Ts : List Cond} {own C : String} {b : Addr} {As rest : List Value} {g : JFrame}
theorem vx_callBack (cb : CallB R s args own index y bytes maxL ret ws rm mc ms n) (hM : vx_Met l y ws rm Pc Qc XC mc ms free) (hbl : FrameBlind Pc) : vx_Back l R p e below s args y 3 8 (PreOf R mc ms Pc) (PostOf Qc mc ms free) (vx_Post XC mc ms free) := by
  obtain ⟨hrc, hrs, hfr, hlo, hws, hcw, -, hini, -⟩ := cb
  exact vx_back (bytes := bytes) (maxL := maxL) (ret := ret) hM hbl hrc hrs hfr hlo hws hcw (fun a' U hW => word_at hW (Or.inl (by first | rfl | simp [Cond.onTables, Cond.keeps, Cond.steady])) hini)
theorem vx_runV (S : CallFix p m c cc nL s args Ts own) (hM : vx_Met l y ws rm Pc Qc XC mc ms free) (cw : CallW R s args own C index y bytes maxL ret ws rm mc ms n) (hp : PreV s H C b Pc As)
    (hg : g.method = m) (hn : As.length = n) (hsize : g.locals.size = nL) (hstack : g.stack = As.reverse ++ .ref b :: rest) (hW : 2 * g.monitorRoom + (rest.map fun v => v.category).sum ≤ 8) (hdg : decode cc g.pc = .ok (.invokevirtual index, 3)) (hf : cells + mc ≤ R.cells ∧ slots + ms ≤ R.slots) :
    vx_Run p l e R s m args below meth c H locs cells slots mc ms g rest (Qc (Value.ref b :: As).toArray) XC free := by
  have hK : vx_Back l R p e below s args y 3 8 (PreOf R mc ms Pc) (PostOf Qc mc ms free) (vx_Post XC mc ms free) := vx_callBack cw.1 hM hp.1
  obtain ⟨⟨-, -, -, -, -, -, hcode, -, hy, hlen, hl⟩, hin, hse⟩ := cw
  obtain ⟨hx, hb, hml, ho, -⟩ := S
  obtain ⟨-, ⟨cellB, hcB, hoB, hclB⟩, hPc⟩ := hp
  intro T hT X
  rcases vx_callV X hx (C := C) (bytes := bytes) (maxL := maxL) (ret := ret) ho hl hin hse hcode hy hK (by rw [hT]; exact hcB) hoB hclB hg (hsize.trans hml.symm) (argsL := As) (rest := rest) (fun sig h => hn.trans (hlen sig h)) hstack hW (by rw [hb]; exact hdg)
    (fun vm₁ hW₁ => ⟨hf.1, hf.2, hPc (T.setVm vm₁) hT hW₁⟩) with ⟨v, vm₁, ⟨U', l2, c2, s2⟩, hW₁, X', ⟨g', mk, t, L, e1, e2, hq, h1, hL, h2, h3⟩, st⟩ | ⟨q, vm₁, ⟨U', l2, c2, s2⟩, hW₁, X', ⟨g', mk, t, L, E, ce, e1, e2, hq, hce, hcv, hcl, h1, hL, h2, h3⟩, st⟩
  · dsimp only [Pt.U, Pt.locs, Pt.cells, Pt.slots] at X' e1 e2 h1 h2 h3 st
    subst h1; subst h2; subst h3
    exact Or.inl ⟨v, (T.setVm vm₁).calling g' mk (Value.ref b :: As).toArray, t, U', L, hT, X', hL, e1, e2, hq, st⟩
  · dsimp only [Pt.U, Pt.locs, Pt.cells, Pt.slots] at X' e1 e2 h1 h2 h3 st hcl
    subst h1; subst h2; subst h3
    exact Or.inr ⟨q, (T.setVm vm₁).calling g' mk (Value.ref b :: As).toArray, t, U', L, E, ce, hT, X', hL, e1, e2, hq, hce, hcv, vx_cls hW₁ hcl, st⟩
theorem vx_runS (S : CallFix p m c cc nL s args Ts own) (hM : vx_Met l y ws rm Pc Qc XC mc ms free) (cw : CallB R s args own index y bytes maxL ret ws rm mc ms n ∧ (Cond.static y).before args s = true) (hp : PreS s H Pc As)
    (hg : g.method = m) (hn : As.length = n) (hsize : g.locals.size = nL) (hstack : g.stack = As.reverse ++ rest) (hW : 2 * g.monitorRoom + (rest.map fun v => v.category).sum ≤ 8) (hdg : decode cc g.pc = .ok (.invokestatic index, 3)) (hf : cells + mc ≤ R.cells ∧ slots + ms ≤ R.slots) :
    vx_Run p l e R s m args below meth c H locs cells slots mc ms g rest (Qc As.toArray) XC free := by
  have hK : vx_Back l R p e below s args y 3 8 (PreOf R mc ms Pc) (PostOf Qc mc ms free) (vx_Post XC mc ms free) := vx_callBack cw.1 hM hp.1
  obtain ⟨⟨-, -, -, -, -, -, hcode, hini, hy, hlen, hl⟩, hstt⟩ := cw
  obtain ⟨hx, hb, hml, ho, -⟩ := S
  intro T hT X
  rcases vx_callS X hx (bytes := bytes) (maxL := maxL) (ret := ret) ho hl hstt hini hcode hy hK hg (hsize.trans hml.symm) (argsL := As) (rest := rest) (fun sig h => hn.trans (hlen sig h)) hstack hW (by rw [hb]; exact hdg)
    (fun vm₁ hW₁ => ⟨hf.1, hf.2, hp.2 (T.setVm vm₁) hT hW₁⟩) with ⟨v, vm₁, ⟨U', l2, c2, s2⟩, hW₁, X', ⟨g', mk, t, L, e1, e2, hq, h1, hL, h2, h3⟩, st⟩ | ⟨q, vm₁, ⟨U', l2, c2, s2⟩, hW₁, X', ⟨g', mk, t, L, E, ce, e1, e2, hq, hce, hcv, hcl, h1, hL, h2, h3⟩, st⟩
  · dsimp only [Pt.U, Pt.locs, Pt.cells, Pt.slots] at X' e1 e2 h1 h2 h3 st
    subst h1; subst h2; subst h3
    exact Or.inl ⟨v, (T.setVm vm₁).calling g' mk As.toArray, t, U', L, hT, X', hL, e1, e2, hq, st⟩
  · dsimp only [Pt.U, Pt.locs, Pt.cells, Pt.slots] at X' e1 e2 h1 h2 h3 st hcl
    subst h1; subst h2; subst h3
    exact Or.inr ⟨q, (T.setVm vm₁).calling g' mk As.toArray, t, U', L, E, ce, hT, X', hL, e1, e2, hq, hce, hcv, vx_cls hW₁ hcl, st⟩
end Runs
section Rows
variable {p : Program} {l : Launch} {e : Env} {R : Room} {s : State} {m : MethodId} {args : Array Value} {below : List Frame} {meth : Method} {c : Code} {H : Heap} {locs : List Loc} {cells slots : Nat} {Q : State → Prop}
variable {mc ms : Nat} {free : Addr → Prop} {A0 A1 : Nat → Prop} {H0 : Heap} {a : Array Value} {pc : Nat} {ls : Array Slot} {st0 rest : List Value}
theorem vx_keep {st₀ t T' : State} {L : List Loc} (h0 : st₀.heap = H) (e1 : T'.heap = t.heap) (hS : va_S A0 H0 H locs) (hA : ∀ q, q < H.size → A1 q → A0 q) (hf : ∀ q, free q → A0 q) (hL : ∀ q ∈ L, free q.base) (hF : va_F A1 st₀ t) :
    H.size ≤ T'.heap.size ∧ (∀ q : Nat, q < H.size → ¬ A1 q → T'.heap[q]? = H[q]?) ∧ va_S A0 H0 T'.heap (locs ++ L) := by
  obtain ⟨hz, hk⟩ := hF
  rw [h0] at hz hk
  exact ⟨by rw [e1]; exact hz, fun q h1 h2 => by rw [e1]; exact hk q h1 h2,
    ⟨Nat.le_trans hS.1 (by rw [e1]; exact hz), fun q h1 h2 => by rw [e1, hk q (Nat.lt_of_lt_of_le h1 hS.1) (fun z => h2 (hA q (Nat.lt_of_lt_of_le h1 hS.1) z))]; exact hS.2.1 q h1 h2, fun q hq => by
      rcases List.mem_append.mp hq with h | h
      · exact hS.2.2 q h
      · exact hf _ (hL q h)⟩⟩
theorem vx_calli {S SX : Type} {post : Int32 → S → Prop} {px : SX → Prop} {B : S → State → Prop} {BX : String → SX → State → Prop} {AX : Nat → Prop} (hr : vx_Run p l e R s m args below meth c H locs cells slots mc ms (F0 m pc ls st0) rest (va_Qi post B A1 a) (vx_X px BX AX) free) (hS : va_S A0 H0 H locs) (hA : ∀ q, q < H.size → A1 q → A0 q) (hf : ∀ q, free q → A0 q) (hAX : ∀ q, q < H.size → AX q → A0 q)
    (kx : ∀ (E : String) (ce : Cell) (q9 : Addr) (u : SX) (t : State) (H1 : Heap) (locs1 : List Loc), t.heap = H1 → s.vm.Alike t.vm → px u → BX E u t → H.size ≤ H1.size → (∀ q : Nat, q < H.size → ¬ AX q → H1[q]? = H[q]?) → va_S A0 H0 H1 locs1 → H1[q9]? = some ce → ce.vm = .none → s.vm.findClass E = some ce.cls → vx_W p l e R s m args below meth c H1 locs1 (cells + mc) (slots + ms) Q (F0 m pc ls rest) q9)
    (kk : ∀ (r : Int32) (u : S) (t : State) (H1 : Heap) (locs1 : List Loc), t.heap = H1 → s.vm.Alike t.vm → post r u → B u t → H.size ≤ H1.size → (∀ q : Nat, q < H.size → ¬ A1 q → H1[q]? = H[q]?) → va_S A0 H0 H1 locs1 → W p l e R s m args below meth c H1 locs1 (cells + mc) (slots + ms) Q (F0 m (pc + 3) ls (.int r :: rest))) : W p l e R s m args below meth c H locs cells slots Q (F0 m pc ls st0) := by
  intro T hT X
  rcases hr T hT X with ⟨v, st₀, t, T', L, h0, X', hL, e1, e2, ⟨⟨r, u, hv, hp, hb⟩, hF⟩, st⟩ | ⟨q, st₀, t, T', L, E, ce, h0, X', hL, e1, e2, ⟨u, hp, hb, hF⟩, hce, hcv, hcl, st⟩
  · cases hv
    obtain ⟨k1, k2, k3⟩ := vx_keep h0 e1 hS hA hf hL hF
    obtain ⟨t2, a1, b1⟩ := kk r u t T'.heap (locs ++ L) e1.symm (by rw [← e2]; exact X'.warmed.alike) hp hb k1 k2 k3 T' rfl X'
    exact ⟨t2, st t2 a1, b1⟩
  · obtain ⟨k1, k2, k3⟩ := vx_keep h0 e1 hS hAX hf hL hF
    obtain ⟨t2, a1, b1⟩ := kx E ce q u t T'.heap (locs ++ L) e1.symm (by rw [← e2]; exact X'.warmed.alike) hp hb k1 k2 k3 (by rw [e1]; exact hce) hcv hcl T' rfl X'
    exact ⟨t2, st.trans a1, b1⟩
theorem vx_calll {S SX : Type} {post : Int64 → S → Prop} {px : SX → Prop} {B : S → State → Prop} {BX : String → SX → State → Prop} {AX : Nat → Prop} (hr : vx_Run p l e R s m args below meth c H locs cells slots mc ms (F0 m pc ls st0) rest (va_Ql post B A1 a) (vx_X px BX AX) free) (hS : va_S A0 H0 H locs) (hA : ∀ q, q < H.size → A1 q → A0 q) (hf : ∀ q, free q → A0 q) (hAX : ∀ q, q < H.size → AX q → A0 q)
    (kx : ∀ (E : String) (ce : Cell) (q9 : Addr) (u : SX) (t : State) (H1 : Heap) (locs1 : List Loc), t.heap = H1 → s.vm.Alike t.vm → px u → BX E u t → H.size ≤ H1.size → (∀ q : Nat, q < H.size → ¬ AX q → H1[q]? = H[q]?) → va_S A0 H0 H1 locs1 → H1[q9]? = some ce → ce.vm = .none → s.vm.findClass E = some ce.cls → vx_W p l e R s m args below meth c H1 locs1 (cells + mc) (slots + ms) Q (F0 m pc ls rest) q9)
    (kk : ∀ (r : Int64) (u : S) (t : State) (H1 : Heap) (locs1 : List Loc), t.heap = H1 → s.vm.Alike t.vm → post r u → B u t → H.size ≤ H1.size → (∀ q : Nat, q < H.size → ¬ A1 q → H1[q]? = H[q]?) → va_S A0 H0 H1 locs1 → W p l e R s m args below meth c H1 locs1 (cells + mc) (slots + ms) Q (F0 m (pc + 3) ls (.long r :: rest))) : W p l e R s m args below meth c H locs cells slots Q (F0 m pc ls st0) := by
  intro T hT X
  rcases hr T hT X with ⟨v, st₀, t, T', L, h0, X', hL, e1, e2, ⟨⟨r, u, hv, hp, hb⟩, hF⟩, st⟩ | ⟨q, st₀, t, T', L, E, ce, h0, X', hL, e1, e2, ⟨u, hp, hb, hF⟩, hce, hcv, hcl, st⟩
  · cases hv
    obtain ⟨k1, k2, k3⟩ := vx_keep h0 e1 hS hA hf hL hF
    obtain ⟨t2, a1, b1⟩ := kk r u t T'.heap (locs ++ L) e1.symm (by rw [← e2]; exact X'.warmed.alike) hp hb k1 k2 k3 T' rfl X'
    exact ⟨t2, st t2 a1, b1⟩
  · obtain ⟨k1, k2, k3⟩ := vx_keep h0 e1 hS hAX hf hL hF
    obtain ⟨t2, a1, b1⟩ := kx E ce q u t T'.heap (locs ++ L) e1.symm (by rw [← e2]; exact X'.warmed.alike) hp hb k1 k2 k3 (by rw [e1]; exact hce) hcv hcl T' rfl X'
    exact ⟨t2, st.trans a1, b1⟩
theorem vx_callf {S SX : Type} {post : UInt32 → S → Prop} {px : SX → Prop} {B : S → State → Prop} {BX : String → SX → State → Prop} {AX : Nat → Prop} (hr : vx_Run p l e R s m args below meth c H locs cells slots mc ms (F0 m pc ls st0) rest (va_Qf post B A1 a) (vx_X px BX AX) free) (hS : va_S A0 H0 H locs) (hA : ∀ q, q < H.size → A1 q → A0 q) (hf : ∀ q, free q → A0 q) (hAX : ∀ q, q < H.size → AX q → A0 q)
    (kx : ∀ (E : String) (ce : Cell) (q9 : Addr) (u : SX) (t : State) (H1 : Heap) (locs1 : List Loc), t.heap = H1 → s.vm.Alike t.vm → px u → BX E u t → H.size ≤ H1.size → (∀ q : Nat, q < H.size → ¬ AX q → H1[q]? = H[q]?) → va_S A0 H0 H1 locs1 → H1[q9]? = some ce → ce.vm = .none → s.vm.findClass E = some ce.cls → vx_W p l e R s m args below meth c H1 locs1 (cells + mc) (slots + ms) Q (F0 m pc ls rest) q9)
    (kk : ∀ (r : UInt32) (u : S) (t : State) (H1 : Heap) (locs1 : List Loc), t.heap = H1 → s.vm.Alike t.vm → post r u → B u t → H.size ≤ H1.size → (∀ q : Nat, q < H.size → ¬ A1 q → H1[q]? = H[q]?) → va_S A0 H0 H1 locs1 → W p l e R s m args below meth c H1 locs1 (cells + mc) (slots + ms) Q (F0 m (pc + 3) ls (.float r :: rest))) : W p l e R s m args below meth c H locs cells slots Q (F0 m pc ls st0) := by
  intro T hT X
  rcases hr T hT X with ⟨v, st₀, t, T', L, h0, X', hL, e1, e2, ⟨⟨r, u, hv, hp, hb⟩, hF⟩, st⟩ | ⟨q, st₀, t, T', L, E, ce, h0, X', hL, e1, e2, ⟨u, hp, hb, hF⟩, hce, hcv, hcl, st⟩
  · cases hv
    obtain ⟨k1, k2, k3⟩ := vx_keep h0 e1 hS hA hf hL hF
    obtain ⟨t2, a1, b1⟩ := kk r u t T'.heap (locs ++ L) e1.symm (by rw [← e2]; exact X'.warmed.alike) hp hb k1 k2 k3 T' rfl X'
    exact ⟨t2, st t2 a1, b1⟩
  · obtain ⟨k1, k2, k3⟩ := vx_keep h0 e1 hS hAX hf hL hF
    obtain ⟨t2, a1, b1⟩ := kx E ce q u t T'.heap (locs ++ L) e1.symm (by rw [← e2]; exact X'.warmed.alike) hp hb k1 k2 k3 (by rw [e1]; exact hce) hcv hcl T' rfl X'
    exact ⟨t2, st.trans a1, b1⟩
theorem vx_calld {S SX : Type} {post : UInt64 → S → Prop} {px : SX → Prop} {B : S → State → Prop} {BX : String → SX → State → Prop} {AX : Nat → Prop} (hr : vx_Run p l e R s m args below meth c H locs cells slots mc ms (F0 m pc ls st0) rest (va_Qd post B A1 a) (vx_X px BX AX) free) (hS : va_S A0 H0 H locs) (hA : ∀ q, q < H.size → A1 q → A0 q) (hf : ∀ q, free q → A0 q) (hAX : ∀ q, q < H.size → AX q → A0 q)
    (kx : ∀ (E : String) (ce : Cell) (q9 : Addr) (u : SX) (t : State) (H1 : Heap) (locs1 : List Loc), t.heap = H1 → s.vm.Alike t.vm → px u → BX E u t → H.size ≤ H1.size → (∀ q : Nat, q < H.size → ¬ AX q → H1[q]? = H[q]?) → va_S A0 H0 H1 locs1 → H1[q9]? = some ce → ce.vm = .none → s.vm.findClass E = some ce.cls → vx_W p l e R s m args below meth c H1 locs1 (cells + mc) (slots + ms) Q (F0 m pc ls rest) q9)
    (kk : ∀ (r : UInt64) (u : S) (t : State) (H1 : Heap) (locs1 : List Loc), t.heap = H1 → s.vm.Alike t.vm → post r u → B u t → H.size ≤ H1.size → (∀ q : Nat, q < H.size → ¬ A1 q → H1[q]? = H[q]?) → va_S A0 H0 H1 locs1 → W p l e R s m args below meth c H1 locs1 (cells + mc) (slots + ms) Q (F0 m (pc + 3) ls (.double r :: rest))) : W p l e R s m args below meth c H locs cells slots Q (F0 m pc ls st0) := by
  intro T hT X
  rcases hr T hT X with ⟨v, st₀, t, T', L, h0, X', hL, e1, e2, ⟨⟨r, u, hv, hp, hb⟩, hF⟩, st⟩ | ⟨q, st₀, t, T', L, E, ce, h0, X', hL, e1, e2, ⟨u, hp, hb, hF⟩, hce, hcv, hcl, st⟩
  · cases hv
    obtain ⟨k1, k2, k3⟩ := vx_keep h0 e1 hS hA hf hL hF
    obtain ⟨t2, a1, b1⟩ := kk r u t T'.heap (locs ++ L) e1.symm (by rw [← e2]; exact X'.warmed.alike) hp hb k1 k2 k3 T' rfl X'
    exact ⟨t2, st t2 a1, b1⟩
  · obtain ⟨k1, k2, k3⟩ := vx_keep h0 e1 hS hAX hf hL hF
    obtain ⟨t2, a1, b1⟩ := kx E ce q u t T'.heap (locs ++ L) e1.symm (by rw [← e2]; exact X'.warmed.alike) hp hb k1 k2 k3 (by rw [e1]; exact hce) hcv hcl T' rfl X'
    exact ⟨t2, st.trans a1, b1⟩
theorem vx_callv {S SX : Type} {post : S → Prop} {px : SX → Prop} {B : S → State → Prop} {BX : String → SX → State → Prop} {AX : Nat → Prop} (hr : vx_Run p l e R s m args below meth c H locs cells slots mc ms (F0 m pc ls st0) rest (va_Qv post B A1 a) (vx_X px BX AX) free) (hS : va_S A0 H0 H locs) (hA : ∀ q, q < H.size → A1 q → A0 q) (hf : ∀ q, free q → A0 q) (hAX : ∀ q, q < H.size → AX q → A0 q)
    (kx : ∀ (E : String) (ce : Cell) (q9 : Addr) (u : SX) (t : State) (H1 : Heap) (locs1 : List Loc), t.heap = H1 → s.vm.Alike t.vm → px u → BX E u t → H.size ≤ H1.size → (∀ q : Nat, q < H.size → ¬ AX q → H1[q]? = H[q]?) → va_S A0 H0 H1 locs1 → H1[q9]? = some ce → ce.vm = .none → s.vm.findClass E = some ce.cls → vx_W p l e R s m args below meth c H1 locs1 (cells + mc) (slots + ms) Q (F0 m pc ls rest) q9)
    (kk : ∀ (u : S) (t : State) (H1 : Heap) (locs1 : List Loc), t.heap = H1 → s.vm.Alike t.vm → post u → B u t → H.size ≤ H1.size → (∀ q : Nat, q < H.size → ¬ A1 q → H1[q]? = H[q]?) → va_S A0 H0 H1 locs1 → W p l e R s m args below meth c H1 locs1 (cells + mc) (slots + ms) Q (F0 m (pc + 3) ls (rest))) : W p l e R s m args below meth c H locs cells slots Q (F0 m pc ls st0) := by
  intro T hT X
  rcases hr T hT X with ⟨v, st₀, t, T', L, h0, X', hL, e1, e2, ⟨⟨u, hv, hp, hb⟩, hF⟩, st⟩ | ⟨q, st₀, t, T', L, E, ce, h0, X', hL, e1, e2, ⟨u, hp, hb, hF⟩, hce, hcv, hcl, st⟩
  · cases hv
    obtain ⟨k1, k2, k3⟩ := vx_keep h0 e1 hS hA hf hL hF
    obtain ⟨t2, a1, b1⟩ := kk u t T'.heap (locs ++ L) e1.symm (by rw [← e2]; exact X'.warmed.alike) hp hb k1 k2 k3 T' rfl X'
    exact ⟨t2, st t2 a1, b1⟩
  · obtain ⟨k1, k2, k3⟩ := vx_keep h0 e1 hS hAX hf hL hF
    obtain ⟨t2, a1, b1⟩ := kx E ce q u t T'.heap (locs ++ L) e1.symm (by rw [← e2]; exact X'.warmed.alike) hp hb k1 k2 k3 (by rw [e1]; exact hce) hcv hcl T' rfl X'
    exact ⟨t2, st.trans a1, b1⟩
/-- caught by the row x of this method's table; the rows ahead don't take it -/
theorem vx_catch {own name : String} {E : String} {ce : Cell} {q : Addr} (hown : s.vm.findClass own = some m.cls) (pre : List ExceptionTableEntry) (x : ExceptionTableEntry) (suf : List ExceptionTableEntry) (hsplit : c.exceptionTable.toList = pre ++ x :: suf)
    (hpass : ∀ z ∈ pre, covers z pc = false ∨ (z.catchType ≠ 0 ∧ ∃ nm : String, (Cond.classLink own z.catchType nm).before args s = true ∧ va_Nc E nm s)) (hx : covers x pc = true) (h0 : x.catchType ≠ 0)
    (hlink : (Cond.classLink own x.catchType name).before args s = true) (hcast : (Cond.castable E name).before args s = true) (hcell : H[q]? = some ce) (hv : ce.vm = .none) (hcl : s.vm.findClass E = some ce.cls)
    (kk : W p l e R s m args below meth c H locs cells slots Q (F0 m x.handlerPc ls [.ref q])) : vx_W p l e R s m args below meth c H locs cells slots Q (F0 m pc ls rest) q := by
  intro T hT X
  have hpl : e.platform.magicAccessors = ({} : Platform).magicAccessors := by rw [X.admits.platform]
  obtain ⟨c3, c4, hc3, hc4, hasg⟩ := Cond.castable_spec hcast
  cases Option.some.inj (hc3.symm.trans hcl)
  obtain ⟨c5, hc5, hcl5⟩ := Cond.classLink_spec hown hlink e.platform hpl
  cases Option.some.inj (hc4.symm.trans hc5)
  obtain ⟨vm', X', st⟩ := X.thenCaughtThrough q (g := F0 m pc ls rest) rfl (Steps.refl _) (by rw [hT]; exact hcell) (by rw [hv]; rfl) (by obtain ⟨k9, h9, -⟩ := Vm.findClass_spec hcl; exact ⟨k9, h9⟩) pre x suf hsplit
    (fun z hz => by
      rcases hpass z hz with h | ⟨hz0, nm, hl1, hn1⟩
      · exact Or.inl h
      · obtain ⟨c6, hc6, hcl6⟩ := Cond.classLink_spec hown hl1 e.platform hpl
        obtain ⟨a8, b8, h1, h2, h3⟩ := hn1
        cases Option.some.inj (h1.symm.trans hcl)
        cases Option.some.inj (h2.symm.trans hc6)
        exact Or.inr ⟨hz0, _, hcl6, h3⟩) hx (Or.inr ⟨h0, c4, hcl5, hasg⟩)
  obtain ⟨t, a1, b1⟩ := kk (T.setVm vm') hT X'
  exact ⟨t, st.trans a1, b1⟩
end Rows
section Ends
variable {p : Program} {l : Launch} {e : Env} {R : Room} {s : State} {m : MethodId} {args : Array Value} {below : List Frame} {meth : Method} {c : Code} {H : Heap} {locs : List Loc} {cells slots : Nat} {Q : State → Prop}
variable {mc ms : Nat} {free : Addr → Prop} {A0 A1 : Nat → Prop} {H0 : Heap} {a : Array Value} {ls : Array Slot} {st0 rest : List Value}
variable {Qc : Array Value → State → Outcome → State → Prop} {XC : String → State → State → Prop}
/-- what a body that may throw owes at its end -/
def vx_MQ (below : List Frame) (Qc : Array Value → State → Outcome → State → Prop) (XC : String → State → State → Prop) (a : Array Value) (s : State) (mc ms : Nat) (free : Addr → Prop) : State → Prop := fun t =>
  ∃ o, t.status = .running ∧ Ended t below o ∧ vx_Q Qc XC mc ms free a s o t
theorem vx_ret {g : JFrame} {mc ms : Nat} (k : W p l e R s m args below meth c H locs cells slots (MQ below Qc args s mc ms free) g) : W p l e R s m args below meth c H locs cells slots (vx_MQ below Qc XC args s mc ms free) g := by
  intro T hT X
  obtain ⟨t, a1, o, b1, b2, b3, b4⟩ := k T hT X
  exact ⟨t, a1, o, b1, b2, Or.inl ⟨b3, b4⟩⟩
/-- not caught here: it goes on to the caller -/
theorem vx_widen {g : JFrame} {q : Addr} {k n : Nat} (h1 : cells ≤ k) (h2 : slots ≤ n) (kk : vx_W p l e R s m args below meth c H locs k n Q g q) : vx_W p l e R s m args below meth c H locs cells slots Q g q := fun T hT X => kk T hT (stand_widen X h1 h2)
theorem vx_out {pc : Nat} {E : String} {ce : Cell} {q : Addr} {mc ms : Nat} (hout : ∀ x ∈ c.exceptionTable.toList, covers x pc = false) (hlocks : meth.locks = false) (hcell : H[q]? = some ce) (hv : ce.vm = .none) (hcl : s.vm.findClass E = some ce.cls)
    (hx : ∀ t : State, t.heap = H → s.vm.Alike t.vm → XC E s t) (hf : ∀ z ∈ locs, free z.base) (hc : cells ≤ mc) (hs : slots ≤ ms) :
    vx_W p l e R s m args below meth c H locs cells slots (vx_MQ below Qc XC args s mc ms free) (F0 m pc ls rest) q := by
  intro T hT X
  obtain ⟨st1, hrun, hend, hW, hsm⟩ := X.leaveThrown q (g := F0 m pc ls rest) rfl rfl rfl hout hlocks
  have hcell9 : (T.setFrames (.throwing q :: below)).heap[q]? = some ce := by
    show T.heap[q]? = some ce
    rw [hT]; exact hcell
  exact ⟨_, st1, .threw q, hrun, hend, Or.inr ⟨q, rfl, E, ce, locs, hx _ hT hW.alike, hcell9, hv, hcl, hW, hsm.mono hc hs, hf⟩⟩
theorem vx_frame {U : State} {k n : Nat} (h : s.sameButNew ({ U with vm := s.vm } : State) locs k n) : s.heap.size ≤ U.heap.size ∧ ∀ q : Nat, q < s.heap.size → (∀ z ∈ locs, z.base ≠ q) → U.heap[q]? = s.heap[q]? := by
  obtain ⟨-, h2, -, -, -, h6⟩ := h
  refine ⟨h2, fun q hq hz => ?_⟩
  obtain ⟨c9, e1, e2, e3, e4⟩ := h6 q _ (Array.getElem?_eq_getElem hq)
  have hs : c9.slots = (s.heap[q]).slots := Array.ext_getElem? fun i => e4 i fun hm => hz _ hm rfl
  have h9 : c9 = s.heap[q] := by
    rw [hs] at e2
    exact e2
  have e5 : U.heap[q]? = some c9 := e1
  rw [e5, h9, Array.getElem?_eq_getElem hq]
/-- the words of a throw but the four that speak of the heap -/
def vx_no (w : Cond) : Bool := decide (w ≠ .isRef (.static Bundle.tN "UNASSIGNED_STACK" Bundle.steD)) && decide (w ≠ .isRef (.static Bundle.tN "SUPPRESSED_SENTINEL" Bundle.listD)) && decide (w ≠ .laysStatic Bundle.tN "UNASSIGNED_STACK" Bundle.steD) && decide (w ≠ .laysStatic Bundle.tN "SUPPRESSED_SENTINEL" Bundle.listD)
def vx_at0 (own : String) (ic : Nat) (X : String) (names : List String) : List Cond := (Bundle.ownAtoms0 own ic X names).filter vx_no
def vx_atS (own : String) (ic : Nat) (X : String) (names : List String) : List Cond := (Bundle.ownAtoms own ic X names).filter vx_no
/-- a word that the tables alone decide, or a good one -/
def vx_ot (w : Cond) : Bool := w.onTables || goodWord w
theorem vx_ot_at {args a' : Array Value} {s U : State} {w : Cond} (hW : s.WarmedH U.vm) (hvm : s.vm = U.vm) (hg : vx_ot w = true) (h : w.before args s = true) : w.before a' U = true := by
  simp only [vx_ot, Bool.or_eq_true] at hg
  rcases hg with hg | hg
  · exact va_tabs hg hvm h
  · exact word_at hW (good_of_word hg) h
/-- a list's words: the good ones out of the method's own list, the others by premises of their own -/
theorem vx_hat {args : Array Value} {s : State} {L B : List Cond} (h1 : ∀ w ∈ L.filter goodWord, w.before args s = true) (h2 : ∀ w ∈ L.filter (fun w => !goodWord w), w ∈ B) (h3 : ∀ w ∈ B, w.before args s = true) : ∀ w ∈ L, w.before args s = true := by
  intro w hw
  by_cases g : goodWord w = true
  · exact h1 w (List.mem_filter.mpr ⟨hw, g⟩)
  · refine h3 w (h2 w (List.mem_filter.mpr ⟨hw, ?_⟩))
    show (!goodWord w) = true
    cases hgw : goodWord w
    · rfl
    · exact absurd hgw g
theorem vx_c {args : Array Value} {s : State} {w : Cond} {B : List Cond} (h : w.before args s = true) (t : ∀ w ∈ B, w.before args s = true) : ∀ w' ∈ w :: B, w'.before args s = true := fun w' h' => (List.mem_cons.mp h').elim (fun e => by rw [e]; exact h) (t w')
theorem vx_n {args : Array Value} {s : State} : ∀ w ∈ ([] : List Cond), w.before args s = true := fun _ h => nomatch h
theorem vx_own {args : Array Value} {s : State} {L : List Cond} (h1 : ∀ w ∈ L.filter vx_no, w.before args s = true)
    (hU : (Cond.isRef (.static Bundle.tN "UNASSIGNED_STACK" Bundle.steD)).before args s = true) (hN : (Cond.isRef (.static Bundle.tN "SUPPRESSED_SENTINEL" Bundle.listD)).before args s = true)
    (lU : (Cond.laysStatic Bundle.tN "UNASSIGNED_STACK" Bundle.steD).before args s = true) (lN : (Cond.laysStatic Bundle.tN "SUPPRESSED_SENTINEL" Bundle.listD).before args s = true) : ∀ w ∈ L, w.before args s = true := by
  intro w hw
  by_cases e1 : w = .isRef (.static Bundle.tN "UNASSIGNED_STACK" Bundle.steD)
  · rw [e1]; exact hU
  · by_cases e2 : w = .isRef (.static Bundle.tN "SUPPRESSED_SENTINEL" Bundle.listD)
    · rw [e2]; exact hN
    · by_cases e3 : w = .laysStatic Bundle.tN "UNASSIGNED_STACK" Bundle.steD
      · rw [e3]; exact lU
      · by_cases e4 : w = .laysStatic Bundle.tN "SUPPRESSED_SENTINEL" Bundle.listD
        · rw [e4]; exact lN
        · exact h1 w (List.mem_filter.mpr ⟨hw, by unfold vx_no; rw [decide_eq_true e1, decide_eq_true e2, decide_eq_true e3, decide_eq_true e4]; rfl⟩)
/-- where a static field lies, its class's statics cell in H -/
def vx_L (C n d : String) (A : Nat → Prop) (U : State) (H : Heap) : Prop := ∃ (c : ClassId) (k : Class) (i : Nat) (f : Field) (a : Nat) (cell : Cell), U.vm.findClass C = some c ∧ U.fieldFound? C n d = some (c, k, i, f) ∧ f.isStatic = true ∧ k.statics = some a ∧ H[a]? = some cell ∧ cell.vm.isStatics = true ∧ cell.cls = c ∧ f.slot < cell.slots.size ∧ k.staticTypes[f.slot]? = some f.type ∧ ¬ A a
theorem vx_L.moved {C n d : String} {A : Nat → Prop} {u U : State} {H : Heap} (hvm : u.vm.Alike U.vm) (h : vx_L C n d A u H) : vx_L C n d A U H := by
  obtain ⟨c, k, i, f, a, cell, h1, h2, h3, h4, h5, h6, h7, h8, h9, h10⟩ := h
  obtain ⟨k', hi', he⟩ := State.fieldFound?_setVm hvm h2
  exact ⟨c, k', i, f, a, cell, by rw [hvm.findClass]; exact h1, hi', h3, by rw [he]; exact h4, h5, h6, h7, h8, by rw [he]; exact h9, h10⟩
theorem vx_L.kept {C n d : String} {A : Nat → Prop} {U : State} {H H1 : Heap} (h : vx_L C n d A U H) (hq : ∀ a : Nat, a < H.size → ¬ A a → H1[a]? = H[a]?) : vx_L C n d A U H1 := by
  obtain ⟨c, k, i, f, a, cell, h1, h2, h3, h4, h5, h6, h7, h8, h9, h10⟩ := h
  exact ⟨c, k, i, f, a, cell, h1, h2, h3, h4, by rw [hq a (Array.getElem?_eq_some_iff.mp h5).1 h10]; exact h5, h6, h7, h8, h9, h10⟩
theorem vx_L.narrow {C n d : String} {A B : Nat → Prop} {U : State} {H : Heap} (h : vx_L C n d A U H) (hAB : ∀ q, B q → A q) : vx_L C n d B U H := by
  obtain ⟨c, k, i, f, a, cell, h1, h2, h3, h4, h5, h6, h7, h8, h9, h10⟩ := h
  exact ⟨c, k, i, f, a, cell, h1, h2, h3, h4, h5, h6, h7, h8, h9, fun z => h10 (hAB _ z)⟩
theorem vx_L.word {C n d : String} {A : Nat → Prop} {s : State} {args : Array Value} (h : vx_L C n d A s s.heap) : (Cond.laysStatic C n d).before args s = true := by
  obtain ⟨c, k, i, f, a, cell, h1, h2, h3, h4, h5, h6, h7, h8, h9, -⟩ := h
  show (Cond.laysStatic C n d).holds args s none s [] = true
  exact Cond.laysStatic_of h1 h2 h3 h4 h5 h6 h7 h8 h9
/-- .. and what it holds: null or some reference -/
def vx_Zq (C n d : String) (A : Nat → Prop) (U : State) (H : Heap) : Prop := va_Zq C n d A U H ∧ vx_L C n d A U H
theorem vx_Zq.moved {C n d : String} {A : Nat → Prop} {u U : State} {H : Heap} (hvm : u.vm.Alike U.vm) (h : vx_Zq C n d A u H) : vx_Zq C n d A U H := ⟨va_Zq.moved hvm h.1, vx_L.moved hvm h.2⟩
theorem vx_Zq.kept {C n d : String} {A : Nat → Prop} {U : State} {H H1 : Heap} (h : vx_Zq C n d A U H) (hq : ∀ a : Nat, a < H.size → ¬ A a → H1[a]? = H[a]?) : vx_Zq C n d A U H1 := ⟨va_Zq.kept h.1 hq, vx_L.kept h.2 hq⟩
theorem vx_Zq.narrow {C n d : String} {A B : Nat → Prop} {U : State} {H : Heap} (h : vx_Zq C n d A U H) (hAB : ∀ q, B q → A q) : vx_Zq C n d B U H := ⟨va_Zq.narrow h.1 hAB, vx_L.narrow h.2 hAB⟩
theorem vx_Zqof {args : Array Value} {s : State} {C n d : String} {A : Nat → Prop} (hl : (Cond.laysStatic C n d).before args s = true) (hini : (Cond.initialized C).before args s = true) (h : (Cond.isRef (.static C n d)).before args s = true) (hA : ∀ a : Nat, a < s.heap.size → ¬ A a) : vx_Zq C n d A s s.heap := by
  refine ⟨va_Zqof hl hini h hA, ?_⟩
  obtain ⟨c, k, i, f, a, cell, h1, h2, h3, h4, h5, h6, h7, h8, h9⟩ := Cond.laysStatic_spec hl
  exact ⟨c, k, i, f, a, cell, h1, h2, h3, h4, h5, h6, h7, h8, h9, hA a (Array.getElem?_eq_some_iff.mp h5).1⟩
theorem vx_isRef {C n d : String} {v : Value} {A : Nat → Prop} {s : State} {args : Array Value} (h : va_Z C n d v A s s.heap) (hv : v.isRef = true) : (Cond.isRef (.static C n d)).before args s = true := by
  obtain ⟨cf, kf, fi, f, a, cell, h1, h2, h3, h4, h5, h6, h7, -⟩ := h
  have he : (Term.static C n d).eval args s none [] s = some v := by
    simp [Term.eval, State.fieldNamed?, h1, h2, h4, h5, h6, h7]
  simp only [Cond.before, Cond.holds, Cond.value, he]
  cases v <;> simp_all [Value.isRef]
theorem vx_isRefq {C n d : String} {A : Nat → Prop} {s : State} {args : Array Value} (h : va_Zq C n d A s s.heap) : (Cond.isRef (.static C n d)).before args s = true := by
  rcases h with h | ⟨t, h⟩
  · exact vx_isRef h rfl
  · exact vx_isRef h rfl
/-- the same frame, seen from here: as if the method were called anew in this heap -/
theorem vx_rebase {T : State} (X : Stand p l e R s m args below meth c T locs cells slots) {R' : Room} (hf : R'.frames ≤ R.frames) (hl : R'.locals ≤ R.locals) (hc : cells + R'.cells ≤ R.cells) (hs : slots + R'.slots ≤ R.slots) :
    Stand p l e R' ((T.setVm s.vm).setFrames (.invoking m args :: below)) m args below meth c T [] 0 0 := by
  have htop : (T.setVm s.vm).topJava?.isSome := X.here.top
  have hF : ((T.setVm s.vm).setFrames (.invoking m args :: below)).frames = .invoking m args :: below := State.frames_setFrames _ (State.cur_lt_of_top htop)
  obtain ⟨g₀, hg0⟩ := Option.isSome_iff_exists.mp htop
  obtain ⟨r, hr⟩ := State.topJava?_eq_some.mp hg0
  have hl9 : e.platform.stackLimits (T.setVm s.vm).me = e.platform.stackLimits s.me := X.limits
  have hb9 : (T.setVm s.vm).me.stackBytes = s.me.stackBytes := X.bytes
  refine ⟨X.admits, X.cas, X.clock, hF, ?_, X.hears, X.method, X.code, X.here, X.tail, X.warmed, ?_, ?_, ?_⟩
  · have h := X.room
    have hU : ((T.setVm s.vm).setFrames (.invoking m args :: below)).localsInUse = s.localsInUse := by
      rw [State.localsInUse_invoking hF (meth := meth) (c := c) X.method X.code, State.localsInUse_invoking X.frames X.method X.code]
    simp only [State.hasRoom, Bool.and_eq_true, decide_eq_true_eq] at h ⊢
    obtain ⟨⟨⟨⟨h1, h2, h3, h4, h5, h6⟩, h7⟩, h8⟩, h9⟩ := h
    rw [X.frames, List.length_cons] at h2 h3
    have q1 := X.heapSize
    have q2 := X.used
    simp only [hF, hU, List.length_cons, State.stackLimits_setFrames, State.stackBytes_setFrames, hl9, hb9]
    refine ⟨⟨⟨⟨by omega, by omega, by omega, by omega, by omega, h6⟩, ?_⟩, ?_⟩, X.book⟩
    · show T.heap.size + R'.cells ≤ e.platform.maxCells
      omega
    · show T.slotsUsed + R'.slots ≤ e.platform.maxSlots
      omega
  · rw [State.stackLimits_setFrames]; rfl
  · rw [State.stackBytes_setFrames]; rfl
  · refine ⟨?_, Nat.le_refl _, Nat.le_refl _, ?_, ?_, fun a c9 h9 => ⟨c9, h9, rfl, rfl, fun _ _ => rfl⟩⟩
    · obtain ⟨t, ht, -⟩ := State.frames_cons hr
      show T.setVm s.vm = { ((T.setVm s.vm).setFrames (.invoking m args :: below)).setFrames (T.setVm s.vm).frames with heap := T.heap, slotsUsed := T.slotsUsed }
      rw [State.setFrames_setFrames, State.setFrames_self ht]
      rfl
    · show T.slotsUsed = T.slotsUsed + ((T.heap.toList.drop T.heap.size).map (·.slots.size)).sum
      rw [List.drop_eq_nil_of_le (Nat.le_of_eq Array.length_toList)]
      rfl
    · show ((T.heap.toList.drop T.heap.size).map (·.slots.size)).sum ≤ 0
      rw [List.drop_eq_nil_of_le (Nat.le_of_eq Array.length_toList)]
      exact Nat.le_refl _
/-- 'throw new E()': new; dup; invokespecial; athrow -/
theorem vx_throw0 {cc : ByteArray} {pc : Nat} (hexec : p.tables.exec = Jvm.exec) (hb : c.code = cc) (hl : l.stackTraces = false) {own cls : String} {names : List String} {ik ic mc ms : Nat} {A : Nat → Prop}
    (hown : s.vm.findClass own = some m.cls) (hcls : Bundle.fit cls = true) (hnames : ∀ n ∈ names, Bundle.fit n = true)
    (hk : (Cond.classLink own ik cls).before args s = true) (hini : (Cond.initialized cls).before args s = true) (hat : ∀ w ∈ vx_at0 own ic cls names, w.before args s = true)
    (hgood : ∀ w ∈ Cond.classLink own ik cls :: Cond.initialized cls :: vx_at0 own ic cls names, vx_ot w = true)
    (hU : vx_Zq Bundle.tN "UNASSIGNED_STACK" Bundle.steD A s s.heap) (hN : vx_Zq Bundle.tN "SUPPRESSED_SENTINEL" Bundle.listD A s s.heap) (hS : va_S A s.heap H locs) (hsize : ls.size = c.maxLocals)
    (d0 : decode cc pc = .ok (.new ik, 3)) (d3 : decode cc (pc + 3) = .ok (.dup, 1)) (d4 : decode cc (pc + 4) = .ok (.invokespecial ic, 3)) (d7 : decode cc (pc + 7) = .ok (.athrow, 1))
    (hout : ∀ x ∈ c.exceptionTable.toList, covers x (pc + 7) = false)
    (hRframes : names.length + 3 < R.frames) (hRlocals : (rest.map fun v => v.category).sum + (13 * (names.length + 1) + 42) ≤ R.locals) (hRcells : cells + 1 ≤ R.cells) (hRslots : slots + 6 ≤ R.slots) (hlocks : meth.locks = false)
    (hx : ∀ t : State, s.vm.Alike t.vm → H.size ≤ t.heap.size → (∀ q : Nat, q < H.size → t.heap[q]? = H[q]?) → XC cls s t)
    (hf : ∀ z ∈ locs, free z.base) (hc : cells + 1 ≤ mc) (hs : slots + 6 ≤ ms) :
    W p l e R s m args below meth c H locs cells slots (vx_MQ below Qc XC args s mc ms free) (F0 m pc ls rest) := by
  intro T hT X
  have htr : e.platform.stackTraces = false := (show e.platform.stackTraces = l.stackTraces by rw [X.admits.platform]).trans hl
  have Y := vx_rebase X (R' := { frames := R.frames, locals := R.locals, cells := 1, slots := 6 }) (Nat.le_refl _) (Nat.le_refl _) hRcells hRslots
  obtain ⟨s', hA⟩ : ∃ z, z = (T.setVm s.vm).setFrames (.invoking m args :: below) := ⟨_, rfl⟩
  rw [← hA] at Y
  have hvm : s'.vm = s.vm := by rw [hA]; rfl
  have hhp : s'.heap = H := by rw [hA]; exact hT
  have hW0 : s.WarmedH s'.vm := by rw [hvm]; exact State.WarmedH.refl s
  have hat' : ∀ w ∈ vx_at0 own ic cls names, w.before args s' = true := fun w hw => vx_ot_at hW0 hvm.symm (hgood w (List.mem_cons_of_mem _ (List.mem_cons_of_mem _ hw))) (hat w hw)
  have hk' : (Cond.classLink own ik cls).before args s' = true := vx_ot_at hW0 hvm.symm (hgood _ List.mem_cons_self) hk
  have hini' : (Cond.initialized cls).before args s' = true := vx_ot_at hW0 hvm.symm (hgood _ (List.mem_cons_of_mem _ List.mem_cons_self)) hini
  have hU' : vx_Zq Bundle.tN "UNASSIGNED_STACK" Bundle.steD A s' s'.heap := by rw [hhp]; exact vx_Zq.moved hW0.alike (hU.kept hS.2.1)
  have hN' : vx_Zq Bundle.tN "SUPPRESSED_SENTINEL" Bundle.listD A s' s'.heap := by rw [hhp]; exact vx_Zq.moved hW0.alike (hN.kept hS.2.1)
  have h : ∀ w ∈ Bundle.ownAtoms0 own ic cls names, w.before args s' = true := vx_own hat' (vx_isRefq hU'.1) (vx_isRefq hN'.1) hU'.2.word hN'.2.word
  have hown' : s'.vm.findClass own = some m.cls := by rw [hvm]; exact hown
  have hins : (Cond.instantiable cls 6).before args s' = true := h _ (by simp [Bundle.ownAtoms0])
  obtain ⟨vm₁, cX, kX, hfX, hkX, -, -, X₁, st1⟩ := Y.newCold hexec (own := own) (C := cls) (index := ik) (n := 6) hown' hk' hins hini'
    (g := F0 m pc ls rest) rfl (by rw [hb]; exact d0) (Nat.le_refl _) (Nat.le_refl _)
  generalize hT1 : (T.setVm vm₁).pushCell { cls := cX, slots := kX.instanceTypes.map defaultValue, vm := .none } = T1 at X₁ st1
  have hcat : (Value.ref T.heap.size).category = 1 := rfl
  have hcellA : T1.heap[T.heap.size]? = some (freshCell cX kX) := by rw [← hT1]; exact State.heap_pushCell_size _ _
  have d3' : decode c.code (pc + 3) = .ok (.dup, 1) := by rw [hb]; exact d3
  obtain ⟨U, hsteps, hrun, hend, hW, hsame, ce, hce, hO⟩ := X₁.ctorThrow0 hexec htr (own := own) (cls := cls) (names := names) (ic := ic) hown' hcls hnames h (fun x hx => nomatch hx) hfX hkX hcellA (by rw [hhp, hT]; exact Nat.le_refl _)
    (g := { method := m, pc := pc + 4, locals := ls, stack := .ref T.heap.size :: .ref T.heap.size :: rest, locked := none }) rfl hsize rfl rfl (rest := rest) rfl
    (by rw [hb]; exact d4) (by rw [hb]; exact d7) hout hRframes (by simp only [List.map_cons, List.sum_cons, hcat]; omega) hlocks
  obtain ⟨f1, f2⟩ := vx_frame hsame
  rw [hhp] at f1 f2
  have hWs : s.WarmedH U.vm := State.WarmedH.trans hW0 hW
  have hcl : s.vm.findClass cls = some ce.cls := by
    have h9 := hO.cls
    rw [hvm] at h9
    exact h9
  have hall : s.sameButNew ({ U with vm := s.vm } : State) locs mc ms := by
    subst hA
    obtain ⟨e1, e2⟩ := hsame
    rw [State.setFrames_setFrames] at e1
    have h2 : (T.setVm s.vm).sameButNew ({ U with vm := s.vm } : State) [] (0 + 1) (0 + 6) := ⟨e1, e2⟩
    have h3 := X.same.trans h2
    rw [List.append_nil] at h3
    exact h3.mono hc hs
  refine ⟨U, ?_, .threw T.heap.size, hrun, hend, Or.inr ⟨T.heap.size, rfl, cls, ce, locs, hx U hWs.alike f1 (fun q hq => f2 q hq (fun z hz => nomatch hz)), hce, hO.vm, hcl, hWs, hall, hf⟩⟩
  refine st1 _ ?_
  show Steps p.tables e below (T1.setTop { method := m, pc := pc + 3, locals := ls, stack := .ref T.heap.size :: rest, locked := none }) _
  jvm_step X₁.here [X₁.here.top, hexec, d3', Value.category]
  exact hsteps
/-- 'throw new E("text")': new; dup; ldc; invokespecial; athrow -/
theorem vx_throwS {cc : ByteArray} {pc : Nat} (hexec : p.tables.exec = Jvm.exec) (hb : c.code = cc) (hl : l.stackTraces = false) {own cls text : String} {names : List String} {ik is ic mc ms sa : Nat} {A : Nat → Prop}
    (hown : s.vm.findClass own = some m.cls) (hcls : Bundle.fit cls = true) (hnames : ∀ n ∈ names, Bundle.fit n = true)
    (hk : (Cond.classLink own ik cls).before args s = true) (hini : (Cond.initialized cls).before args s = true) (hstr : vk_R own is text sa s) (hat : ∀ w ∈ vx_atS own ic cls names, w.before args s = true)
    (hgood : ∀ w ∈ Cond.classLink own ik cls :: Cond.initialized cls :: vx_atS own ic cls names, vx_ot w = true)
    (hU : vx_Zq Bundle.tN "UNASSIGNED_STACK" Bundle.steD A s s.heap) (hN : vx_Zq Bundle.tN "SUPPRESSED_SENTINEL" Bundle.listD A s s.heap) (hS : va_S A s.heap H locs) (hsize : ls.size = c.maxLocals)
    (d0 : decode cc pc = .ok (.new ik, 3)) (d3 : decode cc (pc + 3) = .ok (.dup, 1)) (d4 : decode cc (pc + 4) = .ok (.ldc is, 2)) (d6 : decode cc (pc + 6) = .ok (.invokespecial ic, 3)) (d9 : decode cc (pc + 9) = .ok (.athrow, 1))
    (hout : ∀ x ∈ c.exceptionTable.toList, covers x (pc + 9) = false)
    (hRframes : names.length + 3 < R.frames) (hRlocals : (rest.map fun v => v.category).sum + (13 * (names.length + 1) + 43) ≤ R.locals) (hRcells : cells + 1 ≤ R.cells) (hRslots : slots + 6 ≤ R.slots) (hlocks : meth.locks = false)
    (hx : ∀ t : State, s.vm.Alike t.vm → H.size ≤ t.heap.size → (∀ q : Nat, q < H.size → t.heap[q]? = H[q]?) → XC cls s t)
    (hf : ∀ z ∈ locs, free z.base) (hc : cells + 1 ≤ mc) (hs : slots + 6 ≤ ms) :
    W p l e R s m args below meth c H locs cells slots (vx_MQ below Qc XC args s mc ms free) (F0 m pc ls rest) := by
  intro T hT X
  have htr : e.platform.stackTraces = false := (show e.platform.stackTraces = l.stackTraces by rw [X.admits.platform]).trans hl
  have Y := vx_rebase X (R' := { frames := R.frames, locals := R.locals, cells := 1, slots := 6 }) (Nat.le_refl _) (Nat.le_refl _) hRcells hRslots
  obtain ⟨s', hA⟩ : ∃ z, z = (T.setVm s.vm).setFrames (.invoking m args :: below) := ⟨_, rfl⟩
  rw [← hA] at Y
  have hvm : s'.vm = s.vm := by rw [hA]; rfl
  have hhp : s'.heap = H := by rw [hA]; exact hT
  have hW0 : s.WarmedH s'.vm := by rw [hvm]; exact State.WarmedH.refl s
  have hat' : ∀ w ∈ vx_atS own ic cls names, w.before args s' = true := fun w hw => vx_ot_at hW0 hvm.symm (hgood w (List.mem_cons_of_mem _ (List.mem_cons_of_mem _ hw))) (hat w hw)
  have hk' : (Cond.classLink own ik cls).before args s' = true := vx_ot_at hW0 hvm.symm (hgood _ List.mem_cons_self) hk
  have hini' : (Cond.initialized cls).before args s' = true := vx_ot_at hW0 hvm.symm (hgood _ (List.mem_cons_of_mem _ List.mem_cons_self)) hini
  have hU' : vx_Zq Bundle.tN "UNASSIGNED_STACK" Bundle.steD A s' s'.heap := by rw [hhp]; exact vx_Zq.moved hW0.alike (hU.kept hS.2.1)
  have hN' : vx_Zq Bundle.tN "SUPPRESSED_SENTINEL" Bundle.listD A s' s'.heap := by rw [hhp]; exact vx_Zq.moved hW0.alike (hN.kept hS.2.1)
  have h : ∀ w ∈ Bundle.ownAtoms own ic cls names, w.before args s' = true := vx_own hat' (vx_isRefq hU'.1) (vx_isRefq hN'.1) hU'.2.word hN'.2.word
  have hown' : s'.vm.findClass own = some m.cls := by rw [hvm]; exact hown
  have hins : (Cond.instantiable cls 6).before args s' = true := h _ (by simp [Bundle.ownAtoms])
  obtain ⟨vm₁, cX, kX, hfX, hkX, -, -, X₁, st1⟩ := Y.newCold hexec (own := own) (C := cls) (index := ik) (n := 6) hown' hk' hins hini'
    (g := F0 m pc ls rest) rfl (by rw [hb]; exact d0) (Nat.le_refl _) (Nat.le_refl _)
  generalize hT1 : (T.setVm vm₁).pushCell { cls := cX, slots := kX.instanceTypes.map defaultValue, vm := .none } = T1 at X₁ st1
  have hcat : (Value.ref T.heap.size).category = 1 := rfl
  have hcellA : T1.heap[T.heap.size]? = some (freshCell cX kX) := by rw [← hT1]; exact State.heap_pushCell_size _ _
  have d3' : decode c.code (pc + 3) = .ok (.dup, 1) := by rw [hb]; exact d3
  have d4' : decode c.code (pc + 4) = .ok (.ldc is, 2) := by rw [hb]; exact d4
  have hstr' : vk_R own is text sa s' := vk_R.warm hW0 hstr
  obtain ⟨U, hsteps, hrun, hend, hW, hsame, ce, hce, hO⟩ := X₁.ctorThrowS hexec htr (own := own) (cls := cls) (names := names) (ic := ic) hown' hcls hnames h (fun x hx => nomatch hx) hfX hkX hcellA (by rw [hhp, hT]; exact Nat.le_refl _) (msg := .ref sa) rfl
    (g := { method := m, pc := pc + 6, locals := ls, stack := .ref sa :: .ref T.heap.size :: .ref T.heap.size :: rest, locked := none }) rfl hsize rfl rfl (rest := rest) rfl
    (by rw [hb]; exact d6) (by rw [hb]; exact d9) hout hRframes (by simp only [List.map_cons, List.sum_cons, hcat]; omega) hlocks
  obtain ⟨f1, f2⟩ := vx_frame hsame
  rw [hhp] at f1 f2
  have hWs : s.WarmedH U.vm := State.WarmedH.trans hW0 hW
  have hcl : s.vm.findClass cls = some ce.cls := by
    have h9 := hO.cls
    rw [hvm] at h9
    exact h9
  have hall : s.sameButNew ({ U with vm := s.vm } : State) locs mc ms := by
    subst hA
    obtain ⟨e1, e2⟩ := hsame
    rw [State.setFrames_setFrames] at e1
    have h2 : (T.setVm s.vm).sameButNew ({ U with vm := s.vm } : State) [] (0 + 1) (0 + 6) := ⟨e1, e2⟩
    have h3 := X.same.trans h2
    rw [List.append_nil] at h3
    exact h3.mono hc hs
  refine ⟨U, ?_, .threw T.heap.size, hrun, hend, Or.inr ⟨T.heap.size, rfl, cls, ce, locs, hx U hWs.alike f1 (fun q hq => f2 q hq (fun z hz => nomatch hz)), hce, hO.vm, hcl, hWs, hall, hf⟩⟩
  refine st1 _ ?_
  show Steps p.tables e below (T1.setTop { method := m, pc := pc + 3, locals := ls, stack := .ref T.heap.size :: rest, locked := none }) _
  jvm_step X₁.here [X₁.here.top, hexec, d3', Value.category]
  exact X₁.ldcString hexec (own := own) (text := text) (index := is) (a := sa) hown' hstr'.1 hstr'.2
    (g := { method := m, pc := pc + 4, locals := ls, stack := .ref T.heap.size :: .ref T.heap.size :: rest, locked := none }) rfl d4' _ hsteps
/-- 'throw new E("text")', the text by a wide index -/
theorem vx_throwSW {cc : ByteArray} {pc : Nat} (hexec : p.tables.exec = Jvm.exec) (hb : c.code = cc) (hl : l.stackTraces = false) {own cls text : String} {names : List String} {ik is ic mc ms sa : Nat} {A : Nat → Prop}
    (hown : s.vm.findClass own = some m.cls) (hcls : Bundle.fit cls = true) (hnames : ∀ n ∈ names, Bundle.fit n = true)
    (hk : (Cond.classLink own ik cls).before args s = true) (hini : (Cond.initialized cls).before args s = true) (hstr : vk_R own is text sa s) (hat : ∀ w ∈ vx_atS own ic cls names, w.before args s = true)
    (hgood : ∀ w ∈ Cond.classLink own ik cls :: Cond.initialized cls :: vx_atS own ic cls names, vx_ot w = true)
    (hU : vx_Zq Bundle.tN "UNASSIGNED_STACK" Bundle.steD A s s.heap) (hN : vx_Zq Bundle.tN "SUPPRESSED_SENTINEL" Bundle.listD A s s.heap) (hS : va_S A s.heap H locs) (hsize : ls.size = c.maxLocals)
    (d0 : decode cc pc = .ok (.new ik, 3)) (d3 : decode cc (pc + 3) = .ok (.dup, 1)) (d4 : decode cc (pc + 4) = .ok (.ldc_w is, 3)) (d7 : decode cc (pc + 7) = .ok (.invokespecial ic, 3)) (d10 : decode cc (pc + 10) = .ok (.athrow, 1))
    (hout : ∀ x ∈ c.exceptionTable.toList, covers x (pc + 10) = false)
    (hRframes : names.length + 3 < R.frames) (hRlocals : (rest.map fun v => v.category).sum + (13 * (names.length + 1) + 43) ≤ R.locals) (hRcells : cells + 1 ≤ R.cells) (hRslots : slots + 6 ≤ R.slots) (hlocks : meth.locks = false)
    (hx : ∀ t : State, s.vm.Alike t.vm → H.size ≤ t.heap.size → (∀ q : Nat, q < H.size → t.heap[q]? = H[q]?) → XC cls s t)
    (hf : ∀ z ∈ locs, free z.base) (hc : cells + 1 ≤ mc) (hs : slots + 6 ≤ ms) :
    W p l e R s m args below meth c H locs cells slots (vx_MQ below Qc XC args s mc ms free) (F0 m pc ls rest) := by
  intro T hT X
  have htr : e.platform.stackTraces = false := (show e.platform.stackTraces = l.stackTraces by rw [X.admits.platform]).trans hl
  have Y := vx_rebase X (R' := { frames := R.frames, locals := R.locals, cells := 1, slots := 6 }) (Nat.le_refl _) (Nat.le_refl _) hRcells hRslots
  obtain ⟨s', hA⟩ : ∃ z, z = (T.setVm s.vm).setFrames (.invoking m args :: below) := ⟨_, rfl⟩
  rw [← hA] at Y
  have hvm : s'.vm = s.vm := by rw [hA]; rfl
  have hhp : s'.heap = H := by rw [hA]; exact hT
  have hW0 : s.WarmedH s'.vm := by rw [hvm]; exact State.WarmedH.refl s
  have hat' : ∀ w ∈ vx_atS own ic cls names, w.before args s' = true := fun w hw => vx_ot_at hW0 hvm.symm (hgood w (List.mem_cons_of_mem _ (List.mem_cons_of_mem _ hw))) (hat w hw)
  have hk' : (Cond.classLink own ik cls).before args s' = true := vx_ot_at hW0 hvm.symm (hgood _ List.mem_cons_self) hk
  have hini' : (Cond.initialized cls).before args s' = true := vx_ot_at hW0 hvm.symm (hgood _ (List.mem_cons_of_mem _ List.mem_cons_self)) hini
  have hU' : vx_Zq Bundle.tN "UNASSIGNED_STACK" Bundle.steD A s' s'.heap := by rw [hhp]; exact vx_Zq.moved hW0.alike (hU.kept hS.2.1)
  have hN' : vx_Zq Bundle.tN "SUPPRESSED_SENTINEL" Bundle.listD A s' s'.heap := by rw [hhp]; exact vx_Zq.moved hW0.alike (hN.kept hS.2.1)
  have h : ∀ w ∈ Bundle.ownAtoms own ic cls names, w.before args s' = true := vx_own hat' (vx_isRefq hU'.1) (vx_isRefq hN'.1) hU'.2.word hN'.2.word
  have hown' : s'.vm.findClass own = some m.cls := by rw [hvm]; exact hown
  have hins : (Cond.instantiable cls 6).before args s' = true := h _ (by simp [Bundle.ownAtoms])
  obtain ⟨vm₁, cX, kX, hfX, hkX, -, -, X₁, st1⟩ := Y.newCold hexec (own := own) (C := cls) (index := ik) (n := 6) hown' hk' hins hini'
    (g := F0 m pc ls rest) rfl (by rw [hb]; exact d0) (Nat.le_refl _) (Nat.le_refl _)
  generalize hT1 : (T.setVm vm₁).pushCell { cls := cX, slots := kX.instanceTypes.map defaultValue, vm := .none } = T1 at X₁ st1
  have hcat : (Value.ref T.heap.size).category = 1 := rfl
  have hcellA : T1.heap[T.heap.size]? = some (freshCell cX kX) := by rw [← hT1]; exact State.heap_pushCell_size _ _
  have d3' : decode c.code (pc + 3) = .ok (.dup, 1) := by rw [hb]; exact d3
  have d4' : decode c.code (pc + 4) = .ok (.ldc_w is, 3) := by rw [hb]; exact d4
  have hstr' : vk_R own is text sa s' := vk_R.warm hW0 hstr
  obtain ⟨U, hsteps, hrun, hend, hW, hsame, ce, hce, hO⟩ := X₁.ctorThrowS hexec htr (own := own) (cls := cls) (names := names) (ic := ic) hown' hcls hnames h (fun x hx => nomatch hx) hfX hkX hcellA (by rw [hhp, hT]; exact Nat.le_refl _) (msg := .ref sa) rfl
    (g := { method := m, pc := pc + 7, locals := ls, stack := .ref sa :: .ref T.heap.size :: .ref T.heap.size :: rest, locked := none }) rfl hsize rfl rfl (rest := rest) rfl
    (by rw [hb]; exact d7) (by rw [hb]; exact d10) hout hRframes (by simp only [List.map_cons, List.sum_cons, hcat]; omega) hlocks
  obtain ⟨f1, f2⟩ := vx_frame hsame
  rw [hhp] at f1 f2
  have hWs : s.WarmedH U.vm := State.WarmedH.trans hW0 hW
  have hcl : s.vm.findClass cls = some ce.cls := by
    have h9 := hO.cls
    rw [hvm] at h9
    exact h9
  have hall : s.sameButNew ({ U with vm := s.vm } : State) locs mc ms := by
    subst hA
    obtain ⟨e1, e2⟩ := hsame
    rw [State.setFrames_setFrames] at e1
    have h2 : (T.setVm s.vm).sameButNew ({ U with vm := s.vm } : State) [] (0 + 1) (0 + 6) := ⟨e1, e2⟩
    have h3 := X.same.trans h2
    rw [List.append_nil] at h3
    exact h3.mono hc hs
  refine ⟨U, ?_, .threw T.heap.size, hrun, hend, Or.inr ⟨T.heap.size, rfl, cls, ce, locs, hx U hWs.alike f1 (fun q hq => f2 q hq (fun z hz => nomatch hz)), hce, hO.vm, hcl, hWs, hall, hf⟩⟩
  refine st1 _ ?_
  show Steps p.tables e below (T1.setTop { method := m, pc := pc + 3, locals := ls, stack := .ref T.heap.size :: rest, locked := none }) _
  jvm_step X₁.here [X₁.here.top, hexec, d3', Value.category]
  exact X₁.ldcStringW hexec (own := own) (text := text) (index := is) (a := sa) hown' hstr'.1 hstr'.2
    (g := { method := m, pc := pc + 4, locals := ls, stack := .ref T.heap.size :: .ref T.heap.size :: rest, locked := none }) rfl d4' _ hsteps
end Ends
section Bodies
variable {l : Launch}
theorem vx_ofW {y : MethodName} {ws ws' : List Cond} {rm : Room} {Pc : Array Value → State → Prop} {Qc : Array Value → State → Outcome → State → Prop} {XC : String → State → State → Prop} {mc ms : Nat} {free : Addr → Prop} {cc : ByteArray} {maxL : Nat} {ret : Option FieldType}
    (hy : plainName y.cls = true) (hw : ws = Cond.code y cc maxL ret :: ws')
    (body : ∀ p e s m args below meth c s₁, BodyLoose p l y (headSpec ws rm) cc maxL ret e s m args below meth c s₁ → c.maxLocals = maxL → (∀ x ∈ c.exceptionTable.toList, False) → Pc args s →
      W p l e (headSpec ws rm).room s m args below meth c s.heap [] 0 0 (vx_MQ below Qc XC args s mc ms free) (entryFrame m args maxL)) : vx_Met l y ws rm Pc Qc XC mc ms free := by
  refine MetFree.of_bodyS (code := cc) (maxLocals := maxL) (ret := ret) hy ?_ ?_
  · intro args s m h hn
    obtain ⟨meth, c, h1, h2, h3, h4, h5, h6, -, -⟩ := Cond.code_spec hn (atoms_spec (ws := ws) h _ (by rw [hw]; exact List.mem_cons_self))
    exact ⟨meth, c, h1, h2, h3, h4, h5, h6⟩
  · intro p e s m args below meth c s₁ B hml hP _
    have hh0 : s₁.heap = s.heap := by rw [B.state]; rfl
    have ht : ∀ x ∈ c.exceptionTable.toList, False := by
      obtain ⟨meth9, c9, h1, h2, -, -, -, -, h7, -⟩ := Cond.code_spec B.named (atoms_spec (ws := ws) B.pre _ (by rw [hw]; exact List.mem_cons_self))
      cases Option.some.inj (h1.symm.trans B.method)
      cases Option.some.inj (h2.symm.trans (Stand.of_body B).code)
      intro x hx
      rw [Array.isEmpty_iff.mp h7] at hx
      cases hx
    obtain ⟨t, a1, o, b1, b2, b3⟩ := body p e s m args below meth c s₁ B hml ht hP s₁ hh0 (Stand.of_body B)
    exact ⟨t, o, a1, b1, b2, b3⟩
/-- the table of a body with handlers -/
theorem vx_table {p : Program} {x y : MethodName} {S : Spec} {cc bytes : ByteArray} {maxL maxL' : Nat} {ret ret' : Option FieldType} {e : Env} {s s₁ : State} {m : MethodId} {args : Array Value} {below : List Frame} {meth : Method} {c : Code} {hh : List (Nat × Nat × Nat × Nat)}
    (B : BodyLoose p l y S cc maxL ret e s m args below meth c s₁) (h : (Cond.codeWith y bytes maxL' ret' hh).before args s = true) : c.exceptionTable.toList = tableOf hh := by
  obtain ⟨m9, meth9, c9, hn9, h1, h2, -, -, h6, -⟩ := Cond.codeWith_spec h
  cases Option.some.inj (hn9.symm.trans B.named)
  cases Option.some.inj (h1.symm.trans B.method)
  cases Option.some.inj (h2.symm.trans (Stand.of_body B).code)
  rw [← h6, table_eq]
end Bodies
end VXA
/-! ===== END ===== -/
/-! ===== BEGIN a static call of a method with an exception table ===== -/
section VXS
variable {p : Program} {l : Launch} {e : Env} {R : Room} {s : State} {m : MethodId} {args : Array Value} {below : List Frame} {meth : Method} {c : Code} {T : State} {H : Heap} {locs : List Loc} {cells slots : Nat}
abbrev vx_CSW (R : Room) (s : State) (args : Array Value) (own : String) (index : Nat) (y : MethodName) (bytes : ByteArray) (maxL : Nat) (ret : Option FieldType) (hh : List (Nat × Nat × Nat × Nat)) (ws : List Cond) (rm : Room) (mc ms n : Nat) : Prop :=
  (rm.cells = mc ∧ rm.slots = ms ∧ rm.frames + 1 ≤ R.frames ∧ 8 + (maxL + 11) + rm.locals ≤ R.locals ∧ (∀ w ∈ ws, ∀ (a' : Array Value) (U : State), s.WarmedH U.vm → w.before a' U = true) ∧ Cond.codeWith y bytes maxL ret hh ∈ ws) ∧
  (Cond.codeWith y bytes maxL ret hh).before args s = true ∧ (Cond.initialized y.cls).before args s = true ∧ (y.cls ≠ "java/lang/invoke/MethodHandle" ∧ y.cls ≠ "java/lang/invoke/VarHandle") ∧
  (∀ sig, parseMethodDescriptor y.desc = some sig → n = sig.parameters.length) ∧ (Cond.methodLink own index y).before args s = true ∧ (Cond.static y).before args s = true
theorem vx_cwSW {own : String} {index maxL mc ms : Nat} {y : MethodName} {bytes : ByteArray} {ret : Option FieldType} {hh : List (Nat × Nat × Nat × Nat)} {Ts ws ws' : List Cond} {rm : Room} (n : Nat) (ht : ∀ w ∈ Ts, w.before args s = true) (hT : GoodIn Ts (va_wsS own index y ws)) (hw : ws = Cond.codeWith y bytes maxL ret hh :: ws') (hrc : rm.cells = mc) (hrs : rm.slots = ms)
    (hd : y.cls ≠ "java/lang/invoke/MethodHandle" ∧ y.cls ≠ "java/lang/invoke/VarHandle" ∧ (parseMethodDescriptor y.desc).map (fun d => d.parameters.length) = some n) (hR : rm.frames + 1 ≤ R.frames ∧ 8 + (maxL + 11) + rm.locals ≤ R.locals) :
    vx_CSW R s args own index y bytes maxL ret hh ws rm mc ms n := by
  have ok : ∀ w ∈ va_wsS own index y ws, w.before args s = true := fun w h => ht w (hT w h).1
  have hG : GoodIn Ts ws := fun w h => hT w (by unfold va_wsS; exact List.mem_append_right _ h)
  have hc : Cond.codeWith y bytes maxL ret hh ∈ ws := by rw [hw]; exact List.mem_cons_self
  refine ⟨⟨hrc, hrs, hR.1, hR.2, pay_in ht hG, hc⟩, ht _ (hG _ hc).1, ok _ (by simp [va_wsS]), ⟨hd.1, hd.2.1⟩, fun sig h => ?_, ok _ (by simp [va_wsS]), ok _ (by simp [va_wsS])⟩
  have h2 := hd.2.2
  rw [h] at h2
  exact (Option.some.inj h2).symm
theorem vx_callSW (X : Stand p l e R s m args below meth c T locs cells slots) (hexec : p.tables.exec = Jvm.exec) {own : String} {index : Nat} {y : MethodName} {bytes : ByteArray} {maxL : Nat} {ret : Option FieldType} {hh : List (Nat × Nat × Nat × Nat)}
    (hown : s.vm.findClass own = some m.cls) (hlink : (Cond.methodLink own index y).before args s = true) (hstat : (Cond.static y).before args s = true) (hinit : (Cond.initialized y.cls).before args s = true)
    (hcode : (Cond.codeWith y bytes maxL ret hh).before args s = true) (hy : y.cls ≠ "java/lang/invoke/MethodHandle" ∧ y.cls ≠ "java/lang/invoke/VarHandle")
    {W9 : Nat} {Pre : Pt → Array Value → Prop} {Post : Pt → Array Value → Option Value → Pt → Prop} (hK : Back l R p e below s args y 3 W9 Pre Post)
    {g : JFrame} (hg : g.method = m) (hsize : g.locals.size = c.maxLocals) {argsL rest : List Value} (hlen : ∀ sig, parseMethodDescriptor y.desc = some sig → argsL.length = sig.parameters.length)
    (hstack : g.stack = argsL.reverse ++ rest) (hW : 2 * g.monitorRoom + (rest.map fun v => v.category).sum ≤ W9) (hdg : decode c.code g.pc = .ok (.invokestatic index, 3))
    (hpre : ∀ vm₁, s.WarmedH vm₁ → Pre ⟨T.setVm vm₁, locs, cells, slots⟩ argsL.toArray) :
    ∃ (v : Option Value) (vm₁ : Vm) (B : Pt), s.WarmedH vm₁ ∧ Stand p l e R s m args below meth c B.U B.locs B.cells B.slots ∧ Post ⟨T.setVm vm₁, locs, cells, slots⟩ argsL.toArray v B ∧
      ∀ target, Steps p.tables e below (B.U.setTop { g with pc := g.pc + 3, stack := v.toList ++ rest }) target → Steps p.tables e below (T.setTop g) target := by
  obtain ⟨mk, methM, cM, hnamed, hmethM, -, -, -, -, -, -, hsigM⟩ := Cond.codeWith_spec hcode
  have hstatic : methM.isStatic = true := Cond.static_spec hnamed hmethM hstat
  obtain ⟨kP, hkP, -⟩ := className_of_methodNamed hnamed
  have hinitP : kP.init = .initialized := Cond.initialized_spec (findClass_of_methodNamed hnamed) hkP hinit
  obtain ⟨vm₁, X₁, hstep₁⟩ := X.invokestatic hexec hown hlink hnamed hmethM hstatic hkP hinitP hy (g := g) hg (argsL := argsL) (rest := rest) (hlen _ hsigM) hstack hdg
  obtain ⟨v, B, X', hpost, hsteps⟩ := hK m meth c ⟨T.setVm vm₁, locs, cells, slots⟩ { g with stack := rest } (.invokestatic index) mk argsL.toArray X₁ hg hsize hdg hW (X₁.named hnamed) (hpre vm₁ X₁.warmed)
  exact ⟨v, vm₁, B, X₁.warmed, X', hpost, fun target h => hstep₁ _ fun acts => by rw [doInvoke_state]; exact hsteps.trans h⟩
theorem vx_runSW {y : MethodName} {bytes cc : ByteArray} {maxL nL mc ms n index : Nat} {ret : Option FieldType} {hh : List (Nat × Nat × Nat × Nat)} {ws : List Cond} {rm : Room} {Pc : Array Value → State → Prop} {Qc : Array Value → State → Outcome → State → Prop} {free : Addr → Prop} {Ts : List Cond} {own : String} {As rest : List Value} {g : JFrame}
    (S : CallFix p m c cc nL s args Ts own) (hM : Met l y ws rm Pc Qc mc ms free) (cw : vx_CSW R s args own index y bytes maxL ret hh ws rm mc ms n) (hp : PreS s H Pc As)
    (hg : g.method = m) (hn : As.length = n) (hsize : g.locals.size = nL) (hstack : g.stack = As.reverse ++ rest) (hW : 2 * g.monitorRoom + (rest.map fun v => v.category).sum ≤ 8) (hdg : decode cc g.pc = .ok (.invokestatic index, 3)) (hf : cells + mc ≤ R.cells ∧ slots + ms ≤ R.slots) :
    va_Run p l e R s m args below meth c H locs cells slots mc ms g rest (Qc As.toArray) (free) := by
  obtain ⟨⟨hrc, hrs, hfr, hlo, hws, hcw⟩, hcode, hini, hy, hlen, hl, hstt⟩ := cw
  have hK : Back l R p e below s args y 3 8 (PreOf R mc ms Pc) (PostOf Qc mc ms free) := va_backW (hh := hh) (bytes := bytes) (maxL := maxL) (ret := ret) hM hp.1 hrc hrs hfr hlo hws hcw (fun a' U hW => word_at hW (Or.inl (by first | rfl | simp [Cond.onTables, Cond.keeps, Cond.steady])) hini)
  obtain ⟨hx, hb, hml, ho, -⟩ := S
  intro T hT X
  obtain ⟨v, vm₁, ⟨U', l2, c2, s2⟩, hW₁, X', ⟨g', mk, t, L, e1, e2, hq, h1, hL, h2, h3⟩, st⟩ := vx_callSW X hx (hh := hh) (bytes := bytes) (maxL := maxL) (ret := ret) ho hl hstt hini hcode hy hK hg (hsize.trans hml.symm) (argsL := As) (rest := rest) (fun sig h => hn.trans (hlen sig h)) hstack hW (by rw [hb]; exact hdg)
    (fun vm₁ hW₁ => ⟨hf.1, hf.2, hp.2 (T.setVm vm₁) hT hW₁⟩)
  dsimp only [Pt.U, Pt.locs, Pt.cells, Pt.slots] at X' e1 e2 h1 h2 h3 st
  subst h1; subst h2; subst h3
  exact ⟨v, (T.setVm vm₁).calling g' mk As.toArray, t, U', L, hT, X', hL, e1, e2, hq, st⟩
/-- not caught here, past rows that name other classes: it goes on to the caller -/
theorem vx_outP {p : Program} {l : Launch} {e : Env} {R : Room} {s : State} {m : MethodId} {args : Array Value} {below : List Frame} {meth : Method} {c : Code} {H : Heap} {locs : List Loc} {cells slots : Nat} {free : Addr → Prop} {ls : Array Slot} {rest : List Value} {Qc : Array Value → State → Outcome → State → Prop} {XC : String → State → State → Prop}
    {pc : Nat} {own E : String} {ce : Cell} {q : Addr} {mc ms : Nat} (hown : s.vm.findClass own = some m.cls) (hlocks : meth.locks = false)
    (hpass : ∀ z ∈ c.exceptionTable.toList, covers z pc = false ∨ (z.catchType ≠ 0 ∧ ∃ nm : String, (Cond.classLink own z.catchType nm).before args s = true ∧ va_Nc E nm s)) (hcell : H[q]? = some ce) (hv : ce.vm = .none) (hcl : s.vm.findClass E = some ce.cls)
    (hx : ∀ t : State, t.heap = H → s.vm.Alike t.vm → XC E s t) (hf : ∀ z ∈ locs, free z.base) (hc : cells ≤ mc) (hs : slots ≤ ms) :
    vx_W p l e R s m args below meth c H locs cells slots (vx_MQ below Qc XC args s mc ms free) (F0 m pc ls rest) q := by
  intro T hT X
  have hpl : e.platform.magicAccessors = ({} : Platform).magicAccessors := by rw [X.admits.platform]
  obtain ⟨vm', hW', X', st⟩ := X.outThrough hlocks q (g := F0 m pc ls rest) rfl rfl rfl (cell := ce) (by rw [hT]; exact hcell) (by rw [hv]; rfl)
    (by obtain ⟨k9, h9, -⟩ := Vm.findClass_spec hcl; exact ⟨k9, h9⟩) (fun z hz => by
      rcases hpass z hz with h | ⟨hz0, nm, hl1, hn1⟩
      · exact Or.inl h
      · obtain ⟨c6, hc6, hcl6⟩ := Cond.classLink_spec hown hl1 e.platform hpl
        obtain ⟨a8, b8, h1, h2, h3⟩ := hn1
        cases Option.some.inj (h1.symm.trans hcl)
        cases Option.some.inj (h2.symm.trans hc6)
        exact Or.inr ⟨hz0, _, hcl6, h3⟩)
  obtain ⟨g₀, hfr⟩ := X'.frames_eq
  have hcell9 : ((T.setVm vm').setFrames (.throwing q :: below)).heap[q]? = some ce := by
    show T.heap[q]? = some ce
    rw [hT]; exact hcell
  have hend : Ended ((T.setVm vm').setFrames (.throwing q :: below)) below (.threw q) := State.frames_setFrames _ (State.cur_lt_of_frames hfr)
  refine ⟨(T.setVm vm').setFrames (.throwing q :: below), ?_, .threw q, X'.here.running, hend, Or.inr ⟨q, rfl, E, ce, locs, hx _ hT (X'.ends _).1.alike, hcell9, hv, hcl, (X'.ends _).1, (X'.ends _).2.mono hc hs, hf⟩⟩
  rw [X.pushThrowing_eq]
  exact st
/-- a thing of a world lies in the heap -/
theorem vx_lt {D : va_G} {cl : List vw_C} {ws : va_W} {H1 : Heap} (h : va_P D cl ws H1) {k : Nat} {q : Nat × va_E} (hk : ws[k]? = some q) : q.1 < H1.size := (h k q hk).lt
end VXS
/-! ===== END ===== -/
/-! ===== BEGIN methods with a table of their own: called by a name, returning or throwing ===== -/
section VXH
/-! vx_backW, vx_callVX, vx_callSX, vx_callVW, vx_runVW, vx_runVX, vx_runSX, vx_ofWH follow the same proofs as their sisters above (Free/Laws.lean, Shelf42/LK1.lean); vx_outP calls Shelf42/NT130.lean (outThrough). -/
section
variable {l : Launch} {R : Room} {p : Program} {e : Env} {below : List Frame} {s : State} {sargs : Array Value} {y : MethodName} {len W9 : Nat}
theorem vx_backW {ws : List Cond} {rm : Room} {Pc : Array Value → State → Prop} {Qc : Array Value → State → Outcome → State → Prop} {XC : String → State → State → Prop} {mc ms : Nat} {free : Addr → Prop} {bytes : ByteArray} {maxL : Nat} {ret : Option FieldType} {hh : List (Nat × Nat × Nat × Nat)}
    (hM : vx_Met l y ws rm Pc Qc XC mc ms free) (hblind : FrameBlind Pc) (hrc : rm.cells = mc) (hrs : rm.slots = ms)
    (hframes : rm.frames + 1 ≤ R.frames) (hlocals : W9 + (maxL + 11) + rm.locals ≤ R.locals)
    (hws : ∀ w ∈ ws, ∀ a' U, s.WarmedH U.vm → w.before a' U = true) (hcode : Cond.codeWith y bytes maxL ret hh ∈ ws) (hinit : ∀ a' U, s.WarmedH U.vm → (Cond.initialized y.cls).before a' U = true) :
    vx_Back l R p e below s sargs y len W9 (PreOf R mc ms Pc) (PostOf Qc mc ms free) (vx_Post XC mc ms free) := by
  intro m meth c A g ig mk a X hg hsize hdg hW hn hp
  have h1 : (headSpec ws rm).pre.before a A.U = true := atoms_intro fun w hw => hws w hw _ _ X.warmed
  have h2 : (Cond.codeWith y bytes maxL ret hh).before a A.U = true := hws _ hcode _ _ X.warmed
  have h3 : (Cond.initialized y.cls).before a A.U = true := hinit _ _ X.warmed
  have h4 : A.cells + (headSpec ws rm).room.cells ≤ R.cells := by rw [show (headSpec ws rm).room.cells = mc from hrc]; exact hp.1
  have h5 : A.slots + (headSpec ws rm).room.slots ≤ R.slots := by rw [show (headSpec ws rm).room.slots = ms from hrs]; exact hp.2.1
  have hPc : Pc a (A.U.calling g mk a) := hblind _ _ _ _ hp.2.2
  obtain ⟨U, Ls, c0, s0⟩ := A
  dsimp only [Pt.U, Pt.locs, Pt.cells, Pt.slots] at h1 h2 h3 h4 h5 X hn hPc ⊢
  obtain ⟨m9, methY, cY, hn9, hmY, hcY, -, hlY, -⟩ := Cond.codeWith_spec h2
  cases Option.some.inj (hn9.symm.trans hn)
  obtain ⟨kY, hkY, -⟩ := className_of_methodNamed hn
  have hinitY : kY.init = .initialized := Cond.initialized_spec (findClass_of_methodNamed hn) hkY h3
  have h : At U g.method c below := by rw [hg]; exact X.here
  have hlocals9 : W9 + (maxL + 11) + (headSpec ws rm).room.locals ≤ R.locals := hlocals
  have happ : (headSpec ws rm).appliesLoose y e.platform (U.calling g mk a) = true :=
    Spec.appliesLoose_calling (g := g) h hdg hn hkY hinitY
      (X.room_calling (g := g) (R' := (headSpec ws rm).room) hsize hmY hcY hframes (by rw [hlY]; omega) h4 h5) h1
  obtain ⟨mid, hmid⟩ := h.above
  have hfr : (U.setTop g).frames = (.java g :: mid) ++ below := by rw [State.frames_setTop' g h.top, hmid]; rfl
  obtain ⟨o, s₂, hsteps, -, hend, hq⟩ := Steps.callFree hM p X.admits X.cas X.clock (acts := []) hfr happ hPc trivial
  have hq' : vx_Q Qc XC mc ms free a (U.calling g mk a) o s₂ := hq
  rw [State.frames_setTop' g h.top] at hend
  obtain ⟨g₀, hg0⟩ := Option.isSome_iff_exists.mp h.top
  obtain ⟨r, hr⟩ := State.topJava?_eq_some.mp hg0
  have hr' : (({ U with heap := s₂.heap, slotsUsed := s₂.slotsUsed } : State).setVm s₂.vm).frames = .java g₀ :: r := hr
  rcases hq' with ⟨hqc, L, hfe, hL⟩ | ⟨q, rfl, E, ce, L, hx, hce, hcv, hcl, hW₂, hsm, hL⟩
  · obtain ⟨⟨v, rfl⟩, hW₂, e2, q2, q3, q4, q5, q6⟩ := id hfe
    have e3 : s₂ = ({ (U.calling g mk a).setFrames s₂.frames with heap := s₂.heap, slotsUsed := s₂.slotsUsed } : State).setVm s₂.vm := by
      have : s₂ = ({ s₂ with vm := (U.calling g mk a).vm } : State).setVm s₂.vm := rfl
      rw [e2] at this
      exact this
    obtain ⟨c₂, i₂, len₂, hc₂, hd₂, hf₂⟩ := hend
    have hW' : U.WarmedH s₂.vm := hW₂
    have hcc : c₂ = c := by
      have h1 : s₂.code? g.method = U.code? g.method := by
        rw [State.code?_eq, State.code?_eq, hW'.alike.method?]
      exact Option.some.inj (hc₂.symm.trans (h1.trans h.code))
    subst hcc
    have hlen : len₂ = len := by rw [hdg] at hd₂; cases hd₂; rfl
    subst hlen
    have hs₂ : s₂ = (({ U with heap := s₂.heap, slotsUsed := s₂.slotsUsed } : State).setVm s₂.vm).setTop { g with pc := g.pc + len₂, stack := v.toList ++ g.stack } := by
      refine e3.trans ?_
      rw [hf₂, State.calling_eq h.top, State.setFrames_setFrames, State.setTop_of_frames _ hr', hr]
      rfl
    have hsame : U.sameButNew ({ U with heap := s₂.heap, slotsUsed := s₂.slotsUsed } : State) L mc ms := by
      refine ⟨?_, q2, q3, q4, q5, q6⟩
      obtain ⟨t, ht, -⟩ := State.frames_cons hr
      show ({ U with heap := s₂.heap, slotsUsed := s₂.slotsUsed } : State) = { U.setFrames U.frames with heap := s₂.heap, slotsUsed := s₂.slotsUsed }
      rw [State.setFrames_self ht]
    subst hg
    refine Or.inl ⟨v, ⟨(({ U with heap := s₂.heap, slotsUsed := s₂.slotsUsed } : State).setVm s₂.vm), Ls ++ L, c0 + mc, s0 + ms⟩,
      ⟨X.admits, X.cas, X.clock, X.frames, X.room, X.hears, X.method, X.code, (X.here.setHeapUsed s₂.heap s₂.slotsUsed).setVm hW'.alike, X.tail, State.WarmedH.trans X.warmed hW', X.limits, X.bytes, X.same.trans (hsame.setVm s.vm)⟩,
      ⟨g, mk, s₂, L, rfl, rfl, hqc, rfl, hL, rfl, rfl⟩, ?_⟩
    show Steps p.tables e below _ ((({ U with heap := s₂.heap, slotsUsed := s₂.slotsUsed } : State).setVm s₂.vm).setTop { g with pc := g.pc + len₂, stack := v.toList ++ g.stack })
    rw [← hs₂]
    exact hsteps
  · obtain ⟨e2, q2, q3, q4, q5, q6⟩ := id hsm
    have e3 : s₂ = ({ (U.calling g mk a).setFrames s₂.frames with heap := s₂.heap, slotsUsed := s₂.slotsUsed } : State).setVm s₂.vm := by
      have : s₂ = ({ s₂ with vm := (U.calling g mk a).vm } : State).setVm s₂.vm := rfl
      rw [e2] at this
      exact this
    have hf₂ : s₂.frames = .throwing q :: .java g :: U.frames.tail := hend
    have hW' : U.WarmedH s₂.vm := hW₂
    have hs₂ : s₂ = ((({ U with heap := s₂.heap, slotsUsed := s₂.slotsUsed } : State).setVm s₂.vm).setTop g).pushFrame (.throwing q) := by
      refine e3.trans ?_
      rw [hf₂, State.calling_eq h.top, State.setFrames_setFrames, State.pushFrame, State.frames_setTop _ hr', State.setTop_of_frames _ hr', State.setFrames_setFrames, hr]
      rfl
    have hsame : U.sameButNew ({ U with heap := s₂.heap, slotsUsed := s₂.slotsUsed } : State) L mc ms := by
      refine ⟨?_, q2, q3, q4, q5, q6⟩
      obtain ⟨t, ht, -⟩ := State.frames_cons hr
      show ({ U with heap := s₂.heap, slotsUsed := s₂.slotsUsed } : State) = { U.setFrames U.frames with heap := s₂.heap, slotsUsed := s₂.slotsUsed }
      rw [State.setFrames_self ht]
    subst hg
    refine Or.inr ⟨q, ⟨(({ U with heap := s₂.heap, slotsUsed := s₂.slotsUsed } : State).setVm s₂.vm), Ls ++ L, c0 + mc, s0 + ms⟩,
      ⟨X.admits, X.cas, X.clock, X.frames, X.room, X.hears, X.method, X.code, (X.here.setHeapUsed s₂.heap s₂.slotsUsed).setVm hW'.alike, X.tail, State.WarmedH.trans X.warmed hW', X.limits, X.bytes, X.same.trans (hsame.setVm s.vm)⟩,
      ⟨g, mk, s₂, L, E, ce, rfl, rfl, hx, hce, hcv, hcl, rfl, hL, rfl, rfl⟩, ?_⟩
    show Steps p.tables e below _ (((({ U with heap := s₂.heap, slotsUsed := s₂.slotsUsed } : State).setVm s₂.vm).setTop g).pushFrame (.throwing q))
    rw [← hs₂]
    exact hsteps
end
variable {p : Program} {l : Launch} {e : Env} {R : Room} {s : State} {m : MethodId} {args : Array Value} {below : List Frame} {meth : Method} {c : Code} {T : State} {H : Heap} {locs : List Loc} {cells slots : Nat}
theorem vx_callVX (X : Stand p l e R s m args below meth c T locs cells slots) (hexec : p.tables.exec = Jvm.exec) {own C : String} {index : Nat} {y : MethodName} {bytes : ByteArray} {maxL : Nat} {ret : Option FieldType} {hh : List (Nat × Nat × Nat × Nat)}
    (hown : s.vm.findClass own = some m.cls) (hlink : (Cond.methodLink own index y).before args s = true) (hinst : (Cond.instanceMethod y).before args s = true) (hsel : (Cond.selects C y y).before args s = true)
    (hcode : (Cond.codeWith y bytes maxL ret hh).before args s = true) (hy : y.cls ≠ "java/lang/invoke/MethodHandle" ∧ y.cls ≠ "java/lang/invoke/VarHandle")
    {W9 : Nat} {Pre : Pt → Array Value → Prop} {Post : Pt → Array Value → Option Value → Pt → Prop} {PostX : Pt → Array Value → Addr → Pt → Prop} (hK : vx_Back l R p e below s args y 3 W9 Pre Post PostX)
    {b : Addr} {cellB : Cell} (hcell : T.heap[b]? = some cellB) (hobj : cellB.vm.isStatics = false) (hcls : s.vm.findClass C = some cellB.cls)
    {g : JFrame} (hg : g.method = m) (hsize : g.locals.size = c.maxLocals) {argsL rest : List Value} (hlen : ∀ sig, parseMethodDescriptor y.desc = some sig → argsL.length = sig.parameters.length)
    (hstack : g.stack = argsL.reverse ++ .ref b :: rest) (hW : 2 * g.monitorRoom + (rest.map fun v => v.category).sum ≤ W9) (hdg : decode c.code g.pc = .ok (.invokevirtual index, 3))
    (hpre : ∀ vm₁, s.WarmedH vm₁ → Pre ⟨T.setVm vm₁, locs, cells, slots⟩ (Value.ref b :: argsL).toArray) :
    (∃ (v : Option Value) (vm₁ : Vm) (B : Pt), s.WarmedH vm₁ ∧ Stand p l e R s m args below meth c B.U B.locs B.cells B.slots ∧ Post ⟨T.setVm vm₁, locs, cells, slots⟩ (Value.ref b :: argsL).toArray v B ∧
      ∀ target, Steps p.tables e below (B.U.setTop { g with pc := g.pc + 3, stack := v.toList ++ rest }) target → Steps p.tables e below (T.setTop g) target) ∨
    (∃ (q : Addr) (vm₁ : Vm) (B : Pt), s.WarmedH vm₁ ∧ Stand p l e R s m args below meth c B.U B.locs B.cells B.slots ∧ PostX ⟨T.setVm vm₁, locs, cells, slots⟩ (Value.ref b :: argsL).toArray q B ∧
      Steps p.tables e below (T.setTop g) ((B.U.setTop { g with stack := rest }).pushFrame (.throwing q))) := by
  obtain ⟨mk, methM, hnamed, hmethM, hstM, habM⟩ := Cond.instanceMethod_spec hinst
  obtain ⟨m8, methM', cM, hn8, hmethM', -, -, -, -, -, -, hsigM⟩ := Cond.codeWith_spec hcode
  cases Option.some.inj (hn8.symm.trans hnamed)
  cases hmethM.symm.trans hmethM'
  obtain ⟨c2, r2, m2, q1, q2, q3, q4, kP, hkP, hkPi⟩ := Cond.selects_spec hsel
  cases hcls.symm.trans q1
  cases (State.methodFound?_of_named hnamed hy).symm.trans q2
  cases hnamed.symm.trans q3
  have hselP : selectMethod e.platform s.vm cellB.cls mk = .method mk := by rw [Launch.admits_selectMethod X.admits]; exact q4
  obtain ⟨vm₁, X₁, hstep₁⟩ := X.invokevirtual hexec hown hlink hnamed hmethM hstM hkP hkPi hy (a := b) (cell := cellB) hcell
    (fun z h => by rw [h] at hobj; cases hobj) hselP hmethM habM hkP hkPi (g := g) hg (argsL := argsL) (rest := rest) (hlen _ hsigM) hstack hdg
  rcases hK m meth c ⟨T.setVm vm₁, locs, cells, slots⟩ { g with stack := rest } (.invokevirtual index) mk (Value.ref b :: argsL).toArray X₁ hg hsize hdg hW (X₁.named hnamed) (hpre vm₁ X₁.warmed) with ⟨v, B, X', hpost, hsteps⟩ | ⟨q, B, X', hpost, hsteps⟩
  · exact Or.inl ⟨v, vm₁, B, X₁.warmed, X', hpost, fun target h => hstep₁ _ fun acts => by rw [doInvoke_state]; exact hsteps.trans h⟩
  · exact Or.inr ⟨q, vm₁, B, X₁.warmed, X', hpost, hstep₁ _ fun acts => by rw [doInvoke_state]; exact hsteps⟩
theorem vx_callSX (X : Stand p l e R s m args below meth c T locs cells slots) (hexec : p.tables.exec = Jvm.exec) {own : String} {index : Nat} {y : MethodName} {bytes : ByteArray} {maxL : Nat} {ret : Option FieldType} {hh : List (Nat × Nat × Nat × Nat)}
    (hown : s.vm.findClass own = some m.cls) (hlink : (Cond.methodLink own index y).before args s = true) (hstat : (Cond.static y).before args s = true) (hinit : (Cond.initialized y.cls).before args s = true)
    (hcode : (Cond.codeWith y bytes maxL ret hh).before args s = true) (hy : y.cls ≠ "java/lang/invoke/MethodHandle" ∧ y.cls ≠ "java/lang/invoke/VarHandle")
    {W9 : Nat} {Pre : Pt → Array Value → Prop} {Post : Pt → Array Value → Option Value → Pt → Prop} {PostX : Pt → Array Value → Addr → Pt → Prop} (hK : vx_Back l R p e below s args y 3 W9 Pre Post PostX)
    {g : JFrame} (hg : g.method = m) (hsize : g.locals.size = c.maxLocals) {argsL rest : List Value} (hlen : ∀ sig, parseMethodDescriptor y.desc = some sig → argsL.length = sig.parameters.length)
    (hstack : g.stack = argsL.reverse ++ rest) (hW : 2 * g.monitorRoom + (rest.map fun v => v.category).sum ≤ W9) (hdg : decode c.code g.pc = .ok (.invokestatic index, 3))
    (hpre : ∀ vm₁, s.WarmedH vm₁ → Pre ⟨T.setVm vm₁, locs, cells, slots⟩ argsL.toArray) :
    (∃ (v : Option Value) (vm₁ : Vm) (B : Pt), s.WarmedH vm₁ ∧ Stand p l e R s m args below meth c B.U B.locs B.cells B.slots ∧ Post ⟨T.setVm vm₁, locs, cells, slots⟩ argsL.toArray v B ∧
      ∀ target, Steps p.tables e below (B.U.setTop { g with pc := g.pc + 3, stack := v.toList ++ rest }) target → Steps p.tables e below (T.setTop g) target) ∨
    (∃ (q : Addr) (vm₁ : Vm) (B : Pt), s.WarmedH vm₁ ∧ Stand p l e R s m args below meth c B.U B.locs B.cells B.slots ∧ PostX ⟨T.setVm vm₁, locs, cells, slots⟩ argsL.toArray q B ∧
      Steps p.tables e below (T.setTop g) ((B.U.setTop { g with stack := rest }).pushFrame (.throwing q))) := by
  obtain ⟨mk, methM, cM, hnamed, hmethM, -, -, -, -, -, -, hsigM⟩ := Cond.codeWith_spec hcode
  have hstatic : methM.isStatic = true := Cond.static_spec hnamed hmethM hstat
  obtain ⟨kP, hkP, -⟩ := className_of_methodNamed hnamed
  have hinitP : kP.init = .initialized := Cond.initialized_spec (findClass_of_methodNamed hnamed) hkP hinit
  obtain ⟨vm₁, X₁, hstep₁⟩ := X.invokestatic hexec hown hlink hnamed hmethM hstatic hkP hinitP hy (g := g) hg (argsL := argsL) (rest := rest) (hlen _ hsigM) hstack hdg
  rcases hK m meth c ⟨T.setVm vm₁, locs, cells, slots⟩ { g with stack := rest } (.invokestatic index) mk argsL.toArray X₁ hg hsize hdg hW (X₁.named hnamed) (hpre vm₁ X₁.warmed) with ⟨v, B, X', hpost, hsteps⟩ | ⟨q, B, X', hpost, hsteps⟩
  · exact Or.inl ⟨v, vm₁, B, X₁.warmed, X', hpost, fun target h => hstep₁ _ fun acts => by rw [doInvoke_state]; exact hsteps.trans h⟩
  · exact Or.inr ⟨q, vm₁, B, X₁.warmed, X', hpost, hstep₁ _ fun acts => by rw [doInvoke_state]; exact hsteps⟩
theorem vx_callVW (X : Stand p l e R s m args below meth c T locs cells slots) (hexec : p.tables.exec = Jvm.exec) {own C : String} {index : Nat} {y : MethodName} {bytes : ByteArray} {maxL : Nat} {ret : Option FieldType} {hh : List (Nat × Nat × Nat × Nat)}
    (hown : s.vm.findClass own = some m.cls) (hlink : (Cond.methodLink own index y).before args s = true) (hinst : (Cond.instanceMethod y).before args s = true) (hsel : (Cond.selects C y y).before args s = true)
    (hcode : (Cond.codeWith y bytes maxL ret hh).before args s = true) (hy : y.cls ≠ "java/lang/invoke/MethodHandle" ∧ y.cls ≠ "java/lang/invoke/VarHandle")
    {W9 : Nat} {Pre : Pt → Array Value → Prop} {Post : Pt → Array Value → Option Value → Pt → Prop} (hK : Back l R p e below s args y 3 W9 Pre Post)
    {b : Addr} {cellB : Cell} (hcell : T.heap[b]? = some cellB) (hobj : cellB.vm.isStatics = false) (hcls : s.vm.findClass C = some cellB.cls)
    {g : JFrame} (hg : g.method = m) (hsize : g.locals.size = c.maxLocals) {argsL rest : List Value} (hlen : ∀ sig, parseMethodDescriptor y.desc = some sig → argsL.length = sig.parameters.length)
    (hstack : g.stack = argsL.reverse ++ .ref b :: rest) (hW : 2 * g.monitorRoom + (rest.map fun v => v.category).sum ≤ W9) (hdg : decode c.code g.pc = .ok (.invokevirtual index, 3))
    (hpre : ∀ vm₁, s.WarmedH vm₁ → Pre ⟨T.setVm vm₁, locs, cells, slots⟩ (Value.ref b :: argsL).toArray) :
    ∃ (v : Option Value) (vm₁ : Vm) (B : Pt), s.WarmedH vm₁ ∧ Stand p l e R s m args below meth c B.U B.locs B.cells B.slots ∧ Post ⟨T.setVm vm₁, locs, cells, slots⟩ (Value.ref b :: argsL).toArray v B ∧
      ∀ target, Steps p.tables e below (B.U.setTop { g with pc := g.pc + 3, stack := v.toList ++ rest }) target → Steps p.tables e below (T.setTop g) target := by
  obtain ⟨mk, methM, hnamed, hmethM, hstM, habM⟩ := Cond.instanceMethod_spec hinst
  obtain ⟨m8, methM', cM, hn8, hmethM', -, -, -, -, -, -, hsigM⟩ := Cond.codeWith_spec hcode
  cases Option.some.inj (hn8.symm.trans hnamed)
  cases hmethM.symm.trans hmethM'
  obtain ⟨c2, r2, m2, q1, q2, q3, q4, kP, hkP, hkPi⟩ := Cond.selects_spec hsel
  cases hcls.symm.trans q1
  cases (State.methodFound?_of_named hnamed hy).symm.trans q2
  cases hnamed.symm.trans q3
  have hselP : selectMethod e.platform s.vm cellB.cls mk = .method mk := by rw [Launch.admits_selectMethod X.admits]; exact q4
  obtain ⟨vm₁, X₁, hstep₁⟩ := X.invokevirtual hexec hown hlink hnamed hmethM hstM hkP hkPi hy (a := b) (cell := cellB) hcell
    (fun z h => by rw [h] at hobj; cases hobj) hselP hmethM habM hkP hkPi (g := g) hg (argsL := argsL) (rest := rest) (hlen _ hsigM) hstack hdg
  obtain ⟨v, B, X', hpost, hsteps⟩ := hK m meth c ⟨T.setVm vm₁, locs, cells, slots⟩ { g with stack := rest } (.invokevirtual index) mk (Value.ref b :: argsL).toArray X₁ hg hsize hdg hW (X₁.named hnamed) (hpre vm₁ X₁.warmed)
  exact ⟨v, vm₁, B, X₁.warmed, X', hpost, fun target h => hstep₁ _ fun acts => by rw [doInvoke_state]; exact hsteps.trans h⟩
abbrev vx_CVW (R : Room) (s : State) (args : Array Value) (own C : String) (index : Nat) (y : MethodName) (bytes : ByteArray) (maxL : Nat) (ret : Option FieldType) (hh : List (Nat × Nat × Nat × Nat)) (ws : List Cond) (rm : Room) (mc ms n : Nat) : Prop :=
  (rm.cells = mc ∧ rm.slots = ms ∧ rm.frames + 1 ≤ R.frames ∧ 8 + (maxL + 11) + rm.locals ≤ R.locals ∧ (∀ w ∈ ws, ∀ (a' : Array Value) (U : State), s.WarmedH U.vm → w.before a' U = true) ∧ Cond.codeWith y bytes maxL ret hh ∈ ws) ∧
  (Cond.codeWith y bytes maxL ret hh).before args s = true ∧ (Cond.initialized y.cls).before args s = true ∧ (y.cls ≠ "java/lang/invoke/MethodHandle" ∧ y.cls ≠ "java/lang/invoke/VarHandle") ∧
  (∀ sig, parseMethodDescriptor y.desc = some sig → n = sig.parameters.length) ∧ (Cond.methodLink own index y).before args s = true ∧ (Cond.instanceMethod y).before args s = true ∧ (Cond.selects C y y).before args s = true
theorem vx_cwVW {own C : String} {index maxL mc ms : Nat} {y : MethodName} {bytes : ByteArray} {ret : Option FieldType} {hh : List (Nat × Nat × Nat × Nat)} {Ts ws ws' : List Cond} {rm : Room} (n : Nat) (ht : ∀ w ∈ Ts, w.before args s = true) (hT : GoodIn Ts (wsV own index C y ws)) (hw : ws = Cond.codeWith y bytes maxL ret hh :: ws') (hrc : rm.cells = mc) (hrs : rm.slots = ms)
    (hd : y.cls = C ∧ y.cls ≠ "java/lang/invoke/MethodHandle" ∧ y.cls ≠ "java/lang/invoke/VarHandle" ∧ (parseMethodDescriptor y.desc).map (fun d => d.parameters.length) = some n) (hR : rm.frames + 1 ≤ R.frames ∧ 8 + (maxL + 11) + rm.locals ≤ R.locals) :
    vx_CVW R s args own C index y bytes maxL ret hh ws rm mc ms n := by
  obtain ⟨hC, hd⟩ := hd
  subst hC
  have ok : ∀ w ∈ wsV own index y.cls y ws, w.before args s = true := fun w h => ht w (hT w h).1
  have hG : GoodIn Ts ws := fun w h => hT w (by unfold wsV; exact List.mem_append_right _ h)
  have hc : Cond.codeWith y bytes maxL ret hh ∈ ws := by rw [hw]; exact List.mem_cons_self
  refine ⟨⟨hrc, hrs, hR.1, hR.2, pay_in ht hG, hc⟩, ht _ (hG _ hc).1, ok _ (by simp [wsV]), ⟨hd.1, hd.2.1⟩, fun sig h => ?_, ok _ (by simp [wsV]), ok _ (by simp [wsV]), ok _ (by simp [wsV])⟩
  have h2 := hd.2.2
  rw [h] at h2
  exact (Option.some.inj h2).symm
theorem vx_runVW {y : MethodName} {bytes cc : ByteArray} {maxL nL mc ms n index : Nat} {ret : Option FieldType} {hh : List (Nat × Nat × Nat × Nat)} {ws : List Cond} {rm : Room} {Pc : Array Value → State → Prop} {Qc : Array Value → State → Outcome → State → Prop} {free : Addr → Prop} {Ts : List Cond} {own C : String} {b : Addr} {As rest : List Value} {g : JFrame}
    (S : CallFix p m c cc nL s args Ts own) (hM : Met l y ws rm Pc Qc mc ms free) (cw : vx_CVW R s args own C index y bytes maxL ret hh ws rm mc ms n) (hp : PreV s H C b Pc As)
    (hg : g.method = m) (hn : As.length = n) (hsize : g.locals.size = nL) (hstack : g.stack = As.reverse ++ .ref b :: rest) (hW : 2 * g.monitorRoom + (rest.map fun v => v.category).sum ≤ 8) (hdg : decode cc g.pc = .ok (.invokevirtual index, 3)) (hf : cells + mc ≤ R.cells ∧ slots + ms ≤ R.slots) :
    va_Run p l e R s m args below meth c H locs cells slots mc ms g rest (Qc (Value.ref b :: As).toArray) free := by
  obtain ⟨⟨hrc, hrs, hfr, hlo, hws, hcw⟩, hcode, hini, hy, hlen, hl, hin, hse⟩ := cw
  have hK : Back l R p e below s args y 3 8 (PreOf R mc ms Pc) (PostOf Qc mc ms free) := va_backW (hh := hh) (bytes := bytes) (maxL := maxL) (ret := ret) hM hp.1 hrc hrs hfr hlo hws hcw (fun a' U hW => word_at hW (Or.inl (by first | rfl | simp [Cond.onTables, Cond.keeps, Cond.steady])) hini)
  obtain ⟨hx, hb, hml, ho, -⟩ := S
  obtain ⟨-, ⟨cellB, hcB, hoB, hclB⟩, hPc⟩ := hp
  intro T hT X
  obtain ⟨v, vm₁, ⟨U', l2, c2, s2⟩, hW₁, X', ⟨g', mk, t, L, e1, e2, hq, h1, hL, h2, h3⟩, st⟩ := vx_callVW X hx (C := C) (hh := hh) (bytes := bytes) (maxL := maxL) (ret := ret) ho hl hin hse hcode hy hK (by rw [hT]; exact hcB) hoB hclB hg (hsize.trans hml.symm) (argsL := As) (rest := rest) (fun sig h => hn.trans (hlen sig h)) hstack hW (by rw [hb]; exact hdg)
    (fun vm₁ hW₁ => ⟨hf.1, hf.2, hPc (T.setVm vm₁) hT hW₁⟩)
  dsimp only [Pt.U, Pt.locs, Pt.cells, Pt.slots] at X' e1 e2 h1 h2 h3 st
  subst h1; subst h2; subst h3
  exact ⟨v, (T.setVm vm₁).calling g' mk (Value.ref b :: As).toArray, t, U', L, hT, X', hL, e1, e2, hq, st⟩
section
variable {y : MethodName} {bytes cc : ByteArray} {maxL nL mc ms n index : Nat} {ret : Option FieldType} {ws : List Cond} {rm : Room} {Pc : Array Value → State → Prop} {Qc : Array Value → State → Outcome → State → Prop} {XC : String → State → State → Prop} {free : Addr → Prop} {Ts : List Cond} {own C : String} {b : Addr} {As rest : List Value} {g : JFrame}
theorem vx_runVX {hh : List (Nat × Nat × Nat × Nat)} (S : CallFix p m c cc nL s args Ts own) (hM : vx_Met l y ws rm Pc Qc XC mc ms free) (cw : vx_CVW R s args own C index y bytes maxL ret hh ws rm mc ms n) (hp : PreV s H C b Pc As)
    (hg : g.method = m) (hn : As.length = n) (hsize : g.locals.size = nL) (hstack : g.stack = As.reverse ++ .ref b :: rest) (hW : 2 * g.monitorRoom + (rest.map fun v => v.category).sum ≤ 8) (hdg : decode cc g.pc = .ok (.invokevirtual index, 3)) (hf : cells + mc ≤ R.cells ∧ slots + ms ≤ R.slots) :
    vx_Run p l e R s m args below meth c H locs cells slots mc ms g rest (Qc (Value.ref b :: As).toArray) XC free := by
  obtain ⟨⟨hrc, hrs, hfr, hlo, hws, hcw⟩, hcode, hini, hy, hlen, hl, hin, hse⟩ := cw
  have hK : vx_Back l R p e below s args y 3 8 (PreOf R mc ms Pc) (PostOf Qc mc ms free) (vx_Post XC mc ms free) := vx_backW (hh := hh) (bytes := bytes) (maxL := maxL) (ret := ret) hM hp.1 hrc hrs hfr hlo hws hcw (fun a' U hW => word_at hW (Or.inl (by first | rfl | simp [Cond.onTables, Cond.keeps, Cond.steady])) hini)
  obtain ⟨hx, hb, hml, ho, -⟩ := S
  obtain ⟨-, ⟨cellB, hcB, hoB, hclB⟩, hPc⟩ := hp
  intro T hT X
  rcases vx_callVX X hx (C := C) (hh := hh) (bytes := bytes) (maxL := maxL) (ret := ret) ho hl hin hse hcode hy hK (by rw [hT]; exact hcB) hoB hclB hg (hsize.trans hml.symm) (argsL := As) (rest := rest) (fun sig h => hn.trans (hlen sig h)) hstack hW (by rw [hb]; exact hdg)
    (fun vm₁ hW₁ => ⟨hf.1, hf.2, hPc (T.setVm vm₁) hT hW₁⟩) with ⟨v, vm₁, ⟨U', l2, c2, s2⟩, hW₁, X', ⟨g', mk, t, L, e1, e2, hq, h1, hL, h2, h3⟩, st⟩ | ⟨q, vm₁, ⟨U', l2, c2, s2⟩, hW₁, X', ⟨g', mk, t, L, E, ce, e1, e2, hq, hce, hcv, hcl, h1, hL, h2, h3⟩, st⟩
  · dsimp only [Pt.U, Pt.locs, Pt.cells, Pt.slots] at X' e1 e2 h1 h2 h3 st
    subst h1; subst h2; subst h3
    exact Or.inl ⟨v, (T.setVm vm₁).calling g' mk (Value.ref b :: As).toArray, t, U', L, hT, X', hL, e1, e2, hq, st⟩
  · dsimp only [Pt.U, Pt.locs, Pt.cells, Pt.slots] at X' e1 e2 h1 h2 h3 st hcl
    subst h1; subst h2; subst h3
    exact Or.inr ⟨q, (T.setVm vm₁).calling g' mk (Value.ref b :: As).toArray, t, U', L, E, ce, hT, X', hL, e1, e2, hq, hce, hcv, vx_cls hW₁ hcl, st⟩
theorem vx_runSX {hh : List (Nat × Nat × Nat × Nat)} (S : CallFix p m c cc nL s args Ts own) (hM : vx_Met l y ws rm Pc Qc XC mc ms free) (cw : vx_CSW R s args own index y bytes maxL ret hh ws rm mc ms n) (hp : PreS s H Pc As)
    (hg : g.method = m) (hn : As.length = n) (hsize : g.locals.size = nL) (hstack : g.stack = As.reverse ++ rest) (hW : 2 * g.monitorRoom + (rest.map fun v => v.category).sum ≤ 8) (hdg : decode cc g.pc = .ok (.invokestatic index, 3)) (hf : cells + mc ≤ R.cells ∧ slots + ms ≤ R.slots) :
    vx_Run p l e R s m args below meth c H locs cells slots mc ms g rest (Qc As.toArray) XC free := by
  obtain ⟨⟨hrc, hrs, hfr, hlo, hws, hcw⟩, hcode, hini, hy, hlen, hl, hstt⟩ := cw
  have hK : vx_Back l R p e below s args y 3 8 (PreOf R mc ms Pc) (PostOf Qc mc ms free) (vx_Post XC mc ms free) := vx_backW (hh := hh) (bytes := bytes) (maxL := maxL) (ret := ret) hM hp.1 hrc hrs hfr hlo hws hcw (fun a' U hW => word_at hW (Or.inl (by first | rfl | simp [Cond.onTables, Cond.keeps, Cond.steady])) hini)
  obtain ⟨hx, hb, hml, ho, -⟩ := S
  intro T hT X
  rcases vx_callSX X hx (hh := hh) (bytes := bytes) (maxL := maxL) (ret := ret) ho hl hstt hini hcode hy hK hg (hsize.trans hml.symm) (argsL := As) (rest := rest) (fun sig h => hn.trans (hlen sig h)) hstack hW (by rw [hb]; exact hdg)
    (fun vm₁ hW₁ => ⟨hf.1, hf.2, hp.2 (T.setVm vm₁) hT hW₁⟩) with ⟨v, vm₁, ⟨U', l2, c2, s2⟩, hW₁, X', ⟨g', mk, t, L, e1, e2, hq, h1, hL, h2, h3⟩, st⟩ | ⟨q, vm₁, ⟨U', l2, c2, s2⟩, hW₁, X', ⟨g', mk, t, L, E, ce, e1, e2, hq, hce, hcv, hcl, h1, hL, h2, h3⟩, st⟩
  · dsimp only [Pt.U, Pt.locs, Pt.cells, Pt.slots] at X' e1 e2 h1 h2 h3 st
    subst h1; subst h2; subst h3
    exact Or.inl ⟨v, (T.setVm vm₁).calling g' mk As.toArray, t, U', L, hT, X', hL, e1, e2, hq, st⟩
  · dsimp only [Pt.U, Pt.locs, Pt.cells, Pt.slots] at X' e1 e2 h1 h2 h3 st hcl
    subst h1; subst h2; subst h3
    exact Or.inr ⟨q, (T.setVm vm₁).calling g' mk As.toArray, t, U', L, E, ce, hT, X', hL, e1, e2, hq, hce, hcv, vx_cls hW₁ hcl, st⟩
end
end VXH
theorem vx_ofWH {l : Launch} {y : MethodName} {ws ws' : List Cond} {rm : Room} {Pc : Array Value → State → Prop} {Qc : Array Value → State → Outcome → State → Prop} {XC : String → State → State → Prop} {mc ms : Nat} {free : Addr → Prop} {cc : ByteArray} {maxL : Nat} {ret : Option FieldType} {hh : List (Nat × Nat × Nat × Nat)}
    (hy : plainName y.cls = true) (hw : ws = Cond.codeWith y cc maxL ret hh :: ws')
    (body : ∀ p e s m args below meth c s₁, BodyLoose p l y (headSpec ws rm) cc maxL ret e s m args below meth c s₁ → c.maxLocals = maxL → Pc args s →
      W p l e (headSpec ws rm).room s m args below meth c s.heap [] 0 0 (vx_MQ below Qc XC args s mc ms free) (entryFrame m args maxL)) : vx_Met l y ws rm Pc Qc XC mc ms free := by
  refine MetFree.of_bodyS (code := cc) (maxLocals := maxL) (ret := ret) hy ?_ ?_
  · intro args s m h hn
    obtain ⟨m9, meth, c, hn9, h1, h2, h3, h4, -, h5, h6, -⟩ := Cond.codeWith_spec (atoms_spec (ws := ws) h _ (by rw [hw]; exact List.mem_cons_self))
    cases hn.symm.trans hn9
    exact ⟨meth, c, h1, h2, h3, h4, h5, h6⟩
  · intro p e s m args below meth c s₁ B hml hP _
    have hh0 : s₁.heap = s.heap := by rw [B.state]; rfl
    obtain ⟨t, a1, o, b1, b2, b3⟩ := body p e s m args below meth c s₁ B hml hP s₁ hh0 (Stand.of_body B)
    exact ⟨t, o, a1, b1, b2, b3⟩
/-! ===== END ===== -/

/-! ===== BEGIN a constructor that throws (launches without stack traces) ===== -/
section VXIA
variable {p : Program} {l : Launch} {e : Env} {R : Room} {s : State} {m : MethodId} {args : Array Value} {below : List Frame} {meth : Method} {c : Code} {T : State} {locs : List Loc} {cells slots : Nat}
theorem vx_callI (X : Stand p l e R s m args below meth c T locs cells slots) (hexec : p.tables.exec = Jvm.exec) {own : String} {index : Nat} {y : MethodName} {bytes : ByteArray} {maxL : Nat}
    (hown : s.vm.findClass own = some m.cls) (hy1 : y.name = "<init>") (hlink : (Cond.methodLink own index y).before args s = true) (hinst : (Cond.instanceMethod y).before args s = true)
    (hcode : (Cond.code y bytes maxL none).before args s = true) (hy : y.cls ≠ "java/lang/invoke/MethodHandle" ∧ y.cls ≠ "java/lang/invoke/VarHandle")
    {W9 : Nat} {Pre : Pt → Array Value → Prop} {Post : Pt → Array Value → Option Value → Pt → Prop} {PostX : Pt → Array Value → Addr → Pt → Prop} (hK : vx_Back l R p e below s args y 3 W9 Pre Post PostX)
    {g : JFrame} (hg : g.method = m) (hsize : g.locals.size = c.maxLocals) {a : Addr} {argsL rest : List Value} (hlen : ∀ sig, parseMethodDescriptor y.desc = some sig → argsL.length = sig.parameters.length)
    (hstack : g.stack = argsL.reverse ++ .ref a :: rest) (hW : 2 * g.monitorRoom + (rest.map fun v => v.category).sum ≤ W9) (hdg : decode c.code g.pc = .ok (.invokespecial index, 3))
    (hpre : ∀ vm₁, s.WarmedH vm₁ → Pre ⟨T.setVm vm₁, locs, cells, slots⟩ (Value.ref a :: argsL).toArray) :
    (∃ (v : Option Value) (vm₁ : Vm) (B : Pt), s.WarmedH vm₁ ∧ Stand p l e R s m args below meth c B.U B.locs B.cells B.slots ∧ Post ⟨T.setVm vm₁, locs, cells, slots⟩ (Value.ref a :: argsL).toArray v B ∧
      ∀ target, Steps p.tables e below (B.U.setTop { g with pc := g.pc + 3, stack := v.toList ++ rest }) target → Steps p.tables e below (T.setTop g) target) ∨
    (∃ (q : Addr) (vm₁ : Vm) (B : Pt), s.WarmedH vm₁ ∧ Stand p l e R s m args below meth c B.U B.locs B.cells B.slots ∧ PostX ⟨T.setVm vm₁, locs, cells, slots⟩ (Value.ref a :: argsL).toArray q B ∧
      Steps p.tables e below (T.setTop g) ((B.U.setTop { g with stack := rest }).pushFrame (.throwing q))) := by
  subst hg
  have hpl : e.platform.magicAccessors = ({} : Platform).magicAccessors := by rw [X.admits.platform]
  obtain ⟨mk, methM, cM, kP, vm₁, hnamed, hmethM, hcodeM, -, hlocalsM, -, hkP, -, hW₁, hstep₁⟩ := Steps.initColdArgs (e := e) X.here hexec X.warmed hpl hown hy1 hy hlink hinst hcode (f := g) rfl hlen hstack hdg
  have X₁ := X.noted hW₁
  rcases hK g.method meth c ⟨T.setVm vm₁, locs, cells, slots⟩ { g with stack := rest } (.invokespecial index) mk (Value.ref a :: argsL).toArray X₁ rfl hsize hdg hW (X₁.named hnamed) (hpre vm₁ X₁.warmed) with ⟨v, B, X', hpost, hsteps⟩ | ⟨q, B, X', hpost, hsteps⟩
  · exact Or.inl ⟨v, vm₁, B, X₁.warmed, X', hpost, fun target h => hstep₁ _ fun acts => by rw [doInvoke_state]; exact hsteps.trans h⟩
  · exact Or.inr ⟨q, vm₁, B, X₁.warmed, X', hpost, hstep₁ _ fun acts => by rw [doInvoke_state]; exact hsteps⟩
end VXIA
section VXIB
variable {p : Program} {l : Launch} {e : Env} {R : Room} {s : State} {m : MethodId} {args : Array Value} {below : List Frame} {meth : Method} {c : Code} {H : Heap} {locs : List Loc} {cells slots : Nat}
variable {y : MethodName} {bytes cc : ByteArray} {maxL nL mc ms n index : Nat} {ret : Option FieldType} {ws : List Cond} {rm : Room} {Pc : Array Value → State → Prop} {Qc : Array Value → State → Outcome → State → Prop} {XC : String → State → State → Prop} {free : Addr → Prop} {Ts : List Cond} {own C : String} {b : Addr} {As rest : List Value} {g : JFrame}
theorem vx_runI (S : CallFix p m c cc nL s args Ts own) (hM : vx_Met l y ws rm Pc Qc XC mc ms free) (cw : CallB R s args own index y bytes maxL none ws rm mc ms n ∧ y.name = "<init>" ∧ (Cond.instanceMethod y).before args s = true) (hp : PreS s H Pc (.ref b :: As))
    (hg : g.method = m) (hn : As.length = n) (hsize : g.locals.size = nL) (hstack : g.stack = As.reverse ++ .ref b :: rest) (hW : 2 * g.monitorRoom + (rest.map fun v => v.category).sum ≤ 8) (hdg : decode cc g.pc = .ok (.invokespecial index, 3)) (hf : cells + mc ≤ R.cells ∧ slots + ms ≤ R.slots) :
    vx_Run p l e R s m args below meth c H locs cells slots mc ms g rest (Qc (Value.ref b :: As).toArray) XC free := by
  have hK : vx_Back l R p e below s args y 3 8 (PreOf R mc ms Pc) (PostOf Qc mc ms free) (vx_Post XC mc ms free) := vx_callBack cw.1 hM hp.1
  obtain ⟨⟨-, -, -, -, -, -, hcode, -, hy, hlen, hl⟩, hy1, hin⟩ := cw
  obtain ⟨hx, hb, hml, ho, -⟩ := S
  have hPc := hp.2
  intro T hT X
  rcases vx_callI X hx (bytes := bytes) (maxL := maxL) ho hy1 hl hin hcode hy hK hg (hsize.trans hml.symm) (a := b) (argsL := As) (rest := rest) (fun sig h => hn.trans (hlen sig h)) hstack hW (by rw [hb]; exact hdg)
    (fun vm₁ hW₁ => ⟨hf.1, hf.2, hPc (T.setVm vm₁) hT hW₁⟩) with ⟨v, vm₁, ⟨U', l2, c2, s2⟩, hW₁, X', ⟨g', mk, t, L, e1, e2, hq, h1, hL, h2, h3⟩, st⟩ | ⟨q, vm₁, ⟨U', l2, c2, s2⟩, hW₁, X', ⟨g', mk, t, L, E, ce, e1, e2, hq, hce, hcv, hcl, h1, hL, h2, h3⟩, st⟩
  · dsimp only [Pt.U, Pt.locs, Pt.cells, Pt.slots] at X' e1 e2 h1 h2 h3 st
    subst h1; subst h2; subst h3
    exact Or.inl ⟨v, (T.setVm vm₁).calling g' mk (Value.ref b :: As).toArray, t, U', L, hT, X', hL, e1, e2, hq, st⟩
  · dsimp only [Pt.U, Pt.locs, Pt.cells, Pt.slots] at X' e1 e2 h1 h2 h3 st hcl
    subst h1; subst h2; subst h3
    exact Or.inr ⟨q, (T.setVm vm₁).calling g' mk (Value.ref b :: As).toArray, t, U', L, E, ce, hT, X', hL, e1, e2, hq, hce, hcv, vx_cls hW₁ hcl, st⟩
end VXIB
/-! ===== END ===== -/
/-! ===== BEGIN a private constructor of a nest mate that throws ===== -/
section VXIC
variable {p : Program} {l : Launch} {e : Env} {R : Room} {s : State} {m : MethodId} {args : Array Value} {below : List Frame} {meth : Method} {c : Code} {T : State} {locs : List Loc} {cells slots : Nat}
theorem vx_callIN (X : Stand p l e R s m args below meth c T locs cells slots) (hexec : p.tables.exec = Jvm.exec) {own : String} {index : Nat} {host : String} {y : MethodName} {bytes : ByteArray} {maxL : Nat}
    (hown : s.vm.findClass own = some m.cls) (hy1 : y.name = "<init>") (hlink : (Cond.methodLinkNest own index y host).before args s = true) (hinst : (Cond.instanceMethod y).before args s = true)
    (hcode : (Cond.code y bytes maxL none).before args s = true) (hy : y.cls ≠ "java/lang/invoke/MethodHandle" ∧ y.cls ≠ "java/lang/invoke/VarHandle")
    {W9 : Nat} {Pre : Pt → Array Value → Prop} {Post : Pt → Array Value → Option Value → Pt → Prop} {PostX : Pt → Array Value → Addr → Pt → Prop} (hK : vx_Back l R p e below s args y 3 W9 Pre Post PostX)
    {g : JFrame} (hg : g.method = m) (hsize : g.locals.size = c.maxLocals) {a : Addr} {argsL rest : List Value} (hlen : ∀ sig, parseMethodDescriptor y.desc = some sig → argsL.length = sig.parameters.length)
    (hstack : g.stack = argsL.reverse ++ .ref a :: rest) (hW : 2 * g.monitorRoom + (rest.map fun v => v.category).sum ≤ W9) (hdg : decode c.code g.pc = .ok (.invokespecial index, 3))
    (hpre : ∀ vm₁, s.WarmedH vm₁ → Pre ⟨T.setVm vm₁, locs, cells, slots⟩ (Value.ref a :: argsL).toArray) :
    (∃ (v : Option Value) (vm₁ : Vm) (B : Pt), s.WarmedH vm₁ ∧ Stand p l e R s m args below meth c B.U B.locs B.cells B.slots ∧ Post ⟨T.setVm vm₁, locs, cells, slots⟩ (Value.ref a :: argsL).toArray v B ∧
      ∀ target, Steps p.tables e below (B.U.setTop { g with pc := g.pc + 3, stack := v.toList ++ rest }) target → Steps p.tables e below (T.setTop g) target) ∨
    (∃ (q : Addr) (vm₁ : Vm) (B : Pt), s.WarmedH vm₁ ∧ Stand p l e R s m args below meth c B.U B.locs B.cells B.slots ∧ PostX ⟨T.setVm vm₁, locs, cells, slots⟩ (Value.ref a :: argsL).toArray q B ∧
      Steps p.tables e below (T.setTop g) ((B.U.setTop { g with stack := rest }).pushFrame (.throwing q))) := by
  subst hg
  have hpl : e.platform.magicAccessors = ({} : Platform).magicAccessors := by rw [X.admits.platform]
  obtain ⟨mk, methM, cM, kP, vm₁, hnamed, hmethM, hcodeM, -, hlocalsM, -, hkP, -, hW₁, hstep₁⟩ := Steps.initColdArgsNest (e := e) X.here hexec X.warmed hpl hown hy1 hy hlink hinst hcode (f := g) rfl hlen hstack hdg
  have X₁ := X.noted hW₁
  rcases hK g.method meth c ⟨T.setVm vm₁, locs, cells, slots⟩ { g with stack := rest } (.invokespecial index) mk (Value.ref a :: argsL).toArray X₁ rfl hsize hdg hW (X₁.named hnamed) (hpre vm₁ X₁.warmed) with ⟨v, B, X', hpost, hsteps⟩ | ⟨q, B, X', hpost, hsteps⟩
  · exact Or.inl ⟨v, vm₁, B, X₁.warmed, X', hpost, fun target h => hstep₁ _ fun acts => by rw [doInvoke_state]; exact hsteps.trans h⟩
  · exact Or.inr ⟨q, vm₁, B, X₁.warmed, X', hpost, hstep₁ _ fun acts => by rw [doInvoke_state]; exact hsteps⟩
end VXIC
section VXID
variable {p : Program} {l : Launch} {e : Env} {R : Room} {s : State} {m : MethodId} {args : Array Value} {below : List Frame} {meth : Method} {c : Code} {H : Heap} {locs : List Loc} {cells slots : Nat}
theorem vx_runIN {y : MethodName} {bytes cc : ByteArray} {maxL nL mc ms n index : Nat} {ws : List Cond} {rm : Room} {Pc : Array Value → State → Prop} {Qc : Array Value → State → Outcome → State → Prop} {XC : String → State → State → Prop} {free : Addr → Prop} {Ts : List Cond} {own host : String} {b : Addr} {As rest : List Value} {g : JFrame}
    (S : CallFix p m c cc nL s args Ts own) (hM : vx_Met l y ws rm Pc Qc XC mc ms free) (cw : va_CN R s args own index y host bytes maxL none ws rm mc ms n ∧ y.name = "<init>" ∧ (Cond.instanceMethod y).before args s = true) (hp : PreS s H Pc (.ref b :: As))
    (hg : g.method = m) (hn : As.length = n) (hsize : g.locals.size = nL) (hstack : g.stack = As.reverse ++ .ref b :: rest) (hW : 2 * g.monitorRoom + (rest.map fun v => v.category).sum ≤ 8) (hdg : decode cc g.pc = .ok (.invokespecial index, 3)) (hf : cells + mc ≤ R.cells ∧ slots + ms ≤ R.slots) :
    vx_Run p l e R s m args below meth c H locs cells slots mc ms g rest (Qc (Value.ref b :: As).toArray) XC free := by
  obtain ⟨⟨⟨hrc, hrs, hfr, hlo, hws, hcw⟩, hcode, hini, hy, hlen, hl⟩, hx1, hx2⟩ := cw
  have hK : vx_Back l R p e below s args y 3 8 (PreOf R mc ms Pc) (PostOf Qc mc ms free) (vx_Post XC mc ms free) := vx_back (bytes := bytes) (maxL := maxL) (ret := none) hM hp.1 hrc hrs hfr hlo hws hcw (fun a' U hW => word_at hW (Or.inl (by first | rfl | simp [Cond.onTables, Cond.keeps, Cond.steady])) hini)
  obtain ⟨hx, hb, hml, ho, -⟩ := S
  have hPc := hp.2
  intro T hT X
  rcases vx_callIN X hx (bytes := bytes) (maxL := maxL) ho hx1 hl hx2 hcode hy hK hg (hsize.trans hml.symm) (a := b) (argsL := As) (rest := rest) (fun sig h => hn.trans (hlen sig h)) hstack hW (by rw [hb]; exact hdg)
    (fun vm₁ hW₁ => ⟨hf.1, hf.2, hPc (T.setVm vm₁) hT hW₁⟩) with ⟨v, vm₁, ⟨U', l2, c2, s2⟩, hW₁, X', ⟨g', mk, t, L, e1, e2, hq, h1, hL, h2, h3⟩, st⟩ | ⟨q, vm₁, ⟨U', l2, c2, s2⟩, hW₁, X', ⟨g', mk, t, L, E, ce, e1, e2, hq, hce, hcv, hcl, h1, hL, h2, h3⟩, st⟩
  · dsimp only [Pt.U, Pt.locs, Pt.cells, Pt.slots] at X' e1 e2 h1 h2 h3 st
    subst h1; subst h2; subst h3
    exact Or.inl ⟨v, (T.setVm vm₁).calling g' mk (Value.ref b :: As).toArray, t, U', L, hT, X', hL, e1, e2, hq, st⟩
  · dsimp only [Pt.U, Pt.locs, Pt.cells, Pt.slots] at X' e1 e2 h1 h2 h3 st hcl
    subst h1; subst h2; subst h3
    exact Or.inr ⟨q, (T.setVm vm₁).calling g' mk (Value.ref b :: As).toArray, t, U', L, E, ce, hT, X', hL, e1, e2, hq, hce, hcv, vx_cls hW₁ hcl, st⟩
end VXID
/-! ===== END ===== -/
/-! ===== BEGIN a private method of a nest mate that may throw (follows va_callVN, va_callSN, va_runVN, va_runSN) ===== -/
section
variable {p : Program} {l : Launch} {e : Env} {R : Room} {s : State} {m : MethodId} {args : Array Value} {below : List Frame} {meth : Method} {c : Code} {H : Heap} {locs : List Loc} {cells slots : Nat}
variable {T : State}
theorem vx_callVN (X : Stand p l e R s m args below meth c T locs cells slots) (hexec : p.tables.exec = Jvm.exec) {own C : String} {index : Nat} {host : String} {y : MethodName} {bytes : ByteArray} {maxL : Nat} {ret : Option FieldType}
    (hown : s.vm.findClass own = some m.cls) (hlink : (Cond.methodLinkNest own index y host).before args s = true) (hinst : (Cond.instanceMethod y).before args s = true) (hsel : (Cond.selects C y y).before args s = true)
    (hcode : (Cond.code y bytes maxL ret).before args s = true) (hy : y.cls ≠ "java/lang/invoke/MethodHandle" ∧ y.cls ≠ "java/lang/invoke/VarHandle")
    {W : Nat} {Pre : Pt → Array Value → Prop} {Post : Pt → Array Value → Option Value → Pt → Prop} {PostX : Pt → Array Value → Addr → Pt → Prop} (hK : vx_Back l R p e below s args y 3 W Pre Post PostX)
    {b : Addr} {cellB : Cell} (hcell : T.heap[b]? = some cellB) (hobj : cellB.vm.isStatics = false) (hcls : s.vm.findClass C = some cellB.cls)
    {g : JFrame} (hg : g.method = m) (hsize : g.locals.size = c.maxLocals) {argsL rest : List Value} (hlen : ∀ sig, parseMethodDescriptor y.desc = some sig → argsL.length = sig.parameters.length)
    (hstack : g.stack = argsL.reverse ++ .ref b :: rest) (hW : 2 * g.monitorRoom + (rest.map fun v => v.category).sum ≤ W) (hdg : decode c.code g.pc = .ok (.invokevirtual index, 3))
    (hpre : ∀ vm₁, s.WarmedH vm₁ → Pre ⟨T.setVm vm₁, locs, cells, slots⟩ (Value.ref b :: argsL).toArray) :
    (∃ (v : Option Value) (vm₁ : Vm) (B : Pt), s.WarmedH vm₁ ∧ Stand p l e R s m args below meth c B.U B.locs B.cells B.slots ∧ Post ⟨T.setVm vm₁, locs, cells, slots⟩ (Value.ref b :: argsL).toArray v B ∧
      ∀ target, Steps p.tables e below (B.U.setTop { g with pc := g.pc + 3, stack := v.toList ++ rest }) target → Steps p.tables e below (T.setTop g) target) ∨
    (∃ (q : Addr) (vm₁ : Vm) (B : Pt), s.WarmedH vm₁ ∧ Stand p l e R s m args below meth c B.U B.locs B.cells B.slots ∧ PostX ⟨T.setVm vm₁, locs, cells, slots⟩ (Value.ref b :: argsL).toArray q B ∧
      Steps p.tables e below (T.setTop g) ((B.U.setTop { g with stack := rest }).pushFrame (.throwing q))) := by
  obtain ⟨mk, methM, hnamed, hmethM, hstM, habM⟩ := Cond.instanceMethod_spec hinst
  obtain ⟨methM', cM, hmethM', -, -, -, -, -, -, hsigM⟩ := Cond.code_spec hnamed hcode
  cases hmethM.symm.trans hmethM'
  obtain ⟨c2, r2, m2, q1, q2, q3, q4, kP, hkP, hkPi⟩ := Cond.selects_spec hsel
  cases hcls.symm.trans q1
  cases (State.methodFound?_of_named hnamed hy).symm.trans q2
  cases hnamed.symm.trans q3
  have hselP : selectMethod e.platform s.vm cellB.cls mk = .method mk := by rw [Launch.admits_selectMethod X.admits]; exact q4
  obtain ⟨vm₁, X₁, hstep₁⟩ := X.invokevirtualNest hexec hown hlink hnamed hmethM hstM hkP hkPi hy (a := b) (cell := cellB) hcell
    (fun z h => by rw [h] at hobj; cases hobj) hselP hmethM habM hkP hkPi (g := g) hg (argsL := argsL) (rest := rest) (hlen _ hsigM) hstack hdg
  rcases hK m meth c ⟨T.setVm vm₁, locs, cells, slots⟩ { g with stack := rest } (.invokevirtual index) mk (Value.ref b :: argsL).toArray X₁ hg hsize hdg hW (X₁.named hnamed) (hpre vm₁ X₁.warmed) with ⟨v, B, X', hpost, hsteps⟩ | ⟨q, B, X', hpost, hsteps⟩
  · exact Or.inl ⟨v, vm₁, B, X₁.warmed, X', hpost, fun target h => hstep₁ _ fun acts => by rw [doInvoke_state]; exact hsteps.trans h⟩
  · exact Or.inr ⟨q, vm₁, B, X₁.warmed, X', hpost, hstep₁ _ fun acts => by rw [doInvoke_state]; exact hsteps⟩
theorem vx_callSN (X : Stand p l e R s m args below meth c T locs cells slots) (hexec : p.tables.exec = Jvm.exec) {own : String} {index : Nat} {host : String} {y : MethodName} {bytes : ByteArray} {maxL : Nat} {ret : Option FieldType}
    (hown : s.vm.findClass own = some m.cls) (hlink : (Cond.methodLinkNest own index y host).before args s = true) (hstat : (Cond.static y).before args s = true) (hinit : (Cond.initialized y.cls).before args s = true)
    (hcode : (Cond.code y bytes maxL ret).before args s = true) (hy : y.cls ≠ "java/lang/invoke/MethodHandle" ∧ y.cls ≠ "java/lang/invoke/VarHandle")
    {W : Nat} {Pre : Pt → Array Value → Prop} {Post : Pt → Array Value → Option Value → Pt → Prop} {PostX : Pt → Array Value → Addr → Pt → Prop} (hK : vx_Back l R p e below s args y 3 W Pre Post PostX)
    {g : JFrame} (hg : g.method = m) (hsize : g.locals.size = c.maxLocals) {argsL rest : List Value} (hlen : ∀ sig, parseMethodDescriptor y.desc = some sig → argsL.length = sig.parameters.length)
    (hstack : g.stack = argsL.reverse ++ rest) (hW : 2 * g.monitorRoom + (rest.map fun v => v.category).sum ≤ W) (hdg : decode c.code g.pc = .ok (.invokestatic index, 3))
    (hpre : ∀ vm₁, s.WarmedH vm₁ → Pre ⟨T.setVm vm₁, locs, cells, slots⟩ argsL.toArray) :
    (∃ (v : Option Value) (vm₁ : Vm) (B : Pt), s.WarmedH vm₁ ∧ Stand p l e R s m args below meth c B.U B.locs B.cells B.slots ∧ Post ⟨T.setVm vm₁, locs, cells, slots⟩ argsL.toArray v B ∧
      ∀ target, Steps p.tables e below (B.U.setTop { g with pc := g.pc + 3, stack := v.toList ++ rest }) target → Steps p.tables e below (T.setTop g) target) ∨
    (∃ (q : Addr) (vm₁ : Vm) (B : Pt), s.WarmedH vm₁ ∧ Stand p l e R s m args below meth c B.U B.locs B.cells B.slots ∧ PostX ⟨T.setVm vm₁, locs, cells, slots⟩ argsL.toArray q B ∧
      Steps p.tables e below (T.setTop g) ((B.U.setTop { g with stack := rest }).pushFrame (.throwing q))) := by
  obtain ⟨mk, hnamed⟩ := Cond.code_named hcode
  obtain ⟨methM, cM, hmethM, -, -, -, -, -, -, hsigM⟩ := Cond.code_spec hnamed hcode
  have hstatic : methM.isStatic = true := Cond.static_spec hnamed hmethM hstat
  obtain ⟨kP, hkP, -⟩ := className_of_methodNamed hnamed
  have hinitP : kP.init = .initialized := Cond.initialized_spec (findClass_of_methodNamed hnamed) hkP hinit
  obtain ⟨vm₁, X₁, hstep₁⟩ := X.invokestaticNest hexec hown hlink hnamed hmethM hstatic hkP hinitP hy (g := g) hg (argsL := argsL) (rest := rest) (hlen _ hsigM) hstack hdg
  rcases hK m meth c ⟨T.setVm vm₁, locs, cells, slots⟩ { g with stack := rest } (.invokestatic index) mk argsL.toArray X₁ hg hsize hdg hW (X₁.named hnamed) (hpre vm₁ X₁.warmed) with ⟨v, B, X', hpost, hsteps⟩ | ⟨q, B, X', hpost, hsteps⟩
  · exact Or.inl ⟨v, vm₁, B, X₁.warmed, X', hpost, fun target h => hstep₁ _ fun acts => by rw [doInvoke_state]; exact hsteps.trans h⟩
  · exact Or.inr ⟨q, vm₁, B, X₁.warmed, X', hpost, hstep₁ _ fun acts => by rw [doInvoke_state]; exact hsteps⟩
theorem vx_runVN {y : MethodName} {bytes cc : ByteArray} {maxL nL mc ms n index : Nat} {ret : Option FieldType} {ws : List Cond} {rm : Room} {Pc : Array Value → State → Prop} {Qc : Array Value → State → Outcome → State → Prop} {XC : String → State → State → Prop} {free : Addr → Prop} {Ts : List Cond} {own C host : String} {b : Addr} {As rest : List Value} {g : JFrame}
    (S : CallFix p m c cc nL s args Ts own) (hM : vx_Met l y ws rm Pc Qc XC mc ms free) (cw : va_CN R s args own index y host bytes maxL ret ws rm mc ms n ∧ (Cond.instanceMethod y).before args s = true ∧ (Cond.selects C y y).before args s = true) (hp : PreV s H C b Pc As)
    (hg : g.method = m) (hn : As.length = n) (hsize : g.locals.size = nL) (hstack : g.stack = As.reverse ++ .ref b :: rest) (hW : 2 * g.monitorRoom + (rest.map fun v => v.category).sum ≤ 8) (hdg : decode cc g.pc = .ok (.invokevirtual index, 3)) (hf : cells + mc ≤ R.cells ∧ slots + ms ≤ R.slots) :
    vx_Run p l e R s m args below meth c H locs cells slots mc ms g rest (Qc (Value.ref b :: As).toArray) XC free := by
  obtain ⟨⟨⟨hrc, hrs, hfr, hlo, hws, hcw⟩, hcode, hini, hy, hlen, hl⟩, hx1, hx2⟩ := cw
  have hK : vx_Back l R p e below s args y 3 8 (PreOf R mc ms Pc) (PostOf Qc mc ms free) (vx_Post XC mc ms free) := vx_back (bytes := bytes) (maxL := maxL) (ret := ret) hM hp.1 hrc hrs hfr hlo hws hcw (fun a' U hW => word_at hW (Or.inl (by first | rfl | simp [Cond.onTables, Cond.keeps, Cond.steady])) hini)
  obtain ⟨hx, hb, hml, ho, -⟩ := S
  obtain ⟨-, ⟨cellB, hcB, hoB, hclB⟩, hPc⟩ := hp
  intro T hT X
  rcases vx_callVN X hx (C := C) (bytes := bytes) (maxL := maxL) (ret := ret) ho hl hx1 hx2 hcode hy hK (by rw [hT]; exact hcB) hoB hclB hg (hsize.trans hml.symm) (argsL := As) (rest := rest) (fun sig h => hn.trans (hlen sig h)) hstack hW (by rw [hb]; exact hdg)
    (fun vm₁ hW₁ => ⟨hf.1, hf.2, hPc (T.setVm vm₁) hT hW₁⟩) with ⟨v, vm₁, ⟨U', l2, c2, s2⟩, hW₁, X', ⟨g', mk, t, L, e1, e2, hq, h1, hL, h2, h3⟩, st⟩ | ⟨q, vm₁, ⟨U', l2, c2, s2⟩, hW₁, X', ⟨g', mk, t, L, E, ce, e1, e2, hq, hce, hcv, hcl, h1, hL, h2, h3⟩, st⟩
  · dsimp only [Pt.U, Pt.locs, Pt.cells, Pt.slots] at X' e1 e2 h1 h2 h3 st
    subst h1; subst h2; subst h3
    exact Or.inl ⟨v, (T.setVm vm₁).calling g' mk (Value.ref b :: As).toArray, t, U', L, hT, X', hL, e1, e2, hq, st⟩
  · dsimp only [Pt.U, Pt.locs, Pt.cells, Pt.slots] at X' e1 e2 h1 h2 h3 st hcl
    subst h1; subst h2; subst h3
    exact Or.inr ⟨q, (T.setVm vm₁).calling g' mk (Value.ref b :: As).toArray, t, U', L, E, ce, hT, X', hL, e1, e2, hq, hce, hcv, vx_cls hW₁ hcl, st⟩
theorem vx_runSN {y : MethodName} {bytes cc : ByteArray} {maxL nL mc ms n index : Nat} {ret : Option FieldType} {ws : List Cond} {rm : Room} {Pc : Array Value → State → Prop} {Qc : Array Value → State → Outcome → State → Prop} {XC : String → State → State → Prop} {free : Addr → Prop} {Ts : List Cond} {own host : String} {As rest : List Value} {g : JFrame}
    (S : CallFix p m c cc nL s args Ts own) (hM : vx_Met l y ws rm Pc Qc XC mc ms free) (cw : va_CN R s args own index y host bytes maxL ret ws rm mc ms n ∧ (Cond.static y).before args s = true ∧ True) (hp : PreS s H Pc As)
    (hg : g.method = m) (hn : As.length = n) (hsize : g.locals.size = nL) (hstack : g.stack = As.reverse ++ rest) (hW : 2 * g.monitorRoom + (rest.map fun v => v.category).sum ≤ 8) (hdg : decode cc g.pc = .ok (.invokestatic index, 3)) (hf : cells + mc ≤ R.cells ∧ slots + ms ≤ R.slots) :
    vx_Run p l e R s m args below meth c H locs cells slots mc ms g rest (Qc As.toArray) XC free := by
  obtain ⟨⟨⟨hrc, hrs, hfr, hlo, hws, hcw⟩, hcode, hini, hy, hlen, hl⟩, hx1, hx2⟩ := cw
  have hK : vx_Back l R p e below s args y 3 8 (PreOf R mc ms Pc) (PostOf Qc mc ms free) (vx_Post XC mc ms free) := vx_back (bytes := bytes) (maxL := maxL) (ret := ret) hM hp.1 hrc hrs hfr hlo hws hcw (fun a' U hW => word_at hW (Or.inl (by first | rfl | simp [Cond.onTables, Cond.keeps, Cond.steady])) hini)
  obtain ⟨hx, hb, hml, ho, -⟩ := S
  have hPc := hp.2
  intro T hT X
  rcases vx_callSN X hx (bytes := bytes) (maxL := maxL) (ret := ret) ho hl hx1 hini hcode hy hK hg (hsize.trans hml.symm) (argsL := As) (rest := rest) (fun sig h => hn.trans (hlen sig h)) hstack hW (by rw [hb]; exact hdg)
    (fun vm₁ hW₁ => ⟨hf.1, hf.2, hPc (T.setVm vm₁) hT hW₁⟩) with ⟨v, vm₁, ⟨U', l2, c2, s2⟩, hW₁, X', ⟨g', mk, t, L, e1, e2, hq, h1, hL, h2, h3⟩, st⟩ | ⟨q, vm₁, ⟨U', l2, c2, s2⟩, hW₁, X', ⟨g', mk, t, L, E, ce, e1, e2, hq, hce, hcv, hcl, h1, hL, h2, h3⟩, st⟩
  · dsimp only [Pt.U, Pt.locs, Pt.cells, Pt.slots] at X' e1 e2 h1 h2 h3 st
    subst h1; subst h2; subst h3
    exact Or.inl ⟨v, (T.setVm vm₁).calling g' mk As.toArray, t, U', L, hT, X', hL, e1, e2, hq, st⟩
  · dsimp only [Pt.U, Pt.locs, Pt.cells, Pt.slots] at X' e1 e2 h1 h2 h3 st hcl
    subst h1; subst h2; subst h3
    exact Or.inr ⟨q, (T.setVm vm₁).calling g' mk As.toArray, t, U', L, E, ce, hT, X', hL, e1, e2, hq, hce, hcv, vx_cls hW₁ hcl, st⟩
end
/-! ===== END ===== -/
end
section
/-! ===== BEGIN printed: names, fields, word lists, decode rows ===== -/
def RX0 : String := "ScaffoldPlanner$CommandText"
def TX0 : u_T := fun k => match k with
  | 0 => ("ScaffoldPlanner$CommandText", "length", "I", false)
  | 1 => ("ScaffoldPlanner$CommandText", "position", "I", false)
  | _ => ("ScaffoldPlanner$CommandText", "letters", "[C", true)
def tyX0 : Nat → FieldType := fun k => match k with
  | 0 => .int
  | 1 => .int
  | _ => .array .char
abbrev wsX00 : List Cond := u_ws RX0 TX0 3
theorem nmX0 : ∀ a, a < 3 → ∀ b, b < 3 → a ≠ b → (TX0 a).2.1 ≠ (TX0 b).2.1 := by decide +kernel
theorem tyX0_ok : ∀ k, k < 3 → parseFieldDescriptor (TX0 k).2.2.1 = some (tyX0 k) := by decide +kernel
abbrev cX0_init : ByteArray := prog_2_method_1_code
def yX0_init : MethodName := ⟨RX0, "<init>", "()V"⟩
abbrev cX0_append : ByteArray := prog_2_method_2_code
def yX0_append : MethodName := ⟨RX0, "append", "(C)V"⟩
abbrev cX0_clear : ByteArray := prog_2_method_3_code
def yX0_clear : MethodName := ⟨RX0, "clear", "()V"⟩
abbrev cX0_errorPosition : ByteArray := prog_2_method_4_code
def yX0_errorPosition : MethodName := ⟨RX0, "errorPosition", "(LScaffoldPlanner$Work;)I"⟩
abbrev cX0_isCommandRead : ByteArray := prog_2_method_5_code
def yX0_isCommandRead : MethodName := ⟨RX0, "isCommandRead", "(LScaffoldPlanner$Work;)Z"⟩
abbrev cX0_isPassed : ByteArray := prog_2_method_6_code
def yX0_isPassed : MethodName := ⟨RX0, "isPassed", "(C)Z"⟩
abbrev cX0_readDigit : ByteArray := prog_2_method_7_code
def yX0_readDigit : MethodName := ⟨RX0, "readDigit", "()I"⟩
abbrev cX0_letter : ByteArray := prog_2_method_8_code
def yX0_letter : MethodName := ⟨RX0, "letter", "()I"⟩
abbrev cX0_whatOf : ByteArray := prog_2_method_9_code
def yX0_whatOf : MethodName := ⟨RX0, "whatOf", "(I)I"⟩
def RX1 : String := "ScaffoldPlanner$Dismantler"
def TX1 : u_T := fun k => match k with
  | 0 => ("ScaffoldPlanner$Dismantler", "count", "I", false)
  | 1 => ("ScaffoldPlanner$Dismantler", "isComplete", "Z", false)
  | 2 => ("ScaffoldPlanner$Dismantler", "isUpToDate", "Z", false)
  | 3 => ("ScaffoldPlanner$Dismantler", "parts", "[I", true)
  | 4 => ("ScaffoldPlanner$Dismantler", "site", "LScaffoldPlanner$Plan;", true)
  | 5 => ("ScaffoldPlanner$Dismantler", "ways", "LScaffoldPlanner$Ways;", true)
  | 6 => ("ScaffoldPlanner$Dismantler", "judge", "LScaffoldPlanner$Judge;", true)
  | _ => ("ScaffoldPlanner$Dismantler", "work", "LScaffoldPlanner$Work;", true)
def tyX1 : Nat → FieldType := fun k => match k with
  | 0 => .int
  | 1 => .boolean
  | 2 => .boolean
  | 3 => .array .int
  | 4 => .object "ScaffoldPlanner$Plan"
  | 5 => .object "ScaffoldPlanner$Ways"
  | 6 => .object "ScaffoldPlanner$Judge"
  | _ => .object "ScaffoldPlanner$Work"
abbrev wsX10 : List Cond := u_ws RX1 TX1 8
theorem nmX1 : ∀ a, a < 8 → ∀ b, b < 8 → a ≠ b → (TX1 a).2.1 ≠ (TX1 b).2.1 := by decide +kernel
theorem tyX1_ok : ∀ k, k < 8 → parseFieldDescriptor (TX1 k).2.2.1 = some (tyX1 k) := by decide +kernel
abbrev cX1_init : ByteArray := prog_3_method_1_code
def yX1_init : MethodName := ⟨RX1, "<init>", "()V"⟩
abbrev cX1_update : ByteArray := prog_3_method_2_code
def yX1_update : MethodName := ⟨RX1, "update", "(LScaffoldPlanner$Plan;)V"⟩
abbrev cX1_isDone : ByteArray := prog_3_method_3_code
def yX1_isDone : MethodName := ⟨RX1, "isDone", "(I)Z"⟩
def RX2 : String := "ScaffoldPlanner$History"
def TX2 : u_T := fun k => match k with
  | 0 => ("ScaffoldPlanner$History", "count", "I", false)
  | 1 => ("ScaffoldPlanner$History", "next", "I", false)
  | _ => ("ScaffoldPlanner$History", "plans", "[LScaffoldPlanner$Plan;", true)
def tyX2 : Nat → FieldType := fun k => match k with
  | 0 => .int
  | 1 => .int
  | _ => .array (.object "ScaffoldPlanner$Plan")
abbrev wsX20 : List Cond := u_ws RX2 TX2 3
theorem nmX2 : ∀ a, a < 3 → ∀ b, b < 3 → a ≠ b → (TX2 a).2.1 ≠ (TX2 b).2.1 := by decide +kernel
theorem tyX2_ok : ∀ k, k < 3 → parseFieldDescriptor (TX2 k).2.2.1 = some (tyX2 k) := by decide +kernel
abbrev cX2_init : ByteArray := prog_4_method_1_code
def yX2_init : MethodName := ⟨RX2, "<init>", "()V"⟩
abbrev cX2_forget : ByteArray := prog_4_method_2_code
def yX2_forget : MethodName := ⟨RX2, "forget", "()V"⟩
abbrev cX2_keep : ByteArray := prog_4_method_3_code
def yX2_keep : MethodName := ⟨RX2, "keep", "(LScaffoldPlanner$Plan;)V"⟩
abbrev cX2_takeBack : ByteArray := prog_4_method_4_code
def yX2_takeBack : MethodName := ⟨RX2, "takeBack", "(LScaffoldPlanner$Plan;)V"⟩
abbrev cX2_planAt : ByteArray := prog_4_method_5_code
def yX2_planAt : MethodName := ⟨RX2, "planAt", "(I)LScaffoldPlanner$Plan;"⟩
def RX3 : String := "ScaffoldPlanner$Judge"
def TX3 : u_T := fun k => match k with
  | 0 => ("ScaffoldPlanner$Judge", "reason", "I", false)
  | 1 => ("ScaffoldPlanner$Judge", "detail", "I", false)
  | _ => ("ScaffoldPlanner$Judge", "trial", "LScaffoldPlanner$Plan;", true)
def tyX3 : Nat → FieldType := fun k => match k with
  | 0 => .int
  | 1 => .int
  | _ => .object "ScaffoldPlanner$Plan"
abbrev wsX30 : List Cond := u_ws RX3 TX3 3
theorem nmX3 : ∀ a, a < 3 → ∀ b, b < 3 → a ≠ b → (TX3 a).2.1 ≠ (TX3 b).2.1 := by decide +kernel
theorem tyX3_ok : ∀ k, k < 3 → parseFieldDescriptor (TX3 k).2.2.1 = some (tyX3 k) := by decide +kernel
abbrev cX3_init : ByteArray := prog_5_method_1_code
def yX3_init : MethodName := ⟨RX3, "<init>", "()V"⟩
abbrev cX3_examine : ByteArray := prog_5_method_2_code
def yX3_examine : MethodName := ⟨RX3, "examine", "(LScaffoldPlanner$Plan;LScaffoldPlanner$Ways;LScaffoldPlanner$Work;)V"⟩
abbrev cX3_refuse : ByteArray := prog_5_method_3_code
def yX3_refuse : MethodName := ⟨RX3, "refuse", "(II)V"⟩
abbrev cX3_examineLevel : ByteArray := prog_5_method_4_code
def yX3_examineLevel : MethodName := ⟨RX3, "examineLevel", "(LScaffoldPlanner$Plan;LScaffoldPlanner$Work;)V"⟩
abbrev cX3_examinePlace : ByteArray := prog_5_method_5_code
def yX3_examinePlace : MethodName := ⟨RX3, "examinePlace", "(LScaffoldPlanner$Plan;LScaffoldPlanner$Work;)V"⟩
abbrev cX3_examineDecksOfLadder : ByteArray := prog_5_method_6_code
def yX3_examineDecksOfLadder : MethodName := ⟨RX3, "examineDecksOfLadder", "(LScaffoldPlanner$Plan;LScaffoldPlanner$Work;)V"⟩
abbrev cX3_examineLaddersOfDeck : ByteArray := prog_5_method_7_code
def yX3_examineLaddersOfDeck : MethodName := ⟨RX3, "examineLaddersOfDeck", "(LScaffoldPlanner$Plan;LScaffoldPlanner$Work;)V"⟩
abbrev cX3_examinePiecesOfLevel : ByteArray := prog_5_method_8_code
def yX3_examinePiecesOfLevel : MethodName := ⟨RX3, "examinePiecesOfLevel", "(LScaffoldPlanner$Plan;LScaffoldPlanner$Work;)V"⟩
abbrev cX3_examineStanding : ByteArray := prog_5_method_9_code
def yX3_examineStanding : MethodName := ⟨RX3, "examineStanding", "(LScaffoldPlanner$Plan;LScaffoldPlanner$Ways;LScaffoldPlanner$Work;)V"⟩
abbrev cX3_examineYard : ByteArray := prog_5_method_10_code
def yX3_examineYard : MethodName := ⟨RX3, "examineYard", "(LScaffoldPlanner$Plan;LScaffoldPlanner$Work;)V"⟩
abbrev cX3_examineLowest : ByteArray := prog_5_method_11_code
def yX3_examineLowest : MethodName := ⟨RX3, "examineLowest", "(II)V"⟩
def RX4 : String := "ScaffoldPlanner$Plan"
def TX4 : u_T := fun k => match k with
  | 0 => ("ScaffoldPlanner$Plan", "bays", "I", false)
  | 1 => ("ScaffoldPlanner$Plan", "works", "I", false)
  | 2 => ("ScaffoldPlanner$Plan", "heights", "[I", true)
  | 3 => ("ScaffoldPlanner$Plan", "levelSets", "[I", true)
  | 4 => ("ScaffoldPlanner$Plan", "classes", "[I", true)
  | 5 => ("ScaffoldPlanner$Plan", "rules", "[I", true)
  | _ => ("ScaffoldPlanner$Plan", "yard", "[I", true)
def tyX4 : Nat → FieldType := fun k => match k with
  | 0 => .int
  | 1 => .int
  | 2 => .array .int
  | 3 => .array .int
  | 4 => .array .int
  | 5 => .array .int
  | _ => .array .int
abbrev wsX40 : List Cond := u_ws RX4 TX4 7
theorem nmX4 : ∀ a, a < 7 → ∀ b, b < 7 → a ≠ b → (TX4 a).2.1 ≠ (TX4 b).2.1 := by decide +kernel
theorem tyX4_ok : ∀ k, k < 7 → parseFieldDescriptor (TX4 k).2.2.1 = some (tyX4 k) := by decide +kernel
abbrev cX4_init : ByteArray := prog_6_method_1_code
def yX4_init : MethodName := ⟨RX4, "<init>", "()V"⟩
abbrev cX4_begin : ByteArray := prog_6_method_2_code
def yX4_begin : MethodName := ⟨RX4, "begin", "(I)V"⟩
abbrev cX4_copyFrom : ByteArray := prog_6_method_3_code
def yX4_copyFrom : MethodName := ⟨RX4, "copyFrom", "(LScaffoldPlanner$Plan;)V"⟩
abbrev cX4_hasPlace : ByteArray := prog_6_method_4_code
def yX4_hasPlace : MethodName := ⟨RX4, "hasPlace", "(I)Z"⟩
abbrev cX4_placeBefore : ByteArray := prog_6_method_5_code
def yX4_placeBefore : MethodName := ⟨RX4, "placeBefore", "(I)I"⟩
abbrev cX4_placeAfter : ByteArray := prog_6_method_6_code
def yX4_placeAfter : MethodName := ⟨RX4, "placeAfter", "(I)I"⟩
abbrev cX4_levelsWith : ByteArray := prog_6_method_7_code
def yX4_levelsWith : MethodName := ⟨RX4, "levelsWith", "(II)I"⟩
abbrev cX4_has : ByteArray := prog_6_method_8_code
def yX4_has : MethodName := ⟨RX4, "has", "(III)Z"⟩
abbrev cX4_postHeight : ByteArray := prog_6_method_9_code
def yX4_postHeight : MethodName := ⟨RX4, "postHeight", "(I)I"⟩
abbrev cX4_heightFor : ByteArray := prog_6_method_10_code
def yX4_heightFor : MethodName := ⟨RX4, "heightFor", "(LScaffoldPlanner$Work;)I"⟩
abbrev cX4_postsByLevel : ByteArray := prog_6_method_11_code
def yX4_postsByLevel : MethodName := ⟨RX4, "postsByLevel", "(II)I"⟩
abbrev cX4_isTiedByLevel : ByteArray := prog_6_method_12_code
def yX4_isTiedByLevel : MethodName := ⟨RX4, "isTiedByLevel", "(II)Z"⟩
abbrev cX4_carryOut : ByteArray := prog_6_method_13_code
def yX4_carryOut : MethodName := ⟨RX4, "carryOut", "(LScaffoldPlanner$Work;)V"⟩
abbrev cX4_supply : ByteArray := prog_6_method_14_code
def yX4_supply : MethodName := ⟨RX4, "supply", "(II)V"⟩
abbrev cX4_raiseAllTo : ByteArray := prog_6_method_15_code
def yX4_raiseAllTo : MethodName := ⟨RX4, "raiseAllTo", "(I)V"⟩
abbrev cX4_piecesPlaced : ByteArray := prog_6_method_16_code
def yX4_piecesPlaced : MethodName := ⟨RX4, "piecesPlaced", "(I)I"⟩
abbrev cX4_sumOfClasses : ByteArray := prog_6_method_17_code
def yX4_sumOfClasses : MethodName := ⟨RX4, "sumOfClasses", "()I"⟩
abbrev cX4_bracedOrHighest : ByteArray := prog_6_method_18_code
def yX4_bracedOrHighest : MethodName := ⟨RX4, "bracedOrHighest", "(I)I"⟩
abbrev cX4_postLoad : ByteArray := prog_6_method_19_code
def yX4_postLoad : MethodName := ⟨RX4, "postLoad", "(I)I"⟩
abbrev cX4_isHeldBy : ByteArray := prog_6_method_20_code
def yX4_isHeldBy : MethodName := ⟨RX4, "isHeldBy", "(II)Z"⟩
abbrev cX4_neededTies : ByteArray := prog_6_method_21_code
def yX4_neededTies : MethodName := ⟨RX4, "neededTies", "(I)I"⟩
abbrev cX4_tiesForOneLevelMore : ByteArray := prog_6_method_22_code
def yX4_tiesForOneLevelMore : MethodName := ⟨RX4, "tiesForOneLevelMore", "(I)I"⟩
abbrev cX4_lowestUnheldPost : ByteArray := prog_6_method_23_code
def yX4_lowestUnheldPost : MethodName := ⟨RX4, "lowestUnheldPost", "()I"⟩
abbrev cX4_lowestUnbracedBay : ByteArray := prog_6_method_24_code
def yX4_lowestUnbracedBay : MethodName := ⟨RX4, "lowestUnbracedBay", "()I"⟩
abbrev cX4_lowestOverloadedPost : ByteArray := prog_6_method_25_code
def yX4_lowestOverloadedPost : MethodName := ⟨RX4, "lowestOverloadedPost", "()I"⟩
abbrev cX4_isStable : ByteArray := prog_6_method_26_code
def yX4_isStable : MethodName := ⟨RX4, "isStable", "()Z"⟩
def RX5 : String := "ScaffoldPlanner$Report"
def TX5 : u_T := fun k => match k with
  | 0 => ("ScaffoldPlanner$Report", "count", "I", false)
  | 1 => ("ScaffoldPlanner$Report", "heads", "[I", true)
  | _ => ("ScaffoldPlanner$Report", "details", "[I", true)
def tyX5 : Nat → FieldType := fun k => match k with
  | 0 => .int
  | 1 => .array .int
  | _ => .array .int
abbrev wsX50 : List Cond := u_ws RX5 TX5 3
theorem nmX5 : ∀ a, a < 3 → ∀ b, b < 3 → a ≠ b → (TX5 a).2.1 ≠ (TX5 b).2.1 := by decide +kernel
theorem tyX5_ok : ∀ k, k < 3 → parseFieldDescriptor (TX5 k).2.2.1 = some (tyX5 k) := by decide +kernel
abbrev cX5_init : ByteArray := prog_7_method_1_code
def yX5_init : MethodName := ⟨RX5, "<init>", "()V"⟩
abbrev cX5_clear : ByteArray := prog_7_method_2_code
def yX5_clear : MethodName := ⟨RX5, "clear", "()V"⟩
abbrev cX5_add : ByteArray := prog_7_method_3_code
def yX5_add : MethodName := ⟨RX5, "add", "(II)V"⟩
def RX6 : String := "ScaffoldPlanner$Ways"
def TX6 : u_T := fun k => match k with
  | 0 => ("ScaffoldPlanner$Ways", "reached", "[I", true)
  | 1 => ("ScaffoldPlanner$Ways", "stepsTo", "[I", true)
  | 2 => ("ScaffoldPlanner$Ways", "latest", "[I", true)
  | _ => ("ScaffoldPlanner$Ways", "following", "[I", true)
def tyX6 : Nat → FieldType := fun k => match k with
  | 0 => .array .int
  | 1 => .array .int
  | 2 => .array .int
  | _ => .array .int
abbrev wsX60 : List Cond := u_ws RX6 TX6 4
theorem nmX6 : ∀ a, a < 4 → ∀ b, b < 4 → a ≠ b → (TX6 a).2.1 ≠ (TX6 b).2.1 := by decide +kernel
theorem tyX6_ok : ∀ k, k < 4 → parseFieldDescriptor (TX6 k).2.2.1 = some (tyX6 k) := by decide +kernel
abbrev cX6_init : ByteArray := prog_8_method_1_code
def yX6_init : MethodName := ⟨RX6, "<init>", "()V"⟩
abbrev cX6_explore : ByteArray := prog_8_method_2_code
def yX6_explore : MethodName := ⟨RX6, "explore", "(LScaffoldPlanner$Plan;)V"⟩
abbrev cX6_isStepTaken : ByteArray := prog_8_method_3_code
def yX6_isStepTaken : MethodName := ⟨RX6, "isStepTaken", "(I)Z"⟩
abbrev cX6_nextDecks : ByteArray := prog_8_method_4_code
def yX6_nextDecks : MethodName := ⟨RX6, "nextDecks", "(LScaffoldPlanner$Plan;I)I"⟩
abbrev cX6_isReached : ByteArray := prog_8_method_5_code
def yX6_isReached : MethodName := ⟨RX6, "isReached", "(II)Z"⟩
abbrev cX6_countReached : ByteArray := prog_8_method_6_code
def yX6_countReached : MethodName := ⟨RX6, "countReached", "()I"⟩
def RX7 : String := "ScaffoldPlanner$Work"
def TX7 : u_T := fun k => match k with
  | 0 => ("ScaffoldPlanner$Work", "what", "I", false)
  | 1 => ("ScaffoldPlanner$Work", "place", "I", false)
  | 2 => ("ScaffoldPlanner$Work", "level", "I", false)
  | 3 => ("ScaffoldPlanner$Work", "loadClass", "I", false)
  | _ => ("ScaffoldPlanner$Work", "isTaken", "Z", false)
def tyX7 : Nat → FieldType := fun k => match k with
  | 0 => .int
  | 1 => .int
  | 2 => .int
  | 3 => .int
  | _ => .boolean
abbrev wsX70 : List Cond := u_ws RX7 TX7 5
theorem nmX7 : ∀ a, a < 5 → ∀ b, b < 5 → a ≠ b → (TX7 a).2.1 ≠ (TX7 b).2.1 := by decide +kernel
theorem tyX7_ok : ∀ k, k < 5 → parseFieldDescriptor (TX7 k).2.2.1 = some (tyX7 k) := by decide +kernel
abbrev cX7_init : ByteArray := prog_9_method_1_code
def yX7_init : MethodName := ⟨RX7, "<init>", "()V"⟩
abbrev cX7_fill : ByteArray := prog_9_method_2_code
def yX7_fill : MethodName := ⟨RX7, "fill", "(IIIZ)V"⟩
def RX8 : String := "ScaffoldPlanner"
def TX8 : u_T := fun k => match k with
  | 0 => ("ScaffoldPlanner", "plan", "LScaffoldPlanner$Plan;", true)
  | 1 => ("ScaffoldPlanner", "draft", "LScaffoldPlanner$Plan;", true)
  | 2 => ("ScaffoldPlanner", "savedPlan", "LScaffoldPlanner$Plan;", true)
  | 3 => ("ScaffoldPlanner", "isSaved", "Z", false)
  | 4 => ("ScaffoldPlanner", "history", "LScaffoldPlanner$History;", true)
  | 5 => ("ScaffoldPlanner", "ways", "LScaffoldPlanner$Ways;", true)
  | 6 => ("ScaffoldPlanner", "judge", "LScaffoldPlanner$Judge;", true)
  | 7 => ("ScaffoldPlanner", "job", "LScaffoldPlanner$Work;", true)
  | 8 => ("ScaffoldPlanner", "lastReport", "LScaffoldPlanner$Report;", true)
  | 9 => ("ScaffoldPlanner", "dismantler", "LScaffoldPlanner$Dismantler;", true)
  | _ => ("ScaffoldPlanner", "text", "LScaffoldPlanner$CommandText;", true)
def tyX8 : Nat → FieldType := fun k => match k with
  | 0 => .object "ScaffoldPlanner$Plan"
  | 1 => .object "ScaffoldPlanner$Plan"
  | 2 => .object "ScaffoldPlanner$Plan"
  | 3 => .boolean
  | 4 => .object "ScaffoldPlanner$History"
  | 5 => .object "ScaffoldPlanner$Ways"
  | 6 => .object "ScaffoldPlanner$Judge"
  | 7 => .object "ScaffoldPlanner$Work"
  | 8 => .object "ScaffoldPlanner$Report"
  | 9 => .object "ScaffoldPlanner$Dismantler"
  | _ => .object "ScaffoldPlanner$CommandText"
abbrev wsX80 : List Cond := u_ws RX8 TX8 11
theorem nmX8 : ∀ a, a < 11 → ∀ b, b < 11 → a ≠ b → (TX8 a).2.1 ≠ (TX8 b).2.1 := by decide +kernel
theorem tyX8_ok : ∀ k, k < 11 → parseFieldDescriptor (TX8 k).2.2.1 = some (tyX8 k) := by decide +kernel
abbrev cX8_init : ByteArray := prog_1_method_1_code
def yX8_init : MethodName := ⟨RX8, "<init>", "()V"⟩
abbrev cX8_start : ByteArray := prog_1_method_2_code
def yX8_start : MethodName := ⟨RX8, "start", "(I)I"⟩
abbrev cX8_set : ByteArray := prog_1_method_3_code
def yX8_set : MethodName := ⟨RX8, "set", "(II)I"⟩
abbrev cX8_stock : ByteArray := prog_1_method_4_code
def yX8_stock : MethodName := ⟨RX8, "stock", "(II)I"⟩
abbrev cX8_erect : ByteArray := prog_1_method_5_code
def yX8_erect : MethodName := ⟨RX8, "erect", "(I)I"⟩
abbrev cX8_lower : ByteArray := prog_1_method_6_code
def yX8_lower : MethodName := ⟨RX8, "lower", "(I)I"⟩
abbrev cX8_deck : ByteArray := prog_1_method_7_code
def yX8_deck : MethodName := ⟨RX8, "deck", "(III)I"⟩
abbrev cX8_put : ByteArray := prog_1_method_8_code
def yX8_put : MethodName := ⟨RX8, "put", "(III)I"⟩
abbrev cX8_take : ByteArray := prog_1_method_9_code
def yX8_take : MethodName := ⟨RX8, "take", "(III)I"⟩
abbrev cX8_refusal : ByteArray := prog_1_method_10_code
def yX8_refusal : MethodName := ⟨RX8, "refusal", "(IIIZ)I"⟩
abbrev cX8_report : ByteArray := prog_1_method_11_code
def yX8_report : MethodName := ⟨RX8, "report", "(IZ)I"⟩
abbrev cX8_bay : ByteArray := prog_1_method_12_code
def yX8_bay : MethodName := ⟨RX8, "bay", "(II)I"⟩
abbrev cX8_post : ByteArray := prog_1_method_13_code
def yX8_post : MethodName := ⟨RX8, "post", "(II)I"⟩
abbrev cX8_load : ByteArray := prog_1_method_14_code
def yX8_load : MethodName := ⟨RX8, "load", "(II)I"⟩
abbrev cX8_steps : ByteArray := prog_1_method_15_code
def yX8_steps : MethodName := ⟨RX8, "steps", "(II)I"⟩
abbrev cX8_fewestTies : ByteArray := prog_1_method_16_code
def yX8_fewestTies : MethodName := ⟨RX8, "fewestTies", "(I)I"⟩
abbrev cX8_tieLevels : ByteArray := prog_1_method_17_code
def yX8_tieLevels : MethodName := ⟨RX8, "tieLevels", "(I)I"⟩
abbrev cX8_missing : ByteArray := prog_1_method_18_code
def yX8_missing : MethodName := ⟨RX8, "missing", "(II)I"⟩
abbrev cX8_dismantling : ByteArray := prog_1_method_19_code
def yX8_dismantling : MethodName := ⟨RX8, "dismantling", "()I"⟩
abbrev cX8_work : ByteArray := prog_1_method_20_code
def yX8_work : MethodName := ⟨RX8, "work", "(II)I"⟩
abbrev cX8_account : ByteArray := prog_1_method_21_code
def yX8_account : MethodName := ⟨RX8, "account", "(I)I"⟩
abbrev cX8_use : ByteArray := prog_1_method_22_code
def yX8_use : MethodName := ⟨RX8, "use", "(I)F"⟩
abbrev cX8_meanClass : ByteArray := prog_1_method_23_code
def yX8_meanClass : MethodName := ⟨RX8, "meanClass", "()D"⟩
abbrev cX8_feed : ByteArray := prog_1_method_24_code
def yX8_feed : MethodName := ⟨RX8, "feed", "(C)I"⟩
abbrev cX8_perform : ByteArray := prog_1_method_25_code
def yX8_perform : MethodName := ⟨RX8, "perform", "()I"⟩
abbrev cX8_undo : ByteArray := prog_1_method_26_code
def yX8_undo : MethodName := ⟨RX8, "undo", "()I"⟩
abbrev cX8_save : ByteArray := prog_1_method_27_code
def yX8_save : MethodName := ⟨RX8, "save", "()I"⟩
abbrev cX8_restore : ByteArray := prog_1_method_28_code
def yX8_restore : MethodName := ⟨RX8, "restore", "()I"⟩
abbrev cX8_keepChange : ByteArray := prog_1_method_29_code
def yX8_keepChange : MethodName := ⟨RX8, "keepChange", "()V"⟩
abbrev cX8_isJobCarriedOut : ByteArray := prog_1_method_30_code
def yX8_isJobCarriedOut : MethodName := ⟨RX8, "isJobCarriedOut", "()Z"⟩
abbrev cX8_carryOutCommands : ByteArray := prog_1_method_31_code
def yX8_carryOutCommands : MethodName := ⟨RX8, "carryOutCommands", "()I"⟩
abbrev cX8_addRefusal : ByteArray := prog_1_method_32_code
def yX8_addRefusal : MethodName := ⟨RX8, "addRefusal", "()V"⟩
abbrev cX8_isInRange : ByteArray := prog_1_method_33_code
def yX8_isInRange : MethodName := ⟨RX8, "isInRange", "(LScaffoldPlanner$Work;)Z"⟩
abbrev cX8_leastTieSet : ByteArray := prog_1_method_34_code
def yX8_leastTieSet : MethodName := ⟨RX8, "leastTieSet", "(I)I"⟩
abbrev cX8_isHeld : ByteArray := prog_1_method_35_code
def yX8_isHeld : MethodName := ⟨RX8, "isHeld", "(IIII)Z"⟩
abbrev cX8_at : ByteArray := prog_1_method_36_code
def yX8_at : MethodName := ⟨RX8, "at", "([II)I"⟩
abbrev cX8_write : ByteArray := prog_1_method_37_code
def yX8_write : MethodName := ⟨RX8, "write", "([III)V"⟩
def RX9 : String := "ScaffoldPlannerModel"
def TX9 : u_T := fun k => match k with
  | 0 => ("ScaffoldPlannerModel", "g", "[I", true)
  | 1 => ("ScaffoldPlannerModel", "kept", "[I", true)
  | 2 => ("ScaffoldPlannerModel", "trial", "[I", true)
  | 3 => ("ScaffoldPlannerModel", "whole", "[I", true)
  | 4 => ("ScaffoldPlannerModel", "hasKept", "Z", false)
  | 5 => ("ScaffoldPlannerModel", "past", "[I", true)
  | 6 => ("ScaffoldPlannerModel", "pasts", "I", false)
  | 7 => ("ScaffoldPlannerModel", "report", "[I", true)
  | 8 => ("ScaffoldPlannerModel", "reports", "I", false)
  | 9 => ("ScaffoldPlannerModel", "thrown", "I", false)
  | 10 => ("ScaffoldPlannerModel", "wrongAt", "I", false)
  | 11 => ("ScaffoldPlannerModel", "far", "[I", true)
  | 12 => ("ScaffoldPlannerModel", "queue", "[I", true)
  | 13 => ("ScaffoldPlannerModel", "queued", "I", false)
  | 14 => ("ScaffoldPlannerModel", "detail", "I", false)
  | 15 => ("ScaffoldPlannerModel", "taken", "[I", true)
  | 16 => ("ScaffoldPlannerModel", "takens", "I", false)
  | 17 => ("ScaffoldPlannerModel", "text", "[I", true)
  | 18 => ("ScaffoldPlannerModel", "length", "I", false)
  | 19 => ("ScaffoldPlannerModel", "spot", "I", false)
  | 20 => ("ScaffoldPlannerModel", "told", "[I", true)
  | 21 => ("ScaffoldPlannerModel", "tolds", "I", false)
  | _ => ("ScaffoldPlannerModel", "ahead", "[I", true)
def tyX9 : Nat → FieldType := fun k => match k with
  | 0 => .array .int
  | 1 => .array .int
  | 2 => .array .int
  | 3 => .array .int
  | 4 => .boolean
  | 5 => .array .int
  | 6 => .int
  | 7 => .array .int
  | 8 => .int
  | 9 => .int
  | 10 => .int
  | 11 => .array .int
  | 12 => .array .int
  | 13 => .int
  | 14 => .int
  | 15 => .array .int
  | 16 => .int
  | 17 => .array .int
  | 18 => .int
  | 19 => .int
  | 20 => .array .int
  | 21 => .int
  | _ => .array .int
abbrev wsX90 : List Cond := u_ws RX9 TX9 23
theorem nmX9 : ∀ a, a < 23 → ∀ b, b < 23 → a ≠ b → (TX9 a).2.1 ≠ (TX9 b).2.1 := by decide +kernel
theorem tyX9_ok : ∀ k, k < 23 → parseFieldDescriptor (TX9 k).2.2.1 = some (tyX9 k) := by decide +kernel
abbrev cX9_init : ByteArray := prog_11_method_1_code
def yX9_init : MethodName := ⟨RX9, "<init>", "()V"⟩
abbrev cX9_thrown : ByteArray := prog_11_method_2_code
def yX9_thrown : MethodName := ⟨RX9, "thrown", "()I"⟩
abbrev cX9_fails : ByteArray := prog_11_method_3_code
def yX9_fails : MethodName := ⟨RX9, "fails", "(I)I"⟩
abbrev cX9_in : ByteArray := prog_11_method_4_code
def yX9_in : MethodName := ⟨RX9, "in", "(III)Z"⟩
abbrev cX9_begins : ByteArray := prog_11_method_5_code
def yX9_begins : MethodName := ⟨RX9, "begins", "(I)V"⟩
abbrev cX9_isPlace : ByteArray := prog_11_method_6_code
def yX9_isPlace : MethodName := ⟨RX9, "isPlace", "(I)Z"⟩
abbrev cX9_copies : ByteArray := prog_11_method_7_code
def yX9_copies : MethodName := ⟨RX9, "copies", "([I[I)V"⟩
abbrev cX9_changes : ByteArray := prog_11_method_8_code
def yX9_changes : MethodName := ⟨RX9, "changes", "([I)V"⟩
abbrev cX9_undo : ByteArray := prog_11_method_9_code
def yX9_undo : MethodName := ⟨RX9, "undo", "()I"⟩
abbrev cX9_save : ByteArray := prog_11_method_10_code
def yX9_save : MethodName := ⟨RX9, "save", "()I"⟩
abbrev cX9_restore : ByteArray := prog_11_method_11_code
def yX9_restore : MethodName := ⟨RX9, "restore", "()I"⟩
abbrev cX9_left : ByteArray := prog_11_method_12_code
def yX9_left : MethodName := ⟨RX9, "left", "(I)I"⟩
abbrev cX9_right : ByteArray := prog_11_method_13_code
def yX9_right : MethodName := ⟨RX9, "right", "(I)I"⟩
abbrev cX9_high : ByteArray := prog_11_method_14_code
def yX9_high : MethodName := ⟨RX9, "high", "(I)I"⟩
abbrev cX9_greater : ByteArray := prog_11_method_15_code
def yX9_greater : MethodName := ⟨RX9, "greater", "(II)I"⟩
abbrev cX9_postHigh : ByteArray := prog_11_method_16_code
def yX9_postHigh : MethodName := ⟨RX9, "postHigh", "(I)I"⟩
abbrev cX9_deckAt : ByteArray := prog_11_method_17_code
def yX9_deckAt : MethodName := ⟨RX9, "deckAt", "(II)I"⟩
abbrev cX9_has : ByteArray := prog_11_method_18_code
def yX9_has : MethodName := ⟨RX9, "has", "(III)Z"⟩
abbrev cX9_isHeldBy : ByteArray := prog_11_method_19_code
def yX9_isHeldBy : MethodName := ⟨RX9, "isHeldBy", "(IIII)Z"⟩
abbrev cX9_isHeld : ByteArray := prog_11_method_20_code
def yX9_isHeld : MethodName := ⟨RX9, "isHeld", "(I)Z"⟩
abbrev cX9_isBraced : ByteArray := prog_11_method_21_code
def yX9_isBraced : MethodName := ⟨RX9, "isBraced", "(II)Z"⟩
abbrev cX9_classes : ByteArray := prog_11_method_22_code
def yX9_classes : MethodName := ⟨RX9, "classes", "(I)I"⟩
abbrev cX9_loadOf : ByteArray := prog_11_method_23_code
def yX9_loadOf : MethodName := ⟨RX9, "loadOf", "(I)I"⟩
abbrev cX9_wrong : ByteArray := prog_11_method_24_code
def yX9_wrong : MethodName := ⟨RX9, "wrong", "()I"⟩
abbrev cX9_comes : ByteArray := prog_11_method_25_code
def yX9_comes : MethodName := ⟨RX9, "comes", "(III)V"⟩
abbrev cX9_walks : ByteArray := prog_11_method_26_code
def yX9_walks : MethodName := ⟨RX9, "walks", "()V"⟩
abbrev cX9_isReached : ByteArray := prog_11_method_27_code
def yX9_isReached : MethodName := ⟨RX9, "isReached", "(II)Z"⟩
abbrev cX9_posts : ByteArray := prog_11_method_28_code
def yX9_posts : MethodName := ⟨RX9, "posts", "()I"⟩
abbrev cX9_rowOf : ByteArray := prog_11_method_29_code
def yX9_rowOf : MethodName := ⟨RX9, "rowOf", "(I)I"⟩
abbrev cX9_does : ByteArray := prog_11_method_30_code
def yX9_does : MethodName := ⟨RX9, "does", "(IIIZI)V"⟩
abbrev cX9_isThere : ByteArray := prog_11_method_31_code
def yX9_isThere : MethodName := ⟨RX9, "isThere", "(III)Z"⟩
abbrev cX9_refuses : ByteArray := prog_11_method_32_code
def yX9_refuses : MethodName := ⟨RX9, "refuses", "(II)I"⟩
abbrev cX9_highest : ByteArray := prog_11_method_33_code
def yX9_highest : MethodName := ⟨RX9, "highest", "(I)I"⟩
abbrev cX9_hinders : ByteArray := prog_11_method_34_code
def yX9_hinders : MethodName := ⟨RX9, "hinders", "(I)I"⟩
abbrev cX9_byThings : ByteArray := prog_11_method_35_code
def yX9_byThings : MethodName := ⟨RX9, "byThings", "(IIIZ)I"⟩
abbrev cX9_hasStand : ByteArray := prog_11_method_36_code
def yX9_hasStand : MethodName := ⟨RX9, "hasStand", "(III)Z"⟩
abbrev cX9_byYard : ByteArray := prog_11_method_37_code
def yX9_byYard : MethodName := ⟨RX9, "byYard", "(II)I"⟩
abbrev cX9_against : ByteArray := prog_11_method_38_code
def yX9_against : MethodName := ⟨RX9, "against", "(IIIZI)I"⟩
abbrev cX9_reports : ByteArray := prog_11_method_39_code
def yX9_reports : MethodName := ⟨RX9, "reports", "(III)V"⟩
abbrev cX9_works : ByteArray := prog_11_method_40_code
def yX9_works : MethodName := ⟨RX9, "works", "(IIIZI)Z"⟩
abbrev cX9_start : ByteArray := prog_11_method_41_code
def yX9_start : MethodName := ⟨RX9, "start", "(I)I"⟩
abbrev cX9_isRule : ByteArray := prog_11_method_42_code
def yX9_isRule : MethodName := ⟨RX9, "isRule", "(II)Z"⟩
abbrev cX9_set : ByteArray := prog_11_method_43_code
def yX9_set : MethodName := ⟨RX9, "set", "(II)I"⟩
abbrev cX9_stock : ByteArray := prog_11_method_44_code
def yX9_stock : MethodName := ⟨RX9, "stock", "(II)I"⟩
abbrev cX9_erect : ByteArray := prog_11_method_45_code
def yX9_erect : MethodName := ⟨RX9, "erect", "(I)I"⟩
abbrev cX9_lower : ByteArray := prog_11_method_46_code
def yX9_lower : MethodName := ⟨RX9, "lower", "(I)I"⟩
abbrev cX9_decks : ByteArray := prog_11_method_47_code
def yX9_decks : MethodName := ⟨RX9, "decks", "(I)I"⟩
abbrev cX9_bits : ByteArray := prog_11_method_48_code
def yX9_bits : MethodName := ⟨RX9, "bits", "(I)I"⟩
abbrev cX9_pieces : ByteArray := prog_11_method_49_code
def yX9_pieces : MethodName := ⟨RX9, "pieces", "(I)I"⟩
abbrev cX9_deck : ByteArray := prog_11_method_50_code
def yX9_deck : MethodName := ⟨RX9, "deck", "(III)I"⟩
abbrev cX9_put : ByteArray := prog_11_method_51_code
def yX9_put : MethodName := ⟨RX9, "put", "(III)I"⟩
abbrev cX9_take : ByteArray := prog_11_method_52_code
def yX9_take : MethodName := ⟨RX9, "take", "(III)I"⟩
abbrev cX9_isWhat : ByteArray := prog_11_method_53_code
def yX9_isWhat : MethodName := ⟨RX9, "isWhat", "(I)Z"⟩
abbrev cX9_refusal : ByteArray := prog_11_method_54_code
def yX9_refusal : MethodName := ⟨RX9, "refusal", "(IIIZ)I"⟩
abbrev cX9_report : ByteArray := prog_11_method_55_code
def yX9_report : MethodName := ⟨RX9, "report", "(IZ)I"⟩
abbrev cX9_deckSet : ByteArray := prog_11_method_56_code
def yX9_deckSet : MethodName := ⟨RX9, "deckSet", "(IZ)I"⟩
abbrev cX9_bracedSet : ByteArray := prog_11_method_57_code
def yX9_bracedSet : MethodName := ⟨RX9, "bracedSet", "(I)I"⟩
abbrev cX9_bay : ByteArray := prog_11_method_58_code
def yX9_bay : MethodName := ⟨RX9, "bay", "(II)I"⟩
abbrev cX9_tiesBy : ByteArray := prog_11_method_59_code
def yX9_tiesBy : MethodName := ⟨RX9, "tiesBy", "(IZ)I"⟩
abbrev cX9_post : ByteArray := prog_11_method_60_code
def yX9_post : MethodName := ⟨RX9, "post", "(II)I"⟩
abbrev cX9_load : ByteArray := prog_11_method_61_code
def yX9_load : MethodName := ⟨RX9, "load", "(II)I"⟩
abbrev cX9_steps : ByteArray := prog_11_method_62_code
def yX9_steps : MethodName := ⟨RX9, "steps", "(II)I"⟩
abbrev cX9_leastTies : ByteArray := prog_11_method_63_code
def yX9_leastTies : MethodName := ⟨RX9, "leastTies", "(I)I"⟩
abbrev cX9_fewestTies : ByteArray := prog_11_method_64_code
def yX9_fewestTies : MethodName := ⟨RX9, "fewestTies", "(I)I"⟩
abbrev cX9_tieLevels : ByteArray := prog_11_method_65_code
def yX9_tieLevels : MethodName := ⟨RX9, "tieLevels", "(I)I"⟩
abbrev cX9_missing : ByteArray := prog_11_method_66_code
def yX9_missing : MethodName := ⟨RX9, "missing", "(II)I"⟩
abbrev cX9_takesFirst : ByteArray := prog_11_method_67_code
def yX9_takesFirst : MethodName := ⟨RX9, "takesFirst", "()Z"⟩
abbrev cX9_levels : ByteArray := prog_11_method_68_code
def yX9_levels : MethodName := ⟨RX9, "levels", "()I"⟩
abbrev cX9_dismantles : ByteArray := prog_11_method_69_code
def yX9_dismantles : MethodName := ⟨RX9, "dismantles", "()Z"⟩
abbrev cX9_dismantling : ByteArray := prog_11_method_70_code
def yX9_dismantling : MethodName := ⟨RX9, "dismantling", "()I"⟩
abbrev cX9_work : ByteArray := prog_11_method_71_code
def yX9_work : MethodName := ⟨RX9, "work", "(II)I"⟩
abbrev cX9_reached : ByteArray := prog_11_method_72_code
def yX9_reached : MethodName := ⟨RX9, "reached", "()I"⟩
abbrev cX9_account : ByteArray := prog_11_method_73_code
def yX9_account : MethodName := ⟨RX9, "account", "(I)I"⟩
abbrev cX9_use : ByteArray := prog_11_method_74_code
def yX9_use : MethodName := ⟨RX9, "use", "(I)F"⟩
abbrev cX9_meanClass : ByteArray := prog_11_method_75_code
def yX9_meanClass : MethodName := ⟨RX9, "meanClass", "()D"⟩
abbrev cX9_feed : ByteArray := prog_11_method_76_code
def yX9_feed : MethodName := ⟨RX9, "feed", "(C)I"⟩
abbrev cX9_here : ByteArray := prog_11_method_77_code
def yX9_here : MethodName := ⟨RX9, "here", "()I"⟩
abbrev cX9_skips : ByteArray := prog_11_method_78_code
def yX9_skips : MethodName := ⟨RX9, "skips", "(I)Z"⟩
abbrev cX9_digit : ByteArray := prog_11_method_79_code
def yX9_digit : MethodName := ⟨RX9, "digit", "(I)Z"⟩
abbrev cX9_command : ByteArray := prog_11_method_80_code
def yX9_command : MethodName := ⟨RX9, "command", "()Z"⟩
abbrev cX9_isText : ByteArray := prog_11_method_81_code
def yX9_isText : MethodName := ⟨RX9, "isText", "()Z"⟩
abbrev cX9_perform : ByteArray := prog_11_method_82_code
def yX9_perform : MethodName := ⟨RX9, "perform", "()I"⟩
def RJx145de : String := "java/io/Serializable"
def TJx145de : u_T := fun k => match k with
  | _ => ("", "", "", false)
def tyJx145de : Nat → FieldType := fun k => match k with
  | _ => .int
abbrev wsJx145de0 : List Cond := u_ws RJx145de TJx145de 0
theorem nmJx145de : ∀ a, a < 0 → ∀ b, b < 0 → a ≠ b → (TJx145de a).2.1 ≠ (TJx145de b).2.1 := by decide +kernel
theorem tyJx145de_ok : ∀ k, k < 0 → parseFieldDescriptor (TJx145de k).2.2.1 = some (tyJx145de k) := by decide +kernel
def RJx00060 : String := "java/lang/ArrayIndexOutOfBoundsException"
def TJx00060 : u_T := fun k => match k with
  | 0 => ("java/lang/Throwable", "backtrace", "Ljava/lang/Object;", false)
  | 1 => ("java/lang/Throwable", "detailMessage", "Ljava/lang/String;", false)
  | 2 => ("java/lang/Throwable", "cause", "Ljava/lang/Throwable;", false)
  | 3 => ("java/lang/Throwable", "stackTrace", "[Ljava/lang/StackTraceElement;", false)
  | 4 => ("java/lang/Throwable", "depth", "I", false)
  | _ => ("java/lang/Throwable", "suppressedExceptions", "Ljava/util/List;", false)
def tyJx00060 : Nat → FieldType := fun k => match k with
  | 0 => .object "java/lang/Object"
  | 1 => .object "java/lang/String"
  | 2 => .object "java/lang/Throwable"
  | 3 => .array (.object "java/lang/StackTraceElement")
  | 4 => .int
  | _ => .object "java/util/List"
abbrev wsJx000600 : List Cond := u_ws RJx00060 TJx00060 6
theorem nmJx00060 : ∀ a, a < 6 → ∀ b, b < 6 → a ≠ b → (TJx00060 a).2.1 ≠ (TJx00060 b).2.1 := by decide +kernel
theorem tyJx00060_ok : ∀ k, k < 6 → parseFieldDescriptor (TJx00060 k).2.2.1 = some (tyJx00060 k) := by decide +kernel
abbrev cJx00060_init_a7421 : ByteArray := prog_14_method_2_code
def yJx00060_init_a7421 : MethodName := ⟨RJx00060, "<init>", "(Ljava/lang/String;)V"⟩
def RJ6 : String := "java/lang/Integer"
def TJ6 : u_T := fun k => match k with
  | _ => ("", "", "", false)
def tyJ6 : Nat → FieldType := fun k => match k with
  | _ => .int
abbrev wsJ60 : List Cond := u_ws RJ6 TJ6 0
theorem nmJ6 : ∀ a, a < 0 → ∀ b, b < 0 → a ≠ b → (TJ6 a).2.1 ≠ (TJ6 b).2.1 := by decide +kernel
theorem tyJ6_ok : ∀ k, k < 0 → parseFieldDescriptor (TJ6 k).2.2.1 = some (tyJ6 k) := by decide +kernel
abbrev cJ6_bitCount_0f7a4 : ByteArray := prog_19_method_49_code
def yJ6_bitCount_0f7a4 : MethodName := ⟨RJ6, "bitCount", "(I)I"⟩
def RJ9 : String := "java/lang/Math"
def TJ9 : u_T := fun k => match k with
  | _ => ("", "", "", false)
def tyJ9 : Nat → FieldType := fun k => match k with
  | _ => .int
abbrev wsJ90 : List Cond := u_ws RJ9 TJ9 0
theorem nmJ9 : ∀ a, a < 0 → ∀ b, b < 0 → a ≠ b → (TJ9 a).2.1 ≠ (TJ9 b).2.1 := by decide +kernel
theorem tyJ9_ok : ∀ k, k < 0 → parseFieldDescriptor (TJ9 k).2.2.1 = some (tyJ9 k) := by decide +kernel
abbrev cJ9_max_7cf53 : ByteArray := prog_20_method_65_code
def yJ9_max_7cf53 : MethodName := ⟨RJ9, "max", "(II)I"⟩
abbrev cJ9_min_7cf53 : ByteArray := prog_20_method_69_code
def yJ9_min_7cf53 : MethodName := ⟨RJ9, "min", "(II)I"⟩
def RJ0 : String := "java/lang/String"
def TJ0 : u_T := fun k => match k with
  | 0 => ("java/lang/String", "value", "[B", true)
  | _ => ("java/lang/String", "coder", "B", true)
def tyJ0 : Nat → FieldType := fun k => match k with
  | 0 => .array .byte
  | _ => .byte
abbrev wsJ00 : List Cond := u_ws RJ0 TJ0 2
theorem nmJ0 : ∀ a, a < 2 → ∀ b, b < 2 → a ≠ b → (TJ0 a).2.1 ≠ (TJ0 b).2.1 := by decide +kernel
theorem tyJ0_ok : ∀ k, k < 2 → parseFieldDescriptor (TJ0 k).2.2.1 = some (tyJ0 k) := by decide +kernel
def RL : String := "ScaffoldPlannerLaw"
abbrev cL_start : ByteArray := method_3_code
def yL_start : MethodName := ⟨RL, "start", "(LScaffoldPlanner;I[J)I"⟩
abbrev cL_set : ByteArray := method_4_code
def yL_set : MethodName := ⟨RL, "set", "(LScaffoldPlanner;II[J)I"⟩
abbrev cL_stock : ByteArray := method_5_code
def yL_stock : MethodName := ⟨RL, "stock", "(LScaffoldPlanner;II[J)I"⟩
abbrev cL_erect : ByteArray := method_6_code
def yL_erect : MethodName := ⟨RL, "erect", "(LScaffoldPlanner;I[J)I"⟩
abbrev cL_lower : ByteArray := method_7_code
def yL_lower : MethodName := ⟨RL, "lower", "(LScaffoldPlanner;I[J)I"⟩
abbrev cL_deck : ByteArray := method_8_code
def yL_deck : MethodName := ⟨RL, "deck", "(LScaffoldPlanner;III[J)I"⟩
abbrev cL_put : ByteArray := method_9_code
def yL_put : MethodName := ⟨RL, "put", "(LScaffoldPlanner;III[J)I"⟩
abbrev cL_take : ByteArray := method_10_code
def yL_take : MethodName := ⟨RL, "take", "(LScaffoldPlanner;III[J)I"⟩
abbrev cL_refusal : ByteArray := method_11_code
def yL_refusal : MethodName := ⟨RL, "refusal", "(LScaffoldPlanner;IIIZ[J)I"⟩
abbrev cL_report : ByteArray := method_12_code
def yL_report : MethodName := ⟨RL, "report", "(LScaffoldPlanner;IZ[J)I"⟩
abbrev cL_bay : ByteArray := method_13_code
def yL_bay : MethodName := ⟨RL, "bay", "(LScaffoldPlanner;II[J)I"⟩
abbrev cL_post : ByteArray := method_14_code
def yL_post : MethodName := ⟨RL, "post", "(LScaffoldPlanner;II[J)I"⟩
abbrev cL_load : ByteArray := method_15_code
def yL_load : MethodName := ⟨RL, "load", "(LScaffoldPlanner;II[J)I"⟩
abbrev cL_steps : ByteArray := method_16_code
def yL_steps : MethodName := ⟨RL, "steps", "(LScaffoldPlanner;II[J)I"⟩
abbrev cL_fewestTies : ByteArray := method_17_code
def yL_fewestTies : MethodName := ⟨RL, "fewestTies", "(LScaffoldPlanner;I[J)I"⟩
abbrev cL_tieLevels : ByteArray := method_18_code
def yL_tieLevels : MethodName := ⟨RL, "tieLevels", "(LScaffoldPlanner;I[J)I"⟩
abbrev cL_missing : ByteArray := method_19_code
def yL_missing : MethodName := ⟨RL, "missing", "(LScaffoldPlanner;II[J)I"⟩
abbrev cL_dismantling : ByteArray := method_20_code
def yL_dismantling : MethodName := ⟨RL, "dismantling", "(LScaffoldPlanner;[J)I"⟩
abbrev cL_work : ByteArray := method_21_code
def yL_work : MethodName := ⟨RL, "work", "(LScaffoldPlanner;II[J)I"⟩
abbrev cL_account : ByteArray := method_22_code
def yL_account : MethodName := ⟨RL, "account", "(LScaffoldPlanner;I[J)I"⟩
abbrev cL_use : ByteArray := method_23_code
def yL_use : MethodName := ⟨RL, "use", "(LScaffoldPlanner;I[D)I"⟩
abbrev cL_meanClass : ByteArray := method_24_code
def yL_meanClass : MethodName := ⟨RL, "meanClass", "(LScaffoldPlanner;[D)I"⟩
abbrev cL_feed : ByteArray := method_25_code
def yL_feed : MethodName := ⟨RL, "feed", "(LScaffoldPlanner;C[J)I"⟩
abbrev cL_perform : ByteArray := method_26_code
def yL_perform : MethodName := ⟨RL, "perform", "(LScaffoldPlanner;[J)I"⟩
abbrev cL_undo : ByteArray := method_27_code
def yL_undo : MethodName := ⟨RL, "undo", "(LScaffoldPlanner;[J)I"⟩
abbrev cL_restore : ByteArray := method_28_code
def yL_restore : MethodName := ⟨RL, "restore", "(LScaffoldPlanner;[J)I"⟩
abbrev cL_law : ByteArray := code
def yL_law : MethodName := ⟨RL, "law", "([I)Z"⟩
/-! ===== the classes of the worlds, the good words ===== -/
abbrev m_cl : List vw_C := [(RX0, TX0, 3), (RX1, TX1, 8), (RX2, TX2, 3), (RX3, TX3, 3), (RX4, TX4, 7), (RX5, TX5, 3), (RX6, TX6, 4), (RX7, TX7, 5), (RX8, TX8, 11), (RX9, TX9, 23)]
def gw : List Cond := lw_tbl.filter goodWord
/-- words on the tables that hold on as the tables warm, by rules of their own -/
def isNw : Cond → Bool
  | .fieldLinkNest .. | .methodLinkNest .. | .declares _ | .castable .. | .privateMethod _ => true
  | _ => false
def nw : List Cond := lw_tbl.filter isNw
theorem iX0 : ∀ w ∈ u_ws RX0 TX0 3, w ∈ gw := by decide +kernel
theorem iX1 : ∀ w ∈ u_ws RX1 TX1 8, w ∈ gw := by decide +kernel
theorem iX2 : ∀ w ∈ u_ws RX2 TX2 3, w ∈ gw := by decide +kernel
theorem iX3 : ∀ w ∈ u_ws RX3 TX3 3, w ∈ gw := by decide +kernel
theorem iX4 : ∀ w ∈ u_ws RX4 TX4 7, w ∈ gw := by decide +kernel
theorem iX5 : ∀ w ∈ u_ws RX5 TX5 3, w ∈ gw := by decide +kernel
theorem iX6 : ∀ w ∈ u_ws RX6 TX6 4, w ∈ gw := by decide +kernel
theorem iX7 : ∀ w ∈ u_ws RX7 TX7 5, w ∈ gw := by decide +kernel
theorem iX8 : ∀ w ∈ u_ws RX8 TX8 11, w ∈ gw := by decide +kernel
theorem iX9 : ∀ w ∈ u_ws RX9 TX9 23, w ∈ gw := by decide +kernel
theorem gw_good : GoodIn gw gw := fun w h => ⟨h, good_of_word (List.mem_filter.mp h).2⟩
end
section
/-! ===== LAYER 1: one abstract store for the whole system ===== -/
/-- class ids and slots, array class ids by tag, the first made cell's address, the read-only cells' addresses, and what they are -/
abbrev mG : Type := va_G × (Nat → ClassId) × Nat × (Nat → Nat) × (Nat → Cell)
/-- shape: next free reference, tags, lengths, references held -/
abbrev mZ : Type := Nat × (Nat → Nat) × (Nat → Nat) × (Nat → Nat → Option Nat)
/-- memory: ints, longs, doubles; and whether something was thrown (then no more cells are made) -/
abbrev mM : Type := (Nat → Nat → Int32) × (Nat → Nat → Int64) × (Nat → Nat → UInt64) × Nat
abbrev gB (G : mG) : Nat := G.2.2.1
abbrev gO (G : mG) : Nat → Nat := G.2.2.2.1
abbrev gC (G : mG) : Nat → Cell := G.2.2.2.2
abbrev gT (G : mG) : Nat → ClassId := G.2.1
def gA (G : mG) : Nat → Prop := fun q => gB G ≤ q
def m_ad (G : mG) (r : Nat) : Nat := if r < 8 then gO G r else gB G + (r - 8)
def m_cv (G : mG) : Value → Value
  | .ref r => .ref (m_ad G r)
  | v => v
theorem m_cv_cat (G : mG) (v : Value) : (m_cv G v).category = v.category := by cases v <;> rfl
theorem m_cv_rf (G : mG) (r : Option Nat) : m_cv G (va_rf r) = va_rf (r.map (m_ad G)) := by cases r <;> rfl
def m_ty (t : Nat) : Nat → FieldType := match t with
  | 0 => tyX0 | 1 => tyX1 | 2 => tyX2 | 3 => tyX3 | 4 => tyX4 | 5 => tyX5 | 6 => tyX6 | 7 => tyX7 | 8 => tyX8 | _ => tyX9
def m_nf (t : Nat) : Nat := match t with
  | 0 => 3 | 1 => 8 | 2 => 3 | 3 => 3 | 4 => 7 | 5 => 3 | 6 => 4 | 7 => 5 | 8 => 11 | _ => 23
def m_fv (G : mG) (Z : mZ) (M : mM) (r j : Nat) : Value := match m_ty (Z.2.1 r) j with
  | .object _ => va_rf ((Z.2.2.2 r j).map (m_ad G))
  | .array _ => va_rf ((Z.2.2.2 r j).map (m_ad G))
  | _ => .int (M.1 r j)
def m_ac (G : mG) (Z : mZ) (M : mM) (r : Nat) : Cell :=
  if Z.2.1 r = 22 then arrV (gT G 22) (Z.2.2.1 r) (fun j => .long (M.2.1 r j))
  else if Z.2.1 r = 23 then arrV (gT G 23) (Z.2.2.1 r) (fun j => .double (M.2.2.1 r j))
  else if Z.2.1 r = 24 then arrV (gT G 24) (Z.2.2.1 r) (fun j => va_rf ((Z.2.2.2 r j).map (m_ad G)))
  else arrV (gT G (Z.2.1 r)) (Z.2.2.1 r) (fun j => .int (M.1 r j))
def m_at (G : mG) (Z : mZ) (M : mM) (r : Nat) (H : Heap) : Prop :=
  if Z.2.1 r < 20 then t_OB (m_ad G r) (G.1.1 (Z.2.1 r)) (m_nf (Z.2.1 r)) (G.1.2 (Z.2.1 r)) H (m_fv G Z M r)
  else H[m_ad G r]? = some (m_ac G Z M r)
def m_ro (G : mG) (Z : mZ) (M : mM) (r : Nat) (H : Heap) : Prop :=
  H[gO G r]? = some (gC G r) ∧ Z.2.2.1 r ≤ (gC G r).slots.size ∧ (gC G r).slots.size.toInt32 = Int32.ofNat (Z.2.2.1 r) ∧ ∀ j, j < Z.2.2.1 r → (gC G r).slots[j]? = some (.int (M.1 r j))
def Rep (G : mG) (Z : mZ) (M : mM) (H : Heap) : Prop :=
  (∀ r, r < 5 → m_ro G Z M r H) ∧ (∀ r, 8 ≤ r → r < Z.1 → m_at G Z M r H) ∧ 8 ≤ Z.1 ∧ gB G + (Z.1 - 8) ≤ H.size ∧ (M.2.2.2 = 0 → H.size = gB G + (Z.1 - 8))
/-- pairs of classes that a handler tells apart -/
def ncs : List (String × String) := [("java/lang/IllegalStateException", "java/lang/IllegalArgumentException"), ("java/lang/IllegalArgumentException", "java/lang/IndexOutOfBoundsException"), ("java/lang/UnsupportedOperationException", "java/lang/IndexOutOfBoundsException"), ("java/lang/UnsupportedOperationException", "java/lang/IllegalArgumentException"), ("java/lang/IndexOutOfBoundsException", "java/lang/IllegalArgumentException"), ("java/util/NoSuchElementException", "java/lang/IndexOutOfBoundsException")]
def m_tys (G : mG) : List (ClassId × FieldType) := [(gT G 20, .int), (gT G 21, .char), (gT G 22, .long), (gT G 23, .double), (gT G 24, .object RX4)]
/-- what every method may take as given of the machine's tables and statics -/
def Ev (G : mG) (U : State) : Prop :=
  va_K G.1 m_cl (m_tys G) U ∧ (∀ r, r < 5 → U.isArrayOf (gC G r) .int ∧ (gC G r).vm ≠ .unknown ∧ gO G r < gB G) ∧
  (va_Z RX8 "FIRST_RULES" "[I" (.ref (gO G 1)) (gA G) U U.heap ∧ va_Z RX8 "LEAST_RULES" "[I" (.ref (gO G 2)) (gA G) U U.heap ∧ va_Z RX8 "GREATEST_RULES" "[I" (.ref (gO G 3)) (gA G) U U.heap ∧ va_Z RX8 "DISMANTLING_ORDER" "[I" (.ref (gO G 4)) (gA G) U U.heap) ∧
  vx_Zq Bundle.tN "UNASSIGNED_STACK" Bundle.steD (gA G) U U.heap ∧ vx_Zq Bundle.tN "SUPPRESSED_SENTINEL" Bundle.listD (gA G) U U.heap ∧
  gB G ≤ U.heap.size ∧ (∀ w ∈ nw, va_Nw w U) ∧ (∀ q ∈ ncs, va_Nc q.1 q.2 U) ∧ va_AO RX4 U
theorem nw_warm {s U : State} (hW : s.WarmedH U.vm) {w : Cond} (hn : isNw w = true) (h : va_Nw w s) : va_Nw w U := by
  cases w <;> first | exact va_Nw.warmF hW h | exact va_Nw.warmM hW h | exact va_Nw.warmD hW h | exact va_Nw.warmC hW h | exact va_tabs rfl (rfl : (s.setVm U.vm).vm = U.vm) (by rw [Cond.privateMethod_setVm hW.alike]; exact h) | (simp [isNw] at hn)
theorem Ev.trans {G : mG} {u U : State} (h : Ev G u) (hW : u.WarmedH U.vm) (hz : u.heap.size ≤ U.heap.size) (hq : ∀ q : Nat, q < u.heap.size → ¬ gA G q → U.heap[q]? = u.heap[q]?) : Ev G U := by
  obtain ⟨h1, h2, ⟨z1, z2, z3, z4⟩, h3, h4, h5, h6, h7, h8⟩ := h
  have ha := hW.alike
  refine ⟨h1.moved ha, fun r hr => ⟨State.isArrayOf_alike ha (h2 r hr).1, (h2 r hr).2⟩, ⟨(z1.kept hq).moved ha, (z2.kept hq).moved ha, (z3.kept hq).moved ha, (z4.kept hq).moved ha⟩, (h3.kept hq).moved ha, (h4.kept hq).moved ha, Nat.le_trans h5 hz, fun w hw => nw_warm hW (List.mem_filter.mp hw).2 (h6 w hw), fun q hq => (h7 q hq).moved ha, h8.moved ha⟩
theorem m_ro.kept {G : mG} {Z : mZ} {M : mM} {r : Nat} {H H1 : Heap} (h : m_ro G Z M r H) (hq : H1[gO G r]? = H[gO G r]?) : m_ro G Z M r H1 := ⟨by rw [hq]; exact h.1, h.2⟩
theorem m_at.kept {G : mG} {Z : mZ} {M : mM} {r : Nat} {H H1 : Heap} (h : m_at G Z M r H) (hq : H1[m_ad G r]? = H[m_ad G r]?) : m_at G Z M r H1 := by
  unfold m_at at h ⊢
  by_cases hh : Z.2.1 r < 20
  · rw [if_pos hh] at h ⊢; exact h.kept hq
  · rw [if_neg hh] at h ⊢; rw [hq]; exact h
theorem m_ad_hi {G : mG} {r : Nat} (h : 8 ≤ r) : m_ad G r = gB G + (r - 8) := by unfold m_ad; rw [if_neg (by omega)]
theorem m_ad_lo {G : mG} {r : Nat} (h : r < 8) : m_ad G r = gO G r := by unfold m_ad; rw [if_pos h]
theorem m_ad_inj {G : mG} {r t : Nat} (hr : 8 ≤ r) (ht : 8 ≤ t) (h : m_ad G r = m_ad G t) : r = t := by rw [m_ad_hi hr, m_ad_hi ht] at h; omega
/-- outcomes: returned with a value or none, or thrown, by the class's name -/
abbrev mO : Type := Option Value ⊕ String
def mPc (G : mG) (a : List Value) (Z : mZ) (M : mM) : Array Value → State → Prop := fun v U => v = (a.map (m_cv G)).toArray ∧ Ev G U ∧ Rep G Z M U.heap
def mQc (G : mG) (o : mO) (Z : mZ) (M : mM) : Array Value → State → Outcome → State → Prop := fun _ st oc t => (∃ v, o = .inl v ∧ oc = .returned (v.map (m_cv G))) ∧ Rep G Z M t.heap ∧ va_F (gA G) st t
def mXC (G : mG) (o : mO) (Z : mZ) (M : mM) : String → State → State → Prop := fun E st t => o = .inr E ∧ Rep G Z M t.heap ∧ va_F (gA G) st t
/-- THE CONTRACT of a method: from Z, M, on these arguments, this outcome, and Z', M' behind it -/
def CT (G : mG) (l : Launch) (y : MethodName) (w0 : Cond) (rm : Room) (a : List Value) (Z : mZ) (M : mM) (o : mO) (Z' : mZ) (M' : mM) : Prop :=
  vx_Met l y (w0 :: gw) rm (mPc G a Z M) (mQc G o Z' M') (mXC G o Z' M') rm.cells rm.slots (gA G)
theorem mPc_blind {G : mG} {a : List Value} {Z : mZ} {M : mM} : FrameBlind (mPc G a Z M) := fun v U g mk h => ⟨h.1, h.2.1.trans (State.WarmedH.refl U) (Nat.le_refl _) (fun _ _ _ => rfl), h.2.2⟩
/-- what holds in a frame -/
def Cx (G : mG) (p : Program) (l : Launch) (s : State) (m : MethodId) (args : Array Value) (meth : Method) (c : Code) (own : String) (cc : ByteArray) (nL : Nat) (ret : Option FieldType) (tb : List ExceptionTableEntry) : Prop :=
  p.tables.exec = Jvm.exec ∧ c.code = cc ∧ c.maxLocals = nL ∧ s.vm.findClass own = some m.cls ∧ (∀ w ∈ gw, w.before args s = true) ∧ meth.locks = false ∧ Ev G s ∧ meth.sig.returnType = ret ∧ l.stackTraces = false ∧ c.exceptionTable.toList = tb
abbrev mL : Type := List (Nat × Value)
def m_cl2 (G : mG) (L : mL) : mL := L.map (fun q => (q.1, m_cv G q.2))
/-- THE JUDGEMENT: from here the frame ends in Q -/
def JJ (G : mG) (p : Program) (l : Launch) (e : Env) (R : Room) (s : State) (m : MethodId) (args : Array Value) (below : List Frame) (meth : Method) (c : Code) (nL : Nat) (Q : State → Prop) (k n pc : Nat) (L : mL) (st : List Value) (Z : mZ) (M : mM) : Prop :=
  ∀ (H : Heap) (locs : List Loc) (ls : Array Slot), Rep G Z M H → va_S (gA G) s.heap H locs → lv_has ls nL (m_cl2 G L) →
    W p l e R s m args below meth c H locs k n Q (F0 m pc ls (st.map (m_cv G)))
/-- the end of a method body -/
abbrev mEnd (G : mG) (below : List Frame) (args : Array Value) (s : State) (rm : Room) (o : mO) (Z' : mZ) (M' : mM) : State → Prop := vx_MQ below (mQc G o Z' M') (mXC G o Z' M') args s rm.cells rm.slots (gA G)
theorem m_cl2_at {G : mG} {L : mL} {i j : Nat} {v : Value} (h : L[i]? = some (j, v)) : (m_cl2 G L)[i]? = some (j, m_cv G v) := by
  unfold m_cl2
  rw [List.getElem?_map, h]; rfl
def m_f1 (i : Nat) : Nat × Value → Bool := fun q => !(q.1 == i) && !(q.1 + 1 == i && q.2.category == 2)
def m_f2 (i : Nat) : Nat × Value → Bool := fun q => !(q.1 == i) && (!(q.1 == i + 1) && !(q.1 + 1 == i && q.2.category == 2))
theorem m_cl2_f1 {G : mG} {L : mL} {i : Nat} : (m_cl2 G L).filter (m_f1 i) = m_cl2 G (L.filter (m_f1 i)) := by
  unfold m_cl2
  rw [List.filter_map]
  congr 1
  apply List.filter_congr
  intro q _
  simp [m_f1, m_cv_cat]
theorem m_cl2_f2 {G : mG} {L : mL} {i : Nat} : (m_cl2 G L).filter (m_f2 i) = m_cl2 G (L.filter (m_f2 i)) := by
  unfold m_cl2
  rw [List.filter_map]
  congr 1
  apply List.filter_congr
  intro q _
  simp [m_f2, m_cv_cat]
theorem m_cl2_pick {G : mG} {L : mL} {ks : List Nat} : lv_pick (m_cl2 G L) ks = m_cl2 G (lv_pick L ks) := by
  unfold lv_pick m_cl2
  induction ks with
  | nil => rfl
  | cons a ks ih =>
    simp only [List.filterMap_cons, List.getElem?_map]
    cases h : L[a]? with
    | none => simpa [h] using ih
    | some q => simpa using ih
def lset (L : mL) (i : Nat) (v : Value) : mL := (i, v) :: L.filter (m_f1 i)
def lset2 (L : mL) (i : Nat) (v : Value) : mL := (i, v) :: L.filter (m_f2 i)
theorem m_cl2_set {G : mG} {L : mL} {i : Nat} {v : Value} : (i, m_cv G v) :: (m_cl2 G L).filter (fun q => !(q.1 == i) && !(q.1 + 1 == i && q.2.category == 2)) = m_cl2 G (lset L i v) := by
  have h := m_cl2_f1 (G := G) (L := L) (i := i)
  unfold m_f1 at h
  rw [h]; rfl
theorem m_cl2_set2 {G : mG} {L : mL} {i : Nat} {v : Value} : (i, m_cv G v) :: (m_cl2 G L).filter (fun q => !(q.1 == i) && (!(q.1 == i + 1) && !(q.1 + 1 == i && q.2.category == 2))) = m_cl2 G (lset2 L i v) := by
  have h := m_cl2_f2 (G := G) (L := L) (i := i)
  unfold m_f2 at h
  rw [h]; rfl
end
section
/-! ===== LAYER 1: rows of the judgement (by wip/whole/gen/rows.py) ===== -/
section JR1
variable {G : mG} {p : Program} {l : Launch} {e : Env} {R : Room} {s : State} {m : MethodId} {args : Array Value} {below : List Frame} {meth : Method} {c : Code} {nL k n : Nat} {Q : State → Prop} {own : String} {cc : ByteArray} {ret : Option FieldType} {tb : List ExceptionTableEntry}
variable {pc : Nat} {L : mL} {st : List Value} {Z : mZ} {M : mM}
theorem j_sub (ks : List Nat) {L' : mL} (hl : lv_pick L ks = L') (kk : JJ G p l e R s m args below meth c nL Q k n (pc) L' (st) Z M) : JJ G p l e R s m args below meth c nL Q k n (pc) L (st) Z M := fun H locs ls hR hS hL => kk H locs ls hR hS (lv_sub hL ks (by rw [m_cl2_pick, hl]))
theorem j_iconst (C : Cx G p l s m args meth c own cc nL ret tb) {n1 : Int} {v : Int32} (d : decode cc pc = .ok (.iconst n1, 1)) (hv : Int32.ofInt n1 = v) (kk : JJ G p l e R s m args below meth c nL Q k n (pc + 1) L (.int v :: st) Z M) : JJ G p l e R s m args below meth c nL Q k n (pc) L (st) Z M := fun H locs ls hR hS hL => lv_iconst C.1 C.2.1 d hv (kk H locs ls hR hS hL)
theorem j_bipush (C : Cx G p l s m args meth c own cc nL ret tb) {n1 : Int} {v : Int32} (d : decode cc pc = .ok (.bipush n1, 2)) (hv : (Int8.ofInt n1).toInt32 = v) (kk : JJ G p l e R s m args below meth c nL Q k n (pc + 2) L (.int v :: st) Z M) : JJ G p l e R s m args below meth c nL Q k n (pc) L (st) Z M := fun H locs ls hR hS hL => lv_bipush C.1 C.2.1 d hv (kk H locs ls hR hS hL)
theorem j_sipush (C : Cx G p l s m args meth c own cc nL ret tb) {n1 : Int} {v : Int32} (d : decode cc pc = .ok (.sipush n1, 3)) (hv : (Int16.ofInt n1).toInt32 = v) (kk : JJ G p l e R s m args below meth c nL Q k n (pc + 3) L (.int v :: st) Z M) : JJ G p l e R s m args below meth c nL Q k n (pc) L (st) Z M := fun H locs ls hR hS hL => lv_sipush C.1 C.2.1 d hv (kk H locs ls hR hS hL)
theorem j_ldcw (C : Cx G p l s m args meth c own cc nL ret tb) {i1 : Nat} {v : Int32} (d : decode cc pc = .ok (.ldc_w i1, 3)) (hw : Cond.constant own i1 v ∈ gw) (kk : JJ G p l e R s m args below meth c nL Q k n (pc + 3) L (.int v :: st) Z M) : JJ G p l e R s m args below meth c nL Q k n (pc) L (st) Z M := fun H locs ls hR hS hL => lv_ldcw C.1 C.2.1 C.2.2.2.1 (C.2.2.2.2.1 _ hw) d (kk H locs ls hR hS hL)
theorem j_null (C : Cx G p l s m args meth c own cc nL ret tb) (d : decode cc pc = .ok (.aconst_null, 1)) (kk : JJ G p l e R s m args below meth c nL Q k n (pc + 1) L (.null :: st) Z M) : JJ G p l e R s m args below meth c nL Q k n (pc) L (st) Z M := fun H locs ls hR hS hL => lv_null C.1 C.2.1 d (kk H locs ls hR hS hL)
theorem j_fconst0 (C : Cx G p l s m args meth c own cc nL ret tb) (d : decode cc pc = .ok (.fconst 0, 1)) (kk : JJ G p l e R s m args below meth c nL Q k n (pc + 1) L (.float 0 :: st) Z M) : JJ G p l e R s m args below meth c nL Q k n (pc) L (st) Z M := fun H locs ls hR hS hL => lv_fconst0 C.1 C.2.1 d (kk H locs ls hR hS hL)
theorem j_dconst0 (C : Cx G p l s m args meth c own cc nL ret tb) (d : decode cc pc = .ok (.dconst 0, 1)) (kk : JJ G p l e R s m args below meth c nL Q k n (pc + 1) L (.double 0 :: st) Z M) : JJ G p l e R s m args below meth c nL Q k n (pc) L (st) Z M := fun H locs ls hR hS hL => lv_dconst0 C.1 C.2.1 d (kk H locs ls hR hS hL)
theorem j_iload_n (C : Cx G p l s m args meth c own cc nL ret tb) {k1 : Fin 4} {i1 : Nat} {x : Int32} (d : decode cc pc = .ok (.iload_n k1, 1)) (hi : (k1 : Nat) = i1) (a : Nat) (hl : L[a]? = some (i1, .int x)) (kk : JJ G p l e R s m args below meth c nL Q k n (pc + 1) L (.int x :: st) Z M) : JJ G p l e R s m args below meth c nL Q k n (pc) L (st) Z M := fun H locs ls hR hS hL => lv_iload_n C.1 C.2.1 d hi (lv_at hL a (m_cl2_at hl)) (kk H locs ls hR hS hL)
theorem j_iload (C : Cx G p l s m args meth c own cc nL ret tb) {i1 : Nat} {x : Int32} (d : decode cc pc = .ok (.iload i1, 2))  (a : Nat) (hl : L[a]? = some (i1, .int x)) (kk : JJ G p l e R s m args below meth c nL Q k n (pc + 2) L (.int x :: st) Z M) : JJ G p l e R s m args below meth c nL Q k n (pc) L (st) Z M := fun H locs ls hR hS hL => lv_iload C.1 C.2.1 d (lv_at hL a (m_cl2_at hl)) (kk H locs ls hR hS hL)
theorem j_fload_n (C : Cx G p l s m args meth c own cc nL ret tb) {k1 : Fin 4} {i1 : Nat} {x : UInt32} (d : decode cc pc = .ok (.fload_n k1, 1)) (hi : (k1 : Nat) = i1) (a : Nat) (hl : L[a]? = some (i1, .float x)) (kk : JJ G p l e R s m args below meth c nL Q k n (pc + 1) L (.float x :: st) Z M) : JJ G p l e R s m args below meth c nL Q k n (pc) L (st) Z M := fun H locs ls hR hS hL => lv_fload_n C.1 C.2.1 d hi (lv_at hL a (m_cl2_at hl)) (kk H locs ls hR hS hL)
theorem j_fload (C : Cx G p l s m args meth c own cc nL ret tb) {i1 : Nat} {x : UInt32} (d : decode cc pc = .ok (.fload i1, 2))  (a : Nat) (hl : L[a]? = some (i1, .float x)) (kk : JJ G p l e R s m args below meth c nL Q k n (pc + 2) L (.float x :: st) Z M) : JJ G p l e R s m args below meth c nL Q k n (pc) L (st) Z M := fun H locs ls hR hS hL => lv_fload C.1 C.2.1 d (lv_at hL a (m_cl2_at hl)) (kk H locs ls hR hS hL)
theorem j_dload_n (C : Cx G p l s m args meth c own cc nL ret tb) {k1 : Fin 4} {i1 : Nat} {x : UInt64} (d : decode cc pc = .ok (.dload_n k1, 1)) (hi : (k1 : Nat) = i1) (a : Nat) (hl : L[a]? = some (i1, .double x)) (kk : JJ G p l e R s m args below meth c nL Q k n (pc + 1) L (.double x :: st) Z M) : JJ G p l e R s m args below meth c nL Q k n (pc) L (st) Z M := fun H locs ls hR hS hL => lv_dload_n C.1 C.2.1 d hi (lv_at hL a (m_cl2_at hl)) (kk H locs ls hR hS hL)
theorem j_dload (C : Cx G p l s m args meth c own cc nL ret tb) {i1 : Nat} {x : UInt64} (d : decode cc pc = .ok (.dload i1, 2))  (a : Nat) (hl : L[a]? = some (i1, .double x)) (kk : JJ G p l e R s m args below meth c nL Q k n (pc + 2) L (.double x :: st) Z M) : JJ G p l e R s m args below meth c nL Q k n (pc) L (st) Z M := fun H locs ls hR hS hL => lv_dload C.1 C.2.1 d (lv_at hL a (m_cl2_at hl)) (kk H locs ls hR hS hL)
theorem j_aload_n (C : Cx G p l s m args meth c own cc nL ret tb) {k1 : Fin 4} {i1 : Nat} {x : Nat} (d : decode cc pc = .ok (.aload_n k1, 1)) (hi : (k1 : Nat) = i1) (a : Nat) (hl : L[a]? = some (i1, .ref x)) (kk : JJ G p l e R s m args below meth c nL Q k n (pc + 1) L (.ref x :: st) Z M) : JJ G p l e R s m args below meth c nL Q k n (pc) L (st) Z M := fun H locs ls hR hS hL => lv_aload_n C.1 C.2.1 d hi (lv_at hL a (m_cl2_at hl)) (kk H locs ls hR hS hL)
theorem j_aload (C : Cx G p l s m args meth c own cc nL ret tb) {i1 : Nat} {x : Nat} (d : decode cc pc = .ok (.aload i1, 2))  (a : Nat) (hl : L[a]? = some (i1, .ref x)) (kk : JJ G p l e R s m args below meth c nL Q k n (pc + 2) L (.ref x :: st) Z M) : JJ G p l e R s m args below meth c nL Q k n (pc) L (st) Z M := fun H locs ls hR hS hL => lv_aload C.1 C.2.1 d (lv_at hL a (m_cl2_at hl)) (kk H locs ls hR hS hL)
theorem j_aload_nN (C : Cx G p l s m args meth c own cc nL ret tb) {k1 : Fin 4} {i1 : Nat} (d : decode cc pc = .ok (.aload_n k1, 1)) (hi : (k1 : Nat) = i1) (a : Nat) (hl : L[a]? = some (i1, .null)) (kk : JJ G p l e R s m args below meth c nL Q k n (pc + 1) L (.null :: st) Z M) : JJ G p l e R s m args below meth c nL Q k n (pc) L (st) Z M := fun H locs ls hR hS hL => lv_aload_nN C.1 C.2.1 d hi (lv_at hL a (m_cl2_at hl)) (kk H locs ls hR hS hL)
theorem j_aloadN (C : Cx G p l s m args meth c own cc nL ret tb) {i1 : Nat} (d : decode cc pc = .ok (.aload i1, 2))  (a : Nat) (hl : L[a]? = some (i1, .null)) (kk : JJ G p l e R s m args below meth c nL Q k n (pc + 2) L (.null :: st) Z M) : JJ G p l e R s m args below meth c nL Q k n (pc) L (st) Z M := fun H locs ls hR hS hL => lv_aloadN C.1 C.2.1 d (lv_at hL a (m_cl2_at hl)) (kk H locs ls hR hS hL)
theorem j_istore_n (C : Cx G p l s m args meth c own cc nL ret tb) {k1 : Fin 4} {i1 : Nat} {x : Int32} {L' : mL} (d : decode cc pc = .ok (.istore_n k1, 1)) (hi : (k1 : Nat) = i1) (hn : i1 < nL) (hl : lset L i1 (.int x) = L') (kk : JJ G p l e R s m args below meth c nL Q k n (pc + 1) L' (st) Z M) : JJ G p l e R s m args below meth c nL Q k n (pc) L (.int x :: st) Z M := fun H locs ls hR hS hL => lv_istore_n C.1 C.2.1 d hi hL hn (m_cl2_set (G := G) (L := L) (v := .int x)) (fun ls' h' => kk H locs ls' hR hS (by rw [← hl]; exact h'))
theorem j_istore (C : Cx G p l s m args meth c own cc nL ret tb) {i1 : Nat} {x : Int32} {L' : mL} (d : decode cc pc = .ok (.istore i1, 2))  (hn : i1 < nL) (hl : lset L i1 (.int x) = L') (kk : JJ G p l e R s m args below meth c nL Q k n (pc + 2) L' (st) Z M) : JJ G p l e R s m args below meth c nL Q k n (pc) L (.int x :: st) Z M := fun H locs ls hR hS hL => lv_istore C.1 C.2.1 d hL hn (m_cl2_set (G := G) (L := L) (v := .int x)) (fun ls' h' => kk H locs ls' hR hS (by rw [← hl]; exact h'))
theorem j_fstore_n (C : Cx G p l s m args meth c own cc nL ret tb) {k1 : Fin 4} {i1 : Nat} {x : UInt32} {L' : mL} (d : decode cc pc = .ok (.fstore_n k1, 1)) (hi : (k1 : Nat) = i1) (hn : i1 < nL) (hl : lset L i1 (.float x) = L') (kk : JJ G p l e R s m args below meth c nL Q k n (pc + 1) L' (st) Z M) : JJ G p l e R s m args below meth c nL Q k n (pc) L (.float x :: st) Z M := fun H locs ls hR hS hL => lv_fstore_n C.1 C.2.1 d hi hL hn (m_cl2_set (G := G) (L := L) (v := .float x)) (fun ls' h' => kk H locs ls' hR hS (by rw [← hl]; exact h'))
theorem j_fstore (C : Cx G p l s m args meth c own cc nL ret tb) {i1 : Nat} {x : UInt32} {L' : mL} (d : decode cc pc = .ok (.fstore i1, 2))  (hn : i1 < nL) (hl : lset L i1 (.float x) = L') (kk : JJ G p l e R s m args below meth c nL Q k n (pc + 2) L' (st) Z M) : JJ G p l e R s m args below meth c nL Q k n (pc) L (.float x :: st) Z M := fun H locs ls hR hS hL => lv_fstore C.1 C.2.1 d hL hn (m_cl2_set (G := G) (L := L) (v := .float x)) (fun ls' h' => kk H locs ls' hR hS (by rw [← hl]; exact h'))
theorem j_astore_n (C : Cx G p l s m args meth c own cc nL ret tb) {k1 : Fin 4} {i1 : Nat} {x : Nat} {L' : mL} (d : decode cc pc = .ok (.astore_n k1, 1)) (hi : (k1 : Nat) = i1) (hn : i1 < nL) (hl : lset L i1 (.ref x) = L') (kk : JJ G p l e R s m args below meth c nL Q k n (pc + 1) L' (st) Z M) : JJ G p l e R s m args below meth c nL Q k n (pc) L (.ref x :: st) Z M := fun H locs ls hR hS hL => lv_astore_n C.1 C.2.1 d hi hL hn (m_cl2_set (G := G) (L := L) (v := .ref x)) (fun ls' h' => kk H locs ls' hR hS (by rw [← hl]; exact h'))
theorem j_astore (C : Cx G p l s m args meth c own cc nL ret tb) {i1 : Nat} {x : Nat} {L' : mL} (d : decode cc pc = .ok (.astore i1, 2))  (hn : i1 < nL) (hl : lset L i1 (.ref x) = L') (kk : JJ G p l e R s m args below meth c nL Q k n (pc + 2) L' (st) Z M) : JJ G p l e R s m args below meth c nL Q k n (pc) L (.ref x :: st) Z M := fun H locs ls hR hS hL => lv_astore C.1 C.2.1 d hL hn (m_cl2_set (G := G) (L := L) (v := .ref x)) (fun ls' h' => kk H locs ls' hR hS (by rw [← hl]; exact h'))
theorem j_astore_nN (C : Cx G p l s m args meth c own cc nL ret tb) {k1 : Fin 4} {i1 : Nat} {L' : mL} (d : decode cc pc = .ok (.astore_n k1, 1)) (hi : (k1 : Nat) = i1) (hn : i1 < nL) (hl : lset L i1 .null = L') (kk : JJ G p l e R s m args below meth c nL Q k n (pc + 1) L' (st) Z M) : JJ G p l e R s m args below meth c nL Q k n (pc) L (.null :: st) Z M := fun H locs ls hR hS hL => lv_astore_nN C.1 C.2.1 d hi hL hn (m_cl2_set (G := G) (L := L) (v := .null)) (fun ls' h' => kk H locs ls' hR hS (by rw [← hl]; exact h'))
theorem j_astoreN (C : Cx G p l s m args meth c own cc nL ret tb) {i1 : Nat} {L' : mL} (d : decode cc pc = .ok (.astore i1, 2))  (hn : i1 < nL) (hl : lset L i1 .null = L') (kk : JJ G p l e R s m args below meth c nL Q k n (pc + 2) L' (st) Z M) : JJ G p l e R s m args below meth c nL Q k n (pc) L (.null :: st) Z M := fun H locs ls hR hS hL => lv_astoreN C.1 C.2.1 d hL hn (m_cl2_set (G := G) (L := L) (v := .null)) (fun ls' h' => kk H locs ls' hR hS (by rw [← hl]; exact h'))
theorem j_dstore_n (C : Cx G p l s m args meth c own cc nL ret tb) {k1 : Fin 4} {i1 : Nat} {x : UInt64} {L' : mL} (d : decode cc pc = .ok (.dstore_n k1, 1)) (hi : (k1 : Nat) = i1) (hn : i1 + 1 < nL) (hl : lset2 L i1 (.double x) = L') (kk : JJ G p l e R s m args below meth c nL Q k n (pc + 1) L' (st) Z M) : JJ G p l e R s m args below meth c nL Q k n (pc) L (.double x :: st) Z M := fun H locs ls hR hS hL => lv_dstore_n C.1 C.2.1 d hi hL hn (m_cl2_set2 (G := G) (L := L) (v := .double x)) (fun ls' h' => kk H locs ls' hR hS (by rw [← hl]; exact h'))
theorem j_dstore (C : Cx G p l s m args meth c own cc nL ret tb) {i1 : Nat} {x : UInt64} {L' : mL} (d : decode cc pc = .ok (.dstore i1, 2))  (hn : i1 + 1 < nL) (hl : lset2 L i1 (.double x) = L') (kk : JJ G p l e R s m args below meth c nL Q k n (pc + 2) L' (st) Z M) : JJ G p l e R s m args below meth c nL Q k n (pc) L (.double x :: st) Z M := fun H locs ls hR hS hL => lv_dstore C.1 C.2.1 d hL hn (m_cl2_set2 (G := G) (L := L) (v := .double x)) (fun ls' h' => kk H locs ls' hR hS (by rw [← hl]; exact h'))
theorem j_iinc (C : Cx G p l s m args meth c own cc nL ret tb) {i1 : Nat} {n1 : Int} {x v : Int32} {L' : mL} (d : decode cc pc = .ok (.iinc i1 n1, 3)) (a : Nat) (ha : L[a]? = some (i1, .int x)) (hv : x + Int32.ofInt n1 = v) (hn : i1 < nL) (hl : lset L i1 (.int v) = L') (kk : JJ G p l e R s m args below meth c nL Q k n (pc + 3) L' (st) Z M) : JJ G p l e R s m args below meth c nL Q k n (pc) L (st) Z M := fun H locs ls hR hS hL => lv_iinc C.1 C.2.1 d hL (k := a) (m_cl2_at ha) hv hn (m_cl2_set (G := G) (L := L) (v := .int v)) (fun ls' h' => kk H locs ls' hR hS (by rw [← hl]; exact h'))
theorem j_iadd (C : Cx G p l s m args meth c own cc nL ret tb) {x y : Int32} (d : decode cc pc = .ok (.iadd, 1)) (kk : JJ G p l e R s m args below meth c nL Q k n (pc + 1) L (.int (x + y) :: st) Z M) : JJ G p l e R s m args below meth c nL Q k n (pc) L (.int y :: .int x :: st) Z M := fun H locs ls hR hS hL => lv_iadd C.1 C.2.1 d (kk H locs ls hR hS hL)
theorem j_isub (C : Cx G p l s m args meth c own cc nL ret tb) {x y : Int32} (d : decode cc pc = .ok (.isub, 1)) (kk : JJ G p l e R s m args below meth c nL Q k n (pc + 1) L (.int (x - y) :: st) Z M) : JJ G p l e R s m args below meth c nL Q k n (pc) L (.int y :: .int x :: st) Z M := fun H locs ls hR hS hL => lv_isub C.1 C.2.1 d (kk H locs ls hR hS hL)
theorem j_imul (C : Cx G p l s m args meth c own cc nL ret tb) {x y : Int32} (d : decode cc pc = .ok (.imul, 1)) (kk : JJ G p l e R s m args below meth c nL Q k n (pc + 1) L (.int (x * y) :: st) Z M) : JJ G p l e R s m args below meth c nL Q k n (pc) L (.int y :: .int x :: st) Z M := fun H locs ls hR hS hL => lv_imul C.1 C.2.1 d (kk H locs ls hR hS hL)
theorem j_iand (C : Cx G p l s m args meth c own cc nL ret tb) {x y : Int32} (d : decode cc pc = .ok (.iand, 1)) (kk : JJ G p l e R s m args below meth c nL Q k n (pc + 1) L (.int (x &&& y) :: st) Z M) : JJ G p l e R s m args below meth c nL Q k n (pc) L (.int y :: .int x :: st) Z M := fun H locs ls hR hS hL => lv_iand C.1 C.2.1 d (kk H locs ls hR hS hL)
theorem j_ior (C : Cx G p l s m args meth c own cc nL ret tb) {x y : Int32} (d : decode cc pc = .ok (.ior, 1)) (kk : JJ G p l e R s m args below meth c nL Q k n (pc + 1) L (.int (x ||| y) :: st) Z M) : JJ G p l e R s m args below meth c nL Q k n (pc) L (.int y :: .int x :: st) Z M := fun H locs ls hR hS hL => lv_ior C.1 C.2.1 d (kk H locs ls hR hS hL)
theorem j_ixor (C : Cx G p l s m args meth c own cc nL ret tb) {x y : Int32} (d : decode cc pc = .ok (.ixor, 1)) (kk : JJ G p l e R s m args below meth c nL Q k n (pc + 1) L (.int (x ^^^ y) :: st) Z M) : JJ G p l e R s m args below meth c nL Q k n (pc) L (.int y :: .int x :: st) Z M := fun H locs ls hR hS hL => lv_ixor C.1 C.2.1 d (kk H locs ls hR hS hL)
theorem j_ishl (C : Cx G p l s m args meth c own cc nL ret tb) {x y : Int32} (d : decode cc pc = .ok (.ishl, 1)) (kk : JJ G p l e R s m args below meth c nL Q k n (pc + 1) L (.int (x <<< (y &&& 31)) :: st) Z M) : JJ G p l e R s m args below meth c nL Q k n (pc) L (.int y :: .int x :: st) Z M := fun H locs ls hR hS hL => lv_ishl C.1 C.2.1 d (kk H locs ls hR hS hL)
theorem j_ishr (C : Cx G p l s m args meth c own cc nL ret tb) {x y : Int32} (d : decode cc pc = .ok (.ishr, 1)) (kk : JJ G p l e R s m args below meth c nL Q k n (pc + 1) L (.int (x >>> (y &&& 31)) :: st) Z M) : JJ G p l e R s m args below meth c nL Q k n (pc) L (.int y :: .int x :: st) Z M := fun H locs ls hR hS hL => lv_ishr C.1 C.2.1 d (kk H locs ls hR hS hL)
theorem j_idiv (C : Cx G p l s m args meth c own cc nL ret tb) {x y : Int32} (d : decode cc pc = .ok (.idiv, 1)) (hne : ¬ y = 0) (kk : JJ G p l e R s m args below meth c nL Q k n (pc + 1) L (.int (x / y) :: st) Z M) : JJ G p l e R s m args below meth c nL Q k n (pc) L (.int y :: .int x :: st) Z M := fun H locs ls hR hS hL => lv_idiv C.1 C.2.1 d hne (kk H locs ls hR hS hL)
theorem j_irem (C : Cx G p l s m args meth c own cc nL ret tb) {x y : Int32} (d : decode cc pc = .ok (.irem, 1)) (hne : ¬ y = 0) (kk : JJ G p l e R s m args below meth c nL Q k n (pc + 1) L (.int (x - x / y * y) :: st) Z M) : JJ G p l e R s m args below meth c nL Q k n (pc) L (.int y :: .int x :: st) Z M := fun H locs ls hR hS hL => lv_irem C.1 C.2.1 d hne (kk H locs ls hR hS hL)
theorem j_iushr (C : Cx G p l s m args meth c own cc nL ret tb) {x y : Int32} (d : decode cc pc = .ok (.iushr, 1)) (kk : JJ G p l e R s m args below meth c nL Q k n (pc + 1) L (.int ((x.toUInt32 >>> (y.toUInt32 &&& Int32.toUInt32 31)).toInt32) :: st) Z M) : JJ G p l e R s m args below meth c nL Q k n (pc) L (.int y :: .int x :: st) Z M := fun H locs ls hR hS hL => lv_iushr C.1 C.2.1 d rfl (kk H locs ls hR hS hL)
theorem j_ineg (C : Cx G p l s m args meth c own cc nL ret tb) {x : Int32} (d : decode cc pc = .ok (.ineg, 1)) (kk : JJ G p l e R s m args below meth c nL Q k n (pc + 1) L (.int (-x) :: st) Z M) : JJ G p l e R s m args below meth c nL Q k n (pc) L (.int x :: st) Z M := fun H locs ls hR hS hL => lv_ineg C.1 C.2.1 d (kk H locs ls hR hS hL)
theorem j_i2l (C : Cx G p l s m args meth c own cc nL ret tb) {x : Int32} (d : decode cc pc = .ok (.i2l, 1)) (kk : JJ G p l e R s m args below meth c nL Q k n (pc + 1) L (.long x.toInt64 :: st) Z M) : JJ G p l e R s m args below meth c nL Q k n (pc) L (.int x :: st) Z M := fun H locs ls hR hS hL => lv_i2l C.1 C.2.1 d rfl (kk H locs ls hR hS hL)
theorem j_i2c (C : Cx G p l s m args meth c own cc nL ret tb) {x : Int32} (d : decode cc pc = .ok (.i2c, 1)) (kk : JJ G p l e R s m args below meth c nL Q k n (pc + 1) L (.int ((x.toUInt32 % 65536).toInt32) :: st) Z M) : JJ G p l e R s m args below meth c nL Q k n (pc) L (.int x :: st) Z M := fun H locs ls hR hS hL => lv_i2c C.1 C.2.1 d rfl (kk H locs ls hR hS hL)
theorem j_i2f (C : Cx G p l s m args meth c own cc nL ret tb) {x : Int32} (d : decode cc pc = .ok (.i2f, 1)) (kk : JJ G p l e R s m args below meth c nL Q k n (pc + 1) L (.float (FP.i2f x) :: st) Z M) : JJ G p l e R s m args below meth c nL Q k n (pc) L (.int x :: st) Z M := fun H locs ls hR hS hL => lv_i2f C.1 C.2.1 d (kk H locs ls hR hS hL)
theorem j_i2d (C : Cx G p l s m args meth c own cc nL ret tb) {x : Int32} (d : decode cc pc = .ok (.i2d, 1)) (kk : JJ G p l e R s m args below meth c nL Q k n (pc + 1) L (.double (FP.i2d x) :: st) Z M) : JJ G p l e R s m args below meth c nL Q k n (pc) L (.int x :: st) Z M := fun H locs ls hR hS hL => lv_i2d C.1 C.2.1 d (kk H locs ls hR hS hL)
theorem j_fdiv (C : Cx G p l s m args meth c own cc nL ret tb) {x y : UInt32} (d : decode cc pc = .ok (.fdiv, 1)) (hne : vf_n32 (FP.fdiv x y)) (kk : JJ G p l e R s m args below meth c nL Q k n (pc + 1) L (.float (FP.fdiv x y) :: st) Z M) : JJ G p l e R s m args below meth c nL Q k n (pc) L (.float y :: .float x :: st) Z M := fun H locs ls hR hS hL => lv_fdiv C.1 C.2.1 d hne (kk H locs ls hR hS hL)
theorem j_ddiv (C : Cx G p l s m args meth c own cc nL ret tb) {x y : UInt64} (d : decode cc pc = .ok (.ddiv, 1)) (hne : vf_n64 (FP.ddiv x y)) (kk : JJ G p l e R s m args below meth c nL Q k n (pc + 1) L (.double (FP.ddiv x y) :: st) Z M) : JJ G p l e R s m args below meth c nL Q k n (pc) L (.double y :: .double x :: st) Z M := fun H locs ls hR hS hL => lv_ddiv C.1 C.2.1 d hne (kk H locs ls hR hS hL)
theorem j_f2d (C : Cx G p l s m args meth c own cc nL ret tb) {x : UInt32} (d : decode cc pc = .ok (.f2d, 1)) (hne : vf_n64 (FP.f2d x)) (kk : JJ G p l e R s m args below meth c nL Q k n (pc + 1) L (.double (FP.f2d x) :: st) Z M) : JJ G p l e R s m args below meth c nL Q k n (pc) L (.float x :: st) Z M := fun H locs ls hR hS hL => lv_f2d C.1 C.2.1 d hne (kk H locs ls hR hS hL)
theorem j_fcmp (C : Cx G p l s m args meth c own cc nL ret tb) {x y : UInt32} {op : CmpOp} (d : decode cc pc = .ok (.fcmp op, 1)) (kk : JJ G p l e R s m args below meth c nL Q k n (pc + 1) L (.int (Op.cmpValue (FP.fcmp x y) op) :: st) Z M) : JJ G p l e R s m args below meth c nL Q k n (pc) L (.float y :: .float x :: st) Z M := fun H locs ls hR hS hL => lv_fcmp C.1 C.2.1 d (kk H locs ls hR hS hL)
theorem j_dcmp (C : Cx G p l s m args meth c own cc nL ret tb) {x y : UInt64} {op : CmpOp} (d : decode cc pc = .ok (.dcmp op, 1)) (kk : JJ G p l e R s m args below meth c nL Q k n (pc + 1) L (.int (Op.cmpValue (FP.dcmp x y) op) :: st) Z M) : JJ G p l e R s m args below meth c nL Q k n (pc) L (.double y :: .double x :: st) Z M := fun H locs ls hR hS hL => lv_dcmp C.1 C.2.1 d (kk H locs ls hR hS hL)
theorem j_dup (C : Cx G p l s m args meth c own cc nL ret tb) {v : Value} (d : decode cc pc = .ok (.dup, 1)) (hv : v.category = 1) (kk : JJ G p l e R s m args below meth c nL Q k n (pc + 1) L (v :: v :: st) Z M) : JJ G p l e R s m args below meth c nL Q k n (pc) L (v :: st) Z M := fun H locs ls hR hS hL => lv_dup C.1 C.2.1 d ((m_cv_cat G v).trans hv) (kk H locs ls hR hS hL)
theorem j_dup2 (C : Cx G p l s m args meth c own cc nL ret tb) {v w : Value} (d : decode cc pc = .ok (.dup2, 1)) (hv : v.category = 1) (hw : w.category = 1) (kk : JJ G p l e R s m args below meth c nL Q k n (pc + 1) L (v :: w :: v :: w :: st) Z M) : JJ G p l e R s m args below meth c nL Q k n (pc) L (v :: w :: st) Z M := fun H locs ls hR hS hL => lv_dup2_11 C.1 C.2.1 d ((m_cv_cat G v).trans hv) ((m_cv_cat G w).trans hw) (kk H locs ls hR hS hL)
theorem j_pop (C : Cx G p l s m args meth c own cc nL ret tb) {v : Value} (d : decode cc pc = .ok (.pop, 1)) (hv : v.category = 1) (kk : JJ G p l e R s m args below meth c nL Q k n (pc + 1) L (st) Z M) : JJ G p l e R s m args below meth c nL Q k n (pc) L (v :: st) Z M := fun H locs ls hR hS hL => lv_pop C.1 C.2.1 d ((m_cv_cat G v).trans hv) (kk H locs ls hR hS hL)
theorem j_if_eq (C : Cx G p l s m args meth c own cc nL ret tb) {x : Int32} {off : Int} {tgt : Nat} (d : decode cc pc = .ok (.ifCond .eq off, 3)) (ht : (pc : Int) + off = (tgt : Int)) (kt : x = 0 → JJ G p l e R s m args below meth c nL Q k n (tgt) L (st) Z M) (kf : ¬ x = 0 → JJ G p l e R s m args below meth c nL Q k n (pc + 3) L (st) Z M) : JJ G p l e R s m args below meth c nL Q k n (pc) L (.int x :: st) Z M := fun H locs ls hR hS hL => lv_if_eq C.1 C.2.1 d ht (fun h => kt h H locs ls hR hS hL) (fun h => kf h H locs ls hR hS hL)
theorem j_icmp_eq (C : Cx G p l s m args meth c own cc nL ret tb) {x y : Int32} {off : Int} {tgt : Nat} (d : decode cc pc = .ok (.if_icmp .eq off, 3)) (ht : (pc : Int) + off = (tgt : Int)) (kt : x = y → JJ G p l e R s m args below meth c nL Q k n (tgt) L (st) Z M) (kf : ¬ x = y → JJ G p l e R s m args below meth c nL Q k n (pc + 3) L (st) Z M) : JJ G p l e R s m args below meth c nL Q k n (pc) L (.int y :: .int x :: st) Z M := fun H locs ls hR hS hL => lv_icmp_eq C.1 C.2.1 d ht (fun h => kt h H locs ls hR hS hL) (fun h => kf h H locs ls hR hS hL)
theorem j_if_ne (C : Cx G p l s m args meth c own cc nL ret tb) {x : Int32} {off : Int} {tgt : Nat} (d : decode cc pc = .ok (.ifCond .ne off, 3)) (ht : (pc : Int) + off = (tgt : Int)) (kt : ¬ x = 0 → JJ G p l e R s m args below meth c nL Q k n (tgt) L (st) Z M) (kf : x = 0 → JJ G p l e R s m args below meth c nL Q k n (pc + 3) L (st) Z M) : JJ G p l e R s m args below meth c nL Q k n (pc) L (.int x :: st) Z M := fun H locs ls hR hS hL => lv_if_ne C.1 C.2.1 d ht (fun h => kt h H locs ls hR hS hL) (fun h => kf h H locs ls hR hS hL)
theorem j_icmp_ne (C : Cx G p l s m args meth c own cc nL ret tb) {x y : Int32} {off : Int} {tgt : Nat} (d : decode cc pc = .ok (.if_icmp .ne off, 3)) (ht : (pc : Int) + off = (tgt : Int)) (kt : ¬ x = y → JJ G p l e R s m args below meth c nL Q k n (tgt) L (st) Z M) (kf : x = y → JJ G p l e R s m args below meth c nL Q k n (pc + 3) L (st) Z M) : JJ G p l e R s m args below meth c nL Q k n (pc) L (.int y :: .int x :: st) Z M := fun H locs ls hR hS hL => lv_icmp_ne C.1 C.2.1 d ht (fun h => kt h H locs ls hR hS hL) (fun h => kf h H locs ls hR hS hL)
theorem j_if_lt (C : Cx G p l s m args meth c own cc nL ret tb) {x : Int32} {off : Int} {tgt : Nat} (d : decode cc pc = .ok (.ifCond .lt off, 3)) (ht : (pc : Int) + off = (tgt : Int)) (kt : x < 0 → JJ G p l e R s m args below meth c nL Q k n (tgt) L (st) Z M) (kf : ¬ x < 0 → JJ G p l e R s m args below meth c nL Q k n (pc + 3) L (st) Z M) : JJ G p l e R s m args below meth c nL Q k n (pc) L (.int x :: st) Z M := fun H locs ls hR hS hL => lv_if_lt C.1 C.2.1 d ht (fun h => kt h H locs ls hR hS hL) (fun h => kf h H locs ls hR hS hL)
theorem j_icmp_lt (C : Cx G p l s m args meth c own cc nL ret tb) {x y : Int32} {off : Int} {tgt : Nat} (d : decode cc pc = .ok (.if_icmp .lt off, 3)) (ht : (pc : Int) + off = (tgt : Int)) (kt : x < y → JJ G p l e R s m args below meth c nL Q k n (tgt) L (st) Z M) (kf : ¬ x < y → JJ G p l e R s m args below meth c nL Q k n (pc + 3) L (st) Z M) : JJ G p l e R s m args below meth c nL Q k n (pc) L (.int y :: .int x :: st) Z M := fun H locs ls hR hS hL => lv_icmp_lt C.1 C.2.1 d ht (fun h => kt h H locs ls hR hS hL) (fun h => kf h H locs ls hR hS hL)
theorem j_if_ge (C : Cx G p l s m args meth c own cc nL ret tb) {x : Int32} {off : Int} {tgt : Nat} (d : decode cc pc = .ok (.ifCond .ge off, 3)) (ht : (pc : Int) + off = (tgt : Int)) (kt : 0 ≤ x → JJ G p l e R s m args below meth c nL Q k n (tgt) L (st) Z M) (kf : ¬ 0 ≤ x → JJ G p l e R s m args below meth c nL Q k n (pc + 3) L (st) Z M) : JJ G p l e R s m args below meth c nL Q k n (pc) L (.int x :: st) Z M := fun H locs ls hR hS hL => lv_if_ge C.1 C.2.1 d ht (fun h => kt h H locs ls hR hS hL) (fun h => kf h H locs ls hR hS hL)
theorem j_icmp_ge (C : Cx G p l s m args meth c own cc nL ret tb) {x y : Int32} {off : Int} {tgt : Nat} (d : decode cc pc = .ok (.if_icmp .ge off, 3)) (ht : (pc : Int) + off = (tgt : Int)) (kt : y ≤ x → JJ G p l e R s m args below meth c nL Q k n (tgt) L (st) Z M) (kf : ¬ y ≤ x → JJ G p l e R s m args below meth c nL Q k n (pc + 3) L (st) Z M) : JJ G p l e R s m args below meth c nL Q k n (pc) L (.int y :: .int x :: st) Z M := fun H locs ls hR hS hL => lv_icmp_ge C.1 C.2.1 d ht (fun h => kt h H locs ls hR hS hL) (fun h => kf h H locs ls hR hS hL)
theorem j_if_gt (C : Cx G p l s m args meth c own cc nL ret tb) {x : Int32} {off : Int} {tgt : Nat} (d : decode cc pc = .ok (.ifCond .gt off, 3)) (ht : (pc : Int) + off = (tgt : Int)) (kt : 0 < x → JJ G p l e R s m args below meth c nL Q k n (tgt) L (st) Z M) (kf : ¬ 0 < x → JJ G p l e R s m args below meth c nL Q k n (pc + 3) L (st) Z M) : JJ G p l e R s m args below meth c nL Q k n (pc) L (.int x :: st) Z M := fun H locs ls hR hS hL => lv_if_gt C.1 C.2.1 d ht (fun h => kt h H locs ls hR hS hL) (fun h => kf h H locs ls hR hS hL)
theorem j_icmp_gt (C : Cx G p l s m args meth c own cc nL ret tb) {x y : Int32} {off : Int} {tgt : Nat} (d : decode cc pc = .ok (.if_icmp .gt off, 3)) (ht : (pc : Int) + off = (tgt : Int)) (kt : y < x → JJ G p l e R s m args below meth c nL Q k n (tgt) L (st) Z M) (kf : ¬ y < x → JJ G p l e R s m args below meth c nL Q k n (pc + 3) L (st) Z M) : JJ G p l e R s m args below meth c nL Q k n (pc) L (.int y :: .int x :: st) Z M := fun H locs ls hR hS hL => lv_icmp_gt C.1 C.2.1 d ht (fun h => kt h H locs ls hR hS hL) (fun h => kf h H locs ls hR hS hL)
theorem j_if_le (C : Cx G p l s m args meth c own cc nL ret tb) {x : Int32} {off : Int} {tgt : Nat} (d : decode cc pc = .ok (.ifCond .le off, 3)) (ht : (pc : Int) + off = (tgt : Int)) (kt : x ≤ 0 → JJ G p l e R s m args below meth c nL Q k n (tgt) L (st) Z M) (kf : ¬ x ≤ 0 → JJ G p l e R s m args below meth c nL Q k n (pc + 3) L (st) Z M) : JJ G p l e R s m args below meth c nL Q k n (pc) L (.int x :: st) Z M := fun H locs ls hR hS hL => lv_if_le C.1 C.2.1 d ht (fun h => kt h H locs ls hR hS hL) (fun h => kf h H locs ls hR hS hL)
theorem j_icmp_le (C : Cx G p l s m args meth c own cc nL ret tb) {x y : Int32} {off : Int} {tgt : Nat} (d : decode cc pc = .ok (.if_icmp .le off, 3)) (ht : (pc : Int) + off = (tgt : Int)) (kt : x ≤ y → JJ G p l e R s m args below meth c nL Q k n (tgt) L (st) Z M) (kf : ¬ x ≤ y → JJ G p l e R s m args below meth c nL Q k n (pc + 3) L (st) Z M) : JJ G p l e R s m args below meth c nL Q k n (pc) L (.int y :: .int x :: st) Z M := fun H locs ls hR hS hL => lv_icmp_le C.1 C.2.1 d ht (fun h => kt h H locs ls hR hS hL) (fun h => kf h H locs ls hR hS hL)
theorem j_goto (C : Cx G p l s m args meth c own cc nL ret tb) {off : Int} {tgt : Nat} (d : decode cc pc = .ok (.goto off, 3)) (ht : (pc : Int) + off = (tgt : Int)) (kk : JJ G p l e R s m args below meth c nL Q k n (tgt) L (st) Z M) : JJ G p l e R s m args below meth c nL Q k n (pc) L (st) Z M := fun H locs ls hR hS hL => lv_goto C.1 C.2.1 d ht (kk H locs ls hR hS hL)
theorem j_ifnull (C : Cx G p l s m args meth c own cc nL ret tb) {x : Nat} {off : Int} (d : decode cc pc = .ok (.ifnull off, 3)) (kk : JJ G p l e R s m args below meth c nL Q k n (pc + 3) L (st) Z M) : JJ G p l e R s m args below meth c nL Q k n (pc) L (.ref x :: st) Z M := fun H locs ls hR hS hL => lv_ifnull C.1 C.2.1 d (kk H locs ls hR hS hL)
theorem j_ifnullN (C : Cx G p l s m args meth c own cc nL ret tb) {off : Int} {tgt : Nat} (d : decode cc pc = .ok (.ifnull off, 3)) (ht : (pc : Int) + off = (tgt : Int)) (kk : JJ G p l e R s m args below meth c nL Q k n (tgt) L (st) Z M) : JJ G p l e R s m args below meth c nL Q k n (pc) L (.null :: st) Z M := fun H locs ls hR hS hL => lv_ifnullN C.1 C.2.1 d ht (kk H locs ls hR hS hL)
theorem j_ifnonnull (C : Cx G p l s m args meth c own cc nL ret tb) {x : Nat} {off : Int} {tgt : Nat} (d : decode cc pc = .ok (.ifnonnull off, 3)) (ht : (pc : Int) + off = (tgt : Int)) (kk : JJ G p l e R s m args below meth c nL Q k n (tgt) L (st) Z M) : JJ G p l e R s m args below meth c nL Q k n (pc) L (.ref x :: st) Z M := fun H locs ls hR hS hL => lv_ifnonnull C.1 C.2.1 d ht (kk H locs ls hR hS hL)
theorem j_ifnonnullN (C : Cx G p l s m args meth c own cc nL ret tb) {off : Int} (d : decode cc pc = .ok (.ifnonnull off, 3)) (kk : JJ G p l e R s m args below meth c nL Q k n (pc + 3) L (st) Z M) : JJ G p l e R s m args below meth c nL Q k n (pc) L (.null :: st) Z M := fun H locs ls hR hS hL => lv_ifnonnullN C.1 C.2.1 d (kk H locs ls hR hS hL)
theorem j_lcmp (C : Cx G p l s m args meth c own cc nL ret tb) {x y : Int64} (d : decode cc pc = .ok (.lcmp, 1)) (kk : JJ G p l e R s m args below meth c nL Q k n (pc + 1) L (.int (lg_cmp x y) :: st) Z M) : JJ G p l e R s m args below meth c nL Q k n (pc) L (.long y :: .long x :: st) Z M := fun H locs ls hR hS hL => W.lcmp C.1 C.2.1 d (kk H locs ls hR hS hL)
theorem j_lookup (C : Cx G p l s m args meth c own cc nL ret tb) {dflt : Int} {ps : Array (Int × Int)} {len : Nat} {x : Int32} {off : Int} {tgt : Nat} (d : decode cc pc = .ok (.lookupswitch dflt ps, len)) (hp : (ps.toList.zip (ps.toList.drop 1)).all (fun (a, next) => a.1 < next.1) = true) (ho : Op.lookupswitch.offset ps.toList dflt x.toInt = off) (ht : (pc : Int) + off = (tgt : Int)) (kk : JJ G p l e R s m args below meth c nL Q k n (tgt) L (st) Z M) : JJ G p l e R s m args below meth c nL Q k n (pc) L (.int x :: st) Z M := fun H locs ls hR hS hL => lv_lookup C.1 C.2.1 d hp ho ht (kk H locs ls hR hS hL)
theorem j_tableIn (C : Cx G p l s m args meth c own cc nL ret tb) {dflt lo hi : Int} {offs : Array Int} {len : Nat} {x : Int32} {off : Int} {tgt : Nat} (d : decode cc pc = .ok (.tableswitch dflt lo hi offs, len)) (h1 : ¬ x.toInt < lo) (h2 : ¬ hi < x.toInt) (ho : offs[(x.toInt - lo).toNat]? = some off) (ht : (pc : Int) + off = (tgt : Int)) (kk : JJ G p l e R s m args below meth c nL Q k n (tgt) L (st) Z M) : JJ G p l e R s m args below meth c nL Q k n (pc) L (.int x :: st) Z M := fun H locs ls hR hS hL => lv_tableIn C.1 C.2.1 d h1 h2 ho ht (kk H locs ls hR hS hL)
theorem j_tableOut (C : Cx G p l s m args meth c own cc nL ret tb) {dflt lo hi : Int} {offs : Array Int} {len : Nat} {x : Int32} {tgt : Nat} (d : decode cc pc = .ok (.tableswitch dflt lo hi offs, len)) (h : x.toInt < lo ∨ hi < x.toInt) (ht : (pc : Int) + dflt = (tgt : Int)) (kk : JJ G p l e R s m args below meth c nL Q k n (tgt) L (st) Z M) : JJ G p l e R s m args below meth c nL Q k n (pc) L (.int x :: st) Z M := fun H locs ls hR hS hL => lv_tableOut C.1 C.2.1 d h ht (kk H locs ls hR hS hL)
end JR1
end
section
/-! ===== LAYER 1: rows of the heap ===== -/
def okO (Z : mZ) (b t : Nat) : Bool := decide (8 ≤ b) && decide (b < Z.1) && decide (Z.2.1 b = t)
def okI (Z : mZ) (b : Nat) : Bool := decide (b < 5) || okO Z b 20
def inB (i : Int32) (n : Nat) : Bool := decide (0 ≤ i) && decide (i.toNatClampNeg < n)
def isRefT : FieldType → Bool
  | .object _ => true
  | .array _ => true
  | _ => false
def sI (M : mM) (b k : Nat) (v : Int32) : mM := (fun a j => if a = b ∧ j = k then v else M.1 a j, M.2)
def sL (M : mM) (b k : Nat) (v : Int64) : mM := (M.1, fun a j => if a = b ∧ j = k then v else M.2.1 a j, M.2.2)
def sD (M : mM) (b k : Nat) (v : UInt64) : mM := (M.1, M.2.1, fun a j => if a = b ∧ j = k then v else M.2.2.1 a j, M.2.2.2)
def sR (Z : mZ) (b k c : Nat) : mZ := (Z.1, Z.2.1, Z.2.2.1, fun a j => if a = b ∧ j = k then some c else Z.2.2.2 a j)
def sT (M : mM) : mM := (M.1, M.2.1, M.2.2.1, 1)
def zNew (Z : mZ) (t len : Nat) : mZ := (Z.1 + 1, fun a => if a = Z.1 then t else Z.2.1 a, fun a => if a = Z.1 then len else Z.2.2.1 a, fun a j => if a = Z.1 then none else Z.2.2.2 a j)
def mNew (M : mM) (r : Nat) : mM := (fun a j => if a = r then 0 else M.1 a j, fun a j => if a = r then 0 else M.2.1 a j, fun a j => if a = r then 0 else M.2.2.1 a j, M.2.2.2)
theorem okO_spec {Z : mZ} {b t : Nat} (h : okO Z b t = true) : 8 ≤ b ∧ b < Z.1 ∧ Z.2.1 b = t := by
  simpa [okO, and_assoc] using h
theorem inB_spec {i : Int32} {n : Nat} (h : inB i n = true) : ¬ i < 0 ∧ i.toNatClampNeg < n := by
  simp only [inB, Bool.and_eq_true, decide_eq_true_eq] at h
  exact ⟨by simpa using h.1, h.2⟩
theorem m_fv_i {G : mG} {Z : mZ} {M : mM} {r j : Nat} (h : isRefT (m_ty (Z.2.1 r) j) = false) : m_fv G Z M r j = .int (M.1 r j) := by
  unfold m_fv
  split <;> first | rfl | (rename_i hh; rw [hh] at h; cases h)
theorem m_fv_r {G : mG} {Z : mZ} {M : mM} {r j : Nat} (h : isRefT (m_ty (Z.2.1 r) j) = true) : m_fv G Z M r j = va_rf ((Z.2.2.2 r j).map (m_ad G)) := by
  unfold m_fv
  split
  · rfl
  · rfl
  · next h1 h2 => 
    cases hh : m_ty (Z.2.1 r) j <;> first | exact absurd hh (h1 _) | exact absurd hh (h2 _) | (rw [hh] at h; cases h)
theorem m_fv_mem {G : mG} {Z : mZ} {M M1 : mM} {r : Nat} (h1 : ∀ j, M1.1 r j = M.1 r j) : m_fv G Z M1 r = m_fv G Z M r := by
  funext j
  unfold m_fv
  rw [h1 j]
theorem m_at.mem {G : mG} {Z : mZ} {M M1 : mM} {r : Nat} {H : Heap} (h : m_at G Z M r H) (h1 : ∀ j, M1.1 r j = M.1 r j) (h2 : ∀ j, M1.2.1 r j = M.2.1 r j) (h3 : ∀ j, M1.2.2.1 r j = M.2.2.1 r j) : m_at G Z M1 r H := by
  have e1 : M1.1 r = M.1 r := funext h1
  have e2 : M1.2.1 r = M.2.1 r := funext h2
  have e3 : M1.2.2.1 r = M.2.2.1 r := funext h3
  unfold m_at at h ⊢
  rw [m_fv_mem h1]
  have e4 : m_ac G Z M1 r = m_ac G Z M r := by unfold m_ac; simp only [e1, e2, e3]
  rw [e4]
  exact h
theorem m_at.shape {G : mG} {Z Z1 : mZ} {M : mM} {r : Nat} {H : Heap} (h : m_at G Z M r H) (h1 : Z1.2.1 r = Z.2.1 r) (h2 : Z1.2.2.1 r = Z.2.2.1 r) (h3 : ∀ j, Z1.2.2.2 r j = Z.2.2.2 r j) : m_at G Z1 M r H := by
  have e3 : Z1.2.2.2 r = Z.2.2.2 r := funext h3
  have e4 : m_ac G Z1 M r = m_ac G Z M r := by unfold m_ac; simp only [h1, h2, e3]
  have e5 : m_fv G Z1 M r = m_fv G Z M r := by funext j; unfold m_fv; simp only [h1, e3]
  unfold m_at at h ⊢
  rw [e4, e5, h1]
  exact h
/-- one made cell is changed -/
theorem Rep.put {G : mG} {Z Z1 : mZ} {M M1 : mM} {H H1 : Heap} {b : Nat} (h : Rep G Z M H) (hro : ∀ r, r < 5 → gO G r < gB G) (hb : 8 ≤ b) (hat : m_at G Z1 M1 b H1) (hz : H1.size = H.size) (hq : ∀ q, q ≠ m_ad G b → H1[q]? = H[q]?)
    (hm : ∀ r, r ≠ b → (∀ j, M1.1 r j = M.1 r j) ∧ (∀ j, M1.2.1 r j = M.2.1 r j) ∧ (∀ j, M1.2.2.1 r j = M.2.2.1 r j)) (hZ : Z1.1 = Z.1 ∧ Z1.2.1 = Z.2.1 ∧ Z1.2.2.1 = Z.2.2.1) (hZr : ∀ r, r ≠ b → ∀ j, Z1.2.2.2 r j = Z.2.2.2 r j) (hx : M1.2.2.2 = M.2.2.2) : Rep G Z1 M1 H1 := by
  obtain ⟨a1, a2, a3, a4, a5⟩ := h
  obtain ⟨z1, z2, z3⟩ := hZ
  refine ⟨fun r hr => ?_, fun r h8 hr => ?_, by rw [z1]; exact a3, by rw [z1, hz]; exact a4, fun h0 => by rw [z1, hz]; exact a5 (by rw [← hx]; exact h0)⟩
  · have hne : gO G r ≠ m_ad G b := by
      have := hro r hr
      rw [m_ad_hi hb]; omega
    obtain ⟨c1, c2, c3, c4⟩ := (a1 r hr).kept (hq _ hne)
    refine ⟨c1, by rw [z3]; exact c2, by rw [z3]; exact c3, fun j hj => ?_⟩
    rw [(hm r (by omega)).1 j]
    exact c4 j (by rw [← z3]; exact hj)
  · by_cases hrb : r = b
    · subst hrb; exact hat
    · obtain ⟨e1, e2, e3⟩ := hm r hrb
      have hk := (a2 r h8 (by rw [← z1]; exact hr)).kept (hq _ (fun z => hrb (m_ad_inj h8 hb z)))
      exact (hk.mem e1 e2 e3).shape (by rw [z2]) (by rw [z3]) (hZr r hrb)
theorem Rep.obj {G : mG} {Z : mZ} {M : mM} {H : Heap} {b t : Nat} (h : Rep G Z M H) (hok : okO Z b t = true) (ht : t < 20) : t_OB (m_ad G b) (G.1.1 t) (m_nf t) (G.1.2 t) H (m_fv G Z M b) := by
  obtain ⟨h1, h2, h3⟩ := okO_spec hok
  have hh := h.2.1 b h1 h2
  unfold m_at at hh
  rw [if_pos (by rw [h3]; exact ht)] at hh
  rw [h3] at hh
  exact hh
theorem Rep.arr {G : mG} {Z : mZ} {M : mM} {H : Heap} {b t : Nat} (h : Rep G Z M H) (hok : okO Z b t = true) (ht : ¬ t < 20) : H[m_ad G b]? = some (m_ac G Z M b) := by
  obtain ⟨h1, h2, h3⟩ := okO_spec hok
  have hh := h.2.1 b h1 h2
  unfold m_at at hh
  rw [if_neg (by rw [h3]; exact ht)] at hh
  exact hh
theorem gA_ad {G : mG} {b : Nat} (h : 8 ≤ b) : gA G (m_ad G b) := by unfold gA; rw [m_ad_hi h]; omega
/-- a new cell at the heap's end -/
theorem Rep.new {G : mG} {Z : mZ} {M : mM} {H H1 : Heap} {t len : Nat} (h : Rep G Z M H) (hx : M.2.2.2 = 0) (hro : ∀ r, r < 5 → gO G r < gB G) (hz : H1.size = H.size + 1) (hq : ∀ q, q < H.size → H1[q]? = H[q]?)
    (hat : m_at G (zNew Z t len) (mNew M Z.1) Z.1 H1) : Rep G (zNew Z t len) (mNew M Z.1) H1 ∧ m_ad G Z.1 = H.size := by
  obtain ⟨a1, a2, a3, a4, a5⟩ := h
  have hs := a5 hx
  have had : m_ad G Z.1 = H.size := by rw [m_ad_hi a3, hs]
  refine ⟨⟨fun r hr => ?_, fun r h8 hr => ?_, by show 8 ≤ Z.1 + 1; omega, by show gB G + (Z.1 + 1 - 8) ≤ H1.size; omega, fun _ => by show H1.size = gB G + (Z.1 + 1 - 8); omega⟩, had⟩
  · have hlt : gO G r < H.size := by have := hro r hr; omega
    obtain ⟨c1, c2, c3, c4⟩ := (a1 r hr).kept (hq _ hlt)
    have hne : r ≠ Z.1 := by omega
    refine ⟨c1, ?_, ?_, fun j hj => ?_⟩
    · show (if r = Z.1 then len else Z.2.2.1 r) ≤ _
      rw [if_neg hne]; exact c2
    · show _ = Int32.ofNat (if r = Z.1 then len else Z.2.2.1 r)
      rw [if_neg hne]; exact c3
    · show _ = some (Value.int (if r = Z.1 then 0 else M.1 r j))
      rw [if_neg hne]
      refine c4 j ?_
      have hj' : j < (if r = Z.1 then len else Z.2.2.1 r) := hj
      rwa [if_neg hne] at hj'
  · by_cases hrb : r = Z.1
    · subst hrb; exact hat
    · have hr' : r < Z.1 := by
        have : r < Z.1 + 1 := hr
        omega
      have hlt : m_ad G r < H.size := by rw [m_ad_hi h8, hs]; omega
      have hk := (a2 r h8 hr').kept (hq _ hlt)
      refine (hk.mem (M1 := mNew M Z.1) (fun j => ?_) (fun j => ?_) (fun j => ?_)).shape ?_ ?_ (fun j => ?_)
      · show (if r = Z.1 then 0 else M.1 r j) = _; rw [if_neg hrb]
      · show (if r = Z.1 then 0 else M.2.1 r j) = _; rw [if_neg hrb]
      · show (if r = Z.1 then 0 else M.2.2.1 r j) = _; rw [if_neg hrb]
      · show (if r = Z.1 then t else Z.2.1 r) = _; rw [if_neg hrb]
      · show (if r = Z.1 then len else Z.2.2.1 r) = _; rw [if_neg hrb]
      · show (if r = Z.1 then none else Z.2.2.2 r j) = _; rw [if_neg hrb]
theorem va_S.grow {A : Nat → Prop} {H0 H H1 : Heap} {locs : List Loc} (h : va_S A H0 H locs) (z : H1.size = H.size + 1) (oq : ∀ q : Nat, q < H.size → H1[q]? = H[q]?) : va_S A H0 H1 locs :=
  ⟨Nat.le_trans h.1 (by omega), fun x h1 h2 => (oq x (Nat.lt_of_lt_of_le h1 h.1)).trans (h.2.1 x h1 h2), h.2.2⟩
section JR2
variable {G : mG} {p : Program} {l : Launch} {e : Env} {R : Room} {s : State} {m : MethodId} {args : Array Value} {below : List Frame} {meth : Method} {c : Code} {nL k n : Nat} {Q : State → Prop} {own : String} {cc : ByteArray} {ret : Option FieldType} {tb : List ExceptionTableEntry}
variable {pc : Nat} {L : mL} {st : List Value} {Z : mZ} {M : mM}
theorem j_getI (C : Cx G p l s m args meth c own cc nL ret tb) {cn : String} {T : u_T} {N ci idx b : Nat} (hc : m_cl[ci]? = some (cn, T, N)) (hin : ∀ w ∈ u_ws cn T N, w ∈ gw) (hok : okO Z b ci = true) (k1 : Nat) (hk : k1 < N ∧ k1 < m_nf ci ∧ ci < 20 ∧ isRefT (m_ty ci k1) = false) (hd : (T k1).1 = cn) (hw : Cond.fieldLink own idx cn (T k1).2.1 (T k1).2.2.1 ∈ gw) (d : decode cc pc = .ok (.getfield idx, 3))
    (kk : JJ G p l e R s m args below meth c nL Q k n (pc + 3) L (.int (M.1 b k1) :: st) Z M) : JJ G p l e R s m args below meth c nL Q k n pc L (.ref b :: st) Z M := by
  intro H locs ls hR hS hL
  obtain ⟨hk1, hk2, hk3, hk4⟩ := hk
  obtain ⟨cell, q1, q2, q3, q4⟩ := hR.obj hok hk3
  obtain ⟨hSl, hfc, kC, hkC, hkind⟩ := C.2.2.2.2.2.2.1.1.1 ci _ hc
  obtain ⟨cf, kf, fi, f, hi, hsl⟩ := hSl k1 hk1
  rw [hd] at hi
  have hlay := u_lays (C := cn) (T := T) C.2.2.2.2.1 hin hk1
  rw [hd] at hlay
  refine W.getf C.1 C.2.1 C.2.2.2.1 (C.2.2.2.2.1 _ hw) hi (u_facts hfc hkC hlay hi).1 q1 (by rw [q3]; exact fun h => by cases h) (v := .int (M.1 b k1)) ?_ rfl rfl d (kk H locs ls hR hS hL)
  rw [hsl, q4 k1 hk2, m_fv_i (by rw [(okO_spec hok).2.2]; exact hk4)]
theorem j_getR (C : Cx G p l s m args meth c own cc nL ret tb) {cn : String} {T : u_T} {N ci idx b c1 : Nat} (hc : m_cl[ci]? = some (cn, T, N)) (hin : ∀ w ∈ u_ws cn T N, w ∈ gw) (hok : okO Z b ci = true) (k1 : Nat) (hk : k1 < N ∧ k1 < m_nf ci ∧ ci < 20 ∧ isRefT (m_ty ci k1) = true) (hd : (T k1).1 = cn) (hw : Cond.fieldLink own idx cn (T k1).2.1 (T k1).2.2.1 ∈ gw) (d : decode cc pc = .ok (.getfield idx, 3)) (hr : Z.2.2.2 b k1 = some c1)
    (kk : JJ G p l e R s m args below meth c nL Q k n (pc + 3) L (.ref c1 :: st) Z M) : JJ G p l e R s m args below meth c nL Q k n pc L (.ref b :: st) Z M := by
  intro H locs ls hR hS hL
  obtain ⟨hk1, hk2, hk3, hk4⟩ := hk
  obtain ⟨cell, q1, q2, q3, q4⟩ := hR.obj hok hk3
  obtain ⟨hSl, hfc, kC, hkC, hkind⟩ := C.2.2.2.2.2.2.1.1.1 ci _ hc
  obtain ⟨cf, kf, fi, f, hi, hsl⟩ := hSl k1 hk1
  rw [hd] at hi
  have hlay := u_lays (C := cn) (T := T) C.2.2.2.2.1 hin hk1
  rw [hd] at hlay
  refine W.getf C.1 C.2.1 C.2.2.2.1 (C.2.2.2.2.1 _ hw) hi (u_facts hfc hkC hlay hi).1 q1 (by rw [q3]; exact fun h => by cases h) (v := .ref (m_ad G c1)) ?_ rfl rfl d (kk H locs ls hR hS hL)
  rw [hsl, q4 k1 hk2, m_fv_r (by rw [(okO_spec hok).2.2]; exact hk4), hr]
  rfl
theorem j_putI (C : Cx G p l s m args meth c own cc nL ret tb) {cn : String} {T : u_T} {N ci idx b : Nat} {v : Int32} (ty : Nat → FieldType) (hty : ∀ k, k < N → parseFieldDescriptor (T k).2.2.1 = some (ty k)) (hnm : ∀ a, a < N → ∀ b, b < N → a ≠ b → (T a).2.1 ≠ (T b).2.1) (hc : m_cl[ci]? = some (cn, T, N)) (hin : ∀ w ∈ u_ws cn T N, w ∈ gw) (hok : okO Z b ci = true) (k1 : Nat) (hk : k1 < N ∧ m_nf ci = N ∧ ci < 20 ∧ isRefT (m_ty ci k1) = false ∧ (T k1).2.2.2 = false) (hd : (T k1).1 = cn) (hw : Cond.fieldLink own idx cn (T k1).2.1 (T k1).2.2.1 ∈ gw) (hv : narrow (ty k1) (.int v) = .int v ∧ fits (ty k1) (.int v) = true) (d : decode cc pc = .ok (.putfield idx, 3))
    (kk : JJ G p l e R s m args below meth c nL Q k n (pc + 3) L st Z (sI M b k1 v)) : JJ G p l e R s m args below meth c nL Q k n pc L (.int v :: .ref b :: st) Z M := by
  intro H locs ls hR hS hL
  obtain ⟨hk1, hkN, hk3, hk4, hfin⟩ := hk
  obtain ⟨o1, o2, o3⟩ := okO_spec hok
  have hts := C.2.2.2.2.1
  have hK := C.2.2.2.2.2.2.1.1
  have hap := va_apart (own := own) hts hin ty hty hnm hK hc
  obtain ⟨cell, q1, q2, q3, q4⟩ := hR.obj hok hk3
  obtain ⟨hSl, hfc, kC, hkC, hkind⟩ := hK.1 ci _ hc
  obtain ⟨cf, kf, fi, f, hi, hsl⟩ := hSl k1 hk1
  have hlay := hts _ (hin _ (u_in_lay hk1))
  unfold u_lay at hlay
  rw [if_neg (by rw [hfin]; decide)] at hlay
  have hst := (u_facts hfc hkC (u_lays hts hin hk1) hi).1
  have h6 := u_store hfc hkC hkind hlay hi (hty k1 hk1) hv.1 hv.2
  have hi' := hi
  rw [hd] at hi'
  refine W.putK C.1 C.2.1 (f := f) ⟨C.2.2.2.1, hts _ hw, ⟨_, _, _, hi'⟩, hst⟩ (by rw [q2]; exact h6) q1 q3 (by rw [hsl]; exact k2_hasslot (q4 k1 (by rw [hkN]; exact hk1))) rfl rfl d fun H' e1 e2 e3 => ?_
  rw [hsl] at e1 ⊢
  refine kk H' _ ls ?_ (hS.put e2 e3 (gA_ad o1)) hL
  refine hR.put (b := b) (fun r hr => (C.2.2.2.2.2.2.1.2.1 r hr).2.2) o1 ?_ e2 e3 (fun r hr => ⟨fun j => ?_, fun j => rfl, fun j => rfl⟩) ⟨rfl, rfl, rfl⟩ (fun _ _ _ => rfl) rfl
  · unfold m_at
    rw [if_pos (by rw [o3]; exact hk3), o3]
    refine t_OB.to (V := updV (m_fv G Z M b) k1 (.int v)) ⟨_, e1, q2, q3, t_set q4 (by rw [hkN]; exact hap) (by rw [hkN]; exact hk1) _⟩ (fun j hj => ?_)
    unfold updV
    by_cases hjk : j = k1
    · subst hjk
      rw [if_pos rfl, m_fv_i (by rw [o3]; exact hk4)]
      simp [sI]
    · rw [if_neg hjk]
      unfold m_fv
      simp [sI, hjk]
  · simp [sI, hr]
theorem j_putR (C : Cx G p l s m args meth c own cc nL ret tb) (hin2 : meth.name = "<init>") {T : u_T} {N ci idx b c1 : Nat} (ty : Nat → FieldType) (hty : ∀ k, k < N → parseFieldDescriptor (T k).2.2.1 = some (ty k)) (hnm : ∀ a, a < N → ∀ b, b < N → a ≠ b → (T a).2.1 ≠ (T b).2.1) (hc : m_cl[ci]? = some (own, T, N)) (hin : ∀ w ∈ u_ws own T N, w ∈ gw) (hok : okO Z b ci = true) (k1 : Nat) (hk : k1 < N ∧ m_nf ci = N ∧ ci < 20 ∧ isRefT (m_ty ci k1) = true ∧ (T k1).2.2.2 = true) (hd : (T k1).1 = own) (hw : Cond.fieldLink own idx own (T k1).2.1 (T k1).2.2.1 ∈ gw) (hv : ∀ q, narrow (ty k1) (.ref q) = .ref q ∧ fits (ty k1) (.ref q) = true) (d : decode cc pc = .ok (.putfield idx, 3))
    (kk : JJ G p l e R s m args below meth c nL Q k n (pc + 3) L st (sR Z b k1 c1) M) : JJ G p l e R s m args below meth c nL Q k n pc L (.ref c1 :: .ref b :: st) Z M := by
  intro H locs ls hR hS hL
  obtain ⟨hk1, hkN, hk3, hk4, hfin⟩ := hk
  obtain ⟨o1, o2, o3⟩ := okO_spec hok
  have hts := C.2.2.2.2.1
  have hK := C.2.2.2.2.2.2.1.1
  have hap := va_apart (own := own) hts hin ty hty hnm hK hc
  obtain ⟨cell, q1, q2, q3, q4⟩ := hR.obj hok hk3
  obtain ⟨hSl, hfc, kC, hkC, hkind⟩ := hK.1 ci _ hc
  obtain ⟨cf, kf, fi, f, hi, hsl⟩ := hSl k1 hk1
  have hlay := hts _ (hin _ (u_in_lay hk1))
  unfold u_lay at hlay
  rw [if_pos hfin] at hlay
  have hst := (u_facts hfc hkC (u_lays hts hin hk1) hi).1
  have hcf : m.cls = cf := by
    obtain ⟨_, _, c', _, _, _, -, -, hf', -, -, -, hown2, -⟩ := Cond.laysFinal_spec hlay
    have e1 : c' = cf := by have := hi.symm.trans hf'; simp at this; exact this.1.symm
    rw [hd] at hown2
    rw [← e1]; exact Option.some.inj (C.2.2.2.1.symm.trans hown2)
  have h6 := u_fits hfc hkC hkind (Or.inr hlay) hi (hty k1 hk1) (hv (m_ad G c1)).1 (hv (m_ad G c1)).2
  have hi' := hi
  rw [hd] at hi'
  refine W.putFinK C.1 C.2.1 C.2.2.2.1 (hts _ hw) hi' hst hcf hin2 (by rw [q2]; exact h6) q1 q3 (by rw [hsl]; exact k2_hasslot (q4 k1 (by rw [hkN]; exact hk1))) rfl rfl d fun H' e1 e2 e3 => ?_
  rw [hsl] at e1 ⊢
  refine kk H' _ ls ?_ (hS.put e2 e3 (gA_ad o1)) hL
  refine hR.put (b := b) (fun r hr => (C.2.2.2.2.2.2.1.2.1 r hr).2.2) o1 ?_ e2 e3 (fun r hr => ⟨fun j => rfl, fun j => rfl, fun j => rfl⟩) ⟨rfl, rfl, rfl⟩ (fun r hr j => ?_) rfl
  · unfold m_at
    show (if Z.2.1 b < 20 then _ else _)
    rw [if_pos (by rw [o3]; exact hk3)]
    show t_OB (m_ad G b) (G.1.1 (Z.2.1 b)) (m_nf (Z.2.1 b)) (G.1.2 (Z.2.1 b)) H' _
    rw [o3]
    refine t_OB.to (V := updV (m_fv G Z M b) k1 (.ref (m_ad G c1))) ⟨_, e1, q2, q3, t_set q4 (by rw [hkN]; exact hap) (by rw [hkN]; exact hk1) _⟩ (fun j hj => ?_)
    unfold updV
    by_cases hjk : j = k1
    · subst hjk
      rw [if_pos rfl, m_fv_r (by show isRefT (m_ty (Z.2.1 b) j) = true; rw [o3]; exact hk4)]
      simp [sR, va_rf]
    · rw [if_neg hjk]
      unfold m_fv
      simp [sR, hjk]
  · simp [sR, hr]
end JR2
end
section
/-! ===== LAYER 1: rows of arrays, of makings, of statics ===== -/
def chN (x : Int32) : Int32 := x.toUInt32.toUInt16.toUInt32.toInt32
theorem Ev.ro {G : mG} {U : State} (h : Ev G U) : ∀ r, r < 5 → gO G r < gB G := fun r hr => (h.2.1 r hr).2.2
theorem Ev.at0 {G : mG} {U : State} (h : Ev G U) {i : Nat} {q : ClassId × FieldType} (hq : (m_tys G)[i]? = some q) : ArrOfT U q.1 q.2 := (h.1.2 i q hq).1
theorem okI_spec {Z : mZ} {b : Nat} (h : okI Z b = true) : b < 5 ∨ okO Z b 20 = true := by
  simpa [okI] using h
theorem m_ac_20 {G : mG} {Z : mZ} {M : mM} {b : Nat} (h : Z.2.1 b = 20) : m_ac G Z M b = arrV (gT G 20) (Z.2.2.1 b) (fun j => .int (M.1 b j)) := by unfold m_ac; simp [h]
theorem m_ac_21 {G : mG} {Z : mZ} {M : mM} {b : Nat} (h : Z.2.1 b = 21) : m_ac G Z M b = arrV (gT G 21) (Z.2.2.1 b) (fun j => .int (M.1 b j)) := by unfold m_ac; simp [h]
theorem m_ac_22 {G : mG} {Z : mZ} {M : mM} {b : Nat} (h : Z.2.1 b = 22) : m_ac G Z M b = arrV (gT G 22) (Z.2.2.1 b) (fun j => .long (M.2.1 b j)) := by unfold m_ac; simp [h]
theorem m_ac_23 {G : mG} {Z : mZ} {M : mM} {b : Nat} (h : Z.2.1 b = 23) : m_ac G Z M b = arrV (gT G 23) (Z.2.2.1 b) (fun j => .double (M.2.2.1 b j)) := by unfold m_ac; simp [h]
theorem m_ac_24 {G : mG} {Z : mZ} {M : mM} {b : Nat} (h : Z.2.1 b = 24) : m_ac G Z M b = arrV (gT G 24) (Z.2.2.1 b) (fun j => va_rf ((Z.2.2.2 b j).map (m_ad G))) := by unfold m_ac; simp [h]
/-- a changed array -/
theorem m_at_arr {G : mG} {Z : mZ} {M : mM} {b t : Nat} {H : Heap} {x : Cell} (h : H[m_ad G b]? = some x) (ht : Z.2.1 b = t) (h20 : ¬ t < 20) (hx : m_ac G Z M b = x) : m_at G Z M b H := by
  unfold m_at
  rw [if_neg (by rw [ht]; exact h20), hx]
  exact h
section JR3
variable {G : mG} {p : Program} {l : Launch} {e : Env} {R : Room} {s : State} {m : MethodId} {args : Array Value} {below : List Frame} {meth : Method} {c : Code} {nL k n : Nat} {Q : State → Prop} {own : String} {cc : ByteArray} {ret : Option FieldType} {tb : List ExceptionTableEntry}
variable {pc : Nat} {L : mL} {st : List Value} {Z : mZ} {M : mM}
theorem j_iald (C : Cx G p l s m args meth c own cc nL ret tb) {b : Nat} {i : Int32} (hok : okI Z b = true) (hi : inB i (Z.2.2.1 b) = true) (d : decode cc pc = .ok (.iaload, 1))
    (kk : JJ G p l e R s m args below meth c nL Q k n (pc + 1) L (.int (M.1 b i.toNatClampNeg) :: st) Z M) : JJ G p l e R s m args below meth c nL Q k n pc L (.int i :: .ref b :: st) Z M := by
  intro H locs ls hR hS hL
  obtain ⟨h0, hlt⟩ := inB_spec hi
  have hE := C.2.2.2.2.2.2.1
  rcases okI_spec hok with hb | hok
  · obtain ⟨r1, r2, r3, r4⟩ := hR.1 b hb
    refine W.iald (v := .int (M.1 b i.toNatClampNeg)) C.1 C.2.1 (a := m_ad G b) (cell := gC G b) (by rw [m_ad_lo (by omega)]; exact r1) (hE.2.1 b hb).1 (hE.2.1 b hb).2.1 (fun q => ?_) (r4 _ hlt) rfl rfl d (kk H locs ls hR hS hL)
    rcases q with q | q
    · exact h0 q
    · omega
  · obtain ⟨o1, o2, o3⟩ := okO_spec hok
    have hc := hR.arr hok (by decide)
    rw [m_ac_20 o3] at hc
    exact W.iald (v := .int (M.1 b i.toNatClampNeg)) C.1 C.2.1 hc (hE.at0 (i := 0) rfl _ _) (fun q => by cases q) (fun q => by rw [arrV_size] at q; rcases q with q | q; exact h0 q; omega) (by rw [arrV_read _ _ hlt]) rfl rfl d (kk H locs ls hR hS hL)
theorem j_alen (C : Cx G p l s m args meth c own cc nL ret tb) {b : Nat} (hok : okI Z b = true) (d : decode cc pc = .ok (.arraylength, 1))
    (kk : JJ G p l e R s m args below meth c nL Q k n (pc + 1) L (.int (Int32.ofNat (Z.2.2.1 b)) :: st) Z M) : JJ G p l e R s m args below meth c nL Q k n pc L (.ref b :: st) Z M := by
  intro H locs ls hR hS hL
  have hE := C.2.2.2.2.2.2.1
  rcases okI_spec hok with hb | hok
  · obtain ⟨r1, r2, r3, r4⟩ := hR.1 b hb
    exact W.alen C.1 C.2.1 (a := m_ad G b) (cell := gC G b) (by rw [m_ad_lo (by omega)]; exact r1) (hE.2.1 b hb).1 r3 rfl rfl d (kk H locs ls hR hS hL)
  · obtain ⟨o1, o2, o3⟩ := okO_spec hok
    have hc := hR.arr hok (by decide)
    rw [m_ac_20 o3] at hc
    exact W.alen C.1 C.2.1 hc (hE.at0 (i := 0) rfl _ _) (by rw [arrV_size] <;> rfl) rfl rfl d (kk H locs ls hR hS hL)
theorem j_clen (C : Cx G p l s m args meth c own cc nL ret tb) {b : Nat} (hok : okO Z b 21 = true) (d : decode cc pc = .ok (.arraylength, 1))
    (kk : JJ G p l e R s m args below meth c nL Q k n (pc + 1) L (.int (Int32.ofNat (Z.2.2.1 b)) :: st) Z M) : JJ G p l e R s m args below meth c nL Q k n pc L (.ref b :: st) Z M := by
  intro H locs ls hR hS hL
  have hE := C.2.2.2.2.2.2.1
  obtain ⟨o1, o2, o3⟩ := okO_spec hok
  have hc := hR.arr hok (by decide)
  rw [m_ac_21 o3] at hc
  exact W.alen C.1 C.2.1 hc (hE.at0 (i := 1) rfl _ _) (by rw [arrV_size] <;> rfl) rfl rfl d (kk H locs ls hR hS hL)
theorem j_qlen (C : Cx G p l s m args meth c own cc nL ret tb) {b : Nat} (hok : okO Z b 24 = true) (d : decode cc pc = .ok (.arraylength, 1))
    (kk : JJ G p l e R s m args below meth c nL Q k n (pc + 1) L (.int (Int32.ofNat (Z.2.2.1 b)) :: st) Z M) : JJ G p l e R s m args below meth c nL Q k n pc L (.ref b :: st) Z M := by
  intro H locs ls hR hS hL
  have hE := C.2.2.2.2.2.2.1
  obtain ⟨o1, o2, o3⟩ := okO_spec hok
  have hc := hR.arr hok (by decide)
  rw [m_ac_24 o3] at hc
  exact W.alen C.1 C.2.1 hc (hE.at0 (i := 4) rfl _ _) (by rw [arrV_size] <;> rfl) rfl rfl d (kk H locs ls hR hS hL)
theorem j_cald (C : Cx G p l s m args meth c own cc nL ret tb) {b : Nat} {i : Int32} (hok : okO Z b 21 = true) (hi : inB i (Z.2.2.1 b) = true) (d : decode cc pc = .ok (.caload, 1))
    (kk : JJ G p l e R s m args below meth c nL Q k n (pc + 1) L (.int (M.1 b i.toNatClampNeg) :: st) Z M) : JJ G p l e R s m args below meth c nL Q k n pc L (.int i :: .ref b :: st) Z M := by
  intro H locs ls hR hS hL
  obtain ⟨h0, hlt⟩ := inB_spec hi
  obtain ⟨o1, o2, o3⟩ := okO_spec hok
  have hc := hR.arr hok (by decide)
  rw [m_ac_21 o3] at hc
  exact W.cald (v := .int (M.1 b i.toNatClampNeg)) C.1 C.2.1 hc (C.2.2.2.2.2.2.1.at0 (i := 1) rfl _ _) (fun q => by cases q) (fun q => by rw [arrV_size] at q; rcases q with q | q; exact h0 q; omega) (by rw [arrV_read _ _ hlt]) rfl rfl d (kk H locs ls hR hS hL)
theorem j_lald (C : Cx G p l s m args meth c own cc nL ret tb) {b : Nat} {i : Int32} (hok : okO Z b 22 = true) (hi : inB i (Z.2.2.1 b) = true) (d : decode cc pc = .ok (.laload, 1))
    (kk : JJ G p l e R s m args below meth c nL Q k n (pc + 1) L (.long (M.2.1 b i.toNatClampNeg) :: st) Z M) : JJ G p l e R s m args below meth c nL Q k n pc L (.int i :: .ref b :: st) Z M := by
  intro H locs ls hR hS hL
  obtain ⟨h0, hlt⟩ := inB_spec hi
  obtain ⟨o1, o2, o3⟩ := okO_spec hok
  have hc := hR.arr hok (by decide)
  rw [m_ac_22 o3] at hc
  exact W.lald (v := .long (M.2.1 b i.toNatClampNeg)) C.1 C.2.1 hc (C.2.2.2.2.2.2.1.at0 (i := 2) rfl _ _) (fun q => by cases q) (fun q => by rw [arrV_size] at q; rcases q with q | q; exact h0 q; omega) (by rw [arrV_read _ _ hlt]) rfl rfl d (kk H locs ls hR hS hL)
theorem j_dald (C : Cx G p l s m args meth c own cc nL ret tb) {b : Nat} {i : Int32} (hok : okO Z b 23 = true) (hi : inB i (Z.2.2.1 b) = true) (d : decode cc pc = .ok (.daload, 1))
    (kk : JJ G p l e R s m args below meth c nL Q k n (pc + 1) L (.double (M.2.2.1 b i.toNatClampNeg) :: st) Z M) : JJ G p l e R s m args below meth c nL Q k n pc L (.int i :: .ref b :: st) Z M := by
  intro H locs ls hR hS hL
  obtain ⟨h0, hlt⟩ := inB_spec hi
  obtain ⟨o1, o2, o3⟩ := okO_spec hok
  have hc := hR.arr hok (by decide)
  rw [m_ac_23 o3] at hc
  exact W.dald (v := .double (M.2.2.1 b i.toNatClampNeg)) C.1 C.2.1 hc (C.2.2.2.2.2.2.1.at0 (i := 3) rfl _ _) (fun q => by cases q) (fun q => by rw [arrV_size] at q; rcases q with q | q; exact h0 q; omega) (by rw [arrV_read _ _ hlt]) rfl rfl d (kk H locs ls hR hS hL)
theorem j_aald (C : Cx G p l s m args meth c own cc nL ret tb) {b c1 : Nat} {i : Int32} (hok : okO Z b 24 = true) (hi : inB i (Z.2.2.1 b) = true) (hr : Z.2.2.2 b i.toNatClampNeg = some c1) (d : decode cc pc = .ok (.aaload, 1))
    (kk : JJ G p l e R s m args below meth c nL Q k n (pc + 1) L (.ref c1 :: st) Z M) : JJ G p l e R s m args below meth c nL Q k n pc L (.int i :: .ref b :: st) Z M := by
  intro H locs ls hR hS hL
  obtain ⟨h0, hlt⟩ := inB_spec hi
  obtain ⟨o1, o2, o3⟩ := okO_spec hok
  have hc := hR.arr hok (by decide)
  rw [m_ac_24 o3] at hc
  exact W.aald (v := .ref (m_ad G c1)) (ty := .object RX4) C.1 C.2.1 hc (C.2.2.2.2.2.2.1.at0 (i := 4) rfl _ _) rfl (fun q => by cases q) (fun q => by rw [arrV_size] at q; rcases q with q | q; exact h0 q; omega) (by rw [arrV_read _ _ hlt, hr]; rfl) rfl rfl d (kk H locs ls hR hS hL)
theorem j_iast (C : Cx G p l s m args meth c own cc nL ret tb) {b : Nat} {i x : Int32} (hok : okO Z b 20 = true) (hi : inB i (Z.2.2.1 b) = true) (d : decode cc pc = .ok (.iastore, 1))
    (kk : JJ G p l e R s m args below meth c nL Q k n (pc + 1) L st Z (sI M b i.toNatClampNeg x)) : JJ G p l e R s m args below meth c nL Q k n pc L (.int x :: .int i :: .ref b :: st) Z M := by
  intro H locs ls hR hS hL
  obtain ⟨h0, hlt⟩ := inB_spec hi
  obtain ⟨o1, o2, o3⟩ := okO_spec hok
  have hc := hR.arr hok (by decide)
  rw [m_ac_20 o3] at hc
  refine W.iast C.1 C.2.1 hc (C.2.2.2.2.2.2.1.at0 (i := 0) rfl _ _) (fun q => by cases q) (fun q => by rw [arrV_size] at q; rcases q with q | q; exact h0 q; omega) rfl rfl d fun H1 e1 z oq => ?_
  refine kk H1 _ ls ?_ (hS.put z oq (gA_ad o1)) hL
  refine hR.put (b := b) C.2.2.2.2.2.2.1.ro o1 (m_at_arr e1 o3 (by decide) ?_) z oq (fun r hr => ⟨fun j => by simp [sI, hr], fun j => rfl, fun j => rfl⟩) ⟨rfl, rfl, rfl⟩ (fun _ _ _ => rfl) rfl
  rw [m_ac_20 o3, arrV_store]
  congr 1
  funext j
  by_cases hj : j = i.toNatClampNeg <;> simp [updV, sI, hj]
theorem j_cast (C : Cx G p l s m args meth c own cc nL ret tb) {b : Nat} {i x : Int32} (hok : okO Z b 21 = true) (hi : inB i (Z.2.2.1 b) = true) (d : decode cc pc = .ok (.castore, 1))
    (kk : JJ G p l e R s m args below meth c nL Q k n (pc + 1) L st Z (sI M b i.toNatClampNeg (chN x))) : JJ G p l e R s m args below meth c nL Q k n pc L (.int x :: .int i :: .ref b :: st) Z M := by
  intro H locs ls hR hS hL
  obtain ⟨h0, hlt⟩ := inB_spec hi
  obtain ⟨o1, o2, o3⟩ := okO_spec hok
  have hc := hR.arr hok (by decide)
  rw [m_ac_21 o3] at hc
  refine W.cast C.1 C.2.1 hc (C.2.2.2.2.2.2.1.at0 (i := 1) rfl _ _) (fun q => by cases q) (fun q => by rw [arrV_size] at q; rcases q with q | q; exact h0 q; omega) rfl rfl d fun H1 e1 z oq => ?_
  refine kk H1 _ ls ?_ (hS.put z oq (gA_ad o1)) hL
  refine hR.put (b := b) C.2.2.2.2.2.2.1.ro o1 (m_at_arr e1 o3 (by decide) ?_) z oq (fun r hr => ⟨fun j => by simp [sI, hr], fun j => rfl, fun j => rfl⟩) ⟨rfl, rfl, rfl⟩ (fun _ _ _ => rfl) rfl
  rw [m_ac_21 o3, arrV_store]
  congr 1
  funext j
  by_cases hj : j = i.toNatClampNeg
  · subst hj; simp [updV, sI, narrow, chN]
  · simp [updV, sI, hj]
theorem j_last (C : Cx G p l s m args meth c own cc nL ret tb) {b : Nat} {i : Int32} {x : Int64} (hok : okO Z b 22 = true) (hi : inB i (Z.2.2.1 b) = true) (d : decode cc pc = .ok (.lastore, 1))
    (kk : JJ G p l e R s m args below meth c nL Q k n (pc + 1) L st Z (sL M b i.toNatClampNeg x)) : JJ G p l e R s m args below meth c nL Q k n pc L (.long x :: .int i :: .ref b :: st) Z M := by
  intro H locs ls hR hS hL
  obtain ⟨h0, hlt⟩ := inB_spec hi
  obtain ⟨o1, o2, o3⟩ := okO_spec hok
  have hc := hR.arr hok (by decide)
  rw [m_ac_22 o3] at hc
  refine W.last C.1 C.2.1 hc (C.2.2.2.2.2.2.1.at0 (i := 2) rfl _ _) (fun q => by cases q) (fun q => by rw [arrV_size] at q; rcases q with q | q; exact h0 q; omega) rfl rfl d fun H1 e1 z oq => ?_
  refine kk H1 _ ls ?_ (hS.put z oq (gA_ad o1)) hL
  refine hR.put (b := b) C.2.2.2.2.2.2.1.ro o1 (m_at_arr e1 o3 (by decide) ?_) z oq (fun r hr => ⟨fun j => rfl, fun j => by simp [sL, hr], fun j => rfl⟩) ⟨rfl, rfl, rfl⟩ (fun _ _ _ => rfl) rfl
  rw [m_ac_22 o3, arrV_store]
  congr 1
  funext j
  by_cases hj : j = i.toNatClampNeg <;> simp [updV, sL, hj]
theorem j_dast (C : Cx G p l s m args meth c own cc nL ret tb) {b : Nat} {i : Int32} {x : UInt64} (hok : okO Z b 23 = true) (hi : inB i (Z.2.2.1 b) = true) (d : decode cc pc = .ok (.dastore, 1))
    (kk : JJ G p l e R s m args below meth c nL Q k n (pc + 1) L st Z (sD M b i.toNatClampNeg x)) : JJ G p l e R s m args below meth c nL Q k n pc L (.double x :: .int i :: .ref b :: st) Z M := by
  intro H locs ls hR hS hL
  obtain ⟨h0, hlt⟩ := inB_spec hi
  obtain ⟨o1, o2, o3⟩ := okO_spec hok
  have hc := hR.arr hok (by decide)
  rw [m_ac_23 o3] at hc
  refine W.dast C.1 C.2.1 hc (C.2.2.2.2.2.2.1.at0 (i := 3) rfl _ _) (fun q => by cases q) (fun q => by rw [arrV_size] at q; rcases q with q | q; exact h0 q; omega) rfl rfl d fun H1 e1 z oq => ?_
  refine kk H1 _ ls ?_ (hS.put z oq (gA_ad o1)) hL
  refine hR.put (b := b) C.2.2.2.2.2.2.1.ro o1 (m_at_arr e1 o3 (by decide) ?_) z oq (fun r hr => ⟨fun j => rfl, fun j => rfl, fun j => by simp [sD, hr]⟩) ⟨rfl, rfl, rfl⟩ (fun _ _ _ => rfl) rfl
  rw [m_ac_23 o3, arrV_store]
  congr 1
  funext j
  by_cases hj : j = i.toNatClampNeg <;> simp [updV, sD, hj]
/-- a made plan is put into the row of plans -/
theorem j_aast (C : Cx G p l s m args meth c own cc nL ret tb) {b c1 : Nat} {i : Int32} (hok : okO Z b 24 = true) (hi : inB i (Z.2.2.1 b) = true) (hok1 : okO Z c1 4 = true) (d : decode cc pc = .ok (.aastore, 1))
    (kk : JJ G p l e R s m args below meth c nL Q k n (pc + 1) L st (sR Z b i.toNatClampNeg c1) M) : JJ G p l e R s m args below meth c nL Q k n pc L (.ref c1 :: .int i :: .ref b :: st) Z M := by
  intro H locs ls hR hS hL
  obtain ⟨h0, hlt⟩ := inB_spec hi
  obtain ⟨o1, o2, o3⟩ := okO_spec hok
  have hE := C.2.2.2.2.2.2.1
  have hc := hR.arr hok (by decide)
  rw [m_ac_24 o3] at hc
  obtain ⟨cellV, g1, g2, g3, -⟩ := hR.obj hok1 (by decide)
  have hcls := (hE.1.1 4 _ rfl).2
  obtain ⟨kA, comp, k1, k2, k3, -⟩ := (hE.1.2 4 (gT G 24, .object RX4) rfl).2
  have hcomp : comp = G.1.1 4 := Option.some.inj (k3.symm.trans hcls.1)
  subst hcomp
  obtain ⟨kC, hkC, -⟩ := id hcls.2
  refine W.aast C.1 C.2.1 hc (fun q h => by cases h) (fun h => by cases h) k1 k2 rfl hkC ⟨h0, by rw [arrV_size]; exact hlt⟩ g1 (fun q h => by rw [g3] at h; cases h) (by rw [g2]; exact hkC) (by rw [g2]; exact va_assign hcls) rfl rfl d fun H1 e1 z oq => ?_
  refine kk H1 _ ls ?_ (hS.put z oq (gA_ad o1)) hL
  refine hR.put (b := b) hE.ro o1 (m_at_arr (t := 24) e1 o3 (by decide) ?_) z oq (fun r hr => ⟨fun j => rfl, fun j => rfl, fun j => rfl⟩) ⟨rfl, rfl, rfl⟩ (fun r hr j => by simp [sR, hr]) rfl
  rw [m_ac_24 (Z := sR Z b i.toNatClampNeg c1) o3, arrV_store]
  congr 1
  funext j
  by_cases hj : j = i.toNatClampNeg
  · subst hj; simp [updV, sR, va_rf]
  · simp [updV, sR, hj]
theorem j_new (C : Cx G p l s m args meth c own cc nL ret tb) {cn : String} {T : u_T} {N ci idx : Nat} (ty : Nat → FieldType) (hty : ∀ k, k < N → parseFieldDescriptor (T k).2.2.1 = some (ty k)) (hc : m_cl[ci]? = some (cn, T, N)) (hin : ∀ w ∈ u_ws cn T N, w ∈ gw) (hci : ci < 20 ∧ m_nf ci = N) (htt : ∀ j, j < N → ty j = m_ty ci j ∧ (m_ty ci j = .int ∨ m_ty ci j = .boolean ∨ isRefT (m_ty ci j) = true))
    (hw : Cond.classLink own idx cn ∈ gw ∧ Cond.instantiable cn N ∈ gw ∧ Cond.initialized cn ∈ gw) (hx : M.2.2.2 = 0) (hroom : k + 1 ≤ R.cells ∧ n + N ≤ R.slots) (d : decode cc pc = .ok (.new idx, 3))
    (kk : JJ G p l e R s m args below meth c nL Q (k + 1) (n + N) (pc + 3) L (.ref Z.1 :: st) (zNew Z ci 0) (mNew M Z.1)) : JJ G p l e R s m args below meth c nL Q k n pc L st Z M := by
  intro H locs ls hR hS hL
  have hE := C.2.2.2.2.2.2.1
  have hts := C.2.2.2.2.1
  have hKn := hE.1.1 ci _ hc
  refine W.newcK C.1 C.2.1 C.2.2.2.1 (hts _ hw.1) (hts _ hw.2.1) (hts _ hw.2.2) rfl d hroom.1 hroom.2 hKn.2.1 rfl fun H1 kC hkC e1 z1 o1 => ?_
  have hborn := u_born ty hts hin hKn hkC e1 hty
  have had0 : m_ad G Z.1 = H.size := by rw [m_ad_hi hR.2.2.1, hR.2.2.2.2 hx]
  obtain ⟨hN, had⟩ := hR.new (H1 := H1) (t := ci) (len := 0) hx hE.ro z1 o1 (by
    have hz : (zNew Z ci 0).2.1 Z.1 = ci := by simp [zNew]
    unfold m_at
    rw [if_pos (by rw [hz]; exact hci.1), hz, had0, hci.2]
    refine t_OB.to hborn (fun j hj => ?_)
    obtain ⟨t1, t2⟩ := htt j hj
    rw [t1]
    rcases t2 with t2 | t2 | t2
    · rw [m_fv_i (by rw [hz, t2]; rfl), t2]; simp [mNew, defaultValue]
    · rw [m_fv_i (by rw [hz, t2]; rfl), t2]; simp [mNew, defaultValue]
    · rw [m_fv_r (by rw [hz]; exact t2)]
      have hnone : (zNew Z ci 0).2.2.2 Z.1 j = none := by simp [zNew]
      rw [hnone]
      cases hh : m_ty ci j <;> first | rfl | (rw [hh] at t2; cases t2))
  have h2 := kk H1 locs ls hN (hS.grow z1 o1) hL
  have e2 : (Value.ref Z.1 :: st).map (m_cv G) = .ref H.size :: st.map (m_cv G) := by rw [← had]; rfl
  rw [e2] at h2
  exact h2
theorem j_newa (C : Cx G p l s m args meth c own cc nL ret tb) {at1 : ArrayType} {ln t : Nat} {i : Int32} (ht : (t = 20 ∧ at1 = .int) ∨ (t = 21 ∧ at1 = .char) ∨ (t = 22 ∧ at1 = .long) ∨ (t = 23 ∧ at1 = .double)) (hw : Cond.arrayClass (newarray.typeOf at1) ∈ gw) (hi : ¬ i < 0) (hln : i.toNatClampNeg = ln) (hsm : ln * componentBytes (newarray.typeOf at1) ≤ 536870912) (hx : M.2.2.2 = 0) (hroom : k + 1 ≤ R.cells ∧ n + ln ≤ R.slots) (d : decode cc pc = .ok (.newarray at1, 2))
    (kk : JJ G p l e R s m args below meth c nL Q (k + 1) (n + ln) (pc + 2) L (.ref Z.1 :: st) (zNew Z t ln) (mNew M Z.1)) : JJ G p l e R s m args below meth c nL Q k n pc L (.int i :: st) Z M := by
  intro H locs ls hR hS hL
  have hE := C.2.2.2.2.2.2.1
  have hts := C.2.2.2.2.1
  refine va_newaK C.1 C.2.1 (hts _ hw) rfl d rfl hi hln hsm hroom.1 hroom.2 rfl fun H1 cA e1 z1 o1 hAr hNm => ?_
  have had0 : m_ad G Z.1 = H.size := by rw [m_ad_hi hR.2.2.1, hR.2.2.2.2 hx]
  have hz : (zNew Z t ln).2.1 Z.1 = t := by simp [zNew]
  have hzl : (zNew Z t ln).2.2.1 Z.1 = ln := by simp [zNew]
  obtain ⟨hN, had⟩ := hR.new (H1 := H1) (t := t) (len := ln) hx hE.ro z1 o1 (by
    rw [← had0] at e1
    rcases ht with ⟨rfl, rfl⟩ | ⟨rfl, rfl⟩ | ⟨rfl, rfl⟩ | ⟨rfl, rfl⟩
    · refine m_at_arr e1 hz (by decide) ?_
      rw [m_ac_20 hz, hzl, show gT G 20 = cA from Option.some.inj (((hE.1.2 0 _ rfl).2).symm.trans hNm)]
      simp [mNew, defaultValue, newarray.typeOf]
    · refine m_at_arr e1 hz (by decide) ?_
      rw [m_ac_21 hz, hzl, show gT G 21 = cA from Option.some.inj (((hE.1.2 1 _ rfl).2).symm.trans hNm)]
      simp [mNew, defaultValue, newarray.typeOf]
    · refine m_at_arr e1 hz (by decide) ?_
      rw [m_ac_22 hz, hzl, show gT G 22 = cA from Option.some.inj (((hE.1.2 2 _ rfl).2).symm.trans hNm)]
      simp [mNew, defaultValue, newarray.typeOf]
    · refine m_at_arr e1 hz (by decide) ?_
      rw [m_ac_23 hz, hzl, show gT G 23 = cA from Option.some.inj (((hE.1.2 3 _ rfl).2).symm.trans hNm)]
      simp [mNew, defaultValue, newarray.typeOf])
  have h2 := kk H1 locs ls hN (hS.grow z1 o1) hL
  have e2 : (Value.ref Z.1 :: st).map (m_cv G) = .ref H.size :: st.map (m_cv G) := by rw [← had]; rfl
  rw [e2] at h2
  exact h2
theorem j_anew (C : Cx G p l s m args meth c own cc nL ret tb) {idx ln : Nat} {i : Int32} (hw : Cond.classLink own idx RX4 ∈ gw) (hover : va_AO RX4 s) (hi : ¬ i < 0) (hln : i.toNatClampNeg = ln) (hsm : ln * 4 ≤ 536870912) (hx : M.2.2.2 = 0) (hroom : k + 1 ≤ R.cells ∧ n + ln ≤ R.slots) (d : decode cc pc = .ok (.anewarray idx, 3))
    (kk : JJ G p l e R s m args below meth c nL Q (k + 1) (n + ln) (pc + 3) L (.ref Z.1 :: st) (zNew Z 24 ln) (mNew M Z.1)) : JJ G p l e R s m args below meth c nL Q k n pc L (.int i :: st) Z M := by
  intro H locs ls hR hS hL
  subst hln
  have hE := C.2.2.2.2.2.2.1
  have hts := C.2.2.2.2.1
  refine W.anew C.1 C.2.1 C.2.2.2.1 (hts _ hw) (va_AO.use hover) rfl d rfl hi hsm hroom.1 hroom.2 fun cA kA comp f1 f2 f3 f4 => ?_
  generalize hH1 : H.push ({ cls := cA, slots := Array.replicate i.toNatClampNeg .null, vm := .none } : Cell) = H1
  have z1 : H1.size = H.size + 1 := by rw [← hH1, Array.size_push]
  have e1 : H1[H.size]? = some (arrV cA i.toNatClampNeg (fun _ => .null)) := by rw [← hH1, Array.getElem?_push_size, ← arrV_new]
  have o1 : ∀ q : Nat, q < H.size → H1[q]? = H[q]? := fun q hq => by rw [← hH1, Array.getElem?_push, if_neg (Nat.ne_of_lt hq)]
  have had0 : m_ad G Z.1 = H.size := by rw [m_ad_hi hR.2.2.1, hR.2.2.2.2 hx]
  have hz : (zNew Z 24 i.toNatClampNeg).2.1 Z.1 = 24 := by simp [zNew]
  have hzl : (zNew Z 24 i.toNatClampNeg).2.2.1 Z.1 = i.toNatClampNeg := by simp [zNew]
  obtain ⟨kA2, comp2, -, -, -, h4⟩ := (hE.1.2 4 (gT G 24, .object RX4) rfl).2
  obtain ⟨hN, had⟩ := hR.new (H1 := H1) (t := 24) (len := i.toNatClampNeg) hx hE.ro z1 o1 (by
    rw [← had0] at e1
    refine m_at_arr e1 hz (by decide) ?_
    rw [m_ac_24 hz, hzl, show gT G 24 = cA from Option.some.inj (h4.symm.trans f1)]
    simp [zNew, va_rf])
  have h2 := kk H1 locs ls hN (hS.grow z1 o1) hL
  have e2 : (Value.ref Z.1 :: st).map (m_cv G) = .ref H.size :: st.map (m_cv G) := by rw [← had]; rfl
  rw [e2] at h2
  exact h2
theorem j_gets (C : Cx G p l s m args meth c own cc nL ret tb) {nm : String} {idx r : Nat} (hr : r < 8) (hZ : va_Z RX8 nm "[I" (.ref (gO G r)) (gA G) s s.heap) (hw : Cond.fieldLink own idx RX8 nm "[I" ∈ gw) (d : decode cc pc = .ok (.getstatic idx, 3))
    (kk : JJ G p l e R s m args below meth c nL Q k n (pc + 3) L (.ref r :: st) Z M) : JJ G p l e R s m args below meth c nL Q k n pc L st Z M := by
  intro H locs ls hR hS hL
  have h2 := kk H locs ls hR hS hL
  have e2 : (Value.ref r :: st).map (m_cv G) = .ref (gO G r) :: st.map (m_cv G) := by rw [← m_ad_lo hr]; rfl
  rw [e2] at h2
  exact va_gets C.1 C.2.1 hZ hS C.2.2.2.1 (C.2.2.2.2.1 _ hw) (fun _ h => h) d h2
theorem j_getsN (C : Cx G p l s m args meth c own cc nL ret tb) {nm host : String} {idx r : Nat} (hr : r < 8) (hZ : va_Z RX8 nm "[I" (.ref (gO G r)) (gA G) s s.heap) (hw : Cond.fieldLinkNest own idx RX8 nm "[I" host ∈ nw) (d : decode cc pc = .ok (.getstatic idx, 3))
    (kk : JJ G p l e R s m args below meth c nL Q k n (pc + 3) L (.ref r :: st) Z M) : JJ G p l e R s m args below meth c nL Q k n pc L st Z M := by
  intro H locs ls hR hS hL
  have h2 := kk H locs ls hR hS hL
  have e2 : (Value.ref r :: st).map (m_cv G) = .ref (gO G r) :: st.map (m_cv G) := by rw [← m_ad_lo hr]; rfl
  rw [e2] at h2
  exact va_getsN C.1 C.2.1 hZ hS C.2.2.2.1 (va_Nw.use rfl (C.2.2.2.2.2.2.1.2.2.2.2.2.2.1 _ hw)) (fun _ h => h) d h2
end JR3
end
section
/-! ===== LAYER 1: ends, throws, calls, catching ===== -/
theorem isNw_tab {w : Cond} (h : isNw w = true) : w.onTables = true := by
  cases w <;> first | rfl | (simp [isNw] at h)
theorem nw_use {G : mG} {U : State} {A : Array Value} (h : Ev G U) {w : Cond} (hw : w ∈ nw) : w.before A U = true := va_Nw.use (isNw_tab (List.mem_filter.mp hw).2) (h.2.2.2.2.2.2.1 w hw)
theorem nw_at {G : mG} {U : State} (h : Ev G U) {w : Cond} (hw : w ∈ nw) : va_Nw w U := h.2.2.2.2.2.2.1 w hw
theorem Rep.thrown {G : mG} {Z : mZ} {M : mM} {H H1 : Heap} (h : Rep G Z M H) (hro : ∀ r, r < 5 → gO G r < gB G) (hz : H.size ≤ H1.size) (hq : ∀ q, q < H.size → H1[q]? = H[q]?) : Rep G Z (sT M) H1 := by
  obtain ⟨a1, a2, a3, a4, -⟩ := h
  refine ⟨fun r hr => (a1 r hr).kept (hq _ ?_), fun r h8 hr => ?_, a3, Nat.le_trans a4 hz, fun h => absurd (show (1 : Nat) = 0 from h) (by decide)⟩
  · have := hro r hr; omega
  · exact ((a2 r h8 hr).kept (hq _ (by rw [m_ad_hi h8]; omega))).mem (fun _ => rfl) (fun _ => rfl) (fun _ => rfl)
def okT (own : String) (ik ic : Nat) (cls : String) (names : List String) : Bool :=
  Bundle.fit cls && names.all Bundle.fit && decide (Cond.classLink own ik cls ∈ gw) && decide (Cond.initialized cls ∈ gw) && (vx_at0 own ic cls names).all (fun w => decide (w ∈ gw) || decide (w ∈ nw)) && (Cond.classLink own ik cls :: Cond.initialized cls :: vx_at0 own ic cls names).all vx_ot
def okV (own : String) (idx : Nat) (y : MethodName) (w0 : Cond) : Bool :=
  decide (Cond.methodLink own idx y ∈ gw) && decide (Cond.instanceMethod y ∈ gw) && decide (Cond.selects y.cls y y ∈ gw) && decide (Cond.initialized y.cls ∈ gw) && decide (w0 ∈ gw)
def okS (own : String) (idx : Nat) (y : MethodName) (w0 : Cond) : Bool :=
  decide (Cond.methodLink own idx y ∈ gw) && decide (Cond.static y ∈ gw) && decide (Cond.initialized y.cls ∈ gw) && decide (w0 ∈ gw)
def okSN (own : String) (idx : Nat) (y : MethodName) (host : String) (w0 : Cond) : Bool :=
  decide (Cond.methodLinkNest own idx y host ∈ nw) && decide (Cond.static y ∈ gw) && decide (Cond.initialized y.cls ∈ gw) && decide (w0 ∈ gw)
def okN (own : String) (idx : Nat) (y : MethodName) (w0 : Cond) : Bool :=
  decide (Cond.methodLink own idx y ∈ gw) && decide (Cond.instanceMethod y ∈ gw) && decide (Cond.initialized y.cls ∈ gw) && decide (w0 ∈ gw) && decide (y.name = "<init>")
def okNN (own : String) (idx : Nat) (y : MethodName) (host : String) (w0 : Cond) : Bool :=
  decide (Cond.methodLinkNest own idx y host ∈ nw) && decide (Cond.instanceMethod y ∈ gw) && decide (Cond.initialized y.cls ∈ gw) && decide (w0 ∈ gw) && decide (y.name = "<init>")
def okY (y : MethodName) (n : Nat) : Prop := y.cls ≠ "java/lang/invoke/MethodHandle" ∧ y.cls ≠ "java/lang/invoke/VarHandle" ∧ (parseMethodDescriptor y.desc).map (fun d => d.parameters.length) = some n
theorem gw_cons {w0 : Cond} (h : w0 ∈ gw) : GoodIn gw (w0 :: gw) := fun w hw => by
  rcases List.mem_cons.mp hw with rfl | hw
  · exact gw_good _ h
  · exact gw_good _ hw
theorem lv_args_cv {G : mG} (a : List Value) : ∀ i, lv_args i (a.map (m_cv G)) = m_cl2 G (lv_args i a) := by
  induction a with
  | nil => intro i; rfl
  | cons v t ih =>
    intro i
    show (i, m_cv G v) :: lv_args _ (t.map (m_cv G)) = (i, m_cv G v) :: m_cl2 G (lv_args _ t)
    rw [ih, m_cv_cat]
theorem cats_cv {G : mG} (a : List Value) : ((a.map (m_cv G)).map fun v => v.category).sum = (a.map fun v => v.category).sum := by
  rw [List.map_map]
  congr 1
  apply List.map_congr_left
  intro v _
  exact m_cv_cat G v
theorem sl_cv {G : mG} (a : List Value) : (lg_sl (a.map (m_cv G))).length = (a.map fun v => v.category).sum := by
  induction a with
  | nil => rfl
  | cons v t ih =>
    have e : lg_sl ((v :: t).map (m_cv G)) = (if (m_cv G v).category = 2 then [Slot.val (m_cv G v), .second] else [.val (m_cv G v)]) ++ lg_sl (t.map (m_cv G)) := by simp [lg_sl]
    rw [e, List.length_append, ih, List.map_cons, List.sum_cons, m_cv_cat]
    rcases lv_cat v with h | h <;> simp [h]
section JR4
variable {G : mG} {p : Program} {l : Launch} {e : Env} {R : Room} {s : State} {m : MethodId} {args : Array Value} {below : List Frame} {meth : Method} {c : Code} {nL k n : Nat} {Q : State → Prop} {own : String} {cc : ByteArray} {ret : Option FieldType} {tb : List ExceptionTableEntry}
variable {pc : Nat} {L : mL} {st : List Value} {Z Z1 : mZ} {M M1 : mM} {rm : Room}
theorem j_iret (C : Cx G p l s m args meth c own cc nL ret tb) {v : Int32} (hr : ret = some .int) (hk : k ≤ rm.cells) (hn : n ≤ rm.slots) (d : decode cc pc = .ok (.ireturn, 1)) : JJ G p l e R s m args below meth c nL (mEnd G below args s rm (.inl (some (.int v))) Z M) k n pc L [.int v] Z M :=
  fun H locs ls hR hS hL => W.widen hk hn (vx_ret (W.iret C.1 C.2.1 (C.2.2.2.2.2.2.2.1.trans hr) (fun t ht hW => ⟨⟨some (.int v), rfl, rfl⟩, by rw [ht]; exact hR, hS.F ht⟩) hS.2.2 d C.2.2.2.2.2.1))
theorem j_zret (C : Cx G p l s m args meth c own cc nL ret tb) {v : Int32} (hr : ret = some .boolean) (hv : v = 0 ∨ v = 1) (hk : k ≤ rm.cells) (hn : n ≤ rm.slots) (d : decode cc pc = .ok (.ireturn, 1)) : JJ G p l e R s m args below meth c nL (mEnd G below args s rm (.inl (some (.int v))) Z M) k n pc L [.int v] Z M :=
  fun H locs ls hR hS hL => W.widen hk hn (vx_ret (W.zret (ty := .boolean) C.1 C.2.1 (C.2.2.2.2.2.2.2.1.trans hr) (by rcases hv with rfl | rfl <;> rfl) (fun t ht hW => ⟨⟨some (.int v), rfl, rfl⟩, by rw [ht]; exact hR, hS.F ht⟩) hS.2.2 d C.2.2.2.2.2.1))
theorem j_vret (C : Cx G p l s m args meth c own cc nL ret tb) (hr : ret = none) (hk : k ≤ rm.cells) (hn : n ≤ rm.slots) (d : decode cc pc = .ok (.return_, 1)) : JJ G p l e R s m args below meth c nL (mEnd G below args s rm (.inl none) Z M) k n pc L [] Z M :=
  fun H locs ls hR hS hL => W.widen hk hn (vx_ret (W.vret C.1 C.2.1 (C.2.2.2.2.2.2.2.1.trans hr) (fun t ht hW => ⟨⟨none, rfl, rfl⟩, by rw [ht]; exact hR, hS.F ht⟩) hS.2.2 d C.2.2.2.2.2.1))
theorem j_fret (C : Cx G p l s m args meth c own cc nL ret tb) {v : UInt32} (hr : ret = some .float) (hk : k ≤ rm.cells) (hn : n ≤ rm.slots) (d : decode cc pc = .ok (.freturn, 1)) : JJ G p l e R s m args below meth c nL (mEnd G below args s rm (.inl (some (.float v))) Z M) k n pc L [.float v] Z M :=
  fun H locs ls hR hS hL => W.widen hk hn (vx_ret (W.fret C.1 C.2.1 (C.2.2.2.2.2.2.2.1.trans hr) (fun t ht hW => ⟨⟨some (.float v), rfl, rfl⟩, by rw [ht]; exact hR, hS.F ht⟩) hS.2.2 d C.2.2.2.2.2.1))
theorem j_dret (C : Cx G p l s m args meth c own cc nL ret tb) {v : UInt64} (hr : ret = some .double) (hk : k ≤ rm.cells) (hn : n ≤ rm.slots) (d : decode cc pc = .ok (.dreturn, 1)) : JJ G p l e R s m args below meth c nL (mEnd G below args s rm (.inl (some (.double v))) Z M) k n pc L [.double v] Z M :=
  fun H locs ls hR hS hL => W.widen hk hn (vx_ret (W.dret C.1 C.2.1 (C.2.2.2.2.2.2.2.1.trans hr) (fun t ht hW => ⟨⟨some (.double v), rfl, rfl⟩, by rw [ht]; exact hR, hS.F ht⟩) hS.2.2 d C.2.2.2.2.2.1))
theorem j_aret (C : Cx G p l s m args meth c own cc nL ret tb) {q : Nat} {nm : String} (hr : ret = some (.object nm)) (hk : k ≤ rm.cells) (hn : n ≤ rm.slots) (d : decode cc pc = .ok (.areturn, 1)) : JJ G p l e R s m args below meth c nL (mEnd G below args s rm (.inl (some (.ref q))) Z M) k n pc L [.ref q] Z M :=
  fun H locs ls hR hS hL => W.widen hk hn (vx_ret (W.aret C.1 C.2.1 (C.2.2.2.2.2.2.2.1.trans hr) (Or.inl ⟨_, rfl⟩) (Or.inr ⟨_, rfl⟩) (fun t ht hW => ⟨⟨some (.ref q), rfl, rfl⟩, by rw [ht]; exact hR, hS.F ht⟩) hS.2.2 d C.2.2.2.2.2.1))
theorem j_aretN (C : Cx G p l s m args meth c own cc nL ret tb) {nm : String} (hr : ret = some (.object nm)) (hk : k ≤ rm.cells) (hn : n ≤ rm.slots) (d : decode cc pc = .ok (.areturn, 1)) : JJ G p l e R s m args below meth c nL (mEnd G below args s rm (.inl (some .null)) Z M) k n pc L [.null] Z M :=
  fun H locs ls hR hS hL => W.widen hk hn (vx_ret (W.aret C.1 C.2.1 (C.2.2.2.2.2.2.2.1.trans hr) (Or.inl ⟨_, rfl⟩) (Or.inl rfl) (fun t ht hW => ⟨⟨some .null, rfl, rfl⟩, by rw [ht]; exact hR, hS.F ht⟩) hS.2.2 d C.2.2.2.2.2.1))
theorem j_throw (C : Cx G p l s m args meth c own cc nL ret []) {cls : String} {names : List String} {ik ic : Nat} (ok : okT own ik ic cls names = true) (hf : names.length + 3 < R.frames) (hlo : (st.map fun v => v.category).sum + (13 * (names.length + 1) + 42) ≤ R.locals) (hroom : k + 1 ≤ R.cells ∧ n + 6 ≤ R.slots) (hk : k + 1 ≤ rm.cells) (hn : n + 6 ≤ rm.slots)
    (d0 : decode cc pc = .ok (.new ik, 3)) (d3 : decode cc (pc + 3) = .ok (.dup, 1)) (d4 : decode cc (pc + 4) = .ok (.invokespecial ic, 3)) (d7 : decode cc (pc + 7) = .ok (.athrow, 1)) : JJ G p l e R s m args below meth c nL (mEnd G below args s rm (.inr cls) Z (sT M)) k n pc L st Z M := by
  intro H locs ls hR hS hL
  simp only [okT, Bool.and_eq_true, decide_eq_true_eq] at ok
  obtain ⟨⟨⟨⟨⟨ok1, ok2⟩, ok3⟩, ok4⟩, ok5⟩, ok6⟩ := ok
  have hE := C.2.2.2.2.2.2.1
  have hts := C.2.2.2.2.1
  refine vx_throw0 (A := gA G) C.1 C.2.1 C.2.2.2.2.2.2.2.2.1 C.2.2.2.1 ok1 (fun q hq => List.all_eq_true.mp ok2 q hq) (hts _ ok3) (hts _ ok4) (fun w hw => ?_) (fun w hw => List.all_eq_true.mp ok6 w hw) hE.2.2.2.1 hE.2.2.2.2.1 hS (hL.1.trans C.2.2.1.symm) d0 d3 d4 d7 (fun x hx => ?_) hf (by rw [cats_cv]; exact hlo) hroom.1 hroom.2 C.2.2.2.2.2.1 (fun t hal hz hq => ?_) hS.2.2 hk hn
  · have h1 := List.all_eq_true.mp ok5 w hw
    simp only [Bool.or_eq_true, decide_eq_true_eq] at h1
    rcases h1 with h1 | h1
    · exact hts _ h1
    · exact nw_use hE h1
  · rw [C.2.2.2.2.2.2.2.2.2] at hx
    cases hx
  · refine ⟨rfl, hR.thrown hE.ro hz hq, Nat.le_trans hS.1 hz, fun q h1 h2 => ?_⟩
    rw [hq q (Nat.lt_of_lt_of_le h1 hS.1)]
    exact hS.2.1 q h1 h2
theorem j_objInit (C : Cx G p l s m args meth c own cc nL ret tb) {idx b : Nat} (hw : Cond.methodLink own idx Lib.objectInit ∈ gw ∧ Cond.instanceMethod Lib.objectInit ∈ gw ∧ Cond.code Lib.objectInit ⟨#[0xb1]⟩ 1 none ∈ gw) (hf : 1 ≤ R.frames) (hlo : (st.map fun v => v.category).sum + 12 ≤ R.locals) (d : decode cc pc = .ok (.invokespecial idx, 3))
    (kk : JJ G p l e R s m args below meth c nL Q k n (pc + 3) L st Z M) : JJ G p l e R s m args below meth c nL Q k n pc L (.ref b :: st) Z M := by
  intro H locs ls hR hS hL
  have hts := C.2.2.2.2.1
  refine W.objInit C.1 C.2.1 C.2.2.2.1 (hts _ hw.1) (hts _ hw.2.1) (hts _ hw.2.2) rfl (hL.1.trans C.2.2.1.symm) rfl d hf ?_ (kk H locs ls hR hS hL)
  rw [cats_cv]
  show 2 * 0 + _ + 12 ≤ _
  omega
/-- what a run of a callee owes here, whatever the kind of the call -/
def CRun (G : mG) (p : Program) (l : Launch) (e : Env) (R : Room) (s : State) (m : MethodId) (args : Array Value) (below : List Frame) (meth : Method) (c : Code) (nL k n pc : Nat) (L : mL) (st rest : List Value) (Z : mZ) (M : mM) (rm : Room) (o : mO) (Z1 : mZ) (M1 : mM) : Prop :=
  ∀ (H : Heap) (locs : List Loc) (ls : Array Slot), Rep G Z M H → va_S (gA G) s.heap H locs → lv_has ls nL (m_cl2 G L) →
    ∃ a, vx_Run p l e R s m args below meth c H locs k n rm.cells rm.slots (F0 m pc ls (st.map (m_cv G))) (rest.map (m_cv G)) (mQc G o Z1 M1 a) (mXC G o Z1 M1) (gA G)
theorem j_run {v : Option Value} {rest : List Value} (h : CRun G p l e R s m args below meth c nL k n pc L st rest Z M rm (.inl v) Z1 M1)
    (kk : JJ G p l e R s m args below meth c nL Q (k + rm.cells) (n + rm.slots) (pc + 3) L (v.toList ++ rest) Z1 M1) : JJ G p l e R s m args below meth c nL Q k n pc L st Z M := by
  intro H locs ls hR hS hL
  obtain ⟨a, hrun⟩ := h H locs ls hR hS hL
  intro T hT X
  rcases hrun T hT X with ⟨v', st₀, t, T', Lc, h0, X', hLb, e1, e2, ⟨⟨v2, hv2, hoc⟩, hR1, hF⟩, hgo⟩ | ⟨q, st₀, t, T', Lc, E, ce, h0, X', hLb, e1, e2, ⟨hx, -⟩, -⟩
  · cases hv2
    cases hoc
    obtain ⟨-, -, k3⟩ := vx_keep h0 e1 hS (fun _ _ h => h) (fun _ h => h) hLb hF
    obtain ⟨t2, a1, b1⟩ := kk T'.heap (locs ++ Lc) ls (by rw [e1]; exact hR1) k3 hL T' rfl X'
    refine ⟨t2, hgo t2 ?_, b1⟩
    rw [List.map_append] at a1
    cases v <;> exact a1
  · cases hx
/-- thrown by the callee, caught here by the row x, kept in a local that nobody reads -/
theorem j_caught (C : Cx G p l s m args meth c own cc nL ret tb) {E : String} {rest : List Value} (h : CRun G p l e R s m args below meth c nL k n pc L st rest Z M rm (.inr E) Z1 M1)
    (pre : List ExceptionTableEntry) (x : ExceptionTableEntry) (suf : List ExceptionTableEntry) (nms : List String) (hsplit : tb = pre ++ x :: suf) (hpass : pre.length = nms.length ∧ (pre.zip nms).all (fun q => covers q.1 pc = false || (decide (q.1.catchType ≠ 0) && decide (Cond.classLink own q.1.catchType q.2 ∈ gw) && decide ((E, q.2) ∈ ncs))) = true)
    (hx : covers x pc = true) (h0 : x.catchType ≠ 0) (hlink : Cond.classLink own x.catchType E ∈ gw) (hcast : Cond.castable E E ∈ nw) {i1 ln : Nat} (hi : i1 < nL) (dh : (∃ k1 : Fin 4, (k1 : Nat) = i1 ∧ ln = 1 ∧ decode cc x.handlerPc = .ok (.astore_n k1, 1)) ∨ (ln = 2 ∧ decode cc x.handlerPc = .ok (.astore i1, 2)))
    (kk : JJ G p l e R s m args below meth c nL Q (k + rm.cells) (n + rm.slots) (x.handlerPc + ln) (L.filter (m_f1 i1)) [] Z1 M1) : JJ G p l e R s m args below meth c nL Q k n pc L st Z M := by
  intro H locs ls hR hS hL
  obtain ⟨a, hrun⟩ := h H locs ls hR hS hL
  intro T hT X
  have hE := C.2.2.2.2.2.2.1
  have hts := C.2.2.2.2.1
  rcases hrun T hT X with ⟨v', st₀, t, T', Lc, h0', X', hLb, e1, e2, ⟨⟨v2, hv2, hoc⟩, hR1, hF⟩, hgo⟩ | ⟨q, st₀, t, T', Lc, E', ce, h0', X', hLb, e1, e2, ⟨hxo, hR1, hF⟩, hce, hcv, hcl, hst⟩
  · cases hv2
  · cases hxo
    obtain ⟨-, -, k3⟩ := vx_keep h0' e1 hS (fun _ _ h => h) (fun _ h => h) hLb hF
    have hfin : ∀ ls', lv_has ls' nL ((i1, Value.ref q) :: (m_cl2 G L).filter (fun q => !(q.1 == i1) && !(q.1 + 1 == i1 && q.2.category == 2))) → W p l e R s m args below meth c T'.heap (locs ++ Lc) (k + rm.cells) (n + rm.slots) Q (F0 m (x.handlerPc + ln) ls' []) := by
      intro ls' h'
      have hl2 : lv_has ls' nL (m_cl2 G (L.filter (m_f1 i1))) := by
        rw [← m_cl2_f1]
        exact ⟨h'.1, h'.2.1, fun q hq => h'.2.2 q (List.mem_cons_of_mem _ hq)⟩
      exact kk T'.heap (locs ++ Lc) ls' (by rw [e1]; exact hR1) k3 hl2
    have hW : W p l e R s m args below meth c T'.heap (locs ++ Lc) (k + rm.cells) (n + rm.slots) Q (F0 m x.handlerPc ls [.ref q]) := by
      rcases dh with ⟨k1, hk1, rfl, dh⟩ | ⟨rfl, dh⟩
      · exact lv_astore_n C.1 C.2.1 dh hk1 hL hi rfl (fun ls' h' => hfin ls' h')
      · exact lv_astore C.1 C.2.1 dh hL hi rfl (fun ls' h' => hfin ls' h')
    have hcx : vx_W p l e R s m args below meth c T'.heap (locs ++ Lc) (k + rm.cells) (n + rm.slots) Q (F0 m pc ls (rest.map (m_cv G))) q := by
      refine vx_catch (name := E) C.2.2.2.1 pre x suf (C.2.2.2.2.2.2.2.2.2.trans hsplit) (fun z hz => ?_) hx h0 (hts _ hlink) (nw_use hE hcast) (by rw [e1]; exact hce) hcv hcl hW
      obtain ⟨i, hi1⟩ := List.getElem?_of_mem hz
      have hil := (List.getElem?_eq_some_iff.mp hi1).1
      have hz2 : (z, nms[i]'(by rw [← hpass.1]; exact hil)) ∈ pre.zip nms := by
        refine List.mem_of_getElem? (i := i) ?_
        rw [List.getElem?_zip_eq_some]
        exact ⟨hi1, List.getElem?_eq_getElem _⟩
      have h9 := List.all_eq_true.mp hpass.2 _ hz2
      simp only [Bool.or_eq_true, Bool.and_eq_true, decide_eq_true_eq] at h9
      rcases h9 with h9 | ⟨⟨h9, h8⟩, h7⟩
      · exact Or.inl h9
      · exact Or.inr ⟨h9, _, hts _ h8, hE.2.2.2.2.2.2.2.1 _ h7⟩
    obtain ⟨t2, a1, b1⟩ := hcx T' rfl X'
    exact ⟨t2, hst.trans a1, b1⟩
theorem mPc_at (C : Cx G p l s m args meth c own cc nL ret tb) {a : List Value} {H : Heap} {locs : List Loc} (hR : Rep G Z M H) (hS : va_S (gA G) s.heap H locs) : ∀ U : State, U.heap = H → s.WarmedH U.vm → mPc G a Z M (a.map (m_cv G)).toArray U :=
  fun U hU hW => ⟨rfl, C.2.2.2.2.2.2.1.trans hW (by rw [hU]; exact hS.1) (fun q h1 h2 => by rw [hU]; exact hS.2.1 q h1 h2), by rw [hU]; exact hR⟩
variable {y : MethodName} {bytes : ByteArray} {maxL idx b ci : Nat} {ret1 : Option FieldType} {As rest : List Value} {o : mO}
theorem c_V (C : Cx G p l s m args meth c own cc nL ret tb) (hct : CT G l y (.code y bytes maxL ret1) rm (.ref b :: As) Z M o Z1 M1) (ok : okV own idx y (.code y bytes maxL ret1) = true) (hy : okY y As.length) {T : u_T} {N : Nat} (hc : m_cl[ci]? = some (y.cls, T, N)) (hci : ci < 20) (hb : okO Z b ci = true)
    (hR : rm.frames + 1 ≤ R.frames ∧ 8 + (maxL + 11) + rm.locals ≤ R.locals) (hroom : k + rm.cells ≤ R.cells ∧ n + rm.slots ≤ R.slots) (hrest : (rest.map fun v => v.category).sum ≤ 8) (hst : st = As.reverse ++ .ref b :: rest) (d : decode cc pc = .ok (.invokevirtual idx, 3)) : CRun G p l e R s m args below meth c nL k n pc L st rest Z M rm o Z1 M1 := by
  intro H locs ls hRp hS hL
  simp only [okV, Bool.and_eq_true, decide_eq_true_eq] at ok
  obtain ⟨⟨⟨⟨ok1, ok2⟩, ok3⟩, ok4⟩, ok5⟩ := ok
  have hE := C.2.2.2.2.2.2.1
  obtain ⟨cell, q1, q2, q3, -⟩ := hRp.obj hb hci
  refine ⟨_, vx_runV (C := y.cls) (b := m_ad G b) (As := As.map (m_cv G)) (n := As.length) ⟨C.1, C.2.1, C.2.2.1, C.2.2.2.1, C.2.2.2.2.1⟩ hct (cwV (ws' := gw) As.length C.2.2.2.2.1 (fun w hw => ?_) rfl rfl rfl ⟨rfl, hy⟩ hR) ⟨mPc_blind, ⟨cell, q1, by rw [q3]; rfl, by rw [q2]; exact (hE.1.1 ci _ hc).2.1⟩, mPc_at C (a := .ref b :: As) hRp hS⟩ rfl (List.length_map _) hL.1 ?_ (lv_room (by rw [cats_cv]; exact hrest)) d hroom⟩
  · simp only [wsV, List.mem_append, List.mem_cons, List.not_mem_nil, or_false] at hw
    rcases hw with (rfl | rfl | rfl | rfl) | rfl | hw
    · exact gw_good _ ok1
    · exact gw_good _ ok2
    · exact gw_good _ ok3
    · exact gw_good _ ok4
    · exact gw_good _ ok5
    · exact gw_good _ hw
  · show st.map (m_cv G) = _
    rw [hst, List.map_append, List.map_reverse]; rfl
theorem c_S (C : Cx G p l s m args meth c own cc nL ret tb) (hct : CT G l y (.code y bytes maxL ret1) rm As Z M o Z1 M1) (ok : okS own idx y (.code y bytes maxL ret1) = true) (hy : okY y As.length)
    (hR : rm.frames + 1 ≤ R.frames ∧ 8 + (maxL + 11) + rm.locals ≤ R.locals) (hroom : k + rm.cells ≤ R.cells ∧ n + rm.slots ≤ R.slots) (hrest : (rest.map fun v => v.category).sum ≤ 8) (hst : st = As.reverse ++ rest) (d : decode cc pc = .ok (.invokestatic idx, 3)) : CRun G p l e R s m args below meth c nL k n pc L st rest Z M rm o Z1 M1 := by
  intro H locs ls hRp hS hL
  simp only [okS, Bool.and_eq_true, decide_eq_true_eq] at ok
  obtain ⟨⟨⟨ok1, ok2⟩, ok3⟩, ok4⟩ := ok
  refine ⟨_, vx_runS (As := As.map (m_cv G)) (n := As.length) ⟨C.1, C.2.1, C.2.2.1, C.2.2.2.1, C.2.2.2.2.1⟩ hct (va_cwS (ws' := gw) As.length C.2.2.2.2.1 (fun w hw => ?_) rfl rfl rfl hy hR) ⟨mPc_blind, mPc_at C (a := As) hRp hS⟩ rfl (List.length_map _) hL.1 ?_ (lv_room (by rw [cats_cv]; exact hrest)) d hroom⟩
  · simp only [va_wsS, List.mem_append, List.mem_cons, List.not_mem_nil, or_false] at hw
    rcases hw with (rfl | rfl | rfl) | rfl | hw
    · exact gw_good _ ok1
    · exact gw_good _ ok2
    · exact gw_good _ ok3
    · exact gw_good _ ok4
    · exact gw_good _ hw
  · show st.map (m_cv G) = _
    rw [hst, List.map_append, List.map_reverse]
theorem c_SN (C : Cx G p l s m args meth c own cc nL ret tb) (hct : CT G l y (.code y bytes maxL ret1) rm As Z M o Z1 M1) {host : String} (ok : okSN own idx y host (.code y bytes maxL ret1) = true) (hy : okY y As.length)
    (hR : rm.frames + 1 ≤ R.frames ∧ 8 + (maxL + 11) + rm.locals ≤ R.locals) (hroom : k + rm.cells ≤ R.cells ∧ n + rm.slots ≤ R.slots) (hrest : (rest.map fun v => v.category).sum ≤ 8) (hst : st = As.reverse ++ rest) (d : decode cc pc = .ok (.invokestatic idx, 3)) : CRun G p l e R s m args below meth c nL k n pc L st rest Z M rm o Z1 M1 := by
  intro H locs ls hRp hS hL
  simp only [okSN, Bool.and_eq_true, decide_eq_true_eq] at ok
  obtain ⟨⟨⟨ok1, ok2⟩, ok3⟩, ok4⟩ := ok
  have hts := C.2.2.2.2.1
  refine ⟨_, vx_runSN (As := As.map (m_cv G)) (n := As.length) ⟨C.1, C.2.1, C.2.2.1, C.2.2.2.1, hts⟩ hct ⟨va_cnB (ws' := gw) As.length hts (gw_cons ok4) rfl rfl rfl (nw_at C.2.2.2.2.2.2.1 ok1) (hts _ ok3) hy hR, hts _ ok2, trivial⟩ ⟨mPc_blind, mPc_at C (a := As) hRp hS⟩ rfl (List.length_map _) hL.1 ?_ (lv_room (by rw [cats_cv]; exact hrest)) d hroom⟩
  show st.map (m_cv G) = _
  rw [hst, List.map_append, List.map_reverse]
theorem c_I (C : Cx G p l s m args meth c own cc nL ret tb) (hct : CT G l y (.code y bytes maxL none) rm (.ref b :: As) Z M o Z1 M1) (ok : okN own idx y (.code y bytes maxL none) = true) (hy : okY y As.length)
    (hR : rm.frames + 1 ≤ R.frames ∧ 8 + (maxL + 11) + rm.locals ≤ R.locals) (hroom : k + rm.cells ≤ R.cells ∧ n + rm.slots ≤ R.slots) (hrest : (rest.map fun v => v.category).sum ≤ 8) (hst : st = As.reverse ++ .ref b :: rest) (d : decode cc pc = .ok (.invokespecial idx, 3)) : CRun G p l e R s m args below meth c nL k n pc L st rest Z M rm o Z1 M1 := by
  intro H locs ls hRp hS hL
  simp only [okN, Bool.and_eq_true, decide_eq_true_eq] at ok
  obtain ⟨⟨⟨⟨ok1, ok2⟩, ok3⟩, ok4⟩, ok5⟩ := ok
  have hts := C.2.2.2.2.1
  refine ⟨_, vx_runI (b := m_ad G b) (As := As.map (m_cv G)) (n := As.length) ⟨C.1, C.2.1, C.2.2.1, C.2.2.2.1, hts⟩ hct (cwI (ws' := gw) As.length hts (gw_cons ok4) rfl rfl rfl (hts _ ok3) (hts _ ok1) (hts _ ok2) ok5 hy hR) ⟨mPc_blind, mPc_at C (a := .ref b :: As) hRp hS⟩ rfl (List.length_map _) hL.1 ?_ (lv_room (by rw [cats_cv]; exact hrest)) d hroom⟩
  show st.map (m_cv G) = _
  rw [hst, List.map_append, List.map_reverse]; rfl
theorem c_IN (C : Cx G p l s m args meth c own cc nL ret tb) (hct : CT G l y (.code y bytes maxL none) rm (.ref b :: As) Z M o Z1 M1) {host : String} (ok : okNN own idx y host (.code y bytes maxL none) = true) (hy : okY y As.length)
    (hR : rm.frames + 1 ≤ R.frames ∧ 8 + (maxL + 11) + rm.locals ≤ R.locals) (hroom : k + rm.cells ≤ R.cells ∧ n + rm.slots ≤ R.slots) (hrest : (rest.map fun v => v.category).sum ≤ 8) (hst : st = As.reverse ++ .ref b :: rest) (d : decode cc pc = .ok (.invokespecial idx, 3)) : CRun G p l e R s m args below meth c nL k n pc L st rest Z M rm o Z1 M1 := by
  intro H locs ls hRp hS hL
  simp only [okNN, Bool.and_eq_true, decide_eq_true_eq] at ok
  obtain ⟨⟨⟨⟨ok1, ok2⟩, ok3⟩, ok4⟩, ok5⟩ := ok
  have hts := C.2.2.2.2.1
  refine ⟨_, vx_runIN (b := m_ad G b) (As := As.map (m_cv G)) (n := As.length) ⟨C.1, C.2.1, C.2.2.1, C.2.2.2.1, hts⟩ hct ⟨va_cnB (ws' := gw) As.length hts (gw_cons ok4) rfl rfl rfl (nw_at C.2.2.2.2.2.2.1 ok1) (hts _ ok3) hy hR, ok5, hts _ ok2⟩ ⟨mPc_blind, mPc_at C (a := .ref b :: As) hRp hS⟩ rfl (List.length_map _) hL.1 ?_ (lv_room (by rw [cats_cv]; exact hrest)) d hroom⟩
  show st.map (m_cv G) = _
  rw [hst, List.map_append, List.map_reverse]; rfl
theorem c_SX (C : Cx G p l s m args meth c own cc nL ret tb) {hh : List (Nat × Nat × Nat × Nat)} (hct : CT G l y (.codeWith y bytes maxL ret1 hh) rm As Z M o Z1 M1) (ok : okS own idx y (.codeWith y bytes maxL ret1 hh) = true) (hy : okY y As.length)
    (hR : rm.frames + 1 ≤ R.frames ∧ 8 + (maxL + 11) + rm.locals ≤ R.locals) (hroom : k + rm.cells ≤ R.cells ∧ n + rm.slots ≤ R.slots) (hrest : (rest.map fun v => v.category).sum ≤ 8) (hst : st = As.reverse ++ rest) (d : decode cc pc = .ok (.invokestatic idx, 3)) : CRun G p l e R s m args below meth c nL k n pc L st rest Z M rm o Z1 M1 := by
  intro H locs ls hRp hS hL
  simp only [okS, Bool.and_eq_true, decide_eq_true_eq] at ok
  obtain ⟨⟨⟨ok1, ok2⟩, ok3⟩, ok4⟩ := ok
  refine ⟨_, vx_runSX (As := As.map (m_cv G)) (n := As.length) ⟨C.1, C.2.1, C.2.2.1, C.2.2.2.1, C.2.2.2.2.1⟩ hct (vx_cwSW (ws' := gw) As.length C.2.2.2.2.1 (fun w hw => ?_) rfl rfl rfl hy hR) ⟨mPc_blind, mPc_at C (a := As) hRp hS⟩ rfl (List.length_map _) hL.1 ?_ (lv_room (by rw [cats_cv]; exact hrest)) d hroom⟩
  · simp only [va_wsS, List.mem_append, List.mem_cons, List.not_mem_nil, or_false] at hw
    rcases hw with (rfl | rfl | rfl) | rfl | hw
    · exact gw_good _ ok1
    · exact gw_good _ ok2
    · exact gw_good _ ok3
    · exact gw_good _ ok4
    · exact gw_good _ hw
  · show st.map (m_cv G) = _
    rw [hst, List.map_append, List.map_reverse]
end JR4
/-- A CONTRACT out of a walk of the body -/
theorem CT.of {G : mG} {l : Launch} (hl : l.stackTraces = false) {y : MethodName} {cc : ByteArray} {maxL : Nat} {ret : Option FieldType} {rm : Room} {a : List Value} {Z : mZ} {M : mM} {o : mO} {Z' : mZ} {M' : mM} (hy : plainName y.cls = true) (ha : (a.map fun v => v.category).sum ≤ maxL)
    (body : ∀ (p : Program) (e : Env) (s : State) (m : MethodId) (args : Array Value) (below : List Frame) (meth : Method) (c : Code), Cx G p l s m args meth c y.cls cc maxL ret [] → meth.name = y.name → JJ G p l e rm s m args below meth c maxL (mEnd G below args s rm o Z' M') 0 0 0 (lv_args 0 a) [] Z M) :
    CT G l y (.code y cc maxL ret) rm a Z M o Z' M' := by
  refine vx_ofW (cc := cc) (maxL := maxL) (ret := ret) (ws' := gw) hy rfl ?_
  intro p e s m args below meth c s₁ B hml htb hv
  obtain ⟨rfl, hE, hR⟩ := hv
  have hts : ∀ w ∈ gw, w.before (a.map (m_cv G)).toArray s = true := fun w hw => atoms_spec (ws := Cond.code y cc maxL ret :: gw) B.pre w (List.mem_cons_of_mem _ hw)
  have ht : c.exceptionTable.toList = [] := List.eq_nil_iff_forall_not_mem.mpr htb
  have hb := body p e s m (a.map (m_cv G)).toArray below meth c ⟨B.exec, B.bytes, hml, findClass_of_methodNamed B.named, hts, B.notSynchronized, hE, B.returns, hl, ht⟩ (name_of_methodNamed B.named B.method).1
  have hl0 := lv_entry (a.map (m_cv G)) (n := maxL) (by rw [sl_cv]; exact ha)
  rw [lv_args_cv] at hl0
  rw [lg_entry_eq]
  exact hb s.heap [] _ hR va_S.rf hl0
theorem CT.ofH {G : mG} {l : Launch} (hl : l.stackTraces = false) {y : MethodName} {cc : ByteArray} {maxL : Nat} {ret : Option FieldType} {hh : List (Nat × Nat × Nat × Nat)} {tb : List ExceptionTableEntry} {rm : Room} {a : List Value} {Z : mZ} {M : mM} {o : mO} {Z' : mZ} {M' : mM} (hy : plainName y.cls = true) (ha : (a.map fun v => v.category).sum ≤ maxL) (htb : tableOf hh = tb)
    (body : ∀ (p : Program) (e : Env) (s : State) (m : MethodId) (args : Array Value) (below : List Frame) (meth : Method) (c : Code), Cx G p l s m args meth c y.cls cc maxL ret tb → meth.name = y.name → JJ G p l e rm s m args below meth c maxL (mEnd G below args s rm o Z' M') 0 0 0 (lv_args 0 a) [] Z M) :
    CT G l y (.codeWith y cc maxL ret hh) rm a Z M o Z' M' := by
  refine vx_ofWH (cc := cc) (maxL := maxL) (ret := ret) (hh := hh) (ws' := gw) hy rfl ?_
  intro p e s m args below meth c s₁ B hml hv
  obtain ⟨rfl, hE, hR⟩ := hv
  have hts0 := atoms_spec (ws := Cond.codeWith y cc maxL ret hh :: gw) B.pre
  have hts : ∀ w ∈ gw, w.before (a.map (m_cv G)).toArray s = true := fun w hw => hts0 w (List.mem_cons_of_mem _ hw)
  have ht : c.exceptionTable.toList = tb := (vx_table (x := y) B (hts0 _ List.mem_cons_self)).trans htb
  have hb := body p e s m (a.map (m_cv G)).toArray below meth c ⟨B.exec, B.bytes, hml, findClass_of_methodNamed B.named, hts, B.notSynchronized, hE, B.returns, hl, ht⟩ (name_of_methodNamed B.named B.method).1
  have hl0 := lv_entry (a.map (m_cv G)) (n := maxL) (by rw [sl_cv]; exact ha)
  rw [lv_args_cv] at hl0
  rw [lg_entry_eq]
  exact hb s.heap [] _ hR va_S.rf hl0
/-- the tests of a functional body: what a rest that is done tells -/
theorem ob2 {α β γ : Type} {x : Option (α × β)} {f : α → β → Option γ} {r : γ} (h : (x.bind fun q => f q.1 q.2) = some r) : ∃ a b, x = some (a, b) ∧ f a b = some r := by
  cases x with
  | none => cases h
  | some q => exact ⟨q.1, q.2, rfl, h⟩
theorem ob1 {α γ : Type} {x : Option α} {f : α → Option γ} {r : γ} (h : x.bind f = some r) : ∃ a, x = some a ∧ f a = some r := by
  cases x with
  | none => cases h
  | some q => exact ⟨q, rfl, h⟩
/-- go on only where it holds -/
def ck {γ : Type} (b : Bool) (k : Option γ) : Option γ := if b = true then k else none
theorem ck_spec {γ : Type} {b : Bool} {k : Option γ} {r : γ} (h : ck b k = some r) : b = true ∧ k = some r := by
  unfold ck at h
  split at h
  · next hb => exact ⟨hb, h⟩
  · cases h
theorem ck_t {γ : Type} {b : Bool} {k : Option γ} (h : b = true) : ck b k = k := by unfold ck; rw [if_pos h]
end
section
/-! ===== LAYER 1: what the printed walks use ===== -/
def bnd1 {α γ : Type} (x : Option α) (f : α → Option γ) : Option γ := match x with
  | none => none
  | some a => f a
def bnd2 {α β γ : Type} (x : Option (α × β)) (f : α → β → Option γ) : Option γ := match x with
  | none => none
  | some (a, b) => f a b
def bndR {β γ : Type} (x : Option (Option Nat × β)) (f : β → Option γ) (g : Nat → β → Option γ) : Option γ := match x with
  | none => none
  | some (none, b) => f b
  | some (some a, b) => g a b
def bndT {α β γ : Type} (x : Option ((α ⊕ String) × β)) (f : α → β → Option γ) (g : String → β → Option γ) : Option γ := match x with
  | none => none
  | some (.inl a, b) => f a b
  | some (.inr a, b) => g a b
theorem bnd1_spec {α γ : Type} {x : Option α} {f : α → Option γ} {r : γ} (h : bnd1 x f = some r) : ∃ a, x = some a ∧ f a = some r := by
  cases x with
  | none => cases h
  | some a => exact ⟨a, rfl, h⟩
theorem bnd2_spec {α β γ : Type} {x : Option (α × β)} {f : α → β → Option γ} {r : γ} (h : bnd2 x f = some r) : ∃ a b, x = some (a, b) ∧ f a b = some r := by
  cases x with
  | none => cases h
  | some q => exact ⟨q.1, q.2, rfl, h⟩
theorem bndR_spec {β γ : Type} {x : Option (Option Nat × β)} {f : β → Option γ} {g : Nat → β → Option γ} {r : γ} (h : bndR x f g = some r) : (∃ b, x = some (none, b) ∧ f b = some r) ∨ ∃ a b, x = some (some a, b) ∧ g a b = some r := by
  match x, h with
  | none, h => cases h
  | some (none, b), h => exact Or.inl ⟨b, rfl, h⟩
  | some (some a, b), h => exact Or.inr ⟨a, b, rfl, h⟩
theorem bndT_spec {α β γ : Type} {x : Option ((α ⊕ String) × β)} {f : α → β → Option γ} {g : String → β → Option γ} {r : γ} (h : bndT x f g = some r) : (∃ a b, x = some (.inl a, b) ∧ f a b = some r) ∨ ∃ a b, x = some (.inr a, b) ∧ g a b = some r := by
  match x, h with
  | none, h => cases h
  | some (.inl a, b), h => exact Or.inl ⟨a, b, rfl, h⟩
  | some (.inr a, b), h => exact Or.inr ⟨a, b, rfl, h⟩
theorem bnd1_some {α γ : Type} {a : α} {f : α → Option γ} : bnd1 (some a) f = f a := rfl
theorem bnd2_some {α β γ : Type} {a : α} {b : β} {f : α → β → Option γ} : bnd2 (some (a, b)) f = f a b := rfl
theorem bndR_none {β γ : Type} {b : β} {f : β → Option γ} {g : Nat → β → Option γ} : bndR (some (none, b)) f g = f b := rfl
theorem bndR_some {β γ : Type} {a : Nat} {b : β} {f : β → Option γ} {g : Nat → β → Option γ} : bndR (some (some a, b)) f g = g a b := rfl
theorem bndT_inl {α β γ : Type} {a : α} {b : β} {f : α → β → Option γ} {g : String → β → Option γ} : bndT (some (.inl a, b)) f g = f a b := rfl
theorem bndT_inr {α β γ : Type} {a : String} {b : β} {f : α → β → Option γ} {g : String → β → Option γ} : bndT (some (.inr a, b)) f g = g a b := rfl
def isB (v : Int32) : Bool := decide (v = 0) || decide (v = 1)
theorem isB_spec {v : Int32} (h : isB v = true) : v = 0 ∨ v = 1 := by simpa [isB] using h
theorem isB_put {v : Int32} (h : isB v = true) : narrow .boolean (.int v) = .int v ∧ fits .boolean (.int v) = true := by
  rcases isB_spec h with rfl | rfl <;> exact ⟨rfl, rfl⟩
def nn32 (r : UInt32) : Bool := decide (r &&& 0x7fffffff ≤ 0x7f800000)
def nn64 (r : UInt64) : Bool := decide (r &&& 0x7fffffffffffffff ≤ 0x7ff0000000000000)
theorem nn32_spec {r : UInt32} (h : nn32 r = true) : vf_n32 r := of_decide_eq_true (p := r &&& 0x7fffffff ≤ 0x7f800000) h
theorem nn64_spec {r : UInt64} (h : nn64 r = true) : vf_n64 r := of_decide_eq_true (p := r &&& 0x7fffffffffffffff ≤ 0x7ff0000000000000) h
theorem nI_netoInt {x : Int32} {n : Nat} (hn : n < 2 ^ 31) (h : ¬ x = nI n) : ¬ (n : Int) = x.toInt := fun e => h (Int32.toInt_inj.mp (by rw [nI_toInt hn]; exact e.symm))
theorem sw_out {x : Int32} {n : Nat} (hn : n < 2 ^ 31) (h : ∀ j, j ≤ n → ¬ x = nI j) : x.toInt < 0 ∨ (n : Int) < x.toInt := by
  rcases (show x.toInt < 0 ∨ 0 ≤ x.toInt by omega) with h0 | h0
  · exact Or.inl h0
  rcases (show (n : Int) < x.toInt ∨ x.toInt ≤ (n : Int) by omega) with h1 | h1
  · exact Or.inr h1
  · refine absurd ?_ (h x.toInt.toNat (by omega))
    exact Int32.toInt_inj.mp (by rw [nI_toInt (by omega)]; omega)
theorem lk_out : ∀ (l : List (Int × Int)) (d k : Int), (∀ q ∈ l, ¬ q.1 = k) → Op.lookupswitch.offset l d k = d
  | [], _, _, _ => rfl
  | q :: l, d, k, h => by
    rw [show Op.lookupswitch.offset (q :: l) d k = if q.1 = k then q.2 else Op.lookupswitch.offset l d k from rfl, if_neg (h q List.mem_cons_self)]
    exact lk_out l d k (fun q hq => h q (List.mem_cons_of_mem _ hq))
def oI : Int32 ⊕ String → mO
  | .inl v => .inl (some (.int v))
  | .inr E => .inr E
def oF : UInt32 ⊕ String → mO
  | .inl v => .inl (some (.float v))
  | .inr E => .inr E
def oD : UInt64 ⊕ String → mO
  | .inl v => .inl (some (.double v))
  | .inr E => .inr E
abbrev KM : Nat := 603072
abbrev NMX : Nat := 7178346
theorem aw_20 : Cond.arrayClass (newarray.typeOf .int) ∈ gw := by decide +kernel
theorem aw_21 : Cond.arrayClass (newarray.typeOf .char) ∈ gw := by decide +kernel
theorem aw_22 : Cond.arrayClass (newarray.typeOf .long) ∈ gw := by decide +kernel
theorem aw_23 : Cond.arrayClass (newarray.typeOf .double) ∈ gw := by decide +kernel
theorem nw_ao {G : mG} {p : Program} {l : Launch} {s : State} {m : MethodId} {args : Array Value} {meth : Method} {c : Code} {own : String} {cc : ByteArray} {nL : Nat} {ret : Option FieldType} {tb : List ExceptionTableEntry} (C : Cx G p l s m args meth c own cc nL ret tb) : va_AO RX4 s := C.2.2.2.2.2.2.1.2.2.2.2.2.2.2.2
section JR5
variable {G : mG} {p : Program} {l : Launch} {e : Env} {R : Room} {s : State} {m : MethodId} {args : Array Value} {below : List Frame} {meth : Method} {c : Code} {nL k n : Nat} {Q : State → Prop}
variable {pc : Nat} {L : mL} {st : List Value} {Z Z1 : mZ} {M M1 : mM} {rm : Room}
theorem j_run1 {v : Value} {rest : List Value} (h : CRun G p l e R s m args below meth c nL k n pc L st rest Z M rm (.inl (some v)) Z1 M1)
    (kk : JJ G p l e R s m args below meth c nL Q (k + rm.cells) (n + rm.slots) (pc + 3) L (v :: rest) Z1 M1) : JJ G p l e R s m args below meth c nL Q k n pc L st Z M := j_run h kk
theorem j_run0 {rest : List Value} (h : CRun G p l e R s m args below meth c nL k n pc L st rest Z M rm (.inl none) Z1 M1)
    (kk : JJ G p l e R s m args below meth c nL Q (k + rm.cells) (n + rm.slots) (pc + 3) L rest Z1 M1) : JJ G p l e R s m args below meth c nL Q k n pc L st Z M := j_run h kk
end JR5
end
section
-- ScaffoldPlanner$CommandText <init>
theorem ojRX0_3 : Cond.methodLink RX0 3 Lib.objectInit ∈ gw ∧ Cond.instanceMethod Lib.objectInit ∈ gw ∧ Cond.code Lib.objectInit ⟨#[0xb1]⟩ 1 none ∈ gw := ⟨by decide +kernel, by decide +kernel, by decide +kernel⟩
theorem fwRX0_9 : Cond.fieldLink RX0 9 RX0 (TX0 0).2.1 (TX0 0).2.2.1 ∈ gw := by decide +kernel
theorem fwRX0_15 : Cond.fieldLink RX0 15 RX0 (TX0 1).2.1 (TX0 1).2.2.1 ∈ gw := by decide +kernel
theorem fwRX0_18 : Cond.fieldLink RX0 18 RX0 (TX0 2).2.1 (TX0 2).2.2.1 ∈ gw := by decide +kernel
abbrev rmX0_init : Room := { frames := 1, cells := 1, slots := 80, locals := 20 }
theorem dX0_init_0 : decode cX0_init 0 = .ok (.aload_n 0, 1) := by decide +kernel
theorem dX0_init_1 : decode cX0_init 1 = .ok (.invokespecial 3, 3) := by decide +kernel
theorem dX0_init_4 : decode cX0_init 4 = .ok (.aload_n 0, 1) := by decide +kernel
theorem dX0_init_5 : decode cX0_init 5 = .ok (.iconst 0, 1) := by decide +kernel
theorem dX0_init_6 : decode cX0_init 6 = .ok (.putfield 9, 3) := by decide +kernel
theorem dX0_init_9 : decode cX0_init 9 = .ok (.aload_n 0, 1) := by decide +kernel
theorem dX0_init_10 : decode cX0_init 10 = .ok (.iconst 0, 1) := by decide +kernel
theorem dX0_init_11 : decode cX0_init 11 = .ok (.putfield 15, 3) := by decide +kernel
theorem dX0_init_14 : decode cX0_init 14 = .ok (.aload_n 0, 1) := by decide +kernel
theorem dX0_init_15 : decode cX0_init 15 = .ok (.bipush 80, 2) := by decide +kernel
theorem dX0_init_17 : decode cX0_init 17 = .ok (.newarray .char, 2) := by decide +kernel
theorem dX0_init_19 : decode cX0_init 19 = .ok (.putfield 18, 3) := by decide +kernel
theorem dX0_init_22 : decode cX0_init 22 = .ok (.return_, 1) := by decide +kernel
def fX0_init (N : Nat) (Z : mZ) (a0 : Nat) (M : mM) : Option (Unit × (mZ × mM)) := ck (okO Z a0 0) (ck (decide ((sI (sI M a0 0 (0 : Int32)) a0 1 (0 : Int32)).2.2.2 = 0)) (ck (okO (zNew Z 21 80) a0 0) (some ((), ((sR (zNew Z 21 80) a0 2 (Z.1)), (mNew (sI (sI M a0 0 (0 : Int32)) a0 1 (0 : Int32)) (Z.1)))))))
set_option maxHeartbeats 4000000 in
set_option maxRecDepth 100000 in
theorem ctX0_init {G : mG} {l : Launch} (hl : l.stackTraces = false) (N : Nat) (Z : mZ) {a0 : Nat} {M : mM} {r : Unit} {ZM' : (mZ × mM)} (h : fX0_init N Z a0 M = some (r, ZM')) : CT G l yX0_init (.code yX0_init cX0_init 1 none) rmX0_init [.ref a0] Z M (.inl none) ZM'.1 ZM'.2 := by
  unfold fX0_init at h
  refine CT.of hl (by decide) (Nat.le_of_ble_eq_true rfl) ?_
  intro p e s m args below meth c C hnm
  refine j_sub (L' := [(0, .ref a0)]) [0] rfl ?_
  refine j_aload_n C dX0_init_0 rfl 0 rfl ?_
  refine j_objInit C ojRX0_3 (by decide) (Nat.le_of_ble_eq_true rfl) dX0_init_1 ?_
  refine j_aload_n C dX0_init_4 rfl 0 rfl ?_
  refine j_iconst C dX0_init_5 (v := (0 : Int32)) (by decide) ?_
  obtain ⟨ho1, h⟩ := ck_spec h
  refine j_putI C tyX0 tyX0_ok nmX0 (cn := RX0) (T := TX0) (N := 3) (ci := 0) rfl iX0 ho1 0 (by decide) rfl fwRX0_9 ⟨rfl, rfl⟩ dX0_init_6 ?_
  refine j_aload_n C dX0_init_9 rfl 0 rfl ?_
  refine j_iconst C dX0_init_10 (v := (0 : Int32)) (by decide) ?_
  refine j_putI C tyX0 tyX0_ok nmX0 (cn := RX0) (T := TX0) (N := 3) (ci := 0) rfl iX0 ho1 1 (by decide) rfl fwRX0_15 ⟨rfl, rfl⟩ dX0_init_11 ?_
  refine j_aload_n C dX0_init_14 rfl 0 rfl ?_
  refine j_bipush C dX0_init_15 (v := (80 : Int32)) (by decide) ?_
  obtain ⟨ho2, h⟩ := ck_spec h
  refine j_newa C (ln := 80) (t := 21) (Or.inr (Or.inl ⟨rfl, rfl⟩)) aw_21 (by decide) (by decide) (by decide) (of_decide_eq_true ho2) ⟨by decide, by decide⟩ dX0_init_17 ?_
  obtain ⟨ho3, h⟩ := ck_spec h
  refine j_putR C hnm tyX0 tyX0_ok nmX0 (T := TX0) (N := 3) (ci := 0) rfl iX0 ho3 2 (by decide) rfl fwRX0_18 (fun _ => ⟨rfl, rfl⟩) dX0_init_19 ?_
  cases h
  exact j_vret C rfl (by decide) (by decide) dX0_init_22
-- ScaffoldPlanner$CommandText append
abbrev rmX0_append : Room := { frames := 0, cells := 0, slots := 0, locals := 0 }
theorem dX0_append_0 : decode cX0_append 0 = .ok (.aload_n 0, 1) := by decide +kernel
theorem dX0_append_1 : decode cX0_append 1 = .ok (.getfield 9, 3) := by decide +kernel
theorem dX0_append_4 : decode cX0_append 4 = .ok (.ifCond .lt 15, 3) := by decide +kernel
theorem dX0_append_7 : decode cX0_append 7 = .ok (.aload_n 0, 1) := by decide +kernel
theorem dX0_append_8 : decode cX0_append 8 = .ok (.getfield 9, 3) := by decide +kernel
theorem dX0_append_11 : decode cX0_append 11 = .ok (.aload_n 0, 1) := by decide +kernel
theorem dX0_append_12 : decode cX0_append 12 = .ok (.getfield 18, 3) := by decide +kernel
theorem dX0_append_15 : decode cX0_append 15 = .ok (.arraylength, 1) := by decide +kernel
theorem dX0_append_16 : decode cX0_append 16 = .ok (.if_icmp .lt 4, 3) := by decide +kernel
theorem dX0_append_19 : decode cX0_append 19 = .ok (.return_, 1) := by decide +kernel
theorem dX0_append_20 : decode cX0_append 20 = .ok (.aload_n 0, 1) := by decide +kernel
theorem dX0_append_21 : decode cX0_append 21 = .ok (.getfield 18, 3) := by decide +kernel
theorem dX0_append_24 : decode cX0_append 24 = .ok (.aload_n 0, 1) := by decide +kernel
theorem dX0_append_25 : decode cX0_append 25 = .ok (.getfield 9, 3) := by decide +kernel
theorem dX0_append_28 : decode cX0_append 28 = .ok (.iload_n 1, 1) := by decide +kernel
theorem dX0_append_29 : decode cX0_append 29 = .ok (.castore, 1) := by decide +kernel
theorem dX0_append_30 : decode cX0_append 30 = .ok (.aload_n 0, 1) := by decide +kernel
theorem dX0_append_31 : decode cX0_append 31 = .ok (.dup, 1) := by decide +kernel
theorem dX0_append_32 : decode cX0_append 32 = .ok (.getfield 9, 3) := by decide +kernel
theorem dX0_append_35 : decode cX0_append 35 = .ok (.iconst 1, 1) := by decide +kernel
theorem dX0_append_36 : decode cX0_append 36 = .ok (.iadd, 1) := by decide +kernel
theorem dX0_append_37 : decode cX0_append 37 = .ok (.putfield 9, 3) := by decide +kernel
theorem dX0_append_40 : decode cX0_append 40 = .ok (.return_, 1) := by decide +kernel
def fX0_append (N : Nat) (Z : mZ) (a0 : Nat) (a1 : Int32) (M : mM) : Option (Unit × mM) := ck (okO Z a0 0) (if (M.1 a0 0) < 0 then some ((), M) else bnd1 (Z.2.2.2 a0 2) (fun c3 => ck (okO Z c3 21) (if (M.1 a0 0) < (Int32.ofNat (Z.2.2.1 c3)) then ck (inB (M.1 a0 0) (Z.2.2.1 c3)) (some ((), (sI (sI M c3 ((M.1 a0 0)).toNatClampNeg (chN a1)) a0 0 (((sI M c3 ((M.1 a0 0)).toNatClampNeg (chN a1)).1 a0 0) + (1 : Int32))))) else some ((), M))))
set_option maxHeartbeats 4000000 in
set_option maxRecDepth 100000 in
theorem ctX0_append {G : mG} {l : Launch} (hl : l.stackTraces = false) (N : Nat) (Z : mZ) {a0 : Nat} {a1 : Int32} {M : mM} {r : Unit} {M' : mM} (h : fX0_append N Z a0 a1 M = some (r, M')) : CT G l yX0_append (.code yX0_append cX0_append 2 none) rmX0_append [.ref a0, .int a1] Z M (.inl none) Z M' := by
  unfold fX0_append at h
  refine CT.of hl (by decide) (Nat.le_of_ble_eq_true rfl) ?_
  intro p e s m args below meth c C hnm
  refine j_sub (L' := [(0, .ref a0), (1, .int a1)]) [0, 1] rfl ?_
  refine j_aload_n C dX0_append_0 rfl 0 rfl ?_
  obtain ⟨ho1, h⟩ := ck_spec h
  refine j_getI C (cn := RX0) (T := TX0) (N := 3) (ci := 0) rfl iX0 ho1 0 (by decide) rfl fwRX0_9 dX0_append_1 ?_
  refine j_if_lt C dX0_append_4 (tgt := 19) (by decide) (fun hc2 => ?_) (fun hc2 => ?_)
  · rw [if_pos hc2] at h
    cases h
    exact j_vret C rfl (by decide) (by decide) dX0_append_19
  · rw [if_neg hc2] at h
    refine j_aload_n C dX0_append_7 rfl 0 rfl ?_
    refine j_getI C (cn := RX0) (T := TX0) (N := 3) (ci := 0) rfl iX0 ho1 0 (by decide) rfl fwRX0_9 dX0_append_8 ?_
    refine j_aload_n C dX0_append_11 rfl 0 rfl ?_
    obtain ⟨c3, hr3, h⟩ := bnd1_spec h
    refine j_getR C (cn := RX0) (T := TX0) (N := 3) (ci := 0) rfl iX0 ho1 2 (by decide) rfl fwRX0_18 dX0_append_12 hr3 ?_
    obtain ⟨ho4, h⟩ := ck_spec h
    refine j_clen C ho4 dX0_append_15 ?_
    refine j_icmp_lt C dX0_append_16 (tgt := 20) (by decide) (fun hc5 => ?_) (fun hc5 => ?_)
    · rw [if_pos hc5] at h
      refine j_aload_n C dX0_append_20 rfl 0 rfl ?_
      refine j_getR C (cn := RX0) (T := TX0) (N := 3) (ci := 0) rfl iX0 ho1 2 (by decide) rfl fwRX0_18 dX0_append_21 hr3 ?_
      refine j_aload_n C dX0_append_24 rfl 0 rfl ?_
      refine j_getI C (cn := RX0) (T := TX0) (N := 3) (ci := 0) rfl iX0 ho1 0 (by decide) rfl fwRX0_9 dX0_append_25 ?_
      refine j_iload_n C dX0_append_28 rfl 1 rfl ?_
      obtain ⟨ho6, h⟩ := ck_spec h
      refine j_cast C ho4 ho6 dX0_append_29 ?_
      refine j_aload_n C dX0_append_30 rfl 0 rfl ?_
      refine j_dup C dX0_append_31 rfl ?_
      refine j_getI C (cn := RX0) (T := TX0) (N := 3) (ci := 0) rfl iX0 ho1 0 (by decide) rfl fwRX0_9 dX0_append_32 ?_
      refine j_iconst C dX0_append_35 (v := (1 : Int32)) (by decide) ?_
      refine j_iadd C dX0_append_36 ?_
      refine j_putI C tyX0 tyX0_ok nmX0 (cn := RX0) (T := TX0) (N := 3) (ci := 0) rfl iX0 ho1 0 (by decide) rfl fwRX0_9 ⟨rfl, rfl⟩ dX0_append_37 ?_
      cases h
      exact j_vret C rfl (by decide) (by decide) dX0_append_40
    · rw [if_neg hc5] at h
      cases h
      exact j_vret C rfl (by decide) (by decide) dX0_append_19
-- ScaffoldPlanner$CommandText clear
abbrev rmX0_clear : Room := { frames := 0, cells := 0, slots := 0, locals := 0 }
theorem dX0_clear_0 : decode cX0_clear 0 = .ok (.aload_n 0, 1) := by decide +kernel
theorem dX0_clear_1 : decode cX0_clear 1 = .ok (.iconst 0, 1) := by decide +kernel
theorem dX0_clear_2 : decode cX0_clear 2 = .ok (.putfield 9, 3) := by decide +kernel
theorem dX0_clear_5 : decode cX0_clear 5 = .ok (.aload_n 0, 1) := by decide +kernel
theorem dX0_clear_6 : decode cX0_clear 6 = .ok (.iconst 0, 1) := by decide +kernel
theorem dX0_clear_7 : decode cX0_clear 7 = .ok (.putfield 15, 3) := by decide +kernel
theorem dX0_clear_10 : decode cX0_clear 10 = .ok (.return_, 1) := by decide +kernel
def fX0_clear (N : Nat) (Z : mZ) (a0 : Nat) (M : mM) : Option (Unit × mM) := ck (okO Z a0 0) (some ((), (sI (sI M a0 0 (0 : Int32)) a0 1 (0 : Int32))))
set_option maxHeartbeats 4000000 in
set_option maxRecDepth 100000 in
theorem ctX0_clear {G : mG} {l : Launch} (hl : l.stackTraces = false) (N : Nat) (Z : mZ) {a0 : Nat} {M : mM} {r : Unit} {M' : mM} (h : fX0_clear N Z a0 M = some (r, M')) : CT G l yX0_clear (.code yX0_clear cX0_clear 1 none) rmX0_clear [.ref a0] Z M (.inl none) Z M' := by
  unfold fX0_clear at h
  refine CT.of hl (by decide) (Nat.le_of_ble_eq_true rfl) ?_
  intro p e s m args below meth c C hnm
  refine j_sub (L' := [(0, .ref a0)]) [0] rfl ?_
  refine j_aload_n C dX0_clear_0 rfl 0 rfl ?_
  refine j_iconst C dX0_clear_1 (v := (0 : Int32)) (by decide) ?_
  obtain ⟨ho1, h⟩ := ck_spec h
  refine j_putI C tyX0 tyX0_ok nmX0 (cn := RX0) (T := TX0) (N := 3) (ci := 0) rfl iX0 ho1 0 (by decide) rfl fwRX0_9 ⟨rfl, rfl⟩ dX0_clear_2 ?_
  refine j_aload_n C dX0_clear_5 rfl 0 rfl ?_
  refine j_iconst C dX0_clear_6 (v := (0 : Int32)) (by decide) ?_
  refine j_putI C tyX0 tyX0_ok nmX0 (cn := RX0) (T := TX0) (N := 3) (ci := 0) rfl iX0 ho1 1 (by decide) rfl fwRX0_15 ⟨rfl, rfl⟩ dX0_clear_7 ?_
  cases h
  exact j_vret C rfl (by decide) (by decide) dX0_clear_10
-- ScaffoldPlanner$CommandText letter
abbrev rmX0_letter : Room := { frames := 0, cells := 0, slots := 0, locals := 0 }
theorem dX0_letter_0 : decode cX0_letter 0 = .ok (.aload_n 0, 1) := by decide +kernel
theorem dX0_letter_1 : decode cX0_letter 1 = .ok (.getfield 15, 3) := by decide +kernel
theorem dX0_letter_4 : decode cX0_letter 4 = .ok (.ifCond .lt 26, 3) := by decide +kernel
theorem dX0_letter_7 : decode cX0_letter 7 = .ok (.aload_n 0, 1) := by decide +kernel
theorem dX0_letter_8 : decode cX0_letter 8 = .ok (.getfield 15, 3) := by decide +kernel
theorem dX0_letter_11 : decode cX0_letter 11 = .ok (.aload_n 0, 1) := by decide +kernel
theorem dX0_letter_12 : decode cX0_letter 12 = .ok (.getfield 9, 3) := by decide +kernel
theorem dX0_letter_15 : decode cX0_letter 15 = .ok (.if_icmp .ge 15, 3) := by decide +kernel
theorem dX0_letter_18 : decode cX0_letter 18 = .ok (.aload_n 0, 1) := by decide +kernel
theorem dX0_letter_19 : decode cX0_letter 19 = .ok (.getfield 15, 3) := by decide +kernel
theorem dX0_letter_22 : decode cX0_letter 22 = .ok (.aload_n 0, 1) := by decide +kernel
theorem dX0_letter_23 : decode cX0_letter 23 = .ok (.getfield 18, 3) := by decide +kernel
theorem dX0_letter_26 : decode cX0_letter 26 = .ok (.arraylength, 1) := by decide +kernel
theorem dX0_letter_27 : decode cX0_letter 27 = .ok (.if_icmp .lt 5, 3) := by decide +kernel
theorem dX0_letter_30 : decode cX0_letter 30 = .ok (.iconst (-1), 1) := by decide +kernel
theorem dX0_letter_31 : decode cX0_letter 31 = .ok (.ireturn, 1) := by decide +kernel
theorem dX0_letter_32 : decode cX0_letter 32 = .ok (.aload_n 0, 1) := by decide +kernel
theorem dX0_letter_33 : decode cX0_letter 33 = .ok (.getfield 18, 3) := by decide +kernel
theorem dX0_letter_36 : decode cX0_letter 36 = .ok (.aload_n 0, 1) := by decide +kernel
theorem dX0_letter_37 : decode cX0_letter 37 = .ok (.getfield 15, 3) := by decide +kernel
theorem dX0_letter_40 : decode cX0_letter 40 = .ok (.caload, 1) := by decide +kernel
theorem dX0_letter_41 : decode cX0_letter 41 = .ok (.ireturn, 1) := by decide +kernel
def fX0_letter (N : Nat) (Z : mZ) (a0 : Nat) (M : mM) : Option (Int32 × mM) := ck (okO Z a0 0) (if (M.1 a0 1) < 0 then some ((-1 : Int32), M) else if (M.1 a0 0) ≤ (M.1 a0 1) then some ((-1 : Int32), M) else bnd1 (Z.2.2.2 a0 2) (fun c4 => ck (okO Z c4 21) (if (M.1 a0 1) < (Int32.ofNat (Z.2.2.1 c4)) then ck (inB (M.1 a0 1) (Z.2.2.1 c4)) (some ((M.1 c4 ((M.1 a0 1)).toNatClampNeg), M)) else some ((-1 : Int32), M))))
set_option maxHeartbeats 4000000 in
set_option maxRecDepth 100000 in
theorem ctX0_letter {G : mG} {l : Launch} (hl : l.stackTraces = false) (N : Nat) (Z : mZ) {a0 : Nat} {M : mM} {r : Int32} {M' : mM} (h : fX0_letter N Z a0 M = some (r, M')) : CT G l yX0_letter (.code yX0_letter cX0_letter 1 (some .int)) rmX0_letter [.ref a0] Z M (.inl (some (.int r))) Z M' := by
  unfold fX0_letter at h
  refine CT.of hl (by decide) (Nat.le_of_ble_eq_true rfl) ?_
  intro p e s m args below meth c C hnm
  refine j_sub (L' := [(0, .ref a0)]) [0] rfl ?_
  refine j_aload_n C dX0_letter_0 rfl 0 rfl ?_
  obtain ⟨ho1, h⟩ := ck_spec h
  refine j_getI C (cn := RX0) (T := TX0) (N := 3) (ci := 0) rfl iX0 ho1 1 (by decide) rfl fwRX0_15 dX0_letter_1 ?_
  refine j_if_lt C dX0_letter_4 (tgt := 30) (by decide) (fun hc2 => ?_) (fun hc2 => ?_)
  · rw [if_pos hc2] at h
    refine j_iconst C dX0_letter_30 (v := (-1 : Int32)) (by decide) ?_
    cases h
    exact j_iret C rfl (by decide) (by decide) dX0_letter_31
  · rw [if_neg hc2] at h
    refine j_aload_n C dX0_letter_7 rfl 0 rfl ?_
    refine j_getI C (cn := RX0) (T := TX0) (N := 3) (ci := 0) rfl iX0 ho1 1 (by decide) rfl fwRX0_15 dX0_letter_8 ?_
    refine j_aload_n C dX0_letter_11 rfl 0 rfl ?_
    refine j_getI C (cn := RX0) (T := TX0) (N := 3) (ci := 0) rfl iX0 ho1 0 (by decide) rfl fwRX0_9 dX0_letter_12 ?_
    refine j_icmp_ge C dX0_letter_15 (tgt := 30) (by decide) (fun hc3 => ?_) (fun hc3 => ?_)
    · rw [if_pos hc3] at h
      refine j_iconst C dX0_letter_30 (v := (-1 : Int32)) (by decide) ?_
      cases h
      exact j_iret C rfl (by decide) (by decide) dX0_letter_31
    · rw [if_neg hc3] at h
      refine j_aload_n C dX0_letter_18 rfl 0 rfl ?_
      refine j_getI C (cn := RX0) (T := TX0) (N := 3) (ci := 0) rfl iX0 ho1 1 (by decide) rfl fwRX0_15 dX0_letter_19 ?_
      refine j_aload_n C dX0_letter_22 rfl 0 rfl ?_
      obtain ⟨c4, hr4, h⟩ := bnd1_spec h
      refine j_getR C (cn := RX0) (T := TX0) (N := 3) (ci := 0) rfl iX0 ho1 2 (by decide) rfl fwRX0_18 dX0_letter_23 hr4 ?_
      obtain ⟨ho5, h⟩ := ck_spec h
      refine j_clen C ho5 dX0_letter_26 ?_
      refine j_icmp_lt C dX0_letter_27 (tgt := 32) (by decide) (fun hc6 => ?_) (fun hc6 => ?_)
      · rw [if_pos hc6] at h
        refine j_aload_n C dX0_letter_32 rfl 0 rfl ?_
        refine j_getR C (cn := RX0) (T := TX0) (N := 3) (ci := 0) rfl iX0 ho1 2 (by decide) rfl fwRX0_18 dX0_letter_33 hr4 ?_
        refine j_aload_n C dX0_letter_36 rfl 0 rfl ?_
        refine j_getI C (cn := RX0) (T := TX0) (N := 3) (ci := 0) rfl iX0 ho1 1 (by decide) rfl fwRX0_15 dX0_letter_37 ?_
        obtain ⟨ho7, h⟩ := ck_spec h
        refine j_cald C ho5 ho7 dX0_letter_40 ?_
        cases h
        exact j_iret C rfl (by decide) (by decide) dX0_letter_41
      · rw [if_neg hc6] at h
        refine j_iconst C dX0_letter_30 (v := (-1 : Int32)) (by decide) ?_
        cases h
        exact j_iret C rfl (by decide) (by decide) dX0_letter_31
-- ScaffoldPlanner$CommandText isPassed
theorem kcRX0_30 : okV RX0 30 yX0_letter (.code yX0_letter cX0_letter 1 (some .int)) = true := by decide +kernel
theorem oyX0_letter : okY yX0_letter 0 := ⟨by decide +kernel, by decide +kernel, by decide +kernel⟩
abbrev rmX0_isPassed : Room := { frames := 1, cells := 0, slots := 0, locals := 20 }
theorem dX0_isPassed_0 : decode cX0_isPassed 0 = .ok (.aload_n 0, 1) := by decide +kernel
theorem dX0_isPassed_1 : decode cX0_isPassed 1 = .ok (.invokevirtual 30, 3) := by decide +kernel
theorem dX0_isPassed_4 : decode cX0_isPassed 4 = .ok (.iload_n 1, 1) := by decide +kernel
theorem dX0_isPassed_5 : decode cX0_isPassed 5 = .ok (.if_icmp .eq 5, 3) := by decide +kernel
theorem dX0_isPassed_8 : decode cX0_isPassed 8 = .ok (.iconst 0, 1) := by decide +kernel
theorem dX0_isPassed_9 : decode cX0_isPassed 9 = .ok (.ireturn, 1) := by decide +kernel
theorem dX0_isPassed_10 : decode cX0_isPassed 10 = .ok (.aload_n 0, 1) := by decide +kernel
theorem dX0_isPassed_11 : decode cX0_isPassed 11 = .ok (.dup, 1) := by decide +kernel
theorem dX0_isPassed_12 : decode cX0_isPassed 12 = .ok (.getfield 15, 3) := by decide +kernel
theorem dX0_isPassed_15 : decode cX0_isPassed 15 = .ok (.iconst 1, 1) := by decide +kernel
theorem dX0_isPassed_16 : decode cX0_isPassed 16 = .ok (.iadd, 1) := by decide +kernel
theorem dX0_isPassed_17 : decode cX0_isPassed 17 = .ok (.putfield 15, 3) := by decide +kernel
theorem dX0_isPassed_20 : decode cX0_isPassed 20 = .ok (.iconst 1, 1) := by decide +kernel
theorem dX0_isPassed_21 : decode cX0_isPassed 21 = .ok (.ireturn, 1) := by decide +kernel
def fX0_isPassed (N : Nat) (Z : mZ) (a0 : Nat) (a1 : Int32) (M : mM) : Option (Int32 × mM) := ck (okO Z a0 0) (bnd2 (fX0_letter N Z a0 M) (fun r2 M2 => if r2 = a1 then some ((1 : Int32), (sI M2 a0 1 ((M2.1 a0 1) + (1 : Int32)))) else some ((0 : Int32), M2)))
set_option maxHeartbeats 4000000 in
set_option maxRecDepth 100000 in
theorem ctX0_isPassed {G : mG} {l : Launch} (hl : l.stackTraces = false) (N : Nat) (Z : mZ) {a0 : Nat} {a1 : Int32} {M : mM} {r : Int32} {M' : mM} (h : fX0_isPassed N Z a0 a1 M = some (r, M')) : CT G l yX0_isPassed (.code yX0_isPassed cX0_isPassed 2 (some .boolean)) rmX0_isPassed [.ref a0, .int a1] Z M (.inl (some (.int r))) Z M' := by
  unfold fX0_isPassed at h
  refine CT.of hl (by decide) (Nat.le_of_ble_eq_true rfl) ?_
  intro p e s m args below meth c C hnm
  refine j_sub (L' := [(0, .ref a0), (1, .int a1)]) [0, 1] rfl ?_
  refine j_aload_n C dX0_isPassed_0 rfl 0 rfl ?_
  obtain ⟨ho1, h⟩ := ck_spec h
  obtain ⟨r2, M2, hq2, h⟩ := bnd2_spec h
  refine j_run1 (c_V C (As := []) (rest := []) (ctX0_letter C.2.2.2.2.2.2.2.2.1 N Z hq2) kcRX0_30 oyX0_letter (ci := 0) (T := TX0) (N := 3) rfl (by decide) ho1 ⟨by decide, by decide⟩ ⟨by decide, by decide⟩ (Nat.le_of_ble_eq_true rfl) rfl dX0_isPassed_1) ?_
  refine j_iload_n C dX0_isPassed_4 rfl 1 rfl ?_
  refine j_icmp_eq C dX0_isPassed_5 (tgt := 10) (by decide) (fun hc3 => ?_) (fun hc3 => ?_)
  · rw [if_pos hc3] at h
    refine j_aload_n C dX0_isPassed_10 rfl 0 rfl ?_
    refine j_dup C dX0_isPassed_11 rfl ?_
    refine j_getI C (cn := RX0) (T := TX0) (N := 3) (ci := 0) rfl iX0 ho1 1 (by decide) rfl fwRX0_15 dX0_isPassed_12 ?_
    refine j_iconst C dX0_isPassed_15 (v := (1 : Int32)) (by decide) ?_
    refine j_iadd C dX0_isPassed_16 ?_
    refine j_putI C tyX0 tyX0_ok nmX0 (cn := RX0) (T := TX0) (N := 3) (ci := 0) rfl iX0 ho1 1 (by decide) rfl fwRX0_15 ⟨rfl, rfl⟩ dX0_isPassed_17 ?_
    refine j_iconst C dX0_isPassed_20 (v := (1 : Int32)) (by decide) ?_
    cases h
    exact j_zret C rfl (by decide) (by decide) (by decide) dX0_isPassed_21
  · rw [if_neg hc3] at h
    refine j_iconst C dX0_isPassed_8 (v := (0 : Int32)) (by decide) ?_
    cases h
    exact j_zret C rfl (by decide) (by decide) (by decide) dX0_isPassed_9
-- ScaffoldPlanner$CommandText whatOf
abbrev rmX0_whatOf : Room := { frames := 0, cells := 0, slots := 0, locals := 0 }
theorem dX0_whatOf_0 : decode cX0_whatOf 0 = .ok (.iload_n 0, 1) := by decide +kernel
theorem dX0_whatOf_1 : decode cX0_whatOf 1 = .ok (.lookupswitch 61 #[(98, 55), (100, 53), (101, 51), (108, 59), (116, 57)], 51) := by decide +kernel
theorem dX0_whatOf_52 : decode cX0_whatOf 52 = .ok (.iconst 0, 1) := by decide +kernel
theorem dX0_whatOf_53 : decode cX0_whatOf 53 = .ok (.ireturn, 1) := by decide +kernel
theorem dX0_whatOf_54 : decode cX0_whatOf 54 = .ok (.iconst 2, 1) := by decide +kernel
theorem dX0_whatOf_55 : decode cX0_whatOf 55 = .ok (.ireturn, 1) := by decide +kernel
theorem dX0_whatOf_56 : decode cX0_whatOf 56 = .ok (.iconst 3, 1) := by decide +kernel
theorem dX0_whatOf_57 : decode cX0_whatOf 57 = .ok (.ireturn, 1) := by decide +kernel
theorem dX0_whatOf_58 : decode cX0_whatOf 58 = .ok (.iconst 4, 1) := by decide +kernel
theorem dX0_whatOf_59 : decode cX0_whatOf 59 = .ok (.ireturn, 1) := by decide +kernel
theorem dX0_whatOf_60 : decode cX0_whatOf 60 = .ok (.iconst 5, 1) := by decide +kernel
theorem dX0_whatOf_61 : decode cX0_whatOf 61 = .ok (.ireturn, 1) := by decide +kernel
theorem dX0_whatOf_62 : decode cX0_whatOf 62 = .ok (.iconst (-1), 1) := by decide +kernel
theorem dX0_whatOf_63 : decode cX0_whatOf 63 = .ok (.ireturn, 1) := by decide +kernel
def fX0_whatOf (N : Nat) (Z : mZ) (a0 : Int32) (M : mM) : Option (Int32 × mM) := if a0 = nI 98 then some ((3 : Int32), M) else if a0 = nI 100 then some ((2 : Int32), M) else if a0 = nI 101 then some ((0 : Int32), M) else if a0 = nI 108 then some ((5 : Int32), M) else if a0 = nI 116 then some ((4 : Int32), M) else some ((-1 : Int32), M)
set_option maxHeartbeats 4000000 in
set_option maxRecDepth 100000 in
theorem ctX0_whatOf {G : mG} {l : Launch} (hl : l.stackTraces = false) (N : Nat) (Z : mZ) {a0 : Int32} {M : mM} {r : Int32} {M' : mM} (h : fX0_whatOf N Z a0 M = some (r, M')) : CT G l yX0_whatOf (.code yX0_whatOf cX0_whatOf 1 (some .int)) rmX0_whatOf [.int a0] Z M (.inl (some (.int r))) Z M' := by
  unfold fX0_whatOf at h
  refine CT.of hl (by decide) (Nat.le_of_ble_eq_true rfl) ?_
  intro p e s m args below meth c C hnm
  refine j_sub (L' := [(0, .int a0)]) [0] rfl ?_
  refine j_iload_n C dX0_whatOf_0 rfl 0 rfl ?_
  by_cases hc1 : a0 = nI 98
  · rw [if_pos hc1] at h
    refine j_lookup C dX0_whatOf_1 (by decide) (off := 55) (by rw [hc1]; rfl) (tgt := 56) (by decide) ?_
    refine j_iconst C dX0_whatOf_56 (v := (3 : Int32)) (by decide) ?_
    cases h
    exact j_iret C rfl (by decide) (by decide) dX0_whatOf_57
  rw [if_neg hc1] at h
  by_cases hc2 : a0 = nI 100
  · rw [if_pos hc2] at h
    refine j_lookup C dX0_whatOf_1 (by decide) (off := 53) (by rw [hc2]; rfl) (tgt := 54) (by decide) ?_
    refine j_iconst C dX0_whatOf_54 (v := (2 : Int32)) (by decide) ?_
    cases h
    exact j_iret C rfl (by decide) (by decide) dX0_whatOf_55
  rw [if_neg hc2] at h
  by_cases hc3 : a0 = nI 101
  · rw [if_pos hc3] at h
    refine j_lookup C dX0_whatOf_1 (by decide) (off := 51) (by rw [hc3]; rfl) (tgt := 52) (by decide) ?_
    refine j_iconst C dX0_whatOf_52 (v := (0 : Int32)) (by decide) ?_
    cases h
    exact j_iret C rfl (by decide) (by decide) dX0_whatOf_53
  rw [if_neg hc3] at h
  by_cases hc4 : a0 = nI 108
  · rw [if_pos hc4] at h
    refine j_lookup C dX0_whatOf_1 (by decide) (off := 59) (by rw [hc4]; rfl) (tgt := 60) (by decide) ?_
    refine j_iconst C dX0_whatOf_60 (v := (5 : Int32)) (by decide) ?_
    cases h
    exact j_iret C rfl (by decide) (by decide) dX0_whatOf_61
  rw [if_neg hc4] at h
  by_cases hc5 : a0 = nI 116
  · rw [if_pos hc5] at h
    refine j_lookup C dX0_whatOf_1 (by decide) (off := 57) (by rw [hc5]; rfl) (tgt := 58) (by decide) ?_
    refine j_iconst C dX0_whatOf_58 (v := (4 : Int32)) (by decide) ?_
    cases h
    exact j_iret C rfl (by decide) (by decide) dX0_whatOf_59
  rw [if_neg hc5] at h
  have q0 : ¬ ((98 : Int) = (a0).toInt) := nI_netoInt (n := 98) (by decide) hc1
  have q1 : ¬ ((100 : Int) = (a0).toInt) := nI_netoInt (n := 100) (by decide) hc2
  have q2 : ¬ ((101 : Int) = (a0).toInt) := nI_netoInt (n := 101) (by decide) hc3
  have q3 : ¬ ((108 : Int) = (a0).toInt) := nI_netoInt (n := 108) (by decide) hc4
  have q4 : ¬ ((116 : Int) = (a0).toInt) := nI_netoInt (n := 116) (by decide) hc5
  refine j_lookup C dX0_whatOf_1 (by decide) (off := 61) (lk_out _ _ _ (by intro q hq; simp at hq; rcases hq with rfl | rfl | rfl | rfl | rfl <;> assumption)) (tgt := 62) (by decide) ?_
  refine j_iconst C dX0_whatOf_62 (v := (-1 : Int32)) (by decide) ?_
  cases h
  exact j_iret C rfl (by decide) (by decide) dX0_whatOf_63
end
