section
-- ===== PART A: goes FIRST, ahead of the names: the tables' words, and 'selects' of the private methods out of them =====
/-- a private method of a class that the tables say can be made, by its rows of tables_1 -/
def lw_okq (q : MethodName × Nat) : Prop := (q.1.cls ≠ "java/lang/invoke/MethodHandle" ∧ q.1.cls ≠ "java/lang/invoke/VarHandle") ∧ Cond.instantiable q.1.cls q.2 ∈ tables_1 ∧ Cond.privateMethod q.1 ∈ tables_1 ∧ Cond.instanceMethod q.1 ∈ tables_1
theorem lw_p0 : lw_okq (⟨"WellLendsDepth", "known", "(I)Z"⟩, 14) := ⟨⟨by decide +kernel, by decide +kernel⟩, List.mem_of_getElem? (i := 16) (by decide +kernel), List.mem_of_getElem? (i := 312) (by decide +kernel), List.mem_of_getElem? (i := 313) (by decide +kernel)⟩
theorem lw_p1 : lw_okq (⟨"WellLendsDepth", "rules", "()LWellLendsDepth$Country;"⟩, 14) := ⟨⟨by decide +kernel, by decide +kernel⟩, List.mem_of_getElem? (i := 16) (by decide +kernel), List.mem_of_getElem? (i := 316) (by decide +kernel), List.mem_of_getElem? (i := 317) (by decide +kernel)⟩
theorem lw_p2 : lw_okq (⟨"WellLendsDepth$Country", "conditionHolds", "(II)Z"⟩, 11) := ⟨⟨by decide +kernel, by decide +kernel⟩, List.mem_of_getElem? (i := 142) (by decide +kernel), List.mem_of_getElem? (i := 324) (by decide +kernel), List.mem_of_getElem? (i := 325) (by decide +kernel)⟩
theorem lw_p3 : lw_okq (⟨"WellLendsDepth$Reader", "readClause", "()V"⟩, 5) := ⟨⟨by decide +kernel, by decide +kernel⟩, List.mem_of_getElem? (i := 136) (by decide +kernel), List.mem_of_getElem? (i := 406) (by decide +kernel), List.mem_of_getElem? (i := 407) (by decide +kernel)⟩
theorem lw_p4 : lw_okq (⟨"WellLendsDepth$Reader", "sign", "()I"⟩, 5) := ⟨⟨by decide +kernel, by decide +kernel⟩, List.mem_of_getElem? (i := 136) (by decide +kernel), List.mem_of_getElem? (i := 410) (by decide +kernel), List.mem_of_getElem? (i := 411) (by decide +kernel)⟩
theorem lw_p5 : lw_okq (⟨"WellLendsDepth$Reader", "expectWord", "(Ljava/lang/String;)V"⟩, 5) := ⟨⟨by decide +kernel, by decide +kernel⟩, List.mem_of_getElem? (i := 136) (by decide +kernel), List.mem_of_getElem? (i := 422) (by decide +kernel), List.mem_of_getElem? (i := 423) (by decide +kernel)⟩
theorem lw_p6 : lw_okq (⟨"WellLendsDepth$Reader", "expect", "(I)V"⟩, 5) := ⟨⟨by decide +kernel, by decide +kernel⟩, List.mem_of_getElem? (i := 136) (by decide +kernel), List.mem_of_getElem? (i := 474) (by decide +kernel), List.mem_of_getElem? (i := 475) (by decide +kernel)⟩
theorem lw_p7 : lw_okq (⟨"WellLendsDepth$Reader", "readNumber", "()I"⟩, 5) := ⟨⟨by decide +kernel, by decide +kernel⟩, List.mem_of_getElem? (i := 136) (by decide +kernel), List.mem_of_getElem? (i := 478) (by decide +kernel), List.mem_of_getElem? (i := 479) (by decide +kernel)⟩
theorem lw_p8 : lw_okq (⟨"WellLendsDepth$Reader", "readEither", "(I)V"⟩, 5) := ⟨⟨by decide +kernel, by decide +kernel⟩, List.mem_of_getElem? (i := 136) (by decide +kernel), List.mem_of_getElem? (i := 482) (by decide +kernel), List.mem_of_getElem? (i := 483) (by decide +kernel)⟩
theorem lw_p9 : lw_okq (⟨"WellLendsDepth$Reader", "readPart", "(I)V"⟩, 5) := ⟨⟨by decide +kernel, by decide +kernel⟩, List.mem_of_getElem? (i := 136) (by decide +kernel), List.mem_of_getElem? (i := 486) (by decide +kernel), List.mem_of_getElem? (i := 487) (by decide +kernel)⟩
theorem lw_p10 : lw_okq (⟨"WellLendsDepth$Reader", "readTest", "()V"⟩, 5) := ⟨⟨by decide +kernel, by decide +kernel⟩, List.mem_of_getElem? (i := 136) (by decide +kernel), List.mem_of_getElem? (i := 494) (by decide +kernel), List.mem_of_getElem? (i := 495) (by decide +kernel)⟩
theorem lw_p11 : lw_okq (⟨"WellLendsDepth$Well", "keepOn", "(ILWellLendsDepth$Country;)V"⟩, 14) := ⟨⟨by decide +kernel, by decide +kernel⟩, List.mem_of_getElem? (i := 24) (by decide +kernel), List.mem_of_getElem? (i := 527) (by decide +kernel), List.mem_of_getElem? (i := 528) (by decide +kernel)⟩
theorem lw_p12 : lw_okq (⟨"WellLendsDepth$Well", "comeAsking", "(III)V"⟩, 14) := ⟨⟨by decide +kernel, by decide +kernel⟩, List.mem_of_getElem? (i := 24) (by decide +kernel), List.mem_of_getElem? (i := 536) (by decide +kernel), List.mem_of_getElem? (i := 537) (by decide +kernel)⟩
theorem lw_p13 : lw_okq (⟨"WellLendsDepth", "startTrial", "()V"⟩, 14) := ⟨⟨by decide +kernel, by decide +kernel⟩, List.mem_of_getElem? (i := 16) (by decide +kernel), List.mem_of_getElem? (i := 545) (by decide +kernel), List.mem_of_getElem? (i := 546) (by decide +kernel)⟩
theorem lw_p14 : lw_okq (⟨"WellLendsDepth", "goTrial", "(I)V"⟩, 14) := ⟨⟨by decide +kernel, by decide +kernel⟩, List.mem_of_getElem? (i := 16) (by decide +kernel), List.mem_of_getElem? (i := 556) (by decide +kernel), List.mem_of_getElem? (i := 557) (by decide +kernel)⟩
theorem lw_p15 : lw_okq (⟨"WellLendsDepth", "whomToCall", "()I"⟩, 14) := ⟨⟨by decide +kernel, by decide +kernel⟩, List.mem_of_getElem? (i := 16) (by decide +kernel), List.mem_of_getElem? (i := 572) (by decide +kernel), List.mem_of_getElem? (i := 573) (by decide +kernel)⟩
def lw_privs_1 : List (MethodName × Nat) := [(⟨"WellLendsDepth", "known", "(I)Z"⟩, 14), (⟨"WellLendsDepth", "rules", "()LWellLendsDepth$Country;"⟩, 14), (⟨"WellLendsDepth$Country", "conditionHolds", "(II)Z"⟩, 11), (⟨"WellLendsDepth$Reader", "readClause", "()V"⟩, 5), (⟨"WellLendsDepth$Reader", "sign", "()I"⟩, 5), (⟨"WellLendsDepth$Reader", "expectWord", "(Ljava/lang/String;)V"⟩, 5), (⟨"WellLendsDepth$Reader", "expect", "(I)V"⟩, 5), (⟨"WellLendsDepth$Reader", "readNumber", "()I"⟩, 5), (⟨"WellLendsDepth$Reader", "readEither", "(I)V"⟩, 5), (⟨"WellLendsDepth$Reader", "readPart", "(I)V"⟩, 5), (⟨"WellLendsDepth$Reader", "readTest", "()V"⟩, 5), (⟨"WellLendsDepth$Well", "keepOn", "(ILWellLendsDepth$Country;)V"⟩, 14), (⟨"WellLendsDepth$Well", "comeAsking", "(III)V"⟩, 14), (⟨"WellLendsDepth", "startTrial", "()V"⟩, 14), (⟨"WellLendsDepth", "goTrial", "(I)V"⟩, 14), (⟨"WellLendsDepth", "whomToCall", "()I"⟩, 14)]
theorem lw_r1 : ∀ q ∈ lw_privs_1, lw_okq q := List.forall_mem_cons.mpr ⟨lw_p0, List.forall_mem_cons.mpr ⟨lw_p1, List.forall_mem_cons.mpr ⟨lw_p2, List.forall_mem_cons.mpr ⟨lw_p3, List.forall_mem_cons.mpr ⟨lw_p4, List.forall_mem_cons.mpr ⟨lw_p5, List.forall_mem_cons.mpr ⟨lw_p6, List.forall_mem_cons.mpr ⟨lw_p7, List.forall_mem_cons.mpr ⟨lw_p8, List.forall_mem_cons.mpr ⟨lw_p9, List.forall_mem_cons.mpr ⟨lw_p10, List.forall_mem_cons.mpr ⟨lw_p11, List.forall_mem_cons.mpr ⟨lw_p12, List.forall_mem_cons.mpr ⟨lw_p13, List.forall_mem_cons.mpr ⟨lw_p14, List.forall_mem_cons.mpr ⟨lw_p15, fun _ h => absurd h List.not_mem_nil⟩⟩⟩⟩⟩⟩⟩⟩⟩⟩⟩⟩⟩⟩⟩⟩
theorem lw_p16 : lw_okq (⟨"WellLendsDepth", "turnedOfTrial", "(I)I"⟩, 14) := ⟨⟨by decide +kernel, by decide +kernel⟩, List.mem_of_getElem? (i := 16) (by decide +kernel), List.mem_of_getElem? (i := 576) (by decide +kernel), List.mem_of_getElem? (i := 577) (by decide +kernel)⟩
theorem lw_p17 : lw_okq (⟨"WellLendsDepth", "whoComesAhead", "()I"⟩, 14) := ⟨⟨by decide +kernel, by decide +kernel⟩, List.mem_of_getElem? (i := 16) (by decide +kernel), List.mem_of_getElem? (i := 580) (by decide +kernel), List.mem_of_getElem? (i := 581) (by decide +kernel)⟩
theorem lw_p18 : lw_okq (⟨"WellLendsDepth", "bestMark", "()I"⟩, 14) := ⟨⟨by decide +kernel, by decide +kernel⟩, List.mem_of_getElem? (i := 16) (by decide +kernel), List.mem_of_getElem? (i := 584) (by decide +kernel), List.mem_of_getElem? (i := 585) (by decide +kernel)⟩
theorem lw_p19 : lw_okq (⟨"WellLendsDepth", "turnedAsAllIs", "()I"⟩, 14) := ⟨⟨by decide +kernel, by decide +kernel⟩, List.mem_of_getElem? (i := 16) (by decide +kernel), List.mem_of_getElem? (i := 588) (by decide +kernel), List.mem_of_getElem? (i := 589) (by decide +kernel)⟩
theorem lw_p20 : lw_okq (⟨"WellLendsDepth", "nobodySentIn", "(II)Z"⟩, 14) := ⟨⟨by decide +kernel, by decide +kernel⟩, List.mem_of_getElem? (i := 16) (by decide +kernel), List.mem_of_getElem? (i := 601) (by decide +kernel), List.mem_of_getElem? (i := 602) (by decide +kernel)⟩
theorem lw_p21 : lw_okq (⟨"WellLendsDepth", "trialShowsAllSeen", "()Z"⟩, 14) := ⟨⟨by decide +kernel, by decide +kernel⟩, List.mem_of_getElem? (i := 16) (by decide +kernel), List.mem_of_getElem? (i := 617) (by decide +kernel), List.mem_of_getElem? (i := 618) (by decide +kernel)⟩
theorem lw_p22 : lw_okq (⟨"WellLendsDepth", "goYearRow", "(II)V"⟩, 14) := ⟨⟨by decide +kernel, by decide +kernel⟩, List.mem_of_getElem? (i := 16) (by decide +kernel), List.mem_of_getElem? (i := 661) (by decide +kernel), List.mem_of_getElem? (i := 662) (by decide +kernel)⟩
theorem lw_p23 : lw_okq (⟨"WellLendsDepth$Actor", "from", "(IIII)I"⟩, 5) := ⟨⟨by decide +kernel, by decide +kernel⟩, List.mem_of_getElem? (i := 210) (by decide +kernel), List.mem_of_getElem? (i := 720) (by decide +kernel), List.mem_of_getElem? (i := 721) (by decide +kernel)⟩
theorem lw_p24 : lw_okq (⟨"WellLendsDepth$Actor", "run", "(IIII)I"⟩, 5) := ⟨⟨by decide +kernel, by decide +kernel⟩, List.mem_of_getElem? (i := 210) (by decide +kernel), List.mem_of_getElem? (i := 728) (by decide +kernel), List.mem_of_getElem? (i := 729) (by decide +kernel)⟩
theorem lw_p25 : lw_okq (⟨"WellLendsDepthModel", "in", "(III)Z"⟩, 83) := ⟨⟨by decide +kernel, by decide +kernel⟩, List.mem_of_getElem? (i := 780) (by decide +kernel), List.mem_of_getElem? (i := 1041) (by decide +kernel), List.mem_of_getElem? (i := 1042) (by decide +kernel)⟩
theorem lw_p26 : lw_okq (⟨"WellLendsDepthModel", "isWants", "(I)Z"⟩, 83) := ⟨⟨by decide +kernel, by decide +kernel⟩, List.mem_of_getElem? (i := 780) (by decide +kernel), List.mem_of_getElem? (i := 1045) (by decide +kernel), List.mem_of_getElem? (i := 1046) (by decide +kernel)⟩
theorem lw_p27 : lw_okq (⟨"WellLendsDepthModel", "isEvery", "(I)Z"⟩, 83) := ⟨⟨by decide +kernel, by decide +kernel⟩, List.mem_of_getElem? (i := 780) (by decide +kernel), List.mem_of_getElem? (i := 1049) (by decide +kernel), List.mem_of_getElem? (i := 1050) (by decide +kernel)⟩
theorem lw_p28 : lw_okq (⟨"WellLendsDepthModel", "isBorrower", "(I)Z"⟩, 83) := ⟨⟨by decide +kernel, by decide +kernel⟩, List.mem_of_getElem? (i := 780) (by decide +kernel), List.mem_of_getElem? (i := 1057) (by decide +kernel), List.mem_of_getElem? (i := 1058) (by decide +kernel)⟩
theorem lw_p29 : lw_okq (⟨"WellLendsDepthModel", "isDepth", "(I)Z"⟩, 83) := ⟨⟨by decide +kernel, by decide +kernel⟩, List.mem_of_getElem? (i := 780) (by decide +kernel), List.mem_of_getElem? (i := 1069) (by decide +kernel), List.mem_of_getElem? (i := 1070) (by decide +kernel)⟩
theorem lw_p30 : lw_okq (⟨"WellLendsDepthModel", "changes", "(II)V"⟩, 83) := ⟨⟨by decide +kernel, by decide +kernel⟩, List.mem_of_getElem? (i := 780) (by decide +kernel), List.mem_of_getElem? (i := 1077) (by decide +kernel), List.mem_of_getElem? (i := 1078) (by decide +kernel)⟩
theorem lw_p31 : lw_okq (⟨"WellLendsDepthModel", "calls", "(I)V"⟩, 83) := ⟨⟨by decide +kernel, by decide +kernel⟩, List.mem_of_getElem? (i := 780) (by decide +kernel), List.mem_of_getElem? (i := 1085) (by decide +kernel), List.mem_of_getElem? (i := 1086) (by decide +kernel)⟩
def lw_privs_2 : List (MethodName × Nat) := [(⟨"WellLendsDepth", "turnedOfTrial", "(I)I"⟩, 14), (⟨"WellLendsDepth", "whoComesAhead", "()I"⟩, 14), (⟨"WellLendsDepth", "bestMark", "()I"⟩, 14), (⟨"WellLendsDepth", "turnedAsAllIs", "()I"⟩, 14), (⟨"WellLendsDepth", "nobodySentIn", "(II)Z"⟩, 14), (⟨"WellLendsDepth", "trialShowsAllSeen", "()Z"⟩, 14), (⟨"WellLendsDepth", "goYearRow", "(II)V"⟩, 14), (⟨"WellLendsDepth$Actor", "from", "(IIII)I"⟩, 5), (⟨"WellLendsDepth$Actor", "run", "(IIII)I"⟩, 5), (⟨"WellLendsDepthModel", "in", "(III)Z"⟩, 83), (⟨"WellLendsDepthModel", "isWants", "(I)Z"⟩, 83), (⟨"WellLendsDepthModel", "isEvery", "(I)Z"⟩, 83), (⟨"WellLendsDepthModel", "isBorrower", "(I)Z"⟩, 83), (⟨"WellLendsDepthModel", "isDepth", "(I)Z"⟩, 83), (⟨"WellLendsDepthModel", "changes", "(II)V"⟩, 83), (⟨"WellLendsDepthModel", "calls", "(I)V"⟩, 83)]
theorem lw_r2 : ∀ q ∈ lw_privs_2, lw_okq q := List.forall_mem_cons.mpr ⟨lw_p16, List.forall_mem_cons.mpr ⟨lw_p17, List.forall_mem_cons.mpr ⟨lw_p18, List.forall_mem_cons.mpr ⟨lw_p19, List.forall_mem_cons.mpr ⟨lw_p20, List.forall_mem_cons.mpr ⟨lw_p21, List.forall_mem_cons.mpr ⟨lw_p22, List.forall_mem_cons.mpr ⟨lw_p23, List.forall_mem_cons.mpr ⟨lw_p24, List.forall_mem_cons.mpr ⟨lw_p25, List.forall_mem_cons.mpr ⟨lw_p26, List.forall_mem_cons.mpr ⟨lw_p27, List.forall_mem_cons.mpr ⟨lw_p28, List.forall_mem_cons.mpr ⟨lw_p29, List.forall_mem_cons.mpr ⟨lw_p30, List.forall_mem_cons.mpr ⟨lw_p31, fun _ h => absurd h List.not_mem_nil⟩⟩⟩⟩⟩⟩⟩⟩⟩⟩⟩⟩⟩⟩⟩⟩
theorem lw_p32 : lw_okq (⟨"WellLendsDepthModel", "held", "(II)I"⟩, 83) := ⟨⟨by decide +kernel, by decide +kernel⟩, List.mem_of_getElem? (i := 780) (by decide +kernel), List.mem_of_getElem? (i := 1089) (by decide +kernel), List.mem_of_getElem? (i := 1090) (by decide +kernel)⟩
theorem lw_p33 : lw_okq (⟨"WellLendsDepthModel", "goesText", "(I)Z"⟩, 83) := ⟨⟨by decide +kernel, by decide +kernel⟩, List.mem_of_getElem? (i := 780) (by decide +kernel), List.mem_of_getElem? (i := 1101) (by decide +kernel), List.mem_of_getElem? (i := 1102) (by decide +kernel)⟩
theorem lw_p34 : lw_okq (⟨"WellLendsDepthModel", "takesClause", "(I)Z"⟩, 83) := ⟨⟨by decide +kernel, by decide +kernel⟩, List.mem_of_getElem? (i := 780) (by decide +kernel), List.mem_of_getElem? (i := 1105) (by decide +kernel), List.mem_of_getElem? (i := 1106) (by decide +kernel)⟩
theorem lw_p35 : lw_okq (⟨"WellLendsDepthModel", "takesHead", "(I)Z"⟩, 83) := ⟨⟨by decide +kernel, by decide +kernel⟩, List.mem_of_getElem? (i := 780) (by decide +kernel), List.mem_of_getElem? (i := 1109) (by decide +kernel), List.mem_of_getElem? (i := 1110) (by decide +kernel)⟩
theorem lw_p36 : lw_okq (⟨"WellLendsDepthModel", "next", "()I"⟩, 83) := ⟨⟨by decide +kernel, by decide +kernel⟩, List.mem_of_getElem? (i := 780) (by decide +kernel), List.mem_of_getElem? (i := 1113) (by decide +kernel), List.mem_of_getElem? (i := 1114) (by decide +kernel)⟩
theorem lw_p37 : lw_okq (⟨"WellLendsDepthModel", "takesWord", "(II)Z"⟩, 83) := ⟨⟨by decide +kernel, by decide +kernel⟩, List.mem_of_getElem? (i := 780) (by decide +kernel), List.mem_of_getElem? (i := 1117) (by decide +kernel), List.mem_of_getElem? (i := 1118) (by decide +kernel)⟩
theorem lw_p38 : lw_okq (⟨"WellLendsDepthModel", "takes", "(I)Z"⟩, 83) := ⟨⟨by decide +kernel, by decide +kernel⟩, List.mem_of_getElem? (i := 780) (by decide +kernel), List.mem_of_getElem? (i := 1121) (by decide +kernel), List.mem_of_getElem? (i := 1122) (by decide +kernel)⟩
theorem lw_p39 : lw_okq (⟨"WellLendsDepthModel", "takesNumber", "()Z"⟩, 83) := ⟨⟨by decide +kernel, by decide +kernel⟩, List.mem_of_getElem? (i := 780) (by decide +kernel), List.mem_of_getElem? (i := 1125) (by decide +kernel), List.mem_of_getElem? (i := 1126) (by decide +kernel)⟩
theorem lw_p40 : lw_okq (⟨"WellLendsDepthModel", "isDigit", "()Z"⟩, 83) := ⟨⟨by decide +kernel, by decide +kernel⟩, List.mem_of_getElem? (i := 780) (by decide +kernel), List.mem_of_getElem? (i := 1129) (by decide +kernel), List.mem_of_getElem? (i := 1130) (by decide +kernel)⟩
theorem lw_p41 : lw_okq (⟨"WellLendsDepthModel", "takesE", "(I)Z"⟩, 83) := ⟨⟨by decide +kernel, by decide +kernel⟩, List.mem_of_getElem? (i := 780) (by decide +kernel), List.mem_of_getElem? (i := 1133) (by decide +kernel), List.mem_of_getElem? (i := 1134) (by decide +kernel)⟩
theorem lw_p42 : lw_okq (⟨"WellLendsDepthModel", "takesTest", "()Z"⟩, 83) := ⟨⟨by decide +kernel, by decide +kernel⟩, List.mem_of_getElem? (i := 780) (by decide +kernel), List.mem_of_getElem? (i := 1137) (by decide +kernel), List.mem_of_getElem? (i := 1138) (by decide +kernel)⟩
theorem lw_p43 : lw_okq (⟨"WellLendsDepthModel", "place", "(I)I"⟩, 83) := ⟨⟨by decide +kernel, by decide +kernel⟩, List.mem_of_getElem? (i := 780) (by decide +kernel), List.mem_of_getElem? (i := 1141) (by decide +kernel), List.mem_of_getElem? (i := 1142) (by decide +kernel)⟩
theorem lw_p44 : lw_okq (⟨"WellLendsDepthModel", "emits", "(I)V"⟩, 83) := ⟨⟨by decide +kernel, by decide +kernel⟩, List.mem_of_getElem? (i := 780) (by decide +kernel), List.mem_of_getElem? (i := 1145) (by decide +kernel), List.mem_of_getElem? (i := 1146) (by decide +kernel)⟩
theorem lw_p45 : lw_okq (⟨"WellLendsDepthModel", "whole", "()V"⟩, 83) := ⟨⟨by decide +kernel, by decide +kernel⟩, List.mem_of_getElem? (i := 780) (by decide +kernel), List.mem_of_getElem? (i := 1149) (by decide +kernel), List.mem_of_getElem? (i := 1150) (by decide +kernel)⟩
theorem lw_p46 : lw_okq (⟨"WellLendsDepthModel", "settle", "(I)V"⟩, 83) := ⟨⟨by decide +kernel, by decide +kernel⟩, List.mem_of_getElem? (i := 780) (by decide +kernel), List.mem_of_getElem? (i := 1153) (by decide +kernel), List.mem_of_getElem? (i := 1154) (by decide +kernel)⟩
theorem lw_p47 : lw_okq (⟨"WellLendsDepthModel", "rate", "(I)I"⟩, 83) := ⟨⟨by decide +kernel, by decide +kernel⟩, List.mem_of_getElem? (i := 780) (by decide +kernel), List.mem_of_getElem? (i := 1161) (by decide +kernel), List.mem_of_getElem? (i := 1162) (by decide +kernel)⟩
def lw_privs_3 : List (MethodName × Nat) := [(⟨"WellLendsDepthModel", "held", "(II)I"⟩, 83), (⟨"WellLendsDepthModel", "goesText", "(I)Z"⟩, 83), (⟨"WellLendsDepthModel", "takesClause", "(I)Z"⟩, 83), (⟨"WellLendsDepthModel", "takesHead", "(I)Z"⟩, 83), (⟨"WellLendsDepthModel", "next", "()I"⟩, 83), (⟨"WellLendsDepthModel", "takesWord", "(II)Z"⟩, 83), (⟨"WellLendsDepthModel", "takes", "(I)Z"⟩, 83), (⟨"WellLendsDepthModel", "takesNumber", "()Z"⟩, 83), (⟨"WellLendsDepthModel", "isDigit", "()Z"⟩, 83), (⟨"WellLendsDepthModel", "takesE", "(I)Z"⟩, 83), (⟨"WellLendsDepthModel", "takesTest", "()Z"⟩, 83), (⟨"WellLendsDepthModel", "place", "(I)I"⟩, 83), (⟨"WellLendsDepthModel", "emits", "(I)V"⟩, 83), (⟨"WellLendsDepthModel", "whole", "()V"⟩, 83), (⟨"WellLendsDepthModel", "settle", "(I)V"⟩, 83), (⟨"WellLendsDepthModel", "rate", "(I)I"⟩, 83)]
theorem lw_r3 : ∀ q ∈ lw_privs_3, lw_okq q := List.forall_mem_cons.mpr ⟨lw_p32, List.forall_mem_cons.mpr ⟨lw_p33, List.forall_mem_cons.mpr ⟨lw_p34, List.forall_mem_cons.mpr ⟨lw_p35, List.forall_mem_cons.mpr ⟨lw_p36, List.forall_mem_cons.mpr ⟨lw_p37, List.forall_mem_cons.mpr ⟨lw_p38, List.forall_mem_cons.mpr ⟨lw_p39, List.forall_mem_cons.mpr ⟨lw_p40, List.forall_mem_cons.mpr ⟨lw_p41, List.forall_mem_cons.mpr ⟨lw_p42, List.forall_mem_cons.mpr ⟨lw_p43, List.forall_mem_cons.mpr ⟨lw_p44, List.forall_mem_cons.mpr ⟨lw_p45, List.forall_mem_cons.mpr ⟨lw_p46, List.forall_mem_cons.mpr ⟨lw_p47, fun _ h => absurd h List.not_mem_nil⟩⟩⟩⟩⟩⟩⟩⟩⟩⟩⟩⟩⟩⟩⟩⟩
theorem lw_p48 : lw_okq (⟨"WellLendsDepthModel", "begin", "()I"⟩, 83) := ⟨⟨by decide +kernel, by decide +kernel⟩, List.mem_of_getElem? (i := 780) (by decide +kernel), List.mem_of_getElem? (i := 1165) (by decide +kernel), List.mem_of_getElem? (i := 1166) (by decide +kernel)⟩
theorem lw_p49 : lw_okq (⟨"WellLendsDepthModel", "behind", "()I"⟩, 83) := ⟨⟨by decide +kernel, by decide +kernel⟩, List.mem_of_getElem? (i := 780) (by decide +kernel), List.mem_of_getElem? (i := 1169) (by decide +kernel), List.mem_of_getElem? (i := 1170) (by decide +kernel)⟩
theorem lw_p50 : lw_okq (⟨"WellLendsDepthModel", "holds", "(II)Z"⟩, 83) := ⟨⟨by decide +kernel, by decide +kernel⟩, List.mem_of_getElem? (i := 780) (by decide +kernel), List.mem_of_getElem? (i := 1173) (by decide +kernel), List.mem_of_getElem? (i := 1174) (by decide +kernel)⟩
theorem lw_p51 : lw_okq (⟨"WellLendsDepthModel", "factOf", "(II)I"⟩, 83) := ⟨⟨by decide +kernel, by decide +kernel⟩, List.mem_of_getElem? (i := 780) (by decide +kernel), List.mem_of_getElem? (i := 1177) (by decide +kernel), List.mem_of_getElem? (i := 1178) (by decide +kernel)⟩
theorem lw_p52 : lw_okq (⟨"WellLendsDepthModel", "asks", "(I)I"⟩, 83) := ⟨⟨by decide +kernel, by decide +kernel⟩, List.mem_of_getElem? (i := 780) (by decide +kernel), List.mem_of_getElem? (i := 1181) (by decide +kernel), List.mem_of_getElem? (i := 1182) (by decide +kernel)⟩
theorem lw_p53 : lw_okq (⟨"WellLendsDepthModel", "mark", "()I"⟩, 83) := ⟨⟨by decide +kernel, by decide +kernel⟩, List.mem_of_getElem? (i := 780) (by decide +kernel), List.mem_of_getElem? (i := 1185) (by decide +kernel), List.mem_of_getElem? (i := 1186) (by decide +kernel)⟩
theorem lw_p54 : lw_okq (⟨"WellLendsDepthModel", "lastOf", "(II)I"⟩, 83) := ⟨⟨by decide +kernel, by decide +kernel⟩, List.mem_of_getElem? (i := 780) (by decide +kernel), List.mem_of_getElem? (i := 1189) (by decide +kernel), List.mem_of_getElem? (i := 1190) (by decide +kernel)⟩
theorem lw_p55 : lw_okq (⟨"WellLendsDepthModel", "keeps", "(I)I"⟩, 83) := ⟨⟨by decide +kernel, by decide +kernel⟩, List.mem_of_getElem? (i := 780) (by decide +kernel), List.mem_of_getElem? (i := 1193) (by decide +kernel), List.mem_of_getElem? (i := 1194) (by decide +kernel)⟩
theorem lw_p56 : lw_okq (⟨"WellLendsDepthModel", "staysAway", "(I)Z"⟩, 83) := ⟨⟨by decide +kernel, by decide +kernel⟩, List.mem_of_getElem? (i := 780) (by decide +kernel), List.mem_of_getElem? (i := 1197) (by decide +kernel), List.mem_of_getElem? (i := 1198) (by decide +kernel)⟩
theorem lw_p57 : lw_okq (⟨"WellLendsDepthModel", "brings", "(I)I"⟩, 83) := ⟨⟨by decide +kernel, by decide +kernel⟩, List.mem_of_getElem? (i := 780) (by decide +kernel), List.mem_of_getElem? (i := 1201) (by decide +kernel), List.mem_of_getElem? (i := 1202) (by decide +kernel)⟩
theorem lw_p58 : lw_okq (⟨"WellLendsDepthModel", "allOwes", "()I"⟩, 83) := ⟨⟨by decide +kernel, by decide +kernel⟩, List.mem_of_getElem? (i := 780) (by decide +kernel), List.mem_of_getElem? (i := 1209) (by decide +kernel), List.mem_of_getElem? (i := 1210) (by decide +kernel)⟩
theorem lw_p59 : lw_okq (⟨"WellLendsDepthModel", "isDays", "(I)Z"⟩, 83) := ⟨⟨by decide +kernel, by decide +kernel⟩, List.mem_of_getElem? (i := 780) (by decide +kernel), List.mem_of_getElem? (i := 1217) (by decide +kernel), List.mem_of_getElem? (i := 1218) (by decide +kernel)⟩
theorem lw_p60 : lw_okq (⟨"WellLendsDepthModel", "goDays", "(I)V"⟩, 83) := ⟨⟨by decide +kernel, by decide +kernel⟩, List.mem_of_getElem? (i := 780) (by decide +kernel), List.mem_of_getElem? (i := 1221) (by decide +kernel), List.mem_of_getElem? (i := 1222) (by decide +kernel)⟩
theorem lw_p61 : lw_okq (⟨"WellLendsDepthModel", "goDay", "()V"⟩, 83) := ⟨⟨by decide +kernel, by decide +kernel⟩, List.mem_of_getElem? (i := 780) (by decide +kernel), List.mem_of_getElem? (i := 1225) (by decide +kernel), List.mem_of_getElem? (i := 1226) (by decide +kernel)⟩
theorem lw_p62 : lw_okq (⟨"WellLendsDepthModel", "goHaving", "(I)V"⟩, 83) := ⟨⟨by decide +kernel, by decide +kernel⟩, List.mem_of_getElem? (i := 780) (by decide +kernel), List.mem_of_getElem? (i := 1229) (by decide +kernel), List.mem_of_getElem? (i := 1230) (by decide +kernel)⟩
theorem lw_p63 : lw_okq (⟨"WellLendsDepthModel", "goAsking", "(I)V"⟩, 83) := ⟨⟨by decide +kernel, by decide +kernel⟩, List.mem_of_getElem? (i := 780) (by decide +kernel), List.mem_of_getElem? (i := 1234) (by decide +kernel), List.mem_of_getElem? (i := 1235) (by decide +kernel)⟩
def lw_privs_4 : List (MethodName × Nat) := [(⟨"WellLendsDepthModel", "begin", "()I"⟩, 83), (⟨"WellLendsDepthModel", "behind", "()I"⟩, 83), (⟨"WellLendsDepthModel", "holds", "(II)Z"⟩, 83), (⟨"WellLendsDepthModel", "factOf", "(II)I"⟩, 83), (⟨"WellLendsDepthModel", "asks", "(I)I"⟩, 83), (⟨"WellLendsDepthModel", "mark", "()I"⟩, 83), (⟨"WellLendsDepthModel", "lastOf", "(II)I"⟩, 83), (⟨"WellLendsDepthModel", "keeps", "(I)I"⟩, 83), (⟨"WellLendsDepthModel", "staysAway", "(I)Z"⟩, 83), (⟨"WellLendsDepthModel", "brings", "(I)I"⟩, 83), (⟨"WellLendsDepthModel", "allOwes", "()I"⟩, 83), (⟨"WellLendsDepthModel", "isDays", "(I)Z"⟩, 83), (⟨"WellLendsDepthModel", "goDays", "(I)V"⟩, 83), (⟨"WellLendsDepthModel", "goDay", "()V"⟩, 83), (⟨"WellLendsDepthModel", "goHaving", "(I)V"⟩, 83), (⟨"WellLendsDepthModel", "goAsking", "(I)V"⟩, 83)]
theorem lw_r4 : ∀ q ∈ lw_privs_4, lw_okq q := List.forall_mem_cons.mpr ⟨lw_p48, List.forall_mem_cons.mpr ⟨lw_p49, List.forall_mem_cons.mpr ⟨lw_p50, List.forall_mem_cons.mpr ⟨lw_p51, List.forall_mem_cons.mpr ⟨lw_p52, List.forall_mem_cons.mpr ⟨lw_p53, List.forall_mem_cons.mpr ⟨lw_p54, List.forall_mem_cons.mpr ⟨lw_p55, List.forall_mem_cons.mpr ⟨lw_p56, List.forall_mem_cons.mpr ⟨lw_p57, List.forall_mem_cons.mpr ⟨lw_p58, List.forall_mem_cons.mpr ⟨lw_p59, List.forall_mem_cons.mpr ⟨lw_p60, List.forall_mem_cons.mpr ⟨lw_p61, List.forall_mem_cons.mpr ⟨lw_p62, List.forall_mem_cons.mpr ⟨lw_p63, fun _ h => absurd h List.not_mem_nil⟩⟩⟩⟩⟩⟩⟩⟩⟩⟩⟩⟩⟩⟩⟩⟩
theorem lw_p64 : lw_okq (⟨"WellLendsDepthModel", "save", "()V"⟩, 83) := ⟨⟨by decide +kernel, by decide +kernel⟩, List.mem_of_getElem? (i := 780) (by decide +kernel), List.mem_of_getElem? (i := 1242) (by decide +kernel), List.mem_of_getElem? (i := 1243) (by decide +kernel)⟩
theorem lw_p65 : lw_okq (⟨"WellLendsDepthModel", "putBack", "()V"⟩, 83) := ⟨⟨by decide +kernel, by decide +kernel⟩, List.mem_of_getElem? (i := 780) (by decide +kernel), List.mem_of_getElem? (i := 1247) (by decide +kernel), List.mem_of_getElem? (i := 1248) (by decide +kernel)⟩
theorem lw_p66 : lw_okq (⟨"WellLendsDepthModel", "callOf", "()I"⟩, 83) := ⟨⟨by decide +kernel, by decide +kernel⟩, List.mem_of_getElem? (i := 780) (by decide +kernel), List.mem_of_getElem? (i := 1263) (by decide +kernel), List.mem_of_getElem? (i := 1264) (by decide +kernel)⟩
theorem lw_p67 : lw_okq (⟨"WellLendsDepthModel", "turned", "()I"⟩, 83) := ⟨⟨by decide +kernel, by decide +kernel⟩, List.mem_of_getElem? (i := 780) (by decide +kernel), List.mem_of_getElem? (i := 1267) (by decide +kernel), List.mem_of_getElem? (i := 1268) (by decide +kernel)⟩
theorem lw_p68 : lw_okq (⟨"WellLendsDepthModel", "turnedThen", "()I"⟩, 83) := ⟨⟨by decide +kernel, by decide +kernel⟩, List.mem_of_getElem? (i := 780) (by decide +kernel), List.mem_of_getElem? (i := 1271) (by decide +kernel), List.mem_of_getElem? (i := 1272) (by decide +kernel)⟩
theorem lw_p69 : lw_okq (⟨"WellLendsDepthModel", "aheadOf", "()I"⟩, 83) := ⟨⟨by decide +kernel, by decide +kernel⟩, List.mem_of_getElem? (i := 780) (by decide +kernel), List.mem_of_getElem? (i := 1275) (by decide +kernel), List.mem_of_getElem? (i := 1276) (by decide +kernel)⟩
theorem lw_p70 : lw_okq (⟨"WellLendsDepthModel", "markOf", "()I"⟩, 83) := ⟨⟨by decide +kernel, by decide +kernel⟩, List.mem_of_getElem? (i := 780) (by decide +kernel), List.mem_of_getElem? (i := 1279) (by decide +kernel), List.mem_of_getElem? (i := 1280) (by decide +kernel)⟩
theorem lw_p71 : lw_okq (⟨"WellLendsDepthModel", "isSeen", "()Z"⟩, 83) := ⟨⟨by decide +kernel, by decide +kernel⟩, List.mem_of_getElem? (i := 780) (by decide +kernel), List.mem_of_getElem? (i := 1299) (by decide +kernel), List.mem_of_getElem? (i := 1300) (by decide +kernel)⟩
theorem lw_p72 : lw_okq (⟨"WellLendsDepthModel", "lowest", "(III)J"⟩, 83) := ⟨⟨by decide +kernel, by decide +kernel⟩, List.mem_of_getElem? (i := 780) (by decide +kernel), List.mem_of_getElem? (i := 1312) (by decide +kernel), List.mem_of_getElem? (i := 1313) (by decide +kernel)⟩
theorem lw_p73 : lw_okq (⟨"WellLendsDepthModel", "divisor", "(II)I"⟩, 83) := ⟨⟨by decide +kernel, by decide +kernel⟩, List.mem_of_getElem? (i := 780) (by decide +kernel), List.mem_of_getElem? (i := 1316) (by decide +kernel), List.mem_of_getElem? (i := 1317) (by decide +kernel)⟩
theorem lw_p74 : lw_okq (⟨"WellLendsDepthModel", "isTape", "(I)Z"⟩, 83) := ⟨⟨by decide +kernel, by decide +kernel⟩, List.mem_of_getElem? (i := 780) (by decide +kernel), List.mem_of_getElem? (i := 1344) (by decide +kernel), List.mem_of_getElem? (i := 1345) (by decide +kernel)⟩
theorem lw_p75 : lw_okq (⟨"WellLendsDepthModel", "sinksAct", "(II)I"⟩, 83) := ⟨⟨by decide +kernel, by decide +kernel⟩, List.mem_of_getElem? (i := 780) (by decide +kernel), List.mem_of_getElem? (i := 1360) (by decide +kernel), List.mem_of_getElem? (i := 1361) (by decide +kernel)⟩
theorem lw_p76 : lw_okq (⟨"WellLendsDepthModel", "body", "(I)V"⟩, 83) := ⟨⟨by decide +kernel, by decide +kernel⟩, List.mem_of_getElem? (i := 780) (by decide +kernel), List.mem_of_getElem? (i := 1364) (by decide +kernel), List.mem_of_getElem? (i := 1365) (by decide +kernel)⟩
theorem lw_p77 : lw_okq (⟨"WellLendsDepthModel", "borrowerSinks", "(II)I"⟩, 83) := ⟨⟨by decide +kernel, by decide +kernel⟩, List.mem_of_getElem? (i := 780) (by decide +kernel), List.mem_of_getElem? (i := 1368) (by decide +kernel), List.mem_of_getElem? (i := 1369) (by decide +kernel)⟩
theorem lw_p78 : lw_okq (⟨"WellLendsDepthModel", "borrowsAct", "(II)I"⟩, 83) := ⟨⟨by decide +kernel, by decide +kernel⟩, List.mem_of_getElem? (i := 780) (by decide +kernel), List.mem_of_getElem? (i := 1372) (by decide +kernel), List.mem_of_getElem? (i := 1373) (by decide +kernel)⟩
theorem lw_p79 : lw_okq (⟨"WellLendsDepthModel", "lateBorrows", "(II)I"⟩, 83) := ⟨⟨by decide +kernel, by decide +kernel⟩, List.mem_of_getElem? (i := 780) (by decide +kernel), List.mem_of_getElem? (i := 1376) (by decide +kernel), List.mem_of_getElem? (i := 1377) (by decide +kernel)⟩
def lw_privs_5 : List (MethodName × Nat) := [(⟨"WellLendsDepthModel", "save", "()V"⟩, 83), (⟨"WellLendsDepthModel", "putBack", "()V"⟩, 83), (⟨"WellLendsDepthModel", "callOf", "()I"⟩, 83), (⟨"WellLendsDepthModel", "turned", "()I"⟩, 83), (⟨"WellLendsDepthModel", "turnedThen", "()I"⟩, 83), (⟨"WellLendsDepthModel", "aheadOf", "()I"⟩, 83), (⟨"WellLendsDepthModel", "markOf", "()I"⟩, 83), (⟨"WellLendsDepthModel", "isSeen", "()Z"⟩, 83), (⟨"WellLendsDepthModel", "lowest", "(III)J"⟩, 83), (⟨"WellLendsDepthModel", "divisor", "(II)I"⟩, 83), (⟨"WellLendsDepthModel", "isTape", "(I)Z"⟩, 83), (⟨"WellLendsDepthModel", "sinksAct", "(II)I"⟩, 83), (⟨"WellLendsDepthModel", "body", "(I)V"⟩, 83), (⟨"WellLendsDepthModel", "borrowerSinks", "(II)I"⟩, 83), (⟨"WellLendsDepthModel", "borrowsAct", "(II)I"⟩, 83), (⟨"WellLendsDepthModel", "lateBorrows", "(II)I"⟩, 83)]
theorem lw_r5 : ∀ q ∈ lw_privs_5, lw_okq q := List.forall_mem_cons.mpr ⟨lw_p64, List.forall_mem_cons.mpr ⟨lw_p65, List.forall_mem_cons.mpr ⟨lw_p66, List.forall_mem_cons.mpr ⟨lw_p67, List.forall_mem_cons.mpr ⟨lw_p68, List.forall_mem_cons.mpr ⟨lw_p69, List.forall_mem_cons.mpr ⟨lw_p70, List.forall_mem_cons.mpr ⟨lw_p71, List.forall_mem_cons.mpr ⟨lw_p72, List.forall_mem_cons.mpr ⟨lw_p73, List.forall_mem_cons.mpr ⟨lw_p74, List.forall_mem_cons.mpr ⟨lw_p75, List.forall_mem_cons.mpr ⟨lw_p76, List.forall_mem_cons.mpr ⟨lw_p77, List.forall_mem_cons.mpr ⟨lw_p78, List.forall_mem_cons.mpr ⟨lw_p79, fun _ h => absurd h List.not_mem_nil⟩⟩⟩⟩⟩⟩⟩⟩⟩⟩⟩⟩⟩⟩⟩⟩
theorem lw_p80 : lw_okq (⟨"WellLendsDepthModel", "borrowerBorrows", "(II)I"⟩, 83) := ⟨⟨by decide +kernel, by decide +kernel⟩, List.mem_of_getElem? (i := 780) (by decide +kernel), List.mem_of_getElem? (i := 1380) (by decide +kernel), List.mem_of_getElem? (i := 1381) (by decide +kernel)⟩
theorem lw_p81 : lw_okq (⟨"WellLendsDepthModel", "tellsAct", "(II)I"⟩, 83) := ⟨⟨by decide +kernel, by decide +kernel⟩, List.mem_of_getElem? (i := 780) (by decide +kernel), List.mem_of_getElem? (i := 1384) (by decide +kernel), List.mem_of_getElem? (i := 1385) (by decide +kernel)⟩
theorem lw_p82 : lw_okq (⟨"WellLendsDepthModel", "borrowerTells", "(II)I"⟩, 83) := ⟨⟨by decide +kernel, by decide +kernel⟩, List.mem_of_getElem? (i := 780) (by decide +kernel), List.mem_of_getElem? (i := 1388) (by decide +kernel), List.mem_of_getElem? (i := 1389) (by decide +kernel)⟩
theorem lw_p83 : lw_okq (⟨"WellLendsDepthModel", "narrow", "(IJ)J"⟩, 83) := ⟨⟨by decide +kernel, by decide +kernel⟩, List.mem_of_getElem? (i := 780) (by decide +kernel), List.mem_of_getElem? (i := 1412) (by decide +kernel), List.mem_of_getElem? (i := 1413) (by decide +kernel)⟩
def lw_privs_6 : List (MethodName × Nat) := [(⟨"WellLendsDepthModel", "borrowerBorrows", "(II)I"⟩, 83), (⟨"WellLendsDepthModel", "tellsAct", "(II)I"⟩, 83), (⟨"WellLendsDepthModel", "borrowerTells", "(II)I"⟩, 83), (⟨"WellLendsDepthModel", "narrow", "(IJ)J"⟩, 83)]
theorem lw_r6 : ∀ q ∈ lw_privs_6, lw_okq q := List.forall_mem_cons.mpr ⟨lw_p80, List.forall_mem_cons.mpr ⟨lw_p81, List.forall_mem_cons.mpr ⟨lw_p82, List.forall_mem_cons.mpr ⟨lw_p83, fun _ h => absurd h List.not_mem_nil⟩⟩⟩⟩
def lw_privs : List (MethodName × Nat) := lw_privs_1 ++ (lw_privs_2 ++ (lw_privs_3 ++ (lw_privs_4 ++ (lw_privs_5 ++ (lw_privs_6)))))
def lw_tbl : List Cond := k2_sels lw_privs ++ tables_1
theorem lw_privs_ok : ∀ q ∈ lw_privs, lw_okq q := by
  show ∀ q ∈ lw_privs_1 ++ (lw_privs_2 ++ (lw_privs_3 ++ (lw_privs_4 ++ (lw_privs_5 ++ (lw_privs_6))))), lw_okq q
  exact List.forall_mem_append.mpr ⟨lw_r1, List.forall_mem_append.mpr ⟨lw_r2, List.forall_mem_append.mpr ⟨lw_r3, List.forall_mem_append.mpr ⟨lw_r4, List.forall_mem_append.mpr ⟨lw_r5, lw_r6⟩⟩⟩⟩⟩
end
section
/-! the classes: names, fields in the order of the slots, types; written by wip/whole/gen_names.py -/
def gT : List Cond := lw_tbl.filter goodWord
theorem gm {w : Cond} (i : Nat) (h : lw_tbl[i]? = some w) (g : goodWord w = true) : w ∈ gT := List.mem_filter.mpr ⟨List.mem_of_getElem? h, g⟩
theorem gT_sub {w : Cond} (h : w ∈ gT) : w ∈ lw_tbl := (List.mem_filter.mp h).1
theorem gT_good {w : Cond} (h : w ∈ gT) : goodWord w = true := (List.mem_filter.mp h).2
theorem gin {ws : List Cond} (ps : List Nat) (hp : ws = ps.filterMap (fun i => lw_tbl[i]?)) (g : ws.all goodWord = true) : ∀ w ∈ ws, w ∈ gT := by
  intro w hw
  have h2 := List.all_eq_true.mp g w hw
  rw [hp] at hw
  obtain ⟨i, -, hi⟩ := List.mem_filterMap.mp hw
  exact gm i hi h2
def zR0 : String := "WellLendsDepth$Actor"
def zT0 : u_T := fun k => match k with
  | 0 => ("WellLendsDepth$Actor", "ran", "I", false)
  | 1 => ("WellLendsDepth$Actor", "trace", "[I", true)
  | 2 => ("WellLendsDepth$Actor", "number", "I", false)
  | 3 => ("WellLendsDepth$Actor", "kind", "I", false)
  | _ => ("WellLendsDepth$Actor", "v", "I", false)
def zty0 : Nat → FieldType := fun k => match k with
  | 0 => .int
  | 1 => .array .int
  | 2 => .int
  | 3 => .int
  | _ => .int
theorem znm0 : ∀ a, a < 5 → ∀ b, b < 5 → a ≠ b → (zT0 a).2.1 ≠ (zT0 b).2.1 := by decide +kernel
theorem zok0 : ∀ k, k < 5 → parseFieldDescriptor (zT0 k).2.2.1 = some (zty0 k) := by decide +kernel
theorem zin0 : ∀ w ∈ u_ws zR0 zT0 5, w ∈ gT := gin [305, 307, 309, 311, 313] (by decide +kernel) (by decide +kernel)
def zR1 : String := "WellLendsDepth$Country"
def zT1 : u_T := fun k => match k with
  | 0 => ("WellLendsDepth$Country", "mark", "I", false)
  | 1 => ("WellLendsDepth$Country", "spring", "I", false)
  | 2 => ("WellLendsDepth$Country", "fine", "I", false)
  | 3 => ("WellLendsDepth$Country", "prices", "I", false)
  | 4 => ("WellLendsDepth$Country", "used", "I", false)
  | 5 => ("WellLendsDepth$Country", "price", "[I", true)
  | 6 => ("WellLendsDepth$Country", "ends", "[I", true)
  | 7 => ("WellLendsDepth$Country", "step", "[I", true)
  | 8 => ("WellLendsDepth$Country", "about", "[I", true)
  | 9 => ("WellLendsDepth$Country", "number", "[I", true)
  | _ => ("WellLendsDepth$Country", "facts", "[I", true)
def zty1 : Nat → FieldType := fun k => match k with
  | 0 => .int
  | 1 => .int
  | 2 => .int
  | 3 => .int
  | 4 => .int
  | 5 => .array .int
  | 6 => .array .int
  | 7 => .array .int
  | 8 => .array .int
  | 9 => .array .int
  | _ => .array .int
theorem znm1 : ∀ a, a < 11 → ∀ b, b < 11 → a ≠ b → (zT1 a).2.1 ≠ (zT1 b).2.1 := by decide +kernel
theorem zok1 : ∀ k, k < 11 → parseFieldDescriptor (zT1 k).2.2.1 = some (zty1 k) := by decide +kernel
theorem zin1 : ∀ w ∈ u_ws zR1 zT1 11, w ∈ gT := gin [250, 252, 254, 256, 258, 260, 262, 264, 266, 268, 270] (by decide +kernel) (by decide +kernel)
def zR2 : String := "WellLendsDepth$Hand"
def zT2 : u_T := fun k => match k with
  | 0 => ("WellLendsDepth$Hand", "seenCount", "I", false)
  | 1 => ("WellLendsDepth$Hand", "yearCount", "I", false)
  | 2 => ("WellLendsDepth$Hand", "bookCount", "I", false)
  | 3 => ("WellLendsDepth$Hand", "seenDepth", "[I", true)
  | 4 => ("WellLendsDepth$Hand", "seenBehind", "[I", true)
  | 5 => ("WellLendsDepth$Hand", "yearWhat", "[I", true)
  | 6 => ("WellLendsDepth$Hand", "yearWho", "[I", true)
  | 7 => ("WellLendsDepth$Hand", "bookWho", "[I", true)
  | _ => ("WellLendsDepth$Hand", "bookOwes", "[I", true)
def zty2 : Nat → FieldType := fun k => match k with
  | 0 => .int
  | 1 => .int
  | 2 => .int
  | 3 => .array .int
  | 4 => .array .int
  | 5 => .array .int
  | 6 => .array .int
  | 7 => .array .int
  | _ => .array .int
theorem znm2 : ∀ a, a < 9 → ∀ b, b < 9 → a ≠ b → (zT2 a).2.1 ≠ (zT2 b).2.1 := by decide +kernel
theorem zok2 : ∀ k, k < 9 → parseFieldDescriptor (zT2 k).2.2.1 = some (zty2 k) := by decide +kernel
theorem zin2 : ∀ w ∈ u_ws zR2 zT2 9, w ∈ gT := gin [200, 202, 204, 206, 208, 210, 212, 214, 216] (by decide +kernel) (by decide +kernel)
def zR3 : String := "WellLendsDepth$Reader"
def zT3 : u_T := fun k => match k with
  | 0 => ("WellLendsDepth$Reader", "length", "I", false)
  | 1 => ("WellLendsDepth$Reader", "at", "I", false)
  | 2 => ("WellLendsDepth$Reader", "faulty", "Z", false)
  | 3 => ("WellLendsDepth$Reader", "text", "[I", true)
  | _ => ("WellLendsDepth$Reader", "country", "LWellLendsDepth$Country;", false)
def zty3 : Nat → FieldType := fun k => match k with
  | 0 => .int
  | 1 => .int
  | 2 => .boolean
  | 3 => .array .int
  | _ => .object "WellLendsDepth$Country"
theorem znm3 : ∀ a, a < 5 → ∀ b, b < 5 → a ≠ b → (zT3 a).2.1 ≠ (zT3 b).2.1 := by decide +kernel
theorem zok3 : ∀ k, k < 5 → parseFieldDescriptor (zT3 k).2.2.1 = some (zty3 k) := by decide +kernel
theorem zin3 : ∀ w ∈ u_ws zR3 zT3 5, w ∈ gT := gin [279, 281, 283, 285, 287] (by decide +kernel) (by decide +kernel)
def zR4 : String := "WellLendsDepth$Tapes"
def zT4 : u_T := fun k => match k with
  | 0 => ("WellLendsDepth$Tapes", "sort", "[I", true)
  | 1 => ("WellLendsDepth$Tapes", "size", "[I", true)
  | _ => ("WellLendsDepth$Tapes", "items", "[[J", true)
def zty4 : Nat → FieldType := fun k => match k with
  | 0 => .array .int
  | 1 => .array .int
  | _ => .array (.array .long)
theorem znm4 : ∀ a, a < 3 → ∀ b, b < 3 → a ≠ b → (zT4 a).2.1 ≠ (zT4 b).2.1 := by decide +kernel
theorem zok4 : ∀ k, k < 3 → parseFieldDescriptor (zT4 k).2.2.1 = some (zty4 k) := by decide +kernel
theorem zin4 : ∀ w ∈ u_ws zR4 zT4 3, w ∈ gT := gin [329, 331, 333] (by decide +kernel) (by decide +kernel)
def zR5 : String := "WellLendsDepth$Well"
def zT5 : u_T := fun k => match k with
  | 0 => ("WellLendsDepth$Well", "depth", "I", false)
  | 1 => ("WellLendsDepth$Well", "day", "I", false)
  | 2 => ("WellLendsDepth$Well", "count", "I", false)
  | 3 => ("WellLendsDepth$Well", "turned", "I", false)
  | 4 => ("WellLendsDepth$Well", "kind", "[I", true)
  | 5 => ("WellLendsDepth$Well", "v", "[I", true)
  | 6 => ("WellLendsDepth$Well", "wants", "[I", true)
  | 7 => ("WellLendsDepth$Well", "every", "[I", true)
  | 8 => ("WellLendsDepth$Well", "has", "[I", true)
  | 9 => ("WellLendsDepth$Well", "left", "[I", true)
  | 10 => ("WellLendsDepth$Well", "owes", "[I", true)
  | 11 => ("WellLendsDepth$Well", "sent", "[I", true)
  | 12 => ("WellLendsDepth$Well", "line", "[I", true)
  | _ => ("WellLendsDepth$Well", "rows", "[I", true)
def zty5 : Nat → FieldType := fun k => match k with
  | 0 => .int
  | 1 => .int
  | 2 => .int
  | 3 => .int
  | 4 => .array .int
  | 5 => .array .int
  | 6 => .array .int
  | 7 => .array .int
  | 8 => .array .int
  | 9 => .array .int
  | 10 => .array .int
  | 11 => .array .int
  | 12 => .array .int
  | _ => .array .int
theorem znm5 : ∀ a, a < 14 → ∀ b, b < 14 → a ≠ b → (zT5 a).2.1 ≠ (zT5 b).2.1 := by decide +kernel
theorem zok5 : ∀ k, k < 14 → parseFieldDescriptor (zT5 k).2.2.1 = some (zty5 k) := by decide +kernel
theorem zin5 : ∀ w ∈ u_ws zR5 zT5 14, w ∈ gT := gin [148, 150, 152, 154, 156, 158, 160, 162, 164, 166, 168, 170, 172, 174] (by decide +kernel) (by decide +kernel)
def zR6 : String := "WellLendsDepth"
def zT6 : u_T := fun k => match k with
  | 0 => ("WellLendsDepth", "now", "LWellLendsDepth$Well;", true)
  | 1 => ("WellLendsDepth", "trial", "LWellLendsDepth$Well;", true)
  | 2 => ("WellLendsDepth", "kept", "LWellLendsDepth$Well;", true)
  | 3 => ("WellLendsDepth", "hand", "LWellLendsDepth$Hand;", true)
  | 4 => ("WellLendsDepth", "keptHand", "LWellLendsDepth$Hand;", true)
  | 5 => ("WellLendsDepth", "reader", "LWellLendsDepth$Reader;", true)
  | 6 => ("WellLendsDepth", "plain", "LWellLendsDepth$Country;", true)
  | 7 => ("WellLendsDepth", "countries", "[LWellLendsDepth$Country;", true)
  | 8 => ("WellLendsDepth", "actor", "LWellLendsDepth$Actor;", true)
  | 9 => ("WellLendsDepth", "tapes", "LWellLendsDepth$Tapes;", true)
  | 10 => ("WellLendsDepth", "made", "I", false)
  | 11 => ("WellLendsDepth", "holding", "I", false)
  | 12 => ("WellLendsDepth", "keptHolding", "I", false)
  | _ => ("WellLendsDepth", "imaged", "Z", false)
def zty6 : Nat → FieldType := fun k => match k with
  | 0 => .object "WellLendsDepth$Well"
  | 1 => .object "WellLendsDepth$Well"
  | 2 => .object "WellLendsDepth$Well"
  | 3 => .object "WellLendsDepth$Hand"
  | 4 => .object "WellLendsDepth$Hand"
  | 5 => .object "WellLendsDepth$Reader"
  | 6 => .object "WellLendsDepth$Country"
  | 7 => .array (.object "WellLendsDepth$Country")
  | 8 => .object "WellLendsDepth$Actor"
  | 9 => .object "WellLendsDepth$Tapes"
  | 10 => .int
  | 11 => .int
  | 12 => .int
  | _ => .boolean
theorem znm6 : ∀ a, a < 14 → ∀ b, b < 14 → a ≠ b → (zT6 a).2.1 ≠ (zT6 b).2.1 := by decide +kernel
theorem zok6 : ∀ k, k < 14 → parseFieldDescriptor (zT6 k).2.2.1 = some (zty6 k) := by decide +kernel
theorem zin6 : ∀ w ∈ u_ws zR6 zT6 14, w ∈ gT := gin [351, 353, 355, 357, 359, 361, 363, 365, 367, 369, 371, 373, 375, 377] (by decide +kernel) (by decide +kernel)
def zR7 : String := "WellLendsDepthModel"
def zT7 : u_T := fun k => match k with
  | 0 => ("WellLendsDepthModel", "deep", "I", false)
  | 1 => ("WellLendsDepthModel", "borrowers", "I", false)
  | 2 => ("WellLendsDepthModel", "days", "I", false)
  | 3 => ("WellLendsDepthModel", "kind", "[I", true)
  | 4 => ("WellLendsDepthModel", "v", "[I", true)
  | 5 => ("WellLendsDepthModel", "wants", "[I", true)
  | 6 => ("WellLendsDepthModel", "every", "[I", true)
  | 7 => ("WellLendsDepthModel", "has", "[I", true)
  | 8 => ("WellLendsDepthModel", "left", "[I", true)
  | 9 => ("WellLendsDepthModel", "owes", "[I", true)
  | 10 => ("WellLendsDepthModel", "sent", "[I", true)
  | 11 => ("WellLendsDepthModel", "rows", "[I", true)
  | 12 => ("WellLendsDepthModel", "line", "[I", true)
  | 13 => ("WellLendsDepthModel", "countries", "I", false)
  | 14 => ("WellLendsDepthModel", "the", "I", false)
  | 15 => ("WellLendsDepthModel", "fed", "I", false)
  | 16 => ("WellLendsDepthModel", "at", "I", false)
  | 17 => ("WellLendsDepthModel", "digits", "I", false)
  | 18 => ("WellLendsDepthModel", "text", "[I", true)
  | 19 => ("WellLendsDepthModel", "clauses", "[I", true)
  | 20 => ("WellLendsDepthModel", "word", "[I", true)
  | 21 => ("WellLendsDepthModel", "number", "[I", true)
  | 22 => ("WellLendsDepthModel", "from", "[I", true)
  | 23 => ("WellLendsDepthModel", "to", "[I", true)
  | 24 => ("WellLendsDepthModel", "sign", "[I", true)
  | 25 => ("WellLendsDepthModel", "waits", "[I", true)
  | 26 => ("WellLendsDepthModel", "signs", "I", false)
  | 27 => ("WellLendsDepthModel", "waiting", "I", false)
  | 28 => ("WellLendsDepthModel", "open", "I", false)
  | 29 => ("WellLendsDepthModel", "letters", "[I", true)
  | 30 => ("WellLendsDepthModel", "markInMind", "I", false)
  | 31 => ("WellLendsDepthModel", "awayInMind", "I", false)
  | 32 => ("WellLendsDepthModel", "pile", "[Z", true)
  | 33 => ("WellLendsDepthModel", "mostSent", "I", false)
  | 34 => ("WellLendsDepthModel", "turnedAway", "I", false)
  | 35 => ("WellLendsDepthModel", "keptDeep", "I", false)
  | 36 => ("WellLendsDepthModel", "keptDays", "I", false)
  | 37 => ("WellLendsDepthModel", "keptWants", "[I", true)
  | 38 => ("WellLendsDepthModel", "keptEvery", "[I", true)
  | 39 => ("WellLendsDepthModel", "keptHas", "[I", true)
  | 40 => ("WellLendsDepthModel", "keptLeft", "[I", true)
  | 41 => ("WellLendsDepthModel", "keptOwes", "[I", true)
  | 42 => ("WellLendsDepthModel", "keptSent", "[I", true)
  | 43 => ("WellLendsDepthModel", "keptLine", "[I", true)
  | 44 => ("WellLendsDepthModel", "seen", "I", false)
  | 45 => ("WellLendsDepthModel", "seenDepth", "[I", true)
  | 46 => ("WellLendsDepthModel", "seenWhen", "[I", true)
  | 47 => ("WellLendsDepthModel", "years", "I", false)
  | 48 => ("WellLendsDepthModel", "books", "I", false)
  | 49 => ("WellLendsDepthModel", "yearWhat", "[I", true)
  | 50 => ("WellLendsDepthModel", "yearWho", "[I", true)
  | 51 => ("WellLendsDepthModel", "bookWho", "[I", true)
  | 52 => ("WellLendsDepthModel", "bookOwes", "[I", true)
  | 53 => ("WellLendsDepthModel", "hasImage", "Z", false)
  | 54 => ("WellLendsDepthModel", "imageThe", "I", false)
  | 55 => ("WellLendsDepthModel", "imageDeep", "I", false)
  | 56 => ("WellLendsDepthModel", "imageBorrowers", "I", false)
  | 57 => ("WellLendsDepthModel", "imageDays", "I", false)
  | 58 => ("WellLendsDepthModel", "imageSeen", "I", false)
  | 59 => ("WellLendsDepthModel", "imageYears", "I", false)
  | 60 => ("WellLendsDepthModel", "imageBooks", "I", false)
  | 61 => ("WellLendsDepthModel", "imageKind", "[I", true)
  | 62 => ("WellLendsDepthModel", "imageV", "[I", true)
  | 63 => ("WellLendsDepthModel", "imageWants", "[I", true)
  | 64 => ("WellLendsDepthModel", "imageEvery", "[I", true)
  | 65 => ("WellLendsDepthModel", "imageHas", "[I", true)
  | 66 => ("WellLendsDepthModel", "imageLeft", "[I", true)
  | 67 => ("WellLendsDepthModel", "imageOwes", "[I", true)
  | 68 => ("WellLendsDepthModel", "imageSent", "[I", true)
  | 69 => ("WellLendsDepthModel", "imageLine", "[I", true)
  | 70 => ("WellLendsDepthModel", "imageRows", "[I", true)
  | 71 => ("WellLendsDepthModel", "imageSeenDepth", "[I", true)
  | 72 => ("WellLendsDepthModel", "imageWhen", "[I", true)
  | 73 => ("WellLendsDepthModel", "imageWhat", "[I", true)
  | 74 => ("WellLendsDepthModel", "imageWho", "[I", true)
  | 75 => ("WellLendsDepthModel", "imageBookWho", "[I", true)
  | 76 => ("WellLendsDepthModel", "imageBookOwes", "[I", true)
  | 77 => ("WellLendsDepthModel", "ran", "I", false)
  | 78 => ("WellLendsDepthModel", "bodies", "[I", true)
  | 79 => ("WellLendsDepthModel", "sort", "[I", true)
  | 80 => ("WellLendsDepthModel", "length", "[I", true)
  | 81 => ("WellLendsDepthModel", "item", "[J", true)
  | _ => ("WellLendsDepthModel", "aside", "[J", true)
def zty7 : Nat → FieldType := fun k => match k with
  | 0 => .int
  | 1 => .int
  | 2 => .int
  | 3 => .array .int
  | 4 => .array .int
  | 5 => .array .int
  | 6 => .array .int
  | 7 => .array .int
  | 8 => .array .int
  | 9 => .array .int
  | 10 => .array .int
  | 11 => .array .int
  | 12 => .array .int
  | 13 => .int
  | 14 => .int
  | 15 => .int
  | 16 => .int
  | 17 => .int
  | 18 => .array .int
  | 19 => .array .int
  | 20 => .array .int
  | 21 => .array .int
  | 22 => .array .int
  | 23 => .array .int
  | 24 => .array .int
  | 25 => .array .int
  | 26 => .int
  | 27 => .int
  | 28 => .int
  | 29 => .array .int
  | 30 => .int
  | 31 => .int
  | 32 => .array .boolean
  | 33 => .int
  | 34 => .int
  | 35 => .int
  | 36 => .int
  | 37 => .array .int
  | 38 => .array .int
  | 39 => .array .int
  | 40 => .array .int
  | 41 => .array .int
  | 42 => .array .int
  | 43 => .array .int
  | 44 => .int
  | 45 => .array .int
  | 46 => .array .int
  | 47 => .int
  | 48 => .int
  | 49 => .array .int
  | 50 => .array .int
  | 51 => .array .int
  | 52 => .array .int
  | 53 => .boolean
  | 54 => .int
  | 55 => .int
  | 56 => .int
  | 57 => .int
  | 58 => .int
  | 59 => .int
  | 60 => .int
  | 61 => .array .int
  | 62 => .array .int
  | 63 => .array .int
  | 64 => .array .int
  | 65 => .array .int
  | 66 => .array .int
  | 67 => .array .int
  | 68 => .array .int
  | 69 => .array .int
  | 70 => .array .int
  | 71 => .array .int
  | 72 => .array .int
  | 73 => .array .int
  | 74 => .array .int
  | 75 => .array .int
  | 76 => .array .int
  | 77 => .int
  | 78 => .array .int
  | 79 => .array .int
  | 80 => .array .int
  | 81 => .array .long
  | _ => .array .long
theorem znm7 : ∀ a, a < 83 → ∀ b, b < 83 → a ≠ b → (zT7 a).2.1 ≠ (zT7 b).2.1 := by decide +kernel
theorem zok7 : ∀ k, k < 83 → parseFieldDescriptor (zT7 k).2.2.1 = some (zty7 k) := by decide +kernel
theorem zin7 : ∀ w ∈ u_ws zR7 zT7 83, w ∈ gT := gin [952, 954, 956, 958, 960, 962, 964, 966, 968, 970, 972, 974, 976, 978, 980, 982, 984, 986, 988, 990, 992, 994, 996, 998, 1000, 1002, 1004, 1006, 1008, 1010, 1012, 1014, 1016, 1018, 1020, 1022, 1024, 1026, 1028, 1030, 1032, 1034, 1036, 1038, 1040, 1042, 1044, 1046, 1048, 1050, 1052, 1054, 1056, 1058, 1060, 1062, 1064, 1066, 1068, 1070, 1072, 1074, 1076, 1078, 1080, 1082, 1084, 1086, 1088, 1090, 1092, 1094, 1096, 1098, 1100, 1102, 1104, 1106, 1108, 1110, 1112, 1114, 1116] (by decide +kernel) (by decide +kernel)
abbrev cl8 : List vw_C := [(zR0, zT0, 5), (zR1, zT1, 11), (zR2, zT2, 9), (zR3, zT3, 5), (zR4, zT4, 3), (zR5, zT5, 14), (zR6, zT6, 14), (zR7, zT7, 83)]
end
section
/-! the world of both objects: written by wip/whole/gen_frame.py (tables) and by hand (frame.txt) -/
abbrev Pm : Type := Nat → Nat → Int32
abbrev Pl : Type := Nat → Nat → Int64
abbrev Mm : Type := Nat → Pm
abbrev Ml : Type := Nat → Pl
/-- the addresses, the class numbers, the classes of the arrays, other addresses -/
abbrev GE : Type := (Nat → Nat → Nat) × va_G × (Nat → ClassId) × (Nat → Nat)
def gA (G : GE) : Nat → Nat → Nat := G.1
def gD (G : GE) : va_G := G.2.1
def gC (G : GE) : Nat → ClassId := G.2.2.1
def gX (G : GE) : Nat → Nat := G.2.2.2
abbrev ix (i : Int32) : Nat := i.toNatClampNeg
/-- the kind of an object -/
def kdo : Nat → Nat
  | 0 => 6
  | 1 => 5
  | 2 => 5
  | 3 => 5
  | 4 => 2
  | 5 => 2
  | 6 => 3
  | 7 => 1
  | 8 => 1
  | 9 => 1
  | 10 => 1
  | 11 => 1
  | 12 => 1
  | 13 => 1
  | 14 => 1
  | 15 => 0
  | 16 => 4
  | 17 => 7
  | _ => 99
/-- the fields of an object of kind k -/
def fsK (k : Nat) (G : GE) (o : Nat) (S : Nat → Int32) : List Value := match k with
  | 0 => [.int (S 0), .ref (gA G o 2), .int (S 2), .int (S 3), .int (S 4)]
  | 1 => [.int (S 0), .int (S 1), .int (S 2), .int (S 3), .int (S 4), .ref (gA G o 6), .ref (gA G o 7), .ref (gA G o 8), .ref (gA G o 9), .ref (gA G o 10), .ref (gA G o 11)]
  | 2 => [.int (S 0), .int (S 1), .int (S 2), .ref (gA G o 4), .ref (gA G o 5), .ref (gA G o 6), .ref (gA G o 7), .ref (gA G o 8), .ref (gA G o 9)]
  | 3 => [.int (S 0), .int (S 1), .int (S 2), .ref (gA G o 4), .ref (gA G (ix (S 4)) 0)]
  | 4 => [.ref (gA G o 1), .ref (gA G o 2), .ref (gA G o 3)]
  | 5 => [.int (S 0), .int (S 1), .int (S 2), .int (S 3), .ref (gA G o 5), .ref (gA G o 6), .ref (gA G o 7), .ref (gA G o 8), .ref (gA G o 9), .ref (gA G o 10), .ref (gA G o 11), .ref (gA G o 12), .ref (gA G o 13), .ref (gA G o 14)]
  | 6 => [.ref (gA G 1 0), .ref (gA G 2 0), .ref (gA G 3 0), .ref (gA G 4 0), .ref (gA G 5 0), .ref (gA G 6 0), .ref (gA G 7 0), .ref (gA G o 8), .ref (gA G 15 0), .ref (gA G 16 0), .int (S 10), .int (S 11), .int (S 12), .int (S 13)]
  | 7 => [.int (S 0), .int (S 1), .int (S 2), .ref (gA G o 4), .ref (gA G o 5), .ref (gA G o 6), .ref (gA G o 7), .ref (gA G o 8), .ref (gA G o 9), .ref (gA G o 10), .ref (gA G o 11), .ref (gA G o 12), .ref (gA G o 13), .int (S 13), .int (S 14), .int (S 15), .int (S 16), .int (S 17), .ref (gA G o 19), .ref (gA G o 20), .ref (gA G o 21), .ref (gA G o 22), .ref (gA G o 23), .ref (gA G o 24), .ref (gA G o 25), .ref (gA G o 26), .int (S 26), .int (S 27), .int (S 28), .ref (gA G o 30), .int (S 30), .int (S 31), .ref (gA G o 33), .int (S 33), .int (S 34), .int (S 35), .int (S 36), .ref (gA G o 38), .ref (gA G o 39), .ref (gA G o 40), .ref (gA G o 41), .ref (gA G o 42), .ref (gA G o 43), .ref (gA G o 44), .int (S 44), .ref (gA G o 46), .ref (gA G o 47), .int (S 47), .int (S 48), .ref (gA G o 50), .ref (gA G o 51), .ref (gA G o 52), .ref (gA G o 53), .int (S 53), .int (S 54), .int (S 55), .int (S 56), .int (S 57), .int (S 58), .int (S 59), .int (S 60), .ref (gA G o 62), .ref (gA G o 63), .ref (gA G o 64), .ref (gA G o 65), .ref (gA G o 66), .ref (gA G o 67), .ref (gA G o 68), .ref (gA G o 69), .ref (gA G o 70), .ref (gA G o 71), .ref (gA G o 72), .ref (gA G o 73), .ref (gA G o 74), .ref (gA G o 75), .ref (gA G o 76), .ref (gA G o 77), .int (S 77), .ref (gA G o 79), .ref (gA G o 80), .ref (gA G o 81), .ref (gA G o 82), .ref (gA G o 83)]
  | _ => []
/-- the arrays of an object of kind k, by their cells: sort (0 int, 1 long, 2 boolean, 3 Country, 4 long[]) and length -/
def atyL (k : Nat) : List (Nat × Nat × Nat) := match k with
  | 0 => [(2, 0, 20)]
  | 1 => [(6, 0, 10), (7, 0, 10), (8, 0, 100), (9, 0, 100), (10, 0, 100), (11, 0, 6)]
  | 2 => [(4, 0, 5), (5, 0, 5), (6, 0, 10), (7, 0, 10), (8, 0, 8), (9, 0, 8)]
  | 3 => [(4, 0, 100)]
  | 4 => [(1, 0, 6), (2, 0, 6), (3, 4, 6), (4, 1, 60), (5, 1, 60), (6, 1, 60), (7, 1, 60), (8, 1, 60), (9, 1, 60)]
  | 5 => [(5, 0, 6), (6, 0, 6), (7, 0, 6), (8, 0, 6), (9, 0, 6), (10, 0, 6), (11, 0, 6), (12, 0, 6), (13, 0, 6), (14, 0, 24)]
  | 6 => [(8, 3, 6)]
  | 7 => [(4, 0, 6), (5, 0, 6), (6, 0, 6), (7, 0, 6), (8, 0, 6), (9, 0, 6), (10, 0, 6), (11, 0, 6), (12, 0, 24), (13, 0, 6), (19, 0, 100), (20, 0, 6), (21, 0, 60), (22, 0, 60), (23, 0, 60), (24, 0, 60), (25, 0, 600), (26, 0, 101), (30, 0, 23), (33, 2, 100), (38, 0, 6), (39, 0, 6), (40, 0, 6), (41, 0, 6), (42, 0, 6), (43, 0, 6), (44, 0, 6), (46, 0, 5), (47, 0, 5), (50, 0, 10), (51, 0, 10), (52, 0, 8), (53, 0, 8), (62, 0, 6), (63, 0, 6), (64, 0, 6), (65, 0, 6), (66, 0, 6), (67, 0, 6), (68, 0, 6), (69, 0, 6), (70, 0, 6), (71, 0, 24), (72, 0, 5), (73, 0, 5), (74, 0, 10), (75, 0, 10), (76, 0, 8), (77, 0, 8), (79, 0, 20), (80, 0, 6), (81, 0, 6), (82, 1, 360), (83, 1, 60)]
  | _ => []
def aty (k c : Nat) : Nat × Nat := ((atyL k).lookup c).getD (9, 0)
def cls (k : Nat) : List Nat := 0 :: (atyL k).map (fun x => x.1)
/-- all cells: object, cell -/
def prs : List (Nat × Nat) := (List.range 18).flatMap fun o => (cls (kdo o)).map fun c => (o, c)
/-- what a cell holds -/
def eK (k : Nat) (G : GE) (o : Nat) (P : Pm) (Q : Pl) (c : Nat) : va_E :=
  if c = 0 then .inr (k, fsK k G o (P 0)) else
  match aty k c with
  | (0, n) => .inl (gC G 0, n, .inl (P c))
  | (1, n) => .inl (gC G 1, n, .inr (.inl (Q c)))
  | (2, n) => .inl (gC G 2, n, .inl (P c))
  | (3, n) => .inl (gC G 3, n, .inr (.inr (.inr (.inr (fun j => some (gA G (8 + j) 0))))))
  | (_, n) => .inl (gC G 4, n, .inr (.inr (.inr (.inr (fun j => some (gA G o (4 + j)))))))
theorem eK_c {k : Nat} {G : GE} {o : Nat} {P P' : Pm} {Q Q' : Pl} {c : Nat} (h : P c = P' c) (h2 : Q c = Q' c) : eK k G o P Q c = eK k G o P' Q' c := by
  unfold eK
  by_cases hc : c = 0
  · subst hc
    rw [if_pos rfl, if_pos rfl, h]
  · rw [if_neg hc, if_neg hc, h, h2]
def wl (G : GE) (σ : Mm) (lm : Ml) : va_W := prs.map fun q => (gA G q.1 q.2, eK (kdo q.1) G q.1 (σ q.1) (lm q.1) q.2)
theorem kdo_lt {o k : Nat} (h : kdo o = k) (hk : k < 8) : o < 18 := by
  by_cases h1 : o < 18
  · exact h1
  · obtain ⟨n, rfl⟩ : ∃ n, o = n + 18 := ⟨o - 18, by omega⟩
    have h2 : kdo (n + 18) = 99 := rfl
    omega
theorem prs_in {o c k : Nat} (ho : kdo o = k) (hk : k < 8) (hc : c ∈ cls k) : ∃ q0 : Nat, prs[q0]? = some (o, c) := by
  apply List.getElem?_of_mem
  exact List.mem_flatMap.mpr ⟨o, List.mem_range.mpr (kdo_lt ho hk), List.mem_map.mpr ⟨c, by rw [ho]; exact hc, rfl⟩⟩
theorem prs_nd : prs.Nodup := by decide +kernel
theorem wl_at {G : GE} {σ : Mm} {lm : Ml} {q0 o c : Nat} (h : prs[q0]? = some (o, c)) : (wl G σ lm)[q0]? = some (gA G o c, eK (kdo o) G o (σ o) (lm o) c) := by
  unfold wl
  rw [List.getElem?_map, h]
  rfl
theorem wl_set {G : GE} {σ σ' : Mm} {lm lm' : Ml} {q0 o c : Nat} {e : va_E} (h : prs[q0]? = some (o, c)) (hn : ∀ o' c' : Nat, (o' ≠ o ∨ c' ≠ c) → eK (kdo o') G o' (σ o') (lm o') c' = eK (kdo o') G o' (σ' o') (lm' o') c') (he : e = eK (kdo o) G o (σ' o) (lm' o) c) : (wl G σ lm).set q0 (gA G o c, e) = wl G σ' lm' := by
  apply List.ext_getElem?
  intro i
  have hlen : q0 < (wl G σ lm).length := (List.getElem?_eq_some_iff.mp (wl_at (G := G) (σ := σ) (lm := lm) h)).1
  rw [List.getElem?_set]
  by_cases hi : q0 = i
  · subst hi
    rw [if_pos rfl, if_pos hlen, wl_at h, he]
  · rw [if_neg hi]
    unfold wl
    rw [List.getElem?_map, List.getElem?_map]
    cases hp : prs[i]? with
    | none => rfl
    | some q =>
      obtain ⟨o', c'⟩ := q
      have hne : o' ≠ o ∨ c' ≠ c := by
        by_cases e1 : o' = o
        · refine Or.inr (fun e2 => hi ?_)
          subst e1
          subst e2
          exact (List.getElem?_inj (List.getElem?_eq_some_iff.mp h).1 prs_nd).mp (h.trans hp.symm)
        · exact Or.inl e1
      show some (_, _) = some (_, _)
      rw [hn o' c' hne]
def setO {α : Type} (σ : Nat → α) (o : Nat) (P : α) : Nat → α := fun o' => if o' = o then P else σ o'
theorem setO_s {α : Type} {σ : Nat → α} {o : Nat} {P : α} : setO σ o P o = P := if_pos rfl
theorem setO_n {α : Type} {σ : Nat → α} {o o' : Nat} {P : α} (h : o' ≠ o) : setO σ o P o' = σ o' := if_neg h
theorem setO_i {α : Type} {σ : Nat → α} {o : Nat} : setO σ o (σ o) = σ := by
  funext x
  by_cases h : x = o
  · rw [h, setO_s]
  · rw [setO_n h]
theorem setO_2 {α : Type} {σ : Nat → α} {o : Nat} {P Q : α} : setO (setO σ o P) o Q = setO σ o Q := by
  funext x
  by_cases h : x = o
  · rw [h, setO_s, setO_s]
  · rw [setO_n h, setO_n h, setO_n h]
theorem setO_x {α : Type} {σ : Nat → α} {o o2 : Nat} {P Q : α} (h : o ≠ o2) : setO (setO σ o P) o2 Q = setO (setO σ o2 Q) o P := by
  funext x
  by_cases h1 : x = o
  · subst h1
    rw [setO_n h, setO_s, setO_s]
  · by_cases h2 : x = o2
    · subst h2
      rw [setO_s, setO_n h1, setO_s]
    · rw [setO_n h2, setO_n h1, setO_n h1, setO_n h2]
/-- an int of an array, or a field (cell 0), becomes x -/
def up2 (P : Pm) (c j : Nat) (x : Int32) : Pm := setO P c (upd (P c) j x)
def up2L (P : Pl) (c j : Nat) (x : Int64) : Pl := setO P c (vp_updL (P c) j x)
theorem wl_setI {G : GE} {σ : Mm} {lm : Ml} {q0 o c : Nat} {f : Nat → Int32} (h : prs[q0]? = some (o, c)) {e : va_E} (he : e = eK (kdo o) G o (setO (σ o) c f) (lm o) c) : (wl G σ lm).set q0 (gA G o c, e) = wl G (setO σ o (setO (σ o) c f)) lm := by
  refine wl_set h (fun o' c' hne => ?_) (by rw [setO_s]; exact he)
  by_cases e1 : o' = o
  · subst e1
    rw [setO_s]
    exact eK_c (setO_n (hne.elim (fun q => absurd rfl q) id)).symm rfl
  · rw [setO_n e1]
theorem wl_setL {G : GE} {σ : Mm} {lm : Ml} {q0 o c : Nat} {f : Nat → Int64} (h : prs[q0]? = some (o, c)) {e : va_E} (he : e = eK (kdo o) G o (σ o) (setO (lm o) c f) c) : (wl G σ lm).set q0 (gA G o c, e) = wl G σ (setO lm o (setO (lm o) c f)) := by
  refine wl_set h (fun o' c' hne => ?_) (by rw [setO_s]; exact he)
  by_cases e1 : o' = o
  · subst e1
    rw [setO_s]
    exact eK_c rfl (setO_n (hne.elim (fun q => absurd rfl q) id)).symm
  · rw [setO_n e1]
/-- one part, two parts of the memory -/
def m1 (σ : Mm) (o : Nat) (P : Pm) : Mm := setO σ o P
def m2 (σ : Mm) (o : Nat) (P : Pm) (o2 : Nat) (P2 : Pm) : Mm := setO (setO σ o P) o2 P2
theorem m1_g {σ : Mm} {o : Nat} {P : Pm} : m1 σ o P o = P := setO_s
theorem m1_i {σ : Mm} {o : Nat} : m1 σ o (σ o) = σ := setO_i
theorem m1_p {σ : Mm} {o : Nat} {P Q : Pm} : setO (m1 σ o P) o Q = m1 σ o Q := setO_2
theorem m2_g2 {σ : Mm} {o o2 : Nat} {P P2 : Pm} : m2 σ o P o2 P2 o2 = P2 := setO_s
theorem m2_g1 {σ : Mm} {o o2 : Nat} {P P2 : Pm} (h : o ≠ o2) : m2 σ o P o2 P2 o = P := by unfold m2; rw [setO_n h, setO_s]
theorem m2_p2 {σ : Mm} {o o2 : Nat} {P P2 Q : Pm} : setO (m2 σ o P o2 P2) o2 Q = m2 σ o P o2 Q := setO_2
theorem m2_p1 {σ : Mm} {o o2 : Nat} {P P2 Q : Pm} (h : o ≠ o2) : setO (m2 σ o P o2 P2) o Q = m2 σ o Q o2 P2 := by
  unfold m2
  rw [setO_x (fun e => h e.symm), setO_2]
theorem m2_x {σ : Mm} {o o2 : Nat} {P P2 : Pm} (h : o ≠ o2) : m2 σ o P o2 P2 = m2 σ o2 P2 o P := setO_x h
theorem m2_i {σ : Mm} {o o2 : Nat} (h : o ≠ o2) : m2 σ o (σ o) o2 (σ o2) = σ := by unfold m2; rw [setO_i, setO_i]
theorem m2_1 {σ : Mm} {o o2 : Nat} {P P2 Q : Pm} (h : o ≠ o2) : m1 (m2 σ o P o2 P2) o Q = m2 σ o Q o2 P2 := m2_p1 h
theorem m2_2 {σ : Mm} {o o2 : Nat} {P P2 Q : Pm} : m1 (m2 σ o P o2 P2) o2 Q = m2 σ o P o2 Q := m2_p2
theorem kd_ne {a b x y : Nat} (ha : kdo a = x) (hb : kdo b = y) (h : x ≠ y) : a ≠ b := fun e => h (by rw [← ha, ← hb, e])
/-- an index within -/
def inb (i : Int32) (n : Nat) : Bool := decide (0 ≤ i) && decide (ix i < n)
theorem inb_in {i : Int32} {n : Nat} (h : inb i n = true) : vp_in i n := by
  unfold inb at h
  rw [Bool.and_eq_true, decide_eq_true_eq, decide_eq_true_eq] at h
  intro h1
  rcases h1 with h1 | h1
  · exact absurd h.1 (Int32.not_le.mpr h1)
  · exact absurd h.2 (Nat.not_lt.mpr h1)
theorem zb_n {x : Int32} (h : x = 0 ∨ x = 1) : narrow .boolean (.int x) = .int x := by rcases h with rfl | rfl <;> rfl
theorem zb_f {x : Int32} (h : x = 0 ∨ x = 1) : fits .boolean (.int x) = true := by rcases h with rfl | rfl <;> rfl
theorem zb_v {x : Int32} (h : x = 0 ∨ x = 1) : vp_nar .boolean x = x := by rcases h with rfl | rfl <;> rfl
/-- names, tests, steps of the pure functions -/
def nb {α β : Type} (a : α) (f : α → Option β) : Option β := f a
theorem nb_e {α β : Type} {a : α} {f : α → Option β} {r : β} (h : nb a f = some r) : ∃ x, x = a ∧ f x = some r := ⟨a, rfl, h⟩
theorem bn_e {α β : Type} {a : Option α} {f : α → Option β} {r : β} (h : a.bind f = some r) : ∃ x, a = some x ∧ f x = some r := Option.bind_eq_some_iff.mp h
theorem ck_e {β : Type} {b : Bool} {t : Option β} {r : β} (h : (if b = true then t else none) = some r) : b = true ∧ t = some r := by
  cases b with
  | true => exact ⟨rfl, by rwa [if_pos rfl] at h⟩
  | false => rw [if_neg (by decide)] at h; cases h
theorem ip_e {α : Type} {c : Prop} {d : Decidable c} {t e : Option α} {r : Option α} (hc : c) (h : (@ite _ c d t e) = r) : t = r := by rwa [if_pos hc] at h
theorem in_e {α : Type} {c : Prop} {d : Decidable c} {t e : Option α} {r : Option α} (hc : ¬ c) (h : (@ite _ c d t e) = r) : e = r := by rwa [if_neg hc] at h
def iter {S ρ : Type} (body : S → Option (S ⊕ ρ)) : Nat → S → Option ρ
  | 0, _ => none
  | n + 1, s => match body s with
    | none => none
    | some (.inl s') => iter body n s'
    | some (.inr r) => some r
theorem iter_w {S ρ : Type} {body : S → Option (S ⊕ ρ)} {P : S → Prop} {x : ρ} (hs : ∀ s z, body s = some z → (∀ s', z = .inl s' → P s') → (∀ r, z = .inr r → r = x) → P s) : ∀ n s, iter body n s = some x → P s
  | 0, _, h => by cases h
  | n + 1, s, h => by
    unfold iter at h
    split at h
    · cases h
    · rename_i s' hb
      refine hs s _ hb (fun s2 e => ?_) (fun r e => by cases e)
      cases e
      exact iter_w hs n s' h
    · rename_i r hb
      refine hs s _ hb (fun s2 e => by cases e) (fun r2 e => ?_)
      cases e
      exact Option.some.inj h
def AA (G : GE) : Nat → Prop := fun q => ∃ x ∈ prs, q = gA G x.1 x.2
def Inj (G : GE) : Prop := ∀ (i j : Nat) (x y : Nat × Nat), prs[i]? = some x → prs[j]? = some y → gA G x.1 x.2 = gA G y.1 y.2 → i = j
theorem wl_D {G : GE} {σ : Mm} {lm : Ml} (h : Inj G) : va_D (AA G) (wl G σ lm) := by
  refine ⟨fun i j p q hp hq e => ?_, fun k q hq => ?_⟩
  · unfold wl at hp hq
    rw [List.getElem?_map] at hp hq
    cases hi : prs[i]? with
    | none => rw [hi] at hp; cases hp
    | some x =>
      cases hj : prs[j]? with
      | none => rw [hj] at hq; cases hq
      | some y =>
        rw [hi] at hp
        rw [hj] at hq
        cases hp
        cases hq
        exact h i j x y hi hj e
  · unfold wl at hq
    rw [List.getElem?_map] at hq
    cases hi : prs[k]? with
    | none => rw [hi] at hq; cases hq
    | some x =>
      rw [hi] at hq
      cases hq
      exact ⟨x, List.mem_of_getElem? hi, rfl⟩
def tys (G : GE) : List (ClassId × FieldType) := [(gC G 0, .int), (gC G 1, .long), (gC G 2, .boolean), (gC G 3, .object "WellLendsDepth$Country"), (gC G 4, .array .long)]
/-- the constant arrays and texts -/
def tAb (j : Nat) : Int32 := ([-1, 0, 0, 0, 1, 2, 3] : List Int32).getD j 0
def tBo (j : Nat) : Int32 := ([10, 11, 12, 0, 20, 0, 30, 0, 0, 0, 0, 40, 50, 51, 0, 0, 0, 60, 71, 70, 0] : List Int32).getD j 0
def sTx : List (Nat × String) := [(79, "cheap "), (81, "mark "), (83, "spring "), (85, "fine "), (87, "dear "), (99, "bkvhld"), (105, "<=>")]
def sBy : List (List Int32) := [[99, 104, 101, 97, 112, 32], [109, 97, 114, 107, 32], [115, 112, 114, 105, 110, 103, 32], [102, 105, 110, 101, 32], [100, 101, 97, 114, 32], [98, 107, 118, 104, 108, 100], [60, 61, 62]]
def sLn : List Nat := [6, 5, 7, 5, 5, 6, 3]
def SF (G : GE) (U : State) (H : Heap) : Prop :=
  va_Z "WellLendsDepth" "ABOVE" "[I" (.ref (gX G 0)) (AA G) U H ∧ va_T .int (gX G 0) 7 (fun j => .int (tAb j)) (AA G) U H ∧
  va_Z "WellLendsDepth$Actor" "BODIES" "[I" (.ref (gX G 1)) (AA G) U H ∧ va_T .int (gX G 1) 21 (fun j => .int (tBo j)) (AA G) U H ∧
  va_Z "java/lang/String" "COMPACT_STRINGS" "Z" (.int 1) (AA G) U H ∧ va_Zq "jdk/internal/util/Preconditions" "SIOOBE_FORMATTER" "Ljava/util/function/BiFunction;" (AA G) U H ∧
  vk_S 7 sLn sBy (fun k => gX G (10 + k)) (fun k => gX G (20 + k)) (AA G) U H
def KF (G : GE) (U : State) : Prop := va_K (gD G) cl8 (tys G) U ∧ Inj G ∧ SF G U U.heap ∧ ∀ (k : Nat) (q : Nat × String), sTx[k]? = some q → vk_R "WellLendsDepth$Reader" q.1 q.2 (gX G (10 + k)) U
theorem KF.to {G : GE} {s U : State} {locs : List Loc} (h : KF G s) (hW : s.WarmedH U.vm) (hS : va_S (AA G) s.heap U.heap locs) : KF G U := by
  obtain ⟨hK, hI, ⟨s1, s2, s3, s4, s5, s6, s7⟩, hR⟩ := h
  have hal := hW.alike
  have hq : ∀ a : Nat, a < s.heap.size → ¬ AA G a → U.heap[a]? = s.heap[a]? := fun a h1 h2 => hS.2.1 a h1 h2
  exact ⟨va_K.moved hal hK, hI, ⟨(va_Z.moved hal s1).kept hq, (va_T.moved hal s2).kept hq, (va_Z.moved hal s3).kept hq, (va_T.moved hal s4).kept hq, (va_Z.moved hal s5).kept hq, va_Zq.kept (va_Zq.moved hal s6) hq, (vk_S.moved hal s7).kept hq⟩, fun k q hk => (hR k q hk).warm hW⟩
/-- the machine at a method: all that stays while it runs, and what it has to come to -/
abbrev MX : Type := Program × Launch × Env × Room × State × MethodId × Array Value × List Frame × Method × Code × (State → Prop)
def WW (X : MX) (G : GE) (nL : Nat) (σ : Mm) (lm : Ml) (pc : Nat) (L : List (Nat × Value)) (st : List Value) : Prop :=
  ∀ (H : Heap) (locs : List Loc) (ls : Array Slot), va_P (gD G) cl8 (wl G σ lm) H → va_S (AA G) X.2.2.2.2.1.heap H locs → lv_has ls nL L →
    W X.1 X.2.1 X.2.2.1 X.2.2.2.1 X.2.2.2.2.1 X.2.2.2.2.2.1 X.2.2.2.2.2.2.1 X.2.2.2.2.2.2.2.1 X.2.2.2.2.2.2.2.2.1 X.2.2.2.2.2.2.2.2.2.1 H locs 0 0 X.2.2.2.2.2.2.2.2.2.2 (F0 X.2.2.2.2.2.1 pc ls st)
def Cx (X : MX) (G : GE) (own : String) (cc : ByteArray) (nL : Nat) : Prop :=
  X.1.tables.exec = Jvm.exec ∧ X.2.2.2.2.2.2.2.2.2.1.code = cc ∧ X.2.2.2.2.2.2.2.2.2.1.maxLocals = nL ∧ X.2.2.2.2.1.vm.findClass own = some X.2.2.2.2.2.1.cls ∧ (∀ w ∈ gT, w.before X.2.2.2.2.2.2.1 X.2.2.2.2.1 = true) ∧ X.2.2.2.2.2.2.2.2.1.locks = false ∧ KF G X.2.2.2.2.1
def rmX (X : MX) : Room := X.2.2.2.1
theorem WW.sub {X : MX} {G : GE} {nL : Nat} {σ : Mm} {lm : Ml} {pc : Nat} {L L' : List (Nat × Value)} {st : List Value} (ks : List Nat) (hl : lv_pick L ks = L') (kk : WW X G nL σ lm pc L' st) : WW X G nL σ lm pc L st := fun H locs ls hw hS h => kk H locs ls hw hS (lv_sub h ks hl)
section Rows
variable {X : MX} {G : GE} {own : String} {cc : ByteArray} {nL : Nat} {σ : Mm} {lm : Ml} {pc nx : Nat} {L : List (Nat × Value)} {st : List Value}
theorem r_get {o k index : Nat} {P : Pm} {C ref name desc : String} {T : u_T} {N : Nat} {v : Value} (hX : Cx X G own cc nL) (hin : ∀ w ∈ u_ws C T N, w ∈ gT) (hlk : Cond.fieldLink own index ref name desc ∈ gT) (ho : kdo o = k) (hc : cl8[k]? = some (C, T, N)) (j : Nat) (hj : j < N) (hT : (T j).1 = ref) (hT2 : ((T j).2.1, (T j).2.2.1) = (name, desc)) (hP : σ o = P) (hv : (fsK k G o (P 0))[j]? = some v)
    (hd : decode cc pc = .ok (.getfield index, 3) ∧ pc + 3 = nx) (kk : WW X G nL σ lm nx L (v :: st)) : WW X G nL σ lm pc L (.ref (gA G o 0) :: st) := by
  intro H locs ls hw hS hl
  obtain ⟨hx, hb, hml, hown, hts, hlo, hK, hI, hSF⟩ := hX
  obtain ⟨hd, rfl⟩ := hd
  subst hP
  have hk8 : k < 8 := (List.getElem?_eq_some_iff.mp hc).1
  obtain ⟨q0, hq⟩ := prs_in ho hk8 (c := 0) List.mem_cons_self
  have he := wl_at (G := G) (σ := σ) (lm := lm) hq
  rw [ho] at he
  have hn := (Prod.mk.inj hT2).1
  have hds := (Prod.mk.inj hT2).2
  exact va_get hx hb hts hin hown hK hw q0 he hc j hj (by rw [hn, hds]; exact hts _ hlk) (by rw [hT]; exact fun _ h => h) hv hd (kk H locs ls hw hS hl)
theorem r_put {o k index : Nat} {P : Pm} {C ref name desc : String} {T : u_T} {N : Nat} {x : Int32} (hX : Cx X G own cc nL) (hin : ∀ w ∈ u_ws C T N, w ∈ gT) (ty0 : Nat → FieldType) (hty : ∀ k, k < N → parseFieldDescriptor (T k).2.2.1 = some (ty0 k)) (hnm : ∀ a, a < N → ∀ b, b < N → a ≠ b → (T a).2.1 ≠ (T b).2.1) (hlk : Cond.fieldLink own index ref name desc ∈ gT) (ho : kdo o = k) (hc : cl8[k]? = some (C, T, N)) (j : Nat) (hj : j < N) (hT : (T j).1 = ref) (hT2 : ((T j).2.1, (T j).2.2.1) = (name, desc)) (hfin : (T j).2.2.2 = false) (hn : narrow (ty0 j) (.int x) = .int x) (hf : fits (ty0 j) (.int x) = true) (hlen : (fsK k G o (fun _ => 0)).length = N) (hP : σ o = P) (hset : ∀ S, (fsK k G o S).set j (.int x) = fsK k G o (upd S j x))
    (hd : decode cc pc = .ok (.putfield index, 3) ∧ pc + 3 = nx) (kk : WW X G nL (setO σ o (up2 P 0 j x)) lm nx L st) : WW X G nL σ lm pc L (.int x :: .ref (gA G o 0) :: st) := by
  intro H locs ls hw hS hl
  obtain ⟨hx, hb, hml, hown, hts, hlo, hK, hI, hSF⟩ := hX
  obtain ⟨hd, rfl⟩ := hd
  subst hP
  have hk8 : k < 8 := (List.getElem?_eq_some_iff.mp hc).1
  obtain ⟨q0, hq⟩ := prs_in ho hk8 (c := 0) List.mem_cons_self
  have he := wl_at (G := G) (σ := σ) (lm := lm) hq
  rw [ho] at he
  have hn1 := (Prod.mk.inj hT2).1
  have hds := (Prod.mk.inj hT2).2
  have hlen2 : j < (fsK k G o (σ o 0)).length := by
    have h0 := congrArg List.length (hset (σ o 0))
    have e : ∀ S S' : Nat → Int32, (fsK k G o S).length = (fsK k G o S').length := by
      intro S S'
      unfold fsK
      split <;> rfl
    rw [e (σ o 0) (fun _ => 0), hlen]
    exact hj
  refine va_put hx hb hts hin ty0 hty hnm hown hK hw (wl_D hI) hS q0 he hc j hj (by rw [hn1, hds]; exact hts _ hlk) (by rw [hT]; exact fun _ h => h) hfin (hty j hj) hn hf hlen2 hd (fun H1 locs1 hP1 hD1 hS1 => ?_)
  rw [wl_setI (f := upd (σ o 0) j x) hq (by rw [ho]; show _ = Sum.inr (k, fsK k G o (setO (σ o) 0 (upd (σ o 0) j x) 0)); rw [setO_s, hset])] at hP1
  exact kk H1 locs1 ls hP1 hS1 hl
theorem r_iald {o k c n : Nat} {P : Pm} {i : Int32} (hX : Cx X G own cc nL) (ho : kdo o = k) (hk : k < 8) (hc : c ∈ cls k) (he : ∀ Q, eK k G o P Q c = .inl (gC G 0, n, .inl (P c))) (hP : σ o = P) (hi : inb i n = true) (hd : decode cc pc = .ok (.iaload, 1) ∧ pc + 1 = nx) (kk : WW X G nL σ lm nx L (.int (P c (ix i)) :: st)) : WW X G nL σ lm pc L (.int i :: .ref (gA G o c) :: st) := by
  intro H locs ls hw hS hl
  obtain ⟨hx, hb, hml, hown, hts, hlo, hK, hI, hSF⟩ := hX
  obtain ⟨hd, rfl⟩ := hd
  subst hP
  obtain ⟨q0, hq⟩ := prs_in ho hk hc
  have h1 := wl_at (G := G) (σ := σ) (lm := lm) hq
  rw [ho, he] at h1
  exact va_iald hx hb hK hw q0 0 h1 rfl (inb_in hi) hd (kk H locs ls hw hS hl)
theorem r_zald {o k c n : Nat} {P : Pm} {i : Int32} (hX : Cx X G own cc nL) (ho : kdo o = k) (hk : k < 8) (hc : c ∈ cls k) (he : ∀ Q, eK k G o P Q c = .inl (gC G 2, n, .inl (P c))) (hP : σ o = P) (hi : inb i n = true) (hd : decode cc pc = .ok (.baload, 1) ∧ pc + 1 = nx) (kk : WW X G nL σ lm nx L (.int (P c (ix i)) :: st)) : WW X G nL σ lm pc L (.int i :: .ref (gA G o c) :: st) := by
  intro H locs ls hw hS hl
  obtain ⟨hx, hb, hml, hown, hts, hlo, hK, hI, hSF⟩ := hX
  obtain ⟨hd, rfl⟩ := hd
  subst hP
  obtain ⟨q0, hq⟩ := prs_in ho hk hc
  have h1 := wl_at (G := G) (σ := σ) (lm := lm) hq
  rw [ho, he] at h1
  exact va_zald hx hb hK hw q0 2 h1 rfl (inb_in hi) hd (kk H locs ls hw hS hl)
theorem r_lald {o k c n : Nat} {Q : Pl} {i : Int32} (hX : Cx X G own cc nL) (ho : kdo o = k) (hk : k < 8) (hc : c ∈ cls k) (he : ∀ P, eK k G o P Q c = .inl (gC G 1, n, .inr (.inl (Q c)))) (hQ : lm o = Q) (hi : inb i n = true) (hd : decode cc pc = .ok (.laload, 1) ∧ pc + 1 = nx) (kk : WW X G nL σ lm nx L (.long (Q c (ix i)) :: st)) : WW X G nL σ lm pc L (.int i :: .ref (gA G o c) :: st) := by
  intro H locs ls hw hS hl
  obtain ⟨hx, hb, hml, hown, hts, hlo, hK, hI, hSF⟩ := hX
  obtain ⟨hd, rfl⟩ := hd
  subst hQ
  obtain ⟨q0, hq⟩ := prs_in ho hk hc
  have h1 := wl_at (G := G) (σ := σ) (lm := lm) hq
  rw [ho, he] at h1
  exact va_lald hx hb hK hw q0 1 h1 rfl (inb_in hi) hd (kk H locs ls hw hS hl)
theorem r_aaldC {i : Int32} (hX : Cx X G own cc nL) (hi : inb i 6 = true) (hd : decode cc pc = .ok (.aaload, 1) ∧ pc + 1 = nx) (kk : WW X G nL σ lm nx L (.ref (gA G (8 + ix i) 0) :: st)) : WW X G nL σ lm pc L (.int i :: .ref (gA G 0 8) :: st) := by
  intro H locs ls hw hS hl
  obtain ⟨hx, hb, hml, hown, hts, hlo, hK, hI, hSF⟩ := hX
  obtain ⟨hd, rfl⟩ := hd
  obtain ⟨q0, hq⟩ := prs_in (o := 0) (k := 6) (c := 8) rfl (by decide) (by decide)
  have h1 := wl_at (G := G) (σ := σ) (lm := lm) hq
  exact va_aldq hx hb hK hw q0 3 h1 rfl (inb_in hi) hd (kk H locs ls hw hS hl)
theorem r_aaldT {i : Int32} (hX : Cx X G own cc nL) (hi : inb i 6 = true) (hd : decode cc pc = .ok (.aaload, 1) ∧ pc + 1 = nx) (kk : WW X G nL σ lm nx L (.ref (gA G 16 (4 + ix i)) :: st)) : WW X G nL σ lm pc L (.int i :: .ref (gA G 16 3) :: st) := by
  intro H locs ls hw hS hl
  obtain ⟨hx, hb, hml, hown, hts, hlo, hK, hI, hSF⟩ := hX
  obtain ⟨hd, rfl⟩ := hd
  obtain ⟨q0, hq⟩ := prs_in (o := 16) (k := 4) (c := 3) rfl (by decide) (by decide)
  have h1 := wl_at (G := G) (σ := σ) (lm := lm) hq
  have hin := inb_in hi
  have hlt : i.toNatClampNeg < 6 := Nat.not_le.mp fun q => hin (Or.inr q)
  exact W.aald (v := .ref (gA G 16 (4 + ix i))) (ty := .array .long) hx hb (hw q0 _ h1) ((hK.2 4 (gC G 4, .array .long) rfl).1 6 (fun j => va_rf (some (gA G 16 (4 + j))))) rfl (fun q => by cases q) (by show ¬ (i < 0 ∨ (arrV _ _ _).slots.size ≤ _); rw [arrV_size]; exact hin) (by show (arrV _ _ _).slots[_]? = _; rw [arrV_read _ _ hlt]; rfl) rfl rfl hd (kk H locs ls hw hS hl)
theorem r_iast {o k c n : Nat} {P : Pm} {i x : Int32} (hX : Cx X G own cc nL) (ho : kdo o = k) (hk : k < 8) (hc : c ∈ cls k) (he : ∀ P Q, eK k G o P Q c = .inl (gC G 0, n, .inl (P c))) (hP : σ o = P) (hi : inb i n = true) (hd : decode cc pc = .ok (.iastore, 1) ∧ pc + 1 = nx) (kk : WW X G nL (setO σ o (up2 P c (ix i) x)) lm nx L st) : WW X G nL σ lm pc L (.int x :: .int i :: .ref (gA G o c) :: st) := by
  intro H locs ls hw hS hl
  obtain ⟨hx, hb, hml, hown, hts, hlo, hK, hI, hSF⟩ := hX
  obtain ⟨hd, rfl⟩ := hd
  subst hP
  obtain ⟨q0, hq⟩ := prs_in ho hk hc
  have h1 := wl_at (G := G) (σ := σ) (lm := lm) hq
  rw [ho, he] at h1
  refine va_iast hx hb hK hw (wl_D hI) hS q0 0 h1 rfl (inb_in hi) hd (fun H1 locs1 hP1 hD1 hS1 => ?_)
  rw [wl_setI (f := upd (σ o c) (ix i) x) hq (by rw [ho, he, setO_s])] at hP1
  exact kk H1 locs1 ls hP1 hS1 hl
theorem r_zast {o k c n : Nat} {P : Pm} {i x : Int32} (hz : x = 0 ∨ x = 1) (hX : Cx X G own cc nL) (ho : kdo o = k) (hk : k < 8) (hc : c ∈ cls k) (he : ∀ P Q, eK k G o P Q c = .inl (gC G 2, n, .inl (P c))) (hP : σ o = P) (hi : inb i n = true) (hd : decode cc pc = .ok (.bastore, 1) ∧ pc + 1 = nx) (kk : WW X G nL (setO σ o (up2 P c (ix i) x)) lm nx L st) : WW X G nL σ lm pc L (.int x :: .int i :: .ref (gA G o c) :: st) := by
  intro H locs ls hw hS hl
  obtain ⟨hx, hb, hml, hown, hts, hlo, hK, hI, hSF⟩ := hX
  obtain ⟨hd, rfl⟩ := hd
  subst hP
  obtain ⟨q0, hq⟩ := prs_in ho hk hc
  have h1 := wl_at (G := G) (σ := σ) (lm := lm) hq
  rw [ho, he] at h1
  refine va_zast hx hb hK hw (wl_D hI) hS q0 2 h1 rfl (inb_in hi) hd (fun H1 locs1 hP1 hD1 hS1 => ?_)
  rw [zb_v hz] at hP1
  rw [wl_setI (f := upd (σ o c) (ix i) x) hq (by rw [ho, he, setO_s])] at hP1
  exact kk H1 locs1 ls hP1 hS1 hl
theorem r_last {o k c n : Nat} {Q : Pl} {i : Int32} {x : Int64} (hX : Cx X G own cc nL) (ho : kdo o = k) (hk : k < 8) (hc : c ∈ cls k) (he : ∀ P Q, eK k G o P Q c = .inl (gC G 1, n, .inr (.inl (Q c)))) (hQ : lm o = Q) (hi : inb i n = true) (hd : decode cc pc = .ok (.lastore, 1) ∧ pc + 1 = nx) (kk : WW X G nL σ (setO lm o (up2L Q c (ix i) x)) nx L st) : WW X G nL σ lm pc L (.long x :: .int i :: .ref (gA G o c) :: st) := by
  intro H locs ls hw hS hl
  obtain ⟨hx, hb, hml, hown, hts, hlo, hK, hI, hSF⟩ := hX
  obtain ⟨hd, rfl⟩ := hd
  subst hQ
  obtain ⟨q0, hq⟩ := prs_in ho hk hc
  have h1 := wl_at (G := G) (σ := σ) (lm := lm) hq
  rw [ho, he] at h1
  refine va_last hx hb hK hw (wl_D hI) hS q0 1 h1 rfl (inb_in hi) hd (fun H1 locs1 hP1 hD1 hS1 => ?_)
  rw [wl_setL (f := vp_updL (lm o c) (ix i) x) hq (by rw [ho, he, setO_s])] at hP1
  exact kk H1 locs1 ls hP1 hS1 hl
end Rows

theorem gf_0_0 {X : MX} {G : GE} {own : String} {cc : ByteArray} {nL : Nat} {σ : Mm} {lm : Ml} {pc nx o index : Nat} {P : Pm} {L : List (Nat × Value)} {st : List Value} (hX : Cx X G own cc nL) (hlk : Cond.fieldLink own index "WellLendsDepth$Actor" "ran" "I" ∈ gT) (ho : kdo o = 0) (hP : σ o = P) (hd : decode cc pc = .ok (.getfield index, 3) ∧ pc + 3 = nx) (kk : WW X G nL σ lm nx L (.int (P 0 0) :: st)) : WW X G nL σ lm pc L (.ref (gA G o 0) :: st) := r_get hX zin0 hlk ho rfl 0 (by decide) rfl rfl hP rfl hd kk
theorem pf_0_0 {X : MX} {G : GE} {own : String} {cc : ByteArray} {nL : Nat} {σ : Mm} {lm : Ml} {pc nx o index : Nat} {P : Pm} {x : Int32} {L : List (Nat × Value)} {st : List Value} (hX : Cx X G own cc nL) (hlk : Cond.fieldLink own index "WellLendsDepth$Actor" "ran" "I" ∈ gT) (ho : kdo o = 0) (hP : σ o = P) (hd : decode cc pc = .ok (.putfield index, 3) ∧ pc + 3 = nx) (kk : WW X G nL (setO σ o (up2 P 0 0 x)) lm nx L st) : WW X G nL σ lm pc L (.int x :: .ref (gA G o 0) :: st) := r_put hX zin0 zty0 zok0 znm0 hlk ho rfl 0 (by decide) rfl rfl rfl rfl rfl rfl hP (fun S => rfl) hd kk
theorem gf_0_1 {X : MX} {G : GE} {own : String} {cc : ByteArray} {nL : Nat} {σ : Mm} {lm : Ml} {pc nx o index : Nat} {P : Pm} {L : List (Nat × Value)} {st : List Value} (hX : Cx X G own cc nL) (hlk : Cond.fieldLink own index "WellLendsDepth$Actor" "trace" "[I" ∈ gT) (ho : kdo o = 0) (hP : σ o = P) (hd : decode cc pc = .ok (.getfield index, 3) ∧ pc + 3 = nx) (kk : WW X G nL σ lm nx L (.ref (gA G o 2) :: st)) : WW X G nL σ lm pc L (.ref (gA G o 0) :: st) := r_get hX zin0 hlk ho rfl 1 (by decide) rfl rfl hP rfl hd kk
theorem gf_0_2 {X : MX} {G : GE} {own : String} {cc : ByteArray} {nL : Nat} {σ : Mm} {lm : Ml} {pc nx o index : Nat} {P : Pm} {L : List (Nat × Value)} {st : List Value} (hX : Cx X G own cc nL) (hlk : Cond.fieldLink own index "WellLendsDepth$Actor" "number" "I" ∈ gT) (ho : kdo o = 0) (hP : σ o = P) (hd : decode cc pc = .ok (.getfield index, 3) ∧ pc + 3 = nx) (kk : WW X G nL σ lm nx L (.int (P 0 2) :: st)) : WW X G nL σ lm pc L (.ref (gA G o 0) :: st) := r_get hX zin0 hlk ho rfl 2 (by decide) rfl rfl hP rfl hd kk
theorem pf_0_2 {X : MX} {G : GE} {own : String} {cc : ByteArray} {nL : Nat} {σ : Mm} {lm : Ml} {pc nx o index : Nat} {P : Pm} {x : Int32} {L : List (Nat × Value)} {st : List Value} (hX : Cx X G own cc nL) (hlk : Cond.fieldLink own index "WellLendsDepth$Actor" "number" "I" ∈ gT) (ho : kdo o = 0) (hP : σ o = P) (hd : decode cc pc = .ok (.putfield index, 3) ∧ pc + 3 = nx) (kk : WW X G nL (setO σ o (up2 P 0 2 x)) lm nx L st) : WW X G nL σ lm pc L (.int x :: .ref (gA G o 0) :: st) := r_put hX zin0 zty0 zok0 znm0 hlk ho rfl 2 (by decide) rfl rfl rfl rfl rfl rfl hP (fun S => rfl) hd kk
theorem gf_0_3 {X : MX} {G : GE} {own : String} {cc : ByteArray} {nL : Nat} {σ : Mm} {lm : Ml} {pc nx o index : Nat} {P : Pm} {L : List (Nat × Value)} {st : List Value} (hX : Cx X G own cc nL) (hlk : Cond.fieldLink own index "WellLendsDepth$Actor" "kind" "I" ∈ gT) (ho : kdo o = 0) (hP : σ o = P) (hd : decode cc pc = .ok (.getfield index, 3) ∧ pc + 3 = nx) (kk : WW X G nL σ lm nx L (.int (P 0 3) :: st)) : WW X G nL σ lm pc L (.ref (gA G o 0) :: st) := r_get hX zin0 hlk ho rfl 3 (by decide) rfl rfl hP rfl hd kk
theorem pf_0_3 {X : MX} {G : GE} {own : String} {cc : ByteArray} {nL : Nat} {σ : Mm} {lm : Ml} {pc nx o index : Nat} {P : Pm} {x : Int32} {L : List (Nat × Value)} {st : List Value} (hX : Cx X G own cc nL) (hlk : Cond.fieldLink own index "WellLendsDepth$Actor" "kind" "I" ∈ gT) (ho : kdo o = 0) (hP : σ o = P) (hd : decode cc pc = .ok (.putfield index, 3) ∧ pc + 3 = nx) (kk : WW X G nL (setO σ o (up2 P 0 3 x)) lm nx L st) : WW X G nL σ lm pc L (.int x :: .ref (gA G o 0) :: st) := r_put hX zin0 zty0 zok0 znm0 hlk ho rfl 3 (by decide) rfl rfl rfl rfl rfl rfl hP (fun S => rfl) hd kk
theorem gf_0_4 {X : MX} {G : GE} {own : String} {cc : ByteArray} {nL : Nat} {σ : Mm} {lm : Ml} {pc nx o index : Nat} {P : Pm} {L : List (Nat × Value)} {st : List Value} (hX : Cx X G own cc nL) (hlk : Cond.fieldLink own index "WellLendsDepth$Actor" "v" "I" ∈ gT) (ho : kdo o = 0) (hP : σ o = P) (hd : decode cc pc = .ok (.getfield index, 3) ∧ pc + 3 = nx) (kk : WW X G nL σ lm nx L (.int (P 0 4) :: st)) : WW X G nL σ lm pc L (.ref (gA G o 0) :: st) := r_get hX zin0 hlk ho rfl 4 (by decide) rfl rfl hP rfl hd kk
theorem pf_0_4 {X : MX} {G : GE} {own : String} {cc : ByteArray} {nL : Nat} {σ : Mm} {lm : Ml} {pc nx o index : Nat} {P : Pm} {x : Int32} {L : List (Nat × Value)} {st : List Value} (hX : Cx X G own cc nL) (hlk : Cond.fieldLink own index "WellLendsDepth$Actor" "v" "I" ∈ gT) (ho : kdo o = 0) (hP : σ o = P) (hd : decode cc pc = .ok (.putfield index, 3) ∧ pc + 3 = nx) (kk : WW X G nL (setO σ o (up2 P 0 4 x)) lm nx L st) : WW X G nL σ lm pc L (.int x :: .ref (gA G o 0) :: st) := r_put hX zin0 zty0 zok0 znm0 hlk ho rfl 4 (by decide) rfl rfl rfl rfl rfl rfl hP (fun S => rfl) hd kk
theorem gf_1_0 {X : MX} {G : GE} {own : String} {cc : ByteArray} {nL : Nat} {σ : Mm} {lm : Ml} {pc nx o index : Nat} {P : Pm} {L : List (Nat × Value)} {st : List Value} (hX : Cx X G own cc nL) (hlk : Cond.fieldLink own index "WellLendsDepth$Country" "mark" "I" ∈ gT) (ho : kdo o = 1) (hP : σ o = P) (hd : decode cc pc = .ok (.getfield index, 3) ∧ pc + 3 = nx) (kk : WW X G nL σ lm nx L (.int (P 0 0) :: st)) : WW X G nL σ lm pc L (.ref (gA G o 0) :: st) := r_get hX zin1 hlk ho rfl 0 (by decide) rfl rfl hP rfl hd kk
theorem pf_1_0 {X : MX} {G : GE} {own : String} {cc : ByteArray} {nL : Nat} {σ : Mm} {lm : Ml} {pc nx o index : Nat} {P : Pm} {x : Int32} {L : List (Nat × Value)} {st : List Value} (hX : Cx X G own cc nL) (hlk : Cond.fieldLink own index "WellLendsDepth$Country" "mark" "I" ∈ gT) (ho : kdo o = 1) (hP : σ o = P) (hd : decode cc pc = .ok (.putfield index, 3) ∧ pc + 3 = nx) (kk : WW X G nL (setO σ o (up2 P 0 0 x)) lm nx L st) : WW X G nL σ lm pc L (.int x :: .ref (gA G o 0) :: st) := r_put hX zin1 zty1 zok1 znm1 hlk ho rfl 0 (by decide) rfl rfl rfl rfl rfl rfl hP (fun S => rfl) hd kk
theorem gf_1_1 {X : MX} {G : GE} {own : String} {cc : ByteArray} {nL : Nat} {σ : Mm} {lm : Ml} {pc nx o index : Nat} {P : Pm} {L : List (Nat × Value)} {st : List Value} (hX : Cx X G own cc nL) (hlk : Cond.fieldLink own index "WellLendsDepth$Country" "spring" "I" ∈ gT) (ho : kdo o = 1) (hP : σ o = P) (hd : decode cc pc = .ok (.getfield index, 3) ∧ pc + 3 = nx) (kk : WW X G nL σ lm nx L (.int (P 0 1) :: st)) : WW X G nL σ lm pc L (.ref (gA G o 0) :: st) := r_get hX zin1 hlk ho rfl 1 (by decide) rfl rfl hP rfl hd kk
theorem pf_1_1 {X : MX} {G : GE} {own : String} {cc : ByteArray} {nL : Nat} {σ : Mm} {lm : Ml} {pc nx o index : Nat} {P : Pm} {x : Int32} {L : List (Nat × Value)} {st : List Value} (hX : Cx X G own cc nL) (hlk : Cond.fieldLink own index "WellLendsDepth$Country" "spring" "I" ∈ gT) (ho : kdo o = 1) (hP : σ o = P) (hd : decode cc pc = .ok (.putfield index, 3) ∧ pc + 3 = nx) (kk : WW X G nL (setO σ o (up2 P 0 1 x)) lm nx L st) : WW X G nL σ lm pc L (.int x :: .ref (gA G o 0) :: st) := r_put hX zin1 zty1 zok1 znm1 hlk ho rfl 1 (by decide) rfl rfl rfl rfl rfl rfl hP (fun S => rfl) hd kk
theorem gf_1_2 {X : MX} {G : GE} {own : String} {cc : ByteArray} {nL : Nat} {σ : Mm} {lm : Ml} {pc nx o index : Nat} {P : Pm} {L : List (Nat × Value)} {st : List Value} (hX : Cx X G own cc nL) (hlk : Cond.fieldLink own index "WellLendsDepth$Country" "fine" "I" ∈ gT) (ho : kdo o = 1) (hP : σ o = P) (hd : decode cc pc = .ok (.getfield index, 3) ∧ pc + 3 = nx) (kk : WW X G nL σ lm nx L (.int (P 0 2) :: st)) : WW X G nL σ lm pc L (.ref (gA G o 0) :: st) := r_get hX zin1 hlk ho rfl 2 (by decide) rfl rfl hP rfl hd kk
theorem pf_1_2 {X : MX} {G : GE} {own : String} {cc : ByteArray} {nL : Nat} {σ : Mm} {lm : Ml} {pc nx o index : Nat} {P : Pm} {x : Int32} {L : List (Nat × Value)} {st : List Value} (hX : Cx X G own cc nL) (hlk : Cond.fieldLink own index "WellLendsDepth$Country" "fine" "I" ∈ gT) (ho : kdo o = 1) (hP : σ o = P) (hd : decode cc pc = .ok (.putfield index, 3) ∧ pc + 3 = nx) (kk : WW X G nL (setO σ o (up2 P 0 2 x)) lm nx L st) : WW X G nL σ lm pc L (.int x :: .ref (gA G o 0) :: st) := r_put hX zin1 zty1 zok1 znm1 hlk ho rfl 2 (by decide) rfl rfl rfl rfl rfl rfl hP (fun S => rfl) hd kk
theorem gf_1_3 {X : MX} {G : GE} {own : String} {cc : ByteArray} {nL : Nat} {σ : Mm} {lm : Ml} {pc nx o index : Nat} {P : Pm} {L : List (Nat × Value)} {st : List Value} (hX : Cx X G own cc nL) (hlk : Cond.fieldLink own index "WellLendsDepth$Country" "prices" "I" ∈ gT) (ho : kdo o = 1) (hP : σ o = P) (hd : decode cc pc = .ok (.getfield index, 3) ∧ pc + 3 = nx) (kk : WW X G nL σ lm nx L (.int (P 0 3) :: st)) : WW X G nL σ lm pc L (.ref (gA G o 0) :: st) := r_get hX zin1 hlk ho rfl 3 (by decide) rfl rfl hP rfl hd kk
theorem pf_1_3 {X : MX} {G : GE} {own : String} {cc : ByteArray} {nL : Nat} {σ : Mm} {lm : Ml} {pc nx o index : Nat} {P : Pm} {x : Int32} {L : List (Nat × Value)} {st : List Value} (hX : Cx X G own cc nL) (hlk : Cond.fieldLink own index "WellLendsDepth$Country" "prices" "I" ∈ gT) (ho : kdo o = 1) (hP : σ o = P) (hd : decode cc pc = .ok (.putfield index, 3) ∧ pc + 3 = nx) (kk : WW X G nL (setO σ o (up2 P 0 3 x)) lm nx L st) : WW X G nL σ lm pc L (.int x :: .ref (gA G o 0) :: st) := r_put hX zin1 zty1 zok1 znm1 hlk ho rfl 3 (by decide) rfl rfl rfl rfl rfl rfl hP (fun S => rfl) hd kk
theorem gf_1_4 {X : MX} {G : GE} {own : String} {cc : ByteArray} {nL : Nat} {σ : Mm} {lm : Ml} {pc nx o index : Nat} {P : Pm} {L : List (Nat × Value)} {st : List Value} (hX : Cx X G own cc nL) (hlk : Cond.fieldLink own index "WellLendsDepth$Country" "used" "I" ∈ gT) (ho : kdo o = 1) (hP : σ o = P) (hd : decode cc pc = .ok (.getfield index, 3) ∧ pc + 3 = nx) (kk : WW X G nL σ lm nx L (.int (P 0 4) :: st)) : WW X G nL σ lm pc L (.ref (gA G o 0) :: st) := r_get hX zin1 hlk ho rfl 4 (by decide) rfl rfl hP rfl hd kk
theorem pf_1_4 {X : MX} {G : GE} {own : String} {cc : ByteArray} {nL : Nat} {σ : Mm} {lm : Ml} {pc nx o index : Nat} {P : Pm} {x : Int32} {L : List (Nat × Value)} {st : List Value} (hX : Cx X G own cc nL) (hlk : Cond.fieldLink own index "WellLendsDepth$Country" "used" "I" ∈ gT) (ho : kdo o = 1) (hP : σ o = P) (hd : decode cc pc = .ok (.putfield index, 3) ∧ pc + 3 = nx) (kk : WW X G nL (setO σ o (up2 P 0 4 x)) lm nx L st) : WW X G nL σ lm pc L (.int x :: .ref (gA G o 0) :: st) := r_put hX zin1 zty1 zok1 znm1 hlk ho rfl 4 (by decide) rfl rfl rfl rfl rfl rfl hP (fun S => rfl) hd kk
theorem gf_1_5 {X : MX} {G : GE} {own : String} {cc : ByteArray} {nL : Nat} {σ : Mm} {lm : Ml} {pc nx o index : Nat} {P : Pm} {L : List (Nat × Value)} {st : List Value} (hX : Cx X G own cc nL) (hlk : Cond.fieldLink own index "WellLendsDepth$Country" "price" "[I" ∈ gT) (ho : kdo o = 1) (hP : σ o = P) (hd : decode cc pc = .ok (.getfield index, 3) ∧ pc + 3 = nx) (kk : WW X G nL σ lm nx L (.ref (gA G o 6) :: st)) : WW X G nL σ lm pc L (.ref (gA G o 0) :: st) := r_get hX zin1 hlk ho rfl 5 (by decide) rfl rfl hP rfl hd kk
theorem gf_1_6 {X : MX} {G : GE} {own : String} {cc : ByteArray} {nL : Nat} {σ : Mm} {lm : Ml} {pc nx o index : Nat} {P : Pm} {L : List (Nat × Value)} {st : List Value} (hX : Cx X G own cc nL) (hlk : Cond.fieldLink own index "WellLendsDepth$Country" "ends" "[I" ∈ gT) (ho : kdo o = 1) (hP : σ o = P) (hd : decode cc pc = .ok (.getfield index, 3) ∧ pc + 3 = nx) (kk : WW X G nL σ lm nx L (.ref (gA G o 7) :: st)) : WW X G nL σ lm pc L (.ref (gA G o 0) :: st) := r_get hX zin1 hlk ho rfl 6 (by decide) rfl rfl hP rfl hd kk
theorem gf_1_7 {X : MX} {G : GE} {own : String} {cc : ByteArray} {nL : Nat} {σ : Mm} {lm : Ml} {pc nx o index : Nat} {P : Pm} {L : List (Nat × Value)} {st : List Value} (hX : Cx X G own cc nL) (hlk : Cond.fieldLink own index "WellLendsDepth$Country" "step" "[I" ∈ gT) (ho : kdo o = 1) (hP : σ o = P) (hd : decode cc pc = .ok (.getfield index, 3) ∧ pc + 3 = nx) (kk : WW X G nL σ lm nx L (.ref (gA G o 8) :: st)) : WW X G nL σ lm pc L (.ref (gA G o 0) :: st) := r_get hX zin1 hlk ho rfl 7 (by decide) rfl rfl hP rfl hd kk
theorem gf_1_8 {X : MX} {G : GE} {own : String} {cc : ByteArray} {nL : Nat} {σ : Mm} {lm : Ml} {pc nx o index : Nat} {P : Pm} {L : List (Nat × Value)} {st : List Value} (hX : Cx X G own cc nL) (hlk : Cond.fieldLink own index "WellLendsDepth$Country" "about" "[I" ∈ gT) (ho : kdo o = 1) (hP : σ o = P) (hd : decode cc pc = .ok (.getfield index, 3) ∧ pc + 3 = nx) (kk : WW X G nL σ lm nx L (.ref (gA G o 9) :: st)) : WW X G nL σ lm pc L (.ref (gA G o 0) :: st) := r_get hX zin1 hlk ho rfl 8 (by decide) rfl rfl hP rfl hd kk
theorem gf_1_9 {X : MX} {G : GE} {own : String} {cc : ByteArray} {nL : Nat} {σ : Mm} {lm : Ml} {pc nx o index : Nat} {P : Pm} {L : List (Nat × Value)} {st : List Value} (hX : Cx X G own cc nL) (hlk : Cond.fieldLink own index "WellLendsDepth$Country" "number" "[I" ∈ gT) (ho : kdo o = 1) (hP : σ o = P) (hd : decode cc pc = .ok (.getfield index, 3) ∧ pc + 3 = nx) (kk : WW X G nL σ lm nx L (.ref (gA G o 10) :: st)) : WW X G nL σ lm pc L (.ref (gA G o 0) :: st) := r_get hX zin1 hlk ho rfl 9 (by decide) rfl rfl hP rfl hd kk
theorem gf_1_10 {X : MX} {G : GE} {own : String} {cc : ByteArray} {nL : Nat} {σ : Mm} {lm : Ml} {pc nx o index : Nat} {P : Pm} {L : List (Nat × Value)} {st : List Value} (hX : Cx X G own cc nL) (hlk : Cond.fieldLink own index "WellLendsDepth$Country" "facts" "[I" ∈ gT) (ho : kdo o = 1) (hP : σ o = P) (hd : decode cc pc = .ok (.getfield index, 3) ∧ pc + 3 = nx) (kk : WW X G nL σ lm nx L (.ref (gA G o 11) :: st)) : WW X G nL σ lm pc L (.ref (gA G o 0) :: st) := r_get hX zin1 hlk ho rfl 10 (by decide) rfl rfl hP rfl hd kk
theorem gf_2_0 {X : MX} {G : GE} {own : String} {cc : ByteArray} {nL : Nat} {σ : Mm} {lm : Ml} {pc nx o index : Nat} {P : Pm} {L : List (Nat × Value)} {st : List Value} (hX : Cx X G own cc nL) (hlk : Cond.fieldLink own index "WellLendsDepth$Hand" "seenCount" "I" ∈ gT) (ho : kdo o = 2) (hP : σ o = P) (hd : decode cc pc = .ok (.getfield index, 3) ∧ pc + 3 = nx) (kk : WW X G nL σ lm nx L (.int (P 0 0) :: st)) : WW X G nL σ lm pc L (.ref (gA G o 0) :: st) := r_get hX zin2 hlk ho rfl 0 (by decide) rfl rfl hP rfl hd kk
theorem pf_2_0 {X : MX} {G : GE} {own : String} {cc : ByteArray} {nL : Nat} {σ : Mm} {lm : Ml} {pc nx o index : Nat} {P : Pm} {x : Int32} {L : List (Nat × Value)} {st : List Value} (hX : Cx X G own cc nL) (hlk : Cond.fieldLink own index "WellLendsDepth$Hand" "seenCount" "I" ∈ gT) (ho : kdo o = 2) (hP : σ o = P) (hd : decode cc pc = .ok (.putfield index, 3) ∧ pc + 3 = nx) (kk : WW X G nL (setO σ o (up2 P 0 0 x)) lm nx L st) : WW X G nL σ lm pc L (.int x :: .ref (gA G o 0) :: st) := r_put hX zin2 zty2 zok2 znm2 hlk ho rfl 0 (by decide) rfl rfl rfl rfl rfl rfl hP (fun S => rfl) hd kk
theorem gf_2_1 {X : MX} {G : GE} {own : String} {cc : ByteArray} {nL : Nat} {σ : Mm} {lm : Ml} {pc nx o index : Nat} {P : Pm} {L : List (Nat × Value)} {st : List Value} (hX : Cx X G own cc nL) (hlk : Cond.fieldLink own index "WellLendsDepth$Hand" "yearCount" "I" ∈ gT) (ho : kdo o = 2) (hP : σ o = P) (hd : decode cc pc = .ok (.getfield index, 3) ∧ pc + 3 = nx) (kk : WW X G nL σ lm nx L (.int (P 0 1) :: st)) : WW X G nL σ lm pc L (.ref (gA G o 0) :: st) := r_get hX zin2 hlk ho rfl 1 (by decide) rfl rfl hP rfl hd kk
theorem pf_2_1 {X : MX} {G : GE} {own : String} {cc : ByteArray} {nL : Nat} {σ : Mm} {lm : Ml} {pc nx o index : Nat} {P : Pm} {x : Int32} {L : List (Nat × Value)} {st : List Value} (hX : Cx X G own cc nL) (hlk : Cond.fieldLink own index "WellLendsDepth$Hand" "yearCount" "I" ∈ gT) (ho : kdo o = 2) (hP : σ o = P) (hd : decode cc pc = .ok (.putfield index, 3) ∧ pc + 3 = nx) (kk : WW X G nL (setO σ o (up2 P 0 1 x)) lm nx L st) : WW X G nL σ lm pc L (.int x :: .ref (gA G o 0) :: st) := r_put hX zin2 zty2 zok2 znm2 hlk ho rfl 1 (by decide) rfl rfl rfl rfl rfl rfl hP (fun S => rfl) hd kk
theorem gf_2_2 {X : MX} {G : GE} {own : String} {cc : ByteArray} {nL : Nat} {σ : Mm} {lm : Ml} {pc nx o index : Nat} {P : Pm} {L : List (Nat × Value)} {st : List Value} (hX : Cx X G own cc nL) (hlk : Cond.fieldLink own index "WellLendsDepth$Hand" "bookCount" "I" ∈ gT) (ho : kdo o = 2) (hP : σ o = P) (hd : decode cc pc = .ok (.getfield index, 3) ∧ pc + 3 = nx) (kk : WW X G nL σ lm nx L (.int (P 0 2) :: st)) : WW X G nL σ lm pc L (.ref (gA G o 0) :: st) := r_get hX zin2 hlk ho rfl 2 (by decide) rfl rfl hP rfl hd kk
theorem pf_2_2 {X : MX} {G : GE} {own : String} {cc : ByteArray} {nL : Nat} {σ : Mm} {lm : Ml} {pc nx o index : Nat} {P : Pm} {x : Int32} {L : List (Nat × Value)} {st : List Value} (hX : Cx X G own cc nL) (hlk : Cond.fieldLink own index "WellLendsDepth$Hand" "bookCount" "I" ∈ gT) (ho : kdo o = 2) (hP : σ o = P) (hd : decode cc pc = .ok (.putfield index, 3) ∧ pc + 3 = nx) (kk : WW X G nL (setO σ o (up2 P 0 2 x)) lm nx L st) : WW X G nL σ lm pc L (.int x :: .ref (gA G o 0) :: st) := r_put hX zin2 zty2 zok2 znm2 hlk ho rfl 2 (by decide) rfl rfl rfl rfl rfl rfl hP (fun S => rfl) hd kk
theorem gf_2_3 {X : MX} {G : GE} {own : String} {cc : ByteArray} {nL : Nat} {σ : Mm} {lm : Ml} {pc nx o index : Nat} {P : Pm} {L : List (Nat × Value)} {st : List Value} (hX : Cx X G own cc nL) (hlk : Cond.fieldLink own index "WellLendsDepth$Hand" "seenDepth" "[I" ∈ gT) (ho : kdo o = 2) (hP : σ o = P) (hd : decode cc pc = .ok (.getfield index, 3) ∧ pc + 3 = nx) (kk : WW X G nL σ lm nx L (.ref (gA G o 4) :: st)) : WW X G nL σ lm pc L (.ref (gA G o 0) :: st) := r_get hX zin2 hlk ho rfl 3 (by decide) rfl rfl hP rfl hd kk
theorem gf_2_4 {X : MX} {G : GE} {own : String} {cc : ByteArray} {nL : Nat} {σ : Mm} {lm : Ml} {pc nx o index : Nat} {P : Pm} {L : List (Nat × Value)} {st : List Value} (hX : Cx X G own cc nL) (hlk : Cond.fieldLink own index "WellLendsDepth$Hand" "seenBehind" "[I" ∈ gT) (ho : kdo o = 2) (hP : σ o = P) (hd : decode cc pc = .ok (.getfield index, 3) ∧ pc + 3 = nx) (kk : WW X G nL σ lm nx L (.ref (gA G o 5) :: st)) : WW X G nL σ lm pc L (.ref (gA G o 0) :: st) := r_get hX zin2 hlk ho rfl 4 (by decide) rfl rfl hP rfl hd kk
theorem gf_2_5 {X : MX} {G : GE} {own : String} {cc : ByteArray} {nL : Nat} {σ : Mm} {lm : Ml} {pc nx o index : Nat} {P : Pm} {L : List (Nat × Value)} {st : List Value} (hX : Cx X G own cc nL) (hlk : Cond.fieldLink own index "WellLendsDepth$Hand" "yearWhat" "[I" ∈ gT) (ho : kdo o = 2) (hP : σ o = P) (hd : decode cc pc = .ok (.getfield index, 3) ∧ pc + 3 = nx) (kk : WW X G nL σ lm nx L (.ref (gA G o 6) :: st)) : WW X G nL σ lm pc L (.ref (gA G o 0) :: st) := r_get hX zin2 hlk ho rfl 5 (by decide) rfl rfl hP rfl hd kk
theorem gf_2_6 {X : MX} {G : GE} {own : String} {cc : ByteArray} {nL : Nat} {σ : Mm} {lm : Ml} {pc nx o index : Nat} {P : Pm} {L : List (Nat × Value)} {st : List Value} (hX : Cx X G own cc nL) (hlk : Cond.fieldLink own index "WellLendsDepth$Hand" "yearWho" "[I" ∈ gT) (ho : kdo o = 2) (hP : σ o = P) (hd : decode cc pc = .ok (.getfield index, 3) ∧ pc + 3 = nx) (kk : WW X G nL σ lm nx L (.ref (gA G o 7) :: st)) : WW X G nL σ lm pc L (.ref (gA G o 0) :: st) := r_get hX zin2 hlk ho rfl 6 (by decide) rfl rfl hP rfl hd kk
theorem gf_2_7 {X : MX} {G : GE} {own : String} {cc : ByteArray} {nL : Nat} {σ : Mm} {lm : Ml} {pc nx o index : Nat} {P : Pm} {L : List (Nat × Value)} {st : List Value} (hX : Cx X G own cc nL) (hlk : Cond.fieldLink own index "WellLendsDepth$Hand" "bookWho" "[I" ∈ gT) (ho : kdo o = 2) (hP : σ o = P) (hd : decode cc pc = .ok (.getfield index, 3) ∧ pc + 3 = nx) (kk : WW X G nL σ lm nx L (.ref (gA G o 8) :: st)) : WW X G nL σ lm pc L (.ref (gA G o 0) :: st) := r_get hX zin2 hlk ho rfl 7 (by decide) rfl rfl hP rfl hd kk
theorem gf_2_8 {X : MX} {G : GE} {own : String} {cc : ByteArray} {nL : Nat} {σ : Mm} {lm : Ml} {pc nx o index : Nat} {P : Pm} {L : List (Nat × Value)} {st : List Value} (hX : Cx X G own cc nL) (hlk : Cond.fieldLink own index "WellLendsDepth$Hand" "bookOwes" "[I" ∈ gT) (ho : kdo o = 2) (hP : σ o = P) (hd : decode cc pc = .ok (.getfield index, 3) ∧ pc + 3 = nx) (kk : WW X G nL σ lm nx L (.ref (gA G o 9) :: st)) : WW X G nL σ lm pc L (.ref (gA G o 0) :: st) := r_get hX zin2 hlk ho rfl 8 (by decide) rfl rfl hP rfl hd kk
theorem gf_3_0 {X : MX} {G : GE} {own : String} {cc : ByteArray} {nL : Nat} {σ : Mm} {lm : Ml} {pc nx o index : Nat} {P : Pm} {L : List (Nat × Value)} {st : List Value} (hX : Cx X G own cc nL) (hlk : Cond.fieldLink own index "WellLendsDepth$Reader" "length" "I" ∈ gT) (ho : kdo o = 3) (hP : σ o = P) (hd : decode cc pc = .ok (.getfield index, 3) ∧ pc + 3 = nx) (kk : WW X G nL σ lm nx L (.int (P 0 0) :: st)) : WW X G nL σ lm pc L (.ref (gA G o 0) :: st) := r_get hX zin3 hlk ho rfl 0 (by decide) rfl rfl hP rfl hd kk
theorem pf_3_0 {X : MX} {G : GE} {own : String} {cc : ByteArray} {nL : Nat} {σ : Mm} {lm : Ml} {pc nx o index : Nat} {P : Pm} {x : Int32} {L : List (Nat × Value)} {st : List Value} (hX : Cx X G own cc nL) (hlk : Cond.fieldLink own index "WellLendsDepth$Reader" "length" "I" ∈ gT) (ho : kdo o = 3) (hP : σ o = P) (hd : decode cc pc = .ok (.putfield index, 3) ∧ pc + 3 = nx) (kk : WW X G nL (setO σ o (up2 P 0 0 x)) lm nx L st) : WW X G nL σ lm pc L (.int x :: .ref (gA G o 0) :: st) := r_put hX zin3 zty3 zok3 znm3 hlk ho rfl 0 (by decide) rfl rfl rfl rfl rfl rfl hP (fun S => rfl) hd kk
theorem gf_3_1 {X : MX} {G : GE} {own : String} {cc : ByteArray} {nL : Nat} {σ : Mm} {lm : Ml} {pc nx o index : Nat} {P : Pm} {L : List (Nat × Value)} {st : List Value} (hX : Cx X G own cc nL) (hlk : Cond.fieldLink own index "WellLendsDepth$Reader" "at" "I" ∈ gT) (ho : kdo o = 3) (hP : σ o = P) (hd : decode cc pc = .ok (.getfield index, 3) ∧ pc + 3 = nx) (kk : WW X G nL σ lm nx L (.int (P 0 1) :: st)) : WW X G nL σ lm pc L (.ref (gA G o 0) :: st) := r_get hX zin3 hlk ho rfl 1 (by decide) rfl rfl hP rfl hd kk
theorem pf_3_1 {X : MX} {G : GE} {own : String} {cc : ByteArray} {nL : Nat} {σ : Mm} {lm : Ml} {pc nx o index : Nat} {P : Pm} {x : Int32} {L : List (Nat × Value)} {st : List Value} (hX : Cx X G own cc nL) (hlk : Cond.fieldLink own index "WellLendsDepth$Reader" "at" "I" ∈ gT) (ho : kdo o = 3) (hP : σ o = P) (hd : decode cc pc = .ok (.putfield index, 3) ∧ pc + 3 = nx) (kk : WW X G nL (setO σ o (up2 P 0 1 x)) lm nx L st) : WW X G nL σ lm pc L (.int x :: .ref (gA G o 0) :: st) := r_put hX zin3 zty3 zok3 znm3 hlk ho rfl 1 (by decide) rfl rfl rfl rfl rfl rfl hP (fun S => rfl) hd kk
theorem gf_3_2 {X : MX} {G : GE} {own : String} {cc : ByteArray} {nL : Nat} {σ : Mm} {lm : Ml} {pc nx o index : Nat} {P : Pm} {L : List (Nat × Value)} {st : List Value} (hX : Cx X G own cc nL) (hlk : Cond.fieldLink own index "WellLendsDepth$Reader" "faulty" "Z" ∈ gT) (ho : kdo o = 3) (hP : σ o = P) (hd : decode cc pc = .ok (.getfield index, 3) ∧ pc + 3 = nx) (kk : WW X G nL σ lm nx L (.int (P 0 2) :: st)) : WW X G nL σ lm pc L (.ref (gA G o 0) :: st) := r_get hX zin3 hlk ho rfl 2 (by decide) rfl rfl hP rfl hd kk
theorem pf_3_2 {X : MX} {G : GE} {own : String} {cc : ByteArray} {nL : Nat} {σ : Mm} {lm : Ml} {pc nx o index : Nat} {P : Pm} {x : Int32} {L : List (Nat × Value)} {st : List Value} (hz : x = 0 ∨ x = 1) (hX : Cx X G own cc nL) (hlk : Cond.fieldLink own index "WellLendsDepth$Reader" "faulty" "Z" ∈ gT) (ho : kdo o = 3) (hP : σ o = P) (hd : decode cc pc = .ok (.putfield index, 3) ∧ pc + 3 = nx) (kk : WW X G nL (setO σ o (up2 P 0 2 x)) lm nx L st) : WW X G nL σ lm pc L (.int x :: .ref (gA G o 0) :: st) := r_put hX zin3 zty3 zok3 znm3 hlk ho rfl 2 (by decide) rfl rfl rfl (zb_n hz) (zb_f hz) rfl hP (fun S => rfl) hd kk
theorem gf_3_3 {X : MX} {G : GE} {own : String} {cc : ByteArray} {nL : Nat} {σ : Mm} {lm : Ml} {pc nx o index : Nat} {P : Pm} {L : List (Nat × Value)} {st : List Value} (hX : Cx X G own cc nL) (hlk : Cond.fieldLink own index "WellLendsDepth$Reader" "text" "[I" ∈ gT) (ho : kdo o = 3) (hP : σ o = P) (hd : decode cc pc = .ok (.getfield index, 3) ∧ pc + 3 = nx) (kk : WW X G nL σ lm nx L (.ref (gA G o 4) :: st)) : WW X G nL σ lm pc L (.ref (gA G o 0) :: st) := r_get hX zin3 hlk ho rfl 3 (by decide) rfl rfl hP rfl hd kk
theorem gf_3_4 {X : MX} {G : GE} {own : String} {cc : ByteArray} {nL : Nat} {σ : Mm} {lm : Ml} {pc nx o index : Nat} {P : Pm} {L : List (Nat × Value)} {st : List Value} (hX : Cx X G own cc nL) (hlk : Cond.fieldLink own index "WellLendsDepth$Reader" "country" "LWellLendsDepth$Country;" ∈ gT) (ho : kdo o = 3) (hP : σ o = P) (hd : decode cc pc = .ok (.getfield index, 3) ∧ pc + 3 = nx) (kk : WW X G nL σ lm nx L (.ref (gA G (ix (P 0 4)) 0) :: st)) : WW X G nL σ lm pc L (.ref (gA G o 0) :: st) := r_get hX zin3 hlk ho rfl 4 (by decide) rfl rfl hP rfl hd kk
theorem gf_4_0 {X : MX} {G : GE} {own : String} {cc : ByteArray} {nL : Nat} {σ : Mm} {lm : Ml} {pc nx o index : Nat} {P : Pm} {L : List (Nat × Value)} {st : List Value} (hX : Cx X G own cc nL) (hlk : Cond.fieldLink own index "WellLendsDepth$Tapes" "sort" "[I" ∈ gT) (ho : kdo o = 4) (hP : σ o = P) (hd : decode cc pc = .ok (.getfield index, 3) ∧ pc + 3 = nx) (kk : WW X G nL σ lm nx L (.ref (gA G o 1) :: st)) : WW X G nL σ lm pc L (.ref (gA G o 0) :: st) := r_get hX zin4 hlk ho rfl 0 (by decide) rfl rfl hP rfl hd kk
theorem gf_4_1 {X : MX} {G : GE} {own : String} {cc : ByteArray} {nL : Nat} {σ : Mm} {lm : Ml} {pc nx o index : Nat} {P : Pm} {L : List (Nat × Value)} {st : List Value} (hX : Cx X G own cc nL) (hlk : Cond.fieldLink own index "WellLendsDepth$Tapes" "size" "[I" ∈ gT) (ho : kdo o = 4) (hP : σ o = P) (hd : decode cc pc = .ok (.getfield index, 3) ∧ pc + 3 = nx) (kk : WW X G nL σ lm nx L (.ref (gA G o 2) :: st)) : WW X G nL σ lm pc L (.ref (gA G o 0) :: st) := r_get hX zin4 hlk ho rfl 1 (by decide) rfl rfl hP rfl hd kk
theorem gf_4_2 {X : MX} {G : GE} {own : String} {cc : ByteArray} {nL : Nat} {σ : Mm} {lm : Ml} {pc nx o index : Nat} {P : Pm} {L : List (Nat × Value)} {st : List Value} (hX : Cx X G own cc nL) (hlk : Cond.fieldLink own index "WellLendsDepth$Tapes" "items" "[[J" ∈ gT) (ho : kdo o = 4) (hP : σ o = P) (hd : decode cc pc = .ok (.getfield index, 3) ∧ pc + 3 = nx) (kk : WW X G nL σ lm nx L (.ref (gA G o 3) :: st)) : WW X G nL σ lm pc L (.ref (gA G o 0) :: st) := r_get hX zin4 hlk ho rfl 2 (by decide) rfl rfl hP rfl hd kk
theorem gf_5_0 {X : MX} {G : GE} {own : String} {cc : ByteArray} {nL : Nat} {σ : Mm} {lm : Ml} {pc nx o index : Nat} {P : Pm} {L : List (Nat × Value)} {st : List Value} (hX : Cx X G own cc nL) (hlk : Cond.fieldLink own index "WellLendsDepth$Well" "depth" "I" ∈ gT) (ho : kdo o = 5) (hP : σ o = P) (hd : decode cc pc = .ok (.getfield index, 3) ∧ pc + 3 = nx) (kk : WW X G nL σ lm nx L (.int (P 0 0) :: st)) : WW X G nL σ lm pc L (.ref (gA G o 0) :: st) := r_get hX zin5 hlk ho rfl 0 (by decide) rfl rfl hP rfl hd kk
theorem pf_5_0 {X : MX} {G : GE} {own : String} {cc : ByteArray} {nL : Nat} {σ : Mm} {lm : Ml} {pc nx o index : Nat} {P : Pm} {x : Int32} {L : List (Nat × Value)} {st : List Value} (hX : Cx X G own cc nL) (hlk : Cond.fieldLink own index "WellLendsDepth$Well" "depth" "I" ∈ gT) (ho : kdo o = 5) (hP : σ o = P) (hd : decode cc pc = .ok (.putfield index, 3) ∧ pc + 3 = nx) (kk : WW X G nL (setO σ o (up2 P 0 0 x)) lm nx L st) : WW X G nL σ lm pc L (.int x :: .ref (gA G o 0) :: st) := r_put hX zin5 zty5 zok5 znm5 hlk ho rfl 0 (by decide) rfl rfl rfl rfl rfl rfl hP (fun S => rfl) hd kk
theorem gf_5_1 {X : MX} {G : GE} {own : String} {cc : ByteArray} {nL : Nat} {σ : Mm} {lm : Ml} {pc nx o index : Nat} {P : Pm} {L : List (Nat × Value)} {st : List Value} (hX : Cx X G own cc nL) (hlk : Cond.fieldLink own index "WellLendsDepth$Well" "day" "I" ∈ gT) (ho : kdo o = 5) (hP : σ o = P) (hd : decode cc pc = .ok (.getfield index, 3) ∧ pc + 3 = nx) (kk : WW X G nL σ lm nx L (.int (P 0 1) :: st)) : WW X G nL σ lm pc L (.ref (gA G o 0) :: st) := r_get hX zin5 hlk ho rfl 1 (by decide) rfl rfl hP rfl hd kk
theorem pf_5_1 {X : MX} {G : GE} {own : String} {cc : ByteArray} {nL : Nat} {σ : Mm} {lm : Ml} {pc nx o index : Nat} {P : Pm} {x : Int32} {L : List (Nat × Value)} {st : List Value} (hX : Cx X G own cc nL) (hlk : Cond.fieldLink own index "WellLendsDepth$Well" "day" "I" ∈ gT) (ho : kdo o = 5) (hP : σ o = P) (hd : decode cc pc = .ok (.putfield index, 3) ∧ pc + 3 = nx) (kk : WW X G nL (setO σ o (up2 P 0 1 x)) lm nx L st) : WW X G nL σ lm pc L (.int x :: .ref (gA G o 0) :: st) := r_put hX zin5 zty5 zok5 znm5 hlk ho rfl 1 (by decide) rfl rfl rfl rfl rfl rfl hP (fun S => rfl) hd kk
theorem gf_5_2 {X : MX} {G : GE} {own : String} {cc : ByteArray} {nL : Nat} {σ : Mm} {lm : Ml} {pc nx o index : Nat} {P : Pm} {L : List (Nat × Value)} {st : List Value} (hX : Cx X G own cc nL) (hlk : Cond.fieldLink own index "WellLendsDepth$Well" "count" "I" ∈ gT) (ho : kdo o = 5) (hP : σ o = P) (hd : decode cc pc = .ok (.getfield index, 3) ∧ pc + 3 = nx) (kk : WW X G nL σ lm nx L (.int (P 0 2) :: st)) : WW X G nL σ lm pc L (.ref (gA G o 0) :: st) := r_get hX zin5 hlk ho rfl 2 (by decide) rfl rfl hP rfl hd kk
theorem pf_5_2 {X : MX} {G : GE} {own : String} {cc : ByteArray} {nL : Nat} {σ : Mm} {lm : Ml} {pc nx o index : Nat} {P : Pm} {x : Int32} {L : List (Nat × Value)} {st : List Value} (hX : Cx X G own cc nL) (hlk : Cond.fieldLink own index "WellLendsDepth$Well" "count" "I" ∈ gT) (ho : kdo o = 5) (hP : σ o = P) (hd : decode cc pc = .ok (.putfield index, 3) ∧ pc + 3 = nx) (kk : WW X G nL (setO σ o (up2 P 0 2 x)) lm nx L st) : WW X G nL σ lm pc L (.int x :: .ref (gA G o 0) :: st) := r_put hX zin5 zty5 zok5 znm5 hlk ho rfl 2 (by decide) rfl rfl rfl rfl rfl rfl hP (fun S => rfl) hd kk
theorem gf_5_3 {X : MX} {G : GE} {own : String} {cc : ByteArray} {nL : Nat} {σ : Mm} {lm : Ml} {pc nx o index : Nat} {P : Pm} {L : List (Nat × Value)} {st : List Value} (hX : Cx X G own cc nL) (hlk : Cond.fieldLink own index "WellLendsDepth$Well" "turned" "I" ∈ gT) (ho : kdo o = 5) (hP : σ o = P) (hd : decode cc pc = .ok (.getfield index, 3) ∧ pc + 3 = nx) (kk : WW X G nL σ lm nx L (.int (P 0 3) :: st)) : WW X G nL σ lm pc L (.ref (gA G o 0) :: st) := r_get hX zin5 hlk ho rfl 3 (by decide) rfl rfl hP rfl hd kk
theorem pf_5_3 {X : MX} {G : GE} {own : String} {cc : ByteArray} {nL : Nat} {σ : Mm} {lm : Ml} {pc nx o index : Nat} {P : Pm} {x : Int32} {L : List (Nat × Value)} {st : List Value} (hX : Cx X G own cc nL) (hlk : Cond.fieldLink own index "WellLendsDepth$Well" "turned" "I" ∈ gT) (ho : kdo o = 5) (hP : σ o = P) (hd : decode cc pc = .ok (.putfield index, 3) ∧ pc + 3 = nx) (kk : WW X G nL (setO σ o (up2 P 0 3 x)) lm nx L st) : WW X G nL σ lm pc L (.int x :: .ref (gA G o 0) :: st) := r_put hX zin5 zty5 zok5 znm5 hlk ho rfl 3 (by decide) rfl rfl rfl rfl rfl rfl hP (fun S => rfl) hd kk
theorem gf_5_4 {X : MX} {G : GE} {own : String} {cc : ByteArray} {nL : Nat} {σ : Mm} {lm : Ml} {pc nx o index : Nat} {P : Pm} {L : List (Nat × Value)} {st : List Value} (hX : Cx X G own cc nL) (hlk : Cond.fieldLink own index "WellLendsDepth$Well" "kind" "[I" ∈ gT) (ho : kdo o = 5) (hP : σ o = P) (hd : decode cc pc = .ok (.getfield index, 3) ∧ pc + 3 = nx) (kk : WW X G nL σ lm nx L (.ref (gA G o 5) :: st)) : WW X G nL σ lm pc L (.ref (gA G o 0) :: st) := r_get hX zin5 hlk ho rfl 4 (by decide) rfl rfl hP rfl hd kk
theorem gf_5_5 {X : MX} {G : GE} {own : String} {cc : ByteArray} {nL : Nat} {σ : Mm} {lm : Ml} {pc nx o index : Nat} {P : Pm} {L : List (Nat × Value)} {st : List Value} (hX : Cx X G own cc nL) (hlk : Cond.fieldLink own index "WellLendsDepth$Well" "v" "[I" ∈ gT) (ho : kdo o = 5) (hP : σ o = P) (hd : decode cc pc = .ok (.getfield index, 3) ∧ pc + 3 = nx) (kk : WW X G nL σ lm nx L (.ref (gA G o 6) :: st)) : WW X G nL σ lm pc L (.ref (gA G o 0) :: st) := r_get hX zin5 hlk ho rfl 5 (by decide) rfl rfl hP rfl hd kk
theorem gf_5_6 {X : MX} {G : GE} {own : String} {cc : ByteArray} {nL : Nat} {σ : Mm} {lm : Ml} {pc nx o index : Nat} {P : Pm} {L : List (Nat × Value)} {st : List Value} (hX : Cx X G own cc nL) (hlk : Cond.fieldLink own index "WellLendsDepth$Well" "wants" "[I" ∈ gT) (ho : kdo o = 5) (hP : σ o = P) (hd : decode cc pc = .ok (.getfield index, 3) ∧ pc + 3 = nx) (kk : WW X G nL σ lm nx L (.ref (gA G o 7) :: st)) : WW X G nL σ lm pc L (.ref (gA G o 0) :: st) := r_get hX zin5 hlk ho rfl 6 (by decide) rfl rfl hP rfl hd kk
theorem gf_5_7 {X : MX} {G : GE} {own : String} {cc : ByteArray} {nL : Nat} {σ : Mm} {lm : Ml} {pc nx o index : Nat} {P : Pm} {L : List (Nat × Value)} {st : List Value} (hX : Cx X G own cc nL) (hlk : Cond.fieldLink own index "WellLendsDepth$Well" "every" "[I" ∈ gT) (ho : kdo o = 5) (hP : σ o = P) (hd : decode cc pc = .ok (.getfield index, 3) ∧ pc + 3 = nx) (kk : WW X G nL σ lm nx L (.ref (gA G o 8) :: st)) : WW X G nL σ lm pc L (.ref (gA G o 0) :: st) := r_get hX zin5 hlk ho rfl 7 (by decide) rfl rfl hP rfl hd kk
theorem gf_5_8 {X : MX} {G : GE} {own : String} {cc : ByteArray} {nL : Nat} {σ : Mm} {lm : Ml} {pc nx o index : Nat} {P : Pm} {L : List (Nat × Value)} {st : List Value} (hX : Cx X G own cc nL) (hlk : Cond.fieldLink own index "WellLendsDepth$Well" "has" "[I" ∈ gT) (ho : kdo o = 5) (hP : σ o = P) (hd : decode cc pc = .ok (.getfield index, 3) ∧ pc + 3 = nx) (kk : WW X G nL σ lm nx L (.ref (gA G o 9) :: st)) : WW X G nL σ lm pc L (.ref (gA G o 0) :: st) := r_get hX zin5 hlk ho rfl 8 (by decide) rfl rfl hP rfl hd kk
theorem gf_5_9 {X : MX} {G : GE} {own : String} {cc : ByteArray} {nL : Nat} {σ : Mm} {lm : Ml} {pc nx o index : Nat} {P : Pm} {L : List (Nat × Value)} {st : List Value} (hX : Cx X G own cc nL) (hlk : Cond.fieldLink own index "WellLendsDepth$Well" "left" "[I" ∈ gT) (ho : kdo o = 5) (hP : σ o = P) (hd : decode cc pc = .ok (.getfield index, 3) ∧ pc + 3 = nx) (kk : WW X G nL σ lm nx L (.ref (gA G o 10) :: st)) : WW X G nL σ lm pc L (.ref (gA G o 0) :: st) := r_get hX zin5 hlk ho rfl 9 (by decide) rfl rfl hP rfl hd kk
theorem gf_5_10 {X : MX} {G : GE} {own : String} {cc : ByteArray} {nL : Nat} {σ : Mm} {lm : Ml} {pc nx o index : Nat} {P : Pm} {L : List (Nat × Value)} {st : List Value} (hX : Cx X G own cc nL) (hlk : Cond.fieldLink own index "WellLendsDepth$Well" "owes" "[I" ∈ gT) (ho : kdo o = 5) (hP : σ o = P) (hd : decode cc pc = .ok (.getfield index, 3) ∧ pc + 3 = nx) (kk : WW X G nL σ lm nx L (.ref (gA G o 11) :: st)) : WW X G nL σ lm pc L (.ref (gA G o 0) :: st) := r_get hX zin5 hlk ho rfl 10 (by decide) rfl rfl hP rfl hd kk
theorem gf_5_11 {X : MX} {G : GE} {own : String} {cc : ByteArray} {nL : Nat} {σ : Mm} {lm : Ml} {pc nx o index : Nat} {P : Pm} {L : List (Nat × Value)} {st : List Value} (hX : Cx X G own cc nL) (hlk : Cond.fieldLink own index "WellLendsDepth$Well" "sent" "[I" ∈ gT) (ho : kdo o = 5) (hP : σ o = P) (hd : decode cc pc = .ok (.getfield index, 3) ∧ pc + 3 = nx) (kk : WW X G nL σ lm nx L (.ref (gA G o 12) :: st)) : WW X G nL σ lm pc L (.ref (gA G o 0) :: st) := r_get hX zin5 hlk ho rfl 11 (by decide) rfl rfl hP rfl hd kk
theorem gf_5_12 {X : MX} {G : GE} {own : String} {cc : ByteArray} {nL : Nat} {σ : Mm} {lm : Ml} {pc nx o index : Nat} {P : Pm} {L : List (Nat × Value)} {st : List Value} (hX : Cx X G own cc nL) (hlk : Cond.fieldLink own index "WellLendsDepth$Well" "line" "[I" ∈ gT) (ho : kdo o = 5) (hP : σ o = P) (hd : decode cc pc = .ok (.getfield index, 3) ∧ pc + 3 = nx) (kk : WW X G nL σ lm nx L (.ref (gA G o 13) :: st)) : WW X G nL σ lm pc L (.ref (gA G o 0) :: st) := r_get hX zin5 hlk ho rfl 12 (by decide) rfl rfl hP rfl hd kk
theorem gf_5_13 {X : MX} {G : GE} {own : String} {cc : ByteArray} {nL : Nat} {σ : Mm} {lm : Ml} {pc nx o index : Nat} {P : Pm} {L : List (Nat × Value)} {st : List Value} (hX : Cx X G own cc nL) (hlk : Cond.fieldLink own index "WellLendsDepth$Well" "rows" "[I" ∈ gT) (ho : kdo o = 5) (hP : σ o = P) (hd : decode cc pc = .ok (.getfield index, 3) ∧ pc + 3 = nx) (kk : WW X G nL σ lm nx L (.ref (gA G o 14) :: st)) : WW X G nL σ lm pc L (.ref (gA G o 0) :: st) := r_get hX zin5 hlk ho rfl 13 (by decide) rfl rfl hP rfl hd kk
theorem gf_6_0 {X : MX} {G : GE} {own : String} {cc : ByteArray} {nL : Nat} {σ : Mm} {lm : Ml} {pc nx o index : Nat} {P : Pm} {L : List (Nat × Value)} {st : List Value} (hX : Cx X G own cc nL) (hlk : Cond.fieldLink own index "WellLendsDepth" "now" "LWellLendsDepth$Well;" ∈ gT) (ho : kdo o = 6) (hP : σ o = P) (hd : decode cc pc = .ok (.getfield index, 3) ∧ pc + 3 = nx) (kk : WW X G nL σ lm nx L (.ref (gA G 1 0) :: st)) : WW X G nL σ lm pc L (.ref (gA G o 0) :: st) := r_get hX zin6 hlk ho rfl 0 (by decide) rfl rfl hP rfl hd kk
theorem gf_6_1 {X : MX} {G : GE} {own : String} {cc : ByteArray} {nL : Nat} {σ : Mm} {lm : Ml} {pc nx o index : Nat} {P : Pm} {L : List (Nat × Value)} {st : List Value} (hX : Cx X G own cc nL) (hlk : Cond.fieldLink own index "WellLendsDepth" "trial" "LWellLendsDepth$Well;" ∈ gT) (ho : kdo o = 6) (hP : σ o = P) (hd : decode cc pc = .ok (.getfield index, 3) ∧ pc + 3 = nx) (kk : WW X G nL σ lm nx L (.ref (gA G 2 0) :: st)) : WW X G nL σ lm pc L (.ref (gA G o 0) :: st) := r_get hX zin6 hlk ho rfl 1 (by decide) rfl rfl hP rfl hd kk
theorem gf_6_2 {X : MX} {G : GE} {own : String} {cc : ByteArray} {nL : Nat} {σ : Mm} {lm : Ml} {pc nx o index : Nat} {P : Pm} {L : List (Nat × Value)} {st : List Value} (hX : Cx X G own cc nL) (hlk : Cond.fieldLink own index "WellLendsDepth" "kept" "LWellLendsDepth$Well;" ∈ gT) (ho : kdo o = 6) (hP : σ o = P) (hd : decode cc pc = .ok (.getfield index, 3) ∧ pc + 3 = nx) (kk : WW X G nL σ lm nx L (.ref (gA G 3 0) :: st)) : WW X G nL σ lm pc L (.ref (gA G o 0) :: st) := r_get hX zin6 hlk ho rfl 2 (by decide) rfl rfl hP rfl hd kk
theorem gf_6_3 {X : MX} {G : GE} {own : String} {cc : ByteArray} {nL : Nat} {σ : Mm} {lm : Ml} {pc nx o index : Nat} {P : Pm} {L : List (Nat × Value)} {st : List Value} (hX : Cx X G own cc nL) (hlk : Cond.fieldLink own index "WellLendsDepth" "hand" "LWellLendsDepth$Hand;" ∈ gT) (ho : kdo o = 6) (hP : σ o = P) (hd : decode cc pc = .ok (.getfield index, 3) ∧ pc + 3 = nx) (kk : WW X G nL σ lm nx L (.ref (gA G 4 0) :: st)) : WW X G nL σ lm pc L (.ref (gA G o 0) :: st) := r_get hX zin6 hlk ho rfl 3 (by decide) rfl rfl hP rfl hd kk
theorem gf_6_4 {X : MX} {G : GE} {own : String} {cc : ByteArray} {nL : Nat} {σ : Mm} {lm : Ml} {pc nx o index : Nat} {P : Pm} {L : List (Nat × Value)} {st : List Value} (hX : Cx X G own cc nL) (hlk : Cond.fieldLink own index "WellLendsDepth" "keptHand" "LWellLendsDepth$Hand;" ∈ gT) (ho : kdo o = 6) (hP : σ o = P) (hd : decode cc pc = .ok (.getfield index, 3) ∧ pc + 3 = nx) (kk : WW X G nL σ lm nx L (.ref (gA G 5 0) :: st)) : WW X G nL σ lm pc L (.ref (gA G o 0) :: st) := r_get hX zin6 hlk ho rfl 4 (by decide) rfl rfl hP rfl hd kk
theorem gf_6_5 {X : MX} {G : GE} {own : String} {cc : ByteArray} {nL : Nat} {σ : Mm} {lm : Ml} {pc nx o index : Nat} {P : Pm} {L : List (Nat × Value)} {st : List Value} (hX : Cx X G own cc nL) (hlk : Cond.fieldLink own index "WellLendsDepth" "reader" "LWellLendsDepth$Reader;" ∈ gT) (ho : kdo o = 6) (hP : σ o = P) (hd : decode cc pc = .ok (.getfield index, 3) ∧ pc + 3 = nx) (kk : WW X G nL σ lm nx L (.ref (gA G 6 0) :: st)) : WW X G nL σ lm pc L (.ref (gA G o 0) :: st) := r_get hX zin6 hlk ho rfl 5 (by decide) rfl rfl hP rfl hd kk
theorem gf_6_6 {X : MX} {G : GE} {own : String} {cc : ByteArray} {nL : Nat} {σ : Mm} {lm : Ml} {pc nx o index : Nat} {P : Pm} {L : List (Nat × Value)} {st : List Value} (hX : Cx X G own cc nL) (hlk : Cond.fieldLink own index "WellLendsDepth" "plain" "LWellLendsDepth$Country;" ∈ gT) (ho : kdo o = 6) (hP : σ o = P) (hd : decode cc pc = .ok (.getfield index, 3) ∧ pc + 3 = nx) (kk : WW X G nL σ lm nx L (.ref (gA G 7 0) :: st)) : WW X G nL σ lm pc L (.ref (gA G o 0) :: st) := r_get hX zin6 hlk ho rfl 6 (by decide) rfl rfl hP rfl hd kk
theorem gf_6_7 {X : MX} {G : GE} {own : String} {cc : ByteArray} {nL : Nat} {σ : Mm} {lm : Ml} {pc nx o index : Nat} {P : Pm} {L : List (Nat × Value)} {st : List Value} (hX : Cx X G own cc nL) (hlk : Cond.fieldLink own index "WellLendsDepth" "countries" "[LWellLendsDepth$Country;" ∈ gT) (ho : kdo o = 6) (hP : σ o = P) (hd : decode cc pc = .ok (.getfield index, 3) ∧ pc + 3 = nx) (kk : WW X G nL σ lm nx L (.ref (gA G o 8) :: st)) : WW X G nL σ lm pc L (.ref (gA G o 0) :: st) := r_get hX zin6 hlk ho rfl 7 (by decide) rfl rfl hP rfl hd kk
theorem gf_6_8 {X : MX} {G : GE} {own : String} {cc : ByteArray} {nL : Nat} {σ : Mm} {lm : Ml} {pc nx o index : Nat} {P : Pm} {L : List (Nat × Value)} {st : List Value} (hX : Cx X G own cc nL) (hlk : Cond.fieldLink own index "WellLendsDepth" "actor" "LWellLendsDepth$Actor;" ∈ gT) (ho : kdo o = 6) (hP : σ o = P) (hd : decode cc pc = .ok (.getfield index, 3) ∧ pc + 3 = nx) (kk : WW X G nL σ lm nx L (.ref (gA G 15 0) :: st)) : WW X G nL σ lm pc L (.ref (gA G o 0) :: st) := r_get hX zin6 hlk ho rfl 8 (by decide) rfl rfl hP rfl hd kk
theorem gf_6_9 {X : MX} {G : GE} {own : String} {cc : ByteArray} {nL : Nat} {σ : Mm} {lm : Ml} {pc nx o index : Nat} {P : Pm} {L : List (Nat × Value)} {st : List Value} (hX : Cx X G own cc nL) (hlk : Cond.fieldLink own index "WellLendsDepth" "tapes" "LWellLendsDepth$Tapes;" ∈ gT) (ho : kdo o = 6) (hP : σ o = P) (hd : decode cc pc = .ok (.getfield index, 3) ∧ pc + 3 = nx) (kk : WW X G nL σ lm nx L (.ref (gA G 16 0) :: st)) : WW X G nL σ lm pc L (.ref (gA G o 0) :: st) := r_get hX zin6 hlk ho rfl 9 (by decide) rfl rfl hP rfl hd kk
theorem gf_6_10 {X : MX} {G : GE} {own : String} {cc : ByteArray} {nL : Nat} {σ : Mm} {lm : Ml} {pc nx o index : Nat} {P : Pm} {L : List (Nat × Value)} {st : List Value} (hX : Cx X G own cc nL) (hlk : Cond.fieldLink own index "WellLendsDepth" "made" "I" ∈ gT) (ho : kdo o = 6) (hP : σ o = P) (hd : decode cc pc = .ok (.getfield index, 3) ∧ pc + 3 = nx) (kk : WW X G nL σ lm nx L (.int (P 0 10) :: st)) : WW X G nL σ lm pc L (.ref (gA G o 0) :: st) := r_get hX zin6 hlk ho rfl 10 (by decide) rfl rfl hP rfl hd kk
theorem pf_6_10 {X : MX} {G : GE} {own : String} {cc : ByteArray} {nL : Nat} {σ : Mm} {lm : Ml} {pc nx o index : Nat} {P : Pm} {x : Int32} {L : List (Nat × Value)} {st : List Value} (hX : Cx X G own cc nL) (hlk : Cond.fieldLink own index "WellLendsDepth" "made" "I" ∈ gT) (ho : kdo o = 6) (hP : σ o = P) (hd : decode cc pc = .ok (.putfield index, 3) ∧ pc + 3 = nx) (kk : WW X G nL (setO σ o (up2 P 0 10 x)) lm nx L st) : WW X G nL σ lm pc L (.int x :: .ref (gA G o 0) :: st) := r_put hX zin6 zty6 zok6 znm6 hlk ho rfl 10 (by decide) rfl rfl rfl rfl rfl rfl hP (fun S => rfl) hd kk
theorem gf_6_11 {X : MX} {G : GE} {own : String} {cc : ByteArray} {nL : Nat} {σ : Mm} {lm : Ml} {pc nx o index : Nat} {P : Pm} {L : List (Nat × Value)} {st : List Value} (hX : Cx X G own cc nL) (hlk : Cond.fieldLink own index "WellLendsDepth" "holding" "I" ∈ gT) (ho : kdo o = 6) (hP : σ o = P) (hd : decode cc pc = .ok (.getfield index, 3) ∧ pc + 3 = nx) (kk : WW X G nL σ lm nx L (.int (P 0 11) :: st)) : WW X G nL σ lm pc L (.ref (gA G o 0) :: st) := r_get hX zin6 hlk ho rfl 11 (by decide) rfl rfl hP rfl hd kk
theorem pf_6_11 {X : MX} {G : GE} {own : String} {cc : ByteArray} {nL : Nat} {σ : Mm} {lm : Ml} {pc nx o index : Nat} {P : Pm} {x : Int32} {L : List (Nat × Value)} {st : List Value} (hX : Cx X G own cc nL) (hlk : Cond.fieldLink own index "WellLendsDepth" "holding" "I" ∈ gT) (ho : kdo o = 6) (hP : σ o = P) (hd : decode cc pc = .ok (.putfield index, 3) ∧ pc + 3 = nx) (kk : WW X G nL (setO σ o (up2 P 0 11 x)) lm nx L st) : WW X G nL σ lm pc L (.int x :: .ref (gA G o 0) :: st) := r_put hX zin6 zty6 zok6 znm6 hlk ho rfl 11 (by decide) rfl rfl rfl rfl rfl rfl hP (fun S => rfl) hd kk
theorem gf_6_12 {X : MX} {G : GE} {own : String} {cc : ByteArray} {nL : Nat} {σ : Mm} {lm : Ml} {pc nx o index : Nat} {P : Pm} {L : List (Nat × Value)} {st : List Value} (hX : Cx X G own cc nL) (hlk : Cond.fieldLink own index "WellLendsDepth" "keptHolding" "I" ∈ gT) (ho : kdo o = 6) (hP : σ o = P) (hd : decode cc pc = .ok (.getfield index, 3) ∧ pc + 3 = nx) (kk : WW X G nL σ lm nx L (.int (P 0 12) :: st)) : WW X G nL σ lm pc L (.ref (gA G o 0) :: st) := r_get hX zin6 hlk ho rfl 12 (by decide) rfl rfl hP rfl hd kk
theorem pf_6_12 {X : MX} {G : GE} {own : String} {cc : ByteArray} {nL : Nat} {σ : Mm} {lm : Ml} {pc nx o index : Nat} {P : Pm} {x : Int32} {L : List (Nat × Value)} {st : List Value} (hX : Cx X G own cc nL) (hlk : Cond.fieldLink own index "WellLendsDepth" "keptHolding" "I" ∈ gT) (ho : kdo o = 6) (hP : σ o = P) (hd : decode cc pc = .ok (.putfield index, 3) ∧ pc + 3 = nx) (kk : WW X G nL (setO σ o (up2 P 0 12 x)) lm nx L st) : WW X G nL σ lm pc L (.int x :: .ref (gA G o 0) :: st) := r_put hX zin6 zty6 zok6 znm6 hlk ho rfl 12 (by decide) rfl rfl rfl rfl rfl rfl hP (fun S => rfl) hd kk
theorem gf_6_13 {X : MX} {G : GE} {own : String} {cc : ByteArray} {nL : Nat} {σ : Mm} {lm : Ml} {pc nx o index : Nat} {P : Pm} {L : List (Nat × Value)} {st : List Value} (hX : Cx X G own cc nL) (hlk : Cond.fieldLink own index "WellLendsDepth" "imaged" "Z" ∈ gT) (ho : kdo o = 6) (hP : σ o = P) (hd : decode cc pc = .ok (.getfield index, 3) ∧ pc + 3 = nx) (kk : WW X G nL σ lm nx L (.int (P 0 13) :: st)) : WW X G nL σ lm pc L (.ref (gA G o 0) :: st) := r_get hX zin6 hlk ho rfl 13 (by decide) rfl rfl hP rfl hd kk
theorem pf_6_13 {X : MX} {G : GE} {own : String} {cc : ByteArray} {nL : Nat} {σ : Mm} {lm : Ml} {pc nx o index : Nat} {P : Pm} {x : Int32} {L : List (Nat × Value)} {st : List Value} (hz : x = 0 ∨ x = 1) (hX : Cx X G own cc nL) (hlk : Cond.fieldLink own index "WellLendsDepth" "imaged" "Z" ∈ gT) (ho : kdo o = 6) (hP : σ o = P) (hd : decode cc pc = .ok (.putfield index, 3) ∧ pc + 3 = nx) (kk : WW X G nL (setO σ o (up2 P 0 13 x)) lm nx L st) : WW X G nL σ lm pc L (.int x :: .ref (gA G o 0) :: st) := r_put hX zin6 zty6 zok6 znm6 hlk ho rfl 13 (by decide) rfl rfl rfl (zb_n hz) (zb_f hz) rfl hP (fun S => rfl) hd kk
theorem gf_7_0 {X : MX} {G : GE} {own : String} {cc : ByteArray} {nL : Nat} {σ : Mm} {lm : Ml} {pc nx o index : Nat} {P : Pm} {L : List (Nat × Value)} {st : List Value} (hX : Cx X G own cc nL) (hlk : Cond.fieldLink own index "WellLendsDepthModel" "deep" "I" ∈ gT) (ho : kdo o = 7) (hP : σ o = P) (hd : decode cc pc = .ok (.getfield index, 3) ∧ pc + 3 = nx) (kk : WW X G nL σ lm nx L (.int (P 0 0) :: st)) : WW X G nL σ lm pc L (.ref (gA G o 0) :: st) := r_get hX zin7 hlk ho rfl 0 (by decide) rfl rfl hP rfl hd kk
theorem pf_7_0 {X : MX} {G : GE} {own : String} {cc : ByteArray} {nL : Nat} {σ : Mm} {lm : Ml} {pc nx o index : Nat} {P : Pm} {x : Int32} {L : List (Nat × Value)} {st : List Value} (hX : Cx X G own cc nL) (hlk : Cond.fieldLink own index "WellLendsDepthModel" "deep" "I" ∈ gT) (ho : kdo o = 7) (hP : σ o = P) (hd : decode cc pc = .ok (.putfield index, 3) ∧ pc + 3 = nx) (kk : WW X G nL (setO σ o (up2 P 0 0 x)) lm nx L st) : WW X G nL σ lm pc L (.int x :: .ref (gA G o 0) :: st) := r_put hX zin7 zty7 zok7 znm7 hlk ho rfl 0 (by decide) rfl rfl rfl rfl rfl rfl hP (fun S => rfl) hd kk
theorem gf_7_1 {X : MX} {G : GE} {own : String} {cc : ByteArray} {nL : Nat} {σ : Mm} {lm : Ml} {pc nx o index : Nat} {P : Pm} {L : List (Nat × Value)} {st : List Value} (hX : Cx X G own cc nL) (hlk : Cond.fieldLink own index "WellLendsDepthModel" "borrowers" "I" ∈ gT) (ho : kdo o = 7) (hP : σ o = P) (hd : decode cc pc = .ok (.getfield index, 3) ∧ pc + 3 = nx) (kk : WW X G nL σ lm nx L (.int (P 0 1) :: st)) : WW X G nL σ lm pc L (.ref (gA G o 0) :: st) := r_get hX zin7 hlk ho rfl 1 (by decide) rfl rfl hP rfl hd kk
theorem pf_7_1 {X : MX} {G : GE} {own : String} {cc : ByteArray} {nL : Nat} {σ : Mm} {lm : Ml} {pc nx o index : Nat} {P : Pm} {x : Int32} {L : List (Nat × Value)} {st : List Value} (hX : Cx X G own cc nL) (hlk : Cond.fieldLink own index "WellLendsDepthModel" "borrowers" "I" ∈ gT) (ho : kdo o = 7) (hP : σ o = P) (hd : decode cc pc = .ok (.putfield index, 3) ∧ pc + 3 = nx) (kk : WW X G nL (setO σ o (up2 P 0 1 x)) lm nx L st) : WW X G nL σ lm pc L (.int x :: .ref (gA G o 0) :: st) := r_put hX zin7 zty7 zok7 znm7 hlk ho rfl 1 (by decide) rfl rfl rfl rfl rfl rfl hP (fun S => rfl) hd kk
theorem gf_7_2 {X : MX} {G : GE} {own : String} {cc : ByteArray} {nL : Nat} {σ : Mm} {lm : Ml} {pc nx o index : Nat} {P : Pm} {L : List (Nat × Value)} {st : List Value} (hX : Cx X G own cc nL) (hlk : Cond.fieldLink own index "WellLendsDepthModel" "days" "I" ∈ gT) (ho : kdo o = 7) (hP : σ o = P) (hd : decode cc pc = .ok (.getfield index, 3) ∧ pc + 3 = nx) (kk : WW X G nL σ lm nx L (.int (P 0 2) :: st)) : WW X G nL σ lm pc L (.ref (gA G o 0) :: st) := r_get hX zin7 hlk ho rfl 2 (by decide) rfl rfl hP rfl hd kk
theorem pf_7_2 {X : MX} {G : GE} {own : String} {cc : ByteArray} {nL : Nat} {σ : Mm} {lm : Ml} {pc nx o index : Nat} {P : Pm} {x : Int32} {L : List (Nat × Value)} {st : List Value} (hX : Cx X G own cc nL) (hlk : Cond.fieldLink own index "WellLendsDepthModel" "days" "I" ∈ gT) (ho : kdo o = 7) (hP : σ o = P) (hd : decode cc pc = .ok (.putfield index, 3) ∧ pc + 3 = nx) (kk : WW X G nL (setO σ o (up2 P 0 2 x)) lm nx L st) : WW X G nL σ lm pc L (.int x :: .ref (gA G o 0) :: st) := r_put hX zin7 zty7 zok7 znm7 hlk ho rfl 2 (by decide) rfl rfl rfl rfl rfl rfl hP (fun S => rfl) hd kk
theorem gf_7_3 {X : MX} {G : GE} {own : String} {cc : ByteArray} {nL : Nat} {σ : Mm} {lm : Ml} {pc nx o index : Nat} {P : Pm} {L : List (Nat × Value)} {st : List Value} (hX : Cx X G own cc nL) (hlk : Cond.fieldLink own index "WellLendsDepthModel" "kind" "[I" ∈ gT) (ho : kdo o = 7) (hP : σ o = P) (hd : decode cc pc = .ok (.getfield index, 3) ∧ pc + 3 = nx) (kk : WW X G nL σ lm nx L (.ref (gA G o 4) :: st)) : WW X G nL σ lm pc L (.ref (gA G o 0) :: st) := r_get hX zin7 hlk ho rfl 3 (by decide) rfl rfl hP rfl hd kk
theorem gf_7_4 {X : MX} {G : GE} {own : String} {cc : ByteArray} {nL : Nat} {σ : Mm} {lm : Ml} {pc nx o index : Nat} {P : Pm} {L : List (Nat × Value)} {st : List Value} (hX : Cx X G own cc nL) (hlk : Cond.fieldLink own index "WellLendsDepthModel" "v" "[I" ∈ gT) (ho : kdo o = 7) (hP : σ o = P) (hd : decode cc pc = .ok (.getfield index, 3) ∧ pc + 3 = nx) (kk : WW X G nL σ lm nx L (.ref (gA G o 5) :: st)) : WW X G nL σ lm pc L (.ref (gA G o 0) :: st) := r_get hX zin7 hlk ho rfl 4 (by decide) rfl rfl hP rfl hd kk
theorem gf_7_5 {X : MX} {G : GE} {own : String} {cc : ByteArray} {nL : Nat} {σ : Mm} {lm : Ml} {pc nx o index : Nat} {P : Pm} {L : List (Nat × Value)} {st : List Value} (hX : Cx X G own cc nL) (hlk : Cond.fieldLink own index "WellLendsDepthModel" "wants" "[I" ∈ gT) (ho : kdo o = 7) (hP : σ o = P) (hd : decode cc pc = .ok (.getfield index, 3) ∧ pc + 3 = nx) (kk : WW X G nL σ lm nx L (.ref (gA G o 6) :: st)) : WW X G nL σ lm pc L (.ref (gA G o 0) :: st) := r_get hX zin7 hlk ho rfl 5 (by decide) rfl rfl hP rfl hd kk
theorem gf_7_6 {X : MX} {G : GE} {own : String} {cc : ByteArray} {nL : Nat} {σ : Mm} {lm : Ml} {pc nx o index : Nat} {P : Pm} {L : List (Nat × Value)} {st : List Value} (hX : Cx X G own cc nL) (hlk : Cond.fieldLink own index "WellLendsDepthModel" "every" "[I" ∈ gT) (ho : kdo o = 7) (hP : σ o = P) (hd : decode cc pc = .ok (.getfield index, 3) ∧ pc + 3 = nx) (kk : WW X G nL σ lm nx L (.ref (gA G o 7) :: st)) : WW X G nL σ lm pc L (.ref (gA G o 0) :: st) := r_get hX zin7 hlk ho rfl 6 (by decide) rfl rfl hP rfl hd kk
theorem gf_7_7 {X : MX} {G : GE} {own : String} {cc : ByteArray} {nL : Nat} {σ : Mm} {lm : Ml} {pc nx o index : Nat} {P : Pm} {L : List (Nat × Value)} {st : List Value} (hX : Cx X G own cc nL) (hlk : Cond.fieldLink own index "WellLendsDepthModel" "has" "[I" ∈ gT) (ho : kdo o = 7) (hP : σ o = P) (hd : decode cc pc = .ok (.getfield index, 3) ∧ pc + 3 = nx) (kk : WW X G nL σ lm nx L (.ref (gA G o 8) :: st)) : WW X G nL σ lm pc L (.ref (gA G o 0) :: st) := r_get hX zin7 hlk ho rfl 7 (by decide) rfl rfl hP rfl hd kk
theorem gf_7_8 {X : MX} {G : GE} {own : String} {cc : ByteArray} {nL : Nat} {σ : Mm} {lm : Ml} {pc nx o index : Nat} {P : Pm} {L : List (Nat × Value)} {st : List Value} (hX : Cx X G own cc nL) (hlk : Cond.fieldLink own index "WellLendsDepthModel" "left" "[I" ∈ gT) (ho : kdo o = 7) (hP : σ o = P) (hd : decode cc pc = .ok (.getfield index, 3) ∧ pc + 3 = nx) (kk : WW X G nL σ lm nx L (.ref (gA G o 9) :: st)) : WW X G nL σ lm pc L (.ref (gA G o 0) :: st) := r_get hX zin7 hlk ho rfl 8 (by decide) rfl rfl hP rfl hd kk
theorem gf_7_9 {X : MX} {G : GE} {own : String} {cc : ByteArray} {nL : Nat} {σ : Mm} {lm : Ml} {pc nx o index : Nat} {P : Pm} {L : List (Nat × Value)} {st : List Value} (hX : Cx X G own cc nL) (hlk : Cond.fieldLink own index "WellLendsDepthModel" "owes" "[I" ∈ gT) (ho : kdo o = 7) (hP : σ o = P) (hd : decode cc pc = .ok (.getfield index, 3) ∧ pc + 3 = nx) (kk : WW X G nL σ lm nx L (.ref (gA G o 10) :: st)) : WW X G nL σ lm pc L (.ref (gA G o 0) :: st) := r_get hX zin7 hlk ho rfl 9 (by decide) rfl rfl hP rfl hd kk
theorem gf_7_10 {X : MX} {G : GE} {own : String} {cc : ByteArray} {nL : Nat} {σ : Mm} {lm : Ml} {pc nx o index : Nat} {P : Pm} {L : List (Nat × Value)} {st : List Value} (hX : Cx X G own cc nL) (hlk : Cond.fieldLink own index "WellLendsDepthModel" "sent" "[I" ∈ gT) (ho : kdo o = 7) (hP : σ o = P) (hd : decode cc pc = .ok (.getfield index, 3) ∧ pc + 3 = nx) (kk : WW X G nL σ lm nx L (.ref (gA G o 11) :: st)) : WW X G nL σ lm pc L (.ref (gA G o 0) :: st) := r_get hX zin7 hlk ho rfl 10 (by decide) rfl rfl hP rfl hd kk
theorem gf_7_11 {X : MX} {G : GE} {own : String} {cc : ByteArray} {nL : Nat} {σ : Mm} {lm : Ml} {pc nx o index : Nat} {P : Pm} {L : List (Nat × Value)} {st : List Value} (hX : Cx X G own cc nL) (hlk : Cond.fieldLink own index "WellLendsDepthModel" "rows" "[I" ∈ gT) (ho : kdo o = 7) (hP : σ o = P) (hd : decode cc pc = .ok (.getfield index, 3) ∧ pc + 3 = nx) (kk : WW X G nL σ lm nx L (.ref (gA G o 12) :: st)) : WW X G nL σ lm pc L (.ref (gA G o 0) :: st) := r_get hX zin7 hlk ho rfl 11 (by decide) rfl rfl hP rfl hd kk
theorem gf_7_12 {X : MX} {G : GE} {own : String} {cc : ByteArray} {nL : Nat} {σ : Mm} {lm : Ml} {pc nx o index : Nat} {P : Pm} {L : List (Nat × Value)} {st : List Value} (hX : Cx X G own cc nL) (hlk : Cond.fieldLink own index "WellLendsDepthModel" "line" "[I" ∈ gT) (ho : kdo o = 7) (hP : σ o = P) (hd : decode cc pc = .ok (.getfield index, 3) ∧ pc + 3 = nx) (kk : WW X G nL σ lm nx L (.ref (gA G o 13) :: st)) : WW X G nL σ lm pc L (.ref (gA G o 0) :: st) := r_get hX zin7 hlk ho rfl 12 (by decide) rfl rfl hP rfl hd kk
theorem gf_7_13 {X : MX} {G : GE} {own : String} {cc : ByteArray} {nL : Nat} {σ : Mm} {lm : Ml} {pc nx o index : Nat} {P : Pm} {L : List (Nat × Value)} {st : List Value} (hX : Cx X G own cc nL) (hlk : Cond.fieldLink own index "WellLendsDepthModel" "countries" "I" ∈ gT) (ho : kdo o = 7) (hP : σ o = P) (hd : decode cc pc = .ok (.getfield index, 3) ∧ pc + 3 = nx) (kk : WW X G nL σ lm nx L (.int (P 0 13) :: st)) : WW X G nL σ lm pc L (.ref (gA G o 0) :: st) := r_get hX zin7 hlk ho rfl 13 (by decide) rfl rfl hP rfl hd kk
theorem pf_7_13 {X : MX} {G : GE} {own : String} {cc : ByteArray} {nL : Nat} {σ : Mm} {lm : Ml} {pc nx o index : Nat} {P : Pm} {x : Int32} {L : List (Nat × Value)} {st : List Value} (hX : Cx X G own cc nL) (hlk : Cond.fieldLink own index "WellLendsDepthModel" "countries" "I" ∈ gT) (ho : kdo o = 7) (hP : σ o = P) (hd : decode cc pc = .ok (.putfield index, 3) ∧ pc + 3 = nx) (kk : WW X G nL (setO σ o (up2 P 0 13 x)) lm nx L st) : WW X G nL σ lm pc L (.int x :: .ref (gA G o 0) :: st) := r_put hX zin7 zty7 zok7 znm7 hlk ho rfl 13 (by decide) rfl rfl rfl rfl rfl rfl hP (fun S => rfl) hd kk
theorem gf_7_14 {X : MX} {G : GE} {own : String} {cc : ByteArray} {nL : Nat} {σ : Mm} {lm : Ml} {pc nx o index : Nat} {P : Pm} {L : List (Nat × Value)} {st : List Value} (hX : Cx X G own cc nL) (hlk : Cond.fieldLink own index "WellLendsDepthModel" "the" "I" ∈ gT) (ho : kdo o = 7) (hP : σ o = P) (hd : decode cc pc = .ok (.getfield index, 3) ∧ pc + 3 = nx) (kk : WW X G nL σ lm nx L (.int (P 0 14) :: st)) : WW X G nL σ lm pc L (.ref (gA G o 0) :: st) := r_get hX zin7 hlk ho rfl 14 (by decide) rfl rfl hP rfl hd kk
theorem pf_7_14 {X : MX} {G : GE} {own : String} {cc : ByteArray} {nL : Nat} {σ : Mm} {lm : Ml} {pc nx o index : Nat} {P : Pm} {x : Int32} {L : List (Nat × Value)} {st : List Value} (hX : Cx X G own cc nL) (hlk : Cond.fieldLink own index "WellLendsDepthModel" "the" "I" ∈ gT) (ho : kdo o = 7) (hP : σ o = P) (hd : decode cc pc = .ok (.putfield index, 3) ∧ pc + 3 = nx) (kk : WW X G nL (setO σ o (up2 P 0 14 x)) lm nx L st) : WW X G nL σ lm pc L (.int x :: .ref (gA G o 0) :: st) := r_put hX zin7 zty7 zok7 znm7 hlk ho rfl 14 (by decide) rfl rfl rfl rfl rfl rfl hP (fun S => rfl) hd kk
theorem gf_7_15 {X : MX} {G : GE} {own : String} {cc : ByteArray} {nL : Nat} {σ : Mm} {lm : Ml} {pc nx o index : Nat} {P : Pm} {L : List (Nat × Value)} {st : List Value} (hX : Cx X G own cc nL) (hlk : Cond.fieldLink own index "WellLendsDepthModel" "fed" "I" ∈ gT) (ho : kdo o = 7) (hP : σ o = P) (hd : decode cc pc = .ok (.getfield index, 3) ∧ pc + 3 = nx) (kk : WW X G nL σ lm nx L (.int (P 0 15) :: st)) : WW X G nL σ lm pc L (.ref (gA G o 0) :: st) := r_get hX zin7 hlk ho rfl 15 (by decide) rfl rfl hP rfl hd kk
theorem pf_7_15 {X : MX} {G : GE} {own : String} {cc : ByteArray} {nL : Nat} {σ : Mm} {lm : Ml} {pc nx o index : Nat} {P : Pm} {x : Int32} {L : List (Nat × Value)} {st : List Value} (hX : Cx X G own cc nL) (hlk : Cond.fieldLink own index "WellLendsDepthModel" "fed" "I" ∈ gT) (ho : kdo o = 7) (hP : σ o = P) (hd : decode cc pc = .ok (.putfield index, 3) ∧ pc + 3 = nx) (kk : WW X G nL (setO σ o (up2 P 0 15 x)) lm nx L st) : WW X G nL σ lm pc L (.int x :: .ref (gA G o 0) :: st) := r_put hX zin7 zty7 zok7 znm7 hlk ho rfl 15 (by decide) rfl rfl rfl rfl rfl rfl hP (fun S => rfl) hd kk
theorem gf_7_16 {X : MX} {G : GE} {own : String} {cc : ByteArray} {nL : Nat} {σ : Mm} {lm : Ml} {pc nx o index : Nat} {P : Pm} {L : List (Nat × Value)} {st : List Value} (hX : Cx X G own cc nL) (hlk : Cond.fieldLink own index "WellLendsDepthModel" "at" "I" ∈ gT) (ho : kdo o = 7) (hP : σ o = P) (hd : decode cc pc = .ok (.getfield index, 3) ∧ pc + 3 = nx) (kk : WW X G nL σ lm nx L (.int (P 0 16) :: st)) : WW X G nL σ lm pc L (.ref (gA G o 0) :: st) := r_get hX zin7 hlk ho rfl 16 (by decide) rfl rfl hP rfl hd kk
theorem pf_7_16 {X : MX} {G : GE} {own : String} {cc : ByteArray} {nL : Nat} {σ : Mm} {lm : Ml} {pc nx o index : Nat} {P : Pm} {x : Int32} {L : List (Nat × Value)} {st : List Value} (hX : Cx X G own cc nL) (hlk : Cond.fieldLink own index "WellLendsDepthModel" "at" "I" ∈ gT) (ho : kdo o = 7) (hP : σ o = P) (hd : decode cc pc = .ok (.putfield index, 3) ∧ pc + 3 = nx) (kk : WW X G nL (setO σ o (up2 P 0 16 x)) lm nx L st) : WW X G nL σ lm pc L (.int x :: .ref (gA G o 0) :: st) := r_put hX zin7 zty7 zok7 znm7 hlk ho rfl 16 (by decide) rfl rfl rfl rfl rfl rfl hP (fun S => rfl) hd kk
theorem gf_7_17 {X : MX} {G : GE} {own : String} {cc : ByteArray} {nL : Nat} {σ : Mm} {lm : Ml} {pc nx o index : Nat} {P : Pm} {L : List (Nat × Value)} {st : List Value} (hX : Cx X G own cc nL) (hlk : Cond.fieldLink own index "WellLendsDepthModel" "digits" "I" ∈ gT) (ho : kdo o = 7) (hP : σ o = P) (hd : decode cc pc = .ok (.getfield index, 3) ∧ pc + 3 = nx) (kk : WW X G nL σ lm nx L (.int (P 0 17) :: st)) : WW X G nL σ lm pc L (.ref (gA G o 0) :: st) := r_get hX zin7 hlk ho rfl 17 (by decide) rfl rfl hP rfl hd kk
theorem pf_7_17 {X : MX} {G : GE} {own : String} {cc : ByteArray} {nL : Nat} {σ : Mm} {lm : Ml} {pc nx o index : Nat} {P : Pm} {x : Int32} {L : List (Nat × Value)} {st : List Value} (hX : Cx X G own cc nL) (hlk : Cond.fieldLink own index "WellLendsDepthModel" "digits" "I" ∈ gT) (ho : kdo o = 7) (hP : σ o = P) (hd : decode cc pc = .ok (.putfield index, 3) ∧ pc + 3 = nx) (kk : WW X G nL (setO σ o (up2 P 0 17 x)) lm nx L st) : WW X G nL σ lm pc L (.int x :: .ref (gA G o 0) :: st) := r_put hX zin7 zty7 zok7 znm7 hlk ho rfl 17 (by decide) rfl rfl rfl rfl rfl rfl hP (fun S => rfl) hd kk
theorem gf_7_18 {X : MX} {G : GE} {own : String} {cc : ByteArray} {nL : Nat} {σ : Mm} {lm : Ml} {pc nx o index : Nat} {P : Pm} {L : List (Nat × Value)} {st : List Value} (hX : Cx X G own cc nL) (hlk : Cond.fieldLink own index "WellLendsDepthModel" "text" "[I" ∈ gT) (ho : kdo o = 7) (hP : σ o = P) (hd : decode cc pc = .ok (.getfield index, 3) ∧ pc + 3 = nx) (kk : WW X G nL σ lm nx L (.ref (gA G o 19) :: st)) : WW X G nL σ lm pc L (.ref (gA G o 0) :: st) := r_get hX zin7 hlk ho rfl 18 (by decide) rfl rfl hP rfl hd kk
theorem gf_7_19 {X : MX} {G : GE} {own : String} {cc : ByteArray} {nL : Nat} {σ : Mm} {lm : Ml} {pc nx o index : Nat} {P : Pm} {L : List (Nat × Value)} {st : List Value} (hX : Cx X G own cc nL) (hlk : Cond.fieldLink own index "WellLendsDepthModel" "clauses" "[I" ∈ gT) (ho : kdo o = 7) (hP : σ o = P) (hd : decode cc pc = .ok (.getfield index, 3) ∧ pc + 3 = nx) (kk : WW X G nL σ lm nx L (.ref (gA G o 20) :: st)) : WW X G nL σ lm pc L (.ref (gA G o 0) :: st) := r_get hX zin7 hlk ho rfl 19 (by decide) rfl rfl hP rfl hd kk
theorem gf_7_20 {X : MX} {G : GE} {own : String} {cc : ByteArray} {nL : Nat} {σ : Mm} {lm : Ml} {pc nx o index : Nat} {P : Pm} {L : List (Nat × Value)} {st : List Value} (hX : Cx X G own cc nL) (hlk : Cond.fieldLink own index "WellLendsDepthModel" "word" "[I" ∈ gT) (ho : kdo o = 7) (hP : σ o = P) (hd : decode cc pc = .ok (.getfield index, 3) ∧ pc + 3 = nx) (kk : WW X G nL σ lm nx L (.ref (gA G o 21) :: st)) : WW X G nL σ lm pc L (.ref (gA G o 0) :: st) := r_get hX zin7 hlk ho rfl 20 (by decide) rfl rfl hP rfl hd kk
theorem gf_7_21 {X : MX} {G : GE} {own : String} {cc : ByteArray} {nL : Nat} {σ : Mm} {lm : Ml} {pc nx o index : Nat} {P : Pm} {L : List (Nat × Value)} {st : List Value} (hX : Cx X G own cc nL) (hlk : Cond.fieldLink own index "WellLendsDepthModel" "number" "[I" ∈ gT) (ho : kdo o = 7) (hP : σ o = P) (hd : decode cc pc = .ok (.getfield index, 3) ∧ pc + 3 = nx) (kk : WW X G nL σ lm nx L (.ref (gA G o 22) :: st)) : WW X G nL σ lm pc L (.ref (gA G o 0) :: st) := r_get hX zin7 hlk ho rfl 21 (by decide) rfl rfl hP rfl hd kk
theorem gf_7_22 {X : MX} {G : GE} {own : String} {cc : ByteArray} {nL : Nat} {σ : Mm} {lm : Ml} {pc nx o index : Nat} {P : Pm} {L : List (Nat × Value)} {st : List Value} (hX : Cx X G own cc nL) (hlk : Cond.fieldLink own index "WellLendsDepthModel" "from" "[I" ∈ gT) (ho : kdo o = 7) (hP : σ o = P) (hd : decode cc pc = .ok (.getfield index, 3) ∧ pc + 3 = nx) (kk : WW X G nL σ lm nx L (.ref (gA G o 23) :: st)) : WW X G nL σ lm pc L (.ref (gA G o 0) :: st) := r_get hX zin7 hlk ho rfl 22 (by decide) rfl rfl hP rfl hd kk
theorem gf_7_23 {X : MX} {G : GE} {own : String} {cc : ByteArray} {nL : Nat} {σ : Mm} {lm : Ml} {pc nx o index : Nat} {P : Pm} {L : List (Nat × Value)} {st : List Value} (hX : Cx X G own cc nL) (hlk : Cond.fieldLink own index "WellLendsDepthModel" "to" "[I" ∈ gT) (ho : kdo o = 7) (hP : σ o = P) (hd : decode cc pc = .ok (.getfield index, 3) ∧ pc + 3 = nx) (kk : WW X G nL σ lm nx L (.ref (gA G o 24) :: st)) : WW X G nL σ lm pc L (.ref (gA G o 0) :: st) := r_get hX zin7 hlk ho rfl 23 (by decide) rfl rfl hP rfl hd kk
theorem gf_7_24 {X : MX} {G : GE} {own : String} {cc : ByteArray} {nL : Nat} {σ : Mm} {lm : Ml} {pc nx o index : Nat} {P : Pm} {L : List (Nat × Value)} {st : List Value} (hX : Cx X G own cc nL) (hlk : Cond.fieldLink own index "WellLendsDepthModel" "sign" "[I" ∈ gT) (ho : kdo o = 7) (hP : σ o = P) (hd : decode cc pc = .ok (.getfield index, 3) ∧ pc + 3 = nx) (kk : WW X G nL σ lm nx L (.ref (gA G o 25) :: st)) : WW X G nL σ lm pc L (.ref (gA G o 0) :: st) := r_get hX zin7 hlk ho rfl 24 (by decide) rfl rfl hP rfl hd kk
theorem gf_7_25 {X : MX} {G : GE} {own : String} {cc : ByteArray} {nL : Nat} {σ : Mm} {lm : Ml} {pc nx o index : Nat} {P : Pm} {L : List (Nat × Value)} {st : List Value} (hX : Cx X G own cc nL) (hlk : Cond.fieldLink own index "WellLendsDepthModel" "waits" "[I" ∈ gT) (ho : kdo o = 7) (hP : σ o = P) (hd : decode cc pc = .ok (.getfield index, 3) ∧ pc + 3 = nx) (kk : WW X G nL σ lm nx L (.ref (gA G o 26) :: st)) : WW X G nL σ lm pc L (.ref (gA G o 0) :: st) := r_get hX zin7 hlk ho rfl 25 (by decide) rfl rfl hP rfl hd kk
theorem gf_7_26 {X : MX} {G : GE} {own : String} {cc : ByteArray} {nL : Nat} {σ : Mm} {lm : Ml} {pc nx o index : Nat} {P : Pm} {L : List (Nat × Value)} {st : List Value} (hX : Cx X G own cc nL) (hlk : Cond.fieldLink own index "WellLendsDepthModel" "signs" "I" ∈ gT) (ho : kdo o = 7) (hP : σ o = P) (hd : decode cc pc = .ok (.getfield index, 3) ∧ pc + 3 = nx) (kk : WW X G nL σ lm nx L (.int (P 0 26) :: st)) : WW X G nL σ lm pc L (.ref (gA G o 0) :: st) := r_get hX zin7 hlk ho rfl 26 (by decide) rfl rfl hP rfl hd kk
theorem pf_7_26 {X : MX} {G : GE} {own : String} {cc : ByteArray} {nL : Nat} {σ : Mm} {lm : Ml} {pc nx o index : Nat} {P : Pm} {x : Int32} {L : List (Nat × Value)} {st : List Value} (hX : Cx X G own cc nL) (hlk : Cond.fieldLink own index "WellLendsDepthModel" "signs" "I" ∈ gT) (ho : kdo o = 7) (hP : σ o = P) (hd : decode cc pc = .ok (.putfield index, 3) ∧ pc + 3 = nx) (kk : WW X G nL (setO σ o (up2 P 0 26 x)) lm nx L st) : WW X G nL σ lm pc L (.int x :: .ref (gA G o 0) :: st) := r_put hX zin7 zty7 zok7 znm7 hlk ho rfl 26 (by decide) rfl rfl rfl rfl rfl rfl hP (fun S => rfl) hd kk
theorem gf_7_27 {X : MX} {G : GE} {own : String} {cc : ByteArray} {nL : Nat} {σ : Mm} {lm : Ml} {pc nx o index : Nat} {P : Pm} {L : List (Nat × Value)} {st : List Value} (hX : Cx X G own cc nL) (hlk : Cond.fieldLink own index "WellLendsDepthModel" "waiting" "I" ∈ gT) (ho : kdo o = 7) (hP : σ o = P) (hd : decode cc pc = .ok (.getfield index, 3) ∧ pc + 3 = nx) (kk : WW X G nL σ lm nx L (.int (P 0 27) :: st)) : WW X G nL σ lm pc L (.ref (gA G o 0) :: st) := r_get hX zin7 hlk ho rfl 27 (by decide) rfl rfl hP rfl hd kk
theorem pf_7_27 {X : MX} {G : GE} {own : String} {cc : ByteArray} {nL : Nat} {σ : Mm} {lm : Ml} {pc nx o index : Nat} {P : Pm} {x : Int32} {L : List (Nat × Value)} {st : List Value} (hX : Cx X G own cc nL) (hlk : Cond.fieldLink own index "WellLendsDepthModel" "waiting" "I" ∈ gT) (ho : kdo o = 7) (hP : σ o = P) (hd : decode cc pc = .ok (.putfield index, 3) ∧ pc + 3 = nx) (kk : WW X G nL (setO σ o (up2 P 0 27 x)) lm nx L st) : WW X G nL σ lm pc L (.int x :: .ref (gA G o 0) :: st) := r_put hX zin7 zty7 zok7 znm7 hlk ho rfl 27 (by decide) rfl rfl rfl rfl rfl rfl hP (fun S => rfl) hd kk
theorem gf_7_28 {X : MX} {G : GE} {own : String} {cc : ByteArray} {nL : Nat} {σ : Mm} {lm : Ml} {pc nx o index : Nat} {P : Pm} {L : List (Nat × Value)} {st : List Value} (hX : Cx X G own cc nL) (hlk : Cond.fieldLink own index "WellLendsDepthModel" "open" "I" ∈ gT) (ho : kdo o = 7) (hP : σ o = P) (hd : decode cc pc = .ok (.getfield index, 3) ∧ pc + 3 = nx) (kk : WW X G nL σ lm nx L (.int (P 0 28) :: st)) : WW X G nL σ lm pc L (.ref (gA G o 0) :: st) := r_get hX zin7 hlk ho rfl 28 (by decide) rfl rfl hP rfl hd kk
theorem pf_7_28 {X : MX} {G : GE} {own : String} {cc : ByteArray} {nL : Nat} {σ : Mm} {lm : Ml} {pc nx o index : Nat} {P : Pm} {x : Int32} {L : List (Nat × Value)} {st : List Value} (hX : Cx X G own cc nL) (hlk : Cond.fieldLink own index "WellLendsDepthModel" "open" "I" ∈ gT) (ho : kdo o = 7) (hP : σ o = P) (hd : decode cc pc = .ok (.putfield index, 3) ∧ pc + 3 = nx) (kk : WW X G nL (setO σ o (up2 P 0 28 x)) lm nx L st) : WW X G nL σ lm pc L (.int x :: .ref (gA G o 0) :: st) := r_put hX zin7 zty7 zok7 znm7 hlk ho rfl 28 (by decide) rfl rfl rfl rfl rfl rfl hP (fun S => rfl) hd kk
theorem gf_7_29 {X : MX} {G : GE} {own : String} {cc : ByteArray} {nL : Nat} {σ : Mm} {lm : Ml} {pc nx o index : Nat} {P : Pm} {L : List (Nat × Value)} {st : List Value} (hX : Cx X G own cc nL) (hlk : Cond.fieldLink own index "WellLendsDepthModel" "letters" "[I" ∈ gT) (ho : kdo o = 7) (hP : σ o = P) (hd : decode cc pc = .ok (.getfield index, 3) ∧ pc + 3 = nx) (kk : WW X G nL σ lm nx L (.ref (gA G o 30) :: st)) : WW X G nL σ lm pc L (.ref (gA G o 0) :: st) := r_get hX zin7 hlk ho rfl 29 (by decide) rfl rfl hP rfl hd kk
theorem gf_7_30 {X : MX} {G : GE} {own : String} {cc : ByteArray} {nL : Nat} {σ : Mm} {lm : Ml} {pc nx o index : Nat} {P : Pm} {L : List (Nat × Value)} {st : List Value} (hX : Cx X G own cc nL) (hlk : Cond.fieldLink own index "WellLendsDepthModel" "markInMind" "I" ∈ gT) (ho : kdo o = 7) (hP : σ o = P) (hd : decode cc pc = .ok (.getfield index, 3) ∧ pc + 3 = nx) (kk : WW X G nL σ lm nx L (.int (P 0 30) :: st)) : WW X G nL σ lm pc L (.ref (gA G o 0) :: st) := r_get hX zin7 hlk ho rfl 30 (by decide) rfl rfl hP rfl hd kk
theorem pf_7_30 {X : MX} {G : GE} {own : String} {cc : ByteArray} {nL : Nat} {σ : Mm} {lm : Ml} {pc nx o index : Nat} {P : Pm} {x : Int32} {L : List (Nat × Value)} {st : List Value} (hX : Cx X G own cc nL) (hlk : Cond.fieldLink own index "WellLendsDepthModel" "markInMind" "I" ∈ gT) (ho : kdo o = 7) (hP : σ o = P) (hd : decode cc pc = .ok (.putfield index, 3) ∧ pc + 3 = nx) (kk : WW X G nL (setO σ o (up2 P 0 30 x)) lm nx L st) : WW X G nL σ lm pc L (.int x :: .ref (gA G o 0) :: st) := r_put hX zin7 zty7 zok7 znm7 hlk ho rfl 30 (by decide) rfl rfl rfl rfl rfl rfl hP (fun S => rfl) hd kk
theorem gf_7_31 {X : MX} {G : GE} {own : String} {cc : ByteArray} {nL : Nat} {σ : Mm} {lm : Ml} {pc nx o index : Nat} {P : Pm} {L : List (Nat × Value)} {st : List Value} (hX : Cx X G own cc nL) (hlk : Cond.fieldLink own index "WellLendsDepthModel" "awayInMind" "I" ∈ gT) (ho : kdo o = 7) (hP : σ o = P) (hd : decode cc pc = .ok (.getfield index, 3) ∧ pc + 3 = nx) (kk : WW X G nL σ lm nx L (.int (P 0 31) :: st)) : WW X G nL σ lm pc L (.ref (gA G o 0) :: st) := r_get hX zin7 hlk ho rfl 31 (by decide) rfl rfl hP rfl hd kk
theorem pf_7_31 {X : MX} {G : GE} {own : String} {cc : ByteArray} {nL : Nat} {σ : Mm} {lm : Ml} {pc nx o index : Nat} {P : Pm} {x : Int32} {L : List (Nat × Value)} {st : List Value} (hX : Cx X G own cc nL) (hlk : Cond.fieldLink own index "WellLendsDepthModel" "awayInMind" "I" ∈ gT) (ho : kdo o = 7) (hP : σ o = P) (hd : decode cc pc = .ok (.putfield index, 3) ∧ pc + 3 = nx) (kk : WW X G nL (setO σ o (up2 P 0 31 x)) lm nx L st) : WW X G nL σ lm pc L (.int x :: .ref (gA G o 0) :: st) := r_put hX zin7 zty7 zok7 znm7 hlk ho rfl 31 (by decide) rfl rfl rfl rfl rfl rfl hP (fun S => rfl) hd kk
theorem gf_7_32 {X : MX} {G : GE} {own : String} {cc : ByteArray} {nL : Nat} {σ : Mm} {lm : Ml} {pc nx o index : Nat} {P : Pm} {L : List (Nat × Value)} {st : List Value} (hX : Cx X G own cc nL) (hlk : Cond.fieldLink own index "WellLendsDepthModel" "pile" "[Z" ∈ gT) (ho : kdo o = 7) (hP : σ o = P) (hd : decode cc pc = .ok (.getfield index, 3) ∧ pc + 3 = nx) (kk : WW X G nL σ lm nx L (.ref (gA G o 33) :: st)) : WW X G nL σ lm pc L (.ref (gA G o 0) :: st) := r_get hX zin7 hlk ho rfl 32 (by decide) rfl rfl hP rfl hd kk
theorem gf_7_33 {X : MX} {G : GE} {own : String} {cc : ByteArray} {nL : Nat} {σ : Mm} {lm : Ml} {pc nx o index : Nat} {P : Pm} {L : List (Nat × Value)} {st : List Value} (hX : Cx X G own cc nL) (hlk : Cond.fieldLink own index "WellLendsDepthModel" "mostSent" "I" ∈ gT) (ho : kdo o = 7) (hP : σ o = P) (hd : decode cc pc = .ok (.getfield index, 3) ∧ pc + 3 = nx) (kk : WW X G nL σ lm nx L (.int (P 0 33) :: st)) : WW X G nL σ lm pc L (.ref (gA G o 0) :: st) := r_get hX zin7 hlk ho rfl 33 (by decide) rfl rfl hP rfl hd kk
theorem pf_7_33 {X : MX} {G : GE} {own : String} {cc : ByteArray} {nL : Nat} {σ : Mm} {lm : Ml} {pc nx o index : Nat} {P : Pm} {x : Int32} {L : List (Nat × Value)} {st : List Value} (hX : Cx X G own cc nL) (hlk : Cond.fieldLink own index "WellLendsDepthModel" "mostSent" "I" ∈ gT) (ho : kdo o = 7) (hP : σ o = P) (hd : decode cc pc = .ok (.putfield index, 3) ∧ pc + 3 = nx) (kk : WW X G nL (setO σ o (up2 P 0 33 x)) lm nx L st) : WW X G nL σ lm pc L (.int x :: .ref (gA G o 0) :: st) := r_put hX zin7 zty7 zok7 znm7 hlk ho rfl 33 (by decide) rfl rfl rfl rfl rfl rfl hP (fun S => rfl) hd kk
theorem gf_7_34 {X : MX} {G : GE} {own : String} {cc : ByteArray} {nL : Nat} {σ : Mm} {lm : Ml} {pc nx o index : Nat} {P : Pm} {L : List (Nat × Value)} {st : List Value} (hX : Cx X G own cc nL) (hlk : Cond.fieldLink own index "WellLendsDepthModel" "turnedAway" "I" ∈ gT) (ho : kdo o = 7) (hP : σ o = P) (hd : decode cc pc = .ok (.getfield index, 3) ∧ pc + 3 = nx) (kk : WW X G nL σ lm nx L (.int (P 0 34) :: st)) : WW X G nL σ lm pc L (.ref (gA G o 0) :: st) := r_get hX zin7 hlk ho rfl 34 (by decide) rfl rfl hP rfl hd kk
theorem pf_7_34 {X : MX} {G : GE} {own : String} {cc : ByteArray} {nL : Nat} {σ : Mm} {lm : Ml} {pc nx o index : Nat} {P : Pm} {x : Int32} {L : List (Nat × Value)} {st : List Value} (hX : Cx X G own cc nL) (hlk : Cond.fieldLink own index "WellLendsDepthModel" "turnedAway" "I" ∈ gT) (ho : kdo o = 7) (hP : σ o = P) (hd : decode cc pc = .ok (.putfield index, 3) ∧ pc + 3 = nx) (kk : WW X G nL (setO σ o (up2 P 0 34 x)) lm nx L st) : WW X G nL σ lm pc L (.int x :: .ref (gA G o 0) :: st) := r_put hX zin7 zty7 zok7 znm7 hlk ho rfl 34 (by decide) rfl rfl rfl rfl rfl rfl hP (fun S => rfl) hd kk
theorem gf_7_35 {X : MX} {G : GE} {own : String} {cc : ByteArray} {nL : Nat} {σ : Mm} {lm : Ml} {pc nx o index : Nat} {P : Pm} {L : List (Nat × Value)} {st : List Value} (hX : Cx X G own cc nL) (hlk : Cond.fieldLink own index "WellLendsDepthModel" "keptDeep" "I" ∈ gT) (ho : kdo o = 7) (hP : σ o = P) (hd : decode cc pc = .ok (.getfield index, 3) ∧ pc + 3 = nx) (kk : WW X G nL σ lm nx L (.int (P 0 35) :: st)) : WW X G nL σ lm pc L (.ref (gA G o 0) :: st) := r_get hX zin7 hlk ho rfl 35 (by decide) rfl rfl hP rfl hd kk
theorem pf_7_35 {X : MX} {G : GE} {own : String} {cc : ByteArray} {nL : Nat} {σ : Mm} {lm : Ml} {pc nx o index : Nat} {P : Pm} {x : Int32} {L : List (Nat × Value)} {st : List Value} (hX : Cx X G own cc nL) (hlk : Cond.fieldLink own index "WellLendsDepthModel" "keptDeep" "I" ∈ gT) (ho : kdo o = 7) (hP : σ o = P) (hd : decode cc pc = .ok (.putfield index, 3) ∧ pc + 3 = nx) (kk : WW X G nL (setO σ o (up2 P 0 35 x)) lm nx L st) : WW X G nL σ lm pc L (.int x :: .ref (gA G o 0) :: st) := r_put hX zin7 zty7 zok7 znm7 hlk ho rfl 35 (by decide) rfl rfl rfl rfl rfl rfl hP (fun S => rfl) hd kk
theorem gf_7_36 {X : MX} {G : GE} {own : String} {cc : ByteArray} {nL : Nat} {σ : Mm} {lm : Ml} {pc nx o index : Nat} {P : Pm} {L : List (Nat × Value)} {st : List Value} (hX : Cx X G own cc nL) (hlk : Cond.fieldLink own index "WellLendsDepthModel" "keptDays" "I" ∈ gT) (ho : kdo o = 7) (hP : σ o = P) (hd : decode cc pc = .ok (.getfield index, 3) ∧ pc + 3 = nx) (kk : WW X G nL σ lm nx L (.int (P 0 36) :: st)) : WW X G nL σ lm pc L (.ref (gA G o 0) :: st) := r_get hX zin7 hlk ho rfl 36 (by decide) rfl rfl hP rfl hd kk
theorem pf_7_36 {X : MX} {G : GE} {own : String} {cc : ByteArray} {nL : Nat} {σ : Mm} {lm : Ml} {pc nx o index : Nat} {P : Pm} {x : Int32} {L : List (Nat × Value)} {st : List Value} (hX : Cx X G own cc nL) (hlk : Cond.fieldLink own index "WellLendsDepthModel" "keptDays" "I" ∈ gT) (ho : kdo o = 7) (hP : σ o = P) (hd : decode cc pc = .ok (.putfield index, 3) ∧ pc + 3 = nx) (kk : WW X G nL (setO σ o (up2 P 0 36 x)) lm nx L st) : WW X G nL σ lm pc L (.int x :: .ref (gA G o 0) :: st) := r_put hX zin7 zty7 zok7 znm7 hlk ho rfl 36 (by decide) rfl rfl rfl rfl rfl rfl hP (fun S => rfl) hd kk
theorem gf_7_37 {X : MX} {G : GE} {own : String} {cc : ByteArray} {nL : Nat} {σ : Mm} {lm : Ml} {pc nx o index : Nat} {P : Pm} {L : List (Nat × Value)} {st : List Value} (hX : Cx X G own cc nL) (hlk : Cond.fieldLink own index "WellLendsDepthModel" "keptWants" "[I" ∈ gT) (ho : kdo o = 7) (hP : σ o = P) (hd : decode cc pc = .ok (.getfield index, 3) ∧ pc + 3 = nx) (kk : WW X G nL σ lm nx L (.ref (gA G o 38) :: st)) : WW X G nL σ lm pc L (.ref (gA G o 0) :: st) := r_get hX zin7 hlk ho rfl 37 (by decide) rfl rfl hP rfl hd kk
theorem gf_7_38 {X : MX} {G : GE} {own : String} {cc : ByteArray} {nL : Nat} {σ : Mm} {lm : Ml} {pc nx o index : Nat} {P : Pm} {L : List (Nat × Value)} {st : List Value} (hX : Cx X G own cc nL) (hlk : Cond.fieldLink own index "WellLendsDepthModel" "keptEvery" "[I" ∈ gT) (ho : kdo o = 7) (hP : σ o = P) (hd : decode cc pc = .ok (.getfield index, 3) ∧ pc + 3 = nx) (kk : WW X G nL σ lm nx L (.ref (gA G o 39) :: st)) : WW X G nL σ lm pc L (.ref (gA G o 0) :: st) := r_get hX zin7 hlk ho rfl 38 (by decide) rfl rfl hP rfl hd kk
theorem gf_7_39 {X : MX} {G : GE} {own : String} {cc : ByteArray} {nL : Nat} {σ : Mm} {lm : Ml} {pc nx o index : Nat} {P : Pm} {L : List (Nat × Value)} {st : List Value} (hX : Cx X G own cc nL) (hlk : Cond.fieldLink own index "WellLendsDepthModel" "keptHas" "[I" ∈ gT) (ho : kdo o = 7) (hP : σ o = P) (hd : decode cc pc = .ok (.getfield index, 3) ∧ pc + 3 = nx) (kk : WW X G nL σ lm nx L (.ref (gA G o 40) :: st)) : WW X G nL σ lm pc L (.ref (gA G o 0) :: st) := r_get hX zin7 hlk ho rfl 39 (by decide) rfl rfl hP rfl hd kk
theorem gf_7_40 {X : MX} {G : GE} {own : String} {cc : ByteArray} {nL : Nat} {σ : Mm} {lm : Ml} {pc nx o index : Nat} {P : Pm} {L : List (Nat × Value)} {st : List Value} (hX : Cx X G own cc nL) (hlk : Cond.fieldLink own index "WellLendsDepthModel" "keptLeft" "[I" ∈ gT) (ho : kdo o = 7) (hP : σ o = P) (hd : decode cc pc = .ok (.getfield index, 3) ∧ pc + 3 = nx) (kk : WW X G nL σ lm nx L (.ref (gA G o 41) :: st)) : WW X G nL σ lm pc L (.ref (gA G o 0) :: st) := r_get hX zin7 hlk ho rfl 40 (by decide) rfl rfl hP rfl hd kk
theorem gf_7_41 {X : MX} {G : GE} {own : String} {cc : ByteArray} {nL : Nat} {σ : Mm} {lm : Ml} {pc nx o index : Nat} {P : Pm} {L : List (Nat × Value)} {st : List Value} (hX : Cx X G own cc nL) (hlk : Cond.fieldLink own index "WellLendsDepthModel" "keptOwes" "[I" ∈ gT) (ho : kdo o = 7) (hP : σ o = P) (hd : decode cc pc = .ok (.getfield index, 3) ∧ pc + 3 = nx) (kk : WW X G nL σ lm nx L (.ref (gA G o 42) :: st)) : WW X G nL σ lm pc L (.ref (gA G o 0) :: st) := r_get hX zin7 hlk ho rfl 41 (by decide) rfl rfl hP rfl hd kk
theorem gf_7_42 {X : MX} {G : GE} {own : String} {cc : ByteArray} {nL : Nat} {σ : Mm} {lm : Ml} {pc nx o index : Nat} {P : Pm} {L : List (Nat × Value)} {st : List Value} (hX : Cx X G own cc nL) (hlk : Cond.fieldLink own index "WellLendsDepthModel" "keptSent" "[I" ∈ gT) (ho : kdo o = 7) (hP : σ o = P) (hd : decode cc pc = .ok (.getfield index, 3) ∧ pc + 3 = nx) (kk : WW X G nL σ lm nx L (.ref (gA G o 43) :: st)) : WW X G nL σ lm pc L (.ref (gA G o 0) :: st) := r_get hX zin7 hlk ho rfl 42 (by decide) rfl rfl hP rfl hd kk
theorem gf_7_43 {X : MX} {G : GE} {own : String} {cc : ByteArray} {nL : Nat} {σ : Mm} {lm : Ml} {pc nx o index : Nat} {P : Pm} {L : List (Nat × Value)} {st : List Value} (hX : Cx X G own cc nL) (hlk : Cond.fieldLink own index "WellLendsDepthModel" "keptLine" "[I" ∈ gT) (ho : kdo o = 7) (hP : σ o = P) (hd : decode cc pc = .ok (.getfield index, 3) ∧ pc + 3 = nx) (kk : WW X G nL σ lm nx L (.ref (gA G o 44) :: st)) : WW X G nL σ lm pc L (.ref (gA G o 0) :: st) := r_get hX zin7 hlk ho rfl 43 (by decide) rfl rfl hP rfl hd kk
theorem gf_7_44 {X : MX} {G : GE} {own : String} {cc : ByteArray} {nL : Nat} {σ : Mm} {lm : Ml} {pc nx o index : Nat} {P : Pm} {L : List (Nat × Value)} {st : List Value} (hX : Cx X G own cc nL) (hlk : Cond.fieldLink own index "WellLendsDepthModel" "seen" "I" ∈ gT) (ho : kdo o = 7) (hP : σ o = P) (hd : decode cc pc = .ok (.getfield index, 3) ∧ pc + 3 = nx) (kk : WW X G nL σ lm nx L (.int (P 0 44) :: st)) : WW X G nL σ lm pc L (.ref (gA G o 0) :: st) := r_get hX zin7 hlk ho rfl 44 (by decide) rfl rfl hP rfl hd kk
theorem pf_7_44 {X : MX} {G : GE} {own : String} {cc : ByteArray} {nL : Nat} {σ : Mm} {lm : Ml} {pc nx o index : Nat} {P : Pm} {x : Int32} {L : List (Nat × Value)} {st : List Value} (hX : Cx X G own cc nL) (hlk : Cond.fieldLink own index "WellLendsDepthModel" "seen" "I" ∈ gT) (ho : kdo o = 7) (hP : σ o = P) (hd : decode cc pc = .ok (.putfield index, 3) ∧ pc + 3 = nx) (kk : WW X G nL (setO σ o (up2 P 0 44 x)) lm nx L st) : WW X G nL σ lm pc L (.int x :: .ref (gA G o 0) :: st) := r_put hX zin7 zty7 zok7 znm7 hlk ho rfl 44 (by decide) rfl rfl rfl rfl rfl rfl hP (fun S => rfl) hd kk
theorem gf_7_45 {X : MX} {G : GE} {own : String} {cc : ByteArray} {nL : Nat} {σ : Mm} {lm : Ml} {pc nx o index : Nat} {P : Pm} {L : List (Nat × Value)} {st : List Value} (hX : Cx X G own cc nL) (hlk : Cond.fieldLink own index "WellLendsDepthModel" "seenDepth" "[I" ∈ gT) (ho : kdo o = 7) (hP : σ o = P) (hd : decode cc pc = .ok (.getfield index, 3) ∧ pc + 3 = nx) (kk : WW X G nL σ lm nx L (.ref (gA G o 46) :: st)) : WW X G nL σ lm pc L (.ref (gA G o 0) :: st) := r_get hX zin7 hlk ho rfl 45 (by decide) rfl rfl hP rfl hd kk
theorem gf_7_46 {X : MX} {G : GE} {own : String} {cc : ByteArray} {nL : Nat} {σ : Mm} {lm : Ml} {pc nx o index : Nat} {P : Pm} {L : List (Nat × Value)} {st : List Value} (hX : Cx X G own cc nL) (hlk : Cond.fieldLink own index "WellLendsDepthModel" "seenWhen" "[I" ∈ gT) (ho : kdo o = 7) (hP : σ o = P) (hd : decode cc pc = .ok (.getfield index, 3) ∧ pc + 3 = nx) (kk : WW X G nL σ lm nx L (.ref (gA G o 47) :: st)) : WW X G nL σ lm pc L (.ref (gA G o 0) :: st) := r_get hX zin7 hlk ho rfl 46 (by decide) rfl rfl hP rfl hd kk
theorem gf_7_47 {X : MX} {G : GE} {own : String} {cc : ByteArray} {nL : Nat} {σ : Mm} {lm : Ml} {pc nx o index : Nat} {P : Pm} {L : List (Nat × Value)} {st : List Value} (hX : Cx X G own cc nL) (hlk : Cond.fieldLink own index "WellLendsDepthModel" "years" "I" ∈ gT) (ho : kdo o = 7) (hP : σ o = P) (hd : decode cc pc = .ok (.getfield index, 3) ∧ pc + 3 = nx) (kk : WW X G nL σ lm nx L (.int (P 0 47) :: st)) : WW X G nL σ lm pc L (.ref (gA G o 0) :: st) := r_get hX zin7 hlk ho rfl 47 (by decide) rfl rfl hP rfl hd kk
theorem pf_7_47 {X : MX} {G : GE} {own : String} {cc : ByteArray} {nL : Nat} {σ : Mm} {lm : Ml} {pc nx o index : Nat} {P : Pm} {x : Int32} {L : List (Nat × Value)} {st : List Value} (hX : Cx X G own cc nL) (hlk : Cond.fieldLink own index "WellLendsDepthModel" "years" "I" ∈ gT) (ho : kdo o = 7) (hP : σ o = P) (hd : decode cc pc = .ok (.putfield index, 3) ∧ pc + 3 = nx) (kk : WW X G nL (setO σ o (up2 P 0 47 x)) lm nx L st) : WW X G nL σ lm pc L (.int x :: .ref (gA G o 0) :: st) := r_put hX zin7 zty7 zok7 znm7 hlk ho rfl 47 (by decide) rfl rfl rfl rfl rfl rfl hP (fun S => rfl) hd kk
theorem gf_7_48 {X : MX} {G : GE} {own : String} {cc : ByteArray} {nL : Nat} {σ : Mm} {lm : Ml} {pc nx o index : Nat} {P : Pm} {L : List (Nat × Value)} {st : List Value} (hX : Cx X G own cc nL) (hlk : Cond.fieldLink own index "WellLendsDepthModel" "books" "I" ∈ gT) (ho : kdo o = 7) (hP : σ o = P) (hd : decode cc pc = .ok (.getfield index, 3) ∧ pc + 3 = nx) (kk : WW X G nL σ lm nx L (.int (P 0 48) :: st)) : WW X G nL σ lm pc L (.ref (gA G o 0) :: st) := r_get hX zin7 hlk ho rfl 48 (by decide) rfl rfl hP rfl hd kk
theorem pf_7_48 {X : MX} {G : GE} {own : String} {cc : ByteArray} {nL : Nat} {σ : Mm} {lm : Ml} {pc nx o index : Nat} {P : Pm} {x : Int32} {L : List (Nat × Value)} {st : List Value} (hX : Cx X G own cc nL) (hlk : Cond.fieldLink own index "WellLendsDepthModel" "books" "I" ∈ gT) (ho : kdo o = 7) (hP : σ o = P) (hd : decode cc pc = .ok (.putfield index, 3) ∧ pc + 3 = nx) (kk : WW X G nL (setO σ o (up2 P 0 48 x)) lm nx L st) : WW X G nL σ lm pc L (.int x :: .ref (gA G o 0) :: st) := r_put hX zin7 zty7 zok7 znm7 hlk ho rfl 48 (by decide) rfl rfl rfl rfl rfl rfl hP (fun S => rfl) hd kk
theorem gf_7_49 {X : MX} {G : GE} {own : String} {cc : ByteArray} {nL : Nat} {σ : Mm} {lm : Ml} {pc nx o index : Nat} {P : Pm} {L : List (Nat × Value)} {st : List Value} (hX : Cx X G own cc nL) (hlk : Cond.fieldLink own index "WellLendsDepthModel" "yearWhat" "[I" ∈ gT) (ho : kdo o = 7) (hP : σ o = P) (hd : decode cc pc = .ok (.getfield index, 3) ∧ pc + 3 = nx) (kk : WW X G nL σ lm nx L (.ref (gA G o 50) :: st)) : WW X G nL σ lm pc L (.ref (gA G o 0) :: st) := r_get hX zin7 hlk ho rfl 49 (by decide) rfl rfl hP rfl hd kk
theorem gf_7_50 {X : MX} {G : GE} {own : String} {cc : ByteArray} {nL : Nat} {σ : Mm} {lm : Ml} {pc nx o index : Nat} {P : Pm} {L : List (Nat × Value)} {st : List Value} (hX : Cx X G own cc nL) (hlk : Cond.fieldLink own index "WellLendsDepthModel" "yearWho" "[I" ∈ gT) (ho : kdo o = 7) (hP : σ o = P) (hd : decode cc pc = .ok (.getfield index, 3) ∧ pc + 3 = nx) (kk : WW X G nL σ lm nx L (.ref (gA G o 51) :: st)) : WW X G nL σ lm pc L (.ref (gA G o 0) :: st) := r_get hX zin7 hlk ho rfl 50 (by decide) rfl rfl hP rfl hd kk
theorem gf_7_51 {X : MX} {G : GE} {own : String} {cc : ByteArray} {nL : Nat} {σ : Mm} {lm : Ml} {pc nx o index : Nat} {P : Pm} {L : List (Nat × Value)} {st : List Value} (hX : Cx X G own cc nL) (hlk : Cond.fieldLink own index "WellLendsDepthModel" "bookWho" "[I" ∈ gT) (ho : kdo o = 7) (hP : σ o = P) (hd : decode cc pc = .ok (.getfield index, 3) ∧ pc + 3 = nx) (kk : WW X G nL σ lm nx L (.ref (gA G o 52) :: st)) : WW X G nL σ lm pc L (.ref (gA G o 0) :: st) := r_get hX zin7 hlk ho rfl 51 (by decide) rfl rfl hP rfl hd kk
theorem gf_7_52 {X : MX} {G : GE} {own : String} {cc : ByteArray} {nL : Nat} {σ : Mm} {lm : Ml} {pc nx o index : Nat} {P : Pm} {L : List (Nat × Value)} {st : List Value} (hX : Cx X G own cc nL) (hlk : Cond.fieldLink own index "WellLendsDepthModel" "bookOwes" "[I" ∈ gT) (ho : kdo o = 7) (hP : σ o = P) (hd : decode cc pc = .ok (.getfield index, 3) ∧ pc + 3 = nx) (kk : WW X G nL σ lm nx L (.ref (gA G o 53) :: st)) : WW X G nL σ lm pc L (.ref (gA G o 0) :: st) := r_get hX zin7 hlk ho rfl 52 (by decide) rfl rfl hP rfl hd kk
theorem gf_7_53 {X : MX} {G : GE} {own : String} {cc : ByteArray} {nL : Nat} {σ : Mm} {lm : Ml} {pc nx o index : Nat} {P : Pm} {L : List (Nat × Value)} {st : List Value} (hX : Cx X G own cc nL) (hlk : Cond.fieldLink own index "WellLendsDepthModel" "hasImage" "Z" ∈ gT) (ho : kdo o = 7) (hP : σ o = P) (hd : decode cc pc = .ok (.getfield index, 3) ∧ pc + 3 = nx) (kk : WW X G nL σ lm nx L (.int (P 0 53) :: st)) : WW X G nL σ lm pc L (.ref (gA G o 0) :: st) := r_get hX zin7 hlk ho rfl 53 (by decide) rfl rfl hP rfl hd kk
theorem pf_7_53 {X : MX} {G : GE} {own : String} {cc : ByteArray} {nL : Nat} {σ : Mm} {lm : Ml} {pc nx o index : Nat} {P : Pm} {x : Int32} {L : List (Nat × Value)} {st : List Value} (hz : x = 0 ∨ x = 1) (hX : Cx X G own cc nL) (hlk : Cond.fieldLink own index "WellLendsDepthModel" "hasImage" "Z" ∈ gT) (ho : kdo o = 7) (hP : σ o = P) (hd : decode cc pc = .ok (.putfield index, 3) ∧ pc + 3 = nx) (kk : WW X G nL (setO σ o (up2 P 0 53 x)) lm nx L st) : WW X G nL σ lm pc L (.int x :: .ref (gA G o 0) :: st) := r_put hX zin7 zty7 zok7 znm7 hlk ho rfl 53 (by decide) rfl rfl rfl (zb_n hz) (zb_f hz) rfl hP (fun S => rfl) hd kk
theorem gf_7_54 {X : MX} {G : GE} {own : String} {cc : ByteArray} {nL : Nat} {σ : Mm} {lm : Ml} {pc nx o index : Nat} {P : Pm} {L : List (Nat × Value)} {st : List Value} (hX : Cx X G own cc nL) (hlk : Cond.fieldLink own index "WellLendsDepthModel" "imageThe" "I" ∈ gT) (ho : kdo o = 7) (hP : σ o = P) (hd : decode cc pc = .ok (.getfield index, 3) ∧ pc + 3 = nx) (kk : WW X G nL σ lm nx L (.int (P 0 54) :: st)) : WW X G nL σ lm pc L (.ref (gA G o 0) :: st) := r_get hX zin7 hlk ho rfl 54 (by decide) rfl rfl hP rfl hd kk
theorem pf_7_54 {X : MX} {G : GE} {own : String} {cc : ByteArray} {nL : Nat} {σ : Mm} {lm : Ml} {pc nx o index : Nat} {P : Pm} {x : Int32} {L : List (Nat × Value)} {st : List Value} (hX : Cx X G own cc nL) (hlk : Cond.fieldLink own index "WellLendsDepthModel" "imageThe" "I" ∈ gT) (ho : kdo o = 7) (hP : σ o = P) (hd : decode cc pc = .ok (.putfield index, 3) ∧ pc + 3 = nx) (kk : WW X G nL (setO σ o (up2 P 0 54 x)) lm nx L st) : WW X G nL σ lm pc L (.int x :: .ref (gA G o 0) :: st) := r_put hX zin7 zty7 zok7 znm7 hlk ho rfl 54 (by decide) rfl rfl rfl rfl rfl rfl hP (fun S => rfl) hd kk
theorem gf_7_55 {X : MX} {G : GE} {own : String} {cc : ByteArray} {nL : Nat} {σ : Mm} {lm : Ml} {pc nx o index : Nat} {P : Pm} {L : List (Nat × Value)} {st : List Value} (hX : Cx X G own cc nL) (hlk : Cond.fieldLink own index "WellLendsDepthModel" "imageDeep" "I" ∈ gT) (ho : kdo o = 7) (hP : σ o = P) (hd : decode cc pc = .ok (.getfield index, 3) ∧ pc + 3 = nx) (kk : WW X G nL σ lm nx L (.int (P 0 55) :: st)) : WW X G nL σ lm pc L (.ref (gA G o 0) :: st) := r_get hX zin7 hlk ho rfl 55 (by decide) rfl rfl hP rfl hd kk
theorem pf_7_55 {X : MX} {G : GE} {own : String} {cc : ByteArray} {nL : Nat} {σ : Mm} {lm : Ml} {pc nx o index : Nat} {P : Pm} {x : Int32} {L : List (Nat × Value)} {st : List Value} (hX : Cx X G own cc nL) (hlk : Cond.fieldLink own index "WellLendsDepthModel" "imageDeep" "I" ∈ gT) (ho : kdo o = 7) (hP : σ o = P) (hd : decode cc pc = .ok (.putfield index, 3) ∧ pc + 3 = nx) (kk : WW X G nL (setO σ o (up2 P 0 55 x)) lm nx L st) : WW X G nL σ lm pc L (.int x :: .ref (gA G o 0) :: st) := r_put hX zin7 zty7 zok7 znm7 hlk ho rfl 55 (by decide) rfl rfl rfl rfl rfl rfl hP (fun S => rfl) hd kk
theorem gf_7_56 {X : MX} {G : GE} {own : String} {cc : ByteArray} {nL : Nat} {σ : Mm} {lm : Ml} {pc nx o index : Nat} {P : Pm} {L : List (Nat × Value)} {st : List Value} (hX : Cx X G own cc nL) (hlk : Cond.fieldLink own index "WellLendsDepthModel" "imageBorrowers" "I" ∈ gT) (ho : kdo o = 7) (hP : σ o = P) (hd : decode cc pc = .ok (.getfield index, 3) ∧ pc + 3 = nx) (kk : WW X G nL σ lm nx L (.int (P 0 56) :: st)) : WW X G nL σ lm pc L (.ref (gA G o 0) :: st) := r_get hX zin7 hlk ho rfl 56 (by decide) rfl rfl hP rfl hd kk
theorem pf_7_56 {X : MX} {G : GE} {own : String} {cc : ByteArray} {nL : Nat} {σ : Mm} {lm : Ml} {pc nx o index : Nat} {P : Pm} {x : Int32} {L : List (Nat × Value)} {st : List Value} (hX : Cx X G own cc nL) (hlk : Cond.fieldLink own index "WellLendsDepthModel" "imageBorrowers" "I" ∈ gT) (ho : kdo o = 7) (hP : σ o = P) (hd : decode cc pc = .ok (.putfield index, 3) ∧ pc + 3 = nx) (kk : WW X G nL (setO σ o (up2 P 0 56 x)) lm nx L st) : WW X G nL σ lm pc L (.int x :: .ref (gA G o 0) :: st) := r_put hX zin7 zty7 zok7 znm7 hlk ho rfl 56 (by decide) rfl rfl rfl rfl rfl rfl hP (fun S => rfl) hd kk
theorem gf_7_57 {X : MX} {G : GE} {own : String} {cc : ByteArray} {nL : Nat} {σ : Mm} {lm : Ml} {pc nx o index : Nat} {P : Pm} {L : List (Nat × Value)} {st : List Value} (hX : Cx X G own cc nL) (hlk : Cond.fieldLink own index "WellLendsDepthModel" "imageDays" "I" ∈ gT) (ho : kdo o = 7) (hP : σ o = P) (hd : decode cc pc = .ok (.getfield index, 3) ∧ pc + 3 = nx) (kk : WW X G nL σ lm nx L (.int (P 0 57) :: st)) : WW X G nL σ lm pc L (.ref (gA G o 0) :: st) := r_get hX zin7 hlk ho rfl 57 (by decide) rfl rfl hP rfl hd kk
theorem pf_7_57 {X : MX} {G : GE} {own : String} {cc : ByteArray} {nL : Nat} {σ : Mm} {lm : Ml} {pc nx o index : Nat} {P : Pm} {x : Int32} {L : List (Nat × Value)} {st : List Value} (hX : Cx X G own cc nL) (hlk : Cond.fieldLink own index "WellLendsDepthModel" "imageDays" "I" ∈ gT) (ho : kdo o = 7) (hP : σ o = P) (hd : decode cc pc = .ok (.putfield index, 3) ∧ pc + 3 = nx) (kk : WW X G nL (setO σ o (up2 P 0 57 x)) lm nx L st) : WW X G nL σ lm pc L (.int x :: .ref (gA G o 0) :: st) := r_put hX zin7 zty7 zok7 znm7 hlk ho rfl 57 (by decide) rfl rfl rfl rfl rfl rfl hP (fun S => rfl) hd kk
theorem gf_7_58 {X : MX} {G : GE} {own : String} {cc : ByteArray} {nL : Nat} {σ : Mm} {lm : Ml} {pc nx o index : Nat} {P : Pm} {L : List (Nat × Value)} {st : List Value} (hX : Cx X G own cc nL) (hlk : Cond.fieldLink own index "WellLendsDepthModel" "imageSeen" "I" ∈ gT) (ho : kdo o = 7) (hP : σ o = P) (hd : decode cc pc = .ok (.getfield index, 3) ∧ pc + 3 = nx) (kk : WW X G nL σ lm nx L (.int (P 0 58) :: st)) : WW X G nL σ lm pc L (.ref (gA G o 0) :: st) := r_get hX zin7 hlk ho rfl 58 (by decide) rfl rfl hP rfl hd kk
theorem pf_7_58 {X : MX} {G : GE} {own : String} {cc : ByteArray} {nL : Nat} {σ : Mm} {lm : Ml} {pc nx o index : Nat} {P : Pm} {x : Int32} {L : List (Nat × Value)} {st : List Value} (hX : Cx X G own cc nL) (hlk : Cond.fieldLink own index "WellLendsDepthModel" "imageSeen" "I" ∈ gT) (ho : kdo o = 7) (hP : σ o = P) (hd : decode cc pc = .ok (.putfield index, 3) ∧ pc + 3 = nx) (kk : WW X G nL (setO σ o (up2 P 0 58 x)) lm nx L st) : WW X G nL σ lm pc L (.int x :: .ref (gA G o 0) :: st) := r_put hX zin7 zty7 zok7 znm7 hlk ho rfl 58 (by decide) rfl rfl rfl rfl rfl rfl hP (fun S => rfl) hd kk
theorem gf_7_59 {X : MX} {G : GE} {own : String} {cc : ByteArray} {nL : Nat} {σ : Mm} {lm : Ml} {pc nx o index : Nat} {P : Pm} {L : List (Nat × Value)} {st : List Value} (hX : Cx X G own cc nL) (hlk : Cond.fieldLink own index "WellLendsDepthModel" "imageYears" "I" ∈ gT) (ho : kdo o = 7) (hP : σ o = P) (hd : decode cc pc = .ok (.getfield index, 3) ∧ pc + 3 = nx) (kk : WW X G nL σ lm nx L (.int (P 0 59) :: st)) : WW X G nL σ lm pc L (.ref (gA G o 0) :: st) := r_get hX zin7 hlk ho rfl 59 (by decide) rfl rfl hP rfl hd kk
theorem pf_7_59 {X : MX} {G : GE} {own : String} {cc : ByteArray} {nL : Nat} {σ : Mm} {lm : Ml} {pc nx o index : Nat} {P : Pm} {x : Int32} {L : List (Nat × Value)} {st : List Value} (hX : Cx X G own cc nL) (hlk : Cond.fieldLink own index "WellLendsDepthModel" "imageYears" "I" ∈ gT) (ho : kdo o = 7) (hP : σ o = P) (hd : decode cc pc = .ok (.putfield index, 3) ∧ pc + 3 = nx) (kk : WW X G nL (setO σ o (up2 P 0 59 x)) lm nx L st) : WW X G nL σ lm pc L (.int x :: .ref (gA G o 0) :: st) := r_put hX zin7 zty7 zok7 znm7 hlk ho rfl 59 (by decide) rfl rfl rfl rfl rfl rfl hP (fun S => rfl) hd kk
theorem gf_7_60 {X : MX} {G : GE} {own : String} {cc : ByteArray} {nL : Nat} {σ : Mm} {lm : Ml} {pc nx o index : Nat} {P : Pm} {L : List (Nat × Value)} {st : List Value} (hX : Cx X G own cc nL) (hlk : Cond.fieldLink own index "WellLendsDepthModel" "imageBooks" "I" ∈ gT) (ho : kdo o = 7) (hP : σ o = P) (hd : decode cc pc = .ok (.getfield index, 3) ∧ pc + 3 = nx) (kk : WW X G nL σ lm nx L (.int (P 0 60) :: st)) : WW X G nL σ lm pc L (.ref (gA G o 0) :: st) := r_get hX zin7 hlk ho rfl 60 (by decide) rfl rfl hP rfl hd kk
theorem pf_7_60 {X : MX} {G : GE} {own : String} {cc : ByteArray} {nL : Nat} {σ : Mm} {lm : Ml} {pc nx o index : Nat} {P : Pm} {x : Int32} {L : List (Nat × Value)} {st : List Value} (hX : Cx X G own cc nL) (hlk : Cond.fieldLink own index "WellLendsDepthModel" "imageBooks" "I" ∈ gT) (ho : kdo o = 7) (hP : σ o = P) (hd : decode cc pc = .ok (.putfield index, 3) ∧ pc + 3 = nx) (kk : WW X G nL (setO σ o (up2 P 0 60 x)) lm nx L st) : WW X G nL σ lm pc L (.int x :: .ref (gA G o 0) :: st) := r_put hX zin7 zty7 zok7 znm7 hlk ho rfl 60 (by decide) rfl rfl rfl rfl rfl rfl hP (fun S => rfl) hd kk
theorem gf_7_61 {X : MX} {G : GE} {own : String} {cc : ByteArray} {nL : Nat} {σ : Mm} {lm : Ml} {pc nx o index : Nat} {P : Pm} {L : List (Nat × Value)} {st : List Value} (hX : Cx X G own cc nL) (hlk : Cond.fieldLink own index "WellLendsDepthModel" "imageKind" "[I" ∈ gT) (ho : kdo o = 7) (hP : σ o = P) (hd : decode cc pc = .ok (.getfield index, 3) ∧ pc + 3 = nx) (kk : WW X G nL σ lm nx L (.ref (gA G o 62) :: st)) : WW X G nL σ lm pc L (.ref (gA G o 0) :: st) := r_get hX zin7 hlk ho rfl 61 (by decide) rfl rfl hP rfl hd kk
theorem gf_7_62 {X : MX} {G : GE} {own : String} {cc : ByteArray} {nL : Nat} {σ : Mm} {lm : Ml} {pc nx o index : Nat} {P : Pm} {L : List (Nat × Value)} {st : List Value} (hX : Cx X G own cc nL) (hlk : Cond.fieldLink own index "WellLendsDepthModel" "imageV" "[I" ∈ gT) (ho : kdo o = 7) (hP : σ o = P) (hd : decode cc pc = .ok (.getfield index, 3) ∧ pc + 3 = nx) (kk : WW X G nL σ lm nx L (.ref (gA G o 63) :: st)) : WW X G nL σ lm pc L (.ref (gA G o 0) :: st) := r_get hX zin7 hlk ho rfl 62 (by decide) rfl rfl hP rfl hd kk
theorem gf_7_63 {X : MX} {G : GE} {own : String} {cc : ByteArray} {nL : Nat} {σ : Mm} {lm : Ml} {pc nx o index : Nat} {P : Pm} {L : List (Nat × Value)} {st : List Value} (hX : Cx X G own cc nL) (hlk : Cond.fieldLink own index "WellLendsDepthModel" "imageWants" "[I" ∈ gT) (ho : kdo o = 7) (hP : σ o = P) (hd : decode cc pc = .ok (.getfield index, 3) ∧ pc + 3 = nx) (kk : WW X G nL σ lm nx L (.ref (gA G o 64) :: st)) : WW X G nL σ lm pc L (.ref (gA G o 0) :: st) := r_get hX zin7 hlk ho rfl 63 (by decide) rfl rfl hP rfl hd kk
theorem gf_7_64 {X : MX} {G : GE} {own : String} {cc : ByteArray} {nL : Nat} {σ : Mm} {lm : Ml} {pc nx o index : Nat} {P : Pm} {L : List (Nat × Value)} {st : List Value} (hX : Cx X G own cc nL) (hlk : Cond.fieldLink own index "WellLendsDepthModel" "imageEvery" "[I" ∈ gT) (ho : kdo o = 7) (hP : σ o = P) (hd : decode cc pc = .ok (.getfield index, 3) ∧ pc + 3 = nx) (kk : WW X G nL σ lm nx L (.ref (gA G o 65) :: st)) : WW X G nL σ lm pc L (.ref (gA G o 0) :: st) := r_get hX zin7 hlk ho rfl 64 (by decide) rfl rfl hP rfl hd kk
theorem gf_7_65 {X : MX} {G : GE} {own : String} {cc : ByteArray} {nL : Nat} {σ : Mm} {lm : Ml} {pc nx o index : Nat} {P : Pm} {L : List (Nat × Value)} {st : List Value} (hX : Cx X G own cc nL) (hlk : Cond.fieldLink own index "WellLendsDepthModel" "imageHas" "[I" ∈ gT) (ho : kdo o = 7) (hP : σ o = P) (hd : decode cc pc = .ok (.getfield index, 3) ∧ pc + 3 = nx) (kk : WW X G nL σ lm nx L (.ref (gA G o 66) :: st)) : WW X G nL σ lm pc L (.ref (gA G o 0) :: st) := r_get hX zin7 hlk ho rfl 65 (by decide) rfl rfl hP rfl hd kk
theorem gf_7_66 {X : MX} {G : GE} {own : String} {cc : ByteArray} {nL : Nat} {σ : Mm} {lm : Ml} {pc nx o index : Nat} {P : Pm} {L : List (Nat × Value)} {st : List Value} (hX : Cx X G own cc nL) (hlk : Cond.fieldLink own index "WellLendsDepthModel" "imageLeft" "[I" ∈ gT) (ho : kdo o = 7) (hP : σ o = P) (hd : decode cc pc = .ok (.getfield index, 3) ∧ pc + 3 = nx) (kk : WW X G nL σ lm nx L (.ref (gA G o 67) :: st)) : WW X G nL σ lm pc L (.ref (gA G o 0) :: st) := r_get hX zin7 hlk ho rfl 66 (by decide) rfl rfl hP rfl hd kk
theorem gf_7_67 {X : MX} {G : GE} {own : String} {cc : ByteArray} {nL : Nat} {σ : Mm} {lm : Ml} {pc nx o index : Nat} {P : Pm} {L : List (Nat × Value)} {st : List Value} (hX : Cx X G own cc nL) (hlk : Cond.fieldLink own index "WellLendsDepthModel" "imageOwes" "[I" ∈ gT) (ho : kdo o = 7) (hP : σ o = P) (hd : decode cc pc = .ok (.getfield index, 3) ∧ pc + 3 = nx) (kk : WW X G nL σ lm nx L (.ref (gA G o 68) :: st)) : WW X G nL σ lm pc L (.ref (gA G o 0) :: st) := r_get hX zin7 hlk ho rfl 67 (by decide) rfl rfl hP rfl hd kk
theorem gf_7_68 {X : MX} {G : GE} {own : String} {cc : ByteArray} {nL : Nat} {σ : Mm} {lm : Ml} {pc nx o index : Nat} {P : Pm} {L : List (Nat × Value)} {st : List Value} (hX : Cx X G own cc nL) (hlk : Cond.fieldLink own index "WellLendsDepthModel" "imageSent" "[I" ∈ gT) (ho : kdo o = 7) (hP : σ o = P) (hd : decode cc pc = .ok (.getfield index, 3) ∧ pc + 3 = nx) (kk : WW X G nL σ lm nx L (.ref (gA G o 69) :: st)) : WW X G nL σ lm pc L (.ref (gA G o 0) :: st) := r_get hX zin7 hlk ho rfl 68 (by decide) rfl rfl hP rfl hd kk
theorem gf_7_69 {X : MX} {G : GE} {own : String} {cc : ByteArray} {nL : Nat} {σ : Mm} {lm : Ml} {pc nx o index : Nat} {P : Pm} {L : List (Nat × Value)} {st : List Value} (hX : Cx X G own cc nL) (hlk : Cond.fieldLink own index "WellLendsDepthModel" "imageLine" "[I" ∈ gT) (ho : kdo o = 7) (hP : σ o = P) (hd : decode cc pc = .ok (.getfield index, 3) ∧ pc + 3 = nx) (kk : WW X G nL σ lm nx L (.ref (gA G o 70) :: st)) : WW X G nL σ lm pc L (.ref (gA G o 0) :: st) := r_get hX zin7 hlk ho rfl 69 (by decide) rfl rfl hP rfl hd kk
theorem gf_7_70 {X : MX} {G : GE} {own : String} {cc : ByteArray} {nL : Nat} {σ : Mm} {lm : Ml} {pc nx o index : Nat} {P : Pm} {L : List (Nat × Value)} {st : List Value} (hX : Cx X G own cc nL) (hlk : Cond.fieldLink own index "WellLendsDepthModel" "imageRows" "[I" ∈ gT) (ho : kdo o = 7) (hP : σ o = P) (hd : decode cc pc = .ok (.getfield index, 3) ∧ pc + 3 = nx) (kk : WW X G nL σ lm nx L (.ref (gA G o 71) :: st)) : WW X G nL σ lm pc L (.ref (gA G o 0) :: st) := r_get hX zin7 hlk ho rfl 70 (by decide) rfl rfl hP rfl hd kk
theorem gf_7_71 {X : MX} {G : GE} {own : String} {cc : ByteArray} {nL : Nat} {σ : Mm} {lm : Ml} {pc nx o index : Nat} {P : Pm} {L : List (Nat × Value)} {st : List Value} (hX : Cx X G own cc nL) (hlk : Cond.fieldLink own index "WellLendsDepthModel" "imageSeenDepth" "[I" ∈ gT) (ho : kdo o = 7) (hP : σ o = P) (hd : decode cc pc = .ok (.getfield index, 3) ∧ pc + 3 = nx) (kk : WW X G nL σ lm nx L (.ref (gA G o 72) :: st)) : WW X G nL σ lm pc L (.ref (gA G o 0) :: st) := r_get hX zin7 hlk ho rfl 71 (by decide) rfl rfl hP rfl hd kk
theorem gf_7_72 {X : MX} {G : GE} {own : String} {cc : ByteArray} {nL : Nat} {σ : Mm} {lm : Ml} {pc nx o index : Nat} {P : Pm} {L : List (Nat × Value)} {st : List Value} (hX : Cx X G own cc nL) (hlk : Cond.fieldLink own index "WellLendsDepthModel" "imageWhen" "[I" ∈ gT) (ho : kdo o = 7) (hP : σ o = P) (hd : decode cc pc = .ok (.getfield index, 3) ∧ pc + 3 = nx) (kk : WW X G nL σ lm nx L (.ref (gA G o 73) :: st)) : WW X G nL σ lm pc L (.ref (gA G o 0) :: st) := r_get hX zin7 hlk ho rfl 72 (by decide) rfl rfl hP rfl hd kk
theorem gf_7_73 {X : MX} {G : GE} {own : String} {cc : ByteArray} {nL : Nat} {σ : Mm} {lm : Ml} {pc nx o index : Nat} {P : Pm} {L : List (Nat × Value)} {st : List Value} (hX : Cx X G own cc nL) (hlk : Cond.fieldLink own index "WellLendsDepthModel" "imageWhat" "[I" ∈ gT) (ho : kdo o = 7) (hP : σ o = P) (hd : decode cc pc = .ok (.getfield index, 3) ∧ pc + 3 = nx) (kk : WW X G nL σ lm nx L (.ref (gA G o 74) :: st)) : WW X G nL σ lm pc L (.ref (gA G o 0) :: st) := r_get hX zin7 hlk ho rfl 73 (by decide) rfl rfl hP rfl hd kk
theorem gf_7_74 {X : MX} {G : GE} {own : String} {cc : ByteArray} {nL : Nat} {σ : Mm} {lm : Ml} {pc nx o index : Nat} {P : Pm} {L : List (Nat × Value)} {st : List Value} (hX : Cx X G own cc nL) (hlk : Cond.fieldLink own index "WellLendsDepthModel" "imageWho" "[I" ∈ gT) (ho : kdo o = 7) (hP : σ o = P) (hd : decode cc pc = .ok (.getfield index, 3) ∧ pc + 3 = nx) (kk : WW X G nL σ lm nx L (.ref (gA G o 75) :: st)) : WW X G nL σ lm pc L (.ref (gA G o 0) :: st) := r_get hX zin7 hlk ho rfl 74 (by decide) rfl rfl hP rfl hd kk
theorem gf_7_75 {X : MX} {G : GE} {own : String} {cc : ByteArray} {nL : Nat} {σ : Mm} {lm : Ml} {pc nx o index : Nat} {P : Pm} {L : List (Nat × Value)} {st : List Value} (hX : Cx X G own cc nL) (hlk : Cond.fieldLink own index "WellLendsDepthModel" "imageBookWho" "[I" ∈ gT) (ho : kdo o = 7) (hP : σ o = P) (hd : decode cc pc = .ok (.getfield index, 3) ∧ pc + 3 = nx) (kk : WW X G nL σ lm nx L (.ref (gA G o 76) :: st)) : WW X G nL σ lm pc L (.ref (gA G o 0) :: st) := r_get hX zin7 hlk ho rfl 75 (by decide) rfl rfl hP rfl hd kk
theorem gf_7_76 {X : MX} {G : GE} {own : String} {cc : ByteArray} {nL : Nat} {σ : Mm} {lm : Ml} {pc nx o index : Nat} {P : Pm} {L : List (Nat × Value)} {st : List Value} (hX : Cx X G own cc nL) (hlk : Cond.fieldLink own index "WellLendsDepthModel" "imageBookOwes" "[I" ∈ gT) (ho : kdo o = 7) (hP : σ o = P) (hd : decode cc pc = .ok (.getfield index, 3) ∧ pc + 3 = nx) (kk : WW X G nL σ lm nx L (.ref (gA G o 77) :: st)) : WW X G nL σ lm pc L (.ref (gA G o 0) :: st) := r_get hX zin7 hlk ho rfl 76 (by decide) rfl rfl hP rfl hd kk
theorem gf_7_77 {X : MX} {G : GE} {own : String} {cc : ByteArray} {nL : Nat} {σ : Mm} {lm : Ml} {pc nx o index : Nat} {P : Pm} {L : List (Nat × Value)} {st : List Value} (hX : Cx X G own cc nL) (hlk : Cond.fieldLink own index "WellLendsDepthModel" "ran" "I" ∈ gT) (ho : kdo o = 7) (hP : σ o = P) (hd : decode cc pc = .ok (.getfield index, 3) ∧ pc + 3 = nx) (kk : WW X G nL σ lm nx L (.int (P 0 77) :: st)) : WW X G nL σ lm pc L (.ref (gA G o 0) :: st) := r_get hX zin7 hlk ho rfl 77 (by decide) rfl rfl hP rfl hd kk
theorem pf_7_77 {X : MX} {G : GE} {own : String} {cc : ByteArray} {nL : Nat} {σ : Mm} {lm : Ml} {pc nx o index : Nat} {P : Pm} {x : Int32} {L : List (Nat × Value)} {st : List Value} (hX : Cx X G own cc nL) (hlk : Cond.fieldLink own index "WellLendsDepthModel" "ran" "I" ∈ gT) (ho : kdo o = 7) (hP : σ o = P) (hd : decode cc pc = .ok (.putfield index, 3) ∧ pc + 3 = nx) (kk : WW X G nL (setO σ o (up2 P 0 77 x)) lm nx L st) : WW X G nL σ lm pc L (.int x :: .ref (gA G o 0) :: st) := r_put hX zin7 zty7 zok7 znm7 hlk ho rfl 77 (by decide) rfl rfl rfl rfl rfl rfl hP (fun S => rfl) hd kk
theorem gf_7_78 {X : MX} {G : GE} {own : String} {cc : ByteArray} {nL : Nat} {σ : Mm} {lm : Ml} {pc nx o index : Nat} {P : Pm} {L : List (Nat × Value)} {st : List Value} (hX : Cx X G own cc nL) (hlk : Cond.fieldLink own index "WellLendsDepthModel" "bodies" "[I" ∈ gT) (ho : kdo o = 7) (hP : σ o = P) (hd : decode cc pc = .ok (.getfield index, 3) ∧ pc + 3 = nx) (kk : WW X G nL σ lm nx L (.ref (gA G o 79) :: st)) : WW X G nL σ lm pc L (.ref (gA G o 0) :: st) := r_get hX zin7 hlk ho rfl 78 (by decide) rfl rfl hP rfl hd kk
theorem gf_7_79 {X : MX} {G : GE} {own : String} {cc : ByteArray} {nL : Nat} {σ : Mm} {lm : Ml} {pc nx o index : Nat} {P : Pm} {L : List (Nat × Value)} {st : List Value} (hX : Cx X G own cc nL) (hlk : Cond.fieldLink own index "WellLendsDepthModel" "sort" "[I" ∈ gT) (ho : kdo o = 7) (hP : σ o = P) (hd : decode cc pc = .ok (.getfield index, 3) ∧ pc + 3 = nx) (kk : WW X G nL σ lm nx L (.ref (gA G o 80) :: st)) : WW X G nL σ lm pc L (.ref (gA G o 0) :: st) := r_get hX zin7 hlk ho rfl 79 (by decide) rfl rfl hP rfl hd kk
theorem gf_7_80 {X : MX} {G : GE} {own : String} {cc : ByteArray} {nL : Nat} {σ : Mm} {lm : Ml} {pc nx o index : Nat} {P : Pm} {L : List (Nat × Value)} {st : List Value} (hX : Cx X G own cc nL) (hlk : Cond.fieldLink own index "WellLendsDepthModel" "length" "[I" ∈ gT) (ho : kdo o = 7) (hP : σ o = P) (hd : decode cc pc = .ok (.getfield index, 3) ∧ pc + 3 = nx) (kk : WW X G nL σ lm nx L (.ref (gA G o 81) :: st)) : WW X G nL σ lm pc L (.ref (gA G o 0) :: st) := r_get hX zin7 hlk ho rfl 80 (by decide) rfl rfl hP rfl hd kk
theorem gf_7_81 {X : MX} {G : GE} {own : String} {cc : ByteArray} {nL : Nat} {σ : Mm} {lm : Ml} {pc nx o index : Nat} {P : Pm} {L : List (Nat × Value)} {st : List Value} (hX : Cx X G own cc nL) (hlk : Cond.fieldLink own index "WellLendsDepthModel" "item" "[J" ∈ gT) (ho : kdo o = 7) (hP : σ o = P) (hd : decode cc pc = .ok (.getfield index, 3) ∧ pc + 3 = nx) (kk : WW X G nL σ lm nx L (.ref (gA G o 82) :: st)) : WW X G nL σ lm pc L (.ref (gA G o 0) :: st) := r_get hX zin7 hlk ho rfl 81 (by decide) rfl rfl hP rfl hd kk
theorem gf_7_82 {X : MX} {G : GE} {own : String} {cc : ByteArray} {nL : Nat} {σ : Mm} {lm : Ml} {pc nx o index : Nat} {P : Pm} {L : List (Nat × Value)} {st : List Value} (hX : Cx X G own cc nL) (hlk : Cond.fieldLink own index "WellLendsDepthModel" "aside" "[J" ∈ gT) (ho : kdo o = 7) (hP : σ o = P) (hd : decode cc pc = .ok (.getfield index, 3) ∧ pc + 3 = nx) (kk : WW X G nL σ lm nx L (.ref (gA G o 83) :: st)) : WW X G nL σ lm pc L (.ref (gA G o 0) :: st) := r_get hX zin7 hlk ho rfl 82 (by decide) rfl rfl hP rfl hd kk
end
section
/-! a row an instruction, over WW; written by wip/whole/gen_rows.py -/
section Rows2
variable {X : MX} {G : GE} {own : String} {cc : ByteArray} {nL : Nat} {σ : Mm} {lm : Ml} {pc nx : Nat} {L : List (Nat × Value)} {st : List Value}
theorem r_iconst {n : Int} {v : Int32} (hX : Cx X G own cc nL) (hv : Int32.ofInt n = v) (hd : decode cc pc = .ok (.iconst n, 1) ∧ pc + 1 = nx) (kk : WW X G nL σ lm nx L (.int v :: st)) : WW X G nL σ lm pc L (st) := by
  intro H locs ls hw hS hl
  obtain ⟨hd, rfl⟩ := hd
  exact lv_iconst hX.1 hX.2.1 hd hv (kk H locs ls hw hS hl)
theorem r_bipush {n : Int} {v : Int32} (hX : Cx X G own cc nL) (hv : (Int8.ofInt n).toInt32 = v) (hd : decode cc pc = .ok (.bipush n, 2) ∧ pc + 2 = nx) (kk : WW X G nL σ lm nx L (.int v :: st)) : WW X G nL σ lm pc L (st) := by
  intro H locs ls hw hS hl
  obtain ⟨hd, rfl⟩ := hd
  exact lv_bipush hX.1 hX.2.1 hd hv (kk H locs ls hw hS hl)
theorem r_sipush {n : Int} {v : Int32} (hX : Cx X G own cc nL) (hv : (Int16.ofInt n).toInt32 = v) (hd : decode cc pc = .ok (.sipush n, 3) ∧ pc + 3 = nx) (kk : WW X G nL σ lm nx L (.int v :: st)) : WW X G nL σ lm pc L (st) := by
  intro H locs ls hw hS hl
  obtain ⟨hd, rfl⟩ := hd
  exact lv_sipush hX.1 hX.2.1 hd hv (kk H locs ls hw hS hl)
theorem r_lconst {n : Fin 2} {v : Int64} (hX : Cx X G own cc nL) (hv : Int64.ofNat (n : Nat) = v) (hd : decode cc pc = .ok (.lconst n, 1) ∧ pc + 1 = nx) (kk : WW X G nL σ lm nx L (.long v :: st)) : WW X G nL σ lm pc L (st) := by
  intro H locs ls hw hS hl
  obtain ⟨hd, rfl⟩ := hd
  exact lv_lconst hX.1 hX.2.1 hd hv (kk H locs ls hw hS hl)
theorem r_iload_n {k : Fin 4} {i : Nat} {x : Int32} (hX : Cx X G own cc nL) (hi : (k : Nat) = i) (q : Nat) (hq : L[q]? = some (i, .int x)) (hd : decode cc pc = .ok (.iload_n k, 1) ∧ pc + 1 = nx) (kk : WW X G nL σ lm nx L (.int x :: st)) : WW X G nL σ lm pc L (st) := by
  intro H locs ls hw hS hl
  obtain ⟨hd, rfl⟩ := hd
  exact lv_iload_n hX.1 hX.2.1 hd hi (lv_at hl q hq) (kk H locs ls hw hS hl)
theorem r_iload {i : Nat} {x : Int32} (hX : Cx X G own cc nL) (q : Nat) (hq : L[q]? = some (i, .int x)) (hd : decode cc pc = .ok (.iload i, 2) ∧ pc + 2 = nx) (kk : WW X G nL σ lm nx L (.int x :: st)) : WW X G nL σ lm pc L (st) := by
  intro H locs ls hw hS hl
  obtain ⟨hd, rfl⟩ := hd
  exact lv_iload hX.1 hX.2.1 hd (lv_at hl q hq) (kk H locs ls hw hS hl)
theorem r_lload_n {k : Fin 4} {i : Nat} {x : Int64} (hX : Cx X G own cc nL) (hi : (k : Nat) = i) (q : Nat) (hq : L[q]? = some (i, .long x)) (hd : decode cc pc = .ok (.lload_n k, 1) ∧ pc + 1 = nx) (kk : WW X G nL σ lm nx L (.long x :: st)) : WW X G nL σ lm pc L (st) := by
  intro H locs ls hw hS hl
  obtain ⟨hd, rfl⟩ := hd
  exact lv_lload_n hX.1 hX.2.1 hd hi (lv_at hl q hq) (kk H locs ls hw hS hl)
theorem r_lload {i : Nat} {x : Int64} (hX : Cx X G own cc nL) (q : Nat) (hq : L[q]? = some (i, .long x)) (hd : decode cc pc = .ok (.lload i, 2) ∧ pc + 2 = nx) (kk : WW X G nL σ lm nx L (.long x :: st)) : WW X G nL σ lm pc L (st) := by
  intro H locs ls hw hS hl
  obtain ⟨hd, rfl⟩ := hd
  exact lv_lload hX.1 hX.2.1 hd (lv_at hl q hq) (kk H locs ls hw hS hl)
theorem r_aload_n {k : Fin 4} {i : Nat} {x : Nat} (hX : Cx X G own cc nL) (hi : (k : Nat) = i) (q : Nat) (hq : L[q]? = some (i, .ref x)) (hd : decode cc pc = .ok (.aload_n k, 1) ∧ pc + 1 = nx) (kk : WW X G nL σ lm nx L (.ref x :: st)) : WW X G nL σ lm pc L (st) := by
  intro H locs ls hw hS hl
  obtain ⟨hd, rfl⟩ := hd
  exact lv_aload_n hX.1 hX.2.1 hd hi (lv_at hl q hq) (kk H locs ls hw hS hl)
theorem r_aload {i : Nat} {x : Nat} (hX : Cx X G own cc nL) (q : Nat) (hq : L[q]? = some (i, .ref x)) (hd : decode cc pc = .ok (.aload i, 2) ∧ pc + 2 = nx) (kk : WW X G nL σ lm nx L (.ref x :: st)) : WW X G nL σ lm pc L (st) := by
  intro H locs ls hw hS hl
  obtain ⟨hd, rfl⟩ := hd
  exact lv_aload hX.1 hX.2.1 hd (lv_at hl q hq) (kk H locs ls hw hS hl)
theorem r_istore_n {k : Fin 4} {i : Nat} {x : Int32} {L2 : List (Nat × Value)} (hX : Cx X G own cc nL) (hi : (k : Nat) = i) (hn : i < nL) (hl2 : (i, Value.int x) :: L.filter (fun q => !(q.1 == i) && !(q.1 + 1 == i && q.2.category == 2)) = L2) (hd : decode cc pc = .ok (.istore_n k, 1) ∧ pc + 1 = nx) (kk : WW X G nL σ lm nx L2 st) : WW X G nL σ lm pc L (.int x :: st) := by
  intro H locs ls hw hS hl
  obtain ⟨hd, rfl⟩ := hd
  exact lv_istore_n hX.1 hX.2.1 hd hi hl hn hl2 (fun ls2 hl3 => kk H locs ls2 hw hS hl3)
theorem r_istore {i : Nat} {x : Int32} {L2 : List (Nat × Value)} (hX : Cx X G own cc nL) (hn : i < nL) (hl2 : (i, Value.int x) :: L.filter (fun q => !(q.1 == i) && !(q.1 + 1 == i && q.2.category == 2)) = L2) (hd : decode cc pc = .ok (.istore i, 2) ∧ pc + 2 = nx) (kk : WW X G nL σ lm nx L2 st) : WW X G nL σ lm pc L (.int x :: st) := by
  intro H locs ls hw hS hl
  obtain ⟨hd, rfl⟩ := hd
  exact lv_istore hX.1 hX.2.1 hd hl hn hl2 (fun ls2 hl3 => kk H locs ls2 hw hS hl3)
theorem r_astore_n {k : Fin 4} {i : Nat} {x : Nat} {L2 : List (Nat × Value)} (hX : Cx X G own cc nL) (hi : (k : Nat) = i) (hn : i < nL) (hl2 : (i, Value.ref x) :: L.filter (fun q => !(q.1 == i) && !(q.1 + 1 == i && q.2.category == 2)) = L2) (hd : decode cc pc = .ok (.astore_n k, 1) ∧ pc + 1 = nx) (kk : WW X G nL σ lm nx L2 st) : WW X G nL σ lm pc L (.ref x :: st) := by
  intro H locs ls hw hS hl
  obtain ⟨hd, rfl⟩ := hd
  exact lv_astore_n hX.1 hX.2.1 hd hi hl hn hl2 (fun ls2 hl3 => kk H locs ls2 hw hS hl3)
theorem r_astore {i : Nat} {x : Nat} {L2 : List (Nat × Value)} (hX : Cx X G own cc nL) (hn : i < nL) (hl2 : (i, Value.ref x) :: L.filter (fun q => !(q.1 == i) && !(q.1 + 1 == i && q.2.category == 2)) = L2) (hd : decode cc pc = .ok (.astore i, 2) ∧ pc + 2 = nx) (kk : WW X G nL σ lm nx L2 st) : WW X G nL σ lm pc L (.ref x :: st) := by
  intro H locs ls hw hS hl
  obtain ⟨hd, rfl⟩ := hd
  exact lv_astore hX.1 hX.2.1 hd hl hn hl2 (fun ls2 hl3 => kk H locs ls2 hw hS hl3)
theorem r_lstore_n {k : Fin 4} {i : Nat} {x : Int64} {L2 : List (Nat × Value)} (hX : Cx X G own cc nL) (hi : (k : Nat) = i) (hn : i + 1 < nL) (hl2 : (i, Value.long x) :: L.filter (fun q => !(q.1 == i) && (!(q.1 == i + 1) && !(q.1 + 1 == i && q.2.category == 2))) = L2) (hd : decode cc pc = .ok (.lstore_n k, 1) ∧ pc + 1 = nx) (kk : WW X G nL σ lm nx L2 st) : WW X G nL σ lm pc L (.long x :: st) := by
  intro H locs ls hw hS hl
  obtain ⟨hd, rfl⟩ := hd
  exact lv_lstore_n hX.1 hX.2.1 hd hi hl hn hl2 (fun ls2 hl3 => kk H locs ls2 hw hS hl3)
theorem r_lstore {i : Nat} {x : Int64} {L2 : List (Nat × Value)} (hX : Cx X G own cc nL) (hn : i + 1 < nL) (hl2 : (i, Value.long x) :: L.filter (fun q => !(q.1 == i) && (!(q.1 == i + 1) && !(q.1 + 1 == i && q.2.category == 2))) = L2) (hd : decode cc pc = .ok (.lstore i, 2) ∧ pc + 2 = nx) (kk : WW X G nL σ lm nx L2 st) : WW X G nL σ lm pc L (.long x :: st) := by
  intro H locs ls hw hS hl
  obtain ⟨hd, rfl⟩ := hd
  exact lv_lstore hX.1 hX.2.1 hd hl hn hl2 (fun ls2 hl3 => kk H locs ls2 hw hS hl3)
theorem r_iinc {i : Nat} {n : Int} {x v : Int32} {L2 : List (Nat × Value)} (hX : Cx X G own cc nL) (q : Nat) (hq : L[q]? = some (i, .int x)) (hv : x + Int32.ofInt n = v) (hn : i < nL) (hl2 : (i, Value.int v) :: L.filter (fun q => !(q.1 == i) && !(q.1 + 1 == i && q.2.category == 2)) = L2) (hd : decode cc pc = .ok (.iinc i n, 3) ∧ pc + 3 = nx) (kk : WW X G nL σ lm nx L2 st) : WW X G nL σ lm pc L st := by
  intro H locs ls hw hS hl
  obtain ⟨hd, rfl⟩ := hd
  exact lv_iinc hX.1 hX.2.1 hd hl hq hv hn hl2 (fun ls2 hl3 => kk H locs ls2 hw hS hl3)
theorem r_iadd {x y : Int32} (hX : Cx X G own cc nL)  (hd : decode cc pc = .ok (.iadd, 1) ∧ pc + 1 = nx) (kk : WW X G nL σ lm nx L (.int (x + y) :: st)) : WW X G nL σ lm pc L (.int y :: .int x :: st) := by
  intro H locs ls hw hS hl
  obtain ⟨hd, rfl⟩ := hd
  exact lv_iadd hX.1 hX.2.1 hd (kk H locs ls hw hS hl)
theorem r_isub {x y : Int32} (hX : Cx X G own cc nL)  (hd : decode cc pc = .ok (.isub, 1) ∧ pc + 1 = nx) (kk : WW X G nL σ lm nx L (.int (x - y) :: st)) : WW X G nL σ lm pc L (.int y :: .int x :: st) := by
  intro H locs ls hw hS hl
  obtain ⟨hd, rfl⟩ := hd
  exact lv_isub hX.1 hX.2.1 hd (kk H locs ls hw hS hl)
theorem r_imul {x y : Int32} (hX : Cx X G own cc nL)  (hd : decode cc pc = .ok (.imul, 1) ∧ pc + 1 = nx) (kk : WW X G nL σ lm nx L (.int (x * y) :: st)) : WW X G nL σ lm pc L (.int y :: .int x :: st) := by
  intro H locs ls hw hS hl
  obtain ⟨hd, rfl⟩ := hd
  exact lv_imul hX.1 hX.2.1 hd (kk H locs ls hw hS hl)
theorem r_iand {x y : Int32} (hX : Cx X G own cc nL)  (hd : decode cc pc = .ok (.iand, 1) ∧ pc + 1 = nx) (kk : WW X G nL σ lm nx L (.int (x &&& y) :: st)) : WW X G nL σ lm pc L (.int y :: .int x :: st) := by
  intro H locs ls hw hS hl
  obtain ⟨hd, rfl⟩ := hd
  exact lv_iand hX.1 hX.2.1 hd (kk H locs ls hw hS hl)
theorem r_ior {x y : Int32} (hX : Cx X G own cc nL)  (hd : decode cc pc = .ok (.ior, 1) ∧ pc + 1 = nx) (kk : WW X G nL σ lm nx L (.int (x ||| y) :: st)) : WW X G nL σ lm pc L (.int y :: .int x :: st) := by
  intro H locs ls hw hS hl
  obtain ⟨hd, rfl⟩ := hd
  exact lv_ior hX.1 hX.2.1 hd (kk H locs ls hw hS hl)
theorem r_ixor {x y : Int32} (hX : Cx X G own cc nL)  (hd : decode cc pc = .ok (.ixor, 1) ∧ pc + 1 = nx) (kk : WW X G nL σ lm nx L (.int (x ^^^ y) :: st)) : WW X G nL σ lm pc L (.int y :: .int x :: st) := by
  intro H locs ls hw hS hl
  obtain ⟨hd, rfl⟩ := hd
  exact lv_ixor hX.1 hX.2.1 hd (kk H locs ls hw hS hl)
theorem r_ishl {x y : Int32} (hX : Cx X G own cc nL)  (hd : decode cc pc = .ok (.ishl, 1) ∧ pc + 1 = nx) (kk : WW X G nL σ lm nx L (.int (x <<< (y &&& 31)) :: st)) : WW X G nL σ lm pc L (.int y :: .int x :: st) := by
  intro H locs ls hw hS hl
  obtain ⟨hd, rfl⟩ := hd
  exact lv_ishl hX.1 hX.2.1 hd (kk H locs ls hw hS hl)
theorem r_ishr {x y : Int32} (hX : Cx X G own cc nL)  (hd : decode cc pc = .ok (.ishr, 1) ∧ pc + 1 = nx) (kk : WW X G nL σ lm nx L (.int (x >>> (y &&& 31)) :: st)) : WW X G nL σ lm pc L (.int y :: .int x :: st) := by
  intro H locs ls hw hS hl
  obtain ⟨hd, rfl⟩ := hd
  exact lv_ishr hX.1 hX.2.1 hd (kk H locs ls hw hS hl)
theorem r_idiv {x y : Int32} (hX : Cx X G own cc nL) (hne : ¬ y = 0) (hd : decode cc pc = .ok (.idiv, 1) ∧ pc + 1 = nx) (kk : WW X G nL σ lm nx L (.int (x / y) :: st)) : WW X G nL σ lm pc L (.int y :: .int x :: st) := by
  intro H locs ls hw hS hl
  obtain ⟨hd, rfl⟩ := hd
  exact lv_idiv hX.1 hX.2.1 hd hne (kk H locs ls hw hS hl)
theorem r_irem {x y : Int32} (hX : Cx X G own cc nL) (hne : ¬ y = 0) (hd : decode cc pc = .ok (.irem, 1) ∧ pc + 1 = nx) (kk : WW X G nL σ lm nx L (.int (x - x / y * y) :: st)) : WW X G nL σ lm pc L (.int y :: .int x :: st) := by
  intro H locs ls hw hS hl
  obtain ⟨hd, rfl⟩ := hd
  exact lv_irem hX.1 hX.2.1 hd hne (kk H locs ls hw hS hl)
theorem r_ineg {x : Int32} (hX : Cx X G own cc nL)  (hd : decode cc pc = .ok (.ineg, 1) ∧ pc + 1 = nx) (kk : WW X G nL σ lm nx L (.int (-x) :: st)) : WW X G nL σ lm pc L (.int x :: st) := by
  intro H locs ls hw hS hl
  obtain ⟨hd, rfl⟩ := hd
  exact lv_ineg hX.1 hX.2.1 hd (kk H locs ls hw hS hl)
theorem r_ladd {x y : Int64} (hX : Cx X G own cc nL)  (hd : decode cc pc = .ok (.ladd, 1) ∧ pc + 1 = nx) (kk : WW X G nL σ lm nx L (.long (x + y) :: st)) : WW X G nL σ lm pc L (.long y :: .long x :: st) := by
  intro H locs ls hw hS hl
  obtain ⟨hd, rfl⟩ := hd
  exact lv_ladd hX.1 hX.2.1 hd (kk H locs ls hw hS hl)
theorem r_land {x y : Int64} (hX : Cx X G own cc nL)  (hd : decode cc pc = .ok (.land, 1) ∧ pc + 1 = nx) (kk : WW X G nL σ lm nx L (.long (x &&& y) :: st)) : WW X G nL σ lm pc L (.long y :: .long x :: st) := by
  intro H locs ls hw hS hl
  obtain ⟨hd, rfl⟩ := hd
  exact lv_land hX.1 hX.2.1 hd (kk H locs ls hw hS hl)
theorem r_lor {x y : Int64} (hX : Cx X G own cc nL)  (hd : decode cc pc = .ok (.lor, 1) ∧ pc + 1 = nx) (kk : WW X G nL σ lm nx L (.long (x ||| y) :: st)) : WW X G nL σ lm pc L (.long y :: .long x :: st) := by
  intro H locs ls hw hS hl
  obtain ⟨hd, rfl⟩ := hd
  exact lv_lor hX.1 hX.2.1 hd (kk H locs ls hw hS hl)
theorem r_ldiv {x y : Int64} (hX : Cx X G own cc nL) (hne : ¬ y = 0) (hd : decode cc pc = .ok (.ldiv, 1) ∧ pc + 1 = nx) (kk : WW X G nL σ lm nx L (.long (x / y) :: st)) : WW X G nL σ lm pc L (.long y :: .long x :: st) := by
  intro H locs ls hw hS hl
  obtain ⟨hd, rfl⟩ := hd
  exact lv_ldiv hX.1 hX.2.1 hd hne (kk H locs ls hw hS hl)
theorem r_lrem {x y : Int64} (hX : Cx X G own cc nL) (hne : ¬ y = 0) (hd : decode cc pc = .ok (.lrem, 1) ∧ pc + 1 = nx) (kk : WW X G nL σ lm nx L (.long (x - x / y * y) :: st)) : WW X G nL σ lm pc L (.long y :: .long x :: st) := by
  intro H locs ls hw hS hl
  obtain ⟨hd, rfl⟩ := hd
  exact lv_lrem hX.1 hX.2.1 hd hne (kk H locs ls hw hS hl)
theorem r_lshl {x : Int64} {y : Int32} (hX : Cx X G own cc nL)  (hd : decode cc pc = .ok (.lshl, 1) ∧ pc + 1 = nx) (kk : WW X G nL σ lm nx L (.long (x <<< (y.toInt64 &&& 63)) :: st)) : WW X G nL σ lm pc L (.int y :: .long x :: st) := by
  intro H locs ls hw hS hl
  obtain ⟨hd, rfl⟩ := hd
  exact lv_lshl hX.1 hX.2.1 hd rfl (kk H locs ls hw hS hl)
theorem r_lcmp {x y : Int64} (hX : Cx X G own cc nL)  (hd : decode cc pc = .ok (.lcmp, 1) ∧ pc + 1 = nx) (kk : WW X G nL σ lm nx L (.int (lg_cmp x y) :: st)) : WW X G nL σ lm pc L (.long y :: .long x :: st) := by
  intro H locs ls hw hS hl
  obtain ⟨hd, rfl⟩ := hd
  exact W.lcmp hX.1 hX.2.1 hd (kk H locs ls hw hS hl)
theorem r_i2l {x : Int32} (hX : Cx X G own cc nL)  (hd : decode cc pc = .ok (.i2l, 1) ∧ pc + 1 = nx) (kk : WW X G nL σ lm nx L (.long x.toInt64 :: st)) : WW X G nL σ lm pc L (.int x :: st) := by
  intro H locs ls hw hS hl
  obtain ⟨hd, rfl⟩ := hd
  exact lv_i2l hX.1 hX.2.1 hd rfl (kk H locs ls hw hS hl)
theorem r_l2i {x : Int64} (hX : Cx X G own cc nL)  (hd : decode cc pc = .ok (.l2i, 1) ∧ pc + 1 = nx) (kk : WW X G nL σ lm nx L (.int x.toInt32 :: st)) : WW X G nL σ lm pc L (.long x :: st) := by
  intro H locs ls hw hS hl
  obtain ⟨hd, rfl⟩ := hd
  exact lv_l2i hX.1 hX.2.1 hd rfl (kk H locs ls hw hS hl)
theorem r_i2b {x : Int32} (hX : Cx X G own cc nL)  (hd : decode cc pc = .ok (.i2b, 1) ∧ pc + 1 = nx) (kk : WW X G nL σ lm nx L (.int x.toInt8.toInt32 :: st)) : WW X G nL σ lm pc L (.int x :: st) := by
  intro H locs ls hw hS hl
  obtain ⟨hd, rfl⟩ := hd
  exact lv_i2b hX.1 hX.2.1 hd rfl (kk H locs ls hw hS hl)
theorem r_i2s {x : Int32} (hX : Cx X G own cc nL)  (hd : decode cc pc = .ok (.i2s, 1) ∧ pc + 1 = nx) (kk : WW X G nL σ lm nx L (.int x.toInt16.toInt32 :: st)) : WW X G nL σ lm pc L (.int x :: st) := by
  intro H locs ls hw hS hl
  obtain ⟨hd, rfl⟩ := hd
  exact lv_i2s hX.1 hX.2.1 hd rfl (kk H locs ls hw hS hl)
theorem r_i2c {x : Int32} (hX : Cx X G own cc nL)  (hd : decode cc pc = .ok (.i2c, 1) ∧ pc + 1 = nx) (kk : WW X G nL σ lm nx L (.int (x.toUInt32 % 65536).toInt32 :: st)) : WW X G nL σ lm pc L (.int x :: st) := by
  intro H locs ls hw hS hl
  obtain ⟨hd, rfl⟩ := hd
  exact lv_i2c hX.1 hX.2.1 hd rfl (kk H locs ls hw hS hl)
theorem r_dup {va : Value} (hX : Cx X G own cc nL) (hc : va.category = 1) (hd : decode cc pc = .ok (.dup, 1) ∧ pc + 1 = nx) (kk : WW X G nL σ lm nx L (va :: va :: st)) : WW X G nL σ lm pc L (va :: st) := by
  intro H locs ls hw hS hl
  obtain ⟨hd, rfl⟩ := hd
  exact lv_dup hX.1 hX.2.1 hd hc (kk H locs ls hw hS hl)
theorem r_pop {va : Value} (hX : Cx X G own cc nL) (hc : va.category = 1) (hd : decode cc pc = .ok (.pop, 1) ∧ pc + 1 = nx) (kk : WW X G nL σ lm nx L (st)) : WW X G nL σ lm pc L (va :: st) := by
  intro H locs ls hw hS hl
  obtain ⟨hd, rfl⟩ := hd
  exact lv_pop hX.1 hX.2.1 hd hc (kk H locs ls hw hS hl)
theorem r_dup2 {va vb : Value} (hX : Cx X G own cc nL) (hc : va.category = 1) (hc2 : vb.category = 1) (hd : decode cc pc = .ok (.dup2, 1) ∧ pc + 1 = nx) (kk : WW X G nL σ lm nx L (va :: vb :: va :: vb :: st)) : WW X G nL σ lm pc L (va :: vb :: st) := by
  intro H locs ls hw hS hl
  obtain ⟨hd, rfl⟩ := hd
  exact lv_dup2_11 hX.1 hX.2.1 hd hc hc2 (kk H locs ls hw hS hl)
theorem r_ldc {index : Nat} {v : Int32} (hX : Cx X G own cc nL) (hk : Cond.constant own index v ∈ gT) (hd : decode cc pc = .ok (.ldc index, 2) ∧ pc + 2 = nx) (kk : WW X G nL σ lm nx L (.int v :: st)) : WW X G nL σ lm pc L st := by
  intro H locs ls hw hS hl
  obtain ⟨hd, rfl⟩ := hd
  exact lv_ldc hX.1 hX.2.1 hX.2.2.2.1 (hX.2.2.2.2.1 _ hk) hd (kk H locs ls hw hS hl)
theorem r_ldcw {index : Nat} {v : Int32} (hX : Cx X G own cc nL) (hk : Cond.constant own index v ∈ gT) (hd : decode cc pc = .ok (.ldc_w index, 3) ∧ pc + 3 = nx) (kk : WW X G nL σ lm nx L (.int v :: st)) : WW X G nL σ lm pc L st := by
  intro H locs ls hw hS hl
  obtain ⟨hd, rfl⟩ := hd
  exact lv_ldcw hX.1 hX.2.1 hX.2.2.2.1 (hX.2.2.2.2.1 _ hk) hd (kk H locs ls hw hS hl)
theorem r_ldc2 {index : Nat} {v : Int64} (hX : Cx X G own cc nL) (hk : Cond.constantLong own index v ∈ gT) (hd : decode cc pc = .ok (.ldc2_w index, 3) ∧ pc + 3 = nx) (kk : WW X G nL σ lm nx L (.long v :: st)) : WW X G nL σ lm pc L st := by
  intro H locs ls hw hS hl
  obtain ⟨hd, rfl⟩ := hd
  exact lv_ldc2 hX.1 hX.2.1 hX.2.2.2.1 (hX.2.2.2.2.1 _ hk) hd (kk H locs ls hw hS hl)
theorem r_if_eq {x : Int32} {off : Int} {tgt : Nat} (hX : Cx X G own cc nL) (hd : decode cc pc = .ok (.ifCond .eq off, 3) ∧ pc + 3 = nx ∧ (pc : Int) + off = (tgt : Int)) (kt : x = 0 → WW X G nL σ lm tgt L st) (kf : ¬ x = 0 → WW X G nL σ lm nx L st) : WW X G nL σ lm pc L (.int x :: st) := by
  intro H locs ls hw hS hl
  obtain ⟨hd, rfl, ht⟩ := hd
  exact lv_if_eq hX.1 hX.2.1 hd ht (fun h => kt h H locs ls hw hS hl) (fun h => kf h H locs ls hw hS hl)
theorem r_if_ne {x : Int32} {off : Int} {tgt : Nat} (hX : Cx X G own cc nL) (hd : decode cc pc = .ok (.ifCond .ne off, 3) ∧ pc + 3 = nx ∧ (pc : Int) + off = (tgt : Int)) (kt : ¬ x = 0 → WW X G nL σ lm tgt L st) (kf : x = 0 → WW X G nL σ lm nx L st) : WW X G nL σ lm pc L (.int x :: st) := by
  intro H locs ls hw hS hl
  obtain ⟨hd, rfl, ht⟩ := hd
  exact lv_if_ne hX.1 hX.2.1 hd ht (fun h => kt h H locs ls hw hS hl) (fun h => kf h H locs ls hw hS hl)
theorem r_if_lt {x : Int32} {off : Int} {tgt : Nat} (hX : Cx X G own cc nL) (hd : decode cc pc = .ok (.ifCond .lt off, 3) ∧ pc + 3 = nx ∧ (pc : Int) + off = (tgt : Int)) (kt : x < 0 → WW X G nL σ lm tgt L st) (kf : ¬ x < 0 → WW X G nL σ lm nx L st) : WW X G nL σ lm pc L (.int x :: st) := by
  intro H locs ls hw hS hl
  obtain ⟨hd, rfl, ht⟩ := hd
  exact lv_if_lt hX.1 hX.2.1 hd ht (fun h => kt h H locs ls hw hS hl) (fun h => kf h H locs ls hw hS hl)
theorem r_if_ge {x : Int32} {off : Int} {tgt : Nat} (hX : Cx X G own cc nL) (hd : decode cc pc = .ok (.ifCond .ge off, 3) ∧ pc + 3 = nx ∧ (pc : Int) + off = (tgt : Int)) (kt : 0 ≤ x → WW X G nL σ lm tgt L st) (kf : ¬ 0 ≤ x → WW X G nL σ lm nx L st) : WW X G nL σ lm pc L (.int x :: st) := by
  intro H locs ls hw hS hl
  obtain ⟨hd, rfl, ht⟩ := hd
  exact lv_if_ge hX.1 hX.2.1 hd ht (fun h => kt h H locs ls hw hS hl) (fun h => kf h H locs ls hw hS hl)
theorem r_if_gt {x : Int32} {off : Int} {tgt : Nat} (hX : Cx X G own cc nL) (hd : decode cc pc = .ok (.ifCond .gt off, 3) ∧ pc + 3 = nx ∧ (pc : Int) + off = (tgt : Int)) (kt : 0 < x → WW X G nL σ lm tgt L st) (kf : ¬ 0 < x → WW X G nL σ lm nx L st) : WW X G nL σ lm pc L (.int x :: st) := by
  intro H locs ls hw hS hl
  obtain ⟨hd, rfl, ht⟩ := hd
  exact lv_if_gt hX.1 hX.2.1 hd ht (fun h => kt h H locs ls hw hS hl) (fun h => kf h H locs ls hw hS hl)
theorem r_if_le {x : Int32} {off : Int} {tgt : Nat} (hX : Cx X G own cc nL) (hd : decode cc pc = .ok (.ifCond .le off, 3) ∧ pc + 3 = nx ∧ (pc : Int) + off = (tgt : Int)) (kt : x ≤ 0 → WW X G nL σ lm tgt L st) (kf : ¬ x ≤ 0 → WW X G nL σ lm nx L st) : WW X G nL σ lm pc L (.int x :: st) := by
  intro H locs ls hw hS hl
  obtain ⟨hd, rfl, ht⟩ := hd
  exact lv_if_le hX.1 hX.2.1 hd ht (fun h => kt h H locs ls hw hS hl) (fun h => kf h H locs ls hw hS hl)
theorem r_icmp_eq {x y : Int32} {off : Int} {tgt : Nat} (hX : Cx X G own cc nL) (hd : decode cc pc = .ok (.if_icmp .eq off, 3) ∧ pc + 3 = nx ∧ (pc : Int) + off = (tgt : Int)) (kt : x = y → WW X G nL σ lm tgt L st) (kf : ¬ x = y → WW X G nL σ lm nx L st) : WW X G nL σ lm pc L (.int y :: .int x :: st) := by
  intro H locs ls hw hS hl
  obtain ⟨hd, rfl, ht⟩ := hd
  exact lv_icmp_eq hX.1 hX.2.1 hd ht (fun h => kt h H locs ls hw hS hl) (fun h => kf h H locs ls hw hS hl)
theorem r_icmp_ne {x y : Int32} {off : Int} {tgt : Nat} (hX : Cx X G own cc nL) (hd : decode cc pc = .ok (.if_icmp .ne off, 3) ∧ pc + 3 = nx ∧ (pc : Int) + off = (tgt : Int)) (kt : ¬ x = y → WW X G nL σ lm tgt L st) (kf : x = y → WW X G nL σ lm nx L st) : WW X G nL σ lm pc L (.int y :: .int x :: st) := by
  intro H locs ls hw hS hl
  obtain ⟨hd, rfl, ht⟩ := hd
  exact lv_icmp_ne hX.1 hX.2.1 hd ht (fun h => kt h H locs ls hw hS hl) (fun h => kf h H locs ls hw hS hl)
theorem r_icmp_lt {x y : Int32} {off : Int} {tgt : Nat} (hX : Cx X G own cc nL) (hd : decode cc pc = .ok (.if_icmp .lt off, 3) ∧ pc + 3 = nx ∧ (pc : Int) + off = (tgt : Int)) (kt : x < y → WW X G nL σ lm tgt L st) (kf : ¬ x < y → WW X G nL σ lm nx L st) : WW X G nL σ lm pc L (.int y :: .int x :: st) := by
  intro H locs ls hw hS hl
  obtain ⟨hd, rfl, ht⟩ := hd
  exact lv_icmp_lt hX.1 hX.2.1 hd ht (fun h => kt h H locs ls hw hS hl) (fun h => kf h H locs ls hw hS hl)
theorem r_icmp_ge {x y : Int32} {off : Int} {tgt : Nat} (hX : Cx X G own cc nL) (hd : decode cc pc = .ok (.if_icmp .ge off, 3) ∧ pc + 3 = nx ∧ (pc : Int) + off = (tgt : Int)) (kt : y ≤ x → WW X G nL σ lm tgt L st) (kf : ¬ y ≤ x → WW X G nL σ lm nx L st) : WW X G nL σ lm pc L (.int y :: .int x :: st) := by
  intro H locs ls hw hS hl
  obtain ⟨hd, rfl, ht⟩ := hd
  exact lv_icmp_ge hX.1 hX.2.1 hd ht (fun h => kt h H locs ls hw hS hl) (fun h => kf h H locs ls hw hS hl)
theorem r_icmp_gt {x y : Int32} {off : Int} {tgt : Nat} (hX : Cx X G own cc nL) (hd : decode cc pc = .ok (.if_icmp .gt off, 3) ∧ pc + 3 = nx ∧ (pc : Int) + off = (tgt : Int)) (kt : y < x → WW X G nL σ lm tgt L st) (kf : ¬ y < x → WW X G nL σ lm nx L st) : WW X G nL σ lm pc L (.int y :: .int x :: st) := by
  intro H locs ls hw hS hl
  obtain ⟨hd, rfl, ht⟩ := hd
  exact lv_icmp_gt hX.1 hX.2.1 hd ht (fun h => kt h H locs ls hw hS hl) (fun h => kf h H locs ls hw hS hl)
theorem r_icmp_le {x y : Int32} {off : Int} {tgt : Nat} (hX : Cx X G own cc nL) (hd : decode cc pc = .ok (.if_icmp .le off, 3) ∧ pc + 3 = nx ∧ (pc : Int) + off = (tgt : Int)) (kt : x ≤ y → WW X G nL σ lm tgt L st) (kf : ¬ x ≤ y → WW X G nL σ lm nx L st) : WW X G nL σ lm pc L (.int y :: .int x :: st) := by
  intro H locs ls hw hS hl
  obtain ⟨hd, rfl, ht⟩ := hd
  exact lv_icmp_le hX.1 hX.2.1 hd ht (fun h => kt h H locs ls hw hS hl) (fun h => kf h H locs ls hw hS hl)
theorem r_goto {off : Int} {tgt : Nat} (hX : Cx X G own cc nL) (hd : decode cc pc = .ok (.goto off, 3) ∧ (pc : Int) + off = (tgt : Int)) (kk : WW X G nL σ lm tgt L st) : WW X G nL σ lm pc L st := by
  intro H locs ls hw hS hl
  exact lv_goto hX.1 hX.2.1 hd.1 hd.2 (kk H locs ls hw hS hl)
theorem i32n {x k : Int32} {n : Int} (h : ¬ x = k) (hn : k.toInt = n) : x.toInt ≠ n := fun e => h (Int32.toInt_inj.mp (e.trans hn.symm))
theorem r_tswI {x k : Int32} {dflt lo hi : Int} {offs : Array Int} {len : Nat} {off : Int} {tgt : Nat} (hX : Cx X G own cc nL) (hx : x = k) (h : (decide (k.toInt < lo) || decide (hi < k.toInt)) = false) (ho : offs[(k.toInt - lo).toNat]? = some off) (ht : (pc : Int) + off = (tgt : Int)) (hd : decode cc pc = .ok (.tableswitch dflt lo hi offs, len)) (kk : WW X G nL σ lm tgt L st) : WW X G nL σ lm pc L (.int x :: st) := by
  intro H locs ls hw hS hl
  subst hx
  rw [Bool.or_eq_false_iff, decide_eq_false_iff_not, decide_eq_false_iff_not] at h
  exact lv_tableIn hX.1 hX.2.1 hd h.1 h.2 ho ht (kk H locs ls hw hS hl)
theorem r_tswD {x : Int32} {dflt lo hi : Int} {offs : Array Int} {len : Nat} {tgt : Nat} (hX : Cx X G own cc nL) (h : x.toInt < lo ∨ hi < x.toInt) (ht : (pc : Int) + dflt = (tgt : Int)) (hd : decode cc pc = .ok (.tableswitch dflt lo hi offs, len)) (kk : WW X G nL σ lm tgt L st) : WW X G nL σ lm pc L (.int x :: st) := by
  intro H locs ls hw hS hl
  exact lv_tableOut hX.1 hX.2.1 hd h ht (kk H locs ls hw hS hl)
theorem r_lsw {x : Int32} {dflt : Int} {ps : Array (Int × Int)} {len : Nat} {off : Int} {tgt : Nat} (hX : Cx X G own cc nL) (hp : (ps.toList.zip (ps.toList.drop 1)).all (fun (a, next) => a.1 < next.1) = true) (ho : Op.lookupswitch.offset ps.toList dflt x.toInt = off) (ht : (pc : Int) + off = (tgt : Int)) (hd : decode cc pc = .ok (.lookupswitch dflt ps, len)) (kk : WW X G nL σ lm tgt L st) : WW X G nL σ lm pc L (.int x :: st) := by
  intro H locs ls hw hS hl
  exact lv_lookup hX.1 hX.2.1 hd hp ho ht (kk H locs ls hw hS hl)
/-- a method's contract: from this memory, with these arguments, it returns rv and leaves that memory -/
def wsY (y : MethodName) (b : ByteArray) (maxL : Nat) (ret : Option FieldType) : List Cond := Cond.code y b maxL ret :: gT
def QcY (G : GE) (rv : Option Value) (σ : Mm) (lm : Ml) : Array Value → State → Outcome → State → Prop := fun _ st o t => (o = .returned rv ∧ va_P (gD G) cl8 (wl G σ lm) t.heap) ∧ va_F (AA G) st t
def PcY (G : GE) (av : List Value) (σ : Mm) (lm : Ml) : Array Value → State → Prop := va_Pc av (fun U => va_P (gD G) cl8 (wl G σ lm) U.heap ∧ KF G U)
def CM (l : Launch) (G : GE) (y : MethodName) (b : ByteArray) (maxL : Nat) (ret : Option FieldType) (rm : Room) (av : List Value) (σ : Mm) (lm : Ml) (rv : Option Value) (σ2 : Mm) (lm2 : Ml) : Prop :=
  Met l y (wsY y b maxL ret) rm (PcY G av σ lm) (QcY G rv σ2 lm2) 0 0 (AA G)
def isQ (X : MX) (G : GE) (ret : Option FieldType) (rv : Option Value) (σ : Mm) (lm : Ml) : Prop :=
  X.2.2.2.2.2.2.2.2.1.sig.returnType = ret ∧ X.2.2.2.2.2.2.2.2.2.2 = MQ X.2.2.2.2.2.2.2.1 (QcY G rv σ lm) X.2.2.2.2.2.2.1 X.2.2.2.2.1 0 0 (AA G)
theorem CM.of {l : Launch} {y : MethodName} {b : ByteArray} {maxL : Nat} {ret : Option FieldType} {rm : Room} {av : List Value} {rv : Option Value} {σ2 : Mm} {lm2 : Ml} {L0 : List (Nat × Value)} {own : String} (hy : plainName y.cls = true) (ho : y.cls = own) (hsl : (lg_sl av).length ≤ maxL) (hL0 : lv_args 0 av = L0)
    (body : ∀ X : MX, X.2.1 = l → Cx X G own b maxL → rmX X = rm → isQ X G ret rv σ2 lm2 → WW X G maxL σ lm 0 L0 []) : CM l G y b maxL ret rm av σ lm rv σ2 lm2 := by
  subst ho
  refine Met.ofW (cc := b) (maxL := maxL) (ret := ret) hy rfl ?_
  intro p e s m args below meth c s₁ B hml hv
  obtain ⟨rfl, hP, hKF⟩ := hv
  have hts := atoms_spec (ws := wsY y b maxL ret) B.pre
  have hl := lv_entry av (n := maxL) hsl
  rw [hL0] at hl
  rw [lg_entry_eq]
  exact body (p, l, e, (headSpec (wsY y b maxL ret) rm).room, s, m, av.toArray, below, meth, c, MQ below (QcY G rv σ2 lm2) av.toArray s 0 0 (AA G)) rfl ⟨B.exec, B.bytes, hml, findClass_of_methodNamed B.named, fun w hw => hts w (List.mem_cons_of_mem _ hw), B.notSynchronized, hKF⟩ rfl ⟨B.returns, rfl⟩ s.heap [] _ hP va_S.rf hl
theorem r_iret {v : Int32} (hX : Cx X G own cc nL) (hQ : isQ X G (some .int) (some (.int v)) σ lm) (hd : decode cc pc = .ok (.ireturn, 1)) : WW X G nL σ lm pc L [.int v] := by
  intro H locs ls hw hS hl
  rw [hQ.2]
  exact W.iret hX.1 hX.2.1 hQ.1 (fun t ht hW => ⟨⟨rfl, by rw [ht]; exact hw⟩, hS.F ht⟩) hS.2.2 hd hX.2.2.2.2.2.1
theorem r_zret {v : Int32} (hX : Cx X G own cc nL) (hz : v = 0 ∨ v = 1) (hQ : isQ X G (some .boolean) (some (.int v)) σ lm) (hd : decode cc pc = .ok (.ireturn, 1)) : WW X G nL σ lm pc L [.int v] := by
  intro H locs ls hw hS hl
  rw [hQ.2]
  exact W.zret hX.1 hX.2.1 hQ.1 (zb_n hz) (fun t ht hW => ⟨⟨rfl, by rw [ht]; exact hw⟩, hS.F ht⟩) hS.2.2 hd hX.2.2.2.2.2.1
theorem r_lret {v : Int64} (hX : Cx X G own cc nL) (hQ : isQ X G (some .long) (some (.long v)) σ lm) (hd : decode cc pc = .ok (.lreturn, 1)) : WW X G nL σ lm pc L [.long v] := by
  intro H locs ls hw hS hl
  rw [hQ.2]
  exact W.lret hX.1 hX.2.1 hQ.1 (fun t ht hW => ⟨⟨rfl, by rw [ht]; exact hw⟩, hS.F ht⟩) hS.2.2 hd hX.2.2.2.2.2.1
theorem r_aret {a : Nat} {n : String} (hX : Cx X G own cc nL) (hQ : isQ X G (some (.object n)) (some (.ref a)) σ lm) (hd : decode cc pc = .ok (.areturn, 1)) : WW X G nL σ lm pc L [.ref a] := by
  intro H locs ls hw hS hl
  rw [hQ.2]
  exact W.aret hX.1 hX.2.1 hQ.1 (Or.inl ⟨n, rfl⟩) (Or.inr ⟨a, rfl⟩) (fun t ht hW => ⟨⟨rfl, by rw [ht]; exact hw⟩, hS.F ht⟩) hS.2.2 hd hX.2.2.2.2.2.1
theorem r_vret (hX : Cx X G own cc nL) (hQ : isQ X G none none σ lm) (hd : decode cc pc = .ok (.return_, 1)) : WW X G nL σ lm pc L [] := by
  intro H locs ls hw hS hl
  rw [hQ.2]
  exact W.vret hX.1 hX.2.1 hQ.1 (fun t ht hW => ⟨⟨rfl, by rw [ht]; exact hw⟩, hS.F ht⟩) hS.2.2 hd hX.2.2.2.2.2.1
/-- what the tables say of a method -/
def MF (y : MethodName) (b : ByteArray) (maxL : Nat) (ret : Option FieldType) (n : Nat) : Prop := Cond.code y b maxL ret ∈ gT ∧ Cond.initialized y.cls ∈ gT ∧ y.cls ≠ "java/lang/invoke/MethodHandle" ∧ y.cls ≠ "java/lang/invoke/VarHandle" ∧ (parseMethodDescriptor y.desc).map (fun d => d.parameters.length) = some n
theorem goodIn_g {ws : List Cond} (h : ∀ w ∈ ws, w ∈ gT) : GoodIn gT ws := fun w hw => ⟨h w hw, good_of_word (gT_good (h w hw))⟩
theorem wsY_in {y : MethodName} {b : ByteArray} {maxL : Nat} {ret : Option FieldType} (h : Cond.code y b maxL ret ∈ gT) : ∀ w ∈ wsY y b maxL ret, w ∈ gT := fun w hw => (List.mem_cons.mp hw).elim (fun e => by rw [e]; exact h) id
theorem pcY_blind {av : List Value} : FrameBlind (PcY G av σ lm) := fun a U g mk q => ⟨q.1, q.2.1, by
  obtain ⟨k1, k2, k3, k4⟩ := q.2.2
  exact KF.to (locs := []) ⟨k1, k2, k3, k4⟩ (State.WarmedH.refl U) va_S.rf⟩
theorem pcY_pre {H : Heap} {locs : List Loc} {s : State} {av : List Value} (hw : va_P (gD G) cl8 (wl G σ lm) H) (hS : va_S (AA G) s.heap H locs) (hK : KF G s) (U : State) (hU : U.heap = H) (hW : s.WarmedH U.vm) : PcY G av σ lm av.toArray U := ⟨rfl, by rw [hU]; exact hw, hK.to hW (by rw [hU]; exact hS)⟩
theorem ww_call {rv : Option Value} {σ2 : Mm} {lm2 : Ml} {st0 : List Value} {a : Array Value}
    (hr : ∀ (H : Heap) (locs : List Loc) (ls : Array Slot), va_P (gD G) cl8 (wl G σ lm) H → va_S (AA G) X.2.2.2.2.1.heap H locs → lv_has ls nL L → va_Run X.1 X.2.1 X.2.2.1 X.2.2.2.1 X.2.2.2.2.1 X.2.2.2.2.2.1 X.2.2.2.2.2.2.1 X.2.2.2.2.2.2.2.1 X.2.2.2.2.2.2.2.2.1 X.2.2.2.2.2.2.2.2.2.1 H locs 0 0 0 0 (F0 X.2.2.2.2.2.1 pc ls st0) st (QcY G rv σ2 lm2 a) (AA G))
    (kk : WW X G nL σ2 lm2 (pc + 3) L (rv.toList ++ st)) : WW X G nL σ lm pc L st0 := by
  intro H locs ls hw hS hl T hT XX
  obtain ⟨v, st₀, t, T', Lc, h0, X', hL, e1, e2, ⟨⟨hv, hP2⟩, hz, hk⟩, stp⟩ := hr H locs ls hw hS hl T hT XX
  cases hv
  rw [h0] at hz hk
  obtain ⟨t2, a1, b1⟩ := kk T'.heap (locs ++ Lc) ls (by rw [e1]; exact hP2) ⟨Nat.le_trans hS.1 (by rw [e1]; exact hz), fun q h1 h2 => by
      rw [e1, hk q (Nat.lt_of_lt_of_le h1 hS.1) h2]
      exact hS.2.1 q h1 h2, fun q hq => by
      rcases List.mem_append.mp hq with h | h
      · exact hS.2.2 q h
      · exact hL q h⟩ hl T' rfl X'
  exact ⟨t2, stp t2 a1, b1⟩
theorem r_callV {y : MethodName} {b : ByteArray} {maxL n index o k N : Nat} {T : u_T} {ret : Option FieldType} {rm rmc : Room} {As st0 : List Value} {σ1 σ2 σ3 : Mm} {lm2 : Ml} {rv : Option Value} (hX : Cx X G own cc nL) (hR : rmX X = rmc) (hM : CM X.2.1 G y b maxL ret rm (.ref (gA G o 0) :: As) σ1 lm rv σ2 lm2) (h1 : σ1 = σ) (h2 : σ2 = σ3) (hF : MF y b maxL ret n) (hlk : Cond.methodLink own index y ∈ gT) (hin : Cond.instanceMethod y ∈ gT) (hse : Cond.selects y.cls y y ∈ gT) (ho : kdo o = k) (hc : cl8[k]? = some (y.cls, T, N)) (hrm : rm.cells = 0 ∧ rm.slots = 0 ∧ rm.frames + 1 ≤ rmc.frames ∧ 8 + (maxL + 11) + rm.locals ≤ rmc.locals) (hn : As.length = n) (hst : st0 = As.reverse ++ .ref (gA G o 0) :: st) (hw8 : (st.map fun v => v.category).sum ≤ 8)
    (hd : decode cc pc = .ok (.invokevirtual index, 3) ∧ pc + 3 = nx) (kk : WW X G nL σ3 lm2 nx L (rv.toList ++ st)) : WW X G nL σ lm pc L st0 := by
  obtain ⟨hd, rfl⟩ := hd
  subst h1
  subst h2
  subst hR
  obtain ⟨hx, hb, hml, hown, hts, hlo, hK⟩ := hX
  refine ww_call (rv := rv) (σ2 := σ2) (lm2 := lm2) (a := (Value.ref (gA G o 0) :: As).toArray) (fun H locs ls hw hS hl => ?_) kk
  have hk8 : k < 8 := (List.getElem?_eq_some_iff.mp hc).1
  obtain ⟨q0, hq⟩ := prs_in ho hk8 (c := 0) List.mem_cons_self
  have he := wl_at (G := G) (σ := σ1) (lm := lm) hq
  rw [ho] at he
  exact va_runV (C := y.cls) (Ts := gT) ⟨hx, hb, hml, hown, hts⟩ hM (cwV n hts (goodIn_g (fun w hw => by
      unfold wsV at hw
      rcases List.mem_append.mp hw with h | h
      · simp only [List.mem_cons, List.not_mem_nil, or_false] at h
        rcases h with rfl | rfl | rfl | rfl
        · exact hlk
        · exact hin
        · exact hse
        · exact hF.2.1
      · exact wsY_in hF.1 w h)) rfl hrm.1 hrm.2.1 ⟨rfl, hF.2.2⟩ hrm.2.2) ⟨pcY_blind, va_recv hK.1 hw hc he, pcY_pre hw hS hK⟩ rfl hn hl.1 hst (lv_room hw8) hd ⟨Nat.zero_le _, Nat.zero_le _⟩
theorem r_callS {y : MethodName} {b : ByteArray} {maxL n index : Nat} {ret : Option FieldType} {rm rmc : Room} {As st0 : List Value} {σ1 σ2 σ3 : Mm} {lm2 : Ml} {rv : Option Value} (hX : Cx X G own cc nL) (hR : rmX X = rmc) (hM : CM X.2.1 G y b maxL ret rm As σ1 lm rv σ2 lm2) (h1 : σ1 = σ) (h2 : σ2 = σ3) (hF : MF y b maxL ret n) (hlk : Cond.methodLink own index y ∈ gT) (hsta : Cond.static y ∈ gT) (hrm : rm.cells = 0 ∧ rm.slots = 0 ∧ rm.frames + 1 ≤ rmc.frames ∧ 8 + (maxL + 11) + rm.locals ≤ rmc.locals) (hn : As.length = n) (hst : st0 = As.reverse ++ st) (hw8 : (st.map fun v => v.category).sum ≤ 8)
    (hd : decode cc pc = .ok (.invokestatic index, 3) ∧ pc + 3 = nx) (kk : WW X G nL σ3 lm2 nx L (rv.toList ++ st)) : WW X G nL σ lm pc L st0 := by
  obtain ⟨hd, rfl⟩ := hd
  subst h1
  subst h2
  subst hR
  obtain ⟨hx, hb, hml, hown, hts, hlo, hK⟩ := hX
  refine ww_call (rv := rv) (σ2 := σ2) (lm2 := lm2) (a := As.toArray) (fun H locs ls hw hS hl => ?_) kk
  exact va_runS (Ts := gT) ⟨hx, hb, hml, hown, hts⟩ hM ⟨callB_of n hts (goodIn_g (wsY_in hF.1)) rfl hrm.1 hrm.2.1 (hts _ hF.2.1) (hts _ hlk) hF.2.2 hrm.2.2, hts _ hsta⟩ ⟨pcY_blind, pcY_pre hw hS hK⟩ rfl hn hl.1 hst (lv_room hw8) hd ⟨Nat.zero_le _, Nat.zero_le _⟩

end Rows2
end
