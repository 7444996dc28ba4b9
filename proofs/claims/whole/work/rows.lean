section
-- ===== PART A: goes FIRST, ahead of the names: the tables' words, and 'selects' of the private methods out of them =====
/-- a private method of a class that the tables say can be made, by its rows of tables_1 -/
def lw_okq (q : MethodName × Nat) : Prop := (q.1.cls ≠ "java/lang/invoke/MethodHandle" ∧ q.1.cls ≠ "java/lang/invoke/VarHandle") ∧ Cond.instantiable q.1.cls q.2 ∈ tables_1 ∧ Cond.privateMethod q.1 ∈ tables_1 ∧ Cond.instanceMethod q.1 ∈ tables_1
theorem lw_p0 : lw_okq (⟨"WellLendsDepth", "known", "(I)Z"⟩, 14) := ⟨⟨by decide +kernel, by decide +kernel⟩, List.mem_of_getElem? (i := 16) (by decide +kernel), List.mem_of_getElem? (i := 312) (by decide +kernel), List.mem_of_getElem? (i := 313) (by decide +kernel)⟩
theorem lw_p1 : lw_okq (⟨"WellLendsDepth", "rules", "()LWellLendsDepth$Country;"⟩, 14) := ⟨⟨by decide +kernel, by decide +kernel⟩, List.mem_of_getElem? (i := 16) (by decide +kernel), List.mem_of_getElem? (i := 316) (by decide +kernel), List.mem_of_getElem? (i := 317) (by decide +kernel)⟩
theorem lw_p2 : lw_okq (⟨"WellLendsDepth$Country", "conditionHolds", "(II)Z"⟩, 11) := ⟨⟨by decide +kernel, by decide +kernel⟩, List.mem_of_getElem? (i := 142) (by decide +kernel), List.mem_of_getElem? (i := 324) (by decide +kernel), List.mem_of_getElem? (i := 325) (by decide +kernel)⟩
theorem lw_p3 : lw_okq (⟨"WellLendsDepth$Reader", "readClause", "()V"⟩, 5) := ⟨⟨by decide +kernel, by decide +kernel⟩, List.mem_of_getElem? (i := 136) (by decide +kernel), List.mem_of_getElem? (i := 406) (by decide +kernel), List.mem_of_getElem? (i := 407) (by decide +kernel)⟩
theorem lw_p4 : lw_okq (⟨"WellLendsDepth$Reader", "sign", "()I"⟩, 5) := ⟨⟨by decide +kernel, by decide +kernel⟩, List.mem_of_getElem? (i := 136) (by decide +kernel), List.mem_of_getElem? (i := 410) (by decide +kernel), List.mem_of_getElem? (i := 411) (by decide +kernel)⟩
theorem lw_p5 : lw_okq (⟨"WellLendsDepth$Reader", "expectWord", "(Ljava/lang/String;)V"⟩, 5) := ⟨⟨by decide +kernel, by decide +kernel⟩, List.mem_of_getElem? (i := 136) (by decide +kernel), List.mem_of_getElem? (i := 422) (by decide +kernel), List.mem_of_getElem? (i := 423) (by decide +kernel)⟩
theorem lw_p6 : lw_okq (⟨"WellLendsDepth$Reader", "expect", "(I)V"⟩, 5) := ⟨⟨by decide +kernel, by decide +kernel⟩, List.mem_of_getElem? (i := 136) (by decide +kernel), List.mem_of_getElem? (i := 474) (by decide +kernel), List.mem_of_getElem? (i := 475) (by decide +kernel)⟩
theorem lw_p7 : lw_okq (⟨"WellLendsDepth$Reader", "readNumber", "()I"⟩, 5) := ⟨⟨by decide +kernel, by decide +kernel⟩, List.mem_of_getElem? (i := 136) (by decide +kernel), List.mem_of_getElem? (i := 478) (by decide +kernel), List.mem_of_getElem? (i := 479) (by decide +kernel)⟩
theorem lw_p8 : lw_okq (⟨"WellLendsDepth$Reader", "readEither", "(I)V"⟩, 5) := ⟨⟨by decide +kernel, by decide +kernel⟩, List.mem_of_getElem? (i := 136) (by decide +kernel), List.mem_of_getElem? (i := 482) (by decide +kernel), List.mem_of_getElem? (i := 483) (by decide +kernel)⟩
theorem lw_p9 : lw_okq (⟨"WellLendsDepth$Reader", "readPart", "(I)V"⟩, 5) := ⟨⟨by decide +kernel, by decide +kernel⟩, List.mem_of_getElem? (i := 136) (by decide +kernel), List.mem_of_getElem? (i := 486) (by decide +kernel), List.mem_of_getElem? (i := 487) (by decide +kernel)⟩
theorem lw_p10 : lw_okq (⟨"WellLendsDepth$Reader", "readTest", "()V"⟩, 5) := ⟨⟨by decide +kernel, by decide +kernel⟩, List.mem_of_getElem? (i := 136) (by decide +kernel), List.mem_of_getElem? (i := 494) (by decide +kernel), List.mem_of_getElem? (i := 495) (by decide +kernel)⟩
theorem lw_p11 : lw_okq (⟨"WellLendsDepth$Well", "keepOn", "(ILWellLendsDepth$Country;)V"⟩, 14) := ⟨⟨by decide +kernel, by decide +kernel⟩, List.mem_of_getElem? (i := 24) (by decide +kernel), List.mem_of_getElem? (i := 527) (by decide +kernel), List.mem_of_getElem? (i := 528) (by decide +kernel)⟩
theorem lw_p12 : lw_okq (⟨"WellLendsDepth$Well", "comeAsking", "(III)V"⟩, 14) := ⟨⟨by decide +kernel, by decide +kernel⟩, List.mem_of_getElem? (i := 24) (by decide +kernel), List.mem_of_getElem? (i := 536) (by decide +kernel), List.mem_of_getElem? (i := 537) (by decide +kernel)⟩
theorem lw_p13 : lw_okq (⟨"WellLendsDepth", "startTrial", "()V"⟩, 14) := ⟨⟨by decide +kernel, by decide +kernel⟩, List.mem_of_getElem? (i := 16) (by decide +kernel), List.mem_of_getElem? (i := 545) (by decide +kernel), List.mem_of_getElem? (i := 546) (by decide +kernel)⟩
theorem lw_p14 : lw_okq (⟨"WellLendsDepth", "goTrial", "(I)V"⟩, 14) := ⟨⟨by decide +kernel, by decide +kernel⟩, List.mem_of_getElem? (i := 16) (by decide +kernel), List.mem_of_getElem? (i := 556) (by decide +kernel), List.mem_of_getElem? (i := 557) (by decide +kernel)⟩
theorem lw_p15 : lw_okq (⟨"WellLendsDepth", "whomToCall", "()I"⟩, 14) := ⟨⟨by decide +kernel, by decide +kernel⟩, List.mem_of_getElem? (i := 16) (by decide +kernel), List.mem_of_getElem? (i := 572) (by decide +kernel), List.mem_of_getElem? (i := 573) (by decide +kernel)⟩
def lw_privs_1 : List (MethodName × Nat) := [(⟨"WellLendsDepth", "known", "(I)Z"⟩, 14), (⟨"WellLendsDepth", "rules", "()LWellLendsDepth$Country;"⟩, 14), (⟨"WellLendsDepth$Country", "conditionHolds", "(II)Z"⟩, 11), (⟨"WellLendsDepth$Reader", "readClause", "()V"⟩, 5), (⟨"WellLendsDepth$Reader", "sign", "()I"⟩, 5), (⟨"WellLendsDepth$Reader", "expectWord", "(Ljava/lang/String;)V"⟩, 5), (⟨"WellLendsDepth$Reader", "expect", "(I)V"⟩, 5), (⟨"WellLendsDepth$Reader", "readNumber", "()I"⟩, 5), (⟨"WellLendsDepth$Reader", "readEither", "(I)V"⟩, 5), (⟨"WellLendsDepth$Reader", "readPart", "(I)V"⟩, 5), (⟨"WellLendsDepth$Reader", "readTest", "()V"⟩, 5), (⟨"WellLendsDepth$Well", "keepOn", "(ILWellLendsDepth$Country;)V"⟩, 14), (⟨"WellLendsDepth$Well", "comeAsking", "(III)V"⟩, 14), (⟨"WellLendsDepth", "startTrial", "()V"⟩, 14), (⟨"WellLendsDepth", "goTrial", "(I)V"⟩, 14), (⟨"WellLendsDepth", "whomToCall", "()I"⟩, 14)]
theorem lw_r1 : ∀ q ∈ lw_privs_1, lw_okq q := List.forall_mem_cons.mpr ⟨lw_p0, List.forall_mem_cons.mpr ⟨lw_p1, List.forall_mem_cons.mpr ⟨lw_p2, List.forall_mem_cons.mpr ⟨lw_p3, List.forall_mem_cons.mpr ⟨lw_p4, List.forall_mem_cons.mpr ⟨lw_p5, List.forall_mem_cons.mpr ⟨lw_p6, List.forall_mem_cons.mpr ⟨lw_p7, List.forall_mem_cons.mpr ⟨lw_p8, List.forall_mem_cons.mpr ⟨lw_p9, List.forall_mem_cons.mpr ⟨lw_p10, List.forall_mem_cons.mpr ⟨lw_p11, List.forall_mem_cons.mpr ⟨lw_p12, List.forall_mem_cons.mpr ⟨lw_p13, List.forall_mem_cons.mpr ⟨lw_p14, List.forall_mem_cons.mpr ⟨lw_p15, fun _ h => absurd h List.not_mem_nil⟩⟩⟩⟩⟩⟩⟩⟩⟩⟩⟩⟩⟩⟩⟩⟩
theorem lw_p16 : lw_okq (⟨"WellLendsDepth", "turnedOfTrial", "(I)I"⟩, 14) := ⟨⟨by decide +kernel, by decide +kernel⟩, List.mem_of_getElem? (i := 16) (by decide +kernel), List.mem_of_getElem? (i := 576) (by decide +kernel), List.mem_of_getElem? (i := 577) (by decide +kernel)⟩
theorem lw_p17 : lw_okq (⟨"WellLendsDepth", "whoComesAhead", "()I"⟩, 14) := ⟨⟨by decide +kernel, by decide +kernel⟩, List.mem_of_getElem? (i := 16) (by decide +kernel), List.mem_of_getElem? (i := 580) (by decide +kernel), List.mem_of_getElem? (i := 581) (by decide +kernel)⟩
theorem lw_p18 : lw_okq (⟨"WellLendsDepth", "bestMark", "()I"⟩, 14) := ⟨⟨by decide +kernel, by decide +kernel⟩, List.mem_of_getElem? (i := 16) (by decide +kernel), List.mem_of_getElem? (i := 584) (by decide +kernel), List.mem_of_getElem? (i := 585) (by decide +kernel)⟩
theorem lw_p19 : lw_okq (⟨"WellLendsDepth", "turnedAsAllIs", "()I"⟩, 14) := ⟨⟨by decide +kernel, by decide +kernel⟩, List.mem_of_getElem? (i := 16) (by decide +kernel), List.mem_of_getElem? (i := 588) (by decide +kernel), List.mem_of_getElem? (i := 589) (by decide +kernel)⟩
theorem lw_p20 : lw_okq (⟨"WellLendsDepth", "nobodySentIn", "(II)Z"⟩, 14) := ⟨⟨by decide +kernel, by decide +kernel⟩, List.mem_of_getElem? (i := 16) (by decide +kernel), List.mem_of_getElem? (i := 601) (by decide +kernel), List.mem_of_getElem? (i := 602) (by decide +kernel)⟩
theorem lw_p21 : lw_okq (⟨"WellLendsDepth", "trialShowsAllSeen", "()Z"⟩, 14) := ⟨⟨by decide +kernel, by decide +kernel⟩, List.mem_of_getElem? (i := 16) (by decide +kernel), List.mem_of_getElem? (i := 617) (by decide +kernel), List.mem_of_getElem? (i := 618) (by decide +kernel)⟩
theorem lw_p22 : lw_okq (⟨"WellLendsDepth", "goYearRow", "(II)V"⟩, 14) := ⟨⟨by decide +kernel, by decide +kernel⟩, List.mem_of_getElem? (i := 16) (by decide +kernel), List.mem_of_getElem? (i := 661) (by decide +kernel), List.mem_of_getElem? (i := 662) (by decide +kernel)⟩
theorem lw_p23 : lw_okq (⟨"WellLendsDepth$Actor", "from", "(IIII)I"⟩, 5) := ⟨⟨by decide +kernel, by decide +kernel⟩, List.mem_of_getElem? (i := 210) (by decide +kernel), List.mem_of_getElem? (i := 720) (by decide +kernel), List.mem_of_getElem? (i := 721) (by decide +kernel)⟩
theorem lw_p24 : lw_okq (⟨"WellLendsDepth$Actor", "run", "(IIII)I"⟩, 5) := ⟨⟨by decide +kernel, by decide +kernel⟩, List.mem_of_getElem? (i := 210) (by decide +kernel), List.mem_of_getElem? (i := 728) (by decide +kernel), List.mem_of_getElem? (i := 729) (by decide +kernel)⟩
theorem lw_p25 : lw_okq (⟨"WellLendsDepthModel", "in", "(III)Z"⟩, 83) := ⟨⟨by decide +kernel, by decide +kernel⟩, List.mem_of_getElem? (i := 780) (by decide +kernel), List.mem_of_getElem? (i := 1041) (by decide +kernel), List.mem_of_getElem? (i := 1042) (by decide +kernel)⟩
theorem lw_p26 : lw_okq (⟨"WellLendsDepthModel", "isWants", "(I)Z"⟩, 83) := ⟨⟨by decide +kernel, by decide +kernel⟩, List.mem_of_getElem? (i := 780) (by decide +kernel), List.mem_of_getElem? (i := 1045) (by decide +kernel), List.mem_of_getElem? (i := 1046) (by decide +kernel)⟩
theorem lw_p27 : lw_okq (⟨"WellLendsDepthModel", "isEvery", "(I)Z"⟩, 83) := ⟨⟨by decide +kernel, by decide +kernel⟩, List.mem_of_getElem? (i := 780) (by decide +kernel), List.mem_of_getElem? (i := 1049) (by decide +kernel), List.mem_of_getElem? (i := 1050) (by decide +kernel)⟩
theorem lw_p28 : lw_okq (⟨"WellLendsDepthModel", "isBorrower", "(I)Z"⟩, 83) := ⟨⟨by decide +kernel, by decide +kernel⟩, List.mem_of_getElem? (i := 780) (by decide +kernel), List.mem_of_getElem? (i := 1057) (by decide +kernel), List.mem_of_getElem? (i := 1058) (by decide +kernel)⟩
theorem lw_p29 : lw_okq (⟨"WellLendsDepthModel", "isDepth", "(I)Z"⟩, 83) := ⟨⟨by decide +kernel, by decide +kernel⟩, List.mem_of_getElem? (i := 780) (by decide +kernel), List.mem_of_getElem? (i := 1069) (by decide +kernel), List.mem_of_getElem? (i := 1070) (by decide +kernel)⟩
theorem lw_p30 : lw_okq (⟨"WellLendsDepthModel", "changes", "(II)V"⟩, 83) := ⟨⟨by decide +kernel, by decide +kernel⟩, List.mem_of_getElem? (i := 780) (by decide +kernel), List.mem_of_getElem? (i := 1077) (by decide +kernel), List.mem_of_getElem? (i := 1078) (by decide +kernel)⟩
theorem lw_p31 : lw_okq (⟨"WellLendsDepthModel", "calls", "(I)V"⟩, 83) := ⟨⟨by decide +kernel, by decide +kernel⟩, List.mem_of_getElem? (i := 780) (by decide +kernel), List.mem_of_getElem? (i := 1085) (by decide +kernel), List.mem_of_getElem? (i := 1086) (by decide +kernel)⟩
def lw_privs_2 : List (MethodName × Nat) := [(⟨"WellLendsDepth", "turnedOfTrial", "(I)I"⟩, 14), (⟨"WellLendsDepth", "whoComesAhead", "()I"⟩, 14), (⟨"WellLendsDepth", "bestMark", "()I"⟩, 14), (⟨"WellLendsDepth", "turnedAsAllIs", "()I"⟩, 14), (⟨"WellLendsDepth", "nobodySentIn", "(II)Z"⟩, 14), (⟨"WellLendsDepth", "trialShowsAllSeen", "()Z"⟩, 14), (⟨"WellLendsDepth", "goYearRow", "(II)V"⟩, 14), (⟨"WellLendsDepth$Actor", "from", "(IIII)I"⟩, 5), (⟨"WellLendsDepth$Actor", "run", "(IIII)I"⟩, 5), (⟨"WellLendsDepthModel", "in", "(III)Z"⟩, 83), (⟨"WellLendsDepthModel", "isWants", "(I)Z"⟩, 83), (⟨"WellLendsDepthModel", "isEvery", "(I)Z"⟩, 83), (⟨"WellLendsDepthModel", "isBorrower", "(I)Z"⟩, 83), (⟨"WellLendsDepthModel", "isDepth", "(I)Z"⟩, 83), (⟨"WellLendsDepthModel", "changes", "(II)V"⟩, 83), (⟨"WellLendsDepthModel", "calls", "(I)V"⟩, 83)]
theorem lw_r2 : ∀ q ∈ lw_privs_2, lw_okq q := List.forall_mem_cons.mpr ⟨lw_p16, List.forall_mem_cons.mpr ⟨lw_p17, List.forall_mem_cons.mpr ⟨lw_p18, List.forall_mem_cons.mpr ⟨lw_p19, List.forall_mem_cons.mpr ⟨lw_p20, List.forall_mem_cons.mpr ⟨lw_p21, List.forall_mem_cons.mpr ⟨lw_p22, List.forall_mem_cons.mpr ⟨lw_p23, List.forall_mem_cons.mpr ⟨lw_p24, List.forall_mem_cons.mpr ⟨lw_p25, List.forall_mem_cons.mpr ⟨lw_p26, List.forall_mem_cons.mpr ⟨lw_p27, List.forall_mem_cons.mpr ⟨lw_p28, List.forall_mem_cons.mpr ⟨lw_p29, List.forall_mem_cons.mpr ⟨lw_p30, List.forall_mem_cons.mpr ⟨lw_p31, fun _ h => absurd h List.not_mem_nil⟩⟩⟩⟩⟩⟩⟩⟩⟩⟩⟩⟩⟩⟩⟩⟩
theorem lw_p32 : lw_okq (⟨"WellLendsDepthModel", "held", "(II)I"⟩, 83) := ⟨⟨by decide +kernel, by decide +kernel⟩, List.mem_of_getElem? (i := 780) (by decide +kernel), List.mem_of_getElem? (i := 1089) (by decide +kernel), List.mem_of_getElem? (i := 1090) (by decide +kernel)⟩
theorem lw_p33 : lw_okq (⟨"WellLendsDepthModel", "goesText", "(I)Z"⟩, 83) := ⟨⟨by decide +kernel, by decide +kernel⟩, List.mem_of_getElem? (i := 780) (by decide +kernel), List.mem_of_getElem? (i := 1101) (by decide +kernel), List.mem_of_getElem? (i := 1102) (by decide +kernel)⟩
theorem lw_p34 : lw_okq (⟨"WellLendsDepthModel", "takesClause", "(I)Z"⟩, 83) := ⟨⟨by decide +kernel, by decide +kernel⟩, List.mem_of_getElem? (i := 780) (by decide +kernel), List.mem_of_getElem? (i := 1105) (by decide +kernel), List.mem_of_getElem? (i := 1106) (by decide +kernel)⟩
theorem lw_p35 : lw_okq (⟨"WellLendsDepthModel", "takesHead", "(I)Z"⟩, 83) := ⟨⟨by decide +kernel, by decide +kernel⟩, List.mem_of_getElem? (i := 780) (by decide +kernel), List.mem_of_getElem? (i := 1109) (by decide +kernel), List.mem_of_getElem? (i := 1110) (by decide +kernel)⟩
theorem lw_p36 : lw_okq (⟨"WellLendsDepthModel", "next", "()I"⟩, 83) := ⟨⟨by decide +kernel, by decide +kernel⟩, List.mem_of_getElem? (i := 780) (by decide +kernel), List.mem_of_getElem? (i := 1113) (by decide +kernel), List.mem_of_getElem? (i := 1114) (by decide +kernel)⟩
theorem lw_p37 : lw_okq (⟨"WellLendsDepthModel", "takesWord", "(II)Z"⟩, 83) := ⟨⟨by decide +kernel, by decide +kernel⟩, List.mem_of_getElem? (i := 780) (by decide +kernel), List.mem_of_getElem? (i := 1117) (by decide +kernel), List.mem_of_getElem? (i := 1118) (by decide +kernel)⟩
theorem lw_p38 : lw_okq (⟨"WellLendsDepthModel", "takes", "(I)Z"⟩, 83) := ⟨⟨by decide +kernel, by decide +kernel⟩, List.mem_of_getElem? (i := 780) (by decide +kernel), List.mem_of_getElem? (i := 1121) (by decide +kernel), List.mem_of_getElem? (i := 1122) (by decide +kernel)⟩
theorem lw_p39 : lw_okq (⟨"WellLendsDepthModel", "takesNumber", "()Z"⟩, 83) := ⟨⟨by decide +kernel, by decide +kernel⟩, List.mem_of_getElem? (i := 780) (by decide +kernel), List.mem_of_getElem? (i := 1125) (by decide +kernel), List.mem_of_getElem? (i := 1126) (by decide +kernel)⟩
theorem lw_p40 : lw_okq (⟨"WellLendsDepthModel", "isDigit", "()Z"⟩, 83) := ⟨⟨by decide +kernel, by decide +kernel⟩, List.mem_of_getElem? (i := 780) (by decide +kernel), List.mem_of_getElem? (i := 1129) (by decide +kernel), List.mem_of_getElem? (i := 1130) (by decide +kernel)⟩
theorem lw_p41 : lw_okq (⟨"WellLendsDepthModel", "takesE", "(I)Z"⟩, 83) := ⟨⟨by decide +kernel, by decide +kernel⟩, List.mem_of_getElem? (i := 780) (by decide +kernel), List.mem_of_getElem? (i := 1133) (by decide +kernel), List.mem_of_getElem? (i := 1134) (by decide +kernel)⟩
theorem lw_p42 : lw_okq (⟨"WellLendsDepthModel", "takesTest", "()Z"⟩, 83) := ⟨⟨by decide +kernel, by decide +kernel⟩, List.mem_of_getElem? (i := 780) (by decide +kernel), List.mem_of_getElem? (i := 1137) (by decide +kernel), List.mem_of_getElem? (i := 1138) (by decide +kernel)⟩
theorem lw_p43 : lw_okq (⟨"WellLendsDepthModel", "place", "(I)I"⟩, 83) := ⟨⟨by decide +kernel, by decide +kernel⟩, List.mem_of_getElem? (i := 780) (by decide +kernel), List.mem_of_getElem? (i := 1141) (by decide +kernel), List.mem_of_getElem? (i := 1142) (by decide +kernel)⟩
theorem lw_p44 : lw_okq (⟨"WellLendsDepthModel", "emits", "(I)V"⟩, 83) := ⟨⟨by decide +kernel, by decide +kernel⟩, List.mem_of_getElem? (i := 780) (by decide +kernel), List.mem_of_getElem? (i := 1145) (by decide +kernel), List.mem_of_getElem? (i := 1146) (by decide +kernel)⟩
theorem lw_p45 : lw_okq (⟨"WellLendsDepthModel", "whole", "()V"⟩, 83) := ⟨⟨by decide +kernel, by decide +kernel⟩, List.mem_of_getElem? (i := 780) (by decide +kernel), List.mem_of_getElem? (i := 1149) (by decide +kernel), List.mem_of_getElem? (i := 1150) (by decide +kernel)⟩
theorem lw_p46 : lw_okq (⟨"WellLendsDepthModel", "settle", "(I)V"⟩, 83) := ⟨⟨by decide +kernel, by decide +kernel⟩, List.mem_of_getElem? (i := 780) (by decide +kernel), List.mem_of_getElem? (i := 1153) (by decide +kernel), List.mem_of_getElem? (i := 1154) (by decide +kernel)⟩
theorem lw_p47 : lw_okq (⟨"WellLendsDepthModel", "rate", "(I)I"⟩, 83) := ⟨⟨by decide +kernel, by decide +kernel⟩, List.mem_of_getElem? (i := 780) (by decide +kernel), List.mem_of_getElem? (i := 1161) (by decide +kernel), List.mem_of_getElem? (i := 1162) (by decide +kernel)⟩
def lw_privs_3 : List (MethodName × Nat) := [(⟨"WellLendsDepthModel", "held", "(II)I"⟩, 83), (⟨"WellLendsDepthModel", "goesText", "(I)Z"⟩, 83), (⟨"WellLendsDepthModel", "takesClause", "(I)Z"⟩, 83), (⟨"WellLendsDepthModel", "takesHead", "(I)Z"⟩, 83), (⟨"WellLendsDepthModel", "next", "()I"⟩, 83), (⟨"WellLendsDepthModel", "takesWord", "(II)Z"⟩, 83), (⟨"WellLendsDepthModel", "takes", "(I)Z"⟩, 83), (⟨"WellLendsDepthModel", "takesNumber", "()Z"⟩, 83), (⟨"WellLendsDepthModel", "isDigit", "()Z"⟩, 83), (⟨"WellLendsDepthModel", "takesE", "(I)Z"⟩, 83), (⟨"WellLendsDepthModel", "takesTest", "()Z"⟩, 83), (⟨"WellLendsDepthModel", "place", "(I)I"⟩, 83), (⟨"WellLendsDepthModel", "emits", "(I)V"⟩, 83), (⟨"WellLendsDepthModel", "whole", "()V"⟩, 83), (⟨"WellLendsDepthModel", "settle", "(I)V"⟩, 83), (⟨"WellLendsDepthModel", "rate", "(I)I"⟩, 83)]
theorem lw_r3 : ∀ q ∈ lw_privs_3, lw_okq q := List.forall_mem_cons.mpr ⟨lw_p32, List.forall_mem_cons.mpr ⟨lw_p33, List.forall_mem_cons.mpr ⟨lw_p34, List.forall_mem_cons.mpr ⟨lw_p35, List.forall_mem_cons.mpr ⟨lw_p36, List.forall_mem_cons.mpr ⟨lw_p37, List.forall_mem_cons.mpr ⟨lw_p38, List.forall_mem_cons.mpr ⟨lw_p39, List.forall_mem_cons.mpr ⟨lw_p40, List.forall_mem_cons.mpr ⟨lw_p41, List.forall_mem_cons.mpr ⟨lw_p42, List.forall_mem_cons.mpr ⟨lw_p43, List.forall_mem_cons.mpr ⟨lw_p44, List.forall_mem_cons.mpr ⟨lw_p45, List.forall_mem_cons.mpr ⟨lw_p46, List.forall_mem_cons.mpr ⟨lw_p47, fun _ h => absurd h List.not_mem_nil⟩⟩⟩⟩⟩⟩⟩⟩⟩⟩⟩⟩⟩⟩⟩⟩
theorem lw_p48 : lw_okq (⟨"WellLendsDepthModel", "begin", "()I"⟩, 83) := ⟨⟨by decide +kernel, by decide +kernel⟩, List.mem_of_getElem? (i := 780) (by decide +kernel), List.mem_of_getElem? (i := 1165) (by decide +kernel), List.mem_of_getElem? (i := 1166) (by decide +kernel)⟩
theorem lw_p49 : lw_okq (⟨"WellLendsDepthModel", "behind", "()I"⟩, 83) := ⟨⟨by decide +kernel, by decide +kernel⟩, List.mem_of_getElem? (i := 780) (by decide +kernel), List.mem_of_getElem? (i := 1169) (by decide +kernel), List.mem_of_getElem? (i := 1170) (by decide +kernel)⟩
theorem lw_p50 : lw_okq (⟨"WellLendsDepthModel", "holds", "(II)Z"⟩, 83) := ⟨⟨by decide +kernel, by decide +kernel⟩, List.mem_of_getElem? (i := 780) (by decide +kernel), List.mem_of_getElem? (i := 1173) (by decide +kernel), List.mem_of_getElem? (i := 1174) (by decide +kernel)⟩
theorem lw_p51 : lw_okq (⟨"WellLendsDepthModel", "factOf", "(II)I"⟩, 83) := ⟨⟨by decide +kernel, by decide +kernel⟩, List.mem_of_getElem? (i := 780) (by decide +kernel), List.mem_of_getElem? (i := 1177) (by decide +kernel), List.mem_of_getElem? (i := 1178) (by decide +kernel)⟩
theorem lw_p52 : lw_okq (⟨"WellLendsDepthModel", "asks", "(I)I"⟩, 83) := ⟨⟨by decide +kernel, by decide +kernel⟩, List.mem_of_getElem? (i := 780) (by decide +kernel), List.mem_of_getElem? (i := 1181) (by decide +kernel), List.mem_of_getElem? (i := 1182) (by decide +kernel)⟩
theorem lw_p53 : lw_okq (⟨"WellLendsDepthModel", "mark", "()I"⟩, 83) := ⟨⟨by decide +kernel, by decide +kernel⟩, List.mem_of_getElem? (i := 780) (by decide +kernel), List.mem_of_getElem? (i := 1185) (by decide +kernel), List.mem_of_getElem? (i := 1186) (by decide +kernel)⟩
theorem lw_p54 : lw_okq (⟨"WellLendsDepthModel", "lastOf", "(II)I"⟩, 83) := ⟨⟨by decide +kernel, by decide +kernel⟩, List.mem_of_getElem? (i := 780) (by decide +kernel), List.mem_of_getElem? (i := 1189) (by decide +kernel), List.mem_of_getElem? (i := 1190) (by decide +kernel)⟩
theorem lw_p55 : lw_okq (⟨"WellLendsDepthModel", "keeps", "(I)I"⟩, 83) := ⟨⟨by decide +kernel, by decide +kernel⟩, List.mem_of_getElem? (i := 780) (by decide +kernel), List.mem_of_getElem? (i := 1193) (by decide +kernel), List.mem_of_getElem? (i := 1194) (by decide +kernel)⟩
theorem lw_p56 : lw_okq (⟨"WellLendsDepthModel", "staysAway", "(I)Z"⟩, 83) := ⟨⟨by decide +kernel, by decide +kernel⟩, List.mem_of_getElem? (i := 780) (by decide +kernel), List.mem_of_getElem? (i := 1197) (by decide +kernel), List.mem_of_getElem? (i := 1198) (by decide +kernel)⟩
theorem lw_p57 : lw_okq (⟨"WellLendsDepthModel", "brings", "(I)I"⟩, 83) := ⟨⟨by decide +kernel, by decide +kernel⟩, List.mem_of_getElem? (i := 780) (by decide +kernel), List.mem_of_getElem? (i := 1201) (by decide +kernel), List.mem_of_getElem? (i := 1202) (by decide +kernel)⟩
theorem lw_p58 : lw_okq (⟨"WellLendsDepthModel", "allOwes", "()I"⟩, 83) := ⟨⟨by decide +kernel, by decide +kernel⟩, List.mem_of_getElem? (i := 780) (by decide +kernel), List.mem_of_getElem? (i := 1209) (by decide +kernel), List.mem_of_getElem? (i := 1210) (by decide +kernel)⟩
theorem lw_p59 : lw_okq (⟨"WellLendsDepthModel", "isDays", "(I)Z"⟩, 83) := ⟨⟨by decide +kernel, by decide +kernel⟩, List.mem_of_getElem? (i := 780) (by decide +kernel), List.mem_of_getElem? (i := 1217) (by decide +kernel), List.mem_of_getElem? (i := 1218) (by decide +kernel)⟩
theorem lw_p60 : lw_okq (⟨"WellLendsDepthModel", "goDays", "(I)V"⟩, 83) := ⟨⟨by decide +kernel, by decide +kernel⟩, List.mem_of_getElem? (i := 780) (by decide +kernel), List.mem_of_getElem? (i := 1221) (by decide +kernel), List.mem_of_getElem? (i := 1222) (by decide +kernel)⟩
theorem lw_p61 : lw_okq (⟨"WellLendsDepthModel", "goDay", "()V"⟩, 83) := ⟨⟨by decide +kernel, by decide +kernel⟩, List.mem_of_getElem? (i := 780) (by decide +kernel), List.mem_of_getElem? (i := 1225) (by decide +kernel), List.mem_of_getElem? (i := 1226) (by decide +kernel)⟩
theorem lw_p62 : lw_okq (⟨"WellLendsDepthModel", "goHaving", "(I)V"⟩, 83) := ⟨⟨by decide +kernel, by decide +kernel⟩, List.mem_of_getElem? (i := 780) (by decide +kernel), List.mem_of_getElem? (i := 1229) (by decide +kernel), List.mem_of_getElem? (i := 1230) (by decide +kernel)⟩
theorem lw_p63 : lw_okq (⟨"WellLendsDepthModel", "goAsking", "(I)V"⟩, 83) := ⟨⟨by decide +kernel, by decide +kernel⟩, List.mem_of_getElem? (i := 780) (by decide +kernel), List.mem_of_getElem? (i := 1234) (by decide +kernel), List.mem_of_getElem? (i := 1235) (by decide +kernel)⟩
def lw_privs_4 : List (MethodName × Nat) := [(⟨"WellLendsDepthModel", "begin", "()I"⟩, 83), (⟨"WellLendsDepthModel", "behind", "()I"⟩, 83), (⟨"WellLendsDepthModel", "holds", "(II)Z"⟩, 83), (⟨"WellLendsDepthModel", "factOf", "(II)I"⟩, 83), (⟨"WellLendsDepthModel", "asks", "(I)I"⟩, 83), (⟨"WellLendsDepthModel", "mark", "()I"⟩, 83), (⟨"WellLendsDepthModel", "lastOf", "(II)I"⟩, 83), (⟨"WellLendsDepthModel", "keeps", "(I)I"⟩, 83), (⟨"WellLendsDepthModel", "staysAway", "(I)Z"⟩, 83), (⟨"WellLendsDepthModel", "brings", "(I)I"⟩, 83), (⟨"WellLendsDepthModel", "allOwes", "()I"⟩, 83), (⟨"WellLendsDepthModel", "isDays", "(I)Z"⟩, 83), (⟨"WellLendsDepthModel", "goDays", "(I)V"⟩, 83), (⟨"WellLendsDepthModel", "goDay", "()V"⟩, 83), (⟨"WellLendsDepthModel", "goHaving", "(I)V"⟩, 83), (⟨"WellLendsDepthModel", "goAsking", "(I)V"⟩, 83)]
theorem lw_r4 : ∀ q ∈ lw_privs_4, lw_okq q := List.forall_mem_cons.mpr ⟨lw_p48, List.forall_mem_cons.mpr ⟨lw_p49, List.forall_mem_cons.mpr ⟨lw_p50, List.forall_mem_cons.mpr ⟨lw_p51, List.forall_mem_cons.mpr ⟨lw_p52, List.forall_mem_cons.mpr ⟨lw_p53, List.forall_mem_cons.mpr ⟨lw_p54, List.forall_mem_cons.mpr ⟨lw_p55, List.forall_mem_cons.mpr ⟨lw_p56, List.forall_mem_cons.mpr ⟨lw_p57, List.forall_mem_cons.mpr ⟨lw_p58, List.forall_mem_cons.mpr ⟨lw_p59, List.forall_mem_cons.mpr ⟨lw_p60, List.forall_mem_cons.mpr ⟨lw_p61, List.forall_mem_cons.mpr ⟨lw_p62, List.forall_mem_cons.mpr ⟨lw_p63, fun _ h => absurd h List.not_mem_nil⟩⟩⟩⟩⟩⟩⟩⟩⟩⟩⟩⟩⟩⟩⟩⟩
theorem lw_p64 : lw_okq (⟨"WellLendsDepthModel", "save", "()V"⟩, 83) := ⟨⟨by decide +kernel, by decide +kernel⟩, List.mem_of_getElem? (i := 780) (by decide +kernel), List.mem_of_getElem? (i := 1242) (by decide +kernel), List.mem_of_getElem? (i := 1243) (by decide +kernel)⟩
theorem lw_p65 : lw_okq (⟨"WellLendsDepthModel", "putBack", "()V"⟩, 83) := ⟨⟨by decide +kernel, by decide +kernel⟩, List.mem_of_getElem? (i := 780) (by decide +kernel), List.mem_of_getElem? (i := 1247) (by decide +kernel), List.mem_of_getElem? (i := 1248) (by decide +kernel)⟩
theorem lw_p66 : lw_okq (⟨"WellLendsDepthModel", "callOf", "()I"⟩, 83) := ⟨⟨by decide +kernel, by decide +kernel⟩, List.mem_of_getElem? (i := 780) (by decide +kernel), List.mem_of_getElem? (i := 1263) (by decide +kernel), List.mem_of_getElem? (i := 1264) (by decide +kernel)⟩
theorem lw_p67 : lw_okq (⟨"WellLendsDepthModel", "turned", "()I"⟩, 83) := ⟨⟨by decide +kernel, by decide +kernel⟩, List.mem_of_getElem? (i := 780) (by decide +kernel), List.mem_of_getElem? (i := 1267) (by decide +kernel), List.mem_of_getElem? (i := 1268) (by decide +kernel)⟩
theorem lw_p68 : lw_okq (⟨"WellLendsDepthModel", "turnedThen", "()I"⟩, 83) := ⟨⟨by decide +kernel, by decide +kernel⟩, List.mem_of_getElem? (i := 780) (by decide +kernel), List.mem_of_getElem? (i := 1271) (by decide +kernel), List.mem_of_getElem? (i := 1272) (by decide +kernel)⟩
theorem lw_p69 : lw_okq (⟨"WellLendsDepthModel", "aheadOf", "()I"⟩, 83) := ⟨⟨by decide +kernel, by decide +kernel⟩, List.mem_of_getElem? (i := 780) (by decide +kernel), List.mem_of_getElem? (i := 1275) (by decide +kernel), List.mem_of_getElem? (i := 1276) (by decide +kernel)⟩
theorem lw_p70 : lw_okq (⟨"WellLendsDepthModel", "markOf", "()I"⟩, 83) := ⟨⟨by decide +kernel, by decide +kernel⟩, List.mem_of_getElem? (i := 780) (by decide +kernel), List.mem_of_getElem? (i := 1279) (by decide +kernel), List.mem_of_getElem? (i := 1280) (by decide +kernel)⟩
theorem lw_p71 : lw_okq (⟨"WellLendsDepthModel", "isSeen", "()Z"⟩, 83) := ⟨⟨by decide +kernel, by decide +kernel⟩, List.mem_of_getElem? (i := 780) (by decide +kernel), List.mem_of_getElem? (i := 1299) (by decide +kernel), List.mem_of_getElem? (i := 1300) (by decide +kernel)⟩
theorem lw_p72 : lw_okq (⟨"WellLendsDepthModel", "lowest", "(III)J"⟩, 83) := ⟨⟨by decide +kernel, by decide +kernel⟩, List.mem_of_getElem? (i := 780) (by decide +kernel), List.mem_of_getElem? (i := 1312) (by decide +kernel), List.mem_of_getElem? (i := 1313) (by decide +kernel)⟩
theorem lw_p73 : lw_okq (⟨"WellLendsDepthModel", "divisor", "(II)I"⟩, 83) := ⟨⟨by decide +kernel, by decide +kernel⟩, List.mem_of_getElem? (i := 780) (by decide +kernel), List.mem_of_getElem? (i := 1316) (by decide +kernel), List.mem_of_getElem? (i := 1317) (by decide +kernel)⟩
theorem lw_p74 : lw_okq (⟨"WellLendsDepthModel", "isTape", "(I)Z"⟩, 83) := ⟨⟨by decide +kernel, by decide +kernel⟩, List.mem_of_getElem? (i := 780) (by decide +kernel), List.mem_of_getElem? (i := 1344) (by decide +kernel), List.mem_of_getElem? (i := 1345) (by decide +kernel)⟩
theorem lw_p75 : lw_okq (⟨"WellLendsDepthModel", "sinksAct", "(II)I"⟩, 83) := ⟨⟨by decide +kernel, by decide +kernel⟩, List.mem_of_getElem? (i := 780) (by decide +kernel), List.mem_of_getElem? (i := 1360) (by decide +kernel), List.mem_of_getElem? (i := 1361) (by decide +kernel)⟩
theorem lw_p76 : lw_okq (⟨"WellLendsDepthModel", "body", "(I)V"⟩, 83) := ⟨⟨by decide +kernel, by decide +kernel⟩, List.mem_of_getElem? (i := 780) (by decide +kernel), List.mem_of_getElem? (i := 1364) (by decide +kernel), List.mem_of_getElem? (i := 1365) (by decide +kernel)⟩
theorem lw_p77 : lw_okq (⟨"WellLendsDepthModel", "borrowerSinks", "(II)I"⟩, 83) := ⟨⟨by decide +kernel, by decide +kernel⟩, List.mem_of_getElem? (i := 780) (by decide +kernel), List.mem_of_getElem? (i := 1368) (by decide +kernel), List.mem_of_getElem? (i := 1369) (by decide +kernel)⟩
theorem lw_p78 : lw_okq (⟨"WellLendsDepthModel", "borrowsAct", "(II)I"⟩, 83) := ⟨⟨by decide +kernel, by decide +kernel⟩, List.mem_of_getElem? (i := 780) (by decide +kernel), List.mem_of_getElem? (i := 1372) (by decide +kernel), List.mem_of_getElem? (i := 1373) (by decide +kernel)⟩
theorem lw_p79 : lw_okq (⟨"WellLendsDepthModel", "lateBorrows", "(II)I"⟩, 83) := ⟨⟨by decide +kernel, by decide +kernel⟩, List.mem_of_getElem? (i := 780) (by decide +kernel), List.mem_of_getElem? (i := 1376) (by decide +kernel), List.mem_of_getElem? (i := 1377) (by decide +kernel)⟩
def lw_privs_5 : List (MethodName × Nat) := [(⟨"WellLendsDepthModel", "save", "()V"⟩, 83), (⟨"WellLendsDepthModel", "putBack", "()V"⟩, 83), (⟨"WellLendsDepthModel", "callOf", "()I"⟩, 83), (⟨"WellLendsDepthModel", "turned", "()I"⟩, 83), (⟨"WellLendsDepthModel", "turnedThen", "()I"⟩, 83), (⟨"WellLendsDepthModel", "aheadOf", "()I"⟩, 83), (⟨"WellLendsDepthModel", "markOf", "()I"⟩, 83), (⟨"WellLendsDepthModel", "isSeen", "()Z"⟩, 83), (⟨"WellLendsDepthModel", "lowest", "(III)J"⟩, 83), (⟨"WellLendsDepthModel", "divisor", "(II)I"⟩, 83), (⟨"WellLendsDepthModel", "isTape", "(I)Z"⟩, 83), (⟨"WellLendsDepthModel", "sinksAct", "(II)I"⟩, 83), (⟨"WellLendsDepthModel", "body", "(I)V"⟩, 83), (⟨"WellLendsDepthModel", "borrowerSinks", "(II)I"⟩, 83), (⟨"WellLendsDepthModel", "borrowsAct", "(II)I"⟩, 83), (⟨"WellLendsDepthModel", "lateBorrows", "(II)I"⟩, 83)]
theorem lw_r5 : ∀ q ∈ lw_privs_5, lw_okq q := List.forall_mem_cons.mpr ⟨lw_p64, List.forall_mem_cons.mpr ⟨lw_p65, List.forall_mem_cons.mpr ⟨lw_p66, List.forall_mem_cons.mpr ⟨lw_p67, List.forall_mem_cons.mpr ⟨lw_p68, List.forall_mem_cons.mpr ⟨lw_p69, List.forall_mem_cons.mpr ⟨lw_p70, List.forall_mem_cons.mpr ⟨lw_p71, List.forall_mem_cons.mpr ⟨lw_p72, List.forall_mem_cons.mpr ⟨lw_p73, List.forall_mem_cons.mpr ⟨lw_p74, List.forall_mem_cons.mpr ⟨lw_p75, List.forall_mem_cons.mpr ⟨lw_p76, List.forall_mem_cons.mpr ⟨lw_p77, List.forall_mem_cons.mpr ⟨lw_p78, List.forall_mem_cons.mpr ⟨lw_p79, fun _ h => absurd h List.not_mem_nil⟩⟩⟩⟩⟩⟩⟩⟩⟩⟩⟩⟩⟩⟩⟩⟩
theorem lw_p80 : lw_okq (⟨"WellLendsDepthModel", "borrowerBorrows", "(II)I"⟩, 83) := ⟨⟨by decide +kernel, by decide +kernel⟩, List.mem_of_getElem? (i := 780) (by decide +kernel), List.mem_of_getElem? (i := 1380) (by decide +kernel), List.mem_of_getElem? (i := 1381) (by decide +kernel)⟩
theorem lw_p81 : lw_okq (⟨"WellLendsDepthModel", "tellsAct", "(II)I"⟩, 83) := ⟨⟨by decide +kernel, by decide +kernel⟩, List.mem_of_getElem? (i := 780) (by decide +kernel), List.mem_of_getElem? (i := 1384) (by decide +kernel), List.mem_of_getElem? (i := 1385) (by decide +kernel)⟩
theorem lw_p82 : lw_okq (⟨"WellLendsDepthModel", "borrowerTells", "(II)I"⟩, 83) := ⟨⟨by decide +kernel, by decide +kernel⟩, List.mem_of_getElem? (i := 780) (by decide +kernel), List.mem_of_getElem? (i := 1388) (by decide +kernel), List.mem_of_getElem? (i := 1389) (by decide +kernel)⟩
theorem lw_p83 : lw_okq (⟨"WellLendsDepthModel", "narrow", "(IJ)J"⟩, 83) := ⟨⟨by decide +kernel, by decide +kernel⟩, List.mem_of_getElem? (i := 780) (by decide +kernel), List.mem_of_getElem? (i := 1412) (by decide +kernel), List.mem_of_getElem? (i := 1413) (by decide +kernel)⟩
def lw_privs_6 : List (MethodName × Nat) := [(⟨"WellLendsDepthModel", "borrowerBorrows", "(II)I"⟩, 83), (⟨"WellLendsDepthModel", "tellsAct", "(II)I"⟩, 83), (⟨"WellLendsDepthModel", "borrowerTells", "(II)I"⟩, 83), (⟨"WellLendsDepthModel", "narrow", "(IJ)J"⟩, 83)]
theorem lw_r6 : ∀ q ∈ lw_privs_6, lw_okq q := List.forall_mem_cons.mpr ⟨lw_p80, List.forall_mem_cons.mpr ⟨lw_p81, List.forall_mem_cons.mpr ⟨lw_p82, List.forall_mem_cons.mpr ⟨lw_p83, fun _ h => absurd h List.not_mem_nil⟩⟩⟩⟩
def lw_privs : List (MethodName × Nat) := lw_privs_1 ++ (lw_privs_2 ++ (lw_privs_3 ++ (lw_privs_4 ++ (lw_privs_5 ++ (lw_privs_6)))))
def lw_tbl : List Cond := k2_sels lw_privs ++ tables_1
theorem lw_privs_ok : ∀ q ∈ lw_privs, lw_okq q := by
  show ∀ q ∈ lw_privs_1 ++ (lw_privs_2 ++ (lw_privs_3 ++ (lw_privs_4 ++ (lw_privs_5 ++ (lw_privs_6))))), lw_okq q
  exact List.forall_mem_append.mpr ⟨lw_r1, List.forall_mem_append.mpr ⟨lw_r2, List.forall_mem_append.mpr ⟨lw_r3, List.forall_mem_append.mpr ⟨lw_r4, List.forall_mem_append.mpr ⟨lw_r5, lw_r6⟩⟩⟩⟩⟩
end
section
/-! the classes: names, fields in the order of the slots, types; written by wip/whole/gen_names.py -/
def gT : List Cond := lw_tbl.filter goodWord
theorem gm {w : Cond} (i : Nat) (h : lw_tbl[i]? = some w) (g : goodWord w = true) : w ∈ gT := List.mem_filter.mpr ⟨List.mem_of_getElem? h, g⟩
theorem gT_sub {w : Cond} (h : w ∈ gT) : w ∈ lw_tbl := (List.mem_filter.mp h).1
theorem gT_good {w : Cond} (h : w ∈ gT) : goodWord w = true := (List.mem_filter.mp h).2
theorem gin {ws : List Cond} (ps : List Nat) (hp : ws = ps.filterMap (fun i => lw_tbl[i]?)) (g : ws.all goodWord = true) : ∀ w ∈ ws, w ∈ gT := by
  intro w hw
  have h2 := List.all_eq_true.mp g w hw
  rw [hp] at hw
  obtain ⟨i, -, hi⟩ := List.mem_filterMap.mp hw
  exact gm i hi h2
def zR0 : String := "WellLendsDepth$Actor"
def zT0 : u_T := fun k => match k with
  | 0 => ("WellLendsDepth$Actor", "ran", "I", false)
  | 1 => ("WellLendsDepth$Actor", "trace", "[I", true)
  | 2 => ("WellLendsDepth$Actor", "number", "I", false)
  | 3 => ("WellLendsDepth$Actor", "kind", "I", false)
  | _ => ("WellLendsDepth$Actor", "v", "I", false)
def zty0 : Nat → FieldType := fun k => match k with
  | 0 => .int
  | 1 => .array .int
  | 2 => .int
  | 3 => .int
  | _ => .int
theorem znm0 : ∀ a, a < 5 → ∀ b, b < 5 → a ≠ b → (zT0 a).2.1 ≠ (zT0 b).2.1 := by decide +kernel
theorem zok0 : ∀ k, k < 5 → parseFieldDescriptor (zT0 k).2.2.1 = some (zty0 k) := by decide +kernel
theorem zin0 : ∀ w ∈ u_ws zR0 zT0 5, w ∈ gT := gin [305, 307, 309, 311, 313] (by decide +kernel) (by decide +kernel)
def zR1 : String := "WellLendsDepth$Country"
def zT1 : u_T := fun k => match k with
  | 0 => ("WellLendsDepth$Country", "mark", "I", false)
  | 1 => ("WellLendsDepth$Country", "spring", "I", false)
  | 2 => ("WellLendsDepth$Country", "fine", "I", false)
  | 3 => ("WellLendsDepth$Country", "prices", "I", false)
  | 4 => ("WellLendsDepth$Country", "used", "I", false)
  | 5 => ("WellLendsDepth$Country", "price", "[I", true)
  | 6 => ("WellLendsDepth$Country", "ends", "[I", true)
  | 7 => ("WellLendsDepth$Country", "step", "[I", true)
  | 8 => ("WellLendsDepth$Country", "about", "[I", true)
  | 9 => ("WellLendsDepth$Country", "number", "[I", true)
  | _ => ("WellLendsDepth$Country", "facts", "[I", true)
def zty1 : Nat → FieldType := fun k => match k with
  | 0 => .int
  | 1 => .int
  | 2 => .int
  | 3 => .int
  | 4 => .int
  | 5 => .array .int
  | 6 => .array .int
  | 7 => .array .int
  | 8 => .array .int
  | 9 => .array .int
  | _ => .array .int
theorem znm1 : ∀ a, a < 11 → ∀ b, b < 11 → a ≠ b → (zT1 a).2.1 ≠ (zT1 b).2.1 := by decide +kernel
theorem zok1 : ∀ k, k < 11 → parseFieldDescriptor (zT1 k).2.2.1 = some (zty1 k) := by decide +kernel
theorem zin1 : ∀ w ∈ u_ws zR1 zT1 11, w ∈ gT := gin [250, 252, 254, 256, 258, 260, 262, 264, 266, 268, 270] (by decide +kernel) (by decide +kernel)
def zR2 : String := "WellLendsDepth$Hand"
def zT2 : u_T := fun k => match k with
  | 0 => ("WellLendsDepth$Hand", "seenCount", "I", false)
  | 1 => ("WellLendsDepth$Hand", "yearCount", "I", false)
  | 2 => ("WellLendsDepth$Hand", "bookCount", "I", false)
  | 3 => ("WellLendsDepth$Hand", "seenDepth", "[I", true)
  | 4 => ("WellLendsDepth$Hand", "seenBehind", "[I", true)
  | 5 => ("WellLendsDepth$Hand", "yearWhat", "[I", true)
  | 6 => ("WellLendsDepth$Hand", "yearWho", "[I", true)
  | 7 => ("WellLendsDepth$Hand", "bookWho", "[I", true)
  | _ => ("WellLendsDepth$Hand", "bookOwes", "[I", true)
def zty2 : Nat → FieldType := fun k => match k with
  | 0 => .int
  | 1 => .int
  | 2 => .int
  | 3 => .array .int
  | 4 => .array .int
  | 5 => .array .int
  | 6 => .array .int
  | 7 => .array .int
  | _ => .array .int
theorem znm2 : ∀ a, a < 9 → ∀ b, b < 9 → a ≠ b → (zT2 a).2.1 ≠ (zT2 b).2.1 := by decide +kernel
theorem zok2 : ∀ k, k < 9 → parseFieldDescriptor (zT2 k).2.2.1 = some (zty2 k) := by decide +kernel
theorem zin2 : ∀ w ∈ u_ws zR2 zT2 9, w ∈ gT := gin [200, 202, 204, 206, 208, 210, 212, 214, 216] (by decide +kernel) (by decide +kernel)
def zR3 : String := "WellLendsDepth$Reader"
def zT3 : u_T := fun k => match k with
  | 0 => ("WellLendsDepth$Reader", "length", "I", false)
  | 1 => ("WellLendsDepth$Reader", "at", "I", false)
  | 2 => ("WellLendsDepth$Reader", "faulty", "Z", false)
  | 3 => ("WellLendsDepth$Reader", "text", "[I", true)
  | _ => ("WellLendsDepth$Reader", "country", "LWellLendsDepth$Country;", false)
def zty3 : Nat → FieldType := fun k => match k with
  | 0 => .int
  | 1 => .int
  | 2 => .boolean
  | 3 => .array .int
  | _ => .object "WellLendsDepth$Country"
theorem znm3 : ∀ a, a < 5 → ∀ b, b < 5 → a ≠ b → (zT3 a).2.1 ≠ (zT3 b).2.1 := by decide +kernel
theorem zok3 : ∀ k, k < 5 → parseFieldDescriptor (zT3 k).2.2.1 = some (zty3 k) := by decide +kernel
theorem zin3 : ∀ w ∈ u_ws zR3 zT3 5, w ∈ gT := gin [279, 281, 283, 285, 287] (by decide +kernel) (by decide +kernel)
def zR4 : String := "WellLendsDepth$Tapes"
def zT4 : u_T := fun k => match k with
  | 0 => ("WellLendsDepth$Tapes", "sort", "[I", true)
  | 1 => ("WellLendsDepth$Tapes", "size", "[I", true)
  | _ => ("WellLendsDepth$Tapes", "items", "[[J", true)
def zty4 : Nat → FieldType := fun k => match k with
  | 0 => .array .int
  | 1 => .array .int
  | _ => .array (.array .long)
theorem znm4 : ∀ a, a < 3 → ∀ b, b < 3 → a ≠ b → (zT4 a).2.1 ≠ (zT4 b).2.1 := by decide +kernel
theorem zok4 : ∀ k, k < 3 → parseFieldDescriptor (zT4 k).2.2.1 = some (zty4 k) := by decide +kernel
theorem zin4 : ∀ w ∈ u_ws zR4 zT4 3, w ∈ gT := gin [329, 331, 333] (by decide +kernel) (by decide +kernel)
def zR5 : String := "WellLendsDepth$Well"
def zT5 : u_T := fun k => match k with
  | 0 => ("WellLendsDepth$Well", "depth", "I", false)
  | 1 => ("WellLendsDepth$Well", "day", "I", false)
  | 2 => ("WellLendsDepth$Well", "count", "I", false)
  | 3 => ("WellLendsDepth$Well", "turned", "I", false)
  | 4 => ("WellLendsDepth$Well", "kind", "[I", true)
  | 5 => ("WellLendsDepth$Well", "v", "[I", true)
  | 6 => ("WellLendsDepth$Well", "wants", "[I", true)
  | 7 => ("WellLendsDepth$Well", "every", "[I", true)
  | 8 => ("WellLendsDepth$Well", "has", "[I", true)
  | 9 => ("WellLendsDepth$Well", "left", "[I", true)
  | 10 => ("WellLendsDepth$Well", "owes", "[I", true)
  | 11 => ("WellLendsDepth$Well", "sent", "[I", true)
  | 12 => ("WellLendsDepth$Well", "line", "[I", true)
  | _ => ("WellLendsDepth$Well", "rows", "[I", true)
def zty5 : Nat → FieldType := fun k => match k with
  | 0 => .int
  | 1 => .int
  | 2 => .int
  | 3 => .int
  | 4 => .array .int
  | 5 => .array .int
  | 6 => .array .int
  | 7 => .array .int
  | 8 => .array .int
  | 9 => .array .int
  | 10 => .array .int
  | 11 => .array .int
  | 12 => .array .int
  | _ => .array .int
theorem znm5 : ∀ a, a < 14 → ∀ b, b < 14 → a ≠ b → (zT5 a).2.1 ≠ (zT5 b).2.1 := by decide +kernel
theorem zok5 : ∀ k, k < 14 → parseFieldDescriptor (zT5 k).2.2.1 = some (zty5 k) := by decide +kernel
theorem zin5 : ∀ w ∈ u_ws zR5 zT5 14, w ∈ gT := gin [148, 150, 152, 154, 156, 158, 160, 162, 164, 166, 168, 170, 172, 174] (by decide +kernel) (by decide +kernel)
def zR6 : String := "WellLendsDepth"
def zT6 : u_T := fun k => match k with
  | 0 => ("WellLendsDepth", "now", "LWellLendsDepth$Well;", true)
  | 1 => ("WellLendsDepth", "trial", "LWellLendsDepth$Well;", true)
  | 2 => ("WellLendsDepth", "kept", "LWellLendsDepth$Well;", true)
  | 3 => ("WellLendsDepth", "hand", "LWellLendsDepth$Hand;", true)
  | 4 => ("WellLendsDepth", "keptHand", "LWellLendsDepth$Hand;", true)
  | 5 => ("WellLendsDepth", "reader", "LWellLendsDepth$Reader;", true)
  | 6 => ("WellLendsDepth", "plain", "LWellLendsDepth$Country;", true)
  | 7 => ("WellLendsDepth", "countries", "[LWellLendsDepth$Country;", true)
  | 8 => ("WellLendsDepth", "actor", "LWellLendsDepth$Actor;", true)
  | 9 => ("WellLendsDepth", "tapes", "LWellLendsDepth$Tapes;", true)
  | 10 => ("WellLendsDepth", "made", "I", false)
  | 11 => ("WellLendsDepth", "holding", "I", false)
  | 12 => ("WellLendsDepth", "keptHolding", "I", false)
  | _ => ("WellLendsDepth", "imaged", "Z", false)
def zty6 : Nat → FieldType := fun k => match k with
  | 0 => .object "WellLendsDepth$Well"
  | 1 => .object "WellLendsDepth$Well"
  | 2 => .object "WellLendsDepth$Well"
  | 3 => .object "WellLendsDepth$Hand"
  | 4 => .object "WellLendsDepth$Hand"
  | 5 => .object "WellLendsDepth$Reader"
  | 6 => .object "WellLendsDepth$Country"
  | 7 => .array (.object "WellLendsDepth$Country")
  | 8 => .object "WellLendsDepth$Actor"
  | 9 => .object "WellLendsDepth$Tapes"
  | 10 => .int
  | 11 => .int
  | 12 => .int
  | _ => .boolean
theorem znm6 : ∀ a, a < 14 → ∀ b, b < 14 → a ≠ b → (zT6 a).2.1 ≠ (zT6 b).2.1 := by decide +kernel
theorem zok6 : ∀ k, k < 14 → parseFieldDescriptor (zT6 k).2.2.1 = some (zty6 k) := by decide +kernel
theorem zin6 : ∀ w ∈ u_ws zR6 zT6 14, w ∈ gT := gin [351, 353, 355, 357, 359, 361, 363, 365, 367, 369, 371, 373, 375, 377] (by decide +kernel) (by decide +kernel)
def zR7 : String := "WellLendsDepthModel"
def zT7 : u_T := fun k => match k with
  | 0 => ("WellLendsDepthModel", "deep", "I", false)
  | 1 => ("WellLendsDepthModel", "borrowers", "I", false)
  | 2 => ("WellLendsDepthModel", "days", "I", false)
  | 3 => ("WellLendsDepthModel", "kind", "[I", true)
  | 4 => ("WellLendsDepthModel", "v", "[I", true)
  | 5 => ("WellLendsDepthModel", "wants", "[I", true)
  | 6 => ("WellLendsDepthModel", "every", "[I", true)
  | 7 => ("WellLendsDepthModel", "has", "[I", true)
  | 8 => ("WellLendsDepthModel", "left", "[I", true)
  | 9 => ("WellLendsDepthModel", "owes", "[I", true)
  | 10 => ("WellLendsDepthModel", "sent", "[I", true)
  | 11 => ("WellLendsDepthModel", "rows", "[I", true)
  | 12 => ("WellLendsDepthModel", "line", "[I", true)
  | 13 => ("WellLendsDepthModel", "countries", "I", false)
  | 14 => ("WellLendsDepthModel", "the", "I", false)
  | 15 => ("WellLendsDepthModel", "fed", "I", false)
  | 16 => ("WellLendsDepthModel", "at", "I", false)
  | 17 => ("WellLendsDepthModel", "digits", "I", false)
  | 18 => ("WellLendsDepthModel", "text", "[I", true)
  | 19 => ("WellLendsDepthModel", "clauses", "[I", true)
  | 20 => ("WellLendsDepthModel", "word", "[I", true)
  | 21 => ("WellLendsDepthModel", "number", "[I", true)
  | 22 => ("WellLendsDepthModel", "from", "[I", true)
  | 23 => ("WellLendsDepthModel", "to", "[I", true)
  | 24 => ("WellLendsDepthModel", "sign", "[I", true)
  | 25 => ("WellLendsDepthModel", "waits", "[I", true)
  | 26 => ("WellLendsDepthModel", "signs", "I", false)
  | 27 => ("WellLendsDepthModel", "waiting", "I", false)
  | 28 => ("WellLendsDepthModel", "open", "I", false)
  | 29 => ("WellLendsDepthModel", "letters", "[I", true)
  | 30 => ("WellLendsDepthModel", "markInMind", "I", false)
  | 31 => ("WellLendsDepthModel", "awayInMind", "I", false)
  | 32 => ("WellLendsDepthModel", "pile", "[Z", true)
  | 33 => ("WellLendsDepthModel", "mostSent", "I", false)
  | 34 => ("WellLendsDepthModel", "turnedAway", "I", false)
  | 35 => ("WellLendsDepthModel", "keptDeep", "I", false)
  | 36 => ("WellLendsDepthModel", "keptDays", "I", false)
  | 37 => ("WellLendsDepthModel", "keptWants", "[I", true)
  | 38 => ("WellLendsDepthModel", "keptEvery", "[I", true)
  | 39 => ("WellLendsDepthModel", "keptHas", "[I", true)
  | 40 => ("WellLendsDepthModel", "keptLeft", "[I", true)
  | 41 => ("WellLendsDepthModel", "keptOwes", "[I", true)
  | 42 => ("WellLendsDepthModel", "keptSent", "[I", true)
  | 43 => ("WellLendsDepthModel", "keptLine", "[I", true)
  | 44 => ("WellLendsDepthModel", "seen", "I", false)
  | 45 => ("WellLendsDepthModel", "seenDepth", "[I", true)
  | 46 => ("WellLendsDepthModel", "seenWhen", "[I", true)
  | 47 => ("WellLendsDepthModel", "years", "I", false)
  | 48 => ("WellLendsDepthModel", "books", "I", false)
  | 49 => ("WellLendsDepthModel", "yearWhat", "[I", true)
  | 50 => ("WellLendsDepthModel", "yearWho", "[I", true)
  | 51 => ("WellLendsDepthModel", "bookWho", "[I", true)
  | 52 => ("WellLendsDepthModel", "bookOwes", "[I", true)
  | 53 => ("WellLendsDepthModel", "hasImage", "Z", false)
  | 54 => ("WellLendsDepthModel", "imageThe", "I", false)
  | 55 => ("WellLendsDepthModel", "imageDeep", "I", false)
  | 56 => ("WellLendsDepthModel", "imageBorrowers", "I", false)
  | 57 => ("WellLendsDepthModel", "imageDays", "I", false)
  | 58 => ("WellLendsDepthModel", "imageSeen", "I", false)
  | 59 => ("WellLendsDepthModel", "imageYears", "I", false)
  | 60 => ("WellLendsDepthModel", "imageBooks", "I", false)
  | 61 => ("WellLendsDepthModel", "imageKind", "[I", true)
  | 62 => ("WellLendsDepthModel", "imageV", "[I", true)
  | 63 => ("WellLendsDepthModel", "imageWants", "[I", true)
  | 64 => ("WellLendsDepthModel", "imageEvery", "[I", true)
  | 65 => ("WellLendsDepthModel", "imageHas", "[I", true)
  | 66 => ("WellLendsDepthModel", "imageLeft", "[I", true)
  | 67 => ("WellLendsDepthModel", "imageOwes", "[I", true)
  | 68 => ("WellLendsDepthModel", "imageSent", "[I", true)
  | 69 => ("WellLendsDepthModel", "imageLine", "[I", true)
  | 70 => ("WellLendsDepthModel", "imageRows", "[I", true)
  | 71 => ("WellLendsDepthModel", "imageSeenDepth", "[I", true)
  | 72 => ("WellLendsDepthModel", "imageWhen", "[I", true)
  | 73 => ("WellLendsDepthModel", "imageWhat", "[I", true)
  | 74 => ("WellLendsDepthModel", "imageWho", "[I", true)
  | 75 => ("WellLendsDepthModel", "imageBookWho", "[I", true)
  | 76 => ("WellLendsDepthModel", "imageBookOwes", "[I", true)
  | 77 => ("WellLendsDepthModel", "ran", "I", false)
  | 78 => ("WellLendsDepthModel", "bodies", "[I", true)
  | 79 => ("WellLendsDepthModel", "sort", "[I", true)
  | 80 => ("WellLendsDepthModel", "length", "[I", true)
  | 81 => ("WellLendsDepthModel", "item", "[J", true)
  | _ => ("WellLendsDepthModel", "aside", "[J", true)
def zty7 : Nat → FieldType := fun k => match k with
  | 0 => .int
  | 1 => .int
  | 2 => .int
  | 3 => .array .int
  | 4 => .array .int
  | 5 => .array .int
  | 6 => .array .int
  | 7 => .array .int
  | 8 => .array .int
  | 9 => .array .int
  | 10 => .array .int
  | 11 => .array .int
  | 12 => .array .int
  | 13 => .int
  | 14 => .int
  | 15 => .int
  | 16 => .int
  | 17 => .int
  | 18 => .array .int
  | 19 => .array .int
  | 20 => .array .int
  | 21 => .array .int
  | 22 => .array .int
  | 23 => .array .int
  | 24 => .array .int
  | 25 => .array .int
  | 26 => .int
  | 27 => .int
  | 28 => .int
  | 29 => .array .int
  | 30 => .int
  | 31 => .int
  | 32 => .array .boolean
  | 33 => .int
  | 34 => .int
  | 35 => .int
  | 36 => .int
  | 37 => .array .int
  | 38 => .array .int
  | 39 => .array .int
  | 40 => .array .int
  | 41 => .array .int
  | 42 => .array .int
  | 43 => .array .int
  | 44 => .int
  | 45 => .array .int
  | 46 => .array .int
  | 47 => .int
  | 48 => .int
  | 49 => .array .int
  | 50 => .array .int
  | 51 => .array .int
  | 52 => .array .int
  | 53 => .boolean
  | 54 => .int
  | 55 => .int
  | 56 => .int
  | 57 => .int
  | 58 => .int
  | 59 => .int
  | 60 => .int
  | 61 => .array .int
  | 62 => .array .int
  | 63 => .array .int
  | 64 => .array .int
  | 65 => .array .int
  | 66 => .array .int
  | 67 => .array .int
  | 68 => .array .int
  | 69 => .array .int
  | 70 => .array .int
  | 71 => .array .int
  | 72 => .array .int
  | 73 => .array .int
  | 74 => .array .int
  | 75 => .array .int
  | 76 => .array .int
  | 77 => .int
  | 78 => .array .int
  | 79 => .array .int
  | 80 => .array .int
  | 81 => .array .long
  | _ => .array .long
theorem znm7 : ∀ a, a < 83 → ∀ b, b < 83 → a ≠ b → (zT7 a).2.1 ≠ (zT7 b).2.1 := by decide +kernel
theorem zok7 : ∀ k, k < 83 → parseFieldDescriptor (zT7 k).2.2.1 = some (zty7 k) := by decide +kernel
theorem zin7 : ∀ w ∈ u_ws zR7 zT7 83, w ∈ gT := gin [952, 954, 956, 958, 960, 962, 964, 966, 968, 970, 972, 974, 976, 978, 980, 982, 984, 986, 988, 990, 992, 994, 996, 998, 1000, 1002, 1004, 1006, 1008, 1010, 1012, 1014, 1016, 1018, 1020, 1022, 1024, 1026, 1028, 1030, 1032, 1034, 1036, 1038, 1040, 1042, 1044, 1046, 1048, 1050, 1052, 1054, 1056, 1058, 1060, 1062, 1064, 1066, 1068, 1070, 1072, 1074, 1076, 1078, 1080, 1082, 1084, 1086, 1088, 1090, 1092, 1094, 1096, 1098, 1100, 1102, 1104, 1106, 1108, 1110, 1112, 1114, 1116] (by decide +kernel) (by decide +kernel)
abbrev cl8 : List vw_C := [(zR0, zT0, 5), (zR1, zT1, 11), (zR2, zT2, 9), (zR3, zT3, 5), (zR4, zT4, 3), (zR5, zT5, 14), (zR6, zT6, 14), (zR7, zT7, 83)]
end
section
/-! the world of both objects: written by wip/whole/gen_frame.py (tables) and by hand (frame.txt) -/
abbrev Pm : Type := Nat → Nat → Int32
abbrev Pl : Type := Nat → Nat → Int64
abbrev Mm : Type := Nat → Pm
abbrev Ml : Type := Nat → Pl
/-- the addresses, the class numbers, the classes of the arrays, other addresses -/
abbrev GE : Type := (Nat → Nat → Nat) × va_G × (Nat → ClassId) × (Nat → Nat)
def gA (G : GE) : Nat → Nat → Nat := G.1
def gD (G : GE) : va_G := G.2.1
def gC (G : GE) : Nat → ClassId := G.2.2.1
def gX (G : GE) : Nat → Nat := G.2.2.2
abbrev ix (i : Int32) : Nat := i.toNatClampNeg
/-- the kind of an object -/
def kdo : Nat → Nat
  | 0 => 6
  | 1 => 5
  | 2 => 5
  | 3 => 5
  | 4 => 2
  | 5 => 2
  | 6 => 3
  | 7 => 1
  | 8 => 1
  | 9 => 1
  | 10 => 1
  | 11 => 1
  | 12 => 1
  | 13 => 1
  | 14 => 1
  | 15 => 0
  | 16 => 4
  | 17 => 7
  | _ => 99
/-- the fields of an object of kind k -/
def fsK (k : Nat) (G : GE) (o : Nat) (S : Nat → Int32) : List Value := match k with
  | 0 => [.int (S 0), .ref (gA G o 2), .int (S 2), .int (S 3), .int (S 4)]
  | 1 => [.int (S 0), .int (S 1), .int (S 2), .int (S 3), .int (S 4), .ref (gA G o 6), .ref (gA G o 7), .ref (gA G o 8), .ref (gA G o 9), .ref (gA G o 10), .ref (gA G o 11)]
  | 2 => [.int (S 0), .int (S 1), .int (S 2), .ref (gA G o 4), .ref (gA G o 5), .ref (gA G o 6), .ref (gA G o 7), .ref (gA G o 8), .ref (gA G o 9)]
  | 3 => [.int (S 0), .int (S 1), .int (S 2), .ref (gA G o 4), .ref (gA G (ix (S 4)) 0)]
  | 4 => [.ref (gA G o 1), .ref (gA G o 2), .ref (gA G o 3)]
  | 5 => [.int (S 0), .int (S 1), .int (S 2), .int (S 3), .ref (gA G o 5), .ref (gA G o 6), .ref (gA G o 7), .ref (gA G o 8), .ref (gA G o 9), .ref (gA G o 10), .ref (gA G o 11), .ref (gA G o 12), .ref (gA G o 13), .ref (gA G o 14)]
  | 6 => [.ref (gA G 1 0), .ref (gA G 2 0), .ref (gA G 3 0), .ref (gA G 4 0), .ref (gA G 5 0), .ref (gA G 6 0), .ref (gA G 7 0), .ref (gA G o 8), .ref (gA G 15 0), .ref (gA G 16 0), .int (S 10), .int (S 11), .int (S 12), .int (S 13)]
  | 7 => [.int (S 0), .int (S 1), .int (S 2), .ref (gA G o 4), .ref (gA G o 5), .ref (gA G o 6), .ref (gA G o 7), .ref (gA G o 8), .ref (gA G o 9), .ref (gA G o 10), .ref (gA G o 11), .ref (gA G o 12), .ref (gA G o 13), .int (S 13), .int (S 14), .int (S 15), .int (S 16), .int (S 17), .ref (gA G o 19), .ref (gA G o 20), .ref (gA G o 21), .ref (gA G o 22), .ref (gA G o 23), .ref (gA G o 24), .ref (gA G o 25), .ref (gA G o 26), .int (S 26), .int (S 27), .int (S 28), .ref (gA G o 30), .int (S 30), .int (S 31), .ref (gA G o 33), .int (S 33), .int (S 34), .int (S 35), .int (S 36), .ref (gA G o 38), .ref (gA G o 39), .ref (gA G o 40), .ref (gA G o 41), .ref (gA G o 42), .ref (gA G o 43), .ref (gA G o 44), .int (S 44), .ref (gA G o 46), .ref (gA G o 47), .int (S 47), .int (S 48), .ref (gA G o 50), .ref (gA G o 51), .ref (gA G o 52), .ref (gA G o 53), .int (S 53), .int (S 54), .int (S 55), .int (S 56), .int (S 57), .int (S 58), .int (S 59), .int (S 60), .ref (gA G o 62), .ref (gA G o 63), .ref (gA G o 64), .ref (gA G o 65), .ref (gA G o 66), .ref (gA G o 67), .ref (gA G o 68), .ref (gA G o 69), .ref (gA G o 70), .ref (gA G o 71), .ref (gA G o 72), .ref (gA G o 73), .ref (gA G o 74), .ref (gA G o 75), .ref (gA G o 76), .ref (gA G o 77), .int (S 77), .ref (gA G o 79), .ref (gA G o 80), .ref (gA G o 81), .ref (gA G o 82), .ref (gA G o 83)]
  | _ => []
/-- the arrays of an object of kind k, by their cells: sort (0 int, 1 long, 2 boolean, 3 Country, 4 long[]) and length -/
def atyL (k : Nat) : List (Nat × Nat × Nat) := match k with
  | 0 => [(2, 0, 20)]
  | 1 => [(6, 0, 10), (7, 0, 10), (8, 0, 100), (9, 0, 100), (10, 0, 100), (11, 0, 6)]
  | 2 => [(4, 0, 5), (5, 0, 5), (6, 0, 10), (7, 0, 10), (8, 0, 8), (9, 0, 8)]
  | 3 => [(4, 0, 100)]
  | 4 => [(1, 0, 6), (2, 0, 6), (3, 4, 6), (4, 1, 60), (5, 1, 60), (6, 1, 60), (7, 1, 60), (8, 1, 60), (9, 1, 60)]
  | 5 => [(5, 0, 6), (6, 0, 6), (7, 0, 6), (8, 0, 6), (9, 0, 6), (10, 0, 6), (11, 0, 6), (12, 0, 6), (13, 0, 6), (14, 0, 24)]
  | 6 => [(8, 3, 6)]
  | 7 => [(4, 0, 6), (5, 0, 6), (6, 0, 6), (7, 0, 6), (8, 0, 6), (9, 0, 6), (10, 0, 6), (11, 0, 6), (12, 0, 24), (13, 0, 6), (19, 0, 100), (20, 0, 6), (21, 0, 60), (22, 0, 60), (23, 0, 60), (24, 0, 60), (25, 0, 600), (26, 0, 101), (30, 0, 23), (33, 2, 100), (38, 0, 6), (39, 0, 6), (40, 0, 6), (41, 0, 6), (42, 0, 6), (43, 0, 6), (44, 0, 6), (46, 0, 5), (47, 0, 5), (50, 0, 10), (51, 0, 10), (52, 0, 8), (53, 0, 8), (62, 0, 6), (63, 0, 6), (64, 0, 6), (65, 0, 6), (66, 0, 6), (67, 0, 6), (68, 0, 6), (69, 0, 6), (70, 0, 6), (71, 0, 24), (72, 0, 5), (73, 0, 5), (74, 0, 10), (75, 0, 10), (76, 0, 8), (77, 0, 8), (79, 0, 20), (80, 0, 6), (81, 0, 6), (82, 1, 360), (83, 1, 60)]
  | _ => []
def aty (k c : Nat) : Nat × Nat := ((atyL k).lookup c).getD (9, 0)
def cls (k : Nat) : List Nat := 0 :: (atyL k).map (fun x => x.1)
/-- all cells: object, cell -/
def prs : List (Nat × Nat) := (List.range 18).flatMap fun o => (cls (kdo o)).map fun c => (o, c)
/-- what a cell holds -/
def eK (k : Nat) (G : GE) (o : Nat) (P : Pm) (Q : Pl) (c : Nat) : va_E :=
  if c = 0 then .inr (k, fsK k G o (P 0)) else
  match aty k c with
  | (0, n) => .inl (gC G 0, n, .inl (P c))
  | (1, n) => .inl (gC G 1, n, .inr (.inl (Q c)))
  | (2, n) => .inl (gC G 2, n, .inl (P c))
  | (3, n) => .inl (gC G 3, n, .inr (.inr (.inr (.inr (fun j => some (gA G (8 + j) 0))))))
  | (_, n) => .inl (gC G 4, n, .inr (.inr (.inr (.inr (fun j => some (gA G o (4 + j)))))))
theorem eK_c {k : Nat} {G : GE} {o : Nat} {P P' : Pm} {Q Q' : Pl} {c : Nat} (h : P c = P' c) (h2 : Q c = Q' c) : eK k G o P Q c = eK k G o P' Q' c := by
  unfold eK
  by_cases hc : c = 0
  · subst hc
    rw [if_pos rfl, if_pos rfl, h]
  · rw [if_neg hc, if_neg hc, h, h2]
def wl (G : GE) (σ : Mm) (lm : Ml) : va_W := prs.map fun q => (gA G q.1 q.2, eK (kdo q.1) G q.1 (σ q.1) (lm q.1) q.2)
theorem kdo_lt {o k : Nat} (h : kdo o = k) (hk : k < 8) : o < 18 := by
  by_cases h1 : o < 18
  · exact h1
  · obtain ⟨n, rfl⟩ : ∃ n, o = n + 18 := ⟨o - 18, by omega⟩
    have h2 : kdo (n + 18) = 99 := rfl
    omega
theorem prs_in {o c k : Nat} (ho : kdo o = k) (hk : k < 8) (hc : c ∈ cls k) : ∃ q0 : Nat, prs[q0]? = some (o, c) := by
  apply List.getElem?_of_mem
  exact List.mem_flatMap.mpr ⟨o, List.mem_range.mpr (kdo_lt ho hk), List.mem_map.mpr ⟨c, by rw [ho]; exact hc, rfl⟩⟩
theorem prs_nd : prs.Nodup := by decide +kernel
theorem wl_at {G : GE} {σ : Mm} {lm : Ml} {q0 o c : Nat} (h : prs[q0]? = some (o, c)) : (wl G σ lm)[q0]? = some (gA G o c, eK (kdo o) G o (σ o) (lm o) c) := by
  unfold wl
  rw [List.getElem?_map, h]
  rfl
theorem wl_set {G : GE} {σ σ' : Mm} {lm lm' : Ml} {q0 o c : Nat} {e : va_E} (h : prs[q0]? = some (o, c)) (hn : ∀ o' c' : Nat, (o' ≠ o ∨ c' ≠ c) → eK (kdo o') G o' (σ o') (lm o') c' = eK (kdo o') G o' (σ' o') (lm' o') c') (he : e = eK (kdo o) G o (σ' o) (lm' o) c) : (wl G σ lm).set q0 (gA G o c, e) = wl G σ' lm' := by
  apply List.ext_getElem?
  intro i
  have hlen : q0 < (wl G σ lm).length := (List.getElem?_eq_some_iff.mp (wl_at (G := G) (σ := σ) (lm := lm) h)).1
  rw [List.getElem?_set]
  by_cases hi : q0 = i
  · subst hi
    rw [if_pos rfl, if_pos hlen, wl_at h, he]
  · rw [if_neg hi]
    unfold wl
    rw [List.getElem?_map, List.getElem?_map]
    cases hp : prs[i]? with
    | none => rfl
    | some q =>
      obtain ⟨o', c'⟩ := q
      have hne : o' ≠ o ∨ c' ≠ c := by
        by_cases e1 : o' = o
        · refine Or.inr (fun e2 => hi ?_)
          subst e1
          subst e2
          exact (List.getElem?_inj (List.getElem?_eq_some_iff.mp h).1 prs_nd).mp (h.trans hp.symm)
        · exact Or.inl e1
      show some (_, _) = some (_, _)
      rw [hn o' c' hne]
def setO {α : Type} (σ : Nat → α) (o : Nat) (P : α) : Nat → α := fun o' => if o' = o then P else σ o'
theorem setO_s {α : Type} {σ : Nat → α} {o : Nat} {P : α} : setO σ o P o = P := if_pos rfl
theorem setO_n {α : Type} {σ : Nat → α} {o o' : Nat} {P : α} (h : o' ≠ o) : setO σ o P o' = σ o' := if_neg h
theorem setO_i {α : Type} {σ : Nat → α} {o : Nat} : setO σ o (σ o) = σ := by
  funext x
  by_cases h : x = o
  · rw [h, setO_s]
  · rw [setO_n h]
theorem setO_2 {α : Type} {σ : Nat → α} {o : Nat} {P Q : α} : setO (setO σ o P) o Q = setO σ o Q := by
  funext x
  by_cases h : x = o
  · rw [h, setO_s, setO_s]
  · rw [setO_n h, setO_n h, setO_n h]
theorem setO_x {α : Type} {σ : Nat → α} {o o2 : Nat} {P Q : α} (h : o ≠ o2) : setO (setO σ o P) o2 Q = setO (setO σ o2 Q) o P := by
  funext x
  by_cases h1 : x = o
  · subst h1
    rw [setO_n h, setO_s, setO_s]
  · by_cases h2 : x = o2
    · subst h2
      rw [setO_s, setO_n h1, setO_s]
    · rw [setO_n h2, setO_n h1, setO_n h1, setO_n h2]
/-- an int of an array, or a field (cell 0), becomes x -/
def up2 (P : Pm) (c j : Nat) (x : Int32) : Pm := setO P c (upd (P c) j x)
def up2L (P : Pl) (c j : Nat) (x : Int64) : Pl := setO P c (vp_updL (P c) j x)
theorem wl_setI {G : GE} {σ : Mm} {lm : Ml} {q0 o c : Nat} {f : Nat → Int32} (h : prs[q0]? = some (o, c)) {e : va_E} (he : e = eK (kdo o) G o (setO (σ o) c f) (lm o) c) : (wl G σ lm).set q0 (gA G o c, e) = wl G (setO σ o (setO (σ o) c f)) lm := by
  refine wl_set h (fun o' c' hne => ?_) (by rw [setO_s]; exact he)
  by_cases e1 : o' = o
  · subst e1
    rw [setO_s]
    exact eK_c (setO_n (hne.elim (fun q => absurd rfl q) id)).symm rfl
  · rw [setO_n e1]
theorem wl_setL {G : GE} {σ : Mm} {lm : Ml} {q0 o c : Nat} {f : Nat → Int64} (h : prs[q0]? = some (o, c)) {e : va_E} (he : e = eK (kdo o) G o (σ o) (setO (lm o) c f) c) : (wl G σ lm).set q0 (gA G o c, e) = wl G σ (setO lm o (setO (lm o) c f)) := by
  refine wl_set h (fun o' c' hne => ?_) (by rw [setO_s]; exact he)
  by_cases e1 : o' = o
  · subst e1
    rw [setO_s]
    exact eK_c rfl (setO_n (hne.elim (fun q => absurd rfl q) id)).symm
  · rw [setO_n e1]
/-- one part, two parts of the memory -/
def m1 (σ : Mm) (o : Nat) (P : Pm) : Mm := setO σ o P
def m2 (σ : Mm) (o : Nat) (P : Pm) (o2 : Nat) (P2 : Pm) : Mm := setO (setO σ o P) o2 P2
theorem m1_g {σ : Mm} {o : Nat} {P : Pm} : m1 σ o P o = P := setO_s
theorem m1_i {σ : Mm} {o : Nat} : m1 σ o (σ o) = σ := setO_i
theorem m1_p {σ : Mm} {o : Nat} {P Q : Pm} : setO (m1 σ o P) o Q = m1 σ o Q := setO_2
theorem m2_g2 {σ : Mm} {o o2 : Nat} {P P2 : Pm} : m2 σ o P o2 P2 o2 = P2 := setO_s
theorem m2_g1 {σ : Mm} {o o2 : Nat} {P P2 : Pm} (h : o ≠ o2) : m2 σ o P o2 P2 o = P := by unfold m2; rw [setO_n h, setO_s]
theorem m2_p2 {σ : Mm} {o o2 : Nat} {P P2 Q : Pm} : setO (m2 σ o P o2 P2) o2 Q = m2 σ o P o2 Q := setO_2
theorem m2_p1 {σ : Mm} {o o2 : Nat} {P P2 Q : Pm} (h : o ≠ o2) : setO (m2 σ o P o2 P2) o Q = m2 σ o Q o2 P2 := by
  unfold m2
  rw [setO_x (fun e => h e.symm), setO_2]
theorem m2_x {σ : Mm} {o o2 : Nat} {P P2 : Pm} (h : o ≠ o2) : m2 σ o P o2 P2 = m2 σ o2 P2 o P := setO_x h
theorem m2_i {σ : Mm} {o o2 : Nat} (h : o ≠ o2) : m2 σ o (σ o) o2 (σ o2) = σ := by unfold m2; rw [setO_i, setO_i]
theorem m2_1 {σ : Mm} {o o2 : Nat} {P P2 Q : Pm} (h : o ≠ o2) : m1 (m2 σ o P o2 P2) o Q = m2 σ o Q o2 P2 := m2_p1 h
theorem m2_2 {σ : Mm} {o o2 : Nat} {P P2 Q : Pm} : m1 (m2 σ o P o2 P2) o2 Q = m2 σ o P o2 Q := m2_p2
theorem kd_ne {a b x y : Nat} (ha : kdo a = x) (hb : kdo b = y) (h : x ≠ y) : a ≠ b := fun e => h (by rw [← ha, ← hb, e])
/-- an index within -/
def inb (i : Int32) (n : Nat) : Bool := decide (0 ≤ i) && decide (ix i < n)
theorem inb_in {i : Int32} {n : Nat} (h : inb i n = true) : vp_in i n := by
  unfold inb at h
  rw [Bool.and_eq_true, decide_eq_true_eq, decide_eq_true_eq] at h
  intro h1
  rcases h1 with h1 | h1
  · exact absurd h.1 (Int32.not_le.mpr h1)
  · exact absurd h.2 (Nat.not_lt.mpr h1)
theorem zb_n {x : Int32} (h : x = 0 ∨ x = 1) : narrow .boolean (.int x) = .int x := by rcases h with rfl | rfl <;> rfl
theorem zb_f {x : Int32} (h : x = 0 ∨ x = 1) : fits .boolean (.int x) = true := by rcases h with rfl | rfl <;> rfl
theorem zb_v {x : Int32} (h : x = 0 ∨ x = 1) : vp_nar .boolean x = x := by rcases h with rfl | rfl <;> rfl
/-- names, tests, steps of the pure functions -/
def nb {α β : Type} (a : α) (f : α → Option β) : Option β := f a
theorem nb_e {α β : Type} {a : α} {f : α → Option β} {r : β} (h : nb a f = some r) : ∃ x, x = a ∧ f x = some r := ⟨a, rfl, h⟩
theorem bn_e {α β : Type} {a : Option α} {f : α → Option β} {r : β} (h : a.bind f = some r) : ∃ x, a = some x ∧ f x = some r := Option.bind_eq_some_iff.mp h
theorem ck_e {β : Type} {b : Bool} {t : Option β} {r : β} (h : (if b = true then t else none) = some r) : b = true ∧ t = some r := by
  cases b with
  | true => exact ⟨rfl, by rwa [if_pos rfl] at h⟩
  | false => rw [if_neg (by decide)] at h; cases h
theorem ip_e {α : Type} {c : Prop} {d : Decidable c} {t e : Option α} {r : Option α} (hc : c) (h : (@ite _ c d t e) = r) : t = r := by rwa [if_pos hc] at h
theorem in_e {α : Type} {c : Prop} {d : Decidable c} {t e : Option α} {r : Option α} (hc : ¬ c) (h : (@ite _ c d t e) = r) : e = r := by rwa [if_neg hc] at h
def iter {S ρ : Type} (body : S → Option (S ⊕ ρ)) : Nat → S → Option ρ
  | 0, _ => none
  | n + 1, s => match body s with
    | none => none
    | some (.inl s') => iter body n s'
    | some (.inr r) => some r
theorem iter_w {S ρ : Type} {body : S → Option (S ⊕ ρ)} {P : S → Prop} {x : ρ} (hs : ∀ s z, body s = some z → (∀ s', z = .inl s' → P s') → (∀ r, z = .inr r → r = x) → P s) : ∀ n s, iter body n s = some x → P s
  | 0, _, h => by cases h
  | n + 1, s, h => by
    unfold iter at h
    split at h
    · cases h
    · rename_i s' hb
      refine hs s _ hb (fun s2 e => ?_) (fun r e => by cases e)
      cases e
      exact iter_w hs n s' h
    · rename_i r hb
      refine hs s _ hb (fun s2 e => by cases e) (fun r2 e => ?_)
      cases e
      exact Option.some.inj h
def AA (G : GE) : Nat → Prop := fun q => ∃ x ∈ prs, q = gA G x.1 x.2
def Inj (G : GE) : Prop := ∀ (i j : Nat) (x y : Nat × Nat), prs[i]? = some x → prs[j]? = some y → gA G x.1 x.2 = gA G y.1 y.2 → i = j
theorem wl_D {G : GE} {σ : Mm} {lm : Ml} (h : Inj G) : va_D (AA G) (wl G σ lm) := by
  refine ⟨fun i j p q hp hq e => ?_, fun k q hq => ?_⟩
  · unfold wl at hp hq
    rw [List.getElem?_map] at hp hq
    cases hi : prs[i]? with
    | none => rw [hi] at hp; cases hp
    | some x =>
      cases hj : prs[j]? with
      | none => rw [hj] at hq; cases hq
      | some y =>
        rw [hi] at hp
        rw [hj] at hq
        cases hp
        cases hq
        exact h i j x y hi hj e
  · unfold wl at hq
    rw [List.getElem?_map] at hq
    cases hi : prs[k]? with
    | none => rw [hi] at hq; cases hq
    | some x =>
      rw [hi] at hq
      cases hq
      exact ⟨x, List.mem_of_getElem? hi, rfl⟩
def tys (G : GE) : List (ClassId × FieldType) := [(gC G 0, .int), (gC G 1, .long), (gC G 2, .boolean), (gC G 3, .object "WellLendsDepth$Country"), (gC G 4, .array .long)]
/-- the constant arrays and texts -/
def tAb (j : Nat) : Int32 := ([-1, 0, 0, 0, 1, 2, 3] : List Int32).getD j 0
def tBo (j : Nat) : Int32 := ([10, 11, 12, 0, 20, 0, 30, 0, 0, 0, 0, 40, 50, 51, 0, 0, 0, 60, 71, 70, 0] : List Int32).getD j 0
def sTx : List (Nat × String) := [(79, "cheap "), (81, "mark "), (83, "spring "), (85, "fine "), (87, "dear "), (99, "bkvhld"), (105, "<=>")]
def sBy : List (List Int32) := [[99, 104, 101, 97, 112, 32], [109, 97, 114, 107, 32], [115, 112, 114, 105, 110, 103, 32], [102, 105, 110, 101, 32], [100, 101, 97, 114, 32], [98, 107, 118, 104, 108, 100], [60, 61, 62]]
def sLn : List Nat := [6, 5, 7, 5, 5, 6, 3]
def SF (G : GE) (U : State) (H : Heap) : Prop :=
  va_Z "WellLendsDepth" "ABOVE" "[I" (.ref (gX G 0)) (AA G) U H ∧ va_T .int (gX G 0) 7 (fun j => .int (tAb j)) (AA G) U H ∧
  va_Z "WellLendsDepth$Actor" "BODIES" "[I" (.ref (gX G 1)) (AA G) U H ∧ va_T .int (gX G 1) 21 (fun j => .int (tBo j)) (AA G) U H ∧
  va_Z "java/lang/String" "COMPACT_STRINGS" "Z" (.int 1) (AA G) U H ∧ va_Zq "jdk/internal/util/Preconditions" "SIOOBE_FORMATTER" "Ljava/util/function/BiFunction;" (AA G) U H ∧
  vk_S 7 sLn sBy (fun k => gX G (10 + k)) (fun k => gX G (20 + k)) (AA G) U H
def KF (G : GE) (U : State) : Prop := va_K (gD G) cl8 (tys G) U ∧ Inj G ∧ SF G U U.heap ∧ ∀ (k : Nat) (q : Nat × String), sTx[k]? = some q → vk_R "WellLendsDepth$Reader" q.1 q.2 (gX G (10 + k)) U
theorem KF.to {G : GE} {s U : State} {locs : List Loc} (h : KF G s) (hW : s.WarmedH U.vm) (hS : va_S (AA G) s.heap U.heap locs) : KF G U := by
  obtain ⟨hK, hI, ⟨s1, s2, s3, s4, s5, s6, s7⟩, hR⟩ := h
  have hal := hW.alike
  have hq : ∀ a : Nat, a < s.heap.size → ¬ AA G a → U.heap[a]? = s.heap[a]? := fun a h1 h2 => hS.2.1 a h1 h2
  exact ⟨va_K.moved hal hK, hI, ⟨(va_Z.moved hal s1).kept hq, (va_T.moved hal s2).kept hq, (va_Z.moved hal s3).kept hq, (va_T.moved hal s4).kept hq, (va_Z.moved hal s5).kept hq, va_Zq.kept (va_Zq.moved hal s6) hq, (vk_S.moved hal s7).kept hq⟩, fun k q hk => (hR k q hk).warm hW⟩
/-- the machine at a method: all that stays while it runs, and what it has to come to -/
abbrev MX : Type := Program × Launch × Env × Room × State × MethodId × Array Value × List Frame × Method × Code × (State → Prop)
def WW (X : MX) (G : GE) (nL : Nat) (σ : Mm) (lm : Ml) (pc : Nat) (L : List (Nat × Value)) (st : List Value) : Prop :=
  ∀ (H : Heap) (locs : List Loc) (ls : Array Slot), va_P (gD G) cl8 (wl G σ lm) H → va_S (AA G) X.2.2.2.2.1.heap H locs → lv_has ls nL L →
    W X.1 X.2.1 X.2.2.1 X.2.2.2.1 X.2.2.2.2.1 X.2.2.2.2.2.1 X.2.2.2.2.2.2.1 X.2.2.2.2.2.2.2.1 X.2.2.2.2.2.2.2.2.1 X.2.2.2.2.2.2.2.2.2.1 H locs 0 0 X.2.2.2.2.2.2.2.2.2.2 (F0 X.2.2.2.2.2.1 pc ls st)
def Cx (X : MX) (G : GE) (own : String) (cc : ByteArray) (nL : Nat) : Prop :=
  X.1.tables.exec = Jvm.exec ∧ X.2.2.2.2.2.2.2.2.2.1.code = cc ∧ X.2.2.2.2.2.2.2.2.2.1.maxLocals = nL ∧ X.2.2.2.2.1.vm.findClass own = some X.2.2.2.2.2.1.cls ∧ (∀ w ∈ gT, w.before X.2.2.2.2.2.2.1 X.2.2.2.2.1 = true) ∧ X.2.2.2.2.2.2.2.2.1.locks = false ∧ KF G X.2.2.2.2.1
def rmX (X : MX) : Room := X.2.2.2.1
theorem WW.sub {X : MX} {G : GE} {nL : Nat} {σ : Mm} {lm : Ml} {pc : Nat} {L L' : List (Nat × Value)} {st : List Value} (ks : List Nat) (hl : lv_pick L ks = L') (kk : WW X G nL σ lm pc L' st) : WW X G nL σ lm pc L st := fun H locs ls hw hS h => kk H locs ls hw hS (lv_sub h ks hl)
section Rows
variable {X : MX} {G : GE} {own : String} {cc : ByteArray} {nL : Nat} {σ : Mm} {lm : Ml} {pc nx : Nat} {L : List (Nat × Value)} {st : List Value}
theorem r_get {o k index : Nat} {P : Pm} {C ref name desc : String} {T : u_T} {N : Nat} {v : Value} (hX : Cx X G own cc nL) (hin : ∀ w ∈ u_ws C T N, w ∈ gT) (hlk : Cond.fieldLink own index ref name desc ∈ gT) (ho : kdo o = k) (hc : cl8[k]? = some (C, T, N)) (j : Nat) (hj : j < N) (hT : (T j).1 = ref) (hT2 : ((T j).2.1, (T j).2.2.1) = (name, desc)) (hP : σ o = P) (hv : (fsK k G o (P 0))[j]? = some v)
    (hd : decode cc pc = .ok (.getfield index, 3) ∧ pc + 3 = nx) (kk : WW X G nL σ lm nx L (v :: st)) : WW X G nL σ lm pc L (.ref (gA G o 0) :: st) := by
  intro H locs ls hw hS hl
  obtain ⟨hx, hb, hml, hown, hts, hlo, hK, hI, hSF⟩ := hX
  obtain ⟨hd, rfl⟩ := hd
  subst hP
  have hk8 : k < 8 := (List.getElem?_eq_some_iff.mp hc).1
  obtain ⟨q0, hq⟩ := prs_in ho hk8 (c := 0) List.mem_cons_self
  have he := wl_at (G := G) (σ := σ) (lm := lm) hq
  rw [ho] at he
  have hn := (Prod.mk.inj hT2).1
  have hds := (Prod.mk.inj hT2).2
  exact va_get hx hb hts hin hown hK hw q0 he hc j hj (by rw [hn, hds]; exact hts _ hlk) (by rw [hT]; exact fun _ h => h) hv hd (kk H locs ls hw hS hl)
theorem r_put {o k index : Nat} {P : Pm} {C ref name desc : String} {T : u_T} {N : Nat} {x : Int32} (hX : Cx X G own cc nL) (hin : ∀ w ∈ u_ws C T N, w ∈ gT) (ty0 : Nat → FieldType) (hty : ∀ k, k < N → parseFieldDescriptor (T k).2.2.1 = some (ty0 k)) (hnm : ∀ a, a < N → ∀ b, b < N → a ≠ b → (T a).2.1 ≠ (T b).2.1) (hlk : Cond.fieldLink own index ref name desc ∈ gT) (ho : kdo o = k) (hc : cl8[k]? = some (C, T, N)) (j : Nat) (hj : j < N) (hT : (T j).1 = ref) (hT2 : ((T j).2.1, (T j).2.2.1) = (name, desc)) (hfin : (T j).2.2.2 = false) (hn : narrow (ty0 j) (.int x) = .int x) (hf : fits (ty0 j) (.int x) = true) (hlen : (fsK k G o (fun _ => 0)).length = N) (hP : σ o = P) (hset : ∀ S, (fsK k G o S).set j (.int x) = fsK k G o (upd S j x))
    (hd : decode cc pc = .ok (.putfield index, 3) ∧ pc + 3 = nx) (kk : WW X G nL (setO σ o (up2 P 0 j x)) lm nx L st) : WW X G nL σ lm pc L (.int x :: .ref (gA G o 0) :: st) := by
  intro H locs ls hw hS hl
  obtain ⟨hx, hb, hml, hown, hts, hlo, hK, hI, hSF⟩ := hX
  obtain ⟨hd, rfl⟩ := hd
  subst hP
  have hk8 : k < 8 := (List.getElem?_eq_some_iff.mp hc).1
  obtain ⟨q0, hq⟩ := prs_in ho hk8 (c := 0) List.mem_cons_self
  have he := wl_at (G := G) (σ := σ) (lm := lm) hq
  rw [ho] at he
  have hn1 := (Prod.mk.inj hT2).1
  have hds := (Prod.mk.inj hT2).2
  have hlen2 : j < (fsK k G o (σ o 0)).length := by
    have h0 := congrArg List.length (hset (σ o 0))
    have e : ∀ S S' : Nat → Int32, (fsK k G o S).length = (fsK k G o S').length := by
      intro S S'
      unfold fsK
      split <;> rfl
    rw [e (σ o 0) (fun _ => 0), hlen]
    exact hj
  refine va_put hx hb hts hin ty0 hty hnm hown hK hw (wl_D hI) hS q0 he hc j hj (by rw [hn1, hds]; exact hts _ hlk) (by rw [hT]; exact fun _ h => h) hfin (hty j hj) hn hf hlen2 hd (fun H1 locs1 hP1 hD1 hS1 => ?_)
  rw [wl_setI (f := upd (σ o 0) j x) hq (by rw [ho]; show _ = Sum.inr (k, fsK k G o (setO (σ o) 0 (upd (σ o 0) j x) 0)); rw [setO_s, hset])] at hP1
  exact kk H1 locs1 ls hP1 hS1 hl
theorem r_iald {o k c n : Nat} {P : Pm} {i : Int32} (hX : Cx X G own cc nL) (ho : kdo o = k) (hk : k < 8) (hc : c ∈ cls k) (he : ∀ Q, eK k G o P Q c = .inl (gC G 0, n, .inl (P c))) (hP : σ o = P) (hi : inb i n = true) (hd : decode cc pc = .ok (.iaload, 1) ∧ pc + 1 = nx) (kk : WW X G nL σ lm nx L (.int (P c (ix i)) :: st)) : WW X G nL σ lm pc L (.int i :: .ref (gA G o c) :: st) := by
  intro H locs ls hw hS hl
  obtain ⟨hx, hb, hml, hown, hts, hlo, hK, hI, hSF⟩ := hX
  obtain ⟨hd, rfl⟩ := hd
  subst hP
  obtain ⟨q0, hq⟩ := prs_in ho hk hc
  have h1 := wl_at (G := G) (σ := σ) (lm := lm) hq
  rw [ho, he] at h1
  exact va_iald hx hb hK hw q0 0 h1 rfl (inb_in hi) hd (kk H locs ls hw hS hl)
theorem r_zald {o k c n : Nat} {P : Pm} {i : Int32} (hX : Cx X G own cc nL) (ho : kdo o = k) (hk : k < 8) (hc : c ∈ cls k) (he : ∀ Q, eK k G o P Q c = .inl (gC G 2, n, .inl (P c))) (hP : σ o = P) (hi : inb i n = true) (hd : decode cc pc = .ok (.baload, 1) ∧ pc + 1 = nx) (kk : WW X G nL σ lm nx L (.int (P c (ix i)) :: st)) : WW X G nL σ lm pc L (.int i :: .ref (gA G o c) :: st) := by
  intro H locs ls hw hS hl
  obtain ⟨hx, hb, hml, hown, hts, hlo, hK, hI, hSF⟩ := hX
  obtain ⟨hd, rfl⟩ := hd
  subst hP
  obtain ⟨q0, hq⟩ := prs_in ho hk hc
  have h1 := wl_at (G := G) (σ := σ) (lm := lm) hq
  rw [ho, he] at h1
  exact va_zald hx hb hK hw q0 2 h1 rfl (inb_in hi) hd (kk H locs ls hw hS hl)
theorem r_lald {o k c n : Nat} {Q : Pl} {i : Int32} (hX : Cx X G own cc nL) (ho : kdo o = k) (hk : k < 8) (hc : c ∈ cls k) (he : ∀ P, eK k G o P Q c = .inl (gC G 1, n, .inr (.inl (Q c)))) (hQ : lm o = Q) (hi : inb i n = true) (hd : decode cc pc = .ok (.laload, 1) ∧ pc + 1 = nx) (kk : WW X G nL σ lm nx L (.long (Q c (ix i)) :: st)) : WW X G nL σ lm pc L (.int i :: .ref (gA G o c) :: st) := by
  intro H locs ls hw hS hl
  obtain ⟨hx, hb, hml, hown, hts, hlo, hK, hI, hSF⟩ := hX
  obtain ⟨hd, rfl⟩ := hd
  subst hQ
  obtain ⟨q0, hq⟩ := prs_in ho hk hc
  have h1 := wl_at (G := G) (σ := σ) (lm := lm) hq
  rw [ho, he] at h1
  exact va_lald hx hb hK hw q0 1 h1 rfl (inb_in hi) hd (kk H locs ls hw hS hl)
theorem r_aaldC {i : Int32} (hX : Cx X G own cc nL) (hi : inb i 6 = true) (hd : decode cc pc = .ok (.aaload, 1) ∧ pc + 1 = nx) (kk : WW X G nL σ lm nx L (.ref (gA G (8 + ix i) 0) :: st)) : WW X G nL σ lm pc L (.int i :: .ref (gA G 0 8) :: st) := by
  intro H locs ls hw hS hl
  obtain ⟨hx, hb, hml, hown, hts, hlo, hK, hI, hSF⟩ := hX
  obtain ⟨hd, rfl⟩ := hd
  obtain ⟨q0, hq⟩ := prs_in (o := 0) (k := 6) (c := 8) rfl (by decide) (by decide)
  have h1 := wl_at (G := G) (σ := σ) (lm := lm) hq
  exact va_aldq hx hb hK hw q0 3 h1 rfl (inb_in hi) hd (kk H locs ls hw hS hl)
theorem r_aaldT {i : Int32} (hX : Cx X G own cc nL) (hi : inb i 6 = true) (hd : decode cc pc = .ok (.aaload, 1) ∧ pc + 1 = nx) (kk : WW X G nL σ lm nx L (.ref (gA G 16 (4 + ix i)) :: st)) : WW X G nL σ lm pc L (.int i :: .ref (gA G 16 3) :: st) := by
  intro H locs ls hw hS hl
  obtain ⟨hx, hb, hml, hown, hts, hlo, hK, hI, hSF⟩ := hX
  obtain ⟨hd, rfl⟩ := hd
  obtain ⟨q0, hq⟩ := prs_in (o := 16) (k := 4) (c := 3) rfl (by decide) (by decide)
  have h1 := wl_at (G := G) (σ := σ) (lm := lm) hq
  have hin := inb_in hi
  have hlt : i.toNatClampNeg < 6 := Nat.not_le.mp fun q => hin (Or.inr q)
  exact W.aald (v := .ref (gA G 16 (4 + ix i))) (ty := .array .long) hx hb (hw q0 _ h1) ((hK.2 4 (gC G 4, .array .long) rfl).1 6 (fun j => va_rf (some (gA G 16 (4 + j))))) rfl (fun q => by cases q) (by show ¬ (i < 0 ∨ (arrV _ _ _).slots.size ≤ _); rw [arrV_size]; exact hin) (by show (arrV _ _ _).slots[_]? = _; rw [arrV_read _ _ hlt]; rfl) rfl rfl hd (kk H locs ls hw hS hl)
theorem r_iast {o k c n : Nat} {P : Pm} {i x : Int32} (hX : Cx X G own cc nL) (ho : kdo o = k) (hk : k < 8) (hc : c ∈ cls k) (he : ∀ P Q, eK k G o P Q c = .inl (gC G 0, n, .inl (P c))) (hP : σ o = P) (hi : inb i n = true) (hd : decode cc pc = .ok (.iastore, 1) ∧ pc + 1 = nx) (kk : WW X G nL (setO σ o (up2 P c (ix i) x)) lm nx L st) : WW X G nL σ lm pc L (.int x :: .int i :: .ref (gA G o c) :: st) := by
  intro H locs ls hw hS hl
  obtain ⟨hx, hb, hml, hown, hts, hlo, hK, hI, hSF⟩ := hX
  obtain ⟨hd, rfl⟩ := hd
  subst hP
  obtain ⟨q0, hq⟩ := prs_in ho hk hc
  have h1 := wl_at (G := G) (σ := σ) (lm := lm) hq
  rw [ho, he] at h1
  refine va_iast hx hb hK hw (wl_D hI) hS q0 0 h1 rfl (inb_in hi) hd (fun H1 locs1 hP1 hD1 hS1 => ?_)
  rw [wl_setI (f := upd (σ o c) (ix i) x) hq (by rw [ho, he, setO_s])] at hP1
  exact kk H1 locs1 ls hP1 hS1 hl
theorem r_zast {o k c n : Nat} {P : Pm} {i x : Int32} (hz : x = 0 ∨ x = 1) (hX : Cx X G own cc nL) (ho : kdo o = k) (hk : k < 8) (hc : c ∈ cls k) (he : ∀ P Q, eK k G o P Q c = .inl (gC G 2, n, .inl (P c))) (hP : σ o = P) (hi : inb i n = true) (hd : decode cc pc = .ok (.bastore, 1) ∧ pc + 1 = nx) (kk : WW X G nL (setO σ o (up2 P c (ix i) x)) lm nx L st) : WW X G nL σ lm pc L (.int x :: .int i :: .ref (gA G o c) :: st) := by
  intro H locs ls hw hS hl
  obtain ⟨hx, hb, hml, hown, hts, hlo, hK, hI, hSF⟩ := hX
  obtain ⟨hd, rfl⟩ := hd
  subst hP
  obtain ⟨q0, hq⟩ := prs_in ho hk hc
  have h1 := wl_at (G := G) (σ := σ) (lm := lm) hq
  rw [ho, he] at h1
  refine va_zast hx hb hK hw (wl_D hI) hS q0 2 h1 rfl (inb_in hi) hd (fun H1 locs1 hP1 hD1 hS1 => ?_)
  rw [zb_v hz] at hP1
  rw [wl_setI (f := upd (σ o c) (ix i) x) hq (by rw [ho, he, setO_s])] at hP1
  exact kk H1 locs1 ls hP1 hS1 hl
theorem r_last {o k c n : Nat} {Q : Pl} {i : Int32} {x : Int64} (hX : Cx X G own cc nL) (ho : kdo o = k) (hk : k < 8) (hc : c ∈ cls k) (he : ∀ P Q, eK k G o P Q c = .inl (gC G 1, n, .inr (.inl (Q c)))) (hQ : lm o = Q) (hi : inb i n = true) (hd : decode cc pc = .ok (.lastore, 1) ∧ pc + 1 = nx) (kk : WW X G nL σ (setO lm o (up2L Q c (ix i) x)) nx L st) : WW X G nL σ lm pc L (.long x :: .int i :: .ref (gA G o c) :: st) := by
  intro H locs ls hw hS hl
  obtain ⟨hx, hb, hml, hown, hts, hlo, hK, hI, hSF⟩ := hX
  obtain ⟨hd, rfl⟩ := hd
  subst hQ
  obtain ⟨q0, hq⟩ := prs_in ho hk hc
  have h1 := wl_at (G := G) (σ := σ) (lm := lm) hq
  rw [ho, he] at h1
  refine va_last hx hb hK hw (wl_D hI) hS q0 1 h1 rfl (inb_in hi) hd (fun H1 locs1 hP1 hD1 hS1 => ?_)
  rw [wl_setL (f := vp_updL (lm o c) (ix i) x) hq (by rw [ho, he, setO_s])] at hP1
  exact kk H1 locs1 ls hP1 hS1 hl
end Rows

theorem gf_0_0 {X : MX} {G : GE} {own : String} {cc : ByteArray} {nL : Nat} {σ : Mm} {lm : Ml} {pc nx o index : Nat} {P : Pm} {L : List (Nat × Value)} {st : List Value} (hX : Cx X G own cc nL) (hlk : Cond.fieldLink own index "WellLendsDepth$Actor" "ran" "I" ∈ gT) (ho : kdo o = 0) (hP : σ o = P) (hd : decode cc pc = .ok (.getfield index, 3) ∧ pc + 3 = nx) (kk : WW X G nL σ lm nx L (.int (P 0 0) :: st)) : WW X G nL σ lm pc L (.ref (gA G o 0) :: st) := r_get hX zin0 hlk ho rfl 0 (by decide) rfl rfl hP rfl hd kk
theorem pf_0_0 {X : MX} {G : GE} {own : String} {cc : ByteArray} {nL : Nat} {σ : Mm} {lm : Ml} {pc nx o index : Nat} {P : Pm} {x : Int32} {L : List (Nat × Value)} {st : List Value} (hX : Cx X G own cc nL) (hlk : Cond.fieldLink own index "WellLendsDepth$Actor" "ran" "I" ∈ gT) (ho : kdo o = 0) (hP : σ o = P) (hd : decode cc pc = .ok (.putfield index, 3) ∧ pc + 3 = nx) (kk : WW X G nL (setO σ o (up2 P 0 0 x)) lm nx L st) : WW X G nL σ lm pc L (.int x :: .ref (gA G o 0) :: st) := r_put hX zin0 zty0 zok0 znm0 hlk ho rfl 0 (by decide) rfl rfl rfl rfl rfl rfl hP (fun S => rfl) hd kk
theorem gf_0_1 {X : MX} {G : GE} {own : String} {cc : ByteArray} {nL : Nat} {σ : Mm} {lm : Ml} {pc nx o index : Nat} {P : Pm} {L : List (Nat × Value)} {st : List Value} (hX : Cx X G own cc nL) (hlk : Cond.fieldLink own index "WellLendsDepth$Actor" "trace" "[I" ∈ gT) (ho : kdo o = 0) (hP : σ o = P) (hd : decode cc pc = .ok (.getfield index, 3) ∧ pc + 3 = nx) (kk : WW X G nL σ lm nx L (.ref (gA G o 2) :: st)) : WW X G nL σ lm pc L (.ref (gA G o 0) :: st) := r_get hX zin0 hlk ho rfl 1 (by decide) rfl rfl hP rfl hd kk
theorem gf_0_2 {X : MX} {G : GE} {own : String} {cc : ByteArray} {nL : Nat} {σ : Mm} {lm : Ml} {pc nx o index : Nat} {P : Pm} {L : List (Nat × Value)} {st : List Value} (hX : Cx X G own cc nL) (hlk : Cond.fieldLink own index "WellLendsDepth$Actor" "number" "I" ∈ gT) (ho : kdo o = 0) (hP : σ o = P) (hd : decode cc pc = .ok (.getfield index, 3) ∧ pc + 3 = nx) (kk : WW X G nL σ lm nx L (.int (P 0 2) :: st)) : WW X G nL σ lm pc L (.ref (gA G o 0) :: st) := r_get hX zin0 hlk ho rfl 2 (by decide) rfl rfl hP rfl hd kk
theorem pf_0_2 {X : MX} {G : GE} {own : String} {cc : ByteArray} {nL : Nat} {σ : Mm} {lm : Ml} {pc nx o index : Nat} {P : Pm} {x : Int32} {L : List (Nat × Value)} {st : List Value} (hX : Cx X G own cc nL) (hlk : Cond.fieldLink own index "WellLendsDepth$Actor" "number" "I" ∈ gT) (ho : kdo o = 0) (hP : σ o = P) (hd : decode cc pc = .ok (.putfield index, 3) ∧ pc + 3 = nx) (kk : WW X G nL (setO σ o (up2 P 0 2 x)) lm nx L st) : WW X G nL σ lm pc L (.int x :: .ref (gA G o 0) :: st) := r_put hX zin0 zty0 zok0 znm0 hlk ho rfl 2 (by decide) rfl rfl rfl rfl rfl rfl hP (fun S => rfl) hd kk
theorem gf_0_3 {X : MX} {G : GE} {own : String} {cc : ByteArray} {nL : Nat} {σ : Mm} {lm : Ml} {pc nx o index : Nat} {P : Pm} {L : List (Nat × Value)} {st : List Value} (hX : Cx X G own cc nL) (hlk : Cond.fieldLink own index "WellLendsDepth$Actor" "kind" "I" ∈ gT) (ho : kdo o = 0) (hP : σ o = P) (hd : decode cc pc = .ok (.getfield index, 3) ∧ pc + 3 = nx) (kk : WW X G nL σ lm nx L (.int (P 0 3) :: st)) : WW X G nL σ lm pc L (.ref (gA G o 0) :: st) := r_get hX zin0 hlk ho rfl 3 (by decide) rfl rfl hP rfl hd kk
theorem pf_0_3 {X : MX} {G : GE} {own : String} {cc : ByteArray} {nL : Nat} {σ : Mm} {lm : Ml} {pc nx o index : Nat} {P : Pm} {x : Int32} {L : List (Nat × Value)} {st : List Value} (hX : Cx X G own cc nL) (hlk : Cond.fieldLink own index "WellLendsDepth$Actor" "kind" "I" ∈ gT) (ho : kdo o = 0) (hP : σ o = P) (hd : decode cc pc = .ok (.putfield index, 3) ∧ pc + 3 = nx) (kk : WW X G nL (setO σ o (up2 P 0 3 x)) lm nx L st) : WW X G nL σ lm pc L (.int x :: .ref (gA G o 0) :: st) := r_put hX zin0 zty0 zok0 znm0 hlk ho rfl 3 (by decide) rfl rfl rfl rfl rfl rfl hP (fun S => rfl) hd kk
theorem gf_0_4 {X : MX} {G : GE} {own : String} {cc : ByteArray} {nL : Nat} {σ : Mm} {lm : Ml} {pc nx o index : Nat} {P : Pm} {L : List (Nat × Value)} {st : List Value} (hX : Cx X G own cc nL) (hlk : Cond.fieldLink own index "WellLendsDepth$Actor" "v" "I" ∈ gT) (ho : kdo o = 0) (hP : σ o = P) (hd : decode cc pc = .ok (.getfield index, 3) ∧ pc + 3 = nx) (kk : WW X G nL σ lm nx L (.int (P 0 4) :: st)) : WW X G nL σ lm pc L (.ref (gA G o 0) :: st) := r_get hX zin0 hlk ho rfl 4 (by decide) rfl rfl hP rfl hd kk
theorem pf_0_4 {X : MX} {G : GE} {own : String} {cc : ByteArray} {nL : Nat} {σ : Mm} {lm : Ml} {pc nx o index : Nat} {P : Pm} {x : Int32} {L : List (Nat × Value)} {st : List Value} (hX : Cx X G own cc nL) (hlk : Cond.fieldLink own index "WellLendsDepth$Actor" "v" "I" ∈ gT) (ho : kdo o = 0) (hP : σ o = P) (hd : decode cc pc = .ok (.putfield index, 3) ∧ pc + 3 = nx) (kk : WW X G nL (setO σ o (up2 P 0 4 x)) lm nx L st) : WW X G nL σ lm pc L (.int x :: .ref (gA G o 0) :: st) := r_put hX zin0 zty0 zok0 znm0 hlk ho rfl 4 (by decide) rfl rfl rfl rfl rfl rfl hP (fun S => rfl) hd kk
theorem gf_1_0 {X : MX} {G : GE} {own : String} {cc : ByteArray} {nL : Nat} {σ : Mm} {lm : Ml} {pc nx o index : Nat} {P : Pm} {L : List (Nat × Value)} {st : List Value} (hX : Cx X G own cc nL) (hlk : Cond.fieldLink own index "WellLendsDepth$Country" "mark" "I" ∈ gT) (ho : kdo o = 1) (hP : σ o = P) (hd : decode cc pc = .ok (.getfield index, 3) ∧ pc + 3 = nx) (kk : WW X G nL σ lm nx L (.int (P 0 0) :: st)) : WW X G nL σ lm pc L (.ref (gA G o 0) :: st) := r_get hX zin1 hlk ho rfl 0 (by decide) rfl rfl hP rfl hd kk
theorem pf_1_0 {X : MX} {G : GE} {own : String} {cc : ByteArray} {nL : Nat} {σ : Mm} {lm : Ml} {pc nx o index : Nat} {P : Pm} {x : Int32} {L : List (Nat × Value)} {st : List Value} (hX : Cx X G own cc nL) (hlk : Cond.fieldLink own index "WellLendsDepth$Country" "mark" "I" ∈ gT) (ho : kdo o = 1) (hP : σ o = P) (hd : decode cc pc = .ok (.putfield index, 3) ∧ pc + 3 = nx) (kk : WW X G nL (setO σ o (up2 P 0 0 x)) lm nx L st) : WW X G nL σ lm pc L (.int x :: .ref (gA G o 0) :: st) := r_put hX zin1 zty1 zok1 znm1 hlk ho rfl 0 (by decide) rfl rfl rfl rfl rfl rfl hP (fun S => rfl) hd kk
theorem gf_1_1 {X : MX} {G : GE} {own : String} {cc : ByteArray} {nL : Nat} {σ : Mm} {lm : Ml} {pc nx o index : Nat} {P : Pm} {L : List (Nat × Value)} {st : List Value} (hX : Cx X G own cc nL) (hlk : Cond.fieldLink own index "WellLendsDepth$Country" "spring" "I" ∈ gT) (ho : kdo o = 1) (hP : σ o = P) (hd : decode cc pc = .ok (.getfield index, 3) ∧ pc + 3 = nx) (kk : WW X G nL σ lm nx L (.int (P 0 1) :: st)) : WW X G nL σ lm pc L (.ref (gA G o 0) :: st) := r_get hX zin1 hlk ho rfl 1 (by decide) rfl rfl hP rfl hd kk
theorem pf_1_1 {X : MX} {G : GE} {own : String} {cc : ByteArray} {nL : Nat} {σ : Mm} {lm : Ml} {pc nx o index : Nat} {P : Pm} {x : Int32} {L : List (Nat × Value)} {st : List Value} (hX : Cx X G own cc nL) (hlk : Cond.fieldLink own index "WellLendsDepth$Country" "spring" "I" ∈ gT) (ho : kdo o = 1) (hP : σ o = P) (hd : decode cc pc = .ok (.putfield index, 3) ∧ pc + 3 = nx) (kk : WW X G nL (setO σ o (up2 P 0 1 x)) lm nx L st) : WW X G nL σ lm pc L (.int x :: .ref (gA G o 0) :: st) := r_put hX zin1 zty1 zok1 znm1 hlk ho rfl 1 (by decide) rfl rfl rfl rfl rfl rfl hP (fun S => rfl) hd kk
theorem gf_1_2 {X : MX} {G : GE} {own : String} {cc : ByteArray} {nL : Nat} {σ : Mm} {lm : Ml} {pc nx o index : Nat} {P : Pm} {L : List (Nat × Value)} {st : List Value} (hX : Cx X G own cc nL) (hlk : Cond.fieldLink own index "WellLendsDepth$Country" "fine" "I" ∈ gT) (ho : kdo o = 1) (hP : σ o = P) (hd : decode cc pc = .ok (.getfield index, 3) ∧ pc + 3 = nx) (kk : WW X G nL σ lm nx L (.int (P 0 2) :: st)) : WW X G nL σ lm pc L (.ref (gA G o 0) :: st) := r_get hX zin1 hlk ho rfl 2 (by decide) rfl rfl hP rfl hd kk
theorem pf_1_2 {X : MX} {G : GE} {own : String} {cc : ByteArray} {nL : Nat} {σ : Mm} {lm : Ml} {pc nx o index : Nat} {P : Pm} {x : Int32} {L : List (Nat × Value)} {st : List Value} (hX : Cx X G own cc nL) (hlk : Cond.fieldLink own index "WellLendsDepth$Country" "fine" "I" ∈ gT) (ho : kdo o = 1) (hP : σ o = P) (hd : decode cc pc = .ok (.putfield index, 3) ∧ pc + 3 = nx) (kk : WW X G nL (setO σ o (up2 P 0 2 x)) lm nx L st) : WW X G nL σ lm pc L (.int x :: .ref (gA G o 0) :: st) := r_put hX zin1 zty1 zok1 znm1 hlk ho rfl 2 (by decide) rfl rfl rfl rfl rfl rfl hP (fun S => rfl) hd kk
theorem gf_1_3 {X : MX} {G : GE} {own : String} {cc : ByteArray} {nL : Nat} {σ : Mm} {lm : Ml} {pc nx o index : Nat} {P : Pm} {L : List (Nat × Value)} {st : List Value} (hX : Cx X G own cc nL) (hlk : Cond.fieldLink own index "WellLendsDepth$Country" "prices" "I" ∈ gT) (ho : kdo o = 1) (hP : σ o = P) (hd : decode cc pc = .ok (.getfield index, 3) ∧ pc + 3 = nx) (kk : WW X G nL σ lm nx L (.int (P 0 3) :: st)) : WW X G nL σ lm pc L (.ref (gA G o 0) :: st) := r_get hX zin1 hlk ho rfl 3 (by decide) rfl rfl hP rfl hd kk
theorem pf_1_3 {X : MX} {G : GE} {own : String} {cc : ByteArray} {nL : Nat} {σ : Mm} {lm : Ml} {pc nx o index : Nat} {P : Pm} {x : Int32} {L : List (Nat × Value)} {st : List Value} (hX : Cx X G own cc nL) (hlk : Cond.fieldLink own index "WellLendsDepth$Country" "prices" "I" ∈ gT) (ho : kdo o = 1) (hP : σ o = P) (hd : decode cc pc = .ok (.putfield index, 3) ∧ pc + 3 = nx) (kk : WW X G nL (setO σ o (up2 P 0 3 x)) lm nx L st) : WW X G nL σ lm pc L (.int x :: .ref (gA G o 0) :: st) := r_put hX zin1 zty1 zok1 znm1 hlk ho rfl 3 (by decide) rfl rfl rfl rfl rfl rfl hP (fun S => rfl) hd kk
theorem gf_1_4 {X : MX} {G : GE} {own : String} {cc : ByteArray} {nL : Nat} {σ : Mm} {lm : Ml} {pc nx o index : Nat} {P : Pm} {L : List (Nat × Value)} {st : List Value} (hX : Cx X G own cc nL) (hlk : Cond.fieldLink own index "WellLendsDepth$Country" "used" "I" ∈ gT) (ho : kdo o = 1) (hP : σ o = P) (hd : decode cc pc = .ok (.getfield index, 3) ∧ pc + 3 = nx) (kk : WW X G nL σ lm nx L (.int (P 0 4) :: st)) : WW X G nL σ lm pc L (.ref (gA G o 0) :: st) := r_get hX zin1 hlk ho rfl 4 (by decide) rfl rfl hP rfl hd kk
theorem pf_1_4 {X : MX} {G : GE} {own : String} {cc : ByteArray} {nL : Nat} {σ : Mm} {lm : Ml} {pc nx o index : Nat} {P : Pm} {x : Int32} {L : List (Nat × Value)} {st : List Value} (hX : Cx X G own cc nL) (hlk : Cond.fieldLink own index "WellLendsDepth$Country" "used" "I" ∈ gT) (ho : kdo o = 1) (hP : σ o = P) (hd : decode cc pc = .ok (.putfield index, 3) ∧ pc + 3 = nx) (kk : WW X G nL (setO σ o (up2 P 0 4 x)) lm nx L st) : WW X G nL σ lm pc L (.int x :: .ref (gA G o 0) :: st) := r_put hX zin1 zty1 zok1 znm1 hlk ho rfl 4 (by decide) rfl rfl rfl rfl rfl rfl hP (fun S => rfl) hd kk
theorem gf_1_5 {X : MX} {G : GE} {own : String} {cc : ByteArray} {nL : Nat} {σ : Mm} {lm : Ml} {pc nx o index : Nat} {P : Pm} {L : List (Nat × Value)} {st : List Value} (hX : Cx X G own cc nL) (hlk : Cond.fieldLink own index "WellLendsDepth$Country" "price" "[I" ∈ gT) (ho : kdo o = 1) (hP : σ o = P) (hd : decode cc pc = .ok (.getfield index, 3) ∧ pc + 3 = nx) (kk : WW X G nL σ lm nx L (.ref (gA G o 6) :: st)) : WW X G nL σ lm pc L (.ref (gA G o 0) :: st) := r_get hX zin1 hlk ho rfl 5 (by decide) rfl rfl hP rfl hd kk
theorem gf_1_6 {X : MX} {G : GE} {own : String} {cc : ByteArray} {nL : Nat} {σ : Mm} {lm : Ml} {pc nx o index : Nat} {P : Pm} {L : List (Nat × Value)} {st : List Value} (hX : Cx X G own cc nL) (hlk : Cond.fieldLink own index "WellLendsDepth$Country" "ends" "[I" ∈ gT) (ho : kdo o = 1) (hP : σ o = P) (hd : decode cc pc = .ok (.getfield index, 3) ∧ pc + 3 = nx) (kk : WW X G nL σ lm nx L (.ref (gA G o 7) :: st)) : WW X G nL σ lm pc L (.ref (gA G o 0) :: st) := r_get hX zin1 hlk ho rfl 6 (by decide) rfl rfl hP rfl hd kk
theorem gf_1_7 {X : MX} {G : GE} {own : String} {cc : ByteArray} {nL : Nat} {σ : Mm} {lm : Ml} {pc nx o index : Nat} {P : Pm} {L : List (Nat × Value)} {st : List Value} (hX : Cx X G own cc nL) (hlk : Cond.fieldLink own index "WellLendsDepth$Country" "step" "[I" ∈ gT) (ho : kdo o = 1) (hP : σ o = P) (hd : decode cc pc = .ok (.getfield index, 3) ∧ pc + 3 = nx) (kk : WW X G nL σ lm nx L (.ref (gA G o 8) :: st)) : WW X G nL σ lm pc L (.ref (gA G o 0) :: st) := r_get hX zin1 hlk ho rfl 7 (by decide) rfl rfl hP rfl hd kk
theorem gf_1_8 {X : MX} {G : GE} {own : String} {cc : ByteArray} {nL : Nat} {σ : Mm} {lm : Ml} {pc nx o index : Nat} {P : Pm} {L : List (Nat × Value)} {st : List Value} (hX : Cx X G own cc nL) (hlk : Cond.fieldLink own index "WellLendsDepth$Country" "about" "[I" ∈ gT) (ho : kdo o = 1) (hP : σ o = P) (hd : decode cc pc = .ok (.getfield index, 3) ∧ pc + 3 = nx) (kk : WW X G nL σ lm nx L (.ref (gA G o 9) :: st)) : WW X G nL σ lm pc L (.ref (gA G o 0) :: st) := r_get hX zin1 hlk ho rfl 8 (by decide) rfl rfl hP rfl hd kk
theorem gf_1_9 {X : MX} {G : GE} {own : String} {cc : ByteArray} {nL : Nat} {σ : Mm} {lm : Ml} {pc nx o index : Nat} {P : Pm} {L : List (Nat × Value)} {st : List Value} (hX : Cx X G own cc nL) (hlk : Cond.fieldLink own index "WellLendsDepth$Country" "number" "[I" ∈ gT) (ho : kdo o = 1) (hP : σ o = P) (hd : decode cc pc = .ok (.getfield index, 3) ∧ pc + 3 = nx) (kk : WW X G nL σ lm nx L (.ref (gA G o 10) :: st)) : WW X G nL σ lm pc L (.ref (gA G o 0) :: st) := r_get hX zin1 hlk ho rfl 9 (by decide) rfl rfl hP rfl hd kk
theorem gf_1_10 {X : MX} {G : GE} {own : String} {cc : ByteArray} {nL : Nat} {σ : Mm} {lm : Ml} {pc nx o index : Nat} {P : Pm} {L : List (Nat × Value)} {st : List Value} (hX : Cx X G own cc nL) (hlk : Cond.fieldLink own index "WellLendsDepth$Country" "facts" "[I" ∈ gT) (ho : kdo o = 1) (hP : σ o = P) (hd : decode cc pc = .ok (.getfield index, 3) ∧ pc + 3 = nx) (kk : WW X G nL σ lm nx L (.ref (gA G o 11) :: st)) : WW X G nL σ lm pc L (.ref (gA G o 0) :: st) := r_get hX zin1 hlk ho rfl 10 (by decide) rfl rfl hP rfl hd kk
theorem gf_2_0 {X : MX} {G : GE} {own : String} {cc : ByteArray} {nL : Nat} {σ : Mm} {lm : Ml} {pc nx o index : Nat} {P : Pm} {L : List (Nat × Value)} {st : List Value} (hX : Cx X G own cc nL) (hlk : Cond.fieldLink own index "WellLendsDepth$Hand" "seenCount" "I" ∈ gT) (ho : kdo o = 2) (hP : σ o = P) (hd : decode cc pc = .ok (.getfield index, 3) ∧ pc + 3 = nx) (kk : WW X G nL σ lm nx L (.int (P 0 0) :: st)) : WW X G nL σ lm pc L (.ref (gA G o 0) :: st) := r_get hX zin2 hlk ho rfl 0 (by decide) rfl rfl hP rfl hd kk
theorem pf_2_0 {X : MX} {G : GE} {own : String} {cc : ByteArray} {nL : Nat} {σ : Mm} {lm : Ml} {pc nx o index : Nat} {P : Pm} {x : Int32} {L : List (Nat × Value)} {st : List Value} (hX : Cx X G own cc nL) (hlk : Cond.fieldLink own index "WellLendsDepth$Hand" "seenCount" "I" ∈ gT) (ho : kdo o = 2) (hP : σ o = P) (hd : decode cc pc = .ok (.putfield index, 3) ∧ pc + 3 = nx) (kk : WW X G nL (setO σ o (up2 P 0 0 x)) lm nx L st) : WW X G nL σ lm pc L (.int x :: .ref (gA G o 0) :: st) := r_put hX zin2 zty2 zok2 znm2 hlk ho rfl 0 (by decide) rfl rfl rfl rfl rfl rfl hP (fun S => rfl) hd kk
theorem gf_2_1 {X : MX} {G : GE} {own : String} {cc : ByteArray} {nL : Nat} {σ : Mm} {lm : Ml} {pc nx o index : Nat} {P : Pm} {L : List (Nat × Value)} {st : List Value} (hX : Cx X G own cc nL) (hlk : Cond.fieldLink own index "WellLendsDepth$Hand" "yearCount" "I" ∈ gT) (ho : kdo o = 2) (hP : σ o = P) (hd : decode cc pc = .ok (.getfield index, 3) ∧ pc + 3 = nx) (kk : WW X G nL σ lm nx L (.int (P 0 1) :: st)) : WW X G nL σ lm pc L (.ref (gA G o 0) :: st) := r_get hX zin2 hlk ho rfl 1 (by decide) rfl rfl hP rfl hd kk
theorem pf_2_1 {X : MX} {G : GE} {own : String} {cc : ByteArray} {nL : Nat} {σ : Mm} {lm : Ml} {pc nx o index : Nat} {P : Pm} {x : Int32} {L : List (Nat × Value)} {st : List Value} (hX : Cx X G own cc nL) (hlk : Cond.fieldLink own index "WellLendsDepth$Hand" "yearCount" "I" ∈ gT) (ho : kdo o = 2) (hP : σ o = P) (hd : decode cc pc = .ok (.putfield index, 3) ∧ pc + 3 = nx) (kk : WW X G nL (setO σ o (up2 P 0 1 x)) lm nx L st) : WW X G nL σ lm pc L (.int x :: .ref (gA G o 0) :: st) := r_put hX zin2 zty2 zok2 znm2 hlk ho rfl 1 (by decide) rfl rfl rfl rfl rfl rfl hP (fun S => rfl) hd kk
theorem gf_2_2 {X : MX} {G : GE} {own : String} {cc : ByteArray} {nL : Nat} {σ : Mm} {lm : Ml} {pc nx o index : Nat} {P : Pm} {L : List (Nat × Value)} {st : List Value} (hX : Cx X G own cc nL) (hlk : Cond.fieldLink own index "WellLendsDepth$Hand" "bookCount" "I" ∈ gT) (ho : kdo o = 2) (hP : σ o = P) (hd : decode cc pc = .ok (.getfield index, 3) ∧ pc + 3 = nx) (kk : WW X G nL σ lm nx L (.int (P 0 2) :: st)) : WW X G nL σ lm pc L (.ref (gA G o 0) :: st) := r_get hX zin2 hlk ho rfl 2 (by decide) rfl rfl hP rfl hd kk
theorem pf_2_2 {X : MX} {G : GE} {own : String} {cc : ByteArray} {nL : Nat} {σ : Mm} {lm : Ml} {pc nx o index : Nat} {P : Pm} {x : Int32} {L : List (Nat × Value)} {st : List Value} (hX : Cx X G own cc nL) (hlk : Cond.fieldLink own index "WellLendsDepth$Hand" "bookCount" "I" ∈ gT) (ho : kdo o = 2) (hP : σ o = P) (hd : decode cc pc = .ok (.putfield index, 3) ∧ pc + 3 = nx) (kk : WW X G nL (setO σ o (up2 P 0 2 x)) lm nx L st) : WW X G nL σ lm pc L (.int x :: .ref (gA G o 0) :: st) := r_put hX zin2 zty2 zok2 znm2 hlk ho rfl 2 (by decide) rfl rfl rfl rfl rfl rfl hP (fun S => rfl) hd kk
theorem gf_2_3 {X : MX} {G : GE} {own : String} {cc : ByteArray} {nL : Nat} {σ : Mm} {lm : Ml} {pc nx o index : Nat} {P : Pm} {L : List (Nat × Value)} {st : List Value} (hX : Cx X G own cc nL) (hlk : Cond.fieldLink own index "WellLendsDepth$Hand" "seenDepth" "[I" ∈ gT) (ho : kdo o = 2) (hP : σ o = P) (hd : decode cc pc = .ok (.getfield index, 3) ∧ pc + 3 = nx) (kk : WW X G nL σ lm nx L (.ref (gA G o 4) :: st)) : WW X G nL σ lm pc L (.ref (gA G o 0) :: st) := r_get hX zin2 hlk ho rfl 3 (by decide) rfl rfl hP rfl hd kk
theorem gf_2_4 {X : MX} {G : GE} {own : String} {cc : ByteArray} {nL : Nat} {σ : Mm} {lm : Ml} {pc nx o index : Nat} {P : Pm} {L : List (Nat × Value)} {st : List Value} (hX : Cx X G own cc nL) (hlk : Cond.fieldLink own index "WellLendsDepth$Hand" "seenBehind" "[I" ∈ gT) (ho : kdo o = 2) (hP : σ o = P) (hd : decode cc pc = .ok (.getfield index, 3) ∧ pc + 3 = nx) (kk : WW X G nL σ lm nx L (.ref (gA G o 5) :: st)) : WW X G nL σ lm pc L (.ref (gA G o 0) :: st) := r_get hX zin2 hlk ho rfl 4 (by decide) rfl rfl hP rfl hd kk
theorem gf_2_5 {X : MX} {G : GE} {own : String} {cc : ByteArray} {nL : Nat} {σ : Mm} {lm : Ml} {pc nx o index : Nat} {P : Pm} {L : List (Nat × Value)} {st : List Value} (hX : Cx X G own cc nL) (hlk : Cond.fieldLink own index "WellLendsDepth$Hand" "yearWhat" "[I" ∈ gT) (ho : kdo o = 2) (hP : σ o = P) (hd : decode cc pc = .ok (.getfield index, 3) ∧ pc + 3 = nx) (kk : WW X G nL σ lm nx L (.ref (gA G o 6) :: st)) : WW X G nL σ lm pc L (.ref (gA G o 0) :: st) := r_get hX zin2 hlk ho rfl 5 (by decide) rfl rfl hP rfl hd kk
theorem gf_2_6 {X : MX} {G : GE} {own : String} {cc : ByteArray} {nL : Nat} {σ : Mm} {lm : Ml} {pc nx o index : Nat} {P : Pm} {L : List (Nat × Value)} {st : List Value} (hX : Cx X G own cc nL) (hlk : Cond.fieldLink own index "WellLendsDepth$Hand" "yearWho" "[I" ∈ gT) (ho : kdo o = 2) (hP : σ o = P) (hd : decode cc pc = .ok (.getfield index, 3) ∧ pc + 3 = nx) (kk : WW X G nL σ lm nx L (.ref (gA G o 7) :: st)) : WW X G nL σ lm pc L (.ref (gA G o 0) :: st) := r_get hX zin2 hlk ho rfl 6 (by decide) rfl rfl hP rfl hd kk
theorem gf_2_7 {X : MX} {G : GE} {own : String} {cc : ByteArray} {nL : Nat} {σ : Mm} {lm : Ml} {pc nx o index : Nat} {P : Pm} {L : List (Nat × Value)} {st : List Value} (hX : Cx X G own cc nL) (hlk : Cond.fieldLink own index "WellLendsDepth$Hand" "bookWho" "[I" ∈ gT) (ho : kdo o = 2) (hP : σ o = P) (hd : decode cc pc = .ok (.getfield index, 3) ∧ pc + 3 = nx) (kk : WW X G nL σ lm nx L (.ref (gA G o 8) :: st)) : WW X G nL σ lm pc L (.ref (gA G o 0) :: st) := r_get hX zin2 hlk ho rfl 7 (by decide) rfl rfl hP rfl hd kk
theorem gf_2_8 {X : MX} {G : GE} {own : String} {cc : ByteArray} {nL : Nat} {σ : Mm} {lm : Ml} {pc nx o index : Nat} {P : Pm} {L : List (Nat × Value)} {st : List Value} (hX : Cx X G own cc nL) (hlk : Cond.fieldLink own index "WellLendsDepth$Hand" "bookOwes" "[I" ∈ gT) (ho : kdo o = 2) (hP : σ o = P) (hd : decode cc pc = .ok (.getfield index, 3) ∧ pc + 3 = nx) (kk : WW X G nL σ lm nx L (.ref (gA G o 9) :: st)) : WW X G nL σ lm pc L (.ref (gA G o 0) :: st) := r_get hX zin2 hlk ho rfl 8 (by decide) rfl rfl hP rfl hd kk
theorem gf_3_0 {X : MX} {G : GE} {own : String} {cc : ByteArray} {nL : Nat} {σ : Mm} {lm : Ml} {pc nx o index : Nat} {P : Pm} {L : List (Nat × Value)} {st : List Value} (hX : Cx X G own cc nL) (hlk : Cond.fieldLink own index "WellLendsDepth$Reader" "length" "I" ∈ gT) (ho : kdo o = 3) (hP : σ o = P) (hd : decode cc pc = .ok (.getfield index, 3) ∧ pc + 3 = nx) (kk : WW X G nL σ lm nx L (.int (P 0 0) :: st)) : WW X G nL σ lm pc L (.ref (gA G o 0) :: st) := r_get hX zin3 hlk ho rfl 0 (by decide) rfl rfl hP rfl hd kk
theorem pf_3_0 {X : MX} {G : GE} {own : String} {cc : ByteArray} {nL : Nat} {σ : Mm} {lm : Ml} {pc nx o index : Nat} {P : Pm} {x : Int32} {L : List (Nat × Value)} {st : List Value} (hX : Cx X G own cc nL) (hlk : Cond.fieldLink own index "WellLendsDepth$Reader" "length" "I" ∈ gT) (ho : kdo o = 3) (hP : σ o = P) (hd : decode cc pc = .ok (.putfield index, 3) ∧ pc + 3 = nx) (kk : WW X G nL (setO σ o (up2 P 0 0 x)) lm nx L st) : WW X G nL σ lm pc L (.int x :: .ref (gA G o 0) :: st) := r_put hX zin3 zty3 zok3 znm3 hlk ho rfl 0 (by decide) rfl rfl rfl rfl rfl rfl hP (fun S => rfl) hd kk
theorem gf_3_1 {X : MX} {G : GE} {own : String} {cc : ByteArray} {nL : Nat} {σ : Mm} {lm : Ml} {pc nx o index : Nat} {P : Pm} {L : List (Nat × Value)} {st : List Value} (hX : Cx X G own cc nL) (hlk : Cond.fieldLink own index "WellLendsDepth$Reader" "at" "I" ∈ gT) (ho : kdo o = 3) (hP : σ o = P) (hd : decode cc pc = .ok (.getfield index, 3) ∧ pc + 3 = nx) (kk : WW X G nL σ lm nx L (.int (P 0 1) :: st)) : WW X G nL σ lm pc L (.ref (gA G o 0) :: st) := r_get hX zin3 hlk ho rfl 1 (by decide) rfl rfl hP rfl hd kk
theorem pf_3_1 {X : MX} {G : GE} {own : String} {cc : ByteArray} {nL : Nat} {σ : Mm} {lm : Ml} {pc nx o index : Nat} {P : Pm} {x : Int32} {L : List (Nat × Value)} {st : List Value} (hX : Cx X G own cc nL) (hlk : Cond.fieldLink own index "WellLendsDepth$Reader" "at" "I" ∈ gT) (ho : kdo o = 3) (hP : σ o = P) (hd : decode cc pc = .ok (.putfield index, 3) ∧ pc + 3 = nx) (kk : WW X G nL (setO σ o (up2 P 0 1 x)) lm nx L st) : WW X G nL σ lm pc L (.int x :: .ref (gA G o 0) :: st) := r_put hX zin3 zty3 zok3 znm3 hlk ho rfl 1 (by decide) rfl rfl rfl rfl rfl rfl hP (fun S => rfl) hd kk
theorem gf_3_2 {X : MX} {G : GE} {own : String} {cc : ByteArray} {nL : Nat} {σ : Mm} {lm : Ml} {pc nx o index : Nat} {P : Pm} {L : List (Nat × Value)} {st : List Value} (hX : Cx X G own cc nL) (hlk : Cond.fieldLink own index "WellLendsDepth$Reader" "faulty" "Z" ∈ gT) (ho : kdo o = 3) (hP : σ o = P) (hd : decode cc pc = .ok (.getfield index, 3) ∧ pc + 3 = nx) (kk : WW X G nL σ lm nx L (.int (P 0 2) :: st)) : WW X G nL σ lm pc L (.ref (gA G o 0) :: st) := r_get hX zin3 hlk ho rfl 2 (by decide) rfl rfl hP rfl hd kk
theorem pf_3_2 {X : MX} {G : GE} {own : String} {cc : ByteArray} {nL : Nat} {σ : Mm} {lm : Ml} {pc nx o index : Nat} {P : Pm} {x : Int32} {L : List (Nat × Value)} {st : List Value} (hz : x = 0 ∨ x = 1) (hX : Cx X G own cc nL) (hlk : Cond.fieldLink own index "WellLendsDepth$Reader" "faulty" "Z" ∈ gT) (ho : kdo o = 3) (hP : σ o = P) (hd : decode cc pc = .ok (.putfield index, 3) ∧ pc + 3 = nx) (kk : WW X G nL (setO σ o (up2 P 0 2 x)) lm nx L st) : WW X G nL σ lm pc L (.int x :: .ref (gA G o 0) :: st) := r_put hX zin3 zty3 zok3 znm3 hlk ho rfl 2 (by decide) rfl rfl rfl (zb_n hz) (zb_f hz) rfl hP (fun S => rfl) hd kk
theorem gf_3_3 {X : MX} {G : GE} {own : String} {cc : ByteArray} {nL : Nat} {σ : Mm} {lm : Ml} {pc nx o index : Nat} {P : Pm} {L : List (Nat × Value)} {st : List Value} (hX : Cx X G own cc nL) (hlk : Cond.fieldLink own index "WellLendsDepth$Reader" "text" "[I" ∈ gT) (ho : kdo o = 3) (hP : σ o = P) (hd : decode cc pc = .ok (.getfield index, 3) ∧ pc + 3 = nx) (kk : WW X G nL σ lm nx L (.ref (gA G o 4) :: st)) : WW X G nL σ lm pc L (.ref (gA G o 0) :: st) := r_get hX zin3 hlk ho rfl 3 (by decide) rfl rfl hP rfl hd kk
theorem gf_3_4 {X : MX} {G : GE} {own : String} {cc : ByteArray} {nL : Nat} {σ : Mm} {lm : Ml} {pc nx o index : Nat} {P : Pm} {L : List (Nat × Value)} {st : List Value} (hX : Cx X G own cc nL) (hlk : Cond.fieldLink own index "WellLendsDepth$Reader" "country" "LWellLendsDepth$Country;" ∈ gT) (ho : kdo o = 3) (hP : σ o = P) (hd : decode cc pc = .ok (.getfield index, 3) ∧ pc + 3 = nx) (kk : WW X G nL σ lm nx L (.ref (gA G (ix (P 0 4)) 0) :: st)) : WW X G nL σ lm pc L (.ref (gA G o 0) :: st) := r_get hX zin3 hlk ho rfl 4 (by decide) rfl rfl hP rfl hd kk
theorem gf_4_0 {X : MX} {G : GE} {own : String} {cc : ByteArray} {nL : Nat} {σ : Mm} {lm : Ml} {pc nx o index : Nat} {P : Pm} {L : List (Nat × Value)} {st : List Value} (hX : Cx X G own cc nL) (hlk : Cond.fieldLink own index "WellLendsDepth$Tapes" "sort" "[I" ∈ gT) (ho : kdo o = 4) (hP : σ o = P) (hd : decode cc pc = .ok (.getfield index, 3) ∧ pc + 3 = nx) (kk : WW X G nL σ lm nx L (.ref (gA G o 1) :: st)) : WW X G nL σ lm pc L (.ref (gA G o 0) :: st) := r_get hX zin4 hlk ho rfl 0 (by decide) rfl rfl hP rfl hd kk
theorem gf_4_1 {X : MX} {G : GE} {own : String} {cc : ByteArray} {nL : Nat} {σ : Mm} {lm : Ml} {pc nx o index : Nat} {P : Pm} {L : List (Nat × Value)} {st : List Value} (hX : Cx X G own cc nL) (hlk : Cond.fieldLink own index "WellLendsDepth$Tapes" "size" "[I" ∈ gT) (ho : kdo o = 4) (hP : σ o = P) (hd : decode cc pc = .ok (.getfield index, 3) ∧ pc + 3 = nx) (kk : WW X G nL σ lm nx L (.ref (gA G o 2) :: st)) : WW X G nL σ lm pc L (.ref (gA G o 0) :: st) := r_get hX zin4 hlk ho rfl 1 (by decide) rfl rfl hP rfl hd kk
theorem gf_4_2 {X : MX} {G : GE} {own : String} {cc : ByteArray} {nL : Nat} {σ : Mm} {lm : Ml} {pc nx o index : Nat} {P : Pm} {L : List (Nat × Value)} {st : List Value} (hX : Cx X G own cc nL) (hlk : Cond.fieldLink own index "WellLendsDepth$Tapes" "items" "[[J" ∈ gT) (ho : kdo o = 4) (hP : σ o = P) (hd : decode cc pc = .ok (.getfield index, 3) ∧ pc + 3 = nx) (kk : WW X G nL σ lm nx L (.ref (gA G o 3) :: st)) : WW X G nL σ lm pc L (.ref (gA G o 0) :: st) := r_get hX zin4 hlk ho rfl 2 (by decide) rfl rfl hP rfl hd kk
theorem gf_5_0 {X : MX} {G : GE} {own : String} {cc : ByteArray} {nL : Nat} {σ : Mm} {lm : Ml} {pc nx o index : Nat} {P : Pm} {L : List (Nat × Value)} {st : List Value} (hX : Cx X G own cc nL) (hlk : Cond.fieldLink own index "WellLendsDepth$Well" "depth" "I" ∈ gT) (ho : kdo o = 5) (hP : σ o = P) (hd : decode cc pc = .ok (.getfield index, 3) ∧ pc + 3 = nx) (kk : WW X G nL σ lm nx L (.int (P 0 0) :: st)) : WW X G nL σ lm pc L (.ref (gA G o 0) :: st) := r_get hX zin5 hlk ho rfl 0 (by decide) rfl rfl hP rfl hd kk
theorem pf_5_0 {X : MX} {G : GE} {own : String} {cc : ByteArray} {nL : Nat} {σ : Mm} {lm : Ml} {pc nx o index : Nat} {P : Pm} {x : Int32} {L : List (Nat × Value)} {st : List Value} (hX : Cx X G own cc nL) (hlk : Cond.fieldLink own index "WellLendsDepth$Well" "depth" "I" ∈ gT) (ho : kdo o = 5) (hP : σ o = P) (hd : decode cc pc = .ok (.putfield index, 3) ∧ pc + 3 = nx) (kk : WW X G nL (setO σ o (up2 P 0 0 x)) lm nx L st) : WW X G nL σ lm pc L (.int x :: .ref (gA G o 0) :: st) := r_put hX zin5 zty5 zok5 znm5 hlk ho rfl 0 (by decide) rfl rfl rfl rfl rfl rfl hP (fun S => rfl) hd kk
theorem gf_5_1 {X : MX} {G : GE} {own : String} {cc : ByteArray} {nL : Nat} {σ : Mm} {lm : Ml} {pc nx o index : Nat} {P : Pm} {L : List (Nat × Value)} {st : List Value} (hX : Cx X G own cc nL) (hlk : Cond.fieldLink own index "WellLendsDepth$Well" "day" "I" ∈ gT) (ho : kdo o = 5) (hP : σ o = P) (hd : decode cc pc = .ok (.getfield index, 3) ∧ pc + 3 = nx) (kk : WW X G nL σ lm nx L (.int (P 0 1) :: st)) : WW X G nL σ lm pc L (.ref (gA G o 0) :: st) := r_get hX zin5 hlk ho rfl 1 (by decide) rfl rfl hP rfl hd kk
theorem pf_5_1 {X : MX} {G : GE} {own : String} {cc : ByteArray} {nL : Nat} {σ : Mm} {lm : Ml} {pc nx o index : Nat} {P : Pm} {x : Int32} {L : List (Nat × Value)} {st : List Value} (hX : Cx X G own cc nL) (hlk : Cond.fieldLink own index "WellLendsDepth$Well" "day" "I" ∈ gT) (ho : kdo o = 5) (hP : σ o = P) (hd : decode cc pc = .ok (.putfield index, 3) ∧ pc + 3 = nx) (kk : WW X G nL (setO σ o (up2 P 0 1 x)) lm nx L st) : WW X G nL σ lm pc L (.int x :: .ref (gA G o 0) :: st) := r_put hX zin5 zty5 zok5 znm5 hlk ho rfl 1 (by decide) rfl rfl rfl rfl rfl rfl hP (fun S => rfl) hd kk
theorem gf_5_2 {X : MX} {G : GE} {own : String} {cc : ByteArray} {nL : Nat} {σ : Mm} {lm : Ml} {pc nx o index : Nat} {P : Pm} {L : List (Nat × Value)} {st : List Value} (hX : Cx X G own cc nL) (hlk : Cond.fieldLink own index "WellLendsDepth$Well" "count" "I" ∈ gT) (ho : kdo o = 5) (hP : σ o = P) (hd : decode cc pc = .ok (.getfield index, 3) ∧ pc + 3 = nx) (kk : WW X G nL σ lm nx L (.int (P 0 2) :: st)) : WW X G nL σ lm pc L (.ref (gA G o 0) :: st) := r_get hX zin5 hlk ho rfl 2 (by decide) rfl rfl hP rfl hd kk
theorem pf_5_2 {X : MX} {G : GE} {own : String} {cc : ByteArray} {nL : Nat} {σ : Mm} {lm : Ml} {pc nx o index : Nat} {P : Pm} {x : Int32} {L : List (Nat × Value)} {st : List Value} (hX : Cx X G own cc nL) (hlk : Cond.fieldLink own index "WellLendsDepth$Well" "count" "I" ∈ gT) (ho : kdo o = 5) (hP : σ o = P) (hd : decode cc pc = .ok (.putfield index, 3) ∧ pc + 3 = nx) (kk : WW X G nL (setO σ o (up2 P 0 2 x)) lm nx L st) : WW X G nL σ lm pc L (.int x :: .ref (gA G o 0) :: st) := r_put hX zin5 zty5 zok5 znm5 hlk ho rfl 2 (by decide) rfl rfl rfl rfl rfl rfl hP (fun S => rfl) hd kk
theorem gf_5_3 {X : MX} {G : GE} {own : String} {cc : ByteArray} {nL : Nat} {σ : Mm} {lm : Ml} {pc nx o index : Nat} {P : Pm} {L : List (Nat × Value)} {st : List Value} (hX : Cx X G own cc nL) (hlk : Cond.fieldLink own index "WellLendsDepth$Well" "turned" "I" ∈ gT) (ho : kdo o = 5) (hP : σ o = P) (hd : decode cc pc = .ok (.getfield index, 3) ∧ pc + 3 = nx) (kk : WW X G nL σ lm nx L (.int (P 0 3) :: st)) : WW X G nL σ lm pc L (.ref (gA G o 0) :: st) := r_get hX zin5 hlk ho rfl 3 (by decide) rfl rfl hP rfl hd kk
theorem pf_5_3 {X : MX} {G : GE} {own : String} {cc : ByteArray} {nL : Nat} {σ : Mm} {lm : Ml} {pc nx o index : Nat} {P : Pm} {x : Int32} {L : List (Nat × Value)} {st : List Value} (hX : Cx X G own cc nL) (hlk : Cond.fieldLink own index "WellLendsDepth$Well" "turned" "I" ∈ gT) (ho : kdo o = 5) (hP : σ o = P) (hd : decode cc pc = .ok (.putfield index, 3) ∧ pc + 3 = nx) (kk : WW X G nL (setO σ o (up2 P 0 3 x)) lm nx L st) : WW X G nL σ lm pc L (.int x :: .ref (gA G o 0) :: st) := r_put hX zin5 zty5 zok5 znm5 hlk ho rfl 3 (by decide) rfl rfl rfl rfl rfl rfl hP (fun S => rfl) hd kk
theorem gf_5_4 {X : MX} {G : GE} {own : String} {cc : ByteArray} {nL : Nat} {σ : Mm} {lm : Ml} {pc nx o index : Nat} {P : Pm} {L : List (Nat × Value)} {st : List Value} (hX : Cx X G own cc nL) (hlk : Cond.fieldLink own index "WellLendsDepth$Well" "kind" "[I" ∈ gT) (ho : kdo o = 5) (hP : σ o = P) (hd : decode cc pc = .ok (.getfield index, 3) ∧ pc + 3 = nx) (kk : WW X G nL σ lm nx L (.ref (gA G o 5) :: st)) : WW X G nL σ lm pc L (.ref (gA G o 0) :: st) := r_get hX zin5 hlk ho rfl 4 (by decide) rfl rfl hP rfl hd kk
theorem gf_5_5 {X : MX} {G : GE} {own : String} {cc : ByteArray} {nL : Nat} {σ : Mm} {lm : Ml} {pc nx o index : Nat} {P : Pm} {L : List (Nat × Value)} {st : List Value} (hX : Cx X G own cc nL) (hlk : Cond.fieldLink own index "WellLendsDepth$Well" "v" "[I" ∈ gT) (ho : kdo o = 5) (hP : σ o = P) (hd : decode cc pc = .ok (.getfield index, 3) ∧ pc + 3 = nx) (kk : WW X G nL σ lm nx L (.ref (gA G o 6) :: st)) : WW X G nL σ lm pc L (.ref (gA G o 0) :: st) := r_get hX zin5 hlk ho rfl 5 (by decide) rfl rfl hP rfl hd kk
theorem gf_5_6 {X : MX} {G : GE} {own : String} {cc : ByteArray} {nL : Nat} {σ : Mm} {lm : Ml} {pc nx o index : Nat} {P : Pm} {L : List (Nat × Value)} {st : List Value} (hX : Cx X G own cc nL) (hlk : Cond.fieldLink own index "WellLendsDepth$Well" "wants" "[I" ∈ gT) (ho : kdo o = 5) (hP : σ o = P) (hd : decode cc pc = .ok (.getfield index, 3) ∧ pc + 3 = nx) (kk : WW X G nL σ lm nx L (.ref (gA G o 7) :: st)) : WW X G nL σ lm pc L (.ref (gA G o 0) :: st) := r_get hX zin5 hlk ho rfl 6 (by decide) rfl rfl hP rfl hd kk
theorem gf_5_7 {X : MX} {G : GE} {own : String} {cc : ByteArray} {nL : Nat} {σ : Mm} {lm : Ml} {pc nx o index : Nat} {P : Pm} {L : List (Nat × Value)} {st : List Value} (hX : Cx X G own cc nL) (hlk : Cond.fieldLink own index "WellLendsDepth$Well" "every" "[I" ∈ gT) (ho : kdo o = 5) (hP : σ o = P) (hd : decode cc pc = .ok (.getfield index, 3) ∧ pc + 3 = nx) (kk : WW X G nL σ lm nx L (.ref (gA G o 8) :: st)) : WW X G nL σ lm pc L (.ref (gA G o 0) :: st) := r_get hX zin5 hlk ho rfl 7 (by decide) rfl rfl hP rfl hd kk
theorem gf_5_8 {X : MX} {G : GE} {own : String} {cc : ByteArray} {nL : Nat} {σ : Mm} {lm : Ml} {pc nx o index : Nat} {P : Pm} {L : List (Nat × Value)} {st : List Value} (hX : Cx X G own cc nL) (hlk : Cond.fieldLink own index "WellLendsDepth$Well" "has" "[I" ∈ gT) (ho : kdo o = 5) (hP : σ o = P) (hd : decode cc pc = .ok (.getfield index, 3) ∧ pc + 3 = nx) (kk : WW X G nL σ lm nx L (.ref (gA G o 9) :: st)) : WW X G nL σ lm pc L (.ref (gA G o 0) :: st) := r_get hX zin5 hlk ho rfl 8 (by decide) rfl rfl hP rfl hd kk
theorem gf_5_9 {X : MX} {G : GE} {own : String} {cc : ByteArray} {nL : Nat} {σ : Mm} {lm : Ml} {pc nx o index : Nat} {P : Pm} {L : List (Nat × Value)} {st : List Value} (hX : Cx X G own cc nL) (hlk : Cond.fieldLink own index "WellLendsDepth$Well" "left" "[I" ∈ gT) (ho : kdo o = 5) (hP : σ o = P) (hd : decode cc pc = .ok (.getfield index, 3) ∧ pc + 3 = nx) (kk : WW X G nL σ lm nx L (.ref (gA G o 10) :: st)) : WW X G nL σ lm pc L (.ref (gA G o 0) :: st) := r_get hX zin5 hlk ho rfl 9 (by decide) rfl rfl hP rfl hd kk
theorem gf_5_10 {X : MX} {G : GE} {own : String} {cc : ByteArray} {nL : Nat} {σ : Mm} {lm : Ml} {pc nx o index : Nat} {P : Pm} {L : List (Nat × Value)} {st : List Value} (hX : Cx X G own cc nL) (hlk : Cond.fieldLink own index "WellLendsDepth$Well" "owes" "[I" ∈ gT) (ho : kdo o = 5) (hP : σ o = P) (hd : decode cc pc = .ok (.getfield index, 3) ∧ pc + 3 = nx) (kk : WW X G nL σ lm nx L (.ref (gA G o 11) :: st)) : WW X G nL σ lm pc L (.ref (gA G o 0) :: st) := r_get hX zin5 hlk ho rfl 10 (by decide) rfl rfl hP rfl hd kk
theorem gf_5_11 {X : MX} {G : GE} {own : String} {cc : ByteArray} {nL : Nat} {σ : Mm} {lm : Ml} {pc nx o index : Nat} {P : Pm} {L : List (Nat × Value)} {st : List Value} (hX : Cx X G own cc nL) (hlk : Cond.fieldLink own index "WellLendsDepth$Well" "sent" "[I" ∈ gT) (ho : kdo o = 5) (hP : σ o = P) (hd : decode cc pc = .ok (.getfield index, 3) ∧ pc + 3 = nx) (kk : WW X G nL σ lm nx L (.ref (gA G o 12) :: st)) : WW X G nL σ lm pc L (.ref (gA G o 0) :: st) := r_get hX zin5 hlk ho rfl 11 (by decide) rfl rfl hP rfl hd kk
theorem gf_5_12 {X : MX} {G : GE} {own : String} {cc : ByteArray} {nL : Nat} {σ : Mm} {lm : Ml} {pc nx o index : Nat} {P : Pm} {L : List (Nat × Value)} {st : List Value} (hX : Cx X G own cc nL) (hlk : Cond.fieldLink own index "WellLendsDepth$Well" "line" "[I" ∈ gT) (ho : kdo o = 5) (hP : σ o = P) (hd : decode cc pc = .ok (.getfield index, 3) ∧ pc + 3 = nx) (kk : WW X G nL σ lm nx L (.ref (gA G o 13) :: st)) : WW X G nL σ lm pc L (.ref (gA G o 0) :: st) := r_get hX zin5 hlk ho rfl 12 (by decide) rfl rfl hP rfl hd kk
theorem gf_5_13 {X : MX} {G : GE} {own : String} {cc : ByteArray} {nL : Nat} {σ : Mm} {lm : Ml} {pc nx o index : Nat} {P : Pm} {L : List (Nat × Value)} {st : List Value} (hX : Cx X G own cc nL) (hlk : Cond.fieldLink own index "WellLendsDepth$Well" "rows" "[I" ∈ gT) (ho : kdo o = 5) (hP : σ o = P) (hd : decode cc pc = .ok (.getfield index, 3) ∧ pc + 3 = nx) (kk : WW X G nL σ lm nx L (.ref (gA G o 14) :: st)) : WW X G nL σ lm pc L (.ref (gA G o 0) :: st) := r_get hX zin5 hlk ho rfl 13 (by decide) rfl rfl hP rfl hd kk
theorem gf_6_0 {X : MX} {G : GE} {own : String} {cc : ByteArray} {nL : Nat} {σ : Mm} {lm : Ml} {pc nx o index : Nat} {P : Pm} {L : List (Nat × Value)} {st : List Value} (hX : Cx X G own cc nL) (hlk : Cond.fieldLink own index "WellLendsDepth" "now" "LWellLendsDepth$Well;" ∈ gT) (ho : kdo o = 6) (hP : σ o = P) (hd : decode cc pc = .ok (.getfield index, 3) ∧ pc + 3 = nx) (kk : WW X G nL σ lm nx L (.ref (gA G 1 0) :: st)) : WW X G nL σ lm pc L (.ref (gA G o 0) :: st) := r_get hX zin6 hlk ho rfl 0 (by decide) rfl rfl hP rfl hd kk
theorem gf_6_1 {X : MX} {G : GE} {own : String} {cc : ByteArray} {nL : Nat} {σ : Mm} {lm : Ml} {pc nx o index : Nat} {P : Pm} {L : List (Nat × Value)} {st : List Value} (hX : Cx X G own cc nL) (hlk : Cond.fieldLink own index "WellLendsDepth" "trial" "LWellLendsDepth$Well;" ∈ gT) (ho : kdo o = 6) (hP : σ o = P) (hd : decode cc pc = .ok (.getfield index, 3) ∧ pc + 3 = nx) (kk : WW X G nL σ lm nx L (.ref (gA G 2 0) :: st)) : WW X G nL σ lm pc L (.ref (gA G o 0) :: st) := r_get hX zin6 hlk ho rfl 1 (by decide) rfl rfl hP rfl hd kk
theorem gf_6_2 {X : MX} {G : GE} {own : String} {cc : ByteArray} {nL : Nat} {σ : Mm} {lm : Ml} {pc nx o index : Nat} {P : Pm} {L : List (Nat × Value)} {st : List Value} (hX : Cx X G own cc nL) (hlk : Cond.fieldLink own index "WellLendsDepth" "kept" "LWellLendsDepth$Well;" ∈ gT) (ho : kdo o = 6) (hP : σ o = P) (hd : decode cc pc = .ok (.getfield index, 3) ∧ pc + 3 = nx) (kk : WW X G nL σ lm nx L (.ref (gA G 3 0) :: st)) : WW X G nL σ lm pc L (.ref (gA G o 0) :: st) := r_get hX zin6 hlk ho rfl 2 (by decide) rfl rfl hP rfl hd kk
theorem gf_6_3 {X : MX} {G : GE} {own : String} {cc : ByteArray} {nL : Nat} {σ : Mm} {lm : Ml} {pc nx o index : Nat} {P : Pm} {L : List (Nat × Value)} {st : List Value} (hX : Cx X G own cc nL) (hlk : Cond.fieldLink own index "WellLendsDepth" "hand" "LWellLendsDepth$Hand;" ∈ gT) (ho : kdo o = 6) (hP : σ o = P) (hd : decode cc pc = .ok (.getfield index, 3) ∧ pc + 3 = nx) (kk : WW X G nL σ lm nx L (.ref (gA G 4 0) :: st)) : WW X G nL σ lm pc L (.ref (gA G o 0) :: st) := r_get hX zin6 hlk ho rfl 3 (by decide) rfl rfl hP rfl hd kk
theorem gf_6_4 {X : MX} {G : GE} {own : String} {cc : ByteArray} {nL : Nat} {σ : Mm} {lm : Ml} {pc nx o index : Nat} {P : Pm} {L : List (Nat × Value)} {st : List Value} (hX : Cx X G own cc nL) (hlk : Cond.fieldLink own index "WellLendsDepth" "keptHand" "LWellLendsDepth$Hand;" ∈ gT) (ho : kdo o = 6) (hP : σ o = P) (hd : decode cc pc = .ok (.getfield index, 3) ∧ pc + 3 = nx) (kk : WW X G nL σ lm nx L (.ref (gA G 5 0) :: st)) : WW X G nL σ lm pc L (.ref (gA G o 0) :: st) := r_get hX zin6 hlk ho rfl 4 (by decide) rfl rfl hP rfl hd kk
theorem gf_6_5 {X : MX} {G : GE} {own : String} {cc : ByteArray} {nL : Nat} {σ : Mm} {lm : Ml} {pc nx o index : Nat} {P : Pm} {L : List (Nat × Value)} {st : List Value} (hX : Cx X G own cc nL) (hlk : Cond.fieldLink own index "WellLendsDepth" "reader" "LWellLendsDepth$Reader;" ∈ gT) (ho : kdo o = 6) (hP : σ o = P) (hd : decode cc pc = .ok (.getfield index, 3) ∧ pc + 3 = nx) (kk : WW X G nL σ lm nx L (.ref (gA G 6 0) :: st)) : WW X G nL σ lm pc L (.ref (gA G o 0) :: st) := r_get hX zin6 hlk ho rfl 5 (by decide) rfl rfl hP rfl hd kk
theorem gf_6_6 {X : MX} {G : GE} {own : String} {cc : ByteArray} {nL : Nat} {σ : Mm} {lm : Ml} {pc nx o index : Nat} {P : Pm} {L : List (Nat × Value)} {st : List Value} (hX : Cx X G own cc nL) (hlk : Cond.fieldLink own index "WellLendsDepth" "plain" "LWellLendsDepth$Country;" ∈ gT) (ho : kdo o = 6) (hP : σ o = P) (hd : decode cc pc = .ok (.getfield index, 3) ∧ pc + 3 = nx) (kk : WW X G nL σ lm nx L (.ref (gA G 7 0) :: st)) : WW X G nL σ lm pc L (.ref (gA G o 0) :: st) := r_get hX zin6 hlk ho rfl 6 (by decide) rfl rfl hP rfl hd kk
theorem gf_6_7 {X : MX} {G : GE} {own : String} {cc : ByteArray} {nL : Nat} {σ : Mm} {lm : Ml} {pc nx o index : Nat} {P : Pm} {L : List (Nat × Value)} {st : List Value} (hX : Cx X G own cc nL) (hlk : Cond.fieldLink own index "WellLendsDepth" "countries" "[LWellLendsDepth$Country;" ∈ gT) (ho : kdo o = 6) (hP : σ o = P) (hd : decode cc pc = .ok (.getfield index, 3) ∧ pc + 3 = nx) (kk : WW X G nL σ lm nx L (.ref (gA G o 8) :: st)) : WW X G nL σ lm pc L (.ref (gA G o 0) :: st) := r_get hX zin6 hlk ho rfl 7 (by decide) rfl rfl hP rfl hd kk
theorem gf_6_8 {X : MX} {G : GE} {own : String} {cc : ByteArray} {nL : Nat} {σ : Mm} {lm : Ml} {pc nx o index : Nat} {P : Pm} {L : List (Nat × Value)} {st : List Value} (hX : Cx X G own cc nL) (hlk : Cond.fieldLink own index "WellLendsDepth" "actor" "LWellLendsDepth$Actor;" ∈ gT) (ho : kdo o = 6) (hP : σ o = P) (hd : decode cc pc = .ok (.getfield index, 3) ∧ pc + 3 = nx) (kk : WW X G nL σ lm nx L (.ref (gA G 15 0) :: st)) : WW X G nL σ lm pc L (.ref (gA G o 0) :: st) := r_get hX zin6 hlk ho rfl 8 (by decide) rfl rfl hP rfl hd kk
theorem gf_6_9 {X : MX} {G : GE} {own : String} {cc : ByteArray} {nL : Nat} {σ : Mm} {lm : Ml} {pc nx o index : Nat} {P : Pm} {L : List (Nat × Value)} {st : List Value} (hX : Cx X G own cc nL) (hlk : Cond.fieldLink own index "WellLendsDepth" "tapes" "LWellLendsDepth$Tapes;" ∈ gT) (ho : kdo o = 6) (hP : σ o = P) (hd : decode cc pc = .ok (.getfield index, 3) ∧ pc + 3 = nx) (kk : WW X G nL σ lm nx L (.ref (gA G 16 0) :: st)) : WW X G nL σ lm pc L (.ref (gA G o 0) :: st) := r_get hX zin6 hlk ho rfl 9 (by decide) rfl rfl hP rfl hd kk
theorem gf_6_10 {X : MX} {G : GE} {own : String} {cc : ByteArray} {nL : Nat} {σ : Mm} {lm : Ml} {pc nx o index : Nat} {P : Pm} {L : List (Nat × Value)} {st : List Value} (hX : Cx X G own cc nL) (hlk : Cond.fieldLink own index "WellLendsDepth" "made" "I" ∈ gT) (ho : kdo o = 6) (hP : σ o = P) (hd : decode cc pc = .ok (.getfield index, 3) ∧ pc + 3 = nx) (kk : WW X G nL σ lm nx L (.int (P 0 10) :: st)) : WW X G nL σ lm pc L (.ref (gA G o 0) :: st) := r_get hX zin6 hlk ho rfl 10 (by decide) rfl rfl hP rfl hd kk
theorem pf_6_10 {X : MX} {G : GE} {own : String} {cc : ByteArray} {nL : Nat} {σ : Mm} {lm : Ml} {pc nx o index : Nat} {P : Pm} {x : Int32} {L : List (Nat × Value)} {st : List Value} (hX : Cx X G own cc nL) (hlk : Cond.fieldLink own index "WellLendsDepth" "made" "I" ∈ gT) (ho : kdo o = 6) (hP : σ o = P) (hd : decode cc pc = .ok (.putfield index, 3) ∧ pc + 3 = nx) (kk : WW X G nL (setO σ o (up2 P 0 10 x)) lm nx L st) : WW X G nL σ lm pc L (.int x :: .ref (gA G o 0) :: st) := r_put hX zin6 zty6 zok6 znm6 hlk ho rfl 10 (by decide) rfl rfl rfl rfl rfl rfl hP (fun S => rfl) hd kk
theorem gf_6_11 {X : MX} {G : GE} {own : String} {cc : ByteArray} {nL : Nat} {σ : Mm} {lm : Ml} {pc nx o index : Nat} {P : Pm} {L : List (Nat × Value)} {st : List Value} (hX : Cx X G own cc nL) (hlk : Cond.fieldLink own index "WellLendsDepth" "holding" "I" ∈ gT) (ho : kdo o = 6) (hP : σ o = P) (hd : decode cc pc = .ok (.getfield index, 3) ∧ pc + 3 = nx) (kk : WW X G nL σ lm nx L (.int (P 0 11) :: st)) : WW X G nL σ lm pc L (.ref (gA G o 0) :: st) := r_get hX zin6 hlk ho rfl 11 (by decide) rfl rfl hP rfl hd kk
theorem pf_6_11 {X : MX} {G : GE} {own : String} {cc : ByteArray} {nL : Nat} {σ : Mm} {lm : Ml} {pc nx o index : Nat} {P : Pm} {x : Int32} {L : List (Nat × Value)} {st : List Value} (hX : Cx X G own cc nL) (hlk : Cond.fieldLink own index "WellLendsDepth" "holding" "I" ∈ gT) (ho : kdo o = 6) (hP : σ o = P) (hd : decode cc pc = .ok (.putfield index, 3) ∧ pc + 3 = nx) (kk : WW X G nL (setO σ o (up2 P 0 11 x)) lm nx L st) : WW X G nL σ lm pc L (.int x :: .ref (gA G o 0) :: st) := r_put hX zin6 zty6 zok6 znm6 hlk ho rfl 11 (by decide) rfl rfl rfl rfl rfl rfl hP (fun S => rfl) hd kk
theorem gf_6_12 {X : MX} {G : GE} {own : String} {cc : ByteArray} {nL : Nat} {σ : Mm} {lm : Ml} {pc nx o index : Nat} {P : Pm} {L : List (Nat × Value)} {st : List Value} (hX : Cx X G own cc nL) (hlk : Cond.fieldLink own index "WellLendsDepth" "keptHolding" "I" ∈ gT) (ho : kdo o = 6) (hP : σ o = P) (hd : decode cc pc = .ok (.getfield index, 3) ∧ pc + 3 = nx) (kk : WW X G nL σ lm nx L (.int (P 0 12) :: st)) : WW X G nL σ lm pc L (.ref (gA G o 0) :: st) := r_get hX zin6 hlk ho rfl 12 (by decide) rfl rfl hP rfl hd kk
theorem pf_6_12 {X : MX} {G : GE} {own : String} {cc : ByteArray} {nL : Nat} {σ : Mm} {lm : Ml} {pc nx o index : Nat} {P : Pm} {x : Int32} {L : List (Nat × Value)} {st : List Value} (hX : Cx X G own cc nL) (hlk : Cond.fieldLink own index "WellLendsDepth" "keptHolding" "I" ∈ gT) (ho : kdo o = 6) (hP : σ o = P) (hd : decode cc pc = .ok (.putfield index, 3) ∧ pc + 3 = nx) (kk : WW X G nL (setO σ o (up2 P 0 12 x)) lm nx L st) : WW X G nL σ lm pc L (.int x :: .ref (gA G o 0) :: st) := r_put hX zin6 zty6 zok6 znm6 hlk ho rfl 12 (by decide) rfl rfl rfl rfl rfl rfl hP (fun S => rfl) hd kk
theorem gf_6_13 {X : MX} {G : GE} {own : String} {cc : ByteArray} {nL : Nat} {σ : Mm} {lm : Ml} {pc nx o index : Nat} {P : Pm} {L : List (Nat × Value)} {st : List Value} (hX : Cx X G own cc nL) (hlk : Cond.fieldLink own index "WellLendsDepth" "imaged" "Z" ∈ gT) (ho : kdo o = 6) (hP : σ o = P) (hd : decode cc pc = .ok (.getfield index, 3) ∧ pc + 3 = nx) (kk : WW X G nL σ lm nx L (.int (P 0 13) :: st)) : WW X G nL σ lm pc L (.ref (gA G o 0) :: st) := r_get hX zin6 hlk ho rfl 13 (by decide) rfl rfl hP rfl hd kk
theorem pf_6_13 {X : MX} {G : GE} {own : String} {cc : ByteArray} {nL : Nat} {σ : Mm} {lm : Ml} {pc nx o index : Nat} {P : Pm} {x : Int32} {L : List (Nat × Value)} {st : List Value} (hz : x = 0 ∨ x = 1) (hX : Cx X G own cc nL) (hlk : Cond.fieldLink own index "WellLendsDepth" "imaged" "Z" ∈ gT) (ho : kdo o = 6) (hP : σ o = P) (hd : decode cc pc = .ok (.putfield index, 3) ∧ pc + 3 = nx) (kk : WW X G nL (setO σ o (up2 P 0 13 x)) lm nx L st) : WW X G nL σ lm pc L (.int x :: .ref (gA G o 0) :: st) := r_put hX zin6 zty6 zok6 znm6 hlk ho rfl 13 (by decide) rfl rfl rfl (zb_n hz) (zb_f hz) rfl hP (fun S => rfl) hd kk
theorem gf_7_0 {X : MX} {G : GE} {own : String} {cc : ByteArray} {nL : Nat} {σ : Mm} {lm : Ml} {pc nx o index : Nat} {P : Pm} {L : List (Nat × Value)} {st : List Value} (hX : Cx X G own cc nL) (hlk : Cond.fieldLink own index "WellLendsDepthModel" "deep" "I" ∈ gT) (ho : kdo o = 7) (hP : σ o = P) (hd : decode cc pc = .ok (.getfield index, 3) ∧ pc + 3 = nx) (kk : WW X G nL σ lm nx L (.int (P 0 0) :: st)) : WW X G nL σ lm pc L (.ref (gA G o 0) :: st) := r_get hX zin7 hlk ho rfl 0 (by decide) rfl rfl hP rfl hd kk
theorem pf_7_0 {X : MX} {G : GE} {own : String} {cc : ByteArray} {nL : Nat} {σ : Mm} {lm : Ml} {pc nx o index : Nat} {P : Pm} {x : Int32} {L : List (Nat × Value)} {st : List Value} (hX : Cx X G own cc nL) (hlk : Cond.fieldLink own index "WellLendsDepthModel" "deep" "I" ∈ gT) (ho : kdo o = 7) (hP : σ o = P) (hd : decode cc pc = .ok (.putfield index, 3) ∧ pc + 3 = nx) (kk : WW X G nL (setO σ o (up2 P 0 0 x)) lm nx L st) : WW X G nL σ lm pc L (.int x :: .ref (gA G o 0) :: st) := r_put hX zin7 zty7 zok7 znm7 hlk ho rfl 0 (by decide) rfl rfl rfl rfl rfl rfl hP (fun S => rfl) hd kk
theorem gf_7_1 {X : MX} {G : GE} {own : String} {cc : ByteArray} {nL : Nat} {σ : Mm} {lm : Ml} {pc nx o index : Nat} {P : Pm} {L : List (Nat × Value)} {st : List Value} (hX : Cx X G own cc nL) (hlk : Cond.fieldLink own index "WellLendsDepthModel" "borrowers" "I" ∈ gT) (ho : kdo o = 7) (hP : σ o = P) (hd : decode cc pc = .ok (.getfield index, 3) ∧ pc + 3 = nx) (kk : WW X G nL σ lm nx L (.int (P 0 1) :: st)) : WW X G nL σ lm pc L (.ref (gA G o 0) :: st) := r_get hX zin7 hlk ho rfl 1 (by decide) rfl rfl hP rfl hd kk
theorem pf_7_1 {X : MX} {G : GE} {own : String} {cc : ByteArray} {nL : Nat} {σ : Mm} {lm : Ml} {pc nx o index : Nat} {P : Pm} {x : Int32} {L : List (Nat × Value)} {st : List Value} (hX : Cx X G own cc nL) (hlk : Cond.fieldLink own index "WellLendsDepthModel" "borrowers" "I" ∈ gT) (ho : kdo o = 7) (hP : σ o = P) (hd : decode cc pc = .ok (.putfield index, 3) ∧ pc + 3 = nx) (kk : WW X G nL (setO σ o (up2 P 0 1 x)) lm nx L st) : WW X G nL σ lm pc L (.int x :: .ref (gA G o 0) :: st) := r_put hX zin7 zty7 zok7 znm7 hlk ho rfl 1 (by decide) rfl rfl rfl rfl rfl rfl hP (fun S => rfl) hd kk
theorem gf_7_2 {X : MX} {G : GE} {own : String} {cc : ByteArray} {nL : Nat} {σ : Mm} {lm : Ml} {pc nx o index : Nat} {P : Pm} {L : List (Nat × Value)} {st : List Value} (hX : Cx X G own cc nL) (hlk : Cond.fieldLink own index "WellLendsDepthModel" "days" "I" ∈ gT) (ho : kdo o = 7) (hP : σ o = P) (hd : decode cc pc = .ok (.getfield index, 3) ∧ pc + 3 = nx) (kk : WW X G nL σ lm nx L (.int (P 0 2) :: st)) : WW X G nL σ lm pc L (.ref (gA G o 0) :: st) := r_get hX zin7 hlk ho rfl 2 (by decide) rfl rfl hP rfl hd kk
theorem pf_7_2 {X : MX} {G : GE} {own : String} {cc : ByteArray} {nL : Nat} {σ : Mm} {lm : Ml} {pc nx o index : Nat} {P : Pm} {x : Int32} {L : List (Nat × Value)} {st : List Value} (hX : Cx X G own cc nL) (hlk : Cond.fieldLink own index "WellLendsDepthModel" "days" "I" ∈ gT) (ho : kdo o = 7) (hP : σ o = P) (hd : decode cc pc = .ok (.putfield index, 3) ∧ pc + 3 = nx) (kk : WW X G nL (setO σ o (up2 P 0 2 x)) lm nx L st) : WW X G nL σ lm pc L (.int x :: .ref (gA G o 0) :: st) := r_put hX zin7 zty7 zok7 znm7 hlk ho rfl 2 (by decide) rfl rfl rfl rfl rfl rfl hP (fun S => rfl) hd kk
theorem gf_7_3 {X : MX} {G : GE} {own : String} {cc : ByteArray} {nL : Nat} {σ : Mm} {lm : Ml} {pc nx o index : Nat} {P : Pm} {L : List (Nat × Value)} {st : List Value} (hX : Cx X G own cc nL) (hlk : Cond.fieldLink own index "WellLendsDepthModel" "kind" "[I" ∈ gT) (ho : kdo o = 7) (hP : σ o = P) (hd : decode cc pc = .ok (.getfield index, 3) ∧ pc + 3 = nx) (kk : WW X G nL σ lm nx L (.ref (gA G o 4) :: st)) : WW X G nL σ lm pc L (.ref (gA G o 0) :: st) := r_get hX zin7 hlk ho rfl 3 (by decide) rfl rfl hP rfl hd kk
theorem gf_7_4 {X : MX} {G : GE} {own : String} {cc : ByteArray} {nL : Nat} {σ : Mm} {lm : Ml} {pc nx o index : Nat} {P : Pm} {L : List (Nat × Value)} {st : List Value} (hX : Cx X G own cc nL) (hlk : Cond.fieldLink own index "WellLendsDepthModel" "v" "[I" ∈ gT) (ho : kdo o = 7) (hP : σ o = P) (hd : decode cc pc = .ok (.getfield index, 3) ∧ pc + 3 = nx) (kk : WW X G nL σ lm nx L (.ref (gA G o 5) :: st)) : WW X G nL σ lm pc L (.ref (gA G o 0) :: st) := r_get hX zin7 hlk ho rfl 4 (by decide) rfl rfl hP rfl hd kk
theorem gf_7_5 {X : MX} {G : GE} {own : String} {cc : ByteArray} {nL : Nat} {σ : Mm} {lm : Ml} {pc nx o index : Nat} {P : Pm} {L : List (Nat × Value)} {st : List Value} (hX : Cx X G own cc nL) (hlk : Cond.fieldLink own index "WellLendsDepthModel" "wants" "[I" ∈ gT) (ho : kdo o = 7) (hP : σ o = P) (hd : decode cc pc = .ok (.getfield index, 3) ∧ pc + 3 = nx) (kk : WW X G nL σ lm nx L (.ref (gA G o 6) :: st)) : WW X G nL σ lm pc L (.ref (gA G o 0) :: st) := r_get hX zin7 hlk ho rfl 5 (by decide) rfl rfl hP rfl hd kk
theorem gf_7_6 {X : MX} {G : GE} {own : String} {cc : ByteArray} {nL : Nat} {σ : Mm} {lm : Ml} {pc nx o index : Nat} {P : Pm} {L : List (Nat × Value)} {st : List Value} (hX : Cx X G own cc nL) (hlk : Cond.fieldLink own index "WellLendsDepthModel" "every" "[I" ∈ gT) (ho : kdo o = 7) (hP : σ o = P) (hd : decode cc pc = .ok (.getfield index, 3) ∧ pc + 3 = nx) (kk : WW X G nL σ lm nx L (.ref (gA G o 7) :: st)) : WW X G nL σ lm pc L (.ref (gA G o 0) :: st) := r_get hX zin7 hlk ho rfl 6 (by decide) rfl rfl hP rfl hd kk
theorem gf_7_7 {X : MX} {G : GE} {own : String} {cc : ByteArray} {nL : Nat} {σ : Mm} {lm : Ml} {pc nx o index : Nat} {P : Pm} {L : List (Nat × Value)} {st : List Value} (hX : Cx X G own cc nL) (hlk : Cond.fieldLink own index "WellLendsDepthModel" "has" "[I" ∈ gT) (ho : kdo o = 7) (hP : σ o = P) (hd : decode cc pc = .ok (.getfield index, 3) ∧ pc + 3 = nx) (kk : WW X G nL σ lm nx L (.ref (gA G o 8) :: st)) : WW X G nL σ lm pc L (.ref (gA G o 0) :: st) := r_get hX zin7 hlk ho rfl 7 (by decide) rfl rfl hP rfl hd kk
theorem gf_7_8 {X : MX} {G : GE} {own : String} {cc : ByteArray} {nL : Nat} {σ : Mm} {lm : Ml} {pc nx o index : Nat} {P : Pm} {L : List (Nat × Value)} {st : List Value} (hX : Cx X G own cc nL) (hlk : Cond.fieldLink own index "WellLendsDepthModel" "left" "[I" ∈ gT) (ho : kdo o = 7) (hP : σ o = P) (hd : decode cc pc = .ok (.getfield index, 3) ∧ pc + 3 = nx) (kk : WW X G nL σ lm nx L (.ref (gA G o 9) :: st)) : WW X G nL σ lm pc L (.ref (gA G o 0) :: st) := r_get hX zin7 hlk ho rfl 8 (by decide) rfl rfl hP rfl hd kk
theorem gf_7_9 {X : MX} {G : GE} {own : String} {cc : ByteArray} {nL : Nat} {σ : Mm} {lm : Ml} {pc nx o index : Nat} {P : Pm} {L : List (Nat × Value)} {st : List Value} (hX : Cx X G own cc nL) (hlk : Cond.fieldLink own index "WellLendsDepthModel" "owes" "[I" ∈ gT) (ho : kdo o = 7) (hP : σ o = P) (hd : decode cc pc = .ok (.getfield index, 3) ∧ pc + 3 = nx) (kk : WW X G nL σ lm nx L (.ref (gA G o 10) :: st)) : WW X G nL σ lm pc L (.ref (gA G o 0) :: st) := r_get hX zin7 hlk ho rfl 9 (by decide) rfl rfl hP rfl hd kk
theorem gf_7_10 {X : MX} {G : GE} {own : String} {cc : ByteArray} {nL : Nat} {σ : Mm} {lm : Ml} {pc nx o index : Nat} {P : Pm} {L : List (Nat × Value)} {st : List Value} (hX : Cx X G own cc nL) (hlk : Cond.fieldLink own index "WellLendsDepthModel" "sent" "[I" ∈ gT) (ho : kdo o = 7) (hP : σ o = P) (hd : decode cc pc = .ok (.getfield index, 3) ∧ pc + 3 = nx) (kk : WW X G nL σ lm nx L (.ref (gA G o 11) :: st)) : WW X G nL σ lm pc L (.ref (gA G o 0) :: st) := r_get hX zin7 hlk ho rfl 10 (by decide) rfl rfl hP rfl hd kk
theorem gf_7_11 {X : MX} {G : GE} {own : String} {cc : ByteArray} {nL : Nat} {σ : Mm} {lm : Ml} {pc nx o index : Nat} {P : Pm} {L : List (Nat × Value)} {st : List Value} (hX : Cx X G own cc nL) (hlk : Cond.fieldLink own index "WellLendsDepthModel" "rows" "[I" ∈ gT) (ho : kdo o = 7) (hP : σ o = P) (hd : decode cc pc = .ok (.getfield index, 3) ∧ pc + 3 = nx) (kk : WW X G nL σ lm nx L (.ref (gA G o 12) :: st)) : WW X G nL σ lm pc L (.ref (gA G o 0) :: st) := r_get hX zin7 hlk ho rfl 11 (by decide) rfl rfl hP rfl hd kk
theorem gf_7_12 {X : MX} {G : GE} {own : String} {cc : ByteArray} {nL : Nat} {σ : Mm} {lm : Ml} {pc nx o index : Nat} {P : Pm} {L : List (Nat × Value)} {st : List Value} (hX : Cx X G own cc nL) (hlk : Cond.fieldLink own index "WellLendsDepthModel" "line" "[I" ∈ gT) (ho : kdo o = 7) (hP : σ o = P) (hd : decode cc pc = .ok (.getfield index, 3) ∧ pc + 3 = nx) (kk : WW X G nL σ lm nx L (.ref (gA G o 13) :: st)) : WW X G nL σ lm pc L (.ref (gA G o 0) :: st) := r_get hX zin7 hlk ho rfl 12 (by decide) rfl rfl hP rfl hd kk
theorem gf_7_13 {X : MX} {G : GE} {own : String} {cc : ByteArray} {nL : Nat} {σ : Mm} {lm : Ml} {pc nx o index : Nat} {P : Pm} {L : List (Nat × Value)} {st : List Value} (hX : Cx X G own cc nL) (hlk : Cond.fieldLink own index "WellLendsDepthModel" "countries" "I" ∈ gT) (ho : kdo o = 7) (hP : σ o = P) (hd : decode cc pc = .ok (.getfield index, 3) ∧ pc + 3 = nx) (kk : WW X G nL σ lm nx L (.int (P 0 13) :: st)) : WW X G nL σ lm pc L (.ref (gA G o 0) :: st) := r_get hX zin7 hlk ho rfl 13 (by decide) rfl rfl hP rfl hd kk
theorem pf_7_13 {X : MX} {G : GE} {own : String} {cc : ByteArray} {nL : Nat} {σ : Mm} {lm : Ml} {pc nx o index : Nat} {P : Pm} {x : Int32} {L : List (Nat × Value)} {st : List Value} (hX : Cx X G own cc nL) (hlk : Cond.fieldLink own index "WellLendsDepthModel" "countries" "I" ∈ gT) (ho : kdo o = 7) (hP : σ o = P) (hd : decode cc pc = .ok (.putfield index, 3) ∧ pc + 3 = nx) (kk : WW X G nL (setO σ o (up2 P 0 13 x)) lm nx L st) : WW X G nL σ lm pc L (.int x :: .ref (gA G o 0) :: st) := r_put hX zin7 zty7 zok7 znm7 hlk ho rfl 13 (by decide) rfl rfl rfl rfl rfl rfl hP (fun S => rfl) hd kk
theorem gf_7_14 {X : MX} {G : GE} {own : String} {cc : ByteArray} {nL : Nat} {σ : Mm} {lm : Ml} {pc nx o index : Nat} {P : Pm} {L : List (Nat × Value)} {st : List Value} (hX : Cx X G own cc nL) (hlk : Cond.fieldLink own index "WellLendsDepthModel" "the" "I" ∈ gT) (ho : kdo o = 7) (hP : σ o = P) (hd : decode cc pc = .ok (.getfield index, 3) ∧ pc + 3 = nx) (kk : WW X G nL σ lm nx L (.int (P 0 14) :: st)) : WW X G nL σ lm pc L (.ref (gA G o 0) :: st) := r_get hX zin7 hlk ho rfl 14 (by decide) rfl rfl hP rfl hd kk
theorem pf_7_14 {X : MX} {G : GE} {own : String} {cc : ByteArray} {nL : Nat} {σ : Mm} {lm : Ml} {pc nx o index : Nat} {P : Pm} {x : Int32} {L : List (Nat × Value)} {st : List Value} (hX : Cx X G own cc nL) (hlk : Cond.fieldLink own index "WellLendsDepthModel" "the" "I" ∈ gT) (ho : kdo o = 7) (hP : σ o = P) (hd : decode cc pc = .ok (.putfield index, 3) ∧ pc + 3 = nx) (kk : WW X G nL (setO σ o (up2 P 0 14 x)) lm nx L st) : WW X G nL σ lm pc L (.int x :: .ref (gA G o 0) :: st) := r_put hX zin7 zty7 zok7 znm7 hlk ho rfl 14 (by decide) rfl rfl rfl rfl rfl rfl hP (fun S => rfl) hd kk
theorem gf_7_15 {X : MX} {G : GE} {own : String} {cc : ByteArray} {nL : Nat} {σ : Mm} {lm : Ml} {pc nx o index : Nat} {P : Pm} {L : List (Nat × Value)} {st : List Value} (hX : Cx X G own cc nL) (hlk : Cond.fieldLink own index "WellLendsDepthModel" "fed" "I" ∈ gT) (ho : kdo o = 7) (hP : σ o = P) (hd : decode cc pc = .ok (.getfield index, 3) ∧ pc + 3 = nx) (kk : WW X G nL σ lm nx L (.int (P 0 15) :: st)) : WW X G nL σ lm pc L (.ref (gA G o 0) :: st) := r_get hX zin7 hlk ho rfl 15 (by decide) rfl rfl hP rfl hd kk
theorem pf_7_15 {X : MX} {G : GE} {own : String} {cc : ByteArray} {nL : Nat} {σ : Mm} {lm : Ml} {pc nx o index : Nat} {P : Pm} {x : Int32} {L : List (Nat × Value)} {st : List Value} (hX : Cx X G own cc nL) (hlk : Cond.fieldLink own index "WellLendsDepthModel" "fed" "I" ∈ gT) (ho : kdo o = 7) (hP : σ o = P) (hd : decode cc pc = .ok (.putfield index, 3) ∧ pc + 3 = nx) (kk : WW X G nL (setO σ o (up2 P 0 15 x)) lm nx L st) : WW X G nL σ lm pc L (.int x :: .ref (gA G o 0) :: st) := r_put hX zin7 zty7 zok7 znm7 hlk ho rfl 15 (by decide) rfl rfl rfl rfl rfl rfl hP (fun S => rfl) hd kk
theorem gf_7_16 {X : MX} {G : GE} {own : String} {cc : ByteArray} {nL : Nat} {σ : Mm} {lm : Ml} {pc nx o index : Nat} {P : Pm} {L : List (Nat × Value)} {st : List Value} (hX : Cx X G own cc nL) (hlk : Cond.fieldLink own index "WellLendsDepthModel" "at" "I" ∈ gT) (ho : kdo o = 7) (hP : σ o = P) (hd : decode cc pc = .ok (.getfield index, 3) ∧ pc + 3 = nx) (kk : WW X G nL σ lm nx L (.int (P 0 16) :: st)) : WW X G nL σ lm pc L (.ref (gA G o 0) :: st) := r_get hX zin7 hlk ho rfl 16 (by decide) rfl rfl hP rfl hd kk
theorem pf_7_16 {X : MX} {G : GE} {own : String} {cc : ByteArray} {nL : Nat} {σ : Mm} {lm : Ml} {pc nx o index : Nat} {P : Pm} {x : Int32} {L : List (Nat × Value)} {st : List Value} (hX : Cx X G own cc nL) (hlk : Cond.fieldLink own index "WellLendsDepthModel" "at" "I" ∈ gT) (ho : kdo o = 7) (hP : σ o = P) (hd : decode cc pc = .ok (.putfield index, 3) ∧ pc + 3 = nx) (kk : WW X G nL (setO σ o (up2 P 0 16 x)) lm nx L st) : WW X G nL σ lm pc L (.int x :: .ref (gA G o 0) :: st) := r_put hX zin7 zty7 zok7 znm7 hlk ho rfl 16 (by decide) rfl rfl rfl rfl rfl rfl hP (fun S => rfl) hd kk
theorem gf_7_17 {X : MX} {G : GE} {own : String} {cc : ByteArray} {nL : Nat} {σ : Mm} {lm : Ml} {pc nx o index : Nat} {P : Pm} {L : List (Nat × Value)} {st : List Value} (hX : Cx X G own cc nL) (hlk : Cond.fieldLink own index "WellLendsDepthModel" "digits" "I" ∈ gT) (ho : kdo o = 7) (hP : σ o = P) (hd : decode cc pc = .ok (.getfield index, 3) ∧ pc + 3 = nx) (kk : WW X G nL σ lm nx L (.int (P 0 17) :: st)) : WW X G nL σ lm pc L (.ref (gA G o 0) :: st) := r_get hX zin7 hlk ho rfl 17 (by decide) rfl rfl hP rfl hd kk
theorem pf_7_17 {X : MX} {G : GE} {own : String} {cc : ByteArray} {nL : Nat} {σ : Mm} {lm : Ml} {pc nx o index : Nat} {P : Pm} {x : Int32} {L : List (Nat × Value)} {st : List Value} (hX : Cx X G own cc nL) (hlk : Cond.fieldLink own index "WellLendsDepthModel" "digits" "I" ∈ gT) (ho : kdo o = 7) (hP : σ o = P) (hd : decode cc pc = .ok (.putfield index, 3) ∧ pc + 3 = nx) (kk : WW X G nL (setO σ o (up2 P 0 17 x)) lm nx L st) : WW X G nL σ lm pc L (.int x :: .ref (gA G o 0) :: st) := r_put hX zin7 zty7 zok7 znm7 hlk ho rfl 17 (by decide) rfl rfl rfl rfl rfl rfl hP (fun S => rfl) hd kk
theorem gf_7_18 {X : MX} {G : GE} {own : String} {cc : ByteArray} {nL : Nat} {σ : Mm} {lm : Ml} {pc nx o index : Nat} {P : Pm} {L : List (Nat × Value)} {st : List Value} (hX : Cx X G own cc nL) (hlk : Cond.fieldLink own index "WellLendsDepthModel" "text" "[I" ∈ gT) (ho : kdo o = 7) (hP : σ o = P) (hd : decode cc pc = .ok (.getfield index, 3) ∧ pc + 3 = nx) (kk : WW X G nL σ lm nx L (.ref (gA G o 19) :: st)) : WW X G nL σ lm pc L (.ref (gA G o 0) :: st) := r_get hX zin7 hlk ho rfl 18 (by decide) rfl rfl hP rfl hd kk
theorem gf_7_19 {X : MX} {G : GE} {own : String} {cc : ByteArray} {nL : Nat} {σ : Mm} {lm : Ml} {pc nx o index : Nat} {P : Pm} {L : List (Nat × Value)} {st : List Value} (hX : Cx X G own cc nL) (hlk : Cond.fieldLink own index "WellLendsDepthModel" "clauses" "[I" ∈ gT) (ho : kdo o = 7) (hP : σ o = P) (hd : decode cc pc = .ok (.getfield index, 3) ∧ pc + 3 = nx) (kk : WW X G nL σ lm nx L (.ref (gA G o 20) :: st)) : WW X G nL σ lm pc L (.ref (gA G o 0) :: st) := r_get hX zin7 hlk ho rfl 19 (by decide) rfl rfl hP rfl hd kk
theorem gf_7_20 {X : MX} {G : GE} {own : String} {cc : ByteArray} {nL : Nat} {σ : Mm} {lm : Ml} {pc nx o index : Nat} {P : Pm} {L : List (Nat × Value)} {st : List Value} (hX : Cx X G own cc nL) (hlk : Cond.fieldLink own index "WellLendsDepthModel" "word" "[I" ∈ gT) (ho : kdo o = 7) (hP : σ o = P) (hd : decode cc pc = .ok (.getfield index, 3) ∧ pc + 3 = nx) (kk : WW X G nL σ lm nx L (.ref (gA G o 21) :: st)) : WW X G nL σ lm pc L (.ref (gA G o 0) :: st) := r_get hX zin7 hlk ho rfl 20 (by decide) rfl rfl hP rfl hd kk
theorem gf_7_21 {X : MX} {G : GE} {own : String} {cc : ByteArray} {nL : Nat} {σ : Mm} {lm : Ml} {pc nx o index : Nat} {P : Pm} {L : List (Nat × Value)} {st : List Value} (hX : Cx X G own cc nL) (hlk : Cond.fieldLink own index "WellLendsDepthModel" "number" "[I" ∈ gT) (ho : kdo o = 7) (hP : σ o = P) (hd : decode cc pc = .ok (.getfield index, 3) ∧ pc + 3 = nx) (kk : WW X G nL σ lm nx L (.ref (gA G o 22) :: st)) : WW X G nL σ lm pc L (.ref (gA G o 0) :: st) := r_get hX zin7 hlk ho rfl 21 (by decide) rfl rfl hP rfl hd kk
theorem gf_7_22 {X : MX} {G : GE} {own : String} {cc : ByteArray} {nL : Nat} {σ : Mm} {lm : Ml} {pc nx o index : Nat} {P : Pm} {L : List (Nat × Value)} {st : List Value} (hX : Cx X G own cc nL) (hlk : Cond.fieldLink own index "WellLendsDepthModel" "from" "[I" ∈ gT) (ho : kdo o = 7) (hP : σ o = P) (hd : decode cc pc = .ok (.getfield index, 3) ∧ pc + 3 = nx) (kk : WW X G nL σ lm nx L (.ref (gA G o 23) :: st)) : WW X G nL σ lm pc L (.ref (gA G o 0) :: st) := r_get hX zin7 hlk ho rfl 22 (by decide) rfl rfl hP rfl hd kk
theorem gf_7_23 {X : MX} {G : GE} {own : String} {cc : ByteArray} {nL : Nat} {σ : Mm} {lm : Ml} {pc nx o index : Nat} {P : Pm} {L : List (Nat × Value)} {st : List Value} (hX : Cx X G own cc nL) (hlk : Cond.fieldLink own index "WellLendsDepthModel" "to" "[I" ∈ gT) (ho : kdo o = 7) (hP : σ o = P) (hd : decode cc pc = .ok (.getfield index, 3) ∧ pc + 3 = nx) (kk : WW X G nL σ lm nx L (.ref (gA G o 24) :: st)) : WW X G nL σ lm pc L (.ref (gA G o 0) :: st) := r_get hX zin7 hlk ho rfl 23 (by decide) rfl rfl hP rfl hd kk
theorem gf_7_24 {X : MX} {G : GE} {own : String} {cc : ByteArray} {nL : Nat} {σ : Mm} {lm : Ml} {pc nx o index : Nat} {P : Pm} {L : List (Nat × Value)} {st : List Value} (hX : Cx X G own cc nL) (hlk : Cond.fieldLink own index "WellLendsDepthModel" "sign" "[I" ∈ gT) (ho : kdo o = 7) (hP : σ o = P) (hd : decode cc pc = .ok (.getfield index, 3) ∧ pc + 3 = nx) (kk : WW X G nL σ lm nx L (.ref (gA G o 25) :: st)) : WW X G nL σ lm pc L (.ref (gA G o 0) :: st) := r_get hX zin7 hlk ho rfl 24 (by decide) rfl rfl hP rfl hd kk
theorem gf_7_25 {X : MX} {G : GE} {own : String} {cc : ByteArray} {nL : Nat} {σ : Mm} {lm : Ml} {pc nx o index : Nat} {P : Pm} {L : List (Nat × Value)} {st : List Value} (hX : Cx X G own cc nL) (hlk : Cond.fieldLink own index "WellLendsDepthModel" "waits" "[I" ∈ gT) (ho : kdo o = 7) (hP : σ o = P) (hd : decode cc pc = .ok (.getfield index, 3) ∧ pc + 3 = nx) (kk : WW X G nL σ lm nx L (.ref (gA G o 26) :: st)) : WW X G nL σ lm pc L (.ref (gA G o 0) :: st) := r_get hX zin7 hlk ho rfl 25 (by decide) rfl rfl hP rfl hd kk
theorem gf_7_26 {X : MX} {G : GE} {own : String} {cc : ByteArray} {nL : Nat} {σ : Mm} {lm : Ml} {pc nx o index : Nat} {P : Pm} {L : List (Nat × Value)} {st : List Value} (hX : Cx X G own cc nL) (hlk : Cond.fieldLink own index "WellLendsDepthModel" "signs" "I" ∈ gT) (ho : kdo o = 7) (hP : σ o = P) (hd : decode cc pc = .ok (.getfield index, 3) ∧ pc + 3 = nx) (kk : WW X G nL σ lm nx L (.int (P 0 26) :: st)) : WW X G nL σ lm pc L (.ref (gA G o 0) :: st) := r_get hX zin7 hlk ho rfl 26 (by decide) rfl rfl hP rfl hd kk
theorem pf_7_26 {X : MX} {G : GE} {own : String} {cc : ByteArray} {nL : Nat} {σ : Mm} {lm : Ml} {pc nx o index : Nat} {P : Pm} {x : Int32} {L : List (Nat × Value)} {st : List Value} (hX : Cx X G own cc nL) (hlk : Cond.fieldLink own index "WellLendsDepthModel" "signs" "I" ∈ gT) (ho : kdo o = 7) (hP : σ o = P) (hd : decode cc pc = .ok (.putfield index, 3) ∧ pc + 3 = nx) (kk : WW X G nL (setO σ o (up2 P 0 26 x)) lm nx L st) : WW X G nL σ lm pc L (.int x :: .ref (gA G o 0) :: st) := r_put hX zin7 zty7 zok7 znm7 hlk ho rfl 26 (by decide) rfl rfl rfl rfl rfl rfl hP (fun S => rfl) hd kk
theorem gf_7_27 {X : MX} {G : GE} {own : String} {cc : ByteArray} {nL : Nat} {σ : Mm} {lm : Ml} {pc nx o index : Nat} {P : Pm} {L : List (Nat × Value)} {st : List Value} (hX : Cx X G own cc nL) (hlk : Cond.fieldLink own index "WellLendsDepthModel" "waiting" "I" ∈ gT) (ho : kdo o = 7) (hP : σ o = P) (hd : decode cc pc = .ok (.getfield index, 3) ∧ pc + 3 = nx) (kk : WW X G nL σ lm nx L (.int (P 0 27) :: st)) : WW X G nL σ lm pc L (.ref (gA G o 0) :: st) := r_get hX zin7 hlk ho rfl 27 (by decide) rfl rfl hP rfl hd kk
theorem pf_7_27 {X : MX} {G : GE} {own : String} {cc : ByteArray} {nL : Nat} {σ : Mm} {lm : Ml} {pc nx o index : Nat} {P : Pm} {x : Int32} {L : List (Nat × Value)} {st : List Value} (hX : Cx X G own cc nL) (hlk : Cond.fieldLink own index "WellLendsDepthModel" "waiting" "I" ∈ gT) (ho : kdo o = 7) (hP : σ o = P) (hd : decode cc pc = .ok (.putfield index, 3) ∧ pc + 3 = nx) (kk : WW X G nL (setO σ o (up2 P 0 27 x)) lm nx L st) : WW X G nL σ lm pc L (.int x :: .ref (gA G o 0) :: st) := r_put hX zin7 zty7 zok7 znm7 hlk ho rfl 27 (by decide) rfl rfl rfl rfl rfl rfl hP (fun S => rfl) hd kk
theorem gf_7_28 {X : MX} {G : GE} {own : String} {cc : ByteArray} {nL : Nat} {σ : Mm} {lm : Ml} {pc nx o index : Nat} {P : Pm} {L : List (Nat × Value)} {st : List Value} (hX : Cx X G own cc nL) (hlk : Cond.fieldLink own index "WellLendsDepthModel" "open" "I" ∈ gT) (ho : kdo o = 7) (hP : σ o = P) (hd : decode cc pc = .ok (.getfield index, 3) ∧ pc + 3 = nx) (kk : WW X G nL σ lm nx L (.int (P 0 28) :: st)) : WW X G nL σ lm pc L (.ref (gA G o 0) :: st) := r_get hX zin7 hlk ho rfl 28 (by decide) rfl rfl hP rfl hd kk
theorem pf_7_28 {X : MX} {G : GE} {own : String} {cc : ByteArray} {nL : Nat} {σ : Mm} {lm : Ml} {pc nx o index : Nat} {P : Pm} {x : Int32} {L : List (Nat × Value)} {st : List Value} (hX : Cx X G own cc nL) (hlk : Cond.fieldLink own index "WellLendsDepthModel" "open" "I" ∈ gT) (ho : kdo o = 7) (hP : σ o = P) (hd : decode cc pc = .ok (.putfield index, 3) ∧ pc + 3 = nx) (kk : WW X G nL (setO σ o (up2 P 0 28 x)) lm nx L st) : WW X G nL σ lm pc L (.int x :: .ref (gA G o 0) :: st) := r_put hX zin7 zty7 zok7 znm7 hlk ho rfl 28 (by decide) rfl rfl rfl rfl rfl rfl hP (fun S => rfl) hd kk
theorem gf_7_29 {X : MX} {G : GE} {own : String} {cc : ByteArray} {nL : Nat} {σ : Mm} {lm : Ml} {pc nx o index : Nat} {P : Pm} {L : List (Nat × Value)} {st : List Value} (hX : Cx X G own cc nL) (hlk : Cond.fieldLink own index "WellLendsDepthModel" "letters" "[I" ∈ gT) (ho : kdo o = 7) (hP : σ o = P) (hd : decode cc pc = .ok (.getfield index, 3) ∧ pc + 3 = nx) (kk : WW X G nL σ lm nx L (.ref (gA G o 30) :: st)) : WW X G nL σ lm pc L (.ref (gA G o 0) :: st) := r_get hX zin7 hlk ho rfl 29 (by decide) rfl rfl hP rfl hd kk
theorem gf_7_30 {X : MX} {G : GE} {own : String} {cc : ByteArray} {nL : Nat} {σ : Mm} {lm : Ml} {pc nx o index : Nat} {P : Pm} {L : List (Nat × Value)} {st : List Value} (hX : Cx X G own cc nL) (hlk : Cond.fieldLink own index "WellLendsDepthModel" "markInMind" "I" ∈ gT) (ho : kdo o = 7) (hP : σ o = P) (hd : decode cc pc = .ok (.getfield index, 3) ∧ pc + 3 = nx) (kk : WW X G nL σ lm nx L (.int (P 0 30) :: st)) : WW X G nL σ lm pc L (.ref (gA G o 0) :: st) := r_get hX zin7 hlk ho rfl 30 (by decide) rfl rfl hP rfl hd kk
theorem pf_7_30 {X : MX} {G : GE} {own : String} {cc : ByteArray} {nL : Nat} {σ : Mm} {lm : Ml} {pc nx o index : Nat} {P : Pm} {x : Int32} {L : List (Nat × Value)} {st : List Value} (hX : Cx X G own cc nL) (hlk : Cond.fieldLink own index "WellLendsDepthModel" "markInMind" "I" ∈ gT) (ho : kdo o = 7) (hP : σ o = P) (hd : decode cc pc = .ok (.putfield index, 3) ∧ pc + 3 = nx) (kk : WW X G nL (setO σ o (up2 P 0 30 x)) lm nx L st) : WW X G nL σ lm pc L (.int x :: .ref (gA G o 0) :: st) := r_put hX zin7 zty7 zok7 znm7 hlk ho rfl 30 (by decide) rfl rfl rfl rfl rfl rfl hP (fun S => rfl) hd kk
theorem gf_7_31 {X : MX} {G : GE} {own : String} {cc : ByteArray} {nL : Nat} {σ : Mm} {lm : Ml} {pc nx o index : Nat} {P : Pm} {L : List (Nat × Value)} {st : List Value} (hX : Cx X G own cc nL) (hlk : Cond.fieldLink own index "WellLendsDepthModel" "awayInMind" "I" ∈ gT) (ho : kdo o = 7) (hP : σ o = P) (hd : decode cc pc = .ok (.getfield index, 3) ∧ pc + 3 = nx) (kk : WW X G nL σ lm nx L (.int (P 0 31) :: st)) : WW X G nL σ lm pc L (.ref (gA G o 0) :: st) := r_get hX zin7 hlk ho rfl 31 (by decide) rfl rfl hP rfl hd kk
theorem pf_7_31 {X : MX} {G : GE} {own : String} {cc : ByteArray} {nL : Nat} {σ : Mm} {lm : Ml} {pc nx o index : Nat} {P : Pm} {x : Int32} {L : List (Nat × Value)} {st : List Value} (hX : Cx X G own cc nL) (hlk : Cond.fieldLink own index "WellLendsDepthModel" "awayInMind" "I" ∈ gT) (ho : kdo o = 7) (hP : σ o = P) (hd : decode cc pc = .ok (.putfield index, 3) ∧ pc + 3 = nx) (kk : WW X G nL (setO σ o (up2 P 0 31 x)) lm nx L st) : WW X G nL σ lm pc L (.int x :: .ref (gA G o 0) :: st) := r_put hX zin7 zty7 zok7 znm7 hlk ho rfl 31 (by decide) rfl rfl rfl rfl rfl rfl hP (fun S => rfl) hd kk
theorem gf_7_32 {X : MX} {G : GE} {own : String} {cc : ByteArray} {nL : Nat} {σ : Mm} {lm : Ml} {pc nx o index : Nat} {P : Pm} {L : List (Nat × Value)} {st : List Value} (hX : Cx X G own cc nL) (hlk : Cond.fieldLink own index "WellLendsDepthModel" "pile" "[Z" ∈ gT) (ho : kdo o = 7) (hP : σ o = P) (hd : decode cc pc = .ok (.getfield index, 3) ∧ pc + 3 = nx) (kk : WW X G nL σ lm nx L (.ref (gA G o 33) :: st)) : WW X G nL σ lm pc L (.ref (gA G o 0) :: st) := r_get hX zin7 hlk ho rfl 32 (by decide) rfl rfl hP rfl hd kk
theorem gf_7_33 {X : MX} {G : GE} {own : String} {cc : ByteArray} {nL : Nat} {σ : Mm} {lm : Ml} {pc nx o index : Nat} {P : Pm} {L : List (Nat × Value)} {st : List Value} (hX : Cx X G own cc nL) (hlk : Cond.fieldLink own index "WellLendsDepthModel" "mostSent" "I" ∈ gT) (ho : kdo o = 7) (hP : σ o = P) (hd : decode cc pc = .ok (.getfield index, 3) ∧ pc + 3 = nx) (kk : WW X G nL σ lm nx L (.int (P 0 33) :: st)) : WW X G nL σ lm pc L (.ref (gA G o 0) :: st) := r_get hX zin7 hlk ho rfl 33 (by decide) rfl rfl hP rfl hd kk
theorem pf_7_33 {X : MX} {G : GE} {own : String} {cc : ByteArray} {nL : Nat} {σ : Mm} {lm : Ml} {pc nx o index : Nat} {P : Pm} {x : Int32} {L : List (Nat × Value)} {st : List Value} (hX : Cx X G own cc nL) (hlk : Cond.fieldLink own index "WellLendsDepthModel" "mostSent" "I" ∈ gT) (ho : kdo o = 7) (hP : σ o = P) (hd : decode cc pc = .ok (.putfield index, 3) ∧ pc + 3 = nx) (kk : WW X G nL (setO σ o (up2 P 0 33 x)) lm nx L st) : WW X G nL σ lm pc L (.int x :: .ref (gA G o 0) :: st) := r_put hX zin7 zty7 zok7 znm7 hlk ho rfl 33 (by decide) rfl rfl rfl rfl rfl rfl hP (fun S => rfl) hd kk
theorem gf_7_34 {X : MX} {G : GE} {own : String} {cc : ByteArray} {nL : Nat} {σ : Mm} {lm : Ml} {pc nx o index : Nat} {P : Pm} {L : List (Nat × Value)} {st : List Value} (hX : Cx X G own cc nL) (hlk : Cond.fieldLink own index "WellLendsDepthModel" "turnedAway" "I" ∈ gT) (ho : kdo o = 7) (hP : σ o = P) (hd : decode cc pc = .ok (.getfield index, 3) ∧ pc + 3 = nx) (kk : WW X G nL σ lm nx L (.int (P 0 34) :: st)) : WW X G nL σ lm pc L (.ref (gA G o 0) :: st) := r_get hX zin7 hlk ho rfl 34 (by decide) rfl rfl hP rfl hd kk
theorem pf_7_34 {X : MX} {G : GE} {own : String} {cc : ByteArray} {nL : Nat} {σ : Mm} {lm : Ml} {pc nx o index : Nat} {P : Pm} {x : Int32} {L : List (Nat × Value)} {st : List Value} (hX : Cx X G own cc nL) (hlk : Cond.fieldLink own index "WellLendsDepthModel" "turnedAway" "I" ∈ gT) (ho : kdo o = 7) (hP : σ o = P) (hd : decode cc pc = .ok (.putfield index, 3) ∧ pc + 3 = nx) (kk : WW X G nL (setO σ o (up2 P 0 34 x)) lm nx L st) : WW X G nL σ lm pc L (.int x :: .ref (gA G o 0) :: st) := r_put hX zin7 zty7 zok7 znm7 hlk ho rfl 34 (by decide) rfl rfl rfl rfl rfl rfl hP (fun S => rfl) hd kk
theorem gf_7_35 {X : MX} {G : GE} {own : String} {cc : ByteArray} {nL : Nat} {σ : Mm} {lm : Ml} {pc nx o index : Nat} {P : Pm} {L : List (Nat × Value)} {st : List Value} (hX : Cx X G own cc nL) (hlk : Cond.fieldLink own index "WellLendsDepthModel" "keptDeep" "I" ∈ gT) (ho : kdo o = 7) (hP : σ o = P) (hd : decode cc pc = .ok (.getfield index, 3) ∧ pc + 3 = nx) (kk : WW X G nL σ lm nx L (.int (P 0 35) :: st)) : WW X G nL σ lm pc L (.ref (gA G o 0) :: st) := r_get hX zin7 hlk ho rfl 35 (by decide) rfl rfl hP rfl hd kk
theorem pf_7_35 {X : MX} {G : GE} {own : String} {cc : ByteArray} {nL : Nat} {σ : Mm} {lm : Ml} {pc nx o index : Nat} {P : Pm} {x : Int32} {L : List (Nat × Value)} {st : List Value} (hX : Cx X G own cc nL) (hlk : Cond.fieldLink own index "WellLendsDepthModel" "keptDeep" "I" ∈ gT) (ho : kdo o = 7) (hP : σ o = P) (hd : decode cc pc = .ok (.putfield index, 3) ∧ pc + 3 = nx) (kk : WW X G nL (setO σ o (up2 P 0 35 x)) lm nx L st) : WW X G nL σ lm pc L (.int x :: .ref (gA G o 0) :: st) := r_put hX zin7 zty7 zok7 znm7 hlk ho rfl 35 (by decide) rfl rfl rfl rfl rfl rfl hP (fun S => rfl) hd kk
theorem gf_7_36 {X : MX} {G : GE} {own : String} {cc : ByteArray} {nL : Nat} {σ : Mm} {lm : Ml} {pc nx o index : Nat} {P : Pm} {L : List (Nat × Value)} {st : List Value} (hX : Cx X G own cc nL) (hlk : Cond.fieldLink own index "WellLendsDepthModel" "keptDays" "I" ∈ gT) (ho : kdo o = 7) (hP : σ o = P) (hd : decode cc pc = .ok (.getfield index, 3) ∧ pc + 3 = nx) (kk : WW X G nL σ lm nx L (.int (P 0 36) :: st)) : WW X G nL σ lm pc L (.ref (gA G o 0) :: st) := r_get hX zin7 hlk ho rfl 36 (by decide) rfl rfl hP rfl hd kk
theorem pf_7_36 {X : MX} {G : GE} {own : String} {cc : ByteArray} {nL : Nat} {σ : Mm} {lm : Ml} {pc nx o index : Nat} {P : Pm} {x : Int32} {L : List (Nat × Value)} {st : List Value} (hX : Cx X G own cc nL) (hlk : Cond.fieldLink own index "WellLendsDepthModel" "keptDays" "I" ∈ gT) (ho : kdo o = 7) (hP : σ o = P) (hd : decode cc pc = .ok (.putfield index, 3) ∧ pc + 3 = nx) (kk : WW X G nL (setO σ o (up2 P 0 36 x)) lm nx L st) : WW X G nL σ lm pc L (.int x :: .ref (gA G o 0) :: st) := r_put hX zin7 zty7 zok7 znm7 hlk ho rfl 36 (by decide) rfl rfl rfl rfl rfl rfl hP (fun S => rfl) hd kk
theorem gf_7_37 {X : MX} {G : GE} {own : String} {cc : ByteArray} {nL : Nat} {σ : Mm} {lm : Ml} {pc nx o index : Nat} {P : Pm} {L : List (Nat × Value)} {st : List Value} (hX : Cx X G own cc nL) (hlk : Cond.fieldLink own index "WellLendsDepthModel" "keptWants" "[I" ∈ gT) (ho : kdo o = 7) (hP : σ o = P) (hd : decode cc pc = .ok (.getfield index, 3) ∧ pc + 3 = nx) (kk : WW X G nL σ lm nx L (.ref (gA G o 38) :: st)) : WW X G nL σ lm pc L (.ref (gA G o 0) :: st) := r_get hX zin7 hlk ho rfl 37 (by decide) rfl rfl hP rfl hd kk
theorem gf_7_38 {X : MX} {G : GE} {own : String} {cc : ByteArray} {nL : Nat} {σ : Mm} {lm : Ml} {pc nx o index : Nat} {P : Pm} {L : List (Nat × Value)} {st : List Value} (hX : Cx X G own cc nL) (hlk : Cond.fieldLink own index "WellLendsDepthModel" "keptEvery" "[I" ∈ gT) (ho : kdo o = 7) (hP : σ o = P) (hd : decode cc pc = .ok (.getfield index, 3) ∧ pc + 3 = nx) (kk : WW X G nL σ lm nx L (.ref (gA G o 39) :: st)) : WW X G nL σ lm pc L (.ref (gA G o 0) :: st) := r_get hX zin7 hlk ho rfl 38 (by decide) rfl rfl hP rfl hd kk
theorem gf_7_39 {X : MX} {G : GE} {own : String} {cc : ByteArray} {nL : Nat} {σ : Mm} {lm : Ml} {pc nx o index : Nat} {P : Pm} {L : List (Nat × Value)} {st : List Value} (hX : Cx X G own cc nL) (hlk : Cond.fieldLink own index "WellLendsDepthModel" "keptHas" "[I" ∈ gT) (ho : kdo o = 7) (hP : σ o = P) (hd : decode cc pc = .ok (.getfield index, 3) ∧ pc + 3 = nx) (kk : WW X G nL σ lm nx L (.ref (gA G o 40) :: st)) : WW X G nL σ lm pc L (.ref (gA G o 0) :: st) := r_get hX zin7 hlk ho rfl 39 (by decide) rfl rfl hP rfl hd kk
theorem gf_7_40 {X : MX} {G : GE} {own : String} {cc : ByteArray} {nL : Nat} {σ : Mm} {lm : Ml} {pc nx o index : Nat} {P : Pm} {L : List (Nat × Value)} {st : List Value} (hX : Cx X G own cc nL) (hlk : Cond.fieldLink own index "WellLendsDepthModel" "keptLeft" "[I" ∈ gT) (ho : kdo o = 7) (hP : σ o = P) (hd : decode cc pc = .ok (.getfield index, 3) ∧ pc + 3 = nx) (kk : WW X G nL σ lm nx L (.ref (gA G o 41) :: st)) : WW X G nL σ lm pc L (.ref (gA G o 0) :: st) := r_get hX zin7 hlk ho rfl 40 (by decide) rfl rfl hP rfl hd kk
theorem gf_7_41 {X : MX} {G : GE} {own : String} {cc : ByteArray} {nL : Nat} {σ : Mm} {lm : Ml} {pc nx o index : Nat} {P : Pm} {L : List (Nat × Value)} {st : List Value} (hX : Cx X G own cc nL) (hlk : Cond.fieldLink own index "WellLendsDepthModel" "keptOwes" "[I" ∈ gT) (ho : kdo o = 7) (hP : σ o = P) (hd : decode cc pc = .ok (.getfield index, 3) ∧ pc + 3 = nx) (kk : WW X G nL σ lm nx L (.ref (gA G o 42) :: st)) : WW X G nL σ lm pc L (.ref (gA G o 0) :: st) := r_get hX zin7 hlk ho rfl 41 (by decide) rfl rfl hP rfl hd kk
theorem gf_7_42 {X : MX} {G : GE} {own : String} {cc : ByteArray} {nL : Nat} {σ : Mm} {lm : Ml} {pc nx o index : Nat} {P : Pm} {L : List (Nat × Value)} {st : List Value} (hX : Cx X G own cc nL) (hlk : Cond.fieldLink own index "WellLendsDepthModel" "keptSent" "[I" ∈ gT) (ho : kdo o = 7) (hP : σ o = P) (hd : decode cc pc = .ok (.getfield index, 3) ∧ pc + 3 = nx) (kk : WW X G nL σ lm nx L (.ref (gA G o 43) :: st)) : WW X G nL σ lm pc L (.ref (gA G o 0) :: st) := r_get hX zin7 hlk ho rfl 42 (by decide) rfl rfl hP rfl hd kk
theorem gf_7_43 {X : MX} {G : GE} {own : String} {cc : ByteArray} {nL : Nat} {σ : Mm} {lm : Ml} {pc nx o index : Nat} {P : Pm} {L : List (Nat × Value)} {st : List Value} (hX : Cx X G own cc nL) (hlk : Cond.fieldLink own index "WellLendsDepthModel" "keptLine" "[I" ∈ gT) (ho : kdo o = 7) (hP : σ o = P) (hd : decode cc pc = .ok (.getfield index, 3) ∧ pc + 3 = nx) (kk : WW X G nL σ lm nx L (.ref (gA G o 44) :: st)) : WW X G nL σ lm pc L (.ref (gA G o 0) :: st) := r_get hX zin7 hlk ho rfl 43 (by decide) rfl rfl hP rfl hd kk
theorem gf_7_44 {X : MX} {G : GE} {own : String} {cc : ByteArray} {nL : Nat} {σ : Mm} {lm : Ml} {pc nx o index : Nat} {P : Pm} {L : List (Nat × Value)} {st : List Value} (hX : Cx X G own cc nL) (hlk : Cond.fieldLink own index "WellLendsDepthModel" "seen" "I" ∈ gT) (ho : kdo o = 7) (hP : σ o = P) (hd : decode cc pc = .ok (.getfield index, 3) ∧ pc + 3 = nx) (kk : WW X G nL σ lm nx L (.int (P 0 44) :: st)) : WW X G nL σ lm pc L (.ref (gA G o 0) :: st) := r_get hX zin7 hlk ho rfl 44 (by decide) rfl rfl hP rfl hd kk
theorem pf_7_44 {X : MX} {G : GE} {own : String} {cc : ByteArray} {nL : Nat} {σ : Mm} {lm : Ml} {pc nx o index : Nat} {P : Pm} {x : Int32} {L : List (Nat × Value)} {st : List Value} (hX : Cx X G own cc nL) (hlk : Cond.fieldLink own index "WellLendsDepthModel" "seen" "I" ∈ gT) (ho : kdo o = 7) (hP : σ o = P) (hd : decode cc pc = .ok (.putfield index, 3) ∧ pc + 3 = nx) (kk : WW X G nL (setO σ o (up2 P 0 44 x)) lm nx L st) : WW X G nL σ lm pc L (.int x :: .ref (gA G o 0) :: st) := r_put hX zin7 zty7 zok7 znm7 hlk ho rfl 44 (by decide) rfl rfl rfl rfl rfl rfl hP (fun S => rfl) hd kk
theorem gf_7_45 {X : MX} {G : GE} {own : String} {cc : ByteArray} {nL : Nat} {σ : Mm} {lm : Ml} {pc nx o index : Nat} {P : Pm} {L : List (Nat × Value)} {st : List Value} (hX : Cx X G own cc nL) (hlk : Cond.fieldLink own index "WellLendsDepthModel" "seenDepth" "[I" ∈ gT) (ho : kdo o = 7) (hP : σ o = P) (hd : decode cc pc = .ok (.getfield index, 3) ∧ pc + 3 = nx) (kk : WW X G nL σ lm nx L (.ref (gA G o 46) :: st)) : WW X G nL σ lm pc L (.ref (gA G o 0) :: st) := r_get hX zin7 hlk ho rfl 45 (by decide) rfl rfl hP rfl hd kk
theorem gf_7_46 {X : MX} {G : GE} {own : String} {cc : ByteArray} {nL : Nat} {σ : Mm} {lm : Ml} {pc nx o index : Nat} {P : Pm} {L : List (Nat × Value)} {st : List Value} (hX : Cx X G own cc nL) (hlk : Cond.fieldLink own index "WellLendsDepthModel" "seenWhen" "[I" ∈ gT) (ho : kdo o = 7) (hP : σ o = P) (hd : decode cc pc = .ok (.getfield index, 3) ∧ pc + 3 = nx) (kk : WW X G nL σ lm nx L (.ref (gA G o 47) :: st)) : WW X G nL σ lm pc L (.ref (gA G o 0) :: st) := r_get hX zin7 hlk ho rfl 46 (by decide) rfl rfl hP rfl hd kk
theorem gf_7_47 {X : MX} {G : GE} {own : String} {cc : ByteArray} {nL : Nat} {σ : Mm} {lm : Ml} {pc nx o index : Nat} {P : Pm} {L : List (Nat × Value)} {st : List Value} (hX : Cx X G own cc nL) (hlk : Cond.fieldLink own index "WellLendsDepthModel" "years" "I" ∈ gT) (ho : kdo o = 7) (hP : σ o = P) (hd : decode cc pc = .ok (.getfield index, 3) ∧ pc + 3 = nx) (kk : WW X G nL σ lm nx L (.int (P 0 47) :: st)) : WW X G nL σ lm pc L (.ref (gA G o 0) :: st) := r_get hX zin7 hlk ho rfl 47 (by decide) rfl rfl hP rfl hd kk
theorem pf_7_47 {X : MX} {G : GE} {own : String} {cc : ByteArray} {nL : Nat} {σ : Mm} {lm : Ml} {pc nx o index : Nat} {P : Pm} {x : Int32} {L : List (Nat × Value)} {st : List Value} (hX : Cx X G own cc nL) (hlk : Cond.fieldLink own index "WellLendsDepthModel" "years" "I" ∈ gT) (ho : kdo o = 7) (hP : σ o = P) (hd : decode cc pc = .ok (.putfield index, 3) ∧ pc + 3 = nx) (kk : WW X G nL (setO σ o (up2 P 0 47 x)) lm nx L st) : WW X G nL σ lm pc L (.int x :: .ref (gA G o 0) :: st) := r_put hX zin7 zty7 zok7 znm7 hlk ho rfl 47 (by decide) rfl rfl rfl rfl rfl rfl hP (fun S => rfl) hd kk
theorem gf_7_48 {X : MX} {G : GE} {own : String} {cc : ByteArray} {nL : Nat} {σ : Mm} {lm : Ml} {pc nx o index : Nat} {P : Pm} {L : List (Nat × Value)} {st : List Value} (hX : Cx X G own cc nL) (hlk : Cond.fieldLink own index "WellLendsDepthModel" "books" "I" ∈ gT) (ho : kdo o = 7) (hP : σ o = P) (hd : decode cc pc = .ok (.getfield index, 3) ∧ pc + 3 = nx) (kk : WW X G nL σ lm nx L (.int (P 0 48) :: st)) : WW X G nL σ lm pc L (.ref (gA G o 0) :: st) := r_get hX zin7 hlk ho rfl 48 (by decide) rfl rfl hP rfl hd kk
theorem pf_7_48 {X : MX} {G : GE} {own : String} {cc : ByteArray} {nL : Nat} {σ : Mm} {lm : Ml} {pc nx o index : Nat} {P : Pm} {x : Int32} {L : List (Nat × Value)} {st : List Value} (hX : Cx X G own cc nL) (hlk : Cond.fieldLink own index "WellLendsDepthModel" "books" "I" ∈ gT) (ho : kdo o = 7) (hP : σ o = P) (hd : decode cc pc = .ok (.putfield index, 3) ∧ pc + 3 = nx) (kk : WW X G nL (setO σ o (up2 P 0 48 x)) lm nx L st) : WW X G nL σ lm pc L (.int x :: .ref (gA G o 0) :: st) := r_put hX zin7 zty7 zok7 znm7 hlk ho rfl 48 (by decide) rfl rfl rfl rfl rfl rfl hP (fun S => rfl) hd kk
theorem gf_7_49 {X : MX} {G : GE} {own : String} {cc : ByteArray} {nL : Nat} {σ : Mm} {lm : Ml} {pc nx o index : Nat} {P : Pm} {L : List (Nat × Value)} {st : List Value} (hX : Cx X G own cc nL) (hlk : Cond.fieldLink own index "WellLendsDepthModel" "yearWhat" "[I" ∈ gT) (ho : kdo o = 7) (hP : σ o = P) (hd : decode cc pc = .ok (.getfield index, 3) ∧ pc + 3 = nx) (kk : WW X G nL σ lm nx L (.ref (gA G o 50) :: st)) : WW X G nL σ lm pc L (.ref (gA G o 0) :: st) := r_get hX zin7 hlk ho rfl 49 (by decide) rfl rfl hP rfl hd kk
theorem gf_7_50 {X : MX} {G : GE} {own : String} {cc : ByteArray} {nL : Nat} {σ : Mm} {lm : Ml} {pc nx o index : Nat} {P : Pm} {L : List (Nat × Value)} {st : List Value} (hX : Cx X G own cc nL) (hlk : Cond.fieldLink own index "WellLendsDepthModel" "yearWho" "[I" ∈ gT) (ho : kdo o = 7) (hP : σ o = P) (hd : decode cc pc = .ok (.getfield index, 3) ∧ pc + 3 = nx) (kk : WW X G nL σ lm nx L (.ref (gA G o 51) :: st)) : WW X G nL σ lm pc L (.ref (gA G o 0) :: st) := r_get hX zin7 hlk ho rfl 50 (by decide) rfl rfl hP rfl hd kk
theorem gf_7_51 {X : MX} {G : GE} {own : String} {cc : ByteArray} {nL : Nat} {σ : Mm} {lm : Ml} {pc nx o index : Nat} {P : Pm} {L : List (Nat × Value)} {st : List Value} (hX : Cx X G own cc nL) (hlk : Cond.fieldLink own index "WellLendsDepthModel" "bookWho" "[I" ∈ gT) (ho : kdo o = 7) (hP : σ o = P) (hd : decode cc pc = .ok (.getfield index, 3) ∧ pc + 3 = nx) (kk : WW X G nL σ lm nx L (.ref (gA G o 52) :: st)) : WW X G nL σ lm pc L (.ref (gA G o 0) :: st) := r_get hX zin7 hlk ho rfl 51 (by decide) rfl rfl hP rfl hd kk
theorem gf_7_52 {X : MX} {G : GE} {own : String} {cc : ByteArray} {nL : Nat} {σ : Mm} {lm : Ml} {pc nx o index : Nat} {P : Pm} {L : List (Nat × Value)} {st : List Value} (hX : Cx X G own cc nL) (hlk : Cond.fieldLink own index "WellLendsDepthModel" "bookOwes" "[I" ∈ gT) (ho : kdo o = 7) (hP : σ o = P) (hd : decode cc pc = .ok (.getfield index, 3) ∧ pc + 3 = nx) (kk : WW X G nL σ lm nx L (.ref (gA G o 53) :: st)) : WW X G nL σ lm pc L (.ref (gA G o 0) :: st) := r_get hX zin7 hlk ho rfl 52 (by decide) rfl rfl hP rfl hd kk
theorem gf_7_53 {X : MX} {G : GE} {own : String} {cc : ByteArray} {nL : Nat} {σ : Mm} {lm : Ml} {pc nx o index : Nat} {P : Pm} {L : List (Nat × Value)} {st : List Value} (hX : Cx X G own cc nL) (hlk : Cond.fieldLink own index "WellLendsDepthModel" "hasImage" "Z" ∈ gT) (ho : kdo o = 7) (hP : σ o = P) (hd : decode cc pc = .ok (.getfield index, 3) ∧ pc + 3 = nx) (kk : WW X G nL σ lm nx L (.int (P 0 53) :: st)) : WW X G nL σ lm pc L (.ref (gA G o 0) :: st) := r_get hX zin7 hlk ho rfl 53 (by decide) rfl rfl hP rfl hd kk
theorem pf_7_53 {X : MX} {G : GE} {own : String} {cc : ByteArray} {nL : Nat} {σ : Mm} {lm : Ml} {pc nx o index : Nat} {P : Pm} {x : Int32} {L : List (Nat × Value)} {st : List Value} (hz : x = 0 ∨ x = 1) (hX : Cx X G own cc nL) (hlk : Cond.fieldLink own index "WellLendsDepthModel" "hasImage" "Z" ∈ gT) (ho : kdo o = 7) (hP : σ o = P) (hd : decode cc pc = .ok (.putfield index, 3) ∧ pc + 3 = nx) (kk : WW X G nL (setO σ o (up2 P 0 53 x)) lm nx L st) : WW X G nL σ lm pc L (.int x :: .ref (gA G o 0) :: st) := r_put hX zin7 zty7 zok7 znm7 hlk ho rfl 53 (by decide) rfl rfl rfl (zb_n hz) (zb_f hz) rfl hP (fun S => rfl) hd kk
theorem gf_7_54 {X : MX} {G : GE} {own : String} {cc : ByteArray} {nL : Nat} {σ : Mm} {lm : Ml} {pc nx o index : Nat} {P : Pm} {L : List (Nat × Value)} {st : List Value} (hX : Cx X G own cc nL) (hlk : Cond.fieldLink own index "WellLendsDepthModel" "imageThe" "I" ∈ gT) (ho : kdo o = 7) (hP : σ o = P) (hd : decode cc pc = .ok (.getfield index, 3) ∧ pc + 3 = nx) (kk : WW X G nL σ lm nx L (.int (P 0 54) :: st)) : WW X G nL σ lm pc L (.ref (gA G o 0) :: st) := r_get hX zin7 hlk ho rfl 54 (by decide) rfl rfl hP rfl hd kk
theorem pf_7_54 {X : MX} {G : GE} {own : String} {cc : ByteArray} {nL : Nat} {σ : Mm} {lm : Ml} {pc nx o index : Nat} {P : Pm} {x : Int32} {L : List (Nat × Value)} {st : List Value} (hX : Cx X G own cc nL) (hlk : Cond.fieldLink own index "WellLendsDepthModel" "imageThe" "I" ∈ gT) (ho : kdo o = 7) (hP : σ o = P) (hd : decode cc pc = .ok (.putfield index, 3) ∧ pc + 3 = nx) (kk : WW X G nL (setO σ o (up2 P 0 54 x)) lm nx L st) : WW X G nL σ lm pc L (.int x :: .ref (gA G o 0) :: st) := r_put hX zin7 zty7 zok7 znm7 hlk ho rfl 54 (by decide) rfl rfl rfl rfl rfl rfl hP (fun S => rfl) hd kk
theorem gf_7_55 {X : MX} {G : GE} {own : String} {cc : ByteArray} {nL : Nat} {σ : Mm} {lm : Ml} {pc nx o index : Nat} {P : Pm} {L : List (Nat × Value)} {st : List Value} (hX : Cx X G own cc nL) (hlk : Cond.fieldLink own index "WellLendsDepthModel" "imageDeep" "I" ∈ gT) (ho : kdo o = 7) (hP : σ o = P) (hd : decode cc pc = .ok (.getfield index, 3) ∧ pc + 3 = nx) (kk : WW X G nL σ lm nx L (.int (P 0 55) :: st)) : WW X G nL σ lm pc L (.ref (gA G o 0) :: st) := r_get hX zin7 hlk ho rfl 55 (by decide) rfl rfl hP rfl hd kk
theorem pf_7_55 {X : MX} {G : GE} {own : String} {cc : ByteArray} {nL : Nat} {σ : Mm} {lm : Ml} {pc nx o index : Nat} {P : Pm} {x : Int32} {L : List (Nat × Value)} {st : List Value} (hX : Cx X G own cc nL) (hlk : Cond.fieldLink own index "WellLendsDepthModel" "imageDeep" "I" ∈ gT) (ho : kdo o = 7) (hP : σ o = P) (hd : decode cc pc = .ok (.putfield index, 3) ∧ pc + 3 = nx) (kk : WW X G nL (setO σ o (up2 P 0 55 x)) lm nx L st) : WW X G nL σ lm pc L (.int x :: .ref (gA G o 0) :: st) := r_put hX zin7 zty7 zok7 znm7 hlk ho rfl 55 (by decide) rfl rfl rfl rfl rfl rfl hP (fun S => rfl) hd kk
theorem gf_7_56 {X : MX} {G : GE} {own : String} {cc : ByteArray} {nL : Nat} {σ : Mm} {lm : Ml} {pc nx o index : Nat} {P : Pm} {L : List (Nat × Value)} {st : List Value} (hX : Cx X G own cc nL) (hlk : Cond.fieldLink own index "WellLendsDepthModel" "imageBorrowers" "I" ∈ gT) (ho : kdo o = 7) (hP : σ o = P) (hd : decode cc pc = .ok (.getfield index, 3) ∧ pc + 3 = nx) (kk : WW X G nL σ lm nx L (.int (P 0 56) :: st)) : WW X G nL σ lm pc L (.ref (gA G o 0) :: st) := r_get hX zin7 hlk ho rfl 56 (by decide) rfl rfl hP rfl hd kk
theorem pf_7_56 {X : MX} {G : GE} {own : String} {cc : ByteArray} {nL : Nat} {σ : Mm} {lm : Ml} {pc nx o index : Nat} {P : Pm} {x : Int32} {L : List (Nat × Value)} {st : List Value} (hX : Cx X G own cc nL) (hlk : Cond.fieldLink own index "WellLendsDepthModel" "imageBorrowers" "I" ∈ gT) (ho : kdo o = 7) (hP : σ o = P) (hd : decode cc pc = .ok (.putfield index, 3) ∧ pc + 3 = nx) (kk : WW X G nL (setO σ o (up2 P 0 56 x)) lm nx L st) : WW X G nL σ lm pc L (.int x :: .ref (gA G o 0) :: st) := r_put hX zin7 zty7 zok7 znm7 hlk ho rfl 56 (by decide) rfl rfl rfl rfl rfl rfl hP (fun S => rfl) hd kk
theorem gf_7_57 {X : MX} {G : GE} {own : String} {cc : ByteArray} {nL : Nat} {σ : Mm} {lm : Ml} {pc nx o index : Nat} {P : Pm} {L : List (Nat × Value)} {st : List Value} (hX : Cx X G own cc nL) (hlk : Cond.fieldLink own index "WellLendsDepthModel" "imageDays" "I" ∈ gT) (ho : kdo o = 7) (hP : σ o = P) (hd : decode cc pc = .ok (.getfield index, 3) ∧ pc + 3 = nx) (kk : WW X G nL σ lm nx L (.int (P 0 57) :: st)) : WW X G nL σ lm pc L (.ref (gA G o 0) :: st) := r_get hX zin7 hlk ho rfl 57 (by decide) rfl rfl hP rfl hd kk
theorem pf_7_57 {X : MX} {G : GE} {own : String} {cc : ByteArray} {nL : Nat} {σ : Mm} {lm : Ml} {pc nx o index : Nat} {P : Pm} {x : Int32} {L : List (Nat × Value)} {st : List Value} (hX : Cx X G own cc nL) (hlk : Cond.fieldLink own index "WellLendsDepthModel" "imageDays" "I" ∈ gT) (ho : kdo o = 7) (hP : σ o = P) (hd : decode cc pc = .ok (.putfield index, 3) ∧ pc + 3 = nx) (kk : WW X G nL (setO σ o (up2 P 0 57 x)) lm nx L st) : WW X G nL σ lm pc L (.int x :: .ref (gA G o 0) :: st) := r_put hX zin7 zty7 zok7 znm7 hlk ho rfl 57 (by decide) rfl rfl rfl rfl rfl rfl hP (fun S => rfl) hd kk
theorem gf_7_58 {X : MX} {G : GE} {own : String} {cc : ByteArray} {nL : Nat} {σ : Mm} {lm : Ml} {pc nx o index : Nat} {P : Pm} {L : List (Nat × Value)} {st : List Value} (hX : Cx X G own cc nL) (hlk : Cond.fieldLink own index "WellLendsDepthModel" "imageSeen" "I" ∈ gT) (ho : kdo o = 7) (hP : σ o = P) (hd : decode cc pc = .ok (.getfield index, 3) ∧ pc + 3 = nx) (kk : WW X G nL σ lm nx L (.int (P 0 58) :: st)) : WW X G nL σ lm pc L (.ref (gA G o 0) :: st) := r_get hX zin7 hlk ho rfl 58 (by decide) rfl rfl hP rfl hd kk
theorem pf_7_58 {X : MX} {G : GE} {own : String} {cc : ByteArray} {nL : Nat} {σ : Mm} {lm : Ml} {pc nx o index : Nat} {P : Pm} {x : Int32} {L : List (Nat × Value)} {st : List Value} (hX : Cx X G own cc nL) (hlk : Cond.fieldLink own index "WellLendsDepthModel" "imageSeen" "I" ∈ gT) (ho : kdo o = 7) (hP : σ o = P) (hd : decode cc pc = .ok (.putfield index, 3) ∧ pc + 3 = nx) (kk : WW X G nL (setO σ o (up2 P 0 58 x)) lm nx L st) : WW X G nL σ lm pc L (.int x :: .ref (gA G o 0) :: st) := r_put hX zin7 zty7 zok7 znm7 hlk ho rfl 58 (by decide) rfl rfl rfl rfl rfl rfl hP (fun S => rfl) hd kk
theorem gf_7_59 {X : MX} {G : GE} {own : String} {cc : ByteArray} {nL : Nat} {σ : Mm} {lm : Ml} {pc nx o index : Nat} {P : Pm} {L : List (Nat × Value)} {st : List Value} (hX : Cx X G own cc nL) (hlk : Cond.fieldLink own index "WellLendsDepthModel" "imageYears" "I" ∈ gT) (ho : kdo o = 7) (hP : σ o = P) (hd : decode cc pc = .ok (.getfield index, 3) ∧ pc + 3 = nx) (kk : WW X G nL σ lm nx L (.int (P 0 59) :: st)) : WW X G nL σ lm pc L (.ref (gA G o 0) :: st) := r_get hX zin7 hlk ho rfl 59 (by decide) rfl rfl hP rfl hd kk
theorem pf_7_59 {X : MX} {G : GE} {own : String} {cc : ByteArray} {nL : Nat} {σ : Mm} {lm : Ml} {pc nx o index : Nat} {P : Pm} {x : Int32} {L : List (Nat × Value)} {st : List Value} (hX : Cx X G own cc nL) (hlk : Cond.fieldLink own index "WellLendsDepthModel" "imageYears" "I" ∈ gT) (ho : kdo o = 7) (hP : σ o = P) (hd : decode cc pc = .ok (.putfield index, 3) ∧ pc + 3 = nx) (kk : WW X G nL (setO σ o (up2 P 0 59 x)) lm nx L st) : WW X G nL σ lm pc L (.int x :: .ref (gA G o 0) :: st) := r_put hX zin7 zty7 zok7 znm7 hlk ho rfl 59 (by decide) rfl rfl rfl rfl rfl rfl hP (fun S => rfl) hd kk
theorem gf_7_60 {X : MX} {G : GE} {own : String} {cc : ByteArray} {nL : Nat} {σ : Mm} {lm : Ml} {pc nx o index : Nat} {P : Pm} {L : List (Nat × Value)} {st : List Value} (hX : Cx X G own cc nL) (hlk : Cond.fieldLink own index "WellLendsDepthModel" "imageBooks" "I" ∈ gT) (ho : kdo o = 7) (hP : σ o = P) (hd : decode cc pc = .ok (.getfield index, 3) ∧ pc + 3 = nx) (kk : WW X G nL σ lm nx L (.int (P 0 60) :: st)) : WW X G nL σ lm pc L (.ref (gA G o 0) :: st) := r_get hX zin7 hlk ho rfl 60 (by decide) rfl rfl hP rfl hd kk
theorem pf_7_60 {X : MX} {G : GE} {own : String} {cc : ByteArray} {nL : Nat} {σ : Mm} {lm : Ml} {pc nx o index : Nat} {P : Pm} {x : Int32} {L : List (Nat × Value)} {st : List Value} (hX : Cx X G own cc nL) (hlk : Cond.fieldLink own index "WellLendsDepthModel" "imageBooks" "I" ∈ gT) (ho : kdo o = 7) (hP : σ o = P) (hd : decode cc pc = .ok (.putfield index, 3) ∧ pc + 3 = nx) (kk : WW X G nL (setO σ o (up2 P 0 60 x)) lm nx L st) : WW X G nL σ lm pc L (.int x :: .ref (gA G o 0) :: st) := r_put hX zin7 zty7 zok7 znm7 hlk ho rfl 60 (by decide) rfl rfl rfl rfl rfl rfl hP (fun S => rfl) hd kk
theorem gf_7_61 {X : MX} {G : GE} {own : String} {cc : ByteArray} {nL : Nat} {σ : Mm} {lm : Ml} {pc nx o index : Nat} {P : Pm} {L : List (Nat × Value)} {st : List Value} (hX : Cx X G own cc nL) (hlk : Cond.fieldLink own index "WellLendsDepthModel" "imageKind" "[I" ∈ gT) (ho : kdo o = 7) (hP : σ o = P) (hd : decode cc pc = .ok (.getfield index, 3) ∧ pc + 3 = nx) (kk : WW X G nL σ lm nx L (.ref (gA G o 62) :: st)) : WW X G nL σ lm pc L (.ref (gA G o 0) :: st) := r_get hX zin7 hlk ho rfl 61 (by decide) rfl rfl hP rfl hd kk
theorem gf_7_62 {X : MX} {G : GE} {own : String} {cc : ByteArray} {nL : Nat} {σ : Mm} {lm : Ml} {pc nx o index : Nat} {P : Pm} {L : List (Nat × Value)} {st : List Value} (hX : Cx X G own cc nL) (hlk : Cond.fieldLink own index "WellLendsDepthModel" "imageV" "[I" ∈ gT) (ho : kdo o = 7) (hP : σ o = P) (hd : decode cc pc = .ok (.getfield index, 3) ∧ pc + 3 = nx) (kk : WW X G nL σ lm nx L (.ref (gA G o 63) :: st)) : WW X G nL σ lm pc L (.ref (gA G o 0) :: st) := r_get hX zin7 hlk ho rfl 62 (by decide) rfl rfl hP rfl hd kk
theorem gf_7_63 {X : MX} {G : GE} {own : String} {cc : ByteArray} {nL : Nat} {σ : Mm} {lm : Ml} {pc nx o index : Nat} {P : Pm} {L : List (Nat × Value)} {st : List Value} (hX : Cx X G own cc nL) (hlk : Cond.fieldLink own index "WellLendsDepthModel" "imageWants" "[I" ∈ gT) (ho : kdo o = 7) (hP : σ o = P) (hd : decode cc pc = .ok (.getfield index, 3) ∧ pc + 3 = nx) (kk : WW X G nL σ lm nx L (.ref (gA G o 64) :: st)) : WW X G nL σ lm pc L (.ref (gA G o 0) :: st) := r_get hX zin7 hlk ho rfl 63 (by decide) rfl rfl hP rfl hd kk
theorem gf_7_64 {X : MX} {G : GE} {own : String} {cc : ByteArray} {nL : Nat} {σ : Mm} {lm : Ml} {pc nx o index : Nat} {P : Pm} {L : List (Nat × Value)} {st : List Value} (hX : Cx X G own cc nL) (hlk : Cond.fieldLink own index "WellLendsDepthModel" "imageEvery" "[I" ∈ gT) (ho : kdo o = 7) (hP : σ o = P) (hd : decode cc pc = .ok (.getfield index, 3) ∧ pc + 3 = nx) (kk : WW X G nL σ lm nx L (.ref (gA G o 65) :: st)) : WW X G nL σ lm pc L (.ref (gA G o 0) :: st) := r_get hX zin7 hlk ho rfl 64 (by decide) rfl rfl hP rfl hd kk
theorem gf_7_65 {X : MX} {G : GE} {own : String} {cc : ByteArray} {nL : Nat} {σ : Mm} {lm : Ml} {pc nx o index : Nat} {P : Pm} {L : List (Nat × Value)} {st : List Value} (hX : Cx X G own cc nL) (hlk : Cond.fieldLink own index "WellLendsDepthModel" "imageHas" "[I" ∈ gT) (ho : kdo o = 7) (hP : σ o = P) (hd : decode cc pc = .ok (.getfield index, 3) ∧ pc + 3 = nx) (kk : WW X G nL σ lm nx L (.ref (gA G o 66) :: st)) : WW X G nL σ lm pc L (.ref (gA G o 0) :: st) := r_get hX zin7 hlk ho rfl 65 (by decide) rfl rfl hP rfl hd kk
theorem gf_7_66 {X : MX} {G : GE} {own : String} {cc : ByteArray} {nL : Nat} {σ : Mm} {lm : Ml} {pc nx o index : Nat} {P : Pm} {L : List (Nat × Value)} {st : List Value} (hX : Cx X G own cc nL) (hlk : Cond.fieldLink own index "WellLendsDepthModel" "imageLeft" "[I" ∈ gT) (ho : kdo o = 7) (hP : σ o = P) (hd : decode cc pc = .ok (.getfield index, 3) ∧ pc + 3 = nx) (kk : WW X G nL σ lm nx L (.ref (gA G o 67) :: st)) : WW X G nL σ lm pc L (.ref (gA G o 0) :: st) := r_get hX zin7 hlk ho rfl 66 (by decide) rfl rfl hP rfl hd kk
theorem gf_7_67 {X : MX} {G : GE} {own : String} {cc : ByteArray} {nL : Nat} {σ : Mm} {lm : Ml} {pc nx o index : Nat} {P : Pm} {L : List (Nat × Value)} {st : List Value} (hX : Cx X G own cc nL) (hlk : Cond.fieldLink own index "WellLendsDepthModel" "imageOwes" "[I" ∈ gT) (ho : kdo o = 7) (hP : σ o = P) (hd : decode cc pc = .ok (.getfield index, 3) ∧ pc + 3 = nx) (kk : WW X G nL σ lm nx L (.ref (gA G o 68) :: st)) : WW X G nL σ lm pc L (.ref (gA G o 0) :: st) := r_get hX zin7 hlk ho rfl 67 (by decide) rfl rfl hP rfl hd kk
theorem gf_7_68 {X : MX} {G : GE} {own : String} {cc : ByteArray} {nL : Nat} {σ : Mm} {lm : Ml} {pc nx o index : Nat} {P : Pm} {L : List (Nat × Value)} {st : List Value} (hX : Cx X G own cc nL) (hlk : Cond.fieldLink own index "WellLendsDepthModel" "imageSent" "[I" ∈ gT) (ho : kdo o = 7) (hP : σ o = P) (hd : decode cc pc = .ok (.getfield index, 3) ∧ pc + 3 = nx) (kk : WW X G nL σ lm nx L (.ref (gA G o 69) :: st)) : WW X G nL σ lm pc L (.ref (gA G o 0) :: st) := r_get hX zin7 hlk ho rfl 68 (by decide) rfl rfl hP rfl hd kk
theorem gf_7_69 {X : MX} {G : GE} {own : String} {cc : ByteArray} {nL : Nat} {σ : Mm} {lm : Ml} {pc nx o index : Nat} {P : Pm} {L : List (Nat × Value)} {st : List Value} (hX : Cx X G own cc nL) (hlk : Cond.fieldLink own index "WellLendsDepthModel" "imageLine" "[I" ∈ gT) (ho : kdo o = 7) (hP : σ o = P) (hd : decode cc pc = .ok (.getfield index, 3) ∧ pc + 3 = nx) (kk : WW X G nL σ lm nx L (.ref (gA G o 70) :: st)) : WW X G nL σ lm pc L (.ref (gA G o 0) :: st) := r_get hX zin7 hlk ho rfl 69 (by decide) rfl rfl hP rfl hd kk
theorem gf_7_70 {X : MX} {G : GE} {own : String} {cc : ByteArray} {nL : Nat} {σ : Mm} {lm : Ml} {pc nx o index : Nat} {P : Pm} {L : List (Nat × Value)} {st : List Value} (hX : Cx X G own cc nL) (hlk : Cond.fieldLink own index "WellLendsDepthModel" "imageRows" "[I" ∈ gT) (ho : kdo o = 7) (hP : σ o = P) (hd : decode cc pc = .ok (.getfield index, 3) ∧ pc + 3 = nx) (kk : WW X G nL σ lm nx L (.ref (gA G o 71) :: st)) : WW X G nL σ lm pc L (.ref (gA G o 0) :: st) := r_get hX zin7 hlk ho rfl 70 (by decide) rfl rfl hP rfl hd kk
theorem gf_7_71 {X : MX} {G : GE} {own : String} {cc : ByteArray} {nL : Nat} {σ : Mm} {lm : Ml} {pc nx o index : Nat} {P : Pm} {L : List (Nat × Value)} {st : List Value} (hX : Cx X G own cc nL) (hlk : Cond.fieldLink own index "WellLendsDepthModel" "imageSeenDepth" "[I" ∈ gT) (ho : kdo o = 7) (hP : σ o = P) (hd : decode cc pc = .ok (.getfield index, 3) ∧ pc + 3 = nx) (kk : WW X G nL σ lm nx L (.ref (gA G o 72) :: st)) : WW X G nL σ lm pc L (.ref (gA G o 0) :: st) := r_get hX zin7 hlk ho rfl 71 (by decide) rfl rfl hP rfl hd kk
theorem gf_7_72 {X : MX} {G : GE} {own : String} {cc : ByteArray} {nL : Nat} {σ : Mm} {lm : Ml} {pc nx o index : Nat} {P : Pm} {L : List (Nat × Value)} {st : List Value} (hX : Cx X G own cc nL) (hlk : Cond.fieldLink own index "WellLendsDepthModel" "imageWhen" "[I" ∈ gT) (ho : kdo o = 7) (hP : σ o = P) (hd : decode cc pc = .ok (.getfield index, 3) ∧ pc + 3 = nx) (kk : WW X G nL σ lm nx L (.ref (gA G o 73) :: st)) : WW X G nL σ lm pc L (.ref (gA G o 0) :: st) := r_get hX zin7 hlk ho rfl 72 (by decide) rfl rfl hP rfl hd kk
theorem gf_7_73 {X : MX} {G : GE} {own : String} {cc : ByteArray} {nL : Nat} {σ : Mm} {lm : Ml} {pc nx o index : Nat} {P : Pm} {L : List (Nat × Value)} {st : List Value} (hX : Cx X G own cc nL) (hlk : Cond.fieldLink own index "WellLendsDepthModel" "imageWhat" "[I" ∈ gT) (ho : kdo o = 7) (hP : σ o = P) (hd : decode cc pc = .ok (.getfield index, 3) ∧ pc + 3 = nx) (kk : WW X G nL σ lm nx L (.ref (gA G o 74) :: st)) : WW X G nL σ lm pc L (.ref (gA G o 0) :: st) := r_get hX zin7 hlk ho rfl 73 (by decide) rfl rfl hP rfl hd kk
theorem gf_7_74 {X : MX} {G : GE} {own : String} {cc : ByteArray} {nL : Nat} {σ : Mm} {lm : Ml} {pc nx o index : Nat} {P : Pm} {L : List (Nat × Value)} {st : List Value} (hX : Cx X G own cc nL) (hlk : Cond.fieldLink own index "WellLendsDepthModel" "imageWho" "[I" ∈ gT) (ho : kdo o = 7) (hP : σ o = P) (hd : decode cc pc = .ok (.getfield index, 3) ∧ pc + 3 = nx) (kk : WW X G nL σ lm nx L (.ref (gA G o 75) :: st)) : WW X G nL σ lm pc L (.ref (gA G o 0) :: st) := r_get hX zin7 hlk ho rfl 74 (by decide) rfl rfl hP rfl hd kk
theorem gf_7_75 {X : MX} {G : GE} {own : String} {cc : ByteArray} {nL : Nat} {σ : Mm} {lm : Ml} {pc nx o index : Nat} {P : Pm} {L : List (Nat × Value)} {st : List Value} (hX : Cx X G own cc nL) (hlk : Cond.fieldLink own index "WellLendsDepthModel" "imageBookWho" "[I" ∈ gT) (ho : kdo o = 7) (hP : σ o = P) (hd : decode cc pc = .ok (.getfield index, 3) ∧ pc + 3 = nx) (kk : WW X G nL σ lm nx L (.ref (gA G o 76) :: st)) : WW X G nL σ lm pc L (.ref (gA G o 0) :: st) := r_get hX zin7 hlk ho rfl 75 (by decide) rfl rfl hP rfl hd kk
theorem gf_7_76 {X : MX} {G : GE} {own : String} {cc : ByteArray} {nL : Nat} {σ : Mm} {lm : Ml} {pc nx o index : Nat} {P : Pm} {L : List (Nat × Value)} {st : List Value} (hX : Cx X G own cc nL) (hlk : Cond.fieldLink own index "WellLendsDepthModel" "imageBookOwes" "[I" ∈ gT) (ho : kdo o = 7) (hP : σ o = P) (hd : decode cc pc = .ok (.getfield index, 3) ∧ pc + 3 = nx) (kk : WW X G nL σ lm nx L (.ref (gA G o 77) :: st)) : WW X G nL σ lm pc L (.ref (gA G o 0) :: st) := r_get hX zin7 hlk ho rfl 76 (by decide) rfl rfl hP rfl hd kk
theorem gf_7_77 {X : MX} {G : GE} {own : String} {cc : ByteArray} {nL : Nat} {σ : Mm} {lm : Ml} {pc nx o index : Nat} {P : Pm} {L : List (Nat × Value)} {st : List Value} (hX : Cx X G own cc nL) (hlk : Cond.fieldLink own index "WellLendsDepthModel" "ran" "I" ∈ gT) (ho : kdo o = 7) (hP : σ o = P) (hd : decode cc pc = .ok (.getfield index, 3) ∧ pc + 3 = nx) (kk : WW X G nL σ lm nx L (.int (P 0 77) :: st)) : WW X G nL σ lm pc L (.ref (gA G o 0) :: st) := r_get hX zin7 hlk ho rfl 77 (by decide) rfl rfl hP rfl hd kk
theorem pf_7_77 {X : MX} {G : GE} {own : String} {cc : ByteArray} {nL : Nat} {σ : Mm} {lm : Ml} {pc nx o index : Nat} {P : Pm} {x : Int32} {L : List (Nat × Value)} {st : List Value} (hX : Cx X G own cc nL) (hlk : Cond.fieldLink own index "WellLendsDepthModel" "ran" "I" ∈ gT) (ho : kdo o = 7) (hP : σ o = P) (hd : decode cc pc = .ok (.putfield index, 3) ∧ pc + 3 = nx) (kk : WW X G nL (setO σ o (up2 P 0 77 x)) lm nx L st) : WW X G nL σ lm pc L (.int x :: .ref (gA G o 0) :: st) := r_put hX zin7 zty7 zok7 znm7 hlk ho rfl 77 (by decide) rfl rfl rfl rfl rfl rfl hP (fun S => rfl) hd kk
theorem gf_7_78 {X : MX} {G : GE} {own : String} {cc : ByteArray} {nL : Nat} {σ : Mm} {lm : Ml} {pc nx o index : Nat} {P : Pm} {L : List (Nat × Value)} {st : List Value} (hX : Cx X G own cc nL) (hlk : Cond.fieldLink own index "WellLendsDepthModel" "bodies" "[I" ∈ gT) (ho : kdo o = 7) (hP : σ o = P) (hd : decode cc pc = .ok (.getfield index, 3) ∧ pc + 3 = nx) (kk : WW X G nL σ lm nx L (.ref (gA G o 79) :: st)) : WW X G nL σ lm pc L (.ref (gA G o 0) :: st) := r_get hX zin7 hlk ho rfl 78 (by decide) rfl rfl hP rfl hd kk
theorem gf_7_79 {X : MX} {G : GE} {own : String} {cc : ByteArray} {nL : Nat} {σ : Mm} {lm : Ml} {pc nx o index : Nat} {P : Pm} {L : List (Nat × Value)} {st : List Value} (hX : Cx X G own cc nL) (hlk : Cond.fieldLink own index "WellLendsDepthModel" "sort" "[I" ∈ gT) (ho : kdo o = 7) (hP : σ o = P) (hd : decode cc pc = .ok (.getfield index, 3) ∧ pc + 3 = nx) (kk : WW X G nL σ lm nx L (.ref (gA G o 80) :: st)) : WW X G nL σ lm pc L (.ref (gA G o 0) :: st) := r_get hX zin7 hlk ho rfl 79 (by decide) rfl rfl hP rfl hd kk
theorem gf_7_80 {X : MX} {G : GE} {own : String} {cc : ByteArray} {nL : Nat} {σ : Mm} {lm : Ml} {pc nx o index : Nat} {P : Pm} {L : List (Nat × Value)} {st : List Value} (hX : Cx X G own cc nL) (hlk : Cond.fieldLink own index "WellLendsDepthModel" "length" "[I" ∈ gT) (ho : kdo o = 7) (hP : σ o = P) (hd : decode cc pc = .ok (.getfield index, 3) ∧ pc + 3 = nx) (kk : WW X G nL σ lm nx L (.ref (gA G o 81) :: st)) : WW X G nL σ lm pc L (.ref (gA G o 0) :: st) := r_get hX zin7 hlk ho rfl 80 (by decide) rfl rfl hP rfl hd kk
theorem gf_7_81 {X : MX} {G : GE} {own : String} {cc : ByteArray} {nL : Nat} {σ : Mm} {lm : Ml} {pc nx o index : Nat} {P : Pm} {L : List (Nat × Value)} {st : List Value} (hX : Cx X G own cc nL) (hlk : Cond.fieldLink own index "WellLendsDepthModel" "item" "[J" ∈ gT) (ho : kdo o = 7) (hP : σ o = P) (hd : decode cc pc = .ok (.getfield index, 3) ∧ pc + 3 = nx) (kk : WW X G nL σ lm nx L (.ref (gA G o 82) :: st)) : WW X G nL σ lm pc L (.ref (gA G o 0) :: st) := r_get hX zin7 hlk ho rfl 81 (by decide) rfl rfl hP rfl hd kk
theorem gf_7_82 {X : MX} {G : GE} {own : String} {cc : ByteArray} {nL : Nat} {σ : Mm} {lm : Ml} {pc nx o index : Nat} {P : Pm} {L : List (Nat × Value)} {st : List Value} (hX : Cx X G own cc nL) (hlk : Cond.fieldLink own index "WellLendsDepthModel" "aside" "[J" ∈ gT) (ho : kdo o = 7) (hP : σ o = P) (hd : decode cc pc = .ok (.getfield index, 3) ∧ pc + 3 = nx) (kk : WW X G nL σ lm nx L (.ref (gA G o 83) :: st)) : WW X G nL σ lm pc L (.ref (gA G o 0) :: st) := r_get hX zin7 hlk ho rfl 82 (by decide) rfl rfl hP rfl hd kk
end
section
/-! a row an instruction, over WW; written by wip/whole/gen_rows.py -/
section Rows2
variable {X : MX} {G : GE} {own : String} {cc : ByteArray} {nL : Nat} {σ : Mm} {lm : Ml} {pc nx : Nat} {L : List (Nat × Value)} {st : List Value}
theorem r_iconst {n : Int} {v : Int32} (hX : Cx X G own cc nL) (hv : Int32.ofInt n = v) (hd : decode cc pc = .ok (.iconst n, 1) ∧ pc + 1 = nx) (kk : WW X G nL σ lm nx L (.int v :: st)) : WW X G nL σ lm pc L (st) := by
  intro H locs ls hw hS hl
  obtain ⟨hd, rfl⟩ := hd
  exact lv_iconst hX.1 hX.2.1 hd hv (kk H locs ls hw hS hl)
theorem r_bipush {n : Int} {v : Int32} (hX : Cx X G own cc nL) (hv : (Int8.ofInt n).toInt32 = v) (hd : decode cc pc = .ok (.bipush n, 2) ∧ pc + 2 = nx) (kk : WW X G nL σ lm nx L (.int v :: st)) : WW X G nL σ lm pc L (st) := by
  intro H locs ls hw hS hl
  obtain ⟨hd, rfl⟩ := hd
  exact lv_bipush hX.1 hX.2.1 hd hv (kk H locs ls hw hS hl)
theorem r_sipush {n : Int} {v : Int32} (hX : Cx X G own cc nL) (hv : (Int16.ofInt n).toInt32 = v) (hd : decode cc pc = .ok (.sipush n, 3) ∧ pc + 3 = nx) (kk : WW X G nL σ lm nx L (.int v :: st)) : WW X G nL σ lm pc L (st) := by
  intro H locs ls hw hS hl
  obtain ⟨hd, rfl⟩ := hd
  exact lv_sipush hX.1 hX.2.1 hd hv (kk H locs ls hw hS hl)
theorem r_lconst {n : Fin 2} {v : Int64} (hX : Cx X G own cc nL) (hv : Int64.ofNat (n : Nat) = v) (hd : decode cc pc = .ok (.lconst n, 1) ∧ pc + 1 = nx) (kk : WW X G nL σ lm nx L (.long v :: st)) : WW X G nL σ lm pc L (st) := by
  intro H locs ls hw hS hl
  obtain ⟨hd, rfl⟩ := hd
  exact lv_lconst hX.1 hX.2.1 hd hv (kk H locs ls hw hS hl)
theorem r_iload_n {k : Fin 4} {i : Nat} {x : Int32} (hX : Cx X G own cc nL) (hi : (k : Nat) = i) (q : Nat) (hq : L[q]? = some (i, .int x)) (hd : decode cc pc = .ok (.iload_n k, 1) ∧ pc + 1 = nx) (kk : WW X G nL σ lm nx L (.int x :: st)) : WW X G nL σ lm pc L (st) := by
  intro H locs ls hw hS hl
  obtain ⟨hd, rfl⟩ := hd
  exact lv_iload_n hX.1 hX.2.1 hd hi (lv_at hl q hq) (kk H locs ls hw hS hl)
theorem r_iload {i : Nat} {x : Int32} (hX : Cx X G own cc nL) (q : Nat) (hq : L[q]? = some (i, .int x)) (hd : decode cc pc = .ok (.iload i, 2) ∧ pc + 2 = nx) (kk : WW X G nL σ lm nx L (.int x :: st)) : WW X G nL σ lm pc L (st) := by
  intro H locs ls hw hS hl
  obtain ⟨hd, rfl⟩ := hd
  exact lv_iload hX.1 hX.2.1 hd (lv_at hl q hq) (kk H locs ls hw hS hl)
theorem r_lload_n {k : Fin 4} {i : Nat} {x : Int64} (hX : Cx X G own cc nL) (hi : (k : Nat) = i) (q : Nat) (hq : L[q]? = some (i, .long x)) (hd : decode cc pc = .ok (.lload_n k, 1) ∧ pc + 1 = nx) (kk : WW X G nL σ lm nx L (.long x :: st)) : WW X G nL σ lm pc L (st) := by
  intro H locs ls hw hS hl
  obtain ⟨hd, rfl⟩ := hd
  exact lv_lload_n hX.1 hX.2.1 hd hi (lv_at hl q hq) (kk H locs ls hw hS hl)
theorem r_lload {i : Nat} {x : Int64} (hX : Cx X G own cc nL) (q : Nat) (hq : L[q]? = some (i, .long x)) (hd : decode cc pc = .ok (.lload i, 2) ∧ pc + 2 = nx) (kk : WW X G nL σ lm nx L (.long x :: st)) : WW X G nL σ lm pc L (st) := by
  intro H locs ls hw hS hl
  obtain ⟨hd, rfl⟩ := hd
  exact lv_lload hX.1 hX.2.1 hd (lv_at hl q hq) (kk H locs ls hw hS hl)
theorem r_aload_n {k : Fin 4} {i : Nat} {x : Nat} (hX : Cx X G own cc nL) (hi : (k : Nat) = i) (q : Nat) (hq : L[q]? = some (i, .ref x)) (hd : decode cc pc = .ok (.aload_n k, 1) ∧ pc + 1 = nx) (kk : WW X G nL σ lm nx L (.ref x :: st)) : WW X G nL σ lm pc L (st) := by
  intro H locs ls hw hS hl
  obtain ⟨hd, rfl⟩ := hd
  exact lv_aload_n hX.1 hX.2.1 hd hi (lv_at hl q hq) (kk H locs ls hw hS hl)
theorem r_aload {i : Nat} {x : Nat} (hX : Cx X G own cc nL) (q : Nat) (hq : L[q]? = some (i, .ref x)) (hd : decode cc pc = .ok (.aload i, 2) ∧ pc + 2 = nx) (kk : WW X G nL σ lm nx L (.ref x :: st)) : WW X G nL σ lm pc L (st) := by
  intro H locs ls hw hS hl
  obtain ⟨hd, rfl⟩ := hd
  exact lv_aload hX.1 hX.2.1 hd (lv_at hl q hq) (kk H locs ls hw hS hl)
theorem r_istore_n {k : Fin 4} {i : Nat} {x : Int32} {L2 : List (Nat × Value)} (hX : Cx X G own cc nL) (hi : (k : Nat) = i) (hn : i < nL) (hl2 : (i, Value.int x) :: L.filter (fun q => !(q.1 == i) && !(q.1 + 1 == i && q.2.category == 2)) = L2) (hd : decode cc pc = .ok (.istore_n k, 1) ∧ pc + 1 = nx) (kk : WW X G nL σ lm nx L2 st) : WW X G nL σ lm pc L (.int x :: st) := by
  intro H locs ls hw hS hl
  obtain ⟨hd, rfl⟩ := hd
  exact lv_istore_n hX.1 hX.2.1 hd hi hl hn hl2 (fun ls2 hl3 => kk H locs ls2 hw hS hl3)
theorem r_istore {i : Nat} {x : Int32} {L2 : List (Nat × Value)} (hX : Cx X G own cc nL) (hn : i < nL) (hl2 : (i, Value.int x) :: L.filter (fun q => !(q.1 == i) && !(q.1 + 1 == i && q.2.category == 2)) = L2) (hd : decode cc pc = .ok (.istore i, 2) ∧ pc + 2 = nx) (kk : WW X G nL σ lm nx L2 st) : WW X G nL σ lm pc L (.int x :: st) := by
  intro H locs ls hw hS hl
  obtain ⟨hd, rfl⟩ := hd
  exact lv_istore hX.1 hX.2.1 hd hl hn hl2 (fun ls2 hl3 => kk H locs ls2 hw hS hl3)
theorem r_astore_n {k : Fin 4} {i : Nat} {x : Nat} {L2 : List (Nat × Value)} (hX : Cx X G own cc nL) (hi : (k : Nat) = i) (hn : i < nL) (hl2 : (i, Value.ref x) :: L.filter (fun q => !(q.1 == i) && !(q.1 + 1 == i && q.2.category == 2)) = L2) (hd : decode cc pc = .ok (.astore_n k, 1) ∧ pc + 1 = nx) (kk : WW X G nL σ lm nx L2 st) : WW X G nL σ lm pc L (.ref x :: st) := by
  intro H locs ls hw hS hl
  obtain ⟨hd, rfl⟩ := hd
  exact lv_astore_n hX.1 hX.2.1 hd hi hl hn hl2 (fun ls2 hl3 => kk H locs ls2 hw hS hl3)
theorem r_astore {i : Nat} {x : Nat} {L2 : List (Nat × Value)} (hX : Cx X G own cc nL) (hn : i < nL) (hl2 : (i, Value.ref x) :: L.filter (fun q => !(q.1 == i) && !(q.1 + 1 == i && q.2.category == 2)) = L2) (hd : decode cc pc = .ok (.astore i, 2) ∧ pc + 2 = nx) (kk : WW X G nL σ lm nx L2 st) : WW X G nL σ lm pc L (.ref x :: st) := by
  intro H locs ls hw hS hl
  obtain ⟨hd, rfl⟩ := hd
  exact lv_astore hX.1 hX.2.1 hd hl hn hl2 (fun ls2 hl3 => kk H locs ls2 hw hS hl3)
theorem r_lstore_n {k : Fin 4} {i : Nat} {x : Int64} {L2 : List (Nat × Value)} (hX : Cx X G own cc nL) (hi : (k : Nat) = i) (hn : i + 1 < nL) (hl2 : (i, Value.long x) :: L.filter (fun q => !(q.1 == i) && (!(q.1 == i + 1) && !(q.1 + 1 == i && q.2.category == 2))) = L2) (hd : decode cc pc = .ok (.lstore_n k, 1) ∧ pc + 1 = nx) (kk : WW X G nL σ lm nx L2 st) : WW X G nL σ lm pc L (.long x :: st) := by
  intro H locs ls hw hS hl
  obtain ⟨hd, rfl⟩ := hd
  exact lv_lstore_n hX.1 hX.2.1 hd hi hl hn hl2 (fun ls2 hl3 => kk H locs ls2 hw hS hl3)
theorem r_lstore {i : Nat} {x : Int64} {L2 : List (Nat × Value)} (hX : Cx X G own cc nL) (hn : i + 1 < nL) (hl2 : (i, Value.long x) :: L.filter (fun q => !(q.1 == i) && (!(q.1 == i + 1) && !(q.1 + 1 == i && q.2.category == 2))) = L2) (hd : decode cc pc = .ok (.lstore i, 2) ∧ pc + 2 = nx) (kk : WW X G nL σ lm nx L2 st) : WW X G nL σ lm pc L (.long x :: st) := by
  intro H locs ls hw hS hl
  obtain ⟨hd, rfl⟩ := hd
  exact lv_lstore hX.1 hX.2.1 hd hl hn hl2 (fun ls2 hl3 => kk H locs ls2 hw hS hl3)
theorem r_iinc {i : Nat} {n : Int} {x v : Int32} {L2 : List (Nat × Value)} (hX : Cx X G own cc nL) (q : Nat) (hq : L[q]? = some (i, .int x)) (hv : x + Int32.ofInt n = v) (hn : i < nL) (hl2 : (i, Value.int v) :: L.filter (fun q => !(q.1 == i) && !(q.1 + 1 == i && q.2.category == 2)) = L2) (hd : decode cc pc = .ok (.iinc i n, 3) ∧ pc + 3 = nx) (kk : WW X G nL σ lm nx L2 st) : WW X G nL σ lm pc L st := by
  intro H locs ls hw hS hl
  obtain ⟨hd, rfl⟩ := hd
  exact lv_iinc hX.1 hX.2.1 hd hl hq hv hn hl2 (fun ls2 hl3 => kk H locs ls2 hw hS hl3)
theorem r_iadd {x y : Int32} (hX : Cx X G own cc nL)  (hd : decode cc pc = .ok (.iadd, 1) ∧ pc + 1 = nx) (kk : WW X G nL σ lm nx L (.int (x + y) :: st)) : WW X G nL σ lm pc L (.int y :: .int x :: st) := by
  intro H locs ls hw hS hl
  obtain ⟨hd, rfl⟩ := hd
  exact lv_iadd hX.1 hX.2.1 hd (kk H locs ls hw hS hl)
theorem r_isub {x y : Int32} (hX : Cx X G own cc nL)  (hd : decode cc pc = .ok (.isub, 1) ∧ pc + 1 = nx) (kk : WW X G nL σ lm nx L (.int (x - y) :: st)) : WW X G nL σ lm pc L (.int y :: .int x :: st) := by
  intro H locs ls hw hS hl
  obtain ⟨hd, rfl⟩ := hd
  exact lv_isub hX.1 hX.2.1 hd (kk H locs ls hw hS hl)
theorem r_imul {x y : Int32} (hX : Cx X G own cc nL)  (hd : decode cc pc = .ok (.imul, 1) ∧ pc + 1 = nx) (kk : WW X G nL σ lm nx L (.int (x * y) :: st)) : WW X G nL σ lm pc L (.int y :: .int x :: st) := by
  intro H locs ls hw hS hl
  obtain ⟨hd, rfl⟩ := hd
  exact lv_imul hX.1 hX.2.1 hd (kk H locs ls hw hS hl)
theorem r_iand {x y : Int32} (hX : Cx X G own cc nL)  (hd : decode cc pc = .ok (.iand, 1) ∧ pc + 1 = nx) (kk : WW X G nL σ lm nx L (.int (x &&& y) :: st)) : WW X G nL σ lm pc L (.int y :: .int x :: st) := by
  intro H locs ls hw hS hl
  obtain ⟨hd, rfl⟩ := hd
  exact lv_iand hX.1 hX.2.1 hd (kk H locs ls hw hS hl)
theorem r_ior {x y : Int32} (hX : Cx X G own cc nL)  (hd : decode cc pc = .ok (.ior, 1) ∧ pc + 1 = nx) (kk : WW X G nL σ lm nx L (.int (x ||| y) :: st)) : WW X G nL σ lm pc L (.int y :: .int x :: st) := by
  intro H locs ls hw hS hl
  obtain ⟨hd, rfl⟩ := hd
  exact lv_ior hX.1 hX.2.1 hd (kk H locs ls hw hS hl)
theorem r_ixor {x y : Int32} (hX : Cx X G own cc nL)  (hd : decode cc pc = .ok (.ixor, 1) ∧ pc + 1 = nx) (kk : WW X G nL σ lm nx L (.int (x ^^^ y) :: st)) : WW X G nL σ lm pc L (.int y :: .int x :: st) := by
  intro H locs ls hw hS hl
  obtain ⟨hd, rfl⟩ := hd
  exact lv_ixor hX.1 hX.2.1 hd (kk H locs ls hw hS hl)
theorem r_ishl {x y : Int32} (hX : Cx X G own cc nL)  (hd : decode cc pc = .ok (.ishl, 1) ∧ pc + 1 = nx) (kk : WW X G nL σ lm nx L (.int (x <<< (y &&& 31)) :: st)) : WW X G nL σ lm pc L (.int y :: .int x :: st) := by
  intro H locs ls hw hS hl
  obtain ⟨hd, rfl⟩ := hd
  exact lv_ishl hX.1 hX.2.1 hd (kk H locs ls hw hS hl)
theorem r_ishr {x y : Int32} (hX : Cx X G own cc nL)  (hd : decode cc pc = .ok (.ishr, 1) ∧ pc + 1 = nx) (kk : WW X G nL σ lm nx L (.int (x >>> (y &&& 31)) :: st)) : WW X G nL σ lm pc L (.int y :: .int x :: st) := by
  intro H locs ls hw hS hl
  obtain ⟨hd, rfl⟩ := hd
  exact lv_ishr hX.1 hX.2.1 hd (kk H locs ls hw hS hl)
theorem r_idiv {x y : Int32} (hX : Cx X G own cc nL) (hne : ¬ y = 0) (hd : decode cc pc = .ok (.idiv, 1) ∧ pc + 1 = nx) (kk : WW X G nL σ lm nx L (.int (x / y) :: st)) : WW X G nL σ lm pc L (.int y :: .int x :: st) := by
  intro H locs ls hw hS hl
  obtain ⟨hd, rfl⟩ := hd
  exact lv_idiv hX.1 hX.2.1 hd hne (kk H locs ls hw hS hl)
theorem r_irem {x y : Int32} (hX : Cx X G own cc nL) (hne : ¬ y = 0) (hd : decode cc pc = .ok (.irem, 1) ∧ pc + 1 = nx) (kk : WW X G nL σ lm nx L (.int (x - x / y * y) :: st)) : WW X G nL σ lm pc L (.int y :: .int x :: st) := by
  intro H locs ls hw hS hl
  obtain ⟨hd, rfl⟩ := hd
  exact lv_irem hX.1 hX.2.1 hd hne (kk H locs ls hw hS hl)
theorem r_ineg {x : Int32} (hX : Cx X G own cc nL)  (hd : decode cc pc = .ok (.ineg, 1) ∧ pc + 1 = nx) (kk : WW X G nL σ lm nx L (.int (-x) :: st)) : WW X G nL σ lm pc L (.int x :: st) := by
  intro H locs ls hw hS hl
  obtain ⟨hd, rfl⟩ := hd
  exact lv_ineg hX.1 hX.2.1 hd (kk H locs ls hw hS hl)
theorem r_ladd {x y : Int64} (hX : Cx X G own cc nL)  (hd : decode cc pc = .ok (.ladd, 1) ∧ pc + 1 = nx) (kk : WW X G nL σ lm nx L (.long (x + y) :: st)) : WW X G nL σ lm pc L (.long y :: .long x :: st) := by
  intro H locs ls hw hS hl
  obtain ⟨hd, rfl⟩ := hd
  exact lv_ladd hX.1 hX.2.1 hd (kk H locs ls hw hS hl)
theorem r_land {x y : Int64} (hX : Cx X G own cc nL)  (hd : decode cc pc = .ok (.land, 1) ∧ pc + 1 = nx) (kk : WW X G nL σ lm nx L (.long (x &&& y) :: st)) : WW X G nL σ lm pc L (.long y :: .long x :: st) := by
  intro H locs ls hw hS hl
  obtain ⟨hd, rfl⟩ := hd
  exact lv_land hX.1 hX.2.1 hd (kk H locs ls hw hS hl)
theorem r_lor {x y : Int64} (hX : Cx X G own cc nL)  (hd : decode cc pc = .ok (.lor, 1) ∧ pc + 1 = nx) (kk : WW X G nL σ lm nx L (.long (x ||| y) :: st)) : WW X G nL σ lm pc L (.long y :: .long x :: st) := by
  intro H locs ls hw hS hl
  obtain ⟨hd, rfl⟩ := hd
  exact lv_lor hX.1 hX.2.1 hd (kk H locs ls hw hS hl)
theorem r_ldiv {x y : Int64} (hX : Cx X G own cc nL) (hne : ¬ y = 0) (hd : decode cc pc = .ok (.ldiv, 1) ∧ pc + 1 = nx) (kk : WW X G nL σ lm nx L (.long (x / y) :: st)) : WW X G nL σ lm pc L (.long y :: .long x :: st) := by
  intro H locs ls hw hS hl
  obtain ⟨hd, rfl⟩ := hd
  exact lv_ldiv hX.1 hX.2.1 hd hne (kk H locs ls hw hS hl)
theorem r_lrem {x y : Int64} (hX : Cx X G own cc nL) (hne : ¬ y = 0) (hd : decode cc pc = .ok (.lrem, 1) ∧ pc + 1 = nx) (kk : WW X G nL σ lm nx L (.long (x - x / y * y) :: st)) : WW X G nL σ lm pc L (.long y :: .long x :: st) := by
  intro H locs ls hw hS hl
  obtain ⟨hd, rfl⟩ := hd
  exact lv_lrem hX.1 hX.2.1 hd hne (kk H locs ls hw hS hl)
theorem r_lshl {x : Int64} {y : Int32} (hX : Cx X G own cc nL)  (hd : decode cc pc = .ok (.lshl, 1) ∧ pc + 1 = nx) (kk : WW X G nL σ lm nx L (.long (x <<< (y.toInt64 &&& 63)) :: st)) : WW X G nL σ lm pc L (.int y :: .long x :: st) := by
  intro H locs ls hw hS hl
  obtain ⟨hd, rfl⟩ := hd
  exact lv_lshl hX.1 hX.2.1 hd rfl (kk H locs ls hw hS hl)
theorem r_lcmp {x y : Int64} (hX : Cx X G own cc nL)  (hd : decode cc pc = .ok (.lcmp, 1) ∧ pc + 1 = nx) (kk : WW X G nL σ lm nx L (.int (lg_cmp x y) :: st)) : WW X G nL σ lm pc L (.long y :: .long x :: st) := by
  intro H locs ls hw hS hl
  obtain ⟨hd, rfl⟩ := hd
  exact W.lcmp hX.1 hX.2.1 hd (kk H locs ls hw hS hl)
theorem r_i2l {x : Int32} (hX : Cx X G own cc nL)  (hd : decode cc pc = .ok (.i2l, 1) ∧ pc + 1 = nx) (kk : WW X G nL σ lm nx L (.long x.toInt64 :: st)) : WW X G nL σ lm pc L (.int x :: st) := by
  intro H locs ls hw hS hl
  obtain ⟨hd, rfl⟩ := hd
  exact lv_i2l hX.1 hX.2.1 hd rfl (kk H locs ls hw hS hl)
theorem r_l2i {x : Int64} (hX : Cx X G own cc nL)  (hd : decode cc pc = .ok (.l2i, 1) ∧ pc + 1 = nx) (kk : WW X G nL σ lm nx L (.int x.toInt32 :: st)) : WW X G nL σ lm pc L (.long x :: st) := by
  intro H locs ls hw hS hl
  obtain ⟨hd, rfl⟩ := hd
  exact lv_l2i hX.1 hX.2.1 hd rfl (kk H locs ls hw hS hl)
theorem r_i2b {x : Int32} (hX : Cx X G own cc nL)  (hd : decode cc pc = .ok (.i2b, 1) ∧ pc + 1 = nx) (kk : WW X G nL σ lm nx L (.int x.toInt8.toInt32 :: st)) : WW X G nL σ lm pc L (.int x :: st) := by
  intro H locs ls hw hS hl
  obtain ⟨hd, rfl⟩ := hd
  exact lv_i2b hX.1 hX.2.1 hd rfl (kk H locs ls hw hS hl)
theorem r_i2s {x : Int32} (hX : Cx X G own cc nL)  (hd : decode cc pc = .ok (.i2s, 1) ∧ pc + 1 = nx) (kk : WW X G nL σ lm nx L (.int x.toInt16.toInt32 :: st)) : WW X G nL σ lm pc L (.int x :: st) := by
  intro H locs ls hw hS hl
  obtain ⟨hd, rfl⟩ := hd
  exact lv_i2s hX.1 hX.2.1 hd rfl (kk H locs ls hw hS hl)
theorem r_i2c {x : Int32} (hX : Cx X G own cc nL)  (hd : decode cc pc = .ok (.i2c, 1) ∧ pc + 1 = nx) (kk : WW X G nL σ lm nx L (.int (x.toUInt32 % 65536).toInt32 :: st)) : WW X G nL σ lm pc L (.int x :: st) := by
  intro H locs ls hw hS hl
  obtain ⟨hd, rfl⟩ := hd
  exact lv_i2c hX.1 hX.2.1 hd rfl (kk H locs ls hw hS hl)
theorem r_dup {va : Value} (hX : Cx X G own cc nL) (hc : va.category = 1) (hd : decode cc pc = .ok (.dup, 1) ∧ pc + 1 = nx) (kk : WW X G nL σ lm nx L (va :: va :: st)) : WW X G nL σ lm pc L (va :: st) := by
  intro H locs ls hw hS hl
  obtain ⟨hd, rfl⟩ := hd
  exact lv_dup hX.1 hX.2.1 hd hc (kk H locs ls hw hS hl)
theorem r_pop {va : Value} (hX : Cx X G own cc nL) (hc : va.category = 1) (hd : decode cc pc = .ok (.pop, 1) ∧ pc + 1 = nx) (kk : WW X G nL σ lm nx L (st)) : WW X G nL σ lm pc L (va :: st) := by
  intro H locs ls hw hS hl
  obtain ⟨hd, rfl⟩ := hd
  exact lv_pop hX.1 hX.2.1 hd hc (kk H locs ls hw hS hl)
theorem r_dup2 {va vb : Value} (hX : Cx X G own cc nL) (hc : va.category = 1) (hc2 : vb.category = 1) (hd : decode cc pc = .ok (.dup2, 1) ∧ pc + 1 = nx) (kk : WW X G nL σ lm nx L (va :: vb :: va :: vb :: st)) : WW X G nL σ lm pc L (va :: vb :: st) := by
  intro H locs ls hw hS hl
  obtain ⟨hd, rfl⟩ := hd
  exact lv_dup2_11 hX.1 hX.2.1 hd hc hc2 (kk H locs ls hw hS hl)
theorem r_ldc {index : Nat} {v : Int32} (hX : Cx X G own cc nL) (hk : Cond.constant own index v ∈ gT) (hd : decode cc pc = .ok (.ldc index, 2) ∧ pc + 2 = nx) (kk : WW X G nL σ lm nx L (.int v :: st)) : WW X G nL σ lm pc L st := by
  intro H locs ls hw hS hl
  obtain ⟨hd, rfl⟩ := hd
  exact lv_ldc hX.1 hX.2.1 hX.2.2.2.1 (hX.2.2.2.2.1 _ hk) hd (kk H locs ls hw hS hl)
theorem r_ldcw {index : Nat} {v : Int32} (hX : Cx X G own cc nL) (hk : Cond.constant own index v ∈ gT) (hd : decode cc pc = .ok (.ldc_w index, 3) ∧ pc + 3 = nx) (kk : WW X G nL σ lm nx L (.int v :: st)) : WW X G nL σ lm pc L st := by
  intro H locs ls hw hS hl
  obtain ⟨hd, rfl⟩ := hd
  exact lv_ldcw hX.1 hX.2.1 hX.2.2.2.1 (hX.2.2.2.2.1 _ hk) hd (kk H locs ls hw hS hl)
theorem r_ldc2 {index : Nat} {v : Int64} (hX : Cx X G own cc nL) (hk : Cond.constantLong own index v ∈ gT) (hd : decode cc pc = .ok (.ldc2_w index, 3) ∧ pc + 3 = nx) (kk : WW X G nL σ lm nx L (.long v :: st)) : WW X G nL σ lm pc L st := by
  intro H locs ls hw hS hl
  obtain ⟨hd, rfl⟩ := hd
  exact lv_ldc2 hX.1 hX.2.1 hX.2.2.2.1 (hX.2.2.2.2.1 _ hk) hd (kk H locs ls hw hS hl)
theorem r_if_eq {x : Int32} {off : Int} {tgt : Nat} (hX : Cx X G own cc nL) (hd : decode cc pc = .ok (.ifCond .eq off, 3) ∧ pc + 3 = nx ∧ (pc : Int) + off = (tgt : Int)) (kt : x = 0 → WW X G nL σ lm tgt L st) (kf : ¬ x = 0 → WW X G nL σ lm nx L st) : WW X G nL σ lm pc L (.int x :: st) := by
  intro H locs ls hw hS hl
  obtain ⟨hd, rfl, ht⟩ := hd
  exact lv_if_eq hX.1 hX.2.1 hd ht (fun h => kt h H locs ls hw hS hl) (fun h => kf h H locs ls hw hS hl)
theorem r_if_ne {x : Int32} {off : Int} {tgt : Nat} (hX : Cx X G own cc nL) (hd : decode cc pc = .ok (.ifCond .ne off, 3) ∧ pc + 3 = nx ∧ (pc : Int) + off = (tgt : Int)) (kt : ¬ x = 0 → WW X G nL σ lm tgt L st) (kf : x = 0 → WW X G nL σ lm nx L st) : WW X G nL σ lm pc L (.int x :: st) := by
  intro H locs ls hw hS hl
  obtain ⟨hd, rfl, ht⟩ := hd
  exact lv_if_ne hX.1 hX.2.1 hd ht (fun h => kt h H locs ls hw hS hl) (fun h => kf h H locs ls hw hS hl)
theorem r_if_lt {x : Int32} {off : Int} {tgt : Nat} (hX : Cx X G own cc nL) (hd : decode cc pc = .ok (.ifCond .lt off, 3) ∧ pc + 3 = nx ∧ (pc : Int) + off = (tgt : Int)) (kt : x < 0 → WW X G nL σ lm tgt L st) (kf : ¬ x < 0 → WW X G nL σ lm nx L st) : WW X G nL σ lm pc L (.int x :: st) := by
  intro H locs ls hw hS hl
  obtain ⟨hd, rfl, ht⟩ := hd
  exact lv_if_lt hX.1 hX.2.1 hd ht (fun h => kt h H locs ls hw hS hl) (fun h => kf h H locs ls hw hS hl)
theorem r_if_ge {x : Int32} {off : Int} {tgt : Nat} (hX : Cx X G own cc nL) (hd : decode cc pc = .ok (.ifCond .ge off, 3) ∧ pc + 3 = nx ∧ (pc : Int) + off = (tgt : Int)) (kt : 0 ≤ x → WW X G nL σ lm tgt L st) (kf : ¬ 0 ≤ x → WW X G nL σ lm nx L st) : WW X G nL σ lm pc L (.int x :: st) := by
  intro H locs ls hw hS hl
  obtain ⟨hd, rfl, ht⟩ := hd
  exact lv_if_ge hX.1 hX.2.1 hd ht (fun h => kt h H locs ls hw hS hl) (fun h => kf h H locs ls hw hS hl)
theorem r_if_gt {x : Int32} {off : Int} {tgt : Nat} (hX : Cx X G own cc nL) (hd : decode cc pc = .ok (.ifCond .gt off, 3) ∧ pc + 3 = nx ∧ (pc : Int) + off = (tgt : Int)) (kt : 0 < x → WW X G nL σ lm tgt L st) (kf : ¬ 0 < x → WW X G nL σ lm nx L st) : WW X G nL σ lm pc L (.int x :: st) := by
  intro H locs ls hw hS hl
  obtain ⟨hd, rfl, ht⟩ := hd
  exact lv_if_gt hX.1 hX.2.1 hd ht (fun h => kt h H locs ls hw hS hl) (fun h => kf h H locs ls hw hS hl)
theorem r_if_le {x : Int32} {off : Int} {tgt : Nat} (hX : Cx X G own cc nL) (hd : decode cc pc = .ok (.ifCond .le off, 3) ∧ pc + 3 = nx ∧ (pc : Int) + off = (tgt : Int)) (kt : x ≤ 0 → WW X G nL σ lm tgt L st) (kf : ¬ x ≤ 0 → WW X G nL σ lm nx L st) : WW X G nL σ lm pc L (.int x :: st) := by
  intro H locs ls hw hS hl
  obtain ⟨hd, rfl, ht⟩ := hd
  exact lv_if_le hX.1 hX.2.1 hd ht (fun h => kt h H locs ls hw hS hl) (fun h => kf h H locs ls hw hS hl)
theorem r_icmp_eq {x y : Int32} {off : Int} {tgt : Nat} (hX : Cx X G own cc nL) (hd : decode cc pc = .ok (.if_icmp .eq off, 3) ∧ pc + 3 = nx ∧ (pc : Int) + off = (tgt : Int)) (kt : x = y → WW X G nL σ lm tgt L st) (kf : ¬ x = y → WW X G nL σ lm nx L st) : WW X G nL σ lm pc L (.int y :: .int x :: st) := by
  intro H locs ls hw hS hl
  obtain ⟨hd, rfl, ht⟩ := hd
  exact lv_icmp_eq hX.1 hX.2.1 hd ht (fun h => kt h H locs ls hw hS hl) (fun h => kf h H locs ls hw hS hl)
theorem r_icmp_ne {x y : Int32} {off : Int} {tgt : Nat} (hX : Cx X G own cc nL) (hd : decode cc pc = .ok (.if_icmp .ne off, 3) ∧ pc + 3 = nx ∧ (pc : Int) + off = (tgt : Int)) (kt : ¬ x = y → WW X G nL σ lm tgt L st) (kf : x = y → WW X G nL σ lm nx L st) : WW X G nL σ lm pc L (.int y :: .int x :: st) := by
  intro H locs ls hw hS hl
  obtain ⟨hd, rfl, ht⟩ := hd
  exact lv_icmp_ne hX.1 hX.2.1 hd ht (fun h => kt h H locs ls hw hS hl) (fun h => kf h H locs ls hw hS hl)
theorem r_icmp_lt {x y : Int32} {off : Int} {tgt : Nat} (hX : Cx X G own cc nL) (hd : decode cc pc = .ok (.if_icmp .lt off, 3) ∧ pc + 3 = nx ∧ (pc : Int) + off = (tgt : Int)) (kt : x < y → WW X G nL σ lm tgt L st) (kf : ¬ x < y → WW X G nL σ lm nx L st) : WW X G nL σ lm pc L (.int y :: .int x :: st) := by
  intro H locs ls hw hS hl
  obtain ⟨hd, rfl, ht⟩ := hd
  exact lv_icmp_lt hX.1 hX.2.1 hd ht (fun h => kt h H locs ls hw hS hl) (fun h => kf h H locs ls hw hS hl)
theorem r_icmp_ge {x y : Int32} {off : Int} {tgt : Nat} (hX : Cx X G own cc nL) (hd : decode cc pc = .ok (.if_icmp .ge off, 3) ∧ pc + 3 = nx ∧ (pc : Int) + off = (tgt : Int)) (kt : y ≤ x → WW X G nL σ lm tgt L st) (kf : ¬ y ≤ x → WW X G nL σ lm nx L st) : WW X G nL σ lm pc L (.int y :: .int x :: st) := by
  intro H locs ls hw hS hl
  obtain ⟨hd, rfl, ht⟩ := hd
  exact lv_icmp_ge hX.1 hX.2.1 hd ht (fun h => kt h H locs ls hw hS hl) (fun h => kf h H locs ls hw hS hl)
theorem r_icmp_gt {x y : Int32} {off : Int} {tgt : Nat} (hX : Cx X G own cc nL) (hd : decode cc pc = .ok (.if_icmp .gt off, 3) ∧ pc + 3 = nx ∧ (pc : Int) + off = (tgt : Int)) (kt : y < x → WW X G nL σ lm tgt L st) (kf : ¬ y < x → WW X G nL σ lm nx L st) : WW X G nL σ lm pc L (.int y :: .int x :: st) := by
  intro H locs ls hw hS hl
  obtain ⟨hd, rfl, ht⟩ := hd
  exact lv_icmp_gt hX.1 hX.2.1 hd ht (fun h => kt h H locs ls hw hS hl) (fun h => kf h H locs ls hw hS hl)
theorem r_icmp_le {x y : Int32} {off : Int} {tgt : Nat} (hX : Cx X G own cc nL) (hd : decode cc pc = .ok (.if_icmp .le off, 3) ∧ pc + 3 = nx ∧ (pc : Int) + off = (tgt : Int)) (kt : x ≤ y → WW X G nL σ lm tgt L st) (kf : ¬ x ≤ y → WW X G nL σ lm nx L st) : WW X G nL σ lm pc L (.int y :: .int x :: st) := by
  intro H locs ls hw hS hl
  obtain ⟨hd, rfl, ht⟩ := hd
  exact lv_icmp_le hX.1 hX.2.1 hd ht (fun h => kt h H locs ls hw hS hl) (fun h => kf h H locs ls hw hS hl)
theorem r_goto {off : Int} {tgt : Nat} (hX : Cx X G own cc nL) (hd : decode cc pc = .ok (.goto off, 3) ∧ (pc : Int) + off = (tgt : Int)) (kk : WW X G nL σ lm tgt L st) : WW X G nL σ lm pc L st := by
  intro H locs ls hw hS hl
  exact lv_goto hX.1 hX.2.1 hd.1 hd.2 (kk H locs ls hw hS hl)
theorem i32n {x k : Int32} {n : Int} (h : ¬ x = k) (hn : k.toInt = n) : x.toInt ≠ n := fun e => h (Int32.toInt_inj.mp (e.trans hn.symm))
theorem r_tswI {x k : Int32} {dflt lo hi : Int} {offs : Array Int} {len : Nat} {off : Int} {tgt : Nat} (hX : Cx X G own cc nL) (hx : x = k) (h : (decide (k.toInt < lo) || decide (hi < k.toInt)) = false) (ho : offs[(k.toInt - lo).toNat]? = some off) (ht : (pc : Int) + off = (tgt : Int)) (hd : decode cc pc = .ok (.tableswitch dflt lo hi offs, len)) (kk : WW X G nL σ lm tgt L st) : WW X G nL σ lm pc L (.int x :: st) := by
  intro H locs ls hw hS hl
  subst hx
  rw [Bool.or_eq_false_iff, decide_eq_false_iff_not, decide_eq_false_iff_not] at h
  exact lv_tableIn hX.1 hX.2.1 hd h.1 h.2 ho ht (kk H locs ls hw hS hl)
theorem r_tswD {x : Int32} {dflt lo hi : Int} {offs : Array Int} {len : Nat} {tgt : Nat} (hX : Cx X G own cc nL) (h : x.toInt < lo ∨ hi < x.toInt) (ht : (pc : Int) + dflt = (tgt : Int)) (hd : decode cc pc = .ok (.tableswitch dflt lo hi offs, len)) (kk : WW X G nL σ lm tgt L st) : WW X G nL σ lm pc L (.int x :: st) := by
  intro H locs ls hw hS hl
  exact lv_tableOut hX.1 hX.2.1 hd h ht (kk H locs ls hw hS hl)
theorem r_lsw {x : Int32} {dflt : Int} {ps : Array (Int × Int)} {len : Nat} {off : Int} {tgt : Nat} (hX : Cx X G own cc nL) (hp : (ps.toList.zip (ps.toList.drop 1)).all (fun (a, next) => a.1 < next.1) = true) (ho : Op.lookupswitch.offset ps.toList dflt x.toInt = off) (ht : (pc : Int) + off = (tgt : Int)) (hd : decode cc pc = .ok (.lookupswitch dflt ps, len)) (kk : WW X G nL σ lm tgt L st) : WW X G nL σ lm pc L (.int x :: st) := by
  intro H locs ls hw hS hl
  exact lv_lookup hX.1 hX.2.1 hd hp ho ht (kk H locs ls hw hS hl)
/-- a method's contract: from this memory, with these arguments, it returns rv and leaves that memory -/
def wsY (y : MethodName) (b : ByteArray) (maxL : Nat) (ret : Option FieldType) : List Cond := Cond.code y b maxL ret :: gT
def QcY (G : GE) (rv : Option Value) (σ : Mm) (lm : Ml) : Array Value → State → Outcome → State → Prop := fun _ st o t => (o = .returned rv ∧ va_P (gD G) cl8 (wl G σ lm) t.heap) ∧ va_F (AA G) st t
def PcY (G : GE) (av : List Value) (σ : Mm) (lm : Ml) : Array Value → State → Prop := va_Pc av (fun U => va_P (gD G) cl8 (wl G σ lm) U.heap ∧ KF G U)
def CM (l : Launch) (G : GE) (y : MethodName) (b : ByteArray) (maxL : Nat) (ret : Option FieldType) (rm : Room) (av : List Value) (σ : Mm) (lm : Ml) (rv : Option Value) (σ2 : Mm) (lm2 : Ml) : Prop :=
  Met l y (wsY y b maxL ret) rm (PcY G av σ lm) (QcY G rv σ2 lm2) 0 0 (AA G)
def isQ (X : MX) (G : GE) (ret : Option FieldType) (rv : Option Value) (σ : Mm) (lm : Ml) : Prop :=
  X.2.2.2.2.2.2.2.2.1.sig.returnType = ret ∧ X.2.2.2.2.2.2.2.2.2.2 = MQ X.2.2.2.2.2.2.2.1 (QcY G rv σ lm) X.2.2.2.2.2.2.1 X.2.2.2.2.1 0 0 (AA G)
theorem CM.of {l : Launch} {y : MethodName} {b : ByteArray} {maxL : Nat} {ret : Option FieldType} {rm : Room} {av : List Value} {rv : Option Value} {σ2 : Mm} {lm2 : Ml} {L0 : List (Nat × Value)} {own : String} (hy : plainName y.cls = true) (ho : y.cls = own) (hsl : (lg_sl av).length ≤ maxL) (hL0 : lv_args 0 av = L0)
    (body : ∀ X : MX, X.2.1 = l → Cx X G own b maxL → rmX X = rm → isQ X G ret rv σ2 lm2 → WW X G maxL σ lm 0 L0 []) : CM l G y b maxL ret rm av σ lm rv σ2 lm2 := by
  subst ho
  refine Met.ofW (cc := b) (maxL := maxL) (ret := ret) hy rfl ?_
  intro p e s m args below meth c s₁ B hml hv
  obtain ⟨rfl, hP, hKF⟩ := hv
  have hts := atoms_spec (ws := wsY y b maxL ret) B.pre
  have hl := lv_entry av (n := maxL) hsl
  rw [hL0] at hl
  rw [lg_entry_eq]
  exact body (p, l, e, (headSpec (wsY y b maxL ret) rm).room, s, m, av.toArray, below, meth, c, MQ below (QcY G rv σ2 lm2) av.toArray s 0 0 (AA G)) rfl ⟨B.exec, B.bytes, hml, findClass_of_methodNamed B.named, fun w hw => hts w (List.mem_cons_of_mem _ hw), B.notSynchronized, hKF⟩ rfl ⟨B.returns, rfl⟩ s.heap [] _ hP va_S.rf hl
theorem r_iret {v : Int32} (hX : Cx X G own cc nL) (hQ : isQ X G (some .int) (some (.int v)) σ lm) (hd : decode cc pc = .ok (.ireturn, 1)) : WW X G nL σ lm pc L [.int v] := by
  intro H locs ls hw hS hl
  rw [hQ.2]
  exact W.iret hX.1 hX.2.1 hQ.1 (fun t ht hW => ⟨⟨rfl, by rw [ht]; exact hw⟩, hS.F ht⟩) hS.2.2 hd hX.2.2.2.2.2.1
theorem r_zret {v : Int32} (hX : Cx X G own cc nL) (hz : v = 0 ∨ v = 1) (hQ : isQ X G (some .boolean) (some (.int v)) σ lm) (hd : decode cc pc = .ok (.ireturn, 1)) : WW X G nL σ lm pc L [.int v] := by
  intro H locs ls hw hS hl
  rw [hQ.2]
  exact W.zret hX.1 hX.2.1 hQ.1 (zb_n hz) (fun t ht hW => ⟨⟨rfl, by rw [ht]; exact hw⟩, hS.F ht⟩) hS.2.2 hd hX.2.2.2.2.2.1
theorem r_lret {v : Int64} (hX : Cx X G own cc nL) (hQ : isQ X G (some .long) (some (.long v)) σ lm) (hd : decode cc pc = .ok (.lreturn, 1)) : WW X G nL σ lm pc L [.long v] := by
  intro H locs ls hw hS hl
  rw [hQ.2]
  exact W.lret hX.1 hX.2.1 hQ.1 (fun t ht hW => ⟨⟨rfl, by rw [ht]; exact hw⟩, hS.F ht⟩) hS.2.2 hd hX.2.2.2.2.2.1
theorem r_aret {a : Nat} {n : String} (hX : Cx X G own cc nL) (hQ : isQ X G (some (.object n)) (some (.ref a)) σ lm) (hd : decode cc pc = .ok (.areturn, 1)) : WW X G nL σ lm pc L [.ref a] := by
  intro H locs ls hw hS hl
  rw [hQ.2]
  exact W.aret hX.1 hX.2.1 hQ.1 (Or.inl ⟨n, rfl⟩) (Or.inr ⟨a, rfl⟩) (fun t ht hW => ⟨⟨rfl, by rw [ht]; exact hw⟩, hS.F ht⟩) hS.2.2 hd hX.2.2.2.2.2.1
theorem r_vret (hX : Cx X G own cc nL) (hQ : isQ X G none none σ lm) (hd : decode cc pc = .ok (.return_, 1)) : WW X G nL σ lm pc L [] := by
  intro H locs ls hw hS hl
  rw [hQ.2]
  exact W.vret hX.1 hX.2.1 hQ.1 (fun t ht hW => ⟨⟨rfl, by rw [ht]; exact hw⟩, hS.F ht⟩) hS.2.2 hd hX.2.2.2.2.2.1
/-- what the tables say of a method -/
def MF (y : MethodName) (b : ByteArray) (maxL : Nat) (ret : Option FieldType) (n : Nat) : Prop := Cond.code y b maxL ret ∈ gT ∧ Cond.initialized y.cls ∈ gT ∧ y.cls ≠ "java/lang/invoke/MethodHandle" ∧ y.cls ≠ "java/lang/invoke/VarHandle" ∧ (parseMethodDescriptor y.desc).map (fun d => d.parameters.length) = some n
theorem goodIn_g {ws : List Cond} (h : ∀ w ∈ ws, w ∈ gT) : GoodIn gT ws := fun w hw => ⟨h w hw, good_of_word (gT_good (h w hw))⟩
theorem wsY_in {y : MethodName} {b : ByteArray} {maxL : Nat} {ret : Option FieldType} (h : Cond.code y b maxL ret ∈ gT) : ∀ w ∈ wsY y b maxL ret, w ∈ gT := fun w hw => (List.mem_cons.mp hw).elim (fun e => by rw [e]; exact h) id
theorem pcY_blind {av : List Value} : FrameBlind (PcY G av σ lm) := fun a U g mk q => ⟨q.1, q.2.1, by
  obtain ⟨k1, k2, k3, k4⟩ := q.2.2
  exact KF.to (locs := []) ⟨k1, k2, k3, k4⟩ (State.WarmedH.refl U) va_S.rf⟩
theorem pcY_pre {H : Heap} {locs : List Loc} {s : State} {av : List Value} (hw : va_P (gD G) cl8 (wl G σ lm) H) (hS : va_S (AA G) s.heap H locs) (hK : KF G s) (U : State) (hU : U.heap = H) (hW : s.WarmedH U.vm) : PcY G av σ lm av.toArray U := ⟨rfl, by rw [hU]; exact hw, hK.to hW (by rw [hU]; exact hS)⟩
theorem ww_call {rv : Option Value} {σ2 : Mm} {lm2 : Ml} {st0 : List Value} {a : Array Value}
    (hr : ∀ (H : Heap) (locs : List Loc) (ls : Array Slot), va_P (gD G) cl8 (wl G σ lm) H → va_S (AA G) X.2.2.2.2.1.heap H locs → lv_has ls nL L → va_Run X.1 X.2.1 X.2.2.1 X.2.2.2.1 X.2.2.2.2.1 X.2.2.2.2.2.1 X.2.2.2.2.2.2.1 X.2.2.2.2.2.2.2.1 X.2.2.2.2.2.2.2.2.1 X.2.2.2.2.2.2.2.2.2.1 H locs 0 0 0 0 (F0 X.2.2.2.2.2.1 pc ls st0) st (QcY G rv σ2 lm2 a) (AA G))
    (kk : WW X G nL σ2 lm2 (pc + 3) L (rv.toList ++ st)) : WW X G nL σ lm pc L st0 := by
  intro H locs ls hw hS hl T hT XX
  obtain ⟨v, st₀, t, T', Lc, h0, X', hL, e1, e2, ⟨⟨hv, hP2⟩, hz, hk⟩, stp⟩ := hr H locs ls hw hS hl T hT XX
  cases hv
  rw [h0] at hz hk
  obtain ⟨t2, a1, b1⟩ := kk T'.heap (locs ++ Lc) ls (by rw [e1]; exact hP2) ⟨Nat.le_trans hS.1 (by rw [e1]; exact hz), fun q h1 h2 => by
      rw [e1, hk q (Nat.lt_of_lt_of_le h1 hS.1) h2]
      exact hS.2.1 q h1 h2, fun q hq => by
      rcases List.mem_append.mp hq with h | h
      · exact hS.2.2 q h
      · exact hL q h⟩ hl T' rfl X'
  exact ⟨t2, stp t2 a1, b1⟩
theorem r_callV {y : MethodName} {b : ByteArray} {maxL n index o k N : Nat} {T : u_T} {ret : Option FieldType} {rm rmc : Room} {As st0 : List Value} {σ1 σ2 σ3 : Mm} {lm2 : Ml} {rv : Option Value} (hX : Cx X G own cc nL) (hR : rmX X = rmc) (hM : CM X.2.1 G y b maxL ret rm (.ref (gA G o 0) :: As) σ1 lm rv σ2 lm2) (h1 : σ1 = σ) (h2 : σ2 = σ3) (hF : MF y b maxL ret n) (hlk : Cond.methodLink own index y ∈ gT) (hin : Cond.instanceMethod y ∈ gT) (hse : Cond.selects y.cls y y ∈ gT) (ho : kdo o = k) (hc : cl8[k]? = some (y.cls, T, N)) (hrm : rm.cells = 0 ∧ rm.slots = 0 ∧ rm.frames + 1 ≤ rmc.frames ∧ 8 + (maxL + 11) + rm.locals ≤ rmc.locals) (hn : As.length = n) (hst : st0 = As.reverse ++ .ref (gA G o 0) :: st) (hw8 : (st.map fun v => v.category).sum ≤ 8)
    (hd : decode cc pc = .ok (.invokevirtual index, 3) ∧ pc + 3 = nx) (kk : WW X G nL σ3 lm2 nx L (rv.toList ++ st)) : WW X G nL σ lm pc L st0 := by
  obtain ⟨hd, rfl⟩ := hd
  subst h1
  subst h2
  subst hR
  obtain ⟨hx, hb, hml, hown, hts, hlo, hK⟩ := hX
  refine ww_call (rv := rv) (σ2 := σ2) (lm2 := lm2) (a := (Value.ref (gA G o 0) :: As).toArray) (fun H locs ls hw hS hl => ?_) kk
  have hk8 : k < 8 := (List.getElem?_eq_some_iff.mp hc).1
  obtain ⟨q0, hq⟩ := prs_in ho hk8 (c := 0) List.mem_cons_self
  have he := wl_at (G := G) (σ := σ1) (lm := lm) hq
  rw [ho] at he
  exact va_runV (C := y.cls) (Ts := gT) ⟨hx, hb, hml, hown, hts⟩ hM (cwV n hts (goodIn_g (fun w hw => by
      unfold wsV at hw
      rcases List.mem_append.mp hw with h | h
      · simp only [List.mem_cons, List.not_mem_nil, or_false] at h
        rcases h with rfl | rfl | rfl | rfl
        · exact hlk
        · exact hin
        · exact hse
        · exact hF.2.1
      · exact wsY_in hF.1 w h)) rfl hrm.1 hrm.2.1 ⟨rfl, hF.2.2⟩ hrm.2.2) ⟨pcY_blind, va_recv hK.1 hw hc he, pcY_pre hw hS hK⟩ rfl hn hl.1 hst (lv_room hw8) hd ⟨Nat.zero_le _, Nat.zero_le _⟩
theorem r_callS {y : MethodName} {b : ByteArray} {maxL n index : Nat} {ret : Option FieldType} {rm rmc : Room} {As st0 : List Value} {σ1 σ2 σ3 : Mm} {lm2 : Ml} {rv : Option Value} (hX : Cx X G own cc nL) (hR : rmX X = rmc) (hM : CM X.2.1 G y b maxL ret rm As σ1 lm rv σ2 lm2) (h1 : σ1 = σ) (h2 : σ2 = σ3) (hF : MF y b maxL ret n) (hlk : Cond.methodLink own index y ∈ gT) (hsta : Cond.static y ∈ gT) (hrm : rm.cells = 0 ∧ rm.slots = 0 ∧ rm.frames + 1 ≤ rmc.frames ∧ 8 + (maxL + 11) + rm.locals ≤ rmc.locals) (hn : As.length = n) (hst : st0 = As.reverse ++ st) (hw8 : (st.map fun v => v.category).sum ≤ 8)
    (hd : decode cc pc = .ok (.invokestatic index, 3) ∧ pc + 3 = nx) (kk : WW X G nL σ3 lm2 nx L (rv.toList ++ st)) : WW X G nL σ lm pc L st0 := by
  obtain ⟨hd, rfl⟩ := hd
  subst h1
  subst h2
  subst hR
  obtain ⟨hx, hb, hml, hown, hts, hlo, hK⟩ := hX
  refine ww_call (rv := rv) (σ2 := σ2) (lm2 := lm2) (a := As.toArray) (fun H locs ls hw hS hl => ?_) kk
  exact va_runS (Ts := gT) ⟨hx, hb, hml, hown, hts⟩ hM ⟨callB_of n hts (goodIn_g (wsY_in hF.1)) rfl hrm.1 hrm.2.1 (hts _ hF.2.1) (hts _ hlk) hF.2.2 hrm.2.2, hts _ hsta⟩ ⟨pcY_blind, pcY_pre hw hS hK⟩ rfl hn hl.1 hst (lv_room hw8) hd ⟨Nat.zero_le _, Nat.zero_le _⟩

end Rows2
end
section
theorem sm_1 {w : Cond} (h : w ∈ tables_1_1) : w ∈ lw_tbl := List.mem_append_right _ (List.mem_append_left _ h)
theorem sm_2 {w : Cond} (h : w ∈ tables_1_2) : w ∈ lw_tbl := List.mem_append_right _ (List.mem_append_right _ (List.mem_append_left _ h))
theorem sm_3 {w : Cond} (h : w ∈ tables_1_3) : w ∈ lw_tbl := List.mem_append_right _ (List.mem_append_right _ (List.mem_append_right _ (List.mem_append_left _ h)))
theorem sm_4 {w : Cond} (h : w ∈ tables_1_4) : w ∈ lw_tbl := List.mem_append_right _ (List.mem_append_right _ (List.mem_append_right _ (List.mem_append_right _ (List.mem_append_left _ h))))
theorem sm_5 {w : Cond} (h : w ∈ tables_1_5) : w ∈ lw_tbl := List.mem_append_right _ (List.mem_append_right _ (List.mem_append_right _ (List.mem_append_right _ (List.mem_append_right _ (List.mem_append_left _ h)))))
theorem sm_6 {w : Cond} (h : w ∈ tables_1_6) : w ∈ lw_tbl := List.mem_append_right _ (List.mem_append_right _ (List.mem_append_right _ (List.mem_append_right _ (List.mem_append_right _ (List.mem_append_right _ (h))))))
theorem gmk {w : Cond} (h : w ∈ lw_tbl) (g : goodWord w = true) : w ∈ gT := List.mem_filter.mpr ⟨h, g⟩
/-! what the tables say: methods, links; written by wip/whole/gen_code.py -/
def R_law : String := "WellLendsDepthLaw"
def zRJ0 : String := "java/lang/String"
def zRJ1 : String := "java/lang/StringLatin1"
def zRJ2 : String := "java/lang/StringUTF16"
def zRJ3 : String := "jdk/internal/util/Preconditions"
def zRJ9 : String := "java/lang/Math"
def zRJ10 : String := "java/lang/System"
def yX0_init : MethodName := ⟨zR0, "<init>", "()V"⟩
abbrev bX0_init : ByteArray := prog_2_method_1_code
theorem mf_X0_init : MF yX0_init bX0_init 1 (Option.none : Option Jvm.ClassFile.FieldType) 0 := ⟨gmk (sm_1 (List.mem_of_getElem? (i := 213) rfl)) rfl, gmk (sm_1 (List.mem_of_getElem? (i := 6) (by decide +kernel))) rfl, by decide +kernel, by decide +kernel, by decide +kernel⟩
theorem in_X0_init : Cond.instanceMethod yX0_init ∈ gT := gmk (sm_1 (List.mem_of_getElem? (i := 212) (by decide +kernel))) rfl
def yX0_forget : MethodName := ⟨zR0, "forget", "()V"⟩
abbrev bX0_forget : ByteArray := prog_2_method_2_code
theorem mf_X0_forget : MF yX0_forget bX0_forget 1 (Option.none : Option Jvm.ClassFile.FieldType) 0 := ⟨gmk (sm_3 (List.mem_of_getElem? (i := 234) rfl)) rfl, gmk (sm_1 (List.mem_of_getElem? (i := 6) (by decide +kernel))) rfl, by decide +kernel, by decide +kernel, by decide +kernel⟩
theorem in_X0_forget : Cond.instanceMethod yX0_forget ∈ gT := gmk (sm_3 (List.mem_of_getElem? (i := 232) (by decide +kernel))) rfl
theorem se_X0_forget : Cond.selects yX0_forget.cls yX0_forget yX0_forget ∈ gT := gmk (sm_3 (List.mem_of_getElem? (i := 233) (by decide +kernel))) rfl
def yX0_traced : MethodName := ⟨zR0, "traced", "(I)I"⟩
abbrev bX0_traced : ByteArray := prog_2_method_3_code
theorem mf_X0_traced : MF yX0_traced bX0_traced 2 (Option.some Jvm.ClassFile.FieldType.int) 1 := ⟨gmk (sm_4 (List.mem_of_getElem? (i := 18) rfl)) rfl, gmk (sm_1 (List.mem_of_getElem? (i := 6) (by decide +kernel))) rfl, by decide +kernel, by decide +kernel, by decide +kernel⟩
theorem in_X0_traced : Cond.instanceMethod yX0_traced ∈ gT := gmk (sm_4 (List.mem_of_getElem? (i := 16) (by decide +kernel))) rfl
theorem se_X0_traced : Cond.selects yX0_traced.cls yX0_traced yX0_traced ∈ gT := gmk (sm_4 (List.mem_of_getElem? (i := 17) (by decide +kernel))) rfl
def yX0_perform : MethodName := ⟨zR0, "perform", "(LWellLendsDepth$Well;III)I"⟩
abbrev bX0_perform : ByteArray := prog_2_method_4_code
theorem mf_X0_perform : MF yX0_perform bX0_perform 5 (Option.some Jvm.ClassFile.FieldType.int) 4 := ⟨gmk (sm_3 (List.mem_of_getElem? (i := 238) rfl)) rfl, gmk (sm_1 (List.mem_of_getElem? (i := 6) (by decide +kernel))) rfl, by decide +kernel, by decide +kernel, by decide +kernel⟩
theorem in_X0_perform : Cond.instanceMethod yX0_perform ∈ gT := gmk (sm_3 (List.mem_of_getElem? (i := 236) (by decide +kernel))) rfl
theorem se_X0_perform : Cond.selects yX0_perform.cls yX0_perform yX0_perform ∈ gT := gmk (sm_3 (List.mem_of_getElem? (i := 237) (by decide +kernel))) rfl
def yX0_from : MethodName := ⟨zR0, "from", "(IIII)I"⟩
abbrev bX0_from : ByteArray := prog_2_method_5_code
theorem mf_X0_from : MF yX0_from bX0_from 7 (Option.some Jvm.ClassFile.FieldType.int) 4 := ⟨gmk (sm_4 (List.mem_of_getElem? (i := 2) rfl)) rfl, gmk (sm_1 (List.mem_of_getElem? (i := 6) (by decide +kernel))) rfl, by decide +kernel, by decide +kernel, by decide +kernel⟩
theorem in_X0_from : Cond.instanceMethod yX0_from ∈ gT := gmk (sm_4 (List.mem_of_getElem? (i := 1) (by decide +kernel))) rfl
theorem se_X0_from : Cond.selects yX0_from.cls yX0_from yX0_from ∈ gT := gm 23 (by decide +kernel) rfl
def yX0_run : MethodName := ⟨zR0, "run", "(IIII)I"⟩
abbrev bX0_run : ByteArray := prog_2_method_6_code
theorem mf_X0_run : MF yX0_run bX0_run 5 (Option.some Jvm.ClassFile.FieldType.int) 4 := ⟨gmk (sm_4 (List.mem_of_getElem? (i := 10) rfl)) rfl, gmk (sm_1 (List.mem_of_getElem? (i := 6) (by decide +kernel))) rfl, by decide +kernel, by decide +kernel, by decide +kernel⟩
theorem in_X0_run : Cond.instanceMethod yX0_run ∈ gT := gmk (sm_4 (List.mem_of_getElem? (i := 9) (by decide +kernel))) rfl
theorem se_X0_run : Cond.selects yX0_run.cls yX0_run yX0_run ∈ gT := gm 24 (by decide +kernel) rfl
def yX1_init : MethodName := ⟨zR1, "<init>", "()V"⟩
abbrev bX1_init : ByteArray := prog_3_method_1_code
theorem mf_X1_init : MF yX1_init bX1_init 1 (Option.none : Option Jvm.ClassFile.FieldType) 0 := ⟨gmk (sm_1 (List.mem_of_getElem? (i := 145) rfl)) rfl, gmk (sm_1 (List.mem_of_getElem? (i := 5) (by decide +kernel))) rfl, by decide +kernel, by decide +kernel, by decide +kernel⟩
theorem in_X1_init : Cond.instanceMethod yX1_init ∈ gT := gmk (sm_1 (List.mem_of_getElem? (i := 144) (by decide +kernel))) rfl
def yX1_clear : MethodName := ⟨zR1, "clear", "()V"⟩
abbrev bX1_clear : ByteArray := prog_3_method_2_code
theorem mf_X1_clear : MF yX1_clear bX1_clear 1 (Option.none : Option Jvm.ClassFile.FieldType) 0 := ⟨gmk (sm_2 (List.mem_of_getElem? (i := 164) rfl)) rfl, gmk (sm_1 (List.mem_of_getElem? (i := 5) (by decide +kernel))) rfl, by decide +kernel, by decide +kernel, by decide +kernel⟩
theorem in_X1_clear : Cond.instanceMethod yX1_clear ∈ gT := gmk (sm_2 (List.mem_of_getElem? (i := 162) (by decide +kernel))) rfl
theorem se_X1_clear : Cond.selects yX1_clear.cls yX1_clear yX1_clear ∈ gT := gmk (sm_2 (List.mem_of_getElem? (i := 163) (by decide +kernel))) rfl
def yX1_addStep : MethodName := ⟨zR1, "addStep", "(III)V"⟩
abbrev bX1_addStep : ByteArray := prog_3_method_3_code
theorem mf_X1_addStep : MF yX1_addStep bX1_addStep 4 (Option.none : Option Jvm.ClassFile.FieldType) 3 := ⟨gmk (sm_3 (List.mem_of_getElem? (i := 12) rfl)) rfl, gmk (sm_1 (List.mem_of_getElem? (i := 5) (by decide +kernel))) rfl, by decide +kernel, by decide +kernel, by decide +kernel⟩
theorem in_X1_addStep : Cond.instanceMethod yX1_addStep ∈ gT := gmk (sm_3 (List.mem_of_getElem? (i := 10) (by decide +kernel))) rfl
theorem se_X1_addStep : Cond.selects yX1_addStep.cls yX1_addStep yX1_addStep ∈ gT := gmk (sm_3 (List.mem_of_getElem? (i := 11) (by decide +kernel))) rfl
def yX1_addPrice : MethodName := ⟨zR1, "addPrice", "(I)V"⟩
abbrev bX1_addPrice : ByteArray := prog_3_method_4_code
theorem mf_X1_addPrice : MF yX1_addPrice bX1_addPrice 2 (Option.none : Option Jvm.ClassFile.FieldType) 1 := ⟨gmk (sm_3 (List.mem_of_getElem? (i := 25) rfl)) rfl, gmk (sm_1 (List.mem_of_getElem? (i := 5) (by decide +kernel))) rfl, by decide +kernel, by decide +kernel, by decide +kernel⟩
theorem in_X1_addPrice : Cond.instanceMethod yX1_addPrice ∈ gT := gmk (sm_3 (List.mem_of_getElem? (i := 23) (by decide +kernel))) rfl
theorem se_X1_addPrice : Cond.selects yX1_addPrice.cls yX1_addPrice yX1_addPrice ∈ gT := gmk (sm_3 (List.mem_of_getElem? (i := 24) (by decide +kernel))) rfl
def yX1_rate : MethodName := ⟨zR1, "rate", "(LWellLendsDepth$Well;I)I"⟩
abbrev bX1_rate : ByteArray := prog_3_method_5_code
theorem mf_X1_rate : MF yX1_rate bX1_rate 6 (Option.some Jvm.ClassFile.FieldType.int) 2 := ⟨gmk (sm_2 (List.mem_of_getElem? (i := 82) rfl)) rfl, gmk (sm_1 (List.mem_of_getElem? (i := 5) (by decide +kernel))) rfl, by decide +kernel, by decide +kernel, by decide +kernel⟩
theorem in_X1_rate : Cond.instanceMethod yX1_rate ∈ gT := gmk (sm_2 (List.mem_of_getElem? (i := 80) (by decide +kernel))) rfl
theorem se_X1_rate : Cond.selects yX1_rate.cls yX1_rate yX1_rate ∈ gT := gmk (sm_2 (List.mem_of_getElem? (i := 81) (by decide +kernel))) rfl
def yX1_conditionHolds : MethodName := ⟨zR1, "conditionHolds", "(II)Z"⟩
abbrev bX1_conditionHolds : ByteArray := prog_3_method_6_code
theorem mf_X1_conditionHolds : MF yX1_conditionHolds bX1_conditionHolds 6 (Option.some Jvm.ClassFile.FieldType.boolean) 2 := ⟨gmk (sm_2 (List.mem_of_getElem? (i := 86) rfl)) rfl, gmk (sm_1 (List.mem_of_getElem? (i := 5) (by decide +kernel))) rfl, by decide +kernel, by decide +kernel, by decide +kernel⟩
theorem in_X1_conditionHolds : Cond.instanceMethod yX1_conditionHolds ∈ gT := gmk (sm_2 (List.mem_of_getElem? (i := 85) (by decide +kernel))) rfl
theorem se_X1_conditionHolds : Cond.selects yX1_conditionHolds.cls yX1_conditionHolds yX1_conditionHolds ∈ gT := gm 2 (by decide +kernel) rfl
def yX2_init : MethodName := ⟨zR2, "<init>", "()V"⟩
abbrev bX2_init : ByteArray := prog_4_method_1_code
theorem mf_X2_init : MF yX2_init bX2_init 1 (Option.none : Option Jvm.ClassFile.FieldType) 0 := ⟨gmk (sm_1 (List.mem_of_getElem? (i := 98) rfl)) rfl, gmk (sm_1 (List.mem_of_getElem? (i := 3) (by decide +kernel))) rfl, by decide +kernel, by decide +kernel, by decide +kernel⟩
theorem in_X2_init : Cond.instanceMethod yX2_init ∈ gT := gmk (sm_1 (List.mem_of_getElem? (i := 97) (by decide +kernel))) rfl
def yX2_copyFrom : MethodName := ⟨zR2, "copyFrom", "(LWellLendsDepth$Hand;)V"⟩
abbrev bX2_copyFrom : ByteArray := prog_4_method_2_code
theorem mf_X2_copyFrom : MF yX2_copyFrom bX2_copyFrom 2 (Option.none : Option Jvm.ClassFile.FieldType) 1 := ⟨gmk (sm_3 (List.mem_of_getElem? (i := 221) rfl)) rfl, gmk (sm_1 (List.mem_of_getElem? (i := 3) (by decide +kernel))) rfl, by decide +kernel, by decide +kernel, by decide +kernel⟩
theorem in_X2_copyFrom : Cond.instanceMethod yX2_copyFrom ∈ gT := gmk (sm_3 (List.mem_of_getElem? (i := 219) (by decide +kernel))) rfl
theorem se_X2_copyFrom : Cond.selects yX2_copyFrom.cls yX2_copyFrom yX2_copyFrom ∈ gT := gmk (sm_3 (List.mem_of_getElem? (i := 220) (by decide +kernel))) rfl
def yX2_addSeen : MethodName := ⟨zR2, "addSeen", "(II)I"⟩
abbrev bX2_addSeen : ByteArray := prog_4_method_3_code
theorem mf_X2_addSeen : MF yX2_addSeen bX2_addSeen 3 (Option.some Jvm.ClassFile.FieldType.int) 2 := ⟨gmk (sm_3 (List.mem_of_getElem? (i := 131) rfl)) rfl, gmk (sm_1 (List.mem_of_getElem? (i := 3) (by decide +kernel))) rfl, by decide +kernel, by decide +kernel, by decide +kernel⟩
theorem in_X2_addSeen : Cond.instanceMethod yX2_addSeen ∈ gT := gmk (sm_3 (List.mem_of_getElem? (i := 129) (by decide +kernel))) rfl
theorem se_X2_addSeen : Cond.selects yX2_addSeen.cls yX2_addSeen yX2_addSeen ∈ gT := gmk (sm_3 (List.mem_of_getElem? (i := 130) (by decide +kernel))) rfl
def yX2_addYear : MethodName := ⟨zR2, "addYear", "(II)I"⟩
abbrev bX2_addYear : ByteArray := prog_4_method_4_code
theorem mf_X2_addYear : MF yX2_addYear bX2_addYear 3 (Option.some Jvm.ClassFile.FieldType.int) 2 := ⟨gmk (sm_3 (List.mem_of_getElem? (i := 175) rfl)) rfl, gmk (sm_1 (List.mem_of_getElem? (i := 3) (by decide +kernel))) rfl, by decide +kernel, by decide +kernel, by decide +kernel⟩
theorem in_X2_addYear : Cond.instanceMethod yX2_addYear ∈ gT := gmk (sm_3 (List.mem_of_getElem? (i := 173) (by decide +kernel))) rfl
theorem se_X2_addYear : Cond.selects yX2_addYear.cls yX2_addYear yX2_addYear ∈ gT := gmk (sm_3 (List.mem_of_getElem? (i := 174) (by decide +kernel))) rfl
def yX2_addBook : MethodName := ⟨zR2, "addBook", "(II)I"⟩
abbrev bX2_addBook : ByteArray := prog_4_method_5_code
theorem mf_X2_addBook : MF yX2_addBook bX2_addBook 3 (Option.some Jvm.ClassFile.FieldType.int) 2 := ⟨gmk (sm_3 (List.mem_of_getElem? (i := 192) rfl)) rfl, gmk (sm_1 (List.mem_of_getElem? (i := 3) (by decide +kernel))) rfl, by decide +kernel, by decide +kernel, by decide +kernel⟩
theorem in_X2_addBook : Cond.instanceMethod yX2_addBook ∈ gT := gmk (sm_3 (List.mem_of_getElem? (i := 190) (by decide +kernel))) rfl
theorem se_X2_addBook : Cond.selects yX2_addBook.cls yX2_addBook yX2_addBook ∈ gT := gmk (sm_3 (List.mem_of_getElem? (i := 191) (by decide +kernel))) rfl
def yX2_farthestSeen : MethodName := ⟨zR2, "farthestSeen", "()I"⟩
abbrev bX2_farthestSeen : ByteArray := prog_4_method_6_code
theorem mf_X2_farthestSeen : MF yX2_farthestSeen bX2_farthestSeen 3 (Option.some Jvm.ClassFile.FieldType.int) 0 := ⟨gmk (sm_3 (List.mem_of_getElem? (i := 143) rfl)) rfl, gmk (sm_1 (List.mem_of_getElem? (i := 3) (by decide +kernel))) rfl, by decide +kernel, by decide +kernel, by decide +kernel⟩
theorem in_X2_farthestSeen : Cond.instanceMethod yX2_farthestSeen ∈ gT := gmk (sm_3 (List.mem_of_getElem? (i := 141) (by decide +kernel))) rfl
theorem se_X2_farthestSeen : Cond.selects yX2_farthestSeen.cls yX2_farthestSeen yX2_farthestSeen ∈ gT := gmk (sm_3 (List.mem_of_getElem? (i := 142) (by decide +kernel))) rfl
def yX2_seenFits : MethodName := ⟨zR2, "seenFits", "(II)Z"⟩
abbrev bX2_seenFits : ByteArray := prog_4_method_7_code
theorem mf_X2_seenFits : MF yX2_seenFits bX2_seenFits 4 (Option.some Jvm.ClassFile.FieldType.boolean) 2 := ⟨gmk (sm_3 (List.mem_of_getElem? (i := 148) rfl)) rfl, gmk (sm_1 (List.mem_of_getElem? (i := 3) (by decide +kernel))) rfl, by decide +kernel, by decide +kernel, by decide +kernel⟩
theorem in_X2_seenFits : Cond.instanceMethod yX2_seenFits ∈ gT := gmk (sm_3 (List.mem_of_getElem? (i := 146) (by decide +kernel))) rfl
theorem se_X2_seenFits : Cond.selects yX2_seenFits.cls yX2_seenFits yX2_seenFits ∈ gT := gmk (sm_3 (List.mem_of_getElem? (i := 147) (by decide +kernel))) rfl
def yX3_init : MethodName := ⟨zR3, "<init>", "()V"⟩
abbrev bX3_init : ByteArray := prog_5_method_1_code
theorem mf_X3_init : MF yX3_init bX3_init 1 (Option.none : Option Jvm.ClassFile.FieldType) 0 := ⟨gmk (sm_1 (List.mem_of_getElem? (i := 139) rfl)) rfl, gmk (sm_1 (List.mem_of_getElem? (i := 4) (by decide +kernel))) rfl, by decide +kernel, by decide +kernel, by decide +kernel⟩
theorem in_X3_init : Cond.instanceMethod yX3_init ∈ gT := gmk (sm_1 (List.mem_of_getElem? (i := 138) (by decide +kernel))) rfl
def yX3_take : MethodName := ⟨zR3, "take", "(I)V"⟩
abbrev bX3_take : ByteArray := prog_5_method_2_code
theorem mf_X3_take : MF yX3_take bX3_take 2 (Option.none : Option Jvm.ClassFile.FieldType) 1 := ⟨gmk (sm_2 (List.mem_of_getElem? (i := 152) rfl)) rfl, gmk (sm_1 (List.mem_of_getElem? (i := 4) (by decide +kernel))) rfl, by decide +kernel, by decide +kernel, by decide +kernel⟩
theorem in_X3_take : Cond.instanceMethod yX3_take ∈ gT := gmk (sm_2 (List.mem_of_getElem? (i := 150) (by decide +kernel))) rfl
theorem se_X3_take : Cond.selects yX3_take.cls yX3_take yX3_take ∈ gT := gmk (sm_2 (List.mem_of_getElem? (i := 151) (by decide +kernel))) rfl
def yX3_readInto : MethodName := ⟨zR3, "readInto", "(LWellLendsDepth$Country;)I"⟩
abbrev bX3_readInto : ByteArray := prog_5_method_3_code
theorem mf_X3_readInto : MF yX3_readInto bX3_readInto 3 (Option.some Jvm.ClassFile.FieldType.int) 1 := ⟨gmk (sm_2 (List.mem_of_getElem? (i := 160) rfl)) rfl, gmk (sm_1 (List.mem_of_getElem? (i := 4) (by decide +kernel))) rfl, by decide +kernel, by decide +kernel, by decide +kernel⟩
theorem in_X3_readInto : Cond.instanceMethod yX3_readInto ∈ gT := gmk (sm_2 (List.mem_of_getElem? (i := 158) (by decide +kernel))) rfl
theorem se_X3_readInto : Cond.selects yX3_readInto.cls yX3_readInto yX3_readInto ∈ gT := gmk (sm_2 (List.mem_of_getElem? (i := 159) (by decide +kernel))) rfl
def yX3_sign : MethodName := ⟨zR3, "sign", "()I"⟩
abbrev bX3_sign : ByteArray := prog_5_method_4_code
theorem mf_X3_sign : MF yX3_sign bX3_sign 1 (Option.some Jvm.ClassFile.FieldType.int) 0 := ⟨gmk (sm_2 (List.mem_of_getElem? (i := 172) rfl)) rfl, gmk (sm_1 (List.mem_of_getElem? (i := 4) (by decide +kernel))) rfl, by decide +kernel, by decide +kernel, by decide +kernel⟩
theorem in_X3_sign : Cond.instanceMethod yX3_sign ∈ gT := gmk (sm_2 (List.mem_of_getElem? (i := 171) (by decide +kernel))) rfl
theorem se_X3_sign : Cond.selects yX3_sign.cls yX3_sign yX3_sign ∈ gT := gm 4 (by decide +kernel) rfl
def yX3_expect : MethodName := ⟨zR3, "expect", "(I)V"⟩
abbrev bX3_expect : ByteArray := prog_5_method_5_code
theorem mf_X3_expect : MF yX3_expect bX3_expect 2 (Option.none : Option Jvm.ClassFile.FieldType) 1 := ⟨gmk (sm_2 (List.mem_of_getElem? (i := 236) rfl)) rfl, gmk (sm_1 (List.mem_of_getElem? (i := 4) (by decide +kernel))) rfl, by decide +kernel, by decide +kernel, by decide +kernel⟩
theorem in_X3_expect : Cond.instanceMethod yX3_expect ∈ gT := gmk (sm_2 (List.mem_of_getElem? (i := 235) (by decide +kernel))) rfl
theorem se_X3_expect : Cond.selects yX3_expect.cls yX3_expect yX3_expect ∈ gT := gm 6 (by decide +kernel) rfl
def yX3_expectWord : MethodName := ⟨zR3, "expectWord", "(Ljava/lang/String;)V"⟩
abbrev bX3_expectWord : ByteArray := prog_5_method_6_code
theorem mf_X3_expectWord : MF yX3_expectWord bX3_expectWord 3 (Option.none : Option Jvm.ClassFile.FieldType) 1 := ⟨gmk (sm_2 (List.mem_of_getElem? (i := 184) rfl)) rfl, gmk (sm_1 (List.mem_of_getElem? (i := 4) (by decide +kernel))) rfl, by decide +kernel, by decide +kernel, by decide +kernel⟩
theorem in_X3_expectWord : Cond.instanceMethod yX3_expectWord ∈ gT := gmk (sm_2 (List.mem_of_getElem? (i := 183) (by decide +kernel))) rfl
theorem se_X3_expectWord : Cond.selects yX3_expectWord.cls yX3_expectWord yX3_expectWord ∈ gT := gm 5 (by decide +kernel) rfl
def yX3_readClause : MethodName := ⟨zR3, "readClause", "()V"⟩
abbrev bX3_readClause : ByteArray := prog_5_method_7_code
theorem mf_X3_readClause : MF yX3_readClause bX3_readClause 3 (Option.none : Option Jvm.ClassFile.FieldType) 0 := ⟨gmk (sm_2 (List.mem_of_getElem? (i := 168) rfl)) rfl, gmk (sm_1 (List.mem_of_getElem? (i := 4) (by decide +kernel))) rfl, by decide +kernel, by decide +kernel, by decide +kernel⟩
theorem in_X3_readClause : Cond.instanceMethod yX3_readClause ∈ gT := gmk (sm_2 (List.mem_of_getElem? (i := 167) (by decide +kernel))) rfl
theorem se_X3_readClause : Cond.selects yX3_readClause.cls yX3_readClause yX3_readClause ∈ gT := gm 3 (by decide +kernel) rfl
def yX3_wordOf : MethodName := ⟨zR3, "wordOf", "(I)Ljava/lang/String;"⟩
abbrev bX3_wordOf : ByteArray := prog_5_method_8_code
theorem mf_X3_wordOf : MF yX3_wordOf bX3_wordOf 1 (Option.some (Jvm.ClassFile.FieldType.object "java/lang/String")) 1 := ⟨gmk (sm_2 (List.mem_of_getElem? (i := 175) rfl)) rfl, gmk (sm_1 (List.mem_of_getElem? (i := 4) (by decide +kernel))) rfl, by decide +kernel, by decide +kernel, by decide +kernel⟩
theorem st_X3_wordOf : Cond.static yX3_wordOf ∈ gT := gmk (sm_2 (List.mem_of_getElem? (i := 174) (by decide +kernel))) rfl
def yX3_readNumber : MethodName := ⟨zR3, "readNumber", "()I"⟩
abbrev bX3_readNumber : ByteArray := prog_5_method_9_code
theorem mf_X3_readNumber : MF yX3_readNumber bX3_readNumber 3 (Option.some Jvm.ClassFile.FieldType.int) 0 := ⟨gmk (sm_3 (List.mem_of_getElem? (i := 0) rfl)) rfl, gmk (sm_1 (List.mem_of_getElem? (i := 4) (by decide +kernel))) rfl, by decide +kernel, by decide +kernel, by decide +kernel⟩
theorem in_X3_readNumber : Cond.instanceMethod yX3_readNumber ∈ gT := gmk (sm_2 (List.mem_of_getElem? (i := 239) (by decide +kernel))) rfl
theorem se_X3_readNumber : Cond.selects yX3_readNumber.cls yX3_readNumber yX3_readNumber ∈ gT := gm 7 (by decide +kernel) rfl
def yX3_readEither : MethodName := ⟨zR3, "readEither", "(I)V"⟩
abbrev bX3_readEither : ByteArray := prog_5_method_10_code
theorem mf_X3_readEither : MF yX3_readEither bX3_readEither 5 (Option.none : Option Jvm.ClassFile.FieldType) 1 := ⟨gmk (sm_3 (List.mem_of_getElem? (i := 4) rfl)) rfl, gmk (sm_1 (List.mem_of_getElem? (i := 4) (by decide +kernel))) rfl, by decide +kernel, by decide +kernel, by decide +kernel⟩
theorem in_X3_readEither : Cond.instanceMethod yX3_readEither ∈ gT := gmk (sm_3 (List.mem_of_getElem? (i := 3) (by decide +kernel))) rfl
theorem se_X3_readEither : Cond.selects yX3_readEither.cls yX3_readEither yX3_readEither ∈ gT := gm 8 (by decide +kernel) rfl
def yX3_readPart : MethodName := ⟨zR3, "readPart", "(I)V"⟩
abbrev bX3_readPart : ByteArray := prog_5_method_11_code
theorem mf_X3_readPart : MF yX3_readPart bX3_readPart 2 (Option.none : Option Jvm.ClassFile.FieldType) 1 := ⟨gmk (sm_3 (List.mem_of_getElem? (i := 8) rfl)) rfl, gmk (sm_1 (List.mem_of_getElem? (i := 4) (by decide +kernel))) rfl, by decide +kernel, by decide +kernel, by decide +kernel⟩
theorem in_X3_readPart : Cond.instanceMethod yX3_readPart ∈ gT := gmk (sm_3 (List.mem_of_getElem? (i := 7) (by decide +kernel))) rfl
theorem se_X3_readPart : Cond.selects yX3_readPart.cls yX3_readPart yX3_readPart ∈ gT := gm 9 (by decide +kernel) rfl
def yX3_readTest : MethodName := ⟨zR3, "readTest", "()V"⟩
abbrev bX3_readTest : ByteArray := prog_5_method_12_code
theorem mf_X3_readTest : MF yX3_readTest bX3_readTest 3 (Option.none : Option Jvm.ClassFile.FieldType) 0 := ⟨gmk (sm_3 (List.mem_of_getElem? (i := 16) rfl)) rfl, gmk (sm_1 (List.mem_of_getElem? (i := 4) (by decide +kernel))) rfl, by decide +kernel, by decide +kernel, by decide +kernel⟩
theorem in_X3_readTest : Cond.instanceMethod yX3_readTest ∈ gT := gmk (sm_3 (List.mem_of_getElem? (i := 15) (by decide +kernel))) rfl
theorem se_X3_readTest : Cond.selects yX3_readTest.cls yX3_readTest yX3_readTest ∈ gT := gm 10 (by decide +kernel) rfl
def yX3_placeOf : MethodName := ⟨zR3, "placeOf", "(ILjava/lang/String;)I"⟩
abbrev bX3_placeOf : ByteArray := prog_5_method_13_code
theorem mf_X3_placeOf : MF yX3_placeOf bX3_placeOf 3 (Option.some Jvm.ClassFile.FieldType.int) 2 := ⟨gmk (sm_3 (List.mem_of_getElem? (i := 20) rfl)) rfl, gmk (sm_1 (List.mem_of_getElem? (i := 4) (by decide +kernel))) rfl, by decide +kernel, by decide +kernel, by decide +kernel⟩
theorem st_X3_placeOf : Cond.static yX3_placeOf ∈ gT := gmk (sm_3 (List.mem_of_getElem? (i := 19) (by decide +kernel))) rfl
def yX4_init : MethodName := ⟨zR4, "<init>", "()V"⟩
abbrev bX4_init : ByteArray := prog_6_method_1_code
theorem mf_X4_init : MF yX4_init bX4_init 2 (Option.none : Option Jvm.ClassFile.FieldType) 0 := ⟨gmk (sm_1 (List.mem_of_getElem? (i := 236) rfl)) rfl, gmk (sm_1 (List.mem_of_getElem? (i := 7) (by decide +kernel))) rfl, by decide +kernel, by decide +kernel, by decide +kernel⟩
theorem in_X4_init : Cond.instanceMethod yX4_init ∈ gT := gmk (sm_1 (List.mem_of_getElem? (i := 235) (by decide +kernel))) rfl
def yX4_known : MethodName := ⟨zR4, "known", "(I)Z"⟩
abbrev bX4_known : ByteArray := prog_6_method_2_code
theorem mf_X4_known : MF yX4_known bX4_known 2 (Option.some Jvm.ClassFile.FieldType.boolean) 1 := ⟨gmk (sm_3 (List.mem_of_getElem? (i := 204) rfl)) rfl, gmk (sm_1 (List.mem_of_getElem? (i := 7) (by decide +kernel))) rfl, by decide +kernel, by decide +kernel, by decide +kernel⟩
theorem in_X4_known : Cond.instanceMethod yX4_known ∈ gT := gmk (sm_3 (List.mem_of_getElem? (i := 202) (by decide +kernel))) rfl
theorem se_X4_known : Cond.selects yX4_known.cls yX4_known yX4_known ∈ gT := gmk (sm_3 (List.mem_of_getElem? (i := 203) (by decide +kernel))) rfl
def yX4_holds : MethodName := ⟨zR4, "holds", "(I)Z"⟩
abbrev bX4_holds : ByteArray := prog_6_method_3_code
theorem mf_X4_holds : MF yX4_holds bX4_holds 2 (Option.some Jvm.ClassFile.FieldType.boolean) 1 := ⟨gmk (sm_3 (List.mem_of_getElem? (i := 208) rfl)) rfl, gmk (sm_1 (List.mem_of_getElem? (i := 7) (by decide +kernel))) rfl, by decide +kernel, by decide +kernel, by decide +kernel⟩
theorem in_X4_holds : Cond.instanceMethod yX4_holds ∈ gT := gmk (sm_3 (List.mem_of_getElem? (i := 206) (by decide +kernel))) rfl
theorem se_X4_holds : Cond.selects yX4_holds.cls yX4_holds yX4_holds ∈ gT := gmk (sm_3 (List.mem_of_getElem? (i := 207) (by decide +kernel))) rfl
def yX4_hasPlace : MethodName := ⟨zR4, "hasPlace", "(IJ)Z"⟩
abbrev bX4_hasPlace : ByteArray := prog_6_method_4_code
theorem mf_X4_hasPlace : MF yX4_hasPlace bX4_hasPlace 4 (Option.some Jvm.ClassFile.FieldType.boolean) 2 := ⟨gmk (sm_3 (List.mem_of_getElem? (i := 212) rfl)) rfl, gmk (sm_1 (List.mem_of_getElem? (i := 7) (by decide +kernel))) rfl, by decide +kernel, by decide +kernel, by decide +kernel⟩
theorem in_X4_hasPlace : Cond.instanceMethod yX4_hasPlace ∈ gT := gmk (sm_3 (List.mem_of_getElem? (i := 210) (by decide +kernel))) rfl
theorem se_X4_hasPlace : Cond.selects yX4_hasPlace.cls yX4_hasPlace yX4_hasPlace ∈ gT := gmk (sm_3 (List.mem_of_getElem? (i := 211) (by decide +kernel))) rfl
def yX4_hasRoom : MethodName := ⟨zR4, "hasRoom", "(III)Z"⟩
abbrev bX4_hasRoom : ByteArray := prog_6_method_5_code
theorem mf_X4_hasRoom : MF yX4_hasRoom bX4_hasRoom 4 (Option.some Jvm.ClassFile.FieldType.boolean) 3 := ⟨gmk (sm_4 (List.mem_of_getElem? (i := 57) rfl)) rfl, gmk (sm_1 (List.mem_of_getElem? (i := 7) (by decide +kernel))) rfl, by decide +kernel, by decide +kernel, by decide +kernel⟩
theorem in_X4_hasRoom : Cond.instanceMethod yX4_hasRoom ∈ gT := gmk (sm_4 (List.mem_of_getElem? (i := 55) (by decide +kernel))) rfl
theorem se_X4_hasRoom : Cond.selects yX4_hasRoom.cls yX4_hasRoom yX4_hasRoom ∈ gT := gmk (sm_4 (List.mem_of_getElem? (i := 56) (by decide +kernel))) rfl
def yX4_make : MethodName := ⟨zR4, "make", "(III)V"⟩
abbrev bX4_make : ByteArray := prog_6_method_6_code
theorem mf_X4_make : MF yX4_make bX4_make 5 (Option.none : Option Jvm.ClassFile.FieldType) 3 := ⟨gmk (sm_4 (List.mem_of_getElem? (i := 38) rfl)) rfl, gmk (sm_1 (List.mem_of_getElem? (i := 7) (by decide +kernel))) rfl, by decide +kernel, by decide +kernel, by decide +kernel⟩
theorem in_X4_make : Cond.instanceMethod yX4_make ∈ gT := gmk (sm_4 (List.mem_of_getElem? (i := 36) (by decide +kernel))) rfl
theorem se_X4_make : Cond.selects yX4_make.cls yX4_make yX4_make ∈ gT := gmk (sm_4 (List.mem_of_getElem? (i := 37) (by decide +kernel))) rfl
def yX4_cut : MethodName := ⟨zR4, "cut", "(IJ)J"⟩
abbrev bX4_cut : ByteArray := prog_6_method_7_code
theorem mf_X4_cut : MF yX4_cut bX4_cut 3 (Option.some Jvm.ClassFile.FieldType.long) 2 := ⟨gmk (sm_4 (List.mem_of_getElem? (i := 45) rfl)) rfl, gmk (sm_1 (List.mem_of_getElem? (i := 7) (by decide +kernel))) rfl, by decide +kernel, by decide +kernel, by decide +kernel⟩
theorem st_X4_cut : Cond.static yX4_cut ∈ gT := gmk (sm_4 (List.mem_of_getElem? (i := 44) (by decide +kernel))) rfl
def yX5_init : MethodName := ⟨zR5, "<init>", "()V"⟩
abbrev bX5_init : ByteArray := prog_7_method_1_code
theorem mf_X5_init : MF yX5_init bX5_init 1 (Option.none : Option Jvm.ClassFile.FieldType) 0 := ⟨gmk (sm_1 (List.mem_of_getElem? (i := 27) rfl)) rfl, gmk (sm_1 (List.mem_of_getElem? (i := 2) (by decide +kernel))) rfl, by decide +kernel, by decide +kernel, by decide +kernel⟩
theorem in_X5_init : Cond.instanceMethod yX5_init ∈ gT := gmk (sm_1 (List.mem_of_getElem? (i := 26) (by decide +kernel))) rfl
def yX5_copyFrom : MethodName := ⟨zR5, "copyFrom", "(LWellLendsDepth$Well;)V"⟩
abbrev bX5_copyFrom : ByteArray := prog_7_method_2_code
theorem mf_X5_copyFrom : MF yX5_copyFrom bX5_copyFrom 3 (Option.none : Option Jvm.ClassFile.FieldType) 1 := ⟨gmk (sm_3 (List.mem_of_getElem? (i := 71) rfl)) rfl, gmk (sm_1 (List.mem_of_getElem? (i := 2) (by decide +kernel))) rfl, by decide +kernel, by decide +kernel, by decide +kernel⟩
theorem in_X5_copyFrom : Cond.instanceMethod yX5_copyFrom ∈ gT := gmk (sm_3 (List.mem_of_getElem? (i := 69) (by decide +kernel))) rfl
theorem se_X5_copyFrom : Cond.selects yX5_copyFrom.cls yX5_copyFrom yX5_copyFrom ∈ gT := gmk (sm_3 (List.mem_of_getElem? (i := 70) (by decide +kernel))) rfl
def yX5_join : MethodName := ⟨zR5, "join", "(IIII)I"⟩
abbrev bX5_join : ByteArray := prog_7_method_3_code
theorem mf_X5_join : MF yX5_join bX5_join 7 (Option.some Jvm.ClassFile.FieldType.int) 4 := ⟨gmk (sm_2 (List.mem_of_getElem? (i := 66) rfl)) rfl, gmk (sm_1 (List.mem_of_getElem? (i := 2) (by decide +kernel))) rfl, by decide +kernel, by decide +kernel, by decide +kernel⟩
theorem in_X5_join : Cond.instanceMethod yX5_join ∈ gT := gmk (sm_2 (List.mem_of_getElem? (i := 64) (by decide +kernel))) rfl
theorem se_X5_join : Cond.selects yX5_join.cls yX5_join yX5_join ∈ gT := gmk (sm_2 (List.mem_of_getElem? (i := 65) (by decide +kernel))) rfl
def yX5_trade : MethodName := ⟨zR5, "trade", "(II)V"⟩
abbrev bX5_trade : ByteArray := prog_7_method_4_code
theorem mf_X5_trade : MF yX5_trade bX5_trade 4 (Option.none : Option Jvm.ClassFile.FieldType) 2 := ⟨gmk (sm_2 (List.mem_of_getElem? (i := 132) rfl)) rfl, gmk (sm_1 (List.mem_of_getElem? (i := 2) (by decide +kernel))) rfl, by decide +kernel, by decide +kernel, by decide +kernel⟩
theorem in_X5_trade : Cond.instanceMethod yX5_trade ∈ gT := gmk (sm_2 (List.mem_of_getElem? (i := 130) (by decide +kernel))) rfl
theorem se_X5_trade : Cond.selects yX5_trade.cls yX5_trade yX5_trade ∈ gT := gmk (sm_2 (List.mem_of_getElem? (i := 131) (by decide +kernel))) rfl
def yX5_rise : MethodName := ⟨zR5, "rise", "(I)V"⟩
abbrev bX5_rise : ByteArray := prog_7_method_5_code
theorem mf_X5_rise : MF yX5_rise bX5_rise 2 (Option.none : Option Jvm.ClassFile.FieldType) 1 := ⟨gmk (sm_2 (List.mem_of_getElem? (i := 144) rfl)) rfl, gmk (sm_1 (List.mem_of_getElem? (i := 2) (by decide +kernel))) rfl, by decide +kernel, by decide +kernel, by decide +kernel⟩
theorem in_X5_rise : Cond.instanceMethod yX5_rise ∈ gT := gmk (sm_2 (List.mem_of_getElem? (i := 142) (by decide +kernel))) rfl
theorem se_X5_rise : Cond.selects yX5_rise.cls yX5_rise yX5_rise ∈ gT := gmk (sm_2 (List.mem_of_getElem? (i := 143) (by decide +kernel))) rfl
def yX5_callIn : MethodName := ⟨zR5, "callIn", "(I)V"⟩
abbrev bX5_callIn : ByteArray := prog_7_method_6_code
theorem mf_X5_callIn : MF yX5_callIn bX5_callIn 2 (Option.none : Option Jvm.ClassFile.FieldType) 1 := ⟨gmk (sm_2 (List.mem_of_getElem? (i := 140) rfl)) rfl, gmk (sm_1 (List.mem_of_getElem? (i := 2) (by decide +kernel))) rfl, by decide +kernel, by decide +kernel, by decide +kernel⟩
theorem in_X5_callIn : Cond.instanceMethod yX5_callIn ∈ gT := gmk (sm_2 (List.mem_of_getElem? (i := 138) (by decide +kernel))) rfl
theorem se_X5_callIn : Cond.selects yX5_callIn.cls yX5_callIn yX5_callIn ∈ gT := gmk (sm_2 (List.mem_of_getElem? (i := 139) (by decide +kernel))) rfl
def yX5_owesOfAll : MethodName := ⟨zR5, "owesOfAll", "()I"⟩
abbrev bX5_owesOfAll : ByteArray := prog_7_method_7_code
theorem mf_X5_owesOfAll : MF yX5_owesOfAll bX5_owesOfAll 3 (Option.some Jvm.ClassFile.FieldType.int) 0 := ⟨gmk (sm_3 (List.mem_of_getElem? (i := 34) rfl)) rfl, gmk (sm_1 (List.mem_of_getElem? (i := 2) (by decide +kernel))) rfl, by decide +kernel, by decide +kernel, by decide +kernel⟩
theorem in_X5_owesOfAll : Cond.instanceMethod yX5_owesOfAll ∈ gT := gmk (sm_3 (List.mem_of_getElem? (i := 32) (by decide +kernel))) rfl
theorem se_X5_owesOfAll : Cond.selects yX5_owesOfAll.cls yX5_owesOfAll yX5_owesOfAll ∈ gT := gmk (sm_3 (List.mem_of_getElem? (i := 33) (by decide +kernel))) rfl
def yX5_asks : MethodName := ⟨zR5, "asks", "(II)I"⟩
abbrev bX5_asks : ByteArray := prog_7_method_8_code
theorem mf_X5_asks : MF yX5_asks bX5_asks 3 (Option.some Jvm.ClassFile.FieldType.int) 2 := ⟨gmk (sm_2 (List.mem_of_getElem? (i := 93) rfl)) rfl, gmk (sm_1 (List.mem_of_getElem? (i := 2) (by decide +kernel))) rfl, by decide +kernel, by decide +kernel, by decide +kernel⟩
theorem in_X5_asks : Cond.instanceMethod yX5_asks ∈ gT := gmk (sm_2 (List.mem_of_getElem? (i := 91) (by decide +kernel))) rfl
theorem se_X5_asks : Cond.selects yX5_asks.cls yX5_asks yX5_asks ∈ gT := gmk (sm_2 (List.mem_of_getElem? (i := 92) (by decide +kernel))) rfl
def yX5_keeps : MethodName := ⟨zR5, "keeps", "(I)I"⟩
abbrev bX5_keeps : ByteArray := prog_7_method_9_code
theorem mf_X5_keeps : MF yX5_keeps bX5_keeps 2 (Option.some Jvm.ClassFile.FieldType.int) 1 := ⟨gmk (sm_2 (List.mem_of_getElem? (i := 104) rfl)) rfl, gmk (sm_1 (List.mem_of_getElem? (i := 2) (by decide +kernel))) rfl, by decide +kernel, by decide +kernel, by decide +kernel⟩
theorem in_X5_keeps : Cond.instanceMethod yX5_keeps ∈ gT := gmk (sm_2 (List.mem_of_getElem? (i := 102) (by decide +kernel))) rfl
theorem se_X5_keeps : Cond.selects yX5_keeps.cls yX5_keeps yX5_keeps ∈ gT := gmk (sm_2 (List.mem_of_getElem? (i := 103) (by decide +kernel))) rfl
def yX5_staysAway : MethodName := ⟨zR5, "staysAway", "(I)Z"⟩
abbrev bX5_staysAway : ByteArray := prog_7_method_10_code
theorem mf_X5_staysAway : MF yX5_staysAway bX5_staysAway 2 (Option.some Jvm.ClassFile.FieldType.boolean) 1 := ⟨gmk (sm_2 (List.mem_of_getElem? (i := 108) rfl)) rfl, gmk (sm_1 (List.mem_of_getElem? (i := 2) (by decide +kernel))) rfl, by decide +kernel, by decide +kernel, by decide +kernel⟩
theorem in_X5_staysAway : Cond.instanceMethod yX5_staysAway ∈ gT := gmk (sm_2 (List.mem_of_getElem? (i := 106) (by decide +kernel))) rfl
theorem se_X5_staysAway : Cond.selects yX5_staysAway.cls yX5_staysAway yX5_staysAway ∈ gT := gmk (sm_2 (List.mem_of_getElem? (i := 107) (by decide +kernel))) rfl
def yX5_bringsBack : MethodName := ⟨zR5, "bringsBack", "(I)I"⟩
abbrev bX5_bringsBack : ByteArray := prog_7_method_11_code
theorem mf_X5_bringsBack : MF yX5_bringsBack bX5_bringsBack 2 (Option.some Jvm.ClassFile.FieldType.int) 1 := ⟨gmk (sm_2 (List.mem_of_getElem? (i := 112) rfl)) rfl, gmk (sm_1 (List.mem_of_getElem? (i := 2) (by decide +kernel))) rfl, by decide +kernel, by decide +kernel, by decide +kernel⟩
theorem in_X5_bringsBack : Cond.instanceMethod yX5_bringsBack ∈ gT := gmk (sm_2 (List.mem_of_getElem? (i := 110) (by decide +kernel))) rfl
theorem se_X5_bringsBack : Cond.selects yX5_bringsBack.cls yX5_bringsBack yX5_bringsBack ∈ gT := gmk (sm_2 (List.mem_of_getElem? (i := 111) (by decide +kernel))) rfl
def yX5_goDay : MethodName := ⟨zR5, "goDay", "(LWellLendsDepth$Country;II)V"⟩
abbrev bX5_goDay : ByteArray := prog_7_method_12_code
theorem mf_X5_goDay : MF yX5_goDay bX5_goDay 6 (Option.none : Option Jvm.ClassFile.FieldType) 3 := ⟨gmk (sm_3 (List.mem_of_getElem? (i := 45) rfl)) rfl, gmk (sm_1 (List.mem_of_getElem? (i := 2) (by decide +kernel))) rfl, by decide +kernel, by decide +kernel, by decide +kernel⟩
theorem in_X5_goDay : Cond.instanceMethod yX5_goDay ∈ gT := gmk (sm_3 (List.mem_of_getElem? (i := 43) (by decide +kernel))) rfl
theorem se_X5_goDay : Cond.selects yX5_goDay.cls yX5_goDay yX5_goDay ∈ gT := gmk (sm_3 (List.mem_of_getElem? (i := 44) (by decide +kernel))) rfl
def yX5_keepOn : MethodName := ⟨zR5, "keepOn", "(ILWellLendsDepth$Country;)V"⟩
abbrev bX5_keepOn : ByteArray := prog_7_method_13_code
theorem mf_X5_keepOn : MF yX5_keepOn bX5_keepOn 3 (Option.none : Option Jvm.ClassFile.FieldType) 2 := ⟨gmk (sm_3 (List.mem_of_getElem? (i := 49) rfl)) rfl, gmk (sm_1 (List.mem_of_getElem? (i := 2) (by decide +kernel))) rfl, by decide +kernel, by decide +kernel, by decide +kernel⟩
theorem in_X5_keepOn : Cond.instanceMethod yX5_keepOn ∈ gT := gmk (sm_3 (List.mem_of_getElem? (i := 48) (by decide +kernel))) rfl
theorem se_X5_keepOn : Cond.selects yX5_keepOn.cls yX5_keepOn yX5_keepOn ∈ gT := gm 11 (by decide +kernel) rfl
def yX5_comeAsking : MethodName := ⟨zR5, "comeAsking", "(III)V"⟩
abbrev bX5_comeAsking : ByteArray := prog_7_method_14_code
theorem mf_X5_comeAsking : MF yX5_comeAsking bX5_comeAsking 5 (Option.none : Option Jvm.ClassFile.FieldType) 3 := ⟨gmk (sm_3 (List.mem_of_getElem? (i := 58) rfl)) rfl, gmk (sm_1 (List.mem_of_getElem? (i := 2) (by decide +kernel))) rfl, by decide +kernel, by decide +kernel, by decide +kernel⟩
theorem in_X5_comeAsking : Cond.instanceMethod yX5_comeAsking ∈ gT := gmk (sm_3 (List.mem_of_getElem? (i := 57) (by decide +kernel))) rfl
theorem se_X5_comeAsking : Cond.selects yX5_comeAsking.cls yX5_comeAsking yX5_comeAsking ∈ gT := gm 12 (by decide +kernel) rfl
def yX6_init : MethodName := ⟨zR6, "<init>", "()V"⟩
abbrev bX6_init : ByteArray := prog_1_method_1_code
theorem mf_X6_init : MF yX6_init bX6_init 2 (Option.none : Option Jvm.ClassFile.FieldType) 0 := ⟨gmk (sm_1 (List.mem_of_getElem? (i := 19) rfl)) rfl, gmk (sm_1 (List.mem_of_getElem? (i := 1) (by decide +kernel))) rfl, by decide +kernel, by decide +kernel, by decide +kernel⟩
theorem in_X6_init : Cond.instanceMethod yX6_init ∈ gT := gmk (sm_1 (List.mem_of_getElem? (i := 18) (by decide +kernel))) rfl
def yX6_borrower : MethodName := ⟨zR6, "borrower", "(IIII)I"⟩
abbrev bX6_borrower : ByteArray := prog_1_method_2_code
theorem mf_X6_borrower : MF yX6_borrower bX6_borrower 5 (Option.some Jvm.ClassFile.FieldType.int) 4 := ⟨gmk (sm_2 (List.mem_of_getElem? (i := 59) rfl)) rfl, gmk (sm_1 (List.mem_of_getElem? (i := 1) (by decide +kernel))) rfl, by decide +kernel, by decide +kernel, by decide +kernel⟩
theorem in_X6_borrower : Cond.instanceMethod yX6_borrower ∈ gT := gmk (sm_2 (List.mem_of_getElem? (i := 57) (by decide +kernel))) rfl
theorem se_X6_borrower : Cond.selects yX6_borrower.cls yX6_borrower yX6_borrower ∈ gT := gmk (sm_2 (List.mem_of_getElem? (i := 58) (by decide +kernel))) rfl
def yX6_of : MethodName := ⟨zR6, "of", "(II)I"⟩
abbrev bX6_of : ByteArray := prog_1_method_3_code
theorem mf_X6_of : MF yX6_of bX6_of 3 (Option.some Jvm.ClassFile.FieldType.int) 2 := ⟨gmk (sm_2 (List.mem_of_getElem? (i := 70) rfl)) rfl, gmk (sm_1 (List.mem_of_getElem? (i := 1) (by decide +kernel))) rfl, by decide +kernel, by decide +kernel, by decide +kernel⟩
theorem in_X6_of : Cond.instanceMethod yX6_of ∈ gT := gmk (sm_2 (List.mem_of_getElem? (i := 68) (by decide +kernel))) rfl
theorem se_X6_of : Cond.selects yX6_of.cls yX6_of yX6_of ∈ gT := gmk (sm_2 (List.mem_of_getElem? (i := 69) (by decide +kernel))) rfl
def yX6_set : MethodName := ⟨zR6, "set", "(III)I"⟩
abbrev bX6_set : ByteArray := prog_1_method_4_code
theorem mf_X6_set : MF yX6_set bX6_set 5 (Option.some Jvm.ClassFile.FieldType.int) 3 := ⟨gmk (sm_2 (List.mem_of_getElem? (i := 116) rfl)) rfl, gmk (sm_1 (List.mem_of_getElem? (i := 1) (by decide +kernel))) rfl, by decide +kernel, by decide +kernel, by decide +kernel⟩
theorem in_X6_set : Cond.instanceMethod yX6_set ∈ gT := gmk (sm_2 (List.mem_of_getElem? (i := 114) (by decide +kernel))) rfl
theorem se_X6_set : Cond.selects yX6_set.cls yX6_set yX6_set ∈ gT := gmk (sm_2 (List.mem_of_getElem? (i := 115) (by decide +kernel))) rfl
def yX6_row : MethodName := ⟨zR6, "row", "(III)I"⟩
abbrev bX6_row : ByteArray := prog_1_method_5_code
theorem mf_X6_row : MF yX6_row bX6_row 5 (Option.some Jvm.ClassFile.FieldType.int) 3 := ⟨gmk (sm_2 (List.mem_of_getElem? (i := 120) rfl)) rfl, gmk (sm_1 (List.mem_of_getElem? (i := 1) (by decide +kernel))) rfl, by decide +kernel, by decide +kernel, by decide +kernel⟩
theorem in_X6_row : Cond.instanceMethod yX6_row ∈ gT := gmk (sm_2 (List.mem_of_getElem? (i := 118) (by decide +kernel))) rfl
theorem se_X6_row : Cond.selects yX6_row.cls yX6_row yX6_row ∈ gT := gmk (sm_2 (List.mem_of_getElem? (i := 119) (by decide +kernel))) rfl
def yX6_depth : MethodName := ⟨zR6, "depth", "(I)I"⟩
abbrev bX6_depth : ByteArray := prog_1_method_6_code
theorem mf_X6_depth : MF yX6_depth bX6_depth 3 (Option.some Jvm.ClassFile.FieldType.int) 1 := ⟨gmk (sm_2 (List.mem_of_getElem? (i := 124) rfl)) rfl, gmk (sm_1 (List.mem_of_getElem? (i := 1) (by decide +kernel))) rfl, by decide +kernel, by decide +kernel, by decide +kernel⟩
theorem in_X6_depth : Cond.instanceMethod yX6_depth ∈ gT := gmk (sm_2 (List.mem_of_getElem? (i := 122) (by decide +kernel))) rfl
theorem se_X6_depth : Cond.selects yX6_depth.cls yX6_depth yX6_depth ∈ gT := gmk (sm_2 (List.mem_of_getElem? (i := 123) (by decide +kernel))) rfl
def yX6_change : MethodName := ⟨zR6, "change", "(II)I"⟩
abbrev bX6_change : ByteArray := prog_1_method_7_code
theorem mf_X6_change : MF yX6_change bX6_change 4 (Option.some Jvm.ClassFile.FieldType.int) 2 := ⟨gmk (sm_2 (List.mem_of_getElem? (i := 128) rfl)) rfl, gmk (sm_1 (List.mem_of_getElem? (i := 1) (by decide +kernel))) rfl, by decide +kernel, by decide +kernel, by decide +kernel⟩
theorem in_X6_change : Cond.instanceMethod yX6_change ∈ gT := gmk (sm_2 (List.mem_of_getElem? (i := 126) (by decide +kernel))) rfl
theorem se_X6_change : Cond.selects yX6_change.cls yX6_change yX6_change ∈ gT := gmk (sm_2 (List.mem_of_getElem? (i := 127) (by decide +kernel))) rfl
def yX6_call : MethodName := ⟨zR6, "call", "(I)I"⟩
abbrev bX6_call : ByteArray := prog_1_method_8_code
theorem mf_X6_call : MF yX6_call bX6_call 3 (Option.some Jvm.ClassFile.FieldType.int) 1 := ⟨gmk (sm_2 (List.mem_of_getElem? (i := 136) rfl)) rfl, gmk (sm_1 (List.mem_of_getElem? (i := 1) (by decide +kernel))) rfl, by decide +kernel, by decide +kernel, by decide +kernel⟩
theorem in_X6_call : Cond.instanceMethod yX6_call ∈ gT := gmk (sm_2 (List.mem_of_getElem? (i := 134) (by decide +kernel))) rfl
theorem se_X6_call : Cond.selects yX6_call.cls yX6_call yX6_call ∈ gT := gmk (sm_2 (List.mem_of_getElem? (i := 135) (by decide +kernel))) rfl
def yX6_feed : MethodName := ⟨zR6, "feed", "(I)I"⟩
abbrev bX6_feed : ByteArray := prog_1_method_9_code
theorem mf_X6_feed : MF yX6_feed bX6_feed 2 (Option.some Jvm.ClassFile.FieldType.int) 1 := ⟨gmk (sm_2 (List.mem_of_getElem? (i := 148) rfl)) rfl, gmk (sm_1 (List.mem_of_getElem? (i := 1) (by decide +kernel))) rfl, by decide +kernel, by decide +kernel, by decide +kernel⟩
theorem in_X6_feed : Cond.instanceMethod yX6_feed ∈ gT := gmk (sm_2 (List.mem_of_getElem? (i := 146) (by decide +kernel))) rfl
theorem se_X6_feed : Cond.selects yX6_feed.cls yX6_feed yX6_feed ∈ gT := gmk (sm_2 (List.mem_of_getElem? (i := 147) (by decide +kernel))) rfl
def yX6_country : MethodName := ⟨zR6, "country", "()I"⟩
abbrev bX6_country : ByteArray := prog_1_method_10_code
theorem mf_X6_country : MF yX6_country bX6_country 2 (Option.some Jvm.ClassFile.FieldType.int) 0 := ⟨gmk (sm_2 (List.mem_of_getElem? (i := 156) rfl)) rfl, gmk (sm_1 (List.mem_of_getElem? (i := 1) (by decide +kernel))) rfl, by decide +kernel, by decide +kernel, by decide +kernel⟩
theorem in_X6_country : Cond.instanceMethod yX6_country ∈ gT := gmk (sm_2 (List.mem_of_getElem? (i := 154) (by decide +kernel))) rfl
theorem se_X6_country : Cond.selects yX6_country.cls yX6_country yX6_country ∈ gT := gmk (sm_2 (List.mem_of_getElem? (i := 155) (by decide +kernel))) rfl
def yX6_told : MethodName := ⟨zR6, "told", "(I)I"⟩
abbrev bX6_told : ByteArray := prog_1_method_11_code
theorem mf_X6_told : MF yX6_told bX6_told 2 (Option.some Jvm.ClassFile.FieldType.int) 1 := ⟨gmk (sm_3 (List.mem_of_getElem? (i := 30) rfl)) rfl, gmk (sm_1 (List.mem_of_getElem? (i := 1) (by decide +kernel))) rfl, by decide +kernel, by decide +kernel, by decide +kernel⟩
theorem in_X6_told : Cond.instanceMethod yX6_told ∈ gT := gmk (sm_3 (List.mem_of_getElem? (i := 28) (by decide +kernel))) rfl
theorem se_X6_told : Cond.selects yX6_told.cls yX6_told yX6_told ∈ gT := gmk (sm_3 (List.mem_of_getElem? (i := 29) (by decide +kernel))) rfl
def yX6_pass : MethodName := ⟨zR6, "pass", "(I)I"⟩
abbrev bX6_pass : ByteArray := prog_1_method_12_code
theorem mf_X6_pass : MF yX6_pass bX6_pass 4 (Option.some Jvm.ClassFile.FieldType.int) 1 := ⟨gmk (sm_3 (List.mem_of_getElem? (i := 38) rfl)) rfl, gmk (sm_1 (List.mem_of_getElem? (i := 1) (by decide +kernel))) rfl, by decide +kernel, by decide +kernel, by decide +kernel⟩
theorem in_X6_pass : Cond.instanceMethod yX6_pass ∈ gT := gmk (sm_3 (List.mem_of_getElem? (i := 36) (by decide +kernel))) rfl
theorem se_X6_pass : Cond.selects yX6_pass.cls yX6_pass yX6_pass ∈ gT := gmk (sm_3 (List.mem_of_getElem? (i := 37) (by decide +kernel))) rfl
def yX6_on : MethodName := ⟨zR6, "on", "(II)I"⟩
abbrev bX6_on : ByteArray := prog_1_method_13_code
theorem mf_X6_on : MF yX6_on bX6_on 4 (Option.some Jvm.ClassFile.FieldType.int) 2 := ⟨gmk (sm_3 (List.mem_of_getElem? (i := 63) rfl)) rfl, gmk (sm_1 (List.mem_of_getElem? (i := 1) (by decide +kernel))) rfl, by decide +kernel, by decide +kernel, by decide +kernel⟩
theorem in_X6_on : Cond.instanceMethod yX6_on ∈ gT := gmk (sm_3 (List.mem_of_getElem? (i := 61) (by decide +kernel))) rfl
theorem se_X6_on : Cond.selects yX6_on.cls yX6_on yX6_on ∈ gT := gmk (sm_3 (List.mem_of_getElem? (i := 62) (by decide +kernel))) rfl
def yX6_lowest : MethodName := ⟨zR6, "lowest", "(II)I"⟩
abbrev bX6_lowest : ByteArray := prog_1_method_14_code
theorem mf_X6_lowest : MF yX6_lowest bX6_lowest 6 (Option.some Jvm.ClassFile.FieldType.int) 2 := ⟨gmk (sm_3 (List.mem_of_getElem? (i := 82) rfl)) rfl, gmk (sm_1 (List.mem_of_getElem? (i := 1) (by decide +kernel))) rfl, by decide +kernel, by decide +kernel, by decide +kernel⟩
theorem in_X6_lowest : Cond.instanceMethod yX6_lowest ∈ gT := gmk (sm_3 (List.mem_of_getElem? (i := 80) (by decide +kernel))) rfl
theorem se_X6_lowest : Cond.selects yX6_lowest.cls yX6_lowest yX6_lowest ∈ gT := gmk (sm_3 (List.mem_of_getElem? (i := 81) (by decide +kernel))) rfl
def yX6_first : MethodName := ⟨zR6, "first", "()I"⟩
abbrev bX6_first : ByteArray := prog_1_method_15_code
theorem mf_X6_first : MF yX6_first bX6_first 2 (Option.some Jvm.ClassFile.FieldType.int) 0 := ⟨gmk (sm_3 (List.mem_of_getElem? (i := 86) rfl)) rfl, gmk (sm_1 (List.mem_of_getElem? (i := 1) (by decide +kernel))) rfl, by decide +kernel, by decide +kernel, by decide +kernel⟩
theorem in_X6_first : Cond.instanceMethod yX6_first ∈ gT := gmk (sm_3 (List.mem_of_getElem? (i := 84) (by decide +kernel))) rfl
theorem se_X6_first : Cond.selects yX6_first.cls yX6_first yX6_first ∈ gT := gmk (sm_3 (List.mem_of_getElem? (i := 85) (by decide +kernel))) rfl
def yX6_best : MethodName := ⟨zR6, "best", "(I)I"⟩
abbrev bX6_best : ByteArray := prog_1_method_16_code
theorem mf_X6_best : MF yX6_best bX6_best 2 (Option.some Jvm.ClassFile.FieldType.int) 1 := ⟨gmk (sm_3 (List.mem_of_getElem? (i := 90) rfl)) rfl, gmk (sm_1 (List.mem_of_getElem? (i := 1) (by decide +kernel))) rfl, by decide +kernel, by decide +kernel, by decide +kernel⟩
theorem in_X6_best : Cond.instanceMethod yX6_best ∈ gT := gmk (sm_3 (List.mem_of_getElem? (i := 88) (by decide +kernel))) rfl
theorem se_X6_best : Cond.selects yX6_best.cls yX6_best yX6_best ∈ gT := gmk (sm_3 (List.mem_of_getElem? (i := 89) (by decide +kernel))) rfl
def yX6_seldom : MethodName := ⟨zR6, "seldom", "(I)I"⟩
abbrev bX6_seldom : ByteArray := prog_1_method_17_code
theorem mf_X6_seldom : MF yX6_seldom bX6_seldom 6 (Option.some Jvm.ClassFile.FieldType.int) 1 := ⟨gmk (sm_3 (List.mem_of_getElem? (i := 114) rfl)) rfl, gmk (sm_1 (List.mem_of_getElem? (i := 1) (by decide +kernel))) rfl, by decide +kernel, by decide +kernel, by decide +kernel⟩
theorem in_X6_seldom : Cond.instanceMethod yX6_seldom ∈ gT := gmk (sm_3 (List.mem_of_getElem? (i := 112) (by decide +kernel))) rfl
theorem se_X6_seldom : Cond.selects yX6_seldom.cls yX6_seldom yX6_seldom ∈ gT := gmk (sm_3 (List.mem_of_getElem? (i := 113) (by decide +kernel))) rfl
def yX6_more : MethodName := ⟨zR6, "more", "(I)I"⟩
abbrev bX6_more : ByteArray := prog_1_method_18_code
theorem mf_X6_more : MF yX6_more bX6_more 3 (Option.some Jvm.ClassFile.FieldType.int) 1 := ⟨gmk (sm_3 (List.mem_of_getElem? (i := 118) rfl)) rfl, gmk (sm_1 (List.mem_of_getElem? (i := 1) (by decide +kernel))) rfl, by decide +kernel, by decide +kernel, by decide +kernel⟩
theorem in_X6_more : Cond.instanceMethod yX6_more ∈ gT := gmk (sm_3 (List.mem_of_getElem? (i := 116) (by decide +kernel))) rfl
theorem se_X6_more : Cond.selects yX6_more.cls yX6_more yX6_more ∈ gT := gmk (sm_3 (List.mem_of_getElem? (i := 117) (by decide +kernel))) rfl
def yX6_see : MethodName := ⟨zR6, "see", "(II)I"⟩
abbrev bX6_see : ByteArray := prog_1_method_19_code
theorem mf_X6_see : MF yX6_see bX6_see 3 (Option.some Jvm.ClassFile.FieldType.int) 2 := ⟨gmk (sm_3 (List.mem_of_getElem? (i := 127) rfl)) rfl, gmk (sm_1 (List.mem_of_getElem? (i := 1) (by decide +kernel))) rfl, by decide +kernel, by decide +kernel, by decide +kernel⟩
theorem in_X6_see : Cond.instanceMethod yX6_see ∈ gT := gmk (sm_3 (List.mem_of_getElem? (i := 125) (by decide +kernel))) rfl
theorem se_X6_see : Cond.selects yX6_see.cls yX6_see yX6_see ∈ gT := gmk (sm_3 (List.mem_of_getElem? (i := 126) (by decide +kernel))) rfl
def yX6_wanted : MethodName := ⟨zR6, "wanted", "(II)I"⟩
abbrev bX6_wanted : ByteArray := prog_1_method_20_code
theorem mf_X6_wanted : MF yX6_wanted bX6_wanted 6 (Option.some Jvm.ClassFile.FieldType.int) 2 := ⟨gmk (sm_3 (List.mem_of_getElem? (i := 135) rfl)) rfl, gmk (sm_1 (List.mem_of_getElem? (i := 1) (by decide +kernel))) rfl, by decide +kernel, by decide +kernel, by decide +kernel⟩
theorem in_X6_wanted : Cond.instanceMethod yX6_wanted ∈ gT := gmk (sm_3 (List.mem_of_getElem? (i := 133) (by decide +kernel))) rfl
theorem se_X6_wanted : Cond.selects yX6_wanted.cls yX6_wanted yX6_wanted ∈ gT := gmk (sm_3 (List.mem_of_getElem? (i := 134) (by decide +kernel))) rfl
def yX6_can : MethodName := ⟨zR6, "can", "(II)I"⟩
abbrev bX6_can : ByteArray := prog_1_method_21_code
theorem mf_X6_can : MF yX6_can bX6_can 6 (Option.some Jvm.ClassFile.FieldType.int) 2 := ⟨gmk (sm_3 (List.mem_of_getElem? (i := 152) rfl)) rfl, gmk (sm_1 (List.mem_of_getElem? (i := 1) (by decide +kernel))) rfl, by decide +kernel, by decide +kernel, by decide +kernel⟩
theorem in_X6_can : Cond.instanceMethod yX6_can ∈ gT := gmk (sm_3 (List.mem_of_getElem? (i := 150) (by decide +kernel))) rfl
theorem se_X6_can : Cond.selects yX6_can.cls yX6_can yX6_can ∈ gT := gmk (sm_3 (List.mem_of_getElem? (i := 151) (by decide +kernel))) rfl
def yX6_odds : MethodName := ⟨zR6, "odds", "(II)J"⟩
abbrev bX6_odds : ByteArray := prog_1_method_22_code
theorem mf_X6_odds : MF yX6_odds bX6_odds 5 (Option.some Jvm.ClassFile.FieldType.long) 2 := ⟨gmk (sm_3 (List.mem_of_getElem? (i := 156) rfl)) rfl, gmk (sm_1 (List.mem_of_getElem? (i := 1) (by decide +kernel))) rfl, by decide +kernel, by decide +kernel, by decide +kernel⟩
theorem in_X6_odds : Cond.instanceMethod yX6_odds ∈ gT := gmk (sm_3 (List.mem_of_getElem? (i := 154) (by decide +kernel))) rfl
theorem se_X6_odds : Cond.selects yX6_odds.cls yX6_odds yX6_odds ∈ gT := gmk (sm_3 (List.mem_of_getElem? (i := 155) (by decide +kernel))) rfl
def yX6_mean : MethodName := ⟨zR6, "mean", "(II)J"⟩
abbrev bX6_mean : ByteArray := prog_1_method_23_code
theorem mf_X6_mean : MF yX6_mean bX6_mean 3 (Option.some Jvm.ClassFile.FieldType.long) 2 := ⟨gmk (sm_3 (List.mem_of_getElem? (i := 167) rfl)) rfl, gmk (sm_1 (List.mem_of_getElem? (i := 1) (by decide +kernel))) rfl, by decide +kernel, by decide +kernel, by decide +kernel⟩
theorem in_X6_mean : Cond.instanceMethod yX6_mean ∈ gT := gmk (sm_3 (List.mem_of_getElem? (i := 165) (by decide +kernel))) rfl
theorem se_X6_mean : Cond.selects yX6_mean.cls yX6_mean yX6_mean ∈ gT := gmk (sm_3 (List.mem_of_getElem? (i := 166) (by decide +kernel))) rfl
def yX6_year : MethodName := ⟨zR6, "year", "(II)I"⟩
abbrev bX6_year : ByteArray := prog_1_method_24_code
theorem mf_X6_year : MF yX6_year bX6_year 3 (Option.some Jvm.ClassFile.FieldType.int) 2 := ⟨gmk (sm_3 (List.mem_of_getElem? (i := 171) rfl)) rfl, gmk (sm_1 (List.mem_of_getElem? (i := 1) (by decide +kernel))) rfl, by decide +kernel, by decide +kernel, by decide +kernel⟩
theorem in_X6_year : Cond.instanceMethod yX6_year ∈ gT := gmk (sm_3 (List.mem_of_getElem? (i := 169) (by decide +kernel))) rfl
theorem se_X6_year : Cond.selects yX6_year.cls yX6_year yX6_year ∈ gT := gmk (sm_3 (List.mem_of_getElem? (i := 170) (by decide +kernel))) rfl
def yX6_gone : MethodName := ⟨zR6, "gone", "(I)I"⟩
abbrev bX6_gone : ByteArray := prog_1_method_25_code
theorem mf_X6_gone : MF yX6_gone bX6_gone 3 (Option.some Jvm.ClassFile.FieldType.int) 1 := ⟨gmk (sm_3 (List.mem_of_getElem? (i := 179) rfl)) rfl, gmk (sm_1 (List.mem_of_getElem? (i := 1) (by decide +kernel))) rfl, by decide +kernel, by decide +kernel, by decide +kernel⟩
theorem in_X6_gone : Cond.instanceMethod yX6_gone ∈ gT := gmk (sm_3 (List.mem_of_getElem? (i := 177) (by decide +kernel))) rfl
theorem se_X6_gone : Cond.selects yX6_gone.cls yX6_gone yX6_gone ∈ gT := gmk (sm_3 (List.mem_of_getElem? (i := 178) (by decide +kernel))) rfl
def yX6_book : MethodName := ⟨zR6, "book", "(II)I"⟩
abbrev bX6_book : ByteArray := prog_1_method_26_code
theorem mf_X6_book : MF yX6_book bX6_book 3 (Option.some Jvm.ClassFile.FieldType.int) 2 := ⟨gmk (sm_3 (List.mem_of_getElem? (i := 187) rfl)) rfl, gmk (sm_1 (List.mem_of_getElem? (i := 1) (by decide +kernel))) rfl, by decide +kernel, by decide +kernel, by decide +kernel⟩
theorem in_X6_book : Cond.instanceMethod yX6_book ∈ gT := gmk (sm_3 (List.mem_of_getElem? (i := 185) (by decide +kernel))) rfl
theorem se_X6_book : Cond.selects yX6_book.cls yX6_book yX6_book ∈ gT := gmk (sm_3 (List.mem_of_getElem? (i := 186) (by decide +kernel))) rfl
def yX6_looked : MethodName := ⟨zR6, "looked", "()I"⟩
abbrev bX6_looked : ByteArray := prog_1_method_27_code
theorem mf_X6_looked : MF yX6_looked bX6_looked 3 (Option.some Jvm.ClassFile.FieldType.int) 0 := ⟨gmk (sm_3 (List.mem_of_getElem? (i := 196) rfl)) rfl, gmk (sm_1 (List.mem_of_getElem? (i := 1) (by decide +kernel))) rfl, by decide +kernel, by decide +kernel, by decide +kernel⟩
theorem in_X6_looked : Cond.instanceMethod yX6_looked ∈ gT := gmk (sm_3 (List.mem_of_getElem? (i := 194) (by decide +kernel))) rfl
theorem se_X6_looked : Cond.selects yX6_looked.cls yX6_looked yX6_looked ∈ gT := gmk (sm_3 (List.mem_of_getElem? (i := 195) (by decide +kernel))) rfl
def yX6_judge : MethodName := ⟨zR6, "judge", "(II)I"⟩
abbrev bX6_judge : ByteArray := prog_1_method_28_code
theorem mf_X6_judge : MF yX6_judge bX6_judge 4 (Option.some Jvm.ClassFile.FieldType.int) 2 := ⟨gmk (sm_3 (List.mem_of_getElem? (i := 200) rfl)) rfl, gmk (sm_1 (List.mem_of_getElem? (i := 1) (by decide +kernel))) rfl, by decide +kernel, by decide +kernel, by decide +kernel⟩
theorem in_X6_judge : Cond.instanceMethod yX6_judge ∈ gT := gmk (sm_3 (List.mem_of_getElem? (i := 198) (by decide +kernel))) rfl
theorem se_X6_judge : Cond.selects yX6_judge.cls yX6_judge yX6_judge ∈ gT := gmk (sm_3 (List.mem_of_getElem? (i := 199) (by decide +kernel))) rfl
def yX6_image : MethodName := ⟨zR6, "image", "()I"⟩
abbrev bX6_image : ByteArray := prog_1_method_29_code
theorem mf_X6_image : MF yX6_image bX6_image 1 (Option.some Jvm.ClassFile.FieldType.int) 0 := ⟨gmk (sm_3 (List.mem_of_getElem? (i := 217) rfl)) rfl, gmk (sm_1 (List.mem_of_getElem? (i := 1) (by decide +kernel))) rfl, by decide +kernel, by decide +kernel, by decide +kernel⟩
theorem in_X6_image : Cond.instanceMethod yX6_image ∈ gT := gmk (sm_3 (List.mem_of_getElem? (i := 215) (by decide +kernel))) rfl
theorem se_X6_image : Cond.selects yX6_image.cls yX6_image yX6_image ∈ gT := gmk (sm_3 (List.mem_of_getElem? (i := 216) (by decide +kernel))) rfl
def yX6_undo : MethodName := ⟨zR6, "undo", "()I"⟩
abbrev bX6_undo : ByteArray := prog_1_method_30_code
theorem mf_X6_undo : MF yX6_undo bX6_undo 1 (Option.some Jvm.ClassFile.FieldType.int) 0 := ⟨gmk (sm_3 (List.mem_of_getElem? (i := 226) rfl)) rfl, gmk (sm_1 (List.mem_of_getElem? (i := 1) (by decide +kernel))) rfl, by decide +kernel, by decide +kernel, by decide +kernel⟩
theorem in_X6_undo : Cond.instanceMethod yX6_undo ∈ gT := gmk (sm_3 (List.mem_of_getElem? (i := 224) (by decide +kernel))) rfl
theorem se_X6_undo : Cond.selects yX6_undo.cls yX6_undo yX6_undo ∈ gT := gmk (sm_3 (List.mem_of_getElem? (i := 225) (by decide +kernel))) rfl
def yX6_act : MethodName := ⟨zR6, "act", "(III)I"⟩
abbrev bX6_act : ByteArray := prog_1_method_31_code
theorem mf_X6_act : MF yX6_act bX6_act 4 (Option.some Jvm.ClassFile.FieldType.int) 3 := ⟨gmk (sm_3 (List.mem_of_getElem? (i := 230) rfl)) rfl, gmk (sm_1 (List.mem_of_getElem? (i := 1) (by decide +kernel))) rfl, by decide +kernel, by decide +kernel, by decide +kernel⟩
theorem in_X6_act : Cond.instanceMethod yX6_act ∈ gT := gmk (sm_3 (List.mem_of_getElem? (i := 228) (by decide +kernel))) rfl
theorem se_X6_act : Cond.selects yX6_act.cls yX6_act yX6_act ∈ gT := gmk (sm_3 (List.mem_of_getElem? (i := 229) (by decide +kernel))) rfl
def yX6_trace : MethodName := ⟨zR6, "trace", "(I)I"⟩
abbrev bX6_trace : ByteArray := prog_1_method_32_code
theorem mf_X6_trace : MF yX6_trace bX6_trace 2 (Option.some Jvm.ClassFile.FieldType.int) 1 := ⟨gmk (sm_4 (List.mem_of_getElem? (i := 14) rfl)) rfl, gmk (sm_1 (List.mem_of_getElem? (i := 1) (by decide +kernel))) rfl, by decide +kernel, by decide +kernel, by decide +kernel⟩
theorem in_X6_trace : Cond.instanceMethod yX6_trace ∈ gT := gmk (sm_4 (List.mem_of_getElem? (i := 12) (by decide +kernel))) rfl
theorem se_X6_trace : Cond.selects yX6_trace.cls yX6_trace yX6_trace ∈ gT := gmk (sm_4 (List.mem_of_getElem? (i := 13) (by decide +kernel))) rfl
def yX6_taken : MethodName := ⟨zR6, "taken", "(II)I"⟩
abbrev bX6_taken : ByteArray := prog_1_method_33_code
theorem mf_X6_taken : MF yX6_taken bX6_taken 4 (Option.some Jvm.ClassFile.FieldType.int) 2 := ⟨gmk (sm_4 (List.mem_of_getElem? (i := 22) rfl)) rfl, gmk (sm_1 (List.mem_of_getElem? (i := 1) (by decide +kernel))) rfl, by decide +kernel, by decide +kernel, by decide +kernel⟩
theorem in_X6_taken : Cond.instanceMethod yX6_taken ∈ gT := gmk (sm_4 (List.mem_of_getElem? (i := 20) (by decide +kernel))) rfl
theorem se_X6_taken : Cond.selects yX6_taken.cls yX6_taken yX6_taken ∈ gT := gmk (sm_4 (List.mem_of_getElem? (i := 21) (by decide +kernel))) rfl
def yX6_count : MethodName := ⟨zR6, "count", "(I)I"⟩
abbrev bX6_count : ByteArray := prog_1_method_34_code
theorem mf_X6_count : MF yX6_count bX6_count 2 (Option.some Jvm.ClassFile.FieldType.int) 1 := ⟨gmk (sm_4 (List.mem_of_getElem? (i := 30) rfl)) rfl, gmk (sm_1 (List.mem_of_getElem? (i := 1) (by decide +kernel))) rfl, by decide +kernel, by decide +kernel, by decide +kernel⟩
theorem in_X6_count : Cond.instanceMethod yX6_count ∈ gT := gmk (sm_4 (List.mem_of_getElem? (i := 28) (by decide +kernel))) rfl
theorem se_X6_count : Cond.selects yX6_count.cls yX6_count yX6_count ∈ gT := gmk (sm_4 (List.mem_of_getElem? (i := 29) (by decide +kernel))) rfl
def yX6_tape : MethodName := ⟨zR6, "tape", "(III)I"⟩
abbrev bX6_tape : ByteArray := prog_1_method_35_code
theorem mf_X6_tape : MF yX6_tape bX6_tape 4 (Option.some Jvm.ClassFile.FieldType.int) 3 := ⟨gmk (sm_4 (List.mem_of_getElem? (i := 34) rfl)) rfl, gmk (sm_1 (List.mem_of_getElem? (i := 1) (by decide +kernel))) rfl, by decide +kernel, by decide +kernel, by decide +kernel⟩
theorem in_X6_tape : Cond.instanceMethod yX6_tape ∈ gT := gmk (sm_4 (List.mem_of_getElem? (i := 32) (by decide +kernel))) rfl
theorem se_X6_tape : Cond.selects yX6_tape.cls yX6_tape yX6_tape ∈ gT := gmk (sm_4 (List.mem_of_getElem? (i := 33) (by decide +kernel))) rfl
def yX6_item : MethodName := ⟨zR6, "item", "(IIJ)I"⟩
abbrev bX6_item : ByteArray := prog_1_method_36_code
theorem mf_X6_item : MF yX6_item bX6_item 5 (Option.some Jvm.ClassFile.FieldType.int) 3 := ⟨gmk (sm_4 (List.mem_of_getElem? (i := 42) rfl)) rfl, gmk (sm_1 (List.mem_of_getElem? (i := 1) (by decide +kernel))) rfl, by decide +kernel, by decide +kernel, by decide +kernel⟩
theorem in_X6_item : Cond.instanceMethod yX6_item ∈ gT := gmk (sm_4 (List.mem_of_getElem? (i := 40) (by decide +kernel))) rfl
theorem se_X6_item : Cond.selects yX6_item.cls yX6_item yX6_item ∈ gT := gmk (sm_4 (List.mem_of_getElem? (i := 41) (by decide +kernel))) rfl
def yX6_read : MethodName := ⟨zR6, "read", "(II)J"⟩
abbrev bX6_read : ByteArray := prog_1_method_37_code
theorem mf_X6_read : MF yX6_read bX6_read 3 (Option.some Jvm.ClassFile.FieldType.long) 2 := ⟨gmk (sm_4 (List.mem_of_getElem? (i := 49) rfl)) rfl, gmk (sm_1 (List.mem_of_getElem? (i := 1) (by decide +kernel))) rfl, by decide +kernel, by decide +kernel, by decide +kernel⟩
theorem in_X6_read : Cond.instanceMethod yX6_read ∈ gT := gmk (sm_4 (List.mem_of_getElem? (i := 47) (by decide +kernel))) rfl
theorem se_X6_read : Cond.selects yX6_read.cls yX6_read yX6_read ∈ gT := gmk (sm_4 (List.mem_of_getElem? (i := 48) (by decide +kernel))) rfl
def yX6_shift : MethodName := ⟨zR6, "shift", "(IIIII)I"⟩
abbrev bX6_shift : ByteArray := prog_1_method_38_code
theorem mf_X6_shift : MF yX6_shift bX6_shift 6 (Option.some Jvm.ClassFile.FieldType.int) 5 := ⟨gmk (sm_4 (List.mem_of_getElem? (i := 53) rfl)) rfl, gmk (sm_1 (List.mem_of_getElem? (i := 1) (by decide +kernel))) rfl, by decide +kernel, by decide +kernel, by decide +kernel⟩
theorem in_X6_shift : Cond.instanceMethod yX6_shift ∈ gT := gmk (sm_4 (List.mem_of_getElem? (i := 51) (by decide +kernel))) rfl
theorem se_X6_shift : Cond.selects yX6_shift.cls yX6_shift yX6_shift ∈ gT := gmk (sm_4 (List.mem_of_getElem? (i := 52) (by decide +kernel))) rfl
def yX6_within : MethodName := ⟨zR6, "within", "(III)Z"⟩
abbrev bX6_within : ByteArray := prog_1_method_39_code
theorem mf_X6_within : MF yX6_within bX6_within 3 (Option.some Jvm.ClassFile.FieldType.boolean) 3 := ⟨gmk (sm_2 (List.mem_of_getElem? (i := 62) rfl)) rfl, gmk (sm_1 (List.mem_of_getElem? (i := 1) (by decide +kernel))) rfl, by decide +kernel, by decide +kernel, by decide +kernel⟩
theorem st_X6_within : Cond.static yX6_within ∈ gT := gmk (sm_2 (List.mem_of_getElem? (i := 61) (by decide +kernel))) rfl
def yX6_askedDays : MethodName := ⟨zR6, "askedDays", "(I)Z"⟩
abbrev bX6_askedDays : ByteArray := prog_1_method_40_code
theorem mf_X6_askedDays : MF yX6_askedDays bX6_askedDays 1 (Option.some Jvm.ClassFile.FieldType.boolean) 1 := ⟨gmk (sm_3 (List.mem_of_getElem? (i := 41) rfl)) rfl, gmk (sm_1 (List.mem_of_getElem? (i := 1) (by decide +kernel))) rfl, by decide +kernel, by decide +kernel, by decide +kernel⟩
theorem st_X6_askedDays : Cond.static yX6_askedDays ∈ gT := gmk (sm_3 (List.mem_of_getElem? (i := 40) (by decide +kernel))) rfl
def yX6_known : MethodName := ⟨zR6, "known", "(I)Z"⟩
abbrev bX6_known : ByteArray := prog_1_method_41_code
theorem mf_X6_known : MF yX6_known bX6_known 2 (Option.some Jvm.ClassFile.FieldType.boolean) 1 := ⟨gmk (sm_2 (List.mem_of_getElem? (i := 74) rfl)) rfl, gmk (sm_1 (List.mem_of_getElem? (i := 1) (by decide +kernel))) rfl, by decide +kernel, by decide +kernel, by decide +kernel⟩
theorem in_X6_known : Cond.instanceMethod yX6_known ∈ gT := gmk (sm_2 (List.mem_of_getElem? (i := 73) (by decide +kernel))) rfl
theorem se_X6_known : Cond.selects yX6_known.cls yX6_known yX6_known ∈ gT := gm 0 (by decide +kernel) rfl
def yX6_rules : MethodName := ⟨zR6, "rules", "()LWellLendsDepth$Country;"⟩
abbrev bX6_rules : ByteArray := prog_1_method_42_code
theorem mf_X6_rules : MF yX6_rules bX6_rules 1 (Option.some (Jvm.ClassFile.FieldType.object "WellLendsDepth$Country")) 0 := ⟨gmk (sm_2 (List.mem_of_getElem? (i := 78) rfl)) rfl, gmk (sm_1 (List.mem_of_getElem? (i := 1) (by decide +kernel))) rfl, by decide +kernel, by decide +kernel, by decide +kernel⟩
theorem in_X6_rules : Cond.instanceMethod yX6_rules ∈ gT := gmk (sm_2 (List.mem_of_getElem? (i := 77) (by decide +kernel))) rfl
theorem se_X6_rules : Cond.selects yX6_rules.cls yX6_rules yX6_rules ∈ gT := gm 1 (by decide +kernel) rfl
def yX6_isUnder : MethodName := ⟨zR6, "isUnder", "(II)Z"⟩
abbrev bX6_isUnder : ByteArray := prog_1_method_43_code
theorem mf_X6_isUnder : MF yX6_isUnder bX6_isUnder 4 (Option.some Jvm.ClassFile.FieldType.boolean) 2 := ⟨gmk (sm_4 (List.mem_of_getElem? (i := 25) rfl)) rfl, gmk (sm_1 (List.mem_of_getElem? (i := 1) (by decide +kernel))) rfl, by decide +kernel, by decide +kernel, by decide +kernel⟩
theorem st_X6_isUnder : Cond.static yX6_isUnder ∈ gT := gmk (sm_4 (List.mem_of_getElem? (i := 24) (by decide +kernel))) rfl
def yX6_lowestTerms : MethodName := ⟨zR6, "lowestTerms", "(JJI)J"⟩
abbrev bX6_lowestTerms : ByteArray := prog_1_method_44_code
theorem mf_X6_lowestTerms : MF yX6_lowestTerms bX6_lowestTerms 7 (Option.some Jvm.ClassFile.FieldType.long) 3 := ⟨gmk (sm_3 (List.mem_of_getElem? (i := 160) rfl)) rfl, gmk (sm_1 (List.mem_of_getElem? (i := 1) (by decide +kernel))) rfl, by decide +kernel, by decide +kernel, by decide +kernel⟩
theorem st_X6_lowestTerms : Cond.static yX6_lowestTerms ∈ gT := gmk (sm_3 (List.mem_of_getElem? (i := 159) (by decide +kernel))) rfl
def yX6_commonDivisor : MethodName := ⟨zR6, "commonDivisor", "(JJ)J"⟩
abbrev bX6_commonDivisor : ByteArray := prog_1_method_45_code
theorem mf_X6_commonDivisor : MF yX6_commonDivisor bX6_commonDivisor 11 (Option.some Jvm.ClassFile.FieldType.long) 2 := ⟨gmk (sm_3 (List.mem_of_getElem? (i := 163) rfl)) rfl, gmk (sm_1 (List.mem_of_getElem? (i := 1) (by decide +kernel))) rfl, by decide +kernel, by decide +kernel, by decide +kernel⟩
theorem st_X6_commonDivisor : Cond.static yX6_commonDivisor ∈ gT := gmk (sm_3 (List.mem_of_getElem? (i := 162) (by decide +kernel))) rfl
def yX6_startTrial : MethodName := ⟨zR6, "startTrial", "()V"⟩
abbrev bX6_startTrial : ByteArray := prog_1_method_46_code
theorem mf_X6_startTrial : MF yX6_startTrial bX6_startTrial 1 (Option.none : Option Jvm.ClassFile.FieldType) 0 := ⟨gmk (sm_3 (List.mem_of_getElem? (i := 67) rfl)) rfl, gmk (sm_1 (List.mem_of_getElem? (i := 1) (by decide +kernel))) rfl, by decide +kernel, by decide +kernel, by decide +kernel⟩
theorem in_X6_startTrial : Cond.instanceMethod yX6_startTrial ∈ gT := gmk (sm_3 (List.mem_of_getElem? (i := 66) (by decide +kernel))) rfl
theorem se_X6_startTrial : Cond.selects yX6_startTrial.cls yX6_startTrial yX6_startTrial ∈ gT := gm 13 (by decide +kernel) rfl
def yX6_goTrial : MethodName := ⟨zR6, "goTrial", "(I)V"⟩
abbrev bX6_goTrial : ByteArray := prog_1_method_47_code
theorem mf_X6_goTrial : MF yX6_goTrial bX6_goTrial 4 (Option.none : Option Jvm.ClassFile.FieldType) 1 := ⟨gmk (sm_3 (List.mem_of_getElem? (i := 78) rfl)) rfl, gmk (sm_1 (List.mem_of_getElem? (i := 1) (by decide +kernel))) rfl, by decide +kernel, by decide +kernel, by decide +kernel⟩
theorem in_X6_goTrial : Cond.instanceMethod yX6_goTrial ∈ gT := gmk (sm_3 (List.mem_of_getElem? (i := 77) (by decide +kernel))) rfl
theorem se_X6_goTrial : Cond.selects yX6_goTrial.cls yX6_goTrial yX6_goTrial ∈ gT := gm 14 (by decide +kernel) rfl
def yX6_turnedOfTrial : MethodName := ⟨zR6, "turnedOfTrial", "(I)I"⟩
abbrev bX6_turnedOfTrial : ByteArray := prog_1_method_48_code
theorem mf_X6_turnedOfTrial : MF yX6_turnedOfTrial bX6_turnedOfTrial 4 (Option.some Jvm.ClassFile.FieldType.int) 1 := ⟨gmk (sm_3 (List.mem_of_getElem? (i := 98) rfl)) rfl, gmk (sm_1 (List.mem_of_getElem? (i := 1) (by decide +kernel))) rfl, by decide +kernel, by decide +kernel, by decide +kernel⟩
theorem in_X6_turnedOfTrial : Cond.instanceMethod yX6_turnedOfTrial ∈ gT := gmk (sm_3 (List.mem_of_getElem? (i := 97) (by decide +kernel))) rfl
theorem se_X6_turnedOfTrial : Cond.selects yX6_turnedOfTrial.cls yX6_turnedOfTrial yX6_turnedOfTrial ∈ gT := gm 16 (by decide +kernel) rfl
def yX6_turnedAsAllIs : MethodName := ⟨zR6, "turnedAsAllIs", "()I"⟩
abbrev bX6_turnedAsAllIs : ByteArray := prog_1_method_49_code
theorem mf_X6_turnedAsAllIs : MF yX6_turnedAsAllIs bX6_turnedAsAllIs 1 (Option.some Jvm.ClassFile.FieldType.int) 0 := ⟨gmk (sm_3 (List.mem_of_getElem? (i := 110) rfl)) rfl, gmk (sm_1 (List.mem_of_getElem? (i := 1) (by decide +kernel))) rfl, by decide +kernel, by decide +kernel, by decide +kernel⟩
theorem in_X6_turnedAsAllIs : Cond.instanceMethod yX6_turnedAsAllIs ∈ gT := gmk (sm_3 (List.mem_of_getElem? (i := 109) (by decide +kernel))) rfl
theorem se_X6_turnedAsAllIs : Cond.selects yX6_turnedAsAllIs.cls yX6_turnedAsAllIs yX6_turnedAsAllIs ∈ gT := gm 19 (by decide +kernel) rfl
def yX6_whomToCall : MethodName := ⟨zR6, "whomToCall", "()I"⟩
abbrev bX6_whomToCall : ByteArray := prog_1_method_50_code
theorem mf_X6_whomToCall : MF yX6_whomToCall bX6_whomToCall 6 (Option.some Jvm.ClassFile.FieldType.int) 0 := ⟨gmk (sm_3 (List.mem_of_getElem? (i := 94) rfl)) rfl, gmk (sm_1 (List.mem_of_getElem? (i := 1) (by decide +kernel))) rfl, by decide +kernel, by decide +kernel, by decide +kernel⟩
theorem in_X6_whomToCall : Cond.instanceMethod yX6_whomToCall ∈ gT := gmk (sm_3 (List.mem_of_getElem? (i := 93) (by decide +kernel))) rfl
theorem se_X6_whomToCall : Cond.selects yX6_whomToCall.cls yX6_whomToCall yX6_whomToCall ∈ gT := gm 15 (by decide +kernel) rfl
def yX6_whoComesAhead : MethodName := ⟨zR6, "whoComesAhead", "()I"⟩
abbrev bX6_whoComesAhead : ByteArray := prog_1_method_51_code
theorem mf_X6_whoComesAhead : MF yX6_whoComesAhead bX6_whoComesAhead 7 (Option.some Jvm.ClassFile.FieldType.int) 0 := ⟨gmk (sm_3 (List.mem_of_getElem? (i := 102) rfl)) rfl, gmk (sm_1 (List.mem_of_getElem? (i := 1) (by decide +kernel))) rfl, by decide +kernel, by decide +kernel, by decide +kernel⟩
theorem in_X6_whoComesAhead : Cond.instanceMethod yX6_whoComesAhead ∈ gT := gmk (sm_3 (List.mem_of_getElem? (i := 101) (by decide +kernel))) rfl
theorem se_X6_whoComesAhead : Cond.selects yX6_whoComesAhead.cls yX6_whoComesAhead yX6_whoComesAhead ∈ gT := gm 17 (by decide +kernel) rfl
def yX6_bestMark : MethodName := ⟨zR6, "bestMark", "()I"⟩
abbrev bX6_bestMark : ByteArray := prog_1_method_52_code
theorem mf_X6_bestMark : MF yX6_bestMark bX6_bestMark 5 (Option.some Jvm.ClassFile.FieldType.int) 0 := ⟨gmk (sm_3 (List.mem_of_getElem? (i := 106) rfl)) rfl, gmk (sm_1 (List.mem_of_getElem? (i := 1) (by decide +kernel))) rfl, by decide +kernel, by decide +kernel, by decide +kernel⟩
theorem in_X6_bestMark : Cond.instanceMethod yX6_bestMark ∈ gT := gmk (sm_3 (List.mem_of_getElem? (i := 105) (by decide +kernel))) rfl
theorem se_X6_bestMark : Cond.selects yX6_bestMark.cls yX6_bestMark yX6_bestMark ∈ gT := gm 18 (by decide +kernel) rfl
def yX6_nobodySentIn : MethodName := ⟨zR6, "nobodySentIn", "(II)Z"⟩
abbrev bX6_nobodySentIn : ByteArray := prog_1_method_53_code
theorem mf_X6_nobodySentIn : MF yX6_nobodySentIn bX6_nobodySentIn 5 (Option.some Jvm.ClassFile.FieldType.boolean) 2 := ⟨gmk (sm_3 (List.mem_of_getElem? (i := 123) rfl)) rfl, gmk (sm_1 (List.mem_of_getElem? (i := 1) (by decide +kernel))) rfl, by decide +kernel, by decide +kernel, by decide +kernel⟩
theorem in_X6_nobodySentIn : Cond.instanceMethod yX6_nobodySentIn ∈ gT := gmk (sm_3 (List.mem_of_getElem? (i := 122) (by decide +kernel))) rfl
theorem se_X6_nobodySentIn : Cond.selects yX6_nobodySentIn.cls yX6_nobodySentIn yX6_nobodySentIn ∈ gT := gm 20 (by decide +kernel) rfl
def yX6_trialShowsAllSeen : MethodName := ⟨zR6, "trialShowsAllSeen", "()Z"⟩
abbrev bX6_trialShowsAllSeen : ByteArray := prog_1_method_54_code
theorem mf_X6_trialShowsAllSeen : MF yX6_trialShowsAllSeen bX6_trialShowsAllSeen 3 (Option.some Jvm.ClassFile.FieldType.boolean) 0 := ⟨gmk (sm_3 (List.mem_of_getElem? (i := 139) rfl)) rfl, gmk (sm_1 (List.mem_of_getElem? (i := 1) (by decide +kernel))) rfl, by decide +kernel, by decide +kernel, by decide +kernel⟩
theorem in_X6_trialShowsAllSeen : Cond.instanceMethod yX6_trialShowsAllSeen ∈ gT := gmk (sm_3 (List.mem_of_getElem? (i := 138) (by decide +kernel))) rfl
theorem se_X6_trialShowsAllSeen : Cond.selects yX6_trialShowsAllSeen.cls yX6_trialShowsAllSeen yX6_trialShowsAllSeen ∈ gT := gm 21 (by decide +kernel) rfl
def yX6_goYearRow : MethodName := ⟨zR6, "goYearRow", "(II)V"⟩
abbrev bX6_goYearRow : ByteArray := prog_1_method_55_code
theorem mf_X6_goYearRow : MF yX6_goYearRow bX6_goYearRow 3 (Option.none : Option Jvm.ClassFile.FieldType) 2 := ⟨gmk (sm_3 (List.mem_of_getElem? (i := 183) rfl)) rfl, gmk (sm_1 (List.mem_of_getElem? (i := 1) (by decide +kernel))) rfl, by decide +kernel, by decide +kernel, by decide +kernel⟩
theorem in_X6_goYearRow : Cond.instanceMethod yX6_goYearRow ∈ gT := gmk (sm_3 (List.mem_of_getElem? (i := 182) (by decide +kernel))) rfl
theorem se_X6_goYearRow : Cond.selects yX6_goYearRow.cls yX6_goYearRow yX6_goYearRow ∈ gT := gm 22 (by decide +kernel) rfl
def yX7_init : MethodName := ⟨zR7, "<init>", "()V"⟩
abbrev bX7_init : ByteArray := prog_9_method_1_code
theorem mf_X7_init : MF yX7_init bX7_init 1 (Option.none : Option Jvm.ClassFile.FieldType) 0 := ⟨gmk (sm_4 (List.mem_of_getElem? (i := 63) rfl)) rfl, gmk (sm_1 (List.mem_of_getElem? (i := 8) (by decide +kernel))) rfl, by decide +kernel, by decide +kernel, by decide +kernel⟩
theorem in_X7_init : Cond.instanceMethod yX7_init ∈ gT := gmk (sm_4 (List.mem_of_getElem? (i := 62) (by decide +kernel))) rfl
def yX7_in : MethodName := ⟨zR7, "in", "(III)Z"⟩
abbrev bX7_in : ByteArray := prog_9_method_2_code
theorem mf_X7_in : MF yX7_in bX7_in 4 (Option.some Jvm.ClassFile.FieldType.boolean) 3 := ⟨gmk (sm_5 (List.mem_of_getElem? (i := 83) rfl)) rfl, gmk (sm_1 (List.mem_of_getElem? (i := 8) (by decide +kernel))) rfl, by decide +kernel, by decide +kernel, by decide +kernel⟩
theorem in_X7_in : Cond.instanceMethod yX7_in ∈ gT := gmk (sm_5 (List.mem_of_getElem? (i := 82) (by decide +kernel))) rfl
theorem se_X7_in : Cond.selects yX7_in.cls yX7_in yX7_in ∈ gT := gm 25 (by decide +kernel) rfl
def yX7_held : MethodName := ⟨zR7, "held", "(II)I"⟩
abbrev bX7_held : ByteArray := prog_9_method_3_code
theorem mf_X7_held : MF yX7_held bX7_held 3 (Option.some Jvm.ClassFile.FieldType.int) 2 := ⟨gmk (sm_5 (List.mem_of_getElem? (i := 131) rfl)) rfl, gmk (sm_1 (List.mem_of_getElem? (i := 8) (by decide +kernel))) rfl, by decide +kernel, by decide +kernel, by decide +kernel⟩
theorem in_X7_held : Cond.instanceMethod yX7_held ∈ gT := gmk (sm_5 (List.mem_of_getElem? (i := 130) (by decide +kernel))) rfl
theorem se_X7_held : Cond.selects yX7_held.cls yX7_held yX7_held ∈ gT := gm 32 (by decide +kernel) rfl
def yX7_isBorrower : MethodName := ⟨zR7, "isBorrower", "(I)Z"⟩
abbrev bX7_isBorrower : ByteArray := prog_9_method_4_code
theorem mf_X7_isBorrower : MF yX7_isBorrower bX7_isBorrower 2 (Option.some Jvm.ClassFile.FieldType.boolean) 1 := ⟨gmk (sm_5 (List.mem_of_getElem? (i := 99) rfl)) rfl, gmk (sm_1 (List.mem_of_getElem? (i := 8) (by decide +kernel))) rfl, by decide +kernel, by decide +kernel, by decide +kernel⟩
theorem in_X7_isBorrower : Cond.instanceMethod yX7_isBorrower ∈ gT := gmk (sm_5 (List.mem_of_getElem? (i := 98) (by decide +kernel))) rfl
theorem se_X7_isBorrower : Cond.selects yX7_isBorrower.cls yX7_isBorrower yX7_isBorrower ∈ gT := gm 28 (by decide +kernel) rfl
def yX7_isDepth : MethodName := ⟨zR7, "isDepth", "(I)Z"⟩
abbrev bX7_isDepth : ByteArray := prog_9_method_5_code
theorem mf_X7_isDepth : MF yX7_isDepth bX7_isDepth 2 (Option.some Jvm.ClassFile.FieldType.boolean) 1 := ⟨gmk (sm_5 (List.mem_of_getElem? (i := 111) rfl)) rfl, gmk (sm_1 (List.mem_of_getElem? (i := 8) (by decide +kernel))) rfl, by decide +kernel, by decide +kernel, by decide +kernel⟩
theorem in_X7_isDepth : Cond.instanceMethod yX7_isDepth ∈ gT := gmk (sm_5 (List.mem_of_getElem? (i := 110) (by decide +kernel))) rfl
theorem se_X7_isDepth : Cond.selects yX7_isDepth.cls yX7_isDepth yX7_isDepth ∈ gT := gm 29 (by decide +kernel) rfl
def yX7_isDays : MethodName := ⟨zR7, "isDays", "(I)Z"⟩
abbrev bX7_isDays : ByteArray := prog_9_method_6_code
theorem mf_X7_isDays : MF yX7_isDays bX7_isDays 2 (Option.some Jvm.ClassFile.FieldType.boolean) 1 := ⟨gmk (sm_6 (List.mem_of_getElem? (i := 19) rfl)) rfl, gmk (sm_1 (List.mem_of_getElem? (i := 8) (by decide +kernel))) rfl, by decide +kernel, by decide +kernel, by decide +kernel⟩
theorem in_X7_isDays : Cond.instanceMethod yX7_isDays ∈ gT := gmk (sm_6 (List.mem_of_getElem? (i := 18) (by decide +kernel))) rfl
theorem se_X7_isDays : Cond.selects yX7_isDays.cls yX7_isDays yX7_isDays ∈ gT := gm 59 (by decide +kernel) rfl
def yX7_isWants : MethodName := ⟨zR7, "isWants", "(I)Z"⟩
abbrev bX7_isWants : ByteArray := prog_9_method_7_code
theorem mf_X7_isWants : MF yX7_isWants bX7_isWants 2 (Option.some Jvm.ClassFile.FieldType.boolean) 1 := ⟨gmk (sm_5 (List.mem_of_getElem? (i := 87) rfl)) rfl, gmk (sm_1 (List.mem_of_getElem? (i := 8) (by decide +kernel))) rfl, by decide +kernel, by decide +kernel, by decide +kernel⟩
theorem in_X7_isWants : Cond.instanceMethod yX7_isWants ∈ gT := gmk (sm_5 (List.mem_of_getElem? (i := 86) (by decide +kernel))) rfl
theorem se_X7_isWants : Cond.selects yX7_isWants.cls yX7_isWants yX7_isWants ∈ gT := gm 26 (by decide +kernel) rfl
def yX7_isEvery : MethodName := ⟨zR7, "isEvery", "(I)Z"⟩
abbrev bX7_isEvery : ByteArray := prog_9_method_8_code
theorem mf_X7_isEvery : MF yX7_isEvery bX7_isEvery 2 (Option.some Jvm.ClassFile.FieldType.boolean) 1 := ⟨gmk (sm_5 (List.mem_of_getElem? (i := 91) rfl)) rfl, gmk (sm_1 (List.mem_of_getElem? (i := 8) (by decide +kernel))) rfl, by decide +kernel, by decide +kernel, by decide +kernel⟩
theorem in_X7_isEvery : Cond.instanceMethod yX7_isEvery ∈ gT := gmk (sm_5 (List.mem_of_getElem? (i := 90) (by decide +kernel))) rfl
theorem se_X7_isEvery : Cond.selects yX7_isEvery.cls yX7_isEvery yX7_isEvery ∈ gT := gm 27 (by decide +kernel) rfl
def yX7_borrower : MethodName := ⟨zR7, "borrower", "(IIII)I"⟩
abbrev bX7_borrower : ByteArray := prog_9_method_9_code
theorem mf_X7_borrower : MF yX7_borrower bX7_borrower 6 (Option.some Jvm.ClassFile.FieldType.int) 4 := ⟨gmk (sm_5 (List.mem_of_getElem? (i := 79) rfl)) rfl, gmk (sm_1 (List.mem_of_getElem? (i := 8) (by decide +kernel))) rfl, by decide +kernel, by decide +kernel, by decide +kernel⟩
theorem in_X7_borrower : Cond.instanceMethod yX7_borrower ∈ gT := gmk (sm_5 (List.mem_of_getElem? (i := 77) (by decide +kernel))) rfl
theorem se_X7_borrower : Cond.selects yX7_borrower.cls yX7_borrower yX7_borrower ∈ gT := gmk (sm_5 (List.mem_of_getElem? (i := 78) (by decide +kernel))) rfl
def yX7_set : MethodName := ⟨zR7, "set", "(III)I"⟩
abbrev bX7_set : ByteArray := prog_9_method_10_code
theorem mf_X7_set : MF yX7_set bX7_set 5 (Option.some Jvm.ClassFile.FieldType.int) 3 := ⟨gmk (sm_5 (List.mem_of_getElem? (i := 95) rfl)) rfl, gmk (sm_1 (List.mem_of_getElem? (i := 8) (by decide +kernel))) rfl, by decide +kernel, by decide +kernel, by decide +kernel⟩
theorem in_X7_set : Cond.instanceMethod yX7_set ∈ gT := gmk (sm_5 (List.mem_of_getElem? (i := 93) (by decide +kernel))) rfl
theorem se_X7_set : Cond.selects yX7_set.cls yX7_set yX7_set ∈ gT := gmk (sm_5 (List.mem_of_getElem? (i := 94) (by decide +kernel))) rfl
def yX7_row : MethodName := ⟨zR7, "row", "(III)I"⟩
abbrev bX7_row : ByteArray := prog_9_method_11_code
theorem mf_X7_row : MF yX7_row bX7_row 5 (Option.some Jvm.ClassFile.FieldType.int) 3 := ⟨gmk (sm_5 (List.mem_of_getElem? (i := 103) rfl)) rfl, gmk (sm_1 (List.mem_of_getElem? (i := 8) (by decide +kernel))) rfl, by decide +kernel, by decide +kernel, by decide +kernel⟩
theorem in_X7_row : Cond.instanceMethod yX7_row ∈ gT := gmk (sm_5 (List.mem_of_getElem? (i := 101) (by decide +kernel))) rfl
theorem se_X7_row : Cond.selects yX7_row.cls yX7_row yX7_row ∈ gT := gmk (sm_5 (List.mem_of_getElem? (i := 102) (by decide +kernel))) rfl
def yX7_depth : MethodName := ⟨zR7, "depth", "(I)I"⟩
abbrev bX7_depth : ByteArray := prog_9_method_12_code
theorem mf_X7_depth : MF yX7_depth bX7_depth 3 (Option.some Jvm.ClassFile.FieldType.int) 1 := ⟨gmk (sm_5 (List.mem_of_getElem? (i := 107) rfl)) rfl, gmk (sm_1 (List.mem_of_getElem? (i := 8) (by decide +kernel))) rfl, by decide +kernel, by decide +kernel, by decide +kernel⟩
theorem in_X7_depth : Cond.instanceMethod yX7_depth ∈ gT := gmk (sm_5 (List.mem_of_getElem? (i := 105) (by decide +kernel))) rfl
theorem se_X7_depth : Cond.selects yX7_depth.cls yX7_depth yX7_depth ∈ gT := gmk (sm_5 (List.mem_of_getElem? (i := 106) (by decide +kernel))) rfl
def yX7_changes : MethodName := ⟨zR7, "changes", "(II)V"⟩
abbrev bX7_changes : ByteArray := prog_9_method_13_code
theorem mf_X7_changes : MF yX7_changes bX7_changes 4 (Option.none : Option Jvm.ClassFile.FieldType) 2 := ⟨gmk (sm_5 (List.mem_of_getElem? (i := 119) rfl)) rfl, gmk (sm_1 (List.mem_of_getElem? (i := 8) (by decide +kernel))) rfl, by decide +kernel, by decide +kernel, by decide +kernel⟩
theorem in_X7_changes : Cond.instanceMethod yX7_changes ∈ gT := gmk (sm_5 (List.mem_of_getElem? (i := 118) (by decide +kernel))) rfl
theorem se_X7_changes : Cond.selects yX7_changes.cls yX7_changes yX7_changes ∈ gT := gm 30 (by decide +kernel) rfl
def yX7_change : MethodName := ⟨zR7, "change", "(II)I"⟩
abbrev bX7_change : ByteArray := prog_9_method_14_code
theorem mf_X7_change : MF yX7_change bX7_change 3 (Option.some Jvm.ClassFile.FieldType.int) 2 := ⟨gmk (sm_5 (List.mem_of_getElem? (i := 115) rfl)) rfl, gmk (sm_1 (List.mem_of_getElem? (i := 8) (by decide +kernel))) rfl, by decide +kernel, by decide +kernel, by decide +kernel⟩
theorem in_X7_change : Cond.instanceMethod yX7_change ∈ gT := gmk (sm_5 (List.mem_of_getElem? (i := 113) (by decide +kernel))) rfl
theorem se_X7_change : Cond.selects yX7_change.cls yX7_change yX7_change ∈ gT := gmk (sm_5 (List.mem_of_getElem? (i := 114) (by decide +kernel))) rfl
def yX7_calls : MethodName := ⟨zR7, "calls", "(I)V"⟩
abbrev bX7_calls : ByteArray := prog_9_method_15_code
theorem mf_X7_calls : MF yX7_calls bX7_calls 2 (Option.none : Option Jvm.ClassFile.FieldType) 1 := ⟨gmk (sm_5 (List.mem_of_getElem? (i := 127) rfl)) rfl, gmk (sm_1 (List.mem_of_getElem? (i := 8) (by decide +kernel))) rfl, by decide +kernel, by decide +kernel, by decide +kernel⟩
theorem in_X7_calls : Cond.instanceMethod yX7_calls ∈ gT := gmk (sm_5 (List.mem_of_getElem? (i := 126) (by decide +kernel))) rfl
theorem se_X7_calls : Cond.selects yX7_calls.cls yX7_calls yX7_calls ∈ gT := gm 31 (by decide +kernel) rfl
def yX7_call : MethodName := ⟨zR7, "call", "(I)I"⟩
abbrev bX7_call : ByteArray := prog_9_method_16_code
theorem mf_X7_call : MF yX7_call bX7_call 3 (Option.some Jvm.ClassFile.FieldType.int) 1 := ⟨gmk (sm_5 (List.mem_of_getElem? (i := 123) rfl)) rfl, gmk (sm_1 (List.mem_of_getElem? (i := 8) (by decide +kernel))) rfl, by decide +kernel, by decide +kernel, by decide +kernel⟩
theorem in_X7_call : Cond.instanceMethod yX7_call ∈ gT := gmk (sm_5 (List.mem_of_getElem? (i := 121) (by decide +kernel))) rfl
theorem se_X7_call : Cond.selects yX7_call.cls yX7_call yX7_call ∈ gT := gmk (sm_5 (List.mem_of_getElem? (i := 122) (by decide +kernel))) rfl
def yX7_feed : MethodName := ⟨zR7, "feed", "(I)I"⟩
abbrev bX7_feed : ByteArray := prog_9_method_17_code
theorem mf_X7_feed : MF yX7_feed bX7_feed 2 (Option.some Jvm.ClassFile.FieldType.int) 1 := ⟨gmk (sm_5 (List.mem_of_getElem? (i := 135) rfl)) rfl, gmk (sm_1 (List.mem_of_getElem? (i := 8) (by decide +kernel))) rfl, by decide +kernel, by decide +kernel, by decide +kernel⟩
theorem in_X7_feed : Cond.instanceMethod yX7_feed ∈ gT := gmk (sm_5 (List.mem_of_getElem? (i := 133) (by decide +kernel))) rfl
theorem se_X7_feed : Cond.selects yX7_feed.cls yX7_feed yX7_feed ∈ gT := gmk (sm_5 (List.mem_of_getElem? (i := 134) (by decide +kernel))) rfl
def yX7_next : MethodName := ⟨zR7, "next", "()I"⟩
abbrev bX7_next : ByteArray := prog_9_method_18_code
theorem mf_X7_next : MF yX7_next bX7_next 1 (Option.some Jvm.ClassFile.FieldType.int) 0 := ⟨gmk (sm_5 (List.mem_of_getElem? (i := 155) rfl)) rfl, gmk (sm_1 (List.mem_of_getElem? (i := 8) (by decide +kernel))) rfl, by decide +kernel, by decide +kernel, by decide +kernel⟩
theorem in_X7_next : Cond.instanceMethod yX7_next ∈ gT := gmk (sm_5 (List.mem_of_getElem? (i := 154) (by decide +kernel))) rfl
theorem se_X7_next : Cond.selects yX7_next.cls yX7_next yX7_next ∈ gT := gm 36 (by decide +kernel) rfl
def yX7_takes : MethodName := ⟨zR7, "takes", "(I)Z"⟩
abbrev bX7_takes : ByteArray := prog_9_method_19_code
theorem mf_X7_takes : MF yX7_takes bX7_takes 2 (Option.some Jvm.ClassFile.FieldType.boolean) 1 := ⟨gmk (sm_5 (List.mem_of_getElem? (i := 163) rfl)) rfl, gmk (sm_1 (List.mem_of_getElem? (i := 8) (by decide +kernel))) rfl, by decide +kernel, by decide +kernel, by decide +kernel⟩
theorem in_X7_takes : Cond.instanceMethod yX7_takes ∈ gT := gmk (sm_5 (List.mem_of_getElem? (i := 162) (by decide +kernel))) rfl
theorem se_X7_takes : Cond.selects yX7_takes.cls yX7_takes yX7_takes ∈ gT := gm 38 (by decide +kernel) rfl
def yX7_takesWord : MethodName := ⟨zR7, "takesWord", "(II)Z"⟩
abbrev bX7_takesWord : ByteArray := prog_9_method_20_code
theorem mf_X7_takesWord : MF yX7_takesWord bX7_takesWord 4 (Option.some Jvm.ClassFile.FieldType.boolean) 2 := ⟨gmk (sm_5 (List.mem_of_getElem? (i := 159) rfl)) rfl, gmk (sm_1 (List.mem_of_getElem? (i := 8) (by decide +kernel))) rfl, by decide +kernel, by decide +kernel, by decide +kernel⟩
theorem in_X7_takesWord : Cond.instanceMethod yX7_takesWord ∈ gT := gmk (sm_5 (List.mem_of_getElem? (i := 158) (by decide +kernel))) rfl
theorem se_X7_takesWord : Cond.selects yX7_takesWord.cls yX7_takesWord yX7_takesWord ∈ gT := gm 37 (by decide +kernel) rfl
def yX7_isDigit : MethodName := ⟨zR7, "isDigit", "()Z"⟩
abbrev bX7_isDigit : ByteArray := prog_9_method_21_code
theorem mf_X7_isDigit : MF yX7_isDigit bX7_isDigit 1 (Option.some Jvm.ClassFile.FieldType.boolean) 0 := ⟨gmk (sm_5 (List.mem_of_getElem? (i := 171) rfl)) rfl, gmk (sm_1 (List.mem_of_getElem? (i := 8) (by decide +kernel))) rfl, by decide +kernel, by decide +kernel, by decide +kernel⟩
theorem in_X7_isDigit : Cond.instanceMethod yX7_isDigit ∈ gT := gmk (sm_5 (List.mem_of_getElem? (i := 170) (by decide +kernel))) rfl
theorem se_X7_isDigit : Cond.selects yX7_isDigit.cls yX7_isDigit yX7_isDigit ∈ gT := gm 40 (by decide +kernel) rfl
def yX7_takesNumber : MethodName := ⟨zR7, "takesNumber", "()Z"⟩
abbrev bX7_takesNumber : ByteArray := prog_9_method_22_code
theorem mf_X7_takesNumber : MF yX7_takesNumber bX7_takesNumber 2 (Option.some Jvm.ClassFile.FieldType.boolean) 0 := ⟨gmk (sm_5 (List.mem_of_getElem? (i := 167) rfl)) rfl, gmk (sm_1 (List.mem_of_getElem? (i := 8) (by decide +kernel))) rfl, by decide +kernel, by decide +kernel, by decide +kernel⟩
theorem in_X7_takesNumber : Cond.instanceMethod yX7_takesNumber ∈ gT := gmk (sm_5 (List.mem_of_getElem? (i := 166) (by decide +kernel))) rfl
theorem se_X7_takesNumber : Cond.selects yX7_takesNumber.cls yX7_takesNumber yX7_takesNumber ∈ gT := gm 39 (by decide +kernel) rfl
def yX7_emits : MethodName := ⟨zR7, "emits", "(I)V"⟩
abbrev bX7_emits : ByteArray := prog_9_method_23_code
theorem mf_X7_emits : MF yX7_emits bX7_emits 2 (Option.none : Option Jvm.ClassFile.FieldType) 1 := ⟨gmk (sm_5 (List.mem_of_getElem? (i := 187) rfl)) rfl, gmk (sm_1 (List.mem_of_getElem? (i := 8) (by decide +kernel))) rfl, by decide +kernel, by decide +kernel, by decide +kernel⟩
theorem in_X7_emits : Cond.instanceMethod yX7_emits ∈ gT := gmk (sm_5 (List.mem_of_getElem? (i := 186) (by decide +kernel))) rfl
theorem se_X7_emits : Cond.selects yX7_emits.cls yX7_emits yX7_emits ∈ gT := gm 44 (by decide +kernel) rfl
def yX7_whole : MethodName := ⟨zR7, "whole", "()V"⟩
abbrev bX7_whole : ByteArray := prog_9_method_24_code
theorem mf_X7_whole : MF yX7_whole bX7_whole 1 (Option.none : Option Jvm.ClassFile.FieldType) 0 := ⟨gmk (sm_5 (List.mem_of_getElem? (i := 191) rfl)) rfl, gmk (sm_1 (List.mem_of_getElem? (i := 8) (by decide +kernel))) rfl, by decide +kernel, by decide +kernel, by decide +kernel⟩
theorem in_X7_whole : Cond.instanceMethod yX7_whole ∈ gT := gmk (sm_5 (List.mem_of_getElem? (i := 190) (by decide +kernel))) rfl
theorem se_X7_whole : Cond.selects yX7_whole.cls yX7_whole yX7_whole ∈ gT := gm 45 (by decide +kernel) rfl
def yX7_settle : MethodName := ⟨zR7, "settle", "(I)V"⟩
abbrev bX7_settle : ByteArray := prog_9_method_25_code
theorem mf_X7_settle : MF yX7_settle bX7_settle 2 (Option.none : Option Jvm.ClassFile.FieldType) 1 := ⟨gmk (sm_5 (List.mem_of_getElem? (i := 195) rfl)) rfl, gmk (sm_1 (List.mem_of_getElem? (i := 8) (by decide +kernel))) rfl, by decide +kernel, by decide +kernel, by decide +kernel⟩
theorem in_X7_settle : Cond.instanceMethod yX7_settle ∈ gT := gmk (sm_5 (List.mem_of_getElem? (i := 194) (by decide +kernel))) rfl
theorem se_X7_settle : Cond.selects yX7_settle.cls yX7_settle yX7_settle ∈ gT := gm 46 (by decide +kernel) rfl
def yX7_place : MethodName := ⟨zR7, "place", "(I)I"⟩
abbrev bX7_place : ByteArray := prog_9_method_26_code
theorem mf_X7_place : MF yX7_place bX7_place 2 (Option.some Jvm.ClassFile.FieldType.int) 1 := ⟨gmk (sm_5 (List.mem_of_getElem? (i := 183) rfl)) rfl, gmk (sm_1 (List.mem_of_getElem? (i := 8) (by decide +kernel))) rfl, by decide +kernel, by decide +kernel, by decide +kernel⟩
theorem in_X7_place : Cond.instanceMethod yX7_place ∈ gT := gmk (sm_5 (List.mem_of_getElem? (i := 182) (by decide +kernel))) rfl
theorem se_X7_place : Cond.selects yX7_place.cls yX7_place yX7_place ∈ gT := gm 43 (by decide +kernel) rfl
def yX7_takesTest : MethodName := ⟨zR7, "takesTest", "()Z"⟩
abbrev bX7_takesTest : ByteArray := prog_9_method_27_code
theorem mf_X7_takesTest : MF yX7_takesTest bX7_takesTest 3 (Option.some Jvm.ClassFile.FieldType.boolean) 0 := ⟨gmk (sm_5 (List.mem_of_getElem? (i := 179) rfl)) rfl, gmk (sm_1 (List.mem_of_getElem? (i := 8) (by decide +kernel))) rfl, by decide +kernel, by decide +kernel, by decide +kernel⟩
theorem in_X7_takesTest : Cond.instanceMethod yX7_takesTest ∈ gT := gmk (sm_5 (List.mem_of_getElem? (i := 178) (by decide +kernel))) rfl
theorem se_X7_takesTest : Cond.selects yX7_takesTest.cls yX7_takesTest yX7_takesTest ∈ gT := gm 42 (by decide +kernel) rfl
def yX7_takesE : MethodName := ⟨zR7, "takesE", "(I)Z"⟩
abbrev bX7_takesE : ByteArray := prog_9_method_28_code
theorem mf_X7_takesE : MF yX7_takesE bX7_takesE 4 (Option.some Jvm.ClassFile.FieldType.boolean) 1 := ⟨gmk (sm_5 (List.mem_of_getElem? (i := 175) rfl)) rfl, gmk (sm_1 (List.mem_of_getElem? (i := 8) (by decide +kernel))) rfl, by decide +kernel, by decide +kernel, by decide +kernel⟩
theorem in_X7_takesE : Cond.instanceMethod yX7_takesE ∈ gT := gmk (sm_5 (List.mem_of_getElem? (i := 174) (by decide +kernel))) rfl
theorem se_X7_takesE : Cond.selects yX7_takesE.cls yX7_takesE yX7_takesE ∈ gT := gm 41 (by decide +kernel) rfl
def yX7_takesHead : MethodName := ⟨zR7, "takesHead", "(I)Z"⟩
abbrev bX7_takesHead : ByteArray := prog_9_method_29_code
theorem mf_X7_takesHead : MF yX7_takesHead bX7_takesHead 2 (Option.some Jvm.ClassFile.FieldType.boolean) 1 := ⟨gmk (sm_5 (List.mem_of_getElem? (i := 151) rfl)) rfl, gmk (sm_1 (List.mem_of_getElem? (i := 8) (by decide +kernel))) rfl, by decide +kernel, by decide +kernel, by decide +kernel⟩
theorem in_X7_takesHead : Cond.instanceMethod yX7_takesHead ∈ gT := gmk (sm_5 (List.mem_of_getElem? (i := 150) (by decide +kernel))) rfl
theorem se_X7_takesHead : Cond.selects yX7_takesHead.cls yX7_takesHead yX7_takesHead ∈ gT := gm 35 (by decide +kernel) rfl
def yX7_takesClause : MethodName := ⟨zR7, "takesClause", "(I)Z"⟩
abbrev bX7_takesClause : ByteArray := prog_9_method_30_code
theorem mf_X7_takesClause : MF yX7_takesClause bX7_takesClause 2 (Option.some Jvm.ClassFile.FieldType.boolean) 1 := ⟨gmk (sm_5 (List.mem_of_getElem? (i := 147) rfl)) rfl, gmk (sm_1 (List.mem_of_getElem? (i := 8) (by decide +kernel))) rfl, by decide +kernel, by decide +kernel, by decide +kernel⟩
theorem in_X7_takesClause : Cond.instanceMethod yX7_takesClause ∈ gT := gmk (sm_5 (List.mem_of_getElem? (i := 146) (by decide +kernel))) rfl
theorem se_X7_takesClause : Cond.selects yX7_takesClause.cls yX7_takesClause yX7_takesClause ∈ gT := gm 34 (by decide +kernel) rfl
def yX7_goesText : MethodName := ⟨zR7, "goesText", "(I)Z"⟩
abbrev bX7_goesText : ByteArray := prog_9_method_31_code
theorem mf_X7_goesText : MF yX7_goesText bX7_goesText 3 (Option.some Jvm.ClassFile.FieldType.boolean) 1 := ⟨gmk (sm_5 (List.mem_of_getElem? (i := 143) rfl)) rfl, gmk (sm_1 (List.mem_of_getElem? (i := 8) (by decide +kernel))) rfl, by decide +kernel, by decide +kernel, by decide +kernel⟩
theorem in_X7_goesText : Cond.instanceMethod yX7_goesText ∈ gT := gmk (sm_5 (List.mem_of_getElem? (i := 142) (by decide +kernel))) rfl
theorem se_X7_goesText : Cond.selects yX7_goesText.cls yX7_goesText yX7_goesText ∈ gT := gm 33 (by decide +kernel) rfl
def yX7_country : MethodName := ⟨zR7, "country", "()I"⟩
abbrev bX7_country : ByteArray := prog_9_method_32_code
theorem mf_X7_country : MF yX7_country bX7_country 2 (Option.some Jvm.ClassFile.FieldType.int) 0 := ⟨gmk (sm_5 (List.mem_of_getElem? (i := 139) rfl)) rfl, gmk (sm_1 (List.mem_of_getElem? (i := 8) (by decide +kernel))) rfl, by decide +kernel, by decide +kernel, by decide +kernel⟩
theorem in_X7_country : Cond.instanceMethod yX7_country ∈ gT := gmk (sm_5 (List.mem_of_getElem? (i := 137) (by decide +kernel))) rfl
theorem se_X7_country : Cond.selects yX7_country.cls yX7_country yX7_country ∈ gT := gmk (sm_5 (List.mem_of_getElem? (i := 138) (by decide +kernel))) rfl
def yX7_begin : MethodName := ⟨zR7, "begin", "()I"⟩
abbrev bX7_begin : ByteArray := prog_9_method_33_code
theorem mf_X7_begin : MF yX7_begin bX7_begin 1 (Option.some Jvm.ClassFile.FieldType.int) 0 := ⟨gmk (sm_5 (List.mem_of_getElem? (i := 207) rfl)) rfl, gmk (sm_1 (List.mem_of_getElem? (i := 8) (by decide +kernel))) rfl, by decide +kernel, by decide +kernel, by decide +kernel⟩
theorem in_X7_begin : Cond.instanceMethod yX7_begin ∈ gT := gmk (sm_5 (List.mem_of_getElem? (i := 206) (by decide +kernel))) rfl
theorem se_X7_begin : Cond.selects yX7_begin.cls yX7_begin yX7_begin ∈ gT := gm 48 (by decide +kernel) rfl
def yX7_behind : MethodName := ⟨zR7, "behind", "()I"⟩
abbrev bX7_behind : ByteArray := prog_9_method_34_code
theorem mf_X7_behind : MF yX7_behind bX7_behind 1 (Option.some Jvm.ClassFile.FieldType.int) 0 := ⟨gmk (sm_5 (List.mem_of_getElem? (i := 211) rfl)) rfl, gmk (sm_1 (List.mem_of_getElem? (i := 8) (by decide +kernel))) rfl, by decide +kernel, by decide +kernel, by decide +kernel⟩
theorem in_X7_behind : Cond.instanceMethod yX7_behind ∈ gT := gmk (sm_5 (List.mem_of_getElem? (i := 210) (by decide +kernel))) rfl
theorem se_X7_behind : Cond.selects yX7_behind.cls yX7_behind yX7_behind ∈ gT := gm 49 (by decide +kernel) rfl
def yX7_lastOf : MethodName := ⟨zR7, "lastOf", "(II)I"⟩
abbrev bX7_lastOf : ByteArray := prog_9_method_35_code
theorem mf_X7_lastOf : MF yX7_lastOf bX7_lastOf 5 (Option.some Jvm.ClassFile.FieldType.int) 2 := ⟨gmk (sm_5 (List.mem_of_getElem? (i := 231) rfl)) rfl, gmk (sm_1 (List.mem_of_getElem? (i := 8) (by decide +kernel))) rfl, by decide +kernel, by decide +kernel, by decide +kernel⟩
theorem in_X7_lastOf : Cond.instanceMethod yX7_lastOf ∈ gT := gmk (sm_5 (List.mem_of_getElem? (i := 230) (by decide +kernel))) rfl
theorem se_X7_lastOf : Cond.selects yX7_lastOf.cls yX7_lastOf yX7_lastOf ∈ gT := gm 54 (by decide +kernel) rfl
def yX7_mark : MethodName := ⟨zR7, "mark", "()I"⟩
abbrev bX7_mark : ByteArray := prog_9_method_36_code
theorem mf_X7_mark : MF yX7_mark bX7_mark 1 (Option.some Jvm.ClassFile.FieldType.int) 0 := ⟨gmk (sm_5 (List.mem_of_getElem? (i := 227) rfl)) rfl, gmk (sm_1 (List.mem_of_getElem? (i := 8) (by decide +kernel))) rfl, by decide +kernel, by decide +kernel, by decide +kernel⟩
theorem in_X7_mark : Cond.instanceMethod yX7_mark ∈ gT := gmk (sm_5 (List.mem_of_getElem? (i := 226) (by decide +kernel))) rfl
theorem se_X7_mark : Cond.selects yX7_mark.cls yX7_mark yX7_mark ∈ gT := gm 53 (by decide +kernel) rfl
def yX7_factOf : MethodName := ⟨zR7, "factOf", "(II)I"⟩
abbrev bX7_factOf : ByteArray := prog_9_method_37_code
theorem mf_X7_factOf : MF yX7_factOf bX7_factOf 3 (Option.some Jvm.ClassFile.FieldType.int) 2 := ⟨gmk (sm_5 (List.mem_of_getElem? (i := 219) rfl)) rfl, gmk (sm_1 (List.mem_of_getElem? (i := 8) (by decide +kernel))) rfl, by decide +kernel, by decide +kernel, by decide +kernel⟩
theorem in_X7_factOf : Cond.instanceMethod yX7_factOf ∈ gT := gmk (sm_5 (List.mem_of_getElem? (i := 218) (by decide +kernel))) rfl
theorem se_X7_factOf : Cond.selects yX7_factOf.cls yX7_factOf yX7_factOf ∈ gT := gm 51 (by decide +kernel) rfl
def yX7_holds : MethodName := ⟨zR7, "holds", "(II)Z"⟩
abbrev bX7_holds : ByteArray := prog_9_method_38_code
theorem mf_X7_holds : MF yX7_holds bX7_holds 8 (Option.some Jvm.ClassFile.FieldType.boolean) 2 := ⟨gmk (sm_5 (List.mem_of_getElem? (i := 215) rfl)) rfl, gmk (sm_1 (List.mem_of_getElem? (i := 8) (by decide +kernel))) rfl, by decide +kernel, by decide +kernel, by decide +kernel⟩
theorem in_X7_holds : Cond.instanceMethod yX7_holds ∈ gT := gmk (sm_5 (List.mem_of_getElem? (i := 214) (by decide +kernel))) rfl
theorem se_X7_holds : Cond.selects yX7_holds.cls yX7_holds yX7_holds ∈ gT := gm 50 (by decide +kernel) rfl
def yX7_rate : MethodName := ⟨zR7, "rate", "(I)I"⟩
abbrev bX7_rate : ByteArray := prog_9_method_39_code
theorem mf_X7_rate : MF yX7_rate bX7_rate 4 (Option.some Jvm.ClassFile.FieldType.int) 1 := ⟨gmk (sm_5 (List.mem_of_getElem? (i := 203) rfl)) rfl, gmk (sm_1 (List.mem_of_getElem? (i := 8) (by decide +kernel))) rfl, by decide +kernel, by decide +kernel, by decide +kernel⟩
theorem in_X7_rate : Cond.instanceMethod yX7_rate ∈ gT := gmk (sm_5 (List.mem_of_getElem? (i := 202) (by decide +kernel))) rfl
theorem se_X7_rate : Cond.selects yX7_rate.cls yX7_rate yX7_rate ∈ gT := gm 47 (by decide +kernel) rfl
def yX7_asks : MethodName := ⟨zR7, "asks", "(I)I"⟩
abbrev bX7_asks : ByteArray := prog_9_method_40_code
theorem mf_X7_asks : MF yX7_asks bX7_asks 3 (Option.some Jvm.ClassFile.FieldType.int) 1 := ⟨gmk (sm_5 (List.mem_of_getElem? (i := 223) rfl)) rfl, gmk (sm_1 (List.mem_of_getElem? (i := 8) (by decide +kernel))) rfl, by decide +kernel, by decide +kernel, by decide +kernel⟩
theorem in_X7_asks : Cond.instanceMethod yX7_asks ∈ gT := gmk (sm_5 (List.mem_of_getElem? (i := 222) (by decide +kernel))) rfl
theorem se_X7_asks : Cond.selects yX7_asks.cls yX7_asks yX7_asks ∈ gT := gm 52 (by decide +kernel) rfl
def yX7_keeps : MethodName := ⟨zR7, "keeps", "(I)I"⟩
abbrev bX7_keeps : ByteArray := prog_9_method_41_code
theorem mf_X7_keeps : MF yX7_keeps bX7_keeps 2 (Option.some Jvm.ClassFile.FieldType.int) 1 := ⟨gmk (sm_5 (List.mem_of_getElem? (i := 235) rfl)) rfl, gmk (sm_1 (List.mem_of_getElem? (i := 8) (by decide +kernel))) rfl, by decide +kernel, by decide +kernel, by decide +kernel⟩
theorem in_X7_keeps : Cond.instanceMethod yX7_keeps ∈ gT := gmk (sm_5 (List.mem_of_getElem? (i := 234) (by decide +kernel))) rfl
theorem se_X7_keeps : Cond.selects yX7_keeps.cls yX7_keeps yX7_keeps ∈ gT := gm 55 (by decide +kernel) rfl
def yX7_staysAway : MethodName := ⟨zR7, "staysAway", "(I)Z"⟩
abbrev bX7_staysAway : ByteArray := prog_9_method_42_code
theorem mf_X7_staysAway : MF yX7_staysAway bX7_staysAway 2 (Option.some Jvm.ClassFile.FieldType.boolean) 1 := ⟨gmk (sm_5 (List.mem_of_getElem? (i := 239) rfl)) rfl, gmk (sm_1 (List.mem_of_getElem? (i := 8) (by decide +kernel))) rfl, by decide +kernel, by decide +kernel, by decide +kernel⟩
theorem in_X7_staysAway : Cond.instanceMethod yX7_staysAway ∈ gT := gmk (sm_5 (List.mem_of_getElem? (i := 238) (by decide +kernel))) rfl
theorem se_X7_staysAway : Cond.selects yX7_staysAway.cls yX7_staysAway yX7_staysAway ∈ gT := gm 56 (by decide +kernel) rfl
def yX7_brings : MethodName := ⟨zR7, "brings", "(I)I"⟩
abbrev bX7_brings : ByteArray := prog_9_method_43_code
theorem mf_X7_brings : MF yX7_brings bX7_brings 2 (Option.some Jvm.ClassFile.FieldType.int) 1 := ⟨gmk (sm_6 (List.mem_of_getElem? (i := 3) rfl)) rfl, gmk (sm_1 (List.mem_of_getElem? (i := 8) (by decide +kernel))) rfl, by decide +kernel, by decide +kernel, by decide +kernel⟩
theorem in_X7_brings : Cond.instanceMethod yX7_brings ∈ gT := gmk (sm_6 (List.mem_of_getElem? (i := 2) (by decide +kernel))) rfl
theorem se_X7_brings : Cond.selects yX7_brings.cls yX7_brings yX7_brings ∈ gT := gm 57 (by decide +kernel) rfl
def yX7_of : MethodName := ⟨zR7, "of", "(II)I"⟩
abbrev bX7_of : ByteArray := prog_9_method_44_code
theorem mf_X7_of : MF yX7_of bX7_of 3 (Option.some Jvm.ClassFile.FieldType.int) 2 := ⟨gmk (sm_5 (List.mem_of_getElem? (i := 199) rfl)) rfl, gmk (sm_1 (List.mem_of_getElem? (i := 8) (by decide +kernel))) rfl, by decide +kernel, by decide +kernel, by decide +kernel⟩
theorem in_X7_of : Cond.instanceMethod yX7_of ∈ gT := gmk (sm_5 (List.mem_of_getElem? (i := 197) (by decide +kernel))) rfl
theorem se_X7_of : Cond.selects yX7_of.cls yX7_of yX7_of ∈ gT := gmk (sm_5 (List.mem_of_getElem? (i := 198) (by decide +kernel))) rfl
def yX7_allOwes : MethodName := ⟨zR7, "allOwes", "()I"⟩
abbrev bX7_allOwes : ByteArray := prog_9_method_45_code
theorem mf_X7_allOwes : MF yX7_allOwes bX7_allOwes 3 (Option.some Jvm.ClassFile.FieldType.int) 0 := ⟨gmk (sm_6 (List.mem_of_getElem? (i := 11) rfl)) rfl, gmk (sm_1 (List.mem_of_getElem? (i := 8) (by decide +kernel))) rfl, by decide +kernel, by decide +kernel, by decide +kernel⟩
theorem in_X7_allOwes : Cond.instanceMethod yX7_allOwes ∈ gT := gmk (sm_6 (List.mem_of_getElem? (i := 10) (by decide +kernel))) rfl
theorem se_X7_allOwes : Cond.selects yX7_allOwes.cls yX7_allOwes yX7_allOwes ∈ gT := gm 58 (by decide +kernel) rfl
def yX7_told : MethodName := ⟨zR7, "told", "(I)I"⟩
abbrev bX7_told : ByteArray := prog_9_method_46_code
theorem mf_X7_told : MF yX7_told bX7_told 2 (Option.some Jvm.ClassFile.FieldType.int) 1 := ⟨gmk (sm_6 (List.mem_of_getElem? (i := 7) rfl)) rfl, gmk (sm_1 (List.mem_of_getElem? (i := 8) (by decide +kernel))) rfl, by decide +kernel, by decide +kernel, by decide +kernel⟩
theorem in_X7_told : Cond.instanceMethod yX7_told ∈ gT := gmk (sm_6 (List.mem_of_getElem? (i := 5) (by decide +kernel))) rfl
theorem se_X7_told : Cond.selects yX7_told.cls yX7_told yX7_told ∈ gT := gmk (sm_6 (List.mem_of_getElem? (i := 6) (by decide +kernel))) rfl
def yX7_goHaving : MethodName := ⟨zR7, "goHaving", "(I)V"⟩
abbrev bX7_goHaving : ByteArray := prog_9_method_47_code
theorem mf_X7_goHaving : MF yX7_goHaving bX7_goHaving 2 (Option.none : Option Jvm.ClassFile.FieldType) 1 := ⟨gmk (sm_6 (List.mem_of_getElem? (i := 31) rfl)) rfl, gmk (sm_1 (List.mem_of_getElem? (i := 8) (by decide +kernel))) rfl, by decide +kernel, by decide +kernel, by decide +kernel⟩
theorem in_X7_goHaving : Cond.instanceMethod yX7_goHaving ∈ gT := gmk (sm_6 (List.mem_of_getElem? (i := 30) (by decide +kernel))) rfl
theorem se_X7_goHaving : Cond.selects yX7_goHaving.cls yX7_goHaving yX7_goHaving ∈ gT := gm 62 (by decide +kernel) rfl
def yX7_goAsking : MethodName := ⟨zR7, "goAsking", "(I)V"⟩
abbrev bX7_goAsking : ByteArray := prog_9_method_48_code
theorem mf_X7_goAsking : MF yX7_goAsking bX7_goAsking 3 (Option.none : Option Jvm.ClassFile.FieldType) 1 := ⟨gmk (sm_6 (List.mem_of_getElem? (i := 36) rfl)) rfl, gmk (sm_1 (List.mem_of_getElem? (i := 8) (by decide +kernel))) rfl, by decide +kernel, by decide +kernel, by decide +kernel⟩
theorem in_X7_goAsking : Cond.instanceMethod yX7_goAsking ∈ gT := gmk (sm_6 (List.mem_of_getElem? (i := 35) (by decide +kernel))) rfl
theorem se_X7_goAsking : Cond.selects yX7_goAsking.cls yX7_goAsking yX7_goAsking ∈ gT := gm 63 (by decide +kernel) rfl
def yX7_goDay : MethodName := ⟨zR7, "goDay", "()V"⟩
abbrev bX7_goDay : ByteArray := prog_9_method_49_code
theorem mf_X7_goDay : MF yX7_goDay bX7_goDay 2 (Option.none : Option Jvm.ClassFile.FieldType) 0 := ⟨gmk (sm_6 (List.mem_of_getElem? (i := 27) rfl)) rfl, gmk (sm_1 (List.mem_of_getElem? (i := 8) (by decide +kernel))) rfl, by decide +kernel, by decide +kernel, by decide +kernel⟩
theorem in_X7_goDay : Cond.instanceMethod yX7_goDay ∈ gT := gmk (sm_6 (List.mem_of_getElem? (i := 26) (by decide +kernel))) rfl
theorem se_X7_goDay : Cond.selects yX7_goDay.cls yX7_goDay yX7_goDay ∈ gT := gm 61 (by decide +kernel) rfl
def yX7_goDays : MethodName := ⟨zR7, "goDays", "(I)V"⟩
abbrev bX7_goDays : ByteArray := prog_9_method_50_code
theorem mf_X7_goDays : MF yX7_goDays bX7_goDays 3 (Option.none : Option Jvm.ClassFile.FieldType) 1 := ⟨gmk (sm_6 (List.mem_of_getElem? (i := 23) rfl)) rfl, gmk (sm_1 (List.mem_of_getElem? (i := 8) (by decide +kernel))) rfl, by decide +kernel, by decide +kernel, by decide +kernel⟩
theorem in_X7_goDays : Cond.instanceMethod yX7_goDays ∈ gT := gmk (sm_6 (List.mem_of_getElem? (i := 22) (by decide +kernel))) rfl
theorem se_X7_goDays : Cond.selects yX7_goDays.cls yX7_goDays yX7_goDays ∈ gT := gm 60 (by decide +kernel) rfl
def yX7_pass : MethodName := ⟨zR7, "pass", "(I)I"⟩
abbrev bX7_pass : ByteArray := prog_9_method_51_code
theorem mf_X7_pass : MF yX7_pass bX7_pass 2 (Option.some Jvm.ClassFile.FieldType.int) 1 := ⟨gmk (sm_6 (List.mem_of_getElem? (i := 15) rfl)) rfl, gmk (sm_1 (List.mem_of_getElem? (i := 8) (by decide +kernel))) rfl, by decide +kernel, by decide +kernel, by decide +kernel⟩
theorem in_X7_pass : Cond.instanceMethod yX7_pass ∈ gT := gmk (sm_6 (List.mem_of_getElem? (i := 13) (by decide +kernel))) rfl
theorem se_X7_pass : Cond.selects yX7_pass.cls yX7_pass yX7_pass ∈ gT := gmk (sm_6 (List.mem_of_getElem? (i := 14) (by decide +kernel))) rfl
def yX7_save : MethodName := ⟨zR7, "save", "()V"⟩
abbrev bX7_save : ByteArray := prog_9_method_52_code
theorem mf_X7_save : MF yX7_save bX7_save 2 (Option.none : Option Jvm.ClassFile.FieldType) 0 := ⟨gmk (sm_6 (List.mem_of_getElem? (i := 44) rfl)) rfl, gmk (sm_1 (List.mem_of_getElem? (i := 8) (by decide +kernel))) rfl, by decide +kernel, by decide +kernel, by decide +kernel⟩
theorem in_X7_save : Cond.instanceMethod yX7_save ∈ gT := gmk (sm_6 (List.mem_of_getElem? (i := 43) (by decide +kernel))) rfl
theorem se_X7_save : Cond.selects yX7_save.cls yX7_save yX7_save ∈ gT := gm 64 (by decide +kernel) rfl
def yX7_putBack : MethodName := ⟨zR7, "putBack", "()V"⟩
abbrev bX7_putBack : ByteArray := prog_9_method_53_code
theorem mf_X7_putBack : MF yX7_putBack bX7_putBack 2 (Option.none : Option Jvm.ClassFile.FieldType) 0 := ⟨gmk (sm_6 (List.mem_of_getElem? (i := 49) rfl)) rfl, gmk (sm_1 (List.mem_of_getElem? (i := 8) (by decide +kernel))) rfl, by decide +kernel, by decide +kernel, by decide +kernel⟩
theorem in_X7_putBack : Cond.instanceMethod yX7_putBack ∈ gT := gmk (sm_6 (List.mem_of_getElem? (i := 48) (by decide +kernel))) rfl
theorem se_X7_putBack : Cond.selects yX7_putBack.cls yX7_putBack yX7_putBack ∈ gT := gm 65 (by decide +kernel) rfl
def yX7_on : MethodName := ⟨zR7, "on", "(II)I"⟩
abbrev bX7_on : ByteArray := prog_9_method_54_code
theorem mf_X7_on : MF yX7_on bX7_on 4 (Option.some Jvm.ClassFile.FieldType.int) 2 := ⟨gmk (sm_6 (List.mem_of_getElem? (i := 40) rfl)) rfl, gmk (sm_1 (List.mem_of_getElem? (i := 8) (by decide +kernel))) rfl, by decide +kernel, by decide +kernel, by decide +kernel⟩
theorem in_X7_on : Cond.instanceMethod yX7_on ∈ gT := gmk (sm_6 (List.mem_of_getElem? (i := 38) (by decide +kernel))) rfl
theorem se_X7_on : Cond.selects yX7_on.cls yX7_on yX7_on ∈ gT := gmk (sm_6 (List.mem_of_getElem? (i := 39) (by decide +kernel))) rfl
def yX7_lowest : MethodName := ⟨zR7, "lowest", "(II)I"⟩
abbrev bX7_lowest : ByteArray := prog_9_method_55_code
theorem mf_X7_lowest : MF yX7_lowest bX7_lowest 6 (Option.some Jvm.ClassFile.FieldType.int) 2 := ⟨gmk (sm_6 (List.mem_of_getElem? (i := 53) rfl)) rfl, gmk (sm_1 (List.mem_of_getElem? (i := 8) (by decide +kernel))) rfl, by decide +kernel, by decide +kernel, by decide +kernel⟩
theorem in_X7_lowest : Cond.instanceMethod yX7_lowest ∈ gT := gmk (sm_6 (List.mem_of_getElem? (i := 51) (by decide +kernel))) rfl
theorem se_X7_lowest : Cond.selects yX7_lowest.cls yX7_lowest yX7_lowest ∈ gT := gmk (sm_6 (List.mem_of_getElem? (i := 52) (by decide +kernel))) rfl
def yX7_first : MethodName := ⟨zR7, "first", "()I"⟩
abbrev bX7_first : ByteArray := prog_9_method_56_code
theorem mf_X7_first : MF yX7_first bX7_first 3 (Option.some Jvm.ClassFile.FieldType.int) 0 := ⟨gmk (sm_6 (List.mem_of_getElem? (i := 57) rfl)) rfl, gmk (sm_1 (List.mem_of_getElem? (i := 8) (by decide +kernel))) rfl, by decide +kernel, by decide +kernel, by decide +kernel⟩
theorem in_X7_first : Cond.instanceMethod yX7_first ∈ gT := gmk (sm_6 (List.mem_of_getElem? (i := 55) (by decide +kernel))) rfl
theorem se_X7_first : Cond.selects yX7_first.cls yX7_first yX7_first ∈ gT := gmk (sm_6 (List.mem_of_getElem? (i := 56) (by decide +kernel))) rfl
def yX7_turnedThen : MethodName := ⟨zR7, "turnedThen", "()I"⟩
abbrev bX7_turnedThen : ByteArray := prog_9_method_57_code
theorem mf_X7_turnedThen : MF yX7_turnedThen bX7_turnedThen 2 (Option.some Jvm.ClassFile.FieldType.int) 0 := ⟨gmk (sm_6 (List.mem_of_getElem? (i := 73) rfl)) rfl, gmk (sm_1 (List.mem_of_getElem? (i := 8) (by decide +kernel))) rfl, by decide +kernel, by decide +kernel, by decide +kernel⟩
theorem in_X7_turnedThen : Cond.instanceMethod yX7_turnedThen ∈ gT := gmk (sm_6 (List.mem_of_getElem? (i := 72) (by decide +kernel))) rfl
theorem se_X7_turnedThen : Cond.selects yX7_turnedThen.cls yX7_turnedThen yX7_turnedThen ∈ gT := gm 68 (by decide +kernel) rfl
def yX7_turned : MethodName := ⟨zR7, "turned", "()I"⟩
abbrev bX7_turned : ByteArray := prog_9_method_58_code
theorem mf_X7_turned : MF yX7_turned bX7_turned 1 (Option.some Jvm.ClassFile.FieldType.int) 0 := ⟨gmk (sm_6 (List.mem_of_getElem? (i := 69) rfl)) rfl, gmk (sm_1 (List.mem_of_getElem? (i := 8) (by decide +kernel))) rfl, by decide +kernel, by decide +kernel, by decide +kernel⟩
theorem in_X7_turned : Cond.instanceMethod yX7_turned ∈ gT := gmk (sm_6 (List.mem_of_getElem? (i := 68) (by decide +kernel))) rfl
theorem se_X7_turned : Cond.selects yX7_turned.cls yX7_turned yX7_turned ∈ gT := gm 67 (by decide +kernel) rfl
def yX7_callOf : MethodName := ⟨zR7, "callOf", "()I"⟩
abbrev bX7_callOf : ByteArray := prog_9_method_59_code
theorem mf_X7_callOf : MF yX7_callOf bX7_callOf 5 (Option.some Jvm.ClassFile.FieldType.int) 0 := ⟨gmk (sm_6 (List.mem_of_getElem? (i := 65) rfl)) rfl, gmk (sm_1 (List.mem_of_getElem? (i := 8) (by decide +kernel))) rfl, by decide +kernel, by decide +kernel, by decide +kernel⟩
theorem in_X7_callOf : Cond.instanceMethod yX7_callOf ∈ gT := gmk (sm_6 (List.mem_of_getElem? (i := 64) (by decide +kernel))) rfl
theorem se_X7_callOf : Cond.selects yX7_callOf.cls yX7_callOf yX7_callOf ∈ gT := gm 66 (by decide +kernel) rfl
def yX7_aheadOf : MethodName := ⟨zR7, "aheadOf", "()I"⟩
abbrev bX7_aheadOf : ByteArray := prog_9_method_60_code
theorem mf_X7_aheadOf : MF yX7_aheadOf bX7_aheadOf 6 (Option.some Jvm.ClassFile.FieldType.int) 0 := ⟨gmk (sm_6 (List.mem_of_getElem? (i := 77) rfl)) rfl, gmk (sm_1 (List.mem_of_getElem? (i := 8) (by decide +kernel))) rfl, by decide +kernel, by decide +kernel, by decide +kernel⟩
theorem in_X7_aheadOf : Cond.instanceMethod yX7_aheadOf ∈ gT := gmk (sm_6 (List.mem_of_getElem? (i := 76) (by decide +kernel))) rfl
theorem se_X7_aheadOf : Cond.selects yX7_aheadOf.cls yX7_aheadOf yX7_aheadOf ∈ gT := gm 69 (by decide +kernel) rfl
def yX7_markOf : MethodName := ⟨zR7, "markOf", "()I"⟩
abbrev bX7_markOf : ByteArray := prog_9_method_61_code
theorem mf_X7_markOf : MF yX7_markOf bX7_markOf 5 (Option.some Jvm.ClassFile.FieldType.int) 0 := ⟨gmk (sm_6 (List.mem_of_getElem? (i := 81) rfl)) rfl, gmk (sm_1 (List.mem_of_getElem? (i := 8) (by decide +kernel))) rfl, by decide +kernel, by decide +kernel, by decide +kernel⟩
theorem in_X7_markOf : Cond.instanceMethod yX7_markOf ∈ gT := gmk (sm_6 (List.mem_of_getElem? (i := 80) (by decide +kernel))) rfl
theorem se_X7_markOf : Cond.selects yX7_markOf.cls yX7_markOf yX7_markOf ∈ gT := gm 70 (by decide +kernel) rfl
def yX7_best : MethodName := ⟨zR7, "best", "(I)I"⟩
abbrev bX7_best : ByteArray := prog_9_method_62_code
theorem mf_X7_best : MF yX7_best bX7_best 2 (Option.some Jvm.ClassFile.FieldType.int) 1 := ⟨gmk (sm_6 (List.mem_of_getElem? (i := 61) rfl)) rfl, gmk (sm_1 (List.mem_of_getElem? (i := 8) (by decide +kernel))) rfl, by decide +kernel, by decide +kernel, by decide +kernel⟩
theorem in_X7_best : Cond.instanceMethod yX7_best ∈ gT := gmk (sm_6 (List.mem_of_getElem? (i := 59) (by decide +kernel))) rfl
theorem se_X7_best : Cond.selects yX7_best.cls yX7_best yX7_best ∈ gT := gmk (sm_6 (List.mem_of_getElem? (i := 60) (by decide +kernel))) rfl
def yX7_seldom : MethodName := ⟨zR7, "seldom", "(I)I"⟩
abbrev bX7_seldom : ByteArray := prog_9_method_63_code
theorem mf_X7_seldom : MF yX7_seldom bX7_seldom 6 (Option.some Jvm.ClassFile.FieldType.int) 1 := ⟨gmk (sm_6 (List.mem_of_getElem? (i := 85) rfl)) rfl, gmk (sm_1 (List.mem_of_getElem? (i := 8) (by decide +kernel))) rfl, by decide +kernel, by decide +kernel, by decide +kernel⟩
theorem in_X7_seldom : Cond.instanceMethod yX7_seldom ∈ gT := gmk (sm_6 (List.mem_of_getElem? (i := 83) (by decide +kernel))) rfl
theorem se_X7_seldom : Cond.selects yX7_seldom.cls yX7_seldom yX7_seldom ∈ gT := gmk (sm_6 (List.mem_of_getElem? (i := 84) (by decide +kernel))) rfl
def yX7_more : MethodName := ⟨zR7, "more", "(I)I"⟩
abbrev bX7_more : ByteArray := prog_9_method_64_code
theorem mf_X7_more : MF yX7_more bX7_more 4 (Option.some Jvm.ClassFile.FieldType.int) 1 := ⟨gmk (sm_6 (List.mem_of_getElem? (i := 89) rfl)) rfl, gmk (sm_1 (List.mem_of_getElem? (i := 8) (by decide +kernel))) rfl, by decide +kernel, by decide +kernel, by decide +kernel⟩
theorem in_X7_more : Cond.instanceMethod yX7_more ∈ gT := gmk (sm_6 (List.mem_of_getElem? (i := 87) (by decide +kernel))) rfl
theorem se_X7_more : Cond.selects yX7_more.cls yX7_more yX7_more ∈ gT := gmk (sm_6 (List.mem_of_getElem? (i := 88) (by decide +kernel))) rfl
def yX7_see : MethodName := ⟨zR7, "see", "(II)I"⟩
abbrev bX7_see : ByteArray := prog_9_method_65_code
theorem mf_X7_see : MF yX7_see bX7_see 3 (Option.some Jvm.ClassFile.FieldType.int) 2 := ⟨gmk (sm_6 (List.mem_of_getElem? (i := 93) rfl)) rfl, gmk (sm_1 (List.mem_of_getElem? (i := 8) (by decide +kernel))) rfl, by decide +kernel, by decide +kernel, by decide +kernel⟩
theorem in_X7_see : Cond.instanceMethod yX7_see ∈ gT := gmk (sm_6 (List.mem_of_getElem? (i := 91) (by decide +kernel))) rfl
theorem se_X7_see : Cond.selects yX7_see.cls yX7_see yX7_see ∈ gT := gmk (sm_6 (List.mem_of_getElem? (i := 92) (by decide +kernel))) rfl
def yX7_isSeen : MethodName := ⟨zR7, "isSeen", "()Z"⟩
abbrev bX7_isSeen : ByteArray := prog_9_method_66_code
theorem mf_X7_isSeen : MF yX7_isSeen bX7_isSeen 3 (Option.some Jvm.ClassFile.FieldType.boolean) 0 := ⟨gmk (sm_6 (List.mem_of_getElem? (i := 101) rfl)) rfl, gmk (sm_1 (List.mem_of_getElem? (i := 8) (by decide +kernel))) rfl, by decide +kernel, by decide +kernel, by decide +kernel⟩
theorem in_X7_isSeen : Cond.instanceMethod yX7_isSeen ∈ gT := gmk (sm_6 (List.mem_of_getElem? (i := 100) (by decide +kernel))) rfl
theorem se_X7_isSeen : Cond.selects yX7_isSeen.cls yX7_isSeen yX7_isSeen ∈ gT := gm 71 (by decide +kernel) rfl
def yX7_wanted : MethodName := ⟨zR7, "wanted", "(II)I"⟩
abbrev bX7_wanted : ByteArray := prog_9_method_67_code
theorem mf_X7_wanted : MF yX7_wanted bX7_wanted 7 (Option.some Jvm.ClassFile.FieldType.int) 2 := ⟨gmk (sm_6 (List.mem_of_getElem? (i := 97) rfl)) rfl, gmk (sm_1 (List.mem_of_getElem? (i := 8) (by decide +kernel))) rfl, by decide +kernel, by decide +kernel, by decide +kernel⟩
theorem in_X7_wanted : Cond.instanceMethod yX7_wanted ∈ gT := gmk (sm_6 (List.mem_of_getElem? (i := 95) (by decide +kernel))) rfl
theorem se_X7_wanted : Cond.selects yX7_wanted.cls yX7_wanted yX7_wanted ∈ gT := gmk (sm_6 (List.mem_of_getElem? (i := 96) (by decide +kernel))) rfl
def yX7_can : MethodName := ⟨zR7, "can", "(II)I"⟩
abbrev bX7_can : ByteArray := prog_9_method_68_code
theorem mf_X7_can : MF yX7_can bX7_can 7 (Option.some Jvm.ClassFile.FieldType.int) 2 := ⟨gmk (sm_6 (List.mem_of_getElem? (i := 105) rfl)) rfl, gmk (sm_1 (List.mem_of_getElem? (i := 8) (by decide +kernel))) rfl, by decide +kernel, by decide +kernel, by decide +kernel⟩
theorem in_X7_can : Cond.instanceMethod yX7_can ∈ gT := gmk (sm_6 (List.mem_of_getElem? (i := 103) (by decide +kernel))) rfl
theorem se_X7_can : Cond.selects yX7_can.cls yX7_can yX7_can ∈ gT := gmk (sm_6 (List.mem_of_getElem? (i := 104) (by decide +kernel))) rfl
def yX7_divisor : MethodName := ⟨zR7, "divisor", "(II)I"⟩
abbrev bX7_divisor : ByteArray := prog_9_method_69_code
theorem mf_X7_divisor : MF yX7_divisor bX7_divisor 6 (Option.some Jvm.ClassFile.FieldType.int) 2 := ⟨gmk (sm_6 (List.mem_of_getElem? (i := 118) rfl)) rfl, gmk (sm_1 (List.mem_of_getElem? (i := 8) (by decide +kernel))) rfl, by decide +kernel, by decide +kernel, by decide +kernel⟩
theorem in_X7_divisor : Cond.instanceMethod yX7_divisor ∈ gT := gmk (sm_6 (List.mem_of_getElem? (i := 117) (by decide +kernel))) rfl
theorem se_X7_divisor : Cond.selects yX7_divisor.cls yX7_divisor yX7_divisor ∈ gT := gm 73 (by decide +kernel) rfl
def yX7_lowest_ : MethodName := ⟨zR7, "lowest", "(III)J"⟩
abbrev bX7_lowest_ : ByteArray := prog_9_method_70_code
theorem mf_X7_lowest_ : MF yX7_lowest_ bX7_lowest_ 5 (Option.some Jvm.ClassFile.FieldType.long) 3 := ⟨gmk (sm_6 (List.mem_of_getElem? (i := 114) rfl)) rfl, gmk (sm_1 (List.mem_of_getElem? (i := 8) (by decide +kernel))) rfl, by decide +kernel, by decide +kernel, by decide +kernel⟩
theorem in_X7_lowest_ : Cond.instanceMethod yX7_lowest_ ∈ gT := gmk (sm_6 (List.mem_of_getElem? (i := 113) (by decide +kernel))) rfl
theorem se_X7_lowest_ : Cond.selects yX7_lowest_.cls yX7_lowest_ yX7_lowest_ ∈ gT := gm 72 (by decide +kernel) rfl
def yX7_odds : MethodName := ⟨zR7, "odds", "(II)J"⟩
abbrev bX7_odds : ByteArray := prog_9_method_71_code
theorem mf_X7_odds : MF yX7_odds bX7_odds 5 (Option.some Jvm.ClassFile.FieldType.long) 2 := ⟨gmk (sm_6 (List.mem_of_getElem? (i := 109) rfl)) rfl, gmk (sm_1 (List.mem_of_getElem? (i := 8) (by decide +kernel))) rfl, by decide +kernel, by decide +kernel, by decide +kernel⟩
theorem in_X7_odds : Cond.instanceMethod yX7_odds ∈ gT := gmk (sm_6 (List.mem_of_getElem? (i := 107) (by decide +kernel))) rfl
theorem se_X7_odds : Cond.selects yX7_odds.cls yX7_odds yX7_odds ∈ gT := gmk (sm_6 (List.mem_of_getElem? (i := 108) (by decide +kernel))) rfl
def yX7_mean : MethodName := ⟨zR7, "mean", "(II)J"⟩
abbrev bX7_mean : ByteArray := prog_9_method_72_code
theorem mf_X7_mean : MF yX7_mean bX7_mean 4 (Option.some Jvm.ClassFile.FieldType.long) 2 := ⟨gmk (sm_6 (List.mem_of_getElem? (i := 122) rfl)) rfl, gmk (sm_1 (List.mem_of_getElem? (i := 8) (by decide +kernel))) rfl, by decide +kernel, by decide +kernel, by decide +kernel⟩
theorem in_X7_mean : Cond.instanceMethod yX7_mean ∈ gT := gmk (sm_6 (List.mem_of_getElem? (i := 120) (by decide +kernel))) rfl
theorem se_X7_mean : Cond.selects yX7_mean.cls yX7_mean yX7_mean ∈ gT := gmk (sm_6 (List.mem_of_getElem? (i := 121) (by decide +kernel))) rfl
def yX7_year : MethodName := ⟨zR7, "year", "(II)I"⟩
abbrev bX7_year : ByteArray := prog_9_method_73_code
theorem mf_X7_year : MF yX7_year bX7_year 3 (Option.some Jvm.ClassFile.FieldType.int) 2 := ⟨gmk (sm_6 (List.mem_of_getElem? (i := 126) rfl)) rfl, gmk (sm_1 (List.mem_of_getElem? (i := 8) (by decide +kernel))) rfl, by decide +kernel, by decide +kernel, by decide +kernel⟩
theorem in_X7_year : Cond.instanceMethod yX7_year ∈ gT := gmk (sm_6 (List.mem_of_getElem? (i := 124) (by decide +kernel))) rfl
theorem se_X7_year : Cond.selects yX7_year.cls yX7_year yX7_year ∈ gT := gmk (sm_6 (List.mem_of_getElem? (i := 125) (by decide +kernel))) rfl
def yX7_gone : MethodName := ⟨zR7, "gone", "(I)I"⟩
abbrev bX7_gone : ByteArray := prog_9_method_74_code
theorem mf_X7_gone : MF yX7_gone bX7_gone 3 (Option.some Jvm.ClassFile.FieldType.int) 1 := ⟨gmk (sm_6 (List.mem_of_getElem? (i := 130) rfl)) rfl, gmk (sm_1 (List.mem_of_getElem? (i := 8) (by decide +kernel))) rfl, by decide +kernel, by decide +kernel, by decide +kernel⟩
theorem in_X7_gone : Cond.instanceMethod yX7_gone ∈ gT := gmk (sm_6 (List.mem_of_getElem? (i := 128) (by decide +kernel))) rfl
theorem se_X7_gone : Cond.selects yX7_gone.cls yX7_gone yX7_gone ∈ gT := gmk (sm_6 (List.mem_of_getElem? (i := 129) (by decide +kernel))) rfl
def yX7_book : MethodName := ⟨zR7, "book", "(II)I"⟩
abbrev bX7_book : ByteArray := prog_9_method_75_code
theorem mf_X7_book : MF yX7_book bX7_book 3 (Option.some Jvm.ClassFile.FieldType.int) 2 := ⟨gmk (sm_6 (List.mem_of_getElem? (i := 134) rfl)) rfl, gmk (sm_1 (List.mem_of_getElem? (i := 8) (by decide +kernel))) rfl, by decide +kernel, by decide +kernel, by decide +kernel⟩
theorem in_X7_book : Cond.instanceMethod yX7_book ∈ gT := gmk (sm_6 (List.mem_of_getElem? (i := 132) (by decide +kernel))) rfl
theorem se_X7_book : Cond.selects yX7_book.cls yX7_book yX7_book ∈ gT := gmk (sm_6 (List.mem_of_getElem? (i := 133) (by decide +kernel))) rfl
def yX7_looked : MethodName := ⟨zR7, "looked", "()I"⟩
abbrev bX7_looked : ByteArray := prog_9_method_76_code
theorem mf_X7_looked : MF yX7_looked bX7_looked 2 (Option.some Jvm.ClassFile.FieldType.int) 0 := ⟨gmk (sm_6 (List.mem_of_getElem? (i := 138) rfl)) rfl, gmk (sm_1 (List.mem_of_getElem? (i := 8) (by decide +kernel))) rfl, by decide +kernel, by decide +kernel, by decide +kernel⟩
theorem in_X7_looked : Cond.instanceMethod yX7_looked ∈ gT := gmk (sm_6 (List.mem_of_getElem? (i := 136) (by decide +kernel))) rfl
theorem se_X7_looked : Cond.selects yX7_looked.cls yX7_looked yX7_looked ∈ gT := gmk (sm_6 (List.mem_of_getElem? (i := 137) (by decide +kernel))) rfl
def yX7_judge : MethodName := ⟨zR7, "judge", "(II)I"⟩
abbrev bX7_judge : ByteArray := prog_9_method_77_code
theorem mf_X7_judge : MF yX7_judge bX7_judge 4 (Option.some Jvm.ClassFile.FieldType.int) 2 := ⟨gmk (sm_6 (List.mem_of_getElem? (i := 142) rfl)) rfl, gmk (sm_1 (List.mem_of_getElem? (i := 8) (by decide +kernel))) rfl, by decide +kernel, by decide +kernel, by decide +kernel⟩
theorem in_X7_judge : Cond.instanceMethod yX7_judge ∈ gT := gmk (sm_6 (List.mem_of_getElem? (i := 140) (by decide +kernel))) rfl
theorem se_X7_judge : Cond.selects yX7_judge.cls yX7_judge yX7_judge ∈ gT := gmk (sm_6 (List.mem_of_getElem? (i := 141) (by decide +kernel))) rfl
def yX7_image : MethodName := ⟨zR7, "image", "()I"⟩
abbrev bX7_image : ByteArray := prog_9_method_78_code
theorem mf_X7_image : MF yX7_image bX7_image 2 (Option.some Jvm.ClassFile.FieldType.int) 0 := ⟨gmk (sm_6 (List.mem_of_getElem? (i := 150) rfl)) rfl, gmk (sm_1 (List.mem_of_getElem? (i := 8) (by decide +kernel))) rfl, by decide +kernel, by decide +kernel, by decide +kernel⟩
theorem in_X7_image : Cond.instanceMethod yX7_image ∈ gT := gmk (sm_6 (List.mem_of_getElem? (i := 148) (by decide +kernel))) rfl
theorem se_X7_image : Cond.selects yX7_image.cls yX7_image yX7_image ∈ gT := gmk (sm_6 (List.mem_of_getElem? (i := 149) (by decide +kernel))) rfl
def yX7_undo : MethodName := ⟨zR7, "undo", "()I"⟩
abbrev bX7_undo : ByteArray := prog_9_method_79_code
theorem mf_X7_undo : MF yX7_undo bX7_undo 2 (Option.some Jvm.ClassFile.FieldType.int) 0 := ⟨gmk (sm_6 (List.mem_of_getElem? (i := 154) rfl)) rfl, gmk (sm_1 (List.mem_of_getElem? (i := 8) (by decide +kernel))) rfl, by decide +kernel, by decide +kernel, by decide +kernel⟩
theorem in_X7_undo : Cond.instanceMethod yX7_undo ∈ gT := gmk (sm_6 (List.mem_of_getElem? (i := 152) (by decide +kernel))) rfl
theorem se_X7_undo : Cond.selects yX7_undo.cls yX7_undo yX7_undo ∈ gT := gmk (sm_6 (List.mem_of_getElem? (i := 153) (by decide +kernel))) rfl
def yX7_body : MethodName := ⟨zR7, "body", "(I)V"⟩
abbrev bX7_body : ByteArray := prog_9_method_80_code
theorem mf_X7_body : MF yX7_body bX7_body 2 (Option.none : Option Jvm.ClassFile.FieldType) 1 := ⟨gmk (sm_6 (List.mem_of_getElem? (i := 166) rfl)) rfl, gmk (sm_1 (List.mem_of_getElem? (i := 8) (by decide +kernel))) rfl, by decide +kernel, by decide +kernel, by decide +kernel⟩
theorem in_X7_body : Cond.instanceMethod yX7_body ∈ gT := gmk (sm_6 (List.mem_of_getElem? (i := 165) (by decide +kernel))) rfl
theorem se_X7_body : Cond.selects yX7_body.cls yX7_body yX7_body ∈ gT := gm 76 (by decide +kernel) rfl
def yX7_borrowerSinks : MethodName := ⟨zR7, "borrowerSinks", "(II)I"⟩
abbrev bX7_borrowerSinks : ByteArray := prog_9_method_81_code
theorem mf_X7_borrowerSinks : MF yX7_borrowerSinks bX7_borrowerSinks 3 (Option.some Jvm.ClassFile.FieldType.int) 2 := ⟨gmk (sm_6 (List.mem_of_getElem? (i := 170) rfl)) rfl, gmk (sm_1 (List.mem_of_getElem? (i := 8) (by decide +kernel))) rfl, by decide +kernel, by decide +kernel, by decide +kernel⟩
theorem in_X7_borrowerSinks : Cond.instanceMethod yX7_borrowerSinks ∈ gT := gmk (sm_6 (List.mem_of_getElem? (i := 169) (by decide +kernel))) rfl
theorem se_X7_borrowerSinks : Cond.selects yX7_borrowerSinks.cls yX7_borrowerSinks yX7_borrowerSinks ∈ gT := gm 77 (by decide +kernel) rfl
def yX7_sinksAct : MethodName := ⟨zR7, "sinksAct", "(II)I"⟩
abbrev bX7_sinksAct : ByteArray := prog_9_method_82_code
theorem mf_X7_sinksAct : MF yX7_sinksAct bX7_sinksAct 3 (Option.some Jvm.ClassFile.FieldType.int) 2 := ⟨gmk (sm_6 (List.mem_of_getElem? (i := 162) rfl)) rfl, gmk (sm_1 (List.mem_of_getElem? (i := 8) (by decide +kernel))) rfl, by decide +kernel, by decide +kernel, by decide +kernel⟩
theorem in_X7_sinksAct : Cond.instanceMethod yX7_sinksAct ∈ gT := gmk (sm_6 (List.mem_of_getElem? (i := 161) (by decide +kernel))) rfl
theorem se_X7_sinksAct : Cond.selects yX7_sinksAct.cls yX7_sinksAct yX7_sinksAct ∈ gT := gm 75 (by decide +kernel) rfl
def yX7_borrowerBorrows : MethodName := ⟨zR7, "borrowerBorrows", "(II)I"⟩
abbrev bX7_borrowerBorrows : ByteArray := prog_9_method_83_code
theorem mf_X7_borrowerBorrows : MF yX7_borrowerBorrows bX7_borrowerBorrows 3 (Option.some Jvm.ClassFile.FieldType.int) 2 := ⟨gmk (sm_6 (List.mem_of_getElem? (i := 182) rfl)) rfl, gmk (sm_1 (List.mem_of_getElem? (i := 8) (by decide +kernel))) rfl, by decide +kernel, by decide +kernel, by decide +kernel⟩
theorem in_X7_borrowerBorrows : Cond.instanceMethod yX7_borrowerBorrows ∈ gT := gmk (sm_6 (List.mem_of_getElem? (i := 181) (by decide +kernel))) rfl
theorem se_X7_borrowerBorrows : Cond.selects yX7_borrowerBorrows.cls yX7_borrowerBorrows yX7_borrowerBorrows ∈ gT := gm 80 (by decide +kernel) rfl
def yX7_lateBorrows : MethodName := ⟨zR7, "lateBorrows", "(II)I"⟩
abbrev bX7_lateBorrows : ByteArray := prog_9_method_84_code
theorem mf_X7_lateBorrows : MF yX7_lateBorrows bX7_lateBorrows 3 (Option.some Jvm.ClassFile.FieldType.int) 2 := ⟨gmk (sm_6 (List.mem_of_getElem? (i := 178) rfl)) rfl, gmk (sm_1 (List.mem_of_getElem? (i := 8) (by decide +kernel))) rfl, by decide +kernel, by decide +kernel, by decide +kernel⟩
theorem in_X7_lateBorrows : Cond.instanceMethod yX7_lateBorrows ∈ gT := gmk (sm_6 (List.mem_of_getElem? (i := 177) (by decide +kernel))) rfl
theorem se_X7_lateBorrows : Cond.selects yX7_lateBorrows.cls yX7_lateBorrows yX7_lateBorrows ∈ gT := gm 79 (by decide +kernel) rfl
def yX7_borrowsAct : MethodName := ⟨zR7, "borrowsAct", "(II)I"⟩
abbrev bX7_borrowsAct : ByteArray := prog_9_method_85_code
theorem mf_X7_borrowsAct : MF yX7_borrowsAct bX7_borrowsAct 4 (Option.some Jvm.ClassFile.FieldType.int) 2 := ⟨gmk (sm_6 (List.mem_of_getElem? (i := 174) rfl)) rfl, gmk (sm_1 (List.mem_of_getElem? (i := 8) (by decide +kernel))) rfl, by decide +kernel, by decide +kernel, by decide +kernel⟩
theorem in_X7_borrowsAct : Cond.instanceMethod yX7_borrowsAct ∈ gT := gmk (sm_6 (List.mem_of_getElem? (i := 173) (by decide +kernel))) rfl
theorem se_X7_borrowsAct : Cond.selects yX7_borrowsAct.cls yX7_borrowsAct yX7_borrowsAct ∈ gT := gm 78 (by decide +kernel) rfl
def yX7_borrowerTells : MethodName := ⟨zR7, "borrowerTells", "(II)I"⟩
abbrev bX7_borrowerTells : ByteArray := prog_9_method_86_code
theorem mf_X7_borrowerTells : MF yX7_borrowerTells bX7_borrowerTells 3 (Option.some Jvm.ClassFile.FieldType.int) 2 := ⟨gmk (sm_6 (List.mem_of_getElem? (i := 190) rfl)) rfl, gmk (sm_1 (List.mem_of_getElem? (i := 8) (by decide +kernel))) rfl, by decide +kernel, by decide +kernel, by decide +kernel⟩
theorem in_X7_borrowerTells : Cond.instanceMethod yX7_borrowerTells ∈ gT := gmk (sm_6 (List.mem_of_getElem? (i := 189) (by decide +kernel))) rfl
theorem se_X7_borrowerTells : Cond.selects yX7_borrowerTells.cls yX7_borrowerTells yX7_borrowerTells ∈ gT := gm 82 (by decide +kernel) rfl
def yX7_tellsAct : MethodName := ⟨zR7, "tellsAct", "(II)I"⟩
abbrev bX7_tellsAct : ByteArray := prog_9_method_87_code
theorem mf_X7_tellsAct : MF yX7_tellsAct bX7_tellsAct 4 (Option.some Jvm.ClassFile.FieldType.int) 2 := ⟨gmk (sm_6 (List.mem_of_getElem? (i := 186) rfl)) rfl, gmk (sm_1 (List.mem_of_getElem? (i := 8) (by decide +kernel))) rfl, by decide +kernel, by decide +kernel, by decide +kernel⟩
theorem in_X7_tellsAct : Cond.instanceMethod yX7_tellsAct ∈ gT := gmk (sm_6 (List.mem_of_getElem? (i := 185) (by decide +kernel))) rfl
theorem se_X7_tellsAct : Cond.selects yX7_tellsAct.cls yX7_tellsAct yX7_tellsAct ∈ gT := gm 81 (by decide +kernel) rfl
def yX7_act : MethodName := ⟨zR7, "act", "(III)I"⟩
abbrev bX7_act : ByteArray := prog_9_method_88_code
theorem mf_X7_act : MF yX7_act bX7_act 4 (Option.some Jvm.ClassFile.FieldType.int) 3 := ⟨gmk (sm_6 (List.mem_of_getElem? (i := 158) rfl)) rfl, gmk (sm_1 (List.mem_of_getElem? (i := 8) (by decide +kernel))) rfl, by decide +kernel, by decide +kernel, by decide +kernel⟩
theorem in_X7_act : Cond.instanceMethod yX7_act ∈ gT := gmk (sm_6 (List.mem_of_getElem? (i := 156) (by decide +kernel))) rfl
theorem se_X7_act : Cond.selects yX7_act.cls yX7_act yX7_act ∈ gT := gmk (sm_6 (List.mem_of_getElem? (i := 157) (by decide +kernel))) rfl
def yX7_trace : MethodName := ⟨zR7, "trace", "(I)I"⟩
abbrev bX7_trace : ByteArray := prog_9_method_89_code
theorem mf_X7_trace : MF yX7_trace bX7_trace 2 (Option.some Jvm.ClassFile.FieldType.int) 1 := ⟨gmk (sm_6 (List.mem_of_getElem? (i := 194) rfl)) rfl, gmk (sm_1 (List.mem_of_getElem? (i := 8) (by decide +kernel))) rfl, by decide +kernel, by decide +kernel, by decide +kernel⟩
theorem in_X7_trace : Cond.instanceMethod yX7_trace ∈ gT := gmk (sm_6 (List.mem_of_getElem? (i := 192) (by decide +kernel))) rfl
theorem se_X7_trace : Cond.selects yX7_trace.cls yX7_trace yX7_trace ∈ gT := gmk (sm_6 (List.mem_of_getElem? (i := 193) (by decide +kernel))) rfl
def yX7_taken : MethodName := ⟨zR7, "taken", "(II)I"⟩
abbrev bX7_taken : ByteArray := prog_9_method_90_code
theorem mf_X7_taken : MF yX7_taken bX7_taken 4 (Option.some Jvm.ClassFile.FieldType.int) 2 := ⟨gmk (sm_6 (List.mem_of_getElem? (i := 198) rfl)) rfl, gmk (sm_1 (List.mem_of_getElem? (i := 8) (by decide +kernel))) rfl, by decide +kernel, by decide +kernel, by decide +kernel⟩
theorem in_X7_taken : Cond.instanceMethod yX7_taken ∈ gT := gmk (sm_6 (List.mem_of_getElem? (i := 196) (by decide +kernel))) rfl
theorem se_X7_taken : Cond.selects yX7_taken.cls yX7_taken yX7_taken ∈ gT := gmk (sm_6 (List.mem_of_getElem? (i := 197) (by decide +kernel))) rfl
def yX7_count : MethodName := ⟨zR7, "count", "(I)I"⟩
abbrev bX7_count : ByteArray := prog_9_method_91_code
theorem mf_X7_count : MF yX7_count bX7_count 2 (Option.some Jvm.ClassFile.FieldType.int) 1 := ⟨gmk (sm_6 (List.mem_of_getElem? (i := 202) rfl)) rfl, gmk (sm_1 (List.mem_of_getElem? (i := 8) (by decide +kernel))) rfl, by decide +kernel, by decide +kernel, by decide +kernel⟩
theorem in_X7_count : Cond.instanceMethod yX7_count ∈ gT := gmk (sm_6 (List.mem_of_getElem? (i := 200) (by decide +kernel))) rfl
theorem se_X7_count : Cond.selects yX7_count.cls yX7_count yX7_count ∈ gT := gmk (sm_6 (List.mem_of_getElem? (i := 201) (by decide +kernel))) rfl
def yX7_isTape : MethodName := ⟨zR7, "isTape", "(I)Z"⟩
abbrev bX7_isTape : ByteArray := prog_9_method_92_code
theorem mf_X7_isTape : MF yX7_isTape bX7_isTape 2 (Option.some Jvm.ClassFile.FieldType.boolean) 1 := ⟨gmk (sm_6 (List.mem_of_getElem? (i := 146) rfl)) rfl, gmk (sm_1 (List.mem_of_getElem? (i := 8) (by decide +kernel))) rfl, by decide +kernel, by decide +kernel, by decide +kernel⟩
theorem in_X7_isTape : Cond.instanceMethod yX7_isTape ∈ gT := gmk (sm_6 (List.mem_of_getElem? (i := 145) (by decide +kernel))) rfl
theorem se_X7_isTape : Cond.selects yX7_isTape.cls yX7_isTape yX7_isTape ∈ gT := gm 74 (by decide +kernel) rfl
def yX7_tape : MethodName := ⟨zR7, "tape", "(III)I"⟩
abbrev bX7_tape : ByteArray := prog_9_method_93_code
theorem mf_X7_tape : MF yX7_tape bX7_tape 5 (Option.some Jvm.ClassFile.FieldType.int) 3 := ⟨gmk (sm_6 (List.mem_of_getElem? (i := 206) rfl)) rfl, gmk (sm_1 (List.mem_of_getElem? (i := 8) (by decide +kernel))) rfl, by decide +kernel, by decide +kernel, by decide +kernel⟩
theorem in_X7_tape : Cond.instanceMethod yX7_tape ∈ gT := gmk (sm_6 (List.mem_of_getElem? (i := 204) (by decide +kernel))) rfl
theorem se_X7_tape : Cond.selects yX7_tape.cls yX7_tape yX7_tape ∈ gT := gmk (sm_6 (List.mem_of_getElem? (i := 205) (by decide +kernel))) rfl
def yX7_narrow : MethodName := ⟨zR7, "narrow", "(IJ)J"⟩
abbrev bX7_narrow : ByteArray := prog_9_method_94_code
theorem mf_X7_narrow : MF yX7_narrow bX7_narrow 4 (Option.some Jvm.ClassFile.FieldType.long) 2 := ⟨gmk (sm_6 (List.mem_of_getElem? (i := 214) rfl)) rfl, gmk (sm_1 (List.mem_of_getElem? (i := 8) (by decide +kernel))) rfl, by decide +kernel, by decide +kernel, by decide +kernel⟩
theorem in_X7_narrow : Cond.instanceMethod yX7_narrow ∈ gT := gmk (sm_6 (List.mem_of_getElem? (i := 213) (by decide +kernel))) rfl
theorem se_X7_narrow : Cond.selects yX7_narrow.cls yX7_narrow yX7_narrow ∈ gT := gm 83 (by decide +kernel) rfl
def yX7_item : MethodName := ⟨zR7, "item", "(IIJ)I"⟩
abbrev bX7_item : ByteArray := prog_9_method_95_code
theorem mf_X7_item : MF yX7_item bX7_item 5 (Option.some Jvm.ClassFile.FieldType.int) 3 := ⟨gmk (sm_6 (List.mem_of_getElem? (i := 210) rfl)) rfl, gmk (sm_1 (List.mem_of_getElem? (i := 8) (by decide +kernel))) rfl, by decide +kernel, by decide +kernel, by decide +kernel⟩
theorem in_X7_item : Cond.instanceMethod yX7_item ∈ gT := gmk (sm_6 (List.mem_of_getElem? (i := 208) (by decide +kernel))) rfl
theorem se_X7_item : Cond.selects yX7_item.cls yX7_item yX7_item ∈ gT := gmk (sm_6 (List.mem_of_getElem? (i := 209) (by decide +kernel))) rfl
def yX7_read : MethodName := ⟨zR7, "read", "(II)J"⟩
abbrev bX7_read : ByteArray := prog_9_method_96_code
theorem mf_X7_read : MF yX7_read bX7_read 3 (Option.some Jvm.ClassFile.FieldType.long) 2 := ⟨gmk (sm_6 (List.mem_of_getElem? (i := 218) rfl)) rfl, gmk (sm_1 (List.mem_of_getElem? (i := 8) (by decide +kernel))) rfl, by decide +kernel, by decide +kernel, by decide +kernel⟩
theorem in_X7_read : Cond.instanceMethod yX7_read ∈ gT := gmk (sm_6 (List.mem_of_getElem? (i := 216) (by decide +kernel))) rfl
theorem se_X7_read : Cond.selects yX7_read.cls yX7_read yX7_read ∈ gT := gmk (sm_6 (List.mem_of_getElem? (i := 217) (by decide +kernel))) rfl
def yX7_shift : MethodName := ⟨zR7, "shift", "(IIIII)I"⟩
abbrev bX7_shift : ByteArray := prog_9_method_97_code
theorem mf_X7_shift : MF yX7_shift bX7_shift 7 (Option.some Jvm.ClassFile.FieldType.int) 5 := ⟨gmk (sm_6 (List.mem_of_getElem? (i := 222) rfl)) rfl, gmk (sm_1 (List.mem_of_getElem? (i := 8) (by decide +kernel))) rfl, by decide +kernel, by decide +kernel, by decide +kernel⟩
theorem in_X7_shift : Cond.instanceMethod yX7_shift ∈ gT := gmk (sm_6 (List.mem_of_getElem? (i := 220) (by decide +kernel))) rfl
theorem se_X7_shift : Cond.selects yX7_shift.cls yX7_shift yX7_shift ∈ gT := gmk (sm_6 (List.mem_of_getElem? (i := 221) (by decide +kernel))) rfl
def yJ9_floorMod_7cf53 : MethodName := ⟨zRJ9, "floorMod", "(II)I"⟩
abbrev bJ9_floorMod_7cf53 : ByteArray := prog_10_method_50_code
theorem mf_J9_floorMod_7cf53 : MF yJ9_floorMod_7cf53 bJ9_floorMod_7cf53 3 (Option.some Jvm.ClassFile.FieldType.int) 2 := ⟨gmk (sm_2 (List.mem_of_getElem? (i := 100) rfl)) rfl, gmk (sm_1 (List.mem_of_getElem? (i := 9) (by decide +kernel))) rfl, by decide +kernel, by decide +kernel, by decide +kernel⟩
theorem st_J9_floorMod_7cf53 : Cond.static yJ9_floorMod_7cf53 ∈ gT := gmk (sm_2 (List.mem_of_getElem? (i := 99) (by decide +kernel))) rfl
def yJ9_max_7cf53 : MethodName := ⟨zRJ9, "max", "(II)I"⟩
abbrev bJ9_max_7cf53 : ByteArray := prog_10_method_65_code
theorem mf_J9_max_7cf53 : MF yJ9_max_7cf53 bJ9_max_7cf53 2 (Option.some Jvm.ClassFile.FieldType.int) 2 := ⟨gmk (sm_2 (List.mem_of_getElem? (i := 89) rfl)) rfl, gmk (sm_1 (List.mem_of_getElem? (i := 9) (by decide +kernel))) rfl, by decide +kernel, by decide +kernel, by decide +kernel⟩
theorem st_J9_max_7cf53 : Cond.static yJ9_max_7cf53 ∈ gT := gmk (sm_2 (List.mem_of_getElem? (i := 88) (by decide +kernel))) rfl
def yJ9_min_7cf53 : MethodName := ⟨zRJ9, "min", "(II)I"⟩
abbrev bJ9_min_7cf53 : ByteArray := prog_10_method_69_code
theorem mf_J9_min_7cf53 : MF yJ9_min_7cf53 bJ9_min_7cf53 2 (Option.some Jvm.ClassFile.FieldType.int) 2 := ⟨gmk (sm_2 (List.mem_of_getElem? (i := 97) rfl)) rfl, gmk (sm_1 (List.mem_of_getElem? (i := 9) (by decide +kernel))) rfl, by decide +kernel, by decide +kernel, by decide +kernel⟩
theorem st_J9_min_7cf53 : Cond.static yJ9_min_7cf53 ∈ gT := gmk (sm_2 (List.mem_of_getElem? (i := 96) (by decide +kernel))) rfl
def yJ0_length_8abf5 : MethodName := ⟨zRJ0, "length", "()I"⟩
abbrev bJ0_length_8abf5 : ByteArray := prog_11_method_54_code
theorem mf_J0_length_8abf5 : MF yJ0_length_8abf5 bJ0_length_8abf5 1 (Option.some Jvm.ClassFile.FieldType.int) 0 := ⟨gmk (sm_2 (List.mem_of_getElem? (i := 188) rfl)) rfl, gmk (sm_1 (List.mem_of_getElem? (i := 10) (by decide +kernel))) rfl, by decide +kernel, by decide +kernel, by decide +kernel⟩
theorem in_J0_length_8abf5 : Cond.instanceMethod yJ0_length_8abf5 ∈ gT := gmk (sm_2 (List.mem_of_getElem? (i := 186) (by decide +kernel))) rfl
theorem se_J0_length_8abf5 : Cond.selects yJ0_length_8abf5.cls yJ0_length_8abf5 yJ0_length_8abf5 ∈ gT := gmk (sm_2 (List.mem_of_getElem? (i := 187) (by decide +kernel))) rfl
def yJ0_charAt_5068e : MethodName := ⟨zRJ0, "charAt", "(I)C"⟩
abbrev bJ0_charAt_5068e : ByteArray := prog_11_method_56_code
theorem mf_J0_charAt_5068e : MF yJ0_charAt_5068e bJ0_charAt_5068e 2 (Option.some Jvm.ClassFile.FieldType.char) 1 := ⟨gmk (sm_2 (List.mem_of_getElem? (i := 198) rfl)) rfl, gmk (sm_1 (List.mem_of_getElem? (i := 10) (by decide +kernel))) rfl, by decide +kernel, by decide +kernel, by decide +kernel⟩
theorem in_J0_charAt_5068e : Cond.instanceMethod yJ0_charAt_5068e ∈ gT := gmk (sm_2 (List.mem_of_getElem? (i := 196) (by decide +kernel))) rfl
theorem se_J0_charAt_5068e : Cond.selects yJ0_charAt_5068e.cls yJ0_charAt_5068e yJ0_charAt_5068e ∈ gT := gmk (sm_2 (List.mem_of_getElem? (i := 197) (by decide +kernel))) rfl
def yJ0_coder_7d493 : MethodName := ⟨zRJ0, "coder", "()B"⟩
abbrev bJ0_coder_7d493 : ByteArray := prog_11_method_152_code
theorem mf_J0_coder_7d493 : MF yJ0_coder_7d493 bJ0_coder_7d493 1 (Option.some Jvm.ClassFile.FieldType.byte) 0 := ⟨gmk (sm_2 (List.mem_of_getElem? (i := 192) rfl)) rfl, gmk (sm_1 (List.mem_of_getElem? (i := 10) (by decide +kernel))) rfl, by decide +kernel, by decide +kernel, by decide +kernel⟩
theorem in_J0_coder_7d493 : Cond.instanceMethod yJ0_coder_7d493 ∈ gT := gmk (sm_2 (List.mem_of_getElem? (i := 190) (by decide +kernel))) rfl
theorem se_J0_coder_7d493 : Cond.selects yJ0_coder_7d493.cls yJ0_coder_7d493 yJ0_coder_7d493 ∈ gT := gmk (sm_2 (List.mem_of_getElem? (i := 191) (by decide +kernel))) rfl
def yJ0_isLatin1_aae02 : MethodName := ⟨zRJ0, "isLatin1", "()Z"⟩
abbrev bJ0_isLatin1_aae02 : ByteArray := prog_11_method_154_code
theorem mf_J0_isLatin1_aae02 : MF yJ0_isLatin1_aae02 bJ0_isLatin1_aae02 1 (Option.some Jvm.ClassFile.FieldType.boolean) 0 := ⟨gmk (sm_2 (List.mem_of_getElem? (i := 202) rfl)) rfl, gmk (sm_1 (List.mem_of_getElem? (i := 10) (by decide +kernel))) rfl, by decide +kernel, by decide +kernel, by decide +kernel⟩
theorem in_J0_isLatin1_aae02 : Cond.instanceMethod yJ0_isLatin1_aae02 ∈ gT := gmk (sm_2 (List.mem_of_getElem? (i := 200) (by decide +kernel))) rfl
theorem se_J0_isLatin1_aae02 : Cond.selects yJ0_isLatin1_aae02.cls yJ0_isLatin1_aae02 yJ0_isLatin1_aae02 ∈ gT := gmk (sm_2 (List.mem_of_getElem? (i := 201) (by decide +kernel))) rfl
def yJ0_checkIndex_df160 : MethodName := ⟨zRJ0, "checkIndex", "(II)V"⟩
abbrev bJ0_checkIndex_df160 : ByteArray := prog_11_method_155_code
theorem mf_J0_checkIndex_df160 : MF yJ0_checkIndex_df160 bJ0_checkIndex_df160 2 (Option.none : Option Jvm.ClassFile.FieldType) 2 := ⟨gmk (sm_2 (List.mem_of_getElem? (i := 208) rfl)) rfl, gmk (sm_1 (List.mem_of_getElem? (i := 10) (by decide +kernel))) rfl, by decide +kernel, by decide +kernel, by decide +kernel⟩
theorem st_J0_checkIndex_df160 : Cond.static yJ0_checkIndex_df160 ∈ gT := gmk (sm_2 (List.mem_of_getElem? (i := 207) (by decide +kernel))) rfl
def yJ1_charAt_3b067 : MethodName := ⟨zRJ1, "charAt", "([BI)C"⟩
abbrev bJ1_charAt_3b067 : ByteArray := prog_12_method_2_code
theorem mf_J1_charAt_3b067 : MF yJ1_charAt_3b067 bJ1_charAt_3b067 2 (Option.some Jvm.ClassFile.FieldType.char) 2 := ⟨gmk (sm_2 (List.mem_of_getElem? (i := 205) rfl)) rfl, gmk (sm_1 (List.mem_of_getElem? (i := 11) (by decide +kernel))) rfl, by decide +kernel, by decide +kernel, by decide +kernel⟩
theorem st_J1_charAt_3b067 : Cond.static yJ1_charAt_3b067 ∈ gT := gmk (sm_2 (List.mem_of_getElem? (i := 204) (by decide +kernel))) rfl
def yJ2_getChar_3b067 : MethodName := ⟨zRJ2, "getChar", "([BI)C"⟩
abbrev bJ2_getChar_3b067 : ByteArray := prog_13_method_5_code
theorem mf_J2_getChar_3b067 : MF yJ2_getChar_3b067 bJ2_getChar_3b067 2 (Option.some Jvm.ClassFile.FieldType.char) 2 := ⟨gmk (sm_2 (List.mem_of_getElem? (i := 226) rfl)) rfl, gmk (sm_1 (List.mem_of_getElem? (i := 13) (by decide +kernel))) rfl, by decide +kernel, by decide +kernel, by decide +kernel⟩
theorem st_J2_getChar_3b067 : Cond.static yJ2_getChar_3b067 ∈ gT := gmk (sm_2 (List.mem_of_getElem? (i := 225) (by decide +kernel))) rfl
def yJ2_length_9d52b : MethodName := ⟨zRJ2, "length", "([B)I"⟩
abbrev bJ2_length_9d52b : ByteArray := prog_13_method_6_code
theorem mf_J2_length_9d52b : MF yJ2_length_9d52b bJ2_length_9d52b 1 (Option.some Jvm.ClassFile.FieldType.int) 1 := ⟨gmk (sm_2 (List.mem_of_getElem? (i := 222) rfl)) rfl, gmk (sm_1 (List.mem_of_getElem? (i := 13) (by decide +kernel))) rfl, by decide +kernel, by decide +kernel, by decide +kernel⟩
theorem st_J2_length_9d52b : Cond.static yJ2_length_9d52b ∈ gT := gmk (sm_2 (List.mem_of_getElem? (i := 221) (by decide +kernel))) rfl
def yJ2_charAt_3b067 : MethodName := ⟨zRJ2, "charAt", "([BI)C"⟩
abbrev bJ2_charAt_3b067 : ByteArray := prog_13_method_83_code
theorem mf_J2_charAt_3b067 : MF yJ2_charAt_3b067 bJ2_charAt_3b067 2 (Option.some Jvm.ClassFile.FieldType.char) 2 := ⟨gmk (sm_2 (List.mem_of_getElem? (i := 216) rfl)) rfl, gmk (sm_1 (List.mem_of_getElem? (i := 13) (by decide +kernel))) rfl, by decide +kernel, by decide +kernel, by decide +kernel⟩
theorem st_J2_charAt_3b067 : Cond.static yJ2_charAt_3b067 ∈ gT := gmk (sm_2 (List.mem_of_getElem? (i := 215) (by decide +kernel))) rfl
def yJ2_checkIndex_2214a : MethodName := ⟨zRJ2, "checkIndex", "(I[B)V"⟩
abbrev bJ2_checkIndex_2214a : ByteArray := prog_13_method_91_code
theorem mf_J2_checkIndex_2214a : MF yJ2_checkIndex_2214a bJ2_checkIndex_2214a 2 (Option.none : Option Jvm.ClassFile.FieldType) 2 := ⟨gmk (sm_2 (List.mem_of_getElem? (i := 219) rfl)) rfl, gmk (sm_1 (List.mem_of_getElem? (i := 13) (by decide +kernel))) rfl, by decide +kernel, by decide +kernel, by decide +kernel⟩
theorem st_J2_checkIndex_2214a : Cond.static yJ2_checkIndex_2214a ∈ gT := gmk (sm_2 (List.mem_of_getElem? (i := 218) (by decide +kernel))) rfl
def yJ3_checkIndex_8e157 : MethodName := ⟨zRJ3, "checkIndex", "(IILjava/util/function/BiFunction;)I"⟩
abbrev bJ3_checkIndex_8e157 : ByteArray := prog_15_method_11_code
theorem mf_J3_checkIndex_8e157 : MF yJ3_checkIndex_8e157 bJ3_checkIndex_8e157 3 (Option.some Jvm.ClassFile.FieldType.int) 3 := ⟨gmk (sm_2 (List.mem_of_getElem? (i := 213) rfl)) rfl, gmk (sm_1 (List.mem_of_getElem? (i := 12) (by decide +kernel))) rfl, by decide +kernel, by decide +kernel, by decide +kernel⟩
theorem st_J3_checkIndex_8e157 : Cond.static yJ3_checkIndex_8e157 ∈ gT := gmk (sm_2 (List.mem_of_getElem? (i := 212) (by decide +kernel))) rfl
theorem ml_X6_61 : Cond.methodLink zR6 61 yX4_init ∈ gT := gmk (sm_1 (List.mem_of_getElem? (i := 234) (by decide +kernel))) rfl
theorem ml_X6_80 : Cond.methodLink zR6 80 yX6_within ∈ gT := gmk (sm_2 (List.mem_of_getElem? (i := 60) (by decide +kernel))) rfl
theorem ml_X6_87 : Cond.methodLink zR6 87 yX5_join ∈ gT := gmk (sm_2 (List.mem_of_getElem? (i := 63) (by decide +kernel))) rfl
theorem ml_X6_91 : Cond.methodLink zR6 91 yX6_known ∈ gT := gmk (sm_2 (List.mem_of_getElem? (i := 71) (by decide +kernel))) rfl
theorem ml_X6_120 : Cond.methodLink zR6 120 yX6_rules ∈ gT := gmk (sm_2 (List.mem_of_getElem? (i := 75) (by decide +kernel))) rfl
theorem ml_X6_124 : Cond.methodLink zR6 124 yX1_rate ∈ gT := gmk (sm_2 (List.mem_of_getElem? (i := 79) (by decide +kernel))) rfl
theorem ml_X6_131 : Cond.methodLink zR6 131 yX5_asks ∈ gT := gmk (sm_2 (List.mem_of_getElem? (i := 90) (by decide +kernel))) rfl
theorem ml_X6_135 : Cond.methodLink zR6 135 yX5_keeps ∈ gT := gmk (sm_2 (List.mem_of_getElem? (i := 101) (by decide +kernel))) rfl
theorem ml_X6_139 : Cond.methodLink zR6 139 yX5_staysAway ∈ gT := gmk (sm_2 (List.mem_of_getElem? (i := 105) (by decide +kernel))) rfl
theorem ml_X6_142 : Cond.methodLink zR6 142 yX5_bringsBack ∈ gT := gmk (sm_2 (List.mem_of_getElem? (i := 109) (by decide +kernel))) rfl
theorem ml_X6_154 : Cond.methodLink zR6 154 yX5_trade ∈ gT := gmk (sm_2 (List.mem_of_getElem? (i := 129) (by decide +kernel))) rfl
theorem ml_X6_158 : Cond.methodLink zR6 158 yX5_callIn ∈ gT := gmk (sm_2 (List.mem_of_getElem? (i := 137) (by decide +kernel))) rfl
theorem ml_X6_165 : Cond.methodLink zR6 165 yX3_take ∈ gT := gmk (sm_2 (List.mem_of_getElem? (i := 149) (by decide +kernel))) rfl
theorem ml_X6_168 : Cond.methodLink zR6 168 yX3_readInto ∈ gT := gmk (sm_2 (List.mem_of_getElem? (i := 157) (by decide +kernel))) rfl
theorem ml_X6_181 : Cond.methodLink zR6 181 yX5_owesOfAll ∈ gT := gmk (sm_3 (List.mem_of_getElem? (i := 31) (by decide +kernel))) rfl
theorem ml_X6_185 : Cond.methodLink zR6 185 yX6_askedDays ∈ gT := gmk (sm_3 (List.mem_of_getElem? (i := 39) (by decide +kernel))) rfl
theorem ml_X6_188 : Cond.methodLink zR6 188 yX5_goDay ∈ gT := gmk (sm_3 (List.mem_of_getElem? (i := 42) (by decide +kernel))) rfl
theorem ml_X6_192 : Cond.methodLink zR6 192 yX6_startTrial ∈ gT := gmk (sm_3 (List.mem_of_getElem? (i := 64) (by decide +kernel))) rfl
theorem ml_X6_195 : Cond.methodLink zR6 195 yX6_goTrial ∈ gT := gmk (sm_3 (List.mem_of_getElem? (i := 75) (by decide +kernel))) rfl
theorem ml_X6_201 : Cond.methodLink zR6 201 yX6_whomToCall ∈ gT := gmk (sm_3 (List.mem_of_getElem? (i := 91) (by decide +kernel))) rfl
theorem ml_X6_204 : Cond.methodLink zR6 204 yX6_whoComesAhead ∈ gT := gmk (sm_3 (List.mem_of_getElem? (i := 99) (by decide +kernel))) rfl
theorem ml_X6_207 : Cond.methodLink zR6 207 yX6_bestMark ∈ gT := gmk (sm_3 (List.mem_of_getElem? (i := 103) (by decide +kernel))) rfl
theorem ml_X6_210 : Cond.methodLink zR6 210 yX6_turnedAsAllIs ∈ gT := gmk (sm_3 (List.mem_of_getElem? (i := 107) (by decide +kernel))) rfl
theorem ml_X6_213 : Cond.methodLink zR6 213 yX6_turnedOfTrial ∈ gT := gmk (sm_3 (List.mem_of_getElem? (i := 95) (by decide +kernel))) rfl
theorem ml_X6_216 : Cond.methodLink zR6 216 yX5_rise ∈ gT := gmk (sm_3 (List.mem_of_getElem? (i := 119) (by decide +kernel))) rfl
theorem ml_X6_219 : Cond.methodLink zR6 219 yX6_nobodySentIn ∈ gT := gmk (sm_3 (List.mem_of_getElem? (i := 120) (by decide +kernel))) rfl
theorem ml_X6_226 : Cond.methodLink zR6 226 yX2_addSeen ∈ gT := gmk (sm_3 (List.mem_of_getElem? (i := 128) (by decide +kernel))) rfl
theorem ml_X6_229 : Cond.methodLink zR6 229 yX6_trialShowsAllSeen ∈ gT := gmk (sm_3 (List.mem_of_getElem? (i := 136) (by decide +kernel))) rfl
theorem ml_X6_235 : Cond.methodLink zR6 235 yX6_lowestTerms ∈ gT := gmk (sm_3 (List.mem_of_getElem? (i := 158) (by decide +kernel))) rfl
theorem ml_X6_242 : Cond.methodLink zR6 242 yX2_addYear ∈ gT := gmk (sm_3 (List.mem_of_getElem? (i := 172) (by decide +kernel))) rfl
theorem ml_X6_251 : Cond.methodLink zR6 251 yX6_goYearRow ∈ gT := gmk (sm_3 (List.mem_of_getElem? (i := 180) (by decide +kernel))) rfl
theorem ml_X6_258 : Cond.methodLink zR6 258 yX2_addBook ∈ gT := gmk (sm_3 (List.mem_of_getElem? (i := 189) (by decide +kernel))) rfl
theorem ml_X6_267 : Cond.methodLink zR6 267 yX4_known ∈ gT := gmk (sm_3 (List.mem_of_getElem? (i := 201) (by decide +kernel))) rfl
theorem ml_X6_268 : Cond.methodLink zR6 268 yX4_holds ∈ gT := gmk (sm_3 (List.mem_of_getElem? (i := 205) (by decide +kernel))) rfl
theorem ml_X6_274 : Cond.methodLink zR6 274 yX4_hasPlace ∈ gT := gmk (sm_3 (List.mem_of_getElem? (i := 209) (by decide +kernel))) rfl
theorem ml_X6_282 : Cond.methodLink zR6 282 yX5_copyFrom ∈ gT := gmk (sm_3 (List.mem_of_getElem? (i := 68) (by decide +kernel))) rfl
theorem ml_X6_286 : Cond.methodLink zR6 286 yX2_copyFrom ∈ gT := gmk (sm_3 (List.mem_of_getElem? (i := 218) (by decide +kernel))) rfl
theorem ml_X6_289 : Cond.methodLink zR6 289 yX0_forget ∈ gT := gmk (sm_3 (List.mem_of_getElem? (i := 231) (by decide +kernel))) rfl
theorem ml_X6_292 : Cond.methodLink zR6 292 yX0_perform ∈ gT := gmk (sm_3 (List.mem_of_getElem? (i := 235) (by decide +kernel))) rfl
theorem ml_X6_296 : Cond.methodLink zR6 296 yX0_traced ∈ gT := gmk (sm_4 (List.mem_of_getElem? (i := 15) (by decide +kernel))) rfl
theorem ml_X6_299 : Cond.methodLink zR6 299 yX6_isUnder ∈ gT := gmk (sm_4 (List.mem_of_getElem? (i := 23) (by decide +kernel))) rfl
theorem ml_X6_305 : Cond.methodLink zR6 305 yX4_make ∈ gT := gmk (sm_4 (List.mem_of_getElem? (i := 35) (by decide +kernel))) rfl
theorem ml_X6_309 : Cond.methodLink zR6 309 yX4_cut ∈ gT := gmk (sm_4 (List.mem_of_getElem? (i := 43) (by decide +kernel))) rfl
theorem ml_X6_313 : Cond.methodLink zR6 313 yX4_hasRoom ∈ gT := gmk (sm_4 (List.mem_of_getElem? (i := 54) (by decide +kernel))) rfl
theorem ml_X6_325 : Cond.methodLink zR6 325 yX6_commonDivisor ∈ gT := gmk (sm_3 (List.mem_of_getElem? (i := 161) (by decide +kernel))) rfl
theorem ml_X6_329 : Cond.methodLink zR6 329 yX2_farthestSeen ∈ gT := gmk (sm_3 (List.mem_of_getElem? (i := 140) (by decide +kernel))) rfl
theorem ml_X6_332 : Cond.methodLink zR6 332 yX2_seenFits ∈ gT := gmk (sm_3 (List.mem_of_getElem? (i := 145) (by decide +kernel))) rfl
theorem ml_X0_34 : Cond.methodLink zR0 34 yX0_from ∈ gT := gmk (sm_3 (List.mem_of_getElem? (i := 239) (by decide +kernel))) rfl
theorem ml_X0_44 : Cond.methodLink zR0 44 yX0_run ∈ gT := gmk (sm_4 (List.mem_of_getElem? (i := 7) (by decide +kernel))) rfl
theorem ml_X1_63 : Cond.methodLink zR1 63 yX1_conditionHolds ∈ gT := gmk (sm_2 (List.mem_of_getElem? (i := 83) (by decide +kernel))) rfl
theorem ml_X1_67 : Cond.methodLink zR1 67 yJ9_max_7cf53 ∈ gT := gmk (sm_2 (List.mem_of_getElem? (i := 87) (by decide +kernel))) rfl
theorem ml_X2_44 : Cond.methodLink zR2 44 yJ9_max_7cf53 ∈ gT := gmk (sm_3 (List.mem_of_getElem? (i := 144) (by decide +kernel))) rfl
theorem ml_X3_31 : Cond.methodLink zR3 31 yX1_clear ∈ gT := gmk (sm_2 (List.mem_of_getElem? (i := 161) (by decide +kernel))) rfl
theorem ml_X3_34 : Cond.methodLink zR3 34 yX3_readClause ∈ gT := gmk (sm_2 (List.mem_of_getElem? (i := 165) (by decide +kernel))) rfl
theorem ml_X3_37 : Cond.methodLink zR3 37 yX3_sign ∈ gT := gmk (sm_2 (List.mem_of_getElem? (i := 169) (by decide +kernel))) rfl
theorem ml_X3_41 : Cond.methodLink zR3 41 yJ0_length_8abf5 ∈ gT := gmk (sm_2 (List.mem_of_getElem? (i := 185) (by decide +kernel))) rfl
theorem ml_X3_45 : Cond.methodLink zR3 45 yJ0_charAt_5068e ∈ gT := gmk (sm_2 (List.mem_of_getElem? (i := 195) (by decide +kernel))) rfl
theorem ml_X3_49 : Cond.methodLink zR3 49 yX3_expect ∈ gT := gmk (sm_2 (List.mem_of_getElem? (i := 233) (by decide +kernel))) rfl
theorem ml_X3_53 : Cond.methodLink zR3 53 yX3_wordOf ∈ gT := gmk (sm_2 (List.mem_of_getElem? (i := 173) (by decide +kernel))) rfl
theorem ml_X3_57 : Cond.methodLink zR3 57 yX3_expectWord ∈ gT := gmk (sm_2 (List.mem_of_getElem? (i := 181) (by decide +kernel))) rfl
theorem ml_X3_61 : Cond.methodLink zR3 61 yX3_readNumber ∈ gT := gmk (sm_2 (List.mem_of_getElem? (i := 237) (by decide +kernel))) rfl
theorem ml_X3_73 : Cond.methodLink zR3 73 yX3_readEither ∈ gT := gmk (sm_3 (List.mem_of_getElem? (i := 1) (by decide +kernel))) rfl
theorem ml_X3_76 : Cond.methodLink zR3 76 yX1_addPrice ∈ gT := gmk (sm_3 (List.mem_of_getElem? (i := 22) (by decide +kernel))) rfl
theorem ml_X3_89 : Cond.methodLink zR3 89 yX3_readPart ∈ gT := gmk (sm_3 (List.mem_of_getElem? (i := 5) (by decide +kernel))) rfl
theorem ml_X3_92 : Cond.methodLink zR3 92 yX1_addStep ∈ gT := gmk (sm_3 (List.mem_of_getElem? (i := 9) (by decide +kernel))) rfl
theorem ml_X3_96 : Cond.methodLink zR3 96 yX3_readTest ∈ gT := gmk (sm_3 (List.mem_of_getElem? (i := 13) (by decide +kernel))) rfl
theorem ml_X3_101 : Cond.methodLink zR3 101 yX3_placeOf ∈ gT := gmk (sm_3 (List.mem_of_getElem? (i := 18) (by decide +kernel))) rfl
theorem ml_X4_21 : Cond.methodLink zR4 21 yX4_holds ∈ gT := gmk (sm_3 (List.mem_of_getElem? (i := 213) (by decide +kernel))) rfl
theorem ml_X5_61 : Cond.methodLink zR5 61 yJ9_min_7cf53 ∈ gT := gmk (sm_2 (List.mem_of_getElem? (i := 95) (by decide +kernel))) rfl
theorem ml_X5_67 : Cond.methodLink zR5 67 yX5_rise ∈ gT := gmk (sm_2 (List.mem_of_getElem? (i := 141) (by decide +kernel))) rfl
theorem ml_X5_71 : Cond.methodLink zR5 71 yJ9_max_7cf53 ∈ gT := gmk (sm_2 (List.mem_of_getElem? (i := 94) (by decide +kernel))) rfl
theorem ml_X5_74 : Cond.methodLink zR5 74 yJ9_floorMod_7cf53 ∈ gT := gmk (sm_2 (List.mem_of_getElem? (i := 98) (by decide +kernel))) rfl
theorem ml_X5_77 : Cond.methodLink zR5 77 yX5_keepOn ∈ gT := gmk (sm_3 (List.mem_of_getElem? (i := 46) (by decide +kernel))) rfl
theorem ml_X5_86 : Cond.methodLink zR5 86 yX5_comeAsking ∈ gT := gmk (sm_3 (List.mem_of_getElem? (i := 55) (by decide +kernel))) rfl
theorem ml_X5_94 : Cond.methodLink zR5 94 yX1_rate ∈ gT := gmk (sm_3 (List.mem_of_getElem? (i := 51) (by decide +kernel))) rfl
theorem ml_X5_98 : Cond.methodLink zR5 98 yX5_staysAway ∈ gT := gmk (sm_3 (List.mem_of_getElem? (i := 52) (by decide +kernel))) rfl
theorem ml_X5_102 : Cond.methodLink zR5 102 yX5_keeps ∈ gT := gmk (sm_3 (List.mem_of_getElem? (i := 53) (by decide +kernel))) rfl
theorem ml_X5_106 : Cond.methodLink zR5 106 yX5_bringsBack ∈ gT := gmk (sm_3 (List.mem_of_getElem? (i := 54) (by decide +kernel))) rfl
theorem ml_X5_109 : Cond.methodLink zR5 109 yX5_asks ∈ gT := gmk (sm_3 (List.mem_of_getElem? (i := 59) (by decide +kernel))) rfl
theorem ml_L_9 : Cond.methodLink R_law 9 yX6_init ∈ gT := gmk (sm_1 (List.mem_of_getElem? (i := 17) (by decide +kernel))) rfl
theorem ml_L_12 : Cond.methodLink R_law 12 yX7_init ∈ gT := gmk (sm_4 (List.mem_of_getElem? (i := 61) (by decide +kernel))) rfl
theorem ml_L_13 : Cond.methodLink R_law 13 yX6_borrower ∈ gT := gmk (sm_2 (List.mem_of_getElem? (i := 56) (by decide +kernel))) rfl
theorem ml_L_17 : Cond.methodLink R_law 17 yX7_borrower ∈ gT := gmk (sm_5 (List.mem_of_getElem? (i := 76) (by decide +kernel))) rfl
theorem ml_L_18 : Cond.methodLink R_law 18 yX6_of ∈ gT := gmk (sm_2 (List.mem_of_getElem? (i := 67) (by decide +kernel))) rfl
theorem ml_L_22 : Cond.methodLink R_law 22 yX7_of ∈ gT := gmk (sm_5 (List.mem_of_getElem? (i := 196) (by decide +kernel))) rfl
theorem ml_L_23 : Cond.methodLink R_law 23 yX6_set ∈ gT := gmk (sm_2 (List.mem_of_getElem? (i := 113) (by decide +kernel))) rfl
theorem ml_L_27 : Cond.methodLink R_law 27 yX7_set ∈ gT := gmk (sm_5 (List.mem_of_getElem? (i := 92) (by decide +kernel))) rfl
theorem ml_L_28 : Cond.methodLink R_law 28 yX6_row ∈ gT := gmk (sm_2 (List.mem_of_getElem? (i := 117) (by decide +kernel))) rfl
theorem ml_L_31 : Cond.methodLink R_law 31 yX7_row ∈ gT := gmk (sm_5 (List.mem_of_getElem? (i := 100) (by decide +kernel))) rfl
theorem ml_L_32 : Cond.methodLink R_law 32 yX6_depth ∈ gT := gmk (sm_2 (List.mem_of_getElem? (i := 121) (by decide +kernel))) rfl
theorem ml_L_36 : Cond.methodLink R_law 36 yX7_depth ∈ gT := gmk (sm_5 (List.mem_of_getElem? (i := 104) (by decide +kernel))) rfl
theorem ml_L_37 : Cond.methodLink R_law 37 yX6_change ∈ gT := gmk (sm_2 (List.mem_of_getElem? (i := 125) (by decide +kernel))) rfl
theorem ml_L_40 : Cond.methodLink R_law 40 yX7_change ∈ gT := gmk (sm_5 (List.mem_of_getElem? (i := 112) (by decide +kernel))) rfl
theorem ml_L_41 : Cond.methodLink R_law 41 yX6_call ∈ gT := gmk (sm_2 (List.mem_of_getElem? (i := 133) (by decide +kernel))) rfl
theorem ml_L_44 : Cond.methodLink R_law 44 yX7_call ∈ gT := gmk (sm_5 (List.mem_of_getElem? (i := 120) (by decide +kernel))) rfl
theorem ml_L_45 : Cond.methodLink R_law 45 yX6_feed ∈ gT := gmk (sm_2 (List.mem_of_getElem? (i := 145) (by decide +kernel))) rfl
theorem ml_L_48 : Cond.methodLink R_law 48 yX7_feed ∈ gT := gmk (sm_5 (List.mem_of_getElem? (i := 132) (by decide +kernel))) rfl
theorem ml_L_49 : Cond.methodLink R_law 49 yX6_country ∈ gT := gmk (sm_2 (List.mem_of_getElem? (i := 153) (by decide +kernel))) rfl
theorem ml_L_53 : Cond.methodLink R_law 53 yX7_country ∈ gT := gmk (sm_5 (List.mem_of_getElem? (i := 136) (by decide +kernel))) rfl
theorem ml_L_54 : Cond.methodLink R_law 54 yX6_told ∈ gT := gmk (sm_3 (List.mem_of_getElem? (i := 27) (by decide +kernel))) rfl
theorem ml_L_57 : Cond.methodLink R_law 57 yX7_told ∈ gT := gmk (sm_6 (List.mem_of_getElem? (i := 4) (by decide +kernel))) rfl
theorem ml_L_58 : Cond.methodLink R_law 58 yX6_pass ∈ gT := gmk (sm_3 (List.mem_of_getElem? (i := 35) (by decide +kernel))) rfl
theorem ml_L_61 : Cond.methodLink R_law 61 yX7_pass ∈ gT := gmk (sm_6 (List.mem_of_getElem? (i := 12) (by decide +kernel))) rfl
theorem ml_L_62 : Cond.methodLink R_law 62 yX6_on ∈ gT := gmk (sm_3 (List.mem_of_getElem? (i := 60) (by decide +kernel))) rfl
theorem ml_L_65 : Cond.methodLink R_law 65 yX7_on ∈ gT := gmk (sm_6 (List.mem_of_getElem? (i := 37) (by decide +kernel))) rfl
theorem ml_L_66 : Cond.methodLink R_law 66 yX6_lowest ∈ gT := gmk (sm_3 (List.mem_of_getElem? (i := 79) (by decide +kernel))) rfl
theorem ml_L_69 : Cond.methodLink R_law 69 yX7_lowest ∈ gT := gmk (sm_6 (List.mem_of_getElem? (i := 50) (by decide +kernel))) rfl
theorem ml_L_70 : Cond.methodLink R_law 70 yX6_first ∈ gT := gmk (sm_3 (List.mem_of_getElem? (i := 83) (by decide +kernel))) rfl
theorem ml_L_73 : Cond.methodLink R_law 73 yX7_first ∈ gT := gmk (sm_6 (List.mem_of_getElem? (i := 54) (by decide +kernel))) rfl
theorem ml_L_74 : Cond.methodLink R_law 74 yX6_best ∈ gT := gmk (sm_3 (List.mem_of_getElem? (i := 87) (by decide +kernel))) rfl
theorem ml_L_77 : Cond.methodLink R_law 77 yX7_best ∈ gT := gmk (sm_6 (List.mem_of_getElem? (i := 58) (by decide +kernel))) rfl
theorem ml_L_78 : Cond.methodLink R_law 78 yX6_seldom ∈ gT := gmk (sm_3 (List.mem_of_getElem? (i := 111) (by decide +kernel))) rfl
theorem ml_L_81 : Cond.methodLink R_law 81 yX7_seldom ∈ gT := gmk (sm_6 (List.mem_of_getElem? (i := 82) (by decide +kernel))) rfl
theorem ml_L_82 : Cond.methodLink R_law 82 yX6_more ∈ gT := gmk (sm_3 (List.mem_of_getElem? (i := 115) (by decide +kernel))) rfl
theorem ml_L_85 : Cond.methodLink R_law 85 yX7_more ∈ gT := gmk (sm_6 (List.mem_of_getElem? (i := 86) (by decide +kernel))) rfl
theorem ml_L_86 : Cond.methodLink R_law 86 yX6_see ∈ gT := gmk (sm_3 (List.mem_of_getElem? (i := 124) (by decide +kernel))) rfl
theorem ml_L_89 : Cond.methodLink R_law 89 yX7_see ∈ gT := gmk (sm_6 (List.mem_of_getElem? (i := 90) (by decide +kernel))) rfl
theorem ml_L_90 : Cond.methodLink R_law 90 yX6_wanted ∈ gT := gmk (sm_3 (List.mem_of_getElem? (i := 132) (by decide +kernel))) rfl
theorem ml_L_93 : Cond.methodLink R_law 93 yX7_wanted ∈ gT := gmk (sm_6 (List.mem_of_getElem? (i := 94) (by decide +kernel))) rfl
theorem ml_L_94 : Cond.methodLink R_law 94 yX6_can ∈ gT := gmk (sm_3 (List.mem_of_getElem? (i := 149) (by decide +kernel))) rfl
theorem ml_L_97 : Cond.methodLink R_law 97 yX7_can ∈ gT := gmk (sm_6 (List.mem_of_getElem? (i := 102) (by decide +kernel))) rfl
theorem ml_L_98 : Cond.methodLink R_law 98 yX6_odds ∈ gT := gmk (sm_3 (List.mem_of_getElem? (i := 153) (by decide +kernel))) rfl
theorem ml_L_102 : Cond.methodLink R_law 102 yX7_odds ∈ gT := gmk (sm_6 (List.mem_of_getElem? (i := 106) (by decide +kernel))) rfl
theorem ml_L_103 : Cond.methodLink R_law 103 yX6_mean ∈ gT := gmk (sm_3 (List.mem_of_getElem? (i := 164) (by decide +kernel))) rfl
theorem ml_L_106 : Cond.methodLink R_law 106 yX7_mean ∈ gT := gmk (sm_6 (List.mem_of_getElem? (i := 119) (by decide +kernel))) rfl
theorem ml_L_107 : Cond.methodLink R_law 107 yX6_year ∈ gT := gmk (sm_3 (List.mem_of_getElem? (i := 168) (by decide +kernel))) rfl
theorem ml_L_110 : Cond.methodLink R_law 110 yX7_year ∈ gT := gmk (sm_6 (List.mem_of_getElem? (i := 123) (by decide +kernel))) rfl
theorem ml_L_111 : Cond.methodLink R_law 111 yX6_gone ∈ gT := gmk (sm_3 (List.mem_of_getElem? (i := 176) (by decide +kernel))) rfl
theorem ml_L_114 : Cond.methodLink R_law 114 yX7_gone ∈ gT := gmk (sm_6 (List.mem_of_getElem? (i := 127) (by decide +kernel))) rfl
theorem ml_L_115 : Cond.methodLink R_law 115 yX6_book ∈ gT := gmk (sm_3 (List.mem_of_getElem? (i := 184) (by decide +kernel))) rfl
theorem ml_L_118 : Cond.methodLink R_law 118 yX7_book ∈ gT := gmk (sm_6 (List.mem_of_getElem? (i := 131) (by decide +kernel))) rfl
theorem ml_L_119 : Cond.methodLink R_law 119 yX6_looked ∈ gT := gmk (sm_3 (List.mem_of_getElem? (i := 193) (by decide +kernel))) rfl
theorem ml_L_122 : Cond.methodLink R_law 122 yX7_looked ∈ gT := gmk (sm_6 (List.mem_of_getElem? (i := 135) (by decide +kernel))) rfl
theorem ml_L_123 : Cond.methodLink R_law 123 yX6_judge ∈ gT := gmk (sm_3 (List.mem_of_getElem? (i := 197) (by decide +kernel))) rfl
theorem ml_L_126 : Cond.methodLink R_law 126 yX7_judge ∈ gT := gmk (sm_6 (List.mem_of_getElem? (i := 139) (by decide +kernel))) rfl
theorem ml_L_127 : Cond.methodLink R_law 127 yX6_image ∈ gT := gmk (sm_3 (List.mem_of_getElem? (i := 214) (by decide +kernel))) rfl
theorem ml_L_130 : Cond.methodLink R_law 130 yX7_image ∈ gT := gmk (sm_6 (List.mem_of_getElem? (i := 147) (by decide +kernel))) rfl
theorem ml_L_131 : Cond.methodLink R_law 131 yX6_undo ∈ gT := gmk (sm_3 (List.mem_of_getElem? (i := 223) (by decide +kernel))) rfl
theorem ml_L_134 : Cond.methodLink R_law 134 yX7_undo ∈ gT := gmk (sm_6 (List.mem_of_getElem? (i := 151) (by decide +kernel))) rfl
theorem ml_L_135 : Cond.methodLink R_law 135 yX6_act ∈ gT := gmk (sm_3 (List.mem_of_getElem? (i := 227) (by decide +kernel))) rfl
theorem ml_L_138 : Cond.methodLink R_law 138 yX7_act ∈ gT := gmk (sm_6 (List.mem_of_getElem? (i := 155) (by decide +kernel))) rfl
theorem ml_L_139 : Cond.methodLink R_law 139 yX6_trace ∈ gT := gmk (sm_4 (List.mem_of_getElem? (i := 11) (by decide +kernel))) rfl
theorem ml_L_142 : Cond.methodLink R_law 142 yX7_trace ∈ gT := gmk (sm_6 (List.mem_of_getElem? (i := 191) (by decide +kernel))) rfl
theorem ml_L_143 : Cond.methodLink R_law 143 yX6_taken ∈ gT := gmk (sm_4 (List.mem_of_getElem? (i := 19) (by decide +kernel))) rfl
theorem ml_L_146 : Cond.methodLink R_law 146 yX7_taken ∈ gT := gmk (sm_6 (List.mem_of_getElem? (i := 195) (by decide +kernel))) rfl
theorem ml_L_147 : Cond.methodLink R_law 147 yX6_count ∈ gT := gmk (sm_4 (List.mem_of_getElem? (i := 27) (by decide +kernel))) rfl
theorem ml_L_150 : Cond.methodLink R_law 150 yX7_count ∈ gT := gmk (sm_6 (List.mem_of_getElem? (i := 199) (by decide +kernel))) rfl
theorem ml_L_151 : Cond.methodLink R_law 151 yX6_tape ∈ gT := gmk (sm_4 (List.mem_of_getElem? (i := 31) (by decide +kernel))) rfl
theorem ml_L_154 : Cond.methodLink R_law 154 yX7_tape ∈ gT := gmk (sm_6 (List.mem_of_getElem? (i := 203) (by decide +kernel))) rfl
theorem ml_L_157 : Cond.methodLink R_law 157 yX6_item ∈ gT := gmk (sm_4 (List.mem_of_getElem? (i := 39) (by decide +kernel))) rfl
theorem ml_L_161 : Cond.methodLink R_law 161 yX7_item ∈ gT := gmk (sm_6 (List.mem_of_getElem? (i := 207) (by decide +kernel))) rfl
theorem ml_L_162 : Cond.methodLink R_law 162 yX6_read ∈ gT := gmk (sm_4 (List.mem_of_getElem? (i := 46) (by decide +kernel))) rfl
theorem ml_L_165 : Cond.methodLink R_law 165 yX7_read ∈ gT := gmk (sm_6 (List.mem_of_getElem? (i := 215) (by decide +kernel))) rfl
theorem ml_L_166 : Cond.methodLink R_law 166 yX6_shift ∈ gT := gmk (sm_4 (List.mem_of_getElem? (i := 50) (by decide +kernel))) rfl
theorem ml_L_170 : Cond.methodLink R_law 170 yX7_shift ∈ gT := gmk (sm_6 (List.mem_of_getElem? (i := 219) (by decide +kernel))) rfl
theorem ml_X7_263 : Cond.methodLink zR7 263 yX7_in ∈ gT := gmk (sm_5 (List.mem_of_getElem? (i := 80) (by decide +kernel))) rfl
theorem ml_X7_267 : Cond.methodLink zR7 267 yX7_isWants ∈ gT := gmk (sm_5 (List.mem_of_getElem? (i := 84) (by decide +kernel))) rfl
theorem ml_X7_271 : Cond.methodLink zR7 271 yX7_isEvery ∈ gT := gmk (sm_5 (List.mem_of_getElem? (i := 88) (by decide +kernel))) rfl
theorem ml_X7_274 : Cond.methodLink zR7 274 yX7_isBorrower ∈ gT := gmk (sm_5 (List.mem_of_getElem? (i := 96) (by decide +kernel))) rfl
theorem ml_X7_277 : Cond.methodLink zR7 277 yX7_isDepth ∈ gT := gmk (sm_5 (List.mem_of_getElem? (i := 108) (by decide +kernel))) rfl
theorem ml_X7_280 : Cond.methodLink zR7 280 yX7_changes ∈ gT := gmk (sm_5 (List.mem_of_getElem? (i := 116) (by decide +kernel))) rfl
theorem ml_X7_284 : Cond.methodLink zR7 284 yX7_held ∈ gT := gmk (sm_5 (List.mem_of_getElem? (i := 128) (by decide +kernel))) rfl
theorem ml_X7_288 : Cond.methodLink zR7 288 yX7_calls ∈ gT := gmk (sm_5 (List.mem_of_getElem? (i := 124) (by decide +kernel))) rfl
theorem ml_X7_292 : Cond.methodLink zR7 292 yX7_next ∈ gT := gmk (sm_5 (List.mem_of_getElem? (i := 152) (by decide +kernel))) rfl
theorem ml_X7_296 : Cond.methodLink zR7 296 yX7_takes ∈ gT := gmk (sm_5 (List.mem_of_getElem? (i := 160) (by decide +kernel))) rfl
theorem ml_X7_299 : Cond.methodLink zR7 299 yX7_isDigit ∈ gT := gmk (sm_5 (List.mem_of_getElem? (i := 168) (by decide +kernel))) rfl
theorem ml_X7_303 : Cond.methodLink zR7 303 yX7_emits ∈ gT := gmk (sm_5 (List.mem_of_getElem? (i := 184) (by decide +kernel))) rfl
theorem ml_X7_306 : Cond.methodLink zR7 306 yX7_place ∈ gT := gmk (sm_5 (List.mem_of_getElem? (i := 180) (by decide +kernel))) rfl
theorem ml_X7_310 : Cond.methodLink zR7 310 yX7_takesNumber ∈ gT := gmk (sm_5 (List.mem_of_getElem? (i := 164) (by decide +kernel))) rfl
theorem ml_X7_313 : Cond.methodLink zR7 313 yX7_whole ∈ gT := gmk (sm_5 (List.mem_of_getElem? (i := 188) (by decide +kernel))) rfl
theorem ml_X7_316 : Cond.methodLink zR7 316 yX7_takesTest ∈ gT := gmk (sm_5 (List.mem_of_getElem? (i := 176) (by decide +kernel))) rfl
theorem ml_X7_319 : Cond.methodLink zR7 319 yX7_settle ∈ gT := gmk (sm_5 (List.mem_of_getElem? (i := 192) (by decide +kernel))) rfl
theorem ml_X7_322 : Cond.methodLink zR7 322 yX7_takesWord ∈ gT := gmk (sm_5 (List.mem_of_getElem? (i := 156) (by decide +kernel))) rfl
theorem ml_X7_326 : Cond.methodLink zR7 326 yX7_takesHead ∈ gT := gmk (sm_5 (List.mem_of_getElem? (i := 148) (by decide +kernel))) rfl
theorem ml_X7_329 : Cond.methodLink zR7 329 yX7_takesE ∈ gT := gmk (sm_5 (List.mem_of_getElem? (i := 172) (by decide +kernel))) rfl
theorem ml_X7_332 : Cond.methodLink zR7 332 yX7_takesClause ∈ gT := gmk (sm_5 (List.mem_of_getElem? (i := 144) (by decide +kernel))) rfl
theorem ml_X7_335 : Cond.methodLink zR7 335 yX7_goesText ∈ gT := gmk (sm_5 (List.mem_of_getElem? (i := 140) (by decide +kernel))) rfl
theorem ml_X7_338 : Cond.methodLink zR7 338 yX7_begin ∈ gT := gmk (sm_5 (List.mem_of_getElem? (i := 204) (by decide +kernel))) rfl
theorem ml_X7_341 : Cond.methodLink zR7 341 yX7_behind ∈ gT := gmk (sm_5 (List.mem_of_getElem? (i := 208) (by decide +kernel))) rfl
theorem ml_X7_344 : Cond.methodLink zR7 344 yX7_lastOf ∈ gT := gmk (sm_5 (List.mem_of_getElem? (i := 228) (by decide +kernel))) rfl
theorem ml_X7_347 : Cond.methodLink zR7 347 yX7_factOf ∈ gT := gmk (sm_5 (List.mem_of_getElem? (i := 216) (by decide +kernel))) rfl
theorem ml_X7_350 : Cond.methodLink zR7 350 yX7_holds ∈ gT := gmk (sm_5 (List.mem_of_getElem? (i := 212) (by decide +kernel))) rfl
theorem ml_X7_353 : Cond.methodLink zR7 353 yX7_mark ∈ gT := gmk (sm_5 (List.mem_of_getElem? (i := 224) (by decide +kernel))) rfl
theorem ml_X7_356 : Cond.methodLink zR7 356 yX7_rate ∈ gT := gmk (sm_5 (List.mem_of_getElem? (i := 200) (by decide +kernel))) rfl
theorem ml_X7_359 : Cond.methodLink zR7 359 yX7_asks ∈ gT := gmk (sm_5 (List.mem_of_getElem? (i := 220) (by decide +kernel))) rfl
theorem ml_X7_362 : Cond.methodLink zR7 362 yX7_keeps ∈ gT := gmk (sm_5 (List.mem_of_getElem? (i := 232) (by decide +kernel))) rfl
theorem ml_X7_365 : Cond.methodLink zR7 365 yX7_staysAway ∈ gT := gmk (sm_5 (List.mem_of_getElem? (i := 236) (by decide +kernel))) rfl
theorem ml_X7_368 : Cond.methodLink zR7 368 yX7_brings ∈ gT := gmk (sm_6 (List.mem_of_getElem? (i := 0) (by decide +kernel))) rfl
theorem ml_X7_371 : Cond.methodLink zR7 371 yX7_allOwes ∈ gT := gmk (sm_6 (List.mem_of_getElem? (i := 8) (by decide +kernel))) rfl
theorem ml_X7_375 : Cond.methodLink zR7 375 yX7_goHaving ∈ gT := gmk (sm_6 (List.mem_of_getElem? (i := 28) (by decide +kernel))) rfl
theorem ml_X7_378 : Cond.methodLink zR7 378 yX7_goAsking ∈ gT := gmk (sm_6 (List.mem_of_getElem? (i := 33) (by decide +kernel))) rfl
theorem ml_X7_381 : Cond.methodLink zR7 381 yX7_goDay ∈ gT := gmk (sm_6 (List.mem_of_getElem? (i := 24) (by decide +kernel))) rfl
theorem ml_X7_384 : Cond.methodLink zR7 384 yX7_isDays ∈ gT := gmk (sm_6 (List.mem_of_getElem? (i := 16) (by decide +kernel))) rfl
theorem ml_X7_387 : Cond.methodLink zR7 387 yX7_goDays ∈ gT := gmk (sm_6 (List.mem_of_getElem? (i := 20) (by decide +kernel))) rfl
theorem ml_X7_391 : Cond.methodLink zR7 391 yX7_save ∈ gT := gmk (sm_6 (List.mem_of_getElem? (i := 41) (by decide +kernel))) rfl
theorem ml_X7_394 : Cond.methodLink zR7 394 yX7_putBack ∈ gT := gmk (sm_6 (List.mem_of_getElem? (i := 46) (by decide +kernel))) rfl
theorem ml_X7_397 : Cond.methodLink zR7 397 yX7_turnedThen ∈ gT := gmk (sm_6 (List.mem_of_getElem? (i := 70) (by decide +kernel))) rfl
theorem ml_X7_400 : Cond.methodLink zR7 400 yX7_turned ∈ gT := gmk (sm_6 (List.mem_of_getElem? (i := 66) (by decide +kernel))) rfl
theorem ml_X7_403 : Cond.methodLink zR7 403 yX7_callOf ∈ gT := gmk (sm_6 (List.mem_of_getElem? (i := 62) (by decide +kernel))) rfl
theorem ml_X7_406 : Cond.methodLink zR7 406 yX7_aheadOf ∈ gT := gmk (sm_6 (List.mem_of_getElem? (i := 74) (by decide +kernel))) rfl
theorem ml_X7_409 : Cond.methodLink zR7 409 yX7_markOf ∈ gT := gmk (sm_6 (List.mem_of_getElem? (i := 78) (by decide +kernel))) rfl
theorem ml_X7_412 : Cond.methodLink zR7 412 yX7_isSeen ∈ gT := gmk (sm_6 (List.mem_of_getElem? (i := 98) (by decide +kernel))) rfl
theorem ml_X7_415 : Cond.methodLink zR7 415 yX7_divisor ∈ gT := gmk (sm_6 (List.mem_of_getElem? (i := 115) (by decide +kernel))) rfl
theorem ml_X7_420 : Cond.methodLink zR7 420 yX7_lowest_ ∈ gT := gmk (sm_6 (List.mem_of_getElem? (i := 111) (by decide +kernel))) rfl
theorem ml_X7_424 : Cond.methodLink zR7 424 yX7_isTape ∈ gT := gmk (sm_6 (List.mem_of_getElem? (i := 143) (by decide +kernel))) rfl
theorem ml_X7_427 : Cond.methodLink zR7 427 yX7_body ∈ gT := gmk (sm_6 (List.mem_of_getElem? (i := 163) (by decide +kernel))) rfl
theorem ml_X7_430 : Cond.methodLink zR7 430 yX7_borrowerSinks ∈ gT := gmk (sm_6 (List.mem_of_getElem? (i := 167) (by decide +kernel))) rfl
theorem ml_X7_433 : Cond.methodLink zR7 433 yX7_sinksAct ∈ gT := gmk (sm_6 (List.mem_of_getElem? (i := 159) (by decide +kernel))) rfl
theorem ml_X7_436 : Cond.methodLink zR7 436 yX7_borrowerBorrows ∈ gT := gmk (sm_6 (List.mem_of_getElem? (i := 179) (by decide +kernel))) rfl
theorem ml_X7_439 : Cond.methodLink zR7 439 yX7_lateBorrows ∈ gT := gmk (sm_6 (List.mem_of_getElem? (i := 175) (by decide +kernel))) rfl
theorem ml_X7_442 : Cond.methodLink zR7 442 yX7_borrowsAct ∈ gT := gmk (sm_6 (List.mem_of_getElem? (i := 171) (by decide +kernel))) rfl
theorem ml_X7_445 : Cond.methodLink zR7 445 yX7_borrowerTells ∈ gT := gmk (sm_6 (List.mem_of_getElem? (i := 187) (by decide +kernel))) rfl
theorem ml_X7_448 : Cond.methodLink zR7 448 yX7_tellsAct ∈ gT := gmk (sm_6 (List.mem_of_getElem? (i := 183) (by decide +kernel))) rfl
theorem ml_X7_451 : Cond.methodLink zR7 451 yX7_narrow ∈ gT := gmk (sm_6 (List.mem_of_getElem? (i := 211) (by decide +kernel))) rfl
theorem ml_J0_335 : Cond.methodLink zRJ0 335 yJ0_coder_7d493 ∈ gT := gmk (sm_2 (List.mem_of_getElem? (i := 189) (by decide +kernel))) rfl
theorem ml_J0_492 : Cond.methodLink zRJ0 492 yJ0_isLatin1_aae02 ∈ gT := gmk (sm_2 (List.mem_of_getElem? (i := 199) (by decide +kernel))) rfl
theorem ml_J0_495 : Cond.methodLink zRJ0 495 yJ1_charAt_3b067 ∈ gT := gmk (sm_2 (List.mem_of_getElem? (i := 203) (by decide +kernel))) rfl
theorem ml_J0_498 : Cond.methodLink zRJ0 498 yJ2_charAt_3b067 ∈ gT := gmk (sm_2 (List.mem_of_getElem? (i := 214) (by decide +kernel))) rfl
theorem ml_J0_1059 : Cond.methodLink zRJ0 1059 yJ3_checkIndex_8e157 ∈ gT := gmk (sm_2 (List.mem_of_getElem? (i := 211) (by decide +kernel))) rfl
theorem ml_J1_9 : Cond.methodLink zRJ1 9 yJ0_checkIndex_df160 ∈ gT := gmk (sm_2 (List.mem_of_getElem? (i := 206) (by decide +kernel))) rfl
theorem ml_J2_48 : Cond.methodLink zRJ2 48 yJ2_length_9d52b ∈ gT := gmk (sm_2 (List.mem_of_getElem? (i := 220) (by decide +kernel))) rfl
theorem ml_J2_67 : Cond.methodLink zRJ2 67 yJ2_checkIndex_2214a ∈ gT := gmk (sm_2 (List.mem_of_getElem? (i := 217) (by decide +kernel))) rfl
theorem ml_J2_71 : Cond.methodLink zRJ2 71 yJ2_getChar_3b067 ∈ gT := gmk (sm_2 (List.mem_of_getElem? (i := 224) (by decide +kernel))) rfl
theorem ml_J2_414 : Cond.methodLink zRJ2 414 yJ0_checkIndex_df160 ∈ gT := gmk (sm_2 (List.mem_of_getElem? (i := 223) (by decide +kernel))) rfl
theorem mn_X6_11 : Cond.methodLinkNest zR6 11 yX5_init "WellLendsDepth" ∈ lw_tbl := sm_1 (List.mem_of_getElem? (i := 25) (by decide +kernel))
theorem mn_X6_26 : Cond.methodLinkNest zR6 26 yX2_init "WellLendsDepth" ∈ lw_tbl := sm_1 (List.mem_of_getElem? (i := 96) (by decide +kernel))
theorem mn_X6_36 : Cond.methodLinkNest zR6 36 yX3_init "WellLendsDepth" ∈ lw_tbl := sm_1 (List.mem_of_getElem? (i := 137) (by decide +kernel))
theorem mn_X6_43 : Cond.methodLinkNest zR6 43 yX1_init "WellLendsDepth" ∈ lw_tbl := sm_1 (List.mem_of_getElem? (i := 207) (by decide +kernel))
theorem mn_X6_54 : Cond.methodLinkNest zR6 54 yX0_init "WellLendsDepth" ∈ lw_tbl := sm_1 (List.mem_of_getElem? (i := 211) (by decide +kernel))
theorem mn_X3_26 : Cond.methodLinkNest zR3 26 yX1_init "WellLendsDepth" ∈ lw_tbl := sm_1 (List.mem_of_getElem? (i := 143) (by decide +kernel))
theorem fl_X6_12 : Cond.fieldLink zR6 12 "WellLendsDepth" "now" "LWellLendsDepth$Well;" ∈ gT := gmk (sm_2 (List.mem_of_getElem? (i := 13) (by decide +kernel))) rfl
theorem fl_X6_18 : Cond.fieldLink zR6 18 "WellLendsDepth" "trial" "LWellLendsDepth$Well;" ∈ gT := gmk (sm_2 (List.mem_of_getElem? (i := 14) (by decide +kernel))) rfl
theorem fl_X6_21 : Cond.fieldLink zR6 21 "WellLendsDepth" "kept" "LWellLendsDepth$Well;" ∈ gT := gmk (sm_2 (List.mem_of_getElem? (i := 15) (by decide +kernel))) rfl
theorem fl_X6_27 : Cond.fieldLink zR6 27 "WellLendsDepth" "hand" "LWellLendsDepth$Hand;" ∈ gT := gmk (sm_2 (List.mem_of_getElem? (i := 16) (by decide +kernel))) rfl
theorem fl_X6_31 : Cond.fieldLink zR6 31 "WellLendsDepth" "keptHand" "LWellLendsDepth$Hand;" ∈ gT := gmk (sm_2 (List.mem_of_getElem? (i := 17) (by decide +kernel))) rfl
theorem fl_X6_37 : Cond.fieldLink zR6 37 "WellLendsDepth" "reader" "LWellLendsDepth$Reader;" ∈ gT := gmk (sm_2 (List.mem_of_getElem? (i := 18) (by decide +kernel))) rfl
theorem fl_X6_44 : Cond.fieldLink zR6 44 "WellLendsDepth" "plain" "LWellLendsDepth$Country;" ∈ gT := gmk (sm_2 (List.mem_of_getElem? (i := 19) (by decide +kernel))) rfl
theorem fl_X6_48 : Cond.fieldLink zR6 48 "WellLendsDepth" "countries" "[LWellLendsDepth$Country;" ∈ gT := gmk (sm_2 (List.mem_of_getElem? (i := 20) (by decide +kernel))) rfl
theorem fl_X6_55 : Cond.fieldLink zR6 55 "WellLendsDepth" "actor" "LWellLendsDepth$Actor;" ∈ gT := gmk (sm_2 (List.mem_of_getElem? (i := 21) (by decide +kernel))) rfl
theorem fl_X6_62 : Cond.fieldLink zR6 62 "WellLendsDepth" "tapes" "LWellLendsDepth$Tapes;" ∈ gT := gmk (sm_2 (List.mem_of_getElem? (i := 22) (by decide +kernel))) rfl
theorem fl_X6_66 : Cond.fieldLink zR6 66 "WellLendsDepth" "made" "I" ∈ gT := gmk (sm_2 (List.mem_of_getElem? (i := 23) (by decide +kernel))) rfl
theorem fl_X6_70 : Cond.fieldLink zR6 70 "WellLendsDepth" "holding" "I" ∈ gT := gmk (sm_2 (List.mem_of_getElem? (i := 24) (by decide +kernel))) rfl
theorem fl_X6_73 : Cond.fieldLink zR6 73 "WellLendsDepth" "keptHolding" "I" ∈ gT := gmk (sm_2 (List.mem_of_getElem? (i := 25) (by decide +kernel))) rfl
theorem fl_X6_76 : Cond.fieldLink zR6 76 "WellLendsDepth" "imaged" "Z" ∈ gT := gmk (sm_2 (List.mem_of_getElem? (i := 26) (by decide +kernel))) rfl
theorem fl_X6_84 : Cond.fieldLink zR6 84 "WellLendsDepth$Well" "count" "I" ∈ gT := gmk (sm_1 (List.mem_of_getElem? (i := 35) (by decide +kernel))) rfl
theorem fl_X6_95 : Cond.fieldLink zR6 95 "WellLendsDepth$Well" "kind" "[I" ∈ gT := gmk (sm_1 (List.mem_of_getElem? (i := 39) (by decide +kernel))) rfl
theorem fl_X6_99 : Cond.fieldLink zR6 99 "WellLendsDepth$Well" "v" "[I" ∈ gT := gmk (sm_1 (List.mem_of_getElem? (i := 43) (by decide +kernel))) rfl
theorem fl_X6_102 : Cond.fieldLink zR6 102 "WellLendsDepth$Well" "wants" "[I" ∈ gT := gmk (sm_1 (List.mem_of_getElem? (i := 47) (by decide +kernel))) rfl
theorem fl_X6_105 : Cond.fieldLink zR6 105 "WellLendsDepth$Well" "every" "[I" ∈ gT := gmk (sm_1 (List.mem_of_getElem? (i := 49) (by decide +kernel))) rfl
theorem fl_X6_108 : Cond.fieldLink zR6 108 "WellLendsDepth$Well" "has" "[I" ∈ gT := gmk (sm_1 (List.mem_of_getElem? (i := 51) (by decide +kernel))) rfl
theorem fl_X6_111 : Cond.fieldLink zR6 111 "WellLendsDepth$Well" "left" "[I" ∈ gT := gmk (sm_1 (List.mem_of_getElem? (i := 54) (by decide +kernel))) rfl
theorem fl_X6_114 : Cond.fieldLink zR6 114 "WellLendsDepth$Well" "owes" "[I" ∈ gT := gmk (sm_1 (List.mem_of_getElem? (i := 57) (by decide +kernel))) rfl
theorem fl_X6_117 : Cond.fieldLink zR6 117 "WellLendsDepth$Well" "sent" "[I" ∈ gT := gmk (sm_1 (List.mem_of_getElem? (i := 59) (by decide +kernel))) rfl
theorem fl_X6_128 : Cond.fieldLink zR6 128 "WellLendsDepth$Country" "mark" "I" ∈ gT := gmk (sm_1 (List.mem_of_getElem? (i := 148) (by decide +kernel))) rfl
theorem fl_X6_145 : Cond.fieldLink zR6 145 "WellLendsDepth$Well" "rows" "[I" ∈ gT := gmk (sm_1 (List.mem_of_getElem? (i := 63) (by decide +kernel))) rfl
theorem fl_X6_148 : Cond.fieldLink zR6 148 "WellLendsDepth$Well" "depth" "I" ∈ gT := gmk (sm_1 (List.mem_of_getElem? (i := 30) (by decide +kernel))) rfl
theorem fl_X6_151 : Cond.fieldLink zR6 151 "WellLendsDepth$Well" "line" "[I" ∈ gT := gmk (sm_1 (List.mem_of_getElem? (i := 61) (by decide +kernel))) rfl
theorem fl_X6_162 : Cond.fieldLink zR6 162 "WellLendsDepth$Reader" "length" "I" ∈ gT := gmk (sm_1 (List.mem_of_getElem? (i := 190) (by decide +kernel))) rfl
theorem fl_X6_172 : Cond.fieldLink zR6 172 "WellLendsDepth$Well" "day" "I" ∈ gT := gmk (sm_1 (List.mem_of_getElem? (i := 33) (by decide +kernel))) rfl
theorem fl_X6_175 : Cond.fieldLink zR6 175 "WellLendsDepth$Country" "spring" "I" ∈ gT := gmk (sm_1 (List.mem_of_getElem? (i := 152) (by decide +kernel))) rfl
theorem fl_X6_178 : Cond.fieldLink zR6 178 "WellLendsDepth$Country" "fine" "I" ∈ gT := gmk (sm_1 (List.mem_of_getElem? (i := 156) (by decide +kernel))) rfl
theorem fl_X6_198 : Cond.fieldLink zR6 198 "WellLendsDepth$Well" "turned" "I" ∈ gT := gmk (sm_1 (List.mem_of_getElem? (i := 37) (by decide +kernel))) rfl
theorem fl_X6_223 : Cond.fieldLink zR6 223 "WellLendsDepth$Hand" "seenCount" "I" ∈ gT := gmk (sm_1 (List.mem_of_getElem? (i := 101) (by decide +kernel))) rfl
theorem fl_X6_239 : Cond.fieldLink zR6 239 "WellLendsDepth$Hand" "yearCount" "I" ∈ gT := gmk (sm_1 (List.mem_of_getElem? (i := 103) (by decide +kernel))) rfl
theorem fl_X6_245 : Cond.fieldLink zR6 245 "WellLendsDepth$Hand" "yearWhat" "[I" ∈ gT := gmk (sm_1 (List.mem_of_getElem? (i := 109) (by decide +kernel))) rfl
theorem fl_X6_248 : Cond.fieldLink zR6 248 "WellLendsDepth$Hand" "yearWho" "[I" ∈ gT := gmk (sm_1 (List.mem_of_getElem? (i := 111) (by decide +kernel))) rfl
theorem fl_X6_254 : Cond.fieldLink zR6 254 "WellLendsDepth$Hand" "bookCount" "I" ∈ gT := gmk (sm_1 (List.mem_of_getElem? (i := 105) (by decide +kernel))) rfl
theorem fl_X6_261 : Cond.fieldLink zR6 261 "WellLendsDepth$Hand" "bookWho" "[I" ∈ gT := gmk (sm_1 (List.mem_of_getElem? (i := 113) (by decide +kernel))) rfl
theorem fl_X6_264 : Cond.fieldLink zR6 264 "WellLendsDepth$Hand" "bookOwes" "[I" ∈ gT := gmk (sm_1 (List.mem_of_getElem? (i := 115) (by decide +kernel))) rfl
theorem fl_X6_271 : Cond.fieldLink zR6 271 "WellLendsDepth$Tapes" "sort" "[I" ∈ gT := gmk (sm_2 (List.mem_of_getElem? (i := 1) (by decide +kernel))) rfl
theorem fl_X6_278 : Cond.fieldLink zR6 278 "WellLendsDepth$Tapes" "items" "[[J" ∈ gT := gmk (sm_2 (List.mem_of_getElem? (i := 4) (by decide +kernel))) rfl
theorem fl_X6_302 : Cond.fieldLink zR6 302 "WellLendsDepth$Actor" "ran" "I" ∈ gT := gmk (sm_1 (List.mem_of_getElem? (i := 216) (by decide +kernel))) rfl
theorem fl_X6_322 : Cond.fieldLink zR6 322 "WellLendsDepth" "ABOVE" "[I" ∈ gT := gmk (sm_4 (List.mem_of_getElem? (i := 26) (by decide +kernel))) rfl
theorem fl_X0_9 : Cond.fieldLink zR0 9 "WellLendsDepth$Actor" "ran" "I" ∈ gT := gmk (sm_1 (List.mem_of_getElem? (i := 215) (by decide +kernel))) rfl
theorem fl_X0_15 : Cond.fieldLink zR0 15 "WellLendsDepth$Actor" "trace" "[I" ∈ gT := gmk (sm_1 (List.mem_of_getElem? (i := 217) (by decide +kernel))) rfl
theorem fl_X0_19 : Cond.fieldLink zR0 19 "WellLendsDepth$Actor" "number" "I" ∈ gT := gmk (sm_1 (List.mem_of_getElem? (i := 218) (by decide +kernel))) rfl
theorem fl_X0_22 : Cond.fieldLink zR0 22 "WellLendsDepth$Actor" "kind" "I" ∈ gT := gmk (sm_1 (List.mem_of_getElem? (i := 219) (by decide +kernel))) rfl
theorem fl_X0_25 : Cond.fieldLink zR0 25 "WellLendsDepth$Actor" "v" "I" ∈ gT := gmk (sm_1 (List.mem_of_getElem? (i := 220) (by decide +kernel))) rfl
theorem fl_X0_28 : Cond.fieldLink zR0 28 "WellLendsDepth$Well" "kind" "[I" ∈ gT := gmk (sm_1 (List.mem_of_getElem? (i := 40) (by decide +kernel))) rfl
theorem fl_X0_32 : Cond.fieldLink zR0 32 "WellLendsDepth$Well" "v" "[I" ∈ gT := gmk (sm_1 (List.mem_of_getElem? (i := 44) (by decide +kernel))) rfl
theorem fl_X0_38 : Cond.fieldLink zR0 38 "WellLendsDepth$Actor" "BODIES" "[I" ∈ gT := gmk (sm_4 (List.mem_of_getElem? (i := 3) (by decide +kernel))) rfl
theorem fl_X1_9 : Cond.fieldLink zR1 9 "WellLendsDepth$Country" "mark" "I" ∈ gT := gmk (sm_1 (List.mem_of_getElem? (i := 147) (by decide +kernel))) rfl
theorem fl_X1_13 : Cond.fieldLink zR1 13 "WellLendsDepth$Country" "spring" "I" ∈ gT := gmk (sm_1 (List.mem_of_getElem? (i := 150) (by decide +kernel))) rfl
theorem fl_X1_16 : Cond.fieldLink zR1 16 "WellLendsDepth$Country" "fine" "I" ∈ gT := gmk (sm_1 (List.mem_of_getElem? (i := 154) (by decide +kernel))) rfl
theorem fl_X1_19 : Cond.fieldLink zR1 19 "WellLendsDepth$Country" "prices" "I" ∈ gT := gmk (sm_1 (List.mem_of_getElem? (i := 158) (by decide +kernel))) rfl
theorem fl_X1_22 : Cond.fieldLink zR1 22 "WellLendsDepth$Country" "used" "I" ∈ gT := gmk (sm_1 (List.mem_of_getElem? (i := 159) (by decide +kernel))) rfl
theorem fl_X1_25 : Cond.fieldLink zR1 25 "WellLendsDepth$Country" "price" "[I" ∈ gT := gmk (sm_1 (List.mem_of_getElem? (i := 160) (by decide +kernel))) rfl
theorem fl_X1_29 : Cond.fieldLink zR1 29 "WellLendsDepth$Country" "ends" "[I" ∈ gT := gmk (sm_1 (List.mem_of_getElem? (i := 161) (by decide +kernel))) rfl
theorem fl_X1_34 : Cond.fieldLink zR1 34 "WellLendsDepth$Country" "step" "[I" ∈ gT := gmk (sm_1 (List.mem_of_getElem? (i := 162) (by decide +kernel))) rfl
theorem fl_X1_37 : Cond.fieldLink zR1 37 "WellLendsDepth$Country" "about" "[I" ∈ gT := gmk (sm_1 (List.mem_of_getElem? (i := 163) (by decide +kernel))) rfl
theorem fl_X1_40 : Cond.fieldLink zR1 40 "WellLendsDepth$Country" "number" "[I" ∈ gT := gmk (sm_1 (List.mem_of_getElem? (i := 164) (by decide +kernel))) rfl
theorem fl_X1_43 : Cond.fieldLink zR1 43 "WellLendsDepth$Country" "facts" "[I" ∈ gT := gmk (sm_1 (List.mem_of_getElem? (i := 165) (by decide +kernel))) rfl
theorem fl_X1_46 : Cond.fieldLink zR1 46 "WellLendsDepth$Well" "kind" "[I" ∈ gT := gmk (sm_1 (List.mem_of_getElem? (i := 41) (by decide +kernel))) rfl
theorem fl_X1_51 : Cond.fieldLink zR1 51 "WellLendsDepth$Well" "v" "[I" ∈ gT := gmk (sm_1 (List.mem_of_getElem? (i := 45) (by decide +kernel))) rfl
theorem fl_X1_54 : Cond.fieldLink zR1 54 "WellLendsDepth$Well" "has" "[I" ∈ gT := gmk (sm_1 (List.mem_of_getElem? (i := 52) (by decide +kernel))) rfl
theorem fl_X1_57 : Cond.fieldLink zR1 57 "WellLendsDepth$Well" "left" "[I" ∈ gT := gmk (sm_1 (List.mem_of_getElem? (i := 55) (by decide +kernel))) rfl
theorem fl_X1_60 : Cond.fieldLink zR1 60 "WellLendsDepth$Well" "day" "I" ∈ gT := gmk (sm_1 (List.mem_of_getElem? (i := 32) (by decide +kernel))) rfl
theorem fl_X2_7 : Cond.fieldLink zR2 7 "WellLendsDepth$Hand" "seenCount" "I" ∈ gT := gmk (sm_1 (List.mem_of_getElem? (i := 100) (by decide +kernel))) rfl
theorem fl_X2_13 : Cond.fieldLink zR2 13 "WellLendsDepth$Hand" "yearCount" "I" ∈ gT := gmk (sm_1 (List.mem_of_getElem? (i := 102) (by decide +kernel))) rfl
theorem fl_X2_16 : Cond.fieldLink zR2 16 "WellLendsDepth$Hand" "bookCount" "I" ∈ gT := gmk (sm_1 (List.mem_of_getElem? (i := 104) (by decide +kernel))) rfl
theorem fl_X2_19 : Cond.fieldLink zR2 19 "WellLendsDepth$Hand" "seenDepth" "[I" ∈ gT := gmk (sm_1 (List.mem_of_getElem? (i := 106) (by decide +kernel))) rfl
theorem fl_X2_23 : Cond.fieldLink zR2 23 "WellLendsDepth$Hand" "seenBehind" "[I" ∈ gT := gmk (sm_1 (List.mem_of_getElem? (i := 107) (by decide +kernel))) rfl
theorem fl_X2_26 : Cond.fieldLink zR2 26 "WellLendsDepth$Hand" "yearWhat" "[I" ∈ gT := gmk (sm_1 (List.mem_of_getElem? (i := 108) (by decide +kernel))) rfl
theorem fl_X2_29 : Cond.fieldLink zR2 29 "WellLendsDepth$Hand" "yearWho" "[I" ∈ gT := gmk (sm_1 (List.mem_of_getElem? (i := 110) (by decide +kernel))) rfl
theorem fl_X2_32 : Cond.fieldLink zR2 32 "WellLendsDepth$Hand" "bookWho" "[I" ∈ gT := gmk (sm_1 (List.mem_of_getElem? (i := 112) (by decide +kernel))) rfl
theorem fl_X2_35 : Cond.fieldLink zR2 35 "WellLendsDepth$Hand" "bookOwes" "[I" ∈ gT := gmk (sm_1 (List.mem_of_getElem? (i := 114) (by decide +kernel))) rfl
theorem fl_X3_7 : Cond.fieldLink zR3 7 "WellLendsDepth$Reader" "length" "I" ∈ gT := gmk (sm_1 (List.mem_of_getElem? (i := 189) (by decide +kernel))) rfl
theorem fl_X3_13 : Cond.fieldLink zR3 13 "WellLendsDepth$Reader" "at" "I" ∈ gT := gmk (sm_1 (List.mem_of_getElem? (i := 191) (by decide +kernel))) rfl
theorem fl_X3_16 : Cond.fieldLink zR3 16 "WellLendsDepth$Reader" "faulty" "Z" ∈ gT := gmk (sm_1 (List.mem_of_getElem? (i := 192) (by decide +kernel))) rfl
theorem fl_X3_20 : Cond.fieldLink zR3 20 "WellLendsDepth$Reader" "text" "[I" ∈ gT := gmk (sm_1 (List.mem_of_getElem? (i := 193) (by decide +kernel))) rfl
theorem fl_X3_27 : Cond.fieldLink zR3 27 "WellLendsDepth$Reader" "country" "LWellLendsDepth$Country;" ∈ gT := gmk (sm_1 (List.mem_of_getElem? (i := 194) (by decide +kernel))) rfl
theorem fl_X3_64 : Cond.fieldLink zR3 64 "WellLendsDepth$Country" "mark" "I" ∈ gT := gmk (sm_1 (List.mem_of_getElem? (i := 149) (by decide +kernel))) rfl
theorem fl_X3_67 : Cond.fieldLink zR3 67 "WellLendsDepth$Country" "spring" "I" ∈ gT := gmk (sm_1 (List.mem_of_getElem? (i := 151) (by decide +kernel))) rfl
theorem fl_X3_70 : Cond.fieldLink zR3 70 "WellLendsDepth$Country" "fine" "I" ∈ gT := gmk (sm_1 (List.mem_of_getElem? (i := 155) (by decide +kernel))) rfl
theorem fl_X4_9 : Cond.fieldLink zR4 9 "WellLendsDepth$Tapes" "sort" "[I" ∈ gT := gmk (sm_2 (List.mem_of_getElem? (i := 0) (by decide +kernel))) rfl
theorem fl_X4_13 : Cond.fieldLink zR4 13 "WellLendsDepth$Tapes" "size" "[I" ∈ gT := gmk (sm_2 (List.mem_of_getElem? (i := 2) (by decide +kernel))) rfl
theorem fl_X4_18 : Cond.fieldLink zR4 18 "WellLendsDepth$Tapes" "items" "[[J" ∈ gT := gmk (sm_2 (List.mem_of_getElem? (i := 3) (by decide +kernel))) rfl
theorem fl_X5_9 : Cond.fieldLink zR5 9 "WellLendsDepth$Well" "depth" "I" ∈ gT := gmk (sm_1 (List.mem_of_getElem? (i := 29) (by decide +kernel))) rfl
theorem fl_X5_15 : Cond.fieldLink zR5 15 "WellLendsDepth$Well" "day" "I" ∈ gT := gmk (sm_1 (List.mem_of_getElem? (i := 31) (by decide +kernel))) rfl
theorem fl_X5_18 : Cond.fieldLink zR5 18 "WellLendsDepth$Well" "count" "I" ∈ gT := gmk (sm_1 (List.mem_of_getElem? (i := 34) (by decide +kernel))) rfl
theorem fl_X5_21 : Cond.fieldLink zR5 21 "WellLendsDepth$Well" "turned" "I" ∈ gT := gmk (sm_1 (List.mem_of_getElem? (i := 36) (by decide +kernel))) rfl
theorem fl_X5_24 : Cond.fieldLink zR5 24 "WellLendsDepth$Well" "kind" "[I" ∈ gT := gmk (sm_1 (List.mem_of_getElem? (i := 38) (by decide +kernel))) rfl
theorem fl_X5_28 : Cond.fieldLink zR5 28 "WellLendsDepth$Well" "v" "[I" ∈ gT := gmk (sm_1 (List.mem_of_getElem? (i := 42) (by decide +kernel))) rfl
theorem fl_X5_31 : Cond.fieldLink zR5 31 "WellLendsDepth$Well" "wants" "[I" ∈ gT := gmk (sm_1 (List.mem_of_getElem? (i := 46) (by decide +kernel))) rfl
theorem fl_X5_34 : Cond.fieldLink zR5 34 "WellLendsDepth$Well" "every" "[I" ∈ gT := gmk (sm_1 (List.mem_of_getElem? (i := 48) (by decide +kernel))) rfl
theorem fl_X5_37 : Cond.fieldLink zR5 37 "WellLendsDepth$Well" "has" "[I" ∈ gT := gmk (sm_1 (List.mem_of_getElem? (i := 50) (by decide +kernel))) rfl
theorem fl_X5_40 : Cond.fieldLink zR5 40 "WellLendsDepth$Well" "left" "[I" ∈ gT := gmk (sm_1 (List.mem_of_getElem? (i := 53) (by decide +kernel))) rfl
theorem fl_X5_43 : Cond.fieldLink zR5 43 "WellLendsDepth$Well" "owes" "[I" ∈ gT := gmk (sm_1 (List.mem_of_getElem? (i := 56) (by decide +kernel))) rfl
theorem fl_X5_46 : Cond.fieldLink zR5 46 "WellLendsDepth$Well" "sent" "[I" ∈ gT := gmk (sm_1 (List.mem_of_getElem? (i := 58) (by decide +kernel))) rfl
theorem fl_X5_49 : Cond.fieldLink zR5 49 "WellLendsDepth$Well" "line" "[I" ∈ gT := gmk (sm_1 (List.mem_of_getElem? (i := 60) (by decide +kernel))) rfl
theorem fl_X5_52 : Cond.fieldLink zR5 52 "WellLendsDepth$Well" "rows" "[I" ∈ gT := gmk (sm_1 (List.mem_of_getElem? (i := 62) (by decide +kernel))) rfl
theorem fl_X5_81 : Cond.fieldLink zR5 81 "WellLendsDepth$Country" "fine" "I" ∈ gT := gmk (sm_1 (List.mem_of_getElem? (i := 157) (by decide +kernel))) rfl
theorem fl_X5_90 : Cond.fieldLink zR5 90 "WellLendsDepth$Country" "spring" "I" ∈ gT := gmk (sm_1 (List.mem_of_getElem? (i := 153) (by decide +kernel))) rfl
theorem fl_X7_7 : Cond.fieldLink zR7 7 "WellLendsDepthModel" "deep" "I" ∈ gT := gmk (sm_4 (List.mem_of_getElem? (i := 65) (by decide +kernel))) rfl
theorem fl_X7_13 : Cond.fieldLink zR7 13 "WellLendsDepthModel" "borrowers" "I" ∈ gT := gmk (sm_4 (List.mem_of_getElem? (i := 66) (by decide +kernel))) rfl
theorem fl_X7_16 : Cond.fieldLink zR7 16 "WellLendsDepthModel" "days" "I" ∈ gT := gmk (sm_4 (List.mem_of_getElem? (i := 67) (by decide +kernel))) rfl
theorem fl_X7_19 : Cond.fieldLink zR7 19 "WellLendsDepthModel" "kind" "[I" ∈ gT := gmk (sm_4 (List.mem_of_getElem? (i := 68) (by decide +kernel))) rfl
theorem fl_X7_23 : Cond.fieldLink zR7 23 "WellLendsDepthModel" "v" "[I" ∈ gT := gmk (sm_4 (List.mem_of_getElem? (i := 69) (by decide +kernel))) rfl
theorem fl_X7_26 : Cond.fieldLink zR7 26 "WellLendsDepthModel" "wants" "[I" ∈ gT := gmk (sm_4 (List.mem_of_getElem? (i := 70) (by decide +kernel))) rfl
theorem fl_X7_29 : Cond.fieldLink zR7 29 "WellLendsDepthModel" "every" "[I" ∈ gT := gmk (sm_4 (List.mem_of_getElem? (i := 71) (by decide +kernel))) rfl
theorem fl_X7_32 : Cond.fieldLink zR7 32 "WellLendsDepthModel" "has" "[I" ∈ gT := gmk (sm_4 (List.mem_of_getElem? (i := 72) (by decide +kernel))) rfl
theorem fl_X7_35 : Cond.fieldLink zR7 35 "WellLendsDepthModel" "left" "[I" ∈ gT := gmk (sm_4 (List.mem_of_getElem? (i := 73) (by decide +kernel))) rfl
theorem fl_X7_38 : Cond.fieldLink zR7 38 "WellLendsDepthModel" "owes" "[I" ∈ gT := gmk (sm_4 (List.mem_of_getElem? (i := 74) (by decide +kernel))) rfl
theorem fl_X7_41 : Cond.fieldLink zR7 41 "WellLendsDepthModel" "sent" "[I" ∈ gT := gmk (sm_4 (List.mem_of_getElem? (i := 75) (by decide +kernel))) rfl
theorem fl_X7_44 : Cond.fieldLink zR7 44 "WellLendsDepthModel" "rows" "[I" ∈ gT := gmk (sm_4 (List.mem_of_getElem? (i := 76) (by decide +kernel))) rfl
theorem fl_X7_47 : Cond.fieldLink zR7 47 "WellLendsDepthModel" "line" "[I" ∈ gT := gmk (sm_4 (List.mem_of_getElem? (i := 77) (by decide +kernel))) rfl
theorem fl_X7_50 : Cond.fieldLink zR7 50 "WellLendsDepthModel" "countries" "I" ∈ gT := gmk (sm_4 (List.mem_of_getElem? (i := 78) (by decide +kernel))) rfl
theorem fl_X7_53 : Cond.fieldLink zR7 53 "WellLendsDepthModel" "the" "I" ∈ gT := gmk (sm_4 (List.mem_of_getElem? (i := 79) (by decide +kernel))) rfl
theorem fl_X7_56 : Cond.fieldLink zR7 56 "WellLendsDepthModel" "fed" "I" ∈ gT := gmk (sm_4 (List.mem_of_getElem? (i := 80) (by decide +kernel))) rfl
theorem fl_X7_59 : Cond.fieldLink zR7 59 "WellLendsDepthModel" "at" "I" ∈ gT := gmk (sm_4 (List.mem_of_getElem? (i := 81) (by decide +kernel))) rfl
theorem fl_X7_62 : Cond.fieldLink zR7 62 "WellLendsDepthModel" "digits" "I" ∈ gT := gmk (sm_4 (List.mem_of_getElem? (i := 82) (by decide +kernel))) rfl
theorem fl_X7_65 : Cond.fieldLink zR7 65 "WellLendsDepthModel" "text" "[I" ∈ gT := gmk (sm_4 (List.mem_of_getElem? (i := 83) (by decide +kernel))) rfl
theorem fl_X7_68 : Cond.fieldLink zR7 68 "WellLendsDepthModel" "clauses" "[I" ∈ gT := gmk (sm_4 (List.mem_of_getElem? (i := 84) (by decide +kernel))) rfl
theorem fl_X7_71 : Cond.fieldLink zR7 71 "WellLendsDepthModel" "word" "[I" ∈ gT := gmk (sm_4 (List.mem_of_getElem? (i := 85) (by decide +kernel))) rfl
theorem fl_X7_74 : Cond.fieldLink zR7 74 "WellLendsDepthModel" "number" "[I" ∈ gT := gmk (sm_4 (List.mem_of_getElem? (i := 86) (by decide +kernel))) rfl
theorem fl_X7_77 : Cond.fieldLink zR7 77 "WellLendsDepthModel" "from" "[I" ∈ gT := gmk (sm_4 (List.mem_of_getElem? (i := 87) (by decide +kernel))) rfl
theorem fl_X7_80 : Cond.fieldLink zR7 80 "WellLendsDepthModel" "to" "[I" ∈ gT := gmk (sm_4 (List.mem_of_getElem? (i := 88) (by decide +kernel))) rfl
theorem fl_X7_83 : Cond.fieldLink zR7 83 "WellLendsDepthModel" "sign" "[I" ∈ gT := gmk (sm_4 (List.mem_of_getElem? (i := 89) (by decide +kernel))) rfl
theorem fl_X7_86 : Cond.fieldLink zR7 86 "WellLendsDepthModel" "waits" "[I" ∈ gT := gmk (sm_4 (List.mem_of_getElem? (i := 90) (by decide +kernel))) rfl
theorem fl_X7_89 : Cond.fieldLink zR7 89 "WellLendsDepthModel" "signs" "I" ∈ gT := gmk (sm_4 (List.mem_of_getElem? (i := 91) (by decide +kernel))) rfl
theorem fl_X7_92 : Cond.fieldLink zR7 92 "WellLendsDepthModel" "waiting" "I" ∈ gT := gmk (sm_4 (List.mem_of_getElem? (i := 92) (by decide +kernel))) rfl
theorem fl_X7_95 : Cond.fieldLink zR7 95 "WellLendsDepthModel" "open" "I" ∈ gT := gmk (sm_4 (List.mem_of_getElem? (i := 93) (by decide +kernel))) rfl
theorem fl_X7_98 : Cond.fieldLink zR7 98 "WellLendsDepthModel" "letters" "[I" ∈ gT := gmk (sm_4 (List.mem_of_getElem? (i := 94) (by decide +kernel))) rfl
theorem fl_X7_101 : Cond.fieldLink zR7 101 "WellLendsDepthModel" "markInMind" "I" ∈ gT := gmk (sm_4 (List.mem_of_getElem? (i := 95) (by decide +kernel))) rfl
theorem fl_X7_104 : Cond.fieldLink zR7 104 "WellLendsDepthModel" "awayInMind" "I" ∈ gT := gmk (sm_4 (List.mem_of_getElem? (i := 96) (by decide +kernel))) rfl
theorem fl_X7_107 : Cond.fieldLink zR7 107 "WellLendsDepthModel" "pile" "[Z" ∈ gT := gmk (sm_4 (List.mem_of_getElem? (i := 97) (by decide +kernel))) rfl
theorem fl_X7_111 : Cond.fieldLink zR7 111 "WellLendsDepthModel" "mostSent" "I" ∈ gT := gmk (sm_4 (List.mem_of_getElem? (i := 98) (by decide +kernel))) rfl
theorem fl_X7_114 : Cond.fieldLink zR7 114 "WellLendsDepthModel" "turnedAway" "I" ∈ gT := gmk (sm_4 (List.mem_of_getElem? (i := 99) (by decide +kernel))) rfl
theorem fl_X7_117 : Cond.fieldLink zR7 117 "WellLendsDepthModel" "keptDeep" "I" ∈ gT := gmk (sm_4 (List.mem_of_getElem? (i := 100) (by decide +kernel))) rfl
theorem fl_X7_120 : Cond.fieldLink zR7 120 "WellLendsDepthModel" "keptDays" "I" ∈ gT := gmk (sm_4 (List.mem_of_getElem? (i := 101) (by decide +kernel))) rfl
theorem fl_X7_123 : Cond.fieldLink zR7 123 "WellLendsDepthModel" "keptWants" "[I" ∈ gT := gmk (sm_4 (List.mem_of_getElem? (i := 102) (by decide +kernel))) rfl
theorem fl_X7_126 : Cond.fieldLink zR7 126 "WellLendsDepthModel" "keptEvery" "[I" ∈ gT := gmk (sm_4 (List.mem_of_getElem? (i := 103) (by decide +kernel))) rfl
theorem fl_X7_129 : Cond.fieldLink zR7 129 "WellLendsDepthModel" "keptHas" "[I" ∈ gT := gmk (sm_4 (List.mem_of_getElem? (i := 104) (by decide +kernel))) rfl
theorem fl_X7_132 : Cond.fieldLink zR7 132 "WellLendsDepthModel" "keptLeft" "[I" ∈ gT := gmk (sm_4 (List.mem_of_getElem? (i := 105) (by decide +kernel))) rfl
theorem fl_X7_135 : Cond.fieldLink zR7 135 "WellLendsDepthModel" "keptOwes" "[I" ∈ gT := gmk (sm_4 (List.mem_of_getElem? (i := 106) (by decide +kernel))) rfl
theorem fl_X7_138 : Cond.fieldLink zR7 138 "WellLendsDepthModel" "keptSent" "[I" ∈ gT := gmk (sm_4 (List.mem_of_getElem? (i := 107) (by decide +kernel))) rfl
theorem fl_X7_141 : Cond.fieldLink zR7 141 "WellLendsDepthModel" "keptLine" "[I" ∈ gT := gmk (sm_4 (List.mem_of_getElem? (i := 108) (by decide +kernel))) rfl
theorem fl_X7_144 : Cond.fieldLink zR7 144 "WellLendsDepthModel" "seen" "I" ∈ gT := gmk (sm_4 (List.mem_of_getElem? (i := 109) (by decide +kernel))) rfl
theorem fl_X7_147 : Cond.fieldLink zR7 147 "WellLendsDepthModel" "seenDepth" "[I" ∈ gT := gmk (sm_4 (List.mem_of_getElem? (i := 110) (by decide +kernel))) rfl
theorem fl_X7_150 : Cond.fieldLink zR7 150 "WellLendsDepthModel" "seenWhen" "[I" ∈ gT := gmk (sm_4 (List.mem_of_getElem? (i := 111) (by decide +kernel))) rfl
theorem fl_X7_153 : Cond.fieldLink zR7 153 "WellLendsDepthModel" "years" "I" ∈ gT := gmk (sm_4 (List.mem_of_getElem? (i := 112) (by decide +kernel))) rfl
theorem fl_X7_156 : Cond.fieldLink zR7 156 "WellLendsDepthModel" "books" "I" ∈ gT := gmk (sm_4 (List.mem_of_getElem? (i := 113) (by decide +kernel))) rfl
theorem fl_X7_159 : Cond.fieldLink zR7 159 "WellLendsDepthModel" "yearWhat" "[I" ∈ gT := gmk (sm_4 (List.mem_of_getElem? (i := 114) (by decide +kernel))) rfl
theorem fl_X7_162 : Cond.fieldLink zR7 162 "WellLendsDepthModel" "yearWho" "[I" ∈ gT := gmk (sm_4 (List.mem_of_getElem? (i := 115) (by decide +kernel))) rfl
theorem fl_X7_165 : Cond.fieldLink zR7 165 "WellLendsDepthModel" "bookWho" "[I" ∈ gT := gmk (sm_4 (List.mem_of_getElem? (i := 116) (by decide +kernel))) rfl
theorem fl_X7_168 : Cond.fieldLink zR7 168 "WellLendsDepthModel" "bookOwes" "[I" ∈ gT := gmk (sm_4 (List.mem_of_getElem? (i := 117) (by decide +kernel))) rfl
theorem fl_X7_171 : Cond.fieldLink zR7 171 "WellLendsDepthModel" "hasImage" "Z" ∈ gT := gmk (sm_4 (List.mem_of_getElem? (i := 118) (by decide +kernel))) rfl
theorem fl_X7_175 : Cond.fieldLink zR7 175 "WellLendsDepthModel" "imageThe" "I" ∈ gT := gmk (sm_4 (List.mem_of_getElem? (i := 119) (by decide +kernel))) rfl
theorem fl_X7_178 : Cond.fieldLink zR7 178 "WellLendsDepthModel" "imageDeep" "I" ∈ gT := gmk (sm_4 (List.mem_of_getElem? (i := 120) (by decide +kernel))) rfl
theorem fl_X7_181 : Cond.fieldLink zR7 181 "WellLendsDepthModel" "imageBorrowers" "I" ∈ gT := gmk (sm_4 (List.mem_of_getElem? (i := 121) (by decide +kernel))) rfl
theorem fl_X7_184 : Cond.fieldLink zR7 184 "WellLendsDepthModel" "imageDays" "I" ∈ gT := gmk (sm_4 (List.mem_of_getElem? (i := 122) (by decide +kernel))) rfl
theorem fl_X7_187 : Cond.fieldLink zR7 187 "WellLendsDepthModel" "imageSeen" "I" ∈ gT := gmk (sm_4 (List.mem_of_getElem? (i := 123) (by decide +kernel))) rfl
theorem fl_X7_190 : Cond.fieldLink zR7 190 "WellLendsDepthModel" "imageYears" "I" ∈ gT := gmk (sm_4 (List.mem_of_getElem? (i := 124) (by decide +kernel))) rfl
theorem fl_X7_193 : Cond.fieldLink zR7 193 "WellLendsDepthModel" "imageBooks" "I" ∈ gT := gmk (sm_4 (List.mem_of_getElem? (i := 125) (by decide +kernel))) rfl
theorem fl_X7_196 : Cond.fieldLink zR7 196 "WellLendsDepthModel" "imageKind" "[I" ∈ gT := gmk (sm_4 (List.mem_of_getElem? (i := 126) (by decide +kernel))) rfl
theorem fl_X7_199 : Cond.fieldLink zR7 199 "WellLendsDepthModel" "imageV" "[I" ∈ gT := gmk (sm_4 (List.mem_of_getElem? (i := 127) (by decide +kernel))) rfl
theorem fl_X7_202 : Cond.fieldLink zR7 202 "WellLendsDepthModel" "imageWants" "[I" ∈ gT := gmk (sm_4 (List.mem_of_getElem? (i := 128) (by decide +kernel))) rfl
theorem fl_X7_205 : Cond.fieldLink zR7 205 "WellLendsDepthModel" "imageEvery" "[I" ∈ gT := gmk (sm_4 (List.mem_of_getElem? (i := 129) (by decide +kernel))) rfl
theorem fl_X7_208 : Cond.fieldLink zR7 208 "WellLendsDepthModel" "imageHas" "[I" ∈ gT := gmk (sm_4 (List.mem_of_getElem? (i := 130) (by decide +kernel))) rfl
theorem fl_X7_211 : Cond.fieldLink zR7 211 "WellLendsDepthModel" "imageLeft" "[I" ∈ gT := gmk (sm_4 (List.mem_of_getElem? (i := 131) (by decide +kernel))) rfl
theorem fl_X7_214 : Cond.fieldLink zR7 214 "WellLendsDepthModel" "imageOwes" "[I" ∈ gT := gmk (sm_4 (List.mem_of_getElem? (i := 132) (by decide +kernel))) rfl
theorem fl_X7_217 : Cond.fieldLink zR7 217 "WellLendsDepthModel" "imageSent" "[I" ∈ gT := gmk (sm_4 (List.mem_of_getElem? (i := 133) (by decide +kernel))) rfl
theorem fl_X7_220 : Cond.fieldLink zR7 220 "WellLendsDepthModel" "imageLine" "[I" ∈ gT := gmk (sm_4 (List.mem_of_getElem? (i := 134) (by decide +kernel))) rfl
theorem fl_X7_223 : Cond.fieldLink zR7 223 "WellLendsDepthModel" "imageRows" "[I" ∈ gT := gmk (sm_4 (List.mem_of_getElem? (i := 135) (by decide +kernel))) rfl
theorem fl_X7_226 : Cond.fieldLink zR7 226 "WellLendsDepthModel" "imageSeenDepth" "[I" ∈ gT := gmk (sm_4 (List.mem_of_getElem? (i := 136) (by decide +kernel))) rfl
theorem fl_X7_229 : Cond.fieldLink zR7 229 "WellLendsDepthModel" "imageWhen" "[I" ∈ gT := gmk (sm_4 (List.mem_of_getElem? (i := 137) (by decide +kernel))) rfl
theorem fl_X7_232 : Cond.fieldLink zR7 232 "WellLendsDepthModel" "imageWhat" "[I" ∈ gT := gmk (sm_4 (List.mem_of_getElem? (i := 138) (by decide +kernel))) rfl
theorem fl_X7_235 : Cond.fieldLink zR7 235 "WellLendsDepthModel" "imageWho" "[I" ∈ gT := gmk (sm_4 (List.mem_of_getElem? (i := 139) (by decide +kernel))) rfl
theorem fl_X7_238 : Cond.fieldLink zR7 238 "WellLendsDepthModel" "imageBookWho" "[I" ∈ gT := gmk (sm_4 (List.mem_of_getElem? (i := 140) (by decide +kernel))) rfl
theorem fl_X7_241 : Cond.fieldLink zR7 241 "WellLendsDepthModel" "imageBookOwes" "[I" ∈ gT := gmk (sm_4 (List.mem_of_getElem? (i := 141) (by decide +kernel))) rfl
theorem fl_X7_244 : Cond.fieldLink zR7 244 "WellLendsDepthModel" "ran" "I" ∈ gT := gmk (sm_4 (List.mem_of_getElem? (i := 142) (by decide +kernel))) rfl
theorem fl_X7_247 : Cond.fieldLink zR7 247 "WellLendsDepthModel" "bodies" "[I" ∈ gT := gmk (sm_4 (List.mem_of_getElem? (i := 143) (by decide +kernel))) rfl
theorem fl_X7_250 : Cond.fieldLink zR7 250 "WellLendsDepthModel" "sort" "[I" ∈ gT := gmk (sm_4 (List.mem_of_getElem? (i := 144) (by decide +kernel))) rfl
theorem fl_X7_253 : Cond.fieldLink zR7 253 "WellLendsDepthModel" "length" "[I" ∈ gT := gmk (sm_4 (List.mem_of_getElem? (i := 145) (by decide +kernel))) rfl
theorem fl_X7_256 : Cond.fieldLink zR7 256 "WellLendsDepthModel" "item" "[J" ∈ gT := gmk (sm_4 (List.mem_of_getElem? (i := 146) (by decide +kernel))) rfl
theorem fl_X7_260 : Cond.fieldLink zR7 260 "WellLendsDepthModel" "aside" "[J" ∈ gT := gmk (sm_4 (List.mem_of_getElem? (i := 147) (by decide +kernel))) rfl
theorem fl_J0_9 : Cond.fieldLink zRJ0 9 "java/lang/String" "value" "[B" ∈ gT := gmk (sm_6 (List.mem_of_getElem? (i := 224) (by decide +kernel))) rfl
theorem fl_J0_15 : Cond.fieldLink zRJ0 15 "java/lang/String" "coder" "B" ∈ gT := gmk (sm_6 (List.mem_of_getElem? (i := 225) (by decide +kernel))) rfl
theorem fl_J0_38 : Cond.fieldLink zRJ0 38 "java/lang/String" "COMPACT_STRINGS" "Z" ∈ gT := gmk (sm_2 (List.mem_of_getElem? (i := 193) (by decide +kernel))) rfl
theorem fl_J0_1053 : Cond.fieldLink zRJ0 1053 "jdk/internal/util/Preconditions" "SIOOBE_FORMATTER" "Ljava/util/function/BiFunction;" ∈ gT := gmk (sm_2 (List.mem_of_getElem? (i := 209) (by decide +kernel))) rfl
theorem fl_J2_44 : Cond.fieldLink zRJ2 44 "java/lang/StringUTF16" "$assertionsDisabled" "Z" ∈ gT := gmk (sm_2 (List.mem_of_getElem? (i := 227) (by decide +kernel))) rfl
theorem fl_J2_59 : Cond.fieldLink zRJ2 59 "java/lang/StringUTF16" "HI_BYTE_SHIFT" "I" ∈ gT := gmk (sm_2 (List.mem_of_getElem? (i := 229) (by decide +kernel))) rfl
theorem fl_J2_63 : Cond.fieldLink zRJ2 63 "java/lang/StringUTF16" "LO_BYTE_SHIFT" "I" ∈ gT := gmk (sm_2 (List.mem_of_getElem? (i := 231) (by decide +kernel))) rfl
theorem fn_X0_41 : Cond.fieldLinkNest zR0 41 "WellLendsDepth" "ABOVE" "[I" "WellLendsDepth" ∈ lw_tbl := sm_4 (List.mem_of_getElem? (i := 5) (by decide +kernel))
theorem co_X6_257 : Cond.constant zR6 257 (99999) ∈ gT := gmk (sm_3 (List.mem_of_getElem? (i := 188) (by decide +kernel))) rfl
theorem co_X5_93 : Cond.constant zR5 93 (99999) ∈ gT := gmk (sm_3 (List.mem_of_getElem? (i := 50) (by decide +kernel))) rfl
theorem co_X7_374 : Cond.constant zR7 374 (99999) ∈ gT := gmk (sm_6 (List.mem_of_getElem? (i := 32) (by decide +kernel))) rfl
theorem co_X7_390 : Cond.constant zR7 390 (2000000000) ∈ gT := gmk (sm_6 (List.mem_of_getElem? (i := 45) (by decide +kernel))) rfl
theorem cl_X6_233 : Cond.constantLong zR6 233 (-9223372036854775808) ∈ gT := gmk (sm_3 (List.mem_of_getElem? (i := 157) (by decide +kernel))) rfl
theorem cl_L_155 : Cond.constantLong R_law 155 (4294967295) ∈ gT := gmk (sm_6 (List.mem_of_getElem? (i := 223) (by decide +kernel))) rfl
theorem cl_X7_418 : Cond.constantLong zR7 418 (-9223372036854775808) ∈ gT := gmk (sm_6 (List.mem_of_getElem? (i := 110) (by decide +kernel))) rfl
end
section
/-! the instructions as they are decoded; written by wip/whole/gen_code.py -/
theorem dX0_forget_0 : decode bX0_forget 0 = .ok (.aload_n 0, 1) ∧ 0 + 1 = 1 := by decide +kernel
theorem dX0_forget_1 : decode bX0_forget 1 = .ok (.iconst 0, 1) ∧ 1 + 1 = 2 := by decide +kernel
theorem dX0_forget_2 : decode bX0_forget 2 = .ok (.putfield 9, 3) ∧ 2 + 3 = 5 := by decide +kernel
theorem dX0_forget_5 : decode bX0_forget 5 = .ok (.return_, 1) := by decide +kernel
theorem dX0_traced_0 : decode bX0_traced 0 = .ok (.iload_n 1, 1) ∧ 0 + 1 = 1 := by decide +kernel
theorem dX0_traced_1 : decode bX0_traced 1 = .ok (.ifCond .lt 26, 3) ∧ 1 + 3 = 4 ∧ ((1 : Nat) : Int) + (26) = ((27 : Nat) : Int) := by decide +kernel
theorem dX0_traced_4 : decode bX0_traced 4 = .ok (.iload_n 1, 1) ∧ 4 + 1 = 5 := by decide +kernel
theorem dX0_traced_5 : decode bX0_traced 5 = .ok (.aload_n 0, 1) ∧ 5 + 1 = 6 := by decide +kernel
theorem dX0_traced_6 : decode bX0_traced 6 = .ok (.getfield 9, 3) ∧ 6 + 3 = 9 := by decide +kernel
theorem dX0_traced_9 : decode bX0_traced 9 = .ok (.if_icmp .ge 18, 3) ∧ 9 + 3 = 12 ∧ ((9 : Nat) : Int) + (18) = ((27 : Nat) : Int) := by decide +kernel
theorem dX0_traced_12 : decode bX0_traced 12 = .ok (.iload_n 1, 1) ∧ 12 + 1 = 13 := by decide +kernel
theorem dX0_traced_13 : decode bX0_traced 13 = .ok (.bipush 20, 2) ∧ 13 + 2 = 15 := by decide +kernel
theorem dX0_traced_15 : decode bX0_traced 15 = .ok (.if_icmp .ge 12, 3) ∧ 15 + 3 = 18 ∧ ((15 : Nat) : Int) + (12) = ((27 : Nat) : Int) := by decide +kernel
theorem dX0_traced_18 : decode bX0_traced 18 = .ok (.aload_n 0, 1) ∧ 18 + 1 = 19 := by decide +kernel
theorem dX0_traced_19 : decode bX0_traced 19 = .ok (.getfield 15, 3) ∧ 19 + 3 = 22 := by decide +kernel
theorem dX0_traced_22 : decode bX0_traced 22 = .ok (.iload_n 1, 1) ∧ 22 + 1 = 23 := by decide +kernel
theorem dX0_traced_23 : decode bX0_traced 23 = .ok (.iaload, 1) ∧ 23 + 1 = 24 := by decide +kernel
theorem dX0_traced_24 : decode bX0_traced 24 = .ok (.goto 4, 3) ∧ ((24 : Nat) : Int) + (4) = ((28 : Nat) : Int) := by decide +kernel
theorem dX0_traced_27 : decode bX0_traced 27 = .ok (.iconst (-1), 1) ∧ 27 + 1 = 28 := by decide +kernel
theorem dX0_traced_28 : decode bX0_traced 28 = .ok (.ireturn, 1) := by decide +kernel
theorem dX0_perform_0 : decode bX0_perform 0 = .ok (.aload_n 0, 1) ∧ 0 + 1 = 1 := by decide +kernel
theorem dX0_perform_1 : decode bX0_perform 1 = .ok (.iload_n 2, 1) ∧ 1 + 1 = 2 := by decide +kernel
theorem dX0_perform_2 : decode bX0_perform 2 = .ok (.putfield 19, 3) ∧ 2 + 3 = 5 := by decide +kernel
theorem dX0_perform_5 : decode bX0_perform 5 = .ok (.aload_n 0, 1) ∧ 5 + 1 = 6 := by decide +kernel
theorem dX0_perform_6 : decode bX0_perform 6 = .ok (.aload_n 1, 1) ∧ 6 + 1 = 7 := by decide +kernel
theorem dX0_perform_7 : decode bX0_perform 7 = .ok (.getfield 28, 3) ∧ 7 + 3 = 10 := by decide +kernel
theorem dX0_perform_10 : decode bX0_perform 10 = .ok (.iload_n 2, 1) ∧ 10 + 1 = 11 := by decide +kernel
theorem dX0_perform_11 : decode bX0_perform 11 = .ok (.iaload, 1) ∧ 11 + 1 = 12 := by decide +kernel
theorem dX0_perform_12 : decode bX0_perform 12 = .ok (.putfield 22, 3) ∧ 12 + 3 = 15 := by decide +kernel
theorem dX0_perform_15 : decode bX0_perform 15 = .ok (.aload_n 0, 1) ∧ 15 + 1 = 16 := by decide +kernel
theorem dX0_perform_16 : decode bX0_perform 16 = .ok (.aload_n 1, 1) ∧ 16 + 1 = 17 := by decide +kernel
theorem dX0_perform_17 : decode bX0_perform 17 = .ok (.getfield 32, 3) ∧ 17 + 3 = 20 := by decide +kernel
theorem dX0_perform_20 : decode bX0_perform 20 = .ok (.iload_n 2, 1) ∧ 20 + 1 = 21 := by decide +kernel
theorem dX0_perform_21 : decode bX0_perform 21 = .ok (.iaload, 1) ∧ 21 + 1 = 22 := by decide +kernel
theorem dX0_perform_22 : decode bX0_perform 22 = .ok (.putfield 25, 3) ∧ 22 + 3 = 25 := by decide +kernel
theorem dX0_perform_25 : decode bX0_perform 25 = .ok (.aload_n 0, 1) ∧ 25 + 1 = 26 := by decide +kernel
theorem dX0_perform_26 : decode bX0_perform 26 = .ok (.aload_n 0, 1) ∧ 26 + 1 = 27 := by decide +kernel
theorem dX0_perform_27 : decode bX0_perform 27 = .ok (.getfield 22, 3) ∧ 27 + 3 = 30 := by decide +kernel
theorem dX0_perform_30 : decode bX0_perform 30 = .ok (.iload_n 3, 1) ∧ 30 + 1 = 31 := by decide +kernel
theorem dX0_perform_31 : decode bX0_perform 31 = .ok (.iload 4, 2) ∧ 31 + 2 = 33 := by decide +kernel
theorem dX0_perform_33 : decode bX0_perform 33 = .ok (.iconst 0, 1) ∧ 33 + 1 = 34 := by decide +kernel
theorem dX0_perform_34 : decode bX0_perform 34 = .ok (.invokevirtual 34, 3) ∧ 34 + 3 = 37 := by decide +kernel
theorem dX0_perform_37 : decode bX0_perform 37 = .ok (.ireturn, 1) := by decide +kernel
theorem dX0_from_0 : decode bX0_from 0 = .ok (.iload 4, 2) ∧ 0 + 2 = 2 := by decide +kernel
theorem dX0_from_2 : decode bX0_from 2 = .ok (.bipush 40, 2) ∧ 2 + 2 = 4 := by decide +kernel
theorem dX0_from_4 : decode bX0_from 4 = .ok (.if_icmp .le 5, 3) ∧ 4 + 3 = 7 ∧ ((4 : Nat) : Int) + (5) = ((9 : Nat) : Int) := by decide +kernel
theorem dX0_from_7 : decode bX0_from 7 = .ok (.iconst 0, 1) ∧ 7 + 1 = 8 := by decide +kernel
theorem dX0_from_8 : decode bX0_from 8 = .ok (.ireturn, 1) := by decide +kernel
theorem dX0_from_9 : decode bX0_from 9 = .ok (.iload_n 1, 1) ∧ 9 + 1 = 10 := by decide +kernel
theorem dX0_from_10 : decode bX0_from 10 = .ok (.istore 5, 2) ∧ 10 + 2 = 12 := by decide +kernel
theorem dX0_from_12 : decode bX0_from 12 = .ok (.iconst 0, 1) ∧ 12 + 1 = 13 := by decide +kernel
theorem dX0_from_13 : decode bX0_from 13 = .ok (.istore 6, 2) ∧ 13 + 2 = 15 := by decide +kernel
theorem dX0_from_15 : decode bX0_from 15 = .ok (.iload 6, 2) ∧ 15 + 2 = 17 := by decide +kernel
theorem dX0_from_17 : decode bX0_from 17 = .ok (.bipush 7, 2) ∧ 17 + 2 = 19 := by decide +kernel
theorem dX0_from_19 : decode bX0_from 19 = .ok (.if_icmp .ge 35, 3) ∧ 19 + 3 = 22 ∧ ((19 : Nat) : Int) + (35) = ((54 : Nat) : Int) := by decide +kernel
theorem dX0_from_22 : decode bX0_from 22 = .ok (.iload 5, 2) ∧ 22 + 2 = 24 := by decide +kernel
theorem dX0_from_24 : decode bX0_from 24 = .ok (.ifCond .le 30, 3) ∧ 24 + 3 = 27 ∧ ((24 : Nat) : Int) + (30) = ((54 : Nat) : Int) := by decide +kernel
theorem dX0_from_27 : decode bX0_from 27 = .ok (.getstatic 38, 3) ∧ 27 + 3 = 30 := by decide +kernel
theorem dX0_from_30 : decode bX0_from 30 = .ok (.iload 5, 2) ∧ 30 + 2 = 32 := by decide +kernel
theorem dX0_from_32 : decode bX0_from 32 = .ok (.iconst 3, 1) ∧ 32 + 1 = 33 := by decide +kernel
theorem dX0_from_33 : decode bX0_from 33 = .ok (.imul, 1) ∧ 33 + 1 = 34 := by decide +kernel
theorem dX0_from_34 : decode bX0_from 34 = .ok (.iload_n 2, 1) ∧ 34 + 1 = 35 := by decide +kernel
theorem dX0_from_35 : decode bX0_from 35 = .ok (.iadd, 1) ∧ 35 + 1 = 36 := by decide +kernel
theorem dX0_from_36 : decode bX0_from 36 = .ok (.iaload, 1) ∧ 36 + 1 = 37 := by decide +kernel
theorem dX0_from_37 : decode bX0_from 37 = .ok (.ifCond .ne 17, 3) ∧ 37 + 3 = 40 ∧ ((37 : Nat) : Int) + (17) = ((54 : Nat) : Int) := by decide +kernel
theorem dX0_from_40 : decode bX0_from 40 = .ok (.getstatic 41, 3) ∧ 40 + 3 = 43 := by decide +kernel
theorem dX0_from_43 : decode bX0_from 43 = .ok (.iload 5, 2) ∧ 43 + 2 = 45 := by decide +kernel
theorem dX0_from_45 : decode bX0_from 45 = .ok (.iaload, 1) ∧ 45 + 1 = 46 := by decide +kernel
theorem dX0_from_46 : decode bX0_from 46 = .ok (.istore 5, 2) ∧ 46 + 2 = 48 := by decide +kernel
theorem dX0_from_48 : decode bX0_from 48 = .ok (.iinc 6 1, 3) ∧ 48 + 3 = 51 := by decide +kernel
theorem dX0_from_51 : decode bX0_from 51 = .ok (.goto (-36), 3) ∧ ((51 : Nat) : Int) + (-36) = ((15 : Nat) : Int) := by decide +kernel
theorem dX0_from_54 : decode bX0_from 54 = .ok (.iload 5, 2) ∧ 54 + 2 = 56 := by decide +kernel
theorem dX0_from_56 : decode bX0_from 56 = .ok (.ifCond .lt 10, 3) ∧ 56 + 3 = 59 ∧ ((56 : Nat) : Int) + (10) = ((66 : Nat) : Int) := by decide +kernel
theorem dX0_from_59 : decode bX0_from 59 = .ok (.iload 5, 2) ∧ 59 + 2 = 61 := by decide +kernel
theorem dX0_from_61 : decode bX0_from 61 = .ok (.bipush 7, 2) ∧ 61 + 2 = 63 := by decide +kernel
theorem dX0_from_63 : decode bX0_from 63 = .ok (.if_icmp .lt 5, 3) ∧ 63 + 3 = 66 ∧ ((63 : Nat) : Int) + (5) = ((68 : Nat) : Int) := by decide +kernel
theorem dX0_from_66 : decode bX0_from 66 = .ok (.iconst 0, 1) ∧ 66 + 1 = 67 := by decide +kernel
theorem dX0_from_67 : decode bX0_from 67 = .ok (.ireturn, 1) := by decide +kernel
theorem dX0_from_68 : decode bX0_from 68 = .ok (.getstatic 38, 3) ∧ 68 + 3 = 71 := by decide +kernel
theorem dX0_from_71 : decode bX0_from 71 = .ok (.iload 5, 2) ∧ 71 + 2 = 73 := by decide +kernel
theorem dX0_from_73 : decode bX0_from 73 = .ok (.iconst 3, 1) ∧ 73 + 1 = 74 := by decide +kernel
theorem dX0_from_74 : decode bX0_from 74 = .ok (.imul, 1) ∧ 74 + 1 = 75 := by decide +kernel
theorem dX0_from_75 : decode bX0_from 75 = .ok (.iload_n 2, 1) ∧ 75 + 1 = 76 := by decide +kernel
theorem dX0_from_76 : decode bX0_from 76 = .ok (.iadd, 1) ∧ 76 + 1 = 77 := by decide +kernel
theorem dX0_from_77 : decode bX0_from 77 = .ok (.iaload, 1) ∧ 77 + 1 = 78 := by decide +kernel
theorem dX0_from_78 : decode bX0_from 78 = .ok (.istore 6, 2) ∧ 78 + 2 = 80 := by decide +kernel
theorem dX0_from_80 : decode bX0_from 80 = .ok (.aload_n 0, 1) ∧ 80 + 1 = 81 := by decide +kernel
theorem dX0_from_81 : decode bX0_from 81 = .ok (.getfield 9, 3) ∧ 81 + 3 = 84 := by decide +kernel
theorem dX0_from_84 : decode bX0_from 84 = .ok (.bipush 20, 2) ∧ 84 + 2 = 86 := by decide +kernel
theorem dX0_from_86 : decode bX0_from 86 = .ok (.if_icmp .ge 14, 3) ∧ 86 + 3 = 89 ∧ ((86 : Nat) : Int) + (14) = ((100 : Nat) : Int) := by decide +kernel
theorem dX0_from_89 : decode bX0_from 89 = .ok (.aload_n 0, 1) ∧ 89 + 1 = 90 := by decide +kernel
theorem dX0_from_90 : decode bX0_from 90 = .ok (.getfield 15, 3) ∧ 90 + 3 = 93 := by decide +kernel
theorem dX0_from_93 : decode bX0_from 93 = .ok (.aload_n 0, 1) ∧ 93 + 1 = 94 := by decide +kernel
theorem dX0_from_94 : decode bX0_from 94 = .ok (.getfield 9, 3) ∧ 94 + 3 = 97 := by decide +kernel
theorem dX0_from_97 : decode bX0_from 97 = .ok (.iload 6, 2) ∧ 97 + 2 = 99 := by decide +kernel
theorem dX0_from_99 : decode bX0_from 99 = .ok (.iastore, 1) ∧ 99 + 1 = 100 := by decide +kernel
theorem dX0_from_100 : decode bX0_from 100 = .ok (.aload_n 0, 1) ∧ 100 + 1 = 101 := by decide +kernel
theorem dX0_from_101 : decode bX0_from 101 = .ok (.dup, 1) ∧ 101 + 1 = 102 := by decide +kernel
theorem dX0_from_102 : decode bX0_from 102 = .ok (.getfield 9, 3) ∧ 102 + 3 = 105 := by decide +kernel
theorem dX0_from_105 : decode bX0_from 105 = .ok (.iconst 1, 1) ∧ 105 + 1 = 106 := by decide +kernel
theorem dX0_from_106 : decode bX0_from 106 = .ok (.iadd, 1) ∧ 106 + 1 = 107 := by decide +kernel
theorem dX0_from_107 : decode bX0_from 107 = .ok (.putfield 9, 3) ∧ 107 + 3 = 110 := by decide +kernel
theorem dX0_from_110 : decode bX0_from 110 = .ok (.aload_n 0, 1) ∧ 110 + 1 = 111 := by decide +kernel
theorem dX0_from_111 : decode bX0_from 111 = .ok (.iload 6, 2) ∧ 111 + 2 = 113 := by decide +kernel
theorem dX0_from_113 : decode bX0_from 113 = .ok (.getstatic 41, 3) ∧ 113 + 3 = 116 := by decide +kernel
theorem dX0_from_116 : decode bX0_from 116 = .ok (.iload 5, 2) ∧ 116 + 2 = 118 := by decide +kernel
theorem dX0_from_118 : decode bX0_from 118 = .ok (.iaload, 1) ∧ 118 + 1 = 119 := by decide +kernel
theorem dX0_from_119 : decode bX0_from 119 = .ok (.iload_n 3, 1) ∧ 119 + 1 = 120 := by decide +kernel
theorem dX0_from_120 : decode bX0_from 120 = .ok (.iload 4, 2) ∧ 120 + 2 = 122 := by decide +kernel
theorem dX0_from_122 : decode bX0_from 122 = .ok (.iconst 1, 1) ∧ 122 + 1 = 123 := by decide +kernel
theorem dX0_from_123 : decode bX0_from 123 = .ok (.iadd, 1) ∧ 123 + 1 = 124 := by decide +kernel
theorem dX0_from_124 : decode bX0_from 124 = .ok (.invokevirtual 44, 3) ∧ 124 + 3 = 127 := by decide +kernel
theorem dX0_from_127 : decode bX0_from 127 = .ok (.ireturn, 1) := by decide +kernel
theorem dX0_run_0 : decode bX0_run 0 = .ok (.iload_n 1, 1) ∧ 0 + 1 = 1 := by decide +kernel
theorem dX0_run_1 : decode bX0_run 1 = .ok (.lookupswitch 260 #[(10, 99), (11, 106), (12, 124), (20, 139), (30, 152), (40, 164), (50, 187), (51, 198), (60, 210), (70, 225), (71, 245)], 99) := by decide +kernel
theorem dX0_run_100 : decode bX0_run 100 = .ok (.iload_n 3, 1) ∧ 100 + 1 = 101 := by decide +kernel
theorem dX0_run_101 : decode bX0_run 101 = .ok (.aload_n 0, 1) ∧ 101 + 1 = 102 := by decide +kernel
theorem dX0_run_102 : decode bX0_run 102 = .ok (.getfield 19, 3) ∧ 102 + 3 = 105 := by decide +kernel
theorem dX0_run_105 : decode bX0_run 105 = .ok (.iadd, 1) ∧ 105 + 1 = 106 := by decide +kernel
theorem dX0_run_106 : decode bX0_run 106 = .ok (.ireturn, 1) := by decide +kernel
theorem dX0_run_107 : decode bX0_run 107 = .ok (.aload_n 0, 1) ∧ 107 + 1 = 108 := by decide +kernel
theorem dX0_run_108 : decode bX0_run 108 = .ok (.aload_n 0, 1) ∧ 108 + 1 = 109 := by decide +kernel
theorem dX0_run_109 : decode bX0_run 109 = .ok (.getfield 22, 3) ∧ 109 + 3 = 112 := by decide +kernel
theorem dX0_run_112 : decode bX0_run 112 = .ok (.iconst 0, 1) ∧ 112 + 1 = 113 := by decide +kernel
theorem dX0_run_113 : decode bX0_run 113 = .ok (.iload_n 3, 1) ∧ 113 + 1 = 114 := by decide +kernel
theorem dX0_run_114 : decode bX0_run 114 = .ok (.iload 4, 2) ∧ 114 + 2 = 116 := by decide +kernel
theorem dX0_run_116 : decode bX0_run 116 = .ok (.invokevirtual 34, 3) ∧ 116 + 3 = 119 := by decide +kernel
theorem dX0_run_119 : decode bX0_run 119 = .ok (.aload_n 0, 1) ∧ 119 + 1 = 120 := by decide +kernel
theorem dX0_run_120 : decode bX0_run 120 = .ok (.getfield 25, 3) ∧ 120 + 3 = 123 := by decide +kernel
theorem dX0_run_123 : decode bX0_run 123 = .ok (.isub, 1) ∧ 123 + 1 = 124 := by decide +kernel
theorem dX0_run_124 : decode bX0_run 124 = .ok (.ireturn, 1) := by decide +kernel
theorem dX0_run_125 : decode bX0_run 125 = .ok (.aload_n 0, 1) ∧ 125 + 1 = 126 := by decide +kernel
theorem dX0_run_126 : decode bX0_run 126 = .ok (.aload_n 0, 1) ∧ 126 + 1 = 127 := by decide +kernel
theorem dX0_run_127 : decode bX0_run 127 = .ok (.getfield 22, 3) ∧ 127 + 3 = 130 := by decide +kernel
theorem dX0_run_130 : decode bX0_run 130 = .ok (.iconst 1, 1) ∧ 130 + 1 = 131 := by decide +kernel
theorem dX0_run_131 : decode bX0_run 131 = .ok (.iload_n 3, 1) ∧ 131 + 1 = 132 := by decide +kernel
theorem dX0_run_132 : decode bX0_run 132 = .ok (.iload 4, 2) ∧ 132 + 2 = 134 := by decide +kernel
theorem dX0_run_134 : decode bX0_run 134 = .ok (.invokevirtual 34, 3) ∧ 134 + 3 = 137 := by decide +kernel
theorem dX0_run_137 : decode bX0_run 137 = .ok (.iconst 2, 1) ∧ 137 + 1 = 138 := by decide +kernel
theorem dX0_run_138 : decode bX0_run 138 = .ok (.imul, 1) ∧ 138 + 1 = 139 := by decide +kernel
theorem dX0_run_139 : decode bX0_run 139 = .ok (.ireturn, 1) := by decide +kernel
theorem dX0_run_140 : decode bX0_run 140 = .ok (.aload_n 0, 1) ∧ 140 + 1 = 141 := by decide +kernel
theorem dX0_run_141 : decode bX0_run 141 = .ok (.iload_n 2, 1) ∧ 141 + 1 = 142 := by decide +kernel
theorem dX0_run_142 : decode bX0_run 142 = .ok (.iconst 1, 1) ∧ 142 + 1 = 143 := by decide +kernel
theorem dX0_run_143 : decode bX0_run 143 = .ok (.iload_n 3, 1) ∧ 143 + 1 = 144 := by decide +kernel
theorem dX0_run_144 : decode bX0_run 144 = .ok (.iload 4, 2) ∧ 144 + 2 = 146 := by decide +kernel
theorem dX0_run_146 : decode bX0_run 146 = .ok (.invokevirtual 34, 3) ∧ 146 + 3 = 149 := by decide +kernel
theorem dX0_run_149 : decode bX0_run 149 = .ok (.bipush 6, 2) ∧ 149 + 2 = 151 := by decide +kernel
theorem dX0_run_151 : decode bX0_run 151 = .ok (.ixor, 1) ∧ 151 + 1 = 152 := by decide +kernel
theorem dX0_run_152 : decode bX0_run 152 = .ok (.ireturn, 1) := by decide +kernel
theorem dX0_run_153 : decode bX0_run 153 = .ok (.aload_n 0, 1) ∧ 153 + 1 = 154 := by decide +kernel
theorem dX0_run_154 : decode bX0_run 154 = .ok (.iload_n 2, 1) ∧ 154 + 1 = 155 := by decide +kernel
theorem dX0_run_155 : decode bX0_run 155 = .ok (.iconst 0, 1) ∧ 155 + 1 = 156 := by decide +kernel
theorem dX0_run_156 : decode bX0_run 156 = .ok (.iload_n 3, 1) ∧ 156 + 1 = 157 := by decide +kernel
theorem dX0_run_157 : decode bX0_run 157 = .ok (.iconst 3, 1) ∧ 157 + 1 = 158 := by decide +kernel
theorem dX0_run_158 : decode bX0_run 158 = .ok (.imul, 1) ∧ 158 + 1 = 159 := by decide +kernel
theorem dX0_run_159 : decode bX0_run 159 = .ok (.iload 4, 2) ∧ 159 + 2 = 161 := by decide +kernel
theorem dX0_run_161 : decode bX0_run 161 = .ok (.invokevirtual 34, 3) ∧ 161 + 3 = 164 := by decide +kernel
theorem dX0_run_164 : decode bX0_run 164 = .ok (.ireturn, 1) := by decide +kernel
theorem dX0_run_165 : decode bX0_run 165 = .ok (.aload_n 0, 1) ∧ 165 + 1 = 166 := by decide +kernel
theorem dX0_run_166 : decode bX0_run 166 = .ok (.iload_n 2, 1) ∧ 166 + 1 = 167 := by decide +kernel
theorem dX0_run_167 : decode bX0_run 167 = .ok (.iconst 2, 1) ∧ 167 + 1 = 168 := by decide +kernel
theorem dX0_run_168 : decode bX0_run 168 = .ok (.iload_n 3, 1) ∧ 168 + 1 = 169 := by decide +kernel
theorem dX0_run_169 : decode bX0_run 169 = .ok (.iload 4, 2) ∧ 169 + 2 = 171 := by decide +kernel
theorem dX0_run_171 : decode bX0_run 171 = .ok (.invokevirtual 34, 3) ∧ 171 + 3 = 174 := by decide +kernel
theorem dX0_run_174 : decode bX0_run 174 = .ok (.aload_n 0, 1) ∧ 174 + 1 = 175 := by decide +kernel
theorem dX0_run_175 : decode bX0_run 175 = .ok (.aload_n 0, 1) ∧ 175 + 1 = 176 := by decide +kernel
theorem dX0_run_176 : decode bX0_run 176 = .ok (.getfield 22, 3) ∧ 176 + 3 = 179 := by decide +kernel
theorem dX0_run_179 : decode bX0_run 179 = .ok (.iconst 1, 1) ∧ 179 + 1 = 180 := by decide +kernel
theorem dX0_run_180 : decode bX0_run 180 = .ok (.iconst 1, 1) ∧ 180 + 1 = 181 := by decide +kernel
theorem dX0_run_181 : decode bX0_run 181 = .ok (.iload 4, 2) ∧ 181 + 2 = 183 := by decide +kernel
theorem dX0_run_183 : decode bX0_run 183 = .ok (.invokevirtual 34, 3) ∧ 183 + 3 = 186 := by decide +kernel
theorem dX0_run_186 : decode bX0_run 186 = .ok (.iadd, 1) ∧ 186 + 1 = 187 := by decide +kernel
theorem dX0_run_187 : decode bX0_run 187 = .ok (.ireturn, 1) := by decide +kernel
theorem dX0_run_188 : decode bX0_run 188 = .ok (.aload_n 0, 1) ∧ 188 + 1 = 189 := by decide +kernel
theorem dX0_run_189 : decode bX0_run 189 = .ok (.iload_n 2, 1) ∧ 189 + 1 = 190 := by decide +kernel
theorem dX0_run_190 : decode bX0_run 190 = .ok (.iconst 0, 1) ∧ 190 + 1 = 191 := by decide +kernel
theorem dX0_run_191 : decode bX0_run 191 = .ok (.iload_n 3, 1) ∧ 191 + 1 = 192 := by decide +kernel
theorem dX0_run_192 : decode bX0_run 192 = .ok (.iload 4, 2) ∧ 192 + 2 = 194 := by decide +kernel
theorem dX0_run_194 : decode bX0_run 194 = .ok (.invokevirtual 34, 3) ∧ 194 + 3 = 197 := by decide +kernel
theorem dX0_run_197 : decode bX0_run 197 = .ok (.ineg, 1) ∧ 197 + 1 = 198 := by decide +kernel
theorem dX0_run_198 : decode bX0_run 198 = .ok (.ireturn, 1) := by decide +kernel
theorem dX0_run_199 : decode bX0_run 199 = .ok (.aload_n 0, 1) ∧ 199 + 1 = 200 := by decide +kernel
theorem dX0_run_200 : decode bX0_run 200 = .ok (.iload_n 2, 1) ∧ 200 + 1 = 201 := by decide +kernel
theorem dX0_run_201 : decode bX0_run 201 = .ok (.iconst 1, 1) ∧ 201 + 1 = 202 := by decide +kernel
theorem dX0_run_202 : decode bX0_run 202 = .ok (.iload_n 3, 1) ∧ 202 + 1 = 203 := by decide +kernel
theorem dX0_run_203 : decode bX0_run 203 = .ok (.iconst 1, 1) ∧ 203 + 1 = 204 := by decide +kernel
theorem dX0_run_204 : decode bX0_run 204 = .ok (.iadd, 1) ∧ 204 + 1 = 205 := by decide +kernel
theorem dX0_run_205 : decode bX0_run 205 = .ok (.iload 4, 2) ∧ 205 + 2 = 207 := by decide +kernel
theorem dX0_run_207 : decode bX0_run 207 = .ok (.invokevirtual 34, 3) ∧ 207 + 3 = 210 := by decide +kernel
theorem dX0_run_210 : decode bX0_run 210 = .ok (.ireturn, 1) := by decide +kernel
theorem dX0_run_211 : decode bX0_run 211 = .ok (.aload_n 0, 1) ∧ 211 + 1 = 212 := by decide +kernel
theorem dX0_run_212 : decode bX0_run 212 = .ok (.iload_n 2, 1) ∧ 212 + 1 = 213 := by decide +kernel
theorem dX0_run_213 : decode bX0_run 213 = .ok (.iconst 2, 1) ∧ 213 + 1 = 214 := by decide +kernel
theorem dX0_run_214 : decode bX0_run 214 = .ok (.iload_n 3, 1) ∧ 214 + 1 = 215 := by decide +kernel
theorem dX0_run_215 : decode bX0_run 215 = .ok (.aload_n 0, 1) ∧ 215 + 1 = 216 := by decide +kernel
theorem dX0_run_216 : decode bX0_run 216 = .ok (.getfield 19, 3) ∧ 216 + 3 = 219 := by decide +kernel
theorem dX0_run_219 : decode bX0_run 219 = .ok (.isub, 1) ∧ 219 + 1 = 220 := by decide +kernel
theorem dX0_run_220 : decode bX0_run 220 = .ok (.iload 4, 2) ∧ 220 + 2 = 222 := by decide +kernel
theorem dX0_run_222 : decode bX0_run 222 = .ok (.invokevirtual 34, 3) ∧ 222 + 3 = 225 := by decide +kernel
theorem dX0_run_225 : decode bX0_run 225 = .ok (.ireturn, 1) := by decide +kernel
theorem dX0_run_226 : decode bX0_run 226 = .ok (.aload_n 0, 1) ∧ 226 + 1 = 227 := by decide +kernel
theorem dX0_run_227 : decode bX0_run 227 = .ok (.iload_n 2, 1) ∧ 227 + 1 = 228 := by decide +kernel
theorem dX0_run_228 : decode bX0_run 228 = .ok (.iconst 1, 1) ∧ 228 + 1 = 229 := by decide +kernel
theorem dX0_run_229 : decode bX0_run 229 = .ok (.iload_n 3, 1) ∧ 229 + 1 = 230 := by decide +kernel
theorem dX0_run_230 : decode bX0_run 230 = .ok (.iload 4, 2) ∧ 230 + 2 = 232 := by decide +kernel
theorem dX0_run_232 : decode bX0_run 232 = .ok (.invokevirtual 34, 3) ∧ 232 + 3 = 235 := by decide +kernel
theorem dX0_run_235 : decode bX0_run 235 = .ok (.aload_n 0, 1) ∧ 235 + 1 = 236 := by decide +kernel
theorem dX0_run_236 : decode bX0_run 236 = .ok (.iload_n 2, 1) ∧ 236 + 1 = 237 := by decide +kernel
theorem dX0_run_237 : decode bX0_run 237 = .ok (.iconst 0, 1) ∧ 237 + 1 = 238 := by decide +kernel
theorem dX0_run_238 : decode bX0_run 238 = .ok (.iconst 2, 1) ∧ 238 + 1 = 239 := by decide +kernel
theorem dX0_run_239 : decode bX0_run 239 = .ok (.iload 4, 2) ∧ 239 + 2 = 241 := by decide +kernel
theorem dX0_run_241 : decode bX0_run 241 = .ok (.invokevirtual 34, 3) ∧ 241 + 3 = 244 := by decide +kernel
theorem dX0_run_244 : decode bX0_run 244 = .ok (.iadd, 1) ∧ 244 + 1 = 245 := by decide +kernel
theorem dX0_run_245 : decode bX0_run 245 = .ok (.ireturn, 1) := by decide +kernel
theorem dX0_run_246 : decode bX0_run 246 = .ok (.aload_n 0, 1) ∧ 246 + 1 = 247 := by decide +kernel
theorem dX0_run_247 : decode bX0_run 247 = .ok (.iload_n 2, 1) ∧ 247 + 1 = 248 := by decide +kernel
theorem dX0_run_248 : decode bX0_run 248 = .ok (.iconst 0, 1) ∧ 248 + 1 = 249 := by decide +kernel
theorem dX0_run_249 : decode bX0_run 249 = .ok (.iload_n 3, 1) ∧ 249 + 1 = 250 := by decide +kernel
theorem dX0_run_250 : decode bX0_run 250 = .ok (.iload 4, 2) ∧ 250 + 2 = 252 := by decide +kernel
theorem dX0_run_252 : decode bX0_run 252 = .ok (.invokevirtual 34, 3) ∧ 252 + 3 = 255 := by decide +kernel
theorem dX0_run_255 : decode bX0_run 255 = .ok (.aload_n 0, 1) ∧ 255 + 1 = 256 := by decide +kernel
theorem dX0_run_256 : decode bX0_run 256 = .ok (.getfield 25, 3) ∧ 256 + 3 = 259 := by decide +kernel
theorem dX0_run_259 : decode bX0_run 259 = .ok (.ixor, 1) ∧ 259 + 1 = 260 := by decide +kernel
theorem dX0_run_260 : decode bX0_run 260 = .ok (.ireturn, 1) := by decide +kernel
theorem dX0_run_261 : decode bX0_run 261 = .ok (.iconst 0, 1) ∧ 261 + 1 = 262 := by decide +kernel
theorem dX0_run_262 : decode bX0_run 262 = .ok (.ireturn, 1) := by decide +kernel
theorem dX1_clear_0 : decode bX1_clear 0 = .ok (.aload_n 0, 1) ∧ 0 + 1 = 1 := by decide +kernel
theorem dX1_clear_1 : decode bX1_clear 1 = .ok (.bipush 10, 2) ∧ 1 + 2 = 3 := by decide +kernel
theorem dX1_clear_3 : decode bX1_clear 3 = .ok (.putfield 9, 3) ∧ 3 + 3 = 6 := by decide +kernel
theorem dX1_clear_6 : decode bX1_clear 6 = .ok (.aload_n 0, 1) ∧ 6 + 1 = 7 := by decide +kernel
theorem dX1_clear_7 : decode bX1_clear 7 = .ok (.iconst 0, 1) ∧ 7 + 1 = 8 := by decide +kernel
theorem dX1_clear_8 : decode bX1_clear 8 = .ok (.putfield 13, 3) ∧ 8 + 3 = 11 := by decide +kernel
theorem dX1_clear_11 : decode bX1_clear 11 = .ok (.aload_n 0, 1) ∧ 11 + 1 = 12 := by decide +kernel
theorem dX1_clear_12 : decode bX1_clear 12 = .ok (.iconst 0, 1) ∧ 12 + 1 = 13 := by decide +kernel
theorem dX1_clear_13 : decode bX1_clear 13 = .ok (.putfield 16, 3) ∧ 13 + 3 = 16 := by decide +kernel
theorem dX1_clear_16 : decode bX1_clear 16 = .ok (.aload_n 0, 1) ∧ 16 + 1 = 17 := by decide +kernel
theorem dX1_clear_17 : decode bX1_clear 17 = .ok (.iconst 0, 1) ∧ 17 + 1 = 18 := by decide +kernel
theorem dX1_clear_18 : decode bX1_clear 18 = .ok (.putfield 19, 3) ∧ 18 + 3 = 21 := by decide +kernel
theorem dX1_clear_21 : decode bX1_clear 21 = .ok (.aload_n 0, 1) ∧ 21 + 1 = 22 := by decide +kernel
theorem dX1_clear_22 : decode bX1_clear 22 = .ok (.iconst 0, 1) ∧ 22 + 1 = 23 := by decide +kernel
theorem dX1_clear_23 : decode bX1_clear 23 = .ok (.putfield 22, 3) ∧ 23 + 3 = 26 := by decide +kernel
theorem dX1_clear_26 : decode bX1_clear 26 = .ok (.return_, 1) := by decide +kernel
theorem dX1_addStep_0 : decode bX1_addStep 0 = .ok (.aload_n 0, 1) ∧ 0 + 1 = 1 := by decide +kernel
theorem dX1_addStep_1 : decode bX1_addStep 1 = .ok (.getfield 22, 3) ∧ 1 + 3 = 4 := by decide +kernel
theorem dX1_addStep_4 : decode bX1_addStep 4 = .ok (.bipush 100, 2) ∧ 4 + 2 = 6 := by decide +kernel
theorem dX1_addStep_6 : decode bX1_addStep 6 = .ok (.if_icmp .ge 43, 3) ∧ 6 + 3 = 9 ∧ ((6 : Nat) : Int) + (43) = ((49 : Nat) : Int) := by decide +kernel
theorem dX1_addStep_9 : decode bX1_addStep 9 = .ok (.aload_n 0, 1) ∧ 9 + 1 = 10 := by decide +kernel
theorem dX1_addStep_10 : decode bX1_addStep 10 = .ok (.getfield 34, 3) ∧ 10 + 3 = 13 := by decide +kernel
theorem dX1_addStep_13 : decode bX1_addStep 13 = .ok (.aload_n 0, 1) ∧ 13 + 1 = 14 := by decide +kernel
theorem dX1_addStep_14 : decode bX1_addStep 14 = .ok (.getfield 22, 3) ∧ 14 + 3 = 17 := by decide +kernel
theorem dX1_addStep_17 : decode bX1_addStep 17 = .ok (.iload_n 1, 1) ∧ 17 + 1 = 18 := by decide +kernel
theorem dX1_addStep_18 : decode bX1_addStep 18 = .ok (.iastore, 1) ∧ 18 + 1 = 19 := by decide +kernel
theorem dX1_addStep_19 : decode bX1_addStep 19 = .ok (.aload_n 0, 1) ∧ 19 + 1 = 20 := by decide +kernel
theorem dX1_addStep_20 : decode bX1_addStep 20 = .ok (.getfield 37, 3) ∧ 20 + 3 = 23 := by decide +kernel
theorem dX1_addStep_23 : decode bX1_addStep 23 = .ok (.aload_n 0, 1) ∧ 23 + 1 = 24 := by decide +kernel
theorem dX1_addStep_24 : decode bX1_addStep 24 = .ok (.getfield 22, 3) ∧ 24 + 3 = 27 := by decide +kernel
theorem dX1_addStep_27 : decode bX1_addStep 27 = .ok (.iload_n 2, 1) ∧ 27 + 1 = 28 := by decide +kernel
theorem dX1_addStep_28 : decode bX1_addStep 28 = .ok (.iastore, 1) ∧ 28 + 1 = 29 := by decide +kernel
theorem dX1_addStep_29 : decode bX1_addStep 29 = .ok (.aload_n 0, 1) ∧ 29 + 1 = 30 := by decide +kernel
theorem dX1_addStep_30 : decode bX1_addStep 30 = .ok (.getfield 40, 3) ∧ 30 + 3 = 33 := by decide +kernel
theorem dX1_addStep_33 : decode bX1_addStep 33 = .ok (.aload_n 0, 1) ∧ 33 + 1 = 34 := by decide +kernel
theorem dX1_addStep_34 : decode bX1_addStep 34 = .ok (.getfield 22, 3) ∧ 34 + 3 = 37 := by decide +kernel
theorem dX1_addStep_37 : decode bX1_addStep 37 = .ok (.iload_n 3, 1) ∧ 37 + 1 = 38 := by decide +kernel
theorem dX1_addStep_38 : decode bX1_addStep 38 = .ok (.iastore, 1) ∧ 38 + 1 = 39 := by decide +kernel
theorem dX1_addStep_39 : decode bX1_addStep 39 = .ok (.aload_n 0, 1) ∧ 39 + 1 = 40 := by decide +kernel
theorem dX1_addStep_40 : decode bX1_addStep 40 = .ok (.dup, 1) ∧ 40 + 1 = 41 := by decide +kernel
theorem dX1_addStep_41 : decode bX1_addStep 41 = .ok (.getfield 22, 3) ∧ 41 + 3 = 44 := by decide +kernel
theorem dX1_addStep_44 : decode bX1_addStep 44 = .ok (.iconst 1, 1) ∧ 44 + 1 = 45 := by decide +kernel
theorem dX1_addStep_45 : decode bX1_addStep 45 = .ok (.iadd, 1) ∧ 45 + 1 = 46 := by decide +kernel
theorem dX1_addStep_46 : decode bX1_addStep 46 = .ok (.putfield 22, 3) ∧ 46 + 3 = 49 := by decide +kernel
theorem dX1_addStep_49 : decode bX1_addStep 49 = .ok (.return_, 1) := by decide +kernel
theorem dX1_addPrice_0 : decode bX1_addPrice 0 = .ok (.aload_n 0, 1) ∧ 0 + 1 = 1 := by decide +kernel
theorem dX1_addPrice_1 : decode bX1_addPrice 1 = .ok (.getfield 19, 3) ∧ 1 + 3 = 4 := by decide +kernel
theorem dX1_addPrice_4 : decode bX1_addPrice 4 = .ok (.bipush 10, 2) ∧ 4 + 2 = 6 := by decide +kernel
theorem dX1_addPrice_6 : decode bX1_addPrice 6 = .ok (.if_icmp .ge 36, 3) ∧ 6 + 3 = 9 ∧ ((6 : Nat) : Int) + (36) = ((42 : Nat) : Int) := by decide +kernel
theorem dX1_addPrice_9 : decode bX1_addPrice 9 = .ok (.aload_n 0, 1) ∧ 9 + 1 = 10 := by decide +kernel
theorem dX1_addPrice_10 : decode bX1_addPrice 10 = .ok (.getfield 25, 3) ∧ 10 + 3 = 13 := by decide +kernel
theorem dX1_addPrice_13 : decode bX1_addPrice 13 = .ok (.aload_n 0, 1) ∧ 13 + 1 = 14 := by decide +kernel
theorem dX1_addPrice_14 : decode bX1_addPrice 14 = .ok (.getfield 19, 3) ∧ 14 + 3 = 17 := by decide +kernel
theorem dX1_addPrice_17 : decode bX1_addPrice 17 = .ok (.iload_n 1, 1) ∧ 17 + 1 = 18 := by decide +kernel
theorem dX1_addPrice_18 : decode bX1_addPrice 18 = .ok (.iastore, 1) ∧ 18 + 1 = 19 := by decide +kernel
theorem dX1_addPrice_19 : decode bX1_addPrice 19 = .ok (.aload_n 0, 1) ∧ 19 + 1 = 20 := by decide +kernel
theorem dX1_addPrice_20 : decode bX1_addPrice 20 = .ok (.getfield 29, 3) ∧ 20 + 3 = 23 := by decide +kernel
theorem dX1_addPrice_23 : decode bX1_addPrice 23 = .ok (.aload_n 0, 1) ∧ 23 + 1 = 24 := by decide +kernel
theorem dX1_addPrice_24 : decode bX1_addPrice 24 = .ok (.getfield 19, 3) ∧ 24 + 3 = 27 := by decide +kernel
theorem dX1_addPrice_27 : decode bX1_addPrice 27 = .ok (.aload_n 0, 1) ∧ 27 + 1 = 28 := by decide +kernel
theorem dX1_addPrice_28 : decode bX1_addPrice 28 = .ok (.getfield 22, 3) ∧ 28 + 3 = 31 := by decide +kernel
theorem dX1_addPrice_31 : decode bX1_addPrice 31 = .ok (.iastore, 1) ∧ 31 + 1 = 32 := by decide +kernel
theorem dX1_addPrice_32 : decode bX1_addPrice 32 = .ok (.aload_n 0, 1) ∧ 32 + 1 = 33 := by decide +kernel
theorem dX1_addPrice_33 : decode bX1_addPrice 33 = .ok (.dup, 1) ∧ 33 + 1 = 34 := by decide +kernel
theorem dX1_addPrice_34 : decode bX1_addPrice 34 = .ok (.getfield 19, 3) ∧ 34 + 3 = 37 := by decide +kernel
theorem dX1_addPrice_37 : decode bX1_addPrice 37 = .ok (.iconst 1, 1) ∧ 37 + 1 = 38 := by decide +kernel
theorem dX1_addPrice_38 : decode bX1_addPrice 38 = .ok (.iadd, 1) ∧ 38 + 1 = 39 := by decide +kernel
theorem dX1_addPrice_39 : decode bX1_addPrice 39 = .ok (.putfield 19, 3) ∧ 39 + 3 = 42 := by decide +kernel
theorem dX1_addPrice_42 : decode bX1_addPrice 42 = .ok (.return_, 1) := by decide +kernel
theorem dX1_rate_0 : decode bX1_rate 0 = .ok (.aload_n 0, 1) ∧ 0 + 1 = 1 := by decide +kernel
theorem dX1_rate_1 : decode bX1_rate 1 = .ok (.getfield 43, 3) ∧ 1 + 3 = 4 := by decide +kernel
theorem dX1_rate_4 : decode bX1_rate 4 = .ok (.iconst 0, 1) ∧ 4 + 1 = 5 := by decide +kernel
theorem dX1_rate_5 : decode bX1_rate 5 = .ok (.iload_n 2, 1) ∧ 5 + 1 = 6 := by decide +kernel
theorem dX1_rate_6 : decode bX1_rate 6 = .ok (.iastore, 1) ∧ 6 + 1 = 7 := by decide +kernel
theorem dX1_rate_7 : decode bX1_rate 7 = .ok (.aload_n 0, 1) ∧ 7 + 1 = 8 := by decide +kernel
theorem dX1_rate_8 : decode bX1_rate 8 = .ok (.getfield 43, 3) ∧ 8 + 3 = 11 := by decide +kernel
theorem dX1_rate_11 : decode bX1_rate 11 = .ok (.iconst 1, 1) ∧ 11 + 1 = 12 := by decide +kernel
theorem dX1_rate_12 : decode bX1_rate 12 = .ok (.aload_n 1, 1) ∧ 12 + 1 = 13 := by decide +kernel
theorem dX1_rate_13 : decode bX1_rate 13 = .ok (.getfield 46, 3) ∧ 13 + 3 = 16 := by decide +kernel
theorem dX1_rate_16 : decode bX1_rate 16 = .ok (.iload_n 2, 1) ∧ 16 + 1 = 17 := by decide +kernel
theorem dX1_rate_17 : decode bX1_rate 17 = .ok (.iaload, 1) ∧ 17 + 1 = 18 := by decide +kernel
theorem dX1_rate_18 : decode bX1_rate 18 = .ok (.iastore, 1) ∧ 18 + 1 = 19 := by decide +kernel
theorem dX1_rate_19 : decode bX1_rate 19 = .ok (.aload_n 0, 1) ∧ 19 + 1 = 20 := by decide +kernel
theorem dX1_rate_20 : decode bX1_rate 20 = .ok (.getfield 43, 3) ∧ 20 + 3 = 23 := by decide +kernel
theorem dX1_rate_23 : decode bX1_rate 23 = .ok (.iconst 2, 1) ∧ 23 + 1 = 24 := by decide +kernel
theorem dX1_rate_24 : decode bX1_rate 24 = .ok (.aload_n 1, 1) ∧ 24 + 1 = 25 := by decide +kernel
theorem dX1_rate_25 : decode bX1_rate 25 = .ok (.getfield 51, 3) ∧ 25 + 3 = 28 := by decide +kernel
theorem dX1_rate_28 : decode bX1_rate 28 = .ok (.iload_n 2, 1) ∧ 28 + 1 = 29 := by decide +kernel
theorem dX1_rate_29 : decode bX1_rate 29 = .ok (.iaload, 1) ∧ 29 + 1 = 30 := by decide +kernel
theorem dX1_rate_30 : decode bX1_rate 30 = .ok (.iastore, 1) ∧ 30 + 1 = 31 := by decide +kernel
theorem dX1_rate_31 : decode bX1_rate 31 = .ok (.aload_n 0, 1) ∧ 31 + 1 = 32 := by decide +kernel
theorem dX1_rate_32 : decode bX1_rate 32 = .ok (.getfield 43, 3) ∧ 32 + 3 = 35 := by decide +kernel
theorem dX1_rate_35 : decode bX1_rate 35 = .ok (.iconst 3, 1) ∧ 35 + 1 = 36 := by decide +kernel
theorem dX1_rate_36 : decode bX1_rate 36 = .ok (.aload_n 1, 1) ∧ 36 + 1 = 37 := by decide +kernel
theorem dX1_rate_37 : decode bX1_rate 37 = .ok (.getfield 54, 3) ∧ 37 + 3 = 40 := by decide +kernel
theorem dX1_rate_40 : decode bX1_rate 40 = .ok (.iload_n 2, 1) ∧ 40 + 1 = 41 := by decide +kernel
theorem dX1_rate_41 : decode bX1_rate 41 = .ok (.iaload, 1) ∧ 41 + 1 = 42 := by decide +kernel
theorem dX1_rate_42 : decode bX1_rate 42 = .ok (.bipush 10, 2) ∧ 42 + 2 = 44 := by decide +kernel
theorem dX1_rate_44 : decode bX1_rate 44 = .ok (.idiv, 1) ∧ 44 + 1 = 45 := by decide +kernel
theorem dX1_rate_45 : decode bX1_rate 45 = .ok (.iastore, 1) ∧ 45 + 1 = 46 := by decide +kernel
theorem dX1_rate_46 : decode bX1_rate 46 = .ok (.aload_n 0, 1) ∧ 46 + 1 = 47 := by decide +kernel
theorem dX1_rate_47 : decode bX1_rate 47 = .ok (.getfield 43, 3) ∧ 47 + 3 = 50 := by decide +kernel
theorem dX1_rate_50 : decode bX1_rate 50 = .ok (.iconst 4, 1) ∧ 50 + 1 = 51 := by decide +kernel
theorem dX1_rate_51 : decode bX1_rate 51 = .ok (.aload_n 1, 1) ∧ 51 + 1 = 52 := by decide +kernel
theorem dX1_rate_52 : decode bX1_rate 52 = .ok (.getfield 57, 3) ∧ 52 + 3 = 55 := by decide +kernel
theorem dX1_rate_55 : decode bX1_rate 55 = .ok (.iload_n 2, 1) ∧ 55 + 1 = 56 := by decide +kernel
theorem dX1_rate_56 : decode bX1_rate 56 = .ok (.iaload, 1) ∧ 56 + 1 = 57 := by decide +kernel
theorem dX1_rate_57 : decode bX1_rate 57 = .ok (.iastore, 1) ∧ 57 + 1 = 58 := by decide +kernel
theorem dX1_rate_58 : decode bX1_rate 58 = .ok (.aload_n 0, 1) ∧ 58 + 1 = 59 := by decide +kernel
theorem dX1_rate_59 : decode bX1_rate 59 = .ok (.getfield 43, 3) ∧ 59 + 3 = 62 := by decide +kernel
theorem dX1_rate_62 : decode bX1_rate 62 = .ok (.iconst 5, 1) ∧ 62 + 1 = 63 := by decide +kernel
theorem dX1_rate_63 : decode bX1_rate 63 = .ok (.aload_n 1, 1) ∧ 63 + 1 = 64 := by decide +kernel
theorem dX1_rate_64 : decode bX1_rate 64 = .ok (.getfield 60, 3) ∧ 64 + 3 = 67 := by decide +kernel
theorem dX1_rate_67 : decode bX1_rate 67 = .ok (.bipush 10, 2) ∧ 67 + 2 = 69 := by decide +kernel
theorem dX1_rate_69 : decode bX1_rate 69 = .ok (.irem, 1) ∧ 69 + 1 = 70 := by decide +kernel
theorem dX1_rate_70 : decode bX1_rate 70 = .ok (.iastore, 1) ∧ 70 + 1 = 71 := by decide +kernel
theorem dX1_rate_71 : decode bX1_rate 71 = .ok (.iconst 1, 1) ∧ 71 + 1 = 72 := by decide +kernel
theorem dX1_rate_72 : decode bX1_rate 72 = .ok (.istore_n 3, 1) ∧ 72 + 1 = 73 := by decide +kernel
theorem dX1_rate_73 : decode bX1_rate 73 = .ok (.iconst 0, 1) ∧ 73 + 1 = 74 := by decide +kernel
theorem dX1_rate_74 : decode bX1_rate 74 = .ok (.istore 4, 2) ∧ 74 + 2 = 76 := by decide +kernel
theorem dX1_rate_76 : decode bX1_rate 76 = .ok (.iconst 0, 1) ∧ 76 + 1 = 77 := by decide +kernel
theorem dX1_rate_77 : decode bX1_rate 77 = .ok (.istore 5, 2) ∧ 77 + 2 = 79 := by decide +kernel
theorem dX1_rate_79 : decode bX1_rate 79 = .ok (.iload 5, 2) ∧ 79 + 2 = 81 := by decide +kernel
theorem dX1_rate_81 : decode bX1_rate 81 = .ok (.aload_n 0, 1) ∧ 81 + 1 = 82 := by decide +kernel
theorem dX1_rate_82 : decode bX1_rate 82 = .ok (.getfield 19, 3) ∧ 82 + 3 = 85 := by decide +kernel
theorem dX1_rate_85 : decode bX1_rate 85 = .ok (.if_icmp .ge 44, 3) ∧ 85 + 3 = 88 ∧ ((85 : Nat) : Int) + (44) = ((129 : Nat) : Int) := by decide +kernel
theorem dX1_rate_88 : decode bX1_rate 88 = .ok (.aload_n 0, 1) ∧ 88 + 1 = 89 := by decide +kernel
theorem dX1_rate_89 : decode bX1_rate 89 = .ok (.iload 4, 2) ∧ 89 + 2 = 91 := by decide +kernel
theorem dX1_rate_91 : decode bX1_rate 91 = .ok (.aload_n 0, 1) ∧ 91 + 1 = 92 := by decide +kernel
theorem dX1_rate_92 : decode bX1_rate 92 = .ok (.getfield 29, 3) ∧ 92 + 3 = 95 := by decide +kernel
theorem dX1_rate_95 : decode bX1_rate 95 = .ok (.iload 5, 2) ∧ 95 + 2 = 97 := by decide +kernel
theorem dX1_rate_97 : decode bX1_rate 97 = .ok (.iaload, 1) ∧ 97 + 1 = 98 := by decide +kernel
theorem dX1_rate_98 : decode bX1_rate 98 = .ok (.invokevirtual 63, 3) ∧ 98 + 3 = 101 := by decide +kernel
theorem dX1_rate_101 : decode bX1_rate 101 = .ok (.ifCond .eq 13, 3) ∧ 101 + 3 = 104 ∧ ((101 : Nat) : Int) + (13) = ((114 : Nat) : Int) := by decide +kernel
theorem dX1_rate_104 : decode bX1_rate 104 = .ok (.iload_n 3, 1) ∧ 104 + 1 = 105 := by decide +kernel
theorem dX1_rate_105 : decode bX1_rate 105 = .ok (.aload_n 0, 1) ∧ 105 + 1 = 106 := by decide +kernel
theorem dX1_rate_106 : decode bX1_rate 106 = .ok (.getfield 25, 3) ∧ 106 + 3 = 109 := by decide +kernel
theorem dX1_rate_109 : decode bX1_rate 109 = .ok (.iload 5, 2) ∧ 109 + 2 = 111 := by decide +kernel
theorem dX1_rate_111 : decode bX1_rate 111 = .ok (.iaload, 1) ∧ 111 + 1 = 112 := by decide +kernel
theorem dX1_rate_112 : decode bX1_rate 112 = .ok (.iadd, 1) ∧ 112 + 1 = 113 := by decide +kernel
theorem dX1_rate_113 : decode bX1_rate 113 = .ok (.istore_n 3, 1) ∧ 113 + 1 = 114 := by decide +kernel
theorem dX1_rate_114 : decode bX1_rate 114 = .ok (.aload_n 0, 1) ∧ 114 + 1 = 115 := by decide +kernel
theorem dX1_rate_115 : decode bX1_rate 115 = .ok (.getfield 29, 3) ∧ 115 + 3 = 118 := by decide +kernel
theorem dX1_rate_118 : decode bX1_rate 118 = .ok (.iload 5, 2) ∧ 118 + 2 = 120 := by decide +kernel
theorem dX1_rate_120 : decode bX1_rate 120 = .ok (.iaload, 1) ∧ 120 + 1 = 121 := by decide +kernel
theorem dX1_rate_121 : decode bX1_rate 121 = .ok (.istore 4, 2) ∧ 121 + 2 = 123 := by decide +kernel
theorem dX1_rate_123 : decode bX1_rate 123 = .ok (.iinc 5 1, 3) ∧ 123 + 3 = 126 := by decide +kernel
theorem dX1_rate_126 : decode bX1_rate 126 = .ok (.goto (-47), 3) ∧ ((126 : Nat) : Int) + (-47) = ((79 : Nat) : Int) := by decide +kernel
theorem dX1_rate_129 : decode bX1_rate 129 = .ok (.iconst 0, 1) ∧ 129 + 1 = 130 := by decide +kernel
theorem dX1_rate_130 : decode bX1_rate 130 = .ok (.iload_n 3, 1) ∧ 130 + 1 = 131 := by decide +kernel
theorem dX1_rate_131 : decode bX1_rate 131 = .ok (.invokestatic 67, 3) ∧ 131 + 3 = 134 := by decide +kernel
theorem dX1_rate_134 : decode bX1_rate 134 = .ok (.ireturn, 1) := by decide +kernel
theorem dX1_conditionHolds_0 : decode bX1_conditionHolds 0 = .ok (.iconst 0, 1) ∧ 0 + 1 = 1 := by decide +kernel
theorem dX1_conditionHolds_1 : decode bX1_conditionHolds 1 = .ok (.istore_n 3, 1) ∧ 1 + 1 = 2 := by decide +kernel
theorem dX1_conditionHolds_2 : decode bX1_conditionHolds 2 = .ok (.iload_n 1, 1) ∧ 2 + 1 = 3 := by decide +kernel
theorem dX1_conditionHolds_3 : decode bX1_conditionHolds 3 = .ok (.istore 4, 2) ∧ 3 + 2 = 5 := by decide +kernel
theorem dX1_conditionHolds_5 : decode bX1_conditionHolds 5 = .ok (.iload 4, 2) ∧ 5 + 2 = 7 := by decide +kernel
theorem dX1_conditionHolds_7 : decode bX1_conditionHolds 7 = .ok (.iload_n 2, 1) ∧ 7 + 1 = 8 := by decide +kernel
theorem dX1_conditionHolds_8 : decode bX1_conditionHolds 8 = .ok (.if_icmp .ge 168, 3) ∧ 8 + 3 = 11 ∧ ((8 : Nat) : Int) + (168) = ((176 : Nat) : Int) := by decide +kernel
theorem dX1_conditionHolds_11 : decode bX1_conditionHolds 11 = .ok (.aload_n 0, 1) ∧ 11 + 1 = 12 := by decide +kernel
theorem dX1_conditionHolds_12 : decode bX1_conditionHolds 12 = .ok (.getfield 43, 3) ∧ 12 + 3 = 15 := by decide +kernel
theorem dX1_conditionHolds_15 : decode bX1_conditionHolds 15 = .ok (.aload_n 0, 1) ∧ 15 + 1 = 16 := by decide +kernel
theorem dX1_conditionHolds_16 : decode bX1_conditionHolds 16 = .ok (.getfield 37, 3) ∧ 16 + 3 = 19 := by decide +kernel
theorem dX1_conditionHolds_19 : decode bX1_conditionHolds 19 = .ok (.iload 4, 2) ∧ 19 + 2 = 21 := by decide +kernel
theorem dX1_conditionHolds_21 : decode bX1_conditionHolds 21 = .ok (.iaload, 1) ∧ 21 + 1 = 22 := by decide +kernel
theorem dX1_conditionHolds_22 : decode bX1_conditionHolds 22 = .ok (.iaload, 1) ∧ 22 + 1 = 23 := by decide +kernel
theorem dX1_conditionHolds_23 : decode bX1_conditionHolds 23 = .ok (.istore 5, 2) ∧ 23 + 2 = 25 := by decide +kernel
theorem dX1_conditionHolds_25 : decode bX1_conditionHolds 25 = .ok (.aload_n 0, 1) ∧ 25 + 1 = 26 := by decide +kernel
theorem dX1_conditionHolds_26 : decode bX1_conditionHolds 26 = .ok (.getfield 34, 3) ∧ 26 + 3 = 29 := by decide +kernel
theorem dX1_conditionHolds_29 : decode bX1_conditionHolds 29 = .ok (.iload 4, 2) ∧ 29 + 2 = 31 := by decide +kernel
theorem dX1_conditionHolds_31 : decode bX1_conditionHolds 31 = .ok (.iaload, 1) ∧ 31 + 1 = 32 := by decide +kernel
theorem dX1_conditionHolds_32 : decode bX1_conditionHolds 32 = .ok (.tableswitch 130 0 4 #[36, 61, 86, 111, 118], 36) := by decide +kernel
theorem dX1_conditionHolds_68 : decode bX1_conditionHolds 68 = .ok (.iload_n 3, 1) ∧ 68 + 1 = 69 := by decide +kernel
theorem dX1_conditionHolds_69 : decode bX1_conditionHolds 69 = .ok (.iconst 1, 1) ∧ 69 + 1 = 70 := by decide +kernel
theorem dX1_conditionHolds_70 : decode bX1_conditionHolds 70 = .ok (.ishl, 1) ∧ 70 + 1 = 71 := by decide +kernel
theorem dX1_conditionHolds_71 : decode bX1_conditionHolds 71 = .ok (.iload 5, 2) ∧ 71 + 2 = 73 := by decide +kernel
theorem dX1_conditionHolds_73 : decode bX1_conditionHolds 73 = .ok (.aload_n 0, 1) ∧ 73 + 1 = 74 := by decide +kernel
theorem dX1_conditionHolds_74 : decode bX1_conditionHolds 74 = .ok (.getfield 40, 3) ∧ 74 + 3 = 77 := by decide +kernel
theorem dX1_conditionHolds_77 : decode bX1_conditionHolds 77 = .ok (.iload 4, 2) ∧ 77 + 2 = 79 := by decide +kernel
theorem dX1_conditionHolds_79 : decode bX1_conditionHolds 79 = .ok (.iaload, 1) ∧ 79 + 1 = 80 := by decide +kernel
theorem dX1_conditionHolds_80 : decode bX1_conditionHolds 80 = .ok (.if_icmp .ge 7, 3) ∧ 80 + 3 = 83 ∧ ((80 : Nat) : Int) + (7) = ((87 : Nat) : Int) := by decide +kernel
theorem dX1_conditionHolds_83 : decode bX1_conditionHolds 83 = .ok (.iconst 1, 1) ∧ 83 + 1 = 84 := by decide +kernel
theorem dX1_conditionHolds_84 : decode bX1_conditionHolds 84 = .ok (.goto 4, 3) ∧ ((84 : Nat) : Int) + (4) = ((88 : Nat) : Int) := by decide +kernel
theorem dX1_conditionHolds_87 : decode bX1_conditionHolds 87 = .ok (.iconst 0, 1) ∧ 87 + 1 = 88 := by decide +kernel
theorem dX1_conditionHolds_88 : decode bX1_conditionHolds 88 = .ok (.ior, 1) ∧ 88 + 1 = 89 := by decide +kernel
theorem dX1_conditionHolds_89 : decode bX1_conditionHolds 89 = .ok (.istore_n 3, 1) ∧ 89 + 1 = 90 := by decide +kernel
theorem dX1_conditionHolds_90 : decode bX1_conditionHolds 90 = .ok (.goto 80, 3) ∧ ((90 : Nat) : Int) + (80) = ((170 : Nat) : Int) := by decide +kernel
theorem dX1_conditionHolds_93 : decode bX1_conditionHolds 93 = .ok (.iload_n 3, 1) ∧ 93 + 1 = 94 := by decide +kernel
theorem dX1_conditionHolds_94 : decode bX1_conditionHolds 94 = .ok (.iconst 1, 1) ∧ 94 + 1 = 95 := by decide +kernel
theorem dX1_conditionHolds_95 : decode bX1_conditionHolds 95 = .ok (.ishl, 1) ∧ 95 + 1 = 96 := by decide +kernel
theorem dX1_conditionHolds_96 : decode bX1_conditionHolds 96 = .ok (.iload 5, 2) ∧ 96 + 2 = 98 := by decide +kernel
theorem dX1_conditionHolds_98 : decode bX1_conditionHolds 98 = .ok (.aload_n 0, 1) ∧ 98 + 1 = 99 := by decide +kernel
theorem dX1_conditionHolds_99 : decode bX1_conditionHolds 99 = .ok (.getfield 40, 3) ∧ 99 + 3 = 102 := by decide +kernel
theorem dX1_conditionHolds_102 : decode bX1_conditionHolds 102 = .ok (.iload 4, 2) ∧ 102 + 2 = 104 := by decide +kernel
theorem dX1_conditionHolds_104 : decode bX1_conditionHolds 104 = .ok (.iaload, 1) ∧ 104 + 1 = 105 := by decide +kernel
theorem dX1_conditionHolds_105 : decode bX1_conditionHolds 105 = .ok (.if_icmp .ne 7, 3) ∧ 105 + 3 = 108 ∧ ((105 : Nat) : Int) + (7) = ((112 : Nat) : Int) := by decide +kernel
theorem dX1_conditionHolds_108 : decode bX1_conditionHolds 108 = .ok (.iconst 1, 1) ∧ 108 + 1 = 109 := by decide +kernel
theorem dX1_conditionHolds_109 : decode bX1_conditionHolds 109 = .ok (.goto 4, 3) ∧ ((109 : Nat) : Int) + (4) = ((113 : Nat) : Int) := by decide +kernel
theorem dX1_conditionHolds_112 : decode bX1_conditionHolds 112 = .ok (.iconst 0, 1) ∧ 112 + 1 = 113 := by decide +kernel
theorem dX1_conditionHolds_113 : decode bX1_conditionHolds 113 = .ok (.ior, 1) ∧ 113 + 1 = 114 := by decide +kernel
theorem dX1_conditionHolds_114 : decode bX1_conditionHolds 114 = .ok (.istore_n 3, 1) ∧ 114 + 1 = 115 := by decide +kernel
theorem dX1_conditionHolds_115 : decode bX1_conditionHolds 115 = .ok (.goto 55, 3) ∧ ((115 : Nat) : Int) + (55) = ((170 : Nat) : Int) := by decide +kernel
theorem dX1_conditionHolds_118 : decode bX1_conditionHolds 118 = .ok (.iload_n 3, 1) ∧ 118 + 1 = 119 := by decide +kernel
theorem dX1_conditionHolds_119 : decode bX1_conditionHolds 119 = .ok (.iconst 1, 1) ∧ 119 + 1 = 120 := by decide +kernel
theorem dX1_conditionHolds_120 : decode bX1_conditionHolds 120 = .ok (.ishl, 1) ∧ 120 + 1 = 121 := by decide +kernel
theorem dX1_conditionHolds_121 : decode bX1_conditionHolds 121 = .ok (.iload 5, 2) ∧ 121 + 2 = 123 := by decide +kernel
theorem dX1_conditionHolds_123 : decode bX1_conditionHolds 123 = .ok (.aload_n 0, 1) ∧ 123 + 1 = 124 := by decide +kernel
theorem dX1_conditionHolds_124 : decode bX1_conditionHolds 124 = .ok (.getfield 40, 3) ∧ 124 + 3 = 127 := by decide +kernel
theorem dX1_conditionHolds_127 : decode bX1_conditionHolds 127 = .ok (.iload 4, 2) ∧ 127 + 2 = 129 := by decide +kernel
theorem dX1_conditionHolds_129 : decode bX1_conditionHolds 129 = .ok (.iaload, 1) ∧ 129 + 1 = 130 := by decide +kernel
theorem dX1_conditionHolds_130 : decode bX1_conditionHolds 130 = .ok (.if_icmp .le 7, 3) ∧ 130 + 3 = 133 ∧ ((130 : Nat) : Int) + (7) = ((137 : Nat) : Int) := by decide +kernel
theorem dX1_conditionHolds_133 : decode bX1_conditionHolds 133 = .ok (.iconst 1, 1) ∧ 133 + 1 = 134 := by decide +kernel
theorem dX1_conditionHolds_134 : decode bX1_conditionHolds 134 = .ok (.goto 4, 3) ∧ ((134 : Nat) : Int) + (4) = ((138 : Nat) : Int) := by decide +kernel
theorem dX1_conditionHolds_137 : decode bX1_conditionHolds 137 = .ok (.iconst 0, 1) ∧ 137 + 1 = 138 := by decide +kernel
theorem dX1_conditionHolds_138 : decode bX1_conditionHolds 138 = .ok (.ior, 1) ∧ 138 + 1 = 139 := by decide +kernel
theorem dX1_conditionHolds_139 : decode bX1_conditionHolds 139 = .ok (.istore_n 3, 1) ∧ 139 + 1 = 140 := by decide +kernel
theorem dX1_conditionHolds_140 : decode bX1_conditionHolds 140 = .ok (.goto 30, 3) ∧ ((140 : Nat) : Int) + (30) = ((170 : Nat) : Int) := by decide +kernel
theorem dX1_conditionHolds_143 : decode bX1_conditionHolds 143 = .ok (.iload_n 3, 1) ∧ 143 + 1 = 144 := by decide +kernel
theorem dX1_conditionHolds_144 : decode bX1_conditionHolds 144 = .ok (.iconst 1, 1) ∧ 144 + 1 = 145 := by decide +kernel
theorem dX1_conditionHolds_145 : decode bX1_conditionHolds 145 = .ok (.ixor, 1) ∧ 145 + 1 = 146 := by decide +kernel
theorem dX1_conditionHolds_146 : decode bX1_conditionHolds 146 = .ok (.istore_n 3, 1) ∧ 146 + 1 = 147 := by decide +kernel
theorem dX1_conditionHolds_147 : decode bX1_conditionHolds 147 = .ok (.goto 23, 3) ∧ ((147 : Nat) : Int) + (23) = ((170 : Nat) : Int) := by decide +kernel
theorem dX1_conditionHolds_150 : decode bX1_conditionHolds 150 = .ok (.iload_n 3, 1) ∧ 150 + 1 = 151 := by decide +kernel
theorem dX1_conditionHolds_151 : decode bX1_conditionHolds 151 = .ok (.iconst 1, 1) ∧ 151 + 1 = 152 := by decide +kernel
theorem dX1_conditionHolds_152 : decode bX1_conditionHolds 152 = .ok (.ishr, 1) ∧ 152 + 1 = 153 := by decide +kernel
theorem dX1_conditionHolds_153 : decode bX1_conditionHolds 153 = .ok (.iload_n 3, 1) ∧ 153 + 1 = 154 := by decide +kernel
theorem dX1_conditionHolds_154 : decode bX1_conditionHolds 154 = .ok (.bipush (-2), 2) ∧ 154 + 2 = 156 := by decide +kernel
theorem dX1_conditionHolds_156 : decode bX1_conditionHolds 156 = .ok (.ior, 1) ∧ 156 + 1 = 157 := by decide +kernel
theorem dX1_conditionHolds_157 : decode bX1_conditionHolds 157 = .ok (.iand, 1) ∧ 157 + 1 = 158 := by decide +kernel
theorem dX1_conditionHolds_158 : decode bX1_conditionHolds 158 = .ok (.istore_n 3, 1) ∧ 158 + 1 = 159 := by decide +kernel
theorem dX1_conditionHolds_159 : decode bX1_conditionHolds 159 = .ok (.goto 11, 3) ∧ ((159 : Nat) : Int) + (11) = ((170 : Nat) : Int) := by decide +kernel
theorem dX1_conditionHolds_162 : decode bX1_conditionHolds 162 = .ok (.iload_n 3, 1) ∧ 162 + 1 = 163 := by decide +kernel
theorem dX1_conditionHolds_163 : decode bX1_conditionHolds 163 = .ok (.iconst 1, 1) ∧ 163 + 1 = 164 := by decide +kernel
theorem dX1_conditionHolds_164 : decode bX1_conditionHolds 164 = .ok (.ishr, 1) ∧ 164 + 1 = 165 := by decide +kernel
theorem dX1_conditionHolds_165 : decode bX1_conditionHolds 165 = .ok (.iload_n 3, 1) ∧ 165 + 1 = 166 := by decide +kernel
theorem dX1_conditionHolds_166 : decode bX1_conditionHolds 166 = .ok (.iconst 1, 1) ∧ 166 + 1 = 167 := by decide +kernel
theorem dX1_conditionHolds_167 : decode bX1_conditionHolds 167 = .ok (.iand, 1) ∧ 167 + 1 = 168 := by decide +kernel
theorem dX1_conditionHolds_168 : decode bX1_conditionHolds 168 = .ok (.ior, 1) ∧ 168 + 1 = 169 := by decide +kernel
theorem dX1_conditionHolds_169 : decode bX1_conditionHolds 169 = .ok (.istore_n 3, 1) ∧ 169 + 1 = 170 := by decide +kernel
theorem dX1_conditionHolds_170 : decode bX1_conditionHolds 170 = .ok (.iinc 4 1, 3) ∧ 170 + 3 = 173 := by decide +kernel
theorem dX1_conditionHolds_173 : decode bX1_conditionHolds 173 = .ok (.goto (-168), 3) ∧ ((173 : Nat) : Int) + (-168) = ((5 : Nat) : Int) := by decide +kernel
theorem dX1_conditionHolds_176 : decode bX1_conditionHolds 176 = .ok (.iload_n 3, 1) ∧ 176 + 1 = 177 := by decide +kernel
theorem dX1_conditionHolds_177 : decode bX1_conditionHolds 177 = .ok (.iconst 1, 1) ∧ 177 + 1 = 178 := by decide +kernel
theorem dX1_conditionHolds_178 : decode bX1_conditionHolds 178 = .ok (.iand, 1) ∧ 178 + 1 = 179 := by decide +kernel
theorem dX1_conditionHolds_179 : decode bX1_conditionHolds 179 = .ok (.iconst 1, 1) ∧ 179 + 1 = 180 := by decide +kernel
theorem dX1_conditionHolds_180 : decode bX1_conditionHolds 180 = .ok (.if_icmp .ne 7, 3) ∧ 180 + 3 = 183 ∧ ((180 : Nat) : Int) + (7) = ((187 : Nat) : Int) := by decide +kernel
theorem dX1_conditionHolds_183 : decode bX1_conditionHolds 183 = .ok (.iconst 1, 1) ∧ 183 + 1 = 184 := by decide +kernel
theorem dX1_conditionHolds_184 : decode bX1_conditionHolds 184 = .ok (.goto 4, 3) ∧ ((184 : Nat) : Int) + (4) = ((188 : Nat) : Int) := by decide +kernel
theorem dX1_conditionHolds_187 : decode bX1_conditionHolds 187 = .ok (.iconst 0, 1) ∧ 187 + 1 = 188 := by decide +kernel
theorem dX1_conditionHolds_188 : decode bX1_conditionHolds 188 = .ok (.ireturn, 1) := by decide +kernel
theorem dX2_copyFrom_0 : decode bX2_copyFrom 0 = .ok (.aload_n 0, 1) ∧ 0 + 1 = 1 := by decide +kernel
theorem dX2_copyFrom_1 : decode bX2_copyFrom 1 = .ok (.aload_n 1, 1) ∧ 1 + 1 = 2 := by decide +kernel
theorem dX2_copyFrom_2 : decode bX2_copyFrom 2 = .ok (.getfield 7, 3) ∧ 2 + 3 = 5 := by decide +kernel
theorem dX2_copyFrom_5 : decode bX2_copyFrom 5 = .ok (.putfield 7, 3) ∧ 5 + 3 = 8 := by decide +kernel
theorem dX2_copyFrom_8 : decode bX2_copyFrom 8 = .ok (.aload_n 0, 1) ∧ 8 + 1 = 9 := by decide +kernel
theorem dX2_copyFrom_9 : decode bX2_copyFrom 9 = .ok (.aload_n 1, 1) ∧ 9 + 1 = 10 := by decide +kernel
theorem dX2_copyFrom_10 : decode bX2_copyFrom 10 = .ok (.getfield 13, 3) ∧ 10 + 3 = 13 := by decide +kernel
theorem dX2_copyFrom_13 : decode bX2_copyFrom 13 = .ok (.putfield 13, 3) ∧ 13 + 3 = 16 := by decide +kernel
theorem dX2_copyFrom_16 : decode bX2_copyFrom 16 = .ok (.aload_n 0, 1) ∧ 16 + 1 = 17 := by decide +kernel
theorem dX2_copyFrom_17 : decode bX2_copyFrom 17 = .ok (.aload_n 1, 1) ∧ 17 + 1 = 18 := by decide +kernel
theorem dX2_copyFrom_18 : decode bX2_copyFrom 18 = .ok (.getfield 16, 3) ∧ 18 + 3 = 21 := by decide +kernel
theorem dX2_copyFrom_21 : decode bX2_copyFrom 21 = .ok (.putfield 16, 3) ∧ 21 + 3 = 24 := by decide +kernel
theorem dX2_copyFrom_24 : decode bX2_copyFrom 24 = .ok (.aload_n 1, 1) ∧ 24 + 1 = 25 := by decide +kernel
theorem dX2_copyFrom_25 : decode bX2_copyFrom 25 = .ok (.getfield 19, 3) ∧ 25 + 3 = 28 := by decide +kernel
theorem dX2_copyFrom_28 : decode bX2_copyFrom 28 = .ok (.iconst 0, 1) ∧ 28 + 1 = 29 := by decide +kernel
theorem dX2_copyFrom_29 : decode bX2_copyFrom 29 = .ok (.aload_n 0, 1) ∧ 29 + 1 = 30 := by decide +kernel
theorem dX2_copyFrom_30 : decode bX2_copyFrom 30 = .ok (.getfield 19, 3) ∧ 30 + 3 = 33 := by decide +kernel
theorem dX2_copyFrom_33 : decode bX2_copyFrom 33 = .ok (.iconst 0, 1) ∧ 33 + 1 = 34 := by decide +kernel
theorem dX2_copyFrom_34 : decode bX2_copyFrom 34 = .ok (.iconst 5, 1) ∧ 34 + 1 = 35 := by decide +kernel
theorem dX2_copyFrom_35 : decode bX2_copyFrom 35 = .ok (.invokestatic 38, 3) ∧ 35 + 3 = 38 := by decide +kernel
theorem dX2_copyFrom_38 : decode bX2_copyFrom 38 = .ok (.aload_n 1, 1) ∧ 38 + 1 = 39 := by decide +kernel
theorem dX2_copyFrom_39 : decode bX2_copyFrom 39 = .ok (.getfield 23, 3) ∧ 39 + 3 = 42 := by decide +kernel
theorem dX2_copyFrom_42 : decode bX2_copyFrom 42 = .ok (.iconst 0, 1) ∧ 42 + 1 = 43 := by decide +kernel
theorem dX2_copyFrom_43 : decode bX2_copyFrom 43 = .ok (.aload_n 0, 1) ∧ 43 + 1 = 44 := by decide +kernel
theorem dX2_copyFrom_44 : decode bX2_copyFrom 44 = .ok (.getfield 23, 3) ∧ 44 + 3 = 47 := by decide +kernel
theorem dX2_copyFrom_47 : decode bX2_copyFrom 47 = .ok (.iconst 0, 1) ∧ 47 + 1 = 48 := by decide +kernel
theorem dX2_copyFrom_48 : decode bX2_copyFrom 48 = .ok (.iconst 5, 1) ∧ 48 + 1 = 49 := by decide +kernel
theorem dX2_copyFrom_49 : decode bX2_copyFrom 49 = .ok (.invokestatic 38, 3) ∧ 49 + 3 = 52 := by decide +kernel
theorem dX2_copyFrom_52 : decode bX2_copyFrom 52 = .ok (.aload_n 1, 1) ∧ 52 + 1 = 53 := by decide +kernel
theorem dX2_copyFrom_53 : decode bX2_copyFrom 53 = .ok (.getfield 26, 3) ∧ 53 + 3 = 56 := by decide +kernel
theorem dX2_copyFrom_56 : decode bX2_copyFrom 56 = .ok (.iconst 0, 1) ∧ 56 + 1 = 57 := by decide +kernel
theorem dX2_copyFrom_57 : decode bX2_copyFrom 57 = .ok (.aload_n 0, 1) ∧ 57 + 1 = 58 := by decide +kernel
theorem dX2_copyFrom_58 : decode bX2_copyFrom 58 = .ok (.getfield 26, 3) ∧ 58 + 3 = 61 := by decide +kernel
theorem dX2_copyFrom_61 : decode bX2_copyFrom 61 = .ok (.iconst 0, 1) ∧ 61 + 1 = 62 := by decide +kernel
theorem dX2_copyFrom_62 : decode bX2_copyFrom 62 = .ok (.bipush 10, 2) ∧ 62 + 2 = 64 := by decide +kernel
theorem dX2_copyFrom_64 : decode bX2_copyFrom 64 = .ok (.invokestatic 38, 3) ∧ 64 + 3 = 67 := by decide +kernel
theorem dX2_copyFrom_67 : decode bX2_copyFrom 67 = .ok (.aload_n 1, 1) ∧ 67 + 1 = 68 := by decide +kernel
theorem dX2_copyFrom_68 : decode bX2_copyFrom 68 = .ok (.getfield 29, 3) ∧ 68 + 3 = 71 := by decide +kernel
theorem dX2_copyFrom_71 : decode bX2_copyFrom 71 = .ok (.iconst 0, 1) ∧ 71 + 1 = 72 := by decide +kernel
theorem dX2_copyFrom_72 : decode bX2_copyFrom 72 = .ok (.aload_n 0, 1) ∧ 72 + 1 = 73 := by decide +kernel
theorem dX2_copyFrom_73 : decode bX2_copyFrom 73 = .ok (.getfield 29, 3) ∧ 73 + 3 = 76 := by decide +kernel
theorem dX2_copyFrom_76 : decode bX2_copyFrom 76 = .ok (.iconst 0, 1) ∧ 76 + 1 = 77 := by decide +kernel
theorem dX2_copyFrom_77 : decode bX2_copyFrom 77 = .ok (.bipush 10, 2) ∧ 77 + 2 = 79 := by decide +kernel
theorem dX2_copyFrom_79 : decode bX2_copyFrom 79 = .ok (.invokestatic 38, 3) ∧ 79 + 3 = 82 := by decide +kernel
theorem dX2_copyFrom_82 : decode bX2_copyFrom 82 = .ok (.aload_n 1, 1) ∧ 82 + 1 = 83 := by decide +kernel
theorem dX2_copyFrom_83 : decode bX2_copyFrom 83 = .ok (.getfield 32, 3) ∧ 83 + 3 = 86 := by decide +kernel
theorem dX2_copyFrom_86 : decode bX2_copyFrom 86 = .ok (.iconst 0, 1) ∧ 86 + 1 = 87 := by decide +kernel
theorem dX2_copyFrom_87 : decode bX2_copyFrom 87 = .ok (.aload_n 0, 1) ∧ 87 + 1 = 88 := by decide +kernel
theorem dX2_copyFrom_88 : decode bX2_copyFrom 88 = .ok (.getfield 32, 3) ∧ 88 + 3 = 91 := by decide +kernel
theorem dX2_copyFrom_91 : decode bX2_copyFrom 91 = .ok (.iconst 0, 1) ∧ 91 + 1 = 92 := by decide +kernel
theorem dX2_copyFrom_92 : decode bX2_copyFrom 92 = .ok (.bipush 8, 2) ∧ 92 + 2 = 94 := by decide +kernel
theorem dX2_copyFrom_94 : decode bX2_copyFrom 94 = .ok (.invokestatic 38, 3) ∧ 94 + 3 = 97 := by decide +kernel
theorem dX2_copyFrom_97 : decode bX2_copyFrom 97 = .ok (.aload_n 1, 1) ∧ 97 + 1 = 98 := by decide +kernel
theorem dX2_copyFrom_98 : decode bX2_copyFrom 98 = .ok (.getfield 35, 3) ∧ 98 + 3 = 101 := by decide +kernel
theorem dX2_copyFrom_101 : decode bX2_copyFrom 101 = .ok (.iconst 0, 1) ∧ 101 + 1 = 102 := by decide +kernel
theorem dX2_copyFrom_102 : decode bX2_copyFrom 102 = .ok (.aload_n 0, 1) ∧ 102 + 1 = 103 := by decide +kernel
theorem dX2_copyFrom_103 : decode bX2_copyFrom 103 = .ok (.getfield 35, 3) ∧ 103 + 3 = 106 := by decide +kernel
theorem dX2_copyFrom_106 : decode bX2_copyFrom 106 = .ok (.iconst 0, 1) ∧ 106 + 1 = 107 := by decide +kernel
theorem dX2_copyFrom_107 : decode bX2_copyFrom 107 = .ok (.bipush 8, 2) ∧ 107 + 2 = 109 := by decide +kernel
theorem dX2_copyFrom_109 : decode bX2_copyFrom 109 = .ok (.invokestatic 38, 3) ∧ 109 + 3 = 112 := by decide +kernel
theorem dX2_copyFrom_112 : decode bX2_copyFrom 112 = .ok (.return_, 1) := by decide +kernel
theorem dX2_addSeen_0 : decode bX2_addSeen 0 = .ok (.aload_n 0, 1) ∧ 0 + 1 = 1 := by decide +kernel
theorem dX2_addSeen_1 : decode bX2_addSeen 1 = .ok (.getfield 7, 3) ∧ 1 + 3 = 4 := by decide +kernel
theorem dX2_addSeen_4 : decode bX2_addSeen 4 = .ok (.iconst 5, 1) ∧ 4 + 1 = 5 := by decide +kernel
theorem dX2_addSeen_5 : decode bX2_addSeen 5 = .ok (.if_icmp .ge 33, 3) ∧ 5 + 3 = 8 ∧ ((5 : Nat) : Int) + (33) = ((38 : Nat) : Int) := by decide +kernel
theorem dX2_addSeen_8 : decode bX2_addSeen 8 = .ok (.aload_n 0, 1) ∧ 8 + 1 = 9 := by decide +kernel
theorem dX2_addSeen_9 : decode bX2_addSeen 9 = .ok (.getfield 19, 3) ∧ 9 + 3 = 12 := by decide +kernel
theorem dX2_addSeen_12 : decode bX2_addSeen 12 = .ok (.aload_n 0, 1) ∧ 12 + 1 = 13 := by decide +kernel
theorem dX2_addSeen_13 : decode bX2_addSeen 13 = .ok (.getfield 7, 3) ∧ 13 + 3 = 16 := by decide +kernel
theorem dX2_addSeen_16 : decode bX2_addSeen 16 = .ok (.iload_n 1, 1) ∧ 16 + 1 = 17 := by decide +kernel
theorem dX2_addSeen_17 : decode bX2_addSeen 17 = .ok (.iastore, 1) ∧ 17 + 1 = 18 := by decide +kernel
theorem dX2_addSeen_18 : decode bX2_addSeen 18 = .ok (.aload_n 0, 1) ∧ 18 + 1 = 19 := by decide +kernel
theorem dX2_addSeen_19 : decode bX2_addSeen 19 = .ok (.getfield 23, 3) ∧ 19 + 3 = 22 := by decide +kernel
theorem dX2_addSeen_22 : decode bX2_addSeen 22 = .ok (.aload_n 0, 1) ∧ 22 + 1 = 23 := by decide +kernel
theorem dX2_addSeen_23 : decode bX2_addSeen 23 = .ok (.getfield 7, 3) ∧ 23 + 3 = 26 := by decide +kernel
theorem dX2_addSeen_26 : decode bX2_addSeen 26 = .ok (.iload_n 2, 1) ∧ 26 + 1 = 27 := by decide +kernel
theorem dX2_addSeen_27 : decode bX2_addSeen 27 = .ok (.iastore, 1) ∧ 27 + 1 = 28 := by decide +kernel
theorem dX2_addSeen_28 : decode bX2_addSeen 28 = .ok (.aload_n 0, 1) ∧ 28 + 1 = 29 := by decide +kernel
theorem dX2_addSeen_29 : decode bX2_addSeen 29 = .ok (.dup, 1) ∧ 29 + 1 = 30 := by decide +kernel
theorem dX2_addSeen_30 : decode bX2_addSeen 30 = .ok (.getfield 7, 3) ∧ 30 + 3 = 33 := by decide +kernel
theorem dX2_addSeen_33 : decode bX2_addSeen 33 = .ok (.iconst 1, 1) ∧ 33 + 1 = 34 := by decide +kernel
theorem dX2_addSeen_34 : decode bX2_addSeen 34 = .ok (.iadd, 1) ∧ 34 + 1 = 35 := by decide +kernel
theorem dX2_addSeen_35 : decode bX2_addSeen 35 = .ok (.putfield 7, 3) ∧ 35 + 3 = 38 := by decide +kernel
theorem dX2_addSeen_38 : decode bX2_addSeen 38 = .ok (.aload_n 0, 1) ∧ 38 + 1 = 39 := by decide +kernel
theorem dX2_addSeen_39 : decode bX2_addSeen 39 = .ok (.getfield 7, 3) ∧ 39 + 3 = 42 := by decide +kernel
theorem dX2_addSeen_42 : decode bX2_addSeen 42 = .ok (.ireturn, 1) := by decide +kernel
theorem dX2_addYear_0 : decode bX2_addYear 0 = .ok (.aload_n 0, 1) ∧ 0 + 1 = 1 := by decide +kernel
theorem dX2_addYear_1 : decode bX2_addYear 1 = .ok (.getfield 13, 3) ∧ 1 + 3 = 4 := by decide +kernel
theorem dX2_addYear_4 : decode bX2_addYear 4 = .ok (.bipush 10, 2) ∧ 4 + 2 = 6 := by decide +kernel
theorem dX2_addYear_6 : decode bX2_addYear 6 = .ok (.if_icmp .ge 33, 3) ∧ 6 + 3 = 9 ∧ ((6 : Nat) : Int) + (33) = ((39 : Nat) : Int) := by decide +kernel
theorem dX2_addYear_9 : decode bX2_addYear 9 = .ok (.aload_n 0, 1) ∧ 9 + 1 = 10 := by decide +kernel
theorem dX2_addYear_10 : decode bX2_addYear 10 = .ok (.getfield 26, 3) ∧ 10 + 3 = 13 := by decide +kernel
theorem dX2_addYear_13 : decode bX2_addYear 13 = .ok (.aload_n 0, 1) ∧ 13 + 1 = 14 := by decide +kernel
theorem dX2_addYear_14 : decode bX2_addYear 14 = .ok (.getfield 13, 3) ∧ 14 + 3 = 17 := by decide +kernel
theorem dX2_addYear_17 : decode bX2_addYear 17 = .ok (.iload_n 1, 1) ∧ 17 + 1 = 18 := by decide +kernel
theorem dX2_addYear_18 : decode bX2_addYear 18 = .ok (.iastore, 1) ∧ 18 + 1 = 19 := by decide +kernel
theorem dX2_addYear_19 : decode bX2_addYear 19 = .ok (.aload_n 0, 1) ∧ 19 + 1 = 20 := by decide +kernel
theorem dX2_addYear_20 : decode bX2_addYear 20 = .ok (.getfield 29, 3) ∧ 20 + 3 = 23 := by decide +kernel
theorem dX2_addYear_23 : decode bX2_addYear 23 = .ok (.aload_n 0, 1) ∧ 23 + 1 = 24 := by decide +kernel
theorem dX2_addYear_24 : decode bX2_addYear 24 = .ok (.getfield 13, 3) ∧ 24 + 3 = 27 := by decide +kernel
theorem dX2_addYear_27 : decode bX2_addYear 27 = .ok (.iload_n 2, 1) ∧ 27 + 1 = 28 := by decide +kernel
theorem dX2_addYear_28 : decode bX2_addYear 28 = .ok (.iastore, 1) ∧ 28 + 1 = 29 := by decide +kernel
theorem dX2_addYear_29 : decode bX2_addYear 29 = .ok (.aload_n 0, 1) ∧ 29 + 1 = 30 := by decide +kernel
theorem dX2_addYear_30 : decode bX2_addYear 30 = .ok (.dup, 1) ∧ 30 + 1 = 31 := by decide +kernel
theorem dX2_addYear_31 : decode bX2_addYear 31 = .ok (.getfield 13, 3) ∧ 31 + 3 = 34 := by decide +kernel
theorem dX2_addYear_34 : decode bX2_addYear 34 = .ok (.iconst 1, 1) ∧ 34 + 1 = 35 := by decide +kernel
theorem dX2_addYear_35 : decode bX2_addYear 35 = .ok (.iadd, 1) ∧ 35 + 1 = 36 := by decide +kernel
theorem dX2_addYear_36 : decode bX2_addYear 36 = .ok (.putfield 13, 3) ∧ 36 + 3 = 39 := by decide +kernel
theorem dX2_addYear_39 : decode bX2_addYear 39 = .ok (.aload_n 0, 1) ∧ 39 + 1 = 40 := by decide +kernel
theorem dX2_addYear_40 : decode bX2_addYear 40 = .ok (.getfield 13, 3) ∧ 40 + 3 = 43 := by decide +kernel
theorem dX2_addYear_43 : decode bX2_addYear 43 = .ok (.ireturn, 1) := by decide +kernel
theorem dX2_addBook_0 : decode bX2_addBook 0 = .ok (.aload_n 0, 1) ∧ 0 + 1 = 1 := by decide +kernel
theorem dX2_addBook_1 : decode bX2_addBook 1 = .ok (.getfield 16, 3) ∧ 1 + 3 = 4 := by decide +kernel
theorem dX2_addBook_4 : decode bX2_addBook 4 = .ok (.bipush 8, 2) ∧ 4 + 2 = 6 := by decide +kernel
theorem dX2_addBook_6 : decode bX2_addBook 6 = .ok (.if_icmp .ge 33, 3) ∧ 6 + 3 = 9 ∧ ((6 : Nat) : Int) + (33) = ((39 : Nat) : Int) := by decide +kernel
theorem dX2_addBook_9 : decode bX2_addBook 9 = .ok (.aload_n 0, 1) ∧ 9 + 1 = 10 := by decide +kernel
theorem dX2_addBook_10 : decode bX2_addBook 10 = .ok (.getfield 32, 3) ∧ 10 + 3 = 13 := by decide +kernel
theorem dX2_addBook_13 : decode bX2_addBook 13 = .ok (.aload_n 0, 1) ∧ 13 + 1 = 14 := by decide +kernel
theorem dX2_addBook_14 : decode bX2_addBook 14 = .ok (.getfield 16, 3) ∧ 14 + 3 = 17 := by decide +kernel
theorem dX2_addBook_17 : decode bX2_addBook 17 = .ok (.iload_n 1, 1) ∧ 17 + 1 = 18 := by decide +kernel
theorem dX2_addBook_18 : decode bX2_addBook 18 = .ok (.iastore, 1) ∧ 18 + 1 = 19 := by decide +kernel
theorem dX2_addBook_19 : decode bX2_addBook 19 = .ok (.aload_n 0, 1) ∧ 19 + 1 = 20 := by decide +kernel
theorem dX2_addBook_20 : decode bX2_addBook 20 = .ok (.getfield 35, 3) ∧ 20 + 3 = 23 := by decide +kernel
theorem dX2_addBook_23 : decode bX2_addBook 23 = .ok (.aload_n 0, 1) ∧ 23 + 1 = 24 := by decide +kernel
theorem dX2_addBook_24 : decode bX2_addBook 24 = .ok (.getfield 16, 3) ∧ 24 + 3 = 27 := by decide +kernel
theorem dX2_addBook_27 : decode bX2_addBook 27 = .ok (.iload_n 2, 1) ∧ 27 + 1 = 28 := by decide +kernel
theorem dX2_addBook_28 : decode bX2_addBook 28 = .ok (.iastore, 1) ∧ 28 + 1 = 29 := by decide +kernel
theorem dX2_addBook_29 : decode bX2_addBook 29 = .ok (.aload_n 0, 1) ∧ 29 + 1 = 30 := by decide +kernel
theorem dX2_addBook_30 : decode bX2_addBook 30 = .ok (.dup, 1) ∧ 30 + 1 = 31 := by decide +kernel
theorem dX2_addBook_31 : decode bX2_addBook 31 = .ok (.getfield 16, 3) ∧ 31 + 3 = 34 := by decide +kernel
theorem dX2_addBook_34 : decode bX2_addBook 34 = .ok (.iconst 1, 1) ∧ 34 + 1 = 35 := by decide +kernel
theorem dX2_addBook_35 : decode bX2_addBook 35 = .ok (.iadd, 1) ∧ 35 + 1 = 36 := by decide +kernel
theorem dX2_addBook_36 : decode bX2_addBook 36 = .ok (.putfield 16, 3) ∧ 36 + 3 = 39 := by decide +kernel
theorem dX2_addBook_39 : decode bX2_addBook 39 = .ok (.aload_n 0, 1) ∧ 39 + 1 = 40 := by decide +kernel
theorem dX2_addBook_40 : decode bX2_addBook 40 = .ok (.getfield 16, 3) ∧ 40 + 3 = 43 := by decide +kernel
theorem dX2_addBook_43 : decode bX2_addBook 43 = .ok (.ireturn, 1) := by decide +kernel
theorem dX2_farthestSeen_0 : decode bX2_farthestSeen 0 = .ok (.iconst (-1), 1) ∧ 0 + 1 = 1 := by decide +kernel
theorem dX2_farthestSeen_1 : decode bX2_farthestSeen 1 = .ok (.istore_n 1, 1) ∧ 1 + 1 = 2 := by decide +kernel
theorem dX2_farthestSeen_2 : decode bX2_farthestSeen 2 = .ok (.iconst 0, 1) ∧ 2 + 1 = 3 := by decide +kernel
theorem dX2_farthestSeen_3 : decode bX2_farthestSeen 3 = .ok (.istore_n 2, 1) ∧ 3 + 1 = 4 := by decide +kernel
theorem dX2_farthestSeen_4 : decode bX2_farthestSeen 4 = .ok (.iload_n 2, 1) ∧ 4 + 1 = 5 := by decide +kernel
theorem dX2_farthestSeen_5 : decode bX2_farthestSeen 5 = .ok (.aload_n 0, 1) ∧ 5 + 1 = 6 := by decide +kernel
theorem dX2_farthestSeen_6 : decode bX2_farthestSeen 6 = .ok (.getfield 7, 3) ∧ 6 + 3 = 9 := by decide +kernel
theorem dX2_farthestSeen_9 : decode bX2_farthestSeen 9 = .ok (.if_icmp .ge 20, 3) ∧ 9 + 3 = 12 ∧ ((9 : Nat) : Int) + (20) = ((29 : Nat) : Int) := by decide +kernel
theorem dX2_farthestSeen_12 : decode bX2_farthestSeen 12 = .ok (.iload_n 1, 1) ∧ 12 + 1 = 13 := by decide +kernel
theorem dX2_farthestSeen_13 : decode bX2_farthestSeen 13 = .ok (.aload_n 0, 1) ∧ 13 + 1 = 14 := by decide +kernel
theorem dX2_farthestSeen_14 : decode bX2_farthestSeen 14 = .ok (.getfield 23, 3) ∧ 14 + 3 = 17 := by decide +kernel
theorem dX2_farthestSeen_17 : decode bX2_farthestSeen 17 = .ok (.iload_n 2, 1) ∧ 17 + 1 = 18 := by decide +kernel
theorem dX2_farthestSeen_18 : decode bX2_farthestSeen 18 = .ok (.iaload, 1) ∧ 18 + 1 = 19 := by decide +kernel
theorem dX2_farthestSeen_19 : decode bX2_farthestSeen 19 = .ok (.invokestatic 44, 3) ∧ 19 + 3 = 22 := by decide +kernel
theorem dX2_farthestSeen_22 : decode bX2_farthestSeen 22 = .ok (.istore_n 1, 1) ∧ 22 + 1 = 23 := by decide +kernel
theorem dX2_farthestSeen_23 : decode bX2_farthestSeen 23 = .ok (.iinc 2 1, 3) ∧ 23 + 3 = 26 := by decide +kernel
theorem dX2_farthestSeen_26 : decode bX2_farthestSeen 26 = .ok (.goto (-22), 3) ∧ ((26 : Nat) : Int) + (-22) = ((4 : Nat) : Int) := by decide +kernel
theorem dX2_farthestSeen_29 : decode bX2_farthestSeen 29 = .ok (.iload_n 1, 1) ∧ 29 + 1 = 30 := by decide +kernel
theorem dX2_farthestSeen_30 : decode bX2_farthestSeen 30 = .ok (.ireturn, 1) := by decide +kernel
theorem dX2_seenFits_0 : decode bX2_seenFits 0 = .ok (.iconst 0, 1) ∧ 0 + 1 = 1 := by decide +kernel
theorem dX2_seenFits_1 : decode bX2_seenFits 1 = .ok (.istore_n 3, 1) ∧ 1 + 1 = 2 := by decide +kernel
theorem dX2_seenFits_2 : decode bX2_seenFits 2 = .ok (.iload_n 3, 1) ∧ 2 + 1 = 3 := by decide +kernel
theorem dX2_seenFits_3 : decode bX2_seenFits 3 = .ok (.aload_n 0, 1) ∧ 3 + 1 = 4 := by decide +kernel
theorem dX2_seenFits_4 : decode bX2_seenFits 4 = .ok (.getfield 7, 3) ∧ 4 + 3 = 7 := by decide +kernel
theorem dX2_seenFits_7 : decode bX2_seenFits 7 = .ok (.if_icmp .ge 31, 3) ∧ 7 + 3 = 10 ∧ ((7 : Nat) : Int) + (31) = ((38 : Nat) : Int) := by decide +kernel
theorem dX2_seenFits_10 : decode bX2_seenFits 10 = .ok (.aload_n 0, 1) ∧ 10 + 1 = 11 := by decide +kernel
theorem dX2_seenFits_11 : decode bX2_seenFits 11 = .ok (.getfield 23, 3) ∧ 11 + 3 = 14 := by decide +kernel
theorem dX2_seenFits_14 : decode bX2_seenFits 14 = .ok (.iload_n 3, 1) ∧ 14 + 1 = 15 := by decide +kernel
theorem dX2_seenFits_15 : decode bX2_seenFits 15 = .ok (.iaload, 1) ∧ 15 + 1 = 16 := by decide +kernel
theorem dX2_seenFits_16 : decode bX2_seenFits 16 = .ok (.iload_n 1, 1) ∧ 16 + 1 = 17 := by decide +kernel
theorem dX2_seenFits_17 : decode bX2_seenFits 17 = .ok (.if_icmp .ne 15, 3) ∧ 17 + 3 = 20 ∧ ((17 : Nat) : Int) + (15) = ((32 : Nat) : Int) := by decide +kernel
theorem dX2_seenFits_20 : decode bX2_seenFits 20 = .ok (.aload_n 0, 1) ∧ 20 + 1 = 21 := by decide +kernel
theorem dX2_seenFits_21 : decode bX2_seenFits 21 = .ok (.getfield 19, 3) ∧ 21 + 3 = 24 := by decide +kernel
theorem dX2_seenFits_24 : decode bX2_seenFits 24 = .ok (.iload_n 3, 1) ∧ 24 + 1 = 25 := by decide +kernel
theorem dX2_seenFits_25 : decode bX2_seenFits 25 = .ok (.iaload, 1) ∧ 25 + 1 = 26 := by decide +kernel
theorem dX2_seenFits_26 : decode bX2_seenFits 26 = .ok (.iload_n 2, 1) ∧ 26 + 1 = 27 := by decide +kernel
theorem dX2_seenFits_27 : decode bX2_seenFits 27 = .ok (.if_icmp .eq 5, 3) ∧ 27 + 3 = 30 ∧ ((27 : Nat) : Int) + (5) = ((32 : Nat) : Int) := by decide +kernel
theorem dX2_seenFits_30 : decode bX2_seenFits 30 = .ok (.iconst 0, 1) ∧ 30 + 1 = 31 := by decide +kernel
theorem dX2_seenFits_31 : decode bX2_seenFits 31 = .ok (.ireturn, 1) := by decide +kernel
theorem dX2_seenFits_32 : decode bX2_seenFits 32 = .ok (.iinc 3 1, 3) ∧ 32 + 3 = 35 := by decide +kernel
theorem dX2_seenFits_35 : decode bX2_seenFits 35 = .ok (.goto (-33), 3) ∧ ((35 : Nat) : Int) + (-33) = ((2 : Nat) : Int) := by decide +kernel
theorem dX2_seenFits_38 : decode bX2_seenFits 38 = .ok (.iconst 1, 1) ∧ 38 + 1 = 39 := by decide +kernel
theorem dX2_seenFits_39 : decode bX2_seenFits 39 = .ok (.ireturn, 1) := by decide +kernel
theorem dX3_take_0 : decode bX3_take 0 = .ok (.aload_n 0, 1) ∧ 0 + 1 = 1 := by decide +kernel
theorem dX3_take_1 : decode bX3_take 1 = .ok (.getfield 7, 3) ∧ 1 + 3 = 4 := by decide +kernel
theorem dX3_take_4 : decode bX3_take 4 = .ok (.bipush 100, 2) ∧ 4 + 2 = 6 := by decide +kernel
theorem dX3_take_6 : decode bX3_take 6 = .ok (.if_icmp .ge 23, 3) ∧ 6 + 3 = 9 ∧ ((6 : Nat) : Int) + (23) = ((29 : Nat) : Int) := by decide +kernel
theorem dX3_take_9 : decode bX3_take 9 = .ok (.aload_n 0, 1) ∧ 9 + 1 = 10 := by decide +kernel
theorem dX3_take_10 : decode bX3_take 10 = .ok (.getfield 20, 3) ∧ 10 + 3 = 13 := by decide +kernel
theorem dX3_take_13 : decode bX3_take 13 = .ok (.aload_n 0, 1) ∧ 13 + 1 = 14 := by decide +kernel
theorem dX3_take_14 : decode bX3_take 14 = .ok (.getfield 7, 3) ∧ 14 + 3 = 17 := by decide +kernel
theorem dX3_take_17 : decode bX3_take 17 = .ok (.iload_n 1, 1) ∧ 17 + 1 = 18 := by decide +kernel
theorem dX3_take_18 : decode bX3_take 18 = .ok (.iastore, 1) ∧ 18 + 1 = 19 := by decide +kernel
theorem dX3_take_19 : decode bX3_take 19 = .ok (.aload_n 0, 1) ∧ 19 + 1 = 20 := by decide +kernel
theorem dX3_take_20 : decode bX3_take 20 = .ok (.dup, 1) ∧ 20 + 1 = 21 := by decide +kernel
theorem dX3_take_21 : decode bX3_take 21 = .ok (.getfield 7, 3) ∧ 21 + 3 = 24 := by decide +kernel
theorem dX3_take_24 : decode bX3_take 24 = .ok (.iconst 1, 1) ∧ 24 + 1 = 25 := by decide +kernel
theorem dX3_take_25 : decode bX3_take 25 = .ok (.iadd, 1) ∧ 25 + 1 = 26 := by decide +kernel
theorem dX3_take_26 : decode bX3_take 26 = .ok (.putfield 7, 3) ∧ 26 + 3 = 29 := by decide +kernel
theorem dX3_take_29 : decode bX3_take 29 = .ok (.return_, 1) := by decide +kernel
theorem dX3_readInto_0 : decode bX3_readInto 0 = .ok (.aload_n 0, 1) ∧ 0 + 1 = 1 := by decide +kernel
theorem dX3_readInto_1 : decode bX3_readInto 1 = .ok (.aload_n 1, 1) ∧ 1 + 1 = 2 := by decide +kernel
theorem dX3_readInto_2 : decode bX3_readInto 2 = .ok (.putfield 27, 3) ∧ 2 + 3 = 5 := by decide +kernel
theorem dX3_readInto_5 : decode bX3_readInto 5 = .ok (.aload_n 0, 1) ∧ 5 + 1 = 6 := by decide +kernel
theorem dX3_readInto_6 : decode bX3_readInto 6 = .ok (.getfield 27, 3) ∧ 6 + 3 = 9 := by decide +kernel
theorem dX3_readInto_9 : decode bX3_readInto 9 = .ok (.invokevirtual 31, 3) ∧ 9 + 3 = 12 := by decide +kernel
theorem dX3_readInto_12 : decode bX3_readInto 12 = .ok (.aload_n 0, 1) ∧ 12 + 1 = 13 := by decide +kernel
theorem dX3_readInto_13 : decode bX3_readInto 13 = .ok (.iconst 0, 1) ∧ 13 + 1 = 14 := by decide +kernel
theorem dX3_readInto_14 : decode bX3_readInto 14 = .ok (.putfield 13, 3) ∧ 14 + 3 = 17 := by decide +kernel
theorem dX3_readInto_17 : decode bX3_readInto 17 = .ok (.aload_n 0, 1) ∧ 17 + 1 = 18 := by decide +kernel
theorem dX3_readInto_18 : decode bX3_readInto 18 = .ok (.iconst 0, 1) ∧ 18 + 1 = 19 := by decide +kernel
theorem dX3_readInto_19 : decode bX3_readInto 19 = .ok (.putfield 16, 3) ∧ 19 + 3 = 22 := by decide +kernel
theorem dX3_readInto_22 : decode bX3_readInto 22 = .ok (.aload_n 0, 1) ∧ 22 + 1 = 23 := by decide +kernel
theorem dX3_readInto_23 : decode bX3_readInto 23 = .ok (.invokevirtual 34, 3) ∧ 23 + 3 = 26 := by decide +kernel
theorem dX3_readInto_26 : decode bX3_readInto 26 = .ok (.iconst 1, 1) ∧ 26 + 1 = 27 := by decide +kernel
theorem dX3_readInto_27 : decode bX3_readInto 27 = .ok (.istore_n 2, 1) ∧ 27 + 1 = 28 := by decide +kernel
theorem dX3_readInto_28 : decode bX3_readInto 28 = .ok (.iload_n 2, 1) ∧ 28 + 1 = 29 := by decide +kernel
theorem dX3_readInto_29 : decode bX3_readInto 29 = .ok (.bipush 10, 2) ∧ 29 + 2 = 31 := by decide +kernel
theorem dX3_readInto_31 : decode bX3_readInto 31 = .ok (.if_icmp .ge 39, 3) ∧ 31 + 3 = 34 ∧ ((31 : Nat) : Int) + (39) = ((70 : Nat) : Int) := by decide +kernel
theorem dX3_readInto_34 : decode bX3_readInto 34 = .ok (.aload_n 0, 1) ∧ 34 + 1 = 35 := by decide +kernel
theorem dX3_readInto_35 : decode bX3_readInto 35 = .ok (.getfield 16, 3) ∧ 35 + 3 = 38 := by decide +kernel
theorem dX3_readInto_38 : decode bX3_readInto 38 = .ok (.ifCond .ne 32, 3) ∧ 38 + 3 = 41 ∧ ((38 : Nat) : Int) + (32) = ((70 : Nat) : Int) := by decide +kernel
theorem dX3_readInto_41 : decode bX3_readInto 41 = .ok (.aload_n 0, 1) ∧ 41 + 1 = 42 := by decide +kernel
theorem dX3_readInto_42 : decode bX3_readInto 42 = .ok (.invokevirtual 37, 3) ∧ 42 + 3 = 45 := by decide +kernel
theorem dX3_readInto_45 : decode bX3_readInto 45 = .ok (.bipush 59, 2) ∧ 45 + 2 = 47 := by decide +kernel
theorem dX3_readInto_47 : decode bX3_readInto 47 = .ok (.if_icmp .ne 23, 3) ∧ 47 + 3 = 50 ∧ ((47 : Nat) : Int) + (23) = ((70 : Nat) : Int) := by decide +kernel
theorem dX3_readInto_50 : decode bX3_readInto 50 = .ok (.aload_n 0, 1) ∧ 50 + 1 = 51 := by decide +kernel
theorem dX3_readInto_51 : decode bX3_readInto 51 = .ok (.dup, 1) ∧ 51 + 1 = 52 := by decide +kernel
theorem dX3_readInto_52 : decode bX3_readInto 52 = .ok (.getfield 13, 3) ∧ 52 + 3 = 55 := by decide +kernel
theorem dX3_readInto_55 : decode bX3_readInto 55 = .ok (.iconst 1, 1) ∧ 55 + 1 = 56 := by decide +kernel
theorem dX3_readInto_56 : decode bX3_readInto 56 = .ok (.iadd, 1) ∧ 56 + 1 = 57 := by decide +kernel
theorem dX3_readInto_57 : decode bX3_readInto 57 = .ok (.putfield 13, 3) ∧ 57 + 3 = 60 := by decide +kernel
theorem dX3_readInto_60 : decode bX3_readInto 60 = .ok (.aload_n 0, 1) ∧ 60 + 1 = 61 := by decide +kernel
theorem dX3_readInto_61 : decode bX3_readInto 61 = .ok (.invokevirtual 34, 3) ∧ 61 + 3 = 64 := by decide +kernel
theorem dX3_readInto_64 : decode bX3_readInto 64 = .ok (.iinc 2 1, 3) ∧ 64 + 3 = 67 := by decide +kernel
theorem dX3_readInto_67 : decode bX3_readInto 67 = .ok (.goto (-39), 3) ∧ ((67 : Nat) : Int) + (-39) = ((28 : Nat) : Int) := by decide +kernel
theorem dX3_readInto_70 : decode bX3_readInto 70 = .ok (.aload_n 0, 1) ∧ 70 + 1 = 71 := by decide +kernel
theorem dX3_readInto_71 : decode bX3_readInto 71 = .ok (.getfield 16, 3) ∧ 71 + 3 = 74 := by decide +kernel
theorem dX3_readInto_74 : decode bX3_readInto 74 = .ok (.ifCond .ne 14, 3) ∧ 74 + 3 = 77 ∧ ((74 : Nat) : Int) + (14) = ((88 : Nat) : Int) := by decide +kernel
theorem dX3_readInto_77 : decode bX3_readInto 77 = .ok (.aload_n 0, 1) ∧ 77 + 1 = 78 := by decide +kernel
theorem dX3_readInto_78 : decode bX3_readInto 78 = .ok (.getfield 13, 3) ∧ 78 + 3 = 81 := by decide +kernel
theorem dX3_readInto_81 : decode bX3_readInto 81 = .ok (.aload_n 0, 1) ∧ 81 + 1 = 82 := by decide +kernel
theorem dX3_readInto_82 : decode bX3_readInto 82 = .ok (.getfield 7, 3) ∧ 82 + 3 = 85 := by decide +kernel
theorem dX3_readInto_85 : decode bX3_readInto 85 = .ok (.if_icmp .ge 10, 3) ∧ 85 + 3 = 88 ∧ ((85 : Nat) : Int) + (10) = ((95 : Nat) : Int) := by decide +kernel
theorem dX3_readInto_88 : decode bX3_readInto 88 = .ok (.aload_n 0, 1) ∧ 88 + 1 = 89 := by decide +kernel
theorem dX3_readInto_89 : decode bX3_readInto 89 = .ok (.getfield 13, 3) ∧ 89 + 3 = 92 := by decide +kernel
theorem dX3_readInto_92 : decode bX3_readInto 92 = .ok (.goto 4, 3) ∧ ((92 : Nat) : Int) + (4) = ((96 : Nat) : Int) := by decide +kernel
theorem dX3_readInto_95 : decode bX3_readInto 95 = .ok (.iconst (-1), 1) ∧ 95 + 1 = 96 := by decide +kernel
theorem dX3_readInto_96 : decode bX3_readInto 96 = .ok (.ireturn, 1) := by decide +kernel
theorem dX3_sign_0 : decode bX3_sign 0 = .ok (.aload_n 0, 1) ∧ 0 + 1 = 1 := by decide +kernel
theorem dX3_sign_1 : decode bX3_sign 1 = .ok (.getfield 13, 3) ∧ 1 + 3 = 4 := by decide +kernel
theorem dX3_sign_4 : decode bX3_sign 4 = .ok (.aload_n 0, 1) ∧ 4 + 1 = 5 := by decide +kernel
theorem dX3_sign_5 : decode bX3_sign 5 = .ok (.getfield 7, 3) ∧ 5 + 3 = 8 := by decide +kernel
theorem dX3_sign_8 : decode bX3_sign 8 = .ok (.if_icmp .ge 24, 3) ∧ 8 + 3 = 11 ∧ ((8 : Nat) : Int) + (24) = ((32 : Nat) : Int) := by decide +kernel
theorem dX3_sign_11 : decode bX3_sign 11 = .ok (.aload_n 0, 1) ∧ 11 + 1 = 12 := by decide +kernel
theorem dX3_sign_12 : decode bX3_sign 12 = .ok (.getfield 13, 3) ∧ 12 + 3 = 15 := by decide +kernel
theorem dX3_sign_15 : decode bX3_sign 15 = .ok (.bipush 100, 2) ∧ 15 + 2 = 17 := by decide +kernel
theorem dX3_sign_17 : decode bX3_sign 17 = .ok (.if_icmp .ge 15, 3) ∧ 17 + 3 = 20 ∧ ((17 : Nat) : Int) + (15) = ((32 : Nat) : Int) := by decide +kernel
theorem dX3_sign_20 : decode bX3_sign 20 = .ok (.aload_n 0, 1) ∧ 20 + 1 = 21 := by decide +kernel
theorem dX3_sign_21 : decode bX3_sign 21 = .ok (.getfield 20, 3) ∧ 21 + 3 = 24 := by decide +kernel
theorem dX3_sign_24 : decode bX3_sign 24 = .ok (.aload_n 0, 1) ∧ 24 + 1 = 25 := by decide +kernel
theorem dX3_sign_25 : decode bX3_sign 25 = .ok (.getfield 13, 3) ∧ 25 + 3 = 28 := by decide +kernel
theorem dX3_sign_28 : decode bX3_sign 28 = .ok (.iaload, 1) ∧ 28 + 1 = 29 := by decide +kernel
theorem dX3_sign_29 : decode bX3_sign 29 = .ok (.goto 4, 3) ∧ ((29 : Nat) : Int) + (4) = ((33 : Nat) : Int) := by decide +kernel
theorem dX3_sign_32 : decode bX3_sign 32 = .ok (.iconst (-1), 1) ∧ 32 + 1 = 33 := by decide +kernel
theorem dX3_sign_33 : decode bX3_sign 33 = .ok (.ireturn, 1) := by decide +kernel
theorem dX3_expect_0 : decode bX3_expect 0 = .ok (.aload_n 0, 1) ∧ 0 + 1 = 1 := by decide +kernel
theorem dX3_expect_1 : decode bX3_expect 1 = .ok (.getfield 16, 3) ∧ 1 + 3 = 4 := by decide +kernel
theorem dX3_expect_4 : decode bX3_expect 4 = .ok (.ifCond .ne 11, 3) ∧ 4 + 3 = 7 ∧ ((4 : Nat) : Int) + (11) = ((15 : Nat) : Int) := by decide +kernel
theorem dX3_expect_7 : decode bX3_expect 7 = .ok (.aload_n 0, 1) ∧ 7 + 1 = 8 := by decide +kernel
theorem dX3_expect_8 : decode bX3_expect 8 = .ok (.invokevirtual 37, 3) ∧ 8 + 3 = 11 := by decide +kernel
theorem dX3_expect_11 : decode bX3_expect 11 = .ok (.iload_n 1, 1) ∧ 11 + 1 = 12 := by decide +kernel
theorem dX3_expect_12 : decode bX3_expect 12 = .ok (.if_icmp .eq 11, 3) ∧ 12 + 3 = 15 ∧ ((12 : Nat) : Int) + (11) = ((23 : Nat) : Int) := by decide +kernel
theorem dX3_expect_15 : decode bX3_expect 15 = .ok (.aload_n 0, 1) ∧ 15 + 1 = 16 := by decide +kernel
theorem dX3_expect_16 : decode bX3_expect 16 = .ok (.iconst 1, 1) ∧ 16 + 1 = 17 := by decide +kernel
theorem dX3_expect_17 : decode bX3_expect 17 = .ok (.putfield 16, 3) ∧ 17 + 3 = 20 := by decide +kernel
theorem dX3_expect_20 : decode bX3_expect 20 = .ok (.goto 13, 3) ∧ ((20 : Nat) : Int) + (13) = ((33 : Nat) : Int) := by decide +kernel
theorem dX3_expect_23 : decode bX3_expect 23 = .ok (.aload_n 0, 1) ∧ 23 + 1 = 24 := by decide +kernel
theorem dX3_expect_24 : decode bX3_expect 24 = .ok (.dup, 1) ∧ 24 + 1 = 25 := by decide +kernel
theorem dX3_expect_25 : decode bX3_expect 25 = .ok (.getfield 13, 3) ∧ 25 + 3 = 28 := by decide +kernel
theorem dX3_expect_28 : decode bX3_expect 28 = .ok (.iconst 1, 1) ∧ 28 + 1 = 29 := by decide +kernel
theorem dX3_expect_29 : decode bX3_expect 29 = .ok (.iadd, 1) ∧ 29 + 1 = 30 := by decide +kernel
theorem dX3_expect_30 : decode bX3_expect 30 = .ok (.putfield 13, 3) ∧ 30 + 3 = 33 := by decide +kernel
theorem dX3_expect_33 : decode bX3_expect 33 = .ok (.return_, 1) := by decide +kernel
theorem dX3_expectWord_0 : decode bX3_expectWord 0 = .ok (.iconst 0, 1) ∧ 0 + 1 = 1 := by decide +kernel
theorem dX3_expectWord_1 : decode bX3_expectWord 1 = .ok (.istore_n 2, 1) ∧ 1 + 1 = 2 := by decide +kernel
theorem dX3_expectWord_2 : decode bX3_expectWord 2 = .ok (.iload_n 2, 1) ∧ 2 + 1 = 3 := by decide +kernel
theorem dX3_expectWord_3 : decode bX3_expectWord 3 = .ok (.aload_n 1, 1) ∧ 3 + 1 = 4 := by decide +kernel
theorem dX3_expectWord_4 : decode bX3_expectWord 4 = .ok (.invokevirtual 41, 3) ∧ 4 + 3 = 7 := by decide +kernel
theorem dX3_expectWord_7 : decode bX3_expectWord 7 = .ok (.if_icmp .ge 18, 3) ∧ 7 + 3 = 10 ∧ ((7 : Nat) : Int) + (18) = ((25 : Nat) : Int) := by decide +kernel
theorem dX3_expectWord_10 : decode bX3_expectWord 10 = .ok (.aload_n 0, 1) ∧ 10 + 1 = 11 := by decide +kernel
theorem dX3_expectWord_11 : decode bX3_expectWord 11 = .ok (.aload_n 1, 1) ∧ 11 + 1 = 12 := by decide +kernel
theorem dX3_expectWord_12 : decode bX3_expectWord 12 = .ok (.iload_n 2, 1) ∧ 12 + 1 = 13 := by decide +kernel
theorem dX3_expectWord_13 : decode bX3_expectWord 13 = .ok (.invokevirtual 45, 3) ∧ 13 + 3 = 16 := by decide +kernel
theorem dX3_expectWord_16 : decode bX3_expectWord 16 = .ok (.invokevirtual 49, 3) ∧ 16 + 3 = 19 := by decide +kernel
theorem dX3_expectWord_19 : decode bX3_expectWord 19 = .ok (.iinc 2 1, 3) ∧ 19 + 3 = 22 := by decide +kernel
theorem dX3_expectWord_22 : decode bX3_expectWord 22 = .ok (.goto (-20), 3) ∧ ((22 : Nat) : Int) + (-20) = ((2 : Nat) : Int) := by decide +kernel
theorem dX3_expectWord_25 : decode bX3_expectWord 25 = .ok (.return_, 1) := by decide +kernel
theorem dX3_readClause_0 : decode bX3_readClause 0 = .ok (.aload_n 0, 1) ∧ 0 + 1 = 1 := by decide +kernel
theorem dX3_readClause_1 : decode bX3_readClause 1 = .ok (.invokevirtual 37, 3) ∧ 1 + 3 = 4 := by decide +kernel
theorem dX3_readClause_4 : decode bX3_readClause 4 = .ok (.istore_n 1, 1) ∧ 4 + 1 = 5 := by decide +kernel
theorem dX3_readClause_5 : decode bX3_readClause 5 = .ok (.aload_n 0, 1) ∧ 5 + 1 = 6 := by decide +kernel
theorem dX3_readClause_6 : decode bX3_readClause 6 = .ok (.iload_n 1, 1) ∧ 6 + 1 = 7 := by decide +kernel
theorem dX3_readClause_7 : decode bX3_readClause 7 = .ok (.invokestatic 53, 3) ∧ 7 + 3 = 10 := by decide +kernel
theorem dX3_readClause_10 : decode bX3_readClause 10 = .ok (.invokevirtual 57, 3) ∧ 10 + 3 = 13 := by decide +kernel
theorem dX3_readClause_13 : decode bX3_readClause 13 = .ok (.aload_n 0, 1) ∧ 13 + 1 = 14 := by decide +kernel
theorem dX3_readClause_14 : decode bX3_readClause 14 = .ok (.invokevirtual 61, 3) ∧ 14 + 3 = 17 := by decide +kernel
theorem dX3_readClause_17 : decode bX3_readClause 17 = .ok (.istore_n 2, 1) ∧ 17 + 1 = 18 := by decide +kernel
theorem dX3_readClause_18 : decode bX3_readClause 18 = .ok (.iload_n 1, 1) ∧ 18 + 1 = 19 := by decide +kernel
theorem dX3_readClause_19 : decode bX3_readClause 19 = .ok (.lookupswitch 66 #[(102, 55), (109, 33), (115, 44)], 33) := by decide +kernel
theorem dX3_readClause_52 : decode bX3_readClause 52 = .ok (.aload_n 0, 1) ∧ 52 + 1 = 53 := by decide +kernel
theorem dX3_readClause_53 : decode bX3_readClause 53 = .ok (.getfield 27, 3) ∧ 53 + 3 = 56 := by decide +kernel
theorem dX3_readClause_56 : decode bX3_readClause 56 = .ok (.iload_n 2, 1) ∧ 56 + 1 = 57 := by decide +kernel
theorem dX3_readClause_57 : decode bX3_readClause 57 = .ok (.putfield 64, 3) ∧ 57 + 3 = 60 := by decide +kernel
theorem dX3_readClause_60 : decode bX3_readClause 60 = .ok (.goto 55, 3) ∧ ((60 : Nat) : Int) + (55) = ((115 : Nat) : Int) := by decide +kernel
theorem dX3_readClause_63 : decode bX3_readClause 63 = .ok (.aload_n 0, 1) ∧ 63 + 1 = 64 := by decide +kernel
theorem dX3_readClause_64 : decode bX3_readClause 64 = .ok (.getfield 27, 3) ∧ 64 + 3 = 67 := by decide +kernel
theorem dX3_readClause_67 : decode bX3_readClause 67 = .ok (.iload_n 2, 1) ∧ 67 + 1 = 68 := by decide +kernel
theorem dX3_readClause_68 : decode bX3_readClause 68 = .ok (.putfield 67, 3) ∧ 68 + 3 = 71 := by decide +kernel
theorem dX3_readClause_71 : decode bX3_readClause 71 = .ok (.goto 44, 3) ∧ ((71 : Nat) : Int) + (44) = ((115 : Nat) : Int) := by decide +kernel
theorem dX3_readClause_74 : decode bX3_readClause 74 = .ok (.aload_n 0, 1) ∧ 74 + 1 = 75 := by decide +kernel
theorem dX3_readClause_75 : decode bX3_readClause 75 = .ok (.getfield 27, 3) ∧ 75 + 3 = 78 := by decide +kernel
theorem dX3_readClause_78 : decode bX3_readClause 78 = .ok (.iload_n 2, 1) ∧ 78 + 1 = 79 := by decide +kernel
theorem dX3_readClause_79 : decode bX3_readClause 79 = .ok (.putfield 70, 3) ∧ 79 + 3 = 82 := by decide +kernel
theorem dX3_readClause_82 : decode bX3_readClause 82 = .ok (.goto 33, 3) ∧ ((82 : Nat) : Int) + (33) = ((115 : Nat) : Int) := by decide +kernel
theorem dX3_readClause_85 : decode bX3_readClause 85 = .ok (.aload_n 0, 1) ∧ 85 + 1 = 86 := by decide +kernel
theorem dX3_readClause_86 : decode bX3_readClause 86 = .ok (.bipush 32, 2) ∧ 86 + 2 = 88 := by decide +kernel
theorem dX3_readClause_88 : decode bX3_readClause 88 = .ok (.invokevirtual 49, 3) ∧ 88 + 3 = 91 := by decide +kernel
theorem dX3_readClause_91 : decode bX3_readClause 91 = .ok (.aload_n 0, 1) ∧ 91 + 1 = 92 := by decide +kernel
theorem dX3_readClause_92 : decode bX3_readClause 92 = .ok (.iconst 0, 1) ∧ 92 + 1 = 93 := by decide +kernel
theorem dX3_readClause_93 : decode bX3_readClause 93 = .ok (.invokevirtual 73, 3) ∧ 93 + 3 = 96 := by decide +kernel
theorem dX3_readClause_96 : decode bX3_readClause 96 = .ok (.aload_n 0, 1) ∧ 96 + 1 = 97 := by decide +kernel
theorem dX3_readClause_97 : decode bX3_readClause 97 = .ok (.getfield 27, 3) ∧ 97 + 3 = 100 := by decide +kernel
theorem dX3_readClause_100 : decode bX3_readClause 100 = .ok (.iload_n 1, 1) ∧ 100 + 1 = 101 := by decide +kernel
theorem dX3_readClause_101 : decode bX3_readClause 101 = .ok (.bipush 100, 2) ∧ 101 + 2 = 103 := by decide +kernel
theorem dX3_readClause_103 : decode bX3_readClause 103 = .ok (.if_icmp .ne 7, 3) ∧ 103 + 3 = 106 ∧ ((103 : Nat) : Int) + (7) = ((110 : Nat) : Int) := by decide +kernel
theorem dX3_readClause_106 : decode bX3_readClause 106 = .ok (.iload_n 2, 1) ∧ 106 + 1 = 107 := by decide +kernel
theorem dX3_readClause_107 : decode bX3_readClause 107 = .ok (.goto 5, 3) ∧ ((107 : Nat) : Int) + (5) = ((112 : Nat) : Int) := by decide +kernel
theorem dX3_readClause_110 : decode bX3_readClause 110 = .ok (.iload_n 2, 1) ∧ 110 + 1 = 111 := by decide +kernel
theorem dX3_readClause_111 : decode bX3_readClause 111 = .ok (.ineg, 1) ∧ 111 + 1 = 112 := by decide +kernel
theorem dX3_readClause_112 : decode bX3_readClause 112 = .ok (.invokevirtual 76, 3) ∧ 112 + 3 = 115 := by decide +kernel
theorem dX3_readClause_115 : decode bX3_readClause 115 = .ok (.return_, 1) := by decide +kernel
theorem dX3_wordOf_0 : decode bX3_wordOf 0 = .ok (.iload_n 0, 1) ∧ 0 + 1 = 1 := by decide +kernel
theorem dX3_wordOf_1 : decode bX3_wordOf 1 = .ok (.lookupswitch 55 #[(99, 43), (102, 52), (109, 46), (115, 49)], 43) := by decide +kernel
theorem dX3_wordOf_44 : decode bX3_wordOf 44 = .ok (.ldc 79, 2) ∧ 44 + 2 = 46 := by decide +kernel
theorem dX3_wordOf_46 : decode bX3_wordOf 46 = .ok (.areturn, 1) := by decide +kernel
theorem dX3_wordOf_47 : decode bX3_wordOf 47 = .ok (.ldc 81, 2) ∧ 47 + 2 = 49 := by decide +kernel
theorem dX3_wordOf_49 : decode bX3_wordOf 49 = .ok (.areturn, 1) := by decide +kernel
theorem dX3_wordOf_50 : decode bX3_wordOf 50 = .ok (.ldc 83, 2) ∧ 50 + 2 = 52 := by decide +kernel
theorem dX3_wordOf_52 : decode bX3_wordOf 52 = .ok (.areturn, 1) := by decide +kernel
theorem dX3_wordOf_53 : decode bX3_wordOf 53 = .ok (.ldc 85, 2) ∧ 53 + 2 = 55 := by decide +kernel
theorem dX3_wordOf_55 : decode bX3_wordOf 55 = .ok (.areturn, 1) := by decide +kernel
theorem dX3_wordOf_56 : decode bX3_wordOf 56 = .ok (.ldc 87, 2) ∧ 56 + 2 = 58 := by decide +kernel
theorem dX3_wordOf_58 : decode bX3_wordOf 58 = .ok (.areturn, 1) := by decide +kernel
theorem dX3_readNumber_0 : decode bX3_readNumber 0 = .ok (.iconst 0, 1) ∧ 0 + 1 = 1 := by decide +kernel
theorem dX3_readNumber_1 : decode bX3_readNumber 1 = .ok (.istore_n 1, 1) ∧ 1 + 1 = 2 := by decide +kernel
theorem dX3_readNumber_2 : decode bX3_readNumber 2 = .ok (.iconst 0, 1) ∧ 2 + 1 = 3 := by decide +kernel
theorem dX3_readNumber_3 : decode bX3_readNumber 3 = .ok (.istore_n 2, 1) ∧ 3 + 1 = 4 := by decide +kernel
theorem dX3_readNumber_4 : decode bX3_readNumber 4 = .ok (.iload_n 2, 1) ∧ 4 + 1 = 5 := by decide +kernel
theorem dX3_readNumber_5 : decode bX3_readNumber 5 = .ok (.iconst 2, 1) ∧ 5 + 1 = 6 := by decide +kernel
theorem dX3_readNumber_6 : decode bX3_readNumber 6 = .ok (.if_icmp .ge 57, 3) ∧ 6 + 3 = 9 ∧ ((6 : Nat) : Int) + (57) = ((63 : Nat) : Int) := by decide +kernel
theorem dX3_readNumber_9 : decode bX3_readNumber 9 = .ok (.aload_n 0, 1) ∧ 9 + 1 = 10 := by decide +kernel
theorem dX3_readNumber_10 : decode bX3_readNumber 10 = .ok (.getfield 16, 3) ∧ 10 + 3 = 13 := by decide +kernel
theorem dX3_readNumber_13 : decode bX3_readNumber 13 = .ok (.ifCond .ne 50, 3) ∧ 13 + 3 = 16 ∧ ((13 : Nat) : Int) + (50) = ((63 : Nat) : Int) := by decide +kernel
theorem dX3_readNumber_16 : decode bX3_readNumber 16 = .ok (.aload_n 0, 1) ∧ 16 + 1 = 17 := by decide +kernel
theorem dX3_readNumber_17 : decode bX3_readNumber 17 = .ok (.invokevirtual 37, 3) ∧ 17 + 3 = 20 := by decide +kernel
theorem dX3_readNumber_20 : decode bX3_readNumber 20 = .ok (.bipush 48, 2) ∧ 20 + 2 = 22 := by decide +kernel
theorem dX3_readNumber_22 : decode bX3_readNumber 22 = .ok (.if_icmp .lt 41, 3) ∧ 22 + 3 = 25 ∧ ((22 : Nat) : Int) + (41) = ((63 : Nat) : Int) := by decide +kernel
theorem dX3_readNumber_25 : decode bX3_readNumber 25 = .ok (.aload_n 0, 1) ∧ 25 + 1 = 26 := by decide +kernel
theorem dX3_readNumber_26 : decode bX3_readNumber 26 = .ok (.invokevirtual 37, 3) ∧ 26 + 3 = 29 := by decide +kernel
theorem dX3_readNumber_29 : decode bX3_readNumber 29 = .ok (.bipush 57, 2) ∧ 29 + 2 = 31 := by decide +kernel
theorem dX3_readNumber_31 : decode bX3_readNumber 31 = .ok (.if_icmp .gt 32, 3) ∧ 31 + 3 = 34 ∧ ((31 : Nat) : Int) + (32) = ((63 : Nat) : Int) := by decide +kernel
theorem dX3_readNumber_34 : decode bX3_readNumber 34 = .ok (.iload_n 1, 1) ∧ 34 + 1 = 35 := by decide +kernel
theorem dX3_readNumber_35 : decode bX3_readNumber 35 = .ok (.bipush 10, 2) ∧ 35 + 2 = 37 := by decide +kernel
theorem dX3_readNumber_37 : decode bX3_readNumber 37 = .ok (.imul, 1) ∧ 37 + 1 = 38 := by decide +kernel
theorem dX3_readNumber_38 : decode bX3_readNumber 38 = .ok (.aload_n 0, 1) ∧ 38 + 1 = 39 := by decide +kernel
theorem dX3_readNumber_39 : decode bX3_readNumber 39 = .ok (.invokevirtual 37, 3) ∧ 39 + 3 = 42 := by decide +kernel
theorem dX3_readNumber_42 : decode bX3_readNumber 42 = .ok (.iadd, 1) ∧ 42 + 1 = 43 := by decide +kernel
theorem dX3_readNumber_43 : decode bX3_readNumber 43 = .ok (.bipush 48, 2) ∧ 43 + 2 = 45 := by decide +kernel
theorem dX3_readNumber_45 : decode bX3_readNumber 45 = .ok (.isub, 1) ∧ 45 + 1 = 46 := by decide +kernel
theorem dX3_readNumber_46 : decode bX3_readNumber 46 = .ok (.istore_n 1, 1) ∧ 46 + 1 = 47 := by decide +kernel
theorem dX3_readNumber_47 : decode bX3_readNumber 47 = .ok (.aload_n 0, 1) ∧ 47 + 1 = 48 := by decide +kernel
theorem dX3_readNumber_48 : decode bX3_readNumber 48 = .ok (.dup, 1) ∧ 48 + 1 = 49 := by decide +kernel
theorem dX3_readNumber_49 : decode bX3_readNumber 49 = .ok (.getfield 13, 3) ∧ 49 + 3 = 52 := by decide +kernel
theorem dX3_readNumber_52 : decode bX3_readNumber 52 = .ok (.iconst 1, 1) ∧ 52 + 1 = 53 := by decide +kernel
theorem dX3_readNumber_53 : decode bX3_readNumber 53 = .ok (.iadd, 1) ∧ 53 + 1 = 54 := by decide +kernel
theorem dX3_readNumber_54 : decode bX3_readNumber 54 = .ok (.putfield 13, 3) ∧ 54 + 3 = 57 := by decide +kernel
theorem dX3_readNumber_57 : decode bX3_readNumber 57 = .ok (.iinc 2 1, 3) ∧ 57 + 3 = 60 := by decide +kernel
theorem dX3_readNumber_60 : decode bX3_readNumber 60 = .ok (.goto (-56), 3) ∧ ((60 : Nat) : Int) + (-56) = ((4 : Nat) : Int) := by decide +kernel
theorem dX3_readNumber_63 : decode bX3_readNumber 63 = .ok (.aload_n 0, 1) ∧ 63 + 1 = 64 := by decide +kernel
theorem dX3_readNumber_64 : decode bX3_readNumber 64 = .ok (.aload_n 0, 1) ∧ 64 + 1 = 65 := by decide +kernel
theorem dX3_readNumber_65 : decode bX3_readNumber 65 = .ok (.getfield 16, 3) ∧ 65 + 3 = 68 := by decide +kernel
theorem dX3_readNumber_68 : decode bX3_readNumber 68 = .ok (.ifCond .ne 7, 3) ∧ 68 + 3 = 71 ∧ ((68 : Nat) : Int) + (7) = ((75 : Nat) : Int) := by decide +kernel
theorem dX3_readNumber_71 : decode bX3_readNumber 71 = .ok (.iload_n 2, 1) ∧ 71 + 1 = 72 := by decide +kernel
theorem dX3_readNumber_72 : decode bX3_readNumber 72 = .ok (.ifCond .ne 7, 3) ∧ 72 + 3 = 75 ∧ ((72 : Nat) : Int) + (7) = ((79 : Nat) : Int) := by decide +kernel
theorem dX3_readNumber_75 : decode bX3_readNumber 75 = .ok (.iconst 1, 1) ∧ 75 + 1 = 76 := by decide +kernel
theorem dX3_readNumber_76 : decode bX3_readNumber 76 = .ok (.goto 4, 3) ∧ ((76 : Nat) : Int) + (4) = ((80 : Nat) : Int) := by decide +kernel
theorem dX3_readNumber_79 : decode bX3_readNumber 79 = .ok (.iconst 0, 1) ∧ 79 + 1 = 80 := by decide +kernel
theorem dX3_readNumber_80 : decode bX3_readNumber 80 = .ok (.putfield 16, 3) ∧ 80 + 3 = 83 := by decide +kernel
theorem dX3_readNumber_83 : decode bX3_readNumber 83 = .ok (.iload_n 1, 1) ∧ 83 + 1 = 84 := by decide +kernel
theorem dX3_readNumber_84 : decode bX3_readNumber 84 = .ok (.ireturn, 1) := by decide +kernel
theorem dX3_readEither_0 : decode bX3_readEither 0 = .ok (.iconst 1, 1) ∧ 0 + 1 = 1 := by decide +kernel
theorem dX3_readEither_1 : decode bX3_readEither 1 = .ok (.istore_n 2, 1) ∧ 1 + 1 = 2 := by decide +kernel
theorem dX3_readEither_2 : decode bX3_readEither 2 = .ok (.iconst 0, 1) ∧ 2 + 1 = 3 := by decide +kernel
theorem dX3_readEither_3 : decode bX3_readEither 3 = .ok (.istore_n 3, 1) ∧ 3 + 1 = 4 := by decide +kernel
theorem dX3_readEither_4 : decode bX3_readEither 4 = .ok (.iload_n 3, 1) ∧ 4 + 1 = 5 := by decide +kernel
theorem dX3_readEither_5 : decode bX3_readEither 5 = .ok (.bipush 100, 2) ∧ 5 + 2 = 7 := by decide +kernel
theorem dX3_readEither_7 : decode bX3_readEither 7 = .ok (.if_icmp .ge 129, 3) ∧ 7 + 3 = 10 ∧ ((7 : Nat) : Int) + (129) = ((136 : Nat) : Int) := by decide +kernel
theorem dX3_readEither_10 : decode bX3_readEither 10 = .ok (.iload_n 2, 1) ∧ 10 + 1 = 11 := by decide +kernel
theorem dX3_readEither_11 : decode bX3_readEither 11 = .ok (.ifCond .eq 125, 3) ∧ 11 + 3 = 14 ∧ ((11 : Nat) : Int) + (125) = ((136 : Nat) : Int) := by decide +kernel
theorem dX3_readEither_14 : decode bX3_readEither 14 = .ok (.aload_n 0, 1) ∧ 14 + 1 = 15 := by decide +kernel
theorem dX3_readEither_15 : decode bX3_readEither 15 = .ok (.iload_n 1, 1) ∧ 15 + 1 = 16 := by decide +kernel
theorem dX3_readEither_16 : decode bX3_readEither 16 = .ok (.invokevirtual 89, 3) ∧ 16 + 3 = 19 := by decide +kernel
theorem dX3_readEither_19 : decode bX3_readEither 19 = .ok (.iconst 0, 1) ∧ 19 + 1 = 20 := by decide +kernel
theorem dX3_readEither_20 : decode bX3_readEither 20 = .ok (.istore 4, 2) ∧ 20 + 2 = 22 := by decide +kernel
theorem dX3_readEither_22 : decode bX3_readEither 22 = .ok (.iload 4, 2) ∧ 22 + 2 = 24 := by decide +kernel
theorem dX3_readEither_24 : decode bX3_readEither 24 = .ok (.bipush 100, 2) ∧ 24 + 2 = 26 := by decide +kernel
theorem dX3_readEither_26 : decode bX3_readEither 26 = .ok (.if_icmp .ge 50, 3) ∧ 26 + 3 = 29 ∧ ((26 : Nat) : Int) + (50) = ((76 : Nat) : Int) := by decide +kernel
theorem dX3_readEither_29 : decode bX3_readEither 29 = .ok (.aload_n 0, 1) ∧ 29 + 1 = 30 := by decide +kernel
theorem dX3_readEither_30 : decode bX3_readEither 30 = .ok (.getfield 16, 3) ∧ 30 + 3 = 33 := by decide +kernel
theorem dX3_readEither_33 : decode bX3_readEither 33 = .ok (.ifCond .ne 43, 3) ∧ 33 + 3 = 36 ∧ ((33 : Nat) : Int) + (43) = ((76 : Nat) : Int) := by decide +kernel
theorem dX3_readEither_36 : decode bX3_readEither 36 = .ok (.aload_n 0, 1) ∧ 36 + 1 = 37 := by decide +kernel
theorem dX3_readEither_37 : decode bX3_readEither 37 = .ok (.invokevirtual 37, 3) ∧ 37 + 3 = 40 := by decide +kernel
theorem dX3_readEither_40 : decode bX3_readEither 40 = .ok (.bipush 38, 2) ∧ 40 + 2 = 42 := by decide +kernel
theorem dX3_readEither_42 : decode bX3_readEither 42 = .ok (.if_icmp .ne 34, 3) ∧ 42 + 3 = 45 ∧ ((42 : Nat) : Int) + (34) = ((76 : Nat) : Int) := by decide +kernel
theorem dX3_readEither_45 : decode bX3_readEither 45 = .ok (.aload_n 0, 1) ∧ 45 + 1 = 46 := by decide +kernel
theorem dX3_readEither_46 : decode bX3_readEither 46 = .ok (.dup, 1) ∧ 46 + 1 = 47 := by decide +kernel
theorem dX3_readEither_47 : decode bX3_readEither 47 = .ok (.getfield 13, 3) ∧ 47 + 3 = 50 := by decide +kernel
theorem dX3_readEither_50 : decode bX3_readEither 50 = .ok (.iconst 1, 1) ∧ 50 + 1 = 51 := by decide +kernel
theorem dX3_readEither_51 : decode bX3_readEither 51 = .ok (.iadd, 1) ∧ 51 + 1 = 52 := by decide +kernel
theorem dX3_readEither_52 : decode bX3_readEither 52 = .ok (.putfield 13, 3) ∧ 52 + 3 = 55 := by decide +kernel
theorem dX3_readEither_55 : decode bX3_readEither 55 = .ok (.aload_n 0, 1) ∧ 55 + 1 = 56 := by decide +kernel
theorem dX3_readEither_56 : decode bX3_readEither 56 = .ok (.iload_n 1, 1) ∧ 56 + 1 = 57 := by decide +kernel
theorem dX3_readEither_57 : decode bX3_readEither 57 = .ok (.invokevirtual 89, 3) ∧ 57 + 3 = 60 := by decide +kernel
theorem dX3_readEither_60 : decode bX3_readEither 60 = .ok (.aload_n 0, 1) ∧ 60 + 1 = 61 := by decide +kernel
theorem dX3_readEither_61 : decode bX3_readEither 61 = .ok (.getfield 27, 3) ∧ 61 + 3 = 64 := by decide +kernel
theorem dX3_readEither_64 : decode bX3_readEither 64 = .ok (.iconst 4, 1) ∧ 64 + 1 = 65 := by decide +kernel
theorem dX3_readEither_65 : decode bX3_readEither 65 = .ok (.iconst 0, 1) ∧ 65 + 1 = 66 := by decide +kernel
theorem dX3_readEither_66 : decode bX3_readEither 66 = .ok (.iconst 0, 1) ∧ 66 + 1 = 67 := by decide +kernel
theorem dX3_readEither_67 : decode bX3_readEither 67 = .ok (.invokevirtual 92, 3) ∧ 67 + 3 = 70 := by decide +kernel
theorem dX3_readEither_70 : decode bX3_readEither 70 = .ok (.iinc 4 1, 3) ∧ 70 + 3 = 73 := by decide +kernel
theorem dX3_readEither_73 : decode bX3_readEither 73 = .ok (.goto (-51), 3) ∧ ((73 : Nat) : Int) + (-51) = ((22 : Nat) : Int) := by decide +kernel
theorem dX3_readEither_76 : decode bX3_readEither 76 = .ok (.iload_n 3, 1) ∧ 76 + 1 = 77 := by decide +kernel
theorem dX3_readEither_77 : decode bX3_readEither 77 = .ok (.ifCond .le 13, 3) ∧ 77 + 3 = 80 ∧ ((77 : Nat) : Int) + (13) = ((90 : Nat) : Int) := by decide +kernel
theorem dX3_readEither_80 : decode bX3_readEither 80 = .ok (.aload_n 0, 1) ∧ 80 + 1 = 81 := by decide +kernel
theorem dX3_readEither_81 : decode bX3_readEither 81 = .ok (.getfield 27, 3) ∧ 81 + 3 = 84 := by decide +kernel
theorem dX3_readEither_84 : decode bX3_readEither 84 = .ok (.iconst 5, 1) ∧ 84 + 1 = 85 := by decide +kernel
theorem dX3_readEither_85 : decode bX3_readEither 85 = .ok (.iconst 0, 1) ∧ 85 + 1 = 86 := by decide +kernel
theorem dX3_readEither_86 : decode bX3_readEither 86 = .ok (.iconst 0, 1) ∧ 86 + 1 = 87 := by decide +kernel
theorem dX3_readEither_87 : decode bX3_readEither 87 = .ok (.invokevirtual 92, 3) ∧ 87 + 3 = 90 := by decide +kernel
theorem dX3_readEither_90 : decode bX3_readEither 90 = .ok (.aload_n 0, 1) ∧ 90 + 1 = 91 := by decide +kernel
theorem dX3_readEither_91 : decode bX3_readEither 91 = .ok (.getfield 16, 3) ∧ 91 + 3 = 94 := by decide +kernel
theorem dX3_readEither_94 : decode bX3_readEither 94 = .ok (.ifCond .ne 16, 3) ∧ 94 + 3 = 97 ∧ ((94 : Nat) : Int) + (16) = ((110 : Nat) : Int) := by decide +kernel
theorem dX3_readEither_97 : decode bX3_readEither 97 = .ok (.aload_n 0, 1) ∧ 97 + 1 = 98 := by decide +kernel
theorem dX3_readEither_98 : decode bX3_readEither 98 = .ok (.invokevirtual 37, 3) ∧ 98 + 3 = 101 := by decide +kernel
theorem dX3_readEither_101 : decode bX3_readEither 101 = .ok (.bipush 124, 2) ∧ 101 + 2 = 103 := by decide +kernel
theorem dX3_readEither_103 : decode bX3_readEither 103 = .ok (.if_icmp .ne 7, 3) ∧ 103 + 3 = 106 ∧ ((103 : Nat) : Int) + (7) = ((110 : Nat) : Int) := by decide +kernel
theorem dX3_readEither_106 : decode bX3_readEither 106 = .ok (.iconst 1, 1) ∧ 106 + 1 = 107 := by decide +kernel
theorem dX3_readEither_107 : decode bX3_readEither 107 = .ok (.goto 4, 3) ∧ ((107 : Nat) : Int) + (4) = ((111 : Nat) : Int) := by decide +kernel
theorem dX3_readEither_110 : decode bX3_readEither 110 = .ok (.iconst 0, 1) ∧ 110 + 1 = 111 := by decide +kernel
theorem dX3_readEither_111 : decode bX3_readEither 111 = .ok (.istore_n 2, 1) ∧ 111 + 1 = 112 := by decide +kernel
theorem dX3_readEither_112 : decode bX3_readEither 112 = .ok (.aload_n 0, 1) ∧ 112 + 1 = 113 := by decide +kernel
theorem dX3_readEither_113 : decode bX3_readEither 113 = .ok (.dup, 1) ∧ 113 + 1 = 114 := by decide +kernel
theorem dX3_readEither_114 : decode bX3_readEither 114 = .ok (.getfield 13, 3) ∧ 114 + 3 = 117 := by decide +kernel
theorem dX3_readEither_117 : decode bX3_readEither 117 = .ok (.iload_n 2, 1) ∧ 117 + 1 = 118 := by decide +kernel
theorem dX3_readEither_118 : decode bX3_readEither 118 = .ok (.ifCond .eq 7, 3) ∧ 118 + 3 = 121 ∧ ((118 : Nat) : Int) + (7) = ((125 : Nat) : Int) := by decide +kernel
theorem dX3_readEither_121 : decode bX3_readEither 121 = .ok (.iconst 1, 1) ∧ 121 + 1 = 122 := by decide +kernel
theorem dX3_readEither_122 : decode bX3_readEither 122 = .ok (.goto 4, 3) ∧ ((122 : Nat) : Int) + (4) = ((126 : Nat) : Int) := by decide +kernel
theorem dX3_readEither_125 : decode bX3_readEither 125 = .ok (.iconst 0, 1) ∧ 125 + 1 = 126 := by decide +kernel
theorem dX3_readEither_126 : decode bX3_readEither 126 = .ok (.iadd, 1) ∧ 126 + 1 = 127 := by decide +kernel
theorem dX3_readEither_127 : decode bX3_readEither 127 = .ok (.putfield 13, 3) ∧ 127 + 3 = 130 := by decide +kernel
theorem dX3_readEither_130 : decode bX3_readEither 130 = .ok (.iinc 3 1, 3) ∧ 130 + 3 = 133 := by decide +kernel
theorem dX3_readEither_133 : decode bX3_readEither 133 = .ok (.goto (-129), 3) ∧ ((133 : Nat) : Int) + (-129) = ((4 : Nat) : Int) := by decide +kernel
theorem dX3_readEither_136 : decode bX3_readEither 136 = .ok (.return_, 1) := by decide +kernel
theorem dX3_readPart_0 : decode bX3_readPart 0 = .ok (.aload_n 0, 1) ∧ 0 + 1 = 1 := by decide +kernel
theorem dX3_readPart_1 : decode bX3_readPart 1 = .ok (.getfield 16, 3) ∧ 1 + 3 = 4 := by decide +kernel
theorem dX3_readPart_4 : decode bX3_readPart 4 = .ok (.ifCond .eq 4, 3) ∧ 4 + 3 = 7 ∧ ((4 : Nat) : Int) + (4) = ((8 : Nat) : Int) := by decide +kernel
theorem dX3_readPart_7 : decode bX3_readPart 7 = .ok (.return_, 1) := by decide +kernel
theorem dX3_readPart_8 : decode bX3_readPart 8 = .ok (.aload_n 0, 1) ∧ 8 + 1 = 9 := by decide +kernel
theorem dX3_readPart_9 : decode bX3_readPart 9 = .ok (.invokevirtual 37, 3) ∧ 9 + 3 = 12 := by decide +kernel
theorem dX3_readPart_12 : decode bX3_readPart 12 = .ok (.bipush 33, 2) ∧ 12 + 2 = 14 := by decide +kernel
theorem dX3_readPart_14 : decode bX3_readPart 14 = .ok (.if_icmp .ne 38, 3) ∧ 14 + 3 = 17 ∧ ((14 : Nat) : Int) + (38) = ((52 : Nat) : Int) := by decide +kernel
theorem dX3_readPart_17 : decode bX3_readPart 17 = .ok (.iload_n 1, 1) ∧ 17 + 1 = 18 := by decide +kernel
theorem dX3_readPart_18 : decode bX3_readPart 18 = .ok (.iconst 4, 1) ∧ 18 + 1 = 19 := by decide +kernel
theorem dX3_readPart_19 : decode bX3_readPart 19 = .ok (.if_icmp .ge 33, 3) ∧ 19 + 3 = 22 ∧ ((19 : Nat) : Int) + (33) = ((52 : Nat) : Int) := by decide +kernel
theorem dX3_readPart_22 : decode bX3_readPart 22 = .ok (.aload_n 0, 1) ∧ 22 + 1 = 23 := by decide +kernel
theorem dX3_readPart_23 : decode bX3_readPart 23 = .ok (.dup, 1) ∧ 23 + 1 = 24 := by decide +kernel
theorem dX3_readPart_24 : decode bX3_readPart 24 = .ok (.getfield 13, 3) ∧ 24 + 3 = 27 := by decide +kernel
theorem dX3_readPart_27 : decode bX3_readPart 27 = .ok (.iconst 1, 1) ∧ 27 + 1 = 28 := by decide +kernel
theorem dX3_readPart_28 : decode bX3_readPart 28 = .ok (.iadd, 1) ∧ 28 + 1 = 29 := by decide +kernel
theorem dX3_readPart_29 : decode bX3_readPart 29 = .ok (.putfield 13, 3) ∧ 29 + 3 = 32 := by decide +kernel
theorem dX3_readPart_32 : decode bX3_readPart 32 = .ok (.aload_n 0, 1) ∧ 32 + 1 = 33 := by decide +kernel
theorem dX3_readPart_33 : decode bX3_readPart 33 = .ok (.iload_n 1, 1) ∧ 33 + 1 = 34 := by decide +kernel
theorem dX3_readPart_34 : decode bX3_readPart 34 = .ok (.iconst 1, 1) ∧ 34 + 1 = 35 := by decide +kernel
theorem dX3_readPart_35 : decode bX3_readPart 35 = .ok (.iadd, 1) ∧ 35 + 1 = 36 := by decide +kernel
theorem dX3_readPart_36 : decode bX3_readPart 36 = .ok (.invokevirtual 89, 3) ∧ 36 + 3 = 39 := by decide +kernel
theorem dX3_readPart_39 : decode bX3_readPart 39 = .ok (.aload_n 0, 1) ∧ 39 + 1 = 40 := by decide +kernel
theorem dX3_readPart_40 : decode bX3_readPart 40 = .ok (.getfield 27, 3) ∧ 40 + 3 = 43 := by decide +kernel
theorem dX3_readPart_43 : decode bX3_readPart 43 = .ok (.iconst 3, 1) ∧ 43 + 1 = 44 := by decide +kernel
theorem dX3_readPart_44 : decode bX3_readPart 44 = .ok (.iconst 0, 1) ∧ 44 + 1 = 45 := by decide +kernel
theorem dX3_readPart_45 : decode bX3_readPart 45 = .ok (.iconst 0, 1) ∧ 45 + 1 = 46 := by decide +kernel
theorem dX3_readPart_46 : decode bX3_readPart 46 = .ok (.invokevirtual 92, 3) ∧ 46 + 3 = 49 := by decide +kernel
theorem dX3_readPart_49 : decode bX3_readPart 49 = .ok (.goto 47, 3) ∧ ((49 : Nat) : Int) + (47) = ((96 : Nat) : Int) := by decide +kernel
theorem dX3_readPart_52 : decode bX3_readPart 52 = .ok (.aload_n 0, 1) ∧ 52 + 1 = 53 := by decide +kernel
theorem dX3_readPart_53 : decode bX3_readPart 53 = .ok (.invokevirtual 37, 3) ∧ 53 + 3 = 56 := by decide +kernel
theorem dX3_readPart_56 : decode bX3_readPart 56 = .ok (.bipush 40, 2) ∧ 56 + 2 = 58 := by decide +kernel
theorem dX3_readPart_58 : decode bX3_readPart 58 = .ok (.if_icmp .ne 34, 3) ∧ 58 + 3 = 61 ∧ ((58 : Nat) : Int) + (34) = ((92 : Nat) : Int) := by decide +kernel
theorem dX3_readPart_61 : decode bX3_readPart 61 = .ok (.iload_n 1, 1) ∧ 61 + 1 = 62 := by decide +kernel
theorem dX3_readPart_62 : decode bX3_readPart 62 = .ok (.iconst 4, 1) ∧ 62 + 1 = 63 := by decide +kernel
theorem dX3_readPart_63 : decode bX3_readPart 63 = .ok (.if_icmp .ge 29, 3) ∧ 63 + 3 = 66 ∧ ((63 : Nat) : Int) + (29) = ((92 : Nat) : Int) := by decide +kernel
theorem dX3_readPart_66 : decode bX3_readPart 66 = .ok (.aload_n 0, 1) ∧ 66 + 1 = 67 := by decide +kernel
theorem dX3_readPart_67 : decode bX3_readPart 67 = .ok (.dup, 1) ∧ 67 + 1 = 68 := by decide +kernel
theorem dX3_readPart_68 : decode bX3_readPart 68 = .ok (.getfield 13, 3) ∧ 68 + 3 = 71 := by decide +kernel
theorem dX3_readPart_71 : decode bX3_readPart 71 = .ok (.iconst 1, 1) ∧ 71 + 1 = 72 := by decide +kernel
theorem dX3_readPart_72 : decode bX3_readPart 72 = .ok (.iadd, 1) ∧ 72 + 1 = 73 := by decide +kernel
theorem dX3_readPart_73 : decode bX3_readPart 73 = .ok (.putfield 13, 3) ∧ 73 + 3 = 76 := by decide +kernel
theorem dX3_readPart_76 : decode bX3_readPart 76 = .ok (.aload_n 0, 1) ∧ 76 + 1 = 77 := by decide +kernel
theorem dX3_readPart_77 : decode bX3_readPart 77 = .ok (.iload_n 1, 1) ∧ 77 + 1 = 78 := by decide +kernel
theorem dX3_readPart_78 : decode bX3_readPart 78 = .ok (.iconst 1, 1) ∧ 78 + 1 = 79 := by decide +kernel
theorem dX3_readPart_79 : decode bX3_readPart 79 = .ok (.iadd, 1) ∧ 79 + 1 = 80 := by decide +kernel
theorem dX3_readPart_80 : decode bX3_readPart 80 = .ok (.invokevirtual 73, 3) ∧ 80 + 3 = 83 := by decide +kernel
theorem dX3_readPart_83 : decode bX3_readPart 83 = .ok (.aload_n 0, 1) ∧ 83 + 1 = 84 := by decide +kernel
theorem dX3_readPart_84 : decode bX3_readPart 84 = .ok (.bipush 41, 2) ∧ 84 + 2 = 86 := by decide +kernel
theorem dX3_readPart_86 : decode bX3_readPart 86 = .ok (.invokevirtual 49, 3) ∧ 86 + 3 = 89 := by decide +kernel
theorem dX3_readPart_89 : decode bX3_readPart 89 = .ok (.goto 7, 3) ∧ ((89 : Nat) : Int) + (7) = ((96 : Nat) : Int) := by decide +kernel
theorem dX3_readPart_92 : decode bX3_readPart 92 = .ok (.aload_n 0, 1) ∧ 92 + 1 = 93 := by decide +kernel
theorem dX3_readPart_93 : decode bX3_readPart 93 = .ok (.invokevirtual 96, 3) ∧ 93 + 3 = 96 := by decide +kernel
theorem dX3_readPart_96 : decode bX3_readPart 96 = .ok (.return_, 1) := by decide +kernel
theorem dX3_readTest_0 : decode bX3_readTest 0 = .ok (.aload_n 0, 1) ∧ 0 + 1 = 1 := by decide +kernel
theorem dX3_readTest_1 : decode bX3_readTest 1 = .ok (.invokevirtual 37, 3) ∧ 1 + 3 = 4 := by decide +kernel
theorem dX3_readTest_4 : decode bX3_readTest 4 = .ok (.ldc 99, 2) ∧ 4 + 2 = 6 := by decide +kernel
theorem dX3_readTest_6 : decode bX3_readTest 6 = .ok (.invokestatic 101, 3) ∧ 6 + 3 = 9 := by decide +kernel
theorem dX3_readTest_9 : decode bX3_readTest 9 = .ok (.istore_n 1, 1) ∧ 9 + 1 = 10 := by decide +kernel
theorem dX3_readTest_10 : decode bX3_readTest 10 = .ok (.iload_n 1, 1) ∧ 10 + 1 = 11 := by decide +kernel
theorem dX3_readTest_11 : decode bX3_readTest 11 = .ok (.ifCond .ge 9, 3) ∧ 11 + 3 = 14 ∧ ((11 : Nat) : Int) + (9) = ((20 : Nat) : Int) := by decide +kernel
theorem dX3_readTest_14 : decode bX3_readTest 14 = .ok (.aload_n 0, 1) ∧ 14 + 1 = 15 := by decide +kernel
theorem dX3_readTest_15 : decode bX3_readTest 15 = .ok (.iconst 1, 1) ∧ 15 + 1 = 16 := by decide +kernel
theorem dX3_readTest_16 : decode bX3_readTest 16 = .ok (.putfield 16, 3) ∧ 16 + 3 = 19 := by decide +kernel
theorem dX3_readTest_19 : decode bX3_readTest 19 = .ok (.return_, 1) := by decide +kernel
theorem dX3_readTest_20 : decode bX3_readTest 20 = .ok (.aload_n 0, 1) ∧ 20 + 1 = 21 := by decide +kernel
theorem dX3_readTest_21 : decode bX3_readTest 21 = .ok (.dup, 1) ∧ 21 + 1 = 22 := by decide +kernel
theorem dX3_readTest_22 : decode bX3_readTest 22 = .ok (.getfield 13, 3) ∧ 22 + 3 = 25 := by decide +kernel
theorem dX3_readTest_25 : decode bX3_readTest 25 = .ok (.iconst 1, 1) ∧ 25 + 1 = 26 := by decide +kernel
theorem dX3_readTest_26 : decode bX3_readTest 26 = .ok (.iadd, 1) ∧ 26 + 1 = 27 := by decide +kernel
theorem dX3_readTest_27 : decode bX3_readTest 27 = .ok (.putfield 13, 3) ∧ 27 + 3 = 30 := by decide +kernel
theorem dX3_readTest_30 : decode bX3_readTest 30 = .ok (.aload_n 0, 1) ∧ 30 + 1 = 31 := by decide +kernel
theorem dX3_readTest_31 : decode bX3_readTest 31 = .ok (.invokevirtual 37, 3) ∧ 31 + 3 = 34 := by decide +kernel
theorem dX3_readTest_34 : decode bX3_readTest 34 = .ok (.ldc 105, 2) ∧ 34 + 2 = 36 := by decide +kernel
theorem dX3_readTest_36 : decode bX3_readTest 36 = .ok (.invokestatic 101, 3) ∧ 36 + 3 = 39 := by decide +kernel
theorem dX3_readTest_39 : decode bX3_readTest 39 = .ok (.istore_n 2, 1) ∧ 39 + 1 = 40 := by decide +kernel
theorem dX3_readTest_40 : decode bX3_readTest 40 = .ok (.iload_n 2, 1) ∧ 40 + 1 = 41 := by decide +kernel
theorem dX3_readTest_41 : decode bX3_readTest 41 = .ok (.ifCond .ge 9, 3) ∧ 41 + 3 = 44 ∧ ((41 : Nat) : Int) + (9) = ((50 : Nat) : Int) := by decide +kernel
theorem dX3_readTest_44 : decode bX3_readTest 44 = .ok (.aload_n 0, 1) ∧ 44 + 1 = 45 := by decide +kernel
theorem dX3_readTest_45 : decode bX3_readTest 45 = .ok (.iconst 1, 1) ∧ 45 + 1 = 46 := by decide +kernel
theorem dX3_readTest_46 : decode bX3_readTest 46 = .ok (.putfield 16, 3) ∧ 46 + 3 = 49 := by decide +kernel
theorem dX3_readTest_49 : decode bX3_readTest 49 = .ok (.return_, 1) := by decide +kernel
theorem dX3_readTest_50 : decode bX3_readTest 50 = .ok (.aload_n 0, 1) ∧ 50 + 1 = 51 := by decide +kernel
theorem dX3_readTest_51 : decode bX3_readTest 51 = .ok (.dup, 1) ∧ 51 + 1 = 52 := by decide +kernel
theorem dX3_readTest_52 : decode bX3_readTest 52 = .ok (.getfield 13, 3) ∧ 52 + 3 = 55 := by decide +kernel
theorem dX3_readTest_55 : decode bX3_readTest 55 = .ok (.iconst 1, 1) ∧ 55 + 1 = 56 := by decide +kernel
theorem dX3_readTest_56 : decode bX3_readTest 56 = .ok (.iadd, 1) ∧ 56 + 1 = 57 := by decide +kernel
theorem dX3_readTest_57 : decode bX3_readTest 57 = .ok (.putfield 13, 3) ∧ 57 + 3 = 60 := by decide +kernel
theorem dX3_readTest_60 : decode bX3_readTest 60 = .ok (.aload_n 0, 1) ∧ 60 + 1 = 61 := by decide +kernel
theorem dX3_readTest_61 : decode bX3_readTest 61 = .ok (.getfield 27, 3) ∧ 61 + 3 = 64 := by decide +kernel
theorem dX3_readTest_64 : decode bX3_readTest 64 = .ok (.iload_n 2, 1) ∧ 64 + 1 = 65 := by decide +kernel
theorem dX3_readTest_65 : decode bX3_readTest 65 = .ok (.iload_n 1, 1) ∧ 65 + 1 = 66 := by decide +kernel
theorem dX3_readTest_66 : decode bX3_readTest 66 = .ok (.aload_n 0, 1) ∧ 66 + 1 = 67 := by decide +kernel
theorem dX3_readTest_67 : decode bX3_readTest 67 = .ok (.invokevirtual 61, 3) ∧ 67 + 3 = 70 := by decide +kernel
theorem dX3_readTest_70 : decode bX3_readTest 70 = .ok (.invokevirtual 92, 3) ∧ 70 + 3 = 73 := by decide +kernel
theorem dX3_readTest_73 : decode bX3_readTest 73 = .ok (.return_, 1) := by decide +kernel
theorem dX3_placeOf_0 : decode bX3_placeOf 0 = .ok (.iconst 0, 1) ∧ 0 + 1 = 1 := by decide +kernel
theorem dX3_placeOf_1 : decode bX3_placeOf 1 = .ok (.istore_n 2, 1) ∧ 1 + 1 = 2 := by decide +kernel
theorem dX3_placeOf_2 : decode bX3_placeOf 2 = .ok (.iload_n 2, 1) ∧ 2 + 1 = 3 := by decide +kernel
theorem dX3_placeOf_3 : decode bX3_placeOf 3 = .ok (.aload_n 1, 1) ∧ 3 + 1 = 4 := by decide +kernel
theorem dX3_placeOf_4 : decode bX3_placeOf 4 = .ok (.invokevirtual 41, 3) ∧ 4 + 3 = 7 := by decide +kernel
theorem dX3_placeOf_7 : decode bX3_placeOf 7 = .ok (.if_icmp .ge 20, 3) ∧ 7 + 3 = 10 ∧ ((7 : Nat) : Int) + (20) = ((27 : Nat) : Int) := by decide +kernel
theorem dX3_placeOf_10 : decode bX3_placeOf 10 = .ok (.aload_n 1, 1) ∧ 10 + 1 = 11 := by decide +kernel
theorem dX3_placeOf_11 : decode bX3_placeOf 11 = .ok (.iload_n 2, 1) ∧ 11 + 1 = 12 := by decide +kernel
theorem dX3_placeOf_12 : decode bX3_placeOf 12 = .ok (.invokevirtual 45, 3) ∧ 12 + 3 = 15 := by decide +kernel
theorem dX3_placeOf_15 : decode bX3_placeOf 15 = .ok (.iload_n 0, 1) ∧ 15 + 1 = 16 := by decide +kernel
theorem dX3_placeOf_16 : decode bX3_placeOf 16 = .ok (.if_icmp .ne 5, 3) ∧ 16 + 3 = 19 ∧ ((16 : Nat) : Int) + (5) = ((21 : Nat) : Int) := by decide +kernel
theorem dX3_placeOf_19 : decode bX3_placeOf 19 = .ok (.iload_n 2, 1) ∧ 19 + 1 = 20 := by decide +kernel
theorem dX3_placeOf_20 : decode bX3_placeOf 20 = .ok (.ireturn, 1) := by decide +kernel
theorem dX3_placeOf_21 : decode bX3_placeOf 21 = .ok (.iinc 2 1, 3) ∧ 21 + 3 = 24 := by decide +kernel
theorem dX3_placeOf_24 : decode bX3_placeOf 24 = .ok (.goto (-22), 3) ∧ ((24 : Nat) : Int) + (-22) = ((2 : Nat) : Int) := by decide +kernel
theorem dX3_placeOf_27 : decode bX3_placeOf 27 = .ok (.iconst (-1), 1) ∧ 27 + 1 = 28 := by decide +kernel
theorem dX3_placeOf_28 : decode bX3_placeOf 28 = .ok (.ireturn, 1) := by decide +kernel
theorem dX4_known_0 : decode bX4_known 0 = .ok (.iload_n 1, 1) ∧ 0 + 1 = 1 := by decide +kernel
theorem dX4_known_1 : decode bX4_known 1 = .ok (.ifCond .lt 13, 3) ∧ 1 + 3 = 4 ∧ ((1 : Nat) : Int) + (13) = ((14 : Nat) : Int) := by decide +kernel
theorem dX4_known_4 : decode bX4_known 4 = .ok (.iload_n 1, 1) ∧ 4 + 1 = 5 := by decide +kernel
theorem dX4_known_5 : decode bX4_known 5 = .ok (.bipush 6, 2) ∧ 5 + 2 = 7 := by decide +kernel
theorem dX4_known_7 : decode bX4_known 7 = .ok (.if_icmp .ge 7, 3) ∧ 7 + 3 = 10 ∧ ((7 : Nat) : Int) + (7) = ((14 : Nat) : Int) := by decide +kernel
theorem dX4_known_10 : decode bX4_known 10 = .ok (.iconst 1, 1) ∧ 10 + 1 = 11 := by decide +kernel
theorem dX4_known_11 : decode bX4_known 11 = .ok (.goto 4, 3) ∧ ((11 : Nat) : Int) + (4) = ((15 : Nat) : Int) := by decide +kernel
theorem dX4_known_14 : decode bX4_known 14 = .ok (.iconst 0, 1) ∧ 14 + 1 = 15 := by decide +kernel
theorem dX4_known_15 : decode bX4_known 15 = .ok (.ireturn, 1) := by decide +kernel
theorem dX4_holds_0 : decode bX4_holds 0 = .ok (.aload_n 0, 1) ∧ 0 + 1 = 1 := by decide +kernel
theorem dX4_holds_1 : decode bX4_holds 1 = .ok (.getfield 9, 3) ∧ 1 + 3 = 4 := by decide +kernel
theorem dX4_holds_4 : decode bX4_holds 4 = .ok (.iload_n 1, 1) ∧ 4 + 1 = 5 := by decide +kernel
theorem dX4_holds_5 : decode bX4_holds 5 = .ok (.iaload, 1) ∧ 5 + 1 = 6 := by decide +kernel
theorem dX4_holds_6 : decode bX4_holds 6 = .ok (.iconst (-1), 1) ∧ 6 + 1 = 7 := by decide +kernel
theorem dX4_holds_7 : decode bX4_holds 7 = .ok (.if_icmp .eq 7, 3) ∧ 7 + 3 = 10 ∧ ((7 : Nat) : Int) + (7) = ((14 : Nat) : Int) := by decide +kernel
theorem dX4_holds_10 : decode bX4_holds 10 = .ok (.iconst 1, 1) ∧ 10 + 1 = 11 := by decide +kernel
theorem dX4_holds_11 : decode bX4_holds 11 = .ok (.goto 4, 3) ∧ ((11 : Nat) : Int) + (4) = ((15 : Nat) : Int) := by decide +kernel
theorem dX4_holds_14 : decode bX4_holds 14 = .ok (.iconst 0, 1) ∧ 14 + 1 = 15 := by decide +kernel
theorem dX4_holds_15 : decode bX4_holds 15 = .ok (.ireturn, 1) := by decide +kernel
theorem dX4_hasPlace_0 : decode bX4_hasPlace 0 = .ok (.aload_n 0, 1) ∧ 0 + 1 = 1 := by decide +kernel
theorem dX4_hasPlace_1 : decode bX4_hasPlace 1 = .ok (.iload_n 1, 1) ∧ 1 + 1 = 2 := by decide +kernel
theorem dX4_hasPlace_2 : decode bX4_hasPlace 2 = .ok (.invokevirtual 21, 3) ∧ 2 + 3 = 5 := by decide +kernel
theorem dX4_hasPlace_5 : decode bX4_hasPlace 5 = .ok (.ifCond .eq 25, 3) ∧ 5 + 3 = 8 ∧ ((5 : Nat) : Int) + (25) = ((30 : Nat) : Int) := by decide +kernel
theorem dX4_hasPlace_8 : decode bX4_hasPlace 8 = .ok (.lload_n 2, 1) ∧ 8 + 1 = 9 := by decide +kernel
theorem dX4_hasPlace_9 : decode bX4_hasPlace 9 = .ok (.lconst 0, 1) ∧ 9 + 1 = 10 := by decide +kernel
theorem dX4_hasPlace_10 : decode bX4_hasPlace 10 = .ok (.lcmp, 1) ∧ 10 + 1 = 11 := by decide +kernel
theorem dX4_hasPlace_11 : decode bX4_hasPlace 11 = .ok (.ifCond .lt 19, 3) ∧ 11 + 3 = 14 ∧ ((11 : Nat) : Int) + (19) = ((30 : Nat) : Int) := by decide +kernel
theorem dX4_hasPlace_14 : decode bX4_hasPlace 14 = .ok (.lload_n 2, 1) ∧ 14 + 1 = 15 := by decide +kernel
theorem dX4_hasPlace_15 : decode bX4_hasPlace 15 = .ok (.aload_n 0, 1) ∧ 15 + 1 = 16 := by decide +kernel
theorem dX4_hasPlace_16 : decode bX4_hasPlace 16 = .ok (.getfield 13, 3) ∧ 16 + 3 = 19 := by decide +kernel
theorem dX4_hasPlace_19 : decode bX4_hasPlace 19 = .ok (.iload_n 1, 1) ∧ 19 + 1 = 20 := by decide +kernel
theorem dX4_hasPlace_20 : decode bX4_hasPlace 20 = .ok (.iaload, 1) ∧ 20 + 1 = 21 := by decide +kernel
theorem dX4_hasPlace_21 : decode bX4_hasPlace 21 = .ok (.i2l, 1) ∧ 21 + 1 = 22 := by decide +kernel
theorem dX4_hasPlace_22 : decode bX4_hasPlace 22 = .ok (.lcmp, 1) ∧ 22 + 1 = 23 := by decide +kernel
theorem dX4_hasPlace_23 : decode bX4_hasPlace 23 = .ok (.ifCond .ge 7, 3) ∧ 23 + 3 = 26 ∧ ((23 : Nat) : Int) + (7) = ((30 : Nat) : Int) := by decide +kernel
theorem dX4_hasPlace_26 : decode bX4_hasPlace 26 = .ok (.iconst 1, 1) ∧ 26 + 1 = 27 := by decide +kernel
theorem dX4_hasPlace_27 : decode bX4_hasPlace 27 = .ok (.goto 4, 3) ∧ ((27 : Nat) : Int) + (4) = ((31 : Nat) : Int) := by decide +kernel
theorem dX4_hasPlace_30 : decode bX4_hasPlace 30 = .ok (.iconst 0, 1) ∧ 30 + 1 = 31 := by decide +kernel
theorem dX4_hasPlace_31 : decode bX4_hasPlace 31 = .ok (.ireturn, 1) := by decide +kernel
theorem dX4_hasRoom_0 : decode bX4_hasRoom 0 = .ok (.iload_n 2, 1) ∧ 0 + 1 = 1 := by decide +kernel
theorem dX4_hasRoom_1 : decode bX4_hasRoom 1 = .ok (.ifCond .lt 27, 3) ∧ 1 + 3 = 4 ∧ ((1 : Nat) : Int) + (27) = ((28 : Nat) : Int) := by decide +kernel
theorem dX4_hasRoom_4 : decode bX4_hasRoom 4 = .ok (.iload_n 3, 1) ∧ 4 + 1 = 5 := by decide +kernel
theorem dX4_hasRoom_5 : decode bX4_hasRoom 5 = .ok (.ifCond .lt 23, 3) ∧ 5 + 3 = 8 ∧ ((5 : Nat) : Int) + (23) = ((28 : Nat) : Int) := by decide +kernel
theorem dX4_hasRoom_8 : decode bX4_hasRoom 8 = .ok (.iload_n 2, 1) ∧ 8 + 1 = 9 := by decide +kernel
theorem dX4_hasRoom_9 : decode bX4_hasRoom 9 = .ok (.i2l, 1) ∧ 9 + 1 = 10 := by decide +kernel
theorem dX4_hasRoom_10 : decode bX4_hasRoom 10 = .ok (.iload_n 3, 1) ∧ 10 + 1 = 11 := by decide +kernel
theorem dX4_hasRoom_11 : decode bX4_hasRoom 11 = .ok (.i2l, 1) ∧ 11 + 1 = 12 := by decide +kernel
theorem dX4_hasRoom_12 : decode bX4_hasRoom 12 = .ok (.ladd, 1) ∧ 12 + 1 = 13 := by decide +kernel
theorem dX4_hasRoom_13 : decode bX4_hasRoom 13 = .ok (.aload_n 0, 1) ∧ 13 + 1 = 14 := by decide +kernel
theorem dX4_hasRoom_14 : decode bX4_hasRoom 14 = .ok (.getfield 13, 3) ∧ 14 + 3 = 17 := by decide +kernel
theorem dX4_hasRoom_17 : decode bX4_hasRoom 17 = .ok (.iload_n 1, 1) ∧ 17 + 1 = 18 := by decide +kernel
theorem dX4_hasRoom_18 : decode bX4_hasRoom 18 = .ok (.iaload, 1) ∧ 18 + 1 = 19 := by decide +kernel
theorem dX4_hasRoom_19 : decode bX4_hasRoom 19 = .ok (.i2l, 1) ∧ 19 + 1 = 20 := by decide +kernel
theorem dX4_hasRoom_20 : decode bX4_hasRoom 20 = .ok (.lcmp, 1) ∧ 20 + 1 = 21 := by decide +kernel
theorem dX4_hasRoom_21 : decode bX4_hasRoom 21 = .ok (.ifCond .gt 7, 3) ∧ 21 + 3 = 24 ∧ ((21 : Nat) : Int) + (7) = ((28 : Nat) : Int) := by decide +kernel
theorem dX4_hasRoom_24 : decode bX4_hasRoom 24 = .ok (.iconst 1, 1) ∧ 24 + 1 = 25 := by decide +kernel
theorem dX4_hasRoom_25 : decode bX4_hasRoom 25 = .ok (.goto 4, 3) ∧ ((25 : Nat) : Int) + (4) = ((29 : Nat) : Int) := by decide +kernel
theorem dX4_hasRoom_28 : decode bX4_hasRoom 28 = .ok (.iconst 0, 1) ∧ 28 + 1 = 29 := by decide +kernel
theorem dX4_hasRoom_29 : decode bX4_hasRoom 29 = .ok (.ireturn, 1) := by decide +kernel
theorem dX4_make_0 : decode bX4_make 0 = .ok (.aload_n 0, 1) ∧ 0 + 1 = 1 := by decide +kernel
theorem dX4_make_1 : decode bX4_make 1 = .ok (.getfield 9, 3) ∧ 1 + 3 = 4 := by decide +kernel
theorem dX4_make_4 : decode bX4_make 4 = .ok (.iload_n 1, 1) ∧ 4 + 1 = 5 := by decide +kernel
theorem dX4_make_5 : decode bX4_make 5 = .ok (.iload_n 2, 1) ∧ 5 + 1 = 6 := by decide +kernel
theorem dX4_make_6 : decode bX4_make 6 = .ok (.iastore, 1) ∧ 6 + 1 = 7 := by decide +kernel
theorem dX4_make_7 : decode bX4_make 7 = .ok (.aload_n 0, 1) ∧ 7 + 1 = 8 := by decide +kernel
theorem dX4_make_8 : decode bX4_make 8 = .ok (.getfield 13, 3) ∧ 8 + 3 = 11 := by decide +kernel
theorem dX4_make_11 : decode bX4_make 11 = .ok (.iload_n 1, 1) ∧ 11 + 1 = 12 := by decide +kernel
theorem dX4_make_12 : decode bX4_make 12 = .ok (.iload_n 3, 1) ∧ 12 + 1 = 13 := by decide +kernel
theorem dX4_make_13 : decode bX4_make 13 = .ok (.iastore, 1) ∧ 13 + 1 = 14 := by decide +kernel
theorem dX4_make_14 : decode bX4_make 14 = .ok (.iconst 0, 1) ∧ 14 + 1 = 15 := by decide +kernel
theorem dX4_make_15 : decode bX4_make 15 = .ok (.istore 4, 2) ∧ 15 + 2 = 17 := by decide +kernel
theorem dX4_make_17 : decode bX4_make 17 = .ok (.iload 4, 2) ∧ 17 + 2 = 19 := by decide +kernel
theorem dX4_make_19 : decode bX4_make 19 = .ok (.bipush 60, 2) ∧ 19 + 2 = 21 := by decide +kernel
theorem dX4_make_21 : decode bX4_make 21 = .ok (.if_icmp .ge 19, 3) ∧ 21 + 3 = 24 ∧ ((21 : Nat) : Int) + (19) = ((40 : Nat) : Int) := by decide +kernel
theorem dX4_make_24 : decode bX4_make 24 = .ok (.aload_n 0, 1) ∧ 24 + 1 = 25 := by decide +kernel
theorem dX4_make_25 : decode bX4_make 25 = .ok (.getfield 18, 3) ∧ 25 + 3 = 28 := by decide +kernel
theorem dX4_make_28 : decode bX4_make 28 = .ok (.iload_n 1, 1) ∧ 28 + 1 = 29 := by decide +kernel
theorem dX4_make_29 : decode bX4_make 29 = .ok (.aaload, 1) ∧ 29 + 1 = 30 := by decide +kernel
theorem dX4_make_30 : decode bX4_make 30 = .ok (.iload 4, 2) ∧ 30 + 2 = 32 := by decide +kernel
theorem dX4_make_32 : decode bX4_make 32 = .ok (.lconst 0, 1) ∧ 32 + 1 = 33 := by decide +kernel
theorem dX4_make_33 : decode bX4_make 33 = .ok (.lastore, 1) ∧ 33 + 1 = 34 := by decide +kernel
theorem dX4_make_34 : decode bX4_make 34 = .ok (.iinc 4 1, 3) ∧ 34 + 3 = 37 := by decide +kernel
theorem dX4_make_37 : decode bX4_make 37 = .ok (.goto (-20), 3) ∧ ((37 : Nat) : Int) + (-20) = ((17 : Nat) : Int) := by decide +kernel
theorem dX4_make_40 : decode bX4_make 40 = .ok (.return_, 1) := by decide +kernel
theorem dX4_cut_0 : decode bX4_cut 0 = .ok (.iload_n 0, 1) ∧ 0 + 1 = 1 := by decide +kernel
theorem dX4_cut_1 : decode bX4_cut 1 = .ok (.tableswitch 61 0 4 #[35, 40, 45, 61, 49], 35) := by decide +kernel
theorem dX4_cut_36 : decode bX4_cut 36 = .ok (.lload_n 1, 1) ∧ 36 + 1 = 37 := by decide +kernel
theorem dX4_cut_37 : decode bX4_cut 37 = .ok (.l2i, 1) ∧ 37 + 1 = 38 := by decide +kernel
theorem dX4_cut_38 : decode bX4_cut 38 = .ok (.i2b, 1) ∧ 38 + 1 = 39 := by decide +kernel
theorem dX4_cut_39 : decode bX4_cut 39 = .ok (.i2l, 1) ∧ 39 + 1 = 40 := by decide +kernel
theorem dX4_cut_40 : decode bX4_cut 40 = .ok (.lreturn, 1) := by decide +kernel
theorem dX4_cut_41 : decode bX4_cut 41 = .ok (.lload_n 1, 1) ∧ 41 + 1 = 42 := by decide +kernel
theorem dX4_cut_42 : decode bX4_cut 42 = .ok (.l2i, 1) ∧ 42 + 1 = 43 := by decide +kernel
theorem dX4_cut_43 : decode bX4_cut 43 = .ok (.i2s, 1) ∧ 43 + 1 = 44 := by decide +kernel
theorem dX4_cut_44 : decode bX4_cut 44 = .ok (.i2l, 1) ∧ 44 + 1 = 45 := by decide +kernel
theorem dX4_cut_45 : decode bX4_cut 45 = .ok (.lreturn, 1) := by decide +kernel
theorem dX4_cut_46 : decode bX4_cut 46 = .ok (.lload_n 1, 1) ∧ 46 + 1 = 47 := by decide +kernel
theorem dX4_cut_47 : decode bX4_cut 47 = .ok (.l2i, 1) ∧ 47 + 1 = 48 := by decide +kernel
theorem dX4_cut_48 : decode bX4_cut 48 = .ok (.i2l, 1) ∧ 48 + 1 = 49 := by decide +kernel
theorem dX4_cut_49 : decode bX4_cut 49 = .ok (.lreturn, 1) := by decide +kernel
theorem dX4_cut_50 : decode bX4_cut 50 = .ok (.lload_n 1, 1) ∧ 50 + 1 = 51 := by decide +kernel
theorem dX4_cut_51 : decode bX4_cut 51 = .ok (.lconst 0, 1) ∧ 51 + 1 = 52 := by decide +kernel
theorem dX4_cut_52 : decode bX4_cut 52 = .ok (.lcmp, 1) ∧ 52 + 1 = 53 := by decide +kernel
theorem dX4_cut_53 : decode bX4_cut 53 = .ok (.ifCond .eq 7, 3) ∧ 53 + 3 = 56 ∧ ((53 : Nat) : Int) + (7) = ((60 : Nat) : Int) := by decide +kernel
theorem dX4_cut_56 : decode bX4_cut 56 = .ok (.lconst 1, 1) ∧ 56 + 1 = 57 := by decide +kernel
theorem dX4_cut_57 : decode bX4_cut 57 = .ok (.goto 4, 3) ∧ ((57 : Nat) : Int) + (4) = ((61 : Nat) : Int) := by decide +kernel
theorem dX4_cut_60 : decode bX4_cut 60 = .ok (.lconst 0, 1) ∧ 60 + 1 = 61 := by decide +kernel
theorem dX4_cut_61 : decode bX4_cut 61 = .ok (.lreturn, 1) := by decide +kernel
theorem dX4_cut_62 : decode bX4_cut 62 = .ok (.lload_n 1, 1) ∧ 62 + 1 = 63 := by decide +kernel
theorem dX4_cut_63 : decode bX4_cut 63 = .ok (.lreturn, 1) := by decide +kernel
theorem dX5_copyFrom_0 : decode bX5_copyFrom 0 = .ok (.aload_n 0, 1) ∧ 0 + 1 = 1 := by decide +kernel
theorem dX5_copyFrom_1 : decode bX5_copyFrom 1 = .ok (.aload_n 1, 1) ∧ 1 + 1 = 2 := by decide +kernel
theorem dX5_copyFrom_2 : decode bX5_copyFrom 2 = .ok (.getfield 9, 3) ∧ 2 + 3 = 5 := by decide +kernel
theorem dX5_copyFrom_5 : decode bX5_copyFrom 5 = .ok (.putfield 9, 3) ∧ 5 + 3 = 8 := by decide +kernel
theorem dX5_copyFrom_8 : decode bX5_copyFrom 8 = .ok (.aload_n 0, 1) ∧ 8 + 1 = 9 := by decide +kernel
theorem dX5_copyFrom_9 : decode bX5_copyFrom 9 = .ok (.aload_n 1, 1) ∧ 9 + 1 = 10 := by decide +kernel
theorem dX5_copyFrom_10 : decode bX5_copyFrom 10 = .ok (.getfield 15, 3) ∧ 10 + 3 = 13 := by decide +kernel
theorem dX5_copyFrom_13 : decode bX5_copyFrom 13 = .ok (.putfield 15, 3) ∧ 13 + 3 = 16 := by decide +kernel
theorem dX5_copyFrom_16 : decode bX5_copyFrom 16 = .ok (.aload_n 0, 1) ∧ 16 + 1 = 17 := by decide +kernel
theorem dX5_copyFrom_17 : decode bX5_copyFrom 17 = .ok (.aload_n 1, 1) ∧ 17 + 1 = 18 := by decide +kernel
theorem dX5_copyFrom_18 : decode bX5_copyFrom 18 = .ok (.getfield 18, 3) ∧ 18 + 3 = 21 := by decide +kernel
theorem dX5_copyFrom_21 : decode bX5_copyFrom 21 = .ok (.putfield 18, 3) ∧ 21 + 3 = 24 := by decide +kernel
theorem dX5_copyFrom_24 : decode bX5_copyFrom 24 = .ok (.aload_n 0, 1) ∧ 24 + 1 = 25 := by decide +kernel
theorem dX5_copyFrom_25 : decode bX5_copyFrom 25 = .ok (.iconst 0, 1) ∧ 25 + 1 = 26 := by decide +kernel
theorem dX5_copyFrom_26 : decode bX5_copyFrom 26 = .ok (.putfield 21, 3) ∧ 26 + 3 = 29 := by decide +kernel
theorem dX5_copyFrom_29 : decode bX5_copyFrom 29 = .ok (.iconst 0, 1) ∧ 29 + 1 = 30 := by decide +kernel
theorem dX5_copyFrom_30 : decode bX5_copyFrom 30 = .ok (.istore_n 2, 1) ∧ 30 + 1 = 31 := by decide +kernel
theorem dX5_copyFrom_31 : decode bX5_copyFrom 31 = .ok (.iload_n 2, 1) ∧ 31 + 1 = 32 := by decide +kernel
theorem dX5_copyFrom_32 : decode bX5_copyFrom 32 = .ok (.bipush 6, 2) ∧ 32 + 2 = 34 := by decide +kernel
theorem dX5_copyFrom_34 : decode bX5_copyFrom 34 = .ok (.if_icmp .ge 117, 3) ∧ 34 + 3 = 37 ∧ ((34 : Nat) : Int) + (117) = ((151 : Nat) : Int) := by decide +kernel
theorem dX5_copyFrom_37 : decode bX5_copyFrom 37 = .ok (.aload_n 0, 1) ∧ 37 + 1 = 38 := by decide +kernel
theorem dX5_copyFrom_38 : decode bX5_copyFrom 38 = .ok (.getfield 24, 3) ∧ 38 + 3 = 41 := by decide +kernel
theorem dX5_copyFrom_41 : decode bX5_copyFrom 41 = .ok (.iload_n 2, 1) ∧ 41 + 1 = 42 := by decide +kernel
theorem dX5_copyFrom_42 : decode bX5_copyFrom 42 = .ok (.aload_n 1, 1) ∧ 42 + 1 = 43 := by decide +kernel
theorem dX5_copyFrom_43 : decode bX5_copyFrom 43 = .ok (.getfield 24, 3) ∧ 43 + 3 = 46 := by decide +kernel
theorem dX5_copyFrom_46 : decode bX5_copyFrom 46 = .ok (.iload_n 2, 1) ∧ 46 + 1 = 47 := by decide +kernel
theorem dX5_copyFrom_47 : decode bX5_copyFrom 47 = .ok (.iaload, 1) ∧ 47 + 1 = 48 := by decide +kernel
theorem dX5_copyFrom_48 : decode bX5_copyFrom 48 = .ok (.iastore, 1) ∧ 48 + 1 = 49 := by decide +kernel
theorem dX5_copyFrom_49 : decode bX5_copyFrom 49 = .ok (.aload_n 0, 1) ∧ 49 + 1 = 50 := by decide +kernel
theorem dX5_copyFrom_50 : decode bX5_copyFrom 50 = .ok (.getfield 28, 3) ∧ 50 + 3 = 53 := by decide +kernel
theorem dX5_copyFrom_53 : decode bX5_copyFrom 53 = .ok (.iload_n 2, 1) ∧ 53 + 1 = 54 := by decide +kernel
theorem dX5_copyFrom_54 : decode bX5_copyFrom 54 = .ok (.aload_n 1, 1) ∧ 54 + 1 = 55 := by decide +kernel
theorem dX5_copyFrom_55 : decode bX5_copyFrom 55 = .ok (.getfield 28, 3) ∧ 55 + 3 = 58 := by decide +kernel
theorem dX5_copyFrom_58 : decode bX5_copyFrom 58 = .ok (.iload_n 2, 1) ∧ 58 + 1 = 59 := by decide +kernel
theorem dX5_copyFrom_59 : decode bX5_copyFrom 59 = .ok (.iaload, 1) ∧ 59 + 1 = 60 := by decide +kernel
theorem dX5_copyFrom_60 : decode bX5_copyFrom 60 = .ok (.iastore, 1) ∧ 60 + 1 = 61 := by decide +kernel
theorem dX5_copyFrom_61 : decode bX5_copyFrom 61 = .ok (.aload_n 0, 1) ∧ 61 + 1 = 62 := by decide +kernel
theorem dX5_copyFrom_62 : decode bX5_copyFrom 62 = .ok (.getfield 31, 3) ∧ 62 + 3 = 65 := by decide +kernel
theorem dX5_copyFrom_65 : decode bX5_copyFrom 65 = .ok (.iload_n 2, 1) ∧ 65 + 1 = 66 := by decide +kernel
theorem dX5_copyFrom_66 : decode bX5_copyFrom 66 = .ok (.aload_n 1, 1) ∧ 66 + 1 = 67 := by decide +kernel
theorem dX5_copyFrom_67 : decode bX5_copyFrom 67 = .ok (.getfield 31, 3) ∧ 67 + 3 = 70 := by decide +kernel
theorem dX5_copyFrom_70 : decode bX5_copyFrom 70 = .ok (.iload_n 2, 1) ∧ 70 + 1 = 71 := by decide +kernel
theorem dX5_copyFrom_71 : decode bX5_copyFrom 71 = .ok (.iaload, 1) ∧ 71 + 1 = 72 := by decide +kernel
theorem dX5_copyFrom_72 : decode bX5_copyFrom 72 = .ok (.iastore, 1) ∧ 72 + 1 = 73 := by decide +kernel
theorem dX5_copyFrom_73 : decode bX5_copyFrom 73 = .ok (.aload_n 0, 1) ∧ 73 + 1 = 74 := by decide +kernel
theorem dX5_copyFrom_74 : decode bX5_copyFrom 74 = .ok (.getfield 34, 3) ∧ 74 + 3 = 77 := by decide +kernel
theorem dX5_copyFrom_77 : decode bX5_copyFrom 77 = .ok (.iload_n 2, 1) ∧ 77 + 1 = 78 := by decide +kernel
theorem dX5_copyFrom_78 : decode bX5_copyFrom 78 = .ok (.aload_n 1, 1) ∧ 78 + 1 = 79 := by decide +kernel
theorem dX5_copyFrom_79 : decode bX5_copyFrom 79 = .ok (.getfield 34, 3) ∧ 79 + 3 = 82 := by decide +kernel
theorem dX5_copyFrom_82 : decode bX5_copyFrom 82 = .ok (.iload_n 2, 1) ∧ 82 + 1 = 83 := by decide +kernel
theorem dX5_copyFrom_83 : decode bX5_copyFrom 83 = .ok (.iaload, 1) ∧ 83 + 1 = 84 := by decide +kernel
theorem dX5_copyFrom_84 : decode bX5_copyFrom 84 = .ok (.iastore, 1) ∧ 84 + 1 = 85 := by decide +kernel
theorem dX5_copyFrom_85 : decode bX5_copyFrom 85 = .ok (.aload_n 0, 1) ∧ 85 + 1 = 86 := by decide +kernel
theorem dX5_copyFrom_86 : decode bX5_copyFrom 86 = .ok (.getfield 37, 3) ∧ 86 + 3 = 89 := by decide +kernel
theorem dX5_copyFrom_89 : decode bX5_copyFrom 89 = .ok (.iload_n 2, 1) ∧ 89 + 1 = 90 := by decide +kernel
theorem dX5_copyFrom_90 : decode bX5_copyFrom 90 = .ok (.aload_n 1, 1) ∧ 90 + 1 = 91 := by decide +kernel
theorem dX5_copyFrom_91 : decode bX5_copyFrom 91 = .ok (.getfield 37, 3) ∧ 91 + 3 = 94 := by decide +kernel
theorem dX5_copyFrom_94 : decode bX5_copyFrom 94 = .ok (.iload_n 2, 1) ∧ 94 + 1 = 95 := by decide +kernel
theorem dX5_copyFrom_95 : decode bX5_copyFrom 95 = .ok (.iaload, 1) ∧ 95 + 1 = 96 := by decide +kernel
theorem dX5_copyFrom_96 : decode bX5_copyFrom 96 = .ok (.iastore, 1) ∧ 96 + 1 = 97 := by decide +kernel
theorem dX5_copyFrom_97 : decode bX5_copyFrom 97 = .ok (.aload_n 0, 1) ∧ 97 + 1 = 98 := by decide +kernel
theorem dX5_copyFrom_98 : decode bX5_copyFrom 98 = .ok (.getfield 40, 3) ∧ 98 + 3 = 101 := by decide +kernel
theorem dX5_copyFrom_101 : decode bX5_copyFrom 101 = .ok (.iload_n 2, 1) ∧ 101 + 1 = 102 := by decide +kernel
theorem dX5_copyFrom_102 : decode bX5_copyFrom 102 = .ok (.aload_n 1, 1) ∧ 102 + 1 = 103 := by decide +kernel
theorem dX5_copyFrom_103 : decode bX5_copyFrom 103 = .ok (.getfield 40, 3) ∧ 103 + 3 = 106 := by decide +kernel
theorem dX5_copyFrom_106 : decode bX5_copyFrom 106 = .ok (.iload_n 2, 1) ∧ 106 + 1 = 107 := by decide +kernel
theorem dX5_copyFrom_107 : decode bX5_copyFrom 107 = .ok (.iaload, 1) ∧ 107 + 1 = 108 := by decide +kernel
theorem dX5_copyFrom_108 : decode bX5_copyFrom 108 = .ok (.iastore, 1) ∧ 108 + 1 = 109 := by decide +kernel
theorem dX5_copyFrom_109 : decode bX5_copyFrom 109 = .ok (.aload_n 0, 1) ∧ 109 + 1 = 110 := by decide +kernel
theorem dX5_copyFrom_110 : decode bX5_copyFrom 110 = .ok (.getfield 43, 3) ∧ 110 + 3 = 113 := by decide +kernel
theorem dX5_copyFrom_113 : decode bX5_copyFrom 113 = .ok (.iload_n 2, 1) ∧ 113 + 1 = 114 := by decide +kernel
theorem dX5_copyFrom_114 : decode bX5_copyFrom 114 = .ok (.aload_n 1, 1) ∧ 114 + 1 = 115 := by decide +kernel
theorem dX5_copyFrom_115 : decode bX5_copyFrom 115 = .ok (.getfield 43, 3) ∧ 115 + 3 = 118 := by decide +kernel
theorem dX5_copyFrom_118 : decode bX5_copyFrom 118 = .ok (.iload_n 2, 1) ∧ 118 + 1 = 119 := by decide +kernel
theorem dX5_copyFrom_119 : decode bX5_copyFrom 119 = .ok (.iaload, 1) ∧ 119 + 1 = 120 := by decide +kernel
theorem dX5_copyFrom_120 : decode bX5_copyFrom 120 = .ok (.iastore, 1) ∧ 120 + 1 = 121 := by decide +kernel
theorem dX5_copyFrom_121 : decode bX5_copyFrom 121 = .ok (.aload_n 0, 1) ∧ 121 + 1 = 122 := by decide +kernel
theorem dX5_copyFrom_122 : decode bX5_copyFrom 122 = .ok (.getfield 46, 3) ∧ 122 + 3 = 125 := by decide +kernel
theorem dX5_copyFrom_125 : decode bX5_copyFrom 125 = .ok (.iload_n 2, 1) ∧ 125 + 1 = 126 := by decide +kernel
theorem dX5_copyFrom_126 : decode bX5_copyFrom 126 = .ok (.aload_n 1, 1) ∧ 126 + 1 = 127 := by decide +kernel
theorem dX5_copyFrom_127 : decode bX5_copyFrom 127 = .ok (.getfield 46, 3) ∧ 127 + 3 = 130 := by decide +kernel
theorem dX5_copyFrom_130 : decode bX5_copyFrom 130 = .ok (.iload_n 2, 1) ∧ 130 + 1 = 131 := by decide +kernel
theorem dX5_copyFrom_131 : decode bX5_copyFrom 131 = .ok (.iaload, 1) ∧ 131 + 1 = 132 := by decide +kernel
theorem dX5_copyFrom_132 : decode bX5_copyFrom 132 = .ok (.iastore, 1) ∧ 132 + 1 = 133 := by decide +kernel
theorem dX5_copyFrom_133 : decode bX5_copyFrom 133 = .ok (.aload_n 0, 1) ∧ 133 + 1 = 134 := by decide +kernel
theorem dX5_copyFrom_134 : decode bX5_copyFrom 134 = .ok (.getfield 49, 3) ∧ 134 + 3 = 137 := by decide +kernel
theorem dX5_copyFrom_137 : decode bX5_copyFrom 137 = .ok (.iload_n 2, 1) ∧ 137 + 1 = 138 := by decide +kernel
theorem dX5_copyFrom_138 : decode bX5_copyFrom 138 = .ok (.aload_n 1, 1) ∧ 138 + 1 = 139 := by decide +kernel
theorem dX5_copyFrom_139 : decode bX5_copyFrom 139 = .ok (.getfield 49, 3) ∧ 139 + 3 = 142 := by decide +kernel
theorem dX5_copyFrom_142 : decode bX5_copyFrom 142 = .ok (.iload_n 2, 1) ∧ 142 + 1 = 143 := by decide +kernel
theorem dX5_copyFrom_143 : decode bX5_copyFrom 143 = .ok (.iaload, 1) ∧ 143 + 1 = 144 := by decide +kernel
theorem dX5_copyFrom_144 : decode bX5_copyFrom 144 = .ok (.iastore, 1) ∧ 144 + 1 = 145 := by decide +kernel
theorem dX5_copyFrom_145 : decode bX5_copyFrom 145 = .ok (.iinc 2 1, 3) ∧ 145 + 3 = 148 := by decide +kernel
theorem dX5_copyFrom_148 : decode bX5_copyFrom 148 = .ok (.goto (-117), 3) ∧ ((148 : Nat) : Int) + (-117) = ((31 : Nat) : Int) := by decide +kernel
theorem dX5_copyFrom_151 : decode bX5_copyFrom 151 = .ok (.aload_n 1, 1) ∧ 151 + 1 = 152 := by decide +kernel
theorem dX5_copyFrom_152 : decode bX5_copyFrom 152 = .ok (.getfield 52, 3) ∧ 152 + 3 = 155 := by decide +kernel
theorem dX5_copyFrom_155 : decode bX5_copyFrom 155 = .ok (.iconst 0, 1) ∧ 155 + 1 = 156 := by decide +kernel
theorem dX5_copyFrom_156 : decode bX5_copyFrom 156 = .ok (.aload_n 0, 1) ∧ 156 + 1 = 157 := by decide +kernel
theorem dX5_copyFrom_157 : decode bX5_copyFrom 157 = .ok (.getfield 52, 3) ∧ 157 + 3 = 160 := by decide +kernel
theorem dX5_copyFrom_160 : decode bX5_copyFrom 160 = .ok (.iconst 0, 1) ∧ 160 + 1 = 161 := by decide +kernel
theorem dX5_copyFrom_161 : decode bX5_copyFrom 161 = .ok (.bipush 24, 2) ∧ 161 + 2 = 163 := by decide +kernel
theorem dX5_copyFrom_163 : decode bX5_copyFrom 163 = .ok (.invokestatic 55, 3) ∧ 163 + 3 = 166 := by decide +kernel
theorem dX5_copyFrom_166 : decode bX5_copyFrom 166 = .ok (.return_, 1) := by decide +kernel
theorem dX5_join_0 : decode bX5_join 0 = .ok (.aload_n 0, 1) ∧ 0 + 1 = 1 := by decide +kernel
theorem dX5_join_1 : decode bX5_join 1 = .ok (.getfield 18, 3) ∧ 1 + 3 = 4 := by decide +kernel
theorem dX5_join_4 : decode bX5_join 4 = .ok (.istore 5, 2) ∧ 4 + 2 = 6 := by decide +kernel
theorem dX5_join_6 : decode bX5_join 6 = .ok (.iload 5, 2) ∧ 6 + 2 = 8 := by decide +kernel
theorem dX5_join_8 : decode bX5_join 8 = .ok (.bipush 6, 2) ∧ 8 + 2 = 10 := by decide +kernel
theorem dX5_join_10 : decode bX5_join 10 = .ok (.if_icmp .lt 6, 3) ∧ 10 + 3 = 13 ∧ ((10 : Nat) : Int) + (6) = ((16 : Nat) : Int) := by decide +kernel
theorem dX5_join_13 : decode bX5_join 13 = .ok (.bipush (-4), 2) ∧ 13 + 2 = 15 := by decide +kernel
theorem dX5_join_15 : decode bX5_join 15 = .ok (.ireturn, 1) := by decide +kernel
theorem dX5_join_16 : decode bX5_join 16 = .ok (.aload_n 0, 1) ∧ 16 + 1 = 17 := by decide +kernel
theorem dX5_join_17 : decode bX5_join 17 = .ok (.getfield 24, 3) ∧ 17 + 3 = 20 := by decide +kernel
theorem dX5_join_20 : decode bX5_join 20 = .ok (.iload 5, 2) ∧ 20 + 2 = 22 := by decide +kernel
theorem dX5_join_22 : decode bX5_join 22 = .ok (.iload_n 1, 1) ∧ 22 + 1 = 23 := by decide +kernel
theorem dX5_join_23 : decode bX5_join 23 = .ok (.iastore, 1) ∧ 23 + 1 = 24 := by decide +kernel
theorem dX5_join_24 : decode bX5_join 24 = .ok (.aload_n 0, 1) ∧ 24 + 1 = 25 := by decide +kernel
theorem dX5_join_25 : decode bX5_join 25 = .ok (.getfield 28, 3) ∧ 25 + 3 = 28 := by decide +kernel
theorem dX5_join_28 : decode bX5_join 28 = .ok (.iload 5, 2) ∧ 28 + 2 = 30 := by decide +kernel
theorem dX5_join_30 : decode bX5_join 30 = .ok (.iload_n 2, 1) ∧ 30 + 1 = 31 := by decide +kernel
theorem dX5_join_31 : decode bX5_join 31 = .ok (.iastore, 1) ∧ 31 + 1 = 32 := by decide +kernel
theorem dX5_join_32 : decode bX5_join 32 = .ok (.aload_n 0, 1) ∧ 32 + 1 = 33 := by decide +kernel
theorem dX5_join_33 : decode bX5_join 33 = .ok (.getfield 31, 3) ∧ 33 + 3 = 36 := by decide +kernel
theorem dX5_join_36 : decode bX5_join 36 = .ok (.iload 5, 2) ∧ 36 + 2 = 38 := by decide +kernel
theorem dX5_join_38 : decode bX5_join 38 = .ok (.iload_n 3, 1) ∧ 38 + 1 = 39 := by decide +kernel
theorem dX5_join_39 : decode bX5_join 39 = .ok (.iastore, 1) ∧ 39 + 1 = 40 := by decide +kernel
theorem dX5_join_40 : decode bX5_join 40 = .ok (.aload_n 0, 1) ∧ 40 + 1 = 41 := by decide +kernel
theorem dX5_join_41 : decode bX5_join 41 = .ok (.getfield 34, 3) ∧ 41 + 3 = 44 := by decide +kernel
theorem dX5_join_44 : decode bX5_join 44 = .ok (.iload 5, 2) ∧ 44 + 2 = 46 := by decide +kernel
theorem dX5_join_46 : decode bX5_join 46 = .ok (.iload 4, 2) ∧ 46 + 2 = 48 := by decide +kernel
theorem dX5_join_48 : decode bX5_join 48 = .ok (.iastore, 1) ∧ 48 + 1 = 49 := by decide +kernel
theorem dX5_join_49 : decode bX5_join 49 = .ok (.aload_n 0, 1) ∧ 49 + 1 = 50 := by decide +kernel
theorem dX5_join_50 : decode bX5_join 50 = .ok (.getfield 37, 3) ∧ 50 + 3 = 53 := by decide +kernel
theorem dX5_join_53 : decode bX5_join 53 = .ok (.iload 5, 2) ∧ 53 + 2 = 55 := by decide +kernel
theorem dX5_join_55 : decode bX5_join 55 = .ok (.iconst 0, 1) ∧ 55 + 1 = 56 := by decide +kernel
theorem dX5_join_56 : decode bX5_join 56 = .ok (.iastore, 1) ∧ 56 + 1 = 57 := by decide +kernel
theorem dX5_join_57 : decode bX5_join 57 = .ok (.aload_n 0, 1) ∧ 57 + 1 = 58 := by decide +kernel
theorem dX5_join_58 : decode bX5_join 58 = .ok (.getfield 40, 3) ∧ 58 + 3 = 61 := by decide +kernel
theorem dX5_join_61 : decode bX5_join 61 = .ok (.iload 5, 2) ∧ 61 + 2 = 63 := by decide +kernel
theorem dX5_join_63 : decode bX5_join 63 = .ok (.iconst 0, 1) ∧ 63 + 1 = 64 := by decide +kernel
theorem dX5_join_64 : decode bX5_join 64 = .ok (.iastore, 1) ∧ 64 + 1 = 65 := by decide +kernel
theorem dX5_join_65 : decode bX5_join 65 = .ok (.aload_n 0, 1) ∧ 65 + 1 = 66 := by decide +kernel
theorem dX5_join_66 : decode bX5_join 66 = .ok (.getfield 43, 3) ∧ 66 + 3 = 69 := by decide +kernel
theorem dX5_join_69 : decode bX5_join 69 = .ok (.iload 5, 2) ∧ 69 + 2 = 71 := by decide +kernel
theorem dX5_join_71 : decode bX5_join 71 = .ok (.iconst 0, 1) ∧ 71 + 1 = 72 := by decide +kernel
theorem dX5_join_72 : decode bX5_join 72 = .ok (.iastore, 1) ∧ 72 + 1 = 73 := by decide +kernel
theorem dX5_join_73 : decode bX5_join 73 = .ok (.aload_n 0, 1) ∧ 73 + 1 = 74 := by decide +kernel
theorem dX5_join_74 : decode bX5_join 74 = .ok (.getfield 46, 3) ∧ 74 + 3 = 77 := by decide +kernel
theorem dX5_join_77 : decode bX5_join 77 = .ok (.iload 5, 2) ∧ 77 + 2 = 79 := by decide +kernel
theorem dX5_join_79 : decode bX5_join 79 = .ok (.iconst 0, 1) ∧ 79 + 1 = 80 := by decide +kernel
theorem dX5_join_80 : decode bX5_join 80 = .ok (.iastore, 1) ∧ 80 + 1 = 81 := by decide +kernel
theorem dX5_join_81 : decode bX5_join 81 = .ok (.aload_n 0, 1) ∧ 81 + 1 = 82 := by decide +kernel
theorem dX5_join_82 : decode bX5_join 82 = .ok (.getfield 49, 3) ∧ 82 + 3 = 85 := by decide +kernel
theorem dX5_join_85 : decode bX5_join 85 = .ok (.iload 5, 2) ∧ 85 + 2 = 87 := by decide +kernel
theorem dX5_join_87 : decode bX5_join 87 = .ok (.iload 5, 2) ∧ 87 + 2 = 89 := by decide +kernel
theorem dX5_join_89 : decode bX5_join 89 = .ok (.iastore, 1) ∧ 89 + 1 = 90 := by decide +kernel
theorem dX5_join_90 : decode bX5_join 90 = .ok (.iconst 0, 1) ∧ 90 + 1 = 91 := by decide +kernel
theorem dX5_join_91 : decode bX5_join 91 = .ok (.istore 6, 2) ∧ 91 + 2 = 93 := by decide +kernel
theorem dX5_join_93 : decode bX5_join 93 = .ok (.iload 6, 2) ∧ 93 + 2 = 95 := by decide +kernel
theorem dX5_join_95 : decode bX5_join 95 = .ok (.iconst 4, 1) ∧ 95 + 1 = 96 := by decide +kernel
theorem dX5_join_96 : decode bX5_join 96 = .ok (.if_icmp .ge 22, 3) ∧ 96 + 3 = 99 ∧ ((96 : Nat) : Int) + (22) = ((118 : Nat) : Int) := by decide +kernel
theorem dX5_join_99 : decode bX5_join 99 = .ok (.aload_n 0, 1) ∧ 99 + 1 = 100 := by decide +kernel
theorem dX5_join_100 : decode bX5_join 100 = .ok (.getfield 52, 3) ∧ 100 + 3 = 103 := by decide +kernel
theorem dX5_join_103 : decode bX5_join 103 = .ok (.iload 5, 2) ∧ 103 + 2 = 105 := by decide +kernel
theorem dX5_join_105 : decode bX5_join 105 = .ok (.iconst 4, 1) ∧ 105 + 1 = 106 := by decide +kernel
theorem dX5_join_106 : decode bX5_join 106 = .ok (.imul, 1) ∧ 106 + 1 = 107 := by decide +kernel
theorem dX5_join_107 : decode bX5_join 107 = .ok (.iload 6, 2) ∧ 107 + 2 = 109 := by decide +kernel
theorem dX5_join_109 : decode bX5_join 109 = .ok (.iadd, 1) ∧ 109 + 1 = 110 := by decide +kernel
theorem dX5_join_110 : decode bX5_join 110 = .ok (.iconst 0, 1) ∧ 110 + 1 = 111 := by decide +kernel
theorem dX5_join_111 : decode bX5_join 111 = .ok (.iastore, 1) ∧ 111 + 1 = 112 := by decide +kernel
theorem dX5_join_112 : decode bX5_join 112 = .ok (.iinc 6 1, 3) ∧ 112 + 3 = 115 := by decide +kernel
theorem dX5_join_115 : decode bX5_join 115 = .ok (.goto (-22), 3) ∧ ((115 : Nat) : Int) + (-22) = ((93 : Nat) : Int) := by decide +kernel
theorem dX5_join_118 : decode bX5_join 118 = .ok (.aload_n 0, 1) ∧ 118 + 1 = 119 := by decide +kernel
theorem dX5_join_119 : decode bX5_join 119 = .ok (.dup, 1) ∧ 119 + 1 = 120 := by decide +kernel
theorem dX5_join_120 : decode bX5_join 120 = .ok (.getfield 18, 3) ∧ 120 + 3 = 123 := by decide +kernel
theorem dX5_join_123 : decode bX5_join 123 = .ok (.iconst 1, 1) ∧ 123 + 1 = 124 := by decide +kernel
theorem dX5_join_124 : decode bX5_join 124 = .ok (.iadd, 1) ∧ 124 + 1 = 125 := by decide +kernel
theorem dX5_join_125 : decode bX5_join 125 = .ok (.putfield 18, 3) ∧ 125 + 3 = 128 := by decide +kernel
theorem dX5_join_128 : decode bX5_join 128 = .ok (.iload 5, 2) ∧ 128 + 2 = 130 := by decide +kernel
theorem dX5_join_130 : decode bX5_join 130 = .ok (.ireturn, 1) := by decide +kernel
theorem dX5_trade_0 : decode bX5_trade 0 = .ok (.aload_n 0, 1) ∧ 0 + 1 = 1 := by decide +kernel
theorem dX5_trade_1 : decode bX5_trade 1 = .ok (.getfield 49, 3) ∧ 1 + 3 = 4 := by decide +kernel
theorem dX5_trade_4 : decode bX5_trade 4 = .ok (.iload_n 1, 1) ∧ 4 + 1 = 5 := by decide +kernel
theorem dX5_trade_5 : decode bX5_trade 5 = .ok (.iaload, 1) ∧ 5 + 1 = 6 := by decide +kernel
theorem dX5_trade_6 : decode bX5_trade 6 = .ok (.istore_n 3, 1) ∧ 6 + 1 = 7 := by decide +kernel
theorem dX5_trade_7 : decode bX5_trade 7 = .ok (.aload_n 0, 1) ∧ 7 + 1 = 8 := by decide +kernel
theorem dX5_trade_8 : decode bX5_trade 8 = .ok (.getfield 49, 3) ∧ 8 + 3 = 11 := by decide +kernel
theorem dX5_trade_11 : decode bX5_trade 11 = .ok (.iload_n 1, 1) ∧ 11 + 1 = 12 := by decide +kernel
theorem dX5_trade_12 : decode bX5_trade 12 = .ok (.aload_n 0, 1) ∧ 12 + 1 = 13 := by decide +kernel
theorem dX5_trade_13 : decode bX5_trade 13 = .ok (.getfield 49, 3) ∧ 13 + 3 = 16 := by decide +kernel
theorem dX5_trade_16 : decode bX5_trade 16 = .ok (.iload_n 2, 1) ∧ 16 + 1 = 17 := by decide +kernel
theorem dX5_trade_17 : decode bX5_trade 17 = .ok (.iaload, 1) ∧ 17 + 1 = 18 := by decide +kernel
theorem dX5_trade_18 : decode bX5_trade 18 = .ok (.iastore, 1) ∧ 18 + 1 = 19 := by decide +kernel
theorem dX5_trade_19 : decode bX5_trade 19 = .ok (.aload_n 0, 1) ∧ 19 + 1 = 20 := by decide +kernel
theorem dX5_trade_20 : decode bX5_trade 20 = .ok (.getfield 49, 3) ∧ 20 + 3 = 23 := by decide +kernel
theorem dX5_trade_23 : decode bX5_trade 23 = .ok (.iload_n 2, 1) ∧ 23 + 1 = 24 := by decide +kernel
theorem dX5_trade_24 : decode bX5_trade 24 = .ok (.iload_n 3, 1) ∧ 24 + 1 = 25 := by decide +kernel
theorem dX5_trade_25 : decode bX5_trade 25 = .ok (.iastore, 1) ∧ 25 + 1 = 26 := by decide +kernel
theorem dX5_trade_26 : decode bX5_trade 26 = .ok (.return_, 1) := by decide +kernel
theorem dX5_rise_0 : decode bX5_rise 0 = .ok (.aload_n 0, 1) ∧ 0 + 1 = 1 := by decide +kernel
theorem dX5_rise_1 : decode bX5_rise 1 = .ok (.sipush 9999, 3) ∧ 1 + 3 = 4 := by decide +kernel
theorem dX5_rise_4 : decode bX5_rise 4 = .ok (.aload_n 0, 1) ∧ 4 + 1 = 5 := by decide +kernel
theorem dX5_rise_5 : decode bX5_rise 5 = .ok (.getfield 9, 3) ∧ 5 + 3 = 8 := by decide +kernel
theorem dX5_rise_8 : decode bX5_rise 8 = .ok (.iload_n 1, 1) ∧ 8 + 1 = 9 := by decide +kernel
theorem dX5_rise_9 : decode bX5_rise 9 = .ok (.iadd, 1) ∧ 9 + 1 = 10 := by decide +kernel
theorem dX5_rise_10 : decode bX5_rise 10 = .ok (.invokestatic 61, 3) ∧ 10 + 3 = 13 := by decide +kernel
theorem dX5_rise_13 : decode bX5_rise 13 = .ok (.putfield 9, 3) ∧ 13 + 3 = 16 := by decide +kernel
theorem dX5_rise_16 : decode bX5_rise 16 = .ok (.return_, 1) := by decide +kernel
theorem dX5_callIn_0 : decode bX5_callIn 0 = .ok (.aload_n 0, 1) ∧ 0 + 1 = 1 := by decide +kernel
theorem dX5_callIn_1 : decode bX5_callIn 1 = .ok (.aload_n 0, 1) ∧ 1 + 1 = 2 := by decide +kernel
theorem dX5_callIn_2 : decode bX5_callIn 2 = .ok (.getfield 37, 3) ∧ 2 + 3 = 5 := by decide +kernel
theorem dX5_callIn_5 : decode bX5_callIn 5 = .ok (.iload_n 1, 1) ∧ 5 + 1 = 6 := by decide +kernel
theorem dX5_callIn_6 : decode bX5_callIn 6 = .ok (.iaload, 1) ∧ 6 + 1 = 7 := by decide +kernel
theorem dX5_callIn_7 : decode bX5_callIn 7 = .ok (.invokevirtual 67, 3) ∧ 7 + 3 = 10 := by decide +kernel
theorem dX5_callIn_10 : decode bX5_callIn 10 = .ok (.aload_n 0, 1) ∧ 10 + 1 = 11 := by decide +kernel
theorem dX5_callIn_11 : decode bX5_callIn 11 = .ok (.getfield 37, 3) ∧ 11 + 3 = 14 := by decide +kernel
theorem dX5_callIn_14 : decode bX5_callIn 14 = .ok (.iload_n 1, 1) ∧ 14 + 1 = 15 := by decide +kernel
theorem dX5_callIn_15 : decode bX5_callIn 15 = .ok (.iconst 0, 1) ∧ 15 + 1 = 16 := by decide +kernel
theorem dX5_callIn_16 : decode bX5_callIn 16 = .ok (.iastore, 1) ∧ 16 + 1 = 17 := by decide +kernel
theorem dX5_callIn_17 : decode bX5_callIn 17 = .ok (.aload_n 0, 1) ∧ 17 + 1 = 18 := by decide +kernel
theorem dX5_callIn_18 : decode bX5_callIn 18 = .ok (.getfield 40, 3) ∧ 18 + 3 = 21 := by decide +kernel
theorem dX5_callIn_21 : decode bX5_callIn 21 = .ok (.iload_n 1, 1) ∧ 21 + 1 = 22 := by decide +kernel
theorem dX5_callIn_22 : decode bX5_callIn 22 = .ok (.iconst 0, 1) ∧ 22 + 1 = 23 := by decide +kernel
theorem dX5_callIn_23 : decode bX5_callIn 23 = .ok (.iastore, 1) ∧ 23 + 1 = 24 := by decide +kernel
theorem dX5_callIn_24 : decode bX5_callIn 24 = .ok (.return_, 1) := by decide +kernel
theorem dX5_owesOfAll_0 : decode bX5_owesOfAll 0 = .ok (.iconst 0, 1) ∧ 0 + 1 = 1 := by decide +kernel
theorem dX5_owesOfAll_1 : decode bX5_owesOfAll 1 = .ok (.istore_n 1, 1) ∧ 1 + 1 = 2 := by decide +kernel
theorem dX5_owesOfAll_2 : decode bX5_owesOfAll 2 = .ok (.iconst 0, 1) ∧ 2 + 1 = 3 := by decide +kernel
theorem dX5_owesOfAll_3 : decode bX5_owesOfAll 3 = .ok (.istore_n 2, 1) ∧ 3 + 1 = 4 := by decide +kernel
theorem dX5_owesOfAll_4 : decode bX5_owesOfAll 4 = .ok (.iload_n 2, 1) ∧ 4 + 1 = 5 := by decide +kernel
theorem dX5_owesOfAll_5 : decode bX5_owesOfAll 5 = .ok (.aload_n 0, 1) ∧ 5 + 1 = 6 := by decide +kernel
theorem dX5_owesOfAll_6 : decode bX5_owesOfAll 6 = .ok (.getfield 18, 3) ∧ 6 + 3 = 9 := by decide +kernel
theorem dX5_owesOfAll_9 : decode bX5_owesOfAll 9 = .ok (.if_icmp .ge 18, 3) ∧ 9 + 3 = 12 ∧ ((9 : Nat) : Int) + (18) = ((27 : Nat) : Int) := by decide +kernel
theorem dX5_owesOfAll_12 : decode bX5_owesOfAll 12 = .ok (.iload_n 1, 1) ∧ 12 + 1 = 13 := by decide +kernel
theorem dX5_owesOfAll_13 : decode bX5_owesOfAll 13 = .ok (.aload_n 0, 1) ∧ 13 + 1 = 14 := by decide +kernel
theorem dX5_owesOfAll_14 : decode bX5_owesOfAll 14 = .ok (.getfield 43, 3) ∧ 14 + 3 = 17 := by decide +kernel
theorem dX5_owesOfAll_17 : decode bX5_owesOfAll 17 = .ok (.iload_n 2, 1) ∧ 17 + 1 = 18 := by decide +kernel
theorem dX5_owesOfAll_18 : decode bX5_owesOfAll 18 = .ok (.iaload, 1) ∧ 18 + 1 = 19 := by decide +kernel
theorem dX5_owesOfAll_19 : decode bX5_owesOfAll 19 = .ok (.iadd, 1) ∧ 19 + 1 = 20 := by decide +kernel
theorem dX5_owesOfAll_20 : decode bX5_owesOfAll 20 = .ok (.istore_n 1, 1) ∧ 20 + 1 = 21 := by decide +kernel
theorem dX5_owesOfAll_21 : decode bX5_owesOfAll 21 = .ok (.iinc 2 1, 3) ∧ 21 + 3 = 24 := by decide +kernel
theorem dX5_owesOfAll_24 : decode bX5_owesOfAll 24 = .ok (.goto (-20), 3) ∧ ((24 : Nat) : Int) + (-20) = ((4 : Nat) : Int) := by decide +kernel
theorem dX5_owesOfAll_27 : decode bX5_owesOfAll 27 = .ok (.iload_n 1, 1) ∧ 27 + 1 = 28 := by decide +kernel
theorem dX5_owesOfAll_28 : decode bX5_owesOfAll 28 = .ok (.ireturn, 1) := by decide +kernel
theorem dX5_asks_0 : decode bX5_asks 0 = .ok (.aload_n 0, 1) ∧ 0 + 1 = 1 := by decide +kernel
theorem dX5_asks_1 : decode bX5_asks 1 = .ok (.getfield 24, 3) ∧ 1 + 3 = 4 := by decide +kernel
theorem dX5_asks_4 : decode bX5_asks 4 = .ok (.iload_n 1, 1) ∧ 4 + 1 = 5 := by decide +kernel
theorem dX5_asks_5 : decode bX5_asks 5 = .ok (.iaload, 1) ∧ 5 + 1 = 6 := by decide +kernel
theorem dX5_asks_6 : decode bX5_asks 6 = .ok (.tableswitch 90 2 6 #[34, 90, 90, 43, 65], 34) := by decide +kernel
theorem dX5_asks_40 : decode bX5_asks 40 = .ok (.iconst 2, 1) ∧ 40 + 1 = 41 := by decide +kernel
theorem dX5_asks_41 : decode bX5_asks 41 = .ok (.aload_n 0, 1) ∧ 41 + 1 = 42 := by decide +kernel
theorem dX5_asks_42 : decode bX5_asks 42 = .ok (.getfield 31, 3) ∧ 42 + 3 = 45 := by decide +kernel
theorem dX5_asks_45 : decode bX5_asks 45 = .ok (.iload_n 1, 1) ∧ 45 + 1 = 46 := by decide +kernel
theorem dX5_asks_46 : decode bX5_asks 46 = .ok (.iaload, 1) ∧ 46 + 1 = 47 := by decide +kernel
theorem dX5_asks_47 : decode bX5_asks 47 = .ok (.imul, 1) ∧ 47 + 1 = 48 := by decide +kernel
theorem dX5_asks_48 : decode bX5_asks 48 = .ok (.ireturn, 1) := by decide +kernel
theorem dX5_asks_49 : decode bX5_asks 49 = .ok (.iconst 2, 1) ∧ 49 + 1 = 50 := by decide +kernel
theorem dX5_asks_50 : decode bX5_asks 50 = .ok (.aload_n 0, 1) ∧ 50 + 1 = 51 := by decide +kernel
theorem dX5_asks_51 : decode bX5_asks 51 = .ok (.getfield 31, 3) ∧ 51 + 3 = 54 := by decide +kernel
theorem dX5_asks_54 : decode bX5_asks 54 = .ok (.iload_n 1, 1) ∧ 54 + 1 = 55 := by decide +kernel
theorem dX5_asks_55 : decode bX5_asks 55 = .ok (.iaload, 1) ∧ 55 + 1 = 56 := by decide +kernel
theorem dX5_asks_56 : decode bX5_asks 56 = .ok (.imul, 1) ∧ 56 + 1 = 57 := by decide +kernel
theorem dX5_asks_57 : decode bX5_asks 57 = .ok (.iconst 0, 1) ∧ 57 + 1 = 58 := by decide +kernel
theorem dX5_asks_58 : decode bX5_asks 58 = .ok (.aload_n 0, 1) ∧ 58 + 1 = 59 := by decide +kernel
theorem dX5_asks_59 : decode bX5_asks 59 = .ok (.getfield 9, 3) ∧ 59 + 3 = 62 := by decide +kernel
theorem dX5_asks_62 : decode bX5_asks 62 = .ok (.iload_n 2, 1) ∧ 62 + 1 = 63 := by decide +kernel
theorem dX5_asks_63 : decode bX5_asks 63 = .ok (.isub, 1) ∧ 63 + 1 = 64 := by decide +kernel
theorem dX5_asks_64 : decode bX5_asks 64 = .ok (.invokestatic 71, 3) ∧ 64 + 3 = 67 := by decide +kernel
theorem dX5_asks_67 : decode bX5_asks 67 = .ok (.invokestatic 61, 3) ∧ 67 + 3 = 70 := by decide +kernel
theorem dX5_asks_70 : decode bX5_asks 70 = .ok (.ireturn, 1) := by decide +kernel
theorem dX5_asks_71 : decode bX5_asks 71 = .ok (.aload_n 0, 1) ∧ 71 + 1 = 72 := by decide +kernel
theorem dX5_asks_72 : decode bX5_asks 72 = .ok (.getfield 31, 3) ∧ 72 + 3 = 75 := by decide +kernel
theorem dX5_asks_75 : decode bX5_asks 75 = .ok (.iload_n 1, 1) ∧ 75 + 1 = 76 := by decide +kernel
theorem dX5_asks_76 : decode bX5_asks 76 = .ok (.iaload, 1) ∧ 76 + 1 = 77 := by decide +kernel
theorem dX5_asks_77 : decode bX5_asks 77 = .ok (.aload_n 0, 1) ∧ 77 + 1 = 78 := by decide +kernel
theorem dX5_asks_78 : decode bX5_asks 78 = .ok (.getfield 52, 3) ∧ 78 + 3 = 81 := by decide +kernel
theorem dX5_asks_81 : decode bX5_asks 81 = .ok (.iload_n 1, 1) ∧ 81 + 1 = 82 := by decide +kernel
theorem dX5_asks_82 : decode bX5_asks 82 = .ok (.iconst 4, 1) ∧ 82 + 1 = 83 := by decide +kernel
theorem dX5_asks_83 : decode bX5_asks 83 = .ok (.imul, 1) ∧ 83 + 1 = 84 := by decide +kernel
theorem dX5_asks_84 : decode bX5_asks 84 = .ok (.aload_n 0, 1) ∧ 84 + 1 = 85 := by decide +kernel
theorem dX5_asks_85 : decode bX5_asks 85 = .ok (.getfield 15, 3) ∧ 85 + 3 = 88 := by decide +kernel
theorem dX5_asks_88 : decode bX5_asks 88 = .ok (.iconst 4, 1) ∧ 88 + 1 = 89 := by decide +kernel
theorem dX5_asks_89 : decode bX5_asks 89 = .ok (.invokestatic 74, 3) ∧ 89 + 3 = 92 := by decide +kernel
theorem dX5_asks_92 : decode bX5_asks 92 = .ok (.iadd, 1) ∧ 92 + 1 = 93 := by decide +kernel
theorem dX5_asks_93 : decode bX5_asks 93 = .ok (.iaload, 1) ∧ 93 + 1 = 94 := by decide +kernel
theorem dX5_asks_94 : decode bX5_asks 94 = .ok (.iadd, 1) ∧ 94 + 1 = 95 := by decide +kernel
theorem dX5_asks_95 : decode bX5_asks 95 = .ok (.ireturn, 1) := by decide +kernel
theorem dX5_asks_96 : decode bX5_asks 96 = .ok (.aload_n 0, 1) ∧ 96 + 1 = 97 := by decide +kernel
theorem dX5_asks_97 : decode bX5_asks 97 = .ok (.getfield 31, 3) ∧ 97 + 3 = 100 := by decide +kernel
theorem dX5_asks_100 : decode bX5_asks 100 = .ok (.iload_n 1, 1) ∧ 100 + 1 = 101 := by decide +kernel
theorem dX5_asks_101 : decode bX5_asks 101 = .ok (.iaload, 1) ∧ 101 + 1 = 102 := by decide +kernel
theorem dX5_asks_102 : decode bX5_asks 102 = .ok (.ireturn, 1) := by decide +kernel
theorem dX5_keeps_0 : decode bX5_keeps 0 = .ok (.aload_n 0, 1) ∧ 0 + 1 = 1 := by decide +kernel
theorem dX5_keeps_1 : decode bX5_keeps 1 = .ok (.getfield 24, 3) ∧ 1 + 3 = 4 := by decide +kernel
theorem dX5_keeps_4 : decode bX5_keeps 4 = .ok (.iload_n 1, 1) ∧ 4 + 1 = 5 := by decide +kernel
theorem dX5_keeps_5 : decode bX5_keeps 5 = .ok (.iaload, 1) ∧ 5 + 1 = 6 := by decide +kernel
theorem dX5_keeps_6 : decode bX5_keeps 6 = .ok (.iconst 1, 1) ∧ 6 + 1 = 7 := by decide +kernel
theorem dX5_keeps_7 : decode bX5_keeps 7 = .ok (.if_icmp .eq 13, 3) ∧ 7 + 3 = 10 ∧ ((7 : Nat) : Int) + (13) = ((20 : Nat) : Int) := by decide +kernel
theorem dX5_keeps_10 : decode bX5_keeps 10 = .ok (.aload_n 0, 1) ∧ 10 + 1 = 11 := by decide +kernel
theorem dX5_keeps_11 : decode bX5_keeps 11 = .ok (.getfield 24, 3) ∧ 11 + 3 = 14 := by decide +kernel
theorem dX5_keeps_14 : decode bX5_keeps 14 = .ok (.iload_n 1, 1) ∧ 14 + 1 = 15 := by decide +kernel
theorem dX5_keeps_15 : decode bX5_keeps 15 = .ok (.iaload, 1) ∧ 15 + 1 = 16 := by decide +kernel
theorem dX5_keeps_16 : decode bX5_keeps 16 = .ok (.iconst 4, 1) ∧ 16 + 1 = 17 := by decide +kernel
theorem dX5_keeps_17 : decode bX5_keeps 17 = .ok (.if_icmp .ne 14, 3) ∧ 17 + 3 = 20 ∧ ((17 : Nat) : Int) + (14) = ((31 : Nat) : Int) := by decide +kernel
theorem dX5_keeps_20 : decode bX5_keeps 20 = .ok (.iconst 3, 1) ∧ 20 + 1 = 21 := by decide +kernel
theorem dX5_keeps_21 : decode bX5_keeps 21 = .ok (.aload_n 0, 1) ∧ 21 + 1 = 22 := by decide +kernel
theorem dX5_keeps_22 : decode bX5_keeps 22 = .ok (.getfield 28, 3) ∧ 22 + 3 = 25 := by decide +kernel
theorem dX5_keeps_25 : decode bX5_keeps 25 = .ok (.iload_n 1, 1) ∧ 25 + 1 = 26 := by decide +kernel
theorem dX5_keeps_26 : decode bX5_keeps 26 = .ok (.iaload, 1) ∧ 26 + 1 = 27 := by decide +kernel
theorem dX5_keeps_27 : decode bX5_keeps 27 = .ok (.iadd, 1) ∧ 27 + 1 = 28 := by decide +kernel
theorem dX5_keeps_28 : decode bX5_keeps 28 = .ok (.goto 4, 3) ∧ ((28 : Nat) : Int) + (4) = ((32 : Nat) : Int) := by decide +kernel
theorem dX5_keeps_31 : decode bX5_keeps 31 = .ok (.iconst 3, 1) ∧ 31 + 1 = 32 := by decide +kernel
theorem dX5_keeps_32 : decode bX5_keeps 32 = .ok (.ireturn, 1) := by decide +kernel
theorem dX5_staysAway_0 : decode bX5_staysAway 0 = .ok (.aload_n 0, 1) ∧ 0 + 1 = 1 := by decide +kernel
theorem dX5_staysAway_1 : decode bX5_staysAway 1 = .ok (.getfield 24, 3) ∧ 1 + 3 = 4 := by decide +kernel
theorem dX5_staysAway_4 : decode bX5_staysAway 4 = .ok (.iload_n 1, 1) ∧ 4 + 1 = 5 := by decide +kernel
theorem dX5_staysAway_5 : decode bX5_staysAway 5 = .ok (.iaload, 1) ∧ 5 + 1 = 6 := by decide +kernel
theorem dX5_staysAway_6 : decode bX5_staysAway 6 = .ok (.iconst 4, 1) ∧ 6 + 1 = 7 := by decide +kernel
theorem dX5_staysAway_7 : decode bX5_staysAway 7 = .ok (.if_icmp .ne 18, 3) ∧ 7 + 3 = 10 ∧ ((7 : Nat) : Int) + (18) = ((25 : Nat) : Int) := by decide +kernel
theorem dX5_staysAway_10 : decode bX5_staysAway 10 = .ok (.aload_n 0, 1) ∧ 10 + 1 = 11 := by decide +kernel
theorem dX5_staysAway_11 : decode bX5_staysAway 11 = .ok (.getfield 43, 3) ∧ 11 + 3 = 14 := by decide +kernel
theorem dX5_staysAway_14 : decode bX5_staysAway 14 = .ok (.iload_n 1, 1) ∧ 14 + 1 = 15 := by decide +kernel
theorem dX5_staysAway_15 : decode bX5_staysAway 15 = .ok (.iaload, 1) ∧ 15 + 1 = 16 := by decide +kernel
theorem dX5_staysAway_16 : decode bX5_staysAway 16 = .ok (.bipush 30, 2) ∧ 16 + 2 = 18 := by decide +kernel
theorem dX5_staysAway_18 : decode bX5_staysAway 18 = .ok (.if_icmp .le 7, 3) ∧ 18 + 3 = 21 ∧ ((18 : Nat) : Int) + (7) = ((25 : Nat) : Int) := by decide +kernel
theorem dX5_staysAway_21 : decode bX5_staysAway 21 = .ok (.iconst 1, 1) ∧ 21 + 1 = 22 := by decide +kernel
theorem dX5_staysAway_22 : decode bX5_staysAway 22 = .ok (.goto 4, 3) ∧ ((22 : Nat) : Int) + (4) = ((26 : Nat) : Int) := by decide +kernel
theorem dX5_staysAway_25 : decode bX5_staysAway 25 = .ok (.iconst 0, 1) ∧ 25 + 1 = 26 := by decide +kernel
theorem dX5_staysAway_26 : decode bX5_staysAway 26 = .ok (.ireturn, 1) := by decide +kernel
theorem dX5_bringsBack_0 : decode bX5_bringsBack 0 = .ok (.aload_n 0, 1) ∧ 0 + 1 = 1 := by decide +kernel
theorem dX5_bringsBack_1 : decode bX5_bringsBack 1 = .ok (.getfield 24, 3) ∧ 1 + 3 = 4 := by decide +kernel
theorem dX5_bringsBack_4 : decode bX5_bringsBack 4 = .ok (.iload_n 1, 1) ∧ 4 + 1 = 5 := by decide +kernel
theorem dX5_bringsBack_5 : decode bX5_bringsBack 5 = .ok (.iaload, 1) ∧ 5 + 1 = 6 := by decide +kernel
theorem dX5_bringsBack_6 : decode bX5_bringsBack 6 = .ok (.iconst 3, 1) ∧ 6 + 1 = 7 := by decide +kernel
theorem dX5_bringsBack_7 : decode bX5_bringsBack 7 = .ok (.if_icmp .eq 14, 3) ∧ 7 + 3 = 10 ∧ ((7 : Nat) : Int) + (14) = ((21 : Nat) : Int) := by decide +kernel
theorem dX5_bringsBack_10 : decode bX5_bringsBack 10 = .ok (.aload_n 0, 1) ∧ 10 + 1 = 11 := by decide +kernel
theorem dX5_bringsBack_11 : decode bX5_bringsBack 11 = .ok (.getfield 24, 3) ∧ 11 + 3 = 14 := by decide +kernel
theorem dX5_bringsBack_14 : decode bX5_bringsBack 14 = .ok (.iload_n 1, 1) ∧ 14 + 1 = 15 := by decide +kernel
theorem dX5_bringsBack_15 : decode bX5_bringsBack 15 = .ok (.iaload, 1) ∧ 15 + 1 = 16 := by decide +kernel
theorem dX5_bringsBack_16 : decode bX5_bringsBack 16 = .ok (.bipush 6, 2) ∧ 16 + 2 = 18 := by decide +kernel
theorem dX5_bringsBack_18 : decode bX5_bringsBack 18 = .ok (.if_icmp .ne 22, 3) ∧ 18 + 3 = 21 ∧ ((18 : Nat) : Int) + (22) = ((40 : Nat) : Int) := by decide +kernel
theorem dX5_bringsBack_21 : decode bX5_bringsBack 21 = .ok (.aload_n 0, 1) ∧ 21 + 1 = 22 := by decide +kernel
theorem dX5_bringsBack_22 : decode bX5_bringsBack 22 = .ok (.getfield 37, 3) ∧ 22 + 3 = 25 := by decide +kernel
theorem dX5_bringsBack_25 : decode bX5_bringsBack 25 = .ok (.iload_n 1, 1) ∧ 25 + 1 = 26 := by decide +kernel
theorem dX5_bringsBack_26 : decode bX5_bringsBack 26 = .ok (.iaload, 1) ∧ 26 + 1 = 27 := by decide +kernel
theorem dX5_bringsBack_27 : decode bX5_bringsBack 27 = .ok (.aload_n 0, 1) ∧ 27 + 1 = 28 := by decide +kernel
theorem dX5_bringsBack_28 : decode bX5_bringsBack 28 = .ok (.getfield 37, 3) ∧ 28 + 3 = 31 := by decide +kernel
theorem dX5_bringsBack_31 : decode bX5_bringsBack 31 = .ok (.iload_n 1, 1) ∧ 31 + 1 = 32 := by decide +kernel
theorem dX5_bringsBack_32 : decode bX5_bringsBack 32 = .ok (.iaload, 1) ∧ 32 + 1 = 33 := by decide +kernel
theorem dX5_bringsBack_33 : decode bX5_bringsBack 33 = .ok (.bipush 10, 2) ∧ 33 + 2 = 35 := by decide +kernel
theorem dX5_bringsBack_35 : decode bX5_bringsBack 35 = .ok (.idiv, 1) ∧ 35 + 1 = 36 := by decide +kernel
theorem dX5_bringsBack_36 : decode bX5_bringsBack 36 = .ok (.isub, 1) ∧ 36 + 1 = 37 := by decide +kernel
theorem dX5_bringsBack_37 : decode bX5_bringsBack 37 = .ok (.goto 9, 3) ∧ ((37 : Nat) : Int) + (9) = ((46 : Nat) : Int) := by decide +kernel
theorem dX5_bringsBack_40 : decode bX5_bringsBack 40 = .ok (.aload_n 0, 1) ∧ 40 + 1 = 41 := by decide +kernel
theorem dX5_bringsBack_41 : decode bX5_bringsBack 41 = .ok (.getfield 37, 3) ∧ 41 + 3 = 44 := by decide +kernel
theorem dX5_bringsBack_44 : decode bX5_bringsBack 44 = .ok (.iload_n 1, 1) ∧ 44 + 1 = 45 := by decide +kernel
theorem dX5_bringsBack_45 : decode bX5_bringsBack 45 = .ok (.iaload, 1) ∧ 45 + 1 = 46 := by decide +kernel
theorem dX5_bringsBack_46 : decode bX5_bringsBack 46 = .ok (.ireturn, 1) := by decide +kernel
theorem dX5_goDay_0 : decode bX5_goDay 0 = .ok (.iconst 0, 1) ∧ 0 + 1 = 1 := by decide +kernel
theorem dX5_goDay_1 : decode bX5_goDay 1 = .ok (.istore 4, 2) ∧ 1 + 2 = 3 := by decide +kernel
theorem dX5_goDay_3 : decode bX5_goDay 3 = .ok (.iload 4, 2) ∧ 3 + 2 = 5 := by decide +kernel
theorem dX5_goDay_5 : decode bX5_goDay 5 = .ok (.aload_n 0, 1) ∧ 5 + 1 = 6 := by decide +kernel
theorem dX5_goDay_6 : decode bX5_goDay 6 = .ok (.getfield 18, 3) ∧ 6 + 3 = 9 := by decide +kernel
theorem dX5_goDay_9 : decode bX5_goDay 9 = .ok (.if_icmp .ge 80, 3) ∧ 9 + 3 = 12 ∧ ((9 : Nat) : Int) + (80) = ((89 : Nat) : Int) := by decide +kernel
theorem dX5_goDay_12 : decode bX5_goDay 12 = .ok (.aload_n 0, 1) ∧ 12 + 1 = 13 := by decide +kernel
theorem dX5_goDay_13 : decode bX5_goDay 13 = .ok (.getfield 49, 3) ∧ 13 + 3 = 16 := by decide +kernel
theorem dX5_goDay_16 : decode bX5_goDay 16 = .ok (.iload 4, 2) ∧ 16 + 2 = 18 := by decide +kernel
theorem dX5_goDay_18 : decode bX5_goDay 18 = .ok (.iaload, 1) ∧ 18 + 1 = 19 := by decide +kernel
theorem dX5_goDay_19 : decode bX5_goDay 19 = .ok (.istore 5, 2) ∧ 19 + 2 = 21 := by decide +kernel
theorem dX5_goDay_21 : decode bX5_goDay 21 = .ok (.aload_n 0, 1) ∧ 21 + 1 = 22 := by decide +kernel
theorem dX5_goDay_22 : decode bX5_goDay 22 = .ok (.getfield 37, 3) ∧ 22 + 3 = 25 := by decide +kernel
theorem dX5_goDay_25 : decode bX5_goDay 25 = .ok (.iload 5, 2) ∧ 25 + 2 = 27 := by decide +kernel
theorem dX5_goDay_27 : decode bX5_goDay 27 = .ok (.iaload, 1) ∧ 27 + 1 = 28 := by decide +kernel
theorem dX5_goDay_28 : decode bX5_goDay 28 = .ok (.ifCond .le 13, 3) ∧ 28 + 3 = 31 ∧ ((28 : Nat) : Int) + (13) = ((41 : Nat) : Int) := by decide +kernel
theorem dX5_goDay_31 : decode bX5_goDay 31 = .ok (.aload_n 0, 1) ∧ 31 + 1 = 32 := by decide +kernel
theorem dX5_goDay_32 : decode bX5_goDay 32 = .ok (.iload 5, 2) ∧ 32 + 2 = 34 := by decide +kernel
theorem dX5_goDay_34 : decode bX5_goDay 34 = .ok (.aload_n 1, 1) ∧ 34 + 1 = 35 := by decide +kernel
theorem dX5_goDay_35 : decode bX5_goDay 35 = .ok (.invokevirtual 77, 3) ∧ 35 + 3 = 38 := by decide +kernel
theorem dX5_goDay_38 : decode bX5_goDay 38 = .ok (.goto 45, 3) ∧ ((38 : Nat) : Int) + (45) = ((83 : Nat) : Int) := by decide +kernel
theorem dX5_goDay_41 : decode bX5_goDay 41 = .ok (.iload 5, 2) ∧ 41 + 2 = 43 := by decide +kernel
theorem dX5_goDay_43 : decode bX5_goDay 43 = .ok (.iload_n 3, 1) ∧ 43 + 1 = 44 := by decide +kernel
theorem dX5_goDay_44 : decode bX5_goDay 44 = .ok (.if_icmp .eq 39, 3) ∧ 44 + 3 = 47 ∧ ((44 : Nat) : Int) + (39) = ((83 : Nat) : Int) := by decide +kernel
theorem dX5_goDay_47 : decode bX5_goDay 47 = .ok (.aload_n 0, 1) ∧ 47 + 1 = 48 := by decide +kernel
theorem dX5_goDay_48 : decode bX5_goDay 48 = .ok (.getfield 34, 3) ∧ 48 + 3 = 51 := by decide +kernel
theorem dX5_goDay_51 : decode bX5_goDay 51 = .ok (.iload 5, 2) ∧ 51 + 2 = 53 := by decide +kernel
theorem dX5_goDay_53 : decode bX5_goDay 53 = .ok (.iaload, 1) ∧ 53 + 1 = 54 := by decide +kernel
theorem dX5_goDay_54 : decode bX5_goDay 54 = .ok (.ifCond .le 29, 3) ∧ 54 + 3 = 57 ∧ ((54 : Nat) : Int) + (29) = ((83 : Nat) : Int) := by decide +kernel
theorem dX5_goDay_57 : decode bX5_goDay 57 = .ok (.aload_n 0, 1) ∧ 57 + 1 = 58 := by decide +kernel
theorem dX5_goDay_58 : decode bX5_goDay 58 = .ok (.getfield 15, 3) ∧ 58 + 3 = 61 := by decide +kernel
theorem dX5_goDay_61 : decode bX5_goDay 61 = .ok (.aload_n 0, 1) ∧ 61 + 1 = 62 := by decide +kernel
theorem dX5_goDay_62 : decode bX5_goDay 62 = .ok (.getfield 34, 3) ∧ 62 + 3 = 65 := by decide +kernel
theorem dX5_goDay_65 : decode bX5_goDay 65 = .ok (.iload 5, 2) ∧ 65 + 2 = 67 := by decide +kernel
theorem dX5_goDay_67 : decode bX5_goDay 67 = .ok (.iaload, 1) ∧ 67 + 1 = 68 := by decide +kernel
theorem dX5_goDay_68 : decode bX5_goDay 68 = .ok (.irem, 1) ∧ 68 + 1 = 69 := by decide +kernel
theorem dX5_goDay_69 : decode bX5_goDay 69 = .ok (.ifCond .ne 14, 3) ∧ 69 + 3 = 72 ∧ ((69 : Nat) : Int) + (14) = ((83 : Nat) : Int) := by decide +kernel
theorem dX5_goDay_72 : decode bX5_goDay 72 = .ok (.aload_n 0, 1) ∧ 72 + 1 = 73 := by decide +kernel
theorem dX5_goDay_73 : decode bX5_goDay 73 = .ok (.iload 5, 2) ∧ 73 + 2 = 75 := by decide +kernel
theorem dX5_goDay_75 : decode bX5_goDay 75 = .ok (.iload_n 2, 1) ∧ 75 + 1 = 76 := by decide +kernel
theorem dX5_goDay_76 : decode bX5_goDay 76 = .ok (.aload_n 1, 1) ∧ 76 + 1 = 77 := by decide +kernel
theorem dX5_goDay_77 : decode bX5_goDay 77 = .ok (.getfield 81, 3) ∧ 77 + 3 = 80 := by decide +kernel
theorem dX5_goDay_80 : decode bX5_goDay 80 = .ok (.invokevirtual 86, 3) ∧ 80 + 3 = 83 := by decide +kernel
theorem dX5_goDay_83 : decode bX5_goDay 83 = .ok (.iinc 4 1, 3) ∧ 83 + 3 = 86 := by decide +kernel
theorem dX5_goDay_86 : decode bX5_goDay 86 = .ok (.goto (-83), 3) ∧ ((86 : Nat) : Int) + (-83) = ((3 : Nat) : Int) := by decide +kernel
theorem dX5_goDay_89 : decode bX5_goDay 89 = .ok (.aload_n 0, 1) ∧ 89 + 1 = 90 := by decide +kernel
theorem dX5_goDay_90 : decode bX5_goDay 90 = .ok (.aload_n 1, 1) ∧ 90 + 1 = 91 := by decide +kernel
theorem dX5_goDay_91 : decode bX5_goDay 91 = .ok (.getfield 90, 3) ∧ 91 + 3 = 94 := by decide +kernel
theorem dX5_goDay_94 : decode bX5_goDay 94 = .ok (.invokevirtual 67, 3) ∧ 94 + 3 = 97 := by decide +kernel
theorem dX5_goDay_97 : decode bX5_goDay 97 = .ok (.aload_n 0, 1) ∧ 97 + 1 = 98 := by decide +kernel
theorem dX5_goDay_98 : decode bX5_goDay 98 = .ok (.dup, 1) ∧ 98 + 1 = 99 := by decide +kernel
theorem dX5_goDay_99 : decode bX5_goDay 99 = .ok (.getfield 15, 3) ∧ 99 + 3 = 102 := by decide +kernel
theorem dX5_goDay_102 : decode bX5_goDay 102 = .ok (.iconst 1, 1) ∧ 102 + 1 = 103 := by decide +kernel
theorem dX5_goDay_103 : decode bX5_goDay 103 = .ok (.iadd, 1) ∧ 103 + 1 = 104 := by decide +kernel
theorem dX5_goDay_104 : decode bX5_goDay 104 = .ok (.putfield 15, 3) ∧ 104 + 3 = 107 := by decide +kernel
theorem dX5_goDay_107 : decode bX5_goDay 107 = .ok (.return_, 1) := by decide +kernel
theorem dX5_keepOn_0 : decode bX5_keepOn 0 = .ok (.aload_n 0, 1) ∧ 0 + 1 = 1 := by decide +kernel
theorem dX5_keepOn_1 : decode bX5_keepOn 1 = .ok (.getfield 43, 3) ∧ 1 + 3 = 4 := by decide +kernel
theorem dX5_keepOn_4 : decode bX5_keepOn 4 = .ok (.iload_n 1, 1) ∧ 4 + 1 = 5 := by decide +kernel
theorem dX5_keepOn_5 : decode bX5_keepOn 5 = .ok (.ldc 93, 2) ∧ 5 + 2 = 7 := by decide +kernel
theorem dX5_keepOn_7 : decode bX5_keepOn 7 = .ok (.aload_n 0, 1) ∧ 7 + 1 = 8 := by decide +kernel
theorem dX5_keepOn_8 : decode bX5_keepOn 8 = .ok (.getfield 43, 3) ∧ 8 + 3 = 11 := by decide +kernel
theorem dX5_keepOn_11 : decode bX5_keepOn 11 = .ok (.iload_n 1, 1) ∧ 11 + 1 = 12 := by decide +kernel
theorem dX5_keepOn_12 : decode bX5_keepOn 12 = .ok (.iaload, 1) ∧ 12 + 1 = 13 := by decide +kernel
theorem dX5_keepOn_13 : decode bX5_keepOn 13 = .ok (.aload_n 2, 1) ∧ 13 + 1 = 14 := by decide +kernel
theorem dX5_keepOn_14 : decode bX5_keepOn 14 = .ok (.aload_n 0, 1) ∧ 14 + 1 = 15 := by decide +kernel
theorem dX5_keepOn_15 : decode bX5_keepOn 15 = .ok (.iload_n 1, 1) ∧ 15 + 1 = 16 := by decide +kernel
theorem dX5_keepOn_16 : decode bX5_keepOn 16 = .ok (.invokevirtual 94, 3) ∧ 16 + 3 = 19 := by decide +kernel
theorem dX5_keepOn_19 : decode bX5_keepOn 19 = .ok (.aload_n 0, 1) ∧ 19 + 1 = 20 := by decide +kernel
theorem dX5_keepOn_20 : decode bX5_keepOn 20 = .ok (.getfield 37, 3) ∧ 20 + 3 = 23 := by decide +kernel
theorem dX5_keepOn_23 : decode bX5_keepOn 23 = .ok (.iload_n 1, 1) ∧ 23 + 1 = 24 := by decide +kernel
theorem dX5_keepOn_24 : decode bX5_keepOn 24 = .ok (.iaload, 1) ∧ 24 + 1 = 25 := by decide +kernel
theorem dX5_keepOn_25 : decode bX5_keepOn 25 = .ok (.imul, 1) ∧ 25 + 1 = 26 := by decide +kernel
theorem dX5_keepOn_26 : decode bX5_keepOn 26 = .ok (.bipush 10, 2) ∧ 26 + 2 = 28 := by decide +kernel
theorem dX5_keepOn_28 : decode bX5_keepOn 28 = .ok (.idiv, 1) ∧ 28 + 1 = 29 := by decide +kernel
theorem dX5_keepOn_29 : decode bX5_keepOn 29 = .ok (.iadd, 1) ∧ 29 + 1 = 30 := by decide +kernel
theorem dX5_keepOn_30 : decode bX5_keepOn 30 = .ok (.invokestatic 61, 3) ∧ 30 + 3 = 33 := by decide +kernel
theorem dX5_keepOn_33 : decode bX5_keepOn 33 = .ok (.iastore, 1) ∧ 33 + 1 = 34 := by decide +kernel
theorem dX5_keepOn_34 : decode bX5_keepOn 34 = .ok (.aload_n 0, 1) ∧ 34 + 1 = 35 := by decide +kernel
theorem dX5_keepOn_35 : decode bX5_keepOn 35 = .ok (.getfield 40, 3) ∧ 35 + 3 = 38 := by decide +kernel
theorem dX5_keepOn_38 : decode bX5_keepOn 38 = .ok (.iload_n 1, 1) ∧ 38 + 1 = 39 := by decide +kernel
theorem dX5_keepOn_39 : decode bX5_keepOn 39 = .ok (.iconst 0, 1) ∧ 39 + 1 = 40 := by decide +kernel
theorem dX5_keepOn_40 : decode bX5_keepOn 40 = .ok (.aload_n 0, 1) ∧ 40 + 1 = 41 := by decide +kernel
theorem dX5_keepOn_41 : decode bX5_keepOn 41 = .ok (.getfield 40, 3) ∧ 41 + 3 = 44 := by decide +kernel
theorem dX5_keepOn_44 : decode bX5_keepOn 44 = .ok (.iload_n 1, 1) ∧ 44 + 1 = 45 := by decide +kernel
theorem dX5_keepOn_45 : decode bX5_keepOn 45 = .ok (.iaload, 1) ∧ 45 + 1 = 46 := by decide +kernel
theorem dX5_keepOn_46 : decode bX5_keepOn 46 = .ok (.iconst 1, 1) ∧ 46 + 1 = 47 := by decide +kernel
theorem dX5_keepOn_47 : decode bX5_keepOn 47 = .ok (.isub, 1) ∧ 47 + 1 = 48 := by decide +kernel
theorem dX5_keepOn_48 : decode bX5_keepOn 48 = .ok (.invokestatic 71, 3) ∧ 48 + 3 = 51 := by decide +kernel
theorem dX5_keepOn_51 : decode bX5_keepOn 51 = .ok (.iastore, 1) ∧ 51 + 1 = 52 := by decide +kernel
theorem dX5_keepOn_52 : decode bX5_keepOn 52 = .ok (.aload_n 0, 1) ∧ 52 + 1 = 53 := by decide +kernel
theorem dX5_keepOn_53 : decode bX5_keepOn 53 = .ok (.getfield 40, 3) ∧ 53 + 3 = 56 := by decide +kernel
theorem dX5_keepOn_56 : decode bX5_keepOn 56 = .ok (.iload_n 1, 1) ∧ 56 + 1 = 57 := by decide +kernel
theorem dX5_keepOn_57 : decode bX5_keepOn 57 = .ok (.iaload, 1) ∧ 57 + 1 = 58 := by decide +kernel
theorem dX5_keepOn_58 : decode bX5_keepOn 58 = .ok (.ifCond .le 4, 3) ∧ 58 + 3 = 61 ∧ ((58 : Nat) : Int) + (4) = ((62 : Nat) : Int) := by decide +kernel
theorem dX5_keepOn_61 : decode bX5_keepOn 61 = .ok (.return_, 1) := by decide +kernel
theorem dX5_keepOn_62 : decode bX5_keepOn 62 = .ok (.aload_n 0, 1) ∧ 62 + 1 = 63 := by decide +kernel
theorem dX5_keepOn_63 : decode bX5_keepOn 63 = .ok (.iload_n 1, 1) ∧ 63 + 1 = 64 := by decide +kernel
theorem dX5_keepOn_64 : decode bX5_keepOn 64 = .ok (.invokevirtual 98, 3) ∧ 64 + 3 = 67 := by decide +kernel
theorem dX5_keepOn_67 : decode bX5_keepOn 67 = .ok (.ifCond .eq 17, 3) ∧ 67 + 3 = 70 ∧ ((67 : Nat) : Int) + (17) = ((84 : Nat) : Int) := by decide +kernel
theorem dX5_keepOn_70 : decode bX5_keepOn 70 = .ok (.aload_n 0, 1) ∧ 70 + 1 = 71 := by decide +kernel
theorem dX5_keepOn_71 : decode bX5_keepOn 71 = .ok (.getfield 40, 3) ∧ 71 + 3 = 74 := by decide +kernel
theorem dX5_keepOn_74 : decode bX5_keepOn 74 = .ok (.iload_n 1, 1) ∧ 74 + 1 = 75 := by decide +kernel
theorem dX5_keepOn_75 : decode bX5_keepOn 75 = .ok (.aload_n 0, 1) ∧ 75 + 1 = 76 := by decide +kernel
theorem dX5_keepOn_76 : decode bX5_keepOn 76 = .ok (.iload_n 1, 1) ∧ 76 + 1 = 77 := by decide +kernel
theorem dX5_keepOn_77 : decode bX5_keepOn 77 = .ok (.invokevirtual 102, 3) ∧ 77 + 3 = 80 := by decide +kernel
theorem dX5_keepOn_80 : decode bX5_keepOn 80 = .ok (.iastore, 1) ∧ 80 + 1 = 81 := by decide +kernel
theorem dX5_keepOn_81 : decode bX5_keepOn 81 = .ok (.goto 19, 3) ∧ ((81 : Nat) : Int) + (19) = ((100 : Nat) : Int) := by decide +kernel
theorem dX5_keepOn_84 : decode bX5_keepOn 84 = .ok (.aload_n 0, 1) ∧ 84 + 1 = 85 := by decide +kernel
theorem dX5_keepOn_85 : decode bX5_keepOn 85 = .ok (.aload_n 0, 1) ∧ 85 + 1 = 86 := by decide +kernel
theorem dX5_keepOn_86 : decode bX5_keepOn 86 = .ok (.iload_n 1, 1) ∧ 86 + 1 = 87 := by decide +kernel
theorem dX5_keepOn_87 : decode bX5_keepOn 87 = .ok (.invokevirtual 106, 3) ∧ 87 + 3 = 90 := by decide +kernel
theorem dX5_keepOn_90 : decode bX5_keepOn 90 = .ok (.invokevirtual 67, 3) ∧ 90 + 3 = 93 := by decide +kernel
theorem dX5_keepOn_93 : decode bX5_keepOn 93 = .ok (.aload_n 0, 1) ∧ 93 + 1 = 94 := by decide +kernel
theorem dX5_keepOn_94 : decode bX5_keepOn 94 = .ok (.getfield 37, 3) ∧ 94 + 3 = 97 := by decide +kernel
theorem dX5_keepOn_97 : decode bX5_keepOn 97 = .ok (.iload_n 1, 1) ∧ 97 + 1 = 98 := by decide +kernel
theorem dX5_keepOn_98 : decode bX5_keepOn 98 = .ok (.iconst 0, 1) ∧ 98 + 1 = 99 := by decide +kernel
theorem dX5_keepOn_99 : decode bX5_keepOn 99 = .ok (.iastore, 1) ∧ 99 + 1 = 100 := by decide +kernel
theorem dX5_keepOn_100 : decode bX5_keepOn 100 = .ok (.return_, 1) := by decide +kernel
theorem dX5_comeAsking_0 : decode bX5_comeAsking 0 = .ok (.aload_n 0, 1) ∧ 0 + 1 = 1 := by decide +kernel
theorem dX5_comeAsking_1 : decode bX5_comeAsking 1 = .ok (.iload_n 1, 1) ∧ 1 + 1 = 2 := by decide +kernel
theorem dX5_comeAsking_2 : decode bX5_comeAsking 2 = .ok (.iload_n 2, 1) ∧ 2 + 1 = 3 := by decide +kernel
theorem dX5_comeAsking_3 : decode bX5_comeAsking 3 = .ok (.invokevirtual 109, 3) ∧ 3 + 3 = 6 := by decide +kernel
theorem dX5_comeAsking_6 : decode bX5_comeAsking 6 = .ok (.istore 4, 2) ∧ 6 + 2 = 8 := by decide +kernel
theorem dX5_comeAsking_8 : decode bX5_comeAsking 8 = .ok (.iload 4, 2) ∧ 8 + 2 = 10 := by decide +kernel
theorem dX5_comeAsking_10 : decode bX5_comeAsking 10 = .ok (.ifCond .le 47, 3) ∧ 10 + 3 = 13 ∧ ((10 : Nat) : Int) + (47) = ((57 : Nat) : Int) := by decide +kernel
theorem dX5_comeAsking_13 : decode bX5_comeAsking 13 = .ok (.aload_n 0, 1) ∧ 13 + 1 = 14 := by decide +kernel
theorem dX5_comeAsking_14 : decode bX5_comeAsking 14 = .ok (.getfield 9, 3) ∧ 14 + 3 = 17 := by decide +kernel
theorem dX5_comeAsking_17 : decode bX5_comeAsking 17 = .ok (.iload 4, 2) ∧ 17 + 2 = 19 := by decide +kernel
theorem dX5_comeAsking_19 : decode bX5_comeAsking 19 = .ok (.isub, 1) ∧ 19 + 1 = 20 := by decide +kernel
theorem dX5_comeAsking_20 : decode bX5_comeAsking 20 = .ok (.iload_n 2, 1) ∧ 20 + 1 = 21 := by decide +kernel
theorem dX5_comeAsking_21 : decode bX5_comeAsking 21 = .ok (.if_icmp .lt 36, 3) ∧ 21 + 3 = 24 ∧ ((21 : Nat) : Int) + (36) = ((57 : Nat) : Int) := by decide +kernel
theorem dX5_comeAsking_24 : decode bX5_comeAsking 24 = .ok (.aload_n 0, 1) ∧ 24 + 1 = 25 := by decide +kernel
theorem dX5_comeAsking_25 : decode bX5_comeAsking 25 = .ok (.getfield 37, 3) ∧ 25 + 3 = 28 := by decide +kernel
theorem dX5_comeAsking_28 : decode bX5_comeAsking 28 = .ok (.iload_n 1, 1) ∧ 28 + 1 = 29 := by decide +kernel
theorem dX5_comeAsking_29 : decode bX5_comeAsking 29 = .ok (.iload 4, 2) ∧ 29 + 2 = 31 := by decide +kernel
theorem dX5_comeAsking_31 : decode bX5_comeAsking 31 = .ok (.iastore, 1) ∧ 31 + 1 = 32 := by decide +kernel
theorem dX5_comeAsking_32 : decode bX5_comeAsking 32 = .ok (.aload_n 0, 1) ∧ 32 + 1 = 33 := by decide +kernel
theorem dX5_comeAsking_33 : decode bX5_comeAsking 33 = .ok (.dup, 1) ∧ 33 + 1 = 34 := by decide +kernel
theorem dX5_comeAsking_34 : decode bX5_comeAsking 34 = .ok (.getfield 9, 3) ∧ 34 + 3 = 37 := by decide +kernel
theorem dX5_comeAsking_37 : decode bX5_comeAsking 37 = .ok (.iload 4, 2) ∧ 37 + 2 = 39 := by decide +kernel
theorem dX5_comeAsking_39 : decode bX5_comeAsking 39 = .ok (.isub, 1) ∧ 39 + 1 = 40 := by decide +kernel
theorem dX5_comeAsking_40 : decode bX5_comeAsking 40 = .ok (.putfield 9, 3) ∧ 40 + 3 = 43 := by decide +kernel
theorem dX5_comeAsking_43 : decode bX5_comeAsking 43 = .ok (.aload_n 0, 1) ∧ 43 + 1 = 44 := by decide +kernel
theorem dX5_comeAsking_44 : decode bX5_comeAsking 44 = .ok (.getfield 40, 3) ∧ 44 + 3 = 47 := by decide +kernel
theorem dX5_comeAsking_47 : decode bX5_comeAsking 47 = .ok (.iload_n 1, 1) ∧ 47 + 1 = 48 := by decide +kernel
theorem dX5_comeAsking_48 : decode bX5_comeAsking 48 = .ok (.aload_n 0, 1) ∧ 48 + 1 = 49 := by decide +kernel
theorem dX5_comeAsking_49 : decode bX5_comeAsking 49 = .ok (.iload_n 1, 1) ∧ 49 + 1 = 50 := by decide +kernel
theorem dX5_comeAsking_50 : decode bX5_comeAsking 50 = .ok (.invokevirtual 102, 3) ∧ 50 + 3 = 53 := by decide +kernel
theorem dX5_comeAsking_53 : decode bX5_comeAsking 53 = .ok (.iastore, 1) ∧ 53 + 1 = 54 := by decide +kernel
theorem dX5_comeAsking_54 : decode bX5_comeAsking 54 = .ok (.goto 41, 3) ∧ ((54 : Nat) : Int) + (41) = ((95 : Nat) : Int) := by decide +kernel
theorem dX5_comeAsking_57 : decode bX5_comeAsking 57 = .ok (.aload_n 0, 1) ∧ 57 + 1 = 58 := by decide +kernel
theorem dX5_comeAsking_58 : decode bX5_comeAsking 58 = .ok (.getfield 46, 3) ∧ 58 + 3 = 61 := by decide +kernel
theorem dX5_comeAsking_61 : decode bX5_comeAsking 61 = .ok (.iload_n 1, 1) ∧ 61 + 1 = 62 := by decide +kernel
theorem dX5_comeAsking_62 : decode bX5_comeAsking 62 = .ok (.dup2, 1) ∧ 62 + 1 = 63 := by decide +kernel
theorem dX5_comeAsking_63 : decode bX5_comeAsking 63 = .ok (.iaload, 1) ∧ 63 + 1 = 64 := by decide +kernel
theorem dX5_comeAsking_64 : decode bX5_comeAsking 64 = .ok (.iconst 1, 1) ∧ 64 + 1 = 65 := by decide +kernel
theorem dX5_comeAsking_65 : decode bX5_comeAsking 65 = .ok (.iadd, 1) ∧ 65 + 1 = 66 := by decide +kernel
theorem dX5_comeAsking_66 : decode bX5_comeAsking 66 = .ok (.iastore, 1) ∧ 66 + 1 = 67 := by decide +kernel
theorem dX5_comeAsking_67 : decode bX5_comeAsking 67 = .ok (.aload_n 0, 1) ∧ 67 + 1 = 68 := by decide +kernel
theorem dX5_comeAsking_68 : decode bX5_comeAsking 68 = .ok (.dup, 1) ∧ 68 + 1 = 69 := by decide +kernel
theorem dX5_comeAsking_69 : decode bX5_comeAsking 69 = .ok (.getfield 21, 3) ∧ 69 + 3 = 72 := by decide +kernel
theorem dX5_comeAsking_72 : decode bX5_comeAsking 72 = .ok (.iconst 1, 1) ∧ 72 + 1 = 73 := by decide +kernel
theorem dX5_comeAsking_73 : decode bX5_comeAsking 73 = .ok (.iadd, 1) ∧ 73 + 1 = 74 := by decide +kernel
theorem dX5_comeAsking_74 : decode bX5_comeAsking 74 = .ok (.putfield 21, 3) ∧ 74 + 3 = 77 := by decide +kernel
theorem dX5_comeAsking_77 : decode bX5_comeAsking 77 = .ok (.aload_n 0, 1) ∧ 77 + 1 = 78 := by decide +kernel
theorem dX5_comeAsking_78 : decode bX5_comeAsking 78 = .ok (.getfield 43, 3) ∧ 78 + 3 = 81 := by decide +kernel
theorem dX5_comeAsking_81 : decode bX5_comeAsking 81 = .ok (.iload_n 1, 1) ∧ 81 + 1 = 82 := by decide +kernel
theorem dX5_comeAsking_82 : decode bX5_comeAsking 82 = .ok (.iconst 0, 1) ∧ 82 + 1 = 83 := by decide +kernel
theorem dX5_comeAsking_83 : decode bX5_comeAsking 83 = .ok (.aload_n 0, 1) ∧ 83 + 1 = 84 := by decide +kernel
theorem dX5_comeAsking_84 : decode bX5_comeAsking 84 = .ok (.getfield 43, 3) ∧ 84 + 3 = 87 := by decide +kernel
theorem dX5_comeAsking_87 : decode bX5_comeAsking 87 = .ok (.iload_n 1, 1) ∧ 87 + 1 = 88 := by decide +kernel
theorem dX5_comeAsking_88 : decode bX5_comeAsking 88 = .ok (.iaload, 1) ∧ 88 + 1 = 89 := by decide +kernel
theorem dX5_comeAsking_89 : decode bX5_comeAsking 89 = .ok (.iload_n 3, 1) ∧ 89 + 1 = 90 := by decide +kernel
theorem dX5_comeAsking_90 : decode bX5_comeAsking 90 = .ok (.isub, 1) ∧ 90 + 1 = 91 := by decide +kernel
theorem dX5_comeAsking_91 : decode bX5_comeAsking 91 = .ok (.invokestatic 71, 3) ∧ 91 + 3 = 94 := by decide +kernel
theorem dX5_comeAsking_94 : decode bX5_comeAsking 94 = .ok (.iastore, 1) ∧ 94 + 1 = 95 := by decide +kernel
theorem dX5_comeAsking_95 : decode bX5_comeAsking 95 = .ok (.return_, 1) := by decide +kernel
theorem dJ9_floorMod_7cf53_0 : decode bJ9_floorMod_7cf53 0 = .ok (.iload_n 0, 1) ∧ 0 + 1 = 1 := by decide +kernel
theorem dJ9_floorMod_7cf53_1 : decode bJ9_floorMod_7cf53 1 = .ok (.iload_n 1, 1) ∧ 1 + 1 = 2 := by decide +kernel
theorem dJ9_floorMod_7cf53_2 : decode bJ9_floorMod_7cf53 2 = .ok (.irem, 1) ∧ 2 + 1 = 3 := by decide +kernel
theorem dJ9_floorMod_7cf53_3 : decode bJ9_floorMod_7cf53 3 = .ok (.istore_n 2, 1) ∧ 3 + 1 = 4 := by decide +kernel
theorem dJ9_floorMod_7cf53_4 : decode bJ9_floorMod_7cf53 4 = .ok (.iload_n 0, 1) ∧ 4 + 1 = 5 := by decide +kernel
theorem dJ9_floorMod_7cf53_5 : decode bJ9_floorMod_7cf53 5 = .ok (.iload_n 1, 1) ∧ 5 + 1 = 6 := by decide +kernel
theorem dJ9_floorMod_7cf53_6 : decode bJ9_floorMod_7cf53 6 = .ok (.ixor, 1) ∧ 6 + 1 = 7 := by decide +kernel
theorem dJ9_floorMod_7cf53_7 : decode bJ9_floorMod_7cf53 7 = .ok (.ifCond .ge 11, 3) ∧ 7 + 3 = 10 ∧ ((7 : Nat) : Int) + (11) = ((18 : Nat) : Int) := by decide +kernel
theorem dJ9_floorMod_7cf53_10 : decode bJ9_floorMod_7cf53 10 = .ok (.iload_n 2, 1) ∧ 10 + 1 = 11 := by decide +kernel
theorem dJ9_floorMod_7cf53_11 : decode bJ9_floorMod_7cf53 11 = .ok (.ifCond .eq 7, 3) ∧ 11 + 3 = 14 ∧ ((11 : Nat) : Int) + (7) = ((18 : Nat) : Int) := by decide +kernel
theorem dJ9_floorMod_7cf53_14 : decode bJ9_floorMod_7cf53 14 = .ok (.iload_n 2, 1) ∧ 14 + 1 = 15 := by decide +kernel
theorem dJ9_floorMod_7cf53_15 : decode bJ9_floorMod_7cf53 15 = .ok (.iload_n 1, 1) ∧ 15 + 1 = 16 := by decide +kernel
theorem dJ9_floorMod_7cf53_16 : decode bJ9_floorMod_7cf53 16 = .ok (.iadd, 1) ∧ 16 + 1 = 17 := by decide +kernel
theorem dJ9_floorMod_7cf53_17 : decode bJ9_floorMod_7cf53 17 = .ok (.ireturn, 1) := by decide +kernel
theorem dJ9_floorMod_7cf53_18 : decode bJ9_floorMod_7cf53 18 = .ok (.iload_n 2, 1) ∧ 18 + 1 = 19 := by decide +kernel
theorem dJ9_floorMod_7cf53_19 : decode bJ9_floorMod_7cf53 19 = .ok (.ireturn, 1) := by decide +kernel
theorem dJ9_max_7cf53_0 : decode bJ9_max_7cf53 0 = .ok (.iload_n 0, 1) ∧ 0 + 1 = 1 := by decide +kernel
theorem dJ9_max_7cf53_1 : decode bJ9_max_7cf53 1 = .ok (.iload_n 1, 1) ∧ 1 + 1 = 2 := by decide +kernel
theorem dJ9_max_7cf53_2 : decode bJ9_max_7cf53 2 = .ok (.if_icmp .lt 7, 3) ∧ 2 + 3 = 5 ∧ ((2 : Nat) : Int) + (7) = ((9 : Nat) : Int) := by decide +kernel
theorem dJ9_max_7cf53_5 : decode bJ9_max_7cf53 5 = .ok (.iload_n 0, 1) ∧ 5 + 1 = 6 := by decide +kernel
theorem dJ9_max_7cf53_6 : decode bJ9_max_7cf53 6 = .ok (.goto 4, 3) ∧ ((6 : Nat) : Int) + (4) = ((10 : Nat) : Int) := by decide +kernel
theorem dJ9_max_7cf53_9 : decode bJ9_max_7cf53 9 = .ok (.iload_n 1, 1) ∧ 9 + 1 = 10 := by decide +kernel
theorem dJ9_max_7cf53_10 : decode bJ9_max_7cf53 10 = .ok (.ireturn, 1) := by decide +kernel
theorem dJ9_min_7cf53_0 : decode bJ9_min_7cf53 0 = .ok (.iload_n 0, 1) ∧ 0 + 1 = 1 := by decide +kernel
theorem dJ9_min_7cf53_1 : decode bJ9_min_7cf53 1 = .ok (.iload_n 1, 1) ∧ 1 + 1 = 2 := by decide +kernel
theorem dJ9_min_7cf53_2 : decode bJ9_min_7cf53 2 = .ok (.if_icmp .gt 7, 3) ∧ 2 + 3 = 5 ∧ ((2 : Nat) : Int) + (7) = ((9 : Nat) : Int) := by decide +kernel
theorem dJ9_min_7cf53_5 : decode bJ9_min_7cf53 5 = .ok (.iload_n 0, 1) ∧ 5 + 1 = 6 := by decide +kernel
theorem dJ9_min_7cf53_6 : decode bJ9_min_7cf53 6 = .ok (.goto 4, 3) ∧ ((6 : Nat) : Int) + (4) = ((10 : Nat) : Int) := by decide +kernel
theorem dJ9_min_7cf53_9 : decode bJ9_min_7cf53 9 = .ok (.iload_n 1, 1) ∧ 9 + 1 = 10 := by decide +kernel
theorem dJ9_min_7cf53_10 : decode bJ9_min_7cf53 10 = .ok (.ireturn, 1) := by decide +kernel
end
