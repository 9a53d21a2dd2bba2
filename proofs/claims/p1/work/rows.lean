section
-- ===== PART A: goes FIRST, ahead of the names: the tables' words, and 'selects' of the private methods out of them =====
/-- a private method of a class that the tables say can be made, by its rows of tables_1 -/
def lw_okq (q : MethodName × Nat) : Prop := (q.1.cls ≠ "java/lang/invoke/MethodHandle" ∧ q.1.cls ≠ "java/lang/invoke/VarHandle") ∧ Cond.instantiable q.1.cls q.2 ∈ tables_1 ∧ Cond.privateMethod q.1 ∈ tables_1 ∧ Cond.instanceMethod q.1 ∈ tables_1
theorem lw_p0 : lw_okq (⟨"UncutTale$Parser", "advance", "()V"⟩, 8) := ⟨⟨by decide +kernel, by decide +kernel⟩, List.mem_of_getElem? (i := 153) (by decide +kernel), List.mem_of_getElem? (i := 411) (by decide +kernel), List.mem_of_getElem? (i := 412) (by decide +kernel)⟩
theorem lw_p1 : lw_okq (⟨"UncutTale$Parser", "takeLine", "()Z"⟩, 8) := ⟨⟨by decide +kernel, by decide +kernel⟩, List.mem_of_getElem? (i := 153) (by decide +kernel), List.mem_of_getElem? (i := 425) (by decide +kernel), List.mem_of_getElem? (i := 426) (by decide +kernel)⟩
theorem lw_p2 : lw_okq (⟨"UncutTale$Parser", "takeHead", "()Z"⟩, 8) := ⟨⟨by decide +kernel, by decide +kernel⟩, List.mem_of_getElem? (i := 153) (by decide +kernel), List.mem_of_getElem? (i := 429) (by decide +kernel), List.mem_of_getElem? (i := 430) (by decide +kernel)⟩
theorem lw_p3 : lw_okq (⟨"UncutTale$Parser", "takeWord", "(Ljava/lang/String;)V"⟩, 8) := ⟨⟨by decide +kernel, by decide +kernel⟩, List.mem_of_getElem? (i := 153) (by decide +kernel), List.mem_of_getElem? (i := 434) (by decide +kernel), List.mem_of_getElem? (i := 435) (by decide +kernel)⟩
theorem lw_p4 : lw_okq (⟨"UncutTale$Parser", "isWord", "(Ljava/lang/String;)Z"⟩, 8) := ⟨⟨by decide +kernel, by decide +kernel⟩, List.mem_of_getElem? (i := 153) (by decide +kernel), List.mem_of_getElem? (i := 438) (by decide +kernel), List.mem_of_getElem? (i := 439) (by decide +kernel)⟩
theorem lw_p5 : lw_okq (⟨"UncutTale$Parser", "refuse", "(I)Z"⟩, 8) := ⟨⟨by decide +kernel, by decide +kernel⟩, List.mem_of_getElem? (i := 153) (by decide +kernel), List.mem_of_getElem? (i := 490) (by decide +kernel), List.mem_of_getElem? (i := 491) (by decide +kernel)⟩
theorem lw_p6 : lw_okq (⟨"UncutTale$Parser", "takeNamed", "(Ljava/lang/String;II)I"⟩, 8) := ⟨⟨by decide +kernel, by decide +kernel⟩, List.mem_of_getElem? (i := 153) (by decide +kernel), List.mem_of_getElem? (i := 495) (by decide +kernel), List.mem_of_getElem? (i := 496) (by decide +kernel)⟩
theorem lw_p7 : lw_okq (⟨"UncutTale$Parser", "takeNumber", "(II)I"⟩, 8) := ⟨⟨by decide +kernel, by decide +kernel⟩, List.mem_of_getElem? (i := 153) (by decide +kernel), List.mem_of_getElem? (i := 499) (by decide +kernel), List.mem_of_getElem? (i := 500) (by decide +kernel)⟩
theorem lw_p8 : lw_okq (⟨"UncutTale$Parser", "takePart", "()Z"⟩, 8) := ⟨⟨by decide +kernel, by decide +kernel⟩, List.mem_of_getElem? (i := 153) (by decide +kernel), List.mem_of_getElem? (i := 506) (by decide +kernel), List.mem_of_getElem? (i := 507) (by decide +kernel)⟩
theorem lw_p9 : lw_okq (⟨"UncutTale$Parser", "takeFold", "()Z"⟩, 8) := ⟨⟨by decide +kernel, by decide +kernel⟩, List.mem_of_getElem? (i := 153) (by decide +kernel), List.mem_of_getElem? (i := 518) (by decide +kernel), List.mem_of_getElem? (i := 519) (by decide +kernel)⟩
theorem lw_p10 : lw_okq (⟨"UncutTale$Parser", "takeKnife", "()Z"⟩, 8) := ⟨⟨by decide +kernel, by decide +kernel⟩, List.mem_of_getElem? (i := 153) (by decide +kernel), List.mem_of_getElem? (i := 531) (by decide +kernel), List.mem_of_getElem? (i := 532) (by decide +kernel)⟩
theorem lw_p11 : lw_okq (⟨"UncutTale$Parser", "takeSign", "()Z"⟩, 8) := ⟨⟨by decide +kernel, by decide +kernel⟩, List.mem_of_getElem? (i := 153) (by decide +kernel), List.mem_of_getElem? (i := 540) (by decide +kernel), List.mem_of_getElem? (i := 541) (by decide +kernel)⟩
theorem lw_p12 : lw_okq (⟨"UncutTale", "forgetAnswers", "()V"⟩, 15) := ⟨⟨by decide +kernel, by decide +kernel⟩, List.mem_of_getElem? (i := 20) (by decide +kernel), List.mem_of_getElem? (i := 551) (by decide +kernel), List.mem_of_getElem? (i := 552) (by decide +kernel)⟩
theorem lw_p13 : lw_okq (⟨"UncutTale", "hasPartAndYear", "(II)Z"⟩, 15) := ⟨⟨by decide +kernel, by decide +kernel⟩, List.mem_of_getElem? (i := 20) (by decide +kernel), List.mem_of_getElem? (i := 621) (by decide +kernel), List.mem_of_getElem? (i := 622) (by decide +kernel)⟩
theorem lw_p14 : lw_okq (⟨"UncutTale", "current", "()LUncutTale$Course;"⟩, 15) := ⟨⟨by decide +kernel, by decide +kernel⟩, List.mem_of_getElem? (i := 20) (by decide +kernel), List.mem_of_getElem? (i := 630) (by decide +kernel), List.mem_of_getElem? (i := 631) (by decide +kernel)⟩
theorem lw_p15 : lw_okq (⟨"UncutTale$Course", "unfold", "()V"⟩, 10) := ⟨⟨by decide +kernel, by decide +kernel⟩, List.mem_of_getElem? (i := 205) (by decide +kernel), List.mem_of_getElem? (i := 651) (by decide +kernel), List.mem_of_getElem? (i := 652) (by decide +kernel)⟩
def lw_privs_1 : List (MethodName × Nat) := [(⟨"UncutTale$Parser", "advance", "()V"⟩, 8), (⟨"UncutTale$Parser", "takeLine", "()Z"⟩, 8), (⟨"UncutTale$Parser", "takeHead", "()Z"⟩, 8), (⟨"UncutTale$Parser", "takeWord", "(Ljava/lang/String;)V"⟩, 8), (⟨"UncutTale$Parser", "isWord", "(Ljava/lang/String;)Z"⟩, 8), (⟨"UncutTale$Parser", "refuse", "(I)Z"⟩, 8), (⟨"UncutTale$Parser", "takeNamed", "(Ljava/lang/String;II)I"⟩, 8), (⟨"UncutTale$Parser", "takeNumber", "(II)I"⟩, 8), (⟨"UncutTale$Parser", "takePart", "()Z"⟩, 8), (⟨"UncutTale$Parser", "takeFold", "()Z"⟩, 8), (⟨"UncutTale$Parser", "takeKnife", "()Z"⟩, 8), (⟨"UncutTale$Parser", "takeSign", "()Z"⟩, 8), (⟨"UncutTale", "forgetAnswers", "()V"⟩, 15), (⟨"UncutTale", "hasPartAndYear", "(II)Z"⟩, 15), (⟨"UncutTale", "current", "()LUncutTale$Course;"⟩, 15), (⟨"UncutTale$Course", "unfold", "()V"⟩, 10)]
theorem lw_r1 : ∀ q ∈ lw_privs_1, lw_okq q := List.forall_mem_cons.mpr ⟨lw_p0, List.forall_mem_cons.mpr ⟨lw_p1, List.forall_mem_cons.mpr ⟨lw_p2, List.forall_mem_cons.mpr ⟨lw_p3, List.forall_mem_cons.mpr ⟨lw_p4, List.forall_mem_cons.mpr ⟨lw_p5, List.forall_mem_cons.mpr ⟨lw_p6, List.forall_mem_cons.mpr ⟨lw_p7, List.forall_mem_cons.mpr ⟨lw_p8, List.forall_mem_cons.mpr ⟨lw_p9, List.forall_mem_cons.mpr ⟨lw_p10, List.forall_mem_cons.mpr ⟨lw_p11, List.forall_mem_cons.mpr ⟨lw_p12, List.forall_mem_cons.mpr ⟨lw_p13, List.forall_mem_cons.mpr ⟨lw_p14, List.forall_mem_cons.mpr ⟨lw_p15, fun _ h => absurd h List.not_mem_nil⟩⟩⟩⟩⟩⟩⟩⟩⟩⟩⟩⟩⟩⟩⟩⟩
theorem lw_p16 : lw_okq (⟨"UncutTale$Course", "noteOpenings", "(II)V"⟩, 10) := ⟨⟨by decide +kernel, by decide +kernel⟩, List.mem_of_getElem? (i := 205) (by decide +kernel), List.mem_of_getElem? (i := 659) (by decide +kernel), List.mem_of_getElem? (i := 660) (by decide +kernel)⟩
theorem lw_p17 : lw_okq (⟨"UncutTale", "openingKnives", "()I"⟩, 15) := ⟨⟨by decide +kernel, by decide +kernel⟩, List.mem_of_getElem? (i := 20) (by decide +kernel), List.mem_of_getElem? (i := 787) (by decide +kernel), List.mem_of_getElem? (i := 788) (by decide +kernel)⟩
theorem lw_p18 : lw_okq (⟨"UncutTale", "opensAnew", "(III)Z"⟩, 15) := ⟨⟨by decide +kernel, by decide +kernel⟩, List.mem_of_getElem? (i := 20) (by decide +kernel), List.mem_of_getElem? (i := 791) (by decide +kernel), List.mem_of_getElem? (i := 792) (by decide +kernel)⟩
theorem lw_p19 : lw_okq (⟨"UncutTale", "shutAtLast", "()I"⟩, 15) := ⟨⟨by decide +kernel, by decide +kernel⟩, List.mem_of_getElem? (i := 20) (by decide +kernel), List.mem_of_getElem? (i := 803) (by decide +kernel), List.mem_of_getElem? (i := 804) (by decide +kernel)⟩
theorem lw_p20 : lw_okq (⟨"UncutTale", "openedIn", "(I)I"⟩, 15) := ⟨⟨by decide +kernel, by decide +kernel⟩, List.mem_of_getElem? (i := 20) (by decide +kernel), List.mem_of_getElem? (i := 819) (by decide +kernel), List.mem_of_getElem? (i := 820) (by decide +kernel)⟩
theorem lw_p21 : lw_okq (⟨"UncutTale", "fewest", "()I"⟩, 15) := ⟨⟨by decide +kernel, by decide +kernel⟩, List.mem_of_getElem? (i := 20) (by decide +kernel), List.mem_of_getElem? (i := 852) (by decide +kernel), List.mem_of_getElem? (i := 853) (by decide +kernel)⟩
theorem lw_p22 : lw_okq (⟨"UncutTale", "setWorth", "(I)I"⟩, 15) := ⟨⟨by decide +kernel, by decide +kernel⟩, List.mem_of_getElem? (i := 20) (by decide +kernel), List.mem_of_getElem? (i := 865) (by decide +kernel), List.mem_of_getElem? (i := 866) (by decide +kernel)⟩
theorem lw_p23 : lw_okq (⟨"UncutTale", "hasPlan", "(I)Z"⟩, 15) := ⟨⟨by decide +kernel, by decide +kernel⟩, List.mem_of_getElem? (i := 20) (by decide +kernel), List.mem_of_getElem? (i := 902) (by decide +kernel), List.mem_of_getElem? (i := 903) (by decide +kernel)⟩
theorem lw_p24 : lw_okq (⟨"UncutTale", "planFor", "(I)V"⟩, 15) := ⟨⟨by decide +kernel, by decide +kernel⟩, List.mem_of_getElem? (i := 20) (by decide +kernel), List.mem_of_getElem? (i := 906) (by decide +kernel), List.mem_of_getElem? (i := 907) (by decide +kernel)⟩
theorem lw_p25 : lw_okq (⟨"UncutTale$Planner", "spend", "(I)V"⟩, 9) := ⟨⟨by decide +kernel, by decide +kernel⟩, List.mem_of_getElem? (i := 246) (by decide +kernel), List.mem_of_getElem? (i := 918) (by decide +kernel), List.mem_of_getElem? (i := 919) (by decide +kernel)⟩
theorem lw_p26 : lw_okq (⟨"UncutTale$Planner", "compare", "(I)V"⟩, 9) := ⟨⟨by decide +kernel, by decide +kernel⟩, List.mem_of_getElem? (i := 246) (by decide +kernel), List.mem_of_getElem? (i := 926) (by decide +kernel), List.mem_of_getElem? (i := 927) (by decide +kernel)⟩
theorem lw_p27 : lw_okq (⟨"UncutTale", "refuseSeenOf", "(II)I"⟩, 15) := ⟨⟨by decide +kernel, by decide +kernel⟩, List.mem_of_getElem? (i := 20) (by decide +kernel), List.mem_of_getElem? (i := 942) (by decide +kernel), List.mem_of_getElem? (i := 943) (by decide +kernel)⟩
theorem lw_p28 : lw_okq (⟨"UncutTale", "refuseSeen", "(I)I"⟩, 15) := ⟨⟨by decide +kernel, by decide +kernel⟩, List.mem_of_getElem? (i := 20) (by decide +kernel), List.mem_of_getElem? (i := 946) (by decide +kernel), List.mem_of_getElem? (i := 947) (by decide +kernel)⟩
theorem lw_p29 : lw_okq (⟨"UncutTale$Guess", "isTraceAsSeen", "(IILUncutTale$Course;)Z"⟩, 6) := ⟨⟨by decide +kernel, by decide +kernel⟩, List.mem_of_getElem? (i := 310) (by decide +kernel), List.mem_of_getElem? (i := 978) (by decide +kernel), List.mem_of_getElem? (i := 979) (by decide +kernel)⟩
theorem lw_p30 : lw_okq (⟨"UncutTale$Guess", "tallyTraces", "(ILUncutTale$Course;)V"⟩, 6) := ⟨⟨by decide +kernel, by decide +kernel⟩, List.mem_of_getElem? (i := 310) (by decide +kernel), List.mem_of_getElem? (i := 1007) (by decide +kernel), List.mem_of_getElem? (i := 1008) (by decide +kernel)⟩
theorem lw_p31 : lw_okq (⟨"UncutTale$Guess", "worstIn", "(I)I"⟩, 6) := ⟨⟨by decide +kernel, by decide +kernel⟩, List.mem_of_getElem? (i := 310) (by decide +kernel), List.mem_of_getElem? (i := 1012) (by decide +kernel), List.mem_of_getElem? (i := 1013) (by decide +kernel)⟩
def lw_privs_2 : List (MethodName × Nat) := [(⟨"UncutTale$Course", "noteOpenings", "(II)V"⟩, 10), (⟨"UncutTale", "openingKnives", "()I"⟩, 15), (⟨"UncutTale", "opensAnew", "(III)Z"⟩, 15), (⟨"UncutTale", "shutAtLast", "()I"⟩, 15), (⟨"UncutTale", "openedIn", "(I)I"⟩, 15), (⟨"UncutTale", "fewest", "()I"⟩, 15), (⟨"UncutTale", "setWorth", "(I)I"⟩, 15), (⟨"UncutTale", "hasPlan", "(I)Z"⟩, 15), (⟨"UncutTale", "planFor", "(I)V"⟩, 15), (⟨"UncutTale$Planner", "spend", "(I)V"⟩, 9), (⟨"UncutTale$Planner", "compare", "(I)V"⟩, 9), (⟨"UncutTale", "refuseSeenOf", "(II)I"⟩, 15), (⟨"UncutTale", "refuseSeen", "(I)I"⟩, 15), (⟨"UncutTale$Guess", "isTraceAsSeen", "(IILUncutTale$Course;)Z"⟩, 6), (⟨"UncutTale$Guess", "tallyTraces", "(ILUncutTale$Course;)V"⟩, 6), (⟨"UncutTale$Guess", "worstIn", "(I)I"⟩, 6)]
theorem lw_r2 : ∀ q ∈ lw_privs_2, lw_okq q := List.forall_mem_cons.mpr ⟨lw_p16, List.forall_mem_cons.mpr ⟨lw_p17, List.forall_mem_cons.mpr ⟨lw_p18, List.forall_mem_cons.mpr ⟨lw_p19, List.forall_mem_cons.mpr ⟨lw_p20, List.forall_mem_cons.mpr ⟨lw_p21, List.forall_mem_cons.mpr ⟨lw_p22, List.forall_mem_cons.mpr ⟨lw_p23, List.forall_mem_cons.mpr ⟨lw_p24, List.forall_mem_cons.mpr ⟨lw_p25, List.forall_mem_cons.mpr ⟨lw_p26, List.forall_mem_cons.mpr ⟨lw_p27, List.forall_mem_cons.mpr ⟨lw_p28, List.forall_mem_cons.mpr ⟨lw_p29, List.forall_mem_cons.mpr ⟨lw_p30, List.forall_mem_cons.mpr ⟨lw_p31, fun _ h => absurd h List.not_mem_nil⟩⟩⟩⟩⟩⟩⟩⟩⟩⟩⟩⟩⟩⟩⟩⟩
theorem lw_p32 : lw_okq (⟨"UncutTale", "asNow", "(I)V"⟩, 15) := ⟨⟨by decide +kernel, by decide +kernel⟩, List.mem_of_getElem? (i := 20) (by decide +kernel), List.mem_of_getElem? (i := 1025) (by decide +kernel), List.mem_of_getElem? (i := 1026) (by decide +kernel)⟩
theorem lw_p33 : lw_okq (⟨"UncutTale", "readByLaw", "(I)I"⟩, 15) := ⟨⟨by decide +kernel, by decide +kernel⟩, List.mem_of_getElem? (i := 20) (by decide +kernel), List.mem_of_getElem? (i := 1034) (by decide +kernel), List.mem_of_getElem? (i := 1035) (by decide +kernel)⟩
theorem lw_p34 : lw_okq (⟨"UncutTale", "uncleWorth", "(I)I"⟩, 15) := ⟨⟨by decide +kernel, by decide +kernel⟩, List.mem_of_getElem? (i := 20) (by decide +kernel), List.mem_of_getElem? (i := 1054) (by decide +kernel), List.mem_of_getElem? (i := 1055) (by decide +kernel)⟩
theorem lw_p35 : lw_okq (⟨"UncutTale", "earChoice", "(I)I"⟩, 15) := ⟨⟨by decide +kernel, by decide +kernel⟩, List.mem_of_getElem? (i := 20) (by decide +kernel), List.mem_of_getElem? (i := 1058) (by decide +kernel), List.mem_of_getElem? (i := 1059) (by decide +kernel)⟩
theorem lw_p36 : lw_okq (⟨"UncutTale", "isPair", "(II)Z"⟩, 15) := ⟨⟨by decide +kernel, by decide +kernel⟩, List.mem_of_getElem? (i := 20) (by decide +kernel), List.mem_of_getElem? (i := 1074) (by decide +kernel), List.mem_of_getElem? (i := 1075) (by decide +kernel)⟩
theorem lw_p37 : lw_okq (⟨"UncutTale", "sewnGets", "(IIII)I"⟩, 15) := ⟨⟨by decide +kernel, by decide +kernel⟩, List.mem_of_getElem? (i := 20) (by decide +kernel), List.mem_of_getElem? (i := 1078) (by decide +kernel), List.mem_of_getElem? (i := 1079) (by decide +kernel)⟩
theorem lw_p38 : lw_okq (⟨"UncutTale", "weighOdds", "()V"⟩, 15) := ⟨⟨by decide +kernel, by decide +kernel⟩, List.mem_of_getElem? (i := 20) (by decide +kernel), List.mem_of_getElem? (i := 1093) (by decide +kernel), List.mem_of_getElem? (i := 1094) (by decide +kernel)⟩
theorem lw_p39 : lw_okq (⟨"UncutTale$Odds", "weightOf", "(I)J"⟩, 5) := ⟨⟨by decide +kernel, by decide +kernel⟩, List.mem_of_getElem? (i := 285) (by decide +kernel), List.mem_of_getElem? (i := 1106) (by decide +kernel), List.mem_of_getElem? (i := 1107) (by decide +kernel)⟩
theorem lw_p40 : lw_okq (⟨"UncutTale$Odds", "addToOpen", "(J)V"⟩, 5) := ⟨⟨by decide +kernel, by decide +kernel⟩, List.mem_of_getElem? (i := 285) (by decide +kernel), List.mem_of_getElem? (i := 1113) (by decide +kernel), List.mem_of_getElem? (i := 1114) (by decide +kernel)⟩
theorem lw_p41 : lw_okq (⟨"UncutTale", "knivesDrawn", "(J)I"⟩, 15) := ⟨⟨by decide +kernel, by decide +kernel⟩, List.mem_of_getElem? (i := 20) (by decide +kernel), List.mem_of_getElem? (i := 1131) (by decide +kernel), List.mem_of_getElem? (i := 1132) (by decide +kernel)⟩
theorem lw_p42 : lw_okq (⟨"UncutTale", "refuseAct", "(II)I"⟩, 15) := ⟨⟨by decide +kernel, by decide +kernel⟩, List.mem_of_getElem? (i := 20) (by decide +kernel), List.mem_of_getElem? (i := 1148) (by decide +kernel), List.mem_of_getElem? (i := 1149) (by decide +kernel)⟩
theorem lw_p43 : lw_okq (⟨"UncutTaleModel", "four", "(I)V"⟩, 51) := ⟨⟨by decide +kernel, by decide +kernel⟩, List.mem_of_getElem? (i := 1222) (by decide +kernel), List.mem_of_getElem? (i := 1408) (by decide +kernel), List.mem_of_getElem? (i := 1409) (by decide +kernel)⟩
theorem lw_p44 : lw_okq (⟨"UncutTaleModel", "clears", "()V"⟩, 51) := ⟨⟨by decide +kernel, by decide +kernel⟩, List.mem_of_getElem? (i := 1222) (by decide +kernel), List.mem_of_getElem? (i := 1424) (by decide +kernel), List.mem_of_getElem? (i := 1425) (by decide +kernel)⟩
theorem lw_p45 : lw_okq (⟨"UncutTaleModel", "tellsOf", "(II)V"⟩, 51) := ⟨⟨by decide +kernel, by decide +kernel⟩, List.mem_of_getElem? (i := 1222) (by decide +kernel), List.mem_of_getElem? (i := 1428) (by decide +kernel), List.mem_of_getElem? (i := 1429) (by decide +kernel)⟩
theorem lw_p46 : lw_okq (⟨"UncutTaleModel", "begins", "()V"⟩, 51) := ⟨⟨by decide +kernel, by decide +kernel⟩, List.mem_of_getElem? (i := 1222) (by decide +kernel), List.mem_of_getElem? (i := 1432) (by decide +kernel), List.mem_of_getElem? (i := 1433) (by decide +kernel)⟩
theorem lw_p47 : lw_okq (⟨"UncutTaleModel", "follows", "()V"⟩, 51) := ⟨⟨by decide +kernel, by decide +kernel⟩, List.mem_of_getElem? (i := 1222) (by decide +kernel), List.mem_of_getElem? (i := 1436) (by decide +kernel), List.mem_of_getElem? (i := 1437) (by decide +kernel)⟩
def lw_privs_3 : List (MethodName × Nat) := [(⟨"UncutTale", "asNow", "(I)V"⟩, 15), (⟨"UncutTale", "readByLaw", "(I)I"⟩, 15), (⟨"UncutTale", "uncleWorth", "(I)I"⟩, 15), (⟨"UncutTale", "earChoice", "(I)I"⟩, 15), (⟨"UncutTale", "isPair", "(II)Z"⟩, 15), (⟨"UncutTale", "sewnGets", "(IIII)I"⟩, 15), (⟨"UncutTale", "weighOdds", "()V"⟩, 15), (⟨"UncutTale$Odds", "weightOf", "(I)J"⟩, 5), (⟨"UncutTale$Odds", "addToOpen", "(J)V"⟩, 5), (⟨"UncutTale", "knivesDrawn", "(J)I"⟩, 15), (⟨"UncutTale", "refuseAct", "(II)I"⟩, 15), (⟨"UncutTaleModel", "four", "(I)V"⟩, 51), (⟨"UncutTaleModel", "clears", "()V"⟩, 51), (⟨"UncutTaleModel", "tellsOf", "(II)V"⟩, 51), (⟨"UncutTaleModel", "begins", "()V"⟩, 51), (⟨"UncutTaleModel", "follows", "()V"⟩, 51)]
theorem lw_r3 : ∀ q ∈ lw_privs_3, lw_okq q := List.forall_mem_cons.mpr ⟨lw_p32, List.forall_mem_cons.mpr ⟨lw_p33, List.forall_mem_cons.mpr ⟨lw_p34, List.forall_mem_cons.mpr ⟨lw_p35, List.forall_mem_cons.mpr ⟨lw_p36, List.forall_mem_cons.mpr ⟨lw_p37, List.forall_mem_cons.mpr ⟨lw_p38, List.forall_mem_cons.mpr ⟨lw_p39, List.forall_mem_cons.mpr ⟨lw_p40, List.forall_mem_cons.mpr ⟨lw_p41, List.forall_mem_cons.mpr ⟨lw_p42, List.forall_mem_cons.mpr ⟨lw_p43, List.forall_mem_cons.mpr ⟨lw_p44, List.forall_mem_cons.mpr ⟨lw_p45, List.forall_mem_cons.mpr ⟨lw_p46, List.forall_mem_cons.mpr ⟨lw_p47, fun _ h => absurd h List.not_mem_nil⟩⟩⟩⟩⟩⟩⟩⟩⟩⟩⟩⟩⟩⟩⟩⟩
theorem lw_p48 : lw_okq (⟨"UncutTaleModel", "isByte", "(III)Z"⟩, 51) := ⟨⟨by decide +kernel, by decide +kernel⟩, List.mem_of_getElem? (i := 1222) (by decide +kernel), List.mem_of_getElem? (i := 1440) (by decide +kernel), List.mem_of_getElem? (i := 1441) (by decide +kernel)⟩
theorem lw_p49 : lw_okq (⟨"UncutTaleModel", "isGood", "()Z"⟩, 51) := ⟨⟨by decide +kernel, by decide +kernel⟩, List.mem_of_getElem? (i := 1222) (by decide +kernel), List.mem_of_getElem? (i := 1449) (by decide +kernel), List.mem_of_getElem? (i := 1450) (by decide +kernel)⟩
theorem lw_p50 : lw_okq (⟨"UncutTaleModel", "asks", "(J)V"⟩, 51) := ⟨⟨by decide +kernel, by decide +kernel⟩, List.mem_of_getElem? (i := 1222) (by decide +kernel), List.mem_of_getElem? (i := 1454) (by decide +kernel), List.mem_of_getElem? (i := 1455) (by decide +kernel)⟩
theorem lw_p51 : lw_okq (⟨"UncutTaleModel", "takesWord", "(J)Z"⟩, 51) := ⟨⟨by decide +kernel, by decide +kernel⟩, List.mem_of_getElem? (i := 1222) (by decide +kernel), List.mem_of_getElem? (i := 1458) (by decide +kernel), List.mem_of_getElem? (i := 1459) (by decide +kernel)⟩
theorem lw_p52 : lw_okq (⟨"UncutTaleModel", "is", "(J)Z"⟩, 51) := ⟨⟨by decide +kernel, by decide +kernel⟩, List.mem_of_getElem? (i := 1222) (by decide +kernel), List.mem_of_getElem? (i := 1462) (by decide +kernel), List.mem_of_getElem? (i := 1463) (by decide +kernel)⟩
theorem lw_p53 : lw_okq (⟨"UncutTaleModel", "fails", "(I)V"⟩, 51) := ⟨⟨by decide +kernel, by decide +kernel⟩, List.mem_of_getElem? (i := 1222) (by decide +kernel), List.mem_of_getElem? (i := 1466) (by decide +kernel), List.mem_of_getElem? (i := 1467) (by decide +kernel)⟩
theorem lw_p54 : lw_okq (⟨"UncutTaleModel", "number", "(JII)I"⟩, 51) := ⟨⟨by decide +kernel, by decide +kernel⟩, List.mem_of_getElem? (i := 1222) (by decide +kernel), List.mem_of_getElem? (i := 1471) (by decide +kernel), List.mem_of_getElem? (i := 1472) (by decide +kernel)⟩
theorem lw_p55 : lw_okq (⟨"UncutTaleModel", "number", "(II)I"⟩, 51) := ⟨⟨by decide +kernel, by decide +kernel⟩, List.mem_of_getElem? (i := 1222) (by decide +kernel), List.mem_of_getElem? (i := 1475) (by decide +kernel), List.mem_of_getElem? (i := 1476) (by decide +kernel)⟩
theorem lw_p56 : lw_okq (⟨"UncutTaleModel", "lineHere", "()V"⟩, 51) := ⟨⟨by decide +kernel, by decide +kernel⟩, List.mem_of_getElem? (i := 1222) (by decide +kernel), List.mem_of_getElem? (i := 1481) (by decide +kernel), List.mem_of_getElem? (i := 1482) (by decide +kernel)⟩
theorem lw_p57 : lw_okq (⟨"UncutTaleModel", "isRoom", "(ZII)Z"⟩, 51) := ⟨⟨by decide +kernel, by decide +kernel⟩, List.mem_of_getElem? (i := 1222) (by decide +kernel), List.mem_of_getElem? (i := 1486) (by decide +kernel), List.mem_of_getElem? (i := 1487) (by decide +kernel)⟩
theorem lw_p58 : lw_okq (⟨"UncutTaleModel", "hasRead", "(I)I"⟩, 51) := ⟨⟨by decide +kernel, by decide +kernel⟩, List.mem_of_getElem? (i := 1222) (by decide +kernel), List.mem_of_getElem? (i := 1490) (by decide +kernel), List.mem_of_getElem? (i := 1491) (by decide +kernel)⟩
theorem lw_p59 : lw_okq (⟨"UncutTaleModel", "partLine", "()V"⟩, 51) := ⟨⟨by decide +kernel, by decide +kernel⟩, List.mem_of_getElem? (i := 1222) (by decide +kernel), List.mem_of_getElem? (i := 1494) (by decide +kernel), List.mem_of_getElem? (i := 1495) (by decide +kernel)⟩
theorem lw_p60 : lw_okq (⟨"UncutTaleModel", "foldLine", "()V"⟩, 51) := ⟨⟨by decide +kernel, by decide +kernel⟩, List.mem_of_getElem? (i := 1222) (by decide +kernel), List.mem_of_getElem? (i := 1502) (by decide +kernel), List.mem_of_getElem? (i := 1503) (by decide +kernel)⟩
theorem lw_p61 : lw_okq (⟨"UncutTaleModel", "partHere", "()I"⟩, 51) := ⟨⟨by decide +kernel, by decide +kernel⟩, List.mem_of_getElem? (i := 1222) (by decide +kernel), List.mem_of_getElem? (i := 1506) (by decide +kernel), List.mem_of_getElem? (i := 1507) (by decide +kernel)⟩
theorem lw_p62 : lw_okq (⟨"UncutTaleModel", "areJoined", "(II)Z"⟩, 51) := ⟨⟨by decide +kernel, by decide +kernel⟩, List.mem_of_getElem? (i := 1222) (by decide +kernel), List.mem_of_getElem? (i := 1510) (by decide +kernel), List.mem_of_getElem? (i := 1511) (by decide +kernel)⟩
theorem lw_p63 : lw_okq (⟨"UncutTaleModel", "knifeLine", "()V"⟩, 51) := ⟨⟨by decide +kernel, by decide +kernel⟩, List.mem_of_getElem? (i := 1222) (by decide +kernel), List.mem_of_getElem? (i := 1515) (by decide +kernel), List.mem_of_getElem? (i := 1516) (by decide +kernel)⟩
def lw_privs_4 : List (MethodName × Nat) := [(⟨"UncutTaleModel", "isByte", "(III)Z"⟩, 51), (⟨"UncutTaleModel", "isGood", "()Z"⟩, 51), (⟨"UncutTaleModel", "asks", "(J)V"⟩, 51), (⟨"UncutTaleModel", "takesWord", "(J)Z"⟩, 51), (⟨"UncutTaleModel", "is", "(J)Z"⟩, 51), (⟨"UncutTaleModel", "fails", "(I)V"⟩, 51), (⟨"UncutTaleModel", "number", "(JII)I"⟩, 51), (⟨"UncutTaleModel", "number", "(II)I"⟩, 51), (⟨"UncutTaleModel", "lineHere", "()V"⟩, 51), (⟨"UncutTaleModel", "isRoom", "(ZII)Z"⟩, 51), (⟨"UncutTaleModel", "hasRead", "(I)I"⟩, 51), (⟨"UncutTaleModel", "partLine", "()V"⟩, 51), (⟨"UncutTaleModel", "foldLine", "()V"⟩, 51), (⟨"UncutTaleModel", "partHere", "()I"⟩, 51), (⟨"UncutTaleModel", "areJoined", "(II)Z"⟩, 51), (⟨"UncutTaleModel", "knifeLine", "()V"⟩, 51)]
theorem lw_r4 : ∀ q ∈ lw_privs_4, lw_okq q := List.forall_mem_cons.mpr ⟨lw_p48, List.forall_mem_cons.mpr ⟨lw_p49, List.forall_mem_cons.mpr ⟨lw_p50, List.forall_mem_cons.mpr ⟨lw_p51, List.forall_mem_cons.mpr ⟨lw_p52, List.forall_mem_cons.mpr ⟨lw_p53, List.forall_mem_cons.mpr ⟨lw_p54, List.forall_mem_cons.mpr ⟨lw_p55, List.forall_mem_cons.mpr ⟨lw_p56, List.forall_mem_cons.mpr ⟨lw_p57, List.forall_mem_cons.mpr ⟨lw_p58, List.forall_mem_cons.mpr ⟨lw_p59, List.forall_mem_cons.mpr ⟨lw_p60, List.forall_mem_cons.mpr ⟨lw_p61, List.forall_mem_cons.mpr ⟨lw_p62, List.forall_mem_cons.mpr ⟨lw_p63, fun _ h => absurd h List.not_mem_nil⟩⟩⟩⟩⟩⟩⟩⟩⟩⟩⟩⟩⟩⟩⟩⟩
theorem lw_p64 : lw_okq (⟨"UncutTaleModel", "ends", "()V"⟩, 51) := ⟨⟨by decide +kernel, by decide +kernel⟩, List.mem_of_getElem? (i := 1222) (by decide +kernel), List.mem_of_getElem? (i := 1520) (by decide +kernel), List.mem_of_getElem? (i := 1521) (by decide +kernel)⟩
theorem lw_p65 : lw_okq (⟨"UncutTaleModel", "isOver", "()V"⟩, 51) := ⟨⟨by decide +kernel, by decide +kernel⟩, List.mem_of_getElem? (i := 1222) (by decide +kernel), List.mem_of_getElem? (i := 1524) (by decide +kernel), List.mem_of_getElem? (i := 1525) (by decide +kernel)⟩
theorem lw_p66 : lw_okq (⟨"UncutTaleModel", "copyTale", "(II)V"⟩, 51) := ⟨⟨by decide +kernel, by decide +kernel⟩, List.mem_of_getElem? (i := 1222) (by decide +kernel), List.mem_of_getElem? (i := 1528) (by decide +kernel), List.mem_of_getElem? (i := 1529) (by decide +kernel)⟩
theorem lw_p67 : lw_okq (⟨"UncutTaleModel", "isPart", "(J)Z"⟩, 51) := ⟨⟨by decide +kernel, by decide +kernel⟩, List.mem_of_getElem? (i := 1222) (by decide +kernel), List.mem_of_getElem? (i := 1539) (by decide +kernel), List.mem_of_getElem? (i := 1540) (by decide +kernel)⟩
theorem lw_p68 : lw_okq (⟨"UncutTaleModel", "parts", "()I"⟩, 51) := ⟨⟨by decide +kernel, by decide +kernel⟩, List.mem_of_getElem? (i := 1222) (by decide +kernel), List.mem_of_getElem? (i := 1543) (by decide +kernel), List.mem_of_getElem? (i := 1544) (by decide +kernel)⟩
theorem lw_p69 : lw_okq (⟨"UncutTaleModel", "lays", "()V"⟩, 51) := ⟨⟨by decide +kernel, by decide +kernel⟩, List.mem_of_getElem? (i := 1222) (by decide +kernel), List.mem_of_getElem? (i := 1552) (by decide +kernel), List.mem_of_getElem? (i := 1553) (by decide +kernel)⟩
theorem lw_p70 : lw_okq (⟨"UncutTaleModel", "nearOf", "(I)I"⟩, 51) := ⟨⟨by decide +kernel, by decide +kernel⟩, List.mem_of_getElem? (i := 1222) (by decide +kernel), List.mem_of_getElem? (i := 1556) (by decide +kernel), List.mem_of_getElem? (i := 1557) (by decide +kernel)⟩
theorem lw_p71 : lw_okq (⟨"UncutTaleModel", "isThen", "(II)Z"⟩, 51) := ⟨⟨by decide +kernel, by decide +kernel⟩, List.mem_of_getElem? (i := 1222) (by decide +kernel), List.mem_of_getElem? (i := 1571) (by decide +kernel), List.mem_of_getElem? (i := 1572) (by decide +kernel)⟩
theorem lw_p72 : lw_okq (⟨"UncutTaleModel", "isYear", "(J)Z"⟩, 51) := ⟨⟨by decide +kernel, by decide +kernel⟩, List.mem_of_getElem? (i := 1222) (by decide +kernel), List.mem_of_getElem? (i := 1575) (by decide +kernel), List.mem_of_getElem? (i := 1576) (by decide +kernel)⟩
theorem lw_p73 : lw_okq (⟨"UncutTaleModel", "isTale", "()Z"⟩, 51) := ⟨⟨by decide +kernel, by decide +kernel⟩, List.mem_of_getElem? (i := 1222) (by decide +kernel), List.mem_of_getElem? (i := 1579) (by decide +kernel), List.mem_of_getElem? (i := 1580) (by decide +kernel)⟩
theorem lw_p74 : lw_okq (⟨"UncutTaleModel", "years", "()I"⟩, 51) := ⟨⟨by decide +kernel, by decide +kernel⟩, List.mem_of_getElem? (i := 1222) (by decide +kernel), List.mem_of_getElem? (i := 1583) (by decide +kernel), List.mem_of_getElem? (i := 1584) (by decide +kernel)⟩
theorem lw_p75 : lw_okq (⟨"UncutTaleModel", "laysNow", "()V"⟩, 51) := ⟨⟨by decide +kernel, by decide +kernel⟩, List.mem_of_getElem? (i := 1222) (by decide +kernel), List.mem_of_getElem? (i := 1587) (by decide +kernel), List.mem_of_getElem? (i := 1588) (by decide +kernel)⟩
theorem lw_p76 : lw_okq (⟨"UncutTaleModel", "runs", "()V"⟩, 51) := ⟨⟨by decide +kernel, by decide +kernel⟩, List.mem_of_getElem? (i := 1222) (by decide +kernel), List.mem_of_getElem? (i := 1591) (by decide +kernel), List.mem_of_getElem? (i := 1592) (by decide +kernel)⟩
theorem lw_p77 : lw_okq (⟨"UncutTaleModel", "stiffAt", "(II)I"⟩, 51) := ⟨⟨by decide +kernel, by decide +kernel⟩, List.mem_of_getElem? (i := 1222) (by decide +kernel), List.mem_of_getElem? (i := 1595) (by decide +kernel), List.mem_of_getElem? (i := 1596) (by decide +kernel)⟩
theorem lw_p78 : lw_okq (⟨"UncutTaleModel", "airs", "(I)V"⟩, 51) := ⟨⟨by decide +kernel, by decide +kernel⟩, List.mem_of_getElem? (i := 1222) (by decide +kernel), List.mem_of_getElem? (i := 1599) (by decide +kernel), List.mem_of_getElem? (i := 1600) (by decide +kernel)⟩
theorem lw_p79 : lw_okq (⟨"UncutTaleModel", "knivesOf", "(I)V"⟩, 51) := ⟨⟨by decide +kernel, by decide +kernel⟩, List.mem_of_getElem? (i := 1222) (by decide +kernel), List.mem_of_getElem? (i := 1606) (by decide +kernel), List.mem_of_getElem? (i := 1607) (by decide +kernel)⟩
def lw_privs_5 : List (MethodName × Nat) := [(⟨"UncutTaleModel", "ends", "()V"⟩, 51), (⟨"UncutTaleModel", "isOver", "()V"⟩, 51), (⟨"UncutTaleModel", "copyTale", "(II)V"⟩, 51), (⟨"UncutTaleModel", "isPart", "(J)Z"⟩, 51), (⟨"UncutTaleModel", "parts", "()I"⟩, 51), (⟨"UncutTaleModel", "lays", "()V"⟩, 51), (⟨"UncutTaleModel", "nearOf", "(I)I"⟩, 51), (⟨"UncutTaleModel", "isThen", "(II)Z"⟩, 51), (⟨"UncutTaleModel", "isYear", "(J)Z"⟩, 51), (⟨"UncutTaleModel", "isTale", "()Z"⟩, 51), (⟨"UncutTaleModel", "years", "()I"⟩, 51), (⟨"UncutTaleModel", "laysNow", "()V"⟩, 51), (⟨"UncutTaleModel", "runs", "()V"⟩, 51), (⟨"UncutTaleModel", "stiffAt", "(II)I"⟩, 51), (⟨"UncutTaleModel", "airs", "(I)V"⟩, 51), (⟨"UncutTaleModel", "knivesOf", "(I)V"⟩, 51)]
theorem lw_r5 : ∀ q ∈ lw_privs_5, lw_okq q := List.forall_mem_cons.mpr ⟨lw_p64, List.forall_mem_cons.mpr ⟨lw_p65, List.forall_mem_cons.mpr ⟨lw_p66, List.forall_mem_cons.mpr ⟨lw_p67, List.forall_mem_cons.mpr ⟨lw_p68, List.forall_mem_cons.mpr ⟨lw_p69, List.forall_mem_cons.mpr ⟨lw_p70, List.forall_mem_cons.mpr ⟨lw_p71, List.forall_mem_cons.mpr ⟨lw_p72, List.forall_mem_cons.mpr ⟨lw_p73, List.forall_mem_cons.mpr ⟨lw_p74, List.forall_mem_cons.mpr ⟨lw_p75, List.forall_mem_cons.mpr ⟨lw_p76, List.forall_mem_cons.mpr ⟨lw_p77, List.forall_mem_cons.mpr ⟨lw_p78, List.forall_mem_cons.mpr ⟨lw_p79, fun _ h => absurd h List.not_mem_nil⟩⟩⟩⟩⟩⟩⟩⟩⟩⟩⟩⟩⟩⟩⟩⟩
theorem lw_p80 : lw_okq (⟨"UncutTaleModel", "cuts", "(III)V"⟩, 51) := ⟨⟨by decide +kernel, by decide +kernel⟩, List.mem_of_getElem? (i := 1222) (by decide +kernel), List.mem_of_getElem? (i := 1610) (by decide +kernel), List.mem_of_getElem? (i := 1611) (by decide +kernel)⟩
theorem lw_p81 : lw_okq (⟨"UncutTaleModel", "opens0", "(III)V"⟩, 51) := ⟨⟨by decide +kernel, by decide +kernel⟩, List.mem_of_getElem? (i := 1222) (by decide +kernel), List.mem_of_getElem? (i := 1614) (by decide +kernel), List.mem_of_getElem? (i := 1615) (by decide +kernel)⟩
theorem lw_p82 : lw_okq (⟨"UncutTaleModel", "opensOthers", "(I)V"⟩, 51) := ⟨⟨by decide +kernel, by decide +kernel⟩, List.mem_of_getElem? (i := 1222) (by decide +kernel), List.mem_of_getElem? (i := 1618) (by decide +kernel), List.mem_of_getElem? (i := 1619) (by decide +kernel)⟩
theorem lw_p83 : lw_okq (⟨"UncutTaleModel", "stiffer", "(II)I"⟩, 51) := ⟨⟨by decide +kernel, by decide +kernel⟩, List.mem_of_getElem? (i := 1222) (by decide +kernel), List.mem_of_getElem? (i := 1622) (by decide +kernel), List.mem_of_getElem? (i := 1623) (by decide +kernel)⟩
theorem lw_p84 : lw_okq (⟨"UncutTaleModel", "isAhead", "(I)Z"⟩, 51) := ⟨⟨by decide +kernel, by decide +kernel⟩, List.mem_of_getElem? (i := 1222) (by decide +kernel), List.mem_of_getElem? (i := 1652) (by decide +kernel), List.mem_of_getElem? (i := 1653) (by decide +kernel)⟩
theorem lw_p85 : lw_okq (⟨"UncutTaleModel", "readIn", "(I)I"⟩, 51) := ⟨⟨by decide +kernel, by decide +kernel⟩, List.mem_of_getElem? (i := 1222) (by decide +kernel), List.mem_of_getElem? (i := 1656) (by decide +kernel), List.mem_of_getElem? (i := 1657) (by decide +kernel)⟩
theorem lw_p86 : lw_okq (⟨"UncutTaleModel", "readAll", "()I"⟩, 51) := ⟨⟨by decide +kernel, by decide +kernel⟩, List.mem_of_getElem? (i := 1222) (by decide +kernel), List.mem_of_getElem? (i := 1664) (by decide +kernel), List.mem_of_getElem? (i := 1665) (by decide +kernel)⟩
theorem lw_p87 : lw_okq (⟨"UncutTaleModel", "keepsOf", "(II)I"⟩, 51) := ⟨⟨by decide +kernel, by decide +kernel⟩, List.mem_of_getElem? (i := 1222) (by decide +kernel), List.mem_of_getElem? (i := 1672) (by decide +kernel), List.mem_of_getElem? (i := 1673) (by decide +kernel)⟩
theorem lw_p88 : lw_okq (⟨"UncutTaleModel", "every", "()I"⟩, 51) := ⟨⟨by decide +kernel, by decide +kernel⟩, List.mem_of_getElem? (i := 1222) (by decide +kernel), List.mem_of_getElem? (i := 1708) (by decide +kernel), List.mem_of_getElem? (i := 1709) (by decide +kernel)⟩
theorem lw_p89 : lw_okq (⟨"UncutTaleModel", "freshIn", "(I)I"⟩, 51) := ⟨⟨by decide +kernel, by decide +kernel⟩, List.mem_of_getElem? (i := 1222) (by decide +kernel), List.mem_of_getElem? (i := 1720) (by decide +kernel), List.mem_of_getElem? (i := 1721) (by decide +kernel)⟩
theorem lw_p90 : lw_okq (⟨"UncutTaleModel", "fewOf", "()I"⟩, 51) := ⟨⟨by decide +kernel, by decide +kernel⟩, List.mem_of_getElem? (i := 1222) (by decide +kernel), List.mem_of_getElem? (i := 1776) (by decide +kernel), List.mem_of_getElem? (i := 1777) (by decide +kernel)⟩
theorem lw_p91 : lw_okq (⟨"UncutTaleModel", "worthOf", "(I)I"⟩, 51) := ⟨⟨by decide +kernel, by decide +kernel⟩, List.mem_of_getElem? (i := 1222) (by decide +kernel), List.mem_of_getElem? (i := 1780) (by decide +kernel), List.mem_of_getElem? (i := 1781) (by decide +kernel)⟩
theorem lw_p92 : lw_okq (⟨"UncutTaleModel", "isPlan", "(I)Z"⟩, 51) := ⟨⟨by decide +kernel, by decide +kernel⟩, List.mem_of_getElem? (i := 1222) (by decide +kernel), List.mem_of_getElem? (i := 1813) (by decide +kernel), List.mem_of_getElem? (i := 1814) (by decide +kernel)⟩
theorem lw_p93 : lw_okq (⟨"UncutTaleModel", "laysPlan", "(I)V"⟩, 51) := ⟨⟨by decide +kernel, by decide +kernel⟩, List.mem_of_getElem? (i := 1222) (by decide +kernel), List.mem_of_getElem? (i := 1817) (by decide +kernel), List.mem_of_getElem? (i := 1818) (by decide +kernel)⟩
theorem lw_p94 : lw_okq (⟨"UncutTaleModel", "planFrom", "(II)V"⟩, 51) := ⟨⟨by decide +kernel, by decide +kernel⟩, List.mem_of_getElem? (i := 1222) (by decide +kernel), List.mem_of_getElem? (i := 1821) (by decide +kernel), List.mem_of_getElem? (i := 1822) (by decide +kernel)⟩
theorem lw_p95 : lw_okq (⟨"UncutTaleModel", "runsPlan", "(I)V"⟩, 51) := ⟨⟨by decide +kernel, by decide +kernel⟩, List.mem_of_getElem? (i := 1222) (by decide +kernel), List.mem_of_getElem? (i := 1825) (by decide +kernel), List.mem_of_getElem? (i := 1826) (by decide +kernel)⟩
def lw_privs_6 : List (MethodName × Nat) := [(⟨"UncutTaleModel", "cuts", "(III)V"⟩, 51), (⟨"UncutTaleModel", "opens0", "(III)V"⟩, 51), (⟨"UncutTaleModel", "opensOthers", "(I)V"⟩, 51), (⟨"UncutTaleModel", "stiffer", "(II)I"⟩, 51), (⟨"UncutTaleModel", "isAhead", "(I)Z"⟩, 51), (⟨"UncutTaleModel", "readIn", "(I)I"⟩, 51), (⟨"UncutTaleModel", "readAll", "()I"⟩, 51), (⟨"UncutTaleModel", "keepsOf", "(II)I"⟩, 51), (⟨"UncutTaleModel", "every", "()I"⟩, 51), (⟨"UncutTaleModel", "freshIn", "(I)I"⟩, 51), (⟨"UncutTaleModel", "fewOf", "()I"⟩, 51), (⟨"UncutTaleModel", "worthOf", "(I)I"⟩, 51), (⟨"UncutTaleModel", "isPlan", "(I)Z"⟩, 51), (⟨"UncutTaleModel", "laysPlan", "(I)V"⟩, 51), (⟨"UncutTaleModel", "planFrom", "(II)V"⟩, 51), (⟨"UncutTaleModel", "runsPlan", "(I)V"⟩, 51)]
theorem lw_r6 : ∀ q ∈ lw_privs_6, lw_okq q := List.forall_mem_cons.mpr ⟨lw_p80, List.forall_mem_cons.mpr ⟨lw_p81, List.forall_mem_cons.mpr ⟨lw_p82, List.forall_mem_cons.mpr ⟨lw_p83, List.forall_mem_cons.mpr ⟨lw_p84, List.forall_mem_cons.mpr ⟨lw_p85, List.forall_mem_cons.mpr ⟨lw_p86, List.forall_mem_cons.mpr ⟨lw_p87, List.forall_mem_cons.mpr ⟨lw_p88, List.forall_mem_cons.mpr ⟨lw_p89, List.forall_mem_cons.mpr ⟨lw_p90, List.forall_mem_cons.mpr ⟨lw_p91, List.forall_mem_cons.mpr ⟨lw_p92, List.forall_mem_cons.mpr ⟨lw_p93, List.forall_mem_cons.mpr ⟨lw_p94, List.forall_mem_cons.mpr ⟨lw_p95, fun _ h => absurd h List.not_mem_nil⟩⟩⟩⟩⟩⟩⟩⟩⟩⟩⟩⟩⟩⟩⟩⟩
theorem lw_p96 : lw_okq (⟨"UncutTaleModel", "whyNot", "(IZ)I"⟩, 51) := ⟨⟨by decide +kernel, by decide +kernel⟩, List.mem_of_getElem? (i := 1222) (by decide +kernel), List.mem_of_getElem? (i := 1841) (by decide +kernel), List.mem_of_getElem? (i := 1842) (by decide +kernel)⟩
theorem lw_p97 : lw_okq (⟨"UncutTaleModel", "laysSeen", "(II)V"⟩, 51) := ⟨⟨by decide +kernel, by decide +kernel⟩, List.mem_of_getElem? (i := 1222) (by decide +kernel), List.mem_of_getElem? (i := 1846) (by decide +kernel), List.mem_of_getElem? (i := 1847) (by decide +kernel)⟩
theorem lw_p98 : lw_okq (⟨"UncutTaleModel", "isSo", "(I)Z"⟩, 51) := ⟨⟨by decide +kernel, by decide +kernel⟩, List.mem_of_getElem? (i := 1222) (by decide +kernel), List.mem_of_getElem? (i := 1850) (by decide +kernel), List.mem_of_getElem? (i := 1851) (by decide +kernel)⟩
theorem lw_p99 : lw_okq (⟨"UncutTaleModel", "allBy", "(I)I"⟩, 51) := ⟨⟨by decide +kernel, by decide +kernel⟩, List.mem_of_getElem? (i := 1222) (by decide +kernel), List.mem_of_getElem? (i := 1874) (by decide +kernel), List.mem_of_getElem? (i := 1875) (by decide +kernel)⟩
theorem lw_p100 : lw_okq (⟨"UncutTaleModel", "laysUncle", "()V"⟩, 51) := ⟨⟨by decide +kernel, by decide +kernel⟩, List.mem_of_getElem? (i := 1222) (by decide +kernel), List.mem_of_getElem? (i := 1898) (by decide +kernel), List.mem_of_getElem? (i := 1899) (by decide +kernel)⟩
theorem lw_p101 : lw_okq (⟨"UncutTaleModel", "laysEar", "(I)V"⟩, 51) := ⟨⟨by decide +kernel, by decide +kernel⟩, List.mem_of_getElem? (i := 1222) (by decide +kernel), List.mem_of_getElem? (i := 1902) (by decide +kernel), List.mem_of_getElem? (i := 1903) (by decide +kernel)⟩
theorem lw_p102 : lw_okq (⟨"UncutTaleModel", "areTwo", "(II)Z"⟩, 51) := ⟨⟨by decide +kernel, by decide +kernel⟩, List.mem_of_getElem? (i := 1222) (by decide +kernel), List.mem_of_getElem? (i := 1918) (by decide +kernel), List.mem_of_getElem? (i := 1919) (by decide +kernel)⟩
theorem lw_p103 : lw_okq (⟨"UncutTaleModel", "getsBy", "(IIIII)I"⟩, 51) := ⟨⟨by decide +kernel, by decide +kernel⟩, List.mem_of_getElem? (i := 1222) (by decide +kernel), List.mem_of_getElem? (i := 1922) (by decide +kernel), List.mem_of_getElem? (i := 1923) (by decide +kernel)⟩
theorem lw_p104 : lw_okq (⟨"UncutTaleModel", "weightOf", "(I)J"⟩, 51) := ⟨⟨by decide +kernel, by decide +kernel⟩, List.mem_of_getElem? (i := 1222) (by decide +kernel), List.mem_of_getElem? (i := 1934) (by decide +kernel), List.mem_of_getElem? (i := 1935) (by decide +kernel)⟩
theorem lw_p105 : lw_okq (⟨"UncutTaleModel", "draws", "(J)I"⟩, 51) := ⟨⟨by decide +kernel, by decide +kernel⟩, List.mem_of_getElem? (i := 1222) (by decide +kernel), List.mem_of_getElem? (i := 1955) (by decide +kernel), List.mem_of_getElem? (i := 1956) (by decide +kernel)⟩
theorem lw_p106 : lw_okq (⟨"UncutTaleModel", "does", "(III)V"⟩, 51) := ⟨⟨by decide +kernel, by decide +kernel⟩, List.mem_of_getElem? (i := 1222) (by decide +kernel), List.mem_of_getElem? (i := 1972) (by decide +kernel), List.mem_of_getElem? (i := 1973) (by decide +kernel)⟩
def lw_privs_7 : List (MethodName × Nat) := [(⟨"UncutTaleModel", "whyNot", "(IZ)I"⟩, 51), (⟨"UncutTaleModel", "laysSeen", "(II)V"⟩, 51), (⟨"UncutTaleModel", "isSo", "(I)Z"⟩, 51), (⟨"UncutTaleModel", "allBy", "(I)I"⟩, 51), (⟨"UncutTaleModel", "laysUncle", "()V"⟩, 51), (⟨"UncutTaleModel", "laysEar", "(I)V"⟩, 51), (⟨"UncutTaleModel", "areTwo", "(II)Z"⟩, 51), (⟨"UncutTaleModel", "getsBy", "(IIIII)I"⟩, 51), (⟨"UncutTaleModel", "weightOf", "(I)J"⟩, 51), (⟨"UncutTaleModel", "draws", "(J)I"⟩, 51), (⟨"UncutTaleModel", "does", "(III)V"⟩, 51)]
theorem lw_r7 : ∀ q ∈ lw_privs_7, lw_okq q := List.forall_mem_cons.mpr ⟨lw_p96, List.forall_mem_cons.mpr ⟨lw_p97, List.forall_mem_cons.mpr ⟨lw_p98, List.forall_mem_cons.mpr ⟨lw_p99, List.forall_mem_cons.mpr ⟨lw_p100, List.forall_mem_cons.mpr ⟨lw_p101, List.forall_mem_cons.mpr ⟨lw_p102, List.forall_mem_cons.mpr ⟨lw_p103, List.forall_mem_cons.mpr ⟨lw_p104, List.forall_mem_cons.mpr ⟨lw_p105, List.forall_mem_cons.mpr ⟨lw_p106, fun _ h => absurd h List.not_mem_nil⟩⟩⟩⟩⟩⟩⟩⟩⟩⟩⟩
def lw_privs : List (MethodName × Nat) := lw_privs_1 ++ (lw_privs_2 ++ (lw_privs_3 ++ (lw_privs_4 ++ (lw_privs_5 ++ (lw_privs_6 ++ (lw_privs_7))))))
def lw_tbl : List Cond := k2_sels lw_privs ++ tables_1
theorem lw_privs_ok : ∀ q ∈ lw_privs, lw_okq q := by
  show ∀ q ∈ lw_privs_1 ++ (lw_privs_2 ++ (lw_privs_3 ++ (lw_privs_4 ++ (lw_privs_5 ++ (lw_privs_6 ++ (lw_privs_7)))))), lw_okq q
  exact List.forall_mem_append.mpr ⟨lw_r1, List.forall_mem_append.mpr ⟨lw_r2, List.forall_mem_append.mpr ⟨lw_r3, List.forall_mem_append.mpr ⟨lw_r4, List.forall_mem_append.mpr ⟨lw_r5, List.forall_mem_append.mpr ⟨lw_r6, lw_r7⟩⟩⟩⟩⟩⟩
end
section
def va_AOA (ty : FieldType) (U : State) : Prop := (Cond.arrayOver (.array ty)).before #[] U = true
theorem va_AOA.use {ty : FieldType} {A : Array Value} {U : State} (h : va_AOA ty U) : (Cond.arrayOver (.array ty)).before A U = true := h
/-! ===== BEGIN new T[n][m]: the outer array a place, the inner ones among the pooled ===== -/
/-- f, but v at every address of l -/
def vr_up {α : Type} (f : Nat → α) (l : List Nat) (v : α) : Nat → α := fun a => if a ∈ l then v else f a
theorem vr_up_in {α : Type} {f : Nat → α} {l : List Nat} {v : α} {a : Nat} (h : a ∈ l) : vr_up f l v a = v := if_pos h
theorem vr_up_ne {α : Type} {f : Nat → α} {l : List Nat} {v : α} {a : Nat} (h : a ∉ l) : vr_up f l v a = f a := if_neg h
theorem vr_rows {L l : List Nat} {f : Nat → va_E} {e : va_E} (h : ∀ a, a ∈ l → a ∉ L) : va_pl L f ++ l.map (fun a => (a, e)) = va_pl (L ++ l) (vr_up f l e) := by
  unfold va_pl
  rw [List.map_append]
  congr 1
  · apply List.map_congr_left
    intro a ha
    rw [vr_up_ne (fun q => h a q ha)]
  · apply List.map_congr_left
    intro a ha
    rw [vr_up_in ha]
theorem vr_lay {X rows : va_W} {x : Nat × va_E} {pl : va_W} {D : va_G} {cl : List vw_C} {H : Heap} (hP : va_P D cl (((X ++ pl) ++ [x]) ++ rows) H) : va_P D cl ((X ++ [x]) ++ (pl ++ rows)) H := by
  rw [List.append_assoc (X ++ pl)] at hP
  have h := va_P.swap hP
  rw [← List.append_assoc X] at h
  have h2 := va_P.swap h
  rw [List.append_assoc (X ++ [x])] at h2
  exact h2
theorem vr_layD {X rows : va_W} {x : Nat × va_E} {pl : va_W} {A : Nat → Prop} (hD : va_D A (((X ++ pl) ++ [x]) ++ rows)) : va_D A ((X ++ [x]) ++ (pl ++ rows)) := by
  rw [List.append_assoc (X ++ pl)] at hD
  have h := va_D.swap hD
  rw [← List.append_assoc X] at h
  have h2 := va_D.swap h
  rw [List.append_assoc (X ++ [x])] at h2
  exact h2
theorem vr_outer (c : ClassId) (N h0 : Nat) : ∀ i : Nat, Jvm.Free.Multi.outerC c N h0 i = arrV c N (fun j => va_rf (if j < i then some (h0 + 1 + j) else none))
  | 0 => by
    show ({ cls := c, slots := Array.replicate N .null, vm := .none } : Cell) = _
    rw [arrV_new]
    refine congrArg (arrV c N) (funext fun j => ?_)
    simp [va_rf]
  | i + 1 => by
    show (Jvm.Free.Multi.outerC c N h0 i).setSlot i (.ref (h0 + 1 + i)) = _
    rw [vr_outer c N h0 i, arrV_store]
    refine congrArg (arrV c N) (funext fun j => ?_)
    by_cases e : j = i
    · subst e
      simp [updV, va_rf]
    · by_cases h : j < i
      · simp [updV, e, h, Nat.lt_succ_of_lt h]
      · simp [updV, e, h, show ¬ j < i + 1 by omega]
section VGM
variable {p : Program} {l : Launch} {e : Env} {R : Room} {s : State} {m : MethodId} {args : Array Value} {below : List Frame} {meth : Method} {c : Code} {H : Heap} {locs : List Loc} {cells slots : Nat} {Q : State → Prop}
variable {cc : ByteArray} {pc : Nat} {ls : Array Slot} {rest : List Value} {D : va_G} {cl : List vw_C} {A : Nat → Prop} {a : Nat} {tys : List (ClassId × FieldType)} {ws : va_W} {H0 : Heap}
theorem va_mna {X : va_W} {L : List Nat} {f : Nat → va_E} {cc : ByteArray} (hexec : p.tables.exec = Jvm.exec) (hb : c.code = cc) {own : String} {index : Nat} {ty : FieldType} {cy : ClassId} (hown : s.vm.findClass own = some m.cls) (hclink : (Cond.classLink own index ("[" ++ (FieldType.array ty).toString)).before args s = true) (hover : va_AOA ty s) (harr : (Cond.arrayClass ty).before args s = true) (hcy : s.vm.findClass (FieldType.array ty).toString = some cy)
    (hK : va_K D cl tys s) (hP : va_P D cl (X ++ va_pl L f) H) (hD : va_D A (X ++ va_pl L f)) (hS : va_S A H0 H locs) (hA : ∀ q, H0.size ≤ q → A q) {n k : Int32} {N' K' : Nat} {z : vp_A} (hn : ¬ n < 0) (hk : ¬ k < 0) (hN : n.toNatClampNeg = N') (hM : k.toNatClampNeg = K')
    (hb1 : N' * 4 ≤ 536870912) (hb2 : K' * componentBytes ty ≤ 536870912) (hb3 : K' ≤ 536870912) (hdf : fits ty (defaultValue ty) = true) (hdd : (defaultValue ty).isDefault = true) (hcells : cells + (1 + N') ≤ R.cells) (hslots : slots + (N' + N' * K') ≤ R.slots) (hz : ∀ c : ClassId, Jvm.Free.Multi.innerC c K' (defaultValue ty) = vp_cell c z) (hdg : decode cc pc = .ok (.multianewarray index 2, 4))
    (kk : ∀ (q : Nat) (r : Nat → Nat) (cA : ClassId) (H1 : Heap), (∀ i j : Nat, i < N' → j < N' → r i = r j → i = j) → (∀ i : Nat, i < N' → r i ∉ L) → va_K D cl (tys ++ [(cA, .array ty)]) s →
      va_P D cl ((X ++ [(q, .inl (cA, N', .inr (.inr (.inr (.inr (fun i => if i < N' then some (r i) else none))))))]) ++ va_pl (L ++ (List.range N').map r) (vr_up f ((List.range N').map r) (.inl (cy, z)))) H1 → va_D A ((X ++ [(q, .inl (cA, N', .inr (.inr (.inr (.inr (fun i => if i < N' then some (r i) else none))))))]) ++ va_pl (L ++ (List.range N').map r) (vr_up f ((List.range N').map r) (.inl (cy, z)))) → va_S A H0 H1 locs →
      W p l e R s m args below meth c H1 locs (cells + 1 + N') (slots + N' + N' * K') Q (F0 m (pc + 4) ls (.ref q :: rest))) : W p l e R s m args below meth c H locs cells slots Q (F0 m pc ls (.int k :: .int n :: rest)) := by
  subst hN
  subst hM
  intro T hT Xs
  obtain ⟨vm₁, cA, comp, -, fA, fC, hO, -, X', step⟩ := Xs.multianewarray2F hexec hown hclink (va_AOA.use hover) harr (g := F0 m pc ls (.int k :: .int n :: rest)) rfl (by rw [hb]; exact hdg) rfl hn hk hb1 hb2 hb3 hdf hdd hcells hslots
  have ec : some cy = some comp := hcy.symm.trans fC
  cases ec
  generalize hF : Jvm.Free.Multi.fill (T.setVm vm₁) cA cy n.toNatClampNeg k.toNatClampNeg (defaultValue ty) n.toNatClampNeg = F at X' step
  have hTh : (T.setVm vm₁).heap = H := hT
  obtain ⟨f1, f2, -, -⟩ := Jvm.Free.Multi.fill_facts (T.setVm vm₁) cA cy n.toNatClampNeg k.toNatClampNeg (defaultValue ty) n.toNatClampNeg
  rw [hF, hTh] at f1 f2
  have hold : ∀ x : Nat, x < H.size → F.heap[x]? = H[x]? := fun x hx => by
    have := Jvm.Free.Multi.fill_old (T.setVm vm₁) cA cy n.toNatClampNeg k.toNatClampNeg (defaultValue ty) (a := x) (by rw [hTh]; exact hx) n.toNatClampNeg
    rw [hF, hTh] at this
    exact this
  have hrow : ∀ j : Nat, j < n.toNatClampNeg → F.heap[H.size + 1 + j]? = some (vp_cell cy z) := fun j hj => by
    have := Jvm.Free.Multi.fill_inner (T.setVm vm₁) cA cy n.toNatClampNeg k.toNatClampNeg (defaultValue ty) n.toNatClampNeg j hj
    rw [hF, hTh, hz] at this
    exact this
  have hout : Jvm.Free.Multi.outerC cA n.toNatClampNeg H.size n.toNatClampNeg = vp_cell cA (n.toNatClampNeg, .inr (.inr (.inr (.inr (fun i => if i < n.toNatClampNeg then some (H.size + 1 + i) else none))))) := by
    rw [vp_cell_q]
    exact vr_outer cA n.toNatClampNeg H.size n.toNatClampNeg
  rw [hout] at f2
  have hlt : ∀ a, a ∈ L → a < H.size := fun a ha => by
    obtain ⟨k9, hk9⟩ := va_pl_get (X := X) (f := f) ha
    exact (hP k9 _ hk9).lt
  have hnl : ∀ i : Nat, i < n.toNatClampNeg → H.size + 1 + i ∉ L := fun i _ h => by
    have := hlt _ h
    omega
  have hnm : ∀ a, a ∈ (List.range n.toNatClampNeg).map (fun i => H.size + 1 + i) → a ∉ L := fun a ha h => by
    obtain ⟨i, -, rfl⟩ := List.mem_map.mp ha
    have := hlt _ h
    omega
  have hP0 : va_P D cl (X ++ va_pl L f) F.heap := hP.kept (fun k9 x hx => hold x.1 ((hP k9 x hx).lt))
  have hP1 : va_P D cl ((X ++ va_pl L f) ++ [(H.size, .inl (cA, n.toNatClampNeg, .inr (.inr (.inr (.inr (fun i => if i < n.toNatClampNeg then some (H.size + 1 + i) else none))))))]) F.heap := hP0.app (fun k9 x hx => by
    have h0 : k9 < 1 := (List.getElem?_eq_some_iff.mp hx).1
    rw [show k9 = 0 by omega] at hx
    cases hx
    exact f2)
  have hP2 : va_P D cl (((X ++ va_pl L f) ++ [(H.size, .inl (cA, n.toNatClampNeg, .inr (.inr (.inr (.inr (fun i => if i < n.toNatClampNeg then some (H.size + 1 + i) else none))))))]) ++ ((List.range n.toNatClampNeg).map (fun i => H.size + 1 + i)).map (fun a => (a, .inl (cy, z)))) F.heap := hP1.app (fun k9 x hx => by
    obtain ⟨a, ha, rfl⟩ := List.mem_map.mp (List.mem_of_getElem? hx)
    obtain ⟨i, hi, rfl⟩ := List.mem_map.mp ha
    exact hrow i (List.mem_range.mp hi))
  have hD2 : va_D A (((X ++ va_pl L f) ++ [(H.size, .inl (cA, n.toNatClampNeg, .inr (.inr (.inr (.inr (fun i => if i < n.toNatClampNeg then some (H.size + 1 + i) else none))))))]) ++ ((List.range n.toNatClampNeg).map (fun i => H.size + 1 + i)).map (fun a => (a, .inl (cy, z)))) := by
    have hD1 := hD.push (e := .inl (cA, n.toNatClampNeg, .inr (.inr (.inr (.inr (fun i => if i < n.toNatClampNeg then some (H.size + 1 + i) else none)))))) hP rfl (hA _ hS.1)
    generalize hW1 : (X ++ va_pl L f) ++ [(H.size, .inl (cA, n.toNatClampNeg, .inr (.inr (.inr (.inr (fun i => if i < n.toNatClampNeg then some (H.size + 1 + i) else none))))))] = W1 at hD1 hP1 ⊢
    have hle : ∀ (k9 : Nat) (x : Nat × va_E), W1[k9]? = some x → x.1 ≤ H.size := fun k9 x hx => by
      rw [← hW1] at hx
      by_cases hl : k9 < (X ++ va_pl L f).length
      · rw [List.getElem?_append_left hl] at hx
        exact Nat.le_of_lt ((hP k9 x hx).lt)
      · rw [List.getElem?_append_right (by omega)] at hx
        have h0 : k9 - (X ++ va_pl L f).length < 1 := (List.getElem?_eq_some_iff.mp hx).1
        rw [show k9 - (X ++ va_pl L f).length = 0 by omega] at hx
        cases hx
        exact Nat.le_refl _
    have hr : ∀ (k9 : Nat) (x : Nat × va_E), (((List.range n.toNatClampNeg).map (fun i => H.size + 1 + i)).map (fun a => ((a, .inl (cy, z)) : Nat × va_E)))[k9]? = some x → x.1 = H.size + 1 + k9 := fun k9 x hx => by
      rw [List.getElem?_map, List.getElem?_map] at hx
      by_cases h9 : k9 < n.toNatClampNeg
      · rw [List.getElem?_range h9] at hx
        cases hx
        rfl
      · have hn0 : (List.range n.toNatClampNeg)[k9]? = none := List.getElem?_eq_none (by rw [List.length_range]; omega)
        rw [hn0] at hx
        cases hx
    refine ⟨fun i j x y hi hj hxy => ?_, fun k9 x hx => ?_⟩
    · by_cases h1 : i < W1.length <;> by_cases h2 : j < W1.length
      · rw [List.getElem?_append_left h1] at hi
        rw [List.getElem?_append_left h2] at hj
        exact hD1.1 i j x y hi hj hxy
      · rw [List.getElem?_append_left h1] at hi
        rw [List.getElem?_append_right (by omega)] at hj
        have := hle _ _ hi
        have := hr _ _ hj
        omega
      · rw [List.getElem?_append_right (by omega)] at hi
        rw [List.getElem?_append_left h2] at hj
        have := hle _ _ hj
        have := hr _ _ hi
        omega
      · rw [List.getElem?_append_right (by omega)] at hi hj
        have := hr _ _ hi
        have := hr _ _ hj
        omega
    · by_cases h1 : k9 < W1.length
      · rw [List.getElem?_append_left h1] at hx
        exact hD1.2 k9 x hx
      · rw [List.getElem?_append_right (by omega)] at hx
        have := hr _ _ hx
        exact hA _ (by have := hS.1; omega)
  have hAr : ArrOfT s cA (.array ty) := fun N9 z9 => by
    obtain ⟨-, k9, hk9, cm9, hkk9⟩ := (hO 0 0 0).1
    exact ⟨(fun q hq => by cases hq), k9, hk9, cm9, hkk9⟩
  have hK2 : va_K D cl (tys ++ [(cA, .array ty)]) s := ⟨hK.1, fun k9 x hx => by
    by_cases hl : k9 < tys.length
    · rw [List.getElem?_append_left hl] at hx
      exact hK.2 k9 x hx
    · rw [List.getElem?_append_right (by omega)] at hx
      have h0 : k9 - tys.length < 1 := (List.getElem?_eq_some_iff.mp hx).1
      rw [show k9 - tys.length = 0 by omega] at hx
      cases hx
      exact ⟨hAr, fA⟩⟩
  obtain ⟨t, a1, b1⟩ := kk H.size (fun i => H.size + 1 + i) cA F.heap (fun i j _ _ h => by have h9 : H.size + 1 + i = H.size + 1 + j := h; omega) hnl hK2 (by rw [← vr_rows hnm]; exact vr_lay hP2) (by rw [← vr_rows hnm]; exact vr_layD hD2) ⟨by rw [f1]; have := hS.1; omega, fun x h1 h2 => (hold x (Nat.lt_of_lt_of_le h1 hS.1)).trans (hS.2.1 x h1 h2), hS.2.2⟩ F rfl X'
  refine ⟨t, step t ?_, b1⟩
  have e : T.heap.size = H.size := by rw [hT]
  rw [e]
  exact a1
end VGM
/-! ===== END ===== -/


def RX0 : String := "UncutTale$Course"
def TX0 : u_T := fun k => match k with
  | 0 => ("UncutTale$Course", "story", "LUncutTale$Story;", true)
  | 1 => ("UncutTale$Course", "near", "[I", true)
  | 2 => ("UncutTale$Course", "airings", "[I", true)
  | 3 => ("UncutTale$Course", "toCut", "[I", true)
  | 4 => ("UncutTale$Course", "open", "[I", true)
  | 5 => ("UncutTale$Course", "openedAt", "[I", true)
  | 6 => ("UncutTale$Course", "trace", "[I", true)
  | 7 => ("UncutTale$Course", "law", "I", false)
  | 8 => ("UncutTale$Course", "sewn", "I", false)
  | _ => ("UncutTale$Course", "ofThemselves", "I", false)
def tyX0 : Nat → FieldType := fun k => match k with
  | 0 => .object "UncutTale$Story"
  | 1 => .array .int
  | 2 => .array .int
  | 3 => .array .int
  | 4 => .array .int
  | 5 => .array .int
  | 6 => .array .int
  | 7 => .int
  | 8 => .int
  | _ => .int
abbrev wsX00 : List Cond := u_ws RX0 TX0 10
theorem nmX0 : ∀ a, a < 10 → ∀ b, b < 10 → a ≠ b → (TX0 a).2.1 ≠ (TX0 b).2.1 := by decide +kernel
theorem tyX0_ok : ∀ k, k < 10 → parseFieldDescriptor (TX0 k).2.2.1 = some (tyX0 k) := by decide +kernel
abbrev cX0_init : ByteArray := prog_2_method_1_code
def yX0_init : MethodName := ⟨RX0, "<init>", "(LUncutTale$Story;)V"⟩
abbrev cX0_begin : ByteArray := prog_2_method_2_code
def yX0_begin : MethodName := ⟨RX0, "begin", "(I)V"⟩
abbrev cX0_unfoldWith : ByteArray := prog_2_method_3_code
def yX0_unfoldWith : MethodName := ⟨RX0, "unfoldWith", "(I)V"⟩
abbrev cX0_unfoldBy : ByteArray := prog_2_method_4_code
def yX0_unfoldBy : MethodName := ⟨RX0, "unfoldBy", "(II)V"⟩
abbrev cX0_unfold : ByteArray := prog_2_method_5_code
def yX0_unfold : MethodName := ⟨RX0, "unfold", "()V"⟩
abbrev cX0_noteOpenings : ByteArray := prog_2_method_6_code
def yX0_noteOpenings : MethodName := ⟨RX0, "noteOpenings", "(II)V"⟩
abbrev cX0_settle : ByteArray := prog_2_method_7_code
def yX0_settle : MethodName := ⟨RX0, "settle", "(I)I"⟩
abbrev cX0_openIn : ByteArray := prog_2_method_8_code
def yX0_openIn : MethodName := ⟨RX0, "openIn", "(I)I"⟩
abbrev cX0_openingYear : ByteArray := prog_2_method_9_code
def yX0_openingYear : MethodName := ⟨RX0, "openingYear", "(I)I"⟩
abbrev cX0_stiffness : ByteArray := prog_2_method_10_code
def yX0_stiffness : MethodName := ⟨RX0, "stiffness", "(II)I"⟩
abbrev cX0_follow : ByteArray := prog_2_method_11_code
def yX0_follow : MethodName := ⟨RX0, "follow", "(III)I"⟩
abbrev cX0_aired : ByteArray := prog_2_method_12_code
def yX0_aired : MethodName := ⟨RX0, "aired", "(III)I"⟩
abbrev cX0_waited : ByteArray := prog_2_method_13_code
def yX0_waited : MethodName := ⟨RX0, "waited", "(III)I"⟩
abbrev cX0_readFor : ByteArray := prog_2_method_14_code
def yX0_readFor : MethodName := ⟨RX0, "readFor", "(I)I"⟩
abbrev cX0_readIn : ByteArray := prog_2_method_15_code
def yX0_readIn : MethodName := ⟨RX0, "readIn", "(I)I"⟩
abbrev cX0_readInAll : ByteArray := prog_2_method_16_code
def yX0_readInAll : MethodName := ⟨RX0, "readInAll", "()I"⟩
abbrev cX0_shutWorth : ByteArray := prog_2_method_17_code
def yX0_shutWorth : MethodName := ⟨RX0, "shutWorth", "(II)I"⟩
def RX1 : String := "UncutTale$Guess"
def TX1 : u_T := fun k => match k with
  | 0 => ("UncutTale$Guess", "story", "LUncutTale$Story;", true)
  | 1 => ("UncutTale$Guess", "slots", "LUncutTale$Slots;", true)
  | 2 => ("UncutTale$Guess", "fits", "[Z", true)
  | 3 => ("UncutTale$Guess", "tally", "[I", true)
  | 4 => ("UncutTale$Guess", "askedYear", "I", false)
  | _ => ("UncutTale$Guess", "left", "I", false)
def tyX1 : Nat → FieldType := fun k => match k with
  | 0 => .object "UncutTale$Story"
  | 1 => .object "UncutTale$Slots"
  | 2 => .array .boolean
  | 3 => .array .int
  | 4 => .int
  | _ => .int
abbrev wsX10 : List Cond := u_ws RX1 TX1 6
theorem nmX1 : ∀ a, a < 6 → ∀ b, b < 6 → a ≠ b → (TX1 a).2.1 ≠ (TX1 b).2.1 := by decide +kernel
theorem tyX1_ok : ∀ k, k < 6 → parseFieldDescriptor (TX1 k).2.2.1 = some (tyX1 k) := by decide +kernel
abbrev cX1_init : ByteArray := prog_3_method_1_code
def yX1_init : MethodName := ⟨RX1, "<init>", "(LUncutTale$Story;LUncutTale$Slots;)V"⟩
abbrev cX1_isSeenRow : ByteArray := prog_3_method_2_code
def yX1_isSeenRow : MethodName := ⟨RX1, "isSeenRow", "(I)Z"⟩
abbrev cX1_isAsSeen : ByteArray := prog_3_method_3_code
def yX1_isAsSeen : MethodName := ⟨RX1, "isAsSeen", "(IILUncutTale$Course;)Z"⟩
abbrev cX1_howMany : ByteArray := prog_3_method_4_code
def yX1_howMany : MethodName := ⟨RX1, "howMany", "(IILUncutTale$Course;)I"⟩
abbrev cX1_isTraceAsSeen : ByteArray := prog_3_method_5_code
def yX1_isTraceAsSeen : MethodName := ⟨RX1, "isTraceAsSeen", "(IILUncutTale$Course;)Z"⟩
abbrev cX1_least : ByteArray := prog_3_method_6_code
def yX1_least : MethodName := ⟨RX1, "least", "()I"⟩
abbrev cX1_greatest : ByteArray := prog_3_method_7_code
def yX1_greatest : MethodName := ⟨RX1, "greatest", "()I"⟩
abbrev cX1_choose : ByteArray := prog_3_method_8_code
def yX1_choose : MethodName := ⟨RX1, "choose", "(IILUncutTale$Course;)V"⟩
abbrev cX1_tallyTraces : ByteArray := prog_3_method_9_code
def yX1_tallyTraces : MethodName := ⟨RX1, "tallyTraces", "(ILUncutTale$Course;)V"⟩
abbrev cX1_worstIn : ByteArray := prog_3_method_10_code
def yX1_worstIn : MethodName := ⟨RX1, "worstIn", "(I)I"⟩
def RX2 : String := "UncutTale$Odds"
def TX2 : u_T := fun k => match k with
  | 0 => ("UncutTale$Odds", "story", "LUncutTale$Story;", true)
  | 1 => ("UncutTale$Odds", "course", "LUncutTale$Course;", true)
  | 2 => ("UncutTale$Odds", "openWeight", "[J", true)
  | 3 => ("UncutTale$Odds", "readWeight", "J", false)
  | _ => ("UncutTale$Odds", "whole", "J", false)
def tyX2 : Nat → FieldType := fun k => match k with
  | 0 => .object "UncutTale$Story"
  | 1 => .object "UncutTale$Course"
  | 2 => .array .long
  | 3 => .long
  | _ => .long
abbrev wsX20 : List Cond := u_ws RX2 TX2 5
theorem nmX2 : ∀ a, a < 5 → ∀ b, b < 5 → a ≠ b → (TX2 a).2.1 ≠ (TX2 b).2.1 := by decide +kernel
theorem tyX2_ok : ∀ k, k < 5 → parseFieldDescriptor (TX2 k).2.2.1 = some (tyX2 k) := by decide +kernel
abbrev cX2_init : ByteArray := prog_4_method_1_code
def yX2_init : MethodName := ⟨RX2, "<init>", "(LUncutTale$Story;LUncutTale$Course;)V"⟩
abbrev cX2_weigh : ByteArray := prog_4_method_2_code
def yX2_weigh : MethodName := ⟨RX2, "weigh", "()V"⟩
abbrev cX2_weightOf : ByteArray := prog_4_method_3_code
def yX2_weightOf : MethodName := ⟨RX2, "weightOf", "(I)J"⟩
abbrev cX2_addToOpen : ByteArray := prog_4_method_4_code
def yX2_addToOpen : MethodName := ⟨RX2, "addToOpen", "(J)V"⟩
def RX3 : String := "UncutTale$Parser"
def TX3 : u_T := fun k => match k with
  | 0 => ("UncutTale$Parser", "tape", "LUncutTale$Tape;", true)
  | 1 => ("UncutTale$Parser", "draft", "LUncutTale$Story;", true)
  | 2 => ("UncutTale$Parser", "kind", "I", false)
  | 3 => ("UncutTale$Parser", "start", "I", false)
  | 4 => ("UncutTale$Parser", "stop", "I", false)
  | 5 => ("UncutTale$Parser", "value", "I", false)
  | 6 => ("UncutTale$Parser", "fault", "I", false)
  | _ => ("UncutTale$Parser", "faultPlace", "I", false)
def tyX3 : Nat → FieldType := fun k => match k with
  | 0 => .object "UncutTale$Tape"
  | 1 => .object "UncutTale$Story"
  | 2 => .int
  | 3 => .int
  | 4 => .int
  | 5 => .int
  | 6 => .int
  | _ => .int
abbrev wsX30 : List Cond := u_ws RX3 TX3 8
theorem nmX3 : ∀ a, a < 8 → ∀ b, b < 8 → a ≠ b → (TX3 a).2.1 ≠ (TX3 b).2.1 := by decide +kernel
theorem tyX3_ok : ∀ k, k < 8 → parseFieldDescriptor (TX3 k).2.2.1 = some (tyX3 k) := by decide +kernel
abbrev cX3_init : ByteArray := prog_5_method_1_code
def yX3_init : MethodName := ⟨RX3, "<init>", "(LUncutTale$Tape;LUncutTale$Story;)V"⟩
abbrev cX3_parse : ByteArray := prog_5_method_2_code
def yX3_parse : MethodName := ⟨RX3, "parse", "()Z"⟩
abbrev cX3_takeLine : ByteArray := prog_5_method_3_code
def yX3_takeLine : MethodName := ⟨RX3, "takeLine", "()Z"⟩
abbrev cX3_takeHead : ByteArray := prog_5_method_4_code
def yX3_takeHead : MethodName := ⟨RX3, "takeHead", "()Z"⟩
abbrev cX3_takePart : ByteArray := prog_5_method_5_code
def yX3_takePart : MethodName := ⟨RX3, "takePart", "()Z"⟩
abbrev cX3_takeFold : ByteArray := prog_5_method_6_code
def yX3_takeFold : MethodName := ⟨RX3, "takeFold", "()Z"⟩
abbrev cX3_takeKnife : ByteArray := prog_5_method_7_code
def yX3_takeKnife : MethodName := ⟨RX3, "takeKnife", "()Z"⟩
abbrev cX3_takeSign : ByteArray := prog_5_method_8_code
def yX3_takeSign : MethodName := ⟨RX3, "takeSign", "()Z"⟩
abbrev cX3_takeNamed : ByteArray := prog_5_method_9_code
def yX3_takeNamed : MethodName := ⟨RX3, "takeNamed", "(Ljava/lang/String;II)I"⟩
abbrev cX3_takeWord : ByteArray := prog_5_method_10_code
def yX3_takeWord : MethodName := ⟨RX3, "takeWord", "(Ljava/lang/String;)V"⟩
abbrev cX3_takeNumber : ByteArray := prog_5_method_11_code
def yX3_takeNumber : MethodName := ⟨RX3, "takeNumber", "(II)I"⟩
abbrev cX3_refuse : ByteArray := prog_5_method_12_code
def yX3_refuse : MethodName := ⟨RX3, "refuse", "(I)Z"⟩
abbrev cX3_advance : ByteArray := prog_5_method_13_code
def yX3_advance : MethodName := ⟨RX3, "advance", "()V"⟩
abbrev cX3_isWord : ByteArray := prog_5_method_14_code
def yX3_isWord : MethodName := ⟨RX3, "isWord", "(Ljava/lang/String;)Z"⟩
abbrev cX3_kindOf : ByteArray := prog_5_method_15_code
def yX3_kindOf : MethodName := ⟨RX3, "kindOf", "(I)I"⟩
def RX4 : String := "UncutTale$Planner"
def TX4 : u_T := fun k => match k with
  | 0 => ("UncutTale$Planner", "story", "LUncutTale$Story;", true)
  | 1 => ("UncutTale$Planner", "course", "LUncutTale$Course;", true)
  | 2 => ("UncutTale$Planner", "stiff", "[[I", true)
  | 3 => ("UncutTale$Planner", "open", "[I", true)
  | 4 => ("UncutTale$Planner", "read", "[I", true)
  | 5 => ("UncutTale$Planner", "choice", "[I", true)
  | 6 => ("UncutTale$Planner", "firstRow", "[I", true)
  | 7 => ("UncutTale$Planner", "most", "I", false)
  | _ => ("UncutTale$Planner", "rows", "I", false)
def tyX4 : Nat → FieldType := fun k => match k with
  | 0 => .object "UncutTale$Story"
  | 1 => .object "UncutTale$Course"
  | 2 => .array (.array .int)
  | 3 => .array .int
  | 4 => .array .int
  | 5 => .array .int
  | 6 => .array .int
  | 7 => .int
  | _ => .int
abbrev wsX40 : List Cond := u_ws RX4 TX4 9
theorem nmX4 : ∀ a, a < 9 → ∀ b, b < 9 → a ≠ b → (TX4 a).2.1 ≠ (TX4 b).2.1 := by decide +kernel
theorem tyX4_ok : ∀ k, k < 9 → parseFieldDescriptor (TX4 k).2.2.1 = some (tyX4 k) := by decide +kernel
abbrev cX4_init : ByteArray := prog_6_method_1_code
def yX4_init : MethodName := ⟨RX4, "<init>", "(LUncutTale$Story;LUncutTale$Course;)V"⟩
abbrev cX4_search : ByteArray := prog_6_method_2_code
def yX4_search : MethodName := ⟨RX4, "search", "(I)V"⟩
abbrev cX4_spend : ByteArray := prog_6_method_3_code
def yX4_spend : MethodName := ⟨RX4, "spend", "(I)V"⟩
abbrev cX4_compare : ByteArray := prog_6_method_4_code
def yX4_compare : MethodName := ⟨RX4, "compare", "(I)V"⟩
def RX5 : String := "UncutTale$Slots"
def TX5 : u_T := fun k => match k with
  | 0 => ("UncutTale$Slots", "widths", "[I", true)
  | 1 => ("UncutTale$Slots", "sizes", "[I", true)
  | _ => ("UncutTale$Slots", "numbers", "[J", true)
def tyX5 : Nat → FieldType := fun k => match k with
  | 0 => .array .int
  | 1 => .array .int
  | _ => .array .long
abbrev wsX50 : List Cond := u_ws RX5 TX5 3
theorem nmX5 : ∀ a, a < 3 → ∀ b, b < 3 → a ≠ b → (TX5 a).2.1 ≠ (TX5 b).2.1 := by decide +kernel
theorem tyX5_ok : ∀ k, k < 3 → parseFieldDescriptor (TX5 k).2.2.1 = some (tyX5 k) := by decide +kernel
abbrev cX5_init : ByteArray := prog_7_method_1_code
def yX5_init : MethodName := ⟨RX5, "<init>", "()V"⟩
abbrev cX5_isSlot : ByteArray := prog_7_method_2_code
def yX5_isSlot : MethodName := ⟨RX5, "isSlot", "(I)Z"⟩
abbrev cX5_isBare : ByteArray := prog_7_method_3_code
def yX5_isBare : MethodName := ⟨RX5, "isBare", "(I)Z"⟩
abbrev cX5_areOfOneWidth : ByteArray := prog_7_method_4_code
def yX5_areOfOneWidth : MethodName := ⟨RX5, "areOfOneWidth", "(II)Z"⟩
abbrev cX5_covers : ByteArray := prog_7_method_5_code
def yX5_covers : MethodName := ⟨RX5, "covers", "(III)Z"⟩
abbrev cX5_filled : ByteArray := prog_7_method_6_code
def yX5_filled : MethodName := ⟨RX5, "filled", "()I"⟩
abbrev cX5_size : ByteArray := prog_7_method_7_code
def yX5_size : MethodName := ⟨RX5, "size", "(I)I"⟩
abbrev cX5_number : ByteArray := prog_7_method_8_code
def yX5_number : MethodName := ⟨RX5, "number", "(II)J"⟩
abbrev cX5_lay : ByteArray := prog_7_method_9_code
def yX5_lay : MethodName := ⟨RX5, "lay", "(III)V"⟩
abbrev cX5_put : ByteArray := prog_7_method_10_code
def yX5_put : MethodName := ⟨RX5, "put", "(IIJ)V"⟩
abbrev cX5_cutTo : ByteArray := prog_7_method_11_code
def yX5_cutTo : MethodName := ⟨RX5, "cutTo", "(IJ)J"⟩
abbrev cX5_move : ByteArray := prog_7_method_12_code
def yX5_move : MethodName := ⟨RX5, "move", "(IIIII)V"⟩
def RX6 : String := "UncutTale$Story"
def TX6 : u_T := fun k => match k with
  | 0 => ("UncutTale$Story", "charm", "[I", true)
  | 1 => ("UncutTale$Story", "tires", "[I", true)
  | 2 => ("UncutTale$Story", "toldStiff", "[I", true)
  | 3 => ("UncutTale$Story", "foldFrom", "[I", true)
  | 4 => ("UncutTale$Story", "foldTo", "[I", true)
  | 5 => ("UncutTale$Story", "knifePart", "[I", true)
  | 6 => ("UncutTale$Story", "knifeYear", "[I", true)
  | 7 => ("UncutTale$Story", "actKind", "[I", true)
  | 8 => ("UncutTale$Story", "actPart", "[I", true)
  | 9 => ("UncutTale$Story", "actYear", "[I", true)
  | 10 => ("UncutTale$Story", "years", "I", false)
  | 11 => ("UncutTale$Story", "law", "I", false)
  | 12 => ("UncutTale$Story", "odds", "I", false)
  | 13 => ("UncutTale$Story", "parts", "I", false)
  | 14 => ("UncutTale$Story", "folds", "I", false)
  | 15 => ("UncutTale$Story", "knives", "I", false)
  | 16 => ("UncutTale$Story", "acts", "I", false)
  | _ => ("UncutTale$Story", "lines", "I", false)
def tyX6 : Nat → FieldType := fun k => match k with
  | 0 => .array .int
  | 1 => .array .int
  | 2 => .array .int
  | 3 => .array .int
  | 4 => .array .int
  | 5 => .array .int
  | 6 => .array .int
  | 7 => .array .int
  | 8 => .array .int
  | 9 => .array .int
  | 10 => .int
  | 11 => .int
  | 12 => .int
  | 13 => .int
  | 14 => .int
  | 15 => .int
  | 16 => .int
  | _ => .int
abbrev wsX60 : List Cond := u_ws RX6 TX6 18
theorem nmX6 : ∀ a, a < 18 → ∀ b, b < 18 → a ≠ b → (TX6 a).2.1 ≠ (TX6 b).2.1 := by decide +kernel
theorem tyX6_ok : ∀ k, k < 18 → parseFieldDescriptor (TX6 k).2.2.1 = some (tyX6 k) := by decide +kernel
abbrev cX6_init : ByteArray := prog_8_method_1_code
def yX6_init : MethodName := ⟨RX6, "<init>", "()V"⟩
abbrev cX6_clear : ByteArray := prog_8_method_2_code
def yX6_clear : MethodName := ⟨RX6, "clear", "()V"⟩
abbrev cX6_become : ByteArray := prog_8_method_3_code
def yX6_become : MethodName := ⟨RX6, "become", "(LUncutTale$Story;)V"⟩
abbrev cX6_addPart : ByteArray := prog_8_method_4_code
def yX6_addPart : MethodName := ⟨RX6, "addPart", "(III)V"⟩
abbrev cX6_addFold : ByteArray := prog_8_method_5_code
def yX6_addFold : MethodName := ⟨RX6, "addFold", "(II)V"⟩
abbrev cX6_addKnife : ByteArray := prog_8_method_6_code
def yX6_addKnife : MethodName := ⟨RX6, "addKnife", "(II)V"⟩
abbrev cX6_addAct : ByteArray := prog_8_method_7_code
def yX6_addAct : MethodName := ⟨RX6, "addAct", "(III)V"⟩
abbrev cX6_isTold : ByteArray := prog_8_method_8_code
def yX6_isTold : MethodName := ⟨RX6, "isTold", "()Z"⟩
abbrev cX6_hasPart : ByteArray := prog_8_method_9_code
def yX6_hasPart : MethodName := ⟨RX6, "hasPart", "(I)Z"⟩
abbrev cX6_hasYear : ByteArray := prog_8_method_10_code
def yX6_hasYear : MethodName := ⟨RX6, "hasYear", "(I)Z"⟩
abbrev cX6_hasWorkingYear : ByteArray := prog_8_method_11_code
def yX6_hasWorkingYear : MethodName := ⟨RX6, "hasWorkingYear", "(I)Z"⟩
abbrev cX6_everyPart : ByteArray := prog_8_method_12_code
def yX6_everyPart : MethodName := ⟨RX6, "everyPart", "()I"⟩
abbrev cX6_everyKnife : ByteArray := prog_8_method_13_code
def yX6_everyKnife : MethodName := ⟨RX6, "everyKnife", "()I"⟩
abbrev cX6_areJoined : ByteArray := prog_8_method_14_code
def yX6_areJoined : MethodName := ⟨RX6, "areJoined", "(II)Z"⟩
abbrev cX6_neighbours : ByteArray := prog_8_method_15_code
def yX6_neighbours : MethodName := ⟨RX6, "neighbours", "(II)I"⟩
abbrev cX6_spread : ByteArray := prog_8_method_16_code
def yX6_spread : MethodName := ⟨RX6, "spread", "(I)I"⟩
abbrev cX6_joinedWith : ByteArray := prog_8_method_17_code
def yX6_joinedWith : MethodName := ⟨RX6, "joinedWith", "(I)I"⟩
def RX7 : String := "UncutTale$Tape"
def TX7 : u_T := fun k => match k with
  | 0 => ("UncutTale$Tape", "bytes", "[B", true)
  | _ => ("UncutTale$Tape", "length", "I", false)
def tyX7 : Nat → FieldType := fun k => match k with
  | 0 => .array .byte
  | _ => .int
abbrev wsX70 : List Cond := u_ws RX7 TX7 2
theorem nmX7 : ∀ a, a < 2 → ∀ b, b < 2 → a ≠ b → (TX7 a).2.1 ≠ (TX7 b).2.1 := by decide +kernel
theorem tyX7_ok : ∀ k, k < 2 → parseFieldDescriptor (TX7 k).2.2.1 = some (tyX7 k) := by decide +kernel
abbrev cX7_init : ByteArray := prog_9_method_1_code
def yX7_init : MethodName := ⟨RX7, "<init>", "()V"⟩
abbrev cX7_hasRoomForFive : ByteArray := prog_9_method_2_code
def yX7_hasRoomForFive : MethodName := ⟨RX7, "hasRoomForFive", "()Z"⟩
abbrev cX7_append : ByteArray := prog_9_method_3_code
def yX7_append : MethodName := ⟨RX7, "append", "(I)V"⟩
abbrev cX7_at : ByteArray := prog_9_method_4_code
def yX7_at : MethodName := ⟨RX7, "at", "(I)I"⟩
def RX8 : String := "UncutTale"
def TX8 : u_T := fun k => match k with
  | 0 => ("UncutTale", "tape", "LUncutTale$Tape;", true)
  | 1 => ("UncutTale", "draft", "LUncutTale$Story;", true)
  | 2 => ("UncutTale", "parser", "LUncutTale$Parser;", true)
  | 3 => ("UncutTale", "story", "LUncutTale$Story;", true)
  | 4 => ("UncutTale", "images", "[LUncutTale$Story;", true)
  | 5 => ("UncutTale", "imaged", "[Z", true)
  | 6 => ("UncutTale", "slots", "LUncutTale$Slots;", true)
  | 7 => ("UncutTale", "now", "LUncutTale$Course;", true)
  | 8 => ("UncutTale", "trial", "LUncutTale$Course;", true)
  | 9 => ("UncutTale", "planner", "LUncutTale$Planner;", true)
  | 10 => ("UncutTale", "odds", "LUncutTale$Odds;", true)
  | 11 => ("UncutTale", "guess", "LUncutTale$Guess;", true)
  | 12 => ("UncutTale", "nowIsStale", "Z", false)
  | 13 => ("UncutTale", "oddsAreStale", "Z", false)
  | _ => ("UncutTale", "plannedYears", "I", false)
def tyX8 : Nat → FieldType := fun k => match k with
  | 0 => .object "UncutTale$Tape"
  | 1 => .object "UncutTale$Story"
  | 2 => .object "UncutTale$Parser"
  | 3 => .object "UncutTale$Story"
  | 4 => .array (.object "UncutTale$Story")
  | 5 => .array .boolean
  | 6 => .object "UncutTale$Slots"
  | 7 => .object "UncutTale$Course"
  | 8 => .object "UncutTale$Course"
  | 9 => .object "UncutTale$Planner"
  | 10 => .object "UncutTale$Odds"
  | 11 => .object "UncutTale$Guess"
  | 12 => .boolean
  | 13 => .boolean
  | _ => .int
abbrev wsX80 : List Cond := u_ws RX8 TX8 15
theorem nmX8 : ∀ a, a < 15 → ∀ b, b < 15 → a ≠ b → (TX8 a).2.1 ≠ (TX8 b).2.1 := by decide +kernel
theorem tyX8_ok : ∀ k, k < 15 → parseFieldDescriptor (TX8 k).2.2.1 = some (tyX8 k) := by decide +kernel
abbrev cX8_init : ByteArray := prog_1_method_1_code
def yX8_init : MethodName := ⟨RX8, "<init>", "()V"⟩
abbrev cX8_feed : ByteArray := prog_1_method_2_code
def yX8_feed : MethodName := ⟨RX8, "feed", "(IIIII)I"⟩
abbrev cX8_end : ByteArray := prog_1_method_3_code
def yX8_end : MethodName := ⟨RX8, "end", "(I)I"⟩
abbrev cX8_tale : ByteArray := prog_1_method_4_code
def yX8_tale : MethodName := ⟨RX8, "tale", "()I"⟩
abbrev cX8_fault : ByteArray := prog_1_method_5_code
def yX8_fault : MethodName := ⟨RX8, "fault", "(I)I"⟩
abbrev cX8_part : ByteArray := prog_1_method_6_code
def yX8_part : MethodName := ⟨RX8, "part", "(II)I"⟩
abbrev cX8_near : ByteArray := prog_1_method_7_code
def yX8_near : MethodName := ⟨RX8, "near", "(I)I"⟩
abbrev cX8_far : ByteArray := prog_1_method_8_code
def yX8_far : MethodName := ⟨RX8, "far", "(II)I"⟩
abbrev cX8_pieces : ByteArray := prog_1_method_9_code
def yX8_pieces : MethodName := ⟨RX8, "pieces", "()I"⟩
abbrev cX8_knives : ByteArray := prog_1_method_10_code
def yX8_knives : MethodName := ⟨RX8, "knives", "(I)I"⟩
abbrev cX8_count : ByteArray := prog_1_method_11_code
def yX8_count : MethodName := ⟨RX8, "count", "(I)I"⟩
abbrev cX8_stiff : ByteArray := prog_1_method_12_code
def yX8_stiff : MethodName := ⟨RX8, "stiff", "(II)I"⟩
abbrev cX8_open : ByteArray := prog_1_method_13_code
def yX8_open : MethodName := ⟨RX8, "open", "(I)I"⟩
abbrev cX8_when : ByteArray := prog_1_method_14_code
def yX8_when : MethodName := ⟨RX8, "when", "(I)I"⟩
abbrev cX8_how : ByteArray := prog_1_method_15_code
def yX8_how : MethodName := ⟨RX8, "how", "(I)I"⟩
abbrev cX8_read : ByteArray := prog_1_method_16_code
def yX8_read : MethodName := ⟨RX8, "read", "(I)I"⟩
abbrev cX8_reads : ByteArray := prog_1_method_17_code
def yX8_reads : MethodName := ⟨RX8, "reads", "(I)I"⟩
abbrev cX8_all : ByteArray := prog_1_method_18_code
def yX8_all : MethodName := ⟨RX8, "all", "()I"⟩
abbrev cX8_keeps : ByteArray := prog_1_method_19_code
def yX8_keeps : MethodName := ⟨RX8, "keeps", "(II)I"⟩
abbrev cX8_waits : ByteArray := prog_1_method_20_code
def yX8_waits : MethodName := ⟨RX8, "waits", "(I)I"⟩
abbrev cX8_next : ByteArray := prog_1_method_21_code
def yX8_next : MethodName := ⟨RX8, "next", "(I)I"⟩
abbrev cX8_dull : ByteArray := prog_1_method_22_code
def yX8_dull : MethodName := ⟨RX8, "dull", "(I)I"⟩
abbrev cX8_dies : ByteArray := prog_1_method_23_code
def yX8_dies : MethodName := ⟨RX8, "dies", "(I)I"⟩
abbrev cX8_ages : ByteArray := prog_1_method_24_code
def yX8_ages : MethodName := ⟨RX8, "ages", "(I)I"⟩
abbrev cX8_best : ByteArray := prog_1_method_25_code
def yX8_best : MethodName := ⟨RX8, "best", "(I)I"⟩
abbrev cX8_lone : ByteArray := prog_1_method_26_code
def yX8_lone : MethodName := ⟨RX8, "lone", "(I)I"⟩
abbrev cX8_stalest : ByteArray := prog_1_method_27_code
def yX8_stalest : MethodName := ⟨RX8, "stalest", "(I)I"⟩
abbrev cX8_cut : ByteArray := prog_1_method_28_code
def yX8_cut : MethodName := ⟨RX8, "cut", "(I)I"⟩
abbrev cX8_sharp : ByteArray := prog_1_method_29_code
def yX8_sharp : MethodName := ⟨RX8, "sharp", "()I"⟩
abbrev cX8_idle : ByteArray := prog_1_method_30_code
def yX8_idle : MethodName := ⟨RX8, "idle", "()I"⟩
abbrev cX8_uncut : ByteArray := prog_1_method_31_code
def yX8_uncut : MethodName := ⟨RX8, "uncut", "()I"⟩
abbrev cX8_done : ByteArray := prog_1_method_32_code
def yX8_done : MethodName := ⟨RX8, "done", "()I"⟩
abbrev cX8_rush : ByteArray := prog_1_method_33_code
def yX8_rush : MethodName := ⟨RX8, "rush", "()I"⟩
abbrev cX8_with : ByteArray := prog_1_method_34_code
def yX8_with : MethodName := ⟨RX8, "with", "(I)I"⟩
abbrev cX8_charms : ByteArray := prog_1_method_35_code
def yX8_charms : MethodName := ⟨RX8, "charms", "()I"⟩
abbrev cX8_peak : ByteArray := prog_1_method_36_code
def yX8_peak : MethodName := ⟨RX8, "peak", "()I"⟩
abbrev cX8_first : ByteArray := prog_1_method_37_code
def yX8_first : MethodName := ⟨RX8, "first", "()I"⟩
abbrev cX8_quiet : ByteArray := prog_1_method_38_code
def yX8_quiet : MethodName := ⟨RX8, "quiet", "()I"⟩
abbrev cX8_lost : ByteArray := prog_1_method_39_code
def yX8_lost : MethodName := ⟨RX8, "lost", "()I"⟩
abbrev cX8_few : ByteArray := prog_1_method_40_code
def yX8_few : MethodName := ⟨RX8, "few", "()I"⟩
abbrev cX8_fews : ByteArray := prog_1_method_41_code
def yX8_fews : MethodName := ⟨RX8, "fews", "()I"⟩
abbrev cX8_worth : ByteArray := prog_1_method_42_code
def yX8_worth : MethodName := ⟨RX8, "worth", "(I)I"⟩
abbrev cX8_share : ByteArray := prog_1_method_43_code
def yX8_share : MethodName := ⟨RX8, "share", "(II)I"⟩
abbrev cX8_plan : ByteArray := prog_1_method_44_code
def yX8_plan : MethodName := ⟨RX8, "plan", "(I)I"⟩
abbrev cX8_planned : ByteArray := prog_1_method_45_code
def yX8_planned : MethodName := ⟨RX8, "planned", "(II)I"⟩
abbrev cX8_plans : ByteArray := prog_1_method_46_code
def yX8_plans : MethodName := ⟨RX8, "plans", "(I)I"⟩
abbrev cX8_stiffs : ByteArray := prog_1_method_47_code
def yX8_stiffs : MethodName := ⟨RX8, "stiffs", "(II)I"⟩
abbrev cX8_low : ByteArray := prog_1_method_48_code
def yX8_low : MethodName := ⟨RX8, "low", "(II)I"⟩
abbrev cX8_high : ByteArray := prog_1_method_49_code
def yX8_high : MethodName := ⟨RX8, "high", "(II)I"⟩
abbrev cX8_ask : ByteArray := prog_1_method_50_code
def yX8_ask : MethodName := ⟨RX8, "ask", "(II)I"⟩
abbrev cX8_leaves : ByteArray := prog_1_method_51_code
def yX8_leaves : MethodName := ⟨RX8, "leaves", "(II)I"⟩
abbrev cX8_laws : ByteArray := prog_1_method_52_code
def yX8_laws : MethodName := ⟨RX8, "laws", "(I)I"⟩
abbrev cX8_by : ByteArray := prog_1_method_53_code
def yX8_by : MethodName := ⟨RX8, "by", "(I)I"⟩
abbrev cX8_law : ByteArray := prog_1_method_54_code
def yX8_law : MethodName := ⟨RX8, "law", "()I"⟩
abbrev cX8_blunt : ByteArray := prog_1_method_55_code
def yX8_blunt : MethodName := ⟨RX8, "blunt", "()I"⟩
abbrev cX8_slit : ByteArray := prog_1_method_56_code
def yX8_slit : MethodName := ⟨RX8, "slit", "()I"⟩
abbrev cX8_uncle : ByteArray := prog_1_method_57_code
def yX8_uncle : MethodName := ⟨RX8, "uncle", "()I"⟩
abbrev cX8_opens : ByteArray := prog_1_method_58_code
def yX8_opens : MethodName := ⟨RX8, "opens", "()I"⟩
abbrev cX8_replies : ByteArray := prog_1_method_59_code
def yX8_replies : MethodName := ⟨RX8, "replies", "(I)I"⟩
abbrev cX8_rests : ByteArray := prog_1_method_60_code
def yX8_rests : MethodName := ⟨RX8, "rests", "(II)I"⟩
abbrev cX8_gets : ByteArray := prog_1_method_61_code
def yX8_gets : MethodName := ⟨RX8, "gets", "(IIII)I"⟩
abbrev cX8_chance : ByteArray := prog_1_method_62_code
def yX8_chance : MethodName := ⟨RX8, "chance", "(II)I"⟩
abbrev cX8_mean : ByteArray := prog_1_method_63_code
def yX8_mean : MethodName := ⟨RX8, "mean", "(I)J"⟩
abbrev cX8_drawn : ByteArray := prog_1_method_64_code
def yX8_drawn : MethodName := ⟨RX8, "drawn", "(II)I"⟩
abbrev cX8_luck : ByteArray := prog_1_method_65_code
def yX8_luck : MethodName := ⟨RX8, "luck", "(III)I"⟩
abbrev cX8_knife : ByteArray := prog_1_method_66_code
def yX8_knife : MethodName := ⟨RX8, "knife", "(II)I"⟩
abbrev cX8_air : ByteArray := prog_1_method_67_code
def yX8_air : MethodName := ⟨RX8, "air", "(II)I"⟩
abbrev cX8_undo : ByteArray := prog_1_method_68_code
def yX8_undo : MethodName := ⟨RX8, "undo", "()I"⟩
abbrev cX8_anew : ByteArray := prog_1_method_69_code
def yX8_anew : MethodName := ⟨RX8, "anew", "()I"⟩
abbrev cX8_rate : ByteArray := prog_1_method_70_code
def yX8_rate : MethodName := ⟨RX8, "rate", "(II)I"⟩
abbrev cX8_image : ByteArray := prog_1_method_71_code
def yX8_image : MethodName := ⟨RX8, "image", "(I)I"⟩
abbrev cX8_back : ByteArray := prog_1_method_72_code
def yX8_back : MethodName := ⟨RX8, "back", "(I)I"⟩
abbrev cX8_row : ByteArray := prog_1_method_73_code
def yX8_row : MethodName := ⟨RX8, "row", "(III)I"⟩
abbrev cX8_write : ByteArray := prog_1_method_74_code
def yX8_write : MethodName := ⟨RX8, "write", "(IIJ)I"⟩
abbrev cX8_paste : ByteArray := prog_1_method_75_code
def yX8_paste : MethodName := ⟨RX8, "paste", "(IIIII)I"⟩
abbrev cX8_hasBit : ByteArray := prog_1_method_76_code
def yX8_hasBit : MethodName := ⟨RX8, "hasBit", "(II)Z"⟩
abbrev cX8_isAboveOrBelow : ByteArray := prog_1_method_77_code
def yX8_isAboveOrBelow : MethodName := ⟨RX8, "isAboveOrBelow", "(I)Z"⟩
abbrev cX8_isChoice : ByteArray := prog_1_method_78_code
def yX8_isChoice : MethodName := ⟨RX8, "isChoice", "(I)Z"⟩
abbrev cX8_isSeed : ByteArray := prog_1_method_79_code
def yX8_isSeed : MethodName := ⟨RX8, "isSeed", "(I)Z"⟩
abbrev cX8_factorial : ByteArray := prog_1_method_80_code
def yX8_factorial : MethodName := ⟨RX8, "factorial", "(I)I"⟩
abbrev cX8_lowestTerms : ByteArray := prog_1_method_81_code
def yX8_lowestTerms : MethodName := ⟨RX8, "lowestTerms", "(JJI)J"⟩
abbrev cX8_greatestDivisor : ByteArray := prog_1_method_82_code
def yX8_greatestDivisor : MethodName := ⟨RX8, "greatestDivisor", "(JJ)J"⟩
abbrev cX8_forgetAnswers : ByteArray := prog_1_method_83_code
def yX8_forgetAnswers : MethodName := ⟨RX8, "forgetAnswers", "()V"⟩
abbrev cX8_current : ByteArray := prog_1_method_84_code
def yX8_current : MethodName := ⟨RX8, "current", "()LUncutTale$Course;"⟩
abbrev cX8_asNow : ByteArray := prog_1_method_85_code
def yX8_asNow : MethodName := ⟨RX8, "asNow", "(I)V"⟩
abbrev cX8_hasPartAndYear : ByteArray := prog_1_method_86_code
def yX8_hasPartAndYear : MethodName := ⟨RX8, "hasPartAndYear", "(II)Z"⟩
abbrev cX8_isPair : ByteArray := prog_1_method_87_code
def yX8_isPair : MethodName := ⟨RX8, "isPair", "(II)Z"⟩
abbrev cX8_shutAtLast : ByteArray := prog_1_method_88_code
def yX8_shutAtLast : MethodName := ⟨RX8, "shutAtLast", "()I"⟩
abbrev cX8_openedIn : ByteArray := prog_1_method_89_code
def yX8_openedIn : MethodName := ⟨RX8, "openedIn", "(I)I"⟩
abbrev cX8_openingKnives : ByteArray := prog_1_method_90_code
def yX8_openingKnives : MethodName := ⟨RX8, "openingKnives", "()I"⟩
abbrev cX8_opensAnew : ByteArray := prog_1_method_91_code
def yX8_opensAnew : MethodName := ⟨RX8, "opensAnew", "(III)Z"⟩
abbrev cX8_fewest : ByteArray := prog_1_method_92_code
def yX8_fewest : MethodName := ⟨RX8, "fewest", "()I"⟩
abbrev cX8_setWorth : ByteArray := prog_1_method_93_code
def yX8_setWorth : MethodName := ⟨RX8, "setWorth", "(I)I"⟩
abbrev cX8_hasPlan : ByteArray := prog_1_method_94_code
def yX8_hasPlan : MethodName := ⟨RX8, "hasPlan", "(I)Z"⟩
abbrev cX8_planFor : ByteArray := prog_1_method_95_code
def yX8_planFor : MethodName := ⟨RX8, "planFor", "(I)V"⟩
abbrev cX8_refuseSeenOf : ByteArray := prog_1_method_96_code
def yX8_refuseSeenOf : MethodName := ⟨RX8, "refuseSeenOf", "(II)I"⟩
abbrev cX8_refuseSeen : ByteArray := prog_1_method_97_code
def yX8_refuseSeen : MethodName := ⟨RX8, "refuseSeen", "(I)I"⟩
abbrev cX8_refuseAct : ByteArray := prog_1_method_98_code
def yX8_refuseAct : MethodName := ⟨RX8, "refuseAct", "(II)I"⟩
abbrev cX8_readByLaw : ByteArray := prog_1_method_99_code
def yX8_readByLaw : MethodName := ⟨RX8, "readByLaw", "(I)I"⟩
abbrev cX8_uncleWorth : ByteArray := prog_1_method_100_code
def yX8_uncleWorth : MethodName := ⟨RX8, "uncleWorth", "(I)I"⟩
abbrev cX8_earChoice : ByteArray := prog_1_method_101_code
def yX8_earChoice : MethodName := ⟨RX8, "earChoice", "(I)I"⟩
abbrev cX8_sewnGets : ByteArray := prog_1_method_102_code
def yX8_sewnGets : MethodName := ⟨RX8, "sewnGets", "(IIII)I"⟩
abbrev cX8_weighOdds : ByteArray := prog_1_method_103_code
def yX8_weighOdds : MethodName := ⟨RX8, "weighOdds", "()V"⟩
abbrev cX8_knivesDrawn : ByteArray := prog_1_method_104_code
def yX8_knivesDrawn : MethodName := ⟨RX8, "knivesDrawn", "(J)I"⟩
def RX9 : String := "UncutTaleModel"
def TX9 : u_T := fun k => match k with
  | 0 => ("UncutTaleModel", "thrown", "I", false)
  | 1 => ("UncutTaleModel", "width", "[I", true)
  | 2 => ("UncutTaleModel", "many", "[I", true)
  | 3 => ("UncutTaleModel", "cells", "[J", true)
  | 4 => ("UncutTaleModel", "moved", "[J", true)
  | 5 => ("UncutTaleModel", "tape", "[B", true)
  | 6 => ("UncutTaleModel", "taped", "I", false)
  | 7 => ("UncutTaleModel", "spot", "I", false)
  | 8 => ("UncutTaleModel", "token", "I", false)
  | 9 => ("UncutTaleModel", "place", "I", false)
  | 10 => ("UncutTaleModel", "value", "I", false)
  | 11 => ("UncutTaleModel", "word", "J", false)
  | 12 => ("UncutTaleModel", "bad", "I", false)
  | 13 => ("UncutTaleModel", "badPlace", "I", false)
  | 14 => ("UncutTaleModel", "fault", "I", false)
  | 15 => ("UncutTaleModel", "faultPlace", "I", false)
  | 16 => ("UncutTaleModel", "lines", "[I", true)
  | 17 => ("UncutTaleModel", "has", "[I", true)
  | 18 => ("UncutTaleModel", "told", "[I", true)
  | 19 => ("UncutTaleModel", "fold", "[I", true)
  | 20 => ("UncutTaleModel", "blade", "[I", true)
  | 21 => ("UncutTaleModel", "act", "[I", true)
  | 22 => ("UncutTaleModel", "isKept", "[Z", true)
  | 23 => ("UncutTaleModel", "law", "I", false)
  | 24 => ("UncutTaleModel", "sewn", "I", false)
  | 25 => ("UncutTaleModel", "untold", "I", false)
  | 26 => ("UncutTaleModel", "notBlade", "I", false)
  | 27 => ("UncutTaleModel", "isPlanned", "Z", false)
  | 28 => ("UncutTaleModel", "stiffTold", "[I", true)
  | 29 => ("UncutTaleModel", "planSet", "[I", true)
  | 30 => ("UncutTaleModel", "stiffs0", "[I", true)
  | 31 => ("UncutTaleModel", "openAt", "[I", true)
  | 32 => ("UncutTaleModel", "openedIn", "[I", true)
  | 33 => ("UncutTaleModel", "howOpened", "[I", true)
  | 34 => ("UncutTaleModel", "readFor", "[I", true)
  | 35 => ("UncutTaleModel", "sharpBits", "I", false)
  | 36 => ("UncutTaleModel", "openNow", "I", false)
  | 37 => ("UncutTaleModel", "planMost", "I", false)
  | 38 => ("UncutTaleModel", "planMany", "I", false)
  | 39 => ("UncutTaleModel", "planRow", "[I", true)
  | 40 => ("UncutTaleModel", "planNow", "[I", true)
  | 41 => ("UncutTaleModel", "seenMany", "I", false)
  | 42 => ("UncutTaleModel", "seenLow", "I", false)
  | 43 => ("UncutTaleModel", "seenHigh", "I", false)
  | 44 => ("UncutTaleModel", "askBest", "I", false)
  | 45 => ("UncutTaleModel", "askLeaves", "I", false)
  | 46 => ("UncutTaleModel", "oftenAt", "[I", true)
  | 47 => ("UncutTaleModel", "earBest", "I", false)
  | 48 => ("UncutTaleModel", "earLeast", "I", false)
  | 49 => ("UncutTaleModel", "uncleBest", "I", false)
  | _ => ("UncutTaleModel", "uncleMost", "I", false)
def tyX9 : Nat → FieldType := fun k => match k with
  | 0 => .int
  | 1 => .array .int
  | 2 => .array .int
  | 3 => .array .long
  | 4 => .array .long
  | 5 => .array .byte
  | 6 => .int
  | 7 => .int
  | 8 => .int
  | 9 => .int
  | 10 => .int
  | 11 => .long
  | 12 => .int
  | 13 => .int
  | 14 => .int
  | 15 => .int
  | 16 => .array .int
  | 17 => .array .int
  | 18 => .array .int
  | 19 => .array .int
  | 20 => .array .int
  | 21 => .array .int
  | 22 => .array .boolean
  | 23 => .int
  | 24 => .int
  | 25 => .int
  | 26 => .int
  | 27 => .boolean
  | 28 => .array .int
  | 29 => .array .int
  | 30 => .array .int
  | 31 => .array .int
  | 32 => .array .int
  | 33 => .array .int
  | 34 => .array .int
  | 35 => .int
  | 36 => .int
  | 37 => .int
  | 38 => .int
  | 39 => .array .int
  | 40 => .array .int
  | 41 => .int
  | 42 => .int
  | 43 => .int
  | 44 => .int
  | 45 => .int
  | 46 => .array .int
  | 47 => .int
  | 48 => .int
  | 49 => .int
  | _ => .int
abbrev wsX90 : List Cond := u_ws RX9 TX9 51
theorem nmX9 : ∀ a, a < 51 → ∀ b, b < 51 → a ≠ b → (TX9 a).2.1 ≠ (TX9 b).2.1 := by decide +kernel
theorem tyX9_ok : ∀ k, k < 51 → parseFieldDescriptor (TX9 k).2.2.1 = some (tyX9 k) := by decide +kernel
abbrev cX9_init : ByteArray := prog_11_method_1_code
def yX9_init : MethodName := ⟨RX9, "<init>", "()V"⟩
abbrev cX9_in : ByteArray := prog_11_method_3_code
def yX9_in : MethodName := ⟨RX9, "in", "(JJJ)Z"⟩
abbrev cX9_isSlot : ByteArray := prog_11_method_4_code
def yX9_isSlot : MethodName := ⟨RX9, "isSlot", "(I)Z"⟩
abbrev cX9_row : ByteArray := prog_11_method_5_code
def yX9_row : MethodName := ⟨RX9, "row", "(III)I"⟩
abbrev cX9_cut : ByteArray := prog_11_method_6_code
def yX9_cut : MethodName := ⟨RX9, "cut", "(JI)J"⟩
abbrev cX9_write : ByteArray := prog_11_method_7_code
def yX9_write : MethodName := ⟨RX9, "write", "(IIJ)I"⟩
abbrev cX9_paste : ByteArray := prog_11_method_8_code
def yX9_paste : MethodName := ⟨RX9, "paste", "(IIIII)I"⟩
abbrev cX9_feed : ByteArray := prog_11_method_9_code
def yX9_feed : MethodName := ⟨RX9, "feed", "(IIIII)I"⟩
abbrev cX9_four : ByteArray := prog_11_method_10_code
def yX9_four : MethodName := ⟨RX9, "four", "(I)V"⟩
abbrev cX9_end : ByteArray := prog_11_method_11_code
def yX9_end : MethodName := ⟨RX9, "end", "(I)I"⟩
abbrev cX9_isByte : ByteArray := prog_11_method_12_code
def yX9_isByte : MethodName := ⟨RX9, "isByte", "(III)Z"⟩
abbrev cX9_follows : ByteArray := prog_11_method_13_code
def yX9_follows : MethodName := ⟨RX9, "follows", "()V"⟩
abbrev cX9_isGood : ByteArray := prog_11_method_14_code
def yX9_isGood : MethodName := ⟨RX9, "isGood", "()Z"⟩
abbrev cX9_fails : ByteArray := prog_11_method_15_code
def yX9_fails : MethodName := ⟨RX9, "fails", "(I)V"⟩
abbrev cX9_is : ByteArray := prog_11_method_16_code
def yX9_is : MethodName := ⟨RX9, "is", "(J)Z"⟩
abbrev cX9_takesWord : ByteArray := prog_11_method_17_code
def yX9_takesWord : MethodName := ⟨RX9, "takesWord", "(J)Z"⟩
abbrev cX9_asks : ByteArray := prog_11_method_18_code
def yX9_asks : MethodName := ⟨RX9, "asks", "(J)V"⟩
abbrev cX9_number : ByteArray := prog_11_method_19_code
def yX9_number : MethodName := ⟨RX9, "number", "(II)I"⟩
abbrev cX9_number_ : ByteArray := prog_11_method_20_code
def yX9_number_ : MethodName := ⟨RX9, "number", "(JII)I"⟩
abbrev cX9_ends : ByteArray := prog_11_method_21_code
def yX9_ends : MethodName := ⟨RX9, "ends", "()V"⟩
abbrev cX9_begins : ByteArray := prog_11_method_22_code
def yX9_begins : MethodName := ⟨RX9, "begins", "()V"⟩
abbrev cX9_isOver : ByteArray := prog_11_method_23_code
def yX9_isOver : MethodName := ⟨RX9, "isOver", "()V"⟩
abbrev cX9_fault : ByteArray := prog_11_method_24_code
def yX9_fault : MethodName := ⟨RX9, "fault", "(I)I"⟩
abbrev cX9_hasRead : ByteArray := prog_11_method_25_code
def yX9_hasRead : MethodName := ⟨RX9, "hasRead", "(I)I"⟩
abbrev cX9_tellsOf : ByteArray := prog_11_method_26_code
def yX9_tellsOf : MethodName := ⟨RX9, "tellsOf", "(II)V"⟩
abbrev cX9_partHere : ByteArray := prog_11_method_27_code
def yX9_partHere : MethodName := ⟨RX9, "partHere", "()I"⟩
abbrev cX9_partLine : ByteArray := prog_11_method_28_code
def yX9_partLine : MethodName := ⟨RX9, "partLine", "()V"⟩
abbrev cX9_areJoined : ByteArray := prog_11_method_29_code
def yX9_areJoined : MethodName := ⟨RX9, "areJoined", "(II)Z"⟩
abbrev cX9_foldLine : ByteArray := prog_11_method_30_code
def yX9_foldLine : MethodName := ⟨RX9, "foldLine", "()V"⟩
abbrev cX9_knifeLine : ByteArray := prog_11_method_31_code
def yX9_knifeLine : MethodName := ⟨RX9, "knifeLine", "()V"⟩
abbrev cX9_isRoom : ByteArray := prog_11_method_32_code
def yX9_isRoom : MethodName := ⟨RX9, "isRoom", "(ZII)Z"⟩
abbrev cX9_lineHere : ByteArray := prog_11_method_33_code
def yX9_lineHere : MethodName := ⟨RX9, "lineHere", "()V"⟩
abbrev cX9_clears : ByteArray := prog_11_method_34_code
def yX9_clears : MethodName := ⟨RX9, "clears", "()V"⟩
abbrev cX9_tale : ByteArray := prog_11_method_35_code
def yX9_tale : MethodName := ⟨RX9, "tale", "()I"⟩
abbrev cX9_copyRow : ByteArray := prog_11_method_36_code
def yX9_copyRow : MethodName := ⟨RX9, "copyRow", "([IIII)V"⟩
abbrev cX9_copyTale : ByteArray := prog_11_method_37_code
def yX9_copyTale : MethodName := ⟨RX9, "copyTale", "(II)V"⟩
abbrev cX9_isTale : ByteArray := prog_11_method_38_code
def yX9_isTale : MethodName := ⟨RX9, "isTale", "()Z"⟩
abbrev cX9_parts : ByteArray := prog_11_method_39_code
def yX9_parts : MethodName := ⟨RX9, "parts", "()I"⟩
abbrev cX9_years : ByteArray := prog_11_method_40_code
def yX9_years : MethodName := ⟨RX9, "years", "()I"⟩
abbrev cX9_isPart : ByteArray := prog_11_method_41_code
def yX9_isPart : MethodName := ⟨RX9, "isPart", "(J)Z"⟩
abbrev cX9_isYear : ByteArray := prog_11_method_42_code
def yX9_isYear : MethodName := ⟨RX9, "isYear", "(J)Z"⟩
abbrev cX9_isAhead : ByteArray := prog_11_method_43_code
def yX9_isAhead : MethodName := ⟨RX9, "isAhead", "(I)Z"⟩
abbrev cX9_isThen : ByteArray := prog_11_method_44_code
def yX9_isThen : MethodName := ⟨RX9, "isThen", "(II)Z"⟩
abbrev cX9_areTwo : ByteArray := prog_11_method_45_code
def yX9_areTwo : MethodName := ⟨RX9, "areTwo", "(II)Z"⟩
abbrev cX9_isHalf : ByteArray := prog_11_method_46_code
def yX9_isHalf : MethodName := ⟨RX9, "isHalf", "(I)Z"⟩
abbrev cX9_isBit : ByteArray := prog_11_method_47_code
def yX9_isBit : MethodName := ⟨RX9, "isBit", "(II)Z"⟩
abbrev cX9_sizeOf : ByteArray := prog_11_method_48_code
def yX9_sizeOf : MethodName := ⟨RX9, "sizeOf", "(I)I"⟩
abbrev cX9_lessOf : ByteArray := prog_11_method_49_code
def yX9_lessOf : MethodName := ⟨RX9, "lessOf", "(II)I"⟩
abbrev cX9_moreOf : ByteArray := prog_11_method_50_code
def yX9_moreOf : MethodName := ⟨RX9, "moreOf", "(II)I"⟩
abbrev cX9_every : ByteArray := prog_11_method_51_code
def yX9_every : MethodName := ⟨RX9, "every", "()I"⟩
abbrev cX9_lays : ByteArray := prog_11_method_52_code
def yX9_lays : MethodName := ⟨RX9, "lays", "()V"⟩
abbrev cX9_nearOf : ByteArray := prog_11_method_53_code
def yX9_nearOf : MethodName := ⟨RX9, "nearOf", "(I)I"⟩
abbrev cX9_stiffAt : ByteArray := prog_11_method_54_code
def yX9_stiffAt : MethodName := ⟨RX9, "stiffAt", "(II)I"⟩
abbrev cX9_opens0 : ByteArray := prog_11_method_55_code
def yX9_opens0 : MethodName := ⟨RX9, "opens0", "(III)V"⟩
abbrev cX9_cuts : ByteArray := prog_11_method_56_code
def yX9_cuts : MethodName := ⟨RX9, "cuts", "(III)V"⟩
abbrev cX9_opensOthers : ByteArray := prog_11_method_57_code
def yX9_opensOthers : MethodName := ⟨RX9, "opensOthers", "(I)V"⟩
abbrev cX9_stiffer : ByteArray := prog_11_method_58_code
def yX9_stiffer : MethodName := ⟨RX9, "stiffer", "(II)I"⟩
abbrev cX9_runs : ByteArray := prog_11_method_59_code
def yX9_runs : MethodName := ⟨RX9, "runs", "()V"⟩
abbrev cX9_airs : ByteArray := prog_11_method_60_code
def yX9_airs : MethodName := ⟨RX9, "airs", "(I)V"⟩
abbrev cX9_knivesOf : ByteArray := prog_11_method_61_code
def yX9_knivesOf : MethodName := ⟨RX9, "knivesOf", "(I)V"⟩
abbrev cX9_laysNow : ByteArray := prog_11_method_62_code
def yX9_laysNow : MethodName := ⟨RX9, "laysNow", "()V"⟩
abbrev cX9_readIn : ByteArray := prog_11_method_63_code
def yX9_readIn : MethodName := ⟨RX9, "readIn", "(I)I"⟩
abbrev cX9_readAll : ByteArray := prog_11_method_64_code
def yX9_readAll : MethodName := ⟨RX9, "readAll", "()I"⟩
abbrev cX9_keepsOf : ByteArray := prog_11_method_65_code
def yX9_keepsOf : MethodName := ⟨RX9, "keepsOf", "(II)I"⟩
abbrev cX9_part : ByteArray := prog_11_method_66_code
def yX9_part : MethodName := ⟨RX9, "part", "(II)I"⟩
abbrev cX9_near : ByteArray := prog_11_method_67_code
def yX9_near : MethodName := ⟨RX9, "near", "(I)I"⟩
abbrev cX9_far : ByteArray := prog_11_method_68_code
def yX9_far : MethodName := ⟨RX9, "far", "(II)I"⟩
abbrev cX9_stiff : ByteArray := prog_11_method_69_code
def yX9_stiff : MethodName := ⟨RX9, "stiff", "(II)I"⟩
abbrev cX9_open : ByteArray := prog_11_method_70_code
def yX9_open : MethodName := ⟨RX9, "open", "(I)I"⟩
abbrev cX9_when : ByteArray := prog_11_method_71_code
def yX9_when : MethodName := ⟨RX9, "when", "(I)I"⟩
abbrev cX9_how : ByteArray := prog_11_method_72_code
def yX9_how : MethodName := ⟨RX9, "how", "(I)I"⟩
abbrev cX9_read : ByteArray := prog_11_method_73_code
def yX9_read : MethodName := ⟨RX9, "read", "(I)I"⟩
abbrev cX9_reads : ByteArray := prog_11_method_74_code
def yX9_reads : MethodName := ⟨RX9, "reads", "(I)I"⟩
abbrev cX9_all : ByteArray := prog_11_method_75_code
def yX9_all : MethodName := ⟨RX9, "all", "()I"⟩
abbrev cX9_keeps : ByteArray := prog_11_method_76_code
def yX9_keeps : MethodName := ⟨RX9, "keeps", "(II)I"⟩
abbrev cX9_waits : ByteArray := prog_11_method_77_code
def yX9_waits : MethodName := ⟨RX9, "waits", "(I)I"⟩
abbrev cX9_next : ByteArray := prog_11_method_78_code
def yX9_next : MethodName := ⟨RX9, "next", "(I)I"⟩
abbrev cX9_dull : ByteArray := prog_11_method_79_code
def yX9_dull : MethodName := ⟨RX9, "dull", "(I)I"⟩
abbrev cX9_dies : ByteArray := prog_11_method_80_code
def yX9_dies : MethodName := ⟨RX9, "dies", "(I)I"⟩
abbrev cX9_ages : ByteArray := prog_11_method_81_code
def yX9_ages : MethodName := ⟨RX9, "ages", "(I)I"⟩
abbrev cX9_cut_ : ByteArray := prog_11_method_82_code
def yX9_cut_ : MethodName := ⟨RX9, "cut", "(I)I"⟩
abbrev cX9_sharp : ByteArray := prog_11_method_83_code
def yX9_sharp : MethodName := ⟨RX9, "sharp", "()I"⟩
abbrev cX9_uncut : ByteArray := prog_11_method_84_code
def yX9_uncut : MethodName := ⟨RX9, "uncut", "()I"⟩
abbrev cX9_done : ByteArray := prog_11_method_85_code
def yX9_done : MethodName := ⟨RX9, "done", "()I"⟩
abbrev cX9_freshIn : ByteArray := prog_11_method_86_code
def yX9_freshIn : MethodName := ⟨RX9, "freshIn", "(I)I"⟩
abbrev cX9_rush : ByteArray := prog_11_method_87_code
def yX9_rush : MethodName := ⟨RX9, "rush", "()I"⟩
abbrev cX9_with : ByteArray := prog_11_method_88_code
def yX9_with : MethodName := ⟨RX9, "with", "(I)I"⟩
abbrev cX9_charms : ByteArray := prog_11_method_89_code
def yX9_charms : MethodName := ⟨RX9, "charms", "()I"⟩
abbrev cX9_best : ByteArray := prog_11_method_90_code
def yX9_best : MethodName := ⟨RX9, "best", "(I)I"⟩
abbrev cX9_peak : ByteArray := prog_11_method_91_code
def yX9_peak : MethodName := ⟨RX9, "peak", "()I"⟩
abbrev cX9_first : ByteArray := prog_11_method_92_code
def yX9_first : MethodName := ⟨RX9, "first", "()I"⟩
abbrev cX9_quiet : ByteArray := prog_11_method_93_code
def yX9_quiet : MethodName := ⟨RX9, "quiet", "()I"⟩
abbrev cX9_lone : ByteArray := prog_11_method_94_code
def yX9_lone : MethodName := ⟨RX9, "lone", "(I)I"⟩
abbrev cX9_stalest : ByteArray := prog_11_method_95_code
def yX9_stalest : MethodName := ⟨RX9, "stalest", "(I)I"⟩
abbrev cX9_pieces : ByteArray := prog_11_method_96_code
def yX9_pieces : MethodName := ⟨RX9, "pieces", "()I"⟩
abbrev cX9_lost : ByteArray := prog_11_method_97_code
def yX9_lost : MethodName := ⟨RX9, "lost", "()I"⟩
abbrev cX9_knives : ByteArray := prog_11_method_98_code
def yX9_knives : MethodName := ⟨RX9, "knives", "(I)I"⟩
abbrev cX9_idle : ByteArray := prog_11_method_99_code
def yX9_idle : MethodName := ⟨RX9, "idle", "()I"⟩
abbrev cX9_worthOf : ByteArray := prog_11_method_100_code
def yX9_worthOf : MethodName := ⟨RX9, "worthOf", "(I)I"⟩
abbrev cX9_fewOf : ByteArray := prog_11_method_101_code
def yX9_fewOf : MethodName := ⟨RX9, "fewOf", "()I"⟩
abbrev cX9_few : ByteArray := prog_11_method_102_code
def yX9_few : MethodName := ⟨RX9, "few", "()I"⟩
abbrev cX9_fews : ByteArray := prog_11_method_103_code
def yX9_fews : MethodName := ⟨RX9, "fews", "()I"⟩
abbrev cX9_worth : ByteArray := prog_11_method_104_code
def yX9_worth : MethodName := ⟨RX9, "worth", "(I)I"⟩
abbrev cX9_times : ByteArray := prog_11_method_105_code
def yX9_times : MethodName := ⟨RX9, "times", "(I)I"⟩
abbrev cX9_common : ByteArray := prog_11_method_106_code
def yX9_common : MethodName := ⟨RX9, "common", "(JJ)J"⟩
abbrev cX9_part0 : ByteArray := prog_11_method_107_code
def yX9_part0 : MethodName := ⟨RX9, "part0", "(JJI)J"⟩
abbrev cX9_share : ByteArray := prog_11_method_108_code
def yX9_share : MethodName := ⟨RX9, "share", "(II)I"⟩
abbrev cX9_runsPlan : ByteArray := prog_11_method_109_code
def yX9_runsPlan : MethodName := ⟨RX9, "runsPlan", "(I)V"⟩
abbrev cX9_planFrom : ByteArray := prog_11_method_110_code
def yX9_planFrom : MethodName := ⟨RX9, "planFrom", "(II)V"⟩
abbrev cX9_laysPlan : ByteArray := prog_11_method_111_code
def yX9_laysPlan : MethodName := ⟨RX9, "laysPlan", "(I)V"⟩
abbrev cX9_isPlan : ByteArray := prog_11_method_112_code
def yX9_isPlan : MethodName := ⟨RX9, "isPlan", "(I)Z"⟩
abbrev cX9_plan : ByteArray := prog_11_method_113_code
def yX9_plan : MethodName := ⟨RX9, "plan", "(I)I"⟩
abbrev cX9_planned : ByteArray := prog_11_method_114_code
def yX9_planned : MethodName := ⟨RX9, "planned", "(II)I"⟩
abbrev cX9_plans : ByteArray := prog_11_method_115_code
def yX9_plans : MethodName := ⟨RX9, "plans", "(I)I"⟩
abbrev cX9_whyNot : ByteArray := prog_11_method_116_code
def yX9_whyNot : MethodName := ⟨RX9, "whyNot", "(IZ)I"⟩
abbrev cX9_isSo : ByteArray := prog_11_method_117_code
def yX9_isSo : MethodName := ⟨RX9, "isSo", "(I)Z"⟩
abbrev cX9_laysSeen : ByteArray := prog_11_method_118_code
def yX9_laysSeen : MethodName := ⟨RX9, "laysSeen", "(II)V"⟩
abbrev cX9_stiffs : ByteArray := prog_11_method_119_code
def yX9_stiffs : MethodName := ⟨RX9, "stiffs", "(II)I"⟩
abbrev cX9_low : ByteArray := prog_11_method_120_code
def yX9_low : MethodName := ⟨RX9, "low", "(II)I"⟩
abbrev cX9_high : ByteArray := prog_11_method_121_code
def yX9_high : MethodName := ⟨RX9, "high", "(II)I"⟩
abbrev cX9_ask : ByteArray := prog_11_method_122_code
def yX9_ask : MethodName := ⟨RX9, "ask", "(II)I"⟩
abbrev cX9_leaves : ByteArray := prog_11_method_123_code
def yX9_leaves : MethodName := ⟨RX9, "leaves", "(II)I"⟩
abbrev cX9_allBy : ByteArray := prog_11_method_124_code
def yX9_allBy : MethodName := ⟨RX9, "allBy", "(I)I"⟩
abbrev cX9_laws : ByteArray := prog_11_method_125_code
def yX9_laws : MethodName := ⟨RX9, "laws", "(I)I"⟩
abbrev cX9_by : ByteArray := prog_11_method_126_code
def yX9_by : MethodName := ⟨RX9, "by", "(I)I"⟩
abbrev cX9_law : ByteArray := prog_11_method_127_code
def yX9_law : MethodName := ⟨RX9, "law", "()I"⟩
abbrev cX9_blunt : ByteArray := prog_11_method_128_code
def yX9_blunt : MethodName := ⟨RX9, "blunt", "()I"⟩
abbrev cX9_slit : ByteArray := prog_11_method_129_code
def yX9_slit : MethodName := ⟨RX9, "slit", "()I"⟩
abbrev cX9_laysEar : ByteArray := prog_11_method_130_code
def yX9_laysEar : MethodName := ⟨RX9, "laysEar", "(I)V"⟩
abbrev cX9_laysUncle : ByteArray := prog_11_method_131_code
def yX9_laysUncle : MethodName := ⟨RX9, "laysUncle", "()V"⟩
abbrev cX9_uncle : ByteArray := prog_11_method_132_code
def yX9_uncle : MethodName := ⟨RX9, "uncle", "()I"⟩
abbrev cX9_opens : ByteArray := prog_11_method_133_code
def yX9_opens : MethodName := ⟨RX9, "opens", "()I"⟩
abbrev cX9_replies : ByteArray := prog_11_method_134_code
def yX9_replies : MethodName := ⟨RX9, "replies", "(I)I"⟩
abbrev cX9_getsBy : ByteArray := prog_11_method_135_code
def yX9_getsBy : MethodName := ⟨RX9, "getsBy", "(IIIII)I"⟩
abbrev cX9_rests : ByteArray := prog_11_method_136_code
def yX9_rests : MethodName := ⟨RX9, "rests", "(II)I"⟩
abbrev cX9_gets : ByteArray := prog_11_method_137_code
def yX9_gets : MethodName := ⟨RX9, "gets", "(IIII)I"⟩
abbrev cX9_power : ByteArray := prog_11_method_138_code
def yX9_power : MethodName := ⟨RX9, "power", "(JI)J"⟩
abbrev cX9_weightOf : ByteArray := prog_11_method_139_code
def yX9_weightOf : MethodName := ⟨RX9, "weightOf", "(I)J"⟩
abbrev cX9_chance : ByteArray := prog_11_method_140_code
def yX9_chance : MethodName := ⟨RX9, "chance", "(II)I"⟩
abbrev cX9_mean : ByteArray := prog_11_method_141_code
def yX9_mean : MethodName := ⟨RX9, "mean", "(I)J"⟩
abbrev cX9_draws : ByteArray := prog_11_method_142_code
def yX9_draws : MethodName := ⟨RX9, "draws", "(J)I"⟩
abbrev cX9_isSeed : ByteArray := prog_11_method_143_code
def yX9_isSeed : MethodName := ⟨RX9, "isSeed", "(I)Z"⟩
abbrev cX9_drawn : ByteArray := prog_11_method_144_code
def yX9_drawn : MethodName := ⟨RX9, "drawn", "(II)I"⟩
abbrev cX9_luck : ByteArray := prog_11_method_145_code
def yX9_luck : MethodName := ⟨RX9, "luck", "(III)I"⟩
abbrev cX9_does : ByteArray := prog_11_method_146_code
def yX9_does : MethodName := ⟨RX9, "does", "(III)V"⟩
abbrev cX9_knife : ByteArray := prog_11_method_147_code
def yX9_knife : MethodName := ⟨RX9, "knife", "(II)I"⟩
abbrev cX9_air : ByteArray := prog_11_method_148_code
def yX9_air : MethodName := ⟨RX9, "air", "(II)I"⟩
abbrev cX9_undo : ByteArray := prog_11_method_149_code
def yX9_undo : MethodName := ⟨RX9, "undo", "()I"⟩
abbrev cX9_anew : ByteArray := prog_11_method_150_code
def yX9_anew : MethodName := ⟨RX9, "anew", "()I"⟩
abbrev cX9_rate : ByteArray := prog_11_method_151_code
def yX9_rate : MethodName := ⟨RX9, "rate", "(II)I"⟩
abbrev cX9_count : ByteArray := prog_11_method_152_code
def yX9_count : MethodName := ⟨RX9, "count", "(I)I"⟩
abbrev cX9_image : ByteArray := prog_11_method_153_code
def yX9_image : MethodName := ⟨RX9, "image", "(I)I"⟩
abbrev cX9_back : ByteArray := prog_11_method_154_code
def yX9_back : MethodName := ⟨RX9, "back", "(I)I"⟩
def RJx145de : String := "java/io/Serializable"
def RJx9f9b0 : String := "java/lang/CharSequence"
def RJxb160c : String := "java/lang/Comparable"
def RJ6 : String := "java/lang/Integer"
abbrev cJ6_bitCount_0f7a4 : ByteArray := prog_12_method_49_code
def yJ6_bitCount_0f7a4 : MethodName := ⟨RJ6, "bitCount", "(I)I"⟩
def RJ9 : String := "java/lang/Math"
abbrev cJ9_abs_067f4 : ByteArray := prog_13_method_61_code
def yJ9_abs_067f4 : MethodName := ⟨RJ9, "abs", "(J)J"⟩
abbrev cJ9_max_7cf53 : ByteArray := prog_13_method_65_code
def yJ9_max_7cf53 : MethodName := ⟨RJ9, "max", "(II)I"⟩
abbrev cJ9_max_f86c9 : ByteArray := prog_13_method_66_code
def yJ9_max_f86c9 : MethodName := ⟨RJ9, "max", "(JJ)J"⟩
abbrev cJ9_min_7cf53 : ByteArray := prog_13_method_69_code
def yJ9_min_7cf53 : MethodName := ⟨RJ9, "min", "(II)I"⟩
def RJ0 : String := "java/lang/String"
abbrev cJ0_length_8abf5 : ByteArray := prog_14_method_54_code
def yJ0_length_8abf5 : MethodName := ⟨RJ0, "length", "()I"⟩
abbrev cJ0_charAt_5068e : ByteArray := prog_14_method_56_code
def yJ0_charAt_5068e : MethodName := ⟨RJ0, "charAt", "(I)C"⟩
abbrev cJ0_coder_7d493 : ByteArray := prog_14_method_152_code
def yJ0_coder_7d493 : MethodName := ⟨RJ0, "coder", "()B"⟩
abbrev cJ0_isLatin1_aae02 : ByteArray := prog_14_method_154_code
def yJ0_isLatin1_aae02 : MethodName := ⟨RJ0, "isLatin1", "()Z"⟩
abbrev cJ0_checkIndex_df160 : ByteArray := prog_14_method_155_code
def yJ0_checkIndex_df160 : MethodName := ⟨RJ0, "checkIndex", "(II)V"⟩
def RJ1 : String := "java/lang/StringLatin1"
abbrev cJ1_charAt_3b067 : ByteArray := prog_15_method_2_code
def yJ1_charAt_3b067 : MethodName := ⟨RJ1, "charAt", "([BI)C"⟩
def RJ2 : String := "java/lang/StringUTF16"
abbrev cJ2_getChar_3b067 : ByteArray := prog_16_method_5_code
def yJ2_getChar_3b067 : MethodName := ⟨RJ2, "getChar", "([BI)C"⟩
abbrev cJ2_length_9d52b : ByteArray := prog_16_method_6_code
def yJ2_length_9d52b : MethodName := ⟨RJ2, "length", "([B)I"⟩
abbrev cJ2_charAt_3b067 : ByteArray := prog_16_method_83_code
def yJ2_charAt_3b067 : MethodName := ⟨RJ2, "charAt", "([BI)C"⟩
abbrev cJ2_checkIndex_2214a : ByteArray := prog_16_method_91_code
def yJ2_checkIndex_2214a : MethodName := ⟨RJ2, "checkIndex", "(I[B)V"⟩
def RJ10 : String := "java/lang/System"
def RJxfd54e : String := "java/lang/constant/Constable"
def RJx3cf43 : String := "java/lang/constant/ConstantDesc"
def RJ7 : String := "java/util/Arrays"
abbrev cJ7_rangeCheck_23922 : ByteArray := prog_18_method_30_code
def yJ7_rangeCheck_23922 : MethodName := ⟨RJ7, "rangeCheck", "(III)V"⟩
abbrev cJ7_fill_d0a16 : ByteArray := prog_18_method_101_code
def yJ7_fill_d0a16 : MethodName := ⟨RJ7, "fill", "([JJ)V"⟩
abbrev cJ7_fill_bad5a : ByteArray := prog_18_method_102_code
def yJ7_fill_bad5a : MethodName := ⟨RJ7, "fill", "([JIIJ)V"⟩
abbrev cJ7_fill_53178 : ByteArray := prog_18_method_103_code
def yJ7_fill_53178 : MethodName := ⟨RJ7, "fill", "([II)V"⟩
def RJ3 : String := "jdk/internal/util/Preconditions"
abbrev cJ3_checkIndex_8e157 : ByteArray := prog_19_method_11_code
def yJ3_checkIndex_8e157 : MethodName := ⟨RJ3, "checkIndex", "(IILjava/util/function/BiFunction;)I"⟩
def RL : String := "UncutTaleLaw"
abbrev cL_law : ByteArray := code
def yL_law : MethodName := ⟨RL, "law", "([I)Z"⟩
abbrev vwCl : List vw_C := [(RX0, TX0, 10), (RX1, TX1, 6), (RX2, TX2, 5), (RX3, TX3, 8), (RX4, TX4, 9), (RX5, TX5, 3), (RX6, TX6, 18), (RX7, TX7, 2), (RX8, TX8, 15), (RX9, TX9, 51)]
def NC : Nat := 119
def tbl : List ((Nat × Nat × List Nat) ⊕ (Nat × List Nat)) := [
  .inr (8, [3, 5, 16, 17, 28, 62, 63, 67, 74, 81, 93, 95, 0, 0, 0]),
  .inr (7, [4, 0]),
  .inl (1, 700, []),
  .inr (6, [6, 7, 8, 9, 10, 11, 12, 13, 14, 15, 0, 0, 0, 0, 0, 0, 0, 0]),
  .inl (0, 6, []),
  .inl (0, 6, []),
  .inl (0, 6, []),
  .inl (0, 10, []),
  .inl (0, 10, []),
  .inl (0, 8, []),
  .inl (0, 8, []),
  .inl (0, 20, []),
  .inl (0, 20, []),
  .inl (0, 20, []),
  .inr (3, [3, 5, 0, 0, 0, 0, 0, 0]),
  .inr (6, [18, 19, 20, 21, 22, 23, 24, 25, 26, 27, 0, 0, 0, 0, 0, 0, 0, 0]),
  .inl (0, 6, []),
  .inl (0, 6, []),
  .inl (0, 6, []),
  .inl (0, 10, []),
  .inl (0, 10, []),
  .inl (0, 8, []),
  .inl (0, 8, []),
  .inl (0, 20, []),
  .inl (0, 20, []),
  .inl (0, 20, []),
  .inl (4, 3, [27, 38, 49]),
  .inr (6, [30, 31, 32, 33, 34, 35, 36, 37, 38, 39, 0, 0, 0, 0, 0, 0, 0, 0]),
  .inl (0, 6, []),
  .inl (0, 6, []),
  .inl (0, 6, []),
  .inl (0, 10, []),
  .inl (0, 10, []),
  .inl (0, 8, []),
  .inl (0, 8, []),
  .inl (0, 20, []),
  .inl (0, 20, []),
  .inl (0, 20, []),
  .inr (6, [41, 42, 43, 44, 45, 46, 47, 48, 49, 50, 0, 0, 0, 0, 0, 0, 0, 0]),
  .inl (0, 6, []),
  .inl (0, 6, []),
  .inl (0, 6, []),
  .inl (0, 10, []),
  .inl (0, 10, []),
  .inl (0, 8, []),
  .inl (0, 8, []),
  .inl (0, 20, []),
  .inl (0, 20, []),
  .inl (0, 20, []),
  .inr (6, [52, 53, 54, 55, 56, 57, 58, 59, 60, 61, 0, 0, 0, 0, 0, 0, 0, 0]),
  .inl (0, 6, []),
  .inl (0, 6, []),
  .inl (0, 6, []),
  .inl (0, 10, []),
  .inl (0, 10, []),
  .inl (0, 8, []),
  .inl (0, 8, []),
  .inl (0, 20, []),
  .inl (0, 20, []),
  .inl (0, 20, []),
  .inl (2, 3, []),
  .inr (5, [64, 65, 66]),
  .inl (0, 4, []),
  .inl (0, 4, []),
  .inl (3, 240, []),
  .inr (0, [17, 68, 69, 70, 71, 72, 73, 0, 0, 0]),
  .inl (0, 6, []),
  .inl (0, 72, []),
  .inl (0, 12, []),
  .inl (0, 13, []),
  .inl (0, 6, []),
  .inl (0, 13, []),
  .inr (0, [17, 75, 76, 77, 78, 79, 80, 0, 0, 0]),
  .inl (0, 6, []),
  .inl (0, 72, []),
  .inl (0, 12, []),
  .inl (0, 13, []),
  .inl (0, 6, []),
  .inl (0, 13, []),
  .inr (4, [17, 74, 82, 89, 90, 91, 92, 0, 0]),
  .inl (5, 6, [81, 82, 83, 84, 85, 86]),
  .inl (0, 6, []),
  .inl (0, 6, []),
  .inl (0, 6, []),
  .inl (0, 6, []),
  .inl (0, 6, []),
  .inl (0, 6, []),
  .inl (0, 6, []),
  .inl (0, 6, []),
  .inl (0, 5, []),
  .inl (0, 5, []),
  .inr (2, [17, 74, 94, 1, 1]),
  .inl (3, 6, []),
  .inr (1, [17, 63, 96, 97, 0, 0]),
  .inl (2, 61, []),
  .inl (0, 1300, []),
  .inr (9, [0, 99, 100, 101, 102, 103, 0, 0, 0, 0, 0, 1, 0, 0, 0, 0, 104, 105, 106, 107, 108, 109, 110, 0, 0, 0, 0, 0, 111, 112, 113, 114, 115, 116, 117, 0, 0, 0, 0, 118, 119, 0, 0, 0, 0, 0, 120, 0, 0, 0, 0]),
  .inl (0, 4, []),
  .inl (0, 4, []),
  .inl (3, 240, []),
  .inl (3, 60, []),
  .inl (1, 700, []),
  .inl (0, 5, []),
  .inl (0, 35, []),
  .inl (0, 90, []),
  .inl (0, 100, []),
  .inl (0, 80, []),
  .inl (0, 300, []),
  .inl (2, 3, []),
  .inl (0, 6, []),
  .inl (0, 12, []),
  .inl (0, 78, []),
  .inl (0, 13, []),
  .inl (0, 6, []),
  .inl (0, 6, []),
  .inl (0, 6, []),
  .inl (0, 5, []),
  .inl (0, 5, []),
  .inl (0, 1300, [])]
end
section
/-! the good words of the tables, one list for all methods -/
def GW : List Cond := lw_tbl.filter goodWord
theorem gm {w : Cond} (k : Nat) (h : lw_tbl[k]? = some w) (hg : goodWord w = true) : w ∈ GW := List.mem_filter.mpr ⟨List.mem_of_getElem? h, hg⟩
theorem GW_good : ∀ w ∈ GW, (w.onTables && w.keeps) = true ∨ ∃ ty, w = .arrayClass ty := fun _ h => good_of_word (List.mem_filter.mp h).2
theorem GW_tbl : ∀ w ∈ GW, w ∈ lw_tbl := fun _ h => (List.mem_filter.mp h).1
abbrev uw (y : MethodName) (cc : ByteArray) (n : Nat) (r : Option FieldType) : List Cond := Cond.code y cc n r :: GW
theorem uw_in {y : MethodName} {cc : ByteArray} {n : Nat} {r : Option FieldType} (hc : Cond.code y cc n r ∈ GW) : GoodIn GW (uw y cc n r) := fun w h => by
  rcases List.mem_cons.mp h with h | h
  · rw [h]; exact ⟨hc, GW_good _ hc⟩
  · exact ⟨h, GW_good _ h⟩
/-! an int between two numbers -/
def rg (lo hi : Int) (x : Int32) : Prop := lo ≤ x.toInt ∧ x.toInt ≤ hi
/-! the cells: .inl (kind, length, cells of an array of references), .inr (class, its fields: 0 int, 1 long, n + 2 the cell n) -/
abbrev tC : Type := (Nat × Nat × List Nat) ⊕ (Nat × List Nat)
def tb (j : Nat) : tC := tbl.getD j (.inl (0, 0, []))
def fV (h : Nat → Nat) (f : Nat → Int32) (g : Nat → Int64) (k d : Nat) : Value := match d with
  | 0 => .int (f k)
  | 1 => .long (g k)
  | d + 2 => .ref (h d)
def fL (h : Nat → Nat) (f : Nat → Int32) (g : Nat → Int64) : Nat → List Nat → List Value
  | _, [] => []
  | k, d :: ds => fV h f g k d :: fL h f g (k + 1) ds
def cE (h : Nat → Nat) (cz : Nat → ClassId) (t : tC) (f : Nat → Int32) (g : Nat → Int64) : va_E := match t with
  | .inl (0, n, _) => .inl (cz 0, n, .inl f)
  | .inl (1, n, _) => .inl (cz 1, n, .inl f)
  | .inl (2, n, _) => .inl (cz 2, n, .inl f)
  | .inl (3, n, _) => .inl (cz 3, n, .inr (.inl g))
  | .inl (k + 4, n, rs) => .inl (cz (k + 4), n, .inr (.inr (.inr (.inr (fun q => if q < rs.length then some (h (rs.getD q 0)) else none)))))
  | .inr (ci, ds) => .inr (ci, fL h f g 0 ds)
def wH (h : Nat → Nat) (cz : Nat → ClassId) (i : Nat → Nat → Int32) (g : Nat → Nat → Int64) : va_W := (List.range NC).map (fun j => (h j, cE h cz (tb j) (i j) (g j)))
def DJ (h : Nat → Nat) : Prop := ∀ j k : Nat, j < NC → k < NC → h j = h k → j = k
def hA (h : Nat → Nat) : Nat → Prop := fun q => ∃ j : Nat, j < NC ∧ h j = q
def TH (D : va_G) (h : Nat → Nat) (cz : Nat → ClassId) (i : Nat → Nat → Int32) (g : Nat → Nat → Int64) (H : Heap) : Prop := va_P D vwCl (wH h cz i g) H ∧ DJ h
def tyL (cz : Nat → ClassId) : List (ClassId × FieldType) := [(cz 0, .int), (cz 1, .byte), (cz 2, .boolean), (cz 3, .long), (cz 4, .object "UncutTale$Story"), (cz 5, .array .int)]
def up2 (i : Nat → Nat → Int32) (j k : Nat) (v : Int32) : Nat → Nat → Int32 := fun q => if q = j then upd (i j) k v else i q
def up3 (g : Nat → Nat → Int64) (j k : Nat) (v : Int64) : Nat → Nat → Int64 := fun q => if q = j then vp_updL (g j) k v else g q
theorem up2_at (i : Nat → Nat → Int32) (j k : Nat) (v : Int32) : up2 i j k v j k = v := by simp [up2, upd]
theorem up2_j {i : Nat → Nat → Int32} {j k : Nat} {v : Int32} {q : Nat} (hq : q ≠ j) : up2 i j k v q = i q := by simp [up2, hq]
theorem up2_k {i : Nat → Nat → Int32} {j k : Nat} {v : Int32} {q r : Nat} (hr : r ≠ k) : up2 i j k v q r = i q r := by
  by_cases hq : q = j
  · subst hq; simp [up2, upd, hr]
  · simp [up2, hq]
theorem up2_s (i : Nat → Nat → Int32) (j k : Nat) (v : Int32) : up2 i j k v j = upd (i j) k v := by simp [up2]
theorem up3_j {g : Nat → Nat → Int64} {j k : Nat} {v : Int64} {q : Nat} (hq : q ≠ j) : up3 g j k v q = g q := by simp [up3, hq]
theorem up3_s (g : Nat → Nat → Int64) (j k : Nat) (v : Int64) : up3 g j k v j = vp_updL (g j) k v := by simp [up3]
theorem wH_get (h : Nat → Nat) (cz : Nat → ClassId) (i : Nat → Nat → Int32) (g : Nat → Nat → Int64) {j : Nat} (hj : j < NC) : (wH h cz i g)[j]? = some (h j, cE h cz (tb j) (i j) (g j)) := by
  simp [wH, hj]
theorem wH_len (h : Nat → Nat) (cz : Nat → ClassId) (i : Nat → Nat → Int32) (g : Nat → Nat → Int64) : (wH h cz i g).length = NC := by simp [wH]
theorem wH_some {h : Nat → Nat} {cz : Nat → ClassId} {i : Nat → Nat → Int32} {g : Nat → Nat → Int64} {j : Nat} {q : Nat × va_E} (hq : (wH h cz i g)[j]? = some q) : j < NC ∧ q = (h j, cE h cz (tb j) (i j) (g j)) := by
  have hl := (List.getElem?_eq_some_iff.mp hq).1
  rw [wH_len] at hl
  exact ⟨hl, (Option.some.inj ((wH_get h cz i g hl).symm.trans hq)).symm⟩
theorem wH_D {h : Nat → Nat} (hd : DJ h) (cz : Nat → ClassId) (i : Nat → Nat → Int32) (g : Nat → Nat → Int64) : va_D (hA h) (wH h cz i g) := by
  refine ⟨fun a b p q hp hq e => ?_, fun k q hq => ?_⟩
  · obtain ⟨l1, e1⟩ := wH_some hp
    obtain ⟨l2, e2⟩ := wH_some hq
    rw [e1, e2] at e
    exact hd a b l1 l2 e
  · obtain ⟨l1, e1⟩ := wH_some hq
    rw [e1]
    exact ⟨k, l1, rfl⟩
theorem wH_set {h : Nat → Nat} {cz : Nat → ClassId} {i i' : Nat → Nat → Int32} {g g' : Nat → Nat → Int64} {j : Nat} (hi : ∀ q, q ≠ j → i' q = i q) (hg : ∀ q, q ≠ j → g' q = g q) : (wH h cz i g).set j (h j, cE h cz (tb j) (i' j) (g' j)) = wH h cz i' g' := by
  apply List.ext_getElem?
  intro q
  by_cases hq : q = j
  · subst hq
    by_cases hl : q < NC
    · rw [List.getElem?_set_self (by rw [wH_len]; exact hl), wH_get _ _ _ _ hl]
    · rw [List.getElem?_eq_none (by rw [List.length_set, wH_len]; omega), List.getElem?_eq_none (by rw [wH_len]; omega)]
  · rw [List.getElem?_set_ne (Ne.symm hq)]
    by_cases hl : q < NC
    · rw [wH_get _ _ _ _ hl, wH_get _ _ _ _ hl, hi q hq, hg q hq]
    · rw [List.getElem?_eq_none (by rw [wH_len]; omega), List.getElem?_eq_none (by rw [wH_len]; omega)]
theorem fL_get (h : Nat → Nat) (f : Nat → Int32) (g : Nat → Int64) : ∀ (ds : List Nat) (b k : Nat), (fL h f g b ds)[k]? = (ds[k]?).map (fV h f g (b + k))
  | [], b, k => by simp [fL]
  | d :: ds, b, 0 => by simp [fL]
  | d :: ds, b, k + 1 => by
    have e := fL_get h f g ds (b + 1) k
    simp only [fL, List.getElem?_cons_succ, e]
    rw [show b + 1 + k = b + (k + 1) by omega]
theorem fL_at {h : Nat → Nat} {f : Nat → Int32} {g : Nat → Int64} {ds : List Nat} {k d : Nat} (hd : ds[k]? = some d) : (fL h f g 0 ds)[k]? = some (fV h f g k d) := by
  rw [fL_get, hd]; simp
theorem fL_len (h : Nat → Nat) (f : Nat → Int32) (g : Nat → Int64) : ∀ (ds : List Nat) (b : Nat), (fL h f g b ds).length = ds.length
  | [], b => rfl
  | d :: ds, b => by simp [fL, fL_len h f g ds (b + 1)]
theorem fL_set {h : Nat → Nat} {f f' : Nat → Int32} {g g' : Nat → Int64} {ds : List Nat} {k d : Nat} (hd : ds[k]? = some d) (hf : ∀ q, q ≠ k → f' q = f q) (hg : ∀ q, q ≠ k → g' q = g q) : (fL h f g 0 ds).set k (fV h f' g' k d) = fL h f' g' 0 ds := by
  apply List.ext_getElem?
  intro q
  have hl : k < ds.length := (List.getElem?_eq_some_iff.mp hd).1
  by_cases hq : q = k
  · subst hq
    rw [List.getElem?_set_self (by rw [fL_len]; exact hl), fL_at hd]
  · rw [List.getElem?_set_ne (Ne.symm hq), fL_get, fL_get]
    have e : fV h f g (0 + q) = fV h f' g' (0 + q) := by
      funext d
      rw [Nat.zero_add]
      match d with
      | 0 => simp [fV, hf q hq]
      | 1 => simp [fV, hg q hq]
      | d + 2 => simp [fV]
    rw [e]
/-! what a method stands in: the machine, its code, its class, the good words, the classes and array classes -/
def Cxt (p : Program) (s : State) (m : MethodId) (c : Code) (args : Array Value) (cc : ByteArray) (nL : Nat) (own : String) (D : va_G) (cz : Nat → ClassId) : Prop :=
  p.tables.exec = Jvm.exec ∧ c.code = cc ∧ c.maxLocals = nL ∧ s.vm.findClass own = some m.cls ∧ (∀ w ∈ GW, w.before args s = true) ∧ va_K D vwCl (tyL cz) s
/-- a field's link: own class, index, the class's number, the field's -/
def FK (own : String) (index ci k : Nat) : Prop := ∃ (C : String) (T : u_T) (N : Nat), vwCl[ci]? = some (C, T, N) ∧ k < N ∧ (∀ w ∈ u_ws C T N, w ∈ GW) ∧ Cond.fieldLink own index (T k).1 (T k).2.1 (T k).2.2.1 ∈ GW
def PK (own : String) (index ci k : Nat) (ty : FieldType) : Prop := ∃ (C : String) (T : u_T) (N : Nat) (t0 : Nat → FieldType), vwCl[ci]? = some (C, T, N) ∧ k < N ∧ (∀ w ∈ u_ws C T N, w ∈ GW) ∧ Cond.fieldLink own index (T k).1 (T k).2.1 (T k).2.2.1 ∈ GW ∧ (∀ k, k < N → parseFieldDescriptor (T k).2.2.1 = some (t0 k)) ∧ (∀ a, a < N → ∀ b, b < N → a ≠ b → (T a).2.1 ≠ (T b).2.1) ∧ (T k).2.2.2 = false ∧ parseFieldDescriptor (T k).2.2.1 = some ty
/-- a method's words -/
def MK (y : MethodName) (cc : ByteArray) (n : Nat) (r : Option FieldType) : Prop := Cond.code y cc n r ∈ GW ∧ Cond.instanceMethod y ∈ GW ∧ Cond.selects y.cls y y ∈ GW ∧ Cond.initialized y.cls ∈ GW
def SK (y : MethodName) (cc : ByteArray) (n : Nat) (r : Option FieldType) : Prop := Cond.code y cc n r ∈ GW ∧ Cond.static y ∈ GW ∧ Cond.initialized y.cls ∈ GW
abbrev St2 : Type := (Nat → Nat → Int32) × (Nat → Nat → Int64)
def wB (D : va_G) (h : Nat → Nat) (cz : Nat → ClassId) (u : St2) (U : State) : Prop := TH D h cz u.1 u.2 U.heap ∧ va_K D vwCl (tyL cz) U
def wP (D : va_G) (h : Nat → Nat) (cz : Nat → ClassId) (i : Nat → Nat → Int32) (g : Nat → Nat → Int64) (av : List Value) : Array Value → State → Prop := va_Pc av (fun U => TH D h cz i g U.heap ∧ va_K D vwCl (tyL cz) U)
abbrev CtI (l : Launch) (y : MethodName) (cc : ByteArray) (n : Nat) (r : Option FieldType) (rm : Room) (D : va_G) (h : Nat → Nat) (cz : Nat → ClassId) (i : Nat → Nat → Int32) (g : Nat → Nat → Int64) (av : List Value) (post : Int32 → St2 → Prop) : Prop := Met l y (uw y cc n r) rm (wP D h cz i g av) (va_Qi post (wB D h cz) (hA h)) 0 0 (hA h)
abbrev CtL (l : Launch) (y : MethodName) (cc : ByteArray) (n : Nat) (r : Option FieldType) (rm : Room) (D : va_G) (h : Nat → Nat) (cz : Nat → ClassId) (i : Nat → Nat → Int32) (g : Nat → Nat → Int64) (av : List Value) (post : Int64 → St2 → Prop) : Prop := Met l y (uw y cc n r) rm (wP D h cz i g av) (va_Ql post (wB D h cz) (hA h)) 0 0 (hA h)
abbrev CtV (l : Launch) (y : MethodName) (cc : ByteArray) (n : Nat) (r : Option FieldType) (rm : Room) (D : va_G) (h : Nat → Nat) (cz : Nat → ClassId) (i : Nat → Nat → Int32) (g : Nat → Nat → Int64) (av : List Value) (post : St2 → Prop) : Prop := Met l y (uw y cc n r) rm (wP D h cz i g av) (va_Qv post (wB D h cz) (hA h)) 0 0 (hA h)
theorem wP_blind (D : va_G) (h : Nat → Nat) (cz : Nat → ClassId) (i : Nat → Nat → Int32) (g : Nat → Nat → Int64) (av : List Value) : FrameBlind (wP D h cz i g av) := by
  intro a U fr mk q
  obtain ⟨q0, q1, q2⟩ := q
  exact ⟨q0, q1, va_K.moved (u := U) (U := U.calling fr mk a) (Vm.Alike.refl U.vm) q2⟩
section RowsA
variable {p : Program} {l : Launch} {e : Env} {R : Room} {s : State} {m : MethodId} {args : Array Value} {below : List Frame} {meth : Method} {c : Code} {H H0 : Heap} {locs : List Loc} {cells slots : Nat} {Q : State → Prop} {cc : ByteArray} {nL : Nat} {own : String} {D : va_G} {cz : Nat → ClassId} {h : Nat → Nat} {i : Nat → Nat → Int32} {g : Nat → Nat → Int64} {pc : Nat} {ls : Array Slot} {rest : List Value}
theorem r_geti (X : Cxt p s m c args cc nL own D cz) (hT : TH D h cz i g H) (j k : Nat) {index ci : Nat} (F : FK own index ci k) {ds : List Nat} (ht : tb j = .inr (ci, ds)) (hd : ds[k]? = some 0) (hj : j < NC) (hdg : decode cc pc = .ok (.getfield index, 3))
    (kk : W p l e R s m args below meth c H locs cells slots Q (F0 m (pc + 3) ls (.int (i j k) :: rest))) : W p l e R s m args below meth c H locs cells slots Q (F0 m pc ls (.ref (h j) :: rest)) := by
  obtain ⟨hx, hb, -, hown, hts, hK⟩ := X
  obtain ⟨C, T, N, hc, hk, hw, hl⟩ := F
  exact va_get (D := D) (ci := ci) (v := .int (i j k)) (C := C) (T := T) (N := N) hx hb hts hw hown hK hT.1 j (by rw [wH_get _ _ _ _ hj, ht]; rfl) hc k hk (hts _ hl) (fun _ q => q) (fL_at hd) hdg kk
theorem r_getl (X : Cxt p s m c args cc nL own D cz) (hT : TH D h cz i g H) (j k : Nat) {index ci : Nat} (F : FK own index ci k) {ds : List Nat} (ht : tb j = .inr (ci, ds)) (hd : ds[k]? = some 1) (hj : j < NC) (hdg : decode cc pc = .ok (.getfield index, 3))
    (kk : W p l e R s m args below meth c H locs cells slots Q (F0 m (pc + 3) ls (.long (g j k) :: rest))) : W p l e R s m args below meth c H locs cells slots Q (F0 m pc ls (.ref (h j) :: rest)) := by
  obtain ⟨hx, hb, -, hown, hts, hK⟩ := X
  obtain ⟨C, T, N, hc, hk, hw, hl⟩ := F
  exact va_get (D := D) (ci := ci) (v := .long (g j k)) (C := C) (T := T) (N := N) hx hb hts hw hown hK hT.1 j (by rw [wH_get _ _ _ _ hj, ht]; rfl) hc k hk (hts _ hl) (fun _ q => q) (fL_at hd) hdg kk
theorem r_getr (X : Cxt p s m c args cc nL own D cz) (hT : TH D h cz i g H) (j k o : Nat) {index ci : Nat} (F : FK own index ci k) {ds : List Nat} (ht : tb j = .inr (ci, ds)) (hd : ds[k]? = some (o + 2)) (hj : j < NC) (hdg : decode cc pc = .ok (.getfield index, 3))
    (kk : W p l e R s m args below meth c H locs cells slots Q (F0 m (pc + 3) ls (.ref (h o) :: rest))) : W p l e R s m args below meth c H locs cells slots Q (F0 m pc ls (.ref (h j) :: rest)) := by
  obtain ⟨hx, hb, -, hown, hts, hK⟩ := X
  obtain ⟨C, T, N, hc, hk, hw, hl⟩ := F
  exact va_get (D := D) (ci := ci) (v := .ref (h o)) (C := C) (T := T) (N := N) hx hb hts hw hown hK hT.1 j (by rw [wH_get _ _ _ _ hj, ht]; rfl) hc k hk (hts _ hl) (fun _ q => q) (fL_at hd) hdg kk
theorem r_puti (X : Cxt p s m c args cc nL own D cz) (hT : TH D h cz i g H) (hS : va_S (hA h) H0 H locs) (j k : Nat) {index ci : Nat} {ty : FieldType} (F : PK own index ci k ty) {v : Int32} (hn : narrow ty (.int v) = .int v) (hfit : fits ty (.int v) = true) {ds : List Nat} (ht : tb j = .inr (ci, ds)) (hd : ds[k]? = some 0) (hj : j < NC) (hdg : decode cc pc = .ok (.putfield index, 3))
    (kk : ∀ (H1 : Heap) (locs1 : List Loc) (i1 : Nat → Nat → Int32), i1 = up2 i j k v → TH D h cz i1 g H1 → va_S (hA h) H0 H1 locs1 → W p l e R s m args below meth c H1 locs1 cells slots Q (F0 m (pc + 3) ls rest)) : W p l e R s m args below meth c H locs cells slots Q (F0 m pc ls (.int v :: .ref (h j) :: rest)) := by
  obtain ⟨hx, hb, -, hown, hts, hK⟩ := X
  obtain ⟨C, T, N, t0, hc, hk, hw, hl, hty, hnm, hfin, hpd⟩ := F
  have hlen : k < (fL h (i j) (g j) 0 ds).length := by rw [fL_len]; exact (List.getElem?_eq_some_iff.mp hd).1
  refine va_put (D := D) (ci := ci) (v := .int v) (C := C) (T := T) (N := N) hx hb hts hw t0 hty hnm hown hK hT.1 (wH_D hT.2 cz i g) hS j (by rw [wH_get _ _ _ _ hj, ht]; rfl) hc k hk (hts _ hl) (fun _ q => q) hfin hpd hn hfit hlen hdg (fun H1 locs1 hP _ hS1 => kk H1 locs1 _ rfl ⟨?_, hT.2⟩ hS1)
  have e : (wH h cz i g).set j (h j, .inr (ci, (fL h (i j) (g j) 0 ds).set k (.int v))) = wH h cz (up2 i j k v) g := by
    rw [← wH_set (i := i) (g := g) (j := j) (fun q hq => up2_j hq) (fun _ _ => rfl), ht]
    congr 2
    show (.inr _ : va_E) = .inr _
    congr 2
    rw [← fL_set (f := i j) (g := g j) hd (f' := up2 i j k v j) (g' := g j) (fun q hq => by rw [up2_k hq]) (fun _ _ => rfl)]
    simp [fV, up2_at]
  rw [e] at hP
  exact hP
theorem r_putl (X : Cxt p s m c args cc nL own D cz) (hT : TH D h cz i g H) (hS : va_S (hA h) H0 H locs) (j k : Nat) {index ci : Nat} (F : PK own index ci k .long) {v : Int64} {ds : List Nat} (ht : tb j = .inr (ci, ds)) (hd : ds[k]? = some 1) (hj : j < NC) (hdg : decode cc pc = .ok (.putfield index, 3))
    (kk : ∀ (H1 : Heap) (locs1 : List Loc) (g1 : Nat → Nat → Int64), g1 = up3 g j k v → TH D h cz i g1 H1 → va_S (hA h) H0 H1 locs1 → W p l e R s m args below meth c H1 locs1 cells slots Q (F0 m (pc + 3) ls rest)) : W p l e R s m args below meth c H locs cells slots Q (F0 m pc ls (.long v :: .ref (h j) :: rest)) := by
  obtain ⟨hx, hb, -, hown, hts, hK⟩ := X
  obtain ⟨C, T, N, t0, hc, hk, hw, hl, hty, hnm, hfin, hpd⟩ := F
  have hlen : k < (fL h (i j) (g j) 0 ds).length := by rw [fL_len]; exact (List.getElem?_eq_some_iff.mp hd).1
  refine va_put (D := D) (ci := ci) (v := .long v) (C := C) (T := T) (N := N) hx hb hts hw t0 hty hnm hown hK hT.1 (wH_D hT.2 cz i g) hS j (by rw [wH_get _ _ _ _ hj, ht]; rfl) hc k hk (hts _ hl) (fun _ q => q) hfin hpd rfl rfl hlen hdg (fun H1 locs1 hP _ hS1 => kk H1 locs1 _ rfl ⟨?_, hT.2⟩ hS1)
  have e : (wH h cz i g).set j (h j, .inr (ci, (fL h (i j) (g j) 0 ds).set k (.long v))) = wH h cz i (up3 g j k v) := by
    rw [← wH_set (i := i) (g := g) (j := j) (fun _ _ => rfl) (fun q hq => up3_j hq), ht]
    congr 2
    show (.inr _ : va_E) = .inr _
    congr 2
    rw [← fL_set (f := i j) (g := g j) hd (f' := i j) (g' := up3 g j k v j) (fun _ _ => rfl) (fun q hq => by rw [up3_s]; simp [vp_updL, hq])]
    simp [fV, up3_s, vp_updL]
  rw [e] at hP
  exact hP
theorem r_iald (X : Cxt p s m c args cc nL own D cz) (hT : TH D h cz i g H) (j : Nat) {n : Nat} {rs : List Nat} (ht : tb j = .inl (0, n, rs)) (hj : j < NC) {x : Int32} (hin : vp_in x n) (hdg : decode cc pc = .ok (.iaload, 1))
    (kk : W p l e R s m args below meth c H locs cells slots Q (F0 m (pc + 1) ls (.int (i j x.toNatClampNeg) :: rest))) : W p l e R s m args below meth c H locs cells slots Q (F0 m pc ls (.int x :: .ref (h j) :: rest)) :=
  va_iald X.1 X.2.1 X.2.2.2.2.2 hT.1 j 0 (cA := cz 0) (n := n) (f := i j) (by rw [wH_get _ _ _ _ hj, ht]; rfl) rfl hin hdg kk
theorem r_bald (X : Cxt p s m c args cc nL own D cz) (hT : TH D h cz i g H) (j : Nat) {n : Nat} {rs : List Nat} (ht : tb j = .inl (1, n, rs)) (hj : j < NC) {x : Int32} (hin : vp_in x n) (hdg : decode cc pc = .ok (.baload, 1))
    (kk : W p l e R s m args below meth c H locs cells slots Q (F0 m (pc + 1) ls (.int (i j x.toNatClampNeg) :: rest))) : W p l e R s m args below meth c H locs cells slots Q (F0 m pc ls (.int x :: .ref (h j) :: rest)) :=
  va_bald X.1 X.2.1 X.2.2.2.2.2 hT.1 j 1 (cA := cz 1) (n := n) (f := i j) (by rw [wH_get _ _ _ _ hj, ht]; rfl) rfl hin hdg kk
theorem r_zald (X : Cxt p s m c args cc nL own D cz) (hT : TH D h cz i g H) (j : Nat) {n : Nat} {rs : List Nat} (ht : tb j = .inl (2, n, rs)) (hj : j < NC) {x : Int32} (hin : vp_in x n) (hdg : decode cc pc = .ok (.baload, 1))
    (kk : W p l e R s m args below meth c H locs cells slots Q (F0 m (pc + 1) ls (.int (i j x.toNatClampNeg) :: rest))) : W p l e R s m args below meth c H locs cells slots Q (F0 m pc ls (.int x :: .ref (h j) :: rest)) :=
  va_zald X.1 X.2.1 X.2.2.2.2.2 hT.1 j 2 (cA := cz 2) (n := n) (f := i j) (by rw [wH_get _ _ _ _ hj, ht]; rfl) rfl hin hdg kk
theorem r_lald (X : Cxt p s m c args cc nL own D cz) (hT : TH D h cz i g H) (j : Nat) {n : Nat} {rs : List Nat} (ht : tb j = .inl (3, n, rs)) (hj : j < NC) {x : Int32} (hin : vp_in x n) (hdg : decode cc pc = .ok (.laload, 1))
    (kk : W p l e R s m args below meth c H locs cells slots Q (F0 m (pc + 1) ls (.long (g j x.toNatClampNeg) :: rest))) : W p l e R s m args below meth c H locs cells slots Q (F0 m pc ls (.int x :: .ref (h j) :: rest)) :=
  va_lald X.1 X.2.1 X.2.2.2.2.2 hT.1 j 3 (cA := cz 3) (n := n) (f := g j) (by rw [wH_get _ _ _ _ hj, ht]; rfl) rfl hin hdg kk
theorem wH_row {j : Nat} {v : Int32} {k n kd : Nat} {rs : List Nat} (ht : tb j = .inl (kd, n, rs)) (hkd : kd < 3) : (wH h cz i g).set j (h j, .inl (cz kd, n, .inl (upd (i j) k v))) = wH h cz (up2 i j k v) g := by
  rw [← wH_set (i := i) (g := g) (j := j) (fun q hq => up2_j hq) (fun _ _ => rfl), ht, up2_s]
  match kd, hkd with
  | 0, _ => rfl
  | 1, _ => rfl
  | 2, _ => rfl
theorem r_iast (X : Cxt p s m c args cc nL own D cz) (hT : TH D h cz i g H) (hS : va_S (hA h) H0 H locs) (j : Nat) {n : Nat} {rs : List Nat} (ht : tb j = .inl (0, n, rs)) (hj : j < NC) {x v : Int32} (hin : vp_in x n) (hdg : decode cc pc = .ok (.iastore, 1))
    (kk : ∀ (H1 : Heap) (locs1 : List Loc) (i1 : Nat → Nat → Int32), i1 = up2 i j x.toNatClampNeg v → TH D h cz i1 g H1 → va_S (hA h) H0 H1 locs1 → W p l e R s m args below meth c H1 locs1 cells slots Q (F0 m (pc + 1) ls rest)) : W p l e R s m args below meth c H locs cells slots Q (F0 m pc ls (.int v :: .int x :: .ref (h j) :: rest)) :=
  va_iast X.1 X.2.1 X.2.2.2.2.2 hT.1 (wH_D hT.2 cz i g) hS j 0 (cA := cz 0) (n := n) (f := i j) (by rw [wH_get _ _ _ _ hj, ht]; rfl) rfl hin hdg (fun H1 locs1 hP _ hS1 => kk H1 locs1 _ rfl ⟨by rw [wH_row ht (by decide)] at hP; exact hP, hT.2⟩ hS1)
theorem r_bast (X : Cxt p s m c args cc nL own D cz) (hT : TH D h cz i g H) (hS : va_S (hA h) H0 H locs) (j : Nat) {n : Nat} {rs : List Nat} (ht : tb j = .inl (1, n, rs)) (hj : j < NC) {x v : Int32} (hin : vp_in x n) (hdg : decode cc pc = .ok (.bastore, 1))
    (kk : ∀ (H1 : Heap) (locs1 : List Loc) (i1 : Nat → Nat → Int32), i1 = up2 i j x.toNatClampNeg (vp_nar .byte v) → TH D h cz i1 g H1 → va_S (hA h) H0 H1 locs1 → W p l e R s m args below meth c H1 locs1 cells slots Q (F0 m (pc + 1) ls rest)) : W p l e R s m args below meth c H locs cells slots Q (F0 m pc ls (.int v :: .int x :: .ref (h j) :: rest)) :=
  va_bast X.1 X.2.1 X.2.2.2.2.2 hT.1 (wH_D hT.2 cz i g) hS j 1 (cA := cz 1) (n := n) (f := i j) (by rw [wH_get _ _ _ _ hj, ht]; rfl) rfl hin hdg (fun H1 locs1 hP _ hS1 => kk H1 locs1 _ rfl ⟨by rw [wH_row ht (by decide)] at hP; exact hP, hT.2⟩ hS1)
theorem r_zast (X : Cxt p s m c args cc nL own D cz) (hT : TH D h cz i g H) (hS : va_S (hA h) H0 H locs) (j : Nat) {n : Nat} {rs : List Nat} (ht : tb j = .inl (2, n, rs)) (hj : j < NC) {x v : Int32} (hin : vp_in x n) (hdg : decode cc pc = .ok (.bastore, 1))
    (kk : ∀ (H1 : Heap) (locs1 : List Loc) (i1 : Nat → Nat → Int32), i1 = up2 i j x.toNatClampNeg (vp_nar .boolean v) → TH D h cz i1 g H1 → va_S (hA h) H0 H1 locs1 → W p l e R s m args below meth c H1 locs1 cells slots Q (F0 m (pc + 1) ls rest)) : W p l e R s m args below meth c H locs cells slots Q (F0 m pc ls (.int v :: .int x :: .ref (h j) :: rest)) :=
  va_zast X.1 X.2.1 X.2.2.2.2.2 hT.1 (wH_D hT.2 cz i g) hS j 2 (cA := cz 2) (n := n) (f := i j) (by rw [wH_get _ _ _ _ hj, ht]; rfl) rfl hin hdg (fun H1 locs1 hP _ hS1 => kk H1 locs1 _ rfl ⟨by rw [wH_row ht (by decide)] at hP; exact hP, hT.2⟩ hS1)
theorem r_last (X : Cxt p s m c args cc nL own D cz) (hT : TH D h cz i g H) (hS : va_S (hA h) H0 H locs) (j : Nat) {n : Nat} {rs : List Nat} (ht : tb j = .inl (3, n, rs)) (hj : j < NC) {x : Int32} {v : Int64} (hin : vp_in x n) (hdg : decode cc pc = .ok (.lastore, 1))
    (kk : ∀ (H1 : Heap) (locs1 : List Loc) (g1 : Nat → Nat → Int64), g1 = up3 g j x.toNatClampNeg v → TH D h cz i g1 H1 → va_S (hA h) H0 H1 locs1 → W p l e R s m args below meth c H1 locs1 cells slots Q (F0 m (pc + 1) ls rest)) : W p l e R s m args below meth c H locs cells slots Q (F0 m pc ls (.long v :: .int x :: .ref (h j) :: rest)) :=
  va_last X.1 X.2.1 X.2.2.2.2.2 hT.1 (wH_D hT.2 cz i g) hS j 3 (cA := cz 3) (n := n) (f := g j) (by rw [wH_get _ _ _ _ hj, ht]; rfl) rfl hin hdg (fun H1 locs1 hP _ hS1 => kk H1 locs1 _ rfl ⟨by
    have e : (wH h cz i g).set j (h j, .inl (cz 3, n, .inr (.inl (vp_updL (g j) x.toNatClampNeg v)))) = wH h cz i (up3 g j x.toNatClampNeg v) := by
      rw [← wH_set (i := i) (g := g) (j := j) (fun _ _ => rfl) (fun q hq => up3_j hq), ht, up3_s]
      rfl
    rw [e] at hP; exact hP, hT.2⟩ hS1)
theorem r_aald (X : Cxt p s m c args cc nL own D cz) (hT : TH D h cz i g H) (j o : Nat) {n : Nat} {rs : List Nat} (ht : tb j = .inl (4, n, rs)) (hj : j < NC) {x : Int32} (hin : vp_in x n) (hq : rs[x.toNatClampNeg]? = some o) (hdg : decode cc pc = .ok (.aaload, 1))
    (kk : W p l e R s m args below meth c H locs cells slots Q (F0 m (pc + 1) ls (.ref (h o) :: rest))) : W p l e R s m args below meth c H locs cells slots Q (F0 m pc ls (.int x :: .ref (h j) :: rest)) := by
  refine va_aldq X.1 X.2.1 X.2.2.2.2.2 hT.1 j 4 (cA := cz 4) (n := n) (f := fun q => if q < rs.length then some (h (rs.getD q 0)) else none) (by rw [wH_get _ _ _ _ hj, ht]; rfl) rfl hin hdg ?_
  have h1 : x.toNatClampNeg < rs.length := (List.getElem?_eq_some_iff.mp hq).1
  have e : (if x.toNatClampNeg < rs.length then some (h (rs.getD x.toNatClampNeg 0)) else none) = some (h o) := by
    rw [if_pos h1, List.getD_eq_getElem?_getD, hq]; rfl
  rw [e]
  exact kk
/-- a call of a method of the receiver's own class -/
theorem r_Vi {jb index maxL ci : Nat} {y : MethodName} {bytes : ByteArray} {ret : Option FieldType} {rm : Room} {As st : List Value} {post : Int32 → St2 → Prop} {ds : List Nat} {T : u_T} {N : Nat} (X : Cxt p s m c args cc nL own D cz) (hT : TH D h cz i g H) (hS : va_S (hA h) H0 H locs) (hM : CtI l y bytes maxL ret rm D h cz i g (.ref (h jb) :: As) post) (K : MK y bytes maxL ret) (ml : Cond.methodLink own index y ∈ GW)
    (ht : tb jb = .inr (ci, ds)) (hc : vwCl[ci]? = some (y.cls, T, N)) (hjb : jb < NC) (hd : y.cls ≠ "java/lang/invoke/MethodHandle" ∧ y.cls ≠ "java/lang/invoke/VarHandle" ∧ (parseMethodDescriptor y.desc).map (fun d => d.parameters.length) = some As.length) (hrc : rm.cells = 0 ∧ rm.slots = 0) (hR : rm.frames + 1 ≤ R.frames ∧ 8 + (maxL + 11) + rm.locals ≤ R.locals) (hz : ls.size = nL) (hst : st = As.reverse ++ .ref (h jb) :: rest) (hro : (rest.map fun v => v.category).sum ≤ 8) (hdg : decode cc pc = .ok (.invokevirtual index, 3)) (hcs : cells ≤ R.cells ∧ slots ≤ R.slots)
    (kk : ∀ (r : Int32) (i1 : Nat → Nat → Int32) (g1 : Nat → Nat → Int64) (H1 : Heap) (locs1 : List Loc), post r (i1, g1) → TH D h cz i1 g1 H1 → va_S (hA h) H0 H1 locs1 → W p l e R s m args below meth c H1 locs1 cells slots Q (F0 m (pc + 3) ls (.int r :: rest))) : W p l e R s m args below meth c H locs cells slots Q (F0 m pc ls st) := by
  obtain ⟨hx, hb, hml, hown, hts, hK⟩ := X
  have cw : CallW R s args own y.cls index y bytes maxL ret (uw y bytes maxL ret) rm 0 0 As.length := ⟨callB_of As.length hts (uw_in K.1) rfl hrc.1 hrc.2 (hts _ K.2.2.2) (hts _ ml) hd hR, hts _ K.2.1, hts _ K.2.2.1⟩
  refine va_calli (va_runV (As := As) (rest := rest) ⟨hx, hb, hml, hown, hts⟩ hM cw ⟨wP_blind D h cz i g _, va_recv hK hT.1 (q0 := jb) hc (by rw [wH_get _ _ _ _ hjb, ht]; rfl), fun U hU hW => ⟨rfl, by rw [hU]; exact hT, va_K.moved hW.alike hK⟩⟩ rfl rfl hz hst (lv_room hro) hdg ⟨hcs.1, hcs.2⟩) hS (fun _ _ z => z) (fun _ z => z) (fun r u t H1 locs1 ht hvm hw hB _ _ hS1 => ?_)
  obtain ⟨i1, g1⟩ := u
  exact kk r i1 g1 H1 locs1 hw (by have := hB.1; rw [ht] at this; exact this) hS1
theorem r_Vl {jb index maxL ci : Nat} {y : MethodName} {bytes : ByteArray} {ret : Option FieldType} {rm : Room} {As st : List Value} {post : Int64 → St2 → Prop} {ds : List Nat} {T : u_T} {N : Nat} (X : Cxt p s m c args cc nL own D cz) (hT : TH D h cz i g H) (hS : va_S (hA h) H0 H locs) (hM : CtL l y bytes maxL ret rm D h cz i g (.ref (h jb) :: As) post) (K : MK y bytes maxL ret) (ml : Cond.methodLink own index y ∈ GW)
    (ht : tb jb = .inr (ci, ds)) (hc : vwCl[ci]? = some (y.cls, T, N)) (hjb : jb < NC) (hd : y.cls ≠ "java/lang/invoke/MethodHandle" ∧ y.cls ≠ "java/lang/invoke/VarHandle" ∧ (parseMethodDescriptor y.desc).map (fun d => d.parameters.length) = some As.length) (hrc : rm.cells = 0 ∧ rm.slots = 0) (hR : rm.frames + 1 ≤ R.frames ∧ 8 + (maxL + 11) + rm.locals ≤ R.locals) (hz : ls.size = nL) (hst : st = As.reverse ++ .ref (h jb) :: rest) (hro : (rest.map fun v => v.category).sum ≤ 8) (hdg : decode cc pc = .ok (.invokevirtual index, 3)) (hcs : cells ≤ R.cells ∧ slots ≤ R.slots)
    (kk : ∀ (r : Int64) (i1 : Nat → Nat → Int32) (g1 : Nat → Nat → Int64) (H1 : Heap) (locs1 : List Loc), post r (i1, g1) → TH D h cz i1 g1 H1 → va_S (hA h) H0 H1 locs1 → W p l e R s m args below meth c H1 locs1 cells slots Q (F0 m (pc + 3) ls (.long r :: rest))) : W p l e R s m args below meth c H locs cells slots Q (F0 m pc ls st) := by
  obtain ⟨hx, hb, hml, hown, hts, hK⟩ := X
  have cw : CallW R s args own y.cls index y bytes maxL ret (uw y bytes maxL ret) rm 0 0 As.length := ⟨callB_of As.length hts (uw_in K.1) rfl hrc.1 hrc.2 (hts _ K.2.2.2) (hts _ ml) hd hR, hts _ K.2.1, hts _ K.2.2.1⟩
  refine va_calll (va_runV (As := As) (rest := rest) ⟨hx, hb, hml, hown, hts⟩ hM cw ⟨wP_blind D h cz i g _, va_recv hK hT.1 (q0 := jb) hc (by rw [wH_get _ _ _ _ hjb, ht]; rfl), fun U hU hW => ⟨rfl, by rw [hU]; exact hT, va_K.moved hW.alike hK⟩⟩ rfl rfl hz hst (lv_room hro) hdg ⟨hcs.1, hcs.2⟩) hS (fun _ _ z => z) (fun _ z => z) (fun r u t H1 locs1 ht hvm hw hB _ _ hS1 => ?_)
  obtain ⟨i1, g1⟩ := u
  exact kk r i1 g1 H1 locs1 hw (by have := hB.1; rw [ht] at this; exact this) hS1
theorem r_Vv {jb index maxL ci : Nat} {y : MethodName} {bytes : ByteArray} {ret : Option FieldType} {rm : Room} {As st : List Value} {post : St2 → Prop} {ds : List Nat} {T : u_T} {N : Nat} (X : Cxt p s m c args cc nL own D cz) (hT : TH D h cz i g H) (hS : va_S (hA h) H0 H locs) (hM : CtV l y bytes maxL ret rm D h cz i g (.ref (h jb) :: As) post) (K : MK y bytes maxL ret) (ml : Cond.methodLink own index y ∈ GW)
    (ht : tb jb = .inr (ci, ds)) (hc : vwCl[ci]? = some (y.cls, T, N)) (hjb : jb < NC) (hd : y.cls ≠ "java/lang/invoke/MethodHandle" ∧ y.cls ≠ "java/lang/invoke/VarHandle" ∧ (parseMethodDescriptor y.desc).map (fun d => d.parameters.length) = some As.length) (hrc : rm.cells = 0 ∧ rm.slots = 0) (hR : rm.frames + 1 ≤ R.frames ∧ 8 + (maxL + 11) + rm.locals ≤ R.locals) (hz : ls.size = nL) (hst : st = As.reverse ++ .ref (h jb) :: rest) (hro : (rest.map fun v => v.category).sum ≤ 8) (hdg : decode cc pc = .ok (.invokevirtual index, 3)) (hcs : cells ≤ R.cells ∧ slots ≤ R.slots)
    (kk : ∀ (i1 : Nat → Nat → Int32) (g1 : Nat → Nat → Int64) (H1 : Heap) (locs1 : List Loc), post (i1, g1) → TH D h cz i1 g1 H1 → va_S (hA h) H0 H1 locs1 → W p l e R s m args below meth c H1 locs1 cells slots Q (F0 m (pc + 3) ls rest)) : W p l e R s m args below meth c H locs cells slots Q (F0 m pc ls st) := by
  obtain ⟨hx, hb, hml, hown, hts, hK⟩ := X
  have cw : CallW R s args own y.cls index y bytes maxL ret (uw y bytes maxL ret) rm 0 0 As.length := ⟨callB_of As.length hts (uw_in K.1) rfl hrc.1 hrc.2 (hts _ K.2.2.2) (hts _ ml) hd hR, hts _ K.2.1, hts _ K.2.2.1⟩
  refine va_callv (va_runV (As := As) (rest := rest) ⟨hx, hb, hml, hown, hts⟩ hM cw ⟨wP_blind D h cz i g _, va_recv hK hT.1 (q0 := jb) hc (by rw [wH_get _ _ _ _ hjb, ht]; rfl), fun U hU hW => ⟨rfl, by rw [hU]; exact hT, va_K.moved hW.alike hK⟩⟩ rfl rfl hz hst (lv_room hro) hdg ⟨hcs.1, hcs.2⟩) hS (fun _ _ z => z) (fun _ z => z) (fun u t H1 locs1 ht hvm hw hB _ _ hS1 => ?_)
  obtain ⟨i1, g1⟩ := u
  exact kk i1 g1 H1 locs1 hw (by have := hB.1; rw [ht] at this; exact this) hS1
/-- a call of a static method of the same class -/
theorem r_Si {index maxL : Nat} {y : MethodName} {bytes : ByteArray} {ret : Option FieldType} {rm : Room} {As st : List Value} {post : Int32 → St2 → Prop} (X : Cxt p s m c args cc nL own D cz) (hT : TH D h cz i g H) (hS : va_S (hA h) H0 H locs) (hM : CtI l y bytes maxL ret rm D h cz i g As post) (K : SK y bytes maxL ret) (ml : Cond.methodLink own index y ∈ GW)
    (hd : y.cls ≠ "java/lang/invoke/MethodHandle" ∧ y.cls ≠ "java/lang/invoke/VarHandle" ∧ (parseMethodDescriptor y.desc).map (fun d => d.parameters.length) = some As.length) (hrc : rm.cells = 0 ∧ rm.slots = 0) (hR : rm.frames + 1 ≤ R.frames ∧ 8 + (maxL + 11) + rm.locals ≤ R.locals) (hz : ls.size = nL) (hst : st = As.reverse ++ rest) (hro : (rest.map fun v => v.category).sum ≤ 8) (hdg : decode cc pc = .ok (.invokestatic index, 3)) (hcs : cells ≤ R.cells ∧ slots ≤ R.slots)
    (kk : ∀ (r : Int32) (i1 : Nat → Nat → Int32) (g1 : Nat → Nat → Int64) (H1 : Heap) (locs1 : List Loc), post r (i1, g1) → TH D h cz i1 g1 H1 → va_S (hA h) H0 H1 locs1 → W p l e R s m args below meth c H1 locs1 cells slots Q (F0 m (pc + 3) ls (.int r :: rest))) : W p l e R s m args below meth c H locs cells slots Q (F0 m pc ls st) := by
  obtain ⟨hx, hb, hml, hown, hts, hK⟩ := X
  refine va_calli (va_runS (As := As) (rest := rest) ⟨hx, hb, hml, hown, hts⟩ hM ⟨callB_of As.length hts (uw_in K.1) rfl hrc.1 hrc.2 (hts _ K.2.2) (hts _ ml) hd hR, hts _ K.2.1⟩ ⟨wP_blind D h cz i g _, fun U hU hW => ⟨rfl, by rw [hU]; exact hT, va_K.moved hW.alike hK⟩⟩ rfl rfl hz hst (lv_room hro) hdg ⟨hcs.1, hcs.2⟩) hS (fun _ _ z => z) (fun _ z => z) (fun r u t H1 locs1 ht hvm hw hB _ _ hS1 => ?_)
  obtain ⟨i1, g1⟩ := u
  exact kk r i1 g1 H1 locs1 hw (by have := hB.1; rw [ht] at this; exact this) hS1
theorem r_Sl {index maxL : Nat} {y : MethodName} {bytes : ByteArray} {ret : Option FieldType} {rm : Room} {As st : List Value} {post : Int64 → St2 → Prop} (X : Cxt p s m c args cc nL own D cz) (hT : TH D h cz i g H) (hS : va_S (hA h) H0 H locs) (hM : CtL l y bytes maxL ret rm D h cz i g As post) (K : SK y bytes maxL ret) (ml : Cond.methodLink own index y ∈ GW)
    (hd : y.cls ≠ "java/lang/invoke/MethodHandle" ∧ y.cls ≠ "java/lang/invoke/VarHandle" ∧ (parseMethodDescriptor y.desc).map (fun d => d.parameters.length) = some As.length) (hrc : rm.cells = 0 ∧ rm.slots = 0) (hR : rm.frames + 1 ≤ R.frames ∧ 8 + (maxL + 11) + rm.locals ≤ R.locals) (hz : ls.size = nL) (hst : st = As.reverse ++ rest) (hro : (rest.map fun v => v.category).sum ≤ 8) (hdg : decode cc pc = .ok (.invokestatic index, 3)) (hcs : cells ≤ R.cells ∧ slots ≤ R.slots)
    (kk : ∀ (r : Int64) (i1 : Nat → Nat → Int32) (g1 : Nat → Nat → Int64) (H1 : Heap) (locs1 : List Loc), post r (i1, g1) → TH D h cz i1 g1 H1 → va_S (hA h) H0 H1 locs1 → W p l e R s m args below meth c H1 locs1 cells slots Q (F0 m (pc + 3) ls (.long r :: rest))) : W p l e R s m args below meth c H locs cells slots Q (F0 m pc ls st) := by
  obtain ⟨hx, hb, hml, hown, hts, hK⟩ := X
  refine va_calll (va_runS (As := As) (rest := rest) ⟨hx, hb, hml, hown, hts⟩ hM ⟨callB_of As.length hts (uw_in K.1) rfl hrc.1 hrc.2 (hts _ K.2.2) (hts _ ml) hd hR, hts _ K.2.1⟩ ⟨wP_blind D h cz i g _, fun U hU hW => ⟨rfl, by rw [hU]; exact hT, va_K.moved hW.alike hK⟩⟩ rfl rfl hz hst (lv_room hro) hdg ⟨hcs.1, hcs.2⟩) hS (fun _ _ z => z) (fun _ z => z) (fun r u t H1 locs1 ht hvm hw hB _ _ hS1 => ?_)
  obtain ⟨i1, g1⟩ := u
  exact kk r i1 g1 H1 locs1 hw (by have := hB.1; rw [ht] at this; exact this) hS1
theorem r_Sv {index maxL : Nat} {y : MethodName} {bytes : ByteArray} {ret : Option FieldType} {rm : Room} {As st : List Value} {post : St2 → Prop} (X : Cxt p s m c args cc nL own D cz) (hT : TH D h cz i g H) (hS : va_S (hA h) H0 H locs) (hM : CtV l y bytes maxL ret rm D h cz i g As post) (K : SK y bytes maxL ret) (ml : Cond.methodLink own index y ∈ GW)
    (hd : y.cls ≠ "java/lang/invoke/MethodHandle" ∧ y.cls ≠ "java/lang/invoke/VarHandle" ∧ (parseMethodDescriptor y.desc).map (fun d => d.parameters.length) = some As.length) (hrc : rm.cells = 0 ∧ rm.slots = 0) (hR : rm.frames + 1 ≤ R.frames ∧ 8 + (maxL + 11) + rm.locals ≤ R.locals) (hz : ls.size = nL) (hst : st = As.reverse ++ rest) (hro : (rest.map fun v => v.category).sum ≤ 8) (hdg : decode cc pc = .ok (.invokestatic index, 3)) (hcs : cells ≤ R.cells ∧ slots ≤ R.slots)
    (kk : ∀ (i1 : Nat → Nat → Int32) (g1 : Nat → Nat → Int64) (H1 : Heap) (locs1 : List Loc), post (i1, g1) → TH D h cz i1 g1 H1 → va_S (hA h) H0 H1 locs1 → W p l e R s m args below meth c H1 locs1 cells slots Q (F0 m (pc + 3) ls rest)) : W p l e R s m args below meth c H locs cells slots Q (F0 m pc ls st) := by
  obtain ⟨hx, hb, hml, hown, hts, hK⟩ := X
  refine va_callv (va_runS (As := As) (rest := rest) ⟨hx, hb, hml, hown, hts⟩ hM ⟨callB_of As.length hts (uw_in K.1) rfl hrc.1 hrc.2 (hts _ K.2.2) (hts _ ml) hd hR, hts _ K.2.1⟩ ⟨wP_blind D h cz i g _, fun U hU hW => ⟨rfl, by rw [hU]; exact hT, va_K.moved hW.alike hK⟩⟩ rfl rfl hz hst (lv_room hro) hdg ⟨hcs.1, hcs.2⟩) hS (fun _ _ z => z) (fun _ z => z) (fun u t H1 locs1 ht hvm hw hB _ _ hS1 => ?_)
  obtain ⟨i1, g1⟩ := u
  exact kk i1 g1 H1 locs1 hw (by have := hB.1; rw [ht] at this; exact this) hS1
/-- a method's ends -/
theorem r_iret {post : Int32 → St2 → Prop} {v : Int32} (X : Cxt p s m c args cc nL own D cz) (hr : meth.sig.returnType = some .int) (hlk : meth.locks = false) (hT : TH D h cz i g H) (hS : va_S (hA h) s.heap H locs) (hdg : decode cc pc = .ok (.ireturn, 1)) (hp : post v (i, g)) : W p l e R s m args below meth c H locs cells slots (MQ below (va_Qi post (wB D h cz) (hA h)) args s cells slots (hA h)) (F0 m pc ls [.int v]) :=
  W.iret (v := v) X.1 X.2.1 hr (fun t ht hW => ⟨⟨v, (i, g), rfl, hp, by rw [ht]; exact hT, va_K.moved hW.alike X.2.2.2.2.2⟩, hS.F ht⟩) hS.2.2 hdg hlk
theorem r_zret {post : Int32 → St2 → Prop} {v : Int32} (X : Cxt p s m c args cc nL own D cz) (hr : meth.sig.returnType = some .boolean) (hlk : meth.locks = false) (hT : TH D h cz i g H) (hS : va_S (hA h) s.heap H locs) (hdg : decode cc pc = .ok (.ireturn, 1)) (hn : narrow .boolean (.int v) = .int v) (hp : post v (i, g)) : W p l e R s m args below meth c H locs cells slots (MQ below (va_Qi post (wB D h cz) (hA h)) args s cells slots (hA h)) (F0 m pc ls [.int v]) :=
  W.zret (v := v) X.1 X.2.1 hr hn (fun t ht hW => ⟨⟨v, (i, g), rfl, hp, by rw [ht]; exact hT, va_K.moved hW.alike X.2.2.2.2.2⟩, hS.F ht⟩) hS.2.2 hdg hlk
theorem r_lret {post : Int64 → St2 → Prop} {v : Int64} (X : Cxt p s m c args cc nL own D cz) (hr : meth.sig.returnType = some .long) (hlk : meth.locks = false) (hT : TH D h cz i g H) (hS : va_S (hA h) s.heap H locs) (hdg : decode cc pc = .ok (.lreturn, 1)) (hp : post v (i, g)) : W p l e R s m args below meth c H locs cells slots (MQ below (va_Ql post (wB D h cz) (hA h)) args s cells slots (hA h)) (F0 m pc ls [.long v]) :=
  W.lret (v := v) X.1 X.2.1 hr (fun t ht hW => ⟨⟨v, (i, g), rfl, hp, by rw [ht]; exact hT, va_K.moved hW.alike X.2.2.2.2.2⟩, hS.F ht⟩) hS.2.2 hdg hlk
theorem r_vret {post : St2 → Prop} (X : Cxt p s m c args cc nL own D cz) (hr : meth.sig.returnType = none) (hlk : meth.locks = false) (hT : TH D h cz i g H) (hS : va_S (hA h) s.heap H locs) (hdg : decode cc pc = .ok (.return_, 1)) (hp : post (i, g)) : W p l e R s m args below meth c H locs cells slots (MQ below (va_Qv post (wB D h cz) (hA h)) args s cells slots (hA h)) (F0 m pc ls []) :=
  W.vret X.1 X.2.1 hr (fun t ht hW => ⟨⟨(i, g), rfl, hp, by rw [ht]; exact hT, va_K.moved hW.alike X.2.2.2.2.2⟩, hS.F ht⟩) hS.2.2 hdg hlk
end RowsA
/-- a contract out of a walk; the end as a continuation -/
abbrev RetI (p : Program) (l : Launch) (e : Env) (R : Room) (s : State) (m : MethodId) (args : Array Value) (below : List Frame) (meth : Method) (c : Code) (cc : ByteArray) (D : va_G) (h : Nat → Nat) (cz : Nat → ClassId) (post : Int32 → St2 → Prop) (Q : State → Prop) : Prop :=
  ∀ (v : Int32) (i : Nat → Nat → Int32) (g : Nat → Nat → Int64) (H : Heap) (locs : List Loc) (pc : Nat) (ls : Array Slot), decode cc pc = .ok (.ireturn, 1) → TH D h cz i g H → va_S (hA h) s.heap H locs → post v (i, g) → W p l e R s m args below meth c H locs 0 0 Q (F0 m pc ls [.int v])
abbrev RetL (p : Program) (l : Launch) (e : Env) (R : Room) (s : State) (m : MethodId) (args : Array Value) (below : List Frame) (meth : Method) (c : Code) (cc : ByteArray) (D : va_G) (h : Nat → Nat) (cz : Nat → ClassId) (post : Int64 → St2 → Prop) (Q : State → Prop) : Prop :=
  ∀ (v : Int64) (i : Nat → Nat → Int32) (g : Nat → Nat → Int64) (H : Heap) (locs : List Loc) (pc : Nat) (ls : Array Slot), decode cc pc = .ok (.lreturn, 1) → TH D h cz i g H → va_S (hA h) s.heap H locs → post v (i, g) → W p l e R s m args below meth c H locs 0 0 Q (F0 m pc ls [.long v])
abbrev RetV (p : Program) (l : Launch) (e : Env) (R : Room) (s : State) (m : MethodId) (args : Array Value) (below : List Frame) (meth : Method) (c : Code) (cc : ByteArray) (D : va_G) (h : Nat → Nat) (cz : Nat → ClassId) (post : St2 → Prop) (Q : State → Prop) : Prop :=
  ∀ (i : Nat → Nat → Int32) (g : Nat → Nat → Int64) (H : Heap) (locs : List Loc) (pc : Nat) (ls : Array Slot), decode cc pc = .ok (.return_, 1) → TH D h cz i g H → va_S (hA h) s.heap H locs → post (i, g) → W p l e R s m args below meth c H locs 0 0 Q (F0 m pc ls [])
section Entry
variable {l : Launch} {y : MethodName} {cc : ByteArray} {n : Nat} {rm : Room} {D : va_G} {h : Nat → Nat} {cz : Nat → ClassId} {i : Nat → Nat → Int32} {g : Nat → Nat → Int64} {av : List Value}
theorem k_entry {r : Option FieldType} {Qc : Array Value → State → Outcome → State → Prop} (hy : plainName y.cls = true) (hav : (lg_sl av).length ≤ n)
    (body : ∀ (p : Program) (e : Env) (s : State) (m : MethodId) (args : Array Value) (below : List Frame) (meth : Method) (c : Code) (ls : Array Slot), Cxt p s m c args cc n y.cls D cz → meth.sig.returnType = r → meth.locks = false → TH D h cz i g s.heap → lv_has ls n (lv_args 0 av) → va_S (hA h) s.heap s.heap [] → W p l e rm s m args below meth c s.heap [] 0 0 (MQ below Qc args s 0 0 (hA h)) (F0 m 0 ls [])) : Met l y (uw y cc n r) rm (wP D h cz i g av) Qc 0 0 (hA h) := by
  refine Met.ofW (cc := cc) (maxL := n) (ret := r) hy rfl ?_
  intro p e s m args below meth c s₁ B hml hv
  obtain ⟨rfl, hT, hK⟩ := hv
  have hts := atoms_spec (ws := uw y cc n r) B.pre
  have hl := lv_entry av (n := n) hav
  rw [lg_entry_eq]
  exact body p e s m _ below meth c _ ⟨B.exec, B.bytes, hml, findClass_of_methodNamed B.named, fun w hw => hts w (List.mem_cons_of_mem _ hw), hK⟩ B.returns B.notSynchronized hT hl va_S.rf
theorem k_I {post : Int32 → St2 → Prop} (hy : plainName y.cls = true) (hav : (lg_sl av).length ≤ n)
    (body : ∀ (p : Program) (e : Env) (s : State) (m : MethodId) (args : Array Value) (below : List Frame) (meth : Method) (c : Code) (ls : Array Slot) (Q : State → Prop), Cxt p s m c args cc n y.cls D cz → RetI p l e rm s m args below meth c cc D h cz post Q → TH D h cz i g s.heap → lv_has ls n (lv_args 0 av) → va_S (hA h) s.heap s.heap [] → W p l e rm s m args below meth c s.heap [] 0 0 Q (F0 m 0 ls [])) : CtI l y cc n (some .int) rm D h cz i g av post :=
  k_entry hy hav (fun p e s m args below meth c ls X hr hlk hT hl hS => body p e s m args below meth c ls _ X (fun v i g H locs pc ls hd hT hS hp => r_iret X hr hlk hT hS hd hp) hT hl hS)
theorem nb_z {v : Int32} (h : v = 0 ∨ v = 1) : narrow .boolean (.int v) = .int v := by rcases h with h | h <;> subst h <;> rfl
theorem k_Z {post : Int32 → St2 → Prop} (hz : ∀ v u, post v u → v = 0 ∨ v = 1) (hy : plainName y.cls = true) (hav : (lg_sl av).length ≤ n)
    (body : ∀ (p : Program) (e : Env) (s : State) (m : MethodId) (args : Array Value) (below : List Frame) (meth : Method) (c : Code) (ls : Array Slot) (Q : State → Prop), Cxt p s m c args cc n y.cls D cz → RetI p l e rm s m args below meth c cc D h cz post Q → TH D h cz i g s.heap → lv_has ls n (lv_args 0 av) → va_S (hA h) s.heap s.heap [] → W p l e rm s m args below meth c s.heap [] 0 0 Q (F0 m 0 ls [])) : CtI l y cc n (some .boolean) rm D h cz i g av post :=
  k_entry hy hav (fun p e s m args below meth c ls X hr hlk hT hl hS => body p e s m args below meth c ls _ X (fun v i g H locs pc ls hd hT hS hp => r_zret X hr hlk hT hS hd (nb_z (hz _ _ hp)) hp) hT hl hS)
theorem k_L {post : Int64 → St2 → Prop} (hy : plainName y.cls = true) (hav : (lg_sl av).length ≤ n)
    (body : ∀ (p : Program) (e : Env) (s : State) (m : MethodId) (args : Array Value) (below : List Frame) (meth : Method) (c : Code) (ls : Array Slot) (Q : State → Prop), Cxt p s m c args cc n y.cls D cz → RetL p l e rm s m args below meth c cc D h cz post Q → TH D h cz i g s.heap → lv_has ls n (lv_args 0 av) → va_S (hA h) s.heap s.heap [] → W p l e rm s m args below meth c s.heap [] 0 0 Q (F0 m 0 ls [])) : CtL l y cc n (some .long) rm D h cz i g av post :=
  k_entry hy hav (fun p e s m args below meth c ls X hr hlk hT hl hS => body p e s m args below meth c ls _ X (fun v i g H locs pc ls hd hT hS hp => r_lret X hr hlk hT hS hd hp) hT hl hS)
theorem k_V {post : St2 → Prop} (hy : plainName y.cls = true) (hav : (lg_sl av).length ≤ n)
    (body : ∀ (p : Program) (e : Env) (s : State) (m : MethodId) (args : Array Value) (below : List Frame) (meth : Method) (c : Code) (ls : Array Slot) (Q : State → Prop), Cxt p s m c args cc n y.cls D cz → RetV p l e rm s m args below meth c cc D h cz post Q → TH D h cz i g s.heap → lv_has ls n (lv_args 0 av) → va_S (hA h) s.heap s.heap [] → W p l e rm s m args below meth c s.heap [] 0 0 Q (F0 m 0 ls [])) : CtV l y cc n none rm D h cz i g av post :=
  k_entry hy hav (fun p e s m args below meth c ls X hr hlk hT hl hS => body p e s m args below meth c ls _ X (fun i g H locs pc ls hd hT hS hp => r_vret X hr hlk hT hS hd hp) hT hl hS)
end Entry
end
section
/-! ints between two numbers -/
def rgL (lo hi : Int) (x : Int64) : Prop := lo ≤ x.toInt ∧ x.toInt ≤ hi
theorem rg_k {lo hi : Int} {x : Int32} (h : (decide (lo ≤ x.toInt) && decide (x.toInt ≤ hi)) = true) : rg lo hi x := by
  simp only [Bool.and_eq_true, decide_eq_true_eq] at h; exact h
theorem rgL_k {lo hi : Int} {x : Int64} (h : (decide (lo ≤ x.toInt) && decide (x.toInt ≤ hi)) = true) : rgL lo hi x := by
  simp only [Bool.and_eq_true, decide_eq_true_eq] at h; exact h
theorem rg_top (x : Int32) : rg (-2147483648) 2147483647 x := ⟨by have := x.le_toInt; simpa using this, by have := x.toInt_lt; simp at this; omega⟩
theorem rgL_top (x : Int64) : rgL (-9223372036854775808) 9223372036854775807 x := ⟨by have := x.le_toInt; simpa using this, by have := x.toInt_lt; simp at this; omega⟩
theorem rg_w {a b lo hi : Int} {x : Int32} (h : rg a b x) (h1 : lo ≤ a ∧ b ≤ hi) : rg lo hi x := ⟨by have := h.1; omega, by have := h.2; omega⟩
theorem rgL_w {a b lo hi : Int} {x : Int64} (h : rgL a b x) (h1 : lo ≤ a ∧ b ≤ hi) : rgL lo hi x := ⟨by have := h.1; omega, by have := h.2; omega⟩
theorem i_lt {x y : Int32} (h : x < y) : x.toInt < y.toInt := Int32.lt_iff_toInt_lt.mp h
theorem i_le {x y : Int32} (h : x ≤ y) : x.toInt ≤ y.toInt := Int32.le_iff_toInt_le.mp h
theorem i_nlt {x y : Int32} (h : ¬ x < y) : y.toInt ≤ x.toInt := by rw [Int32.lt_iff_toInt_lt] at h; omega
theorem i_nle {x y : Int32} (h : ¬ x ≤ y) : y.toInt < x.toInt := by rw [Int32.le_iff_toInt_le] at h; omega
theorem i_eq {x y : Int32} (h : x = y) : x.toInt = y.toInt := by rw [h]
theorem i_ne {x y : Int32} (h : ¬ x = y) : ¬ x.toInt = y.toInt := fun q => h (Int32.toInt_inj.mp q)
theorem l_lt {x y : Int64} (h : x < y) : x.toInt < y.toInt := Int64.lt_iff_toInt_lt.mp h
theorem l_le {x y : Int64} (h : x ≤ y) : x.toInt ≤ y.toInt := Int64.le_iff_toInt_le.mp h
theorem l_nlt {x y : Int64} (h : ¬ x < y) : y.toInt ≤ x.toInt := by rw [Int64.lt_iff_toInt_lt] at h; omega
theorem l_nle {x y : Int64} (h : ¬ x ≤ y) : y.toInt < x.toInt := by rw [Int64.le_iff_toInt_le] at h; omega
theorem l_eq {x y : Int64} (h : x = y) : x.toInt = y.toInt := by rw [h]
theorem l_ne {x y : Int64} (h : ¬ x = y) : ¬ x.toInt = y.toInt := fun q => h (Int64.toInt_inj.mp q)
/-- the answer of lcmp against 0 -/
theorem lg_val (x y : Int64) : (y.toInt < x.toInt ∧ lg_cmp x y = 1) ∨ (x.toInt = y.toInt ∧ lg_cmp x y = 0) ∨ (x.toInt < y.toInt ∧ lg_cmp x y = -1) := by
  unfold lg_cmp
  by_cases h1 : x > y
  · exact Or.inl ⟨Int64.lt_iff_toInt_lt.mp h1, by simp [h1]⟩
  · by_cases h2 : x = y
    · exact Or.inr (Or.inl ⟨by rw [h2], by simp [h2]⟩)
    · have h3 : ¬ y < x := h1
      rw [Int64.lt_iff_toInt_lt] at h3
      exact Or.inr (Or.inr ⟨by have := l_ne h2; omega, by simp [h1, h2]⟩)
theorem c_lt {x y : Int64} (h : lg_cmp x y < 0) : x.toInt < y.toInt := by
  rcases lg_val x y with ⟨a, b⟩ | ⟨a, b⟩ | ⟨a, b⟩
  · rw [b] at h; exact absurd h (by decide)
  · rw [b] at h; exact absurd h (by decide)
  · exact a
theorem c_nlt {x y : Int64} (h : ¬ lg_cmp x y < 0) : y.toInt ≤ x.toInt := by
  rcases lg_val x y with ⟨a, b⟩ | ⟨a, b⟩ | ⟨a, b⟩
  · omega
  · omega
  · rw [b] at h; exact absurd (by decide) h
theorem c_ge {x y : Int64} (h : 0 ≤ lg_cmp x y) : y.toInt ≤ x.toInt := by
  rcases lg_val x y with ⟨a, b⟩ | ⟨a, b⟩ | ⟨a, b⟩
  · omega
  · omega
  · rw [b] at h; exact absurd h (by decide)
theorem c_nge {x y : Int64} (h : ¬ 0 ≤ lg_cmp x y) : x.toInt < y.toInt := by
  rcases lg_val x y with ⟨a, b⟩ | ⟨a, b⟩ | ⟨a, b⟩
  · rw [b] at h; exact absurd (by decide) h
  · rw [b] at h; exact absurd (by decide) h
  · exact a
theorem c_gt {x y : Int64} (h : 0 < lg_cmp x y) : y.toInt < x.toInt := by
  rcases lg_val x y with ⟨a, b⟩ | ⟨a, b⟩ | ⟨a, b⟩
  · exact a
  · rw [b] at h; exact absurd h (by decide)
  · rw [b] at h; exact absurd h (by decide)
theorem c_ngt {x y : Int64} (h : ¬ 0 < lg_cmp x y) : x.toInt ≤ y.toInt := by
  rcases lg_val x y with ⟨a, b⟩ | ⟨a, b⟩ | ⟨a, b⟩
  · rw [b] at h; exact absurd (by decide) h
  · omega
  · omega
theorem c_le {x y : Int64} (h : lg_cmp x y ≤ 0) : x.toInt ≤ y.toInt := by
  rcases lg_val x y with ⟨a, b⟩ | ⟨a, b⟩ | ⟨a, b⟩
  · rw [b] at h; exact absurd h (by decide)
  · omega
  · omega
theorem c_nle {x y : Int64} (h : ¬ lg_cmp x y ≤ 0) : y.toInt < x.toInt := by
  rcases lg_val x y with ⟨a, b⟩ | ⟨a, b⟩ | ⟨a, b⟩
  · exact a
  · rw [b] at h; exact absurd (by decide) h
  · rw [b] at h; exact absurd (by decide) h
theorem c_eq {x y : Int64} (h : lg_cmp x y = 0) : x.toInt = y.toInt := by
  rcases lg_val x y with ⟨a, b⟩ | ⟨a, b⟩ | ⟨a, b⟩
  · rw [b] at h; exact absurd h (by decide)
  · exact a
  · rw [b] at h; exact absurd h (by decide)
theorem c_ne {x y : Int64} (h : ¬ lg_cmp x y = 0) : ¬ x.toInt = y.toInt := by
  rcases lg_val x y with ⟨a, b⟩ | ⟨a, b⟩ | ⟨a, b⟩
  · omega
  · rw [b] at h; exact absurd rfl h
  · omega
theorem rg_lcmp (x y : Int64) : rg (-1) 1 (lg_cmp x y) := by
  rcases lg_val x y with ⟨a, b⟩ | ⟨a, b⟩ | ⟨a, b⟩ <;> rw [b] <;> exact rg_k (by decide)
/-! narrower by a comparison of their numbers; u = x.toInt, w = y.toInt -/
theorem n_hi {a b hi : Int} {x : Int32} (h : rg a b x) {w : Int} (q : x.toInt ≤ w) (hw : w ≤ hi) : rg a hi x := ⟨h.1, by omega⟩
theorem n_lo {a b lo : Int} {x : Int32} (h : rg a b x) {w : Int} (q : w ≤ x.toInt) (hw : lo ≤ w) : rg lo b x := ⟨by omega, h.2⟩
theorem nL_hi {a b hi : Int} {x : Int64} (h : rgL a b x) {w : Int} (q : x.toInt ≤ w) (hw : w ≤ hi) : rgL a hi x := ⟨h.1, by omega⟩
theorem nL_lo {a b lo : Int} {x : Int64} (h : rgL a b x) {w : Int} (q : w ≤ x.toInt) (hw : lo ≤ w) : rgL lo b x := ⟨by omega, h.2⟩
theorem x_lt {a b c d u w : Int} (h1 : a ≤ u ∧ u ≤ b) (h2 : c ≤ w ∧ w ≤ d) (q : u < w) (hn : d ≤ a) : False := by omega
theorem x_le {a b c d u w : Int} (h1 : a ≤ u ∧ u ≤ b) (h2 : c ≤ w ∧ w ≤ d) (q : u ≤ w) (hn : d < a) : False := by omega
theorem x_eq {a b c d u w : Int} (h1 : a ≤ u ∧ u ≤ b) (h2 : c ≤ w ∧ w ≤ d) (q : u = w) (hn : d < a ∨ b < c) : False := by omega
theorem x_ne {a b c d u w : Int} (h1 : a ≤ u ∧ u ≤ b) (h2 : c ≤ w ∧ w ≤ d) (q : ¬ u = w) (hn : a = b ∧ c = d ∧ a = c) : False := by omega
/-- x < y: both bounds; the numbers as they come out -/
theorem t_ltx {a b c d : Int} (lo hi : Int) {x y : Int32} (h1 : rg a b x) (h2 : rg c d y) (q : x.toInt < y.toInt) (hn : lo ≤ a ∧ (b ≤ hi ∨ d - 1 ≤ hi)) : rg lo hi x := by have := h1.1; have := h1.2; have := h2.1; have := h2.2; constructor <;> omega
theorem t_lty {a b c d : Int} (lo hi : Int) {x y : Int32} (h1 : rg a b x) (h2 : rg c d y) (q : x.toInt < y.toInt) (hn : d ≤ hi ∧ (lo ≤ c ∨ lo ≤ a + 1)) : rg lo hi y := by have := h1.1; have := h1.2; have := h2.1; have := h2.2; constructor <;> omega
theorem t_lex {a b c d : Int} (lo hi : Int) {x y : Int32} (h1 : rg a b x) (h2 : rg c d y) (q : x.toInt ≤ y.toInt) (hn : lo ≤ a ∧ (b ≤ hi ∨ d ≤ hi)) : rg lo hi x := by have := h1.1; have := h1.2; have := h2.1; have := h2.2; constructor <;> omega
theorem t_ley {a b c d : Int} (lo hi : Int) {x y : Int32} (h1 : rg a b x) (h2 : rg c d y) (q : x.toInt ≤ y.toInt) (hn : d ≤ hi ∧ (lo ≤ c ∨ lo ≤ a)) : rg lo hi y := by have := h1.1; have := h1.2; have := h2.1; have := h2.2; constructor <;> omega
theorem t_eqx {a b c d : Int} (lo hi : Int) {x y : Int32} (h1 : rg a b x) (h2 : rg c d y) (q : x.toInt = y.toInt) (hn : (lo ≤ a ∨ lo ≤ c) ∧ (b ≤ hi ∨ d ≤ hi)) : rg lo hi x := by have := h1.1; have := h1.2; have := h2.1; have := h2.2; constructor <;> omega
theorem t_eqy {a b c d : Int} (lo hi : Int) {x y : Int32} (h1 : rg a b x) (h2 : rg c d y) (q : x.toInt = y.toInt) (hn : (lo ≤ a ∨ lo ≤ c) ∧ (b ≤ hi ∨ d ≤ hi)) : rg lo hi y := by have := h1.1; have := h1.2; have := h2.1; have := h2.2; constructor <;> omega
/-- x ≠ y, y one number at x's bound -/
theorem t_nelo {a b c d : Int} (lo : Int) {x y : Int32} (h1 : rg a b x) (h2 : rg c d y) (q : ¬ x.toInt = y.toInt) (hn : c = d ∧ c = a ∧ lo = a + 1) : rg lo b x := by have := h1.1; have := h1.2; have := h2.1; have := h2.2; constructor <;> omega
theorem t_nehi {a b c d : Int} (hi : Int) {x y : Int32} (h1 : rg a b x) (h2 : rg c d y) (q : ¬ x.toInt = y.toInt) (hn : c = d ∧ c = b ∧ hi = b - 1) : rg a hi x := by have := h1.1; have := h1.2; have := h2.1; have := h2.2; constructor <;> omega
theorem tL_ltx {a b c d : Int} (lo hi : Int) {x y : Int64} (h1 : rgL a b x) (h2 : rgL c d y) (q : x.toInt < y.toInt) (hn : lo ≤ a ∧ (b ≤ hi ∨ d - 1 ≤ hi)) : rgL lo hi x := by have := h1.1; have := h1.2; have := h2.1; have := h2.2; constructor <;> omega
theorem tL_lty {a b c d : Int} (lo hi : Int) {x y : Int64} (h1 : rgL a b x) (h2 : rgL c d y) (q : x.toInt < y.toInt) (hn : d ≤ hi ∧ (lo ≤ c ∨ lo ≤ a + 1)) : rgL lo hi y := by have := h1.1; have := h1.2; have := h2.1; have := h2.2; constructor <;> omega
theorem tL_lex {a b c d : Int} (lo hi : Int) {x y : Int64} (h1 : rgL a b x) (h2 : rgL c d y) (q : x.toInt ≤ y.toInt) (hn : lo ≤ a ∧ (b ≤ hi ∨ d ≤ hi)) : rgL lo hi x := by have := h1.1; have := h1.2; have := h2.1; have := h2.2; constructor <;> omega
theorem tL_ley {a b c d : Int} (lo hi : Int) {x y : Int64} (h1 : rgL a b x) (h2 : rgL c d y) (q : x.toInt ≤ y.toInt) (hn : d ≤ hi ∧ (lo ≤ c ∨ lo ≤ a)) : rgL lo hi y := by have := h1.1; have := h1.2; have := h2.1; have := h2.2; constructor <;> omega
theorem tL_eqx {a b c d : Int} (lo hi : Int) {x y : Int64} (h1 : rgL a b x) (h2 : rgL c d y) (q : x.toInt = y.toInt) (hn : (lo ≤ a ∨ lo ≤ c) ∧ (b ≤ hi ∨ d ≤ hi)) : rgL lo hi x := by have := h1.1; have := h1.2; have := h2.1; have := h2.2; constructor <;> omega
theorem tL_eqy {a b c d : Int} (lo hi : Int) {x y : Int64} (h1 : rgL a b x) (h2 : rgL c d y) (q : x.toInt = y.toInt) (hn : (lo ≤ a ∨ lo ≤ c) ∧ (b ≤ hi ∨ d ≤ hi)) : rgL lo hi y := by have := h1.1; have := h1.2; have := h2.1; have := h2.2; constructor <;> omega
/-! arithmetic without overflow -/
theorem bm32 {n : Int} (h : -2147483648 ≤ n ∧ n ≤ 2147483647) : n.bmod 4294967296 = n := by rw [Int.bmod_def]; omega
theorem bm64 {n : Int} (h : -9223372036854775808 ≤ n ∧ n ≤ 9223372036854775807) : n.bmod 18446744073709551616 = n := by rw [Int.bmod_def]; omega
theorem e_add {x y : Int32} (h : -2147483648 ≤ x.toInt + y.toInt ∧ x.toInt + y.toInt ≤ 2147483647) : (x + y).toInt = x.toInt + y.toInt := by
  rw [Int32.toInt_add]; exact bm32 h
theorem e_sub {x y : Int32} (h : -2147483648 ≤ x.toInt - y.toInt ∧ x.toInt - y.toInt ≤ 2147483647) : (x - y).toInt = x.toInt - y.toInt := by
  rw [Int32.toInt_sub]; exact bm32 h
theorem e_mul {x y : Int32} (h : -2147483648 ≤ x.toInt * y.toInt ∧ x.toInt * y.toInt ≤ 2147483647) : (x * y).toInt = x.toInt * y.toInt := by
  rw [Int32.toInt_mul]; exact bm32 h
theorem eL_add {x y : Int64} (h : -9223372036854775808 ≤ x.toInt + y.toInt ∧ x.toInt + y.toInt ≤ 9223372036854775807) : (x + y).toInt = x.toInt + y.toInt := by
  rw [Int64.toInt_add]; exact bm64 h
theorem eL_sub {x y : Int64} (h : -9223372036854775808 ≤ x.toInt - y.toInt ∧ x.toInt - y.toInt ≤ 9223372036854775807) : (x - y).toInt = x.toInt - y.toInt := by
  rw [Int64.toInt_sub]; exact bm64 h
theorem rg_add {a b c d : Int} (lo hi : Int) {x y z : Int32} (ez : z = x + y) (h1 : rg a b x) (h2 : rg c d y) (hn : lo ≤ a + c ∧ b + d ≤ hi ∧ -2147483648 ≤ a + c ∧ b + d ≤ 2147483647) : rg lo hi z ∧ z.toInt = x.toInt + y.toInt := by
  have := h1.1; have := h1.2; have := h2.1; have := h2.2
  have e := e_add (x := x) (y := y) (by omega)
  rw [ez]
  exact ⟨⟨by omega, by omega⟩, e⟩
theorem rg_sub {a b c d : Int} (lo hi : Int) {x y z : Int32} (ez : z = x - y) (h1 : rg a b x) (h2 : rg c d y) (hn : lo ≤ a - d ∧ b - c ≤ hi ∧ -2147483648 ≤ a - d ∧ b - c ≤ 2147483647) : rg lo hi z ∧ z.toInt = x.toInt - y.toInt := by
  have := h1.1; have := h1.2; have := h2.1; have := h2.2
  have e := e_sub (x := x) (y := y) (by omega)
  rw [ez]
  exact ⟨⟨by omega, by omega⟩, e⟩
theorem rgL_add {a b c d : Int} (lo hi : Int) {x y z : Int64} (ez : z = x + y) (h1 : rgL a b x) (h2 : rgL c d y) (hn : lo ≤ a + c ∧ b + d ≤ hi ∧ -9223372036854775808 ≤ a + c ∧ b + d ≤ 9223372036854775807) : rgL lo hi z ∧ z.toInt = x.toInt + y.toInt := by
  have := h1.1; have := h1.2; have := h2.1; have := h2.2
  have e := eL_add (x := x) (y := y) (by omega)
  rw [ez]
  exact ⟨⟨by omega, by omega⟩, e⟩
theorem rgL_sub {a b c d : Int} (lo hi : Int) {x y z : Int64} (ez : z = x - y) (h1 : rgL a b x) (h2 : rgL c d y) (hn : lo ≤ a - d ∧ b - c ≤ hi ∧ -9223372036854775808 ≤ a - d ∧ b - c ≤ 9223372036854775807) : rgL lo hi z ∧ z.toInt = x.toInt - y.toInt := by
  have := h1.1; have := h1.2; have := h2.1; have := h2.2
  have e := eL_sub (x := x) (y := y) (by omega)
  rw [ez]
  exact ⟨⟨by omega, by omega⟩, e⟩
theorem mulb {a b c d u w : Int} (h1 : a ≤ u ∧ u ≤ b) (h2 : c ≤ w ∧ w ≤ d) (ha : 0 ≤ a) (hc : 0 ≤ c) : a * c ≤ u * w ∧ u * w ≤ b * d :=
  ⟨Int.mul_le_mul h1.1 h2.1 hc (by omega), Int.mul_le_mul h1.2 h2.2 (by omega) (by omega)⟩
theorem rg_mul {a b c d : Int} (lo hi : Int) {x y z : Int32} (ez : z = x * y) (h1 : rg a b x) (h2 : rg c d y) (hn : 0 ≤ a ∧ 0 ≤ c ∧ lo ≤ a * c ∧ b * d ≤ hi ∧ b * d ≤ 2147483647) : rg lo hi z ∧ z.toInt = x.toInt * y.toInt := by
  obtain ⟨n1, n2, n3, n4, n5⟩ := hn
  have q := mulb h1 h2 n1 n2
  have q0 : 0 ≤ a * c := Int.mul_nonneg n1 n2
  have e := e_mul (x := x) (y := y) ⟨by omega, by omega⟩
  rw [ez]
  exact ⟨⟨by omega, by omega⟩, e⟩
theorem rg_i2l {a b : Int} {x : Int32} {z : Int64} (ez : x.toInt64 = z) (h : rg a b x) : rgL a b z ∧ z.toInt = x.toInt := by
  have e : z.toInt = x.toInt := by rw [← ez]; exact Int32.toInt_toInt64 x
  exact ⟨⟨by rw [e]; exact h.1, by rw [e]; exact h.2⟩, e⟩
theorem v_in {a b : Int} {x : Int32} {n : Nat} (h : rg a b x) (hn : 0 ≤ a ∧ b < (n : Int)) : vp_in x n := vp_in_iff.mpr ⟨by have := h.1; omega, by have := h.2; omega⟩
theorem v_lt {x : Int32} {n : Nat} (h : vp_in x n) : x.toNatClampNeg < n := Nat.not_le.mp fun q => h (Or.inr q)
theorem cl_int {a b : Int} {x : Int32} (h : rg a b x) (hn : 0 ≤ a) : (x.toNatClampNeg : Int) = x.toInt := by
  have h0 := h.1
  obtain ⟨j, hj, e⟩ := nI_of (x := x) (fun q => by have := i_lt q; simp at this; omega)
  subst e
  rw [nI_clamp hj, nI_toInt hj]
theorem m_up {HI K : Int} {n : Nat} {a b : Int} {x y : Int32} (e : y.toInt = x.toInt + K) (hy : rg a b y) (hn : 0 < K ∧ b ≤ HI) (hm : (HI - x.toInt).toNat < n + 1) : (HI - y.toInt).toNat < n := by
  have := hy.2; omega
theorem m_dn {LO K : Int} {n : Nat} {a b : Int} {x y : Int32} (e : y.toInt = x.toInt + K) (hy : rg a b y) (hn : K < 0 ∧ LO ≤ a) (hm : (x.toInt - LO).toNat < n + 1) : (y.toInt - LO).toNat < n := by
  have := hy.1; omega
/-! the typed heap -/
def ln (j : Nat) : Nat := match tb j with
  | .inl (_, n, _) => n
  | .inr (_, ds) => ds.length
def Rg (T : Nat → Nat → Int × Int) (i : Nat → Nat → Int32) : Prop := ∀ j k, k < ln j → rg (T j k).1 (T j k).2 (i j k)
def rT (t : List ((Int × Int) ⊕ List (Int × Int))) (j k : Nat) : Int × Int := match t.getD j (.inl (-2147483648, 2147483647)) with
  | .inl p => p
  | .inr l => l.getD k (-2147483648, 2147483647)
theorem Rg_at {T : Nat → Nat → Int × Int} {i : Nat → Nat → Int32} (hR : Rg T i) (j k : Nat) (lo hi : Int) (hk : k < ln j) (ht : T j k = (lo, hi)) : rg lo hi (i j k) := by
  have := hR j k hk
  rw [ht] at this
  exact this
theorem Rg_put {T : Nat → Nat → Int × Int} {i i1 : Nat → Nat → Int32} {j k : Nat} {v : Int32} {a b : Int} (hR : Rg T i) (e : i1 = up2 i j k v) (lo hi : Int) (ht : T j k = (lo, hi)) (hv : rg a b v) (hn : lo ≤ a ∧ b ≤ hi) : Rg T i1 := by
  intro q r hr
  rw [e]
  by_cases hq : q = j
  · by_cases h2 : r = k
    · rw [hq, h2, up2_at, ht]
      exact rg_w hv hn
    · rw [up2_k h2]
      exact hR q r hr
  · rw [up2_j hq]
    exact hR q r hr
theorem z_j {i i1 : Nat → Nat → Int32} {j k a b : Nat} {v x : Int32} (e : i1 = up2 i j k v) (z : i a b = x) (hne : a ≠ j) : i1 a b = x := by rw [e, up2_j hne]; exact z
theorem z_k {i i1 : Nat → Nat → Int32} {j k a b : Nat} {v x : Int32} (e : i1 = up2 i j k v) (z : i a b = x) (hne : b ≠ k) : i1 a b = x := by rw [e, up2_k hne]; exact z
theorem z_s {i i1 : Nat → Nat → Int32} {j k : Nat} {v : Int32} (e : i1 = up2 i j k v) : i1 j k = v := by rw [e, up2_at]
/-! arithmetic rows that name what comes out -/
section RowsQ
variable {p : Program} {l : Launch} {e : Env} {R : Room} {s : State} {m : MethodId} {args : Array Value} {below : List Frame} {meth : Method} {c : Code} {H : Heap} {locs : List Loc} {cells slots : Nat} {Q : State → Prop} {cc : ByteArray} {pc : Nat} {ls : Array Slot} {rest : List Value}
theorem q_iadd {x y : Int32} (hx : p.tables.exec = Jvm.exec) (hb : c.code = cc) (d : decode cc pc = .ok (.iadd, 1)) (k : ∀ z : Int32, z = x + y → W p l e R s m args below meth c H locs cells slots Q (F0 m (pc + 1) ls (.int z :: rest))) : W p l e R s m args below meth c H locs cells slots Q (F0 m pc ls (.int y :: .int x :: rest)) := lv_iadd hx hb d (k _ rfl)
theorem q_isub {x y : Int32} (hx : p.tables.exec = Jvm.exec) (hb : c.code = cc) (d : decode cc pc = .ok (.isub, 1)) (k : ∀ z : Int32, z = x - y → W p l e R s m args below meth c H locs cells slots Q (F0 m (pc + 1) ls (.int z :: rest))) : W p l e R s m args below meth c H locs cells slots Q (F0 m pc ls (.int y :: .int x :: rest)) := lv_isub hx hb d (k _ rfl)
theorem q_imul {x y : Int32} (hx : p.tables.exec = Jvm.exec) (hb : c.code = cc) (d : decode cc pc = .ok (.imul, 1)) (k : ∀ z : Int32, z = x * y → W p l e R s m args below meth c H locs cells slots Q (F0 m (pc + 1) ls (.int z :: rest))) : W p l e R s m args below meth c H locs cells slots Q (F0 m pc ls (.int y :: .int x :: rest)) := lv_imul hx hb d (k _ rfl)
theorem q_iand {x y : Int32} (hx : p.tables.exec = Jvm.exec) (hb : c.code = cc) (d : decode cc pc = .ok (.iand, 1)) (k : ∀ z : Int32, z = x &&& y → W p l e R s m args below meth c H locs cells slots Q (F0 m (pc + 1) ls (.int z :: rest))) : W p l e R s m args below meth c H locs cells slots Q (F0 m pc ls (.int y :: .int x :: rest)) := lv_iand hx hb d (k _ rfl)
theorem q_ior {x y : Int32} (hx : p.tables.exec = Jvm.exec) (hb : c.code = cc) (d : decode cc pc = .ok (.ior, 1)) (k : ∀ z : Int32, z = x ||| y → W p l e R s m args below meth c H locs cells slots Q (F0 m (pc + 1) ls (.int z :: rest))) : W p l e R s m args below meth c H locs cells slots Q (F0 m pc ls (.int y :: .int x :: rest)) := lv_ior hx hb d (k _ rfl)
theorem q_ixor {x y : Int32} (hx : p.tables.exec = Jvm.exec) (hb : c.code = cc) (d : decode cc pc = .ok (.ixor, 1)) (k : ∀ z : Int32, z = x ^^^ y → W p l e R s m args below meth c H locs cells slots Q (F0 m (pc + 1) ls (.int z :: rest))) : W p l e R s m args below meth c H locs cells slots Q (F0 m pc ls (.int y :: .int x :: rest)) := lv_ixor hx hb d (k _ rfl)
theorem q_ishl {x y : Int32} (hx : p.tables.exec = Jvm.exec) (hb : c.code = cc) (d : decode cc pc = .ok (.ishl, 1)) (k : ∀ z : Int32, z = x <<< (y &&& 31) → W p l e R s m args below meth c H locs cells slots Q (F0 m (pc + 1) ls (.int z :: rest))) : W p l e R s m args below meth c H locs cells slots Q (F0 m pc ls (.int y :: .int x :: rest)) := lv_ishl hx hb d (k _ rfl)
theorem q_ishr {x y : Int32} (hx : p.tables.exec = Jvm.exec) (hb : c.code = cc) (d : decode cc pc = .ok (.ishr, 1)) (k : ∀ z : Int32, z = x >>> (y &&& 31) → W p l e R s m args below meth c H locs cells slots Q (F0 m (pc + 1) ls (.int z :: rest))) : W p l e R s m args below meth c H locs cells slots Q (F0 m pc ls (.int y :: .int x :: rest)) := lv_ishr hx hb d (k _ rfl)
theorem q_ladd {x y : Int64} (hx : p.tables.exec = Jvm.exec) (hb : c.code = cc) (d : decode cc pc = .ok (.ladd, 1)) (k : ∀ z : Int64, z = x + y → W p l e R s m args below meth c H locs cells slots Q (F0 m (pc + 1) ls (.long z :: rest))) : W p l e R s m args below meth c H locs cells slots Q (F0 m pc ls (.long y :: .long x :: rest)) := lv_ladd hx hb d (k _ rfl)
theorem q_lsub {x y : Int64} (hx : p.tables.exec = Jvm.exec) (hb : c.code = cc) (d : decode cc pc = .ok (.lsub, 1)) (k : ∀ z : Int64, z = x - y → W p l e R s m args below meth c H locs cells slots Q (F0 m (pc + 1) ls (.long z :: rest))) : W p l e R s m args below meth c H locs cells slots Q (F0 m pc ls (.long y :: .long x :: rest)) := lv_lsub hx hb d (k _ rfl)
theorem q_lmul {x y : Int64} (hx : p.tables.exec = Jvm.exec) (hb : c.code = cc) (d : decode cc pc = .ok (.lmul, 1)) (k : ∀ z : Int64, z = x * y → W p l e R s m args below meth c H locs cells slots Q (F0 m (pc + 1) ls (.long z :: rest))) : W p l e R s m args below meth c H locs cells slots Q (F0 m pc ls (.long y :: .long x :: rest)) := lv_lmul hx hb d (k _ rfl)
theorem q_i2l {x : Int32} (hx : p.tables.exec = Jvm.exec) (hb : c.code = cc) (d : decode cc pc = .ok (.i2l, 1)) (k : ∀ z : Int64, x.toInt64 = z → W p l e R s m args below meth c H locs cells slots Q (F0 m (pc + 1) ls (.long z :: rest))) : W p l e R s m args below meth c H locs cells slots Q (F0 m pc ls (.int x :: rest)) := lv_i2l hx hb d rfl (k _ rfl)
theorem q_l2i {x : Int64} (hx : p.tables.exec = Jvm.exec) (hb : c.code = cc) (d : decode cc pc = .ok (.l2i, 1)) (k : ∀ z : Int32, x.toInt32 = z → W p l e R s m args below meth c H locs cells slots Q (F0 m (pc + 1) ls (.int z :: rest))) : W p l e R s m args below meth c H locs cells slots Q (F0 m pc ls (.long x :: rest)) := lv_l2i hx hb d rfl (k _ rfl)
theorem q_i2b {x : Int32} (hx : p.tables.exec = Jvm.exec) (hb : c.code = cc) (d : decode cc pc = .ok (.i2b, 1)) (k : ∀ z : Int32, x.toInt8.toInt32 = z → W p l e R s m args below meth c H locs cells slots Q (F0 m (pc + 1) ls (.int z :: rest))) : W p l e R s m args below meth c H locs cells slots Q (F0 m pc ls (.int x :: rest)) := lv_i2b hx hb d rfl (k _ rfl)
end RowsQ
theorem rg_c {c : Int32} {x : Int32} {a : Int} (h : rg a a x) (hc : c.toInt = a := by decide) : x = c := Int32.toInt_inj.mp (by have := h.1; have := h.2; omega)
theorem rgL_c {c : Int64} {x : Int64} {a : Int} (h : rgL a a x) (hc : c.toInt = a := by decide) : x = c := Int64.toInt_inj.mp (by have := h.1; have := h.2; omega)
theorem z01 {x : Int32} (h : rg 0 1 x) : x = 0 ∨ x = 1 := by
  have h1 := h.1; have h2 := h.2
  rcases (show x.toInt = 0 ∨ x.toInt = 1 by omega) with q | q
  · exact Or.inl (Int32.toInt_inj.mp (by rw [q]; rfl))
  · exact Or.inr (Int32.toInt_inj.mp (by rw [q]; rfl))
theorem fb_z {v : Int32} (h : v = 0 ∨ v = 1) : fits .boolean (.int v) = true := by rcases h with h | h <;> subst h <;> rfl
theorem cl_c {a b : Int} {x : Int32} (h : rg a b x) (q : Nat) (e1 : a = (q : Int)) (e2 : a = b) : x.toNatClampNeg = q := by
  have h1 := cl_int h (by omega)
  have := h.1; have := h.2
  omega
theorem rg_nb (x : Int32) : rg (-128) 127 (vp_nar .byte x) := by
  rw [vp_nar_byte]
  have h1 := x.toInt8.le_toInt
  have h2 := x.toInt8.toInt_lt
  have e : x.toInt8.toInt32.toInt = x.toInt8.toInt := Int8.toInt_toInt32 _
  constructor
  · rw [e]; omega
  · rw [e]; omega
def up1 (i : Nat → Nat → Int32) (j : Nat) (f : Nat → Int32) : Nat → Nat → Int32 := fun q => if q = j then f else i q
theorem up1_j {i : Nat → Nat → Int32} {j : Nat} {f : Nat → Int32} {q : Nat} (hq : q ≠ j) : up1 i j f q = i q := by simp [up1, hq]
theorem up1_s (i : Nat → Nat → Int32) (j : Nat) (f : Nat → Int32) : up1 i j f j = f := by simp [up1]
section RowsB
variable {p : Program} {l : Launch} {e : Env} {R : Room} {s : State} {m : MethodId} {args : Array Value} {below : List Frame} {meth : Method} {c : Code} {H H0 : Heap} {locs : List Loc} {cells slots : Nat} {Q : State → Prop} {cc : ByteArray} {nL : Nat} {own : String} {D : va_G} {cz : Nat → ClassId} {h : Nat → Nat} {i : Nat → Nat → Int32} {g : Nat → Nat → Int64} {pc : Nat} {ls : Array Slot} {rest : List Value}
theorem r_alen (X : Cxt p s m c args cc nL own D cz) (hT : TH D h cz i g H) (j : Nat) {kd n : Nat} {rs : List Nat} (ht : tb j = .inl (kd, n, rs)) (hkd : kd < 4) (hj : j < NC) {v : Int32} (hv : Int32.ofNat n = v) (hdg : decode cc pc = .ok (.arraylength, 1))
    (kk : W p l e R s m args below meth c H locs cells slots Q (F0 m (pc + 1) ls (.int v :: rest))) : W p l e R s m args below meth c H locs cells slots Q (F0 m pc ls (.ref (h j) :: rest)) := by
  match kd, hkd, ht with
  | 0, _, ht => exact va_alen X.1 X.2.1 X.2.2.2.2.2 hT.1 j 0 (cA := cz 0) (x := (n, .inl (i j))) (by rw [wH_get _ _ _ _ hj, ht]; rfl) (ty := .int) rfl hv hdg kk
  | 1, _, ht => exact va_alen X.1 X.2.1 X.2.2.2.2.2 hT.1 j 1 (cA := cz 1) (x := (n, .inl (i j))) (by rw [wH_get _ _ _ _ hj, ht]; rfl) (ty := .byte) rfl hv hdg kk
  | 2, _, ht => exact va_alen X.1 X.2.1 X.2.2.2.2.2 hT.1 j 2 (cA := cz 2) (x := (n, .inl (i j))) (by rw [wH_get _ _ _ _ hj, ht]; rfl) (ty := .boolean) rfl hv hdg kk
  | 3, _, ht => exact va_alen X.1 X.2.1 X.2.2.2.2.2 hT.1 j 3 (cA := cz 3) (x := (n, .inr (.inl (g j)))) (by rw [wH_get _ _ _ _ hj, ht]; rfl) (ty := .long) rfl hv hdg kk
theorem r_copyi (X : Cxt p s m c args cc nL own D cz) (hT : TH D h cz i g H) (hS : va_S (hA h) H0 H locs) (hz : ls.size = nL) (j0 j1 : Nat) {n0 n1 : Nat} {rs0 rs1 : List Nat} (ht0 : tb j0 = .inl (0, n0, rs0)) (ht1 : tb j1 = .inl (0, n1, rs1)) (hj0 : j0 < NC) (hj1 : j1 < NC) {index : Nat} (ml : Cond.methodLink own index arraycopyName ∈ GW) (mn : Cond.native arraycopyName ∈ GW) (ms : Cond.static arraycopyName ∈ GW) (mi : Cond.initialized "java/lang/System" ∈ GW)
    {sp dp n : Int32} {a1 b1 a2 b2 a3 b3 : Int} (h1 : rg a1 b1 sp) (h2 : rg a2 b2 dp) (h3 : rg a3 b3 n) (hn : 0 ≤ a1 ∧ 0 ≤ a2 ∧ 0 ≤ a3 ∧ b1 + b3 ≤ (n0 : Int) ∧ b2 + b3 ≤ (n1 : Int)) (hframes : 1 ≤ R.frames) (hlocals : (rest.map fun v => v.category).sum + (nativeFrameWords "java/lang/System" "arraycopy" 5 + 11) ≤ R.locals) (hdg : decode cc pc = .ok (.invokestatic index, 3))
    (kk : ∀ (H1 : Heap) (locs1 : List Loc) (i1 : Nat → Nat → Int32), i1 = up1 i j1 (va_cpy (i j0) (i j1) sp.toNatClampNeg dp.toNatClampNeg n.toNatClampNeg) → TH D h cz i1 g H1 → va_S (hA h) H0 H1 locs1 → W p l e R s m args below meth c H1 locs1 cells slots Q (F0 m (pc + 3) ls rest)) : W p l e R s m args below meth c H locs cells slots Q (F0 m pc ls (.int n :: .int dp :: .ref (h j1) :: .int sp :: .ref (h j0) :: rest)) := by
  obtain ⟨hx, hb, hml, hown, hts, hK⟩ := X
  obtain ⟨n1', n2', n3', n4', n5'⟩ := hn
  have c1 := cl_int h1 n1'; have c2 := cl_int h2 n2'; have c3 := cl_int h3 n3'
  have := h1.1; have := h1.2; have := h2.1; have := h2.2; have := h3.1; have := h3.2
  refine va_copyi hx hb (hml.trans hz.symm) hown (hts _ ml) (hts _ mn) (hts _ ms) (hts _ mi) hK hT.1 (wH_D hT.2 cz i g) hS j0 j1 0 0 (c0 := cz 0) (c1 := cz 0) (n0 := n0) (n1 := n1) (f := i j0) (g := i j1) (ty := .int) (by rw [wH_get _ _ _ _ hj0, ht0]; rfl) (by rw [wH_get _ _ _ _ hj1, ht1]; rfl) rfl rfl rfl (fun q => by have := i_lt q; simp at this; omega) (fun q => by have := i_lt q; simp at this; omega) (fun q => by have := i_lt q; simp at this; omega) (by omega) (by omega) (fun _ _ => rfl) hframes hlocals hdg (fun H1 locs1 hP _ hS1 => kk H1 locs1 _ rfl ⟨?_, hT.2⟩ hS1)
  have e : (wH h cz i g).set j1 (h j1, .inl (cz 0, n1, .inl (va_cpy (i j0) (i j1) sp.toNatClampNeg dp.toNatClampNeg n.toNatClampNeg))) = wH h cz (up1 i j1 (va_cpy (i j0) (i j1) sp.toNatClampNeg dp.toNatClampNeg n.toNatClampNeg)) g := by
    rw [← wH_set (i := i) (g := g) (j := j1) (fun q hq => up1_j hq) (fun _ _ => rfl), ht1, up1_s]
    rfl
  rw [e] at hP
  exact hP
end RowsB
theorem Rg_cpy {T : Nat → Nat → Int × Int} {i i1 : Nat → Nat → Int32} {j0 j1 sp dp n : Nat} (hR : Rg T i) (e : i1 = up1 i j1 (va_cpy (i j0) (i j1) sp dp n)) (a b lo hi : Int) (t0 : ∀ k, T j0 k = (a, b)) (t1 : ∀ k, T j1 k = (lo, hi)) (hs : sp + n ≤ ln j0) (hn : lo ≤ a ∧ b ≤ hi) : Rg T i1 := by
  intro q r hr
  rw [e]
  by_cases hq : q = j1
  · rw [hq, up1_s, t1]
    unfold va_cpy
    by_cases hc : dp ≤ r ∧ r < dp + n
    · rw [if_pos hc]
      have h9 := hR j0 (sp + (r - dp)) (by omega)
      rw [t0] at h9
      exact rg_w h9 hn
    · rw [if_neg hc]
      rw [hq] at hr
      have h9 := hR j1 r hr
      rw [t1] at h9
      exact h9
  · rw [up1_j hq]
    exact hR q r hr
theorem Rg_mono {T T' : List ((Int × Int) ⊕ List (Int × Int))} {i : Nat → Nat → Int32} (hR : Rg (rT T) i) (h : (List.range NC).all (fun j => (List.range (ln j)).all (fun k => decide ((rT T' j k).1 ≤ (rT T j k).1) && decide ((rT T j k).2 ≤ (rT T' j k).2))) = true) (hN : ∀ j, NC ≤ j → ln j = 0) : Rg (rT T') i := by
  intro j k hk
  by_cases hj : j < NC
  · have h1 := List.all_eq_true.mp h j (List.mem_range.mpr hj)
    have h2 := List.all_eq_true.mp h1 k (List.mem_range.mpr hk)
    simp only [Bool.and_eq_true, decide_eq_true_eq] at h2
    exact rg_w (hR j k hk) h2
  · rw [hN j (by omega)] at hk
    exact absurd hk (Nat.not_lt_zero _)
end
section
def rFT : List ((Int × Int) ⊕ List (Int × Int)) := [
  .inr [((-2147483648), 2147483647), ((-2147483648), 2147483647), ((-2147483648), 2147483647), ((-2147483648), 2147483647), ((-2147483648), 2147483647), ((-2147483648), 2147483647), ((-2147483648), 2147483647), ((-2147483648), 2147483647), ((-2147483648), 2147483647), ((-2147483648), 2147483647), ((-2147483648), 2147483647), ((-2147483648), 2147483647), (1, 1), (1, 1), (0, 0)],
  .inr [((-2147483648), 2147483647), (0, 0)],
  .inl ((-128), 127),
  .inr [((-2147483648), 2147483647), ((-2147483648), 2147483647), ((-2147483648), 2147483647), ((-2147483648), 2147483647), ((-2147483648), 2147483647), ((-2147483648), 2147483647), ((-2147483648), 2147483647), ((-2147483648), 2147483647), ((-2147483648), 2147483647), ((-2147483648), 2147483647), (0, 0), (0, 0), (0, 0), (0, 0), (0, 0), (0, 0), (0, 0), (0, 0)],
  .inl (0, 0),
  .inl (0, 0),
  .inl (0, 0),
  .inl (0, 0),
  .inl (0, 0),
  .inl (0, 0),
  .inl (0, 0),
  .inl (0, 0),
  .inl (0, 0),
  .inl (0, 0),
  .inr [((-2147483648), 2147483647), ((-2147483648), 2147483647), (0, 0), (0, 0), (0, 0), (0, 0), (0, 0), ((-1), (-1))],
  .inr [((-2147483648), 2147483647), ((-2147483648), 2147483647), ((-2147483648), 2147483647), ((-2147483648), 2147483647), ((-2147483648), 2147483647), ((-2147483648), 2147483647), ((-2147483648), 2147483647), ((-2147483648), 2147483647), ((-2147483648), 2147483647), ((-2147483648), 2147483647), (0, 0), (0, 0), (0, 0), (0, 0), (0, 0), (0, 0), (0, 0), (0, 0)],
  .inl (0, 0),
  .inl (0, 0),
  .inl (0, 0),
  .inl (0, 0),
  .inl (0, 0),
  .inl (0, 0),
  .inl (0, 0),
  .inl (0, 0),
  .inl (0, 0),
  .inl (0, 0),
  .inl (0, 0),
  .inr [((-2147483648), 2147483647), ((-2147483648), 2147483647), ((-2147483648), 2147483647), ((-2147483648), 2147483647), ((-2147483648), 2147483647), ((-2147483648), 2147483647), ((-2147483648), 2147483647), ((-2147483648), 2147483647), ((-2147483648), 2147483647), ((-2147483648), 2147483647), (0, 0), (0, 0), (0, 0), (0, 0), (0, 0), (0, 0), (0, 0), (0, 0)],
  .inl (0, 0),
  .inl (0, 0),
  .inl (0, 0),
  .inl (0, 0),
  .inl (0, 0),
  .inl (0, 0),
  .inl (0, 0),
  .inl (0, 0),
  .inl (0, 0),
  .inl (0, 0),
  .inr [((-2147483648), 2147483647), ((-2147483648), 2147483647), ((-2147483648), 2147483647), ((-2147483648), 2147483647), ((-2147483648), 2147483647), ((-2147483648), 2147483647), ((-2147483648), 2147483647), ((-2147483648), 2147483647), ((-2147483648), 2147483647), ((-2147483648), 2147483647), (0, 0), (0, 0), (0, 0), (0, 0), (0, 0), (0, 0), (0, 0), (0, 0)],
  .inl (0, 0),
  .inl (0, 0),
  .inl (0, 0),
  .inl (0, 0),
  .inl (0, 0),
  .inl (0, 0),
  .inl (0, 0),
  .inl (0, 0),
  .inl (0, 0),
  .inl (0, 0),
  .inr [((-2147483648), 2147483647), ((-2147483648), 2147483647), ((-2147483648), 2147483647), ((-2147483648), 2147483647), ((-2147483648), 2147483647), ((-2147483648), 2147483647), ((-2147483648), 2147483647), ((-2147483648), 2147483647), ((-2147483648), 2147483647), ((-2147483648), 2147483647), (0, 0), (0, 0), (0, 0), (0, 0), (0, 0), (0, 0), (0, 0), (0, 0)],
  .inl (0, 0),
  .inl (0, 0),
  .inl (0, 0),
  .inl (0, 0),
  .inl (0, 0),
  .inl (0, 0),
  .inl (0, 0),
  .inl (0, 0),
  .inl (0, 0),
  .inl (0, 0),
  .inl (0, 0),
  .inr [((-2147483648), 2147483647), ((-2147483648), 2147483647), ((-2147483648), 2147483647)],
  .inl ((-1), (-1)),
  .inl (0, 0),
  .inl (0, 0),
  .inr [((-2147483648), 2147483647), ((-2147483648), 2147483647), ((-2147483648), 2147483647), ((-2147483648), 2147483647), ((-2147483648), 2147483647), ((-2147483648), 2147483647), ((-2147483648), 2147483647), (0, 0), (0, 0), (0, 0)],
  .inl (0, 0),
  .inl (0, 0),
  .inl (0, 0),
  .inl (0, 0),
  .inl (0, 0),
  .inl (0, 0),
  .inr [((-2147483648), 2147483647), ((-2147483648), 2147483647), ((-2147483648), 2147483647), ((-2147483648), 2147483647), ((-2147483648), 2147483647), ((-2147483648), 2147483647), ((-2147483648), 2147483647), (0, 0), (0, 0), (0, 0)],
  .inl (0, 0),
  .inl (0, 0),
  .inl (0, 0),
  .inl (0, 0),
  .inl (0, 0),
  .inl (0, 0),
  .inr [((-2147483648), 2147483647), ((-2147483648), 2147483647), ((-2147483648), 2147483647), ((-2147483648), 2147483647), ((-2147483648), 2147483647), ((-2147483648), 2147483647), ((-2147483648), 2147483647), (0, 0), (0, 0)],
  .inl (0, 0),
  .inl (0, 0),
  .inl (0, 0),
  .inl (0, 0),
  .inl (0, 0),
  .inl (0, 0),
  .inl (0, 0),
  .inl (0, 0),
  .inl (0, 0),
  .inl (0, 0),
  .inl (0, 0),
  .inr [((-2147483648), 2147483647), ((-2147483648), 2147483647), ((-2147483648), 2147483647), ((-2147483648), 2147483647), ((-2147483648), 2147483647)],
  .inl (0, 0),
  .inr [((-2147483648), 2147483647), ((-2147483648), 2147483647), ((-2147483648), 2147483647), ((-2147483648), 2147483647), (0, 0), (0, 0)],
  .inl (0, 0),
  .inl (0, 0),
  .inr [(0, 0), ((-2147483648), 2147483647), ((-2147483648), 2147483647), ((-2147483648), 2147483647), ((-2147483648), 2147483647), ((-2147483648), 2147483647), (0, 0), (0, 0), (0, 0), (0, 0), (0, 0), ((-2147483648), 2147483647), (0, 0), ((-1), 0), (0, 0), ((-1), (-1)), ((-2147483648), 2147483647), ((-2147483648), 2147483647), ((-2147483648), 2147483647), ((-2147483648), 2147483647), ((-2147483648), 2147483647), ((-2147483648), 2147483647), ((-2147483648), 2147483647), (0, 0), (0, 0), (0, 0), (0, 0), (0, 0), ((-2147483648), 2147483647), ((-2147483648), 2147483647), ((-2147483648), 2147483647), ((-2147483648), 2147483647), ((-2147483648), 2147483647), ((-2147483648), 2147483647), ((-2147483648), 2147483647), (0, 0), (0, 0), (0, 0), (0, 0), ((-2147483648), 2147483647), ((-2147483648), 2147483647), (0, 0), (0, 0), (0, 0), (0, 0), (0, 0), ((-2147483648), 2147483647), (0, 0), (0, 0), ((-1), 0), ((-1000), 0)],
  .inl ((-1), (-1)),
  .inl (0, 0),
  .inl (0, 0),
  .inl (0, 0),
  .inl ((-128), 127),
  .inl (0, 0),
  .inl (0, 0),
  .inl (0, 0),
  .inl (0, 0),
  .inl (0, 0),
  .inl (0, 0),
  .inl (0, 0),
  .inl (0, 0),
  .inl (0, 0),
  .inl (0, 0),
  .inl (0, 0),
  .inl (0, 0),
  .inl (0, 0),
  .inl (0, 0),
  .inl (0, 0),
  .inl (0, 0),
  .inl (0, 0)]
abbrev rF : Nat → Nat → Int × Int := rT rFT
def rLT : List ((Int × Int) ⊕ List (Int × Int)) := [
  .inr [((-2147483648), 2147483647), ((-2147483648), 2147483647), ((-2147483648), 2147483647), ((-2147483648), 2147483647), ((-2147483648), 2147483647), ((-2147483648), 2147483647), ((-2147483648), 2147483647), ((-2147483648), 2147483647), ((-2147483648), 2147483647), ((-2147483648), 2147483647), ((-2147483648), 2147483647), ((-2147483648), 2147483647), (1, 1), (1, 1), (0, 0)],
  .inr [((-2147483648), 2147483647), (0, 700)],
  .inl ((-128), 127),
  .inr [((-2147483648), 2147483647), ((-2147483648), 2147483647), ((-2147483648), 2147483647), ((-2147483648), 2147483647), ((-2147483648), 2147483647), ((-2147483648), 2147483647), ((-2147483648), 2147483647), ((-2147483648), 2147483647), ((-2147483648), 2147483647), ((-2147483648), 2147483647), (0, 0), (0, 0), (0, 0), (0, 0), (0, 0), (0, 0), (0, 0), (0, 0)],
  .inl (0, 0),
  .inl (0, 0),
  .inl (0, 0),
  .inl (0, 0),
  .inl (0, 0),
  .inl (0, 0),
  .inl (0, 0),
  .inl (0, 0),
  .inl (0, 0),
  .inl (0, 0),
  .inr [((-2147483648), 2147483647), ((-2147483648), 2147483647), (0, 0), (0, 0), (0, 0), (0, 0), (0, 0), ((-1), (-1))],
  .inr [((-2147483648), 2147483647), ((-2147483648), 2147483647), ((-2147483648), 2147483647), ((-2147483648), 2147483647), ((-2147483648), 2147483647), ((-2147483648), 2147483647), ((-2147483648), 2147483647), ((-2147483648), 2147483647), ((-2147483648), 2147483647), ((-2147483648), 2147483647), (0, 0), (0, 0), (0, 0), (0, 0), (0, 0), (0, 0), (0, 0), (0, 0)],
  .inl (0, 0),
  .inl (0, 0),
  .inl (0, 0),
  .inl (0, 0),
  .inl (0, 0),
  .inl (0, 0),
  .inl (0, 0),
  .inl (0, 0),
  .inl (0, 0),
  .inl (0, 0),
  .inl (0, 0),
  .inr [((-2147483648), 2147483647), ((-2147483648), 2147483647), ((-2147483648), 2147483647), ((-2147483648), 2147483647), ((-2147483648), 2147483647), ((-2147483648), 2147483647), ((-2147483648), 2147483647), ((-2147483648), 2147483647), ((-2147483648), 2147483647), ((-2147483648), 2147483647), (0, 0), (0, 0), (0, 0), (0, 0), (0, 0), (0, 0), (0, 0), (0, 0)],
  .inl (0, 0),
  .inl (0, 0),
  .inl (0, 0),
  .inl (0, 0),
  .inl (0, 0),
  .inl (0, 0),
  .inl (0, 0),
  .inl (0, 0),
  .inl (0, 0),
  .inl (0, 0),
  .inr [((-2147483648), 2147483647), ((-2147483648), 2147483647), ((-2147483648), 2147483647), ((-2147483648), 2147483647), ((-2147483648), 2147483647), ((-2147483648), 2147483647), ((-2147483648), 2147483647), ((-2147483648), 2147483647), ((-2147483648), 2147483647), ((-2147483648), 2147483647), (0, 0), (0, 0), (0, 0), (0, 0), (0, 0), (0, 0), (0, 0), (0, 0)],
  .inl (0, 0),
  .inl (0, 0),
  .inl (0, 0),
  .inl (0, 0),
  .inl (0, 0),
  .inl (0, 0),
  .inl (0, 0),
  .inl (0, 0),
  .inl (0, 0),
  .inl (0, 0),
  .inr [((-2147483648), 2147483647), ((-2147483648), 2147483647), ((-2147483648), 2147483647), ((-2147483648), 2147483647), ((-2147483648), 2147483647), ((-2147483648), 2147483647), ((-2147483648), 2147483647), ((-2147483648), 2147483647), ((-2147483648), 2147483647), ((-2147483648), 2147483647), (0, 0), (0, 0), (0, 0), (0, 0), (0, 0), (0, 0), (0, 0), (0, 0)],
  .inl (0, 0),
  .inl (0, 0),
  .inl (0, 0),
  .inl (0, 0),
  .inl (0, 0),
  .inl (0, 0),
  .inl (0, 0),
  .inl (0, 0),
  .inl (0, 0),
  .inl (0, 0),
  .inl (0, 1),
  .inr [((-1), 3), (0, 60), ((-2147483648), 2147483647)],
  .inl ((-1), 3),
  .inl (0, 60),
  .inl (0, 0),
  .inr [((-2147483648), 2147483647), ((-2147483648), 2147483647), ((-2147483648), 2147483647), ((-2147483648), 2147483647), ((-2147483648), 2147483647), ((-2147483648), 2147483647), ((-2147483648), 2147483647), (0, 0), (0, 0), (0, 0)],
  .inl (0, 0),
  .inl (0, 0),
  .inl (0, 0),
  .inl (0, 0),
  .inl (0, 0),
  .inl (0, 0),
  .inr [((-2147483648), 2147483647), ((-2147483648), 2147483647), ((-2147483648), 2147483647), ((-2147483648), 2147483647), ((-2147483648), 2147483647), ((-2147483648), 2147483647), ((-2147483648), 2147483647), (0, 0), (0, 0), (0, 0)],
  .inl (0, 0),
  .inl (0, 0),
  .inl (0, 0),
  .inl (0, 0),
  .inl (0, 0),
  .inl (0, 0),
  .inr [((-2147483648), 2147483647), ((-2147483648), 2147483647), ((-2147483648), 2147483647), ((-2147483648), 2147483647), ((-2147483648), 2147483647), ((-2147483648), 2147483647), ((-2147483648), 2147483647), (0, 0), (0, 0)],
  .inl (0, 0),
  .inl (0, 0),
  .inl (0, 0),
  .inl (0, 0),
  .inl (0, 0),
  .inl (0, 0),
  .inl (0, 0),
  .inl (0, 0),
  .inl (0, 0),
  .inl (0, 0),
  .inl (0, 0),
  .inr [((-2147483648), 2147483647), ((-2147483648), 2147483647), ((-2147483648), 2147483647), ((-2147483648), 2147483647), ((-2147483648), 2147483647)],
  .inl (0, 0),
  .inr [((-2147483648), 2147483647), ((-2147483648), 2147483647), ((-2147483648), 2147483647), ((-2147483648), 2147483647), (0, 0), (0, 0)],
  .inl (0, 0),
  .inl (0, 0),
  .inr [(0, 0), ((-2147483648), 2147483647), ((-2147483648), 2147483647), ((-2147483648), 2147483647), ((-2147483648), 2147483647), ((-2147483648), 2147483647), (0, 0), (0, 0), (0, 0), (0, 0), (0, 0), ((-2147483648), 2147483647), (0, 0), ((-1), 0), (0, 0), ((-1), (-1)), ((-2147483648), 2147483647), ((-2147483648), 2147483647), ((-2147483648), 2147483647), ((-2147483648), 2147483647), ((-2147483648), 2147483647), ((-2147483648), 2147483647), ((-2147483648), 2147483647), (0, 0), (0, 0), (0, 0), (0, 0), (0, 0), ((-2147483648), 2147483647), ((-2147483648), 2147483647), ((-2147483648), 2147483647), ((-2147483648), 2147483647), ((-2147483648), 2147483647), ((-2147483648), 2147483647), ((-2147483648), 2147483647), (0, 0), (0, 0), (0, 0), (0, 0), ((-2147483648), 2147483647), ((-2147483648), 2147483647), (0, 0), (0, 0), (0, 0), (0, 0), (0, 0), ((-2147483648), 2147483647), (0, 0), (0, 0), ((-1), 0), ((-1000), 0)],
  .inl ((-1), (-1)),
  .inl (0, 0),
  .inl (0, 0),
  .inl (0, 0),
  .inl ((-128), 127),
  .inl (0, 0),
  .inl (0, 0),
  .inl (0, 0),
  .inl (0, 0),
  .inl (0, 0),
  .inl (0, 0),
  .inl (0, 0),
  .inl (0, 0),
  .inl (0, 0),
  .inl (0, 0),
  .inl (0, 0),
  .inl (0, 0),
  .inl (0, 0),
  .inl (0, 0),
  .inl (0, 0),
  .inl (0, 0),
  .inl (0, 0)]
abbrev rL : Nat → Nat → Int × Int := rT rLT
def rMT : List ((Int × Int) ⊕ List (Int × Int)) := [
  .inr [((-2147483648), 2147483647), ((-2147483648), 2147483647), ((-2147483648), 2147483647), ((-2147483648), 2147483647), ((-2147483648), 2147483647), ((-2147483648), 2147483647), ((-2147483648), 2147483647), ((-2147483648), 2147483647), ((-2147483648), 2147483647), ((-2147483648), 2147483647), ((-2147483648), 2147483647), ((-2147483648), 2147483647), ((-2147483648), 2147483647), ((-2147483648), 2147483647), ((-2147483648), 2147483647)],
  .inr [((-2147483648), 2147483647), ((-2147483648), 2147483647)],
  .inl ((-2147483648), 2147483647),
  .inr [((-2147483648), 2147483647), ((-2147483648), 2147483647), ((-2147483648), 2147483647), ((-2147483648), 2147483647), ((-2147483648), 2147483647), ((-2147483648), 2147483647), ((-2147483648), 2147483647), ((-2147483648), 2147483647), ((-2147483648), 2147483647), ((-2147483648), 2147483647), ((-2147483648), 2147483647), ((-2147483648), 2147483647), ((-2147483648), 2147483647), ((-2147483648), 2147483647), ((-2147483648), 2147483647), ((-2147483648), 2147483647), ((-2147483648), 2147483647), ((-2147483648), 2147483647)],
  .inl ((-2147483648), 2147483647),
  .inl ((-2147483648), 2147483647),
  .inl ((-2147483648), 2147483647),
  .inl ((-2147483648), 2147483647),
  .inl ((-2147483648), 2147483647),
  .inl ((-2147483648), 2147483647),
  .inl ((-2147483648), 2147483647),
  .inl ((-2147483648), 2147483647),
  .inl ((-2147483648), 2147483647),
  .inl ((-2147483648), 2147483647),
  .inr [((-2147483648), 2147483647), ((-2147483648), 2147483647), ((-2147483648), 2147483647), ((-2147483648), 2147483647), ((-2147483648), 2147483647), ((-2147483648), 2147483647), ((-2147483648), 2147483647), ((-2147483648), 2147483647)],
  .inr [((-2147483648), 2147483647), ((-2147483648), 2147483647), ((-2147483648), 2147483647), ((-2147483648), 2147483647), ((-2147483648), 2147483647), ((-2147483648), 2147483647), ((-2147483648), 2147483647), ((-2147483648), 2147483647), ((-2147483648), 2147483647), ((-2147483648), 2147483647), ((-2147483648), 2147483647), ((-2147483648), 2147483647), ((-2147483648), 2147483647), ((-2147483648), 2147483647), ((-2147483648), 2147483647), ((-2147483648), 2147483647), ((-2147483648), 2147483647), ((-2147483648), 2147483647)],
  .inl ((-2147483648), 2147483647),
  .inl ((-2147483648), 2147483647),
  .inl ((-2147483648), 2147483647),
  .inl ((-2147483648), 2147483647),
  .inl ((-2147483648), 2147483647),
  .inl ((-2147483648), 2147483647),
  .inl ((-2147483648), 2147483647),
  .inl ((-2147483648), 2147483647),
  .inl ((-2147483648), 2147483647),
  .inl ((-2147483648), 2147483647),
  .inl ((-2147483648), 2147483647),
  .inr [((-2147483648), 2147483647), ((-2147483648), 2147483647), ((-2147483648), 2147483647), ((-2147483648), 2147483647), ((-2147483648), 2147483647), ((-2147483648), 2147483647), ((-2147483648), 2147483647), ((-2147483648), 2147483647), ((-2147483648), 2147483647), ((-2147483648), 2147483647), ((-2147483648), 2147483647), ((-2147483648), 2147483647), ((-2147483648), 2147483647), ((-2147483648), 2147483647), ((-2147483648), 2147483647), ((-2147483648), 2147483647), ((-2147483648), 2147483647), ((-2147483648), 2147483647)],
  .inl ((-2147483648), 2147483647),
  .inl ((-2147483648), 2147483647),
  .inl ((-2147483648), 2147483647),
  .inl ((-2147483648), 2147483647),
  .inl ((-2147483648), 2147483647),
  .inl ((-2147483648), 2147483647),
  .inl ((-2147483648), 2147483647),
  .inl ((-2147483648), 2147483647),
  .inl ((-2147483648), 2147483647),
  .inl ((-2147483648), 2147483647),
  .inr [((-2147483648), 2147483647), ((-2147483648), 2147483647), ((-2147483648), 2147483647), ((-2147483648), 2147483647), ((-2147483648), 2147483647), ((-2147483648), 2147483647), ((-2147483648), 2147483647), ((-2147483648), 2147483647), ((-2147483648), 2147483647), ((-2147483648), 2147483647), ((-2147483648), 2147483647), ((-2147483648), 2147483647), ((-2147483648), 2147483647), ((-2147483648), 2147483647), ((-2147483648), 2147483647), ((-2147483648), 2147483647), ((-2147483648), 2147483647), ((-2147483648), 2147483647)],
  .inl ((-2147483648), 2147483647),
  .inl ((-2147483648), 2147483647),
  .inl ((-2147483648), 2147483647),
  .inl ((-2147483648), 2147483647),
  .inl ((-2147483648), 2147483647),
  .inl ((-2147483648), 2147483647),
  .inl ((-2147483648), 2147483647),
  .inl ((-2147483648), 2147483647),
  .inl ((-2147483648), 2147483647),
  .inl ((-2147483648), 2147483647),
  .inr [((-2147483648), 2147483647), ((-2147483648), 2147483647), ((-2147483648), 2147483647), ((-2147483648), 2147483647), ((-2147483648), 2147483647), ((-2147483648), 2147483647), ((-2147483648), 2147483647), ((-2147483648), 2147483647), ((-2147483648), 2147483647), ((-2147483648), 2147483647), ((-2147483648), 2147483647), ((-2147483648), 2147483647), ((-2147483648), 2147483647), ((-2147483648), 2147483647), ((-2147483648), 2147483647), ((-2147483648), 2147483647), ((-2147483648), 2147483647), ((-2147483648), 2147483647)],
  .inl ((-2147483648), 2147483647),
  .inl ((-2147483648), 2147483647),
  .inl ((-2147483648), 2147483647),
  .inl ((-2147483648), 2147483647),
  .inl ((-2147483648), 2147483647),
  .inl ((-2147483648), 2147483647),
  .inl ((-2147483648), 2147483647),
  .inl ((-2147483648), 2147483647),
  .inl ((-2147483648), 2147483647),
  .inl ((-2147483648), 2147483647),
  .inl ((-2147483648), 2147483647),
  .inr [((-2147483648), 2147483647), ((-2147483648), 2147483647), ((-2147483648), 2147483647)],
  .inl ((-2147483648), 2147483647),
  .inl ((-2147483648), 2147483647),
  .inl ((-2147483648), 2147483647),
  .inr [((-2147483648), 2147483647), ((-2147483648), 2147483647), ((-2147483648), 2147483647), ((-2147483648), 2147483647), ((-2147483648), 2147483647), ((-2147483648), 2147483647), ((-2147483648), 2147483647), ((-2147483648), 2147483647), ((-2147483648), 2147483647), ((-2147483648), 2147483647)],
  .inl ((-2147483648), 2147483647),
  .inl ((-2147483648), 2147483647),
  .inl ((-2147483648), 2147483647),
  .inl ((-2147483648), 2147483647),
  .inl ((-2147483648), 2147483647),
  .inl ((-2147483648), 2147483647),
  .inr [((-2147483648), 2147483647), ((-2147483648), 2147483647), ((-2147483648), 2147483647), ((-2147483648), 2147483647), ((-2147483648), 2147483647), ((-2147483648), 2147483647), ((-2147483648), 2147483647), ((-2147483648), 2147483647), ((-2147483648), 2147483647), ((-2147483648), 2147483647)],
  .inl ((-2147483648), 2147483647),
  .inl ((-2147483648), 2147483647),
  .inl ((-2147483648), 2147483647),
  .inl ((-2147483648), 2147483647),
  .inl ((-2147483648), 2147483647),
  .inl ((-2147483648), 2147483647),
  .inr [((-2147483648), 2147483647), ((-2147483648), 2147483647), ((-2147483648), 2147483647), ((-2147483648), 2147483647), ((-2147483648), 2147483647), ((-2147483648), 2147483647), ((-2147483648), 2147483647), ((-2147483648), 2147483647), ((-2147483648), 2147483647)],
  .inl ((-2147483648), 2147483647),
  .inl ((-2147483648), 2147483647),
  .inl ((-2147483648), 2147483647),
  .inl ((-2147483648), 2147483647),
  .inl ((-2147483648), 2147483647),
  .inl ((-2147483648), 2147483647),
  .inl ((-2147483648), 2147483647),
  .inl ((-2147483648), 2147483647),
  .inl ((-2147483648), 2147483647),
  .inl ((-2147483648), 2147483647),
  .inl ((-2147483648), 2147483647),
  .inr [((-2147483648), 2147483647), ((-2147483648), 2147483647), ((-2147483648), 2147483647), ((-2147483648), 2147483647), ((-2147483648), 2147483647)],
  .inl ((-2147483648), 2147483647),
  .inr [((-2147483648), 2147483647), ((-2147483648), 2147483647), ((-2147483648), 2147483647), ((-2147483648), 2147483647), ((-2147483648), 2147483647), ((-2147483648), 2147483647)],
  .inl ((-2147483648), 2147483647),
  .inl ((-2147483648), 2147483647),
  .inr [(0, 0), ((-2147483648), 2147483647), ((-2147483648), 2147483647), ((-2147483648), 2147483647), ((-2147483648), 2147483647), ((-2147483648), 2147483647), (0, 0), (0, 0), (0, 0), (0, 0), (0, 0), ((-2147483648), 2147483647), (0, 0), ((-1), 0), (0, 0), ((-1), (-1)), ((-2147483648), 2147483647), ((-2147483648), 2147483647), ((-2147483648), 2147483647), ((-2147483648), 2147483647), ((-2147483648), 2147483647), ((-2147483648), 2147483647), ((-2147483648), 2147483647), (0, 0), (0, 0), (0, 0), (0, 0), (0, 0), ((-2147483648), 2147483647), ((-2147483648), 2147483647), ((-2147483648), 2147483647), ((-2147483648), 2147483647), ((-2147483648), 2147483647), ((-2147483648), 2147483647), ((-2147483648), 2147483647), (0, 0), (0, 0), (0, 0), (0, 0), ((-2147483648), 2147483647), ((-2147483648), 2147483647), (0, 0), (0, 0), (0, 0), (0, 0), (0, 0), ((-2147483648), 2147483647), (0, 0), (0, 0), ((-1), 0), ((-1000), 0)],
  .inl ((-1), (-1)),
  .inl (0, 0),
  .inl (0, 0),
  .inl (0, 0),
  .inl ((-128), 127),
  .inl (0, 0),
  .inl (0, 0),
  .inl (0, 0),
  .inl (0, 0),
  .inl (0, 0),
  .inl (0, 0),
  .inl (0, 0),
  .inl (0, 0),
  .inl (0, 0),
  .inl (0, 0),
  .inl (0, 0),
  .inl (0, 0),
  .inl (0, 0),
  .inl (0, 0),
  .inl (0, 0),
  .inl (0, 0),
  .inl (0, 0)]
abbrev rM : Nat → Nat → Int × Int := rT rMT
def rNT : List ((Int × Int) ⊕ List (Int × Int)) := [
  .inr [((-2147483648), 2147483647), ((-2147483648), 2147483647), ((-2147483648), 2147483647), ((-2147483648), 2147483647), ((-2147483648), 2147483647), ((-2147483648), 2147483647), ((-2147483648), 2147483647), ((-2147483648), 2147483647), ((-2147483648), 2147483647), ((-2147483648), 2147483647), ((-2147483648), 2147483647), ((-2147483648), 2147483647), ((-2147483648), 2147483647), ((-2147483648), 2147483647), ((-2147483648), 2147483647)],
  .inr [((-2147483648), 2147483647), ((-2147483648), 2147483647)],
  .inl ((-2147483648), 2147483647),
  .inr [((-2147483648), 2147483647), ((-2147483648), 2147483647), ((-2147483648), 2147483647), ((-2147483648), 2147483647), ((-2147483648), 2147483647), ((-2147483648), 2147483647), ((-2147483648), 2147483647), ((-2147483648), 2147483647), ((-2147483648), 2147483647), ((-2147483648), 2147483647), ((-2147483648), 2147483647), ((-2147483648), 2147483647), ((-2147483648), 2147483647), ((-2147483648), 2147483647), ((-2147483648), 2147483647), ((-2147483648), 2147483647), ((-2147483648), 2147483647), ((-2147483648), 2147483647)],
  .inl ((-2147483648), 2147483647),
  .inl ((-2147483648), 2147483647),
  .inl ((-2147483648), 2147483647),
  .inl ((-2147483648), 2147483647),
  .inl ((-2147483648), 2147483647),
  .inl ((-2147483648), 2147483647),
  .inl ((-2147483648), 2147483647),
  .inl ((-2147483648), 2147483647),
  .inl ((-2147483648), 2147483647),
  .inl ((-2147483648), 2147483647),
  .inr [((-2147483648), 2147483647), ((-2147483648), 2147483647), ((-2147483648), 2147483647), ((-2147483648), 2147483647), ((-2147483648), 2147483647), ((-2147483648), 2147483647), ((-2147483648), 2147483647), ((-2147483648), 2147483647)],
  .inr [((-2147483648), 2147483647), ((-2147483648), 2147483647), ((-2147483648), 2147483647), ((-2147483648), 2147483647), ((-2147483648), 2147483647), ((-2147483648), 2147483647), ((-2147483648), 2147483647), ((-2147483648), 2147483647), ((-2147483648), 2147483647), ((-2147483648), 2147483647), ((-2147483648), 2147483647), ((-2147483648), 2147483647), ((-2147483648), 2147483647), ((-2147483648), 2147483647), ((-2147483648), 2147483647), ((-2147483648), 2147483647), ((-2147483648), 2147483647), ((-2147483648), 2147483647)],
  .inl ((-2147483648), 2147483647),
  .inl ((-2147483648), 2147483647),
  .inl ((-2147483648), 2147483647),
  .inl ((-2147483648), 2147483647),
  .inl ((-2147483648), 2147483647),
  .inl ((-2147483648), 2147483647),
  .inl ((-2147483648), 2147483647),
  .inl ((-2147483648), 2147483647),
  .inl ((-2147483648), 2147483647),
  .inl ((-2147483648), 2147483647),
  .inl ((-2147483648), 2147483647),
  .inr [((-2147483648), 2147483647), ((-2147483648), 2147483647), ((-2147483648), 2147483647), ((-2147483648), 2147483647), ((-2147483648), 2147483647), ((-2147483648), 2147483647), ((-2147483648), 2147483647), ((-2147483648), 2147483647), ((-2147483648), 2147483647), ((-2147483648), 2147483647), ((-2147483648), 2147483647), ((-2147483648), 2147483647), ((-2147483648), 2147483647), ((-2147483648), 2147483647), ((-2147483648), 2147483647), ((-2147483648), 2147483647), ((-2147483648), 2147483647), ((-2147483648), 2147483647)],
  .inl ((-2147483648), 2147483647),
  .inl ((-2147483648), 2147483647),
  .inl ((-2147483648), 2147483647),
  .inl ((-2147483648), 2147483647),
  .inl ((-2147483648), 2147483647),
  .inl ((-2147483648), 2147483647),
  .inl ((-2147483648), 2147483647),
  .inl ((-2147483648), 2147483647),
  .inl ((-2147483648), 2147483647),
  .inl ((-2147483648), 2147483647),
  .inr [((-2147483648), 2147483647), ((-2147483648), 2147483647), ((-2147483648), 2147483647), ((-2147483648), 2147483647), ((-2147483648), 2147483647), ((-2147483648), 2147483647), ((-2147483648), 2147483647), ((-2147483648), 2147483647), ((-2147483648), 2147483647), ((-2147483648), 2147483647), ((-2147483648), 2147483647), ((-2147483648), 2147483647), ((-2147483648), 2147483647), ((-2147483648), 2147483647), ((-2147483648), 2147483647), ((-2147483648), 2147483647), ((-2147483648), 2147483647), ((-2147483648), 2147483647)],
  .inl ((-2147483648), 2147483647),
  .inl ((-2147483648), 2147483647),
  .inl ((-2147483648), 2147483647),
  .inl ((-2147483648), 2147483647),
  .inl ((-2147483648), 2147483647),
  .inl ((-2147483648), 2147483647),
  .inl ((-2147483648), 2147483647),
  .inl ((-2147483648), 2147483647),
  .inl ((-2147483648), 2147483647),
  .inl ((-2147483648), 2147483647),
  .inr [((-2147483648), 2147483647), ((-2147483648), 2147483647), ((-2147483648), 2147483647), ((-2147483648), 2147483647), ((-2147483648), 2147483647), ((-2147483648), 2147483647), ((-2147483648), 2147483647), ((-2147483648), 2147483647), ((-2147483648), 2147483647), ((-2147483648), 2147483647), ((-2147483648), 2147483647), ((-2147483648), 2147483647), ((-2147483648), 2147483647), ((-2147483648), 2147483647), ((-2147483648), 2147483647), ((-2147483648), 2147483647), ((-2147483648), 2147483647), ((-2147483648), 2147483647)],
  .inl ((-2147483648), 2147483647),
  .inl ((-2147483648), 2147483647),
  .inl ((-2147483648), 2147483647),
  .inl ((-2147483648), 2147483647),
  .inl ((-2147483648), 2147483647),
  .inl ((-2147483648), 2147483647),
  .inl ((-2147483648), 2147483647),
  .inl ((-2147483648), 2147483647),
  .inl ((-2147483648), 2147483647),
  .inl ((-2147483648), 2147483647),
  .inl ((-2147483648), 2147483647),
  .inr [((-2147483648), 2147483647), ((-2147483648), 2147483647), ((-2147483648), 2147483647)],
  .inl ((-2147483648), 2147483647),
  .inl ((-2147483648), 2147483647),
  .inl ((-2147483648), 2147483647),
  .inr [((-2147483648), 2147483647), ((-2147483648), 2147483647), ((-2147483648), 2147483647), ((-2147483648), 2147483647), ((-2147483648), 2147483647), ((-2147483648), 2147483647), ((-2147483648), 2147483647), ((-2147483648), 2147483647), ((-2147483648), 2147483647), ((-2147483648), 2147483647)],
  .inl ((-2147483648), 2147483647),
  .inl ((-2147483648), 2147483647),
  .inl ((-2147483648), 2147483647),
  .inl ((-2147483648), 2147483647),
  .inl ((-2147483648), 2147483647),
  .inl ((-2147483648), 2147483647),
  .inr [((-2147483648), 2147483647), ((-2147483648), 2147483647), ((-2147483648), 2147483647), ((-2147483648), 2147483647), ((-2147483648), 2147483647), ((-2147483648), 2147483647), ((-2147483648), 2147483647), ((-2147483648), 2147483647), ((-2147483648), 2147483647), ((-2147483648), 2147483647)],
  .inl ((-2147483648), 2147483647),
  .inl ((-2147483648), 2147483647),
  .inl ((-2147483648), 2147483647),
  .inl ((-2147483648), 2147483647),
  .inl ((-2147483648), 2147483647),
  .inl ((-2147483648), 2147483647),
  .inr [((-2147483648), 2147483647), ((-2147483648), 2147483647), ((-2147483648), 2147483647), ((-2147483648), 2147483647), ((-2147483648), 2147483647), ((-2147483648), 2147483647), ((-2147483648), 2147483647), ((-2147483648), 2147483647), ((-2147483648), 2147483647)],
  .inl ((-2147483648), 2147483647),
  .inl ((-2147483648), 2147483647),
  .inl ((-2147483648), 2147483647),
  .inl ((-2147483648), 2147483647),
  .inl ((-2147483648), 2147483647),
  .inl ((-2147483648), 2147483647),
  .inl ((-2147483648), 2147483647),
  .inl ((-2147483648), 2147483647),
  .inl ((-2147483648), 2147483647),
  .inl ((-2147483648), 2147483647),
  .inl ((-2147483648), 2147483647),
  .inr [((-2147483648), 2147483647), ((-2147483648), 2147483647), ((-2147483648), 2147483647), ((-2147483648), 2147483647), ((-2147483648), 2147483647)],
  .inl ((-2147483648), 2147483647),
  .inr [((-2147483648), 2147483647), ((-2147483648), 2147483647), ((-2147483648), 2147483647), ((-2147483648), 2147483647), ((-2147483648), 2147483647), ((-2147483648), 2147483647)],
  .inl ((-2147483648), 2147483647),
  .inl ((-2147483648), 2147483647),
  .inr [(0, 0), ((-1), 3), (0, 60), ((-2147483648), 2147483647), ((-2147483648), 2147483647), ((-2147483648), 2147483647), (0, 700), (0, 0), (0, 0), (0, 0), (0, 0), ((-2147483648), 2147483647), (0, 0), ((-1), 0), (0, 0), ((-1), (-1)), ((-2147483648), 2147483647), ((-2147483648), 2147483647), ((-2147483648), 2147483647), ((-2147483648), 2147483647), ((-2147483648), 2147483647), ((-2147483648), 2147483647), (0, 1), (0, 0), (0, 0), (0, 0), (0, 0), (0, 0), ((-2147483648), 2147483647), ((-2147483648), 2147483647), ((-2147483648), 2147483647), ((-2147483648), 2147483647), ((-2147483648), 2147483647), ((-2147483648), 2147483647), ((-2147483648), 2147483647), (0, 0), (0, 0), (0, 0), (0, 0), ((-2147483648), 2147483647), ((-2147483648), 2147483647), (0, 0), (0, 0), (0, 0), (0, 0), (0, 0), ((-2147483648), 2147483647), (0, 0), (0, 0), ((-1), 0), ((-1000), 0)],
  .inl ((-1), 3),
  .inl (0, 60),
  .inl (0, 0),
  .inl (0, 0),
  .inl ((-128), 127),
  .inl (0, 0),
  .inl (0, 0),
  .inl (0, 0),
  .inl (0, 0),
  .inl (0, 0),
  .inl (0, 0),
  .inl (0, 1),
  .inl (0, 0),
  .inl (0, 0),
  .inl (0, 0),
  .inl (0, 0),
  .inl (0, 0),
  .inl (0, 0),
  .inl (0, 0),
  .inl (0, 0),
  .inl (0, 0),
  .inl (0, 0)]
abbrev rN : Nat → Nat → Int × Int := rT rNT
theorem ln_hi : ∀ j, NC ≤ j → ln j = 0 := by
  intro j hj
  have h : tb j = .inl (0, 0, []) := by
    unfold tb
    rw [List.getD_eq_getElem?_getD, List.getElem?_eq_none (show tbl.length ≤ j from hj)]
    rfl
  unfold ln
  rw [h]
end
section
theorem iw_8 : ∀ w ∈ u_ws RX8 TX8 15, w ∈ GW := by
  have h1 : ∀ w ∈ u_ws RX8 TX8 15, w ∈ lw_tbl ∧ goodWord w = true := by decide +kernel
  exact fun w h => List.mem_filter.mpr (h1 w h)
theorem gm_446 : Cond.fieldLink "UncutTale" 32 "UncutTale" "story" "LUncutTale$Story;" ∈ GW := gm 446 (by decide +kernel) (by decide +kernel)
theorem fk_8_32 : FK "UncutTale" 32 8 3 := ⟨RX8, TX8, 15, rfl, by decide, iw_8, gm_446⟩
theorem iw_6 : ∀ w ∈ u_ws RX6 TX6 18, w ∈ GW := by
  have h1 : ∀ w ∈ u_ws RX6 TX6 18, w ∈ lw_tbl ∧ goodWord w = true := by decide +kernel
  exact fun w h => List.mem_filter.mpr (h1 w h)
theorem gm_200 : Cond.fieldLink "UncutTale$Story" 52 "UncutTale$Story" "parts" "I" ∈ GW := gm 200 (by decide +kernel) (by decide +kernel)
theorem fk_6_52 : FK "UncutTale$Story" 52 6 13 := ⟨RX6, TX6, 18, rfl, by decide, iw_6, gm_200⟩
theorem pn_X6_hasPart : plainName yX6_hasPart.cls = true := by decide +kernel
theorem gm_669 : Cond.methodLink "UncutTale" 127 yX6_hasPart ∈ GW := gm 669 (by decide +kernel) (by decide +kernel)
theorem hd_X6_hasPart : yX6_hasPart.cls ≠ "java/lang/invoke/MethodHandle" ∧ yX6_hasPart.cls ≠ "java/lang/invoke/VarHandle" ∧ (parseMethodDescriptor yX6_hasPart.desc).map (fun d => d.parameters.length) = some 1 := by decide +kernel
theorem gm_672 : Cond.code yX6_hasPart cX6_hasPart 2 (some .boolean) ∈ GW := gm 672 (by decide +kernel) (by decide +kernel)
theorem gm_670 : Cond.instanceMethod yX6_hasPart ∈ GW := gm 670 (by decide +kernel) (by decide +kernel)
theorem gm_671 : Cond.selects "UncutTale$Story" yX6_hasPart yX6_hasPart ∈ GW := gm 671 (by decide +kernel) (by decide +kernel)
theorem gm_110 : Cond.initialized "UncutTale$Story" ∈ GW := gm 110 (by decide +kernel) (by decide +kernel)
theorem mk_X6_hasPart : MK yX6_hasPart cX6_hasPart 2 (some .boolean) := ⟨gm_672, gm_670, gm_671, gm_110⟩
theorem pn_X8_part : plainName yX8_part.cls = true := by decide +kernel
theorem pn_X8_near : plainName yX8_near.cls = true := by decide +kernel
theorem pn_X8_far : plainName yX8_far.cls = true := by decide +kernel
theorem pn_X8_hasPartAndYear : plainName yX8_hasPartAndYear.cls = true := by decide +kernel
theorem gm_727 : Cond.methodLink "UncutTale" 186 yX8_hasPartAndYear ∈ GW := gm 727 (by decide +kernel) (by decide +kernel)
theorem hd_X8_hasPartAndYear : yX8_hasPartAndYear.cls ≠ "java/lang/invoke/MethodHandle" ∧ yX8_hasPartAndYear.cls ≠ "java/lang/invoke/VarHandle" ∧ (parseMethodDescriptor yX8_hasPartAndYear.desc).map (fun d => d.parameters.length) = some 2 := by decide +kernel
theorem gm_730 : Cond.code yX8_hasPartAndYear cX8_hasPartAndYear 3 (some .boolean) ∈ GW := gm 730 (by decide +kernel) (by decide +kernel)
theorem gm_729 : Cond.instanceMethod yX8_hasPartAndYear ∈ GW := gm 729 (by decide +kernel) (by decide +kernel)
theorem gm_13 : Cond.selects "UncutTale" yX8_hasPartAndYear yX8_hasPartAndYear ∈ GW := gm 13 (by decide +kernel) (by decide +kernel)
theorem gm_108 : Cond.initialized "UncutTale" ∈ GW := gm 108 (by decide +kernel) (by decide +kernel)
theorem mk_X8_hasPartAndYear : MK yX8_hasPartAndYear cX8_hasPartAndYear 3 (some .boolean) := ⟨gm_730, gm_729, gm_13, gm_108⟩
theorem pn_X8_stiff : plainName yX8_stiff.cls = true := by decide +kernel
theorem gm_218 : Cond.fieldLink "UncutTale$Story" 64 "UncutTale$Story" "lines" "I" ∈ GW := gm 218 (by decide +kernel) (by decide +kernel)
theorem fk_6_64 : FK "UncutTale$Story" 64 6 17 := ⟨RX6, TX6, 18, rfl, by decide, iw_6, gm_218⟩
theorem pn_X6_isTold : plainName yX6_isTold.cls = true := by decide +kernel
theorem gm_735 : Cond.methodLink "UncutTale$Story" 73 yX6_isTold ∈ GW := gm 735 (by decide +kernel) (by decide +kernel)
theorem hd_X6_isTold : yX6_isTold.cls ≠ "java/lang/invoke/MethodHandle" ∧ yX6_isTold.cls ≠ "java/lang/invoke/VarHandle" ∧ (parseMethodDescriptor yX6_isTold.desc).map (fun d => d.parameters.length) = some 0 := by decide +kernel
theorem gm_701 : Cond.code yX6_isTold cX6_isTold 1 (some .boolean) ∈ GW := gm 701 (by decide +kernel) (by decide +kernel)
theorem gm_699 : Cond.instanceMethod yX6_isTold ∈ GW := gm 699 (by decide +kernel) (by decide +kernel)
theorem gm_700 : Cond.selects "UncutTale$Story" yX6_isTold yX6_isTold ∈ GW := gm 700 (by decide +kernel) (by decide +kernel)
theorem mk_X6_isTold : MK yX6_isTold cX6_isTold 1 (some .boolean) := ⟨gm_701, gm_699, gm_700, gm_110⟩
theorem pn_X6_hasYear : plainName yX6_hasYear.cls = true := by decide +kernel
theorem gm_731 : Cond.methodLink "UncutTale" 196 yX6_hasYear ∈ GW := gm 731 (by decide +kernel) (by decide +kernel)
theorem hd_X6_hasYear : yX6_hasYear.cls ≠ "java/lang/invoke/MethodHandle" ∧ yX6_hasYear.cls ≠ "java/lang/invoke/VarHandle" ∧ (parseMethodDescriptor yX6_hasYear.desc).map (fun d => d.parameters.length) = some 1 := by decide +kernel
theorem gm_734 : Cond.code yX6_hasYear cX6_hasYear 2 (some .boolean) ∈ GW := gm 734 (by decide +kernel) (by decide +kernel)
theorem gm_732 : Cond.instanceMethod yX6_hasYear ∈ GW := gm 732 (by decide +kernel) (by decide +kernel)
theorem gm_733 : Cond.selects "UncutTale$Story" yX6_hasYear yX6_hasYear ∈ GW := gm 733 (by decide +kernel) (by decide +kernel)
theorem mk_X6_hasYear : MK yX6_hasYear cX6_hasYear 2 (some .boolean) := ⟨gm_734, gm_732, gm_733, gm_110⟩
theorem pn_X8_open : plainName yX8_open.cls = true := by decide +kernel
theorem pn_X8_when : plainName yX8_when.cls = true := by decide +kernel
theorem pn_X8_how : plainName yX8_how.cls = true := by decide +kernel
theorem pn_X8_read : plainName yX8_read.cls = true := by decide +kernel
theorem gm_186 : Cond.fieldLink "UncutTale$Story" 42 "UncutTale$Story" "years" "I" ∈ GW := gm 186 (by decide +kernel) (by decide +kernel)
theorem fk_6_42 : FK "UncutTale$Story" 42 6 10 := ⟨RX6, TX6, 18, rfl, by decide, iw_6, gm_186⟩
theorem pn_X6_hasWorkingYear : plainName yX6_hasWorkingYear.cls = true := by decide +kernel
theorem gm_827 : Cond.methodLink "UncutTale" 211 yX6_hasWorkingYear ∈ GW := gm 827 (by decide +kernel) (by decide +kernel)
theorem hd_X6_hasWorkingYear : yX6_hasWorkingYear.cls ≠ "java/lang/invoke/MethodHandle" ∧ yX6_hasWorkingYear.cls ≠ "java/lang/invoke/VarHandle" ∧ (parseMethodDescriptor yX6_hasWorkingYear.desc).map (fun d => d.parameters.length) = some 1 := by decide +kernel
theorem gm_830 : Cond.code yX6_hasWorkingYear cX6_hasWorkingYear 2 (some .boolean) ∈ GW := gm 830 (by decide +kernel) (by decide +kernel)
theorem gm_828 : Cond.instanceMethod yX6_hasWorkingYear ∈ GW := gm 828 (by decide +kernel) (by decide +kernel)
theorem gm_829 : Cond.selects "UncutTale$Story" yX6_hasWorkingYear yX6_hasWorkingYear ∈ GW := gm 829 (by decide +kernel) (by decide +kernel)
theorem mk_X6_hasWorkingYear : MK yX6_hasWorkingYear cX6_hasWorkingYear 2 (some .boolean) := ⟨gm_830, gm_828, gm_829, gm_110⟩
theorem pn_X8_reads : plainName yX8_reads.cls = true := by decide +kernel
theorem gm_698 : Cond.methodLink "UncutTale" 153 yX6_isTold ∈ GW := gm 698 (by decide +kernel) (by decide +kernel)
theorem pn_X8_all : plainName yX8_all.cls = true := by decide +kernel
theorem pn_X8_keeps : plainName yX8_keeps.cls = true := by decide +kernel
theorem pn_X8_waits : plainName yX8_waits.cls = true := by decide +kernel
theorem pn_X8_next : plainName yX8_next.cls = true := by decide +kernel
theorem pn_X8_dull : plainName yX8_dull.cls = true := by decide +kernel
theorem pn_X8_dies : plainName yX8_dies.cls = true := by decide +kernel
theorem pn_X8_ages : plainName yX8_ages.cls = true := by decide +kernel
theorem pn_X8_cut : plainName yX8_cut.cls = true := by decide +kernel
theorem pn_X8_sharp : plainName yX8_sharp.cls = true := by decide +kernel
theorem pn_X8_uncut : plainName yX8_uncut.cls = true := by decide +kernel
theorem pn_X8_done : plainName yX8_done.cls = true := by decide +kernel
theorem pn_X8_rush : plainName yX8_rush.cls = true := by decide +kernel
theorem pn_X8_with : plainName yX8_with.cls = true := by decide +kernel
theorem pn_X8_charms : plainName yX8_charms.cls = true := by decide +kernel
theorem pn_X8_best : plainName yX8_best.cls = true := by decide +kernel
theorem pn_X8_peak : plainName yX8_peak.cls = true := by decide +kernel
theorem pn_X8_first : plainName yX8_first.cls = true := by decide +kernel
theorem pn_X8_quiet : plainName yX8_quiet.cls = true := by decide +kernel
theorem pn_X8_lone : plainName yX8_lone.cls = true := by decide +kernel
theorem pn_X8_stalest : plainName yX8_stalest.cls = true := by decide +kernel
theorem pn_X8_pieces : plainName yX8_pieces.cls = true := by decide +kernel
theorem pn_X8_lost : plainName yX8_lost.cls = true := by decide +kernel
theorem pn_X8_knives : plainName yX8_knives.cls = true := by decide +kernel
theorem pn_X8_idle : plainName yX8_idle.cls = true := by decide +kernel
theorem pn_X8_few : plainName yX8_few.cls = true := by decide +kernel
theorem pn_X8_fews : plainName yX8_fews.cls = true := by decide +kernel
theorem pn_X8_worth : plainName yX8_worth.cls = true := by decide +kernel
theorem gm_986 : Cond.constant "UncutTale" 266 (-1000000) ∈ GW := gm 986 (by decide +kernel) (by decide +kernel)
theorem pn_X8_share : plainName yX8_share.cls = true := by decide +kernel
theorem pn_X8_hasPlan : plainName yX8_hasPlan.cls = true := by decide +kernel
theorem gm_1008 : Cond.methodLink "UncutTale" 274 yX8_hasPlan ∈ GW := gm 1008 (by decide +kernel) (by decide +kernel)
theorem hd_X8_hasPlan : yX8_hasPlan.cls ≠ "java/lang/invoke/MethodHandle" ∧ yX8_hasPlan.cls ≠ "java/lang/invoke/VarHandle" ∧ (parseMethodDescriptor yX8_hasPlan.desc).map (fun d => d.parameters.length) = some 1 := by decide +kernel
theorem gm_1011 : Cond.code yX8_hasPlan cX8_hasPlan 2 (some .boolean) ∈ GW := gm 1011 (by decide +kernel) (by decide +kernel)
theorem gm_1010 : Cond.instanceMethod yX8_hasPlan ∈ GW := gm 1010 (by decide +kernel) (by decide +kernel)
theorem gm_23 : Cond.selects "UncutTale" yX8_hasPlan yX8_hasPlan ∈ GW := gm 23 (by decide +kernel) (by decide +kernel)
theorem mk_X8_hasPlan : MK yX8_hasPlan cX8_hasPlan 2 (some .boolean) := ⟨gm_1011, gm_1010, gm_23, gm_108⟩
theorem pn_X8_plan : plainName yX8_plan.cls = true := by decide +kernel
theorem pn_X8_planned : plainName yX8_planned.cls = true := by decide +kernel
theorem pn_X8_plans : plainName yX8_plans.cls = true := by decide +kernel
theorem pn_X8_refuseSeenOf : plainName yX8_refuseSeenOf.cls = true := by decide +kernel
theorem gm_1048 : Cond.methodLink "UncutTale" 289 yX8_refuseSeenOf ∈ GW := gm 1048 (by decide +kernel) (by decide +kernel)
theorem hd_X8_refuseSeenOf : yX8_refuseSeenOf.cls ≠ "java/lang/invoke/MethodHandle" ∧ yX8_refuseSeenOf.cls ≠ "java/lang/invoke/VarHandle" ∧ (parseMethodDescriptor yX8_refuseSeenOf.desc).map (fun d => d.parameters.length) = some 2 := by decide +kernel
theorem gm_1051 : Cond.code yX8_refuseSeenOf cX8_refuseSeenOf 3 (some .int) ∈ GW := gm 1051 (by decide +kernel) (by decide +kernel)
theorem gm_1050 : Cond.instanceMethod yX8_refuseSeenOf ∈ GW := gm 1050 (by decide +kernel) (by decide +kernel)
theorem gm_27 : Cond.selects "UncutTale" yX8_refuseSeenOf yX8_refuseSeenOf ∈ GW := gm 27 (by decide +kernel) (by decide +kernel)
theorem mk_X8_refuseSeenOf : MK yX8_refuseSeenOf cX8_refuseSeenOf 3 (some .int) := ⟨gm_1051, gm_1050, gm_27, gm_108⟩
theorem pn_X8_stiffs : plainName yX8_stiffs.cls = true := by decide +kernel
theorem pn_X8_low : plainName yX8_low.cls = true := by decide +kernel
theorem pn_X8_high : plainName yX8_high.cls = true := by decide +kernel
theorem pn_X8_ask : plainName yX8_ask.cls = true := by decide +kernel
theorem pn_X8_leaves : plainName yX8_leaves.cls = true := by decide +kernel
theorem pn_X8_laws : plainName yX8_laws.cls = true := by decide +kernel
theorem pn_X8_by : plainName yX8_by.cls = true := by decide +kernel
theorem pn_X8_law : plainName yX8_law.cls = true := by decide +kernel
theorem pn_X8_blunt : plainName yX8_blunt.cls = true := by decide +kernel
theorem pn_X8_slit : plainName yX8_slit.cls = true := by decide +kernel
theorem gm_206 : Cond.fieldLink "UncutTale" 156 "UncutTale$Story" "parts" "I" ∈ GW := gm 206 (by decide +kernel) (by decide +kernel)
theorem fk_8_156 : FK "UncutTale" 156 6 13 := ⟨RX6, TX6, 18, rfl, by decide, iw_6, gm_206⟩
theorem pn_X8_uncle : plainName yX8_uncle.cls = true := by decide +kernel
theorem pn_X8_opens : plainName yX8_opens.cls = true := by decide +kernel
theorem pn_X8_replies : plainName yX8_replies.cls = true := by decide +kernel
theorem pn_X8_isPair : plainName yX8_isPair.cls = true := by decide +kernel
theorem gm_1180 : Cond.methodLink "UncutTale" 338 yX8_isPair ∈ GW := gm 1180 (by decide +kernel) (by decide +kernel)
theorem hd_X8_isPair : yX8_isPair.cls ≠ "java/lang/invoke/MethodHandle" ∧ yX8_isPair.cls ≠ "java/lang/invoke/VarHandle" ∧ (parseMethodDescriptor yX8_isPair.desc).map (fun d => d.parameters.length) = some 2 := by decide +kernel
theorem gm_1183 : Cond.code yX8_isPair cX8_isPair 3 (some .boolean) ∈ GW := gm 1183 (by decide +kernel) (by decide +kernel)
theorem gm_1182 : Cond.instanceMethod yX8_isPair ∈ GW := gm 1182 (by decide +kernel) (by decide +kernel)
theorem gm_36 : Cond.selects "UncutTale" yX8_isPair yX8_isPair ∈ GW := gm 36 (by decide +kernel) (by decide +kernel)
theorem mk_X8_isPair : MK yX8_isPair cX8_isPair 3 (some .boolean) := ⟨gm_1183, gm_1182, gm_36, gm_108⟩
theorem pn_X8_rests : plainName yX8_rests.cls = true := by decide +kernel
theorem pn_X8_gets : plainName yX8_gets.cls = true := by decide +kernel
theorem pn_X8_chance : plainName yX8_chance.cls = true := by decide +kernel
theorem gm_1228 : Cond.constantLong "UncutTale" 359 (-2) ∈ GW := gm 1228 (by decide +kernel) (by decide +kernel)
theorem pn_X8_mean : plainName yX8_mean.cls = true := by decide +kernel
theorem pn_X8_refuseAct : plainName yX8_refuseAct.cls = true := by decide +kernel
theorem gm_1254 : Cond.methodLink "UncutTale" 371 yX8_refuseAct ∈ GW := gm 1254 (by decide +kernel) (by decide +kernel)
theorem hd_X8_refuseAct : yX8_refuseAct.cls ≠ "java/lang/invoke/MethodHandle" ∧ yX8_refuseAct.cls ≠ "java/lang/invoke/VarHandle" ∧ (parseMethodDescriptor yX8_refuseAct.desc).map (fun d => d.parameters.length) = some 2 := by decide +kernel
theorem gm_1257 : Cond.code yX8_refuseAct cX8_refuseAct 3 (some .int) ∈ GW := gm 1257 (by decide +kernel) (by decide +kernel)
theorem gm_1256 : Cond.instanceMethod yX8_refuseAct ∈ GW := gm 1256 (by decide +kernel) (by decide +kernel)
theorem gm_42 : Cond.selects "UncutTale" yX8_refuseAct yX8_refuseAct ∈ GW := gm 42 (by decide +kernel) (by decide +kernel)
theorem mk_X8_refuseAct : MK yX8_refuseAct cX8_refuseAct 3 (some .int) := ⟨gm_1257, gm_1256, gm_42, gm_108⟩
theorem pn_X8_knife : plainName yX8_knife.cls = true := by decide +kernel
theorem pn_X8_air : plainName yX8_air.cls = true := by decide +kernel
theorem pn_X8_undo : plainName yX8_undo.cls = true := by decide +kernel
theorem pn_X8_anew : plainName yX8_anew.cls = true := by decide +kernel
theorem pn_X8_drawn : plainName yX8_drawn.cls = true := by decide +kernel
theorem pn_X8_luck : plainName yX8_luck.cls = true := by decide +kernel
theorem pn_X8_rate : plainName yX8_rate.cls = true := by decide +kernel
theorem gm_445 : Cond.fieldLink "UncutTale" 28 "UncutTale" "parser" "LUncutTale$Parser;" ∈ GW := gm 445 (by decide +kernel) (by decide +kernel)
theorem fk_8_28 : FK "UncutTale" 28 8 2 := ⟨RX8, TX8, 15, rfl, by decide, iw_8, gm_445⟩
theorem iw_3 : ∀ w ∈ u_ws RX3 TX3 8, w ∈ GW := by
  have h1 : ∀ w ∈ u_ws RX3 TX3 8, w ∈ lw_tbl ∧ goodWord w = true := by decide +kernel
  exact fun w h => List.mem_filter.mpr (h1 w h)
theorem gm_272 : Cond.fieldLink "UncutTale" 121 "UncutTale$Parser" "fault" "I" ∈ GW := gm 272 (by decide +kernel) (by decide +kernel)
theorem fk_8_121 : FK "UncutTale" 121 3 6 := ⟨RX3, TX3, 8, rfl, by decide, iw_3, gm_272⟩
theorem gm_274 : Cond.fieldLink "UncutTale" 124 "UncutTale$Parser" "faultPlace" "I" ∈ GW := gm 274 (by decide +kernel) (by decide +kernel)
theorem fk_8_124 : FK "UncutTale" 124 3 7 := ⟨RX3, TX3, 8, rfl, by decide, iw_3, gm_274⟩
theorem pn_X8_fault : plainName yX8_fault.cls = true := by decide +kernel
theorem gm_443 : Cond.fieldLink "UncutTale" 10 "UncutTale" "tape" "LUncutTale$Tape;" ∈ GW := gm 443 (by decide +kernel) (by decide +kernel)
theorem fk_8_10 : FK "UncutTale" 10 8 0 := ⟨RX8, TX8, 15, rfl, by decide, iw_8, gm_443⟩
theorem iw_7 : ∀ w ∈ u_ws RX7 TX7 2, w ∈ GW := by
  have h1 : ∀ w ∈ u_ws RX7 TX7 2, w ∈ lw_tbl ∧ goodWord w = true := by decide +kernel
  exact fun w h => List.mem_filter.mpr (h1 w h)
theorem gm_142 : Cond.fieldLink "UncutTale" 106 "UncutTale$Tape" "length" "I" ∈ GW := gm 142 (by decide +kernel) (by decide +kernel)
theorem fk_8_106 : FK "UncutTale" 106 7 1 := ⟨RX7, TX7, 2, rfl, by decide, iw_7, gm_142⟩
theorem pk_8_106 : PK "UncutTale" 106 7 1 .int := ⟨RX7, TX7, 2, tyX7, rfl, by decide, iw_7, gm_142, tyX7_ok, nmX7, rfl, by decide +kernel⟩
theorem pn_X8_end : plainName yX8_end.cls = true := by decide +kernel
theorem gm_191 : Cond.fieldLink "UncutTale" 168 "UncutTale$Story" "years" "I" ∈ GW := gm 191 (by decide +kernel) (by decide +kernel)
theorem fk_8_168 : FK "UncutTale" 168 6 10 := ⟨RX6, TX6, 18, rfl, by decide, iw_6, gm_191⟩
theorem gm_195 : Cond.fieldLink "UncutTale" 171 "UncutTale$Story" "law" "I" ∈ GW := gm 195 (by decide +kernel) (by decide +kernel)
theorem fk_8_171 : FK "UncutTale" 171 6 11 := ⟨RX6, TX6, 18, rfl, by decide, iw_6, gm_195⟩
theorem gm_199 : Cond.fieldLink "UncutTale" 174 "UncutTale$Story" "odds" "I" ∈ GW := gm 199 (by decide +kernel) (by decide +kernel)
theorem fk_8_174 : FK "UncutTale" 174 6 12 := ⟨RX6, TX6, 18, rfl, by decide, iw_6, gm_199⟩
theorem gm_209 : Cond.fieldLink "UncutTale" 176 "UncutTale$Story" "folds" "I" ∈ GW := gm 209 (by decide +kernel) (by decide +kernel)
theorem fk_8_176 : FK "UncutTale" 176 6 14 := ⟨RX6, TX6, 18, rfl, by decide, iw_6, gm_209⟩
theorem gm_214 : Cond.fieldLink "UncutTale" 162 "UncutTale$Story" "knives" "I" ∈ GW := gm 214 (by decide +kernel) (by decide +kernel)
theorem fk_8_162 : FK "UncutTale" 162 6 15 := ⟨RX6, TX6, 18, rfl, by decide, iw_6, gm_214⟩
theorem gm_217 : Cond.fieldLink "UncutTale" 179 "UncutTale$Story" "acts" "I" ∈ GW := gm 217 (by decide +kernel) (by decide +kernel)
theorem fk_8_179 : FK "UncutTale" 179 6 16 := ⟨RX6, TX6, 18, rfl, by decide, iw_6, gm_217⟩
theorem gm_220 : Cond.fieldLink "UncutTale" 118 "UncutTale$Story" "lines" "I" ∈ GW := gm 220 (by decide +kernel) (by decide +kernel)
theorem fk_8_118 : FK "UncutTale" 118 6 17 := ⟨RX6, TX6, 18, rfl, by decide, iw_6, gm_220⟩
theorem gm_449 : Cond.fieldLink "UncutTale" 46 "UncutTale" "slots" "LUncutTale$Slots;" ∈ GW := gm 449 (by decide +kernel) (by decide +kernel)
theorem fk_8_46 : FK "UncutTale" 46 8 6 := ⟨RX8, TX8, 15, rfl, by decide, iw_8, gm_449⟩
theorem iw_5 : ∀ w ∈ u_ws RX5 TX5 3, w ∈ GW := by
  have h1 : ∀ w ∈ u_ws RX5 TX5 3, w ∈ lw_tbl ∧ goodWord w = true := by decide +kernel
  exact fun w h => List.mem_filter.mpr (h1 w h)
theorem gm_299 : Cond.fieldLink "UncutTale$Slots" 9 "UncutTale$Slots" "widths" "[I" ∈ GW := gm 299 (by decide +kernel) (by decide +kernel)
theorem fk_5_9 : FK "UncutTale$Slots" 9 5 0 := ⟨RX5, TX5, 3, rfl, by decide, iw_5, gm_299⟩
theorem pn_X5_isBare : plainName yX5_isBare.cls = true := by decide +kernel
theorem gm_719 : Cond.methodLink "UncutTale$Slots" 22 yX5_isBare ∈ GW := gm 719 (by decide +kernel) (by decide +kernel)
theorem hd_X5_isBare : yX5_isBare.cls ≠ "java/lang/invoke/MethodHandle" ∧ yX5_isBare.cls ≠ "java/lang/invoke/VarHandle" ∧ (parseMethodDescriptor yX5_isBare.desc).map (fun d => d.parameters.length) = some 1 := by decide +kernel
theorem gm_722 : Cond.code yX5_isBare cX5_isBare 2 (some .boolean) ∈ GW := gm 722 (by decide +kernel) (by decide +kernel)
theorem gm_720 : Cond.instanceMethod yX5_isBare ∈ GW := gm 720 (by decide +kernel) (by decide +kernel)
theorem gm_721 : Cond.selects "UncutTale$Slots" yX5_isBare yX5_isBare ∈ GW := gm 721 (by decide +kernel) (by decide +kernel)
theorem gm_112 : Cond.initialized "UncutTale$Slots" ∈ GW := gm 112 (by decide +kernel) (by decide +kernel)
theorem mk_X5_isBare : MK yX5_isBare cX5_isBare 2 (some .boolean) := ⟨gm_722, gm_720, gm_721, gm_112⟩
theorem pn_X5_filled : plainName yX5_filled.cls = true := by decide +kernel
theorem gm_715 : Cond.methodLink "UncutTale" 182 yX5_filled ∈ GW := gm 715 (by decide +kernel) (by decide +kernel)
theorem hd_X5_filled : yX5_filled.cls ≠ "java/lang/invoke/MethodHandle" ∧ yX5_filled.cls ≠ "java/lang/invoke/VarHandle" ∧ (parseMethodDescriptor yX5_filled.desc).map (fun d => d.parameters.length) = some 0 := by decide +kernel
theorem gm_718 : Cond.code yX5_filled cX5_filled 3 (some .int) ∈ GW := gm 718 (by decide +kernel) (by decide +kernel)
theorem gm_716 : Cond.instanceMethod yX5_filled ∈ GW := gm 716 (by decide +kernel) (by decide +kernel)
theorem gm_717 : Cond.selects "UncutTale$Slots" yX5_filled yX5_filled ∈ GW := gm 717 (by decide +kernel) (by decide +kernel)
theorem mk_X5_filled : MK yX5_filled cX5_filled 3 (some .int) := ⟨gm_718, gm_716, gm_717, gm_112⟩
theorem pn_X8_count : plainName yX8_count.cls = true := by decide +kernel
theorem gm_447 : Cond.fieldLink "UncutTale" 35 "UncutTale" "images" "[LUncutTale$Story;" ∈ GW := gm 447 (by decide +kernel) (by decide +kernel)
theorem fk_8_35 : FK "UncutTale" 35 8 4 := ⟨RX8, TX8, 15, rfl, by decide, iw_8, gm_447⟩
theorem pk_6_42 : PK "UncutTale$Story" 42 6 10 .int := ⟨RX6, TX6, 18, tyX6, rfl, by decide, iw_6, gm_186, tyX6_ok, nmX6, rfl, by decide +kernel⟩
theorem gm_193 : Cond.fieldLink "UncutTale$Story" 46 "UncutTale$Story" "law" "I" ∈ GW := gm 193 (by decide +kernel) (by decide +kernel)
theorem fk_6_46 : FK "UncutTale$Story" 46 6 11 := ⟨RX6, TX6, 18, rfl, by decide, iw_6, gm_193⟩
theorem pk_6_46 : PK "UncutTale$Story" 46 6 11 .int := ⟨RX6, TX6, 18, tyX6, rfl, by decide, iw_6, gm_193, tyX6_ok, nmX6, rfl, by decide +kernel⟩
theorem gm_196 : Cond.fieldLink "UncutTale$Story" 49 "UncutTale$Story" "odds" "I" ∈ GW := gm 196 (by decide +kernel) (by decide +kernel)
theorem fk_6_49 : FK "UncutTale$Story" 49 6 12 := ⟨RX6, TX6, 18, rfl, by decide, iw_6, gm_196⟩
theorem pk_6_49 : PK "UncutTale$Story" 49 6 12 .int := ⟨RX6, TX6, 18, tyX6, rfl, by decide, iw_6, gm_196, tyX6_ok, nmX6, rfl, by decide +kernel⟩
theorem pk_6_52 : PK "UncutTale$Story" 52 6 13 .int := ⟨RX6, TX6, 18, tyX6, rfl, by decide, iw_6, gm_200, tyX6_ok, nmX6, rfl, by decide +kernel⟩
theorem gm_207 : Cond.fieldLink "UncutTale$Story" 55 "UncutTale$Story" "folds" "I" ∈ GW := gm 207 (by decide +kernel) (by decide +kernel)
theorem fk_6_55 : FK "UncutTale$Story" 55 6 14 := ⟨RX6, TX6, 18, rfl, by decide, iw_6, gm_207⟩
theorem pk_6_55 : PK "UncutTale$Story" 55 6 14 .int := ⟨RX6, TX6, 18, tyX6, rfl, by decide, iw_6, gm_207, tyX6_ok, nmX6, rfl, by decide +kernel⟩
theorem gm_210 : Cond.fieldLink "UncutTale$Story" 58 "UncutTale$Story" "knives" "I" ∈ GW := gm 210 (by decide +kernel) (by decide +kernel)
theorem fk_6_58 : FK "UncutTale$Story" 58 6 15 := ⟨RX6, TX6, 18, rfl, by decide, iw_6, gm_210⟩
theorem pk_6_58 : PK "UncutTale$Story" 58 6 15 .int := ⟨RX6, TX6, 18, tyX6, rfl, by decide, iw_6, gm_210, tyX6_ok, nmX6, rfl, by decide +kernel⟩
theorem gm_215 : Cond.fieldLink "UncutTale$Story" 61 "UncutTale$Story" "acts" "I" ∈ GW := gm 215 (by decide +kernel) (by decide +kernel)
theorem fk_6_61 : FK "UncutTale$Story" 61 6 16 := ⟨RX6, TX6, 18, rfl, by decide, iw_6, gm_215⟩
theorem pk_6_61 : PK "UncutTale$Story" 61 6 16 .int := ⟨RX6, TX6, 18, tyX6, rfl, by decide, iw_6, gm_215, tyX6_ok, nmX6, rfl, by decide +kernel⟩
theorem pk_6_64 : PK "UncutTale$Story" 64 6 17 .int := ⟨RX6, TX6, 18, tyX6, rfl, by decide, iw_6, gm_218, tyX6_ok, nmX6, rfl, by decide +kernel⟩
theorem gm_156 : Cond.fieldLink "UncutTale$Story" 9 "UncutTale$Story" "charm" "[I" ∈ GW := gm 156 (by decide +kernel) (by decide +kernel)
theorem fk_6_9 : FK "UncutTale$Story" 9 6 0 := ⟨RX6, TX6, 18, rfl, by decide, iw_6, gm_156⟩
theorem gm_654 : Cond.methodLink "UncutTale$Story" 67 ⟨"java/lang/System", "arraycopy", "(Ljava/lang/Object;ILjava/lang/Object;II)V"⟩ ∈ GW := gm 654 (by decide +kernel) (by decide +kernel)
theorem gm_656 : Cond.native ⟨"java/lang/System", "arraycopy", "(Ljava/lang/Object;ILjava/lang/Object;II)V"⟩ ∈ GW := gm 656 (by decide +kernel) (by decide +kernel)
theorem gm_655 : Cond.static ⟨"java/lang/System", "arraycopy", "(Ljava/lang/Object;ILjava/lang/Object;II)V"⟩ ∈ GW := gm 655 (by decide +kernel) (by decide +kernel)
theorem gm_123 : Cond.initialized "java/lang/System" ∈ GW := gm 123 (by decide +kernel) (by decide +kernel)
theorem gm_160 : Cond.fieldLink "UncutTale$Story" 15 "UncutTale$Story" "tires" "[I" ∈ GW := gm 160 (by decide +kernel) (by decide +kernel)
theorem fk_6_15 : FK "UncutTale$Story" 15 6 1 := ⟨RX6, TX6, 18, rfl, by decide, iw_6, gm_160⟩
theorem gm_163 : Cond.fieldLink "UncutTale$Story" 18 "UncutTale$Story" "toldStiff" "[I" ∈ GW := gm 163 (by decide +kernel) (by decide +kernel)
theorem fk_6_18 : FK "UncutTale$Story" 18 6 2 := ⟨RX6, TX6, 18, rfl, by decide, iw_6, gm_163⟩
theorem gm_167 : Cond.fieldLink "UncutTale$Story" 21 "UncutTale$Story" "foldFrom" "[I" ∈ GW := gm 167 (by decide +kernel) (by decide +kernel)
theorem fk_6_21 : FK "UncutTale$Story" 21 6 3 := ⟨RX6, TX6, 18, rfl, by decide, iw_6, gm_167⟩
theorem gm_169 : Cond.fieldLink "UncutTale$Story" 24 "UncutTale$Story" "foldTo" "[I" ∈ GW := gm 169 (by decide +kernel) (by decide +kernel)
theorem fk_6_24 : FK "UncutTale$Story" 24 6 4 := ⟨RX6, TX6, 18, rfl, by decide, iw_6, gm_169⟩
theorem gm_171 : Cond.fieldLink "UncutTale$Story" 27 "UncutTale$Story" "knifePart" "[I" ∈ GW := gm 171 (by decide +kernel) (by decide +kernel)
theorem fk_6_27 : FK "UncutTale$Story" 27 6 5 := ⟨RX6, TX6, 18, rfl, by decide, iw_6, gm_171⟩
theorem gm_174 : Cond.fieldLink "UncutTale$Story" 30 "UncutTale$Story" "knifeYear" "[I" ∈ GW := gm 174 (by decide +kernel) (by decide +kernel)
theorem fk_6_30 : FK "UncutTale$Story" 30 6 6 := ⟨RX6, TX6, 18, rfl, by decide, iw_6, gm_174⟩
theorem gm_177 : Cond.fieldLink "UncutTale$Story" 33 "UncutTale$Story" "actKind" "[I" ∈ GW := gm 177 (by decide +kernel) (by decide +kernel)
theorem fk_6_33 : FK "UncutTale$Story" 33 6 7 := ⟨RX6, TX6, 18, rfl, by decide, iw_6, gm_177⟩
theorem gm_180 : Cond.fieldLink "UncutTale$Story" 36 "UncutTale$Story" "actPart" "[I" ∈ GW := gm 180 (by decide +kernel) (by decide +kernel)
theorem fk_6_36 : FK "UncutTale$Story" 36 6 8 := ⟨RX6, TX6, 18, rfl, by decide, iw_6, gm_180⟩
theorem gm_183 : Cond.fieldLink "UncutTale$Story" 39 "UncutTale$Story" "actYear" "[I" ∈ GW := gm 183 (by decide +kernel) (by decide +kernel)
theorem fk_6_39 : FK "UncutTale$Story" 39 6 9 := ⟨RX6, TX6, 18, rfl, by decide, iw_6, gm_183⟩
theorem pn_X6_become : plainName yX6_become.cls = true := by decide +kernel
theorem gm_650 : Cond.methodLink "UncutTale" 112 yX6_become ∈ GW := gm 650 (by decide +kernel) (by decide +kernel)
theorem hd_X6_become : yX6_become.cls ≠ "java/lang/invoke/MethodHandle" ∧ yX6_become.cls ≠ "java/lang/invoke/VarHandle" ∧ (parseMethodDescriptor yX6_become.desc).map (fun d => d.parameters.length) = some 1 := by decide +kernel
theorem gm_653 : Cond.code yX6_become cX6_become 2 none ∈ GW := gm 653 (by decide +kernel) (by decide +kernel)
theorem gm_651 : Cond.instanceMethod yX6_become ∈ GW := gm 651 (by decide +kernel) (by decide +kernel)
theorem gm_652 : Cond.selects "UncutTale$Story" yX6_become yX6_become ∈ GW := gm 652 (by decide +kernel) (by decide +kernel)
theorem mk_X6_become : MK yX6_become cX6_become 2 none := ⟨gm_653, gm_651, gm_652, gm_110⟩
theorem gm_448 : Cond.fieldLink "UncutTale" 39 "UncutTale" "imaged" "[Z" ∈ GW := gm 448 (by decide +kernel) (by decide +kernel)
theorem fk_8_39 : FK "UncutTale" 39 8 5 := ⟨RX8, TX8, 15, rfl, by decide, iw_8, gm_448⟩
theorem pn_X8_image : plainName yX8_image.cls = true := by decide +kernel
theorem pn_X8_back : plainName yX8_back.cls = true := by decide +kernel
theorem pn_X5_isSlot : plainName yX5_isSlot.cls = true := by decide +kernel
theorem gm_1056 : Cond.methodLink "UncutTale" 378 yX5_isSlot ∈ GW := gm 1056 (by decide +kernel) (by decide +kernel)
theorem hd_X5_isSlot : yX5_isSlot.cls ≠ "java/lang/invoke/MethodHandle" ∧ yX5_isSlot.cls ≠ "java/lang/invoke/VarHandle" ∧ (parseMethodDescriptor yX5_isSlot.desc).map (fun d => d.parameters.length) = some 1 := by decide +kernel
theorem gm_1059 : Cond.code yX5_isSlot cX5_isSlot 2 (some .boolean) ∈ GW := gm 1059 (by decide +kernel) (by decide +kernel)
theorem gm_1057 : Cond.instanceMethod yX5_isSlot ∈ GW := gm 1057 (by decide +kernel) (by decide +kernel)
theorem gm_1058 : Cond.selects "UncutTale$Slots" yX5_isSlot yX5_isSlot ∈ GW := gm 1058 (by decide +kernel) (by decide +kernel)
theorem mk_X5_isSlot : MK yX5_isSlot cX5_isSlot 2 (some .boolean) := ⟨gm_1059, gm_1057, gm_1058, gm_112⟩
theorem gm_300 : Cond.fieldLink "UncutTale$Slots" 15 "UncutTale$Slots" "sizes" "[I" ∈ GW := gm 300 (by decide +kernel) (by decide +kernel)
theorem fk_5_15 : FK "UncutTale$Slots" 15 5 1 := ⟨RX5, TX5, 3, rfl, by decide, iw_5, gm_300⟩
theorem gm_301 : Cond.fieldLink "UncutTale$Slots" 18 "UncutTale$Slots" "numbers" "[J" ∈ GW := gm 301 (by decide +kernel) (by decide +kernel)
theorem fk_5_18 : FK "UncutTale$Slots" 18 5 2 := ⟨RX5, TX5, 3, rfl, by decide, iw_5, gm_301⟩
theorem pn_J7_rangeCheck_23922 : plainName yJ7_rangeCheck_23922.cls = true := by decide +kernel
theorem gm_1297 : Cond.methodLink "java/util/Arrays" 13 yJ7_rangeCheck_23922 ∈ GW := gm 1297 (by decide +kernel) (by decide +kernel)
theorem hd_J7_rangeCheck_23922 : yJ7_rangeCheck_23922.cls ≠ "java/lang/invoke/MethodHandle" ∧ yJ7_rangeCheck_23922.cls ≠ "java/lang/invoke/VarHandle" ∧ (parseMethodDescriptor yJ7_rangeCheck_23922.desc).map (fun d => d.parameters.length) = some 3 := by decide +kernel
theorem gm_1299 : Cond.code yJ7_rangeCheck_23922 cJ7_rangeCheck_23922 3 none ∈ GW := gm 1299 (by decide +kernel) (by decide +kernel)
theorem gm_1298 : Cond.static yJ7_rangeCheck_23922 ∈ GW := gm 1298 (by decide +kernel) (by decide +kernel)
theorem gm_124 : Cond.initialized "java/util/Arrays" ∈ GW := gm 124 (by decide +kernel) (by decide +kernel)
theorem sk_J7_rangeCheck_23922 : SK yJ7_rangeCheck_23922 cJ7_rangeCheck_23922 3 none := ⟨gm_1299, gm_1298, gm_124⟩
theorem pn_J7_fill_bad5a : plainName yJ7_fill_bad5a.cls = true := by decide +kernel
theorem gm_1294 : Cond.methodLink "UncutTale$Slots" 26 yJ7_fill_bad5a ∈ GW := gm 1294 (by decide +kernel) (by decide +kernel)
theorem hd_J7_fill_bad5a : yJ7_fill_bad5a.cls ≠ "java/lang/invoke/MethodHandle" ∧ yJ7_fill_bad5a.cls ≠ "java/lang/invoke/VarHandle" ∧ (parseMethodDescriptor yJ7_fill_bad5a.desc).map (fun d => d.parameters.length) = some 4 := by decide +kernel
theorem gm_1296 : Cond.code yJ7_fill_bad5a cJ7_fill_bad5a 6 none ∈ GW := gm 1296 (by decide +kernel) (by decide +kernel)
theorem gm_1295 : Cond.static yJ7_fill_bad5a ∈ GW := gm 1295 (by decide +kernel) (by decide +kernel)
theorem sk_J7_fill_bad5a : SK yJ7_fill_bad5a cJ7_fill_bad5a 6 none := ⟨gm_1296, gm_1295, gm_124⟩
theorem pn_X5_lay : plainName yX5_lay.cls = true := by decide +kernel
theorem gm_1290 : Cond.methodLink "UncutTale" 381 yX5_lay ∈ GW := gm 1290 (by decide +kernel) (by decide +kernel)
theorem hd_X5_lay : yX5_lay.cls ≠ "java/lang/invoke/MethodHandle" ∧ yX5_lay.cls ≠ "java/lang/invoke/VarHandle" ∧ (parseMethodDescriptor yX5_lay.desc).map (fun d => d.parameters.length) = some 3 := by decide +kernel
theorem gm_1293 : Cond.code yX5_lay cX5_lay 5 none ∈ GW := gm 1293 (by decide +kernel) (by decide +kernel)
theorem gm_1291 : Cond.instanceMethod yX5_lay ∈ GW := gm 1291 (by decide +kernel) (by decide +kernel)
theorem gm_1292 : Cond.selects "UncutTale$Slots" yX5_lay yX5_lay ∈ GW := gm 1292 (by decide +kernel) (by decide +kernel)
theorem mk_X5_lay : MK yX5_lay cX5_lay 5 none := ⟨gm_1293, gm_1291, gm_1292, gm_112⟩
theorem pn_X8_row : plainName yX8_row.cls = true := by decide +kernel
theorem gm_1060 : Cond.methodLink "UncutTale" 384 yX5_isBare ∈ GW := gm 1060 (by decide +kernel) (by decide +kernel)
theorem pn_X8_write : plainName yX8_write.cls = true := by decide +kernel
theorem pn_X8_paste : plainName yX8_paste.cls = true := by decide +kernel
theorem gm_141 : Cond.fieldLink "UncutTale$Tape" 15 "UncutTale$Tape" "length" "I" ∈ GW := gm 141 (by decide +kernel) (by decide +kernel)
theorem fk_7_15 : FK "UncutTale$Tape" 15 7 1 := ⟨RX7, TX7, 2, rfl, by decide, iw_7, gm_141⟩
theorem pn_X7_hasRoomForFive : plainName yX7_hasRoomForFive.cls = true := by decide +kernel
theorem gm_493 : Cond.methodLink "UncutTale" 98 yX7_hasRoomForFive ∈ GW := gm 493 (by decide +kernel) (by decide +kernel)
theorem hd_X7_hasRoomForFive : yX7_hasRoomForFive.cls ≠ "java/lang/invoke/MethodHandle" ∧ yX7_hasRoomForFive.cls ≠ "java/lang/invoke/VarHandle" ∧ (parseMethodDescriptor yX7_hasRoomForFive.desc).map (fun d => d.parameters.length) = some 0 := by decide +kernel
theorem gm_496 : Cond.code yX7_hasRoomForFive cX7_hasRoomForFive 1 (some .boolean) ∈ GW := gm 496 (by decide +kernel) (by decide +kernel)
theorem gm_494 : Cond.instanceMethod yX7_hasRoomForFive ∈ GW := gm 494 (by decide +kernel) (by decide +kernel)
theorem gm_495 : Cond.selects "UncutTale$Tape" yX7_hasRoomForFive yX7_hasRoomForFive ∈ GW := gm 495 (by decide +kernel) (by decide +kernel)
theorem gm_109 : Cond.initialized "UncutTale$Tape" ∈ GW := gm 109 (by decide +kernel) (by decide +kernel)
theorem mk_X7_hasRoomForFive : MK yX7_hasRoomForFive cX7_hasRoomForFive 1 (some .boolean) := ⟨gm_496, gm_494, gm_495, gm_109⟩
theorem gm_140 : Cond.fieldLink "UncutTale$Tape" 9 "UncutTale$Tape" "bytes" "[B" ∈ GW := gm 140 (by decide +kernel) (by decide +kernel)
theorem fk_7_9 : FK "UncutTale$Tape" 9 7 0 := ⟨RX7, TX7, 2, rfl, by decide, iw_7, gm_140⟩
theorem pk_7_15 : PK "UncutTale$Tape" 15 7 1 .int := ⟨RX7, TX7, 2, tyX7, rfl, by decide, iw_7, gm_141, tyX7_ok, nmX7, rfl, by decide +kernel⟩
theorem pn_X7_append : plainName yX7_append.cls = true := by decide +kernel
theorem gm_497 : Cond.methodLink "UncutTale" 102 yX7_append ∈ GW := gm 497 (by decide +kernel) (by decide +kernel)
theorem hd_X7_append : yX7_append.cls ≠ "java/lang/invoke/MethodHandle" ∧ yX7_append.cls ≠ "java/lang/invoke/VarHandle" ∧ (parseMethodDescriptor yX7_append.desc).map (fun d => d.parameters.length) = some 1 := by decide +kernel
theorem gm_500 : Cond.code yX7_append cX7_append 3 none ∈ GW := gm 500 (by decide +kernel) (by decide +kernel)
theorem gm_498 : Cond.instanceMethod yX7_append ∈ GW := gm 498 (by decide +kernel) (by decide +kernel)
theorem gm_499 : Cond.selects "UncutTale$Tape" yX7_append yX7_append ∈ GW := gm 499 (by decide +kernel) (by decide +kernel)
theorem mk_X7_append : MK yX7_append cX7_append 3 none := ⟨gm_500, gm_498, gm_499, gm_109⟩
theorem pn_X8_feed : plainName yX8_feed.cls = true := by decide +kernel
theorem gm_266 : Cond.fieldLink "UncutTale$Parser" 19 "UncutTale$Parser" "draft" "LUncutTale$Story;" ∈ GW := gm 266 (by decide +kernel) (by decide +kernel)
theorem fk_3_19 : FK "UncutTale$Parser" 19 3 1 := ⟨RX3, TX3, 8, rfl, by decide, iw_3, gm_266⟩
theorem pn_X6_clear : plainName yX6_clear.cls = true := by decide +kernel
theorem gm_513 : Cond.methodLink "UncutTale$Parser" 23 yX6_clear ∈ GW := gm 513 (by decide +kernel) (by decide +kernel)
theorem hd_X6_clear : yX6_clear.cls ≠ "java/lang/invoke/MethodHandle" ∧ yX6_clear.cls ≠ "java/lang/invoke/VarHandle" ∧ (parseMethodDescriptor yX6_clear.desc).map (fun d => d.parameters.length) = some 0 := by decide +kernel
theorem gm_516 : Cond.code yX6_clear cX6_clear 1 none ∈ GW := gm 516 (by decide +kernel) (by decide +kernel)
theorem gm_514 : Cond.instanceMethod yX6_clear ∈ GW := gm 514 (by decide +kernel) (by decide +kernel)
theorem gm_515 : Cond.selects "UncutTale$Story" yX6_clear yX6_clear ∈ GW := gm 515 (by decide +kernel) (by decide +kernel)
theorem mk_X6_clear : MK yX6_clear cX6_clear 1 none := ⟨gm_516, gm_514, gm_515, gm_110⟩
theorem gm_271 : Cond.fieldLink "UncutTale$Parser" 28 "UncutTale$Parser" "fault" "I" ∈ GW := gm 271 (by decide +kernel) (by decide +kernel)
theorem pk_3_28 : PK "UncutTale$Parser" 28 3 6 .int := ⟨RX3, TX3, 8, tyX3, rfl, by decide, iw_3, gm_271, tyX3_ok, nmX3, rfl, by decide +kernel⟩
theorem gm_273 : Cond.fieldLink "UncutTale$Parser" 9 "UncutTale$Parser" "faultPlace" "I" ∈ GW := gm 273 (by decide +kernel) (by decide +kernel)
theorem pk_3_9 : PK "UncutTale$Parser" 9 3 7 .int := ⟨RX3, TX3, 8, tyX3, rfl, by decide, iw_3, gm_273, tyX3_ok, nmX3, rfl, by decide +kernel⟩
theorem gm_269 : Cond.fieldLink "UncutTale$Parser" 31 "UncutTale$Parser" "stop" "I" ∈ GW := gm 269 (by decide +kernel) (by decide +kernel)
theorem pk_3_31 : PK "UncutTale$Parser" 31 3 4 .int := ⟨RX3, TX3, 8, tyX3, rfl, by decide, iw_3, gm_269, tyX3_ok, nmX3, rfl, by decide +kernel⟩
theorem fk_3_31 : FK "UncutTale$Parser" 31 3 4 := ⟨RX3, TX3, 8, rfl, by decide, iw_3, gm_269⟩
theorem gm_268 : Cond.fieldLink "UncutTale$Parser" 137 "UncutTale$Parser" "start" "I" ∈ GW := gm 268 (by decide +kernel) (by decide +kernel)
theorem pk_3_137 : PK "UncutTale$Parser" 137 3 3 .int := ⟨RX3, TX3, 8, tyX3, rfl, by decide, iw_3, gm_268, tyX3_ok, nmX3, rfl, by decide +kernel⟩
theorem fk_3_137 : FK "UncutTale$Parser" 137 3 3 := ⟨RX3, TX3, 8, rfl, by decide, iw_3, gm_268⟩
theorem gm_265 : Cond.fieldLink "UncutTale$Parser" 15 "UncutTale$Parser" "tape" "LUncutTale$Tape;" ∈ GW := gm 265 (by decide +kernel) (by decide +kernel)
theorem fk_3_15 : FK "UncutTale$Parser" 15 3 0 := ⟨RX3, TX3, 8, rfl, by decide, iw_3, gm_265⟩
theorem gm_143 : Cond.fieldLink "UncutTale$Parser" 140 "UncutTale$Tape" "length" "I" ∈ GW := gm 143 (by decide +kernel) (by decide +kernel)
theorem fk_3_140 : FK "UncutTale$Parser" 140 7 1 := ⟨RX7, TX7, 2, rfl, by decide, iw_7, gm_143⟩
theorem pn_X7_at : plainName yX7_at.cls = true := by decide +kernel
theorem gm_521 : Cond.methodLink "UncutTale$Parser" 145 yX7_at ∈ GW := gm 521 (by decide +kernel) (by decide +kernel)
theorem hd_X7_at : yX7_at.cls ≠ "java/lang/invoke/MethodHandle" ∧ yX7_at.cls ≠ "java/lang/invoke/VarHandle" ∧ (parseMethodDescriptor yX7_at.desc).map (fun d => d.parameters.length) = some 1 := by decide +kernel
theorem gm_524 : Cond.code yX7_at cX7_at 2 (some .int) ∈ GW := gm 524 (by decide +kernel) (by decide +kernel)
theorem gm_522 : Cond.instanceMethod yX7_at ∈ GW := gm 522 (by decide +kernel) (by decide +kernel)
theorem gm_523 : Cond.selects "UncutTale$Tape" yX7_at yX7_at ∈ GW := gm 523 (by decide +kernel) (by decide +kernel)
theorem mk_X7_at : MK yX7_at cX7_at 2 (some .int) := ⟨gm_524, gm_522, gm_523, gm_109⟩
theorem pn_X3_kindOf : plainName yX3_kindOf.cls = true := by decide +kernel
theorem gm_525 : Cond.methodLink "UncutTale$Parser" 148 yX3_kindOf ∈ GW := gm 525 (by decide +kernel) (by decide +kernel)
theorem hd_X3_kindOf : yX3_kindOf.cls ≠ "java/lang/invoke/MethodHandle" ∧ yX3_kindOf.cls ≠ "java/lang/invoke/VarHandle" ∧ (parseMethodDescriptor yX3_kindOf.desc).map (fun d => d.parameters.length) = some 1 := by decide +kernel
theorem gm_527 : Cond.code yX3_kindOf cX3_kindOf 1 (some .int) ∈ GW := gm 527 (by decide +kernel) (by decide +kernel)
theorem gm_526 : Cond.static yX3_kindOf ∈ GW := gm 526 (by decide +kernel) (by decide +kernel)
theorem gm_111 : Cond.initialized "UncutTale$Parser" ∈ GW := gm 111 (by decide +kernel) (by decide +kernel)
theorem sk_X3_kindOf : SK yX3_kindOf cX3_kindOf 1 (some .int) := ⟨gm_527, gm_526, gm_111⟩
theorem gm_267 : Cond.fieldLink "UncutTale$Parser" 37 "UncutTale$Parser" "kind" "I" ∈ GW := gm 267 (by decide +kernel) (by decide +kernel)
theorem pk_3_37 : PK "UncutTale$Parser" 37 3 2 .int := ⟨RX3, TX3, 8, tyX3, rfl, by decide, iw_3, gm_267, tyX3_ok, nmX3, rfl, by decide +kernel⟩
theorem fk_3_37 : FK "UncutTale$Parser" 37 3 2 := ⟨RX3, TX3, 8, rfl, by decide, iw_3, gm_267⟩
theorem gm_270 : Cond.fieldLink "UncutTale$Parser" 118 "UncutTale$Parser" "value" "I" ∈ GW := gm 270 (by decide +kernel) (by decide +kernel)
theorem pk_3_118 : PK "UncutTale$Parser" 118 3 5 .int := ⟨RX3, TX3, 8, tyX3, rfl, by decide, iw_3, gm_270, tyX3_ok, nmX3, rfl, by decide +kernel⟩
theorem pn_X3_advance : plainName yX3_advance.cls = true := by decide +kernel
theorem gm_517 : Cond.methodLink "UncutTale$Parser" 34 yX3_advance ∈ GW := gm 517 (by decide +kernel) (by decide +kernel)
theorem hd_X3_advance : yX3_advance.cls ≠ "java/lang/invoke/MethodHandle" ∧ yX3_advance.cls ≠ "java/lang/invoke/VarHandle" ∧ (parseMethodDescriptor yX3_advance.desc).map (fun d => d.parameters.length) = some 0 := by decide +kernel
theorem gm_520 : Cond.code yX3_advance cX3_advance 3 none ∈ GW := gm 520 (by decide +kernel) (by decide +kernel)
theorem gm_519 : Cond.instanceMethod yX3_advance ∈ GW := gm 519 (by decide +kernel) (by decide +kernel)
theorem gm_0 : Cond.selects "UncutTale$Parser" yX3_advance yX3_advance ∈ GW := gm 0 (by decide +kernel) (by decide +kernel)
theorem mk_X3_advance : MK yX3_advance cX3_advance 3 none := ⟨gm_520, gm_519, gm_0, gm_111⟩
theorem pn_X3_parse : plainName yX3_parse.cls = true := by decide +kernel
theorem gm_509 : Cond.methodLink "UncutTale" 109 yX3_parse ∈ GW := gm 509 (by decide +kernel) (by decide +kernel)
theorem hd_X3_parse : yX3_parse.cls ≠ "java/lang/invoke/MethodHandle" ∧ yX3_parse.cls ≠ "java/lang/invoke/VarHandle" ∧ (parseMethodDescriptor yX3_parse.desc).map (fun d => d.parameters.length) = some 0 := by decide +kernel
theorem gm_512 : Cond.code yX3_parse cX3_parse 2 (some .boolean) ∈ GW := gm 512 (by decide +kernel) (by decide +kernel)
theorem gm_510 : Cond.instanceMethod yX3_parse ∈ GW := gm 510 (by decide +kernel) (by decide +kernel)
theorem gm_511 : Cond.selects "UncutTale$Parser" yX3_parse yX3_parse ∈ GW := gm 511 (by decide +kernel) (by decide +kernel)
theorem mk_X3_parse : MK yX3_parse cX3_parse 2 (some .boolean) := ⟨gm_512, gm_510, gm_511, gm_111⟩
theorem gm_444 : Cond.fieldLink "UncutTale" 19 "UncutTale" "draft" "LUncutTale$Story;" ∈ GW := gm 444 (by decide +kernel) (by decide +kernel)
theorem fk_8_19 : FK "UncutTale" 19 8 1 := ⟨RX8, TX8, 15, rfl, by decide, iw_8, gm_444⟩
theorem gm_455 : Cond.fieldLink "UncutTale" 87 "UncutTale" "nowIsStale" "Z" ∈ GW := gm 455 (by decide +kernel) (by decide +kernel)
theorem pk_8_87 : PK "UncutTale" 87 8 12 .boolean := ⟨RX8, TX8, 15, tyX8, rfl, by decide, iw_8, gm_455, tyX8_ok, nmX8, rfl, by decide +kernel⟩
theorem gm_456 : Cond.fieldLink "UncutTale" 91 "UncutTale" "oddsAreStale" "Z" ∈ GW := gm 456 (by decide +kernel) (by decide +kernel)
theorem pk_8_91 : PK "UncutTale" 91 8 13 .boolean := ⟨RX8, TX8, 15, tyX8, rfl, by decide, iw_8, gm_456, tyX8_ok, nmX8, rfl, by decide +kernel⟩
theorem gm_457 : Cond.fieldLink "UncutTale" 94 "UncutTale" "plannedYears" "I" ∈ GW := gm 457 (by decide +kernel) (by decide +kernel)
theorem pk_8_94 : PK "UncutTale" 94 8 14 .int := ⟨RX8, TX8, 15, tyX8, rfl, by decide, iw_8, gm_457, tyX8_ok, nmX8, rfl, by decide +kernel⟩
theorem pn_X8_forgetAnswers : plainName yX8_forgetAnswers.cls = true := by decide +kernel
theorem gm_657 : Cond.methodLink "UncutTale" 115 yX8_forgetAnswers ∈ GW := gm 657 (by decide +kernel) (by decide +kernel)
theorem hd_X8_forgetAnswers : yX8_forgetAnswers.cls ≠ "java/lang/invoke/MethodHandle" ∧ yX8_forgetAnswers.cls ≠ "java/lang/invoke/VarHandle" ∧ (parseMethodDescriptor yX8_forgetAnswers.desc).map (fun d => d.parameters.length) = some 0 := by decide +kernel
theorem gm_660 : Cond.code yX8_forgetAnswers cX8_forgetAnswers 1 none ∈ GW := gm 660 (by decide +kernel) (by decide +kernel)
theorem gm_659 : Cond.instanceMethod yX8_forgetAnswers ∈ GW := gm 659 (by decide +kernel) (by decide +kernel)
theorem gm_12 : Cond.selects "UncutTale" yX8_forgetAnswers yX8_forgetAnswers ∈ GW := gm 12 (by decide +kernel) (by decide +kernel)
theorem mk_X8_forgetAnswers : MK yX8_forgetAnswers cX8_forgetAnswers 1 none := ⟨gm_660, gm_659, gm_12, gm_108⟩
theorem pn_X8_tale : plainName yX8_tale.cls = true := by decide +kernel
end
section
theorem dJ7_fill_bad5a_0 : decode cJ7_fill_bad5a 0 = .ok (.aload_n 0, 1) := by decide +kernel
theorem dJ7_fill_bad5a_1 : decode cJ7_fill_bad5a 1 = .ok (.arraylength, 1) := by decide +kernel
theorem dJ7_fill_bad5a_2 : decode cJ7_fill_bad5a 2 = .ok (.iload_n 1, 1) := by decide +kernel
theorem dJ7_fill_bad5a_3 : decode cJ7_fill_bad5a 3 = .ok (.iload_n 2, 1) := by decide +kernel
theorem dJ7_fill_bad5a_4 : decode cJ7_fill_bad5a 4 = .ok (.invokestatic 13, 3) := by decide +kernel
theorem dJ7_fill_bad5a_7 : decode cJ7_fill_bad5a 7 = .ok (.iload_n 1, 1) := by decide +kernel
theorem dJ7_fill_bad5a_8 : decode cJ7_fill_bad5a 8 = .ok (.istore 5, 2) := by decide +kernel
theorem dJ7_fill_bad5a_10 : decode cJ7_fill_bad5a 10 = .ok (.iload 5, 2) := by decide +kernel
theorem dJ7_fill_bad5a_12 : decode cJ7_fill_bad5a 12 = .ok (.iload_n 2, 1) := by decide +kernel
theorem dJ7_fill_bad5a_13 : decode cJ7_fill_bad5a 13 = .ok (.if_icmp .ge 14, 3) := by decide +kernel
theorem dJ7_fill_bad5a_16 : decode cJ7_fill_bad5a 16 = .ok (.aload_n 0, 1) := by decide +kernel
theorem dJ7_fill_bad5a_17 : decode cJ7_fill_bad5a 17 = .ok (.iload 5, 2) := by decide +kernel
theorem dJ7_fill_bad5a_19 : decode cJ7_fill_bad5a 19 = .ok (.lload_n 3, 1) := by decide +kernel
theorem dJ7_fill_bad5a_20 : decode cJ7_fill_bad5a 20 = .ok (.lastore, 1) := by decide +kernel
theorem dJ7_fill_bad5a_21 : decode cJ7_fill_bad5a 21 = .ok (.iinc 5 1, 3) := by decide +kernel
theorem dJ7_fill_bad5a_24 : decode cJ7_fill_bad5a 24 = .ok (.goto (-14), 3) := by decide +kernel
theorem dJ7_fill_bad5a_27 : decode cJ7_fill_bad5a 27 = .ok (.return_, 1) := by decide +kernel

theorem dJ7_rangeCheck_23922_0 : decode cJ7_rangeCheck_23922 0 = .ok (.iload_n 1, 1) := by decide +kernel
theorem dJ7_rangeCheck_23922_1 : decode cJ7_rangeCheck_23922 1 = .ok (.iload_n 2, 1) := by decide +kernel
theorem dJ7_rangeCheck_23922_2 : decode cJ7_rangeCheck_23922 2 = .ok (.if_icmp .le 44, 3) := by decide +kernel
theorem dJ7_rangeCheck_23922_5 : decode cJ7_rangeCheck_23922 5 = .ok (.new 43, 3) := by decide +kernel
theorem dJ7_rangeCheck_23922_8 : decode cJ7_rangeCheck_23922 8 = .ok (.dup, 1) := by decide +kernel
theorem dJ7_rangeCheck_23922_9 : decode cJ7_rangeCheck_23922 9 = .ok (.new 45, 3) := by decide +kernel
theorem dJ7_rangeCheck_23922_12 : decode cJ7_rangeCheck_23922 12 = .ok (.dup, 1) := by decide +kernel
theorem dJ7_rangeCheck_23922_13 : decode cJ7_rangeCheck_23922 13 = .ok (.invokespecial 47, 3) := by decide +kernel
theorem dJ7_rangeCheck_23922_16 : decode cJ7_rangeCheck_23922 16 = .ok (.ldc 48, 2) := by decide +kernel
theorem dJ7_rangeCheck_23922_18 : decode cJ7_rangeCheck_23922 18 = .ok (.invokevirtual 50, 3) := by decide +kernel
theorem dJ7_rangeCheck_23922_21 : decode cJ7_rangeCheck_23922 21 = .ok (.iload_n 1, 1) := by decide +kernel
theorem dJ7_rangeCheck_23922_22 : decode cJ7_rangeCheck_23922 22 = .ok (.invokevirtual 54, 3) := by decide +kernel
theorem dJ7_rangeCheck_23922_25 : decode cJ7_rangeCheck_23922 25 = .ok (.ldc 57, 2) := by decide +kernel
theorem dJ7_rangeCheck_23922_27 : decode cJ7_rangeCheck_23922 27 = .ok (.invokevirtual 50, 3) := by decide +kernel
theorem dJ7_rangeCheck_23922_30 : decode cJ7_rangeCheck_23922 30 = .ok (.iload_n 2, 1) := by decide +kernel
theorem dJ7_rangeCheck_23922_31 : decode cJ7_rangeCheck_23922 31 = .ok (.invokevirtual 54, 3) := by decide +kernel
theorem dJ7_rangeCheck_23922_34 : decode cJ7_rangeCheck_23922 34 = .ok (.ldc 59, 2) := by decide +kernel
theorem dJ7_rangeCheck_23922_36 : decode cJ7_rangeCheck_23922 36 = .ok (.invokevirtual 50, 3) := by decide +kernel
theorem dJ7_rangeCheck_23922_39 : decode cJ7_rangeCheck_23922 39 = .ok (.invokevirtual 61, 3) := by decide +kernel
theorem dJ7_rangeCheck_23922_42 : decode cJ7_rangeCheck_23922 42 = .ok (.invokespecial 65, 3) := by decide +kernel
theorem dJ7_rangeCheck_23922_45 : decode cJ7_rangeCheck_23922 45 = .ok (.athrow, 1) := by decide +kernel
theorem dJ7_rangeCheck_23922_46 : decode cJ7_rangeCheck_23922 46 = .ok (.iload_n 1, 1) := by decide +kernel
theorem dJ7_rangeCheck_23922_47 : decode cJ7_rangeCheck_23922 47 = .ok (.ifCond .ge 12, 3) := by decide +kernel
theorem dJ7_rangeCheck_23922_50 : decode cJ7_rangeCheck_23922 50 = .ok (.new 68, 3) := by decide +kernel
theorem dJ7_rangeCheck_23922_53 : decode cJ7_rangeCheck_23922 53 = .ok (.dup, 1) := by decide +kernel
theorem dJ7_rangeCheck_23922_54 : decode cJ7_rangeCheck_23922 54 = .ok (.iload_n 1, 1) := by decide +kernel
theorem dJ7_rangeCheck_23922_55 : decode cJ7_rangeCheck_23922 55 = .ok (.invokespecial 70, 3) := by decide +kernel
theorem dJ7_rangeCheck_23922_58 : decode cJ7_rangeCheck_23922 58 = .ok (.athrow, 1) := by decide +kernel
theorem dJ7_rangeCheck_23922_59 : decode cJ7_rangeCheck_23922 59 = .ok (.iload_n 2, 1) := by decide +kernel
theorem dJ7_rangeCheck_23922_60 : decode cJ7_rangeCheck_23922 60 = .ok (.iload_n 0, 1) := by decide +kernel
theorem dJ7_rangeCheck_23922_61 : decode cJ7_rangeCheck_23922 61 = .ok (.if_icmp .le 12, 3) := by decide +kernel
theorem dJ7_rangeCheck_23922_64 : decode cJ7_rangeCheck_23922 64 = .ok (.new 68, 3) := by decide +kernel
theorem dJ7_rangeCheck_23922_67 : decode cJ7_rangeCheck_23922 67 = .ok (.dup, 1) := by decide +kernel
theorem dJ7_rangeCheck_23922_68 : decode cJ7_rangeCheck_23922 68 = .ok (.iload_n 2, 1) := by decide +kernel
theorem dJ7_rangeCheck_23922_69 : decode cJ7_rangeCheck_23922 69 = .ok (.invokespecial 70, 3) := by decide +kernel
theorem dJ7_rangeCheck_23922_72 : decode cJ7_rangeCheck_23922 72 = .ok (.athrow, 1) := by decide +kernel
theorem dJ7_rangeCheck_23922_73 : decode cJ7_rangeCheck_23922 73 = .ok (.return_, 1) := by decide +kernel

theorem dX3_advance_0 : decode cX3_advance 0 = .ok (.aload_n 0, 1) := by decide +kernel
theorem dX3_advance_1 : decode cX3_advance 1 = .ok (.aload_n 0, 1) := by decide +kernel
theorem dX3_advance_2 : decode cX3_advance 2 = .ok (.getfield 31, 3) := by decide +kernel
theorem dX3_advance_5 : decode cX3_advance 5 = .ok (.putfield 137, 3) := by decide +kernel
theorem dX3_advance_8 : decode cX3_advance 8 = .ok (.aload_n 0, 1) := by decide +kernel
theorem dX3_advance_9 : decode cX3_advance 9 = .ok (.getfield 137, 3) := by decide +kernel
theorem dX3_advance_12 : decode cX3_advance 12 = .ok (.aload_n 0, 1) := by decide +kernel
theorem dX3_advance_13 : decode cX3_advance 13 = .ok (.getfield 15, 3) := by decide +kernel
theorem dX3_advance_16 : decode cX3_advance 16 = .ok (.getfield 140, 3) := by decide +kernel
theorem dX3_advance_19 : decode cX3_advance 19 = .ok (.if_icmp .ge 48, 3) := by decide +kernel
theorem dX3_advance_22 : decode cX3_advance 22 = .ok (.aload_n 0, 1) := by decide +kernel
theorem dX3_advance_23 : decode cX3_advance 23 = .ok (.getfield 15, 3) := by decide +kernel
theorem dX3_advance_26 : decode cX3_advance 26 = .ok (.aload_n 0, 1) := by decide +kernel
theorem dX3_advance_27 : decode cX3_advance 27 = .ok (.getfield 137, 3) := by decide +kernel
theorem dX3_advance_30 : decode cX3_advance 30 = .ok (.invokevirtual 145, 3) := by decide +kernel
theorem dX3_advance_33 : decode cX3_advance 33 = .ok (.bipush 32, 2) := by decide +kernel
theorem dX3_advance_35 : decode cX3_advance 35 = .ok (.if_icmp .eq 19, 3) := by decide +kernel
theorem dX3_advance_38 : decode cX3_advance 38 = .ok (.aload_n 0, 1) := by decide +kernel
theorem dX3_advance_39 : decode cX3_advance 39 = .ok (.getfield 15, 3) := by decide +kernel
theorem dX3_advance_42 : decode cX3_advance 42 = .ok (.aload_n 0, 1) := by decide +kernel
theorem dX3_advance_43 : decode cX3_advance 43 = .ok (.getfield 137, 3) := by decide +kernel
theorem dX3_advance_46 : decode cX3_advance 46 = .ok (.invokevirtual 145, 3) := by decide +kernel
theorem dX3_advance_49 : decode cX3_advance 49 = .ok (.bipush 10, 2) := by decide +kernel
theorem dX3_advance_51 : decode cX3_advance 51 = .ok (.if_icmp .ne 16, 3) := by decide +kernel
theorem dX3_advance_54 : decode cX3_advance 54 = .ok (.aload_n 0, 1) := by decide +kernel
theorem dX3_advance_55 : decode cX3_advance 55 = .ok (.dup, 1) := by decide +kernel
theorem dX3_advance_56 : decode cX3_advance 56 = .ok (.getfield 137, 3) := by decide +kernel
theorem dX3_advance_59 : decode cX3_advance 59 = .ok (.iconst 1, 1) := by decide +kernel
theorem dX3_advance_60 : decode cX3_advance 60 = .ok (.iadd, 1) := by decide +kernel
theorem dX3_advance_61 : decode cX3_advance 61 = .ok (.putfield 137, 3) := by decide +kernel
theorem dX3_advance_64 : decode cX3_advance 64 = .ok (.goto (-56), 3) := by decide +kernel
theorem dX3_advance_67 : decode cX3_advance 67 = .ok (.aload_n 0, 1) := by decide +kernel
theorem dX3_advance_68 : decode cX3_advance 68 = .ok (.aload_n 0, 1) := by decide +kernel
theorem dX3_advance_69 : decode cX3_advance 69 = .ok (.getfield 15, 3) := by decide +kernel
theorem dX3_advance_72 : decode cX3_advance 72 = .ok (.aload_n 0, 1) := by decide +kernel
theorem dX3_advance_73 : decode cX3_advance 73 = .ok (.getfield 137, 3) := by decide +kernel
theorem dX3_advance_76 : decode cX3_advance 76 = .ok (.invokevirtual 145, 3) := by decide +kernel
theorem dX3_advance_79 : decode cX3_advance 79 = .ok (.invokestatic 148, 3) := by decide +kernel
theorem dX3_advance_82 : decode cX3_advance 82 = .ok (.putfield 37, 3) := by decide +kernel
theorem dX3_advance_85 : decode cX3_advance 85 = .ok (.aload_n 0, 1) := by decide +kernel
theorem dX3_advance_86 : decode cX3_advance 86 = .ok (.aload_n 0, 1) := by decide +kernel
theorem dX3_advance_87 : decode cX3_advance 87 = .ok (.getfield 37, 3) := by decide +kernel
theorem dX3_advance_90 : decode cX3_advance 90 = .ok (.ifCond .ne 10, 3) := by decide +kernel
theorem dX3_advance_93 : decode cX3_advance 93 = .ok (.aload_n 0, 1) := by decide +kernel
theorem dX3_advance_94 : decode cX3_advance 94 = .ok (.getfield 137, 3) := by decide +kernel
theorem dX3_advance_97 : decode cX3_advance 97 = .ok (.goto 9, 3) := by decide +kernel
theorem dX3_advance_100 : decode cX3_advance 100 = .ok (.aload_n 0, 1) := by decide +kernel
theorem dX3_advance_101 : decode cX3_advance 101 = .ok (.getfield 137, 3) := by decide +kernel
theorem dX3_advance_104 : decode cX3_advance 104 = .ok (.iconst 1, 1) := by decide +kernel
theorem dX3_advance_105 : decode cX3_advance 105 = .ok (.iadd, 1) := by decide +kernel
theorem dX3_advance_106 : decode cX3_advance 106 = .ok (.putfield 31, 3) := by decide +kernel
theorem dX3_advance_109 : decode cX3_advance 109 = .ok (.aload_n 0, 1) := by decide +kernel
theorem dX3_advance_110 : decode cX3_advance 110 = .ok (.getfield 37, 3) := by decide +kernel
theorem dX3_advance_113 : decode cX3_advance 113 = .ok (.iconst 1, 1) := by decide +kernel
theorem dX3_advance_114 : decode cX3_advance 114 = .ok (.if_icmp .eq 11, 3) := by decide +kernel
theorem dX3_advance_117 : decode cX3_advance 117 = .ok (.aload_n 0, 1) := by decide +kernel
theorem dX3_advance_118 : decode cX3_advance 118 = .ok (.getfield 37, 3) := by decide +kernel
theorem dX3_advance_121 : decode cX3_advance 121 = .ok (.iconst 2, 1) := by decide +kernel
theorem dX3_advance_122 : decode cX3_advance 122 = .ok (.if_icmp .ne 7, 3) := by decide +kernel
theorem dX3_advance_125 : decode cX3_advance 125 = .ok (.iconst 1, 1) := by decide +kernel
theorem dX3_advance_126 : decode cX3_advance 126 = .ok (.goto 4, 3) := by decide +kernel
theorem dX3_advance_129 : decode cX3_advance 129 = .ok (.iconst 0, 1) := by decide +kernel
theorem dX3_advance_130 : decode cX3_advance 130 = .ok (.istore_n 1, 1) := by decide +kernel
theorem dX3_advance_131 : decode cX3_advance 131 = .ok (.iload_n 1, 1) := by decide +kernel
theorem dX3_advance_132 : decode cX3_advance 132 = .ok (.ifCond .eq 51, 3) := by decide +kernel
theorem dX3_advance_135 : decode cX3_advance 135 = .ok (.aload_n 0, 1) := by decide +kernel
theorem dX3_advance_136 : decode cX3_advance 136 = .ok (.getfield 31, 3) := by decide +kernel
theorem dX3_advance_139 : decode cX3_advance 139 = .ok (.aload_n 0, 1) := by decide +kernel
theorem dX3_advance_140 : decode cX3_advance 140 = .ok (.getfield 15, 3) := by decide +kernel
theorem dX3_advance_143 : decode cX3_advance 143 = .ok (.getfield 140, 3) := by decide +kernel
theorem dX3_advance_146 : decode cX3_advance 146 = .ok (.if_icmp .ge 37, 3) := by decide +kernel
theorem dX3_advance_149 : decode cX3_advance 149 = .ok (.aload_n 0, 1) := by decide +kernel
theorem dX3_advance_150 : decode cX3_advance 150 = .ok (.getfield 15, 3) := by decide +kernel
theorem dX3_advance_153 : decode cX3_advance 153 = .ok (.aload_n 0, 1) := by decide +kernel
theorem dX3_advance_154 : decode cX3_advance 154 = .ok (.getfield 31, 3) := by decide +kernel
theorem dX3_advance_157 : decode cX3_advance 157 = .ok (.invokevirtual 145, 3) := by decide +kernel
theorem dX3_advance_160 : decode cX3_advance 160 = .ok (.invokestatic 148, 3) := by decide +kernel
theorem dX3_advance_163 : decode cX3_advance 163 = .ok (.aload_n 0, 1) := by decide +kernel
theorem dX3_advance_164 : decode cX3_advance 164 = .ok (.getfield 37, 3) := by decide +kernel
theorem dX3_advance_167 : decode cX3_advance 167 = .ok (.if_icmp .ne 16, 3) := by decide +kernel
theorem dX3_advance_170 : decode cX3_advance 170 = .ok (.aload_n 0, 1) := by decide +kernel
theorem dX3_advance_171 : decode cX3_advance 171 = .ok (.dup, 1) := by decide +kernel
theorem dX3_advance_172 : decode cX3_advance 172 = .ok (.getfield 31, 3) := by decide +kernel
theorem dX3_advance_175 : decode cX3_advance 175 = .ok (.iconst 1, 1) := by decide +kernel
theorem dX3_advance_176 : decode cX3_advance 176 = .ok (.iadd, 1) := by decide +kernel
theorem dX3_advance_177 : decode cX3_advance 177 = .ok (.putfield 31, 3) := by decide +kernel
theorem dX3_advance_180 : decode cX3_advance 180 = .ok (.goto (-49), 3) := by decide +kernel
theorem dX3_advance_183 : decode cX3_advance 183 = .ok (.aload_n 0, 1) := by decide +kernel
theorem dX3_advance_184 : decode cX3_advance 184 = .ok (.iconst 0, 1) := by decide +kernel
theorem dX3_advance_185 : decode cX3_advance 185 = .ok (.putfield 118, 3) := by decide +kernel
theorem dX3_advance_188 : decode cX3_advance 188 = .ok (.aload_n 0, 1) := by decide +kernel
theorem dX3_advance_189 : decode cX3_advance 189 = .ok (.getfield 137, 3) := by decide +kernel
theorem dX3_advance_192 : decode cX3_advance 192 = .ok (.istore_n 2, 1) := by decide +kernel
theorem dX3_advance_193 : decode cX3_advance 193 = .ok (.aload_n 0, 1) := by decide +kernel
theorem dX3_advance_194 : decode cX3_advance 194 = .ok (.getfield 37, 3) := by decide +kernel
theorem dX3_advance_197 : decode cX3_advance 197 = .ok (.iconst 2, 1) := by decide +kernel
theorem dX3_advance_198 : decode cX3_advance 198 = .ok (.if_icmp .ne 46, 3) := by decide +kernel
theorem dX3_advance_201 : decode cX3_advance 201 = .ok (.iload_n 2, 1) := by decide +kernel
theorem dX3_advance_202 : decode cX3_advance 202 = .ok (.aload_n 0, 1) := by decide +kernel
theorem dX3_advance_203 : decode cX3_advance 203 = .ok (.getfield 31, 3) := by decide +kernel
theorem dX3_advance_206 : decode cX3_advance 206 = .ok (.if_icmp .ge 38, 3) := by decide +kernel
theorem dX3_advance_209 : decode cX3_advance 209 = .ok (.aload_n 0, 1) := by decide +kernel
theorem dX3_advance_210 : decode cX3_advance 210 = .ok (.sipush 1000, 3) := by decide +kernel
theorem dX3_advance_213 : decode cX3_advance 213 = .ok (.aload_n 0, 1) := by decide +kernel
theorem dX3_advance_214 : decode cX3_advance 214 = .ok (.getfield 118, 3) := by decide +kernel
theorem dX3_advance_217 : decode cX3_advance 217 = .ok (.bipush 10, 2) := by decide +kernel
theorem dX3_advance_219 : decode cX3_advance 219 = .ok (.imul, 1) := by decide +kernel
theorem dX3_advance_220 : decode cX3_advance 220 = .ok (.aload_n 0, 1) := by decide +kernel
theorem dX3_advance_221 : decode cX3_advance 221 = .ok (.getfield 15, 3) := by decide +kernel
theorem dX3_advance_224 : decode cX3_advance 224 = .ok (.iload_n 2, 1) := by decide +kernel
theorem dX3_advance_225 : decode cX3_advance 225 = .ok (.invokevirtual 145, 3) := by decide +kernel
theorem dX3_advance_228 : decode cX3_advance 228 = .ok (.iadd, 1) := by decide +kernel
theorem dX3_advance_229 : decode cX3_advance 229 = .ok (.bipush 48, 2) := by decide +kernel
theorem dX3_advance_231 : decode cX3_advance 231 = .ok (.isub, 1) := by decide +kernel
theorem dX3_advance_232 : decode cX3_advance 232 = .ok (.invokestatic 151, 3) := by decide +kernel
theorem dX3_advance_235 : decode cX3_advance 235 = .ok (.putfield 118, 3) := by decide +kernel
theorem dX3_advance_238 : decode cX3_advance 238 = .ok (.iinc 2 1, 3) := by decide +kernel
theorem dX3_advance_241 : decode cX3_advance 241 = .ok (.goto (-48), 3) := by decide +kernel
theorem dX3_advance_244 : decode cX3_advance 244 = .ok (.return_, 1) := by decide +kernel

theorem dX3_kindOf_0 : decode cX3_kindOf 0 = .ok (.iload_n 0, 1) := by decide +kernel
theorem dX3_kindOf_1 : decode cX3_kindOf 1 = .ok (.bipush 97, 2) := by decide +kernel
theorem dX3_kindOf_3 : decode cX3_kindOf 3 = .ok (.if_icmp .lt 11, 3) := by decide +kernel
theorem dX3_kindOf_6 : decode cX3_kindOf 6 = .ok (.iload_n 0, 1) := by decide +kernel
theorem dX3_kindOf_7 : decode cX3_kindOf 7 = .ok (.bipush 122, 2) := by decide +kernel
theorem dX3_kindOf_9 : decode cX3_kindOf 9 = .ok (.if_icmp .gt 5, 3) := by decide +kernel
theorem dX3_kindOf_12 : decode cX3_kindOf 12 = .ok (.iconst 1, 1) := by decide +kernel
theorem dX3_kindOf_13 : decode cX3_kindOf 13 = .ok (.ireturn, 1) := by decide +kernel
theorem dX3_kindOf_14 : decode cX3_kindOf 14 = .ok (.iload_n 0, 1) := by decide +kernel
theorem dX3_kindOf_15 : decode cX3_kindOf 15 = .ok (.bipush 48, 2) := by decide +kernel
theorem dX3_kindOf_17 : decode cX3_kindOf 17 = .ok (.if_icmp .lt 11, 3) := by decide +kernel
theorem dX3_kindOf_20 : decode cX3_kindOf 20 = .ok (.iload_n 0, 1) := by decide +kernel
theorem dX3_kindOf_21 : decode cX3_kindOf 21 = .ok (.bipush 57, 2) := by decide +kernel
theorem dX3_kindOf_23 : decode cX3_kindOf 23 = .ok (.if_icmp .gt 5, 3) := by decide +kernel
theorem dX3_kindOf_26 : decode cX3_kindOf 26 = .ok (.iconst 2, 1) := by decide +kernel
theorem dX3_kindOf_27 : decode cX3_kindOf 27 = .ok (.ireturn, 1) := by decide +kernel
theorem dX3_kindOf_28 : decode cX3_kindOf 28 = .ok (.iload_n 0, 1) := by decide +kernel
theorem dX3_kindOf_29 : decode cX3_kindOf 29 = .ok (.bipush 59, 2) := by decide +kernel
theorem dX3_kindOf_31 : decode cX3_kindOf 31 = .ok (.if_icmp .ne 5, 3) := by decide +kernel
theorem dX3_kindOf_34 : decode cX3_kindOf 34 = .ok (.iconst 3, 1) := by decide +kernel
theorem dX3_kindOf_35 : decode cX3_kindOf 35 = .ok (.ireturn, 1) := by decide +kernel
theorem dX3_kindOf_36 : decode cX3_kindOf 36 = .ok (.iload_n 0, 1) := by decide +kernel
theorem dX3_kindOf_37 : decode cX3_kindOf 37 = .ok (.iconst (-1), 1) := by decide +kernel
theorem dX3_kindOf_38 : decode cX3_kindOf 38 = .ok (.if_icmp .ne 7, 3) := by decide +kernel
theorem dX3_kindOf_41 : decode cX3_kindOf 41 = .ok (.iconst 0, 1) := by decide +kernel
theorem dX3_kindOf_42 : decode cX3_kindOf 42 = .ok (.goto 4, 3) := by decide +kernel
theorem dX3_kindOf_45 : decode cX3_kindOf 45 = .ok (.iconst 4, 1) := by decide +kernel
theorem dX3_kindOf_46 : decode cX3_kindOf 46 = .ok (.ireturn, 1) := by decide +kernel

theorem dX3_parse_0 : decode cX3_parse 0 = .ok (.aload_n 0, 1) := by decide +kernel
theorem dX3_parse_1 : decode cX3_parse 1 = .ok (.getfield 19, 3) := by decide +kernel
theorem dX3_parse_4 : decode cX3_parse 4 = .ok (.invokevirtual 23, 3) := by decide +kernel
theorem dX3_parse_7 : decode cX3_parse 7 = .ok (.aload_n 0, 1) := by decide +kernel
theorem dX3_parse_8 : decode cX3_parse 8 = .ok (.iconst 0, 1) := by decide +kernel
theorem dX3_parse_9 : decode cX3_parse 9 = .ok (.putfield 28, 3) := by decide +kernel
theorem dX3_parse_12 : decode cX3_parse 12 = .ok (.aload_n 0, 1) := by decide +kernel
theorem dX3_parse_13 : decode cX3_parse 13 = .ok (.iconst (-1), 1) := by decide +kernel
theorem dX3_parse_14 : decode cX3_parse 14 = .ok (.putfield 9, 3) := by decide +kernel
theorem dX3_parse_17 : decode cX3_parse 17 = .ok (.aload_n 0, 1) := by decide +kernel
theorem dX3_parse_18 : decode cX3_parse 18 = .ok (.iconst 0, 1) := by decide +kernel
theorem dX3_parse_19 : decode cX3_parse 19 = .ok (.putfield 31, 3) := by decide +kernel
theorem dX3_parse_22 : decode cX3_parse 22 = .ok (.aload_n 0, 1) := by decide +kernel
theorem dX3_parse_23 : decode cX3_parse 23 = .ok (.invokevirtual 34, 3) := by decide +kernel
theorem dX3_parse_26 : decode cX3_parse 26 = .ok (.iconst 0, 1) := by decide +kernel
theorem dX3_parse_27 : decode cX3_parse 27 = .ok (.istore_n 1, 1) := by decide +kernel
theorem dX3_parse_28 : decode cX3_parse 28 = .ok (.iload_n 1, 1) := by decide +kernel
theorem dX3_parse_29 : decode cX3_parse 29 = .ok (.sipush 700, 3) := by decide +kernel
theorem dX3_parse_32 : decode cX3_parse 32 = .ok (.if_icmp .ge 38, 3) := by decide +kernel
theorem dX3_parse_35 : decode cX3_parse 35 = .ok (.aload_n 0, 1) := by decide +kernel
theorem dX3_parse_36 : decode cX3_parse 36 = .ok (.getfield 37, 3) := by decide +kernel
theorem dX3_parse_39 : decode cX3_parse 39 = .ok (.ifCond .eq 31, 3) := by decide +kernel
theorem dX3_parse_42 : decode cX3_parse 42 = .ok (.aload_n 0, 1) := by decide +kernel
theorem dX3_parse_43 : decode cX3_parse 43 = .ok (.invokevirtual 40, 3) := by decide +kernel
theorem dX3_parse_46 : decode cX3_parse 46 = .ok (.ifCond .ne 5, 3) := by decide +kernel
theorem dX3_parse_49 : decode cX3_parse 49 = .ok (.iconst 0, 1) := by decide +kernel
theorem dX3_parse_50 : decode cX3_parse 50 = .ok (.ireturn, 1) := by decide +kernel
theorem dX3_parse_51 : decode cX3_parse 51 = .ok (.aload_n 0, 1) := by decide +kernel
theorem dX3_parse_52 : decode cX3_parse 52 = .ok (.getfield 19, 3) := by decide +kernel
theorem dX3_parse_55 : decode cX3_parse 55 = .ok (.dup, 1) := by decide +kernel
theorem dX3_parse_56 : decode cX3_parse 56 = .ok (.getfield 44, 3) := by decide +kernel
theorem dX3_parse_59 : decode cX3_parse 59 = .ok (.iconst 1, 1) := by decide +kernel
theorem dX3_parse_60 : decode cX3_parse 60 = .ok (.iadd, 1) := by decide +kernel
theorem dX3_parse_61 : decode cX3_parse 61 = .ok (.putfield 44, 3) := by decide +kernel
theorem dX3_parse_64 : decode cX3_parse 64 = .ok (.iinc 1 1, 3) := by decide +kernel
theorem dX3_parse_67 : decode cX3_parse 67 = .ok (.goto (-39), 3) := by decide +kernel
theorem dX3_parse_70 : decode cX3_parse 70 = .ok (.iconst 1, 1) := by decide +kernel
theorem dX3_parse_71 : decode cX3_parse 71 = .ok (.ireturn, 1) := by decide +kernel

theorem dX5_filled_0 : decode cX5_filled 0 = .ok (.iconst 0, 1) := by decide +kernel
theorem dX5_filled_1 : decode cX5_filled 1 = .ok (.istore_n 1, 1) := by decide +kernel
theorem dX5_filled_2 : decode cX5_filled 2 = .ok (.iconst 0, 1) := by decide +kernel
theorem dX5_filled_3 : decode cX5_filled 3 = .ok (.istore_n 2, 1) := by decide +kernel
theorem dX5_filled_4 : decode cX5_filled 4 = .ok (.iload_n 2, 1) := by decide +kernel
theorem dX5_filled_5 : decode cX5_filled 5 = .ok (.iconst 4, 1) := by decide +kernel
theorem dX5_filled_6 : decode cX5_filled 6 = .ok (.if_icmp .ge 25, 3) := by decide +kernel
theorem dX5_filled_9 : decode cX5_filled 9 = .ok (.iload_n 1, 1) := by decide +kernel
theorem dX5_filled_10 : decode cX5_filled 10 = .ok (.aload_n 0, 1) := by decide +kernel
theorem dX5_filled_11 : decode cX5_filled 11 = .ok (.iload_n 2, 1) := by decide +kernel
theorem dX5_filled_12 : decode cX5_filled 12 = .ok (.invokevirtual 22, 3) := by decide +kernel
theorem dX5_filled_15 : decode cX5_filled 15 = .ok (.ifCond .eq 7, 3) := by decide +kernel
theorem dX5_filled_18 : decode cX5_filled 18 = .ok (.iconst 0, 1) := by decide +kernel
theorem dX5_filled_19 : decode cX5_filled 19 = .ok (.goto 4, 3) := by decide +kernel
theorem dX5_filled_22 : decode cX5_filled 22 = .ok (.iconst 1, 1) := by decide +kernel
theorem dX5_filled_23 : decode cX5_filled 23 = .ok (.iadd, 1) := by decide +kernel
theorem dX5_filled_24 : decode cX5_filled 24 = .ok (.istore_n 1, 1) := by decide +kernel
theorem dX5_filled_25 : decode cX5_filled 25 = .ok (.iinc 2 1, 3) := by decide +kernel
theorem dX5_filled_28 : decode cX5_filled 28 = .ok (.goto (-24), 3) := by decide +kernel
theorem dX5_filled_31 : decode cX5_filled 31 = .ok (.iload_n 1, 1) := by decide +kernel
theorem dX5_filled_32 : decode cX5_filled 32 = .ok (.ireturn, 1) := by decide +kernel

theorem dX5_isBare_0 : decode cX5_isBare 0 = .ok (.aload_n 0, 1) := by decide +kernel
theorem dX5_isBare_1 : decode cX5_isBare 1 = .ok (.getfield 9, 3) := by decide +kernel
theorem dX5_isBare_4 : decode cX5_isBare 4 = .ok (.iload_n 1, 1) := by decide +kernel
theorem dX5_isBare_5 : decode cX5_isBare 5 = .ok (.iaload, 1) := by decide +kernel
theorem dX5_isBare_6 : decode cX5_isBare 6 = .ok (.iconst (-1), 1) := by decide +kernel
theorem dX5_isBare_7 : decode cX5_isBare 7 = .ok (.if_icmp .ne 7, 3) := by decide +kernel
theorem dX5_isBare_10 : decode cX5_isBare 10 = .ok (.iconst 1, 1) := by decide +kernel
theorem dX5_isBare_11 : decode cX5_isBare 11 = .ok (.goto 4, 3) := by decide +kernel
theorem dX5_isBare_14 : decode cX5_isBare 14 = .ok (.iconst 0, 1) := by decide +kernel
theorem dX5_isBare_15 : decode cX5_isBare 15 = .ok (.ireturn, 1) := by decide +kernel

theorem dX5_isSlot_0 : decode cX5_isSlot 0 = .ok (.iload_n 1, 1) := by decide +kernel
theorem dX5_isSlot_1 : decode cX5_isSlot 1 = .ok (.ifCond .lt 12, 3) := by decide +kernel
theorem dX5_isSlot_4 : decode cX5_isSlot 4 = .ok (.iload_n 1, 1) := by decide +kernel
theorem dX5_isSlot_5 : decode cX5_isSlot 5 = .ok (.iconst 4, 1) := by decide +kernel
theorem dX5_isSlot_6 : decode cX5_isSlot 6 = .ok (.if_icmp .ge 7, 3) := by decide +kernel
theorem dX5_isSlot_9 : decode cX5_isSlot 9 = .ok (.iconst 1, 1) := by decide +kernel
theorem dX5_isSlot_10 : decode cX5_isSlot 10 = .ok (.goto 4, 3) := by decide +kernel
theorem dX5_isSlot_13 : decode cX5_isSlot 13 = .ok (.iconst 0, 1) := by decide +kernel
theorem dX5_isSlot_14 : decode cX5_isSlot 14 = .ok (.ireturn, 1) := by decide +kernel

theorem dX5_lay_0 : decode cX5_lay 0 = .ok (.aload_n 0, 1) := by decide +kernel
theorem dX5_lay_1 : decode cX5_lay 1 = .ok (.getfield 9, 3) := by decide +kernel
theorem dX5_lay_4 : decode cX5_lay 4 = .ok (.iload_n 1, 1) := by decide +kernel
theorem dX5_lay_5 : decode cX5_lay 5 = .ok (.iload_n 2, 1) := by decide +kernel
theorem dX5_lay_6 : decode cX5_lay 6 = .ok (.iastore, 1) := by decide +kernel
theorem dX5_lay_7 : decode cX5_lay 7 = .ok (.aload_n 0, 1) := by decide +kernel
theorem dX5_lay_8 : decode cX5_lay 8 = .ok (.getfield 15, 3) := by decide +kernel
theorem dX5_lay_11 : decode cX5_lay 11 = .ok (.iload_n 1, 1) := by decide +kernel
theorem dX5_lay_12 : decode cX5_lay 12 = .ok (.iload_n 3, 1) := by decide +kernel
theorem dX5_lay_13 : decode cX5_lay 13 = .ok (.iastore, 1) := by decide +kernel
theorem dX5_lay_14 : decode cX5_lay 14 = .ok (.iload_n 1, 1) := by decide +kernel
theorem dX5_lay_15 : decode cX5_lay 15 = .ok (.bipush 60, 2) := by decide +kernel
theorem dX5_lay_17 : decode cX5_lay 17 = .ok (.imul, 1) := by decide +kernel
theorem dX5_lay_18 : decode cX5_lay 18 = .ok (.istore 4, 2) := by decide +kernel
theorem dX5_lay_20 : decode cX5_lay 20 = .ok (.aload_n 0, 1) := by decide +kernel
theorem dX5_lay_21 : decode cX5_lay 21 = .ok (.getfield 18, 3) := by decide +kernel
theorem dX5_lay_24 : decode cX5_lay 24 = .ok (.iload 4, 2) := by decide +kernel
theorem dX5_lay_26 : decode cX5_lay 26 = .ok (.iload 4, 2) := by decide +kernel
theorem dX5_lay_28 : decode cX5_lay 28 = .ok (.bipush 60, 2) := by decide +kernel
theorem dX5_lay_30 : decode cX5_lay 30 = .ok (.iadd, 1) := by decide +kernel
theorem dX5_lay_31 : decode cX5_lay 31 = .ok (.lconst 0, 1) := by decide +kernel
theorem dX5_lay_32 : decode cX5_lay 32 = .ok (.invokestatic 26, 3) := by decide +kernel
theorem dX5_lay_35 : decode cX5_lay 35 = .ok (.return_, 1) := by decide +kernel

theorem dX6_become_0 : decode cX6_become 0 = .ok (.aload_n 0, 1) := by decide +kernel
theorem dX6_become_1 : decode cX6_become 1 = .ok (.aload_n 1, 1) := by decide +kernel
theorem dX6_become_2 : decode cX6_become 2 = .ok (.getfield 42, 3) := by decide +kernel
theorem dX6_become_5 : decode cX6_become 5 = .ok (.putfield 42, 3) := by decide +kernel
theorem dX6_become_8 : decode cX6_become 8 = .ok (.aload_n 0, 1) := by decide +kernel
theorem dX6_become_9 : decode cX6_become 9 = .ok (.aload_n 1, 1) := by decide +kernel
theorem dX6_become_10 : decode cX6_become 10 = .ok (.getfield 46, 3) := by decide +kernel
theorem dX6_become_13 : decode cX6_become 13 = .ok (.putfield 46, 3) := by decide +kernel
theorem dX6_become_16 : decode cX6_become 16 = .ok (.aload_n 0, 1) := by decide +kernel
theorem dX6_become_17 : decode cX6_become 17 = .ok (.aload_n 1, 1) := by decide +kernel
theorem dX6_become_18 : decode cX6_become 18 = .ok (.getfield 49, 3) := by decide +kernel
theorem dX6_become_21 : decode cX6_become 21 = .ok (.putfield 49, 3) := by decide +kernel
theorem dX6_become_24 : decode cX6_become 24 = .ok (.aload_n 0, 1) := by decide +kernel
theorem dX6_become_25 : decode cX6_become 25 = .ok (.aload_n 1, 1) := by decide +kernel
theorem dX6_become_26 : decode cX6_become 26 = .ok (.getfield 52, 3) := by decide +kernel
theorem dX6_become_29 : decode cX6_become 29 = .ok (.putfield 52, 3) := by decide +kernel
theorem dX6_become_32 : decode cX6_become 32 = .ok (.aload_n 0, 1) := by decide +kernel
theorem dX6_become_33 : decode cX6_become 33 = .ok (.aload_n 1, 1) := by decide +kernel
theorem dX6_become_34 : decode cX6_become 34 = .ok (.getfield 55, 3) := by decide +kernel
theorem dX6_become_37 : decode cX6_become 37 = .ok (.putfield 55, 3) := by decide +kernel
theorem dX6_become_40 : decode cX6_become 40 = .ok (.aload_n 0, 1) := by decide +kernel
theorem dX6_become_41 : decode cX6_become 41 = .ok (.aload_n 1, 1) := by decide +kernel
theorem dX6_become_42 : decode cX6_become 42 = .ok (.getfield 58, 3) := by decide +kernel
theorem dX6_become_45 : decode cX6_become 45 = .ok (.putfield 58, 3) := by decide +kernel
theorem dX6_become_48 : decode cX6_become 48 = .ok (.aload_n 0, 1) := by decide +kernel
theorem dX6_become_49 : decode cX6_become 49 = .ok (.aload_n 1, 1) := by decide +kernel
theorem dX6_become_50 : decode cX6_become 50 = .ok (.getfield 61, 3) := by decide +kernel
theorem dX6_become_53 : decode cX6_become 53 = .ok (.putfield 61, 3) := by decide +kernel
theorem dX6_become_56 : decode cX6_become 56 = .ok (.aload_n 0, 1) := by decide +kernel
theorem dX6_become_57 : decode cX6_become 57 = .ok (.aload_n 1, 1) := by decide +kernel
theorem dX6_become_58 : decode cX6_become 58 = .ok (.getfield 64, 3) := by decide +kernel
theorem dX6_become_61 : decode cX6_become 61 = .ok (.putfield 64, 3) := by decide +kernel
theorem dX6_become_64 : decode cX6_become 64 = .ok (.aload_n 1, 1) := by decide +kernel
theorem dX6_become_65 : decode cX6_become 65 = .ok (.getfield 9, 3) := by decide +kernel
theorem dX6_become_68 : decode cX6_become 68 = .ok (.iconst 0, 1) := by decide +kernel
theorem dX6_become_69 : decode cX6_become 69 = .ok (.aload_n 0, 1) := by decide +kernel
theorem dX6_become_70 : decode cX6_become 70 = .ok (.getfield 9, 3) := by decide +kernel
theorem dX6_become_73 : decode cX6_become 73 = .ok (.iconst 0, 1) := by decide +kernel
theorem dX6_become_74 : decode cX6_become 74 = .ok (.bipush 6, 2) := by decide +kernel
theorem dX6_become_76 : decode cX6_become 76 = .ok (.invokestatic 67, 3) := by decide +kernel
theorem dX6_become_79 : decode cX6_become 79 = .ok (.aload_n 1, 1) := by decide +kernel
theorem dX6_become_80 : decode cX6_become 80 = .ok (.getfield 15, 3) := by decide +kernel
theorem dX6_become_83 : decode cX6_become 83 = .ok (.iconst 0, 1) := by decide +kernel
theorem dX6_become_84 : decode cX6_become 84 = .ok (.aload_n 0, 1) := by decide +kernel
theorem dX6_become_85 : decode cX6_become 85 = .ok (.getfield 15, 3) := by decide +kernel
theorem dX6_become_88 : decode cX6_become 88 = .ok (.iconst 0, 1) := by decide +kernel
theorem dX6_become_89 : decode cX6_become 89 = .ok (.bipush 6, 2) := by decide +kernel
theorem dX6_become_91 : decode cX6_become 91 = .ok (.invokestatic 67, 3) := by decide +kernel
theorem dX6_become_94 : decode cX6_become 94 = .ok (.aload_n 1, 1) := by decide +kernel
theorem dX6_become_95 : decode cX6_become 95 = .ok (.getfield 18, 3) := by decide +kernel
theorem dX6_become_98 : decode cX6_become 98 = .ok (.iconst 0, 1) := by decide +kernel
theorem dX6_become_99 : decode cX6_become 99 = .ok (.aload_n 0, 1) := by decide +kernel
theorem dX6_become_100 : decode cX6_become 100 = .ok (.getfield 18, 3) := by decide +kernel
theorem dX6_become_103 : decode cX6_become 103 = .ok (.iconst 0, 1) := by decide +kernel
theorem dX6_become_104 : decode cX6_become 104 = .ok (.bipush 6, 2) := by decide +kernel
theorem dX6_become_106 : decode cX6_become 106 = .ok (.invokestatic 67, 3) := by decide +kernel
theorem dX6_become_109 : decode cX6_become 109 = .ok (.aload_n 1, 1) := by decide +kernel
theorem dX6_become_110 : decode cX6_become 110 = .ok (.getfield 21, 3) := by decide +kernel
theorem dX6_become_113 : decode cX6_become 113 = .ok (.iconst 0, 1) := by decide +kernel
theorem dX6_become_114 : decode cX6_become 114 = .ok (.aload_n 0, 1) := by decide +kernel
theorem dX6_become_115 : decode cX6_become 115 = .ok (.getfield 21, 3) := by decide +kernel
theorem dX6_become_118 : decode cX6_become 118 = .ok (.iconst 0, 1) := by decide +kernel
theorem dX6_become_119 : decode cX6_become 119 = .ok (.bipush 10, 2) := by decide +kernel
theorem dX6_become_121 : decode cX6_become 121 = .ok (.invokestatic 67, 3) := by decide +kernel
theorem dX6_become_124 : decode cX6_become 124 = .ok (.aload_n 1, 1) := by decide +kernel
theorem dX6_become_125 : decode cX6_become 125 = .ok (.getfield 24, 3) := by decide +kernel
theorem dX6_become_128 : decode cX6_become 128 = .ok (.iconst 0, 1) := by decide +kernel
theorem dX6_become_129 : decode cX6_become 129 = .ok (.aload_n 0, 1) := by decide +kernel
theorem dX6_become_130 : decode cX6_become 130 = .ok (.getfield 24, 3) := by decide +kernel
theorem dX6_become_133 : decode cX6_become 133 = .ok (.iconst 0, 1) := by decide +kernel
theorem dX6_become_134 : decode cX6_become 134 = .ok (.bipush 10, 2) := by decide +kernel
theorem dX6_become_136 : decode cX6_become 136 = .ok (.invokestatic 67, 3) := by decide +kernel
theorem dX6_become_139 : decode cX6_become 139 = .ok (.aload_n 1, 1) := by decide +kernel
theorem dX6_become_140 : decode cX6_become 140 = .ok (.getfield 27, 3) := by decide +kernel
theorem dX6_become_143 : decode cX6_become 143 = .ok (.iconst 0, 1) := by decide +kernel
theorem dX6_become_144 : decode cX6_become 144 = .ok (.aload_n 0, 1) := by decide +kernel
theorem dX6_become_145 : decode cX6_become 145 = .ok (.getfield 27, 3) := by decide +kernel
theorem dX6_become_148 : decode cX6_become 148 = .ok (.iconst 0, 1) := by decide +kernel
theorem dX6_become_149 : decode cX6_become 149 = .ok (.bipush 8, 2) := by decide +kernel
theorem dX6_become_151 : decode cX6_become 151 = .ok (.invokestatic 67, 3) := by decide +kernel
theorem dX6_become_154 : decode cX6_become 154 = .ok (.aload_n 1, 1) := by decide +kernel
theorem dX6_become_155 : decode cX6_become 155 = .ok (.getfield 30, 3) := by decide +kernel
theorem dX6_become_158 : decode cX6_become 158 = .ok (.iconst 0, 1) := by decide +kernel
theorem dX6_become_159 : decode cX6_become 159 = .ok (.aload_n 0, 1) := by decide +kernel
theorem dX6_become_160 : decode cX6_become 160 = .ok (.getfield 30, 3) := by decide +kernel
theorem dX6_become_163 : decode cX6_become 163 = .ok (.iconst 0, 1) := by decide +kernel
theorem dX6_become_164 : decode cX6_become 164 = .ok (.bipush 8, 2) := by decide +kernel
theorem dX6_become_166 : decode cX6_become 166 = .ok (.invokestatic 67, 3) := by decide +kernel
theorem dX6_become_169 : decode cX6_become 169 = .ok (.aload_n 1, 1) := by decide +kernel
theorem dX6_become_170 : decode cX6_become 170 = .ok (.getfield 33, 3) := by decide +kernel
theorem dX6_become_173 : decode cX6_become 173 = .ok (.iconst 0, 1) := by decide +kernel
theorem dX6_become_174 : decode cX6_become 174 = .ok (.aload_n 0, 1) := by decide +kernel
theorem dX6_become_175 : decode cX6_become 175 = .ok (.getfield 33, 3) := by decide +kernel
theorem dX6_become_178 : decode cX6_become 178 = .ok (.iconst 0, 1) := by decide +kernel
theorem dX6_become_179 : decode cX6_become 179 = .ok (.bipush 20, 2) := by decide +kernel
theorem dX6_become_181 : decode cX6_become 181 = .ok (.invokestatic 67, 3) := by decide +kernel
theorem dX6_become_184 : decode cX6_become 184 = .ok (.aload_n 1, 1) := by decide +kernel
theorem dX6_become_185 : decode cX6_become 185 = .ok (.getfield 36, 3) := by decide +kernel
theorem dX6_become_188 : decode cX6_become 188 = .ok (.iconst 0, 1) := by decide +kernel
theorem dX6_become_189 : decode cX6_become 189 = .ok (.aload_n 0, 1) := by decide +kernel
theorem dX6_become_190 : decode cX6_become 190 = .ok (.getfield 36, 3) := by decide +kernel
theorem dX6_become_193 : decode cX6_become 193 = .ok (.iconst 0, 1) := by decide +kernel
theorem dX6_become_194 : decode cX6_become 194 = .ok (.bipush 20, 2) := by decide +kernel
theorem dX6_become_196 : decode cX6_become 196 = .ok (.invokestatic 67, 3) := by decide +kernel
theorem dX6_become_199 : decode cX6_become 199 = .ok (.aload_n 1, 1) := by decide +kernel
theorem dX6_become_200 : decode cX6_become 200 = .ok (.getfield 39, 3) := by decide +kernel
theorem dX6_become_203 : decode cX6_become 203 = .ok (.iconst 0, 1) := by decide +kernel
theorem dX6_become_204 : decode cX6_become 204 = .ok (.aload_n 0, 1) := by decide +kernel
theorem dX6_become_205 : decode cX6_become 205 = .ok (.getfield 39, 3) := by decide +kernel
theorem dX6_become_208 : decode cX6_become 208 = .ok (.iconst 0, 1) := by decide +kernel
theorem dX6_become_209 : decode cX6_become 209 = .ok (.bipush 20, 2) := by decide +kernel
theorem dX6_become_211 : decode cX6_become 211 = .ok (.invokestatic 67, 3) := by decide +kernel
theorem dX6_become_214 : decode cX6_become 214 = .ok (.return_, 1) := by decide +kernel

theorem dX6_clear_0 : decode cX6_clear 0 = .ok (.aload_n 0, 1) := by decide +kernel
theorem dX6_clear_1 : decode cX6_clear 1 = .ok (.iconst 0, 1) := by decide +kernel
theorem dX6_clear_2 : decode cX6_clear 2 = .ok (.putfield 42, 3) := by decide +kernel
theorem dX6_clear_5 : decode cX6_clear 5 = .ok (.aload_n 0, 1) := by decide +kernel
theorem dX6_clear_6 : decode cX6_clear 6 = .ok (.iconst 0, 1) := by decide +kernel
theorem dX6_clear_7 : decode cX6_clear 7 = .ok (.putfield 46, 3) := by decide +kernel
theorem dX6_clear_10 : decode cX6_clear 10 = .ok (.aload_n 0, 1) := by decide +kernel
theorem dX6_clear_11 : decode cX6_clear 11 = .ok (.iconst 0, 1) := by decide +kernel
theorem dX6_clear_12 : decode cX6_clear 12 = .ok (.putfield 49, 3) := by decide +kernel
theorem dX6_clear_15 : decode cX6_clear 15 = .ok (.aload_n 0, 1) := by decide +kernel
theorem dX6_clear_16 : decode cX6_clear 16 = .ok (.iconst 0, 1) := by decide +kernel
theorem dX6_clear_17 : decode cX6_clear 17 = .ok (.putfield 52, 3) := by decide +kernel
theorem dX6_clear_20 : decode cX6_clear 20 = .ok (.aload_n 0, 1) := by decide +kernel
theorem dX6_clear_21 : decode cX6_clear 21 = .ok (.iconst 0, 1) := by decide +kernel
theorem dX6_clear_22 : decode cX6_clear 22 = .ok (.putfield 55, 3) := by decide +kernel
theorem dX6_clear_25 : decode cX6_clear 25 = .ok (.aload_n 0, 1) := by decide +kernel
theorem dX6_clear_26 : decode cX6_clear 26 = .ok (.iconst 0, 1) := by decide +kernel
theorem dX6_clear_27 : decode cX6_clear 27 = .ok (.putfield 58, 3) := by decide +kernel
theorem dX6_clear_30 : decode cX6_clear 30 = .ok (.aload_n 0, 1) := by decide +kernel
theorem dX6_clear_31 : decode cX6_clear 31 = .ok (.iconst 0, 1) := by decide +kernel
theorem dX6_clear_32 : decode cX6_clear 32 = .ok (.putfield 61, 3) := by decide +kernel
theorem dX6_clear_35 : decode cX6_clear 35 = .ok (.aload_n 0, 1) := by decide +kernel
theorem dX6_clear_36 : decode cX6_clear 36 = .ok (.iconst 0, 1) := by decide +kernel
theorem dX6_clear_37 : decode cX6_clear 37 = .ok (.putfield 64, 3) := by decide +kernel
theorem dX6_clear_40 : decode cX6_clear 40 = .ok (.return_, 1) := by decide +kernel

theorem dX6_hasPart_0 : decode cX6_hasPart 0 = .ok (.iload_n 1, 1) := by decide +kernel
theorem dX6_hasPart_1 : decode cX6_hasPart 1 = .ok (.ifCond .lt 15, 3) := by decide +kernel
theorem dX6_hasPart_4 : decode cX6_hasPart 4 = .ok (.iload_n 1, 1) := by decide +kernel
theorem dX6_hasPart_5 : decode cX6_hasPart 5 = .ok (.aload_n 0, 1) := by decide +kernel
theorem dX6_hasPart_6 : decode cX6_hasPart 6 = .ok (.getfield 52, 3) := by decide +kernel
theorem dX6_hasPart_9 : decode cX6_hasPart 9 = .ok (.if_icmp .ge 7, 3) := by decide +kernel
theorem dX6_hasPart_12 : decode cX6_hasPart 12 = .ok (.iconst 1, 1) := by decide +kernel
theorem dX6_hasPart_13 : decode cX6_hasPart 13 = .ok (.goto 4, 3) := by decide +kernel
theorem dX6_hasPart_16 : decode cX6_hasPart 16 = .ok (.iconst 0, 1) := by decide +kernel
theorem dX6_hasPart_17 : decode cX6_hasPart 17 = .ok (.ireturn, 1) := by decide +kernel

theorem dX6_hasWorkingYear_0 : decode cX6_hasWorkingYear 0 = .ok (.iload_n 1, 1) := by decide +kernel
theorem dX6_hasWorkingYear_1 : decode cX6_hasWorkingYear 1 = .ok (.ifCond .lt 15, 3) := by decide +kernel
theorem dX6_hasWorkingYear_4 : decode cX6_hasWorkingYear 4 = .ok (.iload_n 1, 1) := by decide +kernel
theorem dX6_hasWorkingYear_5 : decode cX6_hasWorkingYear 5 = .ok (.aload_n 0, 1) := by decide +kernel
theorem dX6_hasWorkingYear_6 : decode cX6_hasWorkingYear 6 = .ok (.getfield 42, 3) := by decide +kernel
theorem dX6_hasWorkingYear_9 : decode cX6_hasWorkingYear 9 = .ok (.if_icmp .ge 7, 3) := by decide +kernel
theorem dX6_hasWorkingYear_12 : decode cX6_hasWorkingYear 12 = .ok (.iconst 1, 1) := by decide +kernel
theorem dX6_hasWorkingYear_13 : decode cX6_hasWorkingYear 13 = .ok (.goto 4, 3) := by decide +kernel
theorem dX6_hasWorkingYear_16 : decode cX6_hasWorkingYear 16 = .ok (.iconst 0, 1) := by decide +kernel
theorem dX6_hasWorkingYear_17 : decode cX6_hasWorkingYear 17 = .ok (.ireturn, 1) := by decide +kernel

theorem dX6_hasYear_0 : decode cX6_hasYear 0 = .ok (.aload_n 0, 1) := by decide +kernel
theorem dX6_hasYear_1 : decode cX6_hasYear 1 = .ok (.invokevirtual 73, 3) := by decide +kernel
theorem dX6_hasYear_4 : decode cX6_hasYear 4 = .ok (.ifCond .eq 19, 3) := by decide +kernel
theorem dX6_hasYear_7 : decode cX6_hasYear 7 = .ok (.iload_n 1, 1) := by decide +kernel
theorem dX6_hasYear_8 : decode cX6_hasYear 8 = .ok (.ifCond .lt 15, 3) := by decide +kernel
theorem dX6_hasYear_11 : decode cX6_hasYear 11 = .ok (.iload_n 1, 1) := by decide +kernel
theorem dX6_hasYear_12 : decode cX6_hasYear 12 = .ok (.aload_n 0, 1) := by decide +kernel
theorem dX6_hasYear_13 : decode cX6_hasYear 13 = .ok (.getfield 42, 3) := by decide +kernel
theorem dX6_hasYear_16 : decode cX6_hasYear 16 = .ok (.if_icmp .gt 7, 3) := by decide +kernel
theorem dX6_hasYear_19 : decode cX6_hasYear 19 = .ok (.iconst 1, 1) := by decide +kernel
theorem dX6_hasYear_20 : decode cX6_hasYear 20 = .ok (.goto 4, 3) := by decide +kernel
theorem dX6_hasYear_23 : decode cX6_hasYear 23 = .ok (.iconst 0, 1) := by decide +kernel
theorem dX6_hasYear_24 : decode cX6_hasYear 24 = .ok (.ireturn, 1) := by decide +kernel

theorem dX6_isTold_0 : decode cX6_isTold 0 = .ok (.aload_n 0, 1) := by decide +kernel
theorem dX6_isTold_1 : decode cX6_isTold 1 = .ok (.getfield 64, 3) := by decide +kernel
theorem dX6_isTold_4 : decode cX6_isTold 4 = .ok (.ifCond .le 7, 3) := by decide +kernel
theorem dX6_isTold_7 : decode cX6_isTold 7 = .ok (.iconst 1, 1) := by decide +kernel
theorem dX6_isTold_8 : decode cX6_isTold 8 = .ok (.goto 4, 3) := by decide +kernel
theorem dX6_isTold_11 : decode cX6_isTold 11 = .ok (.iconst 0, 1) := by decide +kernel
theorem dX6_isTold_12 : decode cX6_isTold 12 = .ok (.ireturn, 1) := by decide +kernel

theorem dX7_append_0 : decode cX7_append 0 = .ok (.bipush 24, 2) := by decide +kernel
theorem dX7_append_2 : decode cX7_append 2 = .ok (.istore_n 2, 1) := by decide +kernel
theorem dX7_append_3 : decode cX7_append 3 = .ok (.iload_n 2, 1) := by decide +kernel
theorem dX7_append_4 : decode cX7_append 4 = .ok (.ifCond .lt 42, 3) := by decide +kernel
theorem dX7_append_7 : decode cX7_append 7 = .ok (.aload_n 0, 1) := by decide +kernel
theorem dX7_append_8 : decode cX7_append 8 = .ok (.getfield 15, 3) := by decide +kernel
theorem dX7_append_11 : decode cX7_append 11 = .ok (.sipush 700, 3) := by decide +kernel
theorem dX7_append_14 : decode cX7_append 14 = .ok (.if_icmp .ge 32, 3) := by decide +kernel
theorem dX7_append_17 : decode cX7_append 17 = .ok (.aload_n 0, 1) := by decide +kernel
theorem dX7_append_18 : decode cX7_append 18 = .ok (.getfield 9, 3) := by decide +kernel
theorem dX7_append_21 : decode cX7_append 21 = .ok (.aload_n 0, 1) := by decide +kernel
theorem dX7_append_22 : decode cX7_append 22 = .ok (.getfield 15, 3) := by decide +kernel
theorem dX7_append_25 : decode cX7_append 25 = .ok (.iload_n 1, 1) := by decide +kernel
theorem dX7_append_26 : decode cX7_append 26 = .ok (.iload_n 2, 1) := by decide +kernel
theorem dX7_append_27 : decode cX7_append 27 = .ok (.ishr, 1) := by decide +kernel
theorem dX7_append_28 : decode cX7_append 28 = .ok (.i2b, 1) := by decide +kernel
theorem dX7_append_29 : decode cX7_append 29 = .ok (.bastore, 1) := by decide +kernel
theorem dX7_append_30 : decode cX7_append 30 = .ok (.aload_n 0, 1) := by decide +kernel
theorem dX7_append_31 : decode cX7_append 31 = .ok (.dup, 1) := by decide +kernel
theorem dX7_append_32 : decode cX7_append 32 = .ok (.getfield 15, 3) := by decide +kernel
theorem dX7_append_35 : decode cX7_append 35 = .ok (.iconst 1, 1) := by decide +kernel
theorem dX7_append_36 : decode cX7_append 36 = .ok (.iadd, 1) := by decide +kernel
theorem dX7_append_37 : decode cX7_append 37 = .ok (.putfield 15, 3) := by decide +kernel
theorem dX7_append_40 : decode cX7_append 40 = .ok (.iinc 2 (-8), 3) := by decide +kernel
theorem dX7_append_43 : decode cX7_append 43 = .ok (.goto (-40), 3) := by decide +kernel
theorem dX7_append_46 : decode cX7_append 46 = .ok (.return_, 1) := by decide +kernel

theorem dX7_at_0 : decode cX7_at 0 = .ok (.iload_n 1, 1) := by decide +kernel
theorem dX7_at_1 : decode cX7_at 1 = .ok (.ifCond .lt 24, 3) := by decide +kernel
theorem dX7_at_4 : decode cX7_at 4 = .ok (.iload_n 1, 1) := by decide +kernel
theorem dX7_at_5 : decode cX7_at 5 = .ok (.aload_n 0, 1) := by decide +kernel
theorem dX7_at_6 : decode cX7_at 6 = .ok (.getfield 15, 3) := by decide +kernel
theorem dX7_at_9 : decode cX7_at 9 = .ok (.if_icmp .ge 16, 3) := by decide +kernel
theorem dX7_at_12 : decode cX7_at 12 = .ok (.aload_n 0, 1) := by decide +kernel
theorem dX7_at_13 : decode cX7_at 13 = .ok (.getfield 9, 3) := by decide +kernel
theorem dX7_at_16 : decode cX7_at 16 = .ok (.iload_n 1, 1) := by decide +kernel
theorem dX7_at_17 : decode cX7_at 17 = .ok (.baload, 1) := by decide +kernel
theorem dX7_at_18 : decode cX7_at 18 = .ok (.sipush 255, 3) := by decide +kernel
theorem dX7_at_21 : decode cX7_at 21 = .ok (.iand, 1) := by decide +kernel
theorem dX7_at_22 : decode cX7_at 22 = .ok (.goto 4, 3) := by decide +kernel
theorem dX7_at_25 : decode cX7_at 25 = .ok (.iconst (-1), 1) := by decide +kernel
theorem dX7_at_26 : decode cX7_at 26 = .ok (.ireturn, 1) := by decide +kernel

theorem dX7_hasRoomForFive_0 : decode cX7_hasRoomForFive 0 = .ok (.aload_n 0, 1) := by decide +kernel
theorem dX7_hasRoomForFive_1 : decode cX7_hasRoomForFive 1 = .ok (.getfield 15, 3) := by decide +kernel
theorem dX7_hasRoomForFive_4 : decode cX7_hasRoomForFive 4 = .ok (.bipush 20, 2) := by decide +kernel
theorem dX7_hasRoomForFive_6 : decode cX7_hasRoomForFive 6 = .ok (.iadd, 1) := by decide +kernel
theorem dX7_hasRoomForFive_7 : decode cX7_hasRoomForFive 7 = .ok (.sipush 700, 3) := by decide +kernel
theorem dX7_hasRoomForFive_10 : decode cX7_hasRoomForFive 10 = .ok (.if_icmp .gt 7, 3) := by decide +kernel
theorem dX7_hasRoomForFive_13 : decode cX7_hasRoomForFive 13 = .ok (.iconst 1, 1) := by decide +kernel
theorem dX7_hasRoomForFive_14 : decode cX7_hasRoomForFive 14 = .ok (.goto 4, 3) := by decide +kernel
theorem dX7_hasRoomForFive_17 : decode cX7_hasRoomForFive 17 = .ok (.iconst 0, 1) := by decide +kernel
theorem dX7_hasRoomForFive_18 : decode cX7_hasRoomForFive 18 = .ok (.ireturn, 1) := by decide +kernel

theorem dX8_ages_0 : decode cX8_ages 0 = .ok (.aload_n 0, 1) := by decide +kernel
theorem dX8_ages_1 : decode cX8_ages 1 = .ok (.getfield 32, 3) := by decide +kernel
theorem dX8_ages_4 : decode cX8_ages 4 = .ok (.iload_n 1, 1) := by decide +kernel
theorem dX8_ages_5 : decode cX8_ages 5 = .ok (.invokevirtual 127, 3) := by decide +kernel
theorem dX8_ages_8 : decode cX8_ages 8 = .ok (.ifCond .ne 6, 3) := by decide +kernel
theorem dX8_ages_11 : decode cX8_ages 11 = .ok (.bipush (-100), 2) := by decide +kernel
theorem dX8_ages_13 : decode cX8_ages 13 = .ok (.ireturn, 1) := by decide +kernel
theorem dX8_ages_14 : decode cX8_ages 14 = .ok (.aload_n 0, 1) := by decide +kernel
theorem dX8_ages_15 : decode cX8_ages 15 = .ok (.invokevirtual 189, 3) := by decide +kernel
theorem dX8_ages_18 : decode cX8_ages 18 = .ok (.iload_n 1, 1) := by decide +kernel
theorem dX8_ages_19 : decode cX8_ages 19 = .ok (.aload_n 0, 1) := by decide +kernel
theorem dX8_ages_20 : decode cX8_ages 20 = .ok (.getfield 32, 3) := by decide +kernel
theorem dX8_ages_23 : decode cX8_ages 23 = .ok (.getfield 168, 3) := by decide +kernel
theorem dX8_ages_26 : decode cX8_ages 26 = .ok (.invokevirtual 193, 3) := by decide +kernel
theorem dX8_ages_29 : decode cX8_ages 29 = .ok (.aload_n 0, 1) := by decide +kernel
theorem dX8_ages_30 : decode cX8_ages 30 = .ok (.getfield 32, 3) := by decide +kernel
theorem dX8_ages_33 : decode cX8_ages 33 = .ok (.getfield 138, 3) := by decide +kernel
theorem dX8_ages_36 : decode cX8_ages 36 = .ok (.iload_n 1, 1) := by decide +kernel
theorem dX8_ages_37 : decode cX8_ages 37 = .ok (.iaload, 1) := by decide +kernel
theorem dX8_ages_38 : decode cX8_ages 38 = .ok (.isub, 1) := by decide +kernel
theorem dX8_ages_39 : decode cX8_ages 39 = .ok (.ireturn, 1) := by decide +kernel

theorem dX8_air_0 : decode cX8_air 0 = .ok (.aload_n 0, 1) := by decide +kernel
theorem dX8_air_1 : decode cX8_air 1 = .ok (.iload_n 1, 1) := by decide +kernel
theorem dX8_air_2 : decode cX8_air 2 = .ok (.iload_n 2, 1) := by decide +kernel
theorem dX8_air_3 : decode cX8_air 3 = .ok (.invokevirtual 371, 3) := by decide +kernel
theorem dX8_air_6 : decode cX8_air 6 = .ok (.istore_n 3, 1) := by decide +kernel
theorem dX8_air_7 : decode cX8_air 7 = .ok (.iload_n 3, 1) := by decide +kernel
theorem dX8_air_8 : decode cX8_air 8 = .ok (.ifCond .eq 5, 3) := by decide +kernel
theorem dX8_air_11 : decode cX8_air 11 = .ok (.iload_n 3, 1) := by decide +kernel
theorem dX8_air_12 : decode cX8_air 12 = .ok (.ireturn, 1) := by decide +kernel
theorem dX8_air_13 : decode cX8_air 13 = .ok (.aload_n 0, 1) := by decide +kernel
theorem dX8_air_14 : decode cX8_air 14 = .ok (.getfield 32, 3) := by decide +kernel
theorem dX8_air_17 : decode cX8_air 17 = .ok (.iconst 1, 1) := by decide +kernel
theorem dX8_air_18 : decode cX8_air 18 = .ok (.iload_n 1, 1) := by decide +kernel
theorem dX8_air_19 : decode cX8_air 19 = .ok (.iload_n 2, 1) := by decide +kernel
theorem dX8_air_20 : decode cX8_air 20 = .ok (.invokevirtual 374, 3) := by decide +kernel
theorem dX8_air_23 : decode cX8_air 23 = .ok (.aload_n 0, 1) := by decide +kernel
theorem dX8_air_24 : decode cX8_air 24 = .ok (.invokevirtual 115, 3) := by decide +kernel
theorem dX8_air_27 : decode cX8_air 27 = .ok (.aload_n 0, 1) := by decide +kernel
theorem dX8_air_28 : decode cX8_air 28 = .ok (.invokevirtual 189, 3) := by decide +kernel
theorem dX8_air_31 : decode cX8_air 31 = .ok (.iload_n 1, 1) := by decide +kernel
theorem dX8_air_32 : decode cX8_air 32 = .ok (.aload_n 0, 1) := by decide +kernel
theorem dX8_air_33 : decode cX8_air 33 = .ok (.getfield 32, 3) := by decide +kernel
theorem dX8_air_36 : decode cX8_air 36 = .ok (.getfield 168, 3) := by decide +kernel
theorem dX8_air_39 : decode cX8_air 39 = .ok (.invokevirtual 193, 3) := by decide +kernel
theorem dX8_air_42 : decode cX8_air 42 = .ok (.ireturn, 1) := by decide +kernel

theorem dX8_all_0 : decode cX8_all 0 = .ok (.aload_n 0, 1) := by decide +kernel
theorem dX8_all_1 : decode cX8_all 1 = .ok (.getfield 32, 3) := by decide +kernel
theorem dX8_all_4 : decode cX8_all 4 = .ok (.invokevirtual 153, 3) := by decide +kernel
theorem dX8_all_7 : decode cX8_all 7 = .ok (.ifCond .eq 13, 3) := by decide +kernel
theorem dX8_all_10 : decode cX8_all 10 = .ok (.aload_n 0, 1) := by decide +kernel
theorem dX8_all_11 : decode cX8_all 11 = .ok (.invokevirtual 189, 3) := by decide +kernel
theorem dX8_all_14 : decode cX8_all 14 = .ok (.invokevirtual 217, 3) := by decide +kernel
theorem dX8_all_17 : decode cX8_all 17 = .ok (.goto 5, 3) := by decide +kernel
theorem dX8_all_20 : decode cX8_all 20 = .ok (.bipush (-2), 2) := by decide +kernel
theorem dX8_all_22 : decode cX8_all 22 = .ok (.ireturn, 1) := by decide +kernel

theorem dX8_anew_0 : decode cX8_anew 0 = .ok (.aload_n 0, 1) := by decide +kernel
theorem dX8_anew_1 : decode cX8_anew 1 = .ok (.getfield 32, 3) := by decide +kernel
theorem dX8_anew_4 : decode cX8_anew 4 = .ok (.invokevirtual 153, 3) := by decide +kernel
theorem dX8_anew_7 : decode cX8_anew 7 = .ok (.ifCond .ne 6, 3) := by decide +kernel
theorem dX8_anew_10 : decode cX8_anew 10 = .ok (.bipush (-2), 2) := by decide +kernel
theorem dX8_anew_12 : decode cX8_anew 12 = .ok (.ireturn, 1) := by decide +kernel
theorem dX8_anew_13 : decode cX8_anew 13 = .ok (.aload_n 0, 1) := by decide +kernel
theorem dX8_anew_14 : decode cX8_anew 14 = .ok (.getfield 32, 3) := by decide +kernel
theorem dX8_anew_17 : decode cX8_anew 17 = .ok (.getfield 179, 3) := by decide +kernel
theorem dX8_anew_20 : decode cX8_anew 20 = .ok (.istore_n 1, 1) := by decide +kernel
theorem dX8_anew_21 : decode cX8_anew 21 = .ok (.aload_n 0, 1) := by decide +kernel
theorem dX8_anew_22 : decode cX8_anew 22 = .ok (.getfield 32, 3) := by decide +kernel
theorem dX8_anew_25 : decode cX8_anew 25 = .ok (.iconst 0, 1) := by decide +kernel
theorem dX8_anew_26 : decode cX8_anew 26 = .ok (.putfield 179, 3) := by decide +kernel
theorem dX8_anew_29 : decode cX8_anew 29 = .ok (.aload_n 0, 1) := by decide +kernel
theorem dX8_anew_30 : decode cX8_anew 30 = .ok (.invokevirtual 115, 3) := by decide +kernel
theorem dX8_anew_33 : decode cX8_anew 33 = .ok (.iload_n 1, 1) := by decide +kernel
theorem dX8_anew_34 : decode cX8_anew 34 = .ok (.ireturn, 1) := by decide +kernel

theorem dX8_ask_0 : decode cX8_ask 0 = .ok (.aload_n 0, 1) := by decide +kernel
theorem dX8_ask_1 : decode cX8_ask 1 = .ok (.iload_n 1, 1) := by decide +kernel
theorem dX8_ask_2 : decode cX8_ask 2 = .ok (.iload_n 2, 1) := by decide +kernel
theorem dX8_ask_3 : decode cX8_ask 3 = .ok (.invokevirtual 289, 3) := by decide +kernel
theorem dX8_ask_6 : decode cX8_ask 6 = .ok (.istore_n 3, 1) := by decide +kernel
theorem dX8_ask_7 : decode cX8_ask 7 = .ok (.iload_n 3, 1) := by decide +kernel
theorem dX8_ask_8 : decode cX8_ask 8 = .ok (.ifCond .eq 5, 3) := by decide +kernel
theorem dX8_ask_11 : decode cX8_ask 11 = .ok (.iload_n 3, 1) := by decide +kernel
theorem dX8_ask_12 : decode cX8_ask 12 = .ok (.ireturn, 1) := by decide +kernel
theorem dX8_ask_13 : decode cX8_ask 13 = .ok (.aload_n 0, 1) := by decide +kernel
theorem dX8_ask_14 : decode cX8_ask 14 = .ok (.getfield 83, 3) := by decide +kernel
theorem dX8_ask_17 : decode cX8_ask 17 = .ok (.iload_n 1, 1) := by decide +kernel
theorem dX8_ask_18 : decode cX8_ask 18 = .ok (.iload_n 2, 1) := by decide +kernel
theorem dX8_ask_19 : decode cX8_ask 19 = .ok (.aload_n 0, 1) := by decide +kernel
theorem dX8_ask_20 : decode cX8_ask 20 = .ok (.invokevirtual 189, 3) := by decide +kernel
theorem dX8_ask_23 : decode cX8_ask 23 = .ok (.invokevirtual 302, 3) := by decide +kernel
theorem dX8_ask_26 : decode cX8_ask 26 = .ok (.aload_n 0, 1) := by decide +kernel
theorem dX8_ask_27 : decode cX8_ask 27 = .ok (.getfield 83, 3) := by decide +kernel
theorem dX8_ask_30 : decode cX8_ask 30 = .ok (.getfield 306, 3) := by decide +kernel
theorem dX8_ask_33 : decode cX8_ask 33 = .ok (.ireturn, 1) := by decide +kernel

theorem dX8_back_0 : decode cX8_back 0 = .ok (.iload_n 1, 1) := by decide +kernel
theorem dX8_back_1 : decode cX8_back 1 = .ok (.ifCond .lt 8, 3) := by decide +kernel
theorem dX8_back_4 : decode cX8_back 4 = .ok (.iload_n 1, 1) := by decide +kernel
theorem dX8_back_5 : decode cX8_back 5 = .ok (.iconst 3, 1) := by decide +kernel
theorem dX8_back_6 : decode cX8_back 6 = .ok (.if_icmp .lt 6, 3) := by decide +kernel
theorem dX8_back_9 : decode cX8_back 9 = .ok (.bipush (-2), 2) := by decide +kernel
theorem dX8_back_11 : decode cX8_back 11 = .ok (.ireturn, 1) := by decide +kernel
theorem dX8_back_12 : decode cX8_back 12 = .ok (.aload_n 0, 1) := by decide +kernel
theorem dX8_back_13 : decode cX8_back 13 = .ok (.getfield 39, 3) := by decide +kernel
theorem dX8_back_16 : decode cX8_back 16 = .ok (.iload_n 1, 1) := by decide +kernel
theorem dX8_back_17 : decode cX8_back 17 = .ok (.baload, 1) := by decide +kernel
theorem dX8_back_18 : decode cX8_back 18 = .ok (.ifCond .ne 6, 3) := by decide +kernel
theorem dX8_back_21 : decode cX8_back 21 = .ok (.bipush (-6), 2) := by decide +kernel
theorem dX8_back_23 : decode cX8_back 23 = .ok (.ireturn, 1) := by decide +kernel
theorem dX8_back_24 : decode cX8_back 24 = .ok (.aload_n 0, 1) := by decide +kernel
theorem dX8_back_25 : decode cX8_back 25 = .ok (.getfield 32, 3) := by decide +kernel
theorem dX8_back_28 : decode cX8_back 28 = .ok (.aload_n 0, 1) := by decide +kernel
theorem dX8_back_29 : decode cX8_back 29 = .ok (.getfield 35, 3) := by decide +kernel
theorem dX8_back_32 : decode cX8_back 32 = .ok (.iload_n 1, 1) := by decide +kernel
theorem dX8_back_33 : decode cX8_back 33 = .ok (.aaload, 1) := by decide +kernel
theorem dX8_back_34 : decode cX8_back 34 = .ok (.invokevirtual 112, 3) := by decide +kernel
theorem dX8_back_37 : decode cX8_back 37 = .ok (.aload_n 0, 1) := by decide +kernel
theorem dX8_back_38 : decode cX8_back 38 = .ok (.invokevirtual 115, 3) := by decide +kernel
theorem dX8_back_41 : decode cX8_back 41 = .ok (.iconst 0, 1) := by decide +kernel
theorem dX8_back_42 : decode cX8_back 42 = .ok (.ireturn, 1) := by decide +kernel

theorem dX8_best_0 : decode cX8_best 0 = .ok (.aload_n 0, 1) := by decide +kernel
theorem dX8_best_1 : decode cX8_best 1 = .ok (.getfield 32, 3) := by decide +kernel
theorem dX8_best_4 : decode cX8_best 4 = .ok (.iload_n 1, 1) := by decide +kernel
theorem dX8_best_5 : decode cX8_best 5 = .ok (.invokevirtual 127, 3) := by decide +kernel
theorem dX8_best_8 : decode cX8_best 8 = .ok (.ifCond .ne 6, 3) := by decide +kernel
theorem dX8_best_11 : decode cX8_best 11 = .ok (.bipush (-2), 2) := by decide +kernel
theorem dX8_best_13 : decode cX8_best 13 = .ok (.ireturn, 1) := by decide +kernel
theorem dX8_best_14 : decode cX8_best 14 = .ok (.iconst 0, 1) := by decide +kernel
theorem dX8_best_15 : decode cX8_best 15 = .ok (.istore_n 2, 1) := by decide +kernel
theorem dX8_best_16 : decode cX8_best 16 = .ok (.iconst 0, 1) := by decide +kernel
theorem dX8_best_17 : decode cX8_best 17 = .ok (.istore_n 3, 1) := by decide +kernel
theorem dX8_best_18 : decode cX8_best 18 = .ok (.iload_n 3, 1) := by decide +kernel
theorem dX8_best_19 : decode cX8_best 19 = .ok (.aload_n 0, 1) := by decide +kernel
theorem dX8_best_20 : decode cX8_best 20 = .ok (.getfield 32, 3) := by decide +kernel
theorem dX8_best_23 : decode cX8_best 23 = .ok (.getfield 168, 3) := by decide +kernel
theorem dX8_best_26 : decode cX8_best 26 = .ok (.if_icmp .gt 23, 3) := by decide +kernel
theorem dX8_best_29 : decode cX8_best 29 = .ok (.iload_n 2, 1) := by decide +kernel
theorem dX8_best_30 : decode cX8_best 30 = .ok (.aload_n 0, 1) := by decide +kernel
theorem dX8_best_31 : decode cX8_best 31 = .ok (.invokevirtual 189, 3) := by decide +kernel
theorem dX8_best_34 : decode cX8_best 34 = .ok (.iload_n 1, 1) := by decide +kernel
theorem dX8_best_35 : decode cX8_best 35 = .ok (.iload_n 3, 1) := by decide +kernel
theorem dX8_best_36 : decode cX8_best 36 = .ok (.invokevirtual 220, 3) := by decide +kernel
theorem dX8_best_39 : decode cX8_best 39 = .ok (.invokestatic 223, 3) := by decide +kernel
theorem dX8_best_42 : decode cX8_best 42 = .ok (.istore_n 2, 1) := by decide +kernel
theorem dX8_best_43 : decode cX8_best 43 = .ok (.iinc 3 1, 3) := by decide +kernel
theorem dX8_best_46 : decode cX8_best 46 = .ok (.goto (-28), 3) := by decide +kernel
theorem dX8_best_49 : decode cX8_best 49 = .ok (.iload_n 2, 1) := by decide +kernel
theorem dX8_best_50 : decode cX8_best 50 = .ok (.ireturn, 1) := by decide +kernel

theorem dX8_blunt_0 : decode cX8_blunt 0 = .ok (.aload_n 0, 1) := by decide +kernel
theorem dX8_blunt_1 : decode cX8_blunt 1 = .ok (.getfield 32, 3) := by decide +kernel
theorem dX8_blunt_4 : decode cX8_blunt 4 = .ok (.invokevirtual 153, 3) := by decide +kernel
theorem dX8_blunt_7 : decode cX8_blunt 7 = .ok (.ifCond .ne 6, 3) := by decide +kernel
theorem dX8_blunt_10 : decode cX8_blunt 10 = .ok (.bipush (-2), 2) := by decide +kernel
theorem dX8_blunt_12 : decode cX8_blunt 12 = .ok (.ireturn, 1) := by decide +kernel
theorem dX8_blunt_13 : decode cX8_blunt 13 = .ok (.iconst (-1), 1) := by decide +kernel
theorem dX8_blunt_14 : decode cX8_blunt 14 = .ok (.istore_n 1, 1) := by decide +kernel
theorem dX8_blunt_15 : decode cX8_blunt 15 = .ok (.aload_n 0, 1) := by decide +kernel
theorem dX8_blunt_16 : decode cX8_blunt 16 = .ok (.invokevirtual 189, 3) := by decide +kernel
theorem dX8_blunt_19 : decode cX8_blunt 19 = .ok (.invokevirtual 217, 3) := by decide +kernel
theorem dX8_blunt_22 : decode cX8_blunt 22 = .ok (.istore_n 2, 1) := by decide +kernel
theorem dX8_blunt_23 : decode cX8_blunt 23 = .ok (.iconst 0, 1) := by decide +kernel
theorem dX8_blunt_24 : decode cX8_blunt 24 = .ok (.istore_n 3, 1) := by decide +kernel
theorem dX8_blunt_25 : decode cX8_blunt 25 = .ok (.iload_n 3, 1) := by decide +kernel
theorem dX8_blunt_26 : decode cX8_blunt 26 = .ok (.aload_n 0, 1) := by decide +kernel
theorem dX8_blunt_27 : decode cX8_blunt 27 = .ok (.getfield 32, 3) := by decide +kernel
theorem dX8_blunt_30 : decode cX8_blunt 30 = .ok (.getfield 162, 3) := by decide +kernel
theorem dX8_blunt_33 : decode cX8_blunt 33 = .ok (.if_icmp .ge 46, 3) := by decide +kernel
theorem dX8_blunt_36 : decode cX8_blunt 36 = .ok (.aload_n 0, 1) := by decide +kernel
theorem dX8_blunt_37 : decode cX8_blunt 37 = .ok (.aload_n 0, 1) := by decide +kernel
theorem dX8_blunt_38 : decode cX8_blunt 38 = .ok (.getfield 32, 3) := by decide +kernel
theorem dX8_blunt_41 : decode cX8_blunt 41 = .ok (.invokevirtual 315, 3) := by decide +kernel
theorem dX8_blunt_44 : decode cX8_blunt 44 = .ok (.iconst 1, 1) := by decide +kernel
theorem dX8_blunt_45 : decode cX8_blunt 45 = .ok (.iload_n 3, 1) := by decide +kernel
theorem dX8_blunt_46 : decode cX8_blunt 46 = .ok (.ishl, 1) := by decide +kernel
theorem dX8_blunt_47 : decode cX8_blunt 47 = .ok (.iconst (-1), 1) := by decide +kernel
theorem dX8_blunt_48 : decode cX8_blunt 48 = .ok (.ixor, 1) := by decide +kernel
theorem dX8_blunt_49 : decode cX8_blunt 49 = .ok (.iand, 1) := by decide +kernel
theorem dX8_blunt_50 : decode cX8_blunt 50 = .ok (.invokevirtual 318, 3) := by decide +kernel
theorem dX8_blunt_53 : decode cX8_blunt 53 = .ok (.aload_n 0, 1) := by decide +kernel
theorem dX8_blunt_54 : decode cX8_blunt 54 = .ok (.getfield 59, 3) := by decide +kernel
theorem dX8_blunt_57 : decode cX8_blunt 57 = .ok (.invokevirtual 217, 3) := by decide +kernel
theorem dX8_blunt_60 : decode cX8_blunt 60 = .ok (.istore 4, 2) := by decide +kernel
theorem dX8_blunt_62 : decode cX8_blunt 62 = .ok (.iload 4, 2) := by decide +kernel
theorem dX8_blunt_64 : decode cX8_blunt 64 = .ok (.iload_n 2, 1) := by decide +kernel
theorem dX8_blunt_65 : decode cX8_blunt 65 = .ok (.if_icmp .le 8, 3) := by decide +kernel
theorem dX8_blunt_68 : decode cX8_blunt 68 = .ok (.iload 4, 2) := by decide +kernel
theorem dX8_blunt_70 : decode cX8_blunt 70 = .ok (.istore_n 2, 1) := by decide +kernel
theorem dX8_blunt_71 : decode cX8_blunt 71 = .ok (.iload_n 3, 1) := by decide +kernel
theorem dX8_blunt_72 : decode cX8_blunt 72 = .ok (.istore_n 1, 1) := by decide +kernel
theorem dX8_blunt_73 : decode cX8_blunt 73 = .ok (.iinc 3 1, 3) := by decide +kernel
theorem dX8_blunt_76 : decode cX8_blunt 76 = .ok (.goto (-51), 3) := by decide +kernel
theorem dX8_blunt_79 : decode cX8_blunt 79 = .ok (.iload_n 1, 1) := by decide +kernel
theorem dX8_blunt_80 : decode cX8_blunt 80 = .ok (.ireturn, 1) := by decide +kernel

theorem dX8_by_0 : decode cX8_by 0 = .ok (.aload_n 0, 1) := by decide +kernel
theorem dX8_by_1 : decode cX8_by 1 = .ok (.getfield 32, 3) := by decide +kernel
theorem dX8_by_4 : decode cX8_by 4 = .ok (.invokevirtual 153, 3) := by decide +kernel
theorem dX8_by_7 : decode cX8_by 7 = .ok (.ifCond .eq 20, 3) := by decide +kernel
theorem dX8_by_10 : decode cX8_by 10 = .ok (.iload_n 1, 1) := by decide +kernel
theorem dX8_by_11 : decode cX8_by 11 = .ok (.ifCond .lt 16, 3) := by decide +kernel
theorem dX8_by_14 : decode cX8_by 14 = .ok (.iload_n 1, 1) := by decide +kernel
theorem dX8_by_15 : decode cX8_by 15 = .ok (.iconst 4, 1) := by decide +kernel
theorem dX8_by_16 : decode cX8_by 16 = .ok (.if_icmp .ge 11, 3) := by decide +kernel
theorem dX8_by_19 : decode cX8_by 19 = .ok (.aload_n 0, 1) := by decide +kernel
theorem dX8_by_20 : decode cX8_by 20 = .ok (.iload_n 1, 1) := by decide +kernel
theorem dX8_by_21 : decode cX8_by 21 = .ok (.invokevirtual 326, 3) := by decide +kernel
theorem dX8_by_24 : decode cX8_by 24 = .ok (.goto 5, 3) := by decide +kernel
theorem dX8_by_27 : decode cX8_by 27 = .ok (.bipush (-2), 2) := by decide +kernel
theorem dX8_by_29 : decode cX8_by 29 = .ok (.ireturn, 1) := by decide +kernel

theorem dX8_chance_0 : decode cX8_chance 0 = .ok (.aload_n 0, 1) := by decide +kernel
theorem dX8_chance_1 : decode cX8_chance 1 = .ok (.getfield 32, 3) := by decide +kernel
theorem dX8_chance_4 : decode cX8_chance 4 = .ok (.iload_n 1, 1) := by decide +kernel
theorem dX8_chance_5 : decode cX8_chance 5 = .ok (.invokevirtual 127, 3) := by decide +kernel
theorem dX8_chance_8 : decode cX8_chance 8 = .ok (.ifCond .eq 10, 3) := by decide +kernel
theorem dX8_chance_11 : decode cX8_chance 11 = .ok (.iload_n 2, 1) := by decide +kernel
theorem dX8_chance_12 : decode cX8_chance 12 = .ok (.invokestatic 263, 3) := by decide +kernel
theorem dX8_chance_15 : decode cX8_chance 15 = .ok (.ifCond .ne 6, 3) := by decide +kernel
theorem dX8_chance_18 : decode cX8_chance 18 = .ok (.bipush (-2), 2) := by decide +kernel
theorem dX8_chance_20 : decode cX8_chance 20 = .ok (.ireturn, 1) := by decide +kernel
theorem dX8_chance_21 : decode cX8_chance 21 = .ok (.aload_n 0, 1) := by decide +kernel
theorem dX8_chance_22 : decode cX8_chance 22 = .ok (.invokevirtual 348, 3) := by decide +kernel
theorem dX8_chance_25 : decode cX8_chance 25 = .ok (.aload_n 0, 1) := by decide +kernel
theorem dX8_chance_26 : decode cX8_chance 26 = .ok (.getfield 74, 3) := by decide +kernel
theorem dX8_chance_29 : decode cX8_chance 29 = .ok (.getfield 351, 3) := by decide +kernel
theorem dX8_chance_32 : decode cX8_chance 32 = .ok (.iload_n 1, 1) := by decide +kernel
theorem dX8_chance_33 : decode cX8_chance 33 = .ok (.laload, 1) := by decide +kernel
theorem dX8_chance_34 : decode cX8_chance 34 = .ok (.aload_n 0, 1) := by decide +kernel
theorem dX8_chance_35 : decode cX8_chance 35 = .ok (.getfield 74, 3) := by decide +kernel
theorem dX8_chance_38 : decode cX8_chance 38 = .ok (.getfield 355, 3) := by decide +kernel
theorem dX8_chance_41 : decode cX8_chance 41 = .ok (.iload_n 2, 1) := by decide +kernel
theorem dX8_chance_42 : decode cX8_chance 42 = .ok (.invokestatic 270, 3) := by decide +kernel
theorem dX8_chance_45 : decode cX8_chance 45 = .ok (.l2i, 1) := by decide +kernel
theorem dX8_chance_46 : decode cX8_chance 46 = .ok (.ireturn, 1) := by decide +kernel

theorem dX8_charms_0 : decode cX8_charms 0 = .ok (.aload_n 0, 1) := by decide +kernel
theorem dX8_charms_1 : decode cX8_charms 1 = .ok (.getfield 32, 3) := by decide +kernel
theorem dX8_charms_4 : decode cX8_charms 4 = .ok (.invokevirtual 153, 3) := by decide +kernel
theorem dX8_charms_7 : decode cX8_charms 7 = .ok (.ifCond .ne 6, 3) := by decide +kernel
theorem dX8_charms_10 : decode cX8_charms 10 = .ok (.bipush (-2), 2) := by decide +kernel
theorem dX8_charms_12 : decode cX8_charms 12 = .ok (.ireturn, 1) := by decide +kernel
theorem dX8_charms_13 : decode cX8_charms 13 = .ok (.aload_n 0, 1) := by decide +kernel
theorem dX8_charms_14 : decode cX8_charms 14 = .ok (.invokevirtual 240, 3) := by decide +kernel
theorem dX8_charms_17 : decode cX8_charms 17 = .ok (.istore_n 1, 1) := by decide +kernel
theorem dX8_charms_18 : decode cX8_charms 18 = .ok (.iconst 0, 1) := by decide +kernel
theorem dX8_charms_19 : decode cX8_charms 19 = .ok (.istore_n 2, 1) := by decide +kernel
theorem dX8_charms_20 : decode cX8_charms 20 = .ok (.iconst 0, 1) := by decide +kernel
theorem dX8_charms_21 : decode cX8_charms 21 = .ok (.istore_n 3, 1) := by decide +kernel
theorem dX8_charms_22 : decode cX8_charms 22 = .ok (.iload_n 3, 1) := by decide +kernel
theorem dX8_charms_23 : decode cX8_charms 23 = .ok (.aload_n 0, 1) := by decide +kernel
theorem dX8_charms_24 : decode cX8_charms 24 = .ok (.getfield 32, 3) := by decide +kernel
theorem dX8_charms_27 : decode cX8_charms 27 = .ok (.getfield 156, 3) := by decide +kernel
theorem dX8_charms_30 : decode cX8_charms 30 = .ok (.if_icmp .ge 33, 3) := by decide +kernel
theorem dX8_charms_33 : decode cX8_charms 33 = .ok (.iload_n 2, 1) := by decide +kernel
theorem dX8_charms_34 : decode cX8_charms 34 = .ok (.iload_n 1, 1) := by decide +kernel
theorem dX8_charms_35 : decode cX8_charms 35 = .ok (.iload_n 3, 1) := by decide +kernel
theorem dX8_charms_36 : decode cX8_charms 36 = .ok (.invokestatic 145, 3) := by decide +kernel
theorem dX8_charms_39 : decode cX8_charms 39 = .ok (.ifCond .eq 15, 3) := by decide +kernel
theorem dX8_charms_42 : decode cX8_charms 42 = .ok (.aload_n 0, 1) := by decide +kernel
theorem dX8_charms_43 : decode cX8_charms 43 = .ok (.getfield 32, 3) := by decide +kernel
theorem dX8_charms_46 : decode cX8_charms 46 = .ok (.getfield 131, 3) := by decide +kernel
theorem dX8_charms_49 : decode cX8_charms 49 = .ok (.iload_n 3, 1) := by decide +kernel
theorem dX8_charms_50 : decode cX8_charms 50 = .ok (.iaload, 1) := by decide +kernel
theorem dX8_charms_51 : decode cX8_charms 51 = .ok (.goto 4, 3) := by decide +kernel
theorem dX8_charms_54 : decode cX8_charms 54 = .ok (.iconst 0, 1) := by decide +kernel
theorem dX8_charms_55 : decode cX8_charms 55 = .ok (.iadd, 1) := by decide +kernel
theorem dX8_charms_56 : decode cX8_charms 56 = .ok (.istore_n 2, 1) := by decide +kernel
theorem dX8_charms_57 : decode cX8_charms 57 = .ok (.iinc 3 1, 3) := by decide +kernel
theorem dX8_charms_60 : decode cX8_charms 60 = .ok (.goto (-38), 3) := by decide +kernel
theorem dX8_charms_63 : decode cX8_charms 63 = .ok (.iload_n 2, 1) := by decide +kernel
theorem dX8_charms_64 : decode cX8_charms 64 = .ok (.ireturn, 1) := by decide +kernel

theorem dX8_count_0 : decode cX8_count 0 = .ok (.iload_n 1, 1) := by decide +kernel
theorem dX8_count_1 : decode cX8_count 1 = .ok (.tableswitch 135 0 9 #[55, 63, 71, 79, 87, 95, 103, 111, 119, 127], 55) := by decide +kernel
theorem dX8_count_56 : decode cX8_count 56 = .ok (.aload_n 0, 1) := by decide +kernel
theorem dX8_count_57 : decode cX8_count 57 = .ok (.getfield 32, 3) := by decide +kernel
theorem dX8_count_60 : decode cX8_count 60 = .ok (.getfield 168, 3) := by decide +kernel
theorem dX8_count_63 : decode cX8_count 63 = .ok (.ireturn, 1) := by decide +kernel
theorem dX8_count_64 : decode cX8_count 64 = .ok (.aload_n 0, 1) := by decide +kernel
theorem dX8_count_65 : decode cX8_count 65 = .ok (.getfield 32, 3) := by decide +kernel
theorem dX8_count_68 : decode cX8_count 68 = .ok (.getfield 171, 3) := by decide +kernel
theorem dX8_count_71 : decode cX8_count 71 = .ok (.ireturn, 1) := by decide +kernel
theorem dX8_count_72 : decode cX8_count 72 = .ok (.aload_n 0, 1) := by decide +kernel
theorem dX8_count_73 : decode cX8_count 73 = .ok (.getfield 32, 3) := by decide +kernel
theorem dX8_count_76 : decode cX8_count 76 = .ok (.getfield 174, 3) := by decide +kernel
theorem dX8_count_79 : decode cX8_count 79 = .ok (.ireturn, 1) := by decide +kernel
theorem dX8_count_80 : decode cX8_count 80 = .ok (.aload_n 0, 1) := by decide +kernel
theorem dX8_count_81 : decode cX8_count 81 = .ok (.getfield 32, 3) := by decide +kernel
theorem dX8_count_84 : decode cX8_count 84 = .ok (.getfield 156, 3) := by decide +kernel
theorem dX8_count_87 : decode cX8_count 87 = .ok (.ireturn, 1) := by decide +kernel
theorem dX8_count_88 : decode cX8_count 88 = .ok (.aload_n 0, 1) := by decide +kernel
theorem dX8_count_89 : decode cX8_count 89 = .ok (.getfield 32, 3) := by decide +kernel
theorem dX8_count_92 : decode cX8_count 92 = .ok (.getfield 176, 3) := by decide +kernel
theorem dX8_count_95 : decode cX8_count 95 = .ok (.ireturn, 1) := by decide +kernel
theorem dX8_count_96 : decode cX8_count 96 = .ok (.aload_n 0, 1) := by decide +kernel
theorem dX8_count_97 : decode cX8_count 97 = .ok (.getfield 32, 3) := by decide +kernel
theorem dX8_count_100 : decode cX8_count 100 = .ok (.getfield 162, 3) := by decide +kernel
theorem dX8_count_103 : decode cX8_count 103 = .ok (.ireturn, 1) := by decide +kernel
theorem dX8_count_104 : decode cX8_count 104 = .ok (.aload_n 0, 1) := by decide +kernel
theorem dX8_count_105 : decode cX8_count 105 = .ok (.getfield 32, 3) := by decide +kernel
theorem dX8_count_108 : decode cX8_count 108 = .ok (.getfield 179, 3) := by decide +kernel
theorem dX8_count_111 : decode cX8_count 111 = .ok (.ireturn, 1) := by decide +kernel
theorem dX8_count_112 : decode cX8_count 112 = .ok (.aload_n 0, 1) := by decide +kernel
theorem dX8_count_113 : decode cX8_count 113 = .ok (.getfield 32, 3) := by decide +kernel
theorem dX8_count_116 : decode cX8_count 116 = .ok (.getfield 118, 3) := by decide +kernel
theorem dX8_count_119 : decode cX8_count 119 = .ok (.ireturn, 1) := by decide +kernel
theorem dX8_count_120 : decode cX8_count 120 = .ok (.aload_n 0, 1) := by decide +kernel
theorem dX8_count_121 : decode cX8_count 121 = .ok (.getfield 10, 3) := by decide +kernel
theorem dX8_count_124 : decode cX8_count 124 = .ok (.getfield 106, 3) := by decide +kernel
theorem dX8_count_127 : decode cX8_count 127 = .ok (.ireturn, 1) := by decide +kernel
theorem dX8_count_128 : decode cX8_count 128 = .ok (.aload_n 0, 1) := by decide +kernel
theorem dX8_count_129 : decode cX8_count 129 = .ok (.getfield 46, 3) := by decide +kernel
theorem dX8_count_132 : decode cX8_count 132 = .ok (.invokevirtual 182, 3) := by decide +kernel
theorem dX8_count_135 : decode cX8_count 135 = .ok (.ireturn, 1) := by decide +kernel
theorem dX8_count_136 : decode cX8_count 136 = .ok (.iconst (-1), 1) := by decide +kernel
theorem dX8_count_137 : decode cX8_count 137 = .ok (.ireturn, 1) := by decide +kernel

theorem dX8_cut_0 : decode cX8_cut 0 = .ok (.aload_n 0, 1) := by decide +kernel
theorem dX8_cut_1 : decode cX8_cut 1 = .ok (.getfield 32, 3) := by decide +kernel
theorem dX8_cut_4 : decode cX8_cut 4 = .ok (.iload_n 1, 1) := by decide +kernel
theorem dX8_cut_5 : decode cX8_cut 5 = .ok (.invokevirtual 196, 3) := by decide +kernel
theorem dX8_cut_8 : decode cX8_cut 8 = .ok (.ifCond .ne 6, 3) := by decide +kernel
theorem dX8_cut_11 : decode cX8_cut 11 = .ok (.bipush (-2), 2) := by decide +kernel
theorem dX8_cut_13 : decode cX8_cut 13 = .ok (.ireturn, 1) := by decide +kernel
theorem dX8_cut_14 : decode cX8_cut 14 = .ok (.aload_n 0, 1) := by decide +kernel
theorem dX8_cut_15 : decode cX8_cut 15 = .ok (.invokevirtual 189, 3) := by decide +kernel
theorem dX8_cut_18 : decode cX8_cut 18 = .ok (.iload_n 1, 1) := by decide +kernel
theorem dX8_cut_19 : decode cX8_cut 19 = .ok (.invokevirtual 199, 3) := by decide +kernel
theorem dX8_cut_22 : decode cX8_cut 22 = .ok (.istore_n 2, 1) := by decide +kernel
theorem dX8_cut_23 : decode cX8_cut 23 = .ok (.iconst 0, 1) := by decide +kernel
theorem dX8_cut_24 : decode cX8_cut 24 = .ok (.istore_n 3, 1) := by decide +kernel
theorem dX8_cut_25 : decode cX8_cut 25 = .ok (.iconst 0, 1) := by decide +kernel
theorem dX8_cut_26 : decode cX8_cut 26 = .ok (.istore 4, 2) := by decide +kernel
theorem dX8_cut_28 : decode cX8_cut 28 = .ok (.iload 4, 2) := by decide +kernel
theorem dX8_cut_30 : decode cX8_cut 30 = .ok (.aload_n 0, 1) := by decide +kernel
theorem dX8_cut_31 : decode cX8_cut 31 = .ok (.getfield 32, 3) := by decide +kernel
theorem dX8_cut_34 : decode cX8_cut 34 = .ok (.getfield 176, 3) := by decide +kernel
theorem dX8_cut_37 : decode cX8_cut 37 = .ok (.if_icmp .ge 50, 3) := by decide +kernel
theorem dX8_cut_40 : decode cX8_cut 40 = .ok (.iload_n 2, 1) := by decide +kernel
theorem dX8_cut_41 : decode cX8_cut 41 = .ok (.aload_n 0, 1) := by decide +kernel
theorem dX8_cut_42 : decode cX8_cut 42 = .ok (.getfield 32, 3) := by decide +kernel
theorem dX8_cut_45 : decode cX8_cut 45 = .ok (.getfield 228, 3) := by decide +kernel
theorem dX8_cut_48 : decode cX8_cut 48 = .ok (.iload 4, 2) := by decide +kernel
theorem dX8_cut_50 : decode cX8_cut 50 = .ok (.iaload, 1) := by decide +kernel
theorem dX8_cut_51 : decode cX8_cut 51 = .ok (.invokestatic 145, 3) := by decide +kernel
theorem dX8_cut_54 : decode cX8_cut 54 = .ok (.ifCond .ne 20, 3) := by decide +kernel
theorem dX8_cut_57 : decode cX8_cut 57 = .ok (.iload_n 2, 1) := by decide +kernel
theorem dX8_cut_58 : decode cX8_cut 58 = .ok (.aload_n 0, 1) := by decide +kernel
theorem dX8_cut_59 : decode cX8_cut 59 = .ok (.getfield 32, 3) := by decide +kernel
theorem dX8_cut_62 : decode cX8_cut 62 = .ok (.getfield 231, 3) := by decide +kernel
theorem dX8_cut_65 : decode cX8_cut 65 = .ok (.iload 4, 2) := by decide +kernel
theorem dX8_cut_67 : decode cX8_cut 67 = .ok (.iaload, 1) := by decide +kernel
theorem dX8_cut_68 : decode cX8_cut 68 = .ok (.invokestatic 145, 3) := by decide +kernel
theorem dX8_cut_71 : decode cX8_cut 71 = .ok (.ifCond .eq 10, 3) := by decide +kernel
theorem dX8_cut_74 : decode cX8_cut 74 = .ok (.iload_n 3, 1) := by decide +kernel
theorem dX8_cut_75 : decode cX8_cut 75 = .ok (.iconst 1, 1) := by decide +kernel
theorem dX8_cut_76 : decode cX8_cut 76 = .ok (.iload 4, 2) := by decide +kernel
theorem dX8_cut_78 : decode cX8_cut 78 = .ok (.ishl, 1) := by decide +kernel
theorem dX8_cut_79 : decode cX8_cut 79 = .ok (.ior, 1) := by decide +kernel
theorem dX8_cut_80 : decode cX8_cut 80 = .ok (.istore_n 3, 1) := by decide +kernel
theorem dX8_cut_81 : decode cX8_cut 81 = .ok (.iinc 4 1, 3) := by decide +kernel
theorem dX8_cut_84 : decode cX8_cut 84 = .ok (.goto (-56), 3) := by decide +kernel
theorem dX8_cut_87 : decode cX8_cut 87 = .ok (.iload_n 3, 1) := by decide +kernel
theorem dX8_cut_88 : decode cX8_cut 88 = .ok (.ireturn, 1) := by decide +kernel

theorem dX8_dies_0 : decode cX8_dies 0 = .ok (.aload_n 0, 1) := by decide +kernel
theorem dX8_dies_1 : decode cX8_dies 1 = .ok (.getfield 32, 3) := by decide +kernel
theorem dX8_dies_4 : decode cX8_dies 4 = .ok (.iload_n 1, 1) := by decide +kernel
theorem dX8_dies_5 : decode cX8_dies 5 = .ok (.invokevirtual 127, 3) := by decide +kernel
theorem dX8_dies_8 : decode cX8_dies 8 = .ok (.ifCond .ne 6, 3) := by decide +kernel
theorem dX8_dies_11 : decode cX8_dies 11 = .ok (.bipush (-2), 2) := by decide +kernel
theorem dX8_dies_13 : decode cX8_dies 13 = .ok (.ireturn, 1) := by decide +kernel
theorem dX8_dies_14 : decode cX8_dies 14 = .ok (.iconst 0, 1) := by decide +kernel
theorem dX8_dies_15 : decode cX8_dies 15 = .ok (.istore_n 2, 1) := by decide +kernel
theorem dX8_dies_16 : decode cX8_dies 16 = .ok (.iload_n 2, 1) := by decide +kernel
theorem dX8_dies_17 : decode cX8_dies 17 = .ok (.aload_n 0, 1) := by decide +kernel
theorem dX8_dies_18 : decode cX8_dies 18 = .ok (.getfield 32, 3) := by decide +kernel
theorem dX8_dies_21 : decode cX8_dies 21 = .ok (.getfield 168, 3) := by decide +kernel
theorem dX8_dies_24 : decode cX8_dies 24 = .ok (.if_icmp .gt 23, 3) := by decide +kernel
theorem dX8_dies_27 : decode cX8_dies 27 = .ok (.aload_n 0, 1) := by decide +kernel
theorem dX8_dies_28 : decode cX8_dies 28 = .ok (.invokevirtual 189, 3) := by decide +kernel
theorem dX8_dies_31 : decode cX8_dies 31 = .ok (.iload_n 1, 1) := by decide +kernel
theorem dX8_dies_32 : decode cX8_dies 32 = .ok (.iload_n 2, 1) := by decide +kernel
theorem dX8_dies_33 : decode cX8_dies 33 = .ok (.invokevirtual 220, 3) := by decide +kernel
theorem dX8_dies_36 : decode cX8_dies 36 = .ok (.ifCond .ne 5, 3) := by decide +kernel
theorem dX8_dies_39 : decode cX8_dies 39 = .ok (.iload_n 2, 1) := by decide +kernel
theorem dX8_dies_40 : decode cX8_dies 40 = .ok (.ireturn, 1) := by decide +kernel
theorem dX8_dies_41 : decode cX8_dies 41 = .ok (.iinc 2 1, 3) := by decide +kernel
theorem dX8_dies_44 : decode cX8_dies 44 = .ok (.goto (-28), 3) := by decide +kernel
theorem dX8_dies_47 : decode cX8_dies 47 = .ok (.iconst (-1), 1) := by decide +kernel
theorem dX8_dies_48 : decode cX8_dies 48 = .ok (.ireturn, 1) := by decide +kernel

theorem dX8_done_0 : decode cX8_done 0 = .ok (.aload_n 0, 1) := by decide +kernel
theorem dX8_done_1 : decode cX8_done 1 = .ok (.getfield 32, 3) := by decide +kernel
theorem dX8_done_4 : decode cX8_done 4 = .ok (.invokevirtual 153, 3) := by decide +kernel
theorem dX8_done_7 : decode cX8_done 7 = .ok (.ifCond .ne 6, 3) := by decide +kernel
theorem dX8_done_10 : decode cX8_done 10 = .ok (.bipush (-2), 2) := by decide +kernel
theorem dX8_done_12 : decode cX8_done 12 = .ok (.ireturn, 1) := by decide +kernel
theorem dX8_done_13 : decode cX8_done 13 = .ok (.iconst 0, 1) := by decide +kernel
theorem dX8_done_14 : decode cX8_done 14 = .ok (.istore_n 1, 1) := by decide +kernel
theorem dX8_done_15 : decode cX8_done 15 = .ok (.iload_n 1, 1) := by decide +kernel
theorem dX8_done_16 : decode cX8_done 16 = .ok (.aload_n 0, 1) := by decide +kernel
theorem dX8_done_17 : decode cX8_done 17 = .ok (.getfield 32, 3) := by decide +kernel
theorem dX8_done_20 : decode cX8_done 20 = .ok (.getfield 168, 3) := by decide +kernel
theorem dX8_done_23 : decode cX8_done 23 = .ok (.if_icmp .gt 39, 3) := by decide +kernel
theorem dX8_done_26 : decode cX8_done 26 = .ok (.aload_n 0, 1) := by decide +kernel
theorem dX8_done_27 : decode cX8_done 27 = .ok (.getfield 32, 3) := by decide +kernel
theorem dX8_done_30 : decode cX8_done 30 = .ok (.getfield 156, 3) := by decide +kernel
theorem dX8_done_33 : decode cX8_done 33 = .ok (.ifCond .le 29, 3) := by decide +kernel
theorem dX8_done_36 : decode cX8_done 36 = .ok (.aload_n 0, 1) := by decide +kernel
theorem dX8_done_37 : decode cX8_done 37 = .ok (.invokevirtual 189, 3) := by decide +kernel
theorem dX8_done_40 : decode cX8_done 40 = .ok (.iload_n 1, 1) := by decide +kernel
theorem dX8_done_41 : decode cX8_done 41 = .ok (.invokevirtual 199, 3) := by decide +kernel
theorem dX8_done_44 : decode cX8_done 44 = .ok (.aload_n 0, 1) := by decide +kernel
theorem dX8_done_45 : decode cX8_done 45 = .ok (.getfield 32, 3) := by decide +kernel
theorem dX8_done_48 : decode cX8_done 48 = .ok (.invokevirtual 243, 3) := by decide +kernel
theorem dX8_done_51 : decode cX8_done 51 = .ok (.if_icmp .ne 5, 3) := by decide +kernel
theorem dX8_done_54 : decode cX8_done 54 = .ok (.iload_n 1, 1) := by decide +kernel
theorem dX8_done_55 : decode cX8_done 55 = .ok (.ireturn, 1) := by decide +kernel
theorem dX8_done_56 : decode cX8_done 56 = .ok (.iinc 1 1, 3) := by decide +kernel
theorem dX8_done_59 : decode cX8_done 59 = .ok (.goto (-44), 3) := by decide +kernel
theorem dX8_done_62 : decode cX8_done 62 = .ok (.iconst (-1), 1) := by decide +kernel
theorem dX8_done_63 : decode cX8_done 63 = .ok (.ireturn, 1) := by decide +kernel

theorem dX8_drawn_0 : decode cX8_drawn 0 = .ok (.aload_n 0, 1) := by decide +kernel
theorem dX8_drawn_1 : decode cX8_drawn 1 = .ok (.getfield 32, 3) := by decide +kernel
theorem dX8_drawn_4 : decode cX8_drawn 4 = .ok (.invokevirtual 153, 3) := by decide +kernel
theorem dX8_drawn_7 : decode cX8_drawn 7 = .ok (.ifCond .eq 19, 3) := by decide +kernel
theorem dX8_drawn_10 : decode cX8_drawn 10 = .ok (.iload_n 1, 1) := by decide +kernel
theorem dX8_drawn_11 : decode cX8_drawn 11 = .ok (.invokestatic 364, 3) := by decide +kernel
theorem dX8_drawn_14 : decode cX8_drawn 14 = .ok (.ifCond .eq 12, 3) := by decide +kernel
theorem dX8_drawn_17 : decode cX8_drawn 17 = .ok (.iload_n 2, 1) := by decide +kernel
theorem dX8_drawn_18 : decode cX8_drawn 18 = .ok (.ifCond .eq 11, 3) := by decide +kernel
theorem dX8_drawn_21 : decode cX8_drawn 21 = .ok (.iload_n 2, 1) := by decide +kernel
theorem dX8_drawn_22 : decode cX8_drawn 22 = .ok (.iconst 1, 1) := by decide +kernel
theorem dX8_drawn_23 : decode cX8_drawn 23 = .ok (.if_icmp .eq 6, 3) := by decide +kernel
theorem dX8_drawn_26 : decode cX8_drawn 26 = .ok (.bipush (-2), 2) := by decide +kernel
theorem dX8_drawn_28 : decode cX8_drawn 28 = .ok (.ireturn, 1) := by decide +kernel
theorem dX8_drawn_29 : decode cX8_drawn 29 = .ok (.aload_n 0, 1) := by decide +kernel
theorem dX8_drawn_30 : decode cX8_drawn 30 = .ok (.iload_n 1, 1) := by decide +kernel
theorem dX8_drawn_31 : decode cX8_drawn 31 = .ok (.i2l, 1) := by decide +kernel
theorem dX8_drawn_32 : decode cX8_drawn 32 = .ok (.invokevirtual 367, 3) := by decide +kernel
theorem dX8_drawn_35 : decode cX8_drawn 35 = .ok (.istore_n 3, 1) := by decide +kernel
theorem dX8_drawn_36 : decode cX8_drawn 36 = .ok (.iload_n 2, 1) := by decide +kernel
theorem dX8_drawn_37 : decode cX8_drawn 37 = .ok (.ifCond .ne 5, 3) := by decide +kernel
theorem dX8_drawn_40 : decode cX8_drawn 40 = .ok (.iload_n 3, 1) := by decide +kernel
theorem dX8_drawn_41 : decode cX8_drawn 41 = .ok (.ireturn, 1) := by decide +kernel
theorem dX8_drawn_42 : decode cX8_drawn 42 = .ok (.aload_n 0, 1) := by decide +kernel
theorem dX8_drawn_43 : decode cX8_drawn 43 = .ok (.iload_n 3, 1) := by decide +kernel
theorem dX8_drawn_44 : decode cX8_drawn 44 = .ok (.invokevirtual 318, 3) := by decide +kernel
theorem dX8_drawn_47 : decode cX8_drawn 47 = .ok (.aload_n 0, 1) := by decide +kernel
theorem dX8_drawn_48 : decode cX8_drawn 48 = .ok (.getfield 59, 3) := by decide +kernel
theorem dX8_drawn_51 : decode cX8_drawn 51 = .ok (.aload_n 0, 1) := by decide +kernel
theorem dX8_drawn_52 : decode cX8_drawn 52 = .ok (.getfield 32, 3) := by decide +kernel
theorem dX8_drawn_55 : decode cX8_drawn 55 = .ok (.getfield 168, 3) := by decide +kernel
theorem dX8_drawn_58 : decode cX8_drawn 58 = .ok (.invokevirtual 199, 3) := by decide +kernel
theorem dX8_drawn_61 : decode cX8_drawn 61 = .ok (.ireturn, 1) := by decide +kernel

theorem dX8_dull_0 : decode cX8_dull 0 = .ok (.aload_n 0, 1) := by decide +kernel
theorem dX8_dull_1 : decode cX8_dull 1 = .ok (.getfield 32, 3) := by decide +kernel
theorem dX8_dull_4 : decode cX8_dull 4 = .ok (.iload_n 1, 1) := by decide +kernel
theorem dX8_dull_5 : decode cX8_dull 5 = .ok (.invokevirtual 196, 3) := by decide +kernel
theorem dX8_dull_8 : decode cX8_dull 8 = .ok (.ifCond .ne 6, 3) := by decide +kernel
theorem dX8_dull_11 : decode cX8_dull 11 = .ok (.bipush (-2), 2) := by decide +kernel
theorem dX8_dull_13 : decode cX8_dull 13 = .ok (.ireturn, 1) := by decide +kernel
theorem dX8_dull_14 : decode cX8_dull 14 = .ok (.iconst 0, 1) := by decide +kernel
theorem dX8_dull_15 : decode cX8_dull 15 = .ok (.istore_n 2, 1) := by decide +kernel
theorem dX8_dull_16 : decode cX8_dull 16 = .ok (.iconst 0, 1) := by decide +kernel
theorem dX8_dull_17 : decode cX8_dull 17 = .ok (.istore_n 3, 1) := by decide +kernel
theorem dX8_dull_18 : decode cX8_dull 18 = .ok (.iload_n 3, 1) := by decide +kernel
theorem dX8_dull_19 : decode cX8_dull 19 = .ok (.aload_n 0, 1) := by decide +kernel
theorem dX8_dull_20 : decode cX8_dull 20 = .ok (.getfield 32, 3) := by decide +kernel
theorem dX8_dull_23 : decode cX8_dull 23 = .ok (.getfield 156, 3) := by decide +kernel
theorem dX8_dull_26 : decode cX8_dull 26 = .ok (.if_icmp .ge 27, 3) := by decide +kernel
theorem dX8_dull_29 : decode cX8_dull 29 = .ok (.aload_n 0, 1) := by decide +kernel
theorem dX8_dull_30 : decode cX8_dull 30 = .ok (.invokevirtual 189, 3) := by decide +kernel
theorem dX8_dull_33 : decode cX8_dull 33 = .ok (.iload_n 3, 1) := by decide +kernel
theorem dX8_dull_34 : decode cX8_dull 34 = .ok (.iload_n 1, 1) := by decide +kernel
theorem dX8_dull_35 : decode cX8_dull 35 = .ok (.invokevirtual 220, 3) := by decide +kernel
theorem dX8_dull_38 : decode cX8_dull 38 = .ok (.ifCond .ne 9, 3) := by decide +kernel
theorem dX8_dull_41 : decode cX8_dull 41 = .ok (.iload_n 2, 1) := by decide +kernel
theorem dX8_dull_42 : decode cX8_dull 42 = .ok (.iconst 1, 1) := by decide +kernel
theorem dX8_dull_43 : decode cX8_dull 43 = .ok (.iload_n 3, 1) := by decide +kernel
theorem dX8_dull_44 : decode cX8_dull 44 = .ok (.ishl, 1) := by decide +kernel
theorem dX8_dull_45 : decode cX8_dull 45 = .ok (.ior, 1) := by decide +kernel
theorem dX8_dull_46 : decode cX8_dull 46 = .ok (.istore_n 2, 1) := by decide +kernel
theorem dX8_dull_47 : decode cX8_dull 47 = .ok (.iinc 3 1, 3) := by decide +kernel
theorem dX8_dull_50 : decode cX8_dull 50 = .ok (.goto (-32), 3) := by decide +kernel
theorem dX8_dull_53 : decode cX8_dull 53 = .ok (.iload_n 2, 1) := by decide +kernel
theorem dX8_dull_54 : decode cX8_dull 54 = .ok (.ireturn, 1) := by decide +kernel

theorem dX8_end_0 : decode cX8_end 0 = .ok (.iload_n 1, 1) := by decide +kernel
theorem dX8_end_1 : decode cX8_end 1 = .ok (.ifCond .lt 14, 3) := by decide +kernel
theorem dX8_end_4 : decode cX8_end 4 = .ok (.iload_n 1, 1) := by decide +kernel
theorem dX8_end_5 : decode cX8_end 5 = .ok (.aload_n 0, 1) := by decide +kernel
theorem dX8_end_6 : decode cX8_end 6 = .ok (.getfield 10, 3) := by decide +kernel
theorem dX8_end_9 : decode cX8_end 9 = .ok (.getfield 106, 3) := by decide +kernel
theorem dX8_end_12 : decode cX8_end 12 = .ok (.if_icmp .le 5, 3) := by decide +kernel
theorem dX8_end_15 : decode cX8_end 15 = .ok (.iconst (-1), 1) := by decide +kernel
theorem dX8_end_16 : decode cX8_end 16 = .ok (.ireturn, 1) := by decide +kernel
theorem dX8_end_17 : decode cX8_end 17 = .ok (.aload_n 0, 1) := by decide +kernel
theorem dX8_end_18 : decode cX8_end 18 = .ok (.getfield 10, 3) := by decide +kernel
theorem dX8_end_21 : decode cX8_end 21 = .ok (.iload_n 1, 1) := by decide +kernel
theorem dX8_end_22 : decode cX8_end 22 = .ok (.putfield 106, 3) := by decide +kernel
theorem dX8_end_25 : decode cX8_end 25 = .ok (.iload_n 1, 1) := by decide +kernel
theorem dX8_end_26 : decode cX8_end 26 = .ok (.ireturn, 1) := by decide +kernel

theorem dX8_far_0 : decode cX8_far 0 = .ok (.aload_n 0, 1) := by decide +kernel
theorem dX8_far_1 : decode cX8_far 1 = .ok (.getfield 32, 3) := by decide +kernel
theorem dX8_far_4 : decode cX8_far 4 = .ok (.iload_n 1, 1) := by decide +kernel
theorem dX8_far_5 : decode cX8_far 5 = .ok (.invokevirtual 127, 3) := by decide +kernel
theorem dX8_far_8 : decode cX8_far 8 = .ok (.ifCond .eq 14, 3) := by decide +kernel
theorem dX8_far_11 : decode cX8_far 11 = .ok (.aload_n 0, 1) := by decide +kernel
theorem dX8_far_12 : decode cX8_far 12 = .ok (.getfield 32, 3) := by decide +kernel
theorem dX8_far_15 : decode cX8_far 15 = .ok (.iload_n 2, 1) := by decide +kernel
theorem dX8_far_16 : decode cX8_far 16 = .ok (.invokevirtual 127, 3) := by decide +kernel
theorem dX8_far_19 : decode cX8_far 19 = .ok (.ifCond .ne 6, 3) := by decide +kernel
theorem dX8_far_22 : decode cX8_far 22 = .ok (.bipush (-2), 2) := by decide +kernel
theorem dX8_far_24 : decode cX8_far 24 = .ok (.ireturn, 1) := by decide +kernel
theorem dX8_far_25 : decode cX8_far 25 = .ok (.iconst 1, 1) := by decide +kernel
theorem dX8_far_26 : decode cX8_far 26 = .ok (.iload_n 1, 1) := by decide +kernel
theorem dX8_far_27 : decode cX8_far 27 = .ok (.ishl, 1) := by decide +kernel
theorem dX8_far_28 : decode cX8_far 28 = .ok (.istore_n 3, 1) := by decide +kernel
theorem dX8_far_29 : decode cX8_far 29 = .ok (.iconst 0, 1) := by decide +kernel
theorem dX8_far_30 : decode cX8_far 30 = .ok (.istore 4, 2) := by decide +kernel
theorem dX8_far_32 : decode cX8_far 32 = .ok (.iload 4, 2) := by decide +kernel
theorem dX8_far_34 : decode cX8_far 34 = .ok (.bipush 6, 2) := by decide +kernel
theorem dX8_far_36 : decode cX8_far 36 = .ok (.if_icmp .ge 29, 3) := by decide +kernel
theorem dX8_far_39 : decode cX8_far 39 = .ok (.iload_n 3, 1) := by decide +kernel
theorem dX8_far_40 : decode cX8_far 40 = .ok (.iload_n 2, 1) := by decide +kernel
theorem dX8_far_41 : decode cX8_far 41 = .ok (.invokestatic 145, 3) := by decide +kernel
theorem dX8_far_44 : decode cX8_far 44 = .ok (.ifCond .eq 6, 3) := by decide +kernel
theorem dX8_far_47 : decode cX8_far 47 = .ok (.iload 4, 2) := by decide +kernel
theorem dX8_far_49 : decode cX8_far 49 = .ok (.ireturn, 1) := by decide +kernel
theorem dX8_far_50 : decode cX8_far 50 = .ok (.aload_n 0, 1) := by decide +kernel
theorem dX8_far_51 : decode cX8_far 51 = .ok (.getfield 32, 3) := by decide +kernel
theorem dX8_far_54 : decode cX8_far 54 = .ok (.iload_n 3, 1) := by decide +kernel
theorem dX8_far_55 : decode cX8_far 55 = .ok (.invokevirtual 149, 3) := by decide +kernel
theorem dX8_far_58 : decode cX8_far 58 = .ok (.istore_n 3, 1) := by decide +kernel
theorem dX8_far_59 : decode cX8_far 59 = .ok (.iinc 4 1, 3) := by decide +kernel
theorem dX8_far_62 : decode cX8_far 62 = .ok (.goto (-30), 3) := by decide +kernel
theorem dX8_far_65 : decode cX8_far 65 = .ok (.iconst (-1), 1) := by decide +kernel
theorem dX8_far_66 : decode cX8_far 66 = .ok (.ireturn, 1) := by decide +kernel

theorem dX8_fault_0 : decode cX8_fault 0 = .ok (.iload_n 1, 1) := by decide +kernel
theorem dX8_fault_1 : decode cX8_fault 1 = .ok (.lookupswitch 43 #[(0, 27), (1, 35)], 27) := by decide +kernel
theorem dX8_fault_28 : decode cX8_fault 28 = .ok (.aload_n 0, 1) := by decide +kernel
theorem dX8_fault_29 : decode cX8_fault 29 = .ok (.getfield 28, 3) := by decide +kernel
theorem dX8_fault_32 : decode cX8_fault 32 = .ok (.getfield 121, 3) := by decide +kernel
theorem dX8_fault_35 : decode cX8_fault 35 = .ok (.ireturn, 1) := by decide +kernel
theorem dX8_fault_36 : decode cX8_fault 36 = .ok (.aload_n 0, 1) := by decide +kernel
theorem dX8_fault_37 : decode cX8_fault 37 = .ok (.getfield 28, 3) := by decide +kernel
theorem dX8_fault_40 : decode cX8_fault 40 = .ok (.getfield 124, 3) := by decide +kernel
theorem dX8_fault_43 : decode cX8_fault 43 = .ok (.ireturn, 1) := by decide +kernel
theorem dX8_fault_44 : decode cX8_fault 44 = .ok (.iconst (-1), 1) := by decide +kernel
theorem dX8_fault_45 : decode cX8_fault 45 = .ok (.ireturn, 1) := by decide +kernel

theorem dX8_feed_0 : decode cX8_feed 0 = .ok (.aload_n 0, 1) := by decide +kernel
theorem dX8_feed_1 : decode cX8_feed 1 = .ok (.getfield 10, 3) := by decide +kernel
theorem dX8_feed_4 : decode cX8_feed 4 = .ok (.invokevirtual 98, 3) := by decide +kernel
theorem dX8_feed_7 : decode cX8_feed 7 = .ok (.ifCond .ne 5, 3) := by decide +kernel
theorem dX8_feed_10 : decode cX8_feed 10 = .ok (.iconst (-1), 1) := by decide +kernel
theorem dX8_feed_11 : decode cX8_feed 11 = .ok (.ireturn, 1) := by decide +kernel
theorem dX8_feed_12 : decode cX8_feed 12 = .ok (.aload_n 0, 1) := by decide +kernel
theorem dX8_feed_13 : decode cX8_feed 13 = .ok (.getfield 10, 3) := by decide +kernel
theorem dX8_feed_16 : decode cX8_feed 16 = .ok (.iload_n 1, 1) := by decide +kernel
theorem dX8_feed_17 : decode cX8_feed 17 = .ok (.invokevirtual 102, 3) := by decide +kernel
theorem dX8_feed_20 : decode cX8_feed 20 = .ok (.aload_n 0, 1) := by decide +kernel
theorem dX8_feed_21 : decode cX8_feed 21 = .ok (.getfield 10, 3) := by decide +kernel
theorem dX8_feed_24 : decode cX8_feed 24 = .ok (.iload_n 2, 1) := by decide +kernel
theorem dX8_feed_25 : decode cX8_feed 25 = .ok (.invokevirtual 102, 3) := by decide +kernel
theorem dX8_feed_28 : decode cX8_feed 28 = .ok (.aload_n 0, 1) := by decide +kernel
theorem dX8_feed_29 : decode cX8_feed 29 = .ok (.getfield 10, 3) := by decide +kernel
theorem dX8_feed_32 : decode cX8_feed 32 = .ok (.iload_n 3, 1) := by decide +kernel
theorem dX8_feed_33 : decode cX8_feed 33 = .ok (.invokevirtual 102, 3) := by decide +kernel
theorem dX8_feed_36 : decode cX8_feed 36 = .ok (.aload_n 0, 1) := by decide +kernel
theorem dX8_feed_37 : decode cX8_feed 37 = .ok (.getfield 10, 3) := by decide +kernel
theorem dX8_feed_40 : decode cX8_feed 40 = .ok (.iload 4, 2) := by decide +kernel
theorem dX8_feed_42 : decode cX8_feed 42 = .ok (.invokevirtual 102, 3) := by decide +kernel
theorem dX8_feed_45 : decode cX8_feed 45 = .ok (.aload_n 0, 1) := by decide +kernel
theorem dX8_feed_46 : decode cX8_feed 46 = .ok (.getfield 10, 3) := by decide +kernel
theorem dX8_feed_49 : decode cX8_feed 49 = .ok (.iload 5, 2) := by decide +kernel
theorem dX8_feed_51 : decode cX8_feed 51 = .ok (.invokevirtual 102, 3) := by decide +kernel
theorem dX8_feed_54 : decode cX8_feed 54 = .ok (.aload_n 0, 1) := by decide +kernel
theorem dX8_feed_55 : decode cX8_feed 55 = .ok (.getfield 10, 3) := by decide +kernel
theorem dX8_feed_58 : decode cX8_feed 58 = .ok (.getfield 106, 3) := by decide +kernel
theorem dX8_feed_61 : decode cX8_feed 61 = .ok (.ireturn, 1) := by decide +kernel

theorem dX8_few_0 : decode cX8_few 0 = .ok (.aload_n 0, 1) := by decide +kernel
theorem dX8_few_1 : decode cX8_few 1 = .ok (.getfield 32, 3) := by decide +kernel
theorem dX8_few_4 : decode cX8_few 4 = .ok (.invokevirtual 153, 3) := by decide +kernel
theorem dX8_few_7 : decode cX8_few 7 = .ok (.ifCond .eq 13, 3) := by decide +kernel
theorem dX8_few_10 : decode cX8_few 10 = .ok (.aload_n 0, 1) := by decide +kernel
theorem dX8_few_11 : decode cX8_few 11 = .ok (.invokevirtual 249, 3) := by decide +kernel
theorem dX8_few_14 : decode cX8_few 14 = .ok (.invokestatic 252, 3) := by decide +kernel
theorem dX8_few_17 : decode cX8_few 17 = .ok (.goto 5, 3) := by decide +kernel
theorem dX8_few_20 : decode cX8_few 20 = .ok (.bipush (-2), 2) := by decide +kernel
theorem dX8_few_22 : decode cX8_few 22 = .ok (.ireturn, 1) := by decide +kernel

theorem dX8_fews_0 : decode cX8_fews 0 = .ok (.aload_n 0, 1) := by decide +kernel
theorem dX8_fews_1 : decode cX8_fews 1 = .ok (.getfield 32, 3) := by decide +kernel
theorem dX8_fews_4 : decode cX8_fews 4 = .ok (.invokevirtual 153, 3) := by decide +kernel
theorem dX8_fews_7 : decode cX8_fews 7 = .ok (.ifCond .eq 10, 3) := by decide +kernel
theorem dX8_fews_10 : decode cX8_fews 10 = .ok (.aload_n 0, 1) := by decide +kernel
theorem dX8_fews_11 : decode cX8_fews 11 = .ok (.invokevirtual 249, 3) := by decide +kernel
theorem dX8_fews_14 : decode cX8_fews 14 = .ok (.goto 5, 3) := by decide +kernel
theorem dX8_fews_17 : decode cX8_fews 17 = .ok (.bipush (-2), 2) := by decide +kernel
theorem dX8_fews_19 : decode cX8_fews 19 = .ok (.ireturn, 1) := by decide +kernel

theorem dX8_first_0 : decode cX8_first 0 = .ok (.aload_n 0, 1) := by decide +kernel
theorem dX8_first_1 : decode cX8_first 1 = .ok (.getfield 32, 3) := by decide +kernel
theorem dX8_first_4 : decode cX8_first 4 = .ok (.invokevirtual 153, 3) := by decide +kernel
theorem dX8_first_7 : decode cX8_first 7 = .ok (.ifCond .ne 6, 3) := by decide +kernel
theorem dX8_first_10 : decode cX8_first 10 = .ok (.bipush (-2), 2) := by decide +kernel
theorem dX8_first_12 : decode cX8_first 12 = .ok (.ireturn, 1) := by decide +kernel
theorem dX8_first_13 : decode cX8_first 13 = .ok (.iconst 0, 1) := by decide +kernel
theorem dX8_first_14 : decode cX8_first 14 = .ok (.istore_n 1, 1) := by decide +kernel
theorem dX8_first_15 : decode cX8_first 15 = .ok (.iload_n 1, 1) := by decide +kernel
theorem dX8_first_16 : decode cX8_first 16 = .ok (.aload_n 0, 1) := by decide +kernel
theorem dX8_first_17 : decode cX8_first 17 = .ok (.getfield 32, 3) := by decide +kernel
theorem dX8_first_20 : decode cX8_first 20 = .ok (.getfield 168, 3) := by decide +kernel
theorem dX8_first_23 : decode cX8_first 23 = .ok (.if_icmp .ge 19, 3) := by decide +kernel
theorem dX8_first_26 : decode cX8_first 26 = .ok (.aload_n 0, 1) := by decide +kernel
theorem dX8_first_27 : decode cX8_first 27 = .ok (.iload_n 1, 1) := by decide +kernel
theorem dX8_first_28 : decode cX8_first 28 = .ok (.invokevirtual 246, 3) := by decide +kernel
theorem dX8_first_31 : decode cX8_first 31 = .ok (.ifCond .le 5, 3) := by decide +kernel
theorem dX8_first_34 : decode cX8_first 34 = .ok (.iload_n 1, 1) := by decide +kernel
theorem dX8_first_35 : decode cX8_first 35 = .ok (.ireturn, 1) := by decide +kernel
theorem dX8_first_36 : decode cX8_first 36 = .ok (.iinc 1 1, 3) := by decide +kernel
theorem dX8_first_39 : decode cX8_first 39 = .ok (.goto (-24), 3) := by decide +kernel
theorem dX8_first_42 : decode cX8_first 42 = .ok (.iconst (-1), 1) := by decide +kernel
theorem dX8_first_43 : decode cX8_first 43 = .ok (.ireturn, 1) := by decide +kernel

theorem dX8_forgetAnswers_0 : decode cX8_forgetAnswers 0 = .ok (.aload_n 0, 1) := by decide +kernel
theorem dX8_forgetAnswers_1 : decode cX8_forgetAnswers 1 = .ok (.iconst 1, 1) := by decide +kernel
theorem dX8_forgetAnswers_2 : decode cX8_forgetAnswers 2 = .ok (.putfield 87, 3) := by decide +kernel
theorem dX8_forgetAnswers_5 : decode cX8_forgetAnswers 5 = .ok (.aload_n 0, 1) := by decide +kernel
theorem dX8_forgetAnswers_6 : decode cX8_forgetAnswers 6 = .ok (.iconst 1, 1) := by decide +kernel
theorem dX8_forgetAnswers_7 : decode cX8_forgetAnswers 7 = .ok (.putfield 91, 3) := by decide +kernel
theorem dX8_forgetAnswers_10 : decode cX8_forgetAnswers 10 = .ok (.aload_n 0, 1) := by decide +kernel
theorem dX8_forgetAnswers_11 : decode cX8_forgetAnswers 11 = .ok (.iconst 0, 1) := by decide +kernel
theorem dX8_forgetAnswers_12 : decode cX8_forgetAnswers 12 = .ok (.putfield 94, 3) := by decide +kernel
theorem dX8_forgetAnswers_15 : decode cX8_forgetAnswers 15 = .ok (.return_, 1) := by decide +kernel

theorem dX8_gets_0 : decode cX8_gets 0 = .ok (.aload_n 0, 1) := by decide +kernel
theorem dX8_gets_1 : decode cX8_gets 1 = .ok (.iload_n 1, 1) := by decide +kernel
theorem dX8_gets_2 : decode cX8_gets 2 = .ok (.iload_n 2, 1) := by decide +kernel
theorem dX8_gets_3 : decode cX8_gets 3 = .ok (.invokevirtual 338, 3) := by decide +kernel
theorem dX8_gets_6 : decode cX8_gets 6 = .ok (.ifCond .eq 18, 3) := by decide +kernel
theorem dX8_gets_9 : decode cX8_gets 9 = .ok (.iload_n 3, 1) := by decide +kernel
theorem dX8_gets_10 : decode cX8_gets 10 = .ok (.invokestatic 345, 3) := by decide +kernel
theorem dX8_gets_13 : decode cX8_gets 13 = .ok (.ifCond .eq 11, 3) := by decide +kernel
theorem dX8_gets_16 : decode cX8_gets 16 = .ok (.iload 4, 2) := by decide +kernel
theorem dX8_gets_18 : decode cX8_gets 18 = .ok (.invokestatic 345, 3) := by decide +kernel
theorem dX8_gets_21 : decode cX8_gets 21 = .ok (.ifCond .ne 7, 3) := by decide +kernel
theorem dX8_gets_24 : decode cX8_gets 24 = .ok (.sipush (-1000), 3) := by decide +kernel
theorem dX8_gets_27 : decode cX8_gets 27 = .ok (.ireturn, 1) := by decide +kernel
theorem dX8_gets_28 : decode cX8_gets 28 = .ok (.aload_n 0, 1) := by decide +kernel
theorem dX8_gets_29 : decode cX8_gets 29 = .ok (.iload_n 1, 1) := by decide +kernel
theorem dX8_gets_30 : decode cX8_gets 30 = .ok (.iload_n 2, 1) := by decide +kernel
theorem dX8_gets_31 : decode cX8_gets 31 = .ok (.iload_n 3, 1) := by decide +kernel
theorem dX8_gets_32 : decode cX8_gets 32 = .ok (.iload 4, 2) := by decide +kernel
theorem dX8_gets_34 : decode cX8_gets 34 = .ok (.invokevirtual 341, 3) := by decide +kernel
theorem dX8_gets_37 : decode cX8_gets 37 = .ok (.ireturn, 1) := by decide +kernel

theorem dX8_hasPartAndYear_0 : decode cX8_hasPartAndYear 0 = .ok (.aload_n 0, 1) := by decide +kernel
theorem dX8_hasPartAndYear_1 : decode cX8_hasPartAndYear 1 = .ok (.getfield 32, 3) := by decide +kernel
theorem dX8_hasPartAndYear_4 : decode cX8_hasPartAndYear 4 = .ok (.iload_n 1, 1) := by decide +kernel
theorem dX8_hasPartAndYear_5 : decode cX8_hasPartAndYear 5 = .ok (.invokevirtual 127, 3) := by decide +kernel
theorem dX8_hasPartAndYear_8 : decode cX8_hasPartAndYear 8 = .ok (.ifCond .eq 18, 3) := by decide +kernel
theorem dX8_hasPartAndYear_11 : decode cX8_hasPartAndYear 11 = .ok (.aload_n 0, 1) := by decide +kernel
theorem dX8_hasPartAndYear_12 : decode cX8_hasPartAndYear 12 = .ok (.getfield 32, 3) := by decide +kernel
theorem dX8_hasPartAndYear_15 : decode cX8_hasPartAndYear 15 = .ok (.iload_n 2, 1) := by decide +kernel
theorem dX8_hasPartAndYear_16 : decode cX8_hasPartAndYear 16 = .ok (.invokevirtual 196, 3) := by decide +kernel
theorem dX8_hasPartAndYear_19 : decode cX8_hasPartAndYear 19 = .ok (.ifCond .eq 7, 3) := by decide +kernel
theorem dX8_hasPartAndYear_22 : decode cX8_hasPartAndYear 22 = .ok (.iconst 1, 1) := by decide +kernel
theorem dX8_hasPartAndYear_23 : decode cX8_hasPartAndYear 23 = .ok (.goto 4, 3) := by decide +kernel
theorem dX8_hasPartAndYear_26 : decode cX8_hasPartAndYear 26 = .ok (.iconst 0, 1) := by decide +kernel
theorem dX8_hasPartAndYear_27 : decode cX8_hasPartAndYear 27 = .ok (.ireturn, 1) := by decide +kernel

theorem dX8_hasPlan_0 : decode cX8_hasPlan 0 = .ok (.aload_n 0, 1) := by decide +kernel
theorem dX8_hasPlan_1 : decode cX8_hasPlan 1 = .ok (.getfield 32, 3) := by decide +kernel
theorem dX8_hasPlan_4 : decode cX8_hasPlan 4 = .ok (.invokevirtual 153, 3) := by decide +kernel
theorem dX8_hasPlan_7 : decode cX8_hasPlan 7 = .ok (.ifCond .eq 28, 3) := by decide +kernel
theorem dX8_hasPlan_10 : decode cX8_hasPlan 10 = .ok (.iload_n 1, 1) := by decide +kernel
theorem dX8_hasPlan_11 : decode cX8_hasPlan 11 = .ok (.iconst 1, 1) := by decide +kernel
theorem dX8_hasPlan_12 : decode cX8_hasPlan 12 = .ok (.if_icmp .lt 23, 3) := by decide +kernel
theorem dX8_hasPlan_15 : decode cX8_hasPlan 15 = .ok (.iload_n 1, 1) := by decide +kernel
theorem dX8_hasPlan_16 : decode cX8_hasPlan 16 = .ok (.iconst 5, 1) := by decide +kernel
theorem dX8_hasPlan_17 : decode cX8_hasPlan 17 = .ok (.if_icmp .gt 18, 3) := by decide +kernel
theorem dX8_hasPlan_20 : decode cX8_hasPlan 20 = .ok (.iload_n 1, 1) := by decide +kernel
theorem dX8_hasPlan_21 : decode cX8_hasPlan 21 = .ok (.aload_n 0, 1) := by decide +kernel
theorem dX8_hasPlan_22 : decode cX8_hasPlan 22 = .ok (.getfield 32, 3) := by decide +kernel
theorem dX8_hasPlan_25 : decode cX8_hasPlan 25 = .ok (.getfield 168, 3) := by decide +kernel
theorem dX8_hasPlan_28 : decode cX8_hasPlan 28 = .ok (.if_icmp .gt 7, 3) := by decide +kernel
theorem dX8_hasPlan_31 : decode cX8_hasPlan 31 = .ok (.iconst 1, 1) := by decide +kernel
theorem dX8_hasPlan_32 : decode cX8_hasPlan 32 = .ok (.goto 4, 3) := by decide +kernel
theorem dX8_hasPlan_35 : decode cX8_hasPlan 35 = .ok (.iconst 0, 1) := by decide +kernel
theorem dX8_hasPlan_36 : decode cX8_hasPlan 36 = .ok (.ireturn, 1) := by decide +kernel

theorem dX8_high_0 : decode cX8_high 0 = .ok (.aload_n 0, 1) := by decide +kernel
theorem dX8_high_1 : decode cX8_high 1 = .ok (.iload_n 1, 1) := by decide +kernel
theorem dX8_high_2 : decode cX8_high 2 = .ok (.iload_n 2, 1) := by decide +kernel
theorem dX8_high_3 : decode cX8_high 3 = .ok (.invokevirtual 289, 3) := by decide +kernel
theorem dX8_high_6 : decode cX8_high 6 = .ok (.istore_n 3, 1) := by decide +kernel
theorem dX8_high_7 : decode cX8_high 7 = .ok (.iload_n 3, 1) := by decide +kernel
theorem dX8_high_8 : decode cX8_high 8 = .ok (.ifCond .eq 5, 3) := by decide +kernel
theorem dX8_high_11 : decode cX8_high 11 = .ok (.iload_n 3, 1) := by decide +kernel
theorem dX8_high_12 : decode cX8_high 12 = .ok (.ireturn, 1) := by decide +kernel
theorem dX8_high_13 : decode cX8_high 13 = .ok (.aload_n 0, 1) := by decide +kernel
theorem dX8_high_14 : decode cX8_high 14 = .ok (.getfield 83, 3) := by decide +kernel
theorem dX8_high_17 : decode cX8_high 17 = .ok (.iload_n 1, 1) := by decide +kernel
theorem dX8_high_18 : decode cX8_high 18 = .ok (.iload_n 2, 1) := by decide +kernel
theorem dX8_high_19 : decode cX8_high 19 = .ok (.aload_n 0, 1) := by decide +kernel
theorem dX8_high_20 : decode cX8_high 20 = .ok (.invokevirtual 189, 3) := by decide +kernel
theorem dX8_high_23 : decode cX8_high 23 = .ok (.invokevirtual 292, 3) := by decide +kernel
theorem dX8_high_26 : decode cX8_high 26 = .ok (.pop, 1) := by decide +kernel
theorem dX8_high_27 : decode cX8_high 27 = .ok (.aload_n 0, 1) := by decide +kernel
theorem dX8_high_28 : decode cX8_high 28 = .ok (.getfield 83, 3) := by decide +kernel
theorem dX8_high_31 : decode cX8_high 31 = .ok (.invokevirtual 299, 3) := by decide +kernel
theorem dX8_high_34 : decode cX8_high 34 = .ok (.ireturn, 1) := by decide +kernel

theorem dX8_how_0 : decode cX8_how 0 = .ok (.aload_n 0, 1) := by decide +kernel
theorem dX8_how_1 : decode cX8_how 1 = .ok (.getfield 32, 3) := by decide +kernel
theorem dX8_how_4 : decode cX8_how 4 = .ok (.iload_n 1, 1) := by decide +kernel
theorem dX8_how_5 : decode cX8_how 5 = .ok (.invokevirtual 127, 3) := by decide +kernel
theorem dX8_how_8 : decode cX8_how 8 = .ok (.ifCond .ne 6, 3) := by decide +kernel
theorem dX8_how_11 : decode cX8_how 11 = .ok (.bipush (-2), 2) := by decide +kernel
theorem dX8_how_13 : decode cX8_how 13 = .ok (.ireturn, 1) := by decide +kernel
theorem dX8_how_14 : decode cX8_how 14 = .ok (.aload_n 0, 1) := by decide +kernel
theorem dX8_how_15 : decode cX8_how 15 = .ok (.invokevirtual 189, 3) := by decide +kernel
theorem dX8_how_18 : decode cX8_how 18 = .ok (.astore_n 2, 1) := by decide +kernel
theorem dX8_how_19 : decode cX8_how 19 = .ok (.aload_n 2, 1) := by decide +kernel
theorem dX8_how_20 : decode cX8_how 20 = .ok (.iload_n 1, 1) := by decide +kernel
theorem dX8_how_21 : decode cX8_how 21 = .ok (.invokevirtual 202, 3) := by decide +kernel
theorem dX8_how_24 : decode cX8_how 24 = .ok (.iconst (-1), 1) := by decide +kernel
theorem dX8_how_25 : decode cX8_how 25 = .ok (.if_icmp .ne 5, 3) := by decide +kernel
theorem dX8_how_28 : decode cX8_how 28 = .ok (.iconst 0, 1) := by decide +kernel
theorem dX8_how_29 : decode cX8_how 29 = .ok (.ireturn, 1) := by decide +kernel
theorem dX8_how_30 : decode cX8_how 30 = .ok (.aload_n 2, 1) := by decide +kernel
theorem dX8_how_31 : decode cX8_how 31 = .ok (.getfield 205, 3) := by decide +kernel
theorem dX8_how_34 : decode cX8_how 34 = .ok (.iload_n 1, 1) := by decide +kernel
theorem dX8_how_35 : decode cX8_how 35 = .ok (.invokestatic 145, 3) := by decide +kernel
theorem dX8_how_38 : decode cX8_how 38 = .ok (.ifCond .eq 7, 3) := by decide +kernel
theorem dX8_how_41 : decode cX8_how 41 = .ok (.iconst 2, 1) := by decide +kernel
theorem dX8_how_42 : decode cX8_how 42 = .ok (.goto 4, 3) := by decide +kernel
theorem dX8_how_45 : decode cX8_how 45 = .ok (.iconst 1, 1) := by decide +kernel
theorem dX8_how_46 : decode cX8_how 46 = .ok (.ireturn, 1) := by decide +kernel

theorem dX8_idle_0 : decode cX8_idle 0 = .ok (.aload_n 0, 1) := by decide +kernel
theorem dX8_idle_1 : decode cX8_idle 1 = .ok (.getfield 32, 3) := by decide +kernel
theorem dX8_idle_4 : decode cX8_idle 4 = .ok (.invokevirtual 153, 3) := by decide +kernel
theorem dX8_idle_7 : decode cX8_idle 7 = .ok (.ifCond .ne 6, 3) := by decide +kernel
theorem dX8_idle_10 : decode cX8_idle 10 = .ok (.bipush (-2), 2) := by decide +kernel
theorem dX8_idle_12 : decode cX8_idle 12 = .ok (.ireturn, 1) := by decide +kernel
theorem dX8_idle_13 : decode cX8_idle 13 = .ok (.aload_n 0, 1) := by decide +kernel
theorem dX8_idle_14 : decode cX8_idle 14 = .ok (.invokevirtual 234, 3) := by decide +kernel
theorem dX8_idle_17 : decode cX8_idle 17 = .ok (.istore_n 1, 1) := by decide +kernel
theorem dX8_idle_18 : decode cX8_idle 18 = .ok (.iconst 0, 1) := by decide +kernel
theorem dX8_idle_19 : decode cX8_idle 19 = .ok (.istore_n 2, 1) := by decide +kernel
theorem dX8_idle_20 : decode cX8_idle 20 = .ok (.iconst 0, 1) := by decide +kernel
theorem dX8_idle_21 : decode cX8_idle 21 = .ok (.istore_n 3, 1) := by decide +kernel
theorem dX8_idle_22 : decode cX8_idle 22 = .ok (.iload_n 3, 1) := by decide +kernel
theorem dX8_idle_23 : decode cX8_idle 23 = .ok (.aload_n 0, 1) := by decide +kernel
theorem dX8_idle_24 : decode cX8_idle 24 = .ok (.getfield 32, 3) := by decide +kernel
theorem dX8_idle_27 : decode cX8_idle 27 = .ok (.getfield 162, 3) := by decide +kernel
theorem dX8_idle_30 : decode cX8_idle 30 = .ok (.if_icmp .ge 42, 3) := by decide +kernel
theorem dX8_idle_33 : decode cX8_idle 33 = .ok (.aload_n 0, 1) := by decide +kernel
theorem dX8_idle_34 : decode cX8_idle 34 = .ok (.getfield 32, 3) := by decide +kernel
theorem dX8_idle_37 : decode cX8_idle 37 = .ok (.aload_n 0, 1) := by decide +kernel
theorem dX8_idle_38 : decode cX8_idle 38 = .ok (.getfield 32, 3) := by decide +kernel
theorem dX8_idle_41 : decode cX8_idle 41 = .ok (.getfield 237, 3) := by decide +kernel
theorem dX8_idle_44 : decode cX8_idle 44 = .ok (.iload_n 3, 1) := by decide +kernel
theorem dX8_idle_45 : decode cX8_idle 45 = .ok (.iaload, 1) := by decide +kernel
theorem dX8_idle_46 : decode cX8_idle 46 = .ok (.invokevirtual 211, 3) := by decide +kernel
theorem dX8_idle_49 : decode cX8_idle 49 = .ok (.ifCond .eq 17, 3) := by decide +kernel
theorem dX8_idle_52 : decode cX8_idle 52 = .ok (.iload_n 1, 1) := by decide +kernel
theorem dX8_idle_53 : decode cX8_idle 53 = .ok (.iload_n 3, 1) := by decide +kernel
theorem dX8_idle_54 : decode cX8_idle 54 = .ok (.invokestatic 145, 3) := by decide +kernel
theorem dX8_idle_57 : decode cX8_idle 57 = .ok (.ifCond .ne 9, 3) := by decide +kernel
theorem dX8_idle_60 : decode cX8_idle 60 = .ok (.iload_n 2, 1) := by decide +kernel
theorem dX8_idle_61 : decode cX8_idle 61 = .ok (.iconst 1, 1) := by decide +kernel
theorem dX8_idle_62 : decode cX8_idle 62 = .ok (.iload_n 3, 1) := by decide +kernel
theorem dX8_idle_63 : decode cX8_idle 63 = .ok (.ishl, 1) := by decide +kernel
theorem dX8_idle_64 : decode cX8_idle 64 = .ok (.ior, 1) := by decide +kernel
theorem dX8_idle_65 : decode cX8_idle 65 = .ok (.istore_n 2, 1) := by decide +kernel
theorem dX8_idle_66 : decode cX8_idle 66 = .ok (.iinc 3 1, 3) := by decide +kernel
theorem dX8_idle_69 : decode cX8_idle 69 = .ok (.goto (-47), 3) := by decide +kernel
theorem dX8_idle_72 : decode cX8_idle 72 = .ok (.iload_n 2, 1) := by decide +kernel
theorem dX8_idle_73 : decode cX8_idle 73 = .ok (.ireturn, 1) := by decide +kernel

theorem dX8_image_0 : decode cX8_image 0 = .ok (.iload_n 1, 1) := by decide +kernel
theorem dX8_image_1 : decode cX8_image 1 = .ok (.ifCond .lt 8, 3) := by decide +kernel
theorem dX8_image_4 : decode cX8_image 4 = .ok (.iload_n 1, 1) := by decide +kernel
theorem dX8_image_5 : decode cX8_image 5 = .ok (.iconst 3, 1) := by decide +kernel
theorem dX8_image_6 : decode cX8_image 6 = .ok (.if_icmp .lt 6, 3) := by decide +kernel
theorem dX8_image_9 : decode cX8_image 9 = .ok (.bipush (-2), 2) := by decide +kernel
theorem dX8_image_11 : decode cX8_image 11 = .ok (.ireturn, 1) := by decide +kernel
theorem dX8_image_12 : decode cX8_image 12 = .ok (.aload_n 0, 1) := by decide +kernel
theorem dX8_image_13 : decode cX8_image 13 = .ok (.getfield 35, 3) := by decide +kernel
theorem dX8_image_16 : decode cX8_image 16 = .ok (.iload_n 1, 1) := by decide +kernel
theorem dX8_image_17 : decode cX8_image 17 = .ok (.aaload, 1) := by decide +kernel
theorem dX8_image_18 : decode cX8_image 18 = .ok (.aload_n 0, 1) := by decide +kernel
theorem dX8_image_19 : decode cX8_image 19 = .ok (.getfield 32, 3) := by decide +kernel
theorem dX8_image_22 : decode cX8_image 22 = .ok (.invokevirtual 112, 3) := by decide +kernel
theorem dX8_image_25 : decode cX8_image 25 = .ok (.aload_n 0, 1) := by decide +kernel
theorem dX8_image_26 : decode cX8_image 26 = .ok (.getfield 39, 3) := by decide +kernel
theorem dX8_image_29 : decode cX8_image 29 = .ok (.iload_n 1, 1) := by decide +kernel
theorem dX8_image_30 : decode cX8_image 30 = .ok (.iconst 1, 1) := by decide +kernel
theorem dX8_image_31 : decode cX8_image 31 = .ok (.bastore, 1) := by decide +kernel
theorem dX8_image_32 : decode cX8_image 32 = .ok (.iconst 0, 1) := by decide +kernel
theorem dX8_image_33 : decode cX8_image 33 = .ok (.ireturn, 1) := by decide +kernel

theorem dX8_isPair_0 : decode cX8_isPair 0 = .ok (.aload_n 0, 1) := by decide +kernel
theorem dX8_isPair_1 : decode cX8_isPair 1 = .ok (.getfield 32, 3) := by decide +kernel
theorem dX8_isPair_4 : decode cX8_isPair 4 = .ok (.iload_n 1, 1) := by decide +kernel
theorem dX8_isPair_5 : decode cX8_isPair 5 = .ok (.invokevirtual 127, 3) := by decide +kernel
theorem dX8_isPair_8 : decode cX8_isPair 8 = .ok (.ifCond .eq 23, 3) := by decide +kernel
theorem dX8_isPair_11 : decode cX8_isPair 11 = .ok (.aload_n 0, 1) := by decide +kernel
theorem dX8_isPair_12 : decode cX8_isPair 12 = .ok (.getfield 32, 3) := by decide +kernel
theorem dX8_isPair_15 : decode cX8_isPair 15 = .ok (.iload_n 2, 1) := by decide +kernel
theorem dX8_isPair_16 : decode cX8_isPair 16 = .ok (.invokevirtual 127, 3) := by decide +kernel
theorem dX8_isPair_19 : decode cX8_isPair 19 = .ok (.ifCond .eq 12, 3) := by decide +kernel
theorem dX8_isPair_22 : decode cX8_isPair 22 = .ok (.iload_n 1, 1) := by decide +kernel
theorem dX8_isPair_23 : decode cX8_isPair 23 = .ok (.iload_n 2, 1) := by decide +kernel
theorem dX8_isPair_24 : decode cX8_isPair 24 = .ok (.if_icmp .eq 7, 3) := by decide +kernel
theorem dX8_isPair_27 : decode cX8_isPair 27 = .ok (.iconst 1, 1) := by decide +kernel
theorem dX8_isPair_28 : decode cX8_isPair 28 = .ok (.goto 4, 3) := by decide +kernel
theorem dX8_isPair_31 : decode cX8_isPair 31 = .ok (.iconst 0, 1) := by decide +kernel
theorem dX8_isPair_32 : decode cX8_isPair 32 = .ok (.ireturn, 1) := by decide +kernel

theorem dX8_keeps_0 : decode cX8_keeps 0 = .ok (.aload_n 0, 1) := by decide +kernel
theorem dX8_keeps_1 : decode cX8_keeps 1 = .ok (.iload_n 1, 1) := by decide +kernel
theorem dX8_keeps_2 : decode cX8_keeps 2 = .ok (.iload_n 2, 1) := by decide +kernel
theorem dX8_keeps_3 : decode cX8_keeps 3 = .ok (.invokevirtual 186, 3) := by decide +kernel
theorem dX8_keeps_6 : decode cX8_keeps 6 = .ok (.ifCond .eq 15, 3) := by decide +kernel
theorem dX8_keeps_9 : decode cX8_keeps 9 = .ok (.aload_n 0, 1) := by decide +kernel
theorem dX8_keeps_10 : decode cX8_keeps 10 = .ok (.invokevirtual 189, 3) := by decide +kernel
theorem dX8_keeps_13 : decode cX8_keeps 13 = .ok (.iload_n 1, 1) := by decide +kernel
theorem dX8_keeps_14 : decode cX8_keeps 14 = .ok (.iload_n 2, 1) := by decide +kernel
theorem dX8_keeps_15 : decode cX8_keeps 15 = .ok (.invokevirtual 220, 3) := by decide +kernel
theorem dX8_keeps_18 : decode cX8_keeps 18 = .ok (.goto 5, 3) := by decide +kernel
theorem dX8_keeps_21 : decode cX8_keeps 21 = .ok (.bipush (-2), 2) := by decide +kernel
theorem dX8_keeps_23 : decode cX8_keeps 23 = .ok (.ireturn, 1) := by decide +kernel

theorem dX8_knife_0 : decode cX8_knife 0 = .ok (.aload_n 0, 1) := by decide +kernel
theorem dX8_knife_1 : decode cX8_knife 1 = .ok (.iload_n 1, 1) := by decide +kernel
theorem dX8_knife_2 : decode cX8_knife 2 = .ok (.iload_n 2, 1) := by decide +kernel
theorem dX8_knife_3 : decode cX8_knife 3 = .ok (.invokevirtual 371, 3) := by decide +kernel
theorem dX8_knife_6 : decode cX8_knife 6 = .ok (.istore_n 3, 1) := by decide +kernel
theorem dX8_knife_7 : decode cX8_knife 7 = .ok (.iload_n 3, 1) := by decide +kernel
theorem dX8_knife_8 : decode cX8_knife 8 = .ok (.ifCond .eq 5, 3) := by decide +kernel
theorem dX8_knife_11 : decode cX8_knife 11 = .ok (.iload_n 3, 1) := by decide +kernel
theorem dX8_knife_12 : decode cX8_knife 12 = .ok (.ireturn, 1) := by decide +kernel
theorem dX8_knife_13 : decode cX8_knife 13 = .ok (.aload_n 0, 1) := by decide +kernel
theorem dX8_knife_14 : decode cX8_knife 14 = .ok (.getfield 32, 3) := by decide +kernel
theorem dX8_knife_17 : decode cX8_knife 17 = .ok (.iconst 0, 1) := by decide +kernel
theorem dX8_knife_18 : decode cX8_knife 18 = .ok (.iload_n 1, 1) := by decide +kernel
theorem dX8_knife_19 : decode cX8_knife 19 = .ok (.iload_n 2, 1) := by decide +kernel
theorem dX8_knife_20 : decode cX8_knife 20 = .ok (.invokevirtual 374, 3) := by decide +kernel
theorem dX8_knife_23 : decode cX8_knife 23 = .ok (.aload_n 0, 1) := by decide +kernel
theorem dX8_knife_24 : decode cX8_knife 24 = .ok (.invokevirtual 115, 3) := by decide +kernel
theorem dX8_knife_27 : decode cX8_knife 27 = .ok (.aload_n 0, 1) := by decide +kernel
theorem dX8_knife_28 : decode cX8_knife 28 = .ok (.invokevirtual 189, 3) := by decide +kernel
theorem dX8_knife_31 : decode cX8_knife 31 = .ok (.invokevirtual 217, 3) := by decide +kernel
theorem dX8_knife_34 : decode cX8_knife 34 = .ok (.ireturn, 1) := by decide +kernel

theorem dX8_knives_0 : decode cX8_knives 0 = .ok (.aload_n 0, 1) := by decide +kernel
theorem dX8_knives_1 : decode cX8_knives 1 = .ok (.getfield 32, 3) := by decide +kernel
theorem dX8_knives_4 : decode cX8_knives 4 = .ok (.iload_n 1, 1) := by decide +kernel
theorem dX8_knives_5 : decode cX8_knives 5 = .ok (.invokevirtual 127, 3) := by decide +kernel
theorem dX8_knives_8 : decode cX8_knives 8 = .ok (.ifCond .ne 6, 3) := by decide +kernel
theorem dX8_knives_11 : decode cX8_knives 11 = .ok (.bipush (-2), 2) := by decide +kernel
theorem dX8_knives_13 : decode cX8_knives 13 = .ok (.ireturn, 1) := by decide +kernel
theorem dX8_knives_14 : decode cX8_knives 14 = .ok (.iconst 0, 1) := by decide +kernel
theorem dX8_knives_15 : decode cX8_knives 15 = .ok (.istore_n 2, 1) := by decide +kernel
theorem dX8_knives_16 : decode cX8_knives 16 = .ok (.iconst 0, 1) := by decide +kernel
theorem dX8_knives_17 : decode cX8_knives 17 = .ok (.istore_n 3, 1) := by decide +kernel
theorem dX8_knives_18 : decode cX8_knives 18 = .ok (.iload_n 3, 1) := by decide +kernel
theorem dX8_knives_19 : decode cX8_knives 19 = .ok (.aload_n 0, 1) := by decide +kernel
theorem dX8_knives_20 : decode cX8_knives 20 = .ok (.getfield 32, 3) := by decide +kernel
theorem dX8_knives_23 : decode cX8_knives 23 = .ok (.getfield 162, 3) := by decide +kernel
theorem dX8_knives_26 : decode cX8_knives 26 = .ok (.if_icmp .ge 28, 3) := by decide +kernel
theorem dX8_knives_29 : decode cX8_knives 29 = .ok (.aload_n 0, 1) := by decide +kernel
theorem dX8_knives_30 : decode cX8_knives 30 = .ok (.getfield 32, 3) := by decide +kernel
theorem dX8_knives_33 : decode cX8_knives 33 = .ok (.getfield 165, 3) := by decide +kernel
theorem dX8_knives_36 : decode cX8_knives 36 = .ok (.iload_n 3, 1) := by decide +kernel
theorem dX8_knives_37 : decode cX8_knives 37 = .ok (.iaload, 1) := by decide +kernel
theorem dX8_knives_38 : decode cX8_knives 38 = .ok (.iload_n 1, 1) := by decide +kernel
theorem dX8_knives_39 : decode cX8_knives 39 = .ok (.if_icmp .ne 9, 3) := by decide +kernel
theorem dX8_knives_42 : decode cX8_knives 42 = .ok (.iload_n 2, 1) := by decide +kernel
theorem dX8_knives_43 : decode cX8_knives 43 = .ok (.iconst 1, 1) := by decide +kernel
theorem dX8_knives_44 : decode cX8_knives 44 = .ok (.iload_n 3, 1) := by decide +kernel
theorem dX8_knives_45 : decode cX8_knives 45 = .ok (.ishl, 1) := by decide +kernel
theorem dX8_knives_46 : decode cX8_knives 46 = .ok (.ior, 1) := by decide +kernel
theorem dX8_knives_47 : decode cX8_knives 47 = .ok (.istore_n 2, 1) := by decide +kernel
theorem dX8_knives_48 : decode cX8_knives 48 = .ok (.iinc 3 1, 3) := by decide +kernel
theorem dX8_knives_51 : decode cX8_knives 51 = .ok (.goto (-33), 3) := by decide +kernel
theorem dX8_knives_54 : decode cX8_knives 54 = .ok (.iload_n 2, 1) := by decide +kernel
theorem dX8_knives_55 : decode cX8_knives 55 = .ok (.ireturn, 1) := by decide +kernel

theorem dX8_law_0 : decode cX8_law 0 = .ok (.aload_n 0, 1) := by decide +kernel
theorem dX8_law_1 : decode cX8_law 1 = .ok (.getfield 32, 3) := by decide +kernel
theorem dX8_law_4 : decode cX8_law 4 = .ok (.invokevirtual 153, 3) := by decide +kernel
theorem dX8_law_7 : decode cX8_law 7 = .ok (.ifCond .ne 6, 3) := by decide +kernel
theorem dX8_law_10 : decode cX8_law 10 = .ok (.bipush (-2), 2) := by decide +kernel
theorem dX8_law_12 : decode cX8_law 12 = .ok (.ireturn, 1) := by decide +kernel
theorem dX8_law_13 : decode cX8_law 13 = .ok (.iconst 0, 1) := by decide +kernel
theorem dX8_law_14 : decode cX8_law 14 = .ok (.istore_n 1, 1) := by decide +kernel
theorem dX8_law_15 : decode cX8_law 15 = .ok (.iconst (-1), 1) := by decide +kernel
theorem dX8_law_16 : decode cX8_law 16 = .ok (.istore_n 2, 1) := by decide +kernel
theorem dX8_law_17 : decode cX8_law 17 = .ok (.iconst 0, 1) := by decide +kernel
theorem dX8_law_18 : decode cX8_law 18 = .ok (.istore_n 3, 1) := by decide +kernel
theorem dX8_law_19 : decode cX8_law 19 = .ok (.iload_n 3, 1) := by decide +kernel
theorem dX8_law_20 : decode cX8_law 20 = .ok (.iconst 4, 1) := by decide +kernel
theorem dX8_law_21 : decode cX8_law 21 = .ok (.if_icmp .ge 27, 3) := by decide +kernel
theorem dX8_law_24 : decode cX8_law 24 = .ok (.aload_n 0, 1) := by decide +kernel
theorem dX8_law_25 : decode cX8_law 25 = .ok (.iload_n 3, 1) := by decide +kernel
theorem dX8_law_26 : decode cX8_law 26 = .ok (.invokevirtual 326, 3) := by decide +kernel
theorem dX8_law_29 : decode cX8_law 29 = .ok (.istore 4, 2) := by decide +kernel
theorem dX8_law_31 : decode cX8_law 31 = .ok (.iload 4, 2) := by decide +kernel
theorem dX8_law_33 : decode cX8_law 33 = .ok (.iload_n 2, 1) := by decide +kernel
theorem dX8_law_34 : decode cX8_law 34 = .ok (.if_icmp .le 8, 3) := by decide +kernel
theorem dX8_law_37 : decode cX8_law 37 = .ok (.iload 4, 2) := by decide +kernel
theorem dX8_law_39 : decode cX8_law 39 = .ok (.istore_n 2, 1) := by decide +kernel
theorem dX8_law_40 : decode cX8_law 40 = .ok (.iload_n 3, 1) := by decide +kernel
theorem dX8_law_41 : decode cX8_law 41 = .ok (.istore_n 1, 1) := by decide +kernel
theorem dX8_law_42 : decode cX8_law 42 = .ok (.iinc 3 1, 3) := by decide +kernel
theorem dX8_law_45 : decode cX8_law 45 = .ok (.goto (-26), 3) := by decide +kernel
theorem dX8_law_48 : decode cX8_law 48 = .ok (.iload_n 1, 1) := by decide +kernel
theorem dX8_law_49 : decode cX8_law 49 = .ok (.ireturn, 1) := by decide +kernel

theorem dX8_laws_0 : decode cX8_laws 0 = .ok (.aload_n 0, 1) := by decide +kernel
theorem dX8_laws_1 : decode cX8_laws 1 = .ok (.getfield 32, 3) := by decide +kernel
theorem dX8_laws_4 : decode cX8_laws 4 = .ok (.invokevirtual 153, 3) := by decide +kernel
theorem dX8_laws_7 : decode cX8_laws 7 = .ok (.ifCond .eq 11, 3) := by decide +kernel
theorem dX8_laws_10 : decode cX8_laws 10 = .ok (.aload_n 0, 1) := by decide +kernel
theorem dX8_laws_11 : decode cX8_laws 11 = .ok (.iload_n 1, 1) := by decide +kernel
theorem dX8_laws_12 : decode cX8_laws 12 = .ok (.invokevirtual 312, 3) := by decide +kernel
theorem dX8_laws_15 : decode cX8_laws 15 = .ok (.goto 5, 3) := by decide +kernel
theorem dX8_laws_18 : decode cX8_laws 18 = .ok (.bipush (-2), 2) := by decide +kernel
theorem dX8_laws_20 : decode cX8_laws 20 = .ok (.istore_n 2, 1) := by decide +kernel
theorem dX8_laws_21 : decode cX8_laws 21 = .ok (.iload_n 2, 1) := by decide +kernel
theorem dX8_laws_22 : decode cX8_laws 22 = .ok (.ifCond .eq 5, 3) := by decide +kernel
theorem dX8_laws_25 : decode cX8_laws 25 = .ok (.iload_n 2, 1) := by decide +kernel
theorem dX8_laws_26 : decode cX8_laws 26 = .ok (.ireturn, 1) := by decide +kernel
theorem dX8_laws_27 : decode cX8_laws 27 = .ok (.aload_n 0, 1) := by decide +kernel
theorem dX8_laws_28 : decode cX8_laws 28 = .ok (.aload_n 0, 1) := by decide +kernel
theorem dX8_laws_29 : decode cX8_laws 29 = .ok (.getfield 32, 3) := by decide +kernel
theorem dX8_laws_32 : decode cX8_laws 32 = .ok (.invokevirtual 315, 3) := by decide +kernel
theorem dX8_laws_35 : decode cX8_laws 35 = .ok (.invokevirtual 318, 3) := by decide +kernel
theorem dX8_laws_38 : decode cX8_laws 38 = .ok (.iconst 0, 1) := by decide +kernel
theorem dX8_laws_39 : decode cX8_laws 39 = .ok (.istore_n 3, 1) := by decide +kernel
theorem dX8_laws_40 : decode cX8_laws 40 = .ok (.iconst 0, 1) := by decide +kernel
theorem dX8_laws_41 : decode cX8_laws 41 = .ok (.istore 4, 2) := by decide +kernel
theorem dX8_laws_43 : decode cX8_laws 43 = .ok (.iload 4, 2) := by decide +kernel
theorem dX8_laws_45 : decode cX8_laws 45 = .ok (.iconst 4, 1) := by decide +kernel
theorem dX8_laws_46 : decode cX8_laws 46 = .ok (.if_icmp .ge 41, 3) := by decide +kernel
theorem dX8_laws_49 : decode cX8_laws 49 = .ok (.aload_n 0, 1) := by decide +kernel
theorem dX8_laws_50 : decode cX8_laws 50 = .ok (.getfield 59, 3) := by decide +kernel
theorem dX8_laws_53 : decode cX8_laws 53 = .ok (.iload 4, 2) := by decide +kernel
theorem dX8_laws_55 : decode cX8_laws 55 = .ok (.putfield 321, 3) := by decide +kernel
theorem dX8_laws_58 : decode cX8_laws 58 = .ok (.aload_n 0, 1) := by decide +kernel
theorem dX8_laws_59 : decode cX8_laws 59 = .ok (.getfield 83, 3) := by decide +kernel
theorem dX8_laws_62 : decode cX8_laws 62 = .ok (.iload_n 1, 1) := by decide +kernel
theorem dX8_laws_63 : decode cX8_laws 63 = .ok (.iconst (-1), 1) := by decide +kernel
theorem dX8_laws_64 : decode cX8_laws 64 = .ok (.aload_n 0, 1) := by decide +kernel
theorem dX8_laws_65 : decode cX8_laws 65 = .ok (.getfield 59, 3) := by decide +kernel
theorem dX8_laws_68 : decode cX8_laws 68 = .ok (.invokevirtual 322, 3) := by decide +kernel
theorem dX8_laws_71 : decode cX8_laws 71 = .ok (.ifCond .eq 10, 3) := by decide +kernel
theorem dX8_laws_74 : decode cX8_laws 74 = .ok (.iload_n 3, 1) := by decide +kernel
theorem dX8_laws_75 : decode cX8_laws 75 = .ok (.iconst 1, 1) := by decide +kernel
theorem dX8_laws_76 : decode cX8_laws 76 = .ok (.iload 4, 2) := by decide +kernel
theorem dX8_laws_78 : decode cX8_laws 78 = .ok (.ishl, 1) := by decide +kernel
theorem dX8_laws_79 : decode cX8_laws 79 = .ok (.ior, 1) := by decide +kernel
theorem dX8_laws_80 : decode cX8_laws 80 = .ok (.istore_n 3, 1) := by decide +kernel
theorem dX8_laws_81 : decode cX8_laws 81 = .ok (.iinc 4 1, 3) := by decide +kernel
theorem dX8_laws_84 : decode cX8_laws 84 = .ok (.goto (-41), 3) := by decide +kernel
theorem dX8_laws_87 : decode cX8_laws 87 = .ok (.iload_n 3, 1) := by decide +kernel
theorem dX8_laws_88 : decode cX8_laws 88 = .ok (.ireturn, 1) := by decide +kernel

theorem dX8_leaves_0 : decode cX8_leaves 0 = .ok (.aload_n 0, 1) := by decide +kernel
theorem dX8_leaves_1 : decode cX8_leaves 1 = .ok (.iload_n 1, 1) := by decide +kernel
theorem dX8_leaves_2 : decode cX8_leaves 2 = .ok (.iload_n 2, 1) := by decide +kernel
theorem dX8_leaves_3 : decode cX8_leaves 3 = .ok (.invokevirtual 289, 3) := by decide +kernel
theorem dX8_leaves_6 : decode cX8_leaves 6 = .ok (.istore_n 3, 1) := by decide +kernel
theorem dX8_leaves_7 : decode cX8_leaves 7 = .ok (.iload_n 3, 1) := by decide +kernel
theorem dX8_leaves_8 : decode cX8_leaves 8 = .ok (.ifCond .eq 5, 3) := by decide +kernel
theorem dX8_leaves_11 : decode cX8_leaves 11 = .ok (.iload_n 3, 1) := by decide +kernel
theorem dX8_leaves_12 : decode cX8_leaves 12 = .ok (.ireturn, 1) := by decide +kernel
theorem dX8_leaves_13 : decode cX8_leaves 13 = .ok (.aload_n 0, 1) := by decide +kernel
theorem dX8_leaves_14 : decode cX8_leaves 14 = .ok (.getfield 83, 3) := by decide +kernel
theorem dX8_leaves_17 : decode cX8_leaves 17 = .ok (.iload_n 1, 1) := by decide +kernel
theorem dX8_leaves_18 : decode cX8_leaves 18 = .ok (.iload_n 2, 1) := by decide +kernel
theorem dX8_leaves_19 : decode cX8_leaves 19 = .ok (.aload_n 0, 1) := by decide +kernel
theorem dX8_leaves_20 : decode cX8_leaves 20 = .ok (.invokevirtual 189, 3) := by decide +kernel
theorem dX8_leaves_23 : decode cX8_leaves 23 = .ok (.invokevirtual 302, 3) := by decide +kernel
theorem dX8_leaves_26 : decode cX8_leaves 26 = .ok (.aload_n 0, 1) := by decide +kernel
theorem dX8_leaves_27 : decode cX8_leaves 27 = .ok (.getfield 83, 3) := by decide +kernel
theorem dX8_leaves_30 : decode cX8_leaves 30 = .ok (.getfield 309, 3) := by decide +kernel
theorem dX8_leaves_33 : decode cX8_leaves 33 = .ok (.ireturn, 1) := by decide +kernel

theorem dX8_lone_0 : decode cX8_lone 0 = .ok (.aload_n 0, 1) := by decide +kernel
theorem dX8_lone_1 : decode cX8_lone 1 = .ok (.getfield 32, 3) := by decide +kernel
theorem dX8_lone_4 : decode cX8_lone 4 = .ok (.iload_n 1, 1) := by decide +kernel
theorem dX8_lone_5 : decode cX8_lone 5 = .ok (.invokevirtual 196, 3) := by decide +kernel
theorem dX8_lone_8 : decode cX8_lone 8 = .ok (.ifCond .ne 6, 3) := by decide +kernel
theorem dX8_lone_11 : decode cX8_lone 11 = .ok (.bipush (-2), 2) := by decide +kernel
theorem dX8_lone_13 : decode cX8_lone 13 = .ok (.ireturn, 1) := by decide +kernel
theorem dX8_lone_14 : decode cX8_lone 14 = .ok (.aload_n 0, 1) := by decide +kernel
theorem dX8_lone_15 : decode cX8_lone 15 = .ok (.invokevirtual 189, 3) := by decide +kernel
theorem dX8_lone_18 : decode cX8_lone 18 = .ok (.iload_n 1, 1) := by decide +kernel
theorem dX8_lone_19 : decode cX8_lone 19 = .ok (.invokevirtual 199, 3) := by decide +kernel
theorem dX8_lone_22 : decode cX8_lone 22 = .ok (.istore_n 2, 1) := by decide +kernel
theorem dX8_lone_23 : decode cX8_lone 23 = .ok (.iconst 0, 1) := by decide +kernel
theorem dX8_lone_24 : decode cX8_lone 24 = .ok (.istore_n 3, 1) := by decide +kernel
theorem dX8_lone_25 : decode cX8_lone 25 = .ok (.iconst 0, 1) := by decide +kernel
theorem dX8_lone_26 : decode cX8_lone 26 = .ok (.istore 4, 2) := by decide +kernel
theorem dX8_lone_28 : decode cX8_lone 28 = .ok (.iload 4, 2) := by decide +kernel
theorem dX8_lone_30 : decode cX8_lone 30 = .ok (.aload_n 0, 1) := by decide +kernel
theorem dX8_lone_31 : decode cX8_lone 31 = .ok (.getfield 32, 3) := by decide +kernel
theorem dX8_lone_34 : decode cX8_lone 34 = .ok (.getfield 156, 3) := by decide +kernel
theorem dX8_lone_37 : decode cX8_lone 37 = .ok (.if_icmp .ge 51, 3) := by decide +kernel
theorem dX8_lone_40 : decode cX8_lone 40 = .ok (.aload_n 0, 1) := by decide +kernel
theorem dX8_lone_41 : decode cX8_lone 41 = .ok (.getfield 32, 3) := by decide +kernel
theorem dX8_lone_44 : decode cX8_lone 44 = .ok (.iload 4, 2) := by decide +kernel
theorem dX8_lone_46 : decode cX8_lone 46 = .ok (.iconst (-1), 1) := by decide +kernel
theorem dX8_lone_47 : decode cX8_lone 47 = .ok (.invokevirtual 141, 3) := by decide +kernel
theorem dX8_lone_50 : decode cX8_lone 50 = .ok (.istore 5, 2) := by decide +kernel
theorem dX8_lone_52 : decode cX8_lone 52 = .ok (.iload_n 2, 1) := by decide +kernel
theorem dX8_lone_53 : decode cX8_lone 53 = .ok (.iload 4, 2) := by decide +kernel
theorem dX8_lone_55 : decode cX8_lone 55 = .ok (.invokestatic 145, 3) := by decide +kernel
theorem dX8_lone_58 : decode cX8_lone 58 = .ok (.ifCond .ne 24, 3) := by decide +kernel
theorem dX8_lone_61 : decode cX8_lone 61 = .ok (.iload 5, 2) := by decide +kernel
theorem dX8_lone_63 : decode cX8_lone 63 = .ok (.ifCond .eq 19, 3) := by decide +kernel
theorem dX8_lone_66 : decode cX8_lone 66 = .ok (.iload 5, 2) := by decide +kernel
theorem dX8_lone_68 : decode cX8_lone 68 = .ok (.iload_n 2, 1) := by decide +kernel
theorem dX8_lone_69 : decode cX8_lone 69 = .ok (.iconst (-1), 1) := by decide +kernel
theorem dX8_lone_70 : decode cX8_lone 70 = .ok (.ixor, 1) := by decide +kernel
theorem dX8_lone_71 : decode cX8_lone 71 = .ok (.iand, 1) := by decide +kernel
theorem dX8_lone_72 : decode cX8_lone 72 = .ok (.ifCond .ne 10, 3) := by decide +kernel
theorem dX8_lone_75 : decode cX8_lone 75 = .ok (.iload_n 3, 1) := by decide +kernel
theorem dX8_lone_76 : decode cX8_lone 76 = .ok (.iconst 1, 1) := by decide +kernel
theorem dX8_lone_77 : decode cX8_lone 77 = .ok (.iload 4, 2) := by decide +kernel
theorem dX8_lone_79 : decode cX8_lone 79 = .ok (.ishl, 1) := by decide +kernel
theorem dX8_lone_80 : decode cX8_lone 80 = .ok (.ior, 1) := by decide +kernel
theorem dX8_lone_81 : decode cX8_lone 81 = .ok (.istore_n 3, 1) := by decide +kernel
theorem dX8_lone_82 : decode cX8_lone 82 = .ok (.iinc 4 1, 3) := by decide +kernel
theorem dX8_lone_85 : decode cX8_lone 85 = .ok (.goto (-57), 3) := by decide +kernel
theorem dX8_lone_88 : decode cX8_lone 88 = .ok (.iload_n 3, 1) := by decide +kernel
theorem dX8_lone_89 : decode cX8_lone 89 = .ok (.ireturn, 1) := by decide +kernel

theorem dX8_lost_0 : decode cX8_lost 0 = .ok (.aload_n 0, 1) := by decide +kernel
theorem dX8_lost_1 : decode cX8_lost 1 = .ok (.getfield 32, 3) := by decide +kernel
theorem dX8_lost_4 : decode cX8_lost 4 = .ok (.invokevirtual 153, 3) := by decide +kernel
theorem dX8_lost_7 : decode cX8_lost 7 = .ok (.ifCond .ne 6, 3) := by decide +kernel
theorem dX8_lost_10 : decode cX8_lost 10 = .ok (.bipush (-2), 2) := by decide +kernel
theorem dX8_lost_12 : decode cX8_lost 12 = .ok (.ireturn, 1) := by decide +kernel
theorem dX8_lost_13 : decode cX8_lost 13 = .ok (.iconst 0, 1) := by decide +kernel
theorem dX8_lost_14 : decode cX8_lost 14 = .ok (.istore_n 1, 1) := by decide +kernel
theorem dX8_lost_15 : decode cX8_lost 15 = .ok (.iconst 0, 1) := by decide +kernel
theorem dX8_lost_16 : decode cX8_lost 16 = .ok (.istore_n 2, 1) := by decide +kernel
theorem dX8_lost_17 : decode cX8_lost 17 = .ok (.iload_n 2, 1) := by decide +kernel
theorem dX8_lost_18 : decode cX8_lost 18 = .ok (.aload_n 0, 1) := by decide +kernel
theorem dX8_lost_19 : decode cX8_lost 19 = .ok (.getfield 32, 3) := by decide +kernel
theorem dX8_lost_22 : decode cX8_lost 22 = .ok (.getfield 156, 3) := by decide +kernel
theorem dX8_lost_25 : decode cX8_lost 25 = .ok (.if_icmp .ge 41, 3) := by decide +kernel
theorem dX8_lost_28 : decode cX8_lost 28 = .ok (.aload_n 0, 1) := by decide +kernel
theorem dX8_lost_29 : decode cX8_lost 29 = .ok (.invokevirtual 189, 3) := by decide +kernel
theorem dX8_lost_32 : decode cX8_lost 32 = .ok (.iload_n 2, 1) := by decide +kernel
theorem dX8_lost_33 : decode cX8_lost 33 = .ok (.invokevirtual 208, 3) := by decide +kernel
theorem dX8_lost_36 : decode cX8_lost 36 = .ok (.istore_n 3, 1) := by decide +kernel
theorem dX8_lost_37 : decode cX8_lost 37 = .ok (.iload_n 1, 1) := by decide +kernel
theorem dX8_lost_38 : decode cX8_lost 38 = .ok (.iload_n 3, 1) := by decide +kernel
theorem dX8_lost_39 : decode cX8_lost 39 = .ok (.iconst (-1), 1) := by decide +kernel
theorem dX8_lost_40 : decode cX8_lost 40 = .ok (.if_icmp .ne 7, 3) := by decide +kernel
theorem dX8_lost_43 : decode cX8_lost 43 = .ok (.iconst 0, 1) := by decide +kernel
theorem dX8_lost_44 : decode cX8_lost 44 = .ok (.goto 14, 3) := by decide +kernel
theorem dX8_lost_47 : decode cX8_lost 47 = .ok (.aload_n 0, 1) := by decide +kernel
theorem dX8_lost_48 : decode cX8_lost 48 = .ok (.getfield 32, 3) := by decide +kernel
theorem dX8_lost_51 : decode cX8_lost 51 = .ok (.getfield 131, 3) := by decide +kernel
theorem dX8_lost_54 : decode cX8_lost 54 = .ok (.iload_n 2, 1) := by decide +kernel
theorem dX8_lost_55 : decode cX8_lost 55 = .ok (.iaload, 1) := by decide +kernel
theorem dX8_lost_56 : decode cX8_lost 56 = .ok (.iload_n 3, 1) := by decide +kernel
theorem dX8_lost_57 : decode cX8_lost 57 = .ok (.isub, 1) := by decide +kernel
theorem dX8_lost_58 : decode cX8_lost 58 = .ok (.iadd, 1) := by decide +kernel
theorem dX8_lost_59 : decode cX8_lost 59 = .ok (.istore_n 1, 1) := by decide +kernel
theorem dX8_lost_60 : decode cX8_lost 60 = .ok (.iinc 2 1, 3) := by decide +kernel
theorem dX8_lost_63 : decode cX8_lost 63 = .ok (.goto (-46), 3) := by decide +kernel
theorem dX8_lost_66 : decode cX8_lost 66 = .ok (.iload_n 1, 1) := by decide +kernel
theorem dX8_lost_67 : decode cX8_lost 67 = .ok (.ireturn, 1) := by decide +kernel

theorem dX8_low_0 : decode cX8_low 0 = .ok (.aload_n 0, 1) := by decide +kernel
theorem dX8_low_1 : decode cX8_low 1 = .ok (.iload_n 1, 1) := by decide +kernel
theorem dX8_low_2 : decode cX8_low 2 = .ok (.iload_n 2, 1) := by decide +kernel
theorem dX8_low_3 : decode cX8_low 3 = .ok (.invokevirtual 289, 3) := by decide +kernel
theorem dX8_low_6 : decode cX8_low 6 = .ok (.istore_n 3, 1) := by decide +kernel
theorem dX8_low_7 : decode cX8_low 7 = .ok (.iload_n 3, 1) := by decide +kernel
theorem dX8_low_8 : decode cX8_low 8 = .ok (.ifCond .eq 5, 3) := by decide +kernel
theorem dX8_low_11 : decode cX8_low 11 = .ok (.iload_n 3, 1) := by decide +kernel
theorem dX8_low_12 : decode cX8_low 12 = .ok (.ireturn, 1) := by decide +kernel
theorem dX8_low_13 : decode cX8_low 13 = .ok (.aload_n 0, 1) := by decide +kernel
theorem dX8_low_14 : decode cX8_low 14 = .ok (.getfield 83, 3) := by decide +kernel
theorem dX8_low_17 : decode cX8_low 17 = .ok (.iload_n 1, 1) := by decide +kernel
theorem dX8_low_18 : decode cX8_low 18 = .ok (.iload_n 2, 1) := by decide +kernel
theorem dX8_low_19 : decode cX8_low 19 = .ok (.aload_n 0, 1) := by decide +kernel
theorem dX8_low_20 : decode cX8_low 20 = .ok (.invokevirtual 189, 3) := by decide +kernel
theorem dX8_low_23 : decode cX8_low 23 = .ok (.invokevirtual 292, 3) := by decide +kernel
theorem dX8_low_26 : decode cX8_low 26 = .ok (.pop, 1) := by decide +kernel
theorem dX8_low_27 : decode cX8_low 27 = .ok (.aload_n 0, 1) := by decide +kernel
theorem dX8_low_28 : decode cX8_low 28 = .ok (.getfield 83, 3) := by decide +kernel
theorem dX8_low_31 : decode cX8_low 31 = .ok (.invokevirtual 296, 3) := by decide +kernel
theorem dX8_low_34 : decode cX8_low 34 = .ok (.ireturn, 1) := by decide +kernel

theorem dX8_luck_0 : decode cX8_luck 0 = .ok (.aload_n 0, 1) := by decide +kernel
theorem dX8_luck_1 : decode cX8_luck 1 = .ok (.getfield 32, 3) := by decide +kernel
theorem dX8_luck_4 : decode cX8_luck 4 = .ok (.iload_n 3, 1) := by decide +kernel
theorem dX8_luck_5 : decode cX8_luck 5 = .ok (.invokevirtual 127, 3) := by decide +kernel
theorem dX8_luck_8 : decode cX8_luck 8 = .ok (.ifCond .eq 21, 3) := by decide +kernel
theorem dX8_luck_11 : decode cX8_luck 11 = .ok (.iload_n 1, 1) := by decide +kernel
theorem dX8_luck_12 : decode cX8_luck 12 = .ok (.invokestatic 364, 3) := by decide +kernel
theorem dX8_luck_15 : decode cX8_luck 15 = .ok (.ifCond .eq 14, 3) := by decide +kernel
theorem dX8_luck_18 : decode cX8_luck 18 = .ok (.iload_n 2, 1) := by decide +kernel
theorem dX8_luck_19 : decode cX8_luck 19 = .ok (.iconst 1, 1) := by decide +kernel
theorem dX8_luck_20 : decode cX8_luck 20 = .ok (.if_icmp .lt 9, 3) := by decide +kernel
theorem dX8_luck_23 : decode cX8_luck 23 = .ok (.iload_n 2, 1) := by decide +kernel
theorem dX8_luck_24 : decode cX8_luck 24 = .ok (.bipush 20, 2) := by decide +kernel
theorem dX8_luck_26 : decode cX8_luck 26 = .ok (.if_icmp .le 6, 3) := by decide +kernel
theorem dX8_luck_29 : decode cX8_luck 29 = .ok (.bipush (-2), 2) := by decide +kernel
theorem dX8_luck_31 : decode cX8_luck 31 = .ok (.ireturn, 1) := by decide +kernel
theorem dX8_luck_32 : decode cX8_luck 32 = .ok (.iconst 0, 1) := by decide +kernel
theorem dX8_luck_33 : decode cX8_luck 33 = .ok (.istore 4, 2) := by decide +kernel
theorem dX8_luck_35 : decode cX8_luck 35 = .ok (.iconst 0, 1) := by decide +kernel
theorem dX8_luck_36 : decode cX8_luck 36 = .ok (.istore 5, 2) := by decide +kernel
theorem dX8_luck_38 : decode cX8_luck 38 = .ok (.iload 5, 2) := by decide +kernel
theorem dX8_luck_40 : decode cX8_luck 40 = .ok (.iload_n 2, 1) := by decide +kernel
theorem dX8_luck_41 : decode cX8_luck 41 = .ok (.if_icmp .ge 54, 3) := by decide +kernel
theorem dX8_luck_44 : decode cX8_luck 44 = .ok (.aload_n 0, 1) := by decide +kernel
theorem dX8_luck_45 : decode cX8_luck 45 = .ok (.aload_n 0, 1) := by decide +kernel
theorem dX8_luck_46 : decode cX8_luck 46 = .ok (.iload_n 1, 1) := by decide +kernel
theorem dX8_luck_47 : decode cX8_luck 47 = .ok (.i2l, 1) := by decide +kernel
theorem dX8_luck_48 : decode cX8_luck 48 = .ok (.iload 5, 2) := by decide +kernel
theorem dX8_luck_50 : decode cX8_luck 50 = .ok (.i2l, 1) := by decide +kernel
theorem dX8_luck_51 : decode cX8_luck 51 = .ok (.ladd, 1) := by decide +kernel
theorem dX8_luck_52 : decode cX8_luck 52 = .ok (.invokevirtual 367, 3) := by decide +kernel
theorem dX8_luck_55 : decode cX8_luck 55 = .ok (.invokevirtual 318, 3) := by decide +kernel
theorem dX8_luck_58 : decode cX8_luck 58 = .ok (.iload 4, 2) := by decide +kernel
theorem dX8_luck_60 : decode cX8_luck 60 = .ok (.aload_n 0, 1) := by decide +kernel
theorem dX8_luck_61 : decode cX8_luck 61 = .ok (.getfield 59, 3) := by decide +kernel
theorem dX8_luck_64 : decode cX8_luck 64 = .ok (.aload_n 0, 1) := by decide +kernel
theorem dX8_luck_65 : decode cX8_luck 65 = .ok (.getfield 32, 3) := by decide +kernel
theorem dX8_luck_68 : decode cX8_luck 68 = .ok (.getfield 168, 3) := by decide +kernel
theorem dX8_luck_71 : decode cX8_luck 71 = .ok (.invokevirtual 199, 3) := by decide +kernel
theorem dX8_luck_74 : decode cX8_luck 74 = .ok (.iload_n 3, 1) := by decide +kernel
theorem dX8_luck_75 : decode cX8_luck 75 = .ok (.invokestatic 145, 3) := by decide +kernel
theorem dX8_luck_78 : decode cX8_luck 78 = .ok (.ifCond .eq 7, 3) := by decide +kernel
theorem dX8_luck_81 : decode cX8_luck 81 = .ok (.iconst 1, 1) := by decide +kernel
theorem dX8_luck_82 : decode cX8_luck 82 = .ok (.goto 4, 3) := by decide +kernel
theorem dX8_luck_85 : decode cX8_luck 85 = .ok (.iconst 0, 1) := by decide +kernel
theorem dX8_luck_86 : decode cX8_luck 86 = .ok (.iadd, 1) := by decide +kernel
theorem dX8_luck_87 : decode cX8_luck 87 = .ok (.istore 4, 2) := by decide +kernel
theorem dX8_luck_89 : decode cX8_luck 89 = .ok (.iinc 5 1, 3) := by decide +kernel
theorem dX8_luck_92 : decode cX8_luck 92 = .ok (.goto (-54), 3) := by decide +kernel
theorem dX8_luck_95 : decode cX8_luck 95 = .ok (.iload 4, 2) := by decide +kernel
theorem dX8_luck_97 : decode cX8_luck 97 = .ok (.ireturn, 1) := by decide +kernel

theorem dX8_mean_0 : decode cX8_mean 0 = .ok (.aload_n 0, 1) := by decide +kernel
theorem dX8_mean_1 : decode cX8_mean 1 = .ok (.getfield 32, 3) := by decide +kernel
theorem dX8_mean_4 : decode cX8_mean 4 = .ok (.invokevirtual 153, 3) := by decide +kernel
theorem dX8_mean_7 : decode cX8_mean 7 = .ok (.ifCond .eq 10, 3) := by decide +kernel
theorem dX8_mean_10 : decode cX8_mean 10 = .ok (.iload_n 1, 1) := by decide +kernel
theorem dX8_mean_11 : decode cX8_mean 11 = .ok (.invokestatic 263, 3) := by decide +kernel
theorem dX8_mean_14 : decode cX8_mean 14 = .ok (.ifCond .ne 7, 3) := by decide +kernel
theorem dX8_mean_17 : decode cX8_mean 17 = .ok (.ldc2_w 359, 3) := by decide +kernel
theorem dX8_mean_20 : decode cX8_mean 20 = .ok (.lreturn, 1) := by decide +kernel
theorem dX8_mean_21 : decode cX8_mean 21 = .ok (.aload_n 0, 1) := by decide +kernel
theorem dX8_mean_22 : decode cX8_mean 22 = .ok (.invokevirtual 348, 3) := by decide +kernel
theorem dX8_mean_25 : decode cX8_mean 25 = .ok (.aload_n 0, 1) := by decide +kernel
theorem dX8_mean_26 : decode cX8_mean 26 = .ok (.getfield 74, 3) := by decide +kernel
theorem dX8_mean_29 : decode cX8_mean 29 = .ok (.getfield 361, 3) := by decide +kernel
theorem dX8_mean_32 : decode cX8_mean 32 = .ok (.aload_n 0, 1) := by decide +kernel
theorem dX8_mean_33 : decode cX8_mean 33 = .ok (.getfield 74, 3) := by decide +kernel
theorem dX8_mean_36 : decode cX8_mean 36 = .ok (.getfield 355, 3) := by decide +kernel
theorem dX8_mean_39 : decode cX8_mean 39 = .ok (.iload_n 1, 1) := by decide +kernel
theorem dX8_mean_40 : decode cX8_mean 40 = .ok (.invokestatic 270, 3) := by decide +kernel
theorem dX8_mean_43 : decode cX8_mean 43 = .ok (.lreturn, 1) := by decide +kernel

theorem dX8_near_0 : decode cX8_near 0 = .ok (.aload_n 0, 1) := by decide +kernel
theorem dX8_near_1 : decode cX8_near 1 = .ok (.getfield 32, 3) := by decide +kernel
theorem dX8_near_4 : decode cX8_near 4 = .ok (.iload_n 1, 1) := by decide +kernel
theorem dX8_near_5 : decode cX8_near 5 = .ok (.invokevirtual 127, 3) := by decide +kernel
theorem dX8_near_8 : decode cX8_near 8 = .ok (.ifCond .eq 15, 3) := by decide +kernel
theorem dX8_near_11 : decode cX8_near 11 = .ok (.aload_n 0, 1) := by decide +kernel
theorem dX8_near_12 : decode cX8_near 12 = .ok (.getfield 32, 3) := by decide +kernel
theorem dX8_near_15 : decode cX8_near 15 = .ok (.iload_n 1, 1) := by decide +kernel
theorem dX8_near_16 : decode cX8_near 16 = .ok (.iconst (-1), 1) := by decide +kernel
theorem dX8_near_17 : decode cX8_near 17 = .ok (.invokevirtual 141, 3) := by decide +kernel
theorem dX8_near_20 : decode cX8_near 20 = .ok (.goto 5, 3) := by decide +kernel
theorem dX8_near_23 : decode cX8_near 23 = .ok (.bipush (-2), 2) := by decide +kernel
theorem dX8_near_25 : decode cX8_near 25 = .ok (.ireturn, 1) := by decide +kernel

theorem dX8_next_0 : decode cX8_next 0 = .ok (.aload_n 0, 1) := by decide +kernel
theorem dX8_next_1 : decode cX8_next 1 = .ok (.getfield 32, 3) := by decide +kernel
theorem dX8_next_4 : decode cX8_next 4 = .ok (.iload_n 1, 1) := by decide +kernel
theorem dX8_next_5 : decode cX8_next 5 = .ok (.invokevirtual 196, 3) := by decide +kernel
theorem dX8_next_8 : decode cX8_next 8 = .ok (.ifCond .ne 6, 3) := by decide +kernel
theorem dX8_next_11 : decode cX8_next 11 = .ok (.bipush (-2), 2) := by decide +kernel
theorem dX8_next_13 : decode cX8_next 13 = .ok (.ireturn, 1) := by decide +kernel
theorem dX8_next_14 : decode cX8_next 14 = .ok (.iconst (-1), 1) := by decide +kernel
theorem dX8_next_15 : decode cX8_next 15 = .ok (.istore_n 2, 1) := by decide +kernel
theorem dX8_next_16 : decode cX8_next 16 = .ok (.iconst (-1), 1) := by decide +kernel
theorem dX8_next_17 : decode cX8_next 17 = .ok (.istore_n 3, 1) := by decide +kernel
theorem dX8_next_18 : decode cX8_next 18 = .ok (.iconst 0, 1) := by decide +kernel
theorem dX8_next_19 : decode cX8_next 19 = .ok (.istore 4, 2) := by decide +kernel
theorem dX8_next_21 : decode cX8_next 21 = .ok (.iload 4, 2) := by decide +kernel
theorem dX8_next_23 : decode cX8_next 23 = .ok (.aload_n 0, 1) := by decide +kernel
theorem dX8_next_24 : decode cX8_next 24 = .ok (.getfield 32, 3) := by decide +kernel
theorem dX8_next_27 : decode cX8_next 27 = .ok (.getfield 156, 3) := by decide +kernel
theorem dX8_next_30 : decode cX8_next 30 = .ok (.if_icmp .ge 33, 3) := by decide +kernel
theorem dX8_next_33 : decode cX8_next 33 = .ok (.aload_n 0, 1) := by decide +kernel
theorem dX8_next_34 : decode cX8_next 34 = .ok (.invokevirtual 189, 3) := by decide +kernel
theorem dX8_next_37 : decode cX8_next 37 = .ok (.iload 4, 2) := by decide +kernel
theorem dX8_next_39 : decode cX8_next 39 = .ok (.iload_n 1, 1) := by decide +kernel
theorem dX8_next_40 : decode cX8_next 40 = .ok (.invokevirtual 220, 3) := by decide +kernel
theorem dX8_next_43 : decode cX8_next 43 = .ok (.istore 5, 2) := by decide +kernel
theorem dX8_next_45 : decode cX8_next 45 = .ok (.iload 5, 2) := by decide +kernel
theorem dX8_next_47 : decode cX8_next 47 = .ok (.iload_n 3, 1) := by decide +kernel
theorem dX8_next_48 : decode cX8_next 48 = .ok (.if_icmp .le 9, 3) := by decide +kernel
theorem dX8_next_51 : decode cX8_next 51 = .ok (.iload 5, 2) := by decide +kernel
theorem dX8_next_53 : decode cX8_next 53 = .ok (.istore_n 3, 1) := by decide +kernel
theorem dX8_next_54 : decode cX8_next 54 = .ok (.iload 4, 2) := by decide +kernel
theorem dX8_next_56 : decode cX8_next 56 = .ok (.istore_n 2, 1) := by decide +kernel
theorem dX8_next_57 : decode cX8_next 57 = .ok (.iinc 4 1, 3) := by decide +kernel
theorem dX8_next_60 : decode cX8_next 60 = .ok (.goto (-39), 3) := by decide +kernel
theorem dX8_next_63 : decode cX8_next 63 = .ok (.iload_n 2, 1) := by decide +kernel
theorem dX8_next_64 : decode cX8_next 64 = .ok (.ireturn, 1) := by decide +kernel

theorem dX8_open_0 : decode cX8_open 0 = .ok (.aload_n 0, 1) := by decide +kernel
theorem dX8_open_1 : decode cX8_open 1 = .ok (.getfield 32, 3) := by decide +kernel
theorem dX8_open_4 : decode cX8_open 4 = .ok (.iload_n 1, 1) := by decide +kernel
theorem dX8_open_5 : decode cX8_open 5 = .ok (.invokevirtual 196, 3) := by decide +kernel
theorem dX8_open_8 : decode cX8_open 8 = .ok (.ifCond .eq 14, 3) := by decide +kernel
theorem dX8_open_11 : decode cX8_open 11 = .ok (.aload_n 0, 1) := by decide +kernel
theorem dX8_open_12 : decode cX8_open 12 = .ok (.invokevirtual 189, 3) := by decide +kernel
theorem dX8_open_15 : decode cX8_open 15 = .ok (.iload_n 1, 1) := by decide +kernel
theorem dX8_open_16 : decode cX8_open 16 = .ok (.invokevirtual 199, 3) := by decide +kernel
theorem dX8_open_19 : decode cX8_open 19 = .ok (.goto 5, 3) := by decide +kernel
theorem dX8_open_22 : decode cX8_open 22 = .ok (.bipush (-2), 2) := by decide +kernel
theorem dX8_open_24 : decode cX8_open 24 = .ok (.ireturn, 1) := by decide +kernel

theorem dX8_opens_0 : decode cX8_opens 0 = .ok (.aload_n 0, 1) := by decide +kernel
theorem dX8_opens_1 : decode cX8_opens 1 = .ok (.getfield 32, 3) := by decide +kernel
theorem dX8_opens_4 : decode cX8_opens 4 = .ok (.invokevirtual 153, 3) := by decide +kernel
theorem dX8_opens_7 : decode cX8_opens 7 = .ok (.ifCond .ne 6, 3) := by decide +kernel
theorem dX8_opens_10 : decode cX8_opens 10 = .ok (.bipush (-2), 2) := by decide +kernel
theorem dX8_opens_12 : decode cX8_opens 12 = .ok (.ireturn, 1) := by decide +kernel
theorem dX8_opens_13 : decode cX8_opens 13 = .ok (.aload_n 0, 1) := by decide +kernel
theorem dX8_opens_14 : decode cX8_opens 14 = .ok (.getfield 59, 3) := by decide +kernel
theorem dX8_opens_17 : decode cX8_opens 17 = .ok (.iconst (-1), 1) := by decide +kernel
theorem dX8_opens_18 : decode cX8_opens 18 = .ok (.invokevirtual 257, 3) := by decide +kernel
theorem dX8_opens_21 : decode cX8_opens 21 = .ok (.iconst (-1), 1) := by decide +kernel
theorem dX8_opens_22 : decode cX8_opens 22 = .ok (.istore_n 1, 1) := by decide +kernel
theorem dX8_opens_23 : decode cX8_opens 23 = .ok (.iconst 0, 1) := by decide +kernel
theorem dX8_opens_24 : decode cX8_opens 24 = .ok (.istore_n 2, 1) := by decide +kernel
theorem dX8_opens_25 : decode cX8_opens 25 = .ok (.iconst 0, 1) := by decide +kernel
theorem dX8_opens_26 : decode cX8_opens 26 = .ok (.istore_n 3, 1) := by decide +kernel
theorem dX8_opens_27 : decode cX8_opens 27 = .ok (.iload_n 3, 1) := by decide +kernel
theorem dX8_opens_28 : decode cX8_opens 28 = .ok (.aload_n 0, 1) := by decide +kernel
theorem dX8_opens_29 : decode cX8_opens 29 = .ok (.getfield 32, 3) := by decide +kernel
theorem dX8_opens_32 : decode cX8_opens 32 = .ok (.getfield 156, 3) := by decide +kernel
theorem dX8_opens_35 : decode cX8_opens 35 = .ok (.if_icmp .ge 32, 3) := by decide +kernel
theorem dX8_opens_38 : decode cX8_opens 38 = .ok (.aload_n 0, 1) := by decide +kernel
theorem dX8_opens_39 : decode cX8_opens 39 = .ok (.iload_n 3, 1) := by decide +kernel
theorem dX8_opens_40 : decode cX8_opens 40 = .ok (.invokevirtual 332, 3) := by decide +kernel
theorem dX8_opens_43 : decode cX8_opens 43 = .ok (.istore 4, 2) := by decide +kernel
theorem dX8_opens_45 : decode cX8_opens 45 = .ok (.iload_n 1, 1) := by decide +kernel
theorem dX8_opens_46 : decode cX8_opens 46 = .ok (.iconst (-1), 1) := by decide +kernel
theorem dX8_opens_47 : decode cX8_opens 47 = .ok (.if_icmp .eq 9, 3) := by decide +kernel
theorem dX8_opens_50 : decode cX8_opens 50 = .ok (.iload 4, 2) := by decide +kernel
theorem dX8_opens_52 : decode cX8_opens 52 = .ok (.iload_n 2, 1) := by decide +kernel
theorem dX8_opens_53 : decode cX8_opens 53 = .ok (.if_icmp .le 8, 3) := by decide +kernel
theorem dX8_opens_56 : decode cX8_opens 56 = .ok (.iload 4, 2) := by decide +kernel
theorem dX8_opens_58 : decode cX8_opens 58 = .ok (.istore_n 2, 1) := by decide +kernel
theorem dX8_opens_59 : decode cX8_opens 59 = .ok (.iload_n 3, 1) := by decide +kernel
theorem dX8_opens_60 : decode cX8_opens 60 = .ok (.istore_n 1, 1) := by decide +kernel
theorem dX8_opens_61 : decode cX8_opens 61 = .ok (.iinc 3 1, 3) := by decide +kernel
theorem dX8_opens_64 : decode cX8_opens 64 = .ok (.goto (-37), 3) := by decide +kernel
theorem dX8_opens_67 : decode cX8_opens 67 = .ok (.iload_n 1, 1) := by decide +kernel
theorem dX8_opens_68 : decode cX8_opens 68 = .ok (.ireturn, 1) := by decide +kernel

theorem dX8_part_0 : decode cX8_part 0 = .ok (.aload_n 0, 1) := by decide +kernel
theorem dX8_part_1 : decode cX8_part 1 = .ok (.getfield 32, 3) := by decide +kernel
theorem dX8_part_4 : decode cX8_part 4 = .ok (.iload_n 1, 1) := by decide +kernel
theorem dX8_part_5 : decode cX8_part 5 = .ok (.invokevirtual 127, 3) := by decide +kernel
theorem dX8_part_8 : decode cX8_part 8 = .ok (.ifCond .ne 6, 3) := by decide +kernel
theorem dX8_part_11 : decode cX8_part 11 = .ok (.bipush (-2), 2) := by decide +kernel
theorem dX8_part_13 : decode cX8_part 13 = .ok (.ireturn, 1) := by decide +kernel
theorem dX8_part_14 : decode cX8_part 14 = .ok (.iload_n 2, 1) := by decide +kernel
theorem dX8_part_15 : decode cX8_part 15 = .ok (.tableswitch 55 0 2 #[25, 35, 45], 25) := by decide +kernel
theorem dX8_part_40 : decode cX8_part 40 = .ok (.aload_n 0, 1) := by decide +kernel
theorem dX8_part_41 : decode cX8_part 41 = .ok (.getfield 32, 3) := by decide +kernel
theorem dX8_part_44 : decode cX8_part 44 = .ok (.getfield 131, 3) := by decide +kernel
theorem dX8_part_47 : decode cX8_part 47 = .ok (.iload_n 1, 1) := by decide +kernel
theorem dX8_part_48 : decode cX8_part 48 = .ok (.iaload, 1) := by decide +kernel
theorem dX8_part_49 : decode cX8_part 49 = .ok (.ireturn, 1) := by decide +kernel
theorem dX8_part_50 : decode cX8_part 50 = .ok (.aload_n 0, 1) := by decide +kernel
theorem dX8_part_51 : decode cX8_part 51 = .ok (.getfield 32, 3) := by decide +kernel
theorem dX8_part_54 : decode cX8_part 54 = .ok (.getfield 135, 3) := by decide +kernel
theorem dX8_part_57 : decode cX8_part 57 = .ok (.iload_n 1, 1) := by decide +kernel
theorem dX8_part_58 : decode cX8_part 58 = .ok (.iaload, 1) := by decide +kernel
theorem dX8_part_59 : decode cX8_part 59 = .ok (.ireturn, 1) := by decide +kernel
theorem dX8_part_60 : decode cX8_part 60 = .ok (.aload_n 0, 1) := by decide +kernel
theorem dX8_part_61 : decode cX8_part 61 = .ok (.getfield 32, 3) := by decide +kernel
theorem dX8_part_64 : decode cX8_part 64 = .ok (.getfield 138, 3) := by decide +kernel
theorem dX8_part_67 : decode cX8_part 67 = .ok (.iload_n 1, 1) := by decide +kernel
theorem dX8_part_68 : decode cX8_part 68 = .ok (.iaload, 1) := by decide +kernel
theorem dX8_part_69 : decode cX8_part 69 = .ok (.ireturn, 1) := by decide +kernel
theorem dX8_part_70 : decode cX8_part 70 = .ok (.bipush (-2), 2) := by decide +kernel
theorem dX8_part_72 : decode cX8_part 72 = .ok (.ireturn, 1) := by decide +kernel

theorem dX8_paste_0 : decode cX8_paste 0 = .ok (.aload_n 0, 1) := by decide +kernel
theorem dX8_paste_1 : decode cX8_paste 1 = .ok (.getfield 46, 3) := by decide +kernel
theorem dX8_paste_4 : decode cX8_paste 4 = .ok (.iload_n 1, 1) := by decide +kernel
theorem dX8_paste_5 : decode cX8_paste 5 = .ok (.invokevirtual 378, 3) := by decide +kernel
theorem dX8_paste_8 : decode cX8_paste 8 = .ok (.ifCond .eq 14, 3) := by decide +kernel
theorem dX8_paste_11 : decode cX8_paste 11 = .ok (.aload_n 0, 1) := by decide +kernel
theorem dX8_paste_12 : decode cX8_paste 12 = .ok (.getfield 46, 3) := by decide +kernel
theorem dX8_paste_15 : decode cX8_paste 15 = .ok (.iload_n 3, 1) := by decide +kernel
theorem dX8_paste_16 : decode cX8_paste 16 = .ok (.invokevirtual 378, 3) := by decide +kernel
theorem dX8_paste_19 : decode cX8_paste 19 = .ok (.ifCond .ne 6, 3) := by decide +kernel
theorem dX8_paste_22 : decode cX8_paste 22 = .ok (.bipush (-2), 2) := by decide +kernel
theorem dX8_paste_24 : decode cX8_paste 24 = .ok (.ireturn, 1) := by decide +kernel
theorem dX8_paste_25 : decode cX8_paste 25 = .ok (.aload_n 0, 1) := by decide +kernel
theorem dX8_paste_26 : decode cX8_paste 26 = .ok (.getfield 46, 3) := by decide +kernel
theorem dX8_paste_29 : decode cX8_paste 29 = .ok (.iload_n 1, 1) := by decide +kernel
theorem dX8_paste_30 : decode cX8_paste 30 = .ok (.invokevirtual 384, 3) := by decide +kernel
theorem dX8_paste_33 : decode cX8_paste 33 = .ok (.ifCond .ne 14, 3) := by decide +kernel
theorem dX8_paste_36 : decode cX8_paste 36 = .ok (.aload_n 0, 1) := by decide +kernel
theorem dX8_paste_37 : decode cX8_paste 37 = .ok (.getfield 46, 3) := by decide +kernel
theorem dX8_paste_40 : decode cX8_paste 40 = .ok (.iload_n 3, 1) := by decide +kernel
theorem dX8_paste_41 : decode cX8_paste 41 = .ok (.invokevirtual 384, 3) := by decide +kernel
theorem dX8_paste_44 : decode cX8_paste 44 = .ok (.ifCond .eq 6, 3) := by decide +kernel
theorem dX8_paste_47 : decode cX8_paste 47 = .ok (.bipush (-6), 2) := by decide +kernel
theorem dX8_paste_49 : decode cX8_paste 49 = .ok (.ireturn, 1) := by decide +kernel
theorem dX8_paste_50 : decode cX8_paste 50 = .ok (.aload_n 0, 1) := by decide +kernel
theorem dX8_paste_51 : decode cX8_paste 51 = .ok (.getfield 46, 3) := by decide +kernel
theorem dX8_paste_54 : decode cX8_paste 54 = .ok (.iload_n 1, 1) := by decide +kernel
theorem dX8_paste_55 : decode cX8_paste 55 = .ok (.iload_n 3, 1) := by decide +kernel
theorem dX8_paste_56 : decode cX8_paste 56 = .ok (.invokevirtual 395, 3) := by decide +kernel
theorem dX8_paste_59 : decode cX8_paste 59 = .ok (.ifCond .ne 6, 3) := by decide +kernel
theorem dX8_paste_62 : decode cX8_paste 62 = .ok (.bipush (-8), 2) := by decide +kernel
theorem dX8_paste_64 : decode cX8_paste 64 = .ok (.ireturn, 1) := by decide +kernel
theorem dX8_paste_65 : decode cX8_paste 65 = .ok (.aload_n 0, 1) := by decide +kernel
theorem dX8_paste_66 : decode cX8_paste 66 = .ok (.getfield 46, 3) := by decide +kernel
theorem dX8_paste_69 : decode cX8_paste 69 = .ok (.iload_n 1, 1) := by decide +kernel
theorem dX8_paste_70 : decode cX8_paste 70 = .ok (.iload_n 2, 1) := by decide +kernel
theorem dX8_paste_71 : decode cX8_paste 71 = .ok (.iload 5, 2) := by decide +kernel
theorem dX8_paste_73 : decode cX8_paste 73 = .ok (.invokevirtual 387, 3) := by decide +kernel
theorem dX8_paste_76 : decode cX8_paste 76 = .ok (.ifCond .eq 18, 3) := by decide +kernel
theorem dX8_paste_79 : decode cX8_paste 79 = .ok (.aload_n 0, 1) := by decide +kernel
theorem dX8_paste_80 : decode cX8_paste 80 = .ok (.getfield 46, 3) := by decide +kernel
theorem dX8_paste_83 : decode cX8_paste 83 = .ok (.iload_n 3, 1) := by decide +kernel
theorem dX8_paste_84 : decode cX8_paste 84 = .ok (.iload 4, 2) := by decide +kernel
theorem dX8_paste_86 : decode cX8_paste 86 = .ok (.iload 5, 2) := by decide +kernel
theorem dX8_paste_88 : decode cX8_paste 88 = .ok (.invokevirtual 387, 3) := by decide +kernel
theorem dX8_paste_91 : decode cX8_paste 91 = .ok (.ifCond .ne 6, 3) := by decide +kernel
theorem dX8_paste_94 : decode cX8_paste 94 = .ok (.bipush (-7), 2) := by decide +kernel
theorem dX8_paste_96 : decode cX8_paste 96 = .ok (.ireturn, 1) := by decide +kernel
theorem dX8_paste_97 : decode cX8_paste 97 = .ok (.aload_n 0, 1) := by decide +kernel
theorem dX8_paste_98 : decode cX8_paste 98 = .ok (.getfield 46, 3) := by decide +kernel
theorem dX8_paste_101 : decode cX8_paste 101 = .ok (.iload_n 1, 1) := by decide +kernel
theorem dX8_paste_102 : decode cX8_paste 102 = .ok (.iload_n 2, 1) := by decide +kernel
theorem dX8_paste_103 : decode cX8_paste 103 = .ok (.iload_n 3, 1) := by decide +kernel
theorem dX8_paste_104 : decode cX8_paste 104 = .ok (.iload 4, 2) := by decide +kernel
theorem dX8_paste_106 : decode cX8_paste 106 = .ok (.iload 5, 2) := by decide +kernel
theorem dX8_paste_108 : decode cX8_paste 108 = .ok (.invokevirtual 398, 3) := by decide +kernel
theorem dX8_paste_111 : decode cX8_paste 111 = .ok (.iconst 0, 1) := by decide +kernel
theorem dX8_paste_112 : decode cX8_paste 112 = .ok (.ireturn, 1) := by decide +kernel

theorem dX8_peak_0 : decode cX8_peak 0 = .ok (.aload_n 0, 1) := by decide +kernel
theorem dX8_peak_1 : decode cX8_peak 1 = .ok (.getfield 32, 3) := by decide +kernel
theorem dX8_peak_4 : decode cX8_peak 4 = .ok (.invokevirtual 153, 3) := by decide +kernel
theorem dX8_peak_7 : decode cX8_peak 7 = .ok (.ifCond .ne 6, 3) := by decide +kernel
theorem dX8_peak_10 : decode cX8_peak 10 = .ok (.bipush (-2), 2) := by decide +kernel
theorem dX8_peak_12 : decode cX8_peak 12 = .ok (.ireturn, 1) := by decide +kernel
theorem dX8_peak_13 : decode cX8_peak 13 = .ok (.iconst 0, 1) := by decide +kernel
theorem dX8_peak_14 : decode cX8_peak 14 = .ok (.istore_n 1, 1) := by decide +kernel
theorem dX8_peak_15 : decode cX8_peak 15 = .ok (.iconst (-1), 1) := by decide +kernel
theorem dX8_peak_16 : decode cX8_peak 16 = .ok (.istore_n 2, 1) := by decide +kernel
theorem dX8_peak_17 : decode cX8_peak 17 = .ok (.iconst 0, 1) := by decide +kernel
theorem dX8_peak_18 : decode cX8_peak 18 = .ok (.istore_n 3, 1) := by decide +kernel
theorem dX8_peak_19 : decode cX8_peak 19 = .ok (.iload_n 3, 1) := by decide +kernel
theorem dX8_peak_20 : decode cX8_peak 20 = .ok (.aload_n 0, 1) := by decide +kernel
theorem dX8_peak_21 : decode cX8_peak 21 = .ok (.getfield 32, 3) := by decide +kernel
theorem dX8_peak_24 : decode cX8_peak 24 = .ok (.getfield 168, 3) := by decide +kernel
theorem dX8_peak_27 : decode cX8_peak 27 = .ok (.if_icmp .ge 30, 3) := by decide +kernel
theorem dX8_peak_30 : decode cX8_peak 30 = .ok (.aload_n 0, 1) := by decide +kernel
theorem dX8_peak_31 : decode cX8_peak 31 = .ok (.invokevirtual 189, 3) := by decide +kernel
theorem dX8_peak_34 : decode cX8_peak 34 = .ok (.iload_n 3, 1) := by decide +kernel
theorem dX8_peak_35 : decode cX8_peak 35 = .ok (.invokevirtual 214, 3) := by decide +kernel
theorem dX8_peak_38 : decode cX8_peak 38 = .ok (.istore 4, 2) := by decide +kernel
theorem dX8_peak_40 : decode cX8_peak 40 = .ok (.iload 4, 2) := by decide +kernel
theorem dX8_peak_42 : decode cX8_peak 42 = .ok (.iload_n 2, 1) := by decide +kernel
theorem dX8_peak_43 : decode cX8_peak 43 = .ok (.if_icmp .le 8, 3) := by decide +kernel
theorem dX8_peak_46 : decode cX8_peak 46 = .ok (.iload 4, 2) := by decide +kernel
theorem dX8_peak_48 : decode cX8_peak 48 = .ok (.istore_n 2, 1) := by decide +kernel
theorem dX8_peak_49 : decode cX8_peak 49 = .ok (.iload_n 3, 1) := by decide +kernel
theorem dX8_peak_50 : decode cX8_peak 50 = .ok (.istore_n 1, 1) := by decide +kernel
theorem dX8_peak_51 : decode cX8_peak 51 = .ok (.iinc 3 1, 3) := by decide +kernel
theorem dX8_peak_54 : decode cX8_peak 54 = .ok (.goto (-35), 3) := by decide +kernel
theorem dX8_peak_57 : decode cX8_peak 57 = .ok (.iload_n 1, 1) := by decide +kernel
theorem dX8_peak_58 : decode cX8_peak 58 = .ok (.ireturn, 1) := by decide +kernel

theorem dX8_pieces_0 : decode cX8_pieces 0 = .ok (.aload_n 0, 1) := by decide +kernel
theorem dX8_pieces_1 : decode cX8_pieces 1 = .ok (.getfield 32, 3) := by decide +kernel
theorem dX8_pieces_4 : decode cX8_pieces 4 = .ok (.invokevirtual 153, 3) := by decide +kernel
theorem dX8_pieces_7 : decode cX8_pieces 7 = .ok (.ifCond .ne 6, 3) := by decide +kernel
theorem dX8_pieces_10 : decode cX8_pieces 10 = .ok (.bipush (-2), 2) := by decide +kernel
theorem dX8_pieces_12 : decode cX8_pieces 12 = .ok (.ireturn, 1) := by decide +kernel
theorem dX8_pieces_13 : decode cX8_pieces 13 = .ok (.iconst 0, 1) := by decide +kernel
theorem dX8_pieces_14 : decode cX8_pieces 14 = .ok (.istore_n 1, 1) := by decide +kernel
theorem dX8_pieces_15 : decode cX8_pieces 15 = .ok (.iconst 0, 1) := by decide +kernel
theorem dX8_pieces_16 : decode cX8_pieces 16 = .ok (.istore_n 2, 1) := by decide +kernel
theorem dX8_pieces_17 : decode cX8_pieces 17 = .ok (.iconst 0, 1) := by decide +kernel
theorem dX8_pieces_18 : decode cX8_pieces 18 = .ok (.istore_n 3, 1) := by decide +kernel
theorem dX8_pieces_19 : decode cX8_pieces 19 = .ok (.iload_n 3, 1) := by decide +kernel
theorem dX8_pieces_20 : decode cX8_pieces 20 = .ok (.aload_n 0, 1) := by decide +kernel
theorem dX8_pieces_21 : decode cX8_pieces 21 = .ok (.getfield 32, 3) := by decide +kernel
theorem dX8_pieces_24 : decode cX8_pieces 24 = .ok (.getfield 156, 3) := by decide +kernel
theorem dX8_pieces_27 : decode cX8_pieces 27 = .ok (.if_icmp .ge 31, 3) := by decide +kernel
theorem dX8_pieces_30 : decode cX8_pieces 30 = .ok (.iload_n 2, 1) := by decide +kernel
theorem dX8_pieces_31 : decode cX8_pieces 31 = .ok (.iload_n 3, 1) := by decide +kernel
theorem dX8_pieces_32 : decode cX8_pieces 32 = .ok (.invokestatic 145, 3) := by decide +kernel
theorem dX8_pieces_35 : decode cX8_pieces 35 = .ok (.ifCond .ne 17, 3) := by decide +kernel
theorem dX8_pieces_38 : decode cX8_pieces 38 = .ok (.iinc 1 1, 3) := by decide +kernel
theorem dX8_pieces_41 : decode cX8_pieces 41 = .ok (.iload_n 2, 1) := by decide +kernel
theorem dX8_pieces_42 : decode cX8_pieces 42 = .ok (.aload_n 0, 1) := by decide +kernel
theorem dX8_pieces_43 : decode cX8_pieces 43 = .ok (.getfield 32, 3) := by decide +kernel
theorem dX8_pieces_46 : decode cX8_pieces 46 = .ok (.iload_n 3, 1) := by decide +kernel
theorem dX8_pieces_47 : decode cX8_pieces 47 = .ok (.invokevirtual 159, 3) := by decide +kernel
theorem dX8_pieces_50 : decode cX8_pieces 50 = .ok (.ior, 1) := by decide +kernel
theorem dX8_pieces_51 : decode cX8_pieces 51 = .ok (.istore_n 2, 1) := by decide +kernel
theorem dX8_pieces_52 : decode cX8_pieces 52 = .ok (.iinc 3 1, 3) := by decide +kernel
theorem dX8_pieces_55 : decode cX8_pieces 55 = .ok (.goto (-36), 3) := by decide +kernel
theorem dX8_pieces_58 : decode cX8_pieces 58 = .ok (.iload_n 1, 1) := by decide +kernel
theorem dX8_pieces_59 : decode cX8_pieces 59 = .ok (.ireturn, 1) := by decide +kernel

theorem dX8_plan_0 : decode cX8_plan 0 = .ok (.aload_n 0, 1) := by decide +kernel
theorem dX8_plan_1 : decode cX8_plan 1 = .ok (.iload_n 1, 1) := by decide +kernel
theorem dX8_plan_2 : decode cX8_plan 2 = .ok (.invokevirtual 274, 3) := by decide +kernel
theorem dX8_plan_5 : decode cX8_plan 5 = .ok (.ifCond .ne 6, 3) := by decide +kernel
theorem dX8_plan_8 : decode cX8_plan 8 = .ok (.bipush (-2), 2) := by decide +kernel
theorem dX8_plan_10 : decode cX8_plan 10 = .ok (.ireturn, 1) := by decide +kernel
theorem dX8_plan_11 : decode cX8_plan 11 = .ok (.aload_n 0, 1) := by decide +kernel
theorem dX8_plan_12 : decode cX8_plan 12 = .ok (.iload_n 1, 1) := by decide +kernel
theorem dX8_plan_13 : decode cX8_plan 13 = .ok (.invokevirtual 277, 3) := by decide +kernel
theorem dX8_plan_16 : decode cX8_plan 16 = .ok (.aload_n 0, 1) := by decide +kernel
theorem dX8_plan_17 : decode cX8_plan 17 = .ok (.getfield 67, 3) := by decide +kernel
theorem dX8_plan_20 : decode cX8_plan 20 = .ok (.getfield 280, 3) := by decide +kernel
theorem dX8_plan_23 : decode cX8_plan 23 = .ok (.ireturn, 1) := by decide +kernel

theorem dX8_planned_0 : decode cX8_planned 0 = .ok (.aload_n 0, 1) := by decide +kernel
theorem dX8_planned_1 : decode cX8_planned 1 = .ok (.iload_n 1, 1) := by decide +kernel
theorem dX8_planned_2 : decode cX8_planned 2 = .ok (.invokevirtual 274, 3) := by decide +kernel
theorem dX8_planned_5 : decode cX8_planned 5 = .ok (.ifCond .eq 12, 3) := by decide +kernel
theorem dX8_planned_8 : decode cX8_planned 8 = .ok (.iload_n 2, 1) := by decide +kernel
theorem dX8_planned_9 : decode cX8_planned 9 = .ok (.ifCond .lt 8, 3) := by decide +kernel
theorem dX8_planned_12 : decode cX8_planned 12 = .ok (.iload_n 2, 1) := by decide +kernel
theorem dX8_planned_13 : decode cX8_planned 13 = .ok (.iload_n 1, 1) := by decide +kernel
theorem dX8_planned_14 : decode cX8_planned 14 = .ok (.if_icmp .lt 6, 3) := by decide +kernel
theorem dX8_planned_17 : decode cX8_planned 17 = .ok (.bipush (-2), 2) := by decide +kernel
theorem dX8_planned_19 : decode cX8_planned 19 = .ok (.ireturn, 1) := by decide +kernel
theorem dX8_planned_20 : decode cX8_planned 20 = .ok (.aload_n 0, 1) := by decide +kernel
theorem dX8_planned_21 : decode cX8_planned 21 = .ok (.iload_n 1, 1) := by decide +kernel
theorem dX8_planned_22 : decode cX8_planned 22 = .ok (.invokevirtual 277, 3) := by decide +kernel
theorem dX8_planned_25 : decode cX8_planned 25 = .ok (.aload_n 0, 1) := by decide +kernel
theorem dX8_planned_26 : decode cX8_planned 26 = .ok (.getfield 67, 3) := by decide +kernel
theorem dX8_planned_29 : decode cX8_planned 29 = .ok (.getfield 283, 3) := by decide +kernel
theorem dX8_planned_32 : decode cX8_planned 32 = .ok (.iload_n 2, 1) := by decide +kernel
theorem dX8_planned_33 : decode cX8_planned 33 = .ok (.iaload, 1) := by decide +kernel
theorem dX8_planned_34 : decode cX8_planned 34 = .ok (.ireturn, 1) := by decide +kernel

theorem dX8_plans_0 : decode cX8_plans 0 = .ok (.aload_n 0, 1) := by decide +kernel
theorem dX8_plans_1 : decode cX8_plans 1 = .ok (.iload_n 1, 1) := by decide +kernel
theorem dX8_plans_2 : decode cX8_plans 2 = .ok (.invokevirtual 274, 3) := by decide +kernel
theorem dX8_plans_5 : decode cX8_plans 5 = .ok (.ifCond .ne 6, 3) := by decide +kernel
theorem dX8_plans_8 : decode cX8_plans 8 = .ok (.bipush (-2), 2) := by decide +kernel
theorem dX8_plans_10 : decode cX8_plans 10 = .ok (.ireturn, 1) := by decide +kernel
theorem dX8_plans_11 : decode cX8_plans 11 = .ok (.aload_n 0, 1) := by decide +kernel
theorem dX8_plans_12 : decode cX8_plans 12 = .ok (.iload_n 1, 1) := by decide +kernel
theorem dX8_plans_13 : decode cX8_plans 13 = .ok (.invokevirtual 277, 3) := by decide +kernel
theorem dX8_plans_16 : decode cX8_plans 16 = .ok (.aload_n 0, 1) := by decide +kernel
theorem dX8_plans_17 : decode cX8_plans 17 = .ok (.getfield 67, 3) := by decide +kernel
theorem dX8_plans_20 : decode cX8_plans 20 = .ok (.getfield 286, 3) := by decide +kernel
theorem dX8_plans_23 : decode cX8_plans 23 = .ok (.ireturn, 1) := by decide +kernel

theorem dX8_quiet_0 : decode cX8_quiet 0 = .ok (.aload_n 0, 1) := by decide +kernel
theorem dX8_quiet_1 : decode cX8_quiet 1 = .ok (.getfield 32, 3) := by decide +kernel
theorem dX8_quiet_4 : decode cX8_quiet 4 = .ok (.invokevirtual 153, 3) := by decide +kernel
theorem dX8_quiet_7 : decode cX8_quiet 7 = .ok (.ifCond .ne 6, 3) := by decide +kernel
theorem dX8_quiet_10 : decode cX8_quiet 10 = .ok (.bipush (-2), 2) := by decide +kernel
theorem dX8_quiet_12 : decode cX8_quiet 12 = .ok (.ireturn, 1) := by decide +kernel
theorem dX8_quiet_13 : decode cX8_quiet 13 = .ok (.iconst 0, 1) := by decide +kernel
theorem dX8_quiet_14 : decode cX8_quiet 14 = .ok (.istore_n 1, 1) := by decide +kernel
theorem dX8_quiet_15 : decode cX8_quiet 15 = .ok (.iconst 0, 1) := by decide +kernel
theorem dX8_quiet_16 : decode cX8_quiet 16 = .ok (.istore_n 2, 1) := by decide +kernel
theorem dX8_quiet_17 : decode cX8_quiet 17 = .ok (.iload_n 2, 1) := by decide +kernel
theorem dX8_quiet_18 : decode cX8_quiet 18 = .ok (.aload_n 0, 1) := by decide +kernel
theorem dX8_quiet_19 : decode cX8_quiet 19 = .ok (.getfield 32, 3) := by decide +kernel
theorem dX8_quiet_22 : decode cX8_quiet 22 = .ok (.getfield 168, 3) := by decide +kernel
theorem dX8_quiet_25 : decode cX8_quiet 25 = .ok (.if_icmp .ge 25, 3) := by decide +kernel
theorem dX8_quiet_28 : decode cX8_quiet 28 = .ok (.iload_n 1, 1) := by decide +kernel
theorem dX8_quiet_29 : decode cX8_quiet 29 = .ok (.aload_n 0, 1) := by decide +kernel
theorem dX8_quiet_30 : decode cX8_quiet 30 = .ok (.iload_n 2, 1) := by decide +kernel
theorem dX8_quiet_31 : decode cX8_quiet 31 = .ok (.invokevirtual 246, 3) := by decide +kernel
theorem dX8_quiet_34 : decode cX8_quiet 34 = .ok (.ifCond .ne 7, 3) := by decide +kernel
theorem dX8_quiet_37 : decode cX8_quiet 37 = .ok (.iconst 1, 1) := by decide +kernel
theorem dX8_quiet_38 : decode cX8_quiet 38 = .ok (.goto 4, 3) := by decide +kernel
theorem dX8_quiet_41 : decode cX8_quiet 41 = .ok (.iconst 0, 1) := by decide +kernel
theorem dX8_quiet_42 : decode cX8_quiet 42 = .ok (.iadd, 1) := by decide +kernel
theorem dX8_quiet_43 : decode cX8_quiet 43 = .ok (.istore_n 1, 1) := by decide +kernel
theorem dX8_quiet_44 : decode cX8_quiet 44 = .ok (.iinc 2 1, 3) := by decide +kernel
theorem dX8_quiet_47 : decode cX8_quiet 47 = .ok (.goto (-30), 3) := by decide +kernel
theorem dX8_quiet_50 : decode cX8_quiet 50 = .ok (.iload_n 1, 1) := by decide +kernel
theorem dX8_quiet_51 : decode cX8_quiet 51 = .ok (.ireturn, 1) := by decide +kernel

theorem dX8_rate_0 : decode cX8_rate 0 = .ok (.aload_n 0, 1) := by decide +kernel
theorem dX8_rate_1 : decode cX8_rate 1 = .ok (.getfield 32, 3) := by decide +kernel
theorem dX8_rate_4 : decode cX8_rate 4 = .ok (.iload_n 1, 1) := by decide +kernel
theorem dX8_rate_5 : decode cX8_rate 5 = .ok (.invokevirtual 127, 3) := by decide +kernel
theorem dX8_rate_8 : decode cX8_rate 8 = .ok (.ifCond .eq 13, 3) := by decide +kernel
theorem dX8_rate_11 : decode cX8_rate 11 = .ok (.iload_n 2, 1) := by decide +kernel
theorem dX8_rate_12 : decode cX8_rate 12 = .ok (.ifCond .lt 9, 3) := by decide +kernel
theorem dX8_rate_15 : decode cX8_rate 15 = .ok (.iload_n 2, 1) := by decide +kernel
theorem dX8_rate_16 : decode cX8_rate 16 = .ok (.bipush 60, 2) := by decide +kernel
theorem dX8_rate_18 : decode cX8_rate 18 = .ok (.if_icmp .le 6, 3) := by decide +kernel
theorem dX8_rate_21 : decode cX8_rate 21 = .ok (.bipush (-2), 2) := by decide +kernel
theorem dX8_rate_23 : decode cX8_rate 23 = .ok (.ireturn, 1) := by decide +kernel
theorem dX8_rate_24 : decode cX8_rate 24 = .ok (.aload_n 0, 1) := by decide +kernel
theorem dX8_rate_25 : decode cX8_rate 25 = .ok (.getfield 32, 3) := by decide +kernel
theorem dX8_rate_28 : decode cX8_rate 28 = .ok (.getfield 179, 3) := by decide +kernel
theorem dX8_rate_31 : decode cX8_rate 31 = .ok (.ifCond .le 6, 3) := by decide +kernel
theorem dX8_rate_34 : decode cX8_rate 34 = .ok (.bipush (-5), 2) := by decide +kernel
theorem dX8_rate_36 : decode cX8_rate 36 = .ok (.ireturn, 1) := by decide +kernel
theorem dX8_rate_37 : decode cX8_rate 37 = .ok (.aload_n 0, 1) := by decide +kernel
theorem dX8_rate_38 : decode cX8_rate 38 = .ok (.getfield 32, 3) := by decide +kernel
theorem dX8_rate_41 : decode cX8_rate 41 = .ok (.getfield 131, 3) := by decide +kernel
theorem dX8_rate_44 : decode cX8_rate 44 = .ok (.iload_n 1, 1) := by decide +kernel
theorem dX8_rate_45 : decode cX8_rate 45 = .ok (.iaload, 1) := by decide +kernel
theorem dX8_rate_46 : decode cX8_rate 46 = .ok (.istore_n 3, 1) := by decide +kernel
theorem dX8_rate_47 : decode cX8_rate 47 = .ok (.aload_n 0, 1) := by decide +kernel
theorem dX8_rate_48 : decode cX8_rate 48 = .ok (.getfield 32, 3) := by decide +kernel
theorem dX8_rate_51 : decode cX8_rate 51 = .ok (.getfield 131, 3) := by decide +kernel
theorem dX8_rate_54 : decode cX8_rate 54 = .ok (.iload_n 1, 1) := by decide +kernel
theorem dX8_rate_55 : decode cX8_rate 55 = .ok (.iload_n 2, 1) := by decide +kernel
theorem dX8_rate_56 : decode cX8_rate 56 = .ok (.iastore, 1) := by decide +kernel
theorem dX8_rate_57 : decode cX8_rate 57 = .ok (.aload_n 0, 1) := by decide +kernel
theorem dX8_rate_58 : decode cX8_rate 58 = .ok (.invokevirtual 115, 3) := by decide +kernel
theorem dX8_rate_61 : decode cX8_rate 61 = .ok (.iload_n 3, 1) := by decide +kernel
theorem dX8_rate_62 : decode cX8_rate 62 = .ok (.ireturn, 1) := by decide +kernel

theorem dX8_read_0 : decode cX8_read 0 = .ok (.aload_n 0, 1) := by decide +kernel
theorem dX8_read_1 : decode cX8_read 1 = .ok (.getfield 32, 3) := by decide +kernel
theorem dX8_read_4 : decode cX8_read 4 = .ok (.iload_n 1, 1) := by decide +kernel
theorem dX8_read_5 : decode cX8_read 5 = .ok (.invokevirtual 127, 3) := by decide +kernel
theorem dX8_read_8 : decode cX8_read 8 = .ok (.ifCond .eq 14, 3) := by decide +kernel
theorem dX8_read_11 : decode cX8_read 11 = .ok (.aload_n 0, 1) := by decide +kernel
theorem dX8_read_12 : decode cX8_read 12 = .ok (.invokevirtual 189, 3) := by decide +kernel
theorem dX8_read_15 : decode cX8_read 15 = .ok (.iload_n 1, 1) := by decide +kernel
theorem dX8_read_16 : decode cX8_read 16 = .ok (.invokevirtual 208, 3) := by decide +kernel
theorem dX8_read_19 : decode cX8_read 19 = .ok (.goto 5, 3) := by decide +kernel
theorem dX8_read_22 : decode cX8_read 22 = .ok (.bipush (-2), 2) := by decide +kernel
theorem dX8_read_24 : decode cX8_read 24 = .ok (.ireturn, 1) := by decide +kernel

theorem dX8_reads_0 : decode cX8_reads 0 = .ok (.aload_n 0, 1) := by decide +kernel
theorem dX8_reads_1 : decode cX8_reads 1 = .ok (.getfield 32, 3) := by decide +kernel
theorem dX8_reads_4 : decode cX8_reads 4 = .ok (.iload_n 1, 1) := by decide +kernel
theorem dX8_reads_5 : decode cX8_reads 5 = .ok (.invokevirtual 211, 3) := by decide +kernel
theorem dX8_reads_8 : decode cX8_reads 8 = .ok (.ifCond .eq 14, 3) := by decide +kernel
theorem dX8_reads_11 : decode cX8_reads 11 = .ok (.aload_n 0, 1) := by decide +kernel
theorem dX8_reads_12 : decode cX8_reads 12 = .ok (.invokevirtual 189, 3) := by decide +kernel
theorem dX8_reads_15 : decode cX8_reads 15 = .ok (.iload_n 1, 1) := by decide +kernel
theorem dX8_reads_16 : decode cX8_reads 16 = .ok (.invokevirtual 214, 3) := by decide +kernel
theorem dX8_reads_19 : decode cX8_reads 19 = .ok (.goto 5, 3) := by decide +kernel
theorem dX8_reads_22 : decode cX8_reads 22 = .ok (.bipush (-2), 2) := by decide +kernel
theorem dX8_reads_24 : decode cX8_reads 24 = .ok (.ireturn, 1) := by decide +kernel

theorem dX8_refuseAct_0 : decode cX8_refuseAct 0 = .ok (.aload_n 0, 1) := by decide +kernel
theorem dX8_refuseAct_1 : decode cX8_refuseAct 1 = .ok (.getfield 32, 3) := by decide +kernel
theorem dX8_refuseAct_4 : decode cX8_refuseAct 4 = .ok (.iload_n 1, 1) := by decide +kernel
theorem dX8_refuseAct_5 : decode cX8_refuseAct 5 = .ok (.invokevirtual 127, 3) := by decide +kernel
theorem dX8_refuseAct_8 : decode cX8_refuseAct 8 = .ok (.ifCond .eq 14, 3) := by decide +kernel
theorem dX8_refuseAct_11 : decode cX8_refuseAct 11 = .ok (.aload_n 0, 1) := by decide +kernel
theorem dX8_refuseAct_12 : decode cX8_refuseAct 12 = .ok (.getfield 32, 3) := by decide +kernel
theorem dX8_refuseAct_15 : decode cX8_refuseAct 15 = .ok (.iload_n 2, 1) := by decide +kernel
theorem dX8_refuseAct_16 : decode cX8_refuseAct 16 = .ok (.invokevirtual 211, 3) := by decide +kernel
theorem dX8_refuseAct_19 : decode cX8_refuseAct 19 = .ok (.ifCond .ne 6, 3) := by decide +kernel
theorem dX8_refuseAct_22 : decode cX8_refuseAct 22 = .ok (.bipush (-2), 2) := by decide +kernel
theorem dX8_refuseAct_24 : decode cX8_refuseAct 24 = .ok (.ireturn, 1) := by decide +kernel
theorem dX8_refuseAct_25 : decode cX8_refuseAct 25 = .ok (.aload_n 0, 1) := by decide +kernel
theorem dX8_refuseAct_26 : decode cX8_refuseAct 26 = .ok (.getfield 32, 3) := by decide +kernel
theorem dX8_refuseAct_29 : decode cX8_refuseAct 29 = .ok (.getfield 179, 3) := by decide +kernel
theorem dX8_refuseAct_32 : decode cX8_refuseAct 32 = .ok (.bipush 20, 2) := by decide +kernel
theorem dX8_refuseAct_34 : decode cX8_refuseAct 34 = .ok (.if_icmp .ge 7, 3) := by decide +kernel
theorem dX8_refuseAct_37 : decode cX8_refuseAct 37 = .ok (.iconst 0, 1) := by decide +kernel
theorem dX8_refuseAct_38 : decode cX8_refuseAct 38 = .ok (.goto 5, 3) := by decide +kernel
theorem dX8_refuseAct_41 : decode cX8_refuseAct 41 = .ok (.bipush (-5), 2) := by decide +kernel
theorem dX8_refuseAct_43 : decode cX8_refuseAct 43 = .ok (.ireturn, 1) := by decide +kernel

theorem dX8_refuseSeenOf_0 : decode cX8_refuseSeenOf 0 = .ok (.aload_n 0, 1) := by decide +kernel
theorem dX8_refuseSeenOf_1 : decode cX8_refuseSeenOf 1 = .ok (.getfield 32, 3) := by decide +kernel
theorem dX8_refuseSeenOf_4 : decode cX8_refuseSeenOf 4 = .ok (.iload_n 2, 1) := by decide +kernel
theorem dX8_refuseSeenOf_5 : decode cX8_refuseSeenOf 5 = .ok (.invokevirtual 127, 3) := by decide +kernel
theorem dX8_refuseSeenOf_8 : decode cX8_refuseSeenOf 8 = .ok (.ifCond .eq 11, 3) := by decide +kernel
theorem dX8_refuseSeenOf_11 : decode cX8_refuseSeenOf 11 = .ok (.aload_n 0, 1) := by decide +kernel
theorem dX8_refuseSeenOf_12 : decode cX8_refuseSeenOf 12 = .ok (.iload_n 1, 1) := by decide +kernel
theorem dX8_refuseSeenOf_13 : decode cX8_refuseSeenOf 13 = .ok (.invokevirtual 312, 3) := by decide +kernel
theorem dX8_refuseSeenOf_16 : decode cX8_refuseSeenOf 16 = .ok (.goto 5, 3) := by decide +kernel
theorem dX8_refuseSeenOf_19 : decode cX8_refuseSeenOf 19 = .ok (.bipush (-2), 2) := by decide +kernel
theorem dX8_refuseSeenOf_21 : decode cX8_refuseSeenOf 21 = .ok (.ireturn, 1) := by decide +kernel

theorem dX8_replies_0 : decode cX8_replies 0 = .ok (.aload_n 0, 1) := by decide +kernel
theorem dX8_replies_1 : decode cX8_replies 1 = .ok (.getfield 32, 3) := by decide +kernel
theorem dX8_replies_4 : decode cX8_replies 4 = .ok (.iload_n 1, 1) := by decide +kernel
theorem dX8_replies_5 : decode cX8_replies 5 = .ok (.invokevirtual 127, 3) := by decide +kernel
theorem dX8_replies_8 : decode cX8_replies 8 = .ok (.ifCond .ne 6, 3) := by decide +kernel
theorem dX8_replies_11 : decode cX8_replies 11 = .ok (.bipush (-2), 2) := by decide +kernel
theorem dX8_replies_13 : decode cX8_replies 13 = .ok (.ireturn, 1) := by decide +kernel
theorem dX8_replies_14 : decode cX8_replies 14 = .ok (.aload_n 0, 1) := by decide +kernel
theorem dX8_replies_15 : decode cX8_replies 15 = .ok (.getfield 59, 3) := by decide +kernel
theorem dX8_replies_18 : decode cX8_replies 18 = .ok (.iconst (-1), 1) := by decide +kernel
theorem dX8_replies_19 : decode cX8_replies 19 = .ok (.invokevirtual 257, 3) := by decide +kernel
theorem dX8_replies_22 : decode cX8_replies 22 = .ok (.aload_n 0, 1) := by decide +kernel
theorem dX8_replies_23 : decode cX8_replies 23 = .ok (.iload_n 1, 1) := by decide +kernel
theorem dX8_replies_24 : decode cX8_replies 24 = .ok (.invokevirtual 335, 3) := by decide +kernel
theorem dX8_replies_27 : decode cX8_replies 27 = .ok (.ireturn, 1) := by decide +kernel

theorem dX8_rests_0 : decode cX8_rests 0 = .ok (.aload_n 0, 1) := by decide +kernel
theorem dX8_rests_1 : decode cX8_rests 1 = .ok (.iload_n 1, 1) := by decide +kernel
theorem dX8_rests_2 : decode cX8_rests 2 = .ok (.iload_n 2, 1) := by decide +kernel
theorem dX8_rests_3 : decode cX8_rests 3 = .ok (.invokevirtual 338, 3) := by decide +kernel
theorem dX8_rests_6 : decode cX8_rests 6 = .ok (.ifCond .ne 6, 3) := by decide +kernel
theorem dX8_rests_9 : decode cX8_rests 9 = .ok (.bipush (-2), 2) := by decide +kernel
theorem dX8_rests_11 : decode cX8_rests 11 = .ok (.ireturn, 1) := by decide +kernel
theorem dX8_rests_12 : decode cX8_rests 12 = .ok (.iconst 0, 1) := by decide +kernel
theorem dX8_rests_13 : decode cX8_rests 13 = .ok (.istore_n 3, 1) := by decide +kernel
theorem dX8_rests_14 : decode cX8_rests 14 = .ok (.iconst 0, 1) := by decide +kernel
theorem dX8_rests_15 : decode cX8_rests 15 = .ok (.istore 4, 2) := by decide +kernel
theorem dX8_rests_17 : decode cX8_rests 17 = .ok (.iload 4, 2) := by decide +kernel
theorem dX8_rests_19 : decode cX8_rests 19 = .ok (.iconst 2, 1) := by decide +kernel
theorem dX8_rests_20 : decode cX8_rests 20 = .ok (.if_icmp .ge 110, 3) := by decide +kernel
theorem dX8_rests_23 : decode cX8_rests 23 = .ok (.iconst 0, 1) := by decide +kernel
theorem dX8_rests_24 : decode cX8_rests 24 = .ok (.istore 5, 2) := by decide +kernel
theorem dX8_rests_26 : decode cX8_rests 26 = .ok (.iload 5, 2) := by decide +kernel
theorem dX8_rests_28 : decode cX8_rests 28 = .ok (.iconst 2, 1) := by decide +kernel
theorem dX8_rests_29 : decode cX8_rests 29 = .ok (.if_icmp .ge 95, 3) := by decide +kernel
theorem dX8_rests_32 : decode cX8_rests 32 = .ok (.aload_n 0, 1) := by decide +kernel
theorem dX8_rests_33 : decode cX8_rests 33 = .ok (.iload_n 1, 1) := by decide +kernel
theorem dX8_rests_34 : decode cX8_rests 34 = .ok (.iload_n 2, 1) := by decide +kernel
theorem dX8_rests_35 : decode cX8_rests 35 = .ok (.iload 4, 2) := by decide +kernel
theorem dX8_rests_37 : decode cX8_rests 37 = .ok (.iload 5, 2) := by decide +kernel
theorem dX8_rests_39 : decode cX8_rests 39 = .ok (.invokevirtual 341, 3) := by decide +kernel
theorem dX8_rests_42 : decode cX8_rests 42 = .ok (.aload_n 0, 1) := by decide +kernel
theorem dX8_rests_43 : decode cX8_rests 43 = .ok (.iload_n 1, 1) := by decide +kernel
theorem dX8_rests_44 : decode cX8_rests 44 = .ok (.iload_n 2, 1) := by decide +kernel
theorem dX8_rests_45 : decode cX8_rests 45 = .ok (.iconst 1, 1) := by decide +kernel
theorem dX8_rests_46 : decode cX8_rests 46 = .ok (.iload 4, 2) := by decide +kernel
theorem dX8_rests_48 : decode cX8_rests 48 = .ok (.isub, 1) := by decide +kernel
theorem dX8_rests_49 : decode cX8_rests 49 = .ok (.iload 5, 2) := by decide +kernel
theorem dX8_rests_51 : decode cX8_rests 51 = .ok (.invokevirtual 341, 3) := by decide +kernel
theorem dX8_rests_54 : decode cX8_rests 54 = .ok (.if_icmp .lt 7, 3) := by decide +kernel
theorem dX8_rests_57 : decode cX8_rests 57 = .ok (.iconst 1, 1) := by decide +kernel
theorem dX8_rests_58 : decode cX8_rests 58 = .ok (.goto 4, 3) := by decide +kernel
theorem dX8_rests_61 : decode cX8_rests 61 = .ok (.iconst 0, 1) := by decide +kernel
theorem dX8_rests_62 : decode cX8_rests 62 = .ok (.istore 6, 2) := by decide +kernel
theorem dX8_rests_64 : decode cX8_rests 64 = .ok (.aload_n 0, 1) := by decide +kernel
theorem dX8_rests_65 : decode cX8_rests 65 = .ok (.iload_n 2, 1) := by decide +kernel
theorem dX8_rests_66 : decode cX8_rests 66 = .ok (.iload_n 1, 1) := by decide +kernel
theorem dX8_rests_67 : decode cX8_rests 67 = .ok (.iload 5, 2) := by decide +kernel
theorem dX8_rests_69 : decode cX8_rests 69 = .ok (.iload 4, 2) := by decide +kernel
theorem dX8_rests_71 : decode cX8_rests 71 = .ok (.invokevirtual 341, 3) := by decide +kernel
theorem dX8_rests_74 : decode cX8_rests 74 = .ok (.aload_n 0, 1) := by decide +kernel
theorem dX8_rests_75 : decode cX8_rests 75 = .ok (.iload_n 2, 1) := by decide +kernel
theorem dX8_rests_76 : decode cX8_rests 76 = .ok (.iload_n 1, 1) := by decide +kernel
theorem dX8_rests_77 : decode cX8_rests 77 = .ok (.iconst 1, 1) := by decide +kernel
theorem dX8_rests_78 : decode cX8_rests 78 = .ok (.iload 5, 2) := by decide +kernel
theorem dX8_rests_80 : decode cX8_rests 80 = .ok (.isub, 1) := by decide +kernel
theorem dX8_rests_81 : decode cX8_rests 81 = .ok (.iload 4, 2) := by decide +kernel
theorem dX8_rests_83 : decode cX8_rests 83 = .ok (.invokevirtual 341, 3) := by decide +kernel
theorem dX8_rests_86 : decode cX8_rests 86 = .ok (.if_icmp .lt 7, 3) := by decide +kernel
theorem dX8_rests_89 : decode cX8_rests 89 = .ok (.iconst 1, 1) := by decide +kernel
theorem dX8_rests_90 : decode cX8_rests 90 = .ok (.goto 4, 3) := by decide +kernel
theorem dX8_rests_93 : decode cX8_rests 93 = .ok (.iconst 0, 1) := by decide +kernel
theorem dX8_rests_94 : decode cX8_rests 94 = .ok (.istore 7, 2) := by decide +kernel
theorem dX8_rests_96 : decode cX8_rests 96 = .ok (.iload 6, 2) := by decide +kernel
theorem dX8_rests_98 : decode cX8_rests 98 = .ok (.ifCond .eq 20, 3) := by decide +kernel
theorem dX8_rests_101 : decode cX8_rests 101 = .ok (.iload 7, 2) := by decide +kernel
theorem dX8_rests_103 : decode cX8_rests 103 = .ok (.ifCond .eq 15, 3) := by decide +kernel
theorem dX8_rests_106 : decode cX8_rests 106 = .ok (.iload_n 3, 1) := by decide +kernel
theorem dX8_rests_107 : decode cX8_rests 107 = .ok (.iconst 1, 1) := by decide +kernel
theorem dX8_rests_108 : decode cX8_rests 108 = .ok (.iload 4, 2) := by decide +kernel
theorem dX8_rests_110 : decode cX8_rests 110 = .ok (.iconst 2, 1) := by decide +kernel
theorem dX8_rests_111 : decode cX8_rests 111 = .ok (.iload 5, 2) := by decide +kernel
theorem dX8_rests_113 : decode cX8_rests 113 = .ok (.imul, 1) := by decide +kernel
theorem dX8_rests_114 : decode cX8_rests 114 = .ok (.iadd, 1) := by decide +kernel
theorem dX8_rests_115 : decode cX8_rests 115 = .ok (.ishl, 1) := by decide +kernel
theorem dX8_rests_116 : decode cX8_rests 116 = .ok (.ior, 1) := by decide +kernel
theorem dX8_rests_117 : decode cX8_rests 117 = .ok (.istore_n 3, 1) := by decide +kernel
theorem dX8_rests_118 : decode cX8_rests 118 = .ok (.iinc 5 1, 3) := by decide +kernel
theorem dX8_rests_121 : decode cX8_rests 121 = .ok (.goto (-95), 3) := by decide +kernel
theorem dX8_rests_124 : decode cX8_rests 124 = .ok (.iinc 4 1, 3) := by decide +kernel
theorem dX8_rests_127 : decode cX8_rests 127 = .ok (.goto (-110), 3) := by decide +kernel
theorem dX8_rests_130 : decode cX8_rests 130 = .ok (.iload_n 3, 1) := by decide +kernel
theorem dX8_rests_131 : decode cX8_rests 131 = .ok (.ireturn, 1) := by decide +kernel

theorem dX8_row_0 : decode cX8_row 0 = .ok (.aload_n 0, 1) := by decide +kernel
theorem dX8_row_1 : decode cX8_row 1 = .ok (.getfield 46, 3) := by decide +kernel
theorem dX8_row_4 : decode cX8_row 4 = .ok (.iload_n 1, 1) := by decide +kernel
theorem dX8_row_5 : decode cX8_row 5 = .ok (.invokevirtual 378, 3) := by decide +kernel
theorem dX8_row_8 : decode cX8_row 8 = .ok (.ifCond .eq 18, 3) := by decide +kernel
theorem dX8_row_11 : decode cX8_row 11 = .ok (.iload_n 2, 1) := by decide +kernel
theorem dX8_row_12 : decode cX8_row 12 = .ok (.ifCond .lt 14, 3) := by decide +kernel
theorem dX8_row_15 : decode cX8_row 15 = .ok (.iload_n 2, 1) := by decide +kernel
theorem dX8_row_16 : decode cX8_row 16 = .ok (.iconst 4, 1) := by decide +kernel
theorem dX8_row_17 : decode cX8_row 17 = .ok (.if_icmp .ge 9, 3) := by decide +kernel
theorem dX8_row_20 : decode cX8_row 20 = .ok (.iload_n 3, 1) := by decide +kernel
theorem dX8_row_21 : decode cX8_row 21 = .ok (.bipush 60, 2) := by decide +kernel
theorem dX8_row_23 : decode cX8_row 23 = .ok (.if_icmp .le 6, 3) := by decide +kernel
theorem dX8_row_26 : decode cX8_row 26 = .ok (.bipush (-2), 2) := by decide +kernel
theorem dX8_row_28 : decode cX8_row 28 = .ok (.ireturn, 1) := by decide +kernel
theorem dX8_row_29 : decode cX8_row 29 = .ok (.iload_n 3, 1) := by decide +kernel
theorem dX8_row_30 : decode cX8_row 30 = .ok (.ifCond .ge 6, 3) := by decide +kernel
theorem dX8_row_33 : decode cX8_row 33 = .ok (.bipush (-3), 2) := by decide +kernel
theorem dX8_row_35 : decode cX8_row 35 = .ok (.ireturn, 1) := by decide +kernel
theorem dX8_row_36 : decode cX8_row 36 = .ok (.aload_n 0, 1) := by decide +kernel
theorem dX8_row_37 : decode cX8_row 37 = .ok (.getfield 46, 3) := by decide +kernel
theorem dX8_row_40 : decode cX8_row 40 = .ok (.iload_n 1, 1) := by decide +kernel
theorem dX8_row_41 : decode cX8_row 41 = .ok (.iload_n 2, 1) := by decide +kernel
theorem dX8_row_42 : decode cX8_row 42 = .ok (.iload_n 3, 1) := by decide +kernel
theorem dX8_row_43 : decode cX8_row 43 = .ok (.invokevirtual 381, 3) := by decide +kernel
theorem dX8_row_46 : decode cX8_row 46 = .ok (.iconst 0, 1) := by decide +kernel
theorem dX8_row_47 : decode cX8_row 47 = .ok (.ireturn, 1) := by decide +kernel

theorem dX8_rush_0 : decode cX8_rush 0 = .ok (.aload_n 0, 1) := by decide +kernel
theorem dX8_rush_1 : decode cX8_rush 1 = .ok (.getfield 32, 3) := by decide +kernel
theorem dX8_rush_4 : decode cX8_rush 4 = .ok (.invokevirtual 153, 3) := by decide +kernel
theorem dX8_rush_7 : decode cX8_rush 7 = .ok (.ifCond .ne 6, 3) := by decide +kernel
theorem dX8_rush_10 : decode cX8_rush 10 = .ok (.bipush (-2), 2) := by decide +kernel
theorem dX8_rush_12 : decode cX8_rush 12 = .ok (.ireturn, 1) := by decide +kernel
theorem dX8_rush_13 : decode cX8_rush 13 = .ok (.iconst 0, 1) := by decide +kernel
theorem dX8_rush_14 : decode cX8_rush 14 = .ok (.istore_n 1, 1) := by decide +kernel
theorem dX8_rush_15 : decode cX8_rush 15 = .ok (.iconst 0, 1) := by decide +kernel
theorem dX8_rush_16 : decode cX8_rush 16 = .ok (.istore_n 2, 1) := by decide +kernel
theorem dX8_rush_17 : decode cX8_rush 17 = .ok (.iload_n 2, 1) := by decide +kernel
theorem dX8_rush_18 : decode cX8_rush 18 = .ok (.aload_n 0, 1) := by decide +kernel
theorem dX8_rush_19 : decode cX8_rush 19 = .ok (.getfield 32, 3) := by decide +kernel
theorem dX8_rush_22 : decode cX8_rush 22 = .ok (.getfield 168, 3) := by decide +kernel
theorem dX8_rush_25 : decode cX8_rush 25 = .ok (.if_icmp .ge 19, 3) := by decide +kernel
theorem dX8_rush_28 : decode cX8_rush 28 = .ok (.iload_n 1, 1) := by decide +kernel
theorem dX8_rush_29 : decode cX8_rush 29 = .ok (.aload_n 0, 1) := by decide +kernel
theorem dX8_rush_30 : decode cX8_rush 30 = .ok (.iload_n 2, 1) := by decide +kernel
theorem dX8_rush_31 : decode cX8_rush 31 = .ok (.invokevirtual 246, 3) := by decide +kernel
theorem dX8_rush_34 : decode cX8_rush 34 = .ok (.invokestatic 223, 3) := by decide +kernel
theorem dX8_rush_37 : decode cX8_rush 37 = .ok (.istore_n 1, 1) := by decide +kernel
theorem dX8_rush_38 : decode cX8_rush 38 = .ok (.iinc 2 1, 3) := by decide +kernel
theorem dX8_rush_41 : decode cX8_rush 41 = .ok (.goto (-24), 3) := by decide +kernel
theorem dX8_rush_44 : decode cX8_rush 44 = .ok (.iload_n 1, 1) := by decide +kernel
theorem dX8_rush_45 : decode cX8_rush 45 = .ok (.ireturn, 1) := by decide +kernel

theorem dX8_share_0 : decode cX8_share 0 = .ok (.aload_n 0, 1) := by decide +kernel
theorem dX8_share_1 : decode cX8_share 1 = .ok (.getfield 32, 3) := by decide +kernel
theorem dX8_share_4 : decode cX8_share 4 = .ok (.iload_n 1, 1) := by decide +kernel
theorem dX8_share_5 : decode cX8_share 5 = .ok (.invokevirtual 127, 3) := by decide +kernel
theorem dX8_share_8 : decode cX8_share 8 = .ok (.ifCond .eq 10, 3) := by decide +kernel
theorem dX8_share_11 : decode cX8_share 11 = .ok (.iload_n 2, 1) := by decide +kernel
theorem dX8_share_12 : decode cX8_share 12 = .ok (.invokestatic 263, 3) := by decide +kernel
theorem dX8_share_15 : decode cX8_share 15 = .ok (.ifCond .ne 7, 3) := by decide +kernel
theorem dX8_share_18 : decode cX8_share 18 = .ok (.ldc_w 266, 3) := by decide +kernel
theorem dX8_share_21 : decode cX8_share 21 = .ok (.ireturn, 1) := by decide +kernel
theorem dX8_share_22 : decode cX8_share 22 = .ok (.aload_n 0, 1) := by decide +kernel
theorem dX8_share_23 : decode cX8_share 23 = .ok (.getfield 59, 3) := by decide +kernel
theorem dX8_share_26 : decode cX8_share 26 = .ok (.iconst (-1), 1) := by decide +kernel
theorem dX8_share_27 : decode cX8_share 27 = .ok (.invokevirtual 257, 3) := by decide +kernel
theorem dX8_share_30 : decode cX8_share 30 = .ok (.lconst 0, 1) := by decide +kernel
theorem dX8_share_31 : decode cX8_share 31 = .ok (.lstore_n 3, 1) := by decide +kernel
theorem dX8_share_32 : decode cX8_share 32 = .ok (.iconst 0, 1) := by decide +kernel
theorem dX8_share_33 : decode cX8_share 33 = .ok (.istore 5, 2) := by decide +kernel
theorem dX8_share_35 : decode cX8_share 35 = .ok (.iload 5, 2) := by decide +kernel
theorem dX8_share_37 : decode cX8_share 37 = .ok (.aload_n 0, 1) := by decide +kernel
theorem dX8_share_38 : decode cX8_share 38 = .ok (.getfield 32, 3) := by decide +kernel
theorem dX8_share_41 : decode cX8_share 41 = .ok (.invokevirtual 243, 3) := by decide +kernel
theorem dX8_share_44 : decode cX8_share 44 = .ok (.if_icmp .gt 74, 3) := by decide +kernel
theorem dX8_share_47 : decode cX8_share 47 = .ok (.iload 5, 2) := by decide +kernel
theorem dX8_share_49 : decode cX8_share 49 = .ok (.iload_n 1, 1) := by decide +kernel
theorem dX8_share_50 : decode cX8_share 50 = .ok (.invokestatic 145, 3) := by decide +kernel
theorem dX8_share_53 : decode cX8_share 53 = .ok (.ifCond .ne 59, 3) := by decide +kernel
theorem dX8_share_56 : decode cX8_share 56 = .ok (.iload 5, 2) := by decide +kernel
theorem dX8_share_58 : decode cX8_share 58 = .ok (.invokestatic 252, 3) := by decide +kernel
theorem dX8_share_61 : decode cX8_share 61 = .ok (.istore 6, 2) := by decide +kernel
theorem dX8_share_63 : decode cX8_share 63 = .ok (.iload 6, 2) := by decide +kernel
theorem dX8_share_65 : decode cX8_share 65 = .ok (.invokestatic 267, 3) := by decide +kernel
theorem dX8_share_68 : decode cX8_share 68 = .ok (.i2l, 1) := by decide +kernel
theorem dX8_share_69 : decode cX8_share 69 = .ok (.aload_n 0, 1) := by decide +kernel
theorem dX8_share_70 : decode cX8_share 70 = .ok (.getfield 32, 3) := by decide +kernel
theorem dX8_share_73 : decode cX8_share 73 = .ok (.getfield 156, 3) := by decide +kernel
theorem dX8_share_76 : decode cX8_share 76 = .ok (.iconst 1, 1) := by decide +kernel
theorem dX8_share_77 : decode cX8_share 77 = .ok (.isub, 1) := by decide +kernel
theorem dX8_share_78 : decode cX8_share 78 = .ok (.iload 6, 2) := by decide +kernel
theorem dX8_share_80 : decode cX8_share 80 = .ok (.isub, 1) := by decide +kernel
theorem dX8_share_81 : decode cX8_share 81 = .ok (.invokestatic 267, 3) := by decide +kernel
theorem dX8_share_84 : decode cX8_share 84 = .ok (.i2l, 1) := by decide +kernel
theorem dX8_share_85 : decode cX8_share 85 = .ok (.lmul, 1) := by decide +kernel
theorem dX8_share_86 : decode cX8_share 86 = .ok (.lstore 7, 2) := by decide +kernel
theorem dX8_share_88 : decode cX8_share 88 = .ok (.lload_n 3, 1) := by decide +kernel
theorem dX8_share_89 : decode cX8_share 89 = .ok (.lload 7, 2) := by decide +kernel
theorem dX8_share_91 : decode cX8_share 91 = .ok (.aload_n 0, 1) := by decide +kernel
theorem dX8_share_92 : decode cX8_share 92 = .ok (.iload 5, 2) := by decide +kernel
theorem dX8_share_94 : decode cX8_share 94 = .ok (.iconst 1, 1) := by decide +kernel
theorem dX8_share_95 : decode cX8_share 95 = .ok (.iload_n 1, 1) := by decide +kernel
theorem dX8_share_96 : decode cX8_share 96 = .ok (.ishl, 1) := by decide +kernel
theorem dX8_share_97 : decode cX8_share 97 = .ok (.ior, 1) := by decide +kernel
theorem dX8_share_98 : decode cX8_share 98 = .ok (.invokevirtual 260, 3) := by decide +kernel
theorem dX8_share_101 : decode cX8_share 101 = .ok (.aload_n 0, 1) := by decide +kernel
theorem dX8_share_102 : decode cX8_share 102 = .ok (.iload 5, 2) := by decide +kernel
theorem dX8_share_104 : decode cX8_share 104 = .ok (.invokevirtual 260, 3) := by decide +kernel
theorem dX8_share_107 : decode cX8_share 107 = .ok (.isub, 1) := by decide +kernel
theorem dX8_share_108 : decode cX8_share 108 = .ok (.i2l, 1) := by decide +kernel
theorem dX8_share_109 : decode cX8_share 109 = .ok (.lmul, 1) := by decide +kernel
theorem dX8_share_110 : decode cX8_share 110 = .ok (.ladd, 1) := by decide +kernel
theorem dX8_share_111 : decode cX8_share 111 = .ok (.lstore_n 3, 1) := by decide +kernel
theorem dX8_share_112 : decode cX8_share 112 = .ok (.iinc 5 1, 3) := by decide +kernel
theorem dX8_share_115 : decode cX8_share 115 = .ok (.goto (-80), 3) := by decide +kernel
theorem dX8_share_118 : decode cX8_share 118 = .ok (.lload_n 3, 1) := by decide +kernel
theorem dX8_share_119 : decode cX8_share 119 = .ok (.aload_n 0, 1) := by decide +kernel
theorem dX8_share_120 : decode cX8_share 120 = .ok (.getfield 32, 3) := by decide +kernel
theorem dX8_share_123 : decode cX8_share 123 = .ok (.getfield 156, 3) := by decide +kernel
theorem dX8_share_126 : decode cX8_share 126 = .ok (.invokestatic 267, 3) := by decide +kernel
theorem dX8_share_129 : decode cX8_share 129 = .ok (.i2l, 1) := by decide +kernel
theorem dX8_share_130 : decode cX8_share 130 = .ok (.iload_n 2, 1) := by decide +kernel
theorem dX8_share_131 : decode cX8_share 131 = .ok (.invokestatic 270, 3) := by decide +kernel
theorem dX8_share_134 : decode cX8_share 134 = .ok (.l2i, 1) := by decide +kernel
theorem dX8_share_135 : decode cX8_share 135 = .ok (.ireturn, 1) := by decide +kernel

theorem dX8_sharp_0 : decode cX8_sharp 0 = .ok (.aload_n 0, 1) := by decide +kernel
theorem dX8_sharp_1 : decode cX8_sharp 1 = .ok (.getfield 32, 3) := by decide +kernel
theorem dX8_sharp_4 : decode cX8_sharp 4 = .ok (.invokevirtual 153, 3) := by decide +kernel
theorem dX8_sharp_7 : decode cX8_sharp 7 = .ok (.ifCond .eq 10, 3) := by decide +kernel
theorem dX8_sharp_10 : decode cX8_sharp 10 = .ok (.aload_n 0, 1) := by decide +kernel
theorem dX8_sharp_11 : decode cX8_sharp 11 = .ok (.invokevirtual 234, 3) := by decide +kernel
theorem dX8_sharp_14 : decode cX8_sharp 14 = .ok (.goto 5, 3) := by decide +kernel
theorem dX8_sharp_17 : decode cX8_sharp 17 = .ok (.bipush (-2), 2) := by decide +kernel
theorem dX8_sharp_19 : decode cX8_sharp 19 = .ok (.ireturn, 1) := by decide +kernel

theorem dX8_slit_0 : decode cX8_slit 0 = .ok (.aload_n 0, 1) := by decide +kernel
theorem dX8_slit_1 : decode cX8_slit 1 = .ok (.getfield 32, 3) := by decide +kernel
theorem dX8_slit_4 : decode cX8_slit 4 = .ok (.invokevirtual 153, 3) := by decide +kernel
theorem dX8_slit_7 : decode cX8_slit 7 = .ok (.ifCond .ne 6, 3) := by decide +kernel
theorem dX8_slit_10 : decode cX8_slit 10 = .ok (.bipush (-2), 2) := by decide +kernel
theorem dX8_slit_12 : decode cX8_slit 12 = .ok (.ireturn, 1) := by decide +kernel
theorem dX8_slit_13 : decode cX8_slit 13 = .ok (.iconst (-1), 1) := by decide +kernel
theorem dX8_slit_14 : decode cX8_slit 14 = .ok (.istore_n 1, 1) := by decide +kernel
theorem dX8_slit_15 : decode cX8_slit 15 = .ok (.aload_n 0, 1) := by decide +kernel
theorem dX8_slit_16 : decode cX8_slit 16 = .ok (.invokevirtual 189, 3) := by decide +kernel
theorem dX8_slit_19 : decode cX8_slit 19 = .ok (.invokevirtual 217, 3) := by decide +kernel
theorem dX8_slit_22 : decode cX8_slit 22 = .ok (.istore_n 2, 1) := by decide +kernel
theorem dX8_slit_23 : decode cX8_slit 23 = .ok (.iconst 0, 1) := by decide +kernel
theorem dX8_slit_24 : decode cX8_slit 24 = .ok (.istore_n 3, 1) := by decide +kernel
theorem dX8_slit_25 : decode cX8_slit 25 = .ok (.iload_n 3, 1) := by decide +kernel
theorem dX8_slit_26 : decode cX8_slit 26 = .ok (.aload_n 0, 1) := by decide +kernel
theorem dX8_slit_27 : decode cX8_slit 27 = .ok (.getfield 32, 3) := by decide +kernel
theorem dX8_slit_30 : decode cX8_slit 30 = .ok (.getfield 176, 3) := by decide +kernel
theorem dX8_slit_33 : decode cX8_slit 33 = .ok (.if_icmp .ge 51, 3) := by decide +kernel
theorem dX8_slit_36 : decode cX8_slit 36 = .ok (.aload_n 0, 1) := by decide +kernel
theorem dX8_slit_37 : decode cX8_slit 37 = .ok (.getfield 59, 3) := by decide +kernel
theorem dX8_slit_40 : decode cX8_slit 40 = .ok (.iload_n 3, 1) := by decide +kernel
theorem dX8_slit_41 : decode cX8_slit 41 = .ok (.invokevirtual 257, 3) := by decide +kernel
theorem dX8_slit_44 : decode cX8_slit 44 = .ok (.aload_n 0, 1) := by decide +kernel
theorem dX8_slit_45 : decode cX8_slit 45 = .ok (.getfield 59, 3) := by decide +kernel
theorem dX8_slit_48 : decode cX8_slit 48 = .ok (.aload_n 0, 1) := by decide +kernel
theorem dX8_slit_49 : decode cX8_slit 49 = .ok (.getfield 32, 3) := by decide +kernel
theorem dX8_slit_52 : decode cX8_slit 52 = .ok (.invokevirtual 315, 3) := by decide +kernel
theorem dX8_slit_55 : decode cX8_slit 55 = .ok (.invokevirtual 329, 3) := by decide +kernel
theorem dX8_slit_58 : decode cX8_slit 58 = .ok (.aload_n 0, 1) := by decide +kernel
theorem dX8_slit_59 : decode cX8_slit 59 = .ok (.getfield 59, 3) := by decide +kernel
theorem dX8_slit_62 : decode cX8_slit 62 = .ok (.invokevirtual 217, 3) := by decide +kernel
theorem dX8_slit_65 : decode cX8_slit 65 = .ok (.istore 4, 2) := by decide +kernel
theorem dX8_slit_67 : decode cX8_slit 67 = .ok (.iload 4, 2) := by decide +kernel
theorem dX8_slit_69 : decode cX8_slit 69 = .ok (.iload_n 2, 1) := by decide +kernel
theorem dX8_slit_70 : decode cX8_slit 70 = .ok (.if_icmp .le 8, 3) := by decide +kernel
theorem dX8_slit_73 : decode cX8_slit 73 = .ok (.iload 4, 2) := by decide +kernel
theorem dX8_slit_75 : decode cX8_slit 75 = .ok (.istore_n 2, 1) := by decide +kernel
theorem dX8_slit_76 : decode cX8_slit 76 = .ok (.iload_n 3, 1) := by decide +kernel
theorem dX8_slit_77 : decode cX8_slit 77 = .ok (.istore_n 1, 1) := by decide +kernel
theorem dX8_slit_78 : decode cX8_slit 78 = .ok (.iinc 3 1, 3) := by decide +kernel
theorem dX8_slit_81 : decode cX8_slit 81 = .ok (.goto (-56), 3) := by decide +kernel
theorem dX8_slit_84 : decode cX8_slit 84 = .ok (.iload_n 1, 1) := by decide +kernel
theorem dX8_slit_85 : decode cX8_slit 85 = .ok (.ireturn, 1) := by decide +kernel

theorem dX8_stalest_0 : decode cX8_stalest 0 = .ok (.aload_n 0, 1) := by decide +kernel
theorem dX8_stalest_1 : decode cX8_stalest 1 = .ok (.getfield 32, 3) := by decide +kernel
theorem dX8_stalest_4 : decode cX8_stalest 4 = .ok (.iload_n 1, 1) := by decide +kernel
theorem dX8_stalest_5 : decode cX8_stalest 5 = .ok (.invokevirtual 196, 3) := by decide +kernel
theorem dX8_stalest_8 : decode cX8_stalest 8 = .ok (.ifCond .ne 6, 3) := by decide +kernel
theorem dX8_stalest_11 : decode cX8_stalest 11 = .ok (.bipush (-2), 2) := by decide +kernel
theorem dX8_stalest_13 : decode cX8_stalest 13 = .ok (.ireturn, 1) := by decide +kernel
theorem dX8_stalest_14 : decode cX8_stalest 14 = .ok (.aload_n 0, 1) := by decide +kernel
theorem dX8_stalest_15 : decode cX8_stalest 15 = .ok (.invokevirtual 189, 3) := by decide +kernel
theorem dX8_stalest_18 : decode cX8_stalest 18 = .ok (.iload_n 1, 1) := by decide +kernel
theorem dX8_stalest_19 : decode cX8_stalest 19 = .ok (.invokevirtual 199, 3) := by decide +kernel
theorem dX8_stalest_22 : decode cX8_stalest 22 = .ok (.istore_n 2, 1) := by decide +kernel
theorem dX8_stalest_23 : decode cX8_stalest 23 = .ok (.iconst (-1), 1) := by decide +kernel
theorem dX8_stalest_24 : decode cX8_stalest 24 = .ok (.istore_n 3, 1) := by decide +kernel
theorem dX8_stalest_25 : decode cX8_stalest 25 = .ok (.iconst (-1), 1) := by decide +kernel
theorem dX8_stalest_26 : decode cX8_stalest 26 = .ok (.istore 4, 2) := by decide +kernel
theorem dX8_stalest_28 : decode cX8_stalest 28 = .ok (.iconst 0, 1) := by decide +kernel
theorem dX8_stalest_29 : decode cX8_stalest 29 = .ok (.istore 5, 2) := by decide +kernel
theorem dX8_stalest_31 : decode cX8_stalest 31 = .ok (.iload 5, 2) := by decide +kernel
theorem dX8_stalest_33 : decode cX8_stalest 33 = .ok (.aload_n 0, 1) := by decide +kernel
theorem dX8_stalest_34 : decode cX8_stalest 34 = .ok (.getfield 32, 3) := by decide +kernel
theorem dX8_stalest_37 : decode cX8_stalest 37 = .ok (.getfield 156, 3) := by decide +kernel
theorem dX8_stalest_40 : decode cX8_stalest 40 = .ok (.if_icmp .ge 48, 3) := by decide +kernel
theorem dX8_stalest_43 : decode cX8_stalest 43 = .ok (.iload_n 2, 1) := by decide +kernel
theorem dX8_stalest_44 : decode cX8_stalest 44 = .ok (.iload 5, 2) := by decide +kernel
theorem dX8_stalest_46 : decode cX8_stalest 46 = .ok (.invokestatic 145, 3) := by decide +kernel
theorem dX8_stalest_49 : decode cX8_stalest 49 = .ok (.ifCond .eq 7, 3) := by decide +kernel
theorem dX8_stalest_52 : decode cX8_stalest 52 = .ok (.iconst (-1), 1) := by decide +kernel
theorem dX8_stalest_53 : decode cX8_stalest 53 = .ok (.goto 13, 3) := by decide +kernel
theorem dX8_stalest_56 : decode cX8_stalest 56 = .ok (.aload_n 0, 1) := by decide +kernel
theorem dX8_stalest_57 : decode cX8_stalest 57 = .ok (.invokevirtual 189, 3) := by decide +kernel
theorem dX8_stalest_60 : decode cX8_stalest 60 = .ok (.iload 5, 2) := by decide +kernel
theorem dX8_stalest_62 : decode cX8_stalest 62 = .ok (.iload_n 1, 1) := by decide +kernel
theorem dX8_stalest_63 : decode cX8_stalest 63 = .ok (.invokevirtual 193, 3) := by decide +kernel
theorem dX8_stalest_66 : decode cX8_stalest 66 = .ok (.istore 6, 2) := by decide +kernel
theorem dX8_stalest_68 : decode cX8_stalest 68 = .ok (.iload 6, 2) := by decide +kernel
theorem dX8_stalest_70 : decode cX8_stalest 70 = .ok (.iload 4, 2) := by decide +kernel
theorem dX8_stalest_72 : decode cX8_stalest 72 = .ok (.if_icmp .le 10, 3) := by decide +kernel
theorem dX8_stalest_75 : decode cX8_stalest 75 = .ok (.iload 6, 2) := by decide +kernel
theorem dX8_stalest_77 : decode cX8_stalest 77 = .ok (.istore 4, 2) := by decide +kernel
theorem dX8_stalest_79 : decode cX8_stalest 79 = .ok (.iload 5, 2) := by decide +kernel
theorem dX8_stalest_81 : decode cX8_stalest 81 = .ok (.istore_n 3, 1) := by decide +kernel
theorem dX8_stalest_82 : decode cX8_stalest 82 = .ok (.iinc 5 1, 3) := by decide +kernel
theorem dX8_stalest_85 : decode cX8_stalest 85 = .ok (.goto (-54), 3) := by decide +kernel
theorem dX8_stalest_88 : decode cX8_stalest 88 = .ok (.iload_n 3, 1) := by decide +kernel
theorem dX8_stalest_89 : decode cX8_stalest 89 = .ok (.ireturn, 1) := by decide +kernel

theorem dX8_stiff_0 : decode cX8_stiff 0 = .ok (.aload_n 0, 1) := by decide +kernel
theorem dX8_stiff_1 : decode cX8_stiff 1 = .ok (.iload_n 1, 1) := by decide +kernel
theorem dX8_stiff_2 : decode cX8_stiff 2 = .ok (.iload_n 2, 1) := by decide +kernel
theorem dX8_stiff_3 : decode cX8_stiff 3 = .ok (.invokevirtual 186, 3) := by decide +kernel
theorem dX8_stiff_6 : decode cX8_stiff 6 = .ok (.ifCond .eq 15, 3) := by decide +kernel
theorem dX8_stiff_9 : decode cX8_stiff 9 = .ok (.aload_n 0, 1) := by decide +kernel
theorem dX8_stiff_10 : decode cX8_stiff 10 = .ok (.invokevirtual 189, 3) := by decide +kernel
theorem dX8_stiff_13 : decode cX8_stiff 13 = .ok (.iload_n 1, 1) := by decide +kernel
theorem dX8_stiff_14 : decode cX8_stiff 14 = .ok (.iload_n 2, 1) := by decide +kernel
theorem dX8_stiff_15 : decode cX8_stiff 15 = .ok (.invokevirtual 193, 3) := by decide +kernel
theorem dX8_stiff_18 : decode cX8_stiff 18 = .ok (.goto 5, 3) := by decide +kernel
theorem dX8_stiff_21 : decode cX8_stiff 21 = .ok (.bipush (-2), 2) := by decide +kernel
theorem dX8_stiff_23 : decode cX8_stiff 23 = .ok (.ireturn, 1) := by decide +kernel

theorem dX8_stiffs_0 : decode cX8_stiffs 0 = .ok (.aload_n 0, 1) := by decide +kernel
theorem dX8_stiffs_1 : decode cX8_stiffs 1 = .ok (.iload_n 1, 1) := by decide +kernel
theorem dX8_stiffs_2 : decode cX8_stiffs 2 = .ok (.iload_n 2, 1) := by decide +kernel
theorem dX8_stiffs_3 : decode cX8_stiffs 3 = .ok (.invokevirtual 289, 3) := by decide +kernel
theorem dX8_stiffs_6 : decode cX8_stiffs 6 = .ok (.istore_n 3, 1) := by decide +kernel
theorem dX8_stiffs_7 : decode cX8_stiffs 7 = .ok (.iload_n 3, 1) := by decide +kernel
theorem dX8_stiffs_8 : decode cX8_stiffs 8 = .ok (.ifCond .ne 19, 3) := by decide +kernel
theorem dX8_stiffs_11 : decode cX8_stiffs 11 = .ok (.aload_n 0, 1) := by decide +kernel
theorem dX8_stiffs_12 : decode cX8_stiffs 12 = .ok (.getfield 83, 3) := by decide +kernel
theorem dX8_stiffs_15 : decode cX8_stiffs 15 = .ok (.iload_n 1, 1) := by decide +kernel
theorem dX8_stiffs_16 : decode cX8_stiffs 16 = .ok (.iload_n 2, 1) := by decide +kernel
theorem dX8_stiffs_17 : decode cX8_stiffs 17 = .ok (.aload_n 0, 1) := by decide +kernel
theorem dX8_stiffs_18 : decode cX8_stiffs 18 = .ok (.invokevirtual 189, 3) := by decide +kernel
theorem dX8_stiffs_21 : decode cX8_stiffs 21 = .ok (.invokevirtual 292, 3) := by decide +kernel
theorem dX8_stiffs_24 : decode cX8_stiffs 24 = .ok (.goto 4, 3) := by decide +kernel
theorem dX8_stiffs_27 : decode cX8_stiffs 27 = .ok (.iload_n 3, 1) := by decide +kernel
theorem dX8_stiffs_28 : decode cX8_stiffs 28 = .ok (.ireturn, 1) := by decide +kernel

theorem dX8_tale_0 : decode cX8_tale 0 = .ok (.aload_n 0, 1) := by decide +kernel
theorem dX8_tale_1 : decode cX8_tale 1 = .ok (.getfield 28, 3) := by decide +kernel
theorem dX8_tale_4 : decode cX8_tale 4 = .ok (.invokevirtual 109, 3) := by decide +kernel
theorem dX8_tale_7 : decode cX8_tale 7 = .ok (.ifCond .ne 6, 3) := by decide +kernel
theorem dX8_tale_10 : decode cX8_tale 10 = .ok (.bipush (-4), 2) := by decide +kernel
theorem dX8_tale_12 : decode cX8_tale 12 = .ok (.ireturn, 1) := by decide +kernel
theorem dX8_tale_13 : decode cX8_tale 13 = .ok (.aload_n 0, 1) := by decide +kernel
theorem dX8_tale_14 : decode cX8_tale 14 = .ok (.getfield 32, 3) := by decide +kernel
theorem dX8_tale_17 : decode cX8_tale 17 = .ok (.aload_n 0, 1) := by decide +kernel
theorem dX8_tale_18 : decode cX8_tale 18 = .ok (.getfield 19, 3) := by decide +kernel
theorem dX8_tale_21 : decode cX8_tale 21 = .ok (.invokevirtual 112, 3) := by decide +kernel
theorem dX8_tale_24 : decode cX8_tale 24 = .ok (.aload_n 0, 1) := by decide +kernel
theorem dX8_tale_25 : decode cX8_tale 25 = .ok (.getfield 10, 3) := by decide +kernel
theorem dX8_tale_28 : decode cX8_tale 28 = .ok (.iconst 0, 1) := by decide +kernel
theorem dX8_tale_29 : decode cX8_tale 29 = .ok (.putfield 106, 3) := by decide +kernel
theorem dX8_tale_32 : decode cX8_tale 32 = .ok (.aload_n 0, 1) := by decide +kernel
theorem dX8_tale_33 : decode cX8_tale 33 = .ok (.invokevirtual 115, 3) := by decide +kernel
theorem dX8_tale_36 : decode cX8_tale 36 = .ok (.aload_n 0, 1) := by decide +kernel
theorem dX8_tale_37 : decode cX8_tale 37 = .ok (.getfield 32, 3) := by decide +kernel
theorem dX8_tale_40 : decode cX8_tale 40 = .ok (.getfield 118, 3) := by decide +kernel
theorem dX8_tale_43 : decode cX8_tale 43 = .ok (.ireturn, 1) := by decide +kernel

theorem dX8_uncle_0 : decode cX8_uncle 0 = .ok (.aload_n 0, 1) := by decide +kernel
theorem dX8_uncle_1 : decode cX8_uncle 1 = .ok (.getfield 32, 3) := by decide +kernel
theorem dX8_uncle_4 : decode cX8_uncle 4 = .ok (.getfield 156, 3) := by decide +kernel
theorem dX8_uncle_7 : decode cX8_uncle 7 = .ok (.ifCond .ne 7, 3) := by decide +kernel
theorem dX8_uncle_10 : decode cX8_uncle 10 = .ok (.sipush (-1000), 3) := by decide +kernel
theorem dX8_uncle_13 : decode cX8_uncle 13 = .ok (.ireturn, 1) := by decide +kernel
theorem dX8_uncle_14 : decode cX8_uncle 14 = .ok (.aload_n 0, 1) := by decide +kernel
theorem dX8_uncle_15 : decode cX8_uncle 15 = .ok (.getfield 59, 3) := by decide +kernel
theorem dX8_uncle_18 : decode cX8_uncle 18 = .ok (.iconst (-1), 1) := by decide +kernel
theorem dX8_uncle_19 : decode cX8_uncle 19 = .ok (.invokevirtual 257, 3) := by decide +kernel
theorem dX8_uncle_22 : decode cX8_uncle 22 = .ok (.aload_n 0, 1) := by decide +kernel
theorem dX8_uncle_23 : decode cX8_uncle 23 = .ok (.iconst 0, 1) := by decide +kernel
theorem dX8_uncle_24 : decode cX8_uncle 24 = .ok (.invokevirtual 332, 3) := by decide +kernel
theorem dX8_uncle_27 : decode cX8_uncle 27 = .ok (.istore_n 1, 1) := by decide +kernel
theorem dX8_uncle_28 : decode cX8_uncle 28 = .ok (.iconst 1, 1) := by decide +kernel
theorem dX8_uncle_29 : decode cX8_uncle 29 = .ok (.istore_n 2, 1) := by decide +kernel
theorem dX8_uncle_30 : decode cX8_uncle 30 = .ok (.iload_n 2, 1) := by decide +kernel
theorem dX8_uncle_31 : decode cX8_uncle 31 = .ok (.aload_n 0, 1) := by decide +kernel
theorem dX8_uncle_32 : decode cX8_uncle 32 = .ok (.getfield 32, 3) := by decide +kernel
theorem dX8_uncle_35 : decode cX8_uncle 35 = .ok (.getfield 156, 3) := by decide +kernel
theorem dX8_uncle_38 : decode cX8_uncle 38 = .ok (.if_icmp .ge 19, 3) := by decide +kernel
theorem dX8_uncle_41 : decode cX8_uncle 41 = .ok (.iload_n 1, 1) := by decide +kernel
theorem dX8_uncle_42 : decode cX8_uncle 42 = .ok (.aload_n 0, 1) := by decide +kernel
theorem dX8_uncle_43 : decode cX8_uncle 43 = .ok (.iload_n 2, 1) := by decide +kernel
theorem dX8_uncle_44 : decode cX8_uncle 44 = .ok (.invokevirtual 332, 3) := by decide +kernel
theorem dX8_uncle_47 : decode cX8_uncle 47 = .ok (.invokestatic 223, 3) := by decide +kernel
theorem dX8_uncle_50 : decode cX8_uncle 50 = .ok (.istore_n 1, 1) := by decide +kernel
theorem dX8_uncle_51 : decode cX8_uncle 51 = .ok (.iinc 2 1, 3) := by decide +kernel
theorem dX8_uncle_54 : decode cX8_uncle 54 = .ok (.goto (-24), 3) := by decide +kernel
theorem dX8_uncle_57 : decode cX8_uncle 57 = .ok (.iload_n 1, 1) := by decide +kernel
theorem dX8_uncle_58 : decode cX8_uncle 58 = .ok (.ireturn, 1) := by decide +kernel

theorem dX8_uncut_0 : decode cX8_uncut 0 = .ok (.aload_n 0, 1) := by decide +kernel
theorem dX8_uncut_1 : decode cX8_uncut 1 = .ok (.getfield 32, 3) := by decide +kernel
theorem dX8_uncut_4 : decode cX8_uncut 4 = .ok (.invokevirtual 153, 3) := by decide +kernel
theorem dX8_uncut_7 : decode cX8_uncut 7 = .ok (.ifCond .eq 10, 3) := by decide +kernel
theorem dX8_uncut_10 : decode cX8_uncut 10 = .ok (.aload_n 0, 1) := by decide +kernel
theorem dX8_uncut_11 : decode cX8_uncut 11 = .ok (.invokevirtual 240, 3) := by decide +kernel
theorem dX8_uncut_14 : decode cX8_uncut 14 = .ok (.goto 5, 3) := by decide +kernel
theorem dX8_uncut_17 : decode cX8_uncut 17 = .ok (.bipush (-2), 2) := by decide +kernel
theorem dX8_uncut_19 : decode cX8_uncut 19 = .ok (.ireturn, 1) := by decide +kernel

theorem dX8_undo_0 : decode cX8_undo 0 = .ok (.aload_n 0, 1) := by decide +kernel
theorem dX8_undo_1 : decode cX8_undo 1 = .ok (.getfield 32, 3) := by decide +kernel
theorem dX8_undo_4 : decode cX8_undo 4 = .ok (.invokevirtual 153, 3) := by decide +kernel
theorem dX8_undo_7 : decode cX8_undo 7 = .ok (.ifCond .ne 6, 3) := by decide +kernel
theorem dX8_undo_10 : decode cX8_undo 10 = .ok (.bipush (-2), 2) := by decide +kernel
theorem dX8_undo_12 : decode cX8_undo 12 = .ok (.ireturn, 1) := by decide +kernel
theorem dX8_undo_13 : decode cX8_undo 13 = .ok (.aload_n 0, 1) := by decide +kernel
theorem dX8_undo_14 : decode cX8_undo 14 = .ok (.getfield 32, 3) := by decide +kernel
theorem dX8_undo_17 : decode cX8_undo 17 = .ok (.getfield 179, 3) := by decide +kernel
theorem dX8_undo_20 : decode cX8_undo 20 = .ok (.ifCond .ne 6, 3) := by decide +kernel
theorem dX8_undo_23 : decode cX8_undo 23 = .ok (.bipush (-5), 2) := by decide +kernel
theorem dX8_undo_25 : decode cX8_undo 25 = .ok (.ireturn, 1) := by decide +kernel
theorem dX8_undo_26 : decode cX8_undo 26 = .ok (.aload_n 0, 1) := by decide +kernel
theorem dX8_undo_27 : decode cX8_undo 27 = .ok (.getfield 32, 3) := by decide +kernel
theorem dX8_undo_30 : decode cX8_undo 30 = .ok (.dup, 1) := by decide +kernel
theorem dX8_undo_31 : decode cX8_undo 31 = .ok (.getfield 179, 3) := by decide +kernel
theorem dX8_undo_34 : decode cX8_undo 34 = .ok (.iconst 1, 1) := by decide +kernel
theorem dX8_undo_35 : decode cX8_undo 35 = .ok (.isub, 1) := by decide +kernel
theorem dX8_undo_36 : decode cX8_undo 36 = .ok (.putfield 179, 3) := by decide +kernel
theorem dX8_undo_39 : decode cX8_undo 39 = .ok (.aload_n 0, 1) := by decide +kernel
theorem dX8_undo_40 : decode cX8_undo 40 = .ok (.invokevirtual 115, 3) := by decide +kernel
theorem dX8_undo_43 : decode cX8_undo 43 = .ok (.aload_n 0, 1) := by decide +kernel
theorem dX8_undo_44 : decode cX8_undo 44 = .ok (.getfield 32, 3) := by decide +kernel
theorem dX8_undo_47 : decode cX8_undo 47 = .ok (.getfield 179, 3) := by decide +kernel
theorem dX8_undo_50 : decode cX8_undo 50 = .ok (.ireturn, 1) := by decide +kernel

theorem dX8_waits_0 : decode cX8_waits 0 = .ok (.aload_n 0, 1) := by decide +kernel
theorem dX8_waits_1 : decode cX8_waits 1 = .ok (.getfield 32, 3) := by decide +kernel
theorem dX8_waits_4 : decode cX8_waits 4 = .ok (.iload_n 1, 1) := by decide +kernel
theorem dX8_waits_5 : decode cX8_waits 5 = .ok (.invokevirtual 196, 3) := by decide +kernel
theorem dX8_waits_8 : decode cX8_waits 8 = .ok (.ifCond .ne 6, 3) := by decide +kernel
theorem dX8_waits_11 : decode cX8_waits 11 = .ok (.bipush (-2), 2) := by decide +kernel
theorem dX8_waits_13 : decode cX8_waits 13 = .ok (.ireturn, 1) := by decide +kernel
theorem dX8_waits_14 : decode cX8_waits 14 = .ok (.iconst 0, 1) := by decide +kernel
theorem dX8_waits_15 : decode cX8_waits 15 = .ok (.istore_n 2, 1) := by decide +kernel
theorem dX8_waits_16 : decode cX8_waits 16 = .ok (.iconst 0, 1) := by decide +kernel
theorem dX8_waits_17 : decode cX8_waits 17 = .ok (.istore_n 3, 1) := by decide +kernel
theorem dX8_waits_18 : decode cX8_waits 18 = .ok (.iload_n 3, 1) := by decide +kernel
theorem dX8_waits_19 : decode cX8_waits 19 = .ok (.aload_n 0, 1) := by decide +kernel
theorem dX8_waits_20 : decode cX8_waits 20 = .ok (.getfield 32, 3) := by decide +kernel
theorem dX8_waits_23 : decode cX8_waits 23 = .ok (.getfield 156, 3) := by decide +kernel
theorem dX8_waits_26 : decode cX8_waits 26 = .ok (.if_icmp .ge 25, 3) := by decide +kernel
theorem dX8_waits_29 : decode cX8_waits 29 = .ok (.iload_n 2, 1) := by decide +kernel
theorem dX8_waits_30 : decode cX8_waits 30 = .ok (.iconst 0, 1) := by decide +kernel
theorem dX8_waits_31 : decode cX8_waits 31 = .ok (.aload_n 0, 1) := by decide +kernel
theorem dX8_waits_32 : decode cX8_waits 32 = .ok (.invokevirtual 189, 3) := by decide +kernel
theorem dX8_waits_35 : decode cX8_waits 35 = .ok (.iload_n 3, 1) := by decide +kernel
theorem dX8_waits_36 : decode cX8_waits 36 = .ok (.iload_n 1, 1) := by decide +kernel
theorem dX8_waits_37 : decode cX8_waits 37 = .ok (.invokevirtual 220, 3) := by decide +kernel
theorem dX8_waits_40 : decode cX8_waits 40 = .ok (.invokestatic 223, 3) := by decide +kernel
theorem dX8_waits_43 : decode cX8_waits 43 = .ok (.iadd, 1) := by decide +kernel
theorem dX8_waits_44 : decode cX8_waits 44 = .ok (.istore_n 2, 1) := by decide +kernel
theorem dX8_waits_45 : decode cX8_waits 45 = .ok (.iinc 3 1, 3) := by decide +kernel
theorem dX8_waits_48 : decode cX8_waits 48 = .ok (.goto (-30), 3) := by decide +kernel
theorem dX8_waits_51 : decode cX8_waits 51 = .ok (.iload_n 2, 1) := by decide +kernel
theorem dX8_waits_52 : decode cX8_waits 52 = .ok (.ireturn, 1) := by decide +kernel

theorem dX8_when_0 : decode cX8_when 0 = .ok (.aload_n 0, 1) := by decide +kernel
theorem dX8_when_1 : decode cX8_when 1 = .ok (.getfield 32, 3) := by decide +kernel
theorem dX8_when_4 : decode cX8_when 4 = .ok (.iload_n 1, 1) := by decide +kernel
theorem dX8_when_5 : decode cX8_when 5 = .ok (.invokevirtual 127, 3) := by decide +kernel
theorem dX8_when_8 : decode cX8_when 8 = .ok (.ifCond .eq 14, 3) := by decide +kernel
theorem dX8_when_11 : decode cX8_when 11 = .ok (.aload_n 0, 1) := by decide +kernel
theorem dX8_when_12 : decode cX8_when 12 = .ok (.invokevirtual 189, 3) := by decide +kernel
theorem dX8_when_15 : decode cX8_when 15 = .ok (.iload_n 1, 1) := by decide +kernel
theorem dX8_when_16 : decode cX8_when 16 = .ok (.invokevirtual 202, 3) := by decide +kernel
theorem dX8_when_19 : decode cX8_when 19 = .ok (.goto 5, 3) := by decide +kernel
theorem dX8_when_22 : decode cX8_when 22 = .ok (.bipush (-2), 2) := by decide +kernel
theorem dX8_when_24 : decode cX8_when 24 = .ok (.ireturn, 1) := by decide +kernel

theorem dX8_with_0 : decode cX8_with 0 = .ok (.aload_n 0, 1) := by decide +kernel
theorem dX8_with_1 : decode cX8_with 1 = .ok (.getfield 32, 3) := by decide +kernel
theorem dX8_with_4 : decode cX8_with 4 = .ok (.iload_n 1, 1) := by decide +kernel
theorem dX8_with_5 : decode cX8_with 5 = .ok (.invokevirtual 127, 3) := by decide +kernel
theorem dX8_with_8 : decode cX8_with 8 = .ok (.ifCond .ne 6, 3) := by decide +kernel
theorem dX8_with_11 : decode cX8_with 11 = .ok (.bipush (-2), 2) := by decide +kernel
theorem dX8_with_13 : decode cX8_with 13 = .ok (.ireturn, 1) := by decide +kernel
theorem dX8_with_14 : decode cX8_with 14 = .ok (.aload_n 0, 1) := by decide +kernel
theorem dX8_with_15 : decode cX8_with 15 = .ok (.invokevirtual 189, 3) := by decide +kernel
theorem dX8_with_18 : decode cX8_with 18 = .ok (.astore_n 2, 1) := by decide +kernel
theorem dX8_with_19 : decode cX8_with 19 = .ok (.aload_n 2, 1) := by decide +kernel
theorem dX8_with_20 : decode cX8_with 20 = .ok (.iload_n 1, 1) := by decide +kernel
theorem dX8_with_21 : decode cX8_with 21 = .ok (.invokevirtual 202, 3) := by decide +kernel
theorem dX8_with_24 : decode cX8_with 24 = .ok (.istore_n 3, 1) := by decide +kernel
theorem dX8_with_25 : decode cX8_with 25 = .ok (.iload_n 3, 1) := by decide +kernel
theorem dX8_with_26 : decode cX8_with 26 = .ok (.iconst (-1), 1) := by decide +kernel
theorem dX8_with_27 : decode cX8_with 27 = .ok (.if_icmp .ne 5, 3) := by decide +kernel
theorem dX8_with_30 : decode cX8_with 30 = .ok (.iconst 0, 1) := by decide +kernel
theorem dX8_with_31 : decode cX8_with 31 = .ok (.ireturn, 1) := by decide +kernel
theorem dX8_with_32 : decode cX8_with 32 = .ok (.aload_n 2, 1) := by decide +kernel
theorem dX8_with_33 : decode cX8_with 33 = .ok (.getfield 205, 3) := by decide +kernel
theorem dX8_with_36 : decode cX8_with 36 = .ok (.aload_n 2, 1) := by decide +kernel
theorem dX8_with_37 : decode cX8_with 37 = .ok (.iload_n 3, 1) := by decide +kernel
theorem dX8_with_38 : decode cX8_with 38 = .ok (.iconst 1, 1) := by decide +kernel
theorem dX8_with_39 : decode cX8_with 39 = .ok (.iadd, 1) := by decide +kernel
theorem dX8_with_40 : decode cX8_with 40 = .ok (.invokevirtual 199, 3) := by decide +kernel
theorem dX8_with_43 : decode cX8_with 43 = .ok (.iand, 1) := by decide +kernel
theorem dX8_with_44 : decode cX8_with 44 = .ok (.aload_n 2, 1) := by decide +kernel
theorem dX8_with_45 : decode cX8_with 45 = .ok (.iload_n 3, 1) := by decide +kernel
theorem dX8_with_46 : decode cX8_with 46 = .ok (.invokevirtual 199, 3) := by decide +kernel
theorem dX8_with_49 : decode cX8_with 49 = .ok (.iconst (-1), 1) := by decide +kernel
theorem dX8_with_50 : decode cX8_with 50 = .ok (.ixor, 1) := by decide +kernel
theorem dX8_with_51 : decode cX8_with 51 = .ok (.iand, 1) := by decide +kernel
theorem dX8_with_52 : decode cX8_with 52 = .ok (.ireturn, 1) := by decide +kernel

theorem dX8_worth_0 : decode cX8_worth 0 = .ok (.aload_n 0, 1) := by decide +kernel
theorem dX8_worth_1 : decode cX8_worth 1 = .ok (.getfield 32, 3) := by decide +kernel
theorem dX8_worth_4 : decode cX8_worth 4 = .ok (.invokevirtual 153, 3) := by decide +kernel
theorem dX8_worth_7 : decode cX8_worth 7 = .ok (.ifCond .eq 18, 3) := by decide +kernel
theorem dX8_worth_10 : decode cX8_worth 10 = .ok (.iload_n 1, 1) := by decide +kernel
theorem dX8_worth_11 : decode cX8_worth 11 = .ok (.ifCond .lt 14, 3) := by decide +kernel
theorem dX8_worth_14 : decode cX8_worth 14 = .ok (.iload_n 1, 1) := by decide +kernel
theorem dX8_worth_15 : decode cX8_worth 15 = .ok (.aload_n 0, 1) := by decide +kernel
theorem dX8_worth_16 : decode cX8_worth 16 = .ok (.getfield 32, 3) := by decide +kernel
theorem dX8_worth_19 : decode cX8_worth 19 = .ok (.invokevirtual 243, 3) := by decide +kernel
theorem dX8_worth_22 : decode cX8_worth 22 = .ok (.if_icmp .le 6, 3) := by decide +kernel
theorem dX8_worth_25 : decode cX8_worth 25 = .ok (.bipush (-2), 2) := by decide +kernel
theorem dX8_worth_27 : decode cX8_worth 27 = .ok (.ireturn, 1) := by decide +kernel
theorem dX8_worth_28 : decode cX8_worth 28 = .ok (.aload_n 0, 1) := by decide +kernel
theorem dX8_worth_29 : decode cX8_worth 29 = .ok (.getfield 59, 3) := by decide +kernel
theorem dX8_worth_32 : decode cX8_worth 32 = .ok (.iconst (-1), 1) := by decide +kernel
theorem dX8_worth_33 : decode cX8_worth 33 = .ok (.invokevirtual 257, 3) := by decide +kernel
theorem dX8_worth_36 : decode cX8_worth 36 = .ok (.aload_n 0, 1) := by decide +kernel
theorem dX8_worth_37 : decode cX8_worth 37 = .ok (.iload_n 1, 1) := by decide +kernel
theorem dX8_worth_38 : decode cX8_worth 38 = .ok (.invokevirtual 260, 3) := by decide +kernel
theorem dX8_worth_41 : decode cX8_worth 41 = .ok (.ireturn, 1) := by decide +kernel

theorem dX8_write_0 : decode cX8_write 0 = .ok (.aload_n 0, 1) := by decide +kernel
theorem dX8_write_1 : decode cX8_write 1 = .ok (.getfield 46, 3) := by decide +kernel
theorem dX8_write_4 : decode cX8_write 4 = .ok (.iload_n 1, 1) := by decide +kernel
theorem dX8_write_5 : decode cX8_write 5 = .ok (.invokevirtual 378, 3) := by decide +kernel
theorem dX8_write_8 : decode cX8_write 8 = .ok (.ifCond .ne 6, 3) := by decide +kernel
theorem dX8_write_11 : decode cX8_write 11 = .ok (.bipush (-2), 2) := by decide +kernel
theorem dX8_write_13 : decode cX8_write 13 = .ok (.ireturn, 1) := by decide +kernel
theorem dX8_write_14 : decode cX8_write 14 = .ok (.aload_n 0, 1) := by decide +kernel
theorem dX8_write_15 : decode cX8_write 15 = .ok (.getfield 46, 3) := by decide +kernel
theorem dX8_write_18 : decode cX8_write 18 = .ok (.iload_n 1, 1) := by decide +kernel
theorem dX8_write_19 : decode cX8_write 19 = .ok (.invokevirtual 384, 3) := by decide +kernel
theorem dX8_write_22 : decode cX8_write 22 = .ok (.ifCond .eq 6, 3) := by decide +kernel
theorem dX8_write_25 : decode cX8_write 25 = .ok (.bipush (-6), 2) := by decide +kernel
theorem dX8_write_27 : decode cX8_write 27 = .ok (.ireturn, 1) := by decide +kernel
theorem dX8_write_28 : decode cX8_write 28 = .ok (.aload_n 0, 1) := by decide +kernel
theorem dX8_write_29 : decode cX8_write 29 = .ok (.getfield 46, 3) := by decide +kernel
theorem dX8_write_32 : decode cX8_write 32 = .ok (.iload_n 1, 1) := by decide +kernel
theorem dX8_write_33 : decode cX8_write 33 = .ok (.iload_n 2, 1) := by decide +kernel
theorem dX8_write_34 : decode cX8_write 34 = .ok (.iconst 1, 1) := by decide +kernel
theorem dX8_write_35 : decode cX8_write 35 = .ok (.invokevirtual 387, 3) := by decide +kernel
theorem dX8_write_38 : decode cX8_write 38 = .ok (.ifCond .ne 6, 3) := by decide +kernel
theorem dX8_write_41 : decode cX8_write 41 = .ok (.bipush (-7), 2) := by decide +kernel
theorem dX8_write_43 : decode cX8_write 43 = .ok (.ireturn, 1) := by decide +kernel
theorem dX8_write_44 : decode cX8_write 44 = .ok (.aload_n 0, 1) := by decide +kernel
theorem dX8_write_45 : decode cX8_write 45 = .ok (.getfield 46, 3) := by decide +kernel
theorem dX8_write_48 : decode cX8_write 48 = .ok (.iload_n 1, 1) := by decide +kernel
theorem dX8_write_49 : decode cX8_write 49 = .ok (.iload_n 2, 1) := by decide +kernel
theorem dX8_write_50 : decode cX8_write 50 = .ok (.lload_n 3, 1) := by decide +kernel
theorem dX8_write_51 : decode cX8_write 51 = .ok (.invokevirtual 391, 3) := by decide +kernel
theorem dX8_write_54 : decode cX8_write 54 = .ok (.iconst 0, 1) := by decide +kernel
theorem dX8_write_55 : decode cX8_write 55 = .ok (.ireturn, 1) := by decide +kernel
end
section
set_option maxRecDepth 100000 in
set_option maxHeartbeats 4000000 in
theorem k_X6_hasPart_15 {l : Launch} {D : va_G} {h : Nat → Nat} {cz : Nat → ClassId} {i : Nat → Nat → Int32} {g : Nat → Nat → Int64} (hR : Rg rF i) (a_a : Int32) : CtI l yX6_hasPart cX6_hasPart 2 (some .boolean) ({ frames := 0, cells := 0, slots := 0, locals := 0 } : Room) D h cz i g [.ref (h 15), .int a_a] (fun r u => u = (i, g) ∧ r = 0) := by
  refine k_Z (by intro v u hq; obtain ⟨-, hq⟩ := hq; exact Or.inl hq) pn_X6_hasPart (Nat.le_of_ble_eq_true rfl) ?_
  intro p e s m args below meth c ls Q X hret hT hl hS
  have hx := X.1
  have hb := X.2.1
  have hl : lv_has ls 2 [(0, .ref (h 15)), (1, .int a_a)] := hl
  refine lv_iload_n hx hb dX6_hasPart_0 rfl (lv_at hl 1 rfl) ?_
  refine lv_if_lt (tgt := 16) hx hb dX6_hasPart_1 (by decide) (fun c1 => ?_) (fun c1 => ?_)
  ·
    have q1 : a_a.toInt < 0 := i_lt c1
    have h2 : rg (-2147483648) (-1) a_a := t_ltx (-2147483648) (-1) (rg_top a_a) (rg_k (by decide) : rg 0 0 0) (i_lt c1) (by decide)
    refine lv_iconst (v := 0) hx hb dX6_hasPart_16 (by decide) ?_
    exact hret 0 _ _ _ _ _ _ dX6_hasPart_17 hT hS ⟨rfl, rfl⟩
  ·
    have q1 : 0 ≤ a_a.toInt := i_nlt c1
    have h3 : rg 0 2147483647 a_a := t_ley 0 2147483647 (rg_k (by decide) : rg 0 0 0) (rg_top a_a) (i_nlt c1) (by decide)
    refine lv_iload_n hx hb dX6_hasPart_4 rfl (lv_at hl 1 rfl) ?_
    refine lv_aload_n hx hb dX6_hasPart_5 rfl (lv_at hl 0 rfl) ?_
    refine r_geti X hT 15 13 fk_6_52 rfl rfl (by decide) dX6_hasPart_6 ?_
    refine lv_icmp_ge (tgt := 16) hx hb dX6_hasPart_9 (by decide) (fun c4 => ?_) (fun c4 => (x_lt h3 (Rg_at hR 15 13 0 0 (by decide) rfl) (i_nle c4) (by decide)).elim)
    have q4 : (i 15 13).toInt ≤ a_a.toInt := i_le c4
    refine lv_iconst (v := 0) hx hb dX6_hasPart_16 (by decide) ?_
    exact hret 0 _ _ _ _ _ _ dX6_hasPart_17 hT hS ⟨rfl, rfl⟩

set_option maxRecDepth 100000 in
set_option maxHeartbeats 4000000 in
theorem k_X8_part {l : Launch} {D : va_G} {h : Nat → Nat} {cz : Nat → ClassId} {i : Nat → Nat → Int32} {g : Nat → Nat → Int64} (hR : Rg rF i) (a_a : Int32) (a_b : Int32) : CtI l yX8_part cX8_part 3 (some .int) ({ frames := 1, cells := 0, slots := 0, locals := 21 } : Room) D h cz i g [.ref (h 0), .int a_a, .int a_b] (fun r u => u = (i, g) ∧ r = (-2)) := by
  refine k_I pn_X8_part (Nat.le_of_ble_eq_true rfl) ?_
  intro p e s m args below meth c ls Q X hret hT hl hS
  have hx := X.1
  have hb := X.2.1
  have hl : lv_has ls 3 [(0, .ref (h 0)), (1, .int a_a), (2, .int a_b)] := hl
  refine lv_aload_n hx hb dX8_part_0 rfl (lv_at hl 0 rfl) ?_
  refine r_getr X hT 0 3 15 fk_8_32 rfl rfl (by decide) dX8_part_1 ?_
  refine lv_iload_n hx hb dX8_part_4 rfl (lv_at hl 1 rfl) ?_
  refine r_Vi (As := [.int a_a]) (rest := []) X hT hS (k_X6_hasPart_15 hR a_a) mk_X6_hasPart gm_669 rfl rfl (by decide) hd_X6_hasPart ⟨rfl, rfl⟩ ⟨Nat.le_of_ble_eq_true rfl, Nat.le_of_ble_eq_true rfl⟩ hl.1 rfl (Nat.le_of_ble_eq_true rfl) dX8_part_5 ⟨Nat.zero_le _, Nat.zero_le _⟩ (fun r1 i1 g1 H locs hq hT hS => ?_)
  obtain ⟨eh1, rfl⟩ := hq
  rw [(Prod.mk.inj eh1).1, (Prod.mk.inj eh1).2] at hT
  refine lv_if_ne (tgt := 14) hx hb dX8_part_8 (by decide) (fun c2 => (x_ne (rg_k (by decide) : rg 0 0 0) (rg_k (by decide) : rg 0 0 0) (i_ne c2) (by decide)).elim) (fun c2 => ?_)
  refine lv_bipush (v := (-2)) hx hb dX8_part_11 (by decide) ?_
  exact hret (-2) _ _ _ _ _ _ dX8_part_13 hT hS ⟨rfl, rfl⟩

set_option maxRecDepth 100000 in
set_option maxHeartbeats 4000000 in
theorem k_X8_near {l : Launch} {D : va_G} {h : Nat → Nat} {cz : Nat → ClassId} {i : Nat → Nat → Int32} {g : Nat → Nat → Int64} (hR : Rg rF i) (a_a : Int32) : CtI l yX8_near cX8_near 2 (some .int) ({ frames := 1, cells := 0, slots := 0, locals := 21 } : Room) D h cz i g [.ref (h 0), .int a_a] (fun r u => u = (i, g) ∧ r = (-2)) := by
  refine k_I pn_X8_near (Nat.le_of_ble_eq_true rfl) ?_
  intro p e s m args below meth c ls Q X hret hT hl hS
  have hx := X.1
  have hb := X.2.1
  have hl : lv_has ls 2 [(0, .ref (h 0)), (1, .int a_a)] := hl
  refine lv_aload_n hx hb dX8_near_0 rfl (lv_at hl 0 rfl) ?_
  refine r_getr X hT 0 3 15 fk_8_32 rfl rfl (by decide) dX8_near_1 ?_
  refine lv_iload_n hx hb dX8_near_4 rfl (lv_at hl 1 rfl) ?_
  refine r_Vi (As := [.int a_a]) (rest := []) X hT hS (k_X6_hasPart_15 hR a_a) mk_X6_hasPart gm_669 rfl rfl (by decide) hd_X6_hasPart ⟨rfl, rfl⟩ ⟨Nat.le_of_ble_eq_true rfl, Nat.le_of_ble_eq_true rfl⟩ hl.1 rfl (Nat.le_of_ble_eq_true rfl) dX8_near_5 ⟨Nat.zero_le _, Nat.zero_le _⟩ (fun r1 i1 g1 H locs hq hT hS => ?_)
  obtain ⟨eh1, rfl⟩ := hq
  rw [(Prod.mk.inj eh1).1, (Prod.mk.inj eh1).2] at hT
  refine lv_if_eq (tgt := 23) hx hb dX8_near_8 (by decide) (fun c2 => ?_) (fun c2 => (x_ne (rg_k (by decide) : rg 0 0 0) (rg_k (by decide) : rg 0 0 0) (i_ne c2) (by decide)).elim)
  refine lv_bipush (v := (-2)) hx hb dX8_near_23 (by decide) ?_
  exact hret (-2) _ _ _ _ _ _ dX8_near_25 hT hS ⟨rfl, rfl⟩

set_option maxRecDepth 100000 in
set_option maxHeartbeats 4000000 in
theorem k_X8_far {l : Launch} {D : va_G} {h : Nat → Nat} {cz : Nat → ClassId} {i : Nat → Nat → Int32} {g : Nat → Nat → Int64} (hR : Rg rF i) (a_a : Int32) (a_b : Int32) : CtI l yX8_far cX8_far 5 (some .int) ({ frames := 1, cells := 0, slots := 0, locals := 21 } : Room) D h cz i g [.ref (h 0), .int a_a, .int a_b] (fun r u => u = (i, g) ∧ r = (-2)) := by
  refine k_I pn_X8_far (Nat.le_of_ble_eq_true rfl) ?_
  intro p e s m args below meth c ls Q X hret hT hl hS
  have hx := X.1
  have hb := X.2.1
  have hl : lv_has ls 5 [(0, .ref (h 0)), (1, .int a_a), (2, .int a_b)] := hl
  refine lv_aload_n hx hb dX8_far_0 rfl (lv_at hl 0 rfl) ?_
  refine r_getr X hT 0 3 15 fk_8_32 rfl rfl (by decide) dX8_far_1 ?_
  refine lv_iload_n hx hb dX8_far_4 rfl (lv_at hl 1 rfl) ?_
  refine r_Vi (As := [.int a_a]) (rest := []) X hT hS (k_X6_hasPart_15 hR a_a) mk_X6_hasPart gm_669 rfl rfl (by decide) hd_X6_hasPart ⟨rfl, rfl⟩ ⟨Nat.le_of_ble_eq_true rfl, Nat.le_of_ble_eq_true rfl⟩ hl.1 rfl (Nat.le_of_ble_eq_true rfl) dX8_far_5 ⟨Nat.zero_le _, Nat.zero_le _⟩ (fun r1 i1 g1 H locs hq hT hS => ?_)
  obtain ⟨eh1, rfl⟩ := hq
  rw [(Prod.mk.inj eh1).1, (Prod.mk.inj eh1).2] at hT
  refine lv_if_eq (tgt := 22) hx hb dX8_far_8 (by decide) (fun c2 => ?_) (fun c2 => (x_ne (rg_k (by decide) : rg 0 0 0) (rg_k (by decide) : rg 0 0 0) (i_ne c2) (by decide)).elim)
  refine lv_bipush (v := (-2)) hx hb dX8_far_22 (by decide) ?_
  exact hret (-2) _ _ _ _ _ _ dX8_far_24 hT hS ⟨rfl, rfl⟩

set_option maxRecDepth 100000 in
set_option maxHeartbeats 4000000 in
theorem k_X8_hasPartAndYear {l : Launch} {D : va_G} {h : Nat → Nat} {cz : Nat → ClassId} {i : Nat → Nat → Int32} {g : Nat → Nat → Int64} (hR : Rg rF i) (a_a : Int32) (a_b : Int32) : CtI l yX8_hasPartAndYear cX8_hasPartAndYear 3 (some .boolean) ({ frames := 1, cells := 0, slots := 0, locals := 21 } : Room) D h cz i g [.ref (h 0), .int a_a, .int a_b] (fun r u => u = (i, g) ∧ r = 0) := by
  refine k_Z (by intro v u hq; obtain ⟨-, hq⟩ := hq; exact Or.inl hq) pn_X8_hasPartAndYear (Nat.le_of_ble_eq_true rfl) ?_
  intro p e s m args below meth c ls Q X hret hT hl hS
  have hx := X.1
  have hb := X.2.1
  have hl : lv_has ls 3 [(0, .ref (h 0)), (1, .int a_a), (2, .int a_b)] := hl
  refine lv_aload_n hx hb dX8_hasPartAndYear_0 rfl (lv_at hl 0 rfl) ?_
  refine r_getr X hT 0 3 15 fk_8_32 rfl rfl (by decide) dX8_hasPartAndYear_1 ?_
  refine lv_iload_n hx hb dX8_hasPartAndYear_4 rfl (lv_at hl 1 rfl) ?_
  refine r_Vi (As := [.int a_a]) (rest := []) X hT hS (k_X6_hasPart_15 hR a_a) mk_X6_hasPart gm_669 rfl rfl (by decide) hd_X6_hasPart ⟨rfl, rfl⟩ ⟨Nat.le_of_ble_eq_true rfl, Nat.le_of_ble_eq_true rfl⟩ hl.1 rfl (Nat.le_of_ble_eq_true rfl) dX8_hasPartAndYear_5 ⟨Nat.zero_le _, Nat.zero_le _⟩ (fun r1 i1 g1 H locs hq hT hS => ?_)
  obtain ⟨eh1, rfl⟩ := hq
  rw [(Prod.mk.inj eh1).1, (Prod.mk.inj eh1).2] at hT
  refine lv_if_eq (tgt := 26) hx hb dX8_hasPartAndYear_8 (by decide) (fun c2 => ?_) (fun c2 => (x_ne (rg_k (by decide) : rg 0 0 0) (rg_k (by decide) : rg 0 0 0) (i_ne c2) (by decide)).elim)
  refine lv_iconst (v := 0) hx hb dX8_hasPartAndYear_26 (by decide) ?_
  exact hret 0 _ _ _ _ _ _ dX8_hasPartAndYear_27 hT hS ⟨rfl, rfl⟩

set_option maxRecDepth 100000 in
set_option maxHeartbeats 4000000 in
theorem k_X8_stiff {l : Launch} {D : va_G} {h : Nat → Nat} {cz : Nat → ClassId} {i : Nat → Nat → Int32} {g : Nat → Nat → Int64} (hR : Rg rF i) (a_a : Int32) (a_b : Int32) : CtI l yX8_stiff cX8_stiff 3 (some .int) ({ frames := 2, cells := 0, slots := 0, locals := 43 } : Room) D h cz i g [.ref (h 0), .int a_a, .int a_b] (fun r u => u = (i, g) ∧ r = (-2)) := by
  refine k_I pn_X8_stiff (Nat.le_of_ble_eq_true rfl) ?_
  intro p e s m args below meth c ls Q X hret hT hl hS
  have hx := X.1
  have hb := X.2.1
  have hl : lv_has ls 3 [(0, .ref (h 0)), (1, .int a_a), (2, .int a_b)] := hl
  refine lv_aload_n hx hb dX8_stiff_0 rfl (lv_at hl 0 rfl) ?_
  refine lv_iload_n hx hb dX8_stiff_1 rfl (lv_at hl 1 rfl) ?_
  refine lv_iload_n hx hb dX8_stiff_2 rfl (lv_at hl 2 rfl) ?_
  refine r_Vi (As := [.int a_a, .int a_b]) (rest := []) X hT hS (k_X8_hasPartAndYear hR a_a a_b) mk_X8_hasPartAndYear gm_727 rfl rfl (by decide) hd_X8_hasPartAndYear ⟨rfl, rfl⟩ ⟨Nat.le_of_ble_eq_true rfl, Nat.le_of_ble_eq_true rfl⟩ hl.1 rfl (Nat.le_of_ble_eq_true rfl) dX8_stiff_3 ⟨Nat.zero_le _, Nat.zero_le _⟩ (fun r1 i1 g1 H locs hq hT hS => ?_)
  obtain ⟨eh1, rfl⟩ := hq
  rw [(Prod.mk.inj eh1).1, (Prod.mk.inj eh1).2] at hT
  refine lv_if_eq (tgt := 21) hx hb dX8_stiff_6 (by decide) (fun c2 => ?_) (fun c2 => (x_ne (rg_k (by decide) : rg 0 0 0) (rg_k (by decide) : rg 0 0 0) (i_ne c2) (by decide)).elim)
  refine lv_bipush (v := (-2)) hx hb dX8_stiff_21 (by decide) ?_
  exact hret (-2) _ _ _ _ _ _ dX8_stiff_23 hT hS ⟨rfl, rfl⟩

set_option maxRecDepth 100000 in
set_option maxHeartbeats 4000000 in
theorem k_X6_isTold_15 {l : Launch} {D : va_G} {h : Nat → Nat} {cz : Nat → ClassId} {i : Nat → Nat → Int32} {g : Nat → Nat → Int64} (hR : Rg rF i)  : CtI l yX6_isTold cX6_isTold 1 (some .boolean) ({ frames := 0, cells := 0, slots := 0, locals := 0 } : Room) D h cz i g [.ref (h 15)] (fun r u => u = (i, g) ∧ r = 0) := by
  refine k_Z (by intro v u hq; obtain ⟨-, hq⟩ := hq; exact Or.inl hq) pn_X6_isTold (Nat.le_of_ble_eq_true rfl) ?_
  intro p e s m args below meth c ls Q X hret hT hl hS
  have hx := X.1
  have hb := X.2.1
  have hl : lv_has ls 1 [(0, .ref (h 15))] := hl
  refine lv_aload_n hx hb dX6_isTold_0 rfl (lv_at hl 0 rfl) ?_
  refine r_geti X hT 15 17 fk_6_64 rfl rfl (by decide) dX6_isTold_1 ?_
  refine lv_if_le (tgt := 11) hx hb dX6_isTold_4 (by decide) (fun c1 => ?_) (fun c1 => (x_lt (rg_k (by decide) : rg 0 0 0) (Rg_at hR 15 17 0 0 (by decide) rfl) (i_nle c1) (by decide)).elim)
  have q1 : (i 15 17).toInt ≤ 0 := i_le c1
  refine lv_iconst (v := 0) hx hb dX6_isTold_11 (by decide) ?_
  exact hret 0 _ _ _ _ _ _ dX6_isTold_12 hT hS ⟨rfl, rfl⟩

set_option maxRecDepth 100000 in
set_option maxHeartbeats 4000000 in
theorem k_X6_hasYear_15 {l : Launch} {D : va_G} {h : Nat → Nat} {cz : Nat → ClassId} {i : Nat → Nat → Int32} {g : Nat → Nat → Int64} (hR : Rg rF i) (a_a : Int32) : CtI l yX6_hasYear cX6_hasYear 2 (some .boolean) ({ frames := 1, cells := 0, slots := 0, locals := 20 } : Room) D h cz i g [.ref (h 15), .int a_a] (fun r u => u = (i, g) ∧ r = 0) := by
  refine k_Z (by intro v u hq; obtain ⟨-, hq⟩ := hq; exact Or.inl hq) pn_X6_hasYear (Nat.le_of_ble_eq_true rfl) ?_
  intro p e s m args below meth c ls Q X hret hT hl hS
  have hx := X.1
  have hb := X.2.1
  have hl : lv_has ls 2 [(0, .ref (h 15)), (1, .int a_a)] := hl
  refine lv_aload_n hx hb dX6_hasYear_0 rfl (lv_at hl 0 rfl) ?_
  refine r_Vi (As := []) (rest := []) X hT hS (k_X6_isTold_15 hR) mk_X6_isTold gm_735 rfl rfl (by decide) hd_X6_isTold ⟨rfl, rfl⟩ ⟨Nat.le_of_ble_eq_true rfl, Nat.le_of_ble_eq_true rfl⟩ hl.1 rfl (Nat.le_of_ble_eq_true rfl) dX6_hasYear_1 ⟨Nat.zero_le _, Nat.zero_le _⟩ (fun r1 i1 g1 H locs hq hT hS => ?_)
  obtain ⟨eh1, rfl⟩ := hq
  rw [(Prod.mk.inj eh1).1, (Prod.mk.inj eh1).2] at hT
  refine lv_if_eq (tgt := 23) hx hb dX6_hasYear_4 (by decide) (fun c2 => ?_) (fun c2 => (x_ne (rg_k (by decide) : rg 0 0 0) (rg_k (by decide) : rg 0 0 0) (i_ne c2) (by decide)).elim)
  refine lv_iconst (v := 0) hx hb dX6_hasYear_23 (by decide) ?_
  exact hret 0 _ _ _ _ _ _ dX6_hasYear_24 hT hS ⟨rfl, rfl⟩

set_option maxRecDepth 100000 in
set_option maxHeartbeats 4000000 in
theorem k_X8_open {l : Launch} {D : va_G} {h : Nat → Nat} {cz : Nat → ClassId} {i : Nat → Nat → Int32} {g : Nat → Nat → Int64} (hR : Rg rF i) (a_a : Int32) : CtI l yX8_open cX8_open 2 (some .int) ({ frames := 2, cells := 0, slots := 0, locals := 41 } : Room) D h cz i g [.ref (h 0), .int a_a] (fun r u => u = (i, g) ∧ r = (-2)) := by
  refine k_I pn_X8_open (Nat.le_of_ble_eq_true rfl) ?_
  intro p e s m args below meth c ls Q X hret hT hl hS
  have hx := X.1
  have hb := X.2.1
  have hl : lv_has ls 2 [(0, .ref (h 0)), (1, .int a_a)] := hl
  refine lv_aload_n hx hb dX8_open_0 rfl (lv_at hl 0 rfl) ?_
  refine r_getr X hT 0 3 15 fk_8_32 rfl rfl (by decide) dX8_open_1 ?_
  refine lv_iload_n hx hb dX8_open_4 rfl (lv_at hl 1 rfl) ?_
  refine r_Vi (As := [.int a_a]) (rest := []) X hT hS (k_X6_hasYear_15 hR a_a) mk_X6_hasYear gm_731 rfl rfl (by decide) hd_X6_hasYear ⟨rfl, rfl⟩ ⟨Nat.le_of_ble_eq_true rfl, Nat.le_of_ble_eq_true rfl⟩ hl.1 rfl (Nat.le_of_ble_eq_true rfl) dX8_open_5 ⟨Nat.zero_le _, Nat.zero_le _⟩ (fun r1 i1 g1 H locs hq hT hS => ?_)
  obtain ⟨eh1, rfl⟩ := hq
  rw [(Prod.mk.inj eh1).1, (Prod.mk.inj eh1).2] at hT
  refine lv_if_eq (tgt := 22) hx hb dX8_open_8 (by decide) (fun c2 => ?_) (fun c2 => (x_ne (rg_k (by decide) : rg 0 0 0) (rg_k (by decide) : rg 0 0 0) (i_ne c2) (by decide)).elim)
  refine lv_bipush (v := (-2)) hx hb dX8_open_22 (by decide) ?_
  exact hret (-2) _ _ _ _ _ _ dX8_open_24 hT hS ⟨rfl, rfl⟩

set_option maxRecDepth 100000 in
set_option maxHeartbeats 4000000 in
theorem k_X8_when {l : Launch} {D : va_G} {h : Nat → Nat} {cz : Nat → ClassId} {i : Nat → Nat → Int32} {g : Nat → Nat → Int64} (hR : Rg rF i) (a_a : Int32) : CtI l yX8_when cX8_when 2 (some .int) ({ frames := 1, cells := 0, slots := 0, locals := 21 } : Room) D h cz i g [.ref (h 0), .int a_a] (fun r u => u = (i, g) ∧ r = (-2)) := by
  refine k_I pn_X8_when (Nat.le_of_ble_eq_true rfl) ?_
  intro p e s m args below meth c ls Q X hret hT hl hS
  have hx := X.1
  have hb := X.2.1
  have hl : lv_has ls 2 [(0, .ref (h 0)), (1, .int a_a)] := hl
  refine lv_aload_n hx hb dX8_when_0 rfl (lv_at hl 0 rfl) ?_
  refine r_getr X hT 0 3 15 fk_8_32 rfl rfl (by decide) dX8_when_1 ?_
  refine lv_iload_n hx hb dX8_when_4 rfl (lv_at hl 1 rfl) ?_
  refine r_Vi (As := [.int a_a]) (rest := []) X hT hS (k_X6_hasPart_15 hR a_a) mk_X6_hasPart gm_669 rfl rfl (by decide) hd_X6_hasPart ⟨rfl, rfl⟩ ⟨Nat.le_of_ble_eq_true rfl, Nat.le_of_ble_eq_true rfl⟩ hl.1 rfl (Nat.le_of_ble_eq_true rfl) dX8_when_5 ⟨Nat.zero_le _, Nat.zero_le _⟩ (fun r1 i1 g1 H locs hq hT hS => ?_)
  obtain ⟨eh1, rfl⟩ := hq
  rw [(Prod.mk.inj eh1).1, (Prod.mk.inj eh1).2] at hT
  refine lv_if_eq (tgt := 22) hx hb dX8_when_8 (by decide) (fun c2 => ?_) (fun c2 => (x_ne (rg_k (by decide) : rg 0 0 0) (rg_k (by decide) : rg 0 0 0) (i_ne c2) (by decide)).elim)
  refine lv_bipush (v := (-2)) hx hb dX8_when_22 (by decide) ?_
  exact hret (-2) _ _ _ _ _ _ dX8_when_24 hT hS ⟨rfl, rfl⟩

set_option maxRecDepth 100000 in
set_option maxHeartbeats 4000000 in
theorem k_X8_how {l : Launch} {D : va_G} {h : Nat → Nat} {cz : Nat → ClassId} {i : Nat → Nat → Int32} {g : Nat → Nat → Int64} (hR : Rg rF i) (a_a : Int32) : CtI l yX8_how cX8_how 3 (some .int) ({ frames := 1, cells := 0, slots := 0, locals := 21 } : Room) D h cz i g [.ref (h 0), .int a_a] (fun r u => u = (i, g) ∧ r = (-2)) := by
  refine k_I pn_X8_how (Nat.le_of_ble_eq_true rfl) ?_
  intro p e s m args below meth c ls Q X hret hT hl hS
  have hx := X.1
  have hb := X.2.1
  have hl : lv_has ls 3 [(0, .ref (h 0)), (1, .int a_a)] := hl
  refine lv_aload_n hx hb dX8_how_0 rfl (lv_at hl 0 rfl) ?_
  refine r_getr X hT 0 3 15 fk_8_32 rfl rfl (by decide) dX8_how_1 ?_
  refine lv_iload_n hx hb dX8_how_4 rfl (lv_at hl 1 rfl) ?_
  refine r_Vi (As := [.int a_a]) (rest := []) X hT hS (k_X6_hasPart_15 hR a_a) mk_X6_hasPart gm_669 rfl rfl (by decide) hd_X6_hasPart ⟨rfl, rfl⟩ ⟨Nat.le_of_ble_eq_true rfl, Nat.le_of_ble_eq_true rfl⟩ hl.1 rfl (Nat.le_of_ble_eq_true rfl) dX8_how_5 ⟨Nat.zero_le _, Nat.zero_le _⟩ (fun r1 i1 g1 H locs hq hT hS => ?_)
  obtain ⟨eh1, rfl⟩ := hq
  rw [(Prod.mk.inj eh1).1, (Prod.mk.inj eh1).2] at hT
  refine lv_if_ne (tgt := 14) hx hb dX8_how_8 (by decide) (fun c2 => (x_ne (rg_k (by decide) : rg 0 0 0) (rg_k (by decide) : rg 0 0 0) (i_ne c2) (by decide)).elim) (fun c2 => ?_)
  refine lv_bipush (v := (-2)) hx hb dX8_how_11 (by decide) ?_
  exact hret (-2) _ _ _ _ _ _ dX8_how_13 hT hS ⟨rfl, rfl⟩

set_option maxRecDepth 100000 in
set_option maxHeartbeats 4000000 in
theorem k_X8_read {l : Launch} {D : va_G} {h : Nat → Nat} {cz : Nat → ClassId} {i : Nat → Nat → Int32} {g : Nat → Nat → Int64} (hR : Rg rF i) (a_a : Int32) : CtI l yX8_read cX8_read 2 (some .int) ({ frames := 1, cells := 0, slots := 0, locals := 21 } : Room) D h cz i g [.ref (h 0), .int a_a] (fun r u => u = (i, g) ∧ r = (-2)) := by
  refine k_I pn_X8_read (Nat.le_of_ble_eq_true rfl) ?_
  intro p e s m args below meth c ls Q X hret hT hl hS
  have hx := X.1
  have hb := X.2.1
  have hl : lv_has ls 2 [(0, .ref (h 0)), (1, .int a_a)] := hl
  refine lv_aload_n hx hb dX8_read_0 rfl (lv_at hl 0 rfl) ?_
  refine r_getr X hT 0 3 15 fk_8_32 rfl rfl (by decide) dX8_read_1 ?_
  refine lv_iload_n hx hb dX8_read_4 rfl (lv_at hl 1 rfl) ?_
  refine r_Vi (As := [.int a_a]) (rest := []) X hT hS (k_X6_hasPart_15 hR a_a) mk_X6_hasPart gm_669 rfl rfl (by decide) hd_X6_hasPart ⟨rfl, rfl⟩ ⟨Nat.le_of_ble_eq_true rfl, Nat.le_of_ble_eq_true rfl⟩ hl.1 rfl (Nat.le_of_ble_eq_true rfl) dX8_read_5 ⟨Nat.zero_le _, Nat.zero_le _⟩ (fun r1 i1 g1 H locs hq hT hS => ?_)
  obtain ⟨eh1, rfl⟩ := hq
  rw [(Prod.mk.inj eh1).1, (Prod.mk.inj eh1).2] at hT
  refine lv_if_eq (tgt := 22) hx hb dX8_read_8 (by decide) (fun c2 => ?_) (fun c2 => (x_ne (rg_k (by decide) : rg 0 0 0) (rg_k (by decide) : rg 0 0 0) (i_ne c2) (by decide)).elim)
  refine lv_bipush (v := (-2)) hx hb dX8_read_22 (by decide) ?_
  exact hret (-2) _ _ _ _ _ _ dX8_read_24 hT hS ⟨rfl, rfl⟩

set_option maxRecDepth 100000 in
set_option maxHeartbeats 4000000 in
theorem k_X6_hasWorkingYear_15 {l : Launch} {D : va_G} {h : Nat → Nat} {cz : Nat → ClassId} {i : Nat → Nat → Int32} {g : Nat → Nat → Int64} (hR : Rg rF i) (a_a : Int32) : CtI l yX6_hasWorkingYear cX6_hasWorkingYear 2 (some .boolean) ({ frames := 0, cells := 0, slots := 0, locals := 0 } : Room) D h cz i g [.ref (h 15), .int a_a] (fun r u => u = (i, g) ∧ r = 0) := by
  refine k_Z (by intro v u hq; obtain ⟨-, hq⟩ := hq; exact Or.inl hq) pn_X6_hasWorkingYear (Nat.le_of_ble_eq_true rfl) ?_
  intro p e s m args below meth c ls Q X hret hT hl hS
  have hx := X.1
  have hb := X.2.1
  have hl : lv_has ls 2 [(0, .ref (h 15)), (1, .int a_a)] := hl
  refine lv_iload_n hx hb dX6_hasWorkingYear_0 rfl (lv_at hl 1 rfl) ?_
  refine lv_if_lt (tgt := 16) hx hb dX6_hasWorkingYear_1 (by decide) (fun c1 => ?_) (fun c1 => ?_)
  ·
    have q1 : a_a.toInt < 0 := i_lt c1
    have h2 : rg (-2147483648) (-1) a_a := t_ltx (-2147483648) (-1) (rg_top a_a) (rg_k (by decide) : rg 0 0 0) (i_lt c1) (by decide)
    refine lv_iconst (v := 0) hx hb dX6_hasWorkingYear_16 (by decide) ?_
    exact hret 0 _ _ _ _ _ _ dX6_hasWorkingYear_17 hT hS ⟨rfl, rfl⟩
  ·
    have q1 : 0 ≤ a_a.toInt := i_nlt c1
    have h3 : rg 0 2147483647 a_a := t_ley 0 2147483647 (rg_k (by decide) : rg 0 0 0) (rg_top a_a) (i_nlt c1) (by decide)
    refine lv_iload_n hx hb dX6_hasWorkingYear_4 rfl (lv_at hl 1 rfl) ?_
    refine lv_aload_n hx hb dX6_hasWorkingYear_5 rfl (lv_at hl 0 rfl) ?_
    refine r_geti X hT 15 10 fk_6_42 rfl rfl (by decide) dX6_hasWorkingYear_6 ?_
    refine lv_icmp_ge (tgt := 16) hx hb dX6_hasWorkingYear_9 (by decide) (fun c4 => ?_) (fun c4 => (x_lt h3 (Rg_at hR 15 10 0 0 (by decide) rfl) (i_nle c4) (by decide)).elim)
    have q4 : (i 15 10).toInt ≤ a_a.toInt := i_le c4
    refine lv_iconst (v := 0) hx hb dX6_hasWorkingYear_16 (by decide) ?_
    exact hret 0 _ _ _ _ _ _ dX6_hasWorkingYear_17 hT hS ⟨rfl, rfl⟩

set_option maxRecDepth 100000 in
set_option maxHeartbeats 4000000 in
theorem k_X8_reads {l : Launch} {D : va_G} {h : Nat → Nat} {cz : Nat → ClassId} {i : Nat → Nat → Int32} {g : Nat → Nat → Int64} (hR : Rg rF i) (a_a : Int32) : CtI l yX8_reads cX8_reads 2 (some .int) ({ frames := 1, cells := 0, slots := 0, locals := 21 } : Room) D h cz i g [.ref (h 0), .int a_a] (fun r u => u = (i, g) ∧ r = (-2)) := by
  refine k_I pn_X8_reads (Nat.le_of_ble_eq_true rfl) ?_
  intro p e s m args below meth c ls Q X hret hT hl hS
  have hx := X.1
  have hb := X.2.1
  have hl : lv_has ls 2 [(0, .ref (h 0)), (1, .int a_a)] := hl
  refine lv_aload_n hx hb dX8_reads_0 rfl (lv_at hl 0 rfl) ?_
  refine r_getr X hT 0 3 15 fk_8_32 rfl rfl (by decide) dX8_reads_1 ?_
  refine lv_iload_n hx hb dX8_reads_4 rfl (lv_at hl 1 rfl) ?_
  refine r_Vi (As := [.int a_a]) (rest := []) X hT hS (k_X6_hasWorkingYear_15 hR a_a) mk_X6_hasWorkingYear gm_827 rfl rfl (by decide) hd_X6_hasWorkingYear ⟨rfl, rfl⟩ ⟨Nat.le_of_ble_eq_true rfl, Nat.le_of_ble_eq_true rfl⟩ hl.1 rfl (Nat.le_of_ble_eq_true rfl) dX8_reads_5 ⟨Nat.zero_le _, Nat.zero_le _⟩ (fun r1 i1 g1 H locs hq hT hS => ?_)
  obtain ⟨eh1, rfl⟩ := hq
  rw [(Prod.mk.inj eh1).1, (Prod.mk.inj eh1).2] at hT
  refine lv_if_eq (tgt := 22) hx hb dX8_reads_8 (by decide) (fun c2 => ?_) (fun c2 => (x_ne (rg_k (by decide) : rg 0 0 0) (rg_k (by decide) : rg 0 0 0) (i_ne c2) (by decide)).elim)
  refine lv_bipush (v := (-2)) hx hb dX8_reads_22 (by decide) ?_
  exact hret (-2) _ _ _ _ _ _ dX8_reads_24 hT hS ⟨rfl, rfl⟩

set_option maxRecDepth 100000 in
set_option maxHeartbeats 4000000 in
theorem k_X8_all {l : Launch} {D : va_G} {h : Nat → Nat} {cz : Nat → ClassId} {i : Nat → Nat → Int32} {g : Nat → Nat → Int64} (hR : Rg rF i)  : CtI l yX8_all cX8_all 1 (some .int) ({ frames := 1, cells := 0, slots := 0, locals := 20 } : Room) D h cz i g [.ref (h 0)] (fun r u => u = (i, g) ∧ r = (-2)) := by
  refine k_I pn_X8_all (Nat.le_of_ble_eq_true rfl) ?_
  intro p e s m args below meth c ls Q X hret hT hl hS
  have hx := X.1
  have hb := X.2.1
  have hl : lv_has ls 1 [(0, .ref (h 0))] := hl
  refine lv_aload_n hx hb dX8_all_0 rfl (lv_at hl 0 rfl) ?_
  refine r_getr X hT 0 3 15 fk_8_32 rfl rfl (by decide) dX8_all_1 ?_
  refine r_Vi (As := []) (rest := []) X hT hS (k_X6_isTold_15 hR) mk_X6_isTold gm_698 rfl rfl (by decide) hd_X6_isTold ⟨rfl, rfl⟩ ⟨Nat.le_of_ble_eq_true rfl, Nat.le_of_ble_eq_true rfl⟩ hl.1 rfl (Nat.le_of_ble_eq_true rfl) dX8_all_4 ⟨Nat.zero_le _, Nat.zero_le _⟩ (fun r1 i1 g1 H locs hq hT hS => ?_)
  obtain ⟨eh1, rfl⟩ := hq
  rw [(Prod.mk.inj eh1).1, (Prod.mk.inj eh1).2] at hT
  refine lv_if_eq (tgt := 20) hx hb dX8_all_7 (by decide) (fun c2 => ?_) (fun c2 => (x_ne (rg_k (by decide) : rg 0 0 0) (rg_k (by decide) : rg 0 0 0) (i_ne c2) (by decide)).elim)
  refine lv_bipush (v := (-2)) hx hb dX8_all_20 (by decide) ?_
  exact hret (-2) _ _ _ _ _ _ dX8_all_22 hT hS ⟨rfl, rfl⟩

set_option maxRecDepth 100000 in
set_option maxHeartbeats 4000000 in
theorem k_X8_keeps {l : Launch} {D : va_G} {h : Nat → Nat} {cz : Nat → ClassId} {i : Nat → Nat → Int32} {g : Nat → Nat → Int64} (hR : Rg rF i) (a_a : Int32) (a_b : Int32) : CtI l yX8_keeps cX8_keeps 3 (some .int) ({ frames := 2, cells := 0, slots := 0, locals := 43 } : Room) D h cz i g [.ref (h 0), .int a_a, .int a_b] (fun r u => u = (i, g) ∧ r = (-2)) := by
  refine k_I pn_X8_keeps (Nat.le_of_ble_eq_true rfl) ?_
  intro p e s m args below meth c ls Q X hret hT hl hS
  have hx := X.1
  have hb := X.2.1
  have hl : lv_has ls 3 [(0, .ref (h 0)), (1, .int a_a), (2, .int a_b)] := hl
  refine lv_aload_n hx hb dX8_keeps_0 rfl (lv_at hl 0 rfl) ?_
  refine lv_iload_n hx hb dX8_keeps_1 rfl (lv_at hl 1 rfl) ?_
  refine lv_iload_n hx hb dX8_keeps_2 rfl (lv_at hl 2 rfl) ?_
  refine r_Vi (As := [.int a_a, .int a_b]) (rest := []) X hT hS (k_X8_hasPartAndYear hR a_a a_b) mk_X8_hasPartAndYear gm_727 rfl rfl (by decide) hd_X8_hasPartAndYear ⟨rfl, rfl⟩ ⟨Nat.le_of_ble_eq_true rfl, Nat.le_of_ble_eq_true rfl⟩ hl.1 rfl (Nat.le_of_ble_eq_true rfl) dX8_keeps_3 ⟨Nat.zero_le _, Nat.zero_le _⟩ (fun r1 i1 g1 H locs hq hT hS => ?_)
  obtain ⟨eh1, rfl⟩ := hq
  rw [(Prod.mk.inj eh1).1, (Prod.mk.inj eh1).2] at hT
  refine lv_if_eq (tgt := 21) hx hb dX8_keeps_6 (by decide) (fun c2 => ?_) (fun c2 => (x_ne (rg_k (by decide) : rg 0 0 0) (rg_k (by decide) : rg 0 0 0) (i_ne c2) (by decide)).elim)
  refine lv_bipush (v := (-2)) hx hb dX8_keeps_21 (by decide) ?_
  exact hret (-2) _ _ _ _ _ _ dX8_keeps_23 hT hS ⟨rfl, rfl⟩

set_option maxRecDepth 100000 in
set_option maxHeartbeats 4000000 in
theorem k_X8_waits {l : Launch} {D : va_G} {h : Nat → Nat} {cz : Nat → ClassId} {i : Nat → Nat → Int32} {g : Nat → Nat → Int64} (hR : Rg rF i) (a_a : Int32) : CtI l yX8_waits cX8_waits 4 (some .int) ({ frames := 2, cells := 0, slots := 0, locals := 41 } : Room) D h cz i g [.ref (h 0), .int a_a] (fun r u => u = (i, g) ∧ r = (-2)) := by
  refine k_I pn_X8_waits (Nat.le_of_ble_eq_true rfl) ?_
  intro p e s m args below meth c ls Q X hret hT hl hS
  have hx := X.1
  have hb := X.2.1
  have hl : lv_has ls 4 [(0, .ref (h 0)), (1, .int a_a)] := hl
  refine lv_aload_n hx hb dX8_waits_0 rfl (lv_at hl 0 rfl) ?_
  refine r_getr X hT 0 3 15 fk_8_32 rfl rfl (by decide) dX8_waits_1 ?_
  refine lv_iload_n hx hb dX8_waits_4 rfl (lv_at hl 1 rfl) ?_
  refine r_Vi (As := [.int a_a]) (rest := []) X hT hS (k_X6_hasYear_15 hR a_a) mk_X6_hasYear gm_731 rfl rfl (by decide) hd_X6_hasYear ⟨rfl, rfl⟩ ⟨Nat.le_of_ble_eq_true rfl, Nat.le_of_ble_eq_true rfl⟩ hl.1 rfl (Nat.le_of_ble_eq_true rfl) dX8_waits_5 ⟨Nat.zero_le _, Nat.zero_le _⟩ (fun r1 i1 g1 H locs hq hT hS => ?_)
  obtain ⟨eh1, rfl⟩ := hq
  rw [(Prod.mk.inj eh1).1, (Prod.mk.inj eh1).2] at hT
  refine lv_if_ne (tgt := 14) hx hb dX8_waits_8 (by decide) (fun c2 => (x_ne (rg_k (by decide) : rg 0 0 0) (rg_k (by decide) : rg 0 0 0) (i_ne c2) (by decide)).elim) (fun c2 => ?_)
  refine lv_bipush (v := (-2)) hx hb dX8_waits_11 (by decide) ?_
  exact hret (-2) _ _ _ _ _ _ dX8_waits_13 hT hS ⟨rfl, rfl⟩

set_option maxRecDepth 100000 in
set_option maxHeartbeats 4000000 in
theorem k_X8_next {l : Launch} {D : va_G} {h : Nat → Nat} {cz : Nat → ClassId} {i : Nat → Nat → Int32} {g : Nat → Nat → Int64} (hR : Rg rF i) (a_a : Int32) : CtI l yX8_next cX8_next 6 (some .int) ({ frames := 2, cells := 0, slots := 0, locals := 41 } : Room) D h cz i g [.ref (h 0), .int a_a] (fun r u => u = (i, g) ∧ r = (-2)) := by
  refine k_I pn_X8_next (Nat.le_of_ble_eq_true rfl) ?_
  intro p e s m args below meth c ls Q X hret hT hl hS
  have hx := X.1
  have hb := X.2.1
  have hl : lv_has ls 6 [(0, .ref (h 0)), (1, .int a_a)] := hl
  refine lv_aload_n hx hb dX8_next_0 rfl (lv_at hl 0 rfl) ?_
  refine r_getr X hT 0 3 15 fk_8_32 rfl rfl (by decide) dX8_next_1 ?_
  refine lv_iload_n hx hb dX8_next_4 rfl (lv_at hl 1 rfl) ?_
  refine r_Vi (As := [.int a_a]) (rest := []) X hT hS (k_X6_hasYear_15 hR a_a) mk_X6_hasYear gm_731 rfl rfl (by decide) hd_X6_hasYear ⟨rfl, rfl⟩ ⟨Nat.le_of_ble_eq_true rfl, Nat.le_of_ble_eq_true rfl⟩ hl.1 rfl (Nat.le_of_ble_eq_true rfl) dX8_next_5 ⟨Nat.zero_le _, Nat.zero_le _⟩ (fun r1 i1 g1 H locs hq hT hS => ?_)
  obtain ⟨eh1, rfl⟩ := hq
  rw [(Prod.mk.inj eh1).1, (Prod.mk.inj eh1).2] at hT
  refine lv_if_ne (tgt := 14) hx hb dX8_next_8 (by decide) (fun c2 => (x_ne (rg_k (by decide) : rg 0 0 0) (rg_k (by decide) : rg 0 0 0) (i_ne c2) (by decide)).elim) (fun c2 => ?_)
  refine lv_bipush (v := (-2)) hx hb dX8_next_11 (by decide) ?_
  exact hret (-2) _ _ _ _ _ _ dX8_next_13 hT hS ⟨rfl, rfl⟩

set_option maxRecDepth 100000 in
set_option maxHeartbeats 4000000 in
theorem k_X8_dull {l : Launch} {D : va_G} {h : Nat → Nat} {cz : Nat → ClassId} {i : Nat → Nat → Int32} {g : Nat → Nat → Int64} (hR : Rg rF i) (a_a : Int32) : CtI l yX8_dull cX8_dull 4 (some .int) ({ frames := 2, cells := 0, slots := 0, locals := 41 } : Room) D h cz i g [.ref (h 0), .int a_a] (fun r u => u = (i, g) ∧ r = (-2)) := by
  refine k_I pn_X8_dull (Nat.le_of_ble_eq_true rfl) ?_
  intro p e s m args below meth c ls Q X hret hT hl hS
  have hx := X.1
  have hb := X.2.1
  have hl : lv_has ls 4 [(0, .ref (h 0)), (1, .int a_a)] := hl
  refine lv_aload_n hx hb dX8_dull_0 rfl (lv_at hl 0 rfl) ?_
  refine r_getr X hT 0 3 15 fk_8_32 rfl rfl (by decide) dX8_dull_1 ?_
  refine lv_iload_n hx hb dX8_dull_4 rfl (lv_at hl 1 rfl) ?_
  refine r_Vi (As := [.int a_a]) (rest := []) X hT hS (k_X6_hasYear_15 hR a_a) mk_X6_hasYear gm_731 rfl rfl (by decide) hd_X6_hasYear ⟨rfl, rfl⟩ ⟨Nat.le_of_ble_eq_true rfl, Nat.le_of_ble_eq_true rfl⟩ hl.1 rfl (Nat.le_of_ble_eq_true rfl) dX8_dull_5 ⟨Nat.zero_le _, Nat.zero_le _⟩ (fun r1 i1 g1 H locs hq hT hS => ?_)
  obtain ⟨eh1, rfl⟩ := hq
  rw [(Prod.mk.inj eh1).1, (Prod.mk.inj eh1).2] at hT
  refine lv_if_ne (tgt := 14) hx hb dX8_dull_8 (by decide) (fun c2 => (x_ne (rg_k (by decide) : rg 0 0 0) (rg_k (by decide) : rg 0 0 0) (i_ne c2) (by decide)).elim) (fun c2 => ?_)
  refine lv_bipush (v := (-2)) hx hb dX8_dull_11 (by decide) ?_
  exact hret (-2) _ _ _ _ _ _ dX8_dull_13 hT hS ⟨rfl, rfl⟩

set_option maxRecDepth 100000 in
set_option maxHeartbeats 4000000 in
theorem k_X8_dies {l : Launch} {D : va_G} {h : Nat → Nat} {cz : Nat → ClassId} {i : Nat → Nat → Int32} {g : Nat → Nat → Int64} (hR : Rg rF i) (a_a : Int32) : CtI l yX8_dies cX8_dies 3 (some .int) ({ frames := 1, cells := 0, slots := 0, locals := 21 } : Room) D h cz i g [.ref (h 0), .int a_a] (fun r u => u = (i, g) ∧ r = (-2)) := by
  refine k_I pn_X8_dies (Nat.le_of_ble_eq_true rfl) ?_
  intro p e s m args below meth c ls Q X hret hT hl hS
  have hx := X.1
  have hb := X.2.1
  have hl : lv_has ls 3 [(0, .ref (h 0)), (1, .int a_a)] := hl
  refine lv_aload_n hx hb dX8_dies_0 rfl (lv_at hl 0 rfl) ?_
  refine r_getr X hT 0 3 15 fk_8_32 rfl rfl (by decide) dX8_dies_1 ?_
  refine lv_iload_n hx hb dX8_dies_4 rfl (lv_at hl 1 rfl) ?_
  refine r_Vi (As := [.int a_a]) (rest := []) X hT hS (k_X6_hasPart_15 hR a_a) mk_X6_hasPart gm_669 rfl rfl (by decide) hd_X6_hasPart ⟨rfl, rfl⟩ ⟨Nat.le_of_ble_eq_true rfl, Nat.le_of_ble_eq_true rfl⟩ hl.1 rfl (Nat.le_of_ble_eq_true rfl) dX8_dies_5 ⟨Nat.zero_le _, Nat.zero_le _⟩ (fun r1 i1 g1 H locs hq hT hS => ?_)
  obtain ⟨eh1, rfl⟩ := hq
  rw [(Prod.mk.inj eh1).1, (Prod.mk.inj eh1).2] at hT
  refine lv_if_ne (tgt := 14) hx hb dX8_dies_8 (by decide) (fun c2 => (x_ne (rg_k (by decide) : rg 0 0 0) (rg_k (by decide) : rg 0 0 0) (i_ne c2) (by decide)).elim) (fun c2 => ?_)
  refine lv_bipush (v := (-2)) hx hb dX8_dies_11 (by decide) ?_
  exact hret (-2) _ _ _ _ _ _ dX8_dies_13 hT hS ⟨rfl, rfl⟩

set_option maxRecDepth 100000 in
set_option maxHeartbeats 4000000 in
theorem k_X8_ages {l : Launch} {D : va_G} {h : Nat → Nat} {cz : Nat → ClassId} {i : Nat → Nat → Int32} {g : Nat → Nat → Int64} (hR : Rg rF i) (a_a : Int32) : CtI l yX8_ages cX8_ages 2 (some .int) ({ frames := 1, cells := 0, slots := 0, locals := 21 } : Room) D h cz i g [.ref (h 0), .int a_a] (fun r u => u = (i, g) ∧ r = (-100)) := by
  refine k_I pn_X8_ages (Nat.le_of_ble_eq_true rfl) ?_
  intro p e s m args below meth c ls Q X hret hT hl hS
  have hx := X.1
  have hb := X.2.1
  have hl : lv_has ls 2 [(0, .ref (h 0)), (1, .int a_a)] := hl
  refine lv_aload_n hx hb dX8_ages_0 rfl (lv_at hl 0 rfl) ?_
  refine r_getr X hT 0 3 15 fk_8_32 rfl rfl (by decide) dX8_ages_1 ?_
  refine lv_iload_n hx hb dX8_ages_4 rfl (lv_at hl 1 rfl) ?_
  refine r_Vi (As := [.int a_a]) (rest := []) X hT hS (k_X6_hasPart_15 hR a_a) mk_X6_hasPart gm_669 rfl rfl (by decide) hd_X6_hasPart ⟨rfl, rfl⟩ ⟨Nat.le_of_ble_eq_true rfl, Nat.le_of_ble_eq_true rfl⟩ hl.1 rfl (Nat.le_of_ble_eq_true rfl) dX8_ages_5 ⟨Nat.zero_le _, Nat.zero_le _⟩ (fun r1 i1 g1 H locs hq hT hS => ?_)
  obtain ⟨eh1, rfl⟩ := hq
  rw [(Prod.mk.inj eh1).1, (Prod.mk.inj eh1).2] at hT
  refine lv_if_ne (tgt := 14) hx hb dX8_ages_8 (by decide) (fun c2 => (x_ne (rg_k (by decide) : rg 0 0 0) (rg_k (by decide) : rg 0 0 0) (i_ne c2) (by decide)).elim) (fun c2 => ?_)
  refine lv_bipush (v := (-100)) hx hb dX8_ages_11 (by decide) ?_
  exact hret (-100) _ _ _ _ _ _ dX8_ages_13 hT hS ⟨rfl, rfl⟩

set_option maxRecDepth 100000 in
set_option maxHeartbeats 4000000 in
theorem k_X8_cut {l : Launch} {D : va_G} {h : Nat → Nat} {cz : Nat → ClassId} {i : Nat → Nat → Int32} {g : Nat → Nat → Int64} (hR : Rg rF i) (a_a : Int32) : CtI l yX8_cut cX8_cut 5 (some .int) ({ frames := 2, cells := 0, slots := 0, locals := 41 } : Room) D h cz i g [.ref (h 0), .int a_a] (fun r u => u = (i, g) ∧ r = (-2)) := by
  refine k_I pn_X8_cut (Nat.le_of_ble_eq_true rfl) ?_
  intro p e s m args below meth c ls Q X hret hT hl hS
  have hx := X.1
  have hb := X.2.1
  have hl : lv_has ls 5 [(0, .ref (h 0)), (1, .int a_a)] := hl
  refine lv_aload_n hx hb dX8_cut_0 rfl (lv_at hl 0 rfl) ?_
  refine r_getr X hT 0 3 15 fk_8_32 rfl rfl (by decide) dX8_cut_1 ?_
  refine lv_iload_n hx hb dX8_cut_4 rfl (lv_at hl 1 rfl) ?_
  refine r_Vi (As := [.int a_a]) (rest := []) X hT hS (k_X6_hasYear_15 hR a_a) mk_X6_hasYear gm_731 rfl rfl (by decide) hd_X6_hasYear ⟨rfl, rfl⟩ ⟨Nat.le_of_ble_eq_true rfl, Nat.le_of_ble_eq_true rfl⟩ hl.1 rfl (Nat.le_of_ble_eq_true rfl) dX8_cut_5 ⟨Nat.zero_le _, Nat.zero_le _⟩ (fun r1 i1 g1 H locs hq hT hS => ?_)
  obtain ⟨eh1, rfl⟩ := hq
  rw [(Prod.mk.inj eh1).1, (Prod.mk.inj eh1).2] at hT
  refine lv_if_ne (tgt := 14) hx hb dX8_cut_8 (by decide) (fun c2 => (x_ne (rg_k (by decide) : rg 0 0 0) (rg_k (by decide) : rg 0 0 0) (i_ne c2) (by decide)).elim) (fun c2 => ?_)
  refine lv_bipush (v := (-2)) hx hb dX8_cut_11 (by decide) ?_
  exact hret (-2) _ _ _ _ _ _ dX8_cut_13 hT hS ⟨rfl, rfl⟩

set_option maxRecDepth 100000 in
set_option maxHeartbeats 4000000 in
theorem k_X8_sharp {l : Launch} {D : va_G} {h : Nat → Nat} {cz : Nat → ClassId} {i : Nat → Nat → Int32} {g : Nat → Nat → Int64} (hR : Rg rF i)  : CtI l yX8_sharp cX8_sharp 1 (some .int) ({ frames := 1, cells := 0, slots := 0, locals := 20 } : Room) D h cz i g [.ref (h 0)] (fun r u => u = (i, g) ∧ r = (-2)) := by
  refine k_I pn_X8_sharp (Nat.le_of_ble_eq_true rfl) ?_
  intro p e s m args below meth c ls Q X hret hT hl hS
  have hx := X.1
  have hb := X.2.1
  have hl : lv_has ls 1 [(0, .ref (h 0))] := hl
  refine lv_aload_n hx hb dX8_sharp_0 rfl (lv_at hl 0 rfl) ?_
  refine r_getr X hT 0 3 15 fk_8_32 rfl rfl (by decide) dX8_sharp_1 ?_
  refine r_Vi (As := []) (rest := []) X hT hS (k_X6_isTold_15 hR) mk_X6_isTold gm_698 rfl rfl (by decide) hd_X6_isTold ⟨rfl, rfl⟩ ⟨Nat.le_of_ble_eq_true rfl, Nat.le_of_ble_eq_true rfl⟩ hl.1 rfl (Nat.le_of_ble_eq_true rfl) dX8_sharp_4 ⟨Nat.zero_le _, Nat.zero_le _⟩ (fun r1 i1 g1 H locs hq hT hS => ?_)
  obtain ⟨eh1, rfl⟩ := hq
  rw [(Prod.mk.inj eh1).1, (Prod.mk.inj eh1).2] at hT
  refine lv_if_eq (tgt := 17) hx hb dX8_sharp_7 (by decide) (fun c2 => ?_) (fun c2 => (x_ne (rg_k (by decide) : rg 0 0 0) (rg_k (by decide) : rg 0 0 0) (i_ne c2) (by decide)).elim)
  refine lv_bipush (v := (-2)) hx hb dX8_sharp_17 (by decide) ?_
  exact hret (-2) _ _ _ _ _ _ dX8_sharp_19 hT hS ⟨rfl, rfl⟩

set_option maxRecDepth 100000 in
set_option maxHeartbeats 4000000 in
theorem k_X8_uncut {l : Launch} {D : va_G} {h : Nat → Nat} {cz : Nat → ClassId} {i : Nat → Nat → Int32} {g : Nat → Nat → Int64} (hR : Rg rF i)  : CtI l yX8_uncut cX8_uncut 1 (some .int) ({ frames := 1, cells := 0, slots := 0, locals := 20 } : Room) D h cz i g [.ref (h 0)] (fun r u => u = (i, g) ∧ r = (-2)) := by
  refine k_I pn_X8_uncut (Nat.le_of_ble_eq_true rfl) ?_
  intro p e s m args below meth c ls Q X hret hT hl hS
  have hx := X.1
  have hb := X.2.1
  have hl : lv_has ls 1 [(0, .ref (h 0))] := hl
  refine lv_aload_n hx hb dX8_uncut_0 rfl (lv_at hl 0 rfl) ?_
  refine r_getr X hT 0 3 15 fk_8_32 rfl rfl (by decide) dX8_uncut_1 ?_
  refine r_Vi (As := []) (rest := []) X hT hS (k_X6_isTold_15 hR) mk_X6_isTold gm_698 rfl rfl (by decide) hd_X6_isTold ⟨rfl, rfl⟩ ⟨Nat.le_of_ble_eq_true rfl, Nat.le_of_ble_eq_true rfl⟩ hl.1 rfl (Nat.le_of_ble_eq_true rfl) dX8_uncut_4 ⟨Nat.zero_le _, Nat.zero_le _⟩ (fun r1 i1 g1 H locs hq hT hS => ?_)
  obtain ⟨eh1, rfl⟩ := hq
  rw [(Prod.mk.inj eh1).1, (Prod.mk.inj eh1).2] at hT
  refine lv_if_eq (tgt := 17) hx hb dX8_uncut_7 (by decide) (fun c2 => ?_) (fun c2 => (x_ne (rg_k (by decide) : rg 0 0 0) (rg_k (by decide) : rg 0 0 0) (i_ne c2) (by decide)).elim)
  refine lv_bipush (v := (-2)) hx hb dX8_uncut_17 (by decide) ?_
  exact hret (-2) _ _ _ _ _ _ dX8_uncut_19 hT hS ⟨rfl, rfl⟩

set_option maxRecDepth 100000 in
set_option maxHeartbeats 4000000 in
theorem k_X8_done {l : Launch} {D : va_G} {h : Nat → Nat} {cz : Nat → ClassId} {i : Nat → Nat → Int32} {g : Nat → Nat → Int64} (hR : Rg rF i)  : CtI l yX8_done cX8_done 2 (some .int) ({ frames := 1, cells := 0, slots := 0, locals := 20 } : Room) D h cz i g [.ref (h 0)] (fun r u => u = (i, g) ∧ r = (-2)) := by
  refine k_I pn_X8_done (Nat.le_of_ble_eq_true rfl) ?_
  intro p e s m args below meth c ls Q X hret hT hl hS
  have hx := X.1
  have hb := X.2.1
  have hl : lv_has ls 2 [(0, .ref (h 0))] := hl
  refine lv_aload_n hx hb dX8_done_0 rfl (lv_at hl 0 rfl) ?_
  refine r_getr X hT 0 3 15 fk_8_32 rfl rfl (by decide) dX8_done_1 ?_
  refine r_Vi (As := []) (rest := []) X hT hS (k_X6_isTold_15 hR) mk_X6_isTold gm_698 rfl rfl (by decide) hd_X6_isTold ⟨rfl, rfl⟩ ⟨Nat.le_of_ble_eq_true rfl, Nat.le_of_ble_eq_true rfl⟩ hl.1 rfl (Nat.le_of_ble_eq_true rfl) dX8_done_4 ⟨Nat.zero_le _, Nat.zero_le _⟩ (fun r1 i1 g1 H locs hq hT hS => ?_)
  obtain ⟨eh1, rfl⟩ := hq
  rw [(Prod.mk.inj eh1).1, (Prod.mk.inj eh1).2] at hT
  refine lv_if_ne (tgt := 13) hx hb dX8_done_7 (by decide) (fun c2 => (x_ne (rg_k (by decide) : rg 0 0 0) (rg_k (by decide) : rg 0 0 0) (i_ne c2) (by decide)).elim) (fun c2 => ?_)
  refine lv_bipush (v := (-2)) hx hb dX8_done_10 (by decide) ?_
  exact hret (-2) _ _ _ _ _ _ dX8_done_12 hT hS ⟨rfl, rfl⟩

set_option maxRecDepth 100000 in
set_option maxHeartbeats 4000000 in
theorem k_X8_rush {l : Launch} {D : va_G} {h : Nat → Nat} {cz : Nat → ClassId} {i : Nat → Nat → Int32} {g : Nat → Nat → Int64} (hR : Rg rF i)  : CtI l yX8_rush cX8_rush 3 (some .int) ({ frames := 1, cells := 0, slots := 0, locals := 20 } : Room) D h cz i g [.ref (h 0)] (fun r u => u = (i, g) ∧ r = (-2)) := by
  refine k_I pn_X8_rush (Nat.le_of_ble_eq_true rfl) ?_
  intro p e s m args below meth c ls Q X hret hT hl hS
  have hx := X.1
  have hb := X.2.1
  have hl : lv_has ls 3 [(0, .ref (h 0))] := hl
  refine lv_aload_n hx hb dX8_rush_0 rfl (lv_at hl 0 rfl) ?_
  refine r_getr X hT 0 3 15 fk_8_32 rfl rfl (by decide) dX8_rush_1 ?_
  refine r_Vi (As := []) (rest := []) X hT hS (k_X6_isTold_15 hR) mk_X6_isTold gm_698 rfl rfl (by decide) hd_X6_isTold ⟨rfl, rfl⟩ ⟨Nat.le_of_ble_eq_true rfl, Nat.le_of_ble_eq_true rfl⟩ hl.1 rfl (Nat.le_of_ble_eq_true rfl) dX8_rush_4 ⟨Nat.zero_le _, Nat.zero_le _⟩ (fun r1 i1 g1 H locs hq hT hS => ?_)
  obtain ⟨eh1, rfl⟩ := hq
  rw [(Prod.mk.inj eh1).1, (Prod.mk.inj eh1).2] at hT
  refine lv_if_ne (tgt := 13) hx hb dX8_rush_7 (by decide) (fun c2 => (x_ne (rg_k (by decide) : rg 0 0 0) (rg_k (by decide) : rg 0 0 0) (i_ne c2) (by decide)).elim) (fun c2 => ?_)
  refine lv_bipush (v := (-2)) hx hb dX8_rush_10 (by decide) ?_
  exact hret (-2) _ _ _ _ _ _ dX8_rush_12 hT hS ⟨rfl, rfl⟩

set_option maxRecDepth 100000 in
set_option maxHeartbeats 4000000 in
theorem k_X8_with {l : Launch} {D : va_G} {h : Nat → Nat} {cz : Nat → ClassId} {i : Nat → Nat → Int32} {g : Nat → Nat → Int64} (hR : Rg rF i) (a_a : Int32) : CtI l yX8_with cX8_with 4 (some .int) ({ frames := 1, cells := 0, slots := 0, locals := 21 } : Room) D h cz i g [.ref (h 0), .int a_a] (fun r u => u = (i, g) ∧ r = (-2)) := by
  refine k_I pn_X8_with (Nat.le_of_ble_eq_true rfl) ?_
  intro p e s m args below meth c ls Q X hret hT hl hS
  have hx := X.1
  have hb := X.2.1
  have hl : lv_has ls 4 [(0, .ref (h 0)), (1, .int a_a)] := hl
  refine lv_aload_n hx hb dX8_with_0 rfl (lv_at hl 0 rfl) ?_
  refine r_getr X hT 0 3 15 fk_8_32 rfl rfl (by decide) dX8_with_1 ?_
  refine lv_iload_n hx hb dX8_with_4 rfl (lv_at hl 1 rfl) ?_
  refine r_Vi (As := [.int a_a]) (rest := []) X hT hS (k_X6_hasPart_15 hR a_a) mk_X6_hasPart gm_669 rfl rfl (by decide) hd_X6_hasPart ⟨rfl, rfl⟩ ⟨Nat.le_of_ble_eq_true rfl, Nat.le_of_ble_eq_true rfl⟩ hl.1 rfl (Nat.le_of_ble_eq_true rfl) dX8_with_5 ⟨Nat.zero_le _, Nat.zero_le _⟩ (fun r1 i1 g1 H locs hq hT hS => ?_)
  obtain ⟨eh1, rfl⟩ := hq
  rw [(Prod.mk.inj eh1).1, (Prod.mk.inj eh1).2] at hT
  refine lv_if_ne (tgt := 14) hx hb dX8_with_8 (by decide) (fun c2 => (x_ne (rg_k (by decide) : rg 0 0 0) (rg_k (by decide) : rg 0 0 0) (i_ne c2) (by decide)).elim) (fun c2 => ?_)
  refine lv_bipush (v := (-2)) hx hb dX8_with_11 (by decide) ?_
  exact hret (-2) _ _ _ _ _ _ dX8_with_13 hT hS ⟨rfl, rfl⟩

set_option maxRecDepth 100000 in
set_option maxHeartbeats 4000000 in
theorem k_X8_charms {l : Launch} {D : va_G} {h : Nat → Nat} {cz : Nat → ClassId} {i : Nat → Nat → Int32} {g : Nat → Nat → Int64} (hR : Rg rF i)  : CtI l yX8_charms cX8_charms 4 (some .int) ({ frames := 1, cells := 0, slots := 0, locals := 20 } : Room) D h cz i g [.ref (h 0)] (fun r u => u = (i, g) ∧ r = (-2)) := by
  refine k_I pn_X8_charms (Nat.le_of_ble_eq_true rfl) ?_
  intro p e s m args below meth c ls Q X hret hT hl hS
  have hx := X.1
  have hb := X.2.1
  have hl : lv_has ls 4 [(0, .ref (h 0))] := hl
  refine lv_aload_n hx hb dX8_charms_0 rfl (lv_at hl 0 rfl) ?_
  refine r_getr X hT 0 3 15 fk_8_32 rfl rfl (by decide) dX8_charms_1 ?_
  refine r_Vi (As := []) (rest := []) X hT hS (k_X6_isTold_15 hR) mk_X6_isTold gm_698 rfl rfl (by decide) hd_X6_isTold ⟨rfl, rfl⟩ ⟨Nat.le_of_ble_eq_true rfl, Nat.le_of_ble_eq_true rfl⟩ hl.1 rfl (Nat.le_of_ble_eq_true rfl) dX8_charms_4 ⟨Nat.zero_le _, Nat.zero_le _⟩ (fun r1 i1 g1 H locs hq hT hS => ?_)
  obtain ⟨eh1, rfl⟩ := hq
  rw [(Prod.mk.inj eh1).1, (Prod.mk.inj eh1).2] at hT
  refine lv_if_ne (tgt := 13) hx hb dX8_charms_7 (by decide) (fun c2 => (x_ne (rg_k (by decide) : rg 0 0 0) (rg_k (by decide) : rg 0 0 0) (i_ne c2) (by decide)).elim) (fun c2 => ?_)
  refine lv_bipush (v := (-2)) hx hb dX8_charms_10 (by decide) ?_
  exact hret (-2) _ _ _ _ _ _ dX8_charms_12 hT hS ⟨rfl, rfl⟩

set_option maxRecDepth 100000 in
set_option maxHeartbeats 4000000 in
theorem k_X8_best {l : Launch} {D : va_G} {h : Nat → Nat} {cz : Nat → ClassId} {i : Nat → Nat → Int32} {g : Nat → Nat → Int64} (hR : Rg rF i) (a_a : Int32) : CtI l yX8_best cX8_best 4 (some .int) ({ frames := 1, cells := 0, slots := 0, locals := 21 } : Room) D h cz i g [.ref (h 0), .int a_a] (fun r u => u = (i, g) ∧ r = (-2)) := by
  refine k_I pn_X8_best (Nat.le_of_ble_eq_true rfl) ?_
  intro p e s m args below meth c ls Q X hret hT hl hS
  have hx := X.1
  have hb := X.2.1
  have hl : lv_has ls 4 [(0, .ref (h 0)), (1, .int a_a)] := hl
  refine lv_aload_n hx hb dX8_best_0 rfl (lv_at hl 0 rfl) ?_
  refine r_getr X hT 0 3 15 fk_8_32 rfl rfl (by decide) dX8_best_1 ?_
  refine lv_iload_n hx hb dX8_best_4 rfl (lv_at hl 1 rfl) ?_
  refine r_Vi (As := [.int a_a]) (rest := []) X hT hS (k_X6_hasPart_15 hR a_a) mk_X6_hasPart gm_669 rfl rfl (by decide) hd_X6_hasPart ⟨rfl, rfl⟩ ⟨Nat.le_of_ble_eq_true rfl, Nat.le_of_ble_eq_true rfl⟩ hl.1 rfl (Nat.le_of_ble_eq_true rfl) dX8_best_5 ⟨Nat.zero_le _, Nat.zero_le _⟩ (fun r1 i1 g1 H locs hq hT hS => ?_)
  obtain ⟨eh1, rfl⟩ := hq
  rw [(Prod.mk.inj eh1).1, (Prod.mk.inj eh1).2] at hT
  refine lv_if_ne (tgt := 14) hx hb dX8_best_8 (by decide) (fun c2 => (x_ne (rg_k (by decide) : rg 0 0 0) (rg_k (by decide) : rg 0 0 0) (i_ne c2) (by decide)).elim) (fun c2 => ?_)
  refine lv_bipush (v := (-2)) hx hb dX8_best_11 (by decide) ?_
  exact hret (-2) _ _ _ _ _ _ dX8_best_13 hT hS ⟨rfl, rfl⟩

set_option maxRecDepth 100000 in
set_option maxHeartbeats 4000000 in
theorem k_X8_peak {l : Launch} {D : va_G} {h : Nat → Nat} {cz : Nat → ClassId} {i : Nat → Nat → Int32} {g : Nat → Nat → Int64} (hR : Rg rF i)  : CtI l yX8_peak cX8_peak 5 (some .int) ({ frames := 1, cells := 0, slots := 0, locals := 20 } : Room) D h cz i g [.ref (h 0)] (fun r u => u = (i, g) ∧ r = (-2)) := by
  refine k_I pn_X8_peak (Nat.le_of_ble_eq_true rfl) ?_
  intro p e s m args below meth c ls Q X hret hT hl hS
  have hx := X.1
  have hb := X.2.1
  have hl : lv_has ls 5 [(0, .ref (h 0))] := hl
  refine lv_aload_n hx hb dX8_peak_0 rfl (lv_at hl 0 rfl) ?_
  refine r_getr X hT 0 3 15 fk_8_32 rfl rfl (by decide) dX8_peak_1 ?_
  refine r_Vi (As := []) (rest := []) X hT hS (k_X6_isTold_15 hR) mk_X6_isTold gm_698 rfl rfl (by decide) hd_X6_isTold ⟨rfl, rfl⟩ ⟨Nat.le_of_ble_eq_true rfl, Nat.le_of_ble_eq_true rfl⟩ hl.1 rfl (Nat.le_of_ble_eq_true rfl) dX8_peak_4 ⟨Nat.zero_le _, Nat.zero_le _⟩ (fun r1 i1 g1 H locs hq hT hS => ?_)
  obtain ⟨eh1, rfl⟩ := hq
  rw [(Prod.mk.inj eh1).1, (Prod.mk.inj eh1).2] at hT
  refine lv_if_ne (tgt := 13) hx hb dX8_peak_7 (by decide) (fun c2 => (x_ne (rg_k (by decide) : rg 0 0 0) (rg_k (by decide) : rg 0 0 0) (i_ne c2) (by decide)).elim) (fun c2 => ?_)
  refine lv_bipush (v := (-2)) hx hb dX8_peak_10 (by decide) ?_
  exact hret (-2) _ _ _ _ _ _ dX8_peak_12 hT hS ⟨rfl, rfl⟩

set_option maxRecDepth 100000 in
set_option maxHeartbeats 4000000 in
theorem k_X8_first {l : Launch} {D : va_G} {h : Nat → Nat} {cz : Nat → ClassId} {i : Nat → Nat → Int32} {g : Nat → Nat → Int64} (hR : Rg rF i)  : CtI l yX8_first cX8_first 2 (some .int) ({ frames := 1, cells := 0, slots := 0, locals := 20 } : Room) D h cz i g [.ref (h 0)] (fun r u => u = (i, g) ∧ r = (-2)) := by
  refine k_I pn_X8_first (Nat.le_of_ble_eq_true rfl) ?_
  intro p e s m args below meth c ls Q X hret hT hl hS
  have hx := X.1
  have hb := X.2.1
  have hl : lv_has ls 2 [(0, .ref (h 0))] := hl
  refine lv_aload_n hx hb dX8_first_0 rfl (lv_at hl 0 rfl) ?_
  refine r_getr X hT 0 3 15 fk_8_32 rfl rfl (by decide) dX8_first_1 ?_
  refine r_Vi (As := []) (rest := []) X hT hS (k_X6_isTold_15 hR) mk_X6_isTold gm_698 rfl rfl (by decide) hd_X6_isTold ⟨rfl, rfl⟩ ⟨Nat.le_of_ble_eq_true rfl, Nat.le_of_ble_eq_true rfl⟩ hl.1 rfl (Nat.le_of_ble_eq_true rfl) dX8_first_4 ⟨Nat.zero_le _, Nat.zero_le _⟩ (fun r1 i1 g1 H locs hq hT hS => ?_)
  obtain ⟨eh1, rfl⟩ := hq
  rw [(Prod.mk.inj eh1).1, (Prod.mk.inj eh1).2] at hT
  refine lv_if_ne (tgt := 13) hx hb dX8_first_7 (by decide) (fun c2 => (x_ne (rg_k (by decide) : rg 0 0 0) (rg_k (by decide) : rg 0 0 0) (i_ne c2) (by decide)).elim) (fun c2 => ?_)
  refine lv_bipush (v := (-2)) hx hb dX8_first_10 (by decide) ?_
  exact hret (-2) _ _ _ _ _ _ dX8_first_12 hT hS ⟨rfl, rfl⟩

set_option maxRecDepth 100000 in
set_option maxHeartbeats 4000000 in
theorem k_X8_quiet {l : Launch} {D : va_G} {h : Nat → Nat} {cz : Nat → ClassId} {i : Nat → Nat → Int32} {g : Nat → Nat → Int64} (hR : Rg rF i)  : CtI l yX8_quiet cX8_quiet 3 (some .int) ({ frames := 1, cells := 0, slots := 0, locals := 20 } : Room) D h cz i g [.ref (h 0)] (fun r u => u = (i, g) ∧ r = (-2)) := by
  refine k_I pn_X8_quiet (Nat.le_of_ble_eq_true rfl) ?_
  intro p e s m args below meth c ls Q X hret hT hl hS
  have hx := X.1
  have hb := X.2.1
  have hl : lv_has ls 3 [(0, .ref (h 0))] := hl
  refine lv_aload_n hx hb dX8_quiet_0 rfl (lv_at hl 0 rfl) ?_
  refine r_getr X hT 0 3 15 fk_8_32 rfl rfl (by decide) dX8_quiet_1 ?_
  refine r_Vi (As := []) (rest := []) X hT hS (k_X6_isTold_15 hR) mk_X6_isTold gm_698 rfl rfl (by decide) hd_X6_isTold ⟨rfl, rfl⟩ ⟨Nat.le_of_ble_eq_true rfl, Nat.le_of_ble_eq_true rfl⟩ hl.1 rfl (Nat.le_of_ble_eq_true rfl) dX8_quiet_4 ⟨Nat.zero_le _, Nat.zero_le _⟩ (fun r1 i1 g1 H locs hq hT hS => ?_)
  obtain ⟨eh1, rfl⟩ := hq
  rw [(Prod.mk.inj eh1).1, (Prod.mk.inj eh1).2] at hT
  refine lv_if_ne (tgt := 13) hx hb dX8_quiet_7 (by decide) (fun c2 => (x_ne (rg_k (by decide) : rg 0 0 0) (rg_k (by decide) : rg 0 0 0) (i_ne c2) (by decide)).elim) (fun c2 => ?_)
  refine lv_bipush (v := (-2)) hx hb dX8_quiet_10 (by decide) ?_
  exact hret (-2) _ _ _ _ _ _ dX8_quiet_12 hT hS ⟨rfl, rfl⟩

set_option maxRecDepth 100000 in
set_option maxHeartbeats 4000000 in
theorem k_X8_lone {l : Launch} {D : va_G} {h : Nat → Nat} {cz : Nat → ClassId} {i : Nat → Nat → Int32} {g : Nat → Nat → Int64} (hR : Rg rF i) (a_a : Int32) : CtI l yX8_lone cX8_lone 6 (some .int) ({ frames := 2, cells := 0, slots := 0, locals := 41 } : Room) D h cz i g [.ref (h 0), .int a_a] (fun r u => u = (i, g) ∧ r = (-2)) := by
  refine k_I pn_X8_lone (Nat.le_of_ble_eq_true rfl) ?_
  intro p e s m args below meth c ls Q X hret hT hl hS
  have hx := X.1
  have hb := X.2.1
  have hl : lv_has ls 6 [(0, .ref (h 0)), (1, .int a_a)] := hl
  refine lv_aload_n hx hb dX8_lone_0 rfl (lv_at hl 0 rfl) ?_
  refine r_getr X hT 0 3 15 fk_8_32 rfl rfl (by decide) dX8_lone_1 ?_
  refine lv_iload_n hx hb dX8_lone_4 rfl (lv_at hl 1 rfl) ?_
  refine r_Vi (As := [.int a_a]) (rest := []) X hT hS (k_X6_hasYear_15 hR a_a) mk_X6_hasYear gm_731 rfl rfl (by decide) hd_X6_hasYear ⟨rfl, rfl⟩ ⟨Nat.le_of_ble_eq_true rfl, Nat.le_of_ble_eq_true rfl⟩ hl.1 rfl (Nat.le_of_ble_eq_true rfl) dX8_lone_5 ⟨Nat.zero_le _, Nat.zero_le _⟩ (fun r1 i1 g1 H locs hq hT hS => ?_)
  obtain ⟨eh1, rfl⟩ := hq
  rw [(Prod.mk.inj eh1).1, (Prod.mk.inj eh1).2] at hT
  refine lv_if_ne (tgt := 14) hx hb dX8_lone_8 (by decide) (fun c2 => (x_ne (rg_k (by decide) : rg 0 0 0) (rg_k (by decide) : rg 0 0 0) (i_ne c2) (by decide)).elim) (fun c2 => ?_)
  refine lv_bipush (v := (-2)) hx hb dX8_lone_11 (by decide) ?_
  exact hret (-2) _ _ _ _ _ _ dX8_lone_13 hT hS ⟨rfl, rfl⟩

set_option maxRecDepth 100000 in
set_option maxHeartbeats 4000000 in
theorem k_X8_stalest {l : Launch} {D : va_G} {h : Nat → Nat} {cz : Nat → ClassId} {i : Nat → Nat → Int32} {g : Nat → Nat → Int64} (hR : Rg rF i) (a_a : Int32) : CtI l yX8_stalest cX8_stalest 7 (some .int) ({ frames := 2, cells := 0, slots := 0, locals := 41 } : Room) D h cz i g [.ref (h 0), .int a_a] (fun r u => u = (i, g) ∧ r = (-2)) := by
  refine k_I pn_X8_stalest (Nat.le_of_ble_eq_true rfl) ?_
  intro p e s m args below meth c ls Q X hret hT hl hS
  have hx := X.1
  have hb := X.2.1
  have hl : lv_has ls 7 [(0, .ref (h 0)), (1, .int a_a)] := hl
  refine lv_aload_n hx hb dX8_stalest_0 rfl (lv_at hl 0 rfl) ?_
  refine r_getr X hT 0 3 15 fk_8_32 rfl rfl (by decide) dX8_stalest_1 ?_
  refine lv_iload_n hx hb dX8_stalest_4 rfl (lv_at hl 1 rfl) ?_
  refine r_Vi (As := [.int a_a]) (rest := []) X hT hS (k_X6_hasYear_15 hR a_a) mk_X6_hasYear gm_731 rfl rfl (by decide) hd_X6_hasYear ⟨rfl, rfl⟩ ⟨Nat.le_of_ble_eq_true rfl, Nat.le_of_ble_eq_true rfl⟩ hl.1 rfl (Nat.le_of_ble_eq_true rfl) dX8_stalest_5 ⟨Nat.zero_le _, Nat.zero_le _⟩ (fun r1 i1 g1 H locs hq hT hS => ?_)
  obtain ⟨eh1, rfl⟩ := hq
  rw [(Prod.mk.inj eh1).1, (Prod.mk.inj eh1).2] at hT
  refine lv_if_ne (tgt := 14) hx hb dX8_stalest_8 (by decide) (fun c2 => (x_ne (rg_k (by decide) : rg 0 0 0) (rg_k (by decide) : rg 0 0 0) (i_ne c2) (by decide)).elim) (fun c2 => ?_)
  refine lv_bipush (v := (-2)) hx hb dX8_stalest_11 (by decide) ?_
  exact hret (-2) _ _ _ _ _ _ dX8_stalest_13 hT hS ⟨rfl, rfl⟩

set_option maxRecDepth 100000 in
set_option maxHeartbeats 4000000 in
theorem k_X8_pieces {l : Launch} {D : va_G} {h : Nat → Nat} {cz : Nat → ClassId} {i : Nat → Nat → Int32} {g : Nat → Nat → Int64} (hR : Rg rF i)  : CtI l yX8_pieces cX8_pieces 4 (some .int) ({ frames := 1, cells := 0, slots := 0, locals := 20 } : Room) D h cz i g [.ref (h 0)] (fun r u => u = (i, g) ∧ r = (-2)) := by
  refine k_I pn_X8_pieces (Nat.le_of_ble_eq_true rfl) ?_
  intro p e s m args below meth c ls Q X hret hT hl hS
  have hx := X.1
  have hb := X.2.1
  have hl : lv_has ls 4 [(0, .ref (h 0))] := hl
  refine lv_aload_n hx hb dX8_pieces_0 rfl (lv_at hl 0 rfl) ?_
  refine r_getr X hT 0 3 15 fk_8_32 rfl rfl (by decide) dX8_pieces_1 ?_
  refine r_Vi (As := []) (rest := []) X hT hS (k_X6_isTold_15 hR) mk_X6_isTold gm_698 rfl rfl (by decide) hd_X6_isTold ⟨rfl, rfl⟩ ⟨Nat.le_of_ble_eq_true rfl, Nat.le_of_ble_eq_true rfl⟩ hl.1 rfl (Nat.le_of_ble_eq_true rfl) dX8_pieces_4 ⟨Nat.zero_le _, Nat.zero_le _⟩ (fun r1 i1 g1 H locs hq hT hS => ?_)
  obtain ⟨eh1, rfl⟩ := hq
  rw [(Prod.mk.inj eh1).1, (Prod.mk.inj eh1).2] at hT
  refine lv_if_ne (tgt := 13) hx hb dX8_pieces_7 (by decide) (fun c2 => (x_ne (rg_k (by decide) : rg 0 0 0) (rg_k (by decide) : rg 0 0 0) (i_ne c2) (by decide)).elim) (fun c2 => ?_)
  refine lv_bipush (v := (-2)) hx hb dX8_pieces_10 (by decide) ?_
  exact hret (-2) _ _ _ _ _ _ dX8_pieces_12 hT hS ⟨rfl, rfl⟩

set_option maxRecDepth 100000 in
set_option maxHeartbeats 4000000 in
theorem k_X8_lost {l : Launch} {D : va_G} {h : Nat → Nat} {cz : Nat → ClassId} {i : Nat → Nat → Int32} {g : Nat → Nat → Int64} (hR : Rg rF i)  : CtI l yX8_lost cX8_lost 4 (some .int) ({ frames := 1, cells := 0, slots := 0, locals := 20 } : Room) D h cz i g [.ref (h 0)] (fun r u => u = (i, g) ∧ r = (-2)) := by
  refine k_I pn_X8_lost (Nat.le_of_ble_eq_true rfl) ?_
  intro p e s m args below meth c ls Q X hret hT hl hS
  have hx := X.1
  have hb := X.2.1
  have hl : lv_has ls 4 [(0, .ref (h 0))] := hl
  refine lv_aload_n hx hb dX8_lost_0 rfl (lv_at hl 0 rfl) ?_
  refine r_getr X hT 0 3 15 fk_8_32 rfl rfl (by decide) dX8_lost_1 ?_
  refine r_Vi (As := []) (rest := []) X hT hS (k_X6_isTold_15 hR) mk_X6_isTold gm_698 rfl rfl (by decide) hd_X6_isTold ⟨rfl, rfl⟩ ⟨Nat.le_of_ble_eq_true rfl, Nat.le_of_ble_eq_true rfl⟩ hl.1 rfl (Nat.le_of_ble_eq_true rfl) dX8_lost_4 ⟨Nat.zero_le _, Nat.zero_le _⟩ (fun r1 i1 g1 H locs hq hT hS => ?_)
  obtain ⟨eh1, rfl⟩ := hq
  rw [(Prod.mk.inj eh1).1, (Prod.mk.inj eh1).2] at hT
  refine lv_if_ne (tgt := 13) hx hb dX8_lost_7 (by decide) (fun c2 => (x_ne (rg_k (by decide) : rg 0 0 0) (rg_k (by decide) : rg 0 0 0) (i_ne c2) (by decide)).elim) (fun c2 => ?_)
  refine lv_bipush (v := (-2)) hx hb dX8_lost_10 (by decide) ?_
  exact hret (-2) _ _ _ _ _ _ dX8_lost_12 hT hS ⟨rfl, rfl⟩

set_option maxRecDepth 100000 in
set_option maxHeartbeats 4000000 in
theorem k_X8_knives {l : Launch} {D : va_G} {h : Nat → Nat} {cz : Nat → ClassId} {i : Nat → Nat → Int32} {g : Nat → Nat → Int64} (hR : Rg rF i) (a_a : Int32) : CtI l yX8_knives cX8_knives 4 (some .int) ({ frames := 1, cells := 0, slots := 0, locals := 21 } : Room) D h cz i g [.ref (h 0), .int a_a] (fun r u => u = (i, g) ∧ r = (-2)) := by
  refine k_I pn_X8_knives (Nat.le_of_ble_eq_true rfl) ?_
  intro p e s m args below meth c ls Q X hret hT hl hS
  have hx := X.1
  have hb := X.2.1
  have hl : lv_has ls 4 [(0, .ref (h 0)), (1, .int a_a)] := hl
  refine lv_aload_n hx hb dX8_knives_0 rfl (lv_at hl 0 rfl) ?_
  refine r_getr X hT 0 3 15 fk_8_32 rfl rfl (by decide) dX8_knives_1 ?_
  refine lv_iload_n hx hb dX8_knives_4 rfl (lv_at hl 1 rfl) ?_
  refine r_Vi (As := [.int a_a]) (rest := []) X hT hS (k_X6_hasPart_15 hR a_a) mk_X6_hasPart gm_669 rfl rfl (by decide) hd_X6_hasPart ⟨rfl, rfl⟩ ⟨Nat.le_of_ble_eq_true rfl, Nat.le_of_ble_eq_true rfl⟩ hl.1 rfl (Nat.le_of_ble_eq_true rfl) dX8_knives_5 ⟨Nat.zero_le _, Nat.zero_le _⟩ (fun r1 i1 g1 H locs hq hT hS => ?_)
  obtain ⟨eh1, rfl⟩ := hq
  rw [(Prod.mk.inj eh1).1, (Prod.mk.inj eh1).2] at hT
  refine lv_if_ne (tgt := 14) hx hb dX8_knives_8 (by decide) (fun c2 => (x_ne (rg_k (by decide) : rg 0 0 0) (rg_k (by decide) : rg 0 0 0) (i_ne c2) (by decide)).elim) (fun c2 => ?_)
  refine lv_bipush (v := (-2)) hx hb dX8_knives_11 (by decide) ?_
  exact hret (-2) _ _ _ _ _ _ dX8_knives_13 hT hS ⟨rfl, rfl⟩

set_option maxRecDepth 100000 in
set_option maxHeartbeats 4000000 in
theorem k_X8_idle {l : Launch} {D : va_G} {h : Nat → Nat} {cz : Nat → ClassId} {i : Nat → Nat → Int32} {g : Nat → Nat → Int64} (hR : Rg rF i)  : CtI l yX8_idle cX8_idle 4 (some .int) ({ frames := 1, cells := 0, slots := 0, locals := 20 } : Room) D h cz i g [.ref (h 0)] (fun r u => u = (i, g) ∧ r = (-2)) := by
  refine k_I pn_X8_idle (Nat.le_of_ble_eq_true rfl) ?_
  intro p e s m args below meth c ls Q X hret hT hl hS
  have hx := X.1
  have hb := X.2.1
  have hl : lv_has ls 4 [(0, .ref (h 0))] := hl
  refine lv_aload_n hx hb dX8_idle_0 rfl (lv_at hl 0 rfl) ?_
  refine r_getr X hT 0 3 15 fk_8_32 rfl rfl (by decide) dX8_idle_1 ?_
  refine r_Vi (As := []) (rest := []) X hT hS (k_X6_isTold_15 hR) mk_X6_isTold gm_698 rfl rfl (by decide) hd_X6_isTold ⟨rfl, rfl⟩ ⟨Nat.le_of_ble_eq_true rfl, Nat.le_of_ble_eq_true rfl⟩ hl.1 rfl (Nat.le_of_ble_eq_true rfl) dX8_idle_4 ⟨Nat.zero_le _, Nat.zero_le _⟩ (fun r1 i1 g1 H locs hq hT hS => ?_)
  obtain ⟨eh1, rfl⟩ := hq
  rw [(Prod.mk.inj eh1).1, (Prod.mk.inj eh1).2] at hT
  refine lv_if_ne (tgt := 13) hx hb dX8_idle_7 (by decide) (fun c2 => (x_ne (rg_k (by decide) : rg 0 0 0) (rg_k (by decide) : rg 0 0 0) (i_ne c2) (by decide)).elim) (fun c2 => ?_)
  refine lv_bipush (v := (-2)) hx hb dX8_idle_10 (by decide) ?_
  exact hret (-2) _ _ _ _ _ _ dX8_idle_12 hT hS ⟨rfl, rfl⟩

set_option maxRecDepth 100000 in
set_option maxHeartbeats 4000000 in
theorem k_X8_few {l : Launch} {D : va_G} {h : Nat → Nat} {cz : Nat → ClassId} {i : Nat → Nat → Int32} {g : Nat → Nat → Int64} (hR : Rg rF i)  : CtI l yX8_few cX8_few 1 (some .int) ({ frames := 1, cells := 0, slots := 0, locals := 20 } : Room) D h cz i g [.ref (h 0)] (fun r u => u = (i, g) ∧ r = (-2)) := by
  refine k_I pn_X8_few (Nat.le_of_ble_eq_true rfl) ?_
  intro p e s m args below meth c ls Q X hret hT hl hS
  have hx := X.1
  have hb := X.2.1
  have hl : lv_has ls 1 [(0, .ref (h 0))] := hl
  refine lv_aload_n hx hb dX8_few_0 rfl (lv_at hl 0 rfl) ?_
  refine r_getr X hT 0 3 15 fk_8_32 rfl rfl (by decide) dX8_few_1 ?_
  refine r_Vi (As := []) (rest := []) X hT hS (k_X6_isTold_15 hR) mk_X6_isTold gm_698 rfl rfl (by decide) hd_X6_isTold ⟨rfl, rfl⟩ ⟨Nat.le_of_ble_eq_true rfl, Nat.le_of_ble_eq_true rfl⟩ hl.1 rfl (Nat.le_of_ble_eq_true rfl) dX8_few_4 ⟨Nat.zero_le _, Nat.zero_le _⟩ (fun r1 i1 g1 H locs hq hT hS => ?_)
  obtain ⟨eh1, rfl⟩ := hq
  rw [(Prod.mk.inj eh1).1, (Prod.mk.inj eh1).2] at hT
  refine lv_if_eq (tgt := 20) hx hb dX8_few_7 (by decide) (fun c2 => ?_) (fun c2 => (x_ne (rg_k (by decide) : rg 0 0 0) (rg_k (by decide) : rg 0 0 0) (i_ne c2) (by decide)).elim)
  refine lv_bipush (v := (-2)) hx hb dX8_few_20 (by decide) ?_
  exact hret (-2) _ _ _ _ _ _ dX8_few_22 hT hS ⟨rfl, rfl⟩

set_option maxRecDepth 100000 in
set_option maxHeartbeats 4000000 in
theorem k_X8_fews {l : Launch} {D : va_G} {h : Nat → Nat} {cz : Nat → ClassId} {i : Nat → Nat → Int32} {g : Nat → Nat → Int64} (hR : Rg rF i)  : CtI l yX8_fews cX8_fews 1 (some .int) ({ frames := 1, cells := 0, slots := 0, locals := 20 } : Room) D h cz i g [.ref (h 0)] (fun r u => u = (i, g) ∧ r = (-2)) := by
  refine k_I pn_X8_fews (Nat.le_of_ble_eq_true rfl) ?_
  intro p e s m args below meth c ls Q X hret hT hl hS
  have hx := X.1
  have hb := X.2.1
  have hl : lv_has ls 1 [(0, .ref (h 0))] := hl
  refine lv_aload_n hx hb dX8_fews_0 rfl (lv_at hl 0 rfl) ?_
  refine r_getr X hT 0 3 15 fk_8_32 rfl rfl (by decide) dX8_fews_1 ?_
  refine r_Vi (As := []) (rest := []) X hT hS (k_X6_isTold_15 hR) mk_X6_isTold gm_698 rfl rfl (by decide) hd_X6_isTold ⟨rfl, rfl⟩ ⟨Nat.le_of_ble_eq_true rfl, Nat.le_of_ble_eq_true rfl⟩ hl.1 rfl (Nat.le_of_ble_eq_true rfl) dX8_fews_4 ⟨Nat.zero_le _, Nat.zero_le _⟩ (fun r1 i1 g1 H locs hq hT hS => ?_)
  obtain ⟨eh1, rfl⟩ := hq
  rw [(Prod.mk.inj eh1).1, (Prod.mk.inj eh1).2] at hT
  refine lv_if_eq (tgt := 17) hx hb dX8_fews_7 (by decide) (fun c2 => ?_) (fun c2 => (x_ne (rg_k (by decide) : rg 0 0 0) (rg_k (by decide) : rg 0 0 0) (i_ne c2) (by decide)).elim)
  refine lv_bipush (v := (-2)) hx hb dX8_fews_17 (by decide) ?_
  exact hret (-2) _ _ _ _ _ _ dX8_fews_19 hT hS ⟨rfl, rfl⟩

set_option maxRecDepth 100000 in
set_option maxHeartbeats 4000000 in
theorem k_X8_worth {l : Launch} {D : va_G} {h : Nat → Nat} {cz : Nat → ClassId} {i : Nat → Nat → Int32} {g : Nat → Nat → Int64} (hR : Rg rF i) (a_a : Int32) : CtI l yX8_worth cX8_worth 2 (some .int) ({ frames := 1, cells := 0, slots := 0, locals := 20 } : Room) D h cz i g [.ref (h 0), .int a_a] (fun r u => u = (i, g) ∧ r = (-2)) := by
  refine k_I pn_X8_worth (Nat.le_of_ble_eq_true rfl) ?_
  intro p e s m args below meth c ls Q X hret hT hl hS
  have hx := X.1
  have hb := X.2.1
  have hl : lv_has ls 2 [(0, .ref (h 0)), (1, .int a_a)] := hl
  refine lv_aload_n hx hb dX8_worth_0 rfl (lv_at hl 0 rfl) ?_
  refine r_getr X hT 0 3 15 fk_8_32 rfl rfl (by decide) dX8_worth_1 ?_
  refine r_Vi (As := []) (rest := []) X hT hS (k_X6_isTold_15 hR) mk_X6_isTold gm_698 rfl rfl (by decide) hd_X6_isTold ⟨rfl, rfl⟩ ⟨Nat.le_of_ble_eq_true rfl, Nat.le_of_ble_eq_true rfl⟩ hl.1 rfl (Nat.le_of_ble_eq_true rfl) dX8_worth_4 ⟨Nat.zero_le _, Nat.zero_le _⟩ (fun r1 i1 g1 H locs hq hT hS => ?_)
  obtain ⟨eh1, rfl⟩ := hq
  rw [(Prod.mk.inj eh1).1, (Prod.mk.inj eh1).2] at hT
  refine lv_if_eq (tgt := 25) hx hb dX8_worth_7 (by decide) (fun c2 => ?_) (fun c2 => (x_ne (rg_k (by decide) : rg 0 0 0) (rg_k (by decide) : rg 0 0 0) (i_ne c2) (by decide)).elim)
  refine lv_bipush (v := (-2)) hx hb dX8_worth_25 (by decide) ?_
  exact hret (-2) _ _ _ _ _ _ dX8_worth_27 hT hS ⟨rfl, rfl⟩

set_option maxRecDepth 100000 in
set_option maxHeartbeats 4000000 in
theorem k_X8_share {l : Launch} {D : va_G} {h : Nat → Nat} {cz : Nat → ClassId} {i : Nat → Nat → Int32} {g : Nat → Nat → Int64} (hR : Rg rF i) (a_a : Int32) (a_b : Int32) : CtI l yX8_share cX8_share 9 (some .int) ({ frames := 1, cells := 0, slots := 0, locals := 21 } : Room) D h cz i g [.ref (h 0), .int a_a, .int a_b] (fun r u => u = (i, g) ∧ r = (-1000000)) := by
  refine k_I pn_X8_share (Nat.le_of_ble_eq_true rfl) ?_
  intro p e s m args below meth c ls Q X hret hT hl hS
  have hx := X.1
  have hb := X.2.1
  have hl : lv_has ls 9 [(0, .ref (h 0)), (1, .int a_a), (2, .int a_b)] := hl
  refine lv_aload_n hx hb dX8_share_0 rfl (lv_at hl 0 rfl) ?_
  refine r_getr X hT 0 3 15 fk_8_32 rfl rfl (by decide) dX8_share_1 ?_
  refine lv_iload_n hx hb dX8_share_4 rfl (lv_at hl 1 rfl) ?_
  refine r_Vi (As := [.int a_a]) (rest := []) X hT hS (k_X6_hasPart_15 hR a_a) mk_X6_hasPart gm_669 rfl rfl (by decide) hd_X6_hasPart ⟨rfl, rfl⟩ ⟨Nat.le_of_ble_eq_true rfl, Nat.le_of_ble_eq_true rfl⟩ hl.1 rfl (Nat.le_of_ble_eq_true rfl) dX8_share_5 ⟨Nat.zero_le _, Nat.zero_le _⟩ (fun r1 i1 g1 H locs hq hT hS => ?_)
  obtain ⟨eh1, rfl⟩ := hq
  rw [(Prod.mk.inj eh1).1, (Prod.mk.inj eh1).2] at hT
  refine lv_if_eq (tgt := 18) hx hb dX8_share_8 (by decide) (fun c2 => ?_) (fun c2 => (x_ne (rg_k (by decide) : rg 0 0 0) (rg_k (by decide) : rg 0 0 0) (i_ne c2) (by decide)).elim)
  refine lv_ldcw (v := (-1000000)) hx hb X.2.2.2.1 (X.2.2.2.2.1 _ gm_986) dX8_share_18 ?_
  exact hret (-1000000) _ _ _ _ _ _ dX8_share_21 hT hS ⟨rfl, rfl⟩

set_option maxRecDepth 100000 in
set_option maxHeartbeats 4000000 in
theorem k_X8_hasPlan {l : Launch} {D : va_G} {h : Nat → Nat} {cz : Nat → ClassId} {i : Nat → Nat → Int32} {g : Nat → Nat → Int64} (hR : Rg rF i) (a_a : Int32) : CtI l yX8_hasPlan cX8_hasPlan 2 (some .boolean) ({ frames := 1, cells := 0, slots := 0, locals := 20 } : Room) D h cz i g [.ref (h 0), .int a_a] (fun r u => u = (i, g) ∧ r = 0) := by
  refine k_Z (by intro v u hq; obtain ⟨-, hq⟩ := hq; exact Or.inl hq) pn_X8_hasPlan (Nat.le_of_ble_eq_true rfl) ?_
  intro p e s m args below meth c ls Q X hret hT hl hS
  have hx := X.1
  have hb := X.2.1
  have hl : lv_has ls 2 [(0, .ref (h 0)), (1, .int a_a)] := hl
  refine lv_aload_n hx hb dX8_hasPlan_0 rfl (lv_at hl 0 rfl) ?_
  refine r_getr X hT 0 3 15 fk_8_32 rfl rfl (by decide) dX8_hasPlan_1 ?_
  refine r_Vi (As := []) (rest := []) X hT hS (k_X6_isTold_15 hR) mk_X6_isTold gm_698 rfl rfl (by decide) hd_X6_isTold ⟨rfl, rfl⟩ ⟨Nat.le_of_ble_eq_true rfl, Nat.le_of_ble_eq_true rfl⟩ hl.1 rfl (Nat.le_of_ble_eq_true rfl) dX8_hasPlan_4 ⟨Nat.zero_le _, Nat.zero_le _⟩ (fun r1 i1 g1 H locs hq hT hS => ?_)
  obtain ⟨eh1, rfl⟩ := hq
  rw [(Prod.mk.inj eh1).1, (Prod.mk.inj eh1).2] at hT
  refine lv_if_eq (tgt := 35) hx hb dX8_hasPlan_7 (by decide) (fun c2 => ?_) (fun c2 => (x_ne (rg_k (by decide) : rg 0 0 0) (rg_k (by decide) : rg 0 0 0) (i_ne c2) (by decide)).elim)
  refine lv_iconst (v := 0) hx hb dX8_hasPlan_35 (by decide) ?_
  exact hret 0 _ _ _ _ _ _ dX8_hasPlan_36 hT hS ⟨rfl, rfl⟩

set_option maxRecDepth 100000 in
set_option maxHeartbeats 4000000 in
theorem k_X8_plan {l : Launch} {D : va_G} {h : Nat → Nat} {cz : Nat → ClassId} {i : Nat → Nat → Int32} {g : Nat → Nat → Int64} (hR : Rg rF i) (a_a : Int32) : CtI l yX8_plan cX8_plan 2 (some .int) ({ frames := 2, cells := 0, slots := 0, locals := 41 } : Room) D h cz i g [.ref (h 0), .int a_a] (fun r u => u = (i, g) ∧ r = (-2)) := by
  refine k_I pn_X8_plan (Nat.le_of_ble_eq_true rfl) ?_
  intro p e s m args below meth c ls Q X hret hT hl hS
  have hx := X.1
  have hb := X.2.1
  have hl : lv_has ls 2 [(0, .ref (h 0)), (1, .int a_a)] := hl
  refine lv_aload_n hx hb dX8_plan_0 rfl (lv_at hl 0 rfl) ?_
  refine lv_iload_n hx hb dX8_plan_1 rfl (lv_at hl 1 rfl) ?_
  refine r_Vi (As := [.int a_a]) (rest := []) X hT hS (k_X8_hasPlan hR a_a) mk_X8_hasPlan gm_1008 rfl rfl (by decide) hd_X8_hasPlan ⟨rfl, rfl⟩ ⟨Nat.le_of_ble_eq_true rfl, Nat.le_of_ble_eq_true rfl⟩ hl.1 rfl (Nat.le_of_ble_eq_true rfl) dX8_plan_2 ⟨Nat.zero_le _, Nat.zero_le _⟩ (fun r1 i1 g1 H locs hq hT hS => ?_)
  obtain ⟨eh1, rfl⟩ := hq
  rw [(Prod.mk.inj eh1).1, (Prod.mk.inj eh1).2] at hT
  refine lv_if_ne (tgt := 11) hx hb dX8_plan_5 (by decide) (fun c2 => (x_ne (rg_k (by decide) : rg 0 0 0) (rg_k (by decide) : rg 0 0 0) (i_ne c2) (by decide)).elim) (fun c2 => ?_)
  refine lv_bipush (v := (-2)) hx hb dX8_plan_8 (by decide) ?_
  exact hret (-2) _ _ _ _ _ _ dX8_plan_10 hT hS ⟨rfl, rfl⟩

set_option maxRecDepth 100000 in
set_option maxHeartbeats 4000000 in
theorem k_X8_planned {l : Launch} {D : va_G} {h : Nat → Nat} {cz : Nat → ClassId} {i : Nat → Nat → Int32} {g : Nat → Nat → Int64} (hR : Rg rF i) (a_a : Int32) (a_b : Int32) : CtI l yX8_planned cX8_planned 3 (some .int) ({ frames := 2, cells := 0, slots := 0, locals := 41 } : Room) D h cz i g [.ref (h 0), .int a_a, .int a_b] (fun r u => u = (i, g) ∧ r = (-2)) := by
  refine k_I pn_X8_planned (Nat.le_of_ble_eq_true rfl) ?_
  intro p e s m args below meth c ls Q X hret hT hl hS
  have hx := X.1
  have hb := X.2.1
  have hl : lv_has ls 3 [(0, .ref (h 0)), (1, .int a_a), (2, .int a_b)] := hl
  refine lv_aload_n hx hb dX8_planned_0 rfl (lv_at hl 0 rfl) ?_
  refine lv_iload_n hx hb dX8_planned_1 rfl (lv_at hl 1 rfl) ?_
  refine r_Vi (As := [.int a_a]) (rest := []) X hT hS (k_X8_hasPlan hR a_a) mk_X8_hasPlan gm_1008 rfl rfl (by decide) hd_X8_hasPlan ⟨rfl, rfl⟩ ⟨Nat.le_of_ble_eq_true rfl, Nat.le_of_ble_eq_true rfl⟩ hl.1 rfl (Nat.le_of_ble_eq_true rfl) dX8_planned_2 ⟨Nat.zero_le _, Nat.zero_le _⟩ (fun r1 i1 g1 H locs hq hT hS => ?_)
  obtain ⟨eh1, rfl⟩ := hq
  rw [(Prod.mk.inj eh1).1, (Prod.mk.inj eh1).2] at hT
  refine lv_if_eq (tgt := 17) hx hb dX8_planned_5 (by decide) (fun c2 => ?_) (fun c2 => (x_ne (rg_k (by decide) : rg 0 0 0) (rg_k (by decide) : rg 0 0 0) (i_ne c2) (by decide)).elim)
  refine lv_bipush (v := (-2)) hx hb dX8_planned_17 (by decide) ?_
  exact hret (-2) _ _ _ _ _ _ dX8_planned_19 hT hS ⟨rfl, rfl⟩

set_option maxRecDepth 100000 in
set_option maxHeartbeats 4000000 in
theorem k_X8_plans {l : Launch} {D : va_G} {h : Nat → Nat} {cz : Nat → ClassId} {i : Nat → Nat → Int32} {g : Nat → Nat → Int64} (hR : Rg rF i) (a_a : Int32) : CtI l yX8_plans cX8_plans 2 (some .int) ({ frames := 2, cells := 0, slots := 0, locals := 41 } : Room) D h cz i g [.ref (h 0), .int a_a] (fun r u => u = (i, g) ∧ r = (-2)) := by
  refine k_I pn_X8_plans (Nat.le_of_ble_eq_true rfl) ?_
  intro p e s m args below meth c ls Q X hret hT hl hS
  have hx := X.1
  have hb := X.2.1
  have hl : lv_has ls 2 [(0, .ref (h 0)), (1, .int a_a)] := hl
  refine lv_aload_n hx hb dX8_plans_0 rfl (lv_at hl 0 rfl) ?_
  refine lv_iload_n hx hb dX8_plans_1 rfl (lv_at hl 1 rfl) ?_
  refine r_Vi (As := [.int a_a]) (rest := []) X hT hS (k_X8_hasPlan hR a_a) mk_X8_hasPlan gm_1008 rfl rfl (by decide) hd_X8_hasPlan ⟨rfl, rfl⟩ ⟨Nat.le_of_ble_eq_true rfl, Nat.le_of_ble_eq_true rfl⟩ hl.1 rfl (Nat.le_of_ble_eq_true rfl) dX8_plans_2 ⟨Nat.zero_le _, Nat.zero_le _⟩ (fun r1 i1 g1 H locs hq hT hS => ?_)
  obtain ⟨eh1, rfl⟩ := hq
  rw [(Prod.mk.inj eh1).1, (Prod.mk.inj eh1).2] at hT
  refine lv_if_ne (tgt := 11) hx hb dX8_plans_5 (by decide) (fun c2 => (x_ne (rg_k (by decide) : rg 0 0 0) (rg_k (by decide) : rg 0 0 0) (i_ne c2) (by decide)).elim) (fun c2 => ?_)
  refine lv_bipush (v := (-2)) hx hb dX8_plans_8 (by decide) ?_
  exact hret (-2) _ _ _ _ _ _ dX8_plans_10 hT hS ⟨rfl, rfl⟩

set_option maxRecDepth 100000 in
set_option maxHeartbeats 4000000 in
theorem k_X8_refuseSeenOf {l : Launch} {D : va_G} {h : Nat → Nat} {cz : Nat → ClassId} {i : Nat → Nat → Int32} {g : Nat → Nat → Int64} (hR : Rg rF i) (a_a : Int32) (a_b : Int32) : CtI l yX8_refuseSeenOf cX8_refuseSeenOf 3 (some .int) ({ frames := 1, cells := 0, slots := 0, locals := 21 } : Room) D h cz i g [.ref (h 0), .int a_a, .int a_b] (fun r u => u = (i, g) ∧ r = (-2)) := by
  refine k_I pn_X8_refuseSeenOf (Nat.le_of_ble_eq_true rfl) ?_
  intro p e s m args below meth c ls Q X hret hT hl hS
  have hx := X.1
  have hb := X.2.1
  have hl : lv_has ls 3 [(0, .ref (h 0)), (1, .int a_a), (2, .int a_b)] := hl
  refine lv_aload_n hx hb dX8_refuseSeenOf_0 rfl (lv_at hl 0 rfl) ?_
  refine r_getr X hT 0 3 15 fk_8_32 rfl rfl (by decide) dX8_refuseSeenOf_1 ?_
  refine lv_iload_n hx hb dX8_refuseSeenOf_4 rfl (lv_at hl 2 rfl) ?_
  refine r_Vi (As := [.int a_b]) (rest := []) X hT hS (k_X6_hasPart_15 hR a_b) mk_X6_hasPart gm_669 rfl rfl (by decide) hd_X6_hasPart ⟨rfl, rfl⟩ ⟨Nat.le_of_ble_eq_true rfl, Nat.le_of_ble_eq_true rfl⟩ hl.1 rfl (Nat.le_of_ble_eq_true rfl) dX8_refuseSeenOf_5 ⟨Nat.zero_le _, Nat.zero_le _⟩ (fun r1 i1 g1 H locs hq hT hS => ?_)
  obtain ⟨eh1, rfl⟩ := hq
  rw [(Prod.mk.inj eh1).1, (Prod.mk.inj eh1).2] at hT
  refine lv_if_eq (tgt := 19) hx hb dX8_refuseSeenOf_8 (by decide) (fun c2 => ?_) (fun c2 => (x_ne (rg_k (by decide) : rg 0 0 0) (rg_k (by decide) : rg 0 0 0) (i_ne c2) (by decide)).elim)
  refine lv_bipush (v := (-2)) hx hb dX8_refuseSeenOf_19 (by decide) ?_
  exact hret (-2) _ _ _ _ _ _ dX8_refuseSeenOf_21 hT hS ⟨rfl, rfl⟩

set_option maxRecDepth 100000 in
set_option maxHeartbeats 4000000 in
theorem k_X8_stiffs {l : Launch} {D : va_G} {h : Nat → Nat} {cz : Nat → ClassId} {i : Nat → Nat → Int32} {g : Nat → Nat → Int64} (hR : Rg rF i) (a_a : Int32) (a_b : Int32) : CtI l yX8_stiffs cX8_stiffs 4 (some .int) ({ frames := 2, cells := 0, slots := 0, locals := 43 } : Room) D h cz i g [.ref (h 0), .int a_a, .int a_b] (fun r u => u = (i, g) ∧ r = (-2)) := by
  refine k_I pn_X8_stiffs (Nat.le_of_ble_eq_true rfl) ?_
  intro p e s m args below meth c ls Q X hret hT hl hS
  have hx := X.1
  have hb := X.2.1
  have hl : lv_has ls 4 [(0, .ref (h 0)), (1, .int a_a), (2, .int a_b)] := hl
  refine lv_aload_n hx hb dX8_stiffs_0 rfl (lv_at hl 0 rfl) ?_
  refine lv_iload_n hx hb dX8_stiffs_1 rfl (lv_at hl 1 rfl) ?_
  refine lv_iload_n hx hb dX8_stiffs_2 rfl (lv_at hl 2 rfl) ?_
  refine r_Vi (As := [.int a_a, .int a_b]) (rest := []) X hT hS (k_X8_refuseSeenOf hR a_a a_b) mk_X8_refuseSeenOf gm_1048 rfl rfl (by decide) hd_X8_refuseSeenOf ⟨rfl, rfl⟩ ⟨Nat.le_of_ble_eq_true rfl, Nat.le_of_ble_eq_true rfl⟩ hl.1 rfl (Nat.le_of_ble_eq_true rfl) dX8_stiffs_3 ⟨Nat.zero_le _, Nat.zero_le _⟩ (fun r1 i1 g1 H locs hq hT hS => ?_)
  obtain ⟨eh1, rfl⟩ := hq
  rw [(Prod.mk.inj eh1).1, (Prod.mk.inj eh1).2] at hT
  refine lv_istore_n (lv' := [(3, .int (-2)), (0, .ref (h 0)), (1, .int a_a), (2, .int a_b)]) hx hb dX8_stiffs_6 rfl hl (by decide) rfl (fun ls hl => ?_)
  refine lv_iload_n hx hb dX8_stiffs_7 rfl (lv_at hl 0 rfl) ?_
  refine lv_if_ne (tgt := 27) hx hb dX8_stiffs_8 (by decide) (fun c2 => ?_) (fun c2 => (x_eq (rg_k (by decide) : rg (-2) (-2) (-2)) (rg_k (by decide) : rg 0 0 0) (i_eq c2) (by decide)).elim)
  refine lv_iload_n hx hb dX8_stiffs_27 rfl (lv_at hl 0 rfl) ?_
  exact hret (-2) _ _ _ _ _ _ dX8_stiffs_28 hT hS ⟨rfl, rfl⟩

set_option maxRecDepth 100000 in
set_option maxHeartbeats 4000000 in
theorem k_X8_low {l : Launch} {D : va_G} {h : Nat → Nat} {cz : Nat → ClassId} {i : Nat → Nat → Int32} {g : Nat → Nat → Int64} (hR : Rg rF i) (a_a : Int32) (a_b : Int32) : CtI l yX8_low cX8_low 4 (some .int) ({ frames := 2, cells := 0, slots := 0, locals := 43 } : Room) D h cz i g [.ref (h 0), .int a_a, .int a_b] (fun r u => u = (i, g) ∧ r = (-2)) := by
  refine k_I pn_X8_low (Nat.le_of_ble_eq_true rfl) ?_
  intro p e s m args below meth c ls Q X hret hT hl hS
  have hx := X.1
  have hb := X.2.1
  have hl : lv_has ls 4 [(0, .ref (h 0)), (1, .int a_a), (2, .int a_b)] := hl
  refine lv_aload_n hx hb dX8_low_0 rfl (lv_at hl 0 rfl) ?_
  refine lv_iload_n hx hb dX8_low_1 rfl (lv_at hl 1 rfl) ?_
  refine lv_iload_n hx hb dX8_low_2 rfl (lv_at hl 2 rfl) ?_
  refine r_Vi (As := [.int a_a, .int a_b]) (rest := []) X hT hS (k_X8_refuseSeenOf hR a_a a_b) mk_X8_refuseSeenOf gm_1048 rfl rfl (by decide) hd_X8_refuseSeenOf ⟨rfl, rfl⟩ ⟨Nat.le_of_ble_eq_true rfl, Nat.le_of_ble_eq_true rfl⟩ hl.1 rfl (Nat.le_of_ble_eq_true rfl) dX8_low_3 ⟨Nat.zero_le _, Nat.zero_le _⟩ (fun r1 i1 g1 H locs hq hT hS => ?_)
  obtain ⟨eh1, rfl⟩ := hq
  rw [(Prod.mk.inj eh1).1, (Prod.mk.inj eh1).2] at hT
  refine lv_istore_n (lv' := [(3, .int (-2)), (0, .ref (h 0)), (1, .int a_a), (2, .int a_b)]) hx hb dX8_low_6 rfl hl (by decide) rfl (fun ls hl => ?_)
  refine lv_iload_n hx hb dX8_low_7 rfl (lv_at hl 0 rfl) ?_
  refine lv_if_eq (tgt := 13) hx hb dX8_low_8 (by decide) (fun c2 => (x_eq (rg_k (by decide) : rg (-2) (-2) (-2)) (rg_k (by decide) : rg 0 0 0) (i_eq c2) (by decide)).elim) (fun c2 => ?_)
  refine lv_iload_n hx hb dX8_low_11 rfl (lv_at hl 0 rfl) ?_
  exact hret (-2) _ _ _ _ _ _ dX8_low_12 hT hS ⟨rfl, rfl⟩

set_option maxRecDepth 100000 in
set_option maxHeartbeats 4000000 in
theorem k_X8_high {l : Launch} {D : va_G} {h : Nat → Nat} {cz : Nat → ClassId} {i : Nat → Nat → Int32} {g : Nat → Nat → Int64} (hR : Rg rF i) (a_a : Int32) (a_b : Int32) : CtI l yX8_high cX8_high 4 (some .int) ({ frames := 2, cells := 0, slots := 0, locals := 43 } : Room) D h cz i g [.ref (h 0), .int a_a, .int a_b] (fun r u => u = (i, g) ∧ r = (-2)) := by
  refine k_I pn_X8_high (Nat.le_of_ble_eq_true rfl) ?_
  intro p e s m args below meth c ls Q X hret hT hl hS
  have hx := X.1
  have hb := X.2.1
  have hl : lv_has ls 4 [(0, .ref (h 0)), (1, .int a_a), (2, .int a_b)] := hl
  refine lv_aload_n hx hb dX8_high_0 rfl (lv_at hl 0 rfl) ?_
  refine lv_iload_n hx hb dX8_high_1 rfl (lv_at hl 1 rfl) ?_
  refine lv_iload_n hx hb dX8_high_2 rfl (lv_at hl 2 rfl) ?_
  refine r_Vi (As := [.int a_a, .int a_b]) (rest := []) X hT hS (k_X8_refuseSeenOf hR a_a a_b) mk_X8_refuseSeenOf gm_1048 rfl rfl (by decide) hd_X8_refuseSeenOf ⟨rfl, rfl⟩ ⟨Nat.le_of_ble_eq_true rfl, Nat.le_of_ble_eq_true rfl⟩ hl.1 rfl (Nat.le_of_ble_eq_true rfl) dX8_high_3 ⟨Nat.zero_le _, Nat.zero_le _⟩ (fun r1 i1 g1 H locs hq hT hS => ?_)
  obtain ⟨eh1, rfl⟩ := hq
  rw [(Prod.mk.inj eh1).1, (Prod.mk.inj eh1).2] at hT
  refine lv_istore_n (lv' := [(3, .int (-2)), (0, .ref (h 0)), (1, .int a_a), (2, .int a_b)]) hx hb dX8_high_6 rfl hl (by decide) rfl (fun ls hl => ?_)
  refine lv_iload_n hx hb dX8_high_7 rfl (lv_at hl 0 rfl) ?_
  refine lv_if_eq (tgt := 13) hx hb dX8_high_8 (by decide) (fun c2 => (x_eq (rg_k (by decide) : rg (-2) (-2) (-2)) (rg_k (by decide) : rg 0 0 0) (i_eq c2) (by decide)).elim) (fun c2 => ?_)
  refine lv_iload_n hx hb dX8_high_11 rfl (lv_at hl 0 rfl) ?_
  exact hret (-2) _ _ _ _ _ _ dX8_high_12 hT hS ⟨rfl, rfl⟩

set_option maxRecDepth 100000 in
set_option maxHeartbeats 4000000 in
theorem k_X8_ask {l : Launch} {D : va_G} {h : Nat → Nat} {cz : Nat → ClassId} {i : Nat → Nat → Int32} {g : Nat → Nat → Int64} (hR : Rg rF i) (a_a : Int32) (a_b : Int32) : CtI l yX8_ask cX8_ask 4 (some .int) ({ frames := 2, cells := 0, slots := 0, locals := 43 } : Room) D h cz i g [.ref (h 0), .int a_a, .int a_b] (fun r u => u = (i, g) ∧ r = (-2)) := by
  refine k_I pn_X8_ask (Nat.le_of_ble_eq_true rfl) ?_
  intro p e s m args below meth c ls Q X hret hT hl hS
  have hx := X.1
  have hb := X.2.1
  have hl : lv_has ls 4 [(0, .ref (h 0)), (1, .int a_a), (2, .int a_b)] := hl
  refine lv_aload_n hx hb dX8_ask_0 rfl (lv_at hl 0 rfl) ?_
  refine lv_iload_n hx hb dX8_ask_1 rfl (lv_at hl 1 rfl) ?_
  refine lv_iload_n hx hb dX8_ask_2 rfl (lv_at hl 2 rfl) ?_
  refine r_Vi (As := [.int a_a, .int a_b]) (rest := []) X hT hS (k_X8_refuseSeenOf hR a_a a_b) mk_X8_refuseSeenOf gm_1048 rfl rfl (by decide) hd_X8_refuseSeenOf ⟨rfl, rfl⟩ ⟨Nat.le_of_ble_eq_true rfl, Nat.le_of_ble_eq_true rfl⟩ hl.1 rfl (Nat.le_of_ble_eq_true rfl) dX8_ask_3 ⟨Nat.zero_le _, Nat.zero_le _⟩ (fun r1 i1 g1 H locs hq hT hS => ?_)
  obtain ⟨eh1, rfl⟩ := hq
  rw [(Prod.mk.inj eh1).1, (Prod.mk.inj eh1).2] at hT
  refine lv_istore_n (lv' := [(3, .int (-2)), (0, .ref (h 0)), (1, .int a_a), (2, .int a_b)]) hx hb dX8_ask_6 rfl hl (by decide) rfl (fun ls hl => ?_)
  refine lv_iload_n hx hb dX8_ask_7 rfl (lv_at hl 0 rfl) ?_
  refine lv_if_eq (tgt := 13) hx hb dX8_ask_8 (by decide) (fun c2 => (x_eq (rg_k (by decide) : rg (-2) (-2) (-2)) (rg_k (by decide) : rg 0 0 0) (i_eq c2) (by decide)).elim) (fun c2 => ?_)
  refine lv_iload_n hx hb dX8_ask_11 rfl (lv_at hl 0 rfl) ?_
  exact hret (-2) _ _ _ _ _ _ dX8_ask_12 hT hS ⟨rfl, rfl⟩

set_option maxRecDepth 100000 in
set_option maxHeartbeats 4000000 in
theorem k_X8_leaves {l : Launch} {D : va_G} {h : Nat → Nat} {cz : Nat → ClassId} {i : Nat → Nat → Int32} {g : Nat → Nat → Int64} (hR : Rg rF i) (a_a : Int32) (a_b : Int32) : CtI l yX8_leaves cX8_leaves 4 (some .int) ({ frames := 2, cells := 0, slots := 0, locals := 43 } : Room) D h cz i g [.ref (h 0), .int a_a, .int a_b] (fun r u => u = (i, g) ∧ r = (-2)) := by
  refine k_I pn_X8_leaves (Nat.le_of_ble_eq_true rfl) ?_
  intro p e s m args below meth c ls Q X hret hT hl hS
  have hx := X.1
  have hb := X.2.1
  have hl : lv_has ls 4 [(0, .ref (h 0)), (1, .int a_a), (2, .int a_b)] := hl
  refine lv_aload_n hx hb dX8_leaves_0 rfl (lv_at hl 0 rfl) ?_
  refine lv_iload_n hx hb dX8_leaves_1 rfl (lv_at hl 1 rfl) ?_
  refine lv_iload_n hx hb dX8_leaves_2 rfl (lv_at hl 2 rfl) ?_
  refine r_Vi (As := [.int a_a, .int a_b]) (rest := []) X hT hS (k_X8_refuseSeenOf hR a_a a_b) mk_X8_refuseSeenOf gm_1048 rfl rfl (by decide) hd_X8_refuseSeenOf ⟨rfl, rfl⟩ ⟨Nat.le_of_ble_eq_true rfl, Nat.le_of_ble_eq_true rfl⟩ hl.1 rfl (Nat.le_of_ble_eq_true rfl) dX8_leaves_3 ⟨Nat.zero_le _, Nat.zero_le _⟩ (fun r1 i1 g1 H locs hq hT hS => ?_)
  obtain ⟨eh1, rfl⟩ := hq
  rw [(Prod.mk.inj eh1).1, (Prod.mk.inj eh1).2] at hT
  refine lv_istore_n (lv' := [(3, .int (-2)), (0, .ref (h 0)), (1, .int a_a), (2, .int a_b)]) hx hb dX8_leaves_6 rfl hl (by decide) rfl (fun ls hl => ?_)
  refine lv_iload_n hx hb dX8_leaves_7 rfl (lv_at hl 0 rfl) ?_
  refine lv_if_eq (tgt := 13) hx hb dX8_leaves_8 (by decide) (fun c2 => (x_eq (rg_k (by decide) : rg (-2) (-2) (-2)) (rg_k (by decide) : rg 0 0 0) (i_eq c2) (by decide)).elim) (fun c2 => ?_)
  refine lv_iload_n hx hb dX8_leaves_11 rfl (lv_at hl 0 rfl) ?_
  exact hret (-2) _ _ _ _ _ _ dX8_leaves_12 hT hS ⟨rfl, rfl⟩

set_option maxRecDepth 100000 in
set_option maxHeartbeats 4000000 in
theorem k_X8_laws {l : Launch} {D : va_G} {h : Nat → Nat} {cz : Nat → ClassId} {i : Nat → Nat → Int32} {g : Nat → Nat → Int64} (hR : Rg rF i) (a_a : Int32) : CtI l yX8_laws cX8_laws 5 (some .int) ({ frames := 1, cells := 0, slots := 0, locals := 20 } : Room) D h cz i g [.ref (h 0), .int a_a] (fun r u => u = (i, g) ∧ r = (-2)) := by
  refine k_I pn_X8_laws (Nat.le_of_ble_eq_true rfl) ?_
  intro p e s m args below meth c ls Q X hret hT hl hS
  have hx := X.1
  have hb := X.2.1
  have hl : lv_has ls 5 [(0, .ref (h 0)), (1, .int a_a)] := hl
  refine lv_aload_n hx hb dX8_laws_0 rfl (lv_at hl 0 rfl) ?_
  refine r_getr X hT 0 3 15 fk_8_32 rfl rfl (by decide) dX8_laws_1 ?_
  refine r_Vi (As := []) (rest := []) X hT hS (k_X6_isTold_15 hR) mk_X6_isTold gm_698 rfl rfl (by decide) hd_X6_isTold ⟨rfl, rfl⟩ ⟨Nat.le_of_ble_eq_true rfl, Nat.le_of_ble_eq_true rfl⟩ hl.1 rfl (Nat.le_of_ble_eq_true rfl) dX8_laws_4 ⟨Nat.zero_le _, Nat.zero_le _⟩ (fun r1 i1 g1 H locs hq hT hS => ?_)
  obtain ⟨eh1, rfl⟩ := hq
  rw [(Prod.mk.inj eh1).1, (Prod.mk.inj eh1).2] at hT
  refine lv_if_eq (tgt := 18) hx hb dX8_laws_7 (by decide) (fun c2 => ?_) (fun c2 => (x_ne (rg_k (by decide) : rg 0 0 0) (rg_k (by decide) : rg 0 0 0) (i_ne c2) (by decide)).elim)
  refine lv_bipush (v := (-2)) hx hb dX8_laws_18 (by decide) ?_
  refine lv_istore_n (lv' := [(2, .int (-2)), (0, .ref (h 0)), (1, .int a_a)]) hx hb dX8_laws_20 rfl hl (by decide) rfl (fun ls hl => ?_)
  refine lv_iload_n hx hb dX8_laws_21 rfl (lv_at hl 0 rfl) ?_
  refine lv_if_eq (tgt := 27) hx hb dX8_laws_22 (by decide) (fun c3 => (x_eq (rg_k (by decide) : rg (-2) (-2) (-2)) (rg_k (by decide) : rg 0 0 0) (i_eq c3) (by decide)).elim) (fun c3 => ?_)
  refine lv_iload_n hx hb dX8_laws_25 rfl (lv_at hl 0 rfl) ?_
  exact hret (-2) _ _ _ _ _ _ dX8_laws_26 hT hS ⟨rfl, rfl⟩

set_option maxRecDepth 100000 in
set_option maxHeartbeats 4000000 in
theorem k_X8_by {l : Launch} {D : va_G} {h : Nat → Nat} {cz : Nat → ClassId} {i : Nat → Nat → Int32} {g : Nat → Nat → Int64} (hR : Rg rF i) (a_a : Int32) : CtI l yX8_by cX8_by 2 (some .int) ({ frames := 1, cells := 0, slots := 0, locals := 20 } : Room) D h cz i g [.ref (h 0), .int a_a] (fun r u => u = (i, g) ∧ r = (-2)) := by
  refine k_I pn_X8_by (Nat.le_of_ble_eq_true rfl) ?_
  intro p e s m args below meth c ls Q X hret hT hl hS
  have hx := X.1
  have hb := X.2.1
  have hl : lv_has ls 2 [(0, .ref (h 0)), (1, .int a_a)] := hl
  refine lv_aload_n hx hb dX8_by_0 rfl (lv_at hl 0 rfl) ?_
  refine r_getr X hT 0 3 15 fk_8_32 rfl rfl (by decide) dX8_by_1 ?_
  refine r_Vi (As := []) (rest := []) X hT hS (k_X6_isTold_15 hR) mk_X6_isTold gm_698 rfl rfl (by decide) hd_X6_isTold ⟨rfl, rfl⟩ ⟨Nat.le_of_ble_eq_true rfl, Nat.le_of_ble_eq_true rfl⟩ hl.1 rfl (Nat.le_of_ble_eq_true rfl) dX8_by_4 ⟨Nat.zero_le _, Nat.zero_le _⟩ (fun r1 i1 g1 H locs hq hT hS => ?_)
  obtain ⟨eh1, rfl⟩ := hq
  rw [(Prod.mk.inj eh1).1, (Prod.mk.inj eh1).2] at hT
  refine lv_if_eq (tgt := 27) hx hb dX8_by_7 (by decide) (fun c2 => ?_) (fun c2 => (x_ne (rg_k (by decide) : rg 0 0 0) (rg_k (by decide) : rg 0 0 0) (i_ne c2) (by decide)).elim)
  refine lv_bipush (v := (-2)) hx hb dX8_by_27 (by decide) ?_
  exact hret (-2) _ _ _ _ _ _ dX8_by_29 hT hS ⟨rfl, rfl⟩

set_option maxRecDepth 100000 in
set_option maxHeartbeats 4000000 in
theorem k_X8_law {l : Launch} {D : va_G} {h : Nat → Nat} {cz : Nat → ClassId} {i : Nat → Nat → Int32} {g : Nat → Nat → Int64} (hR : Rg rF i)  : CtI l yX8_law cX8_law 5 (some .int) ({ frames := 1, cells := 0, slots := 0, locals := 20 } : Room) D h cz i g [.ref (h 0)] (fun r u => u = (i, g) ∧ r = (-2)) := by
  refine k_I pn_X8_law (Nat.le_of_ble_eq_true rfl) ?_
  intro p e s m args below meth c ls Q X hret hT hl hS
  have hx := X.1
  have hb := X.2.1
  have hl : lv_has ls 5 [(0, .ref (h 0))] := hl
  refine lv_aload_n hx hb dX8_law_0 rfl (lv_at hl 0 rfl) ?_
  refine r_getr X hT 0 3 15 fk_8_32 rfl rfl (by decide) dX8_law_1 ?_
  refine r_Vi (As := []) (rest := []) X hT hS (k_X6_isTold_15 hR) mk_X6_isTold gm_698 rfl rfl (by decide) hd_X6_isTold ⟨rfl, rfl⟩ ⟨Nat.le_of_ble_eq_true rfl, Nat.le_of_ble_eq_true rfl⟩ hl.1 rfl (Nat.le_of_ble_eq_true rfl) dX8_law_4 ⟨Nat.zero_le _, Nat.zero_le _⟩ (fun r1 i1 g1 H locs hq hT hS => ?_)
  obtain ⟨eh1, rfl⟩ := hq
  rw [(Prod.mk.inj eh1).1, (Prod.mk.inj eh1).2] at hT
  refine lv_if_ne (tgt := 13) hx hb dX8_law_7 (by decide) (fun c2 => (x_ne (rg_k (by decide) : rg 0 0 0) (rg_k (by decide) : rg 0 0 0) (i_ne c2) (by decide)).elim) (fun c2 => ?_)
  refine lv_bipush (v := (-2)) hx hb dX8_law_10 (by decide) ?_
  exact hret (-2) _ _ _ _ _ _ dX8_law_12 hT hS ⟨rfl, rfl⟩

set_option maxRecDepth 100000 in
set_option maxHeartbeats 4000000 in
theorem k_X8_blunt {l : Launch} {D : va_G} {h : Nat → Nat} {cz : Nat → ClassId} {i : Nat → Nat → Int32} {g : Nat → Nat → Int64} (hR : Rg rF i)  : CtI l yX8_blunt cX8_blunt 5 (some .int) ({ frames := 1, cells := 0, slots := 0, locals := 20 } : Room) D h cz i g [.ref (h 0)] (fun r u => u = (i, g) ∧ r = (-2)) := by
  refine k_I pn_X8_blunt (Nat.le_of_ble_eq_true rfl) ?_
  intro p e s m args below meth c ls Q X hret hT hl hS
  have hx := X.1
  have hb := X.2.1
  have hl : lv_has ls 5 [(0, .ref (h 0))] := hl
  refine lv_aload_n hx hb dX8_blunt_0 rfl (lv_at hl 0 rfl) ?_
  refine r_getr X hT 0 3 15 fk_8_32 rfl rfl (by decide) dX8_blunt_1 ?_
  refine r_Vi (As := []) (rest := []) X hT hS (k_X6_isTold_15 hR) mk_X6_isTold gm_698 rfl rfl (by decide) hd_X6_isTold ⟨rfl, rfl⟩ ⟨Nat.le_of_ble_eq_true rfl, Nat.le_of_ble_eq_true rfl⟩ hl.1 rfl (Nat.le_of_ble_eq_true rfl) dX8_blunt_4 ⟨Nat.zero_le _, Nat.zero_le _⟩ (fun r1 i1 g1 H locs hq hT hS => ?_)
  obtain ⟨eh1, rfl⟩ := hq
  rw [(Prod.mk.inj eh1).1, (Prod.mk.inj eh1).2] at hT
  refine lv_if_ne (tgt := 13) hx hb dX8_blunt_7 (by decide) (fun c2 => (x_ne (rg_k (by decide) : rg 0 0 0) (rg_k (by decide) : rg 0 0 0) (i_ne c2) (by decide)).elim) (fun c2 => ?_)
  refine lv_bipush (v := (-2)) hx hb dX8_blunt_10 (by decide) ?_
  exact hret (-2) _ _ _ _ _ _ dX8_blunt_12 hT hS ⟨rfl, rfl⟩

set_option maxRecDepth 100000 in
set_option maxHeartbeats 4000000 in
theorem k_X8_slit {l : Launch} {D : va_G} {h : Nat → Nat} {cz : Nat → ClassId} {i : Nat → Nat → Int32} {g : Nat → Nat → Int64} (hR : Rg rF i)  : CtI l yX8_slit cX8_slit 5 (some .int) ({ frames := 1, cells := 0, slots := 0, locals := 20 } : Room) D h cz i g [.ref (h 0)] (fun r u => u = (i, g) ∧ r = (-2)) := by
  refine k_I pn_X8_slit (Nat.le_of_ble_eq_true rfl) ?_
  intro p e s m args below meth c ls Q X hret hT hl hS
  have hx := X.1
  have hb := X.2.1
  have hl : lv_has ls 5 [(0, .ref (h 0))] := hl
  refine lv_aload_n hx hb dX8_slit_0 rfl (lv_at hl 0 rfl) ?_
  refine r_getr X hT 0 3 15 fk_8_32 rfl rfl (by decide) dX8_slit_1 ?_
  refine r_Vi (As := []) (rest := []) X hT hS (k_X6_isTold_15 hR) mk_X6_isTold gm_698 rfl rfl (by decide) hd_X6_isTold ⟨rfl, rfl⟩ ⟨Nat.le_of_ble_eq_true rfl, Nat.le_of_ble_eq_true rfl⟩ hl.1 rfl (Nat.le_of_ble_eq_true rfl) dX8_slit_4 ⟨Nat.zero_le _, Nat.zero_le _⟩ (fun r1 i1 g1 H locs hq hT hS => ?_)
  obtain ⟨eh1, rfl⟩ := hq
  rw [(Prod.mk.inj eh1).1, (Prod.mk.inj eh1).2] at hT
  refine lv_if_ne (tgt := 13) hx hb dX8_slit_7 (by decide) (fun c2 => (x_ne (rg_k (by decide) : rg 0 0 0) (rg_k (by decide) : rg 0 0 0) (i_ne c2) (by decide)).elim) (fun c2 => ?_)
  refine lv_bipush (v := (-2)) hx hb dX8_slit_10 (by decide) ?_
  exact hret (-2) _ _ _ _ _ _ dX8_slit_12 hT hS ⟨rfl, rfl⟩

set_option maxRecDepth 100000 in
set_option maxHeartbeats 4000000 in
theorem k_X8_uncle {l : Launch} {D : va_G} {h : Nat → Nat} {cz : Nat → ClassId} {i : Nat → Nat → Int32} {g : Nat → Nat → Int64} (hR : Rg rF i)  : CtI l yX8_uncle cX8_uncle 3 (some .int) ({ frames := 0, cells := 0, slots := 0, locals := 0 } : Room) D h cz i g [.ref (h 0)] (fun r u => u = (i, g) ∧ r = (-1000)) := by
  refine k_I pn_X8_uncle (Nat.le_of_ble_eq_true rfl) ?_
  intro p e s m args below meth c ls Q X hret hT hl hS
  have hx := X.1
  have hb := X.2.1
  have hl : lv_has ls 3 [(0, .ref (h 0))] := hl
  refine lv_aload_n hx hb dX8_uncle_0 rfl (lv_at hl 0 rfl) ?_
  refine r_getr X hT 0 3 15 fk_8_32 rfl rfl (by decide) dX8_uncle_1 ?_
  refine r_geti X hT 15 13 fk_8_156 rfl rfl (by decide) dX8_uncle_4 ?_
  refine lv_if_ne (tgt := 14) hx hb dX8_uncle_7 (by decide) (fun c1 => (x_ne (Rg_at hR 15 13 0 0 (by decide) rfl) (rg_k (by decide) : rg 0 0 0) (i_ne c1) (by decide)).elim) (fun c1 => ?_)
  have q1 : (i 15 13).toInt = 0 := i_eq c1
  refine lv_sipush (v := (-1000)) hx hb dX8_uncle_10 (by decide) ?_
  exact hret (-1000) _ _ _ _ _ _ dX8_uncle_13 hT hS ⟨rfl, rfl⟩

set_option maxRecDepth 100000 in
set_option maxHeartbeats 4000000 in
theorem k_X8_opens {l : Launch} {D : va_G} {h : Nat → Nat} {cz : Nat → ClassId} {i : Nat → Nat → Int32} {g : Nat → Nat → Int64} (hR : Rg rF i)  : CtI l yX8_opens cX8_opens 5 (some .int) ({ frames := 1, cells := 0, slots := 0, locals := 20 } : Room) D h cz i g [.ref (h 0)] (fun r u => u = (i, g) ∧ r = (-2)) := by
  refine k_I pn_X8_opens (Nat.le_of_ble_eq_true rfl) ?_
  intro p e s m args below meth c ls Q X hret hT hl hS
  have hx := X.1
  have hb := X.2.1
  have hl : lv_has ls 5 [(0, .ref (h 0))] := hl
  refine lv_aload_n hx hb dX8_opens_0 rfl (lv_at hl 0 rfl) ?_
  refine r_getr X hT 0 3 15 fk_8_32 rfl rfl (by decide) dX8_opens_1 ?_
  refine r_Vi (As := []) (rest := []) X hT hS (k_X6_isTold_15 hR) mk_X6_isTold gm_698 rfl rfl (by decide) hd_X6_isTold ⟨rfl, rfl⟩ ⟨Nat.le_of_ble_eq_true rfl, Nat.le_of_ble_eq_true rfl⟩ hl.1 rfl (Nat.le_of_ble_eq_true rfl) dX8_opens_4 ⟨Nat.zero_le _, Nat.zero_le _⟩ (fun r1 i1 g1 H locs hq hT hS => ?_)
  obtain ⟨eh1, rfl⟩ := hq
  rw [(Prod.mk.inj eh1).1, (Prod.mk.inj eh1).2] at hT
  refine lv_if_ne (tgt := 13) hx hb dX8_opens_7 (by decide) (fun c2 => (x_ne (rg_k (by decide) : rg 0 0 0) (rg_k (by decide) : rg 0 0 0) (i_ne c2) (by decide)).elim) (fun c2 => ?_)
  refine lv_bipush (v := (-2)) hx hb dX8_opens_10 (by decide) ?_
  exact hret (-2) _ _ _ _ _ _ dX8_opens_12 hT hS ⟨rfl, rfl⟩

set_option maxRecDepth 100000 in
set_option maxHeartbeats 4000000 in
theorem k_X8_replies {l : Launch} {D : va_G} {h : Nat → Nat} {cz : Nat → ClassId} {i : Nat → Nat → Int32} {g : Nat → Nat → Int64} (hR : Rg rF i) (a_a : Int32) : CtI l yX8_replies cX8_replies 2 (some .int) ({ frames := 1, cells := 0, slots := 0, locals := 21 } : Room) D h cz i g [.ref (h 0), .int a_a] (fun r u => u = (i, g) ∧ r = (-2)) := by
  refine k_I pn_X8_replies (Nat.le_of_ble_eq_true rfl) ?_
  intro p e s m args below meth c ls Q X hret hT hl hS
  have hx := X.1
  have hb := X.2.1
  have hl : lv_has ls 2 [(0, .ref (h 0)), (1, .int a_a)] := hl
  refine lv_aload_n hx hb dX8_replies_0 rfl (lv_at hl 0 rfl) ?_
  refine r_getr X hT 0 3 15 fk_8_32 rfl rfl (by decide) dX8_replies_1 ?_
  refine lv_iload_n hx hb dX8_replies_4 rfl (lv_at hl 1 rfl) ?_
  refine r_Vi (As := [.int a_a]) (rest := []) X hT hS (k_X6_hasPart_15 hR a_a) mk_X6_hasPart gm_669 rfl rfl (by decide) hd_X6_hasPart ⟨rfl, rfl⟩ ⟨Nat.le_of_ble_eq_true rfl, Nat.le_of_ble_eq_true rfl⟩ hl.1 rfl (Nat.le_of_ble_eq_true rfl) dX8_replies_5 ⟨Nat.zero_le _, Nat.zero_le _⟩ (fun r1 i1 g1 H locs hq hT hS => ?_)
  obtain ⟨eh1, rfl⟩ := hq
  rw [(Prod.mk.inj eh1).1, (Prod.mk.inj eh1).2] at hT
  refine lv_if_ne (tgt := 14) hx hb dX8_replies_8 (by decide) (fun c2 => (x_ne (rg_k (by decide) : rg 0 0 0) (rg_k (by decide) : rg 0 0 0) (i_ne c2) (by decide)).elim) (fun c2 => ?_)
  refine lv_bipush (v := (-2)) hx hb dX8_replies_11 (by decide) ?_
  exact hret (-2) _ _ _ _ _ _ dX8_replies_13 hT hS ⟨rfl, rfl⟩

set_option maxRecDepth 100000 in
set_option maxHeartbeats 4000000 in
theorem k_X8_isPair {l : Launch} {D : va_G} {h : Nat → Nat} {cz : Nat → ClassId} {i : Nat → Nat → Int32} {g : Nat → Nat → Int64} (hR : Rg rF i) (a_a : Int32) (a_b : Int32) : CtI l yX8_isPair cX8_isPair 3 (some .boolean) ({ frames := 1, cells := 0, slots := 0, locals := 21 } : Room) D h cz i g [.ref (h 0), .int a_a, .int a_b] (fun r u => u = (i, g) ∧ r = 0) := by
  refine k_Z (by intro v u hq; obtain ⟨-, hq⟩ := hq; exact Or.inl hq) pn_X8_isPair (Nat.le_of_ble_eq_true rfl) ?_
  intro p e s m args below meth c ls Q X hret hT hl hS
  have hx := X.1
  have hb := X.2.1
  have hl : lv_has ls 3 [(0, .ref (h 0)), (1, .int a_a), (2, .int a_b)] := hl
  refine lv_aload_n hx hb dX8_isPair_0 rfl (lv_at hl 0 rfl) ?_
  refine r_getr X hT 0 3 15 fk_8_32 rfl rfl (by decide) dX8_isPair_1 ?_
  refine lv_iload_n hx hb dX8_isPair_4 rfl (lv_at hl 1 rfl) ?_
  refine r_Vi (As := [.int a_a]) (rest := []) X hT hS (k_X6_hasPart_15 hR a_a) mk_X6_hasPart gm_669 rfl rfl (by decide) hd_X6_hasPart ⟨rfl, rfl⟩ ⟨Nat.le_of_ble_eq_true rfl, Nat.le_of_ble_eq_true rfl⟩ hl.1 rfl (Nat.le_of_ble_eq_true rfl) dX8_isPair_5 ⟨Nat.zero_le _, Nat.zero_le _⟩ (fun r1 i1 g1 H locs hq hT hS => ?_)
  obtain ⟨eh1, rfl⟩ := hq
  rw [(Prod.mk.inj eh1).1, (Prod.mk.inj eh1).2] at hT
  refine lv_if_eq (tgt := 31) hx hb dX8_isPair_8 (by decide) (fun c2 => ?_) (fun c2 => (x_ne (rg_k (by decide) : rg 0 0 0) (rg_k (by decide) : rg 0 0 0) (i_ne c2) (by decide)).elim)
  refine lv_iconst (v := 0) hx hb dX8_isPair_31 (by decide) ?_
  exact hret 0 _ _ _ _ _ _ dX8_isPair_32 hT hS ⟨rfl, rfl⟩

set_option maxRecDepth 100000 in
set_option maxHeartbeats 4000000 in
theorem k_X8_rests {l : Launch} {D : va_G} {h : Nat → Nat} {cz : Nat → ClassId} {i : Nat → Nat → Int32} {g : Nat → Nat → Int64} (hR : Rg rF i) (a_a : Int32) (a_b : Int32) : CtI l yX8_rests cX8_rests 8 (some .int) ({ frames := 2, cells := 0, slots := 0, locals := 43 } : Room) D h cz i g [.ref (h 0), .int a_a, .int a_b] (fun r u => u = (i, g) ∧ r = (-2)) := by
  refine k_I pn_X8_rests (Nat.le_of_ble_eq_true rfl) ?_
  intro p e s m args below meth c ls Q X hret hT hl hS
  have hx := X.1
  have hb := X.2.1
  have hl : lv_has ls 8 [(0, .ref (h 0)), (1, .int a_a), (2, .int a_b)] := hl
  refine lv_aload_n hx hb dX8_rests_0 rfl (lv_at hl 0 rfl) ?_
  refine lv_iload_n hx hb dX8_rests_1 rfl (lv_at hl 1 rfl) ?_
  refine lv_iload_n hx hb dX8_rests_2 rfl (lv_at hl 2 rfl) ?_
  refine r_Vi (As := [.int a_a, .int a_b]) (rest := []) X hT hS (k_X8_isPair hR a_a a_b) mk_X8_isPair gm_1180 rfl rfl (by decide) hd_X8_isPair ⟨rfl, rfl⟩ ⟨Nat.le_of_ble_eq_true rfl, Nat.le_of_ble_eq_true rfl⟩ hl.1 rfl (Nat.le_of_ble_eq_true rfl) dX8_rests_3 ⟨Nat.zero_le _, Nat.zero_le _⟩ (fun r1 i1 g1 H locs hq hT hS => ?_)
  obtain ⟨eh1, rfl⟩ := hq
  rw [(Prod.mk.inj eh1).1, (Prod.mk.inj eh1).2] at hT
  refine lv_if_ne (tgt := 12) hx hb dX8_rests_6 (by decide) (fun c2 => (x_ne (rg_k (by decide) : rg 0 0 0) (rg_k (by decide) : rg 0 0 0) (i_ne c2) (by decide)).elim) (fun c2 => ?_)
  refine lv_bipush (v := (-2)) hx hb dX8_rests_9 (by decide) ?_
  exact hret (-2) _ _ _ _ _ _ dX8_rests_11 hT hS ⟨rfl, rfl⟩

set_option maxRecDepth 100000 in
set_option maxHeartbeats 4000000 in
theorem k_X8_gets {l : Launch} {D : va_G} {h : Nat → Nat} {cz : Nat → ClassId} {i : Nat → Nat → Int32} {g : Nat → Nat → Int64} (hR : Rg rF i) (a_a : Int32) (a_b : Int32) (a_c : Int32) (a_d : Int32) : CtI l yX8_gets cX8_gets 5 (some .int) ({ frames := 2, cells := 0, slots := 0, locals := 43 } : Room) D h cz i g [.ref (h 0), .int a_a, .int a_b, .int a_c, .int a_d] (fun r u => u = (i, g) ∧ r = (-1000)) := by
  refine k_I pn_X8_gets (Nat.le_of_ble_eq_true rfl) ?_
  intro p e s m args below meth c ls Q X hret hT hl hS
  have hx := X.1
  have hb := X.2.1
  have hl : lv_has ls 5 [(0, .ref (h 0)), (1, .int a_a), (2, .int a_b), (3, .int a_c), (4, .int a_d)] := hl
  refine lv_aload_n hx hb dX8_gets_0 rfl (lv_at hl 0 rfl) ?_
  refine lv_iload_n hx hb dX8_gets_1 rfl (lv_at hl 1 rfl) ?_
  refine lv_iload_n hx hb dX8_gets_2 rfl (lv_at hl 2 rfl) ?_
  refine r_Vi (As := [.int a_a, .int a_b]) (rest := []) X hT hS (k_X8_isPair hR a_a a_b) mk_X8_isPair gm_1180 rfl rfl (by decide) hd_X8_isPair ⟨rfl, rfl⟩ ⟨Nat.le_of_ble_eq_true rfl, Nat.le_of_ble_eq_true rfl⟩ hl.1 rfl (Nat.le_of_ble_eq_true rfl) dX8_gets_3 ⟨Nat.zero_le _, Nat.zero_le _⟩ (fun r1 i1 g1 H locs hq hT hS => ?_)
  obtain ⟨eh1, rfl⟩ := hq
  rw [(Prod.mk.inj eh1).1, (Prod.mk.inj eh1).2] at hT
  refine lv_if_eq (tgt := 24) hx hb dX8_gets_6 (by decide) (fun c2 => ?_) (fun c2 => (x_ne (rg_k (by decide) : rg 0 0 0) (rg_k (by decide) : rg 0 0 0) (i_ne c2) (by decide)).elim)
  refine lv_sipush (v := (-1000)) hx hb dX8_gets_24 (by decide) ?_
  exact hret (-1000) _ _ _ _ _ _ dX8_gets_27 hT hS ⟨rfl, rfl⟩

set_option maxRecDepth 100000 in
set_option maxHeartbeats 4000000 in
theorem k_X8_chance {l : Launch} {D : va_G} {h : Nat → Nat} {cz : Nat → ClassId} {i : Nat → Nat → Int32} {g : Nat → Nat → Int64} (hR : Rg rF i) (a_a : Int32) (a_b : Int32) : CtI l yX8_chance cX8_chance 3 (some .int) ({ frames := 1, cells := 0, slots := 0, locals := 21 } : Room) D h cz i g [.ref (h 0), .int a_a, .int a_b] (fun r u => u = (i, g) ∧ r = (-2)) := by
  refine k_I pn_X8_chance (Nat.le_of_ble_eq_true rfl) ?_
  intro p e s m args below meth c ls Q X hret hT hl hS
  have hx := X.1
  have hb := X.2.1
  have hl : lv_has ls 3 [(0, .ref (h 0)), (1, .int a_a), (2, .int a_b)] := hl
  refine lv_aload_n hx hb dX8_chance_0 rfl (lv_at hl 0 rfl) ?_
  refine r_getr X hT 0 3 15 fk_8_32 rfl rfl (by decide) dX8_chance_1 ?_
  refine lv_iload_n hx hb dX8_chance_4 rfl (lv_at hl 1 rfl) ?_
  refine r_Vi (As := [.int a_a]) (rest := []) X hT hS (k_X6_hasPart_15 hR a_a) mk_X6_hasPart gm_669 rfl rfl (by decide) hd_X6_hasPart ⟨rfl, rfl⟩ ⟨Nat.le_of_ble_eq_true rfl, Nat.le_of_ble_eq_true rfl⟩ hl.1 rfl (Nat.le_of_ble_eq_true rfl) dX8_chance_5 ⟨Nat.zero_le _, Nat.zero_le _⟩ (fun r1 i1 g1 H locs hq hT hS => ?_)
  obtain ⟨eh1, rfl⟩ := hq
  rw [(Prod.mk.inj eh1).1, (Prod.mk.inj eh1).2] at hT
  refine lv_if_eq (tgt := 18) hx hb dX8_chance_8 (by decide) (fun c2 => ?_) (fun c2 => (x_ne (rg_k (by decide) : rg 0 0 0) (rg_k (by decide) : rg 0 0 0) (i_ne c2) (by decide)).elim)
  refine lv_bipush (v := (-2)) hx hb dX8_chance_18 (by decide) ?_
  exact hret (-2) _ _ _ _ _ _ dX8_chance_20 hT hS ⟨rfl, rfl⟩

set_option maxRecDepth 100000 in
set_option maxHeartbeats 4000000 in
theorem k_X8_mean {l : Launch} {D : va_G} {h : Nat → Nat} {cz : Nat → ClassId} {i : Nat → Nat → Int32} {g : Nat → Nat → Int64} (hR : Rg rF i) (a_a : Int32) : CtL l yX8_mean cX8_mean 2 (some .long) ({ frames := 1, cells := 0, slots := 0, locals := 20 } : Room) D h cz i g [.ref (h 0), .int a_a] (fun r u => u = (i, g) ∧ r = (-2)) := by
  refine k_L pn_X8_mean (Nat.le_of_ble_eq_true rfl) ?_
  intro p e s m args below meth c ls Q X hret hT hl hS
  have hx := X.1
  have hb := X.2.1
  have hl : lv_has ls 2 [(0, .ref (h 0)), (1, .int a_a)] := hl
  refine lv_aload_n hx hb dX8_mean_0 rfl (lv_at hl 0 rfl) ?_
  refine r_getr X hT 0 3 15 fk_8_32 rfl rfl (by decide) dX8_mean_1 ?_
  refine r_Vi (As := []) (rest := []) X hT hS (k_X6_isTold_15 hR) mk_X6_isTold gm_698 rfl rfl (by decide) hd_X6_isTold ⟨rfl, rfl⟩ ⟨Nat.le_of_ble_eq_true rfl, Nat.le_of_ble_eq_true rfl⟩ hl.1 rfl (Nat.le_of_ble_eq_true rfl) dX8_mean_4 ⟨Nat.zero_le _, Nat.zero_le _⟩ (fun r1 i1 g1 H locs hq hT hS => ?_)
  obtain ⟨eh1, rfl⟩ := hq
  rw [(Prod.mk.inj eh1).1, (Prod.mk.inj eh1).2] at hT
  refine lv_if_eq (tgt := 17) hx hb dX8_mean_7 (by decide) (fun c2 => ?_) (fun c2 => (x_ne (rg_k (by decide) : rg 0 0 0) (rg_k (by decide) : rg 0 0 0) (i_ne c2) (by decide)).elim)
  refine lv_ldc2 (v := (-2)) hx hb X.2.2.2.1 (X.2.2.2.2.1 _ gm_1228) dX8_mean_17 ?_
  exact hret (-2) _ _ _ _ _ _ dX8_mean_20 hT hS ⟨rfl, rfl⟩

set_option maxRecDepth 100000 in
set_option maxHeartbeats 4000000 in
theorem k_X8_refuseAct {l : Launch} {D : va_G} {h : Nat → Nat} {cz : Nat → ClassId} {i : Nat → Nat → Int32} {g : Nat → Nat → Int64} (hR : Rg rF i) (a_a : Int32) (a_b : Int32) : CtI l yX8_refuseAct cX8_refuseAct 3 (some .int) ({ frames := 1, cells := 0, slots := 0, locals := 21 } : Room) D h cz i g [.ref (h 0), .int a_a, .int a_b] (fun r u => u = (i, g) ∧ r = (-2)) := by
  refine k_I pn_X8_refuseAct (Nat.le_of_ble_eq_true rfl) ?_
  intro p e s m args below meth c ls Q X hret hT hl hS
  have hx := X.1
  have hb := X.2.1
  have hl : lv_has ls 3 [(0, .ref (h 0)), (1, .int a_a), (2, .int a_b)] := hl
  refine lv_aload_n hx hb dX8_refuseAct_0 rfl (lv_at hl 0 rfl) ?_
  refine r_getr X hT 0 3 15 fk_8_32 rfl rfl (by decide) dX8_refuseAct_1 ?_
  refine lv_iload_n hx hb dX8_refuseAct_4 rfl (lv_at hl 1 rfl) ?_
  refine r_Vi (As := [.int a_a]) (rest := []) X hT hS (k_X6_hasPart_15 hR a_a) mk_X6_hasPart gm_669 rfl rfl (by decide) hd_X6_hasPart ⟨rfl, rfl⟩ ⟨Nat.le_of_ble_eq_true rfl, Nat.le_of_ble_eq_true rfl⟩ hl.1 rfl (Nat.le_of_ble_eq_true rfl) dX8_refuseAct_5 ⟨Nat.zero_le _, Nat.zero_le _⟩ (fun r1 i1 g1 H locs hq hT hS => ?_)
  obtain ⟨eh1, rfl⟩ := hq
  rw [(Prod.mk.inj eh1).1, (Prod.mk.inj eh1).2] at hT
  refine lv_if_eq (tgt := 22) hx hb dX8_refuseAct_8 (by decide) (fun c2 => ?_) (fun c2 => (x_ne (rg_k (by decide) : rg 0 0 0) (rg_k (by decide) : rg 0 0 0) (i_ne c2) (by decide)).elim)
  refine lv_bipush (v := (-2)) hx hb dX8_refuseAct_22 (by decide) ?_
  exact hret (-2) _ _ _ _ _ _ dX8_refuseAct_24 hT hS ⟨rfl, rfl⟩

set_option maxRecDepth 100000 in
set_option maxHeartbeats 4000000 in
theorem k_X8_knife {l : Launch} {D : va_G} {h : Nat → Nat} {cz : Nat → ClassId} {i : Nat → Nat → Int32} {g : Nat → Nat → Int64} (hR : Rg rF i) (a_a : Int32) (a_b : Int32) : CtI l yX8_knife cX8_knife 4 (some .int) ({ frames := 2, cells := 0, slots := 0, locals := 43 } : Room) D h cz i g [.ref (h 0), .int a_a, .int a_b] (fun r u => u = (i, g) ∧ r = (-2)) := by
  refine k_I pn_X8_knife (Nat.le_of_ble_eq_true rfl) ?_
  intro p e s m args below meth c ls Q X hret hT hl hS
  have hx := X.1
  have hb := X.2.1
  have hl : lv_has ls 4 [(0, .ref (h 0)), (1, .int a_a), (2, .int a_b)] := hl
  refine lv_aload_n hx hb dX8_knife_0 rfl (lv_at hl 0 rfl) ?_
  refine lv_iload_n hx hb dX8_knife_1 rfl (lv_at hl 1 rfl) ?_
  refine lv_iload_n hx hb dX8_knife_2 rfl (lv_at hl 2 rfl) ?_
  refine r_Vi (As := [.int a_a, .int a_b]) (rest := []) X hT hS (k_X8_refuseAct hR a_a a_b) mk_X8_refuseAct gm_1254 rfl rfl (by decide) hd_X8_refuseAct ⟨rfl, rfl⟩ ⟨Nat.le_of_ble_eq_true rfl, Nat.le_of_ble_eq_true rfl⟩ hl.1 rfl (Nat.le_of_ble_eq_true rfl) dX8_knife_3 ⟨Nat.zero_le _, Nat.zero_le _⟩ (fun r1 i1 g1 H locs hq hT hS => ?_)
  obtain ⟨eh1, rfl⟩ := hq
  rw [(Prod.mk.inj eh1).1, (Prod.mk.inj eh1).2] at hT
  refine lv_istore_n (lv' := [(3, .int (-2)), (0, .ref (h 0)), (1, .int a_a), (2, .int a_b)]) hx hb dX8_knife_6 rfl hl (by decide) rfl (fun ls hl => ?_)
  refine lv_iload_n hx hb dX8_knife_7 rfl (lv_at hl 0 rfl) ?_
  refine lv_if_eq (tgt := 13) hx hb dX8_knife_8 (by decide) (fun c2 => (x_eq (rg_k (by decide) : rg (-2) (-2) (-2)) (rg_k (by decide) : rg 0 0 0) (i_eq c2) (by decide)).elim) (fun c2 => ?_)
  refine lv_iload_n hx hb dX8_knife_11 rfl (lv_at hl 0 rfl) ?_
  exact hret (-2) _ _ _ _ _ _ dX8_knife_12 hT hS ⟨rfl, rfl⟩

set_option maxRecDepth 100000 in
set_option maxHeartbeats 4000000 in
theorem k_X8_air {l : Launch} {D : va_G} {h : Nat → Nat} {cz : Nat → ClassId} {i : Nat → Nat → Int32} {g : Nat → Nat → Int64} (hR : Rg rF i) (a_a : Int32) (a_b : Int32) : CtI l yX8_air cX8_air 4 (some .int) ({ frames := 2, cells := 0, slots := 0, locals := 43 } : Room) D h cz i g [.ref (h 0), .int a_a, .int a_b] (fun r u => u = (i, g) ∧ r = (-2)) := by
  refine k_I pn_X8_air (Nat.le_of_ble_eq_true rfl) ?_
  intro p e s m args below meth c ls Q X hret hT hl hS
  have hx := X.1
  have hb := X.2.1
  have hl : lv_has ls 4 [(0, .ref (h 0)), (1, .int a_a), (2, .int a_b)] := hl
  refine lv_aload_n hx hb dX8_air_0 rfl (lv_at hl 0 rfl) ?_
  refine lv_iload_n hx hb dX8_air_1 rfl (lv_at hl 1 rfl) ?_
  refine lv_iload_n hx hb dX8_air_2 rfl (lv_at hl 2 rfl) ?_
  refine r_Vi (As := [.int a_a, .int a_b]) (rest := []) X hT hS (k_X8_refuseAct hR a_a a_b) mk_X8_refuseAct gm_1254 rfl rfl (by decide) hd_X8_refuseAct ⟨rfl, rfl⟩ ⟨Nat.le_of_ble_eq_true rfl, Nat.le_of_ble_eq_true rfl⟩ hl.1 rfl (Nat.le_of_ble_eq_true rfl) dX8_air_3 ⟨Nat.zero_le _, Nat.zero_le _⟩ (fun r1 i1 g1 H locs hq hT hS => ?_)
  obtain ⟨eh1, rfl⟩ := hq
  rw [(Prod.mk.inj eh1).1, (Prod.mk.inj eh1).2] at hT
  refine lv_istore_n (lv' := [(3, .int (-2)), (0, .ref (h 0)), (1, .int a_a), (2, .int a_b)]) hx hb dX8_air_6 rfl hl (by decide) rfl (fun ls hl => ?_)
  refine lv_iload_n hx hb dX8_air_7 rfl (lv_at hl 0 rfl) ?_
  refine lv_if_eq (tgt := 13) hx hb dX8_air_8 (by decide) (fun c2 => (x_eq (rg_k (by decide) : rg (-2) (-2) (-2)) (rg_k (by decide) : rg 0 0 0) (i_eq c2) (by decide)).elim) (fun c2 => ?_)
  refine lv_iload_n hx hb dX8_air_11 rfl (lv_at hl 0 rfl) ?_
  exact hret (-2) _ _ _ _ _ _ dX8_air_12 hT hS ⟨rfl, rfl⟩

set_option maxRecDepth 100000 in
set_option maxHeartbeats 4000000 in
theorem k_X8_undo {l : Launch} {D : va_G} {h : Nat → Nat} {cz : Nat → ClassId} {i : Nat → Nat → Int32} {g : Nat → Nat → Int64} (hR : Rg rF i)  : CtI l yX8_undo cX8_undo 1 (some .int) ({ frames := 1, cells := 0, slots := 0, locals := 20 } : Room) D h cz i g [.ref (h 0)] (fun r u => u = (i, g) ∧ r = (-2)) := by
  refine k_I pn_X8_undo (Nat.le_of_ble_eq_true rfl) ?_
  intro p e s m args below meth c ls Q X hret hT hl hS
  have hx := X.1
  have hb := X.2.1
  have hl : lv_has ls 1 [(0, .ref (h 0))] := hl
  refine lv_aload_n hx hb dX8_undo_0 rfl (lv_at hl 0 rfl) ?_
  refine r_getr X hT 0 3 15 fk_8_32 rfl rfl (by decide) dX8_undo_1 ?_
  refine r_Vi (As := []) (rest := []) X hT hS (k_X6_isTold_15 hR) mk_X6_isTold gm_698 rfl rfl (by decide) hd_X6_isTold ⟨rfl, rfl⟩ ⟨Nat.le_of_ble_eq_true rfl, Nat.le_of_ble_eq_true rfl⟩ hl.1 rfl (Nat.le_of_ble_eq_true rfl) dX8_undo_4 ⟨Nat.zero_le _, Nat.zero_le _⟩ (fun r1 i1 g1 H locs hq hT hS => ?_)
  obtain ⟨eh1, rfl⟩ := hq
  rw [(Prod.mk.inj eh1).1, (Prod.mk.inj eh1).2] at hT
  refine lv_if_ne (tgt := 13) hx hb dX8_undo_7 (by decide) (fun c2 => (x_ne (rg_k (by decide) : rg 0 0 0) (rg_k (by decide) : rg 0 0 0) (i_ne c2) (by decide)).elim) (fun c2 => ?_)
  refine lv_bipush (v := (-2)) hx hb dX8_undo_10 (by decide) ?_
  exact hret (-2) _ _ _ _ _ _ dX8_undo_12 hT hS ⟨rfl, rfl⟩

set_option maxRecDepth 100000 in
set_option maxHeartbeats 4000000 in
theorem k_X8_anew {l : Launch} {D : va_G} {h : Nat → Nat} {cz : Nat → ClassId} {i : Nat → Nat → Int32} {g : Nat → Nat → Int64} (hR : Rg rF i)  : CtI l yX8_anew cX8_anew 2 (some .int) ({ frames := 1, cells := 0, slots := 0, locals := 20 } : Room) D h cz i g [.ref (h 0)] (fun r u => u = (i, g) ∧ r = (-2)) := by
  refine k_I pn_X8_anew (Nat.le_of_ble_eq_true rfl) ?_
  intro p e s m args below meth c ls Q X hret hT hl hS
  have hx := X.1
  have hb := X.2.1
  have hl : lv_has ls 2 [(0, .ref (h 0))] := hl
  refine lv_aload_n hx hb dX8_anew_0 rfl (lv_at hl 0 rfl) ?_
  refine r_getr X hT 0 3 15 fk_8_32 rfl rfl (by decide) dX8_anew_1 ?_
  refine r_Vi (As := []) (rest := []) X hT hS (k_X6_isTold_15 hR) mk_X6_isTold gm_698 rfl rfl (by decide) hd_X6_isTold ⟨rfl, rfl⟩ ⟨Nat.le_of_ble_eq_true rfl, Nat.le_of_ble_eq_true rfl⟩ hl.1 rfl (Nat.le_of_ble_eq_true rfl) dX8_anew_4 ⟨Nat.zero_le _, Nat.zero_le _⟩ (fun r1 i1 g1 H locs hq hT hS => ?_)
  obtain ⟨eh1, rfl⟩ := hq
  rw [(Prod.mk.inj eh1).1, (Prod.mk.inj eh1).2] at hT
  refine lv_if_ne (tgt := 13) hx hb dX8_anew_7 (by decide) (fun c2 => (x_ne (rg_k (by decide) : rg 0 0 0) (rg_k (by decide) : rg 0 0 0) (i_ne c2) (by decide)).elim) (fun c2 => ?_)
  refine lv_bipush (v := (-2)) hx hb dX8_anew_10 (by decide) ?_
  exact hret (-2) _ _ _ _ _ _ dX8_anew_12 hT hS ⟨rfl, rfl⟩

set_option maxRecDepth 100000 in
set_option maxHeartbeats 4000000 in
theorem k_X8_drawn {l : Launch} {D : va_G} {h : Nat → Nat} {cz : Nat → ClassId} {i : Nat → Nat → Int32} {g : Nat → Nat → Int64} (hR : Rg rF i) (a_a : Int32) (a_b : Int32) : CtI l yX8_drawn cX8_drawn 4 (some .int) ({ frames := 1, cells := 0, slots := 0, locals := 20 } : Room) D h cz i g [.ref (h 0), .int a_a, .int a_b] (fun r u => u = (i, g) ∧ r = (-2)) := by
  refine k_I pn_X8_drawn (Nat.le_of_ble_eq_true rfl) ?_
  intro p e s m args below meth c ls Q X hret hT hl hS
  have hx := X.1
  have hb := X.2.1
  have hl : lv_has ls 4 [(0, .ref (h 0)), (1, .int a_a), (2, .int a_b)] := hl
  refine lv_aload_n hx hb dX8_drawn_0 rfl (lv_at hl 0 rfl) ?_
  refine r_getr X hT 0 3 15 fk_8_32 rfl rfl (by decide) dX8_drawn_1 ?_
  refine r_Vi (As := []) (rest := []) X hT hS (k_X6_isTold_15 hR) mk_X6_isTold gm_698 rfl rfl (by decide) hd_X6_isTold ⟨rfl, rfl⟩ ⟨Nat.le_of_ble_eq_true rfl, Nat.le_of_ble_eq_true rfl⟩ hl.1 rfl (Nat.le_of_ble_eq_true rfl) dX8_drawn_4 ⟨Nat.zero_le _, Nat.zero_le _⟩ (fun r1 i1 g1 H locs hq hT hS => ?_)
  obtain ⟨eh1, rfl⟩ := hq
  rw [(Prod.mk.inj eh1).1, (Prod.mk.inj eh1).2] at hT
  refine lv_if_eq (tgt := 26) hx hb dX8_drawn_7 (by decide) (fun c2 => ?_) (fun c2 => (x_ne (rg_k (by decide) : rg 0 0 0) (rg_k (by decide) : rg 0 0 0) (i_ne c2) (by decide)).elim)
  refine lv_bipush (v := (-2)) hx hb dX8_drawn_26 (by decide) ?_
  exact hret (-2) _ _ _ _ _ _ dX8_drawn_28 hT hS ⟨rfl, rfl⟩

set_option maxRecDepth 100000 in
set_option maxHeartbeats 4000000 in
theorem k_X8_luck {l : Launch} {D : va_G} {h : Nat → Nat} {cz : Nat → ClassId} {i : Nat → Nat → Int32} {g : Nat → Nat → Int64} (hR : Rg rF i) (a_a : Int32) (a_b : Int32) (a_c : Int32) : CtI l yX8_luck cX8_luck 6 (some .int) ({ frames := 1, cells := 0, slots := 0, locals := 21 } : Room) D h cz i g [.ref (h 0), .int a_a, .int a_b, .int a_c] (fun r u => u = (i, g) ∧ r = (-2)) := by
  refine k_I pn_X8_luck (Nat.le_of_ble_eq_true rfl) ?_
  intro p e s m args below meth c ls Q X hret hT hl hS
  have hx := X.1
  have hb := X.2.1
  have hl : lv_has ls 6 [(0, .ref (h 0)), (1, .int a_a), (2, .int a_b), (3, .int a_c)] := hl
  refine lv_aload_n hx hb dX8_luck_0 rfl (lv_at hl 0 rfl) ?_
  refine r_getr X hT 0 3 15 fk_8_32 rfl rfl (by decide) dX8_luck_1 ?_
  refine lv_iload_n hx hb dX8_luck_4 rfl (lv_at hl 3 rfl) ?_
  refine r_Vi (As := [.int a_c]) (rest := []) X hT hS (k_X6_hasPart_15 hR a_c) mk_X6_hasPart gm_669 rfl rfl (by decide) hd_X6_hasPart ⟨rfl, rfl⟩ ⟨Nat.le_of_ble_eq_true rfl, Nat.le_of_ble_eq_true rfl⟩ hl.1 rfl (Nat.le_of_ble_eq_true rfl) dX8_luck_5 ⟨Nat.zero_le _, Nat.zero_le _⟩ (fun r1 i1 g1 H locs hq hT hS => ?_)
  obtain ⟨eh1, rfl⟩ := hq
  rw [(Prod.mk.inj eh1).1, (Prod.mk.inj eh1).2] at hT
  refine lv_if_eq (tgt := 29) hx hb dX8_luck_8 (by decide) (fun c2 => ?_) (fun c2 => (x_ne (rg_k (by decide) : rg 0 0 0) (rg_k (by decide) : rg 0 0 0) (i_ne c2) (by decide)).elim)
  refine lv_bipush (v := (-2)) hx hb dX8_luck_29 (by decide) ?_
  exact hret (-2) _ _ _ _ _ _ dX8_luck_31 hT hS ⟨rfl, rfl⟩

set_option maxRecDepth 100000 in
set_option maxHeartbeats 4000000 in
theorem k_X8_rate {l : Launch} {D : va_G} {h : Nat → Nat} {cz : Nat → ClassId} {i : Nat → Nat → Int32} {g : Nat → Nat → Int64} (hR : Rg rF i) (a_a : Int32) (a_b : Int32) : CtI l yX8_rate cX8_rate 4 (some .int) ({ frames := 1, cells := 0, slots := 0, locals := 21 } : Room) D h cz i g [.ref (h 0), .int a_a, .int a_b] (fun r u => u = (i, g) ∧ r = (-2)) := by
  refine k_I pn_X8_rate (Nat.le_of_ble_eq_true rfl) ?_
  intro p e s m args below meth c ls Q X hret hT hl hS
  have hx := X.1
  have hb := X.2.1
  have hl : lv_has ls 4 [(0, .ref (h 0)), (1, .int a_a), (2, .int a_b)] := hl
  refine lv_aload_n hx hb dX8_rate_0 rfl (lv_at hl 0 rfl) ?_
  refine r_getr X hT 0 3 15 fk_8_32 rfl rfl (by decide) dX8_rate_1 ?_
  refine lv_iload_n hx hb dX8_rate_4 rfl (lv_at hl 1 rfl) ?_
  refine r_Vi (As := [.int a_a]) (rest := []) X hT hS (k_X6_hasPart_15 hR a_a) mk_X6_hasPart gm_669 rfl rfl (by decide) hd_X6_hasPart ⟨rfl, rfl⟩ ⟨Nat.le_of_ble_eq_true rfl, Nat.le_of_ble_eq_true rfl⟩ hl.1 rfl (Nat.le_of_ble_eq_true rfl) dX8_rate_5 ⟨Nat.zero_le _, Nat.zero_le _⟩ (fun r1 i1 g1 H locs hq hT hS => ?_)
  obtain ⟨eh1, rfl⟩ := hq
  rw [(Prod.mk.inj eh1).1, (Prod.mk.inj eh1).2] at hT
  refine lv_if_eq (tgt := 21) hx hb dX8_rate_8 (by decide) (fun c2 => ?_) (fun c2 => (x_ne (rg_k (by decide) : rg 0 0 0) (rg_k (by decide) : rg 0 0 0) (i_ne c2) (by decide)).elim)
  refine lv_bipush (v := (-2)) hx hb dX8_rate_21 (by decide) ?_
  exact hret (-2) _ _ _ _ _ _ dX8_rate_23 hT hS ⟨rfl, rfl⟩

set_option maxRecDepth 100000 in
set_option maxHeartbeats 4000000 in
theorem k_X8_fault {l : Launch} {D : va_G} {h : Nat → Nat} {cz : Nat → ClassId} {i : Nat → Nat → Int32} {g : Nat → Nat → Int64} (hR : Rg rF i) (a_a : Int32) : CtI l yX8_fault cX8_fault 2 (some .int) ({ frames := 0, cells := 0, slots := 0, locals := 0 } : Room) D h cz i g [.ref (h 0), .int a_a] (fun r u => (u = (i, g) ∧ r = 0 ∧ (a_a.toInt = 0)) ∨ (u = (i, g) ∧ r = (-1) ∧ (¬ a_a.toInt = 0))) := by
  refine k_I pn_X8_fault (Nat.le_of_ble_eq_true rfl) ?_
  intro p e s m args below meth c ls Q X hret hT hl hS
  have hx := X.1
  have hb := X.2.1
  have hl : lv_has ls 2 [(0, .ref (h 0)), (1, .int a_a)] := hl
  refine lv_iload_n hx hb dX8_fault_0 rfl (lv_at hl 1 rfl) ?_
  by_cases c2 : a_a.toInt = 0
  ·
    refine lv_lookup (tgt := 28) (off := 27) hx hb dX8_fault_1 rfl (by rw [c2]; rfl) (by decide) ?_
    have h3 : rg 0 0 a_a := ⟨by omega, by omega⟩
    refine lv_aload_n hx hb dX8_fault_28 rfl (lv_at hl 0 rfl) ?_
    refine r_getr X hT 0 2 14 fk_8_28 rfl rfl (by decide) dX8_fault_29 ?_
    refine r_geti X hT 14 6 fk_8_121 rfl rfl (by decide) dX8_fault_32 ?_
    exact hret (i 14 6) _ _ _ _ _ _ dX8_fault_35 hT hS (Or.inl ⟨rfl, (rg_c (Rg_at hR 14 6 0 0 (by decide) rfl)), (by omega)⟩)
  ·
    by_cases c4 : a_a.toInt = 1
    ·
      refine lv_lookup (tgt := 36) (off := 35) hx hb dX8_fault_1 rfl (by rw [c4]; rfl) (by decide) ?_
      have h5 : rg 1 1 a_a := ⟨by omega, by omega⟩
      refine lv_aload_n hx hb dX8_fault_36 rfl (lv_at hl 0 rfl) ?_
      refine r_getr X hT 0 2 14 fk_8_28 rfl rfl (by decide) dX8_fault_37 ?_
      refine r_geti X hT 14 7 fk_8_124 rfl rfl (by decide) dX8_fault_40 ?_
      exact hret (i 14 7) _ _ _ _ _ _ dX8_fault_43 hT hS (Or.inr ⟨rfl, (rg_c (Rg_at hR 14 7 (-1) (-1) (by decide) rfl)), (by omega)⟩)
    ·
      refine lv_lookup (tgt := 44) (off := 43) hx hb dX8_fault_1 rfl (by simp [Op.lookupswitch.offset, Ne.symm c2, Ne.symm c4]) (by decide) ?_
      refine lv_iconst (v := (-1)) hx hb dX8_fault_44 (by decide) ?_
      exact hret (-1) _ _ _ _ _ _ dX8_fault_45 hT hS (Or.inr ⟨rfl, rfl, (by omega)⟩)

set_option maxRecDepth 100000 in
set_option maxHeartbeats 4000000 in
theorem k_X8_end {l : Launch} {D : va_G} {h : Nat → Nat} {cz : Nat → ClassId} {i : Nat → Nat → Int32} {g : Nat → Nat → Int64} (hR : Rg rF i) (a_a : Int32) : CtI l yX8_end cX8_end 2 (some .int) ({ frames := 0, cells := 0, slots := 0, locals := 0 } : Room) D h cz i g [.ref (h 0), .int a_a] (fun r u => (Rg rF u.1 ∧ r = 0 ∧ (a_a.toInt = 0)) ∨ (Rg rF u.1 ∧ r = (-1) ∧ (¬ a_a.toInt = 0))) := by
  refine k_I pn_X8_end (Nat.le_of_ble_eq_true rfl) ?_
  intro p e s m args below meth c ls Q X hret hT hl hS
  have hx := X.1
  have hb := X.2.1
  have hl : lv_has ls 2 [(0, .ref (h 0)), (1, .int a_a)] := hl
  refine lv_iload_n hx hb dX8_end_0 rfl (lv_at hl 1 rfl) ?_
  refine lv_if_lt (tgt := 15) hx hb dX8_end_1 (by decide) (fun c1 => ?_) (fun c1 => ?_)
  ·
    have q1 : a_a.toInt < 0 := i_lt c1
    have h2 : rg (-2147483648) (-1) a_a := t_ltx (-2147483648) (-1) (rg_top a_a) (rg_k (by decide) : rg 0 0 0) (i_lt c1) (by decide)
    refine lv_iconst (v := (-1)) hx hb dX8_end_15 (by decide) ?_
    exact hret (-1) _ _ _ _ _ _ dX8_end_16 hT hS (Or.inr ⟨hR, rfl, (by have := h2.1; have := h2.2; omega)⟩)
  ·
    have q1 : 0 ≤ a_a.toInt := i_nlt c1
    have h3 : rg 0 2147483647 a_a := t_ley 0 2147483647 (rg_k (by decide) : rg 0 0 0) (rg_top a_a) (i_nlt c1) (by decide)
    refine lv_iload_n hx hb dX8_end_4 rfl (lv_at hl 1 rfl) ?_
    refine lv_aload_n hx hb dX8_end_5 rfl (lv_at hl 0 rfl) ?_
    refine r_getr X hT 0 0 1 fk_8_10 rfl rfl (by decide) dX8_end_6 ?_
    refine r_geti X hT 1 1 fk_8_106 rfl rfl (by decide) dX8_end_9 ?_
    refine lv_icmp_le (tgt := 17) hx hb dX8_end_12 (by decide) (fun c4 => ?_) (fun c4 => ?_)
    ·
      have q4 : a_a.toInt ≤ (i 1 1).toInt := i_le c4
      have h5 : rg 0 0 a_a := t_lex 0 0 h3 (Rg_at hR 1 1 0 0 (by decide) rfl) (i_le c4) (by decide)
      refine lv_aload_n hx hb dX8_end_17 rfl (lv_at hl 0 rfl) ?_
      refine r_getr X hT 0 0 1 fk_8_10 rfl rfl (by decide) dX8_end_18 ?_
      refine lv_iload_n hx hb dX8_end_21 rfl (lv_at hl 1 rfl) ?_
      refine r_puti X hT hS 1 1 pk_8_106 rfl rfl rfl rfl (by decide) dX8_end_22 (fun H locs i6 ei6 hT hS => ?_)
      have hR6 := Rg_put hR ei6 0 0 rfl h5 (by decide)
      refine lv_iload_n hx hb dX8_end_25 rfl (lv_at hl 1 rfl) ?_
      exact hret a_a _ _ _ _ _ _ dX8_end_26 hT hS (Or.inl ⟨hR6, (rg_c h5), (by have := h5.1; have := h5.2; have := (Rg_at hR 1 1 0 0 (by decide) rfl).1; have := (Rg_at hR 1 1 0 0 (by decide) rfl).2; omega)⟩)
    ·
      have q4 : (i 1 1).toInt < a_a.toInt := i_nle c4
      have h7 : rg 1 2147483647 a_a := t_lty 1 2147483647 (Rg_at hR 1 1 0 0 (by decide) rfl) h3 (i_nle c4) (by decide)
      refine lv_iconst (v := (-1)) hx hb dX8_end_15 (by decide) ?_
      exact hret (-1) _ _ _ _ _ _ dX8_end_16 hT hS (Or.inr ⟨hR, rfl, (by have := h7.1; have := h7.2; have := (Rg_at hR 1 1 0 0 (by decide) rfl).1; have := (Rg_at hR 1 1 0 0 (by decide) rfl).2; omega)⟩)

set_option maxRecDepth 100000 in
set_option maxHeartbeats 4000000 in
theorem k_X5_isBare_61 {l : Launch} {D : va_G} {h : Nat → Nat} {cz : Nat → ClassId} {i : Nat → Nat → Int32} {g : Nat → Nat → Int64} (hR : Rg rF i) (a_a : Int32) (ha_a : rg 0 3 a_a) : CtI l yX5_isBare cX5_isBare 2 (some .boolean) ({ frames := 0, cells := 0, slots := 0, locals := 0 } : Room) D h cz i g [.ref (h 61), .int a_a] (fun r u => u = (i, g) ∧ r = 1) := by
  refine k_Z (by intro v u hq; obtain ⟨-, hq⟩ := hq; exact Or.inr hq) pn_X5_isBare (Nat.le_of_ble_eq_true rfl) ?_
  intro p e s m args below meth c ls Q X hret hT hl hS
  have hx := X.1
  have hb := X.2.1
  have hl : lv_has ls 2 [(0, .ref (h 61)), (1, .int a_a)] := hl
  refine lv_aload_n hx hb dX5_isBare_0 rfl (lv_at hl 0 rfl) ?_
  refine r_getr X hT 61 0 62 fk_5_9 rfl rfl (by decide) dX5_isBare_1 ?_
  refine lv_iload_n hx hb dX5_isBare_4 rfl (lv_at hl 1 rfl) ?_
  refine r_iald X hT 62 rfl (by decide) (v_in ha_a (by decide)) dX5_isBare_5 ?_
  refine lv_iconst (v := (-1)) hx hb dX5_isBare_6 (by decide) ?_
  refine lv_icmp_ne (tgt := 14) hx hb dX5_isBare_7 (by decide) (fun c1 => (x_ne (Rg_at hR 62 a_a.toNatClampNeg (-1) (-1) (v_lt (v_in ha_a (by decide))) rfl) (rg_k (by decide) : rg (-1) (-1) (-1)) (i_ne c1) (by decide)).elim) (fun c1 => ?_)
  have q1 : (i 62 a_a.toNatClampNeg).toInt = (-1) := i_eq c1
  refine lv_iconst (v := 1) hx hb dX5_isBare_10 (by decide) ?_
  refine lv_goto (tgt := 15) hx hb dX5_isBare_11 (by decide) ?_
  exact hret 1 _ _ _ _ _ _ dX5_isBare_15 hT hS ⟨rfl, rfl⟩

set_option maxRecDepth 100000 in
set_option maxHeartbeats 4000000 in
theorem k_X5_filled_61 {l : Launch} {D : va_G} {h : Nat → Nat} {cz : Nat → ClassId} {i : Nat → Nat → Int32} {g : Nat → Nat → Int64} (hR : Rg rF i)  : CtI l yX5_filled cX5_filled 3 (some .int) ({ frames := 1, cells := 0, slots := 0, locals := 21 } : Room) D h cz i g [.ref (h 61)] (fun r u => u = (i, g) ∧ r = 0) := by
  refine k_I pn_X5_filled (Nat.le_of_ble_eq_true rfl) ?_
  intro p e s m args below meth c ls Q X hret hT hl hS
  have hx := X.1
  have hb := X.2.1
  have hl : lv_has ls 3 [(0, .ref (h 61))] := hl
  refine lv_iconst (v := 0) hx hb dX5_filled_0 (by decide) ?_
  refine lv_istore_n (lv' := [(1, .int 0), (0, .ref (h 61))]) hx hb dX5_filled_1 rfl hl (by decide) rfl (fun ls hl => ?_)
  refine lv_iconst (v := 0) hx hb dX5_filled_2 (by decide) ?_
  refine lv_istore_n (lv' := [(2, .int 0), (1, .int 0), (0, .ref (h 61))]) hx hb dX5_filled_3 rfl hl (by decide) rfl (fun ls hl => ?_)
  refine lv_iload_n hx hb dX5_filled_4 rfl (lv_at hl 0 rfl) ?_
  refine lv_iconst (v := 4) hx hb dX5_filled_5 (by decide) ?_
  refine lv_icmp_ge (tgt := 31) hx hb dX5_filled_6 (by decide) (fun c1 => (x_le (rg_k (by decide) : rg 4 4 4) (rg_k (by decide) : rg 0 0 0) (i_le c1) (by decide)).elim) (fun c1 => ?_)
  refine lv_iload_n hx hb dX5_filled_9 rfl (lv_at hl 1 rfl) ?_
  refine lv_aload_n hx hb dX5_filled_10 rfl (lv_at hl 2 rfl) ?_
  refine lv_iload_n hx hb dX5_filled_11 rfl (lv_at hl 0 rfl) ?_
  refine r_Vi (As := [.int 0]) (rest := [.int 0]) X hT hS (k_X5_isBare_61 hR (0) (rg_w (rg_k (by decide) : rg 0 0 0) (by decide) : rg 0 3 0)) mk_X5_isBare gm_719 rfl rfl (by decide) hd_X5_isBare ⟨rfl, rfl⟩ ⟨Nat.le_of_ble_eq_true rfl, Nat.le_of_ble_eq_true rfl⟩ hl.1 rfl (Nat.le_of_ble_eq_true rfl) dX5_filled_12 ⟨Nat.zero_le _, Nat.zero_le _⟩ (fun r2 i2 g2 H locs hq hT hS => ?_)
  obtain ⟨eh2, rfl⟩ := hq
  rw [(Prod.mk.inj eh2).1, (Prod.mk.inj eh2).2] at hT
  refine lv_if_eq (tgt := 22) hx hb dX5_filled_15 (by decide) (fun c3 => (x_eq (rg_k (by decide) : rg 1 1 1) (rg_k (by decide) : rg 0 0 0) (i_eq c3) (by decide)).elim) (fun c3 => ?_)
  refine lv_iconst (v := 0) hx hb dX5_filled_18 (by decide) ?_
  refine lv_goto (tgt := 23) hx hb dX5_filled_19 (by decide) ?_
  refine q_iadd hx hb dX5_filled_23 (fun x4 ex4 => ?_)
  obtain ⟨hx4, ax4⟩ := rg_add 0 0 ex4 (rg_k (by decide) : rg 0 0 0) (rg_k (by decide) : rg 0 0 0) (by decide)
  replace ax4 : x4.toInt = 0 + 0 := ax4
  refine lv_istore_n (lv' := [(1, .int x4), (2, .int 0), (0, .ref (h 61))]) hx hb dX5_filled_24 rfl hl (by decide) rfl (fun ls hl => ?_)
  obtain ⟨x5, ex5⟩ : ∃ y : Int32, y = 0 + 1 := ⟨_, rfl⟩
  refine lv_iinc (v := x5) (lv' := [(2, .int x5), (1, .int x4), (0, .ref (h 61))]) hx hb dX5_filled_25 hl (k := 1) rfl (by rw [ex5]; rfl) (by decide) rfl (fun ls hl => ?_)
  obtain ⟨hx5, ax5⟩ := rg_add 1 1 ex5 (rg_k (by decide) : rg 0 0 0) (rg_k (by decide) : rg 1 1 1) (by decide)
  replace ax5 : x5.toInt = 0 + 1 := ax5
  refine lv_goto (tgt := 4) hx hb dX5_filled_28 (by decide) ?_
  refine lv_iload_n hx hb dX5_filled_4 rfl (lv_at hl 0 rfl) ?_
  refine lv_iconst (v := 4) hx hb dX5_filled_5 (by decide) ?_
  refine lv_icmp_ge (tgt := 31) hx hb dX5_filled_6 (by decide) (fun c6 => (x_le (rg_k (by decide) : rg 4 4 4) hx5 (i_le c6) (by decide)).elim) (fun c6 => ?_)
  have q6 : x5.toInt < 4 := i_nle c6
  refine lv_iload_n hx hb dX5_filled_9 rfl (lv_at hl 1 rfl) ?_
  refine lv_aload_n hx hb dX5_filled_10 rfl (lv_at hl 2 rfl) ?_
  refine lv_iload_n hx hb dX5_filled_11 rfl (lv_at hl 0 rfl) ?_
  refine r_Vi (As := [.int x5]) (rest := [.int x4]) X hT hS (k_X5_isBare_61 hR x5 (rg_w hx5 (by decide) : rg 0 3 x5)) mk_X5_isBare gm_719 rfl rfl (by decide) hd_X5_isBare ⟨rfl, rfl⟩ ⟨Nat.le_of_ble_eq_true rfl, Nat.le_of_ble_eq_true rfl⟩ hl.1 rfl (Nat.le_of_ble_eq_true rfl) dX5_filled_12 ⟨Nat.zero_le _, Nat.zero_le _⟩ (fun r7 i7 g7 H locs hq hT hS => ?_)
  obtain ⟨eh7, rfl⟩ := hq
  rw [(Prod.mk.inj eh7).1, (Prod.mk.inj eh7).2] at hT
  refine lv_if_eq (tgt := 22) hx hb dX5_filled_15 (by decide) (fun c8 => (x_eq (rg_k (by decide) : rg 1 1 1) (rg_k (by decide) : rg 0 0 0) (i_eq c8) (by decide)).elim) (fun c8 => ?_)
  refine lv_iconst (v := 0) hx hb dX5_filled_18 (by decide) ?_
  refine lv_goto (tgt := 23) hx hb dX5_filled_19 (by decide) ?_
  refine q_iadd hx hb dX5_filled_23 (fun x9 ex9 => ?_)
  obtain ⟨hx9, ax9⟩ := rg_add 0 0 ex9 hx4 (rg_k (by decide) : rg 0 0 0) (by decide)
  replace ax9 : x9.toInt = x4.toInt + 0 := ax9
  refine lv_istore_n (lv' := [(1, .int x9), (2, .int x5), (0, .ref (h 61))]) hx hb dX5_filled_24 rfl hl (by decide) rfl (fun ls hl => ?_)
  obtain ⟨x10, ex10⟩ : ∃ y : Int32, y = x5 + 1 := ⟨_, rfl⟩
  refine lv_iinc (v := x10) (lv' := [(2, .int x10), (1, .int x9), (0, .ref (h 61))]) hx hb dX5_filled_25 hl (k := 1) rfl (by rw [ex10]; rfl) (by decide) rfl (fun ls hl => ?_)
  obtain ⟨hx10, ax10⟩ := rg_add 2 2 ex10 hx5 (rg_k (by decide) : rg 1 1 1) (by decide)
  replace ax10 : x10.toInt = x5.toInt + 1 := ax10
  refine lv_goto (tgt := 4) hx hb dX5_filled_28 (by decide) ?_
  refine lv_iload_n hx hb dX5_filled_4 rfl (lv_at hl 0 rfl) ?_
  refine lv_iconst (v := 4) hx hb dX5_filled_5 (by decide) ?_
  refine lv_icmp_ge (tgt := 31) hx hb dX5_filled_6 (by decide) (fun c11 => (x_le (rg_k (by decide) : rg 4 4 4) hx10 (i_le c11) (by decide)).elim) (fun c11 => ?_)
  have q11 : x10.toInt < 4 := i_nle c11
  refine lv_iload_n hx hb dX5_filled_9 rfl (lv_at hl 1 rfl) ?_
  refine lv_aload_n hx hb dX5_filled_10 rfl (lv_at hl 2 rfl) ?_
  refine lv_iload_n hx hb dX5_filled_11 rfl (lv_at hl 0 rfl) ?_
  refine r_Vi (As := [.int x10]) (rest := [.int x9]) X hT hS (k_X5_isBare_61 hR x10 (rg_w hx10 (by decide) : rg 0 3 x10)) mk_X5_isBare gm_719 rfl rfl (by decide) hd_X5_isBare ⟨rfl, rfl⟩ ⟨Nat.le_of_ble_eq_true rfl, Nat.le_of_ble_eq_true rfl⟩ hl.1 rfl (Nat.le_of_ble_eq_true rfl) dX5_filled_12 ⟨Nat.zero_le _, Nat.zero_le _⟩ (fun r12 i12 g12 H locs hq hT hS => ?_)
  obtain ⟨eh12, rfl⟩ := hq
  rw [(Prod.mk.inj eh12).1, (Prod.mk.inj eh12).2] at hT
  refine lv_if_eq (tgt := 22) hx hb dX5_filled_15 (by decide) (fun c13 => (x_eq (rg_k (by decide) : rg 1 1 1) (rg_k (by decide) : rg 0 0 0) (i_eq c13) (by decide)).elim) (fun c13 => ?_)
  refine lv_iconst (v := 0) hx hb dX5_filled_18 (by decide) ?_
  refine lv_goto (tgt := 23) hx hb dX5_filled_19 (by decide) ?_
  refine q_iadd hx hb dX5_filled_23 (fun x14 ex14 => ?_)
  obtain ⟨hx14, ax14⟩ := rg_add 0 0 ex14 hx9 (rg_k (by decide) : rg 0 0 0) (by decide)
  replace ax14 : x14.toInt = x9.toInt + 0 := ax14
  refine lv_istore_n (lv' := [(1, .int x14), (2, .int x10), (0, .ref (h 61))]) hx hb dX5_filled_24 rfl hl (by decide) rfl (fun ls hl => ?_)
  obtain ⟨x15, ex15⟩ : ∃ y : Int32, y = x10 + 1 := ⟨_, rfl⟩
  refine lv_iinc (v := x15) (lv' := [(2, .int x15), (1, .int x14), (0, .ref (h 61))]) hx hb dX5_filled_25 hl (k := 1) rfl (by rw [ex15]; rfl) (by decide) rfl (fun ls hl => ?_)
  obtain ⟨hx15, ax15⟩ := rg_add 3 3 ex15 hx10 (rg_k (by decide) : rg 1 1 1) (by decide)
  replace ax15 : x15.toInt = x10.toInt + 1 := ax15
  refine lv_goto (tgt := 4) hx hb dX5_filled_28 (by decide) ?_
  refine lv_iload_n hx hb dX5_filled_4 rfl (lv_at hl 0 rfl) ?_
  refine lv_iconst (v := 4) hx hb dX5_filled_5 (by decide) ?_
  refine lv_icmp_ge (tgt := 31) hx hb dX5_filled_6 (by decide) (fun c16 => (x_le (rg_k (by decide) : rg 4 4 4) hx15 (i_le c16) (by decide)).elim) (fun c16 => ?_)
  have q16 : x15.toInt < 4 := i_nle c16
  refine lv_iload_n hx hb dX5_filled_9 rfl (lv_at hl 1 rfl) ?_
  refine lv_aload_n hx hb dX5_filled_10 rfl (lv_at hl 2 rfl) ?_
  refine lv_iload_n hx hb dX5_filled_11 rfl (lv_at hl 0 rfl) ?_
  refine r_Vi (As := [.int x15]) (rest := [.int x14]) X hT hS (k_X5_isBare_61 hR x15 (rg_w hx15 (by decide) : rg 0 3 x15)) mk_X5_isBare gm_719 rfl rfl (by decide) hd_X5_isBare ⟨rfl, rfl⟩ ⟨Nat.le_of_ble_eq_true rfl, Nat.le_of_ble_eq_true rfl⟩ hl.1 rfl (Nat.le_of_ble_eq_true rfl) dX5_filled_12 ⟨Nat.zero_le _, Nat.zero_le _⟩ (fun r17 i17 g17 H locs hq hT hS => ?_)
  obtain ⟨eh17, rfl⟩ := hq
  rw [(Prod.mk.inj eh17).1, (Prod.mk.inj eh17).2] at hT
  refine lv_if_eq (tgt := 22) hx hb dX5_filled_15 (by decide) (fun c18 => (x_eq (rg_k (by decide) : rg 1 1 1) (rg_k (by decide) : rg 0 0 0) (i_eq c18) (by decide)).elim) (fun c18 => ?_)
  refine lv_iconst (v := 0) hx hb dX5_filled_18 (by decide) ?_
  refine lv_goto (tgt := 23) hx hb dX5_filled_19 (by decide) ?_
  refine q_iadd hx hb dX5_filled_23 (fun x19 ex19 => ?_)
  obtain ⟨hx19, ax19⟩ := rg_add 0 0 ex19 hx14 (rg_k (by decide) : rg 0 0 0) (by decide)
  replace ax19 : x19.toInt = x14.toInt + 0 := ax19
  refine lv_istore_n (lv' := [(1, .int x19), (2, .int x15), (0, .ref (h 61))]) hx hb dX5_filled_24 rfl hl (by decide) rfl (fun ls hl => ?_)
  obtain ⟨x20, ex20⟩ : ∃ y : Int32, y = x15 + 1 := ⟨_, rfl⟩
  refine lv_iinc (v := x20) (lv' := [(2, .int x20), (1, .int x19), (0, .ref (h 61))]) hx hb dX5_filled_25 hl (k := 1) rfl (by rw [ex20]; rfl) (by decide) rfl (fun ls hl => ?_)
  obtain ⟨hx20, ax20⟩ := rg_add 4 4 ex20 hx15 (rg_k (by decide) : rg 1 1 1) (by decide)
  replace ax20 : x20.toInt = x15.toInt + 1 := ax20
  refine lv_goto (tgt := 4) hx hb dX5_filled_28 (by decide) ?_
  refine lv_iload_n hx hb dX5_filled_4 rfl (lv_at hl 0 rfl) ?_
  refine lv_iconst (v := 4) hx hb dX5_filled_5 (by decide) ?_
  refine lv_icmp_ge (tgt := 31) hx hb dX5_filled_6 (by decide) (fun c21 => ?_) (fun c21 => (x_lt hx20 (rg_k (by decide) : rg 4 4 4) (i_nle c21) (by decide)).elim)
  have q21 : 4 ≤ x20.toInt := i_le c21
  refine lv_iload_n hx hb dX5_filled_31 rfl (lv_at hl 1 rfl) ?_
  exact hret x19 _ _ _ _ _ _ dX5_filled_32 hT hS ⟨rfl, (rg_c hx19)⟩

set_option maxRecDepth 100000 in
set_option maxHeartbeats 4000000 in
theorem k_X8_count {l : Launch} {D : va_G} {h : Nat → Nat} {cz : Nat → ClassId} {i : Nat → Nat → Int32} {g : Nat → Nat → Int64} (hR : Rg rF i) (a_a : Int32) : CtI l yX8_count cX8_count 2 (some .int) ({ frames := 2, cells := 0, slots := 0, locals := 43 } : Room) D h cz i g [.ref (h 0), .int a_a] (fun r u => (u = (i, g) ∧ r = 0 ∧ (0 ≤ a_a.toInt ∧ a_a.toInt ≤ 9)) ∨ (u = (i, g) ∧ r = (-1) ∧ (a_a.toInt < 0 ∨ 9 < a_a.toInt))) := by
  refine k_I pn_X8_count (Nat.le_of_ble_eq_true rfl) ?_
  intro p e s m args below meth c ls Q X hret hT hl hS
  have hx := X.1
  have hb := X.2.1
  have hl : lv_has ls 2 [(0, .ref (h 0)), (1, .int a_a)] := hl
  refine lv_iload_n hx hb dX8_count_0 rfl (lv_at hl 1 rfl) ?_
  rcases Int.lt_or_le a_a.toInt 0 with c1 | c1
  ·
    refine lv_tableOut (tgt := 136) hx hb dX8_count_1 (Or.inl c1) (by decide) ?_
    refine lv_iconst (v := (-1)) hx hb dX8_count_136 (by decide) ?_
    exact hret (-1) _ _ _ _ _ _ dX8_count_137 hT hS (Or.inr ⟨rfl, rfl, (by omega)⟩)
  ·
    rcases Int.lt_or_le 9 a_a.toInt with d1 | d1
    ·
      refine lv_tableOut (tgt := 136) hx hb dX8_count_1 (Or.inr d1) (by decide) ?_
      refine lv_iconst (v := (-1)) hx hb dX8_count_136 (by decide) ?_
      exact hret (-1) _ _ _ _ _ _ dX8_count_137 hT hS (Or.inr ⟨rfl, rfl, (by omega)⟩)
    ·
      rcases (show a_a.toInt = 0 ∨ a_a.toInt = 1 ∨ a_a.toInt = 2 ∨ a_a.toInt = 3 ∨ a_a.toInt = 4 ∨ a_a.toInt = 5 ∨ a_a.toInt = 6 ∨ a_a.toInt = 7 ∨ a_a.toInt = 8 ∨ a_a.toInt = 9 by omega) with f1 | f1 | f1 | f1 | f1 | f1 | f1 | f1 | f1 | f1
      ·
        refine lv_tableIn (tgt := 56) (off := 55) hx hb dX8_count_1 (by omega) (by omega) (by rw [f1]; rfl) (by decide) ?_
        have h2 : rg 0 0 a_a := ⟨by omega, by omega⟩
        refine lv_aload_n hx hb dX8_count_56 rfl (lv_at hl 0 rfl) ?_
        refine r_getr X hT 0 3 15 fk_8_32 rfl rfl (by decide) dX8_count_57 ?_
        refine r_geti X hT 15 10 fk_8_168 rfl rfl (by decide) dX8_count_60 ?_
        exact hret (i 15 10) _ _ _ _ _ _ dX8_count_63 hT hS (Or.inl ⟨rfl, (rg_c (Rg_at hR 15 10 0 0 (by decide) rfl)), (by omega)⟩)
      ·
        refine lv_tableIn (tgt := 64) (off := 63) hx hb dX8_count_1 (by omega) (by omega) (by rw [f1]; rfl) (by decide) ?_
        have h3 : rg 1 1 a_a := ⟨by omega, by omega⟩
        refine lv_aload_n hx hb dX8_count_64 rfl (lv_at hl 0 rfl) ?_
        refine r_getr X hT 0 3 15 fk_8_32 rfl rfl (by decide) dX8_count_65 ?_
        refine r_geti X hT 15 11 fk_8_171 rfl rfl (by decide) dX8_count_68 ?_
        exact hret (i 15 11) _ _ _ _ _ _ dX8_count_71 hT hS (Or.inl ⟨rfl, (rg_c (Rg_at hR 15 11 0 0 (by decide) rfl)), (by omega)⟩)
      ·
        refine lv_tableIn (tgt := 72) (off := 71) hx hb dX8_count_1 (by omega) (by omega) (by rw [f1]; rfl) (by decide) ?_
        have h4 : rg 2 2 a_a := ⟨by omega, by omega⟩
        refine lv_aload_n hx hb dX8_count_72 rfl (lv_at hl 0 rfl) ?_
        refine r_getr X hT 0 3 15 fk_8_32 rfl rfl (by decide) dX8_count_73 ?_
        refine r_geti X hT 15 12 fk_8_174 rfl rfl (by decide) dX8_count_76 ?_
        exact hret (i 15 12) _ _ _ _ _ _ dX8_count_79 hT hS (Or.inl ⟨rfl, (rg_c (Rg_at hR 15 12 0 0 (by decide) rfl)), (by omega)⟩)
      ·
        refine lv_tableIn (tgt := 80) (off := 79) hx hb dX8_count_1 (by omega) (by omega) (by rw [f1]; rfl) (by decide) ?_
        have h5 : rg 3 3 a_a := ⟨by omega, by omega⟩
        refine lv_aload_n hx hb dX8_count_80 rfl (lv_at hl 0 rfl) ?_
        refine r_getr X hT 0 3 15 fk_8_32 rfl rfl (by decide) dX8_count_81 ?_
        refine r_geti X hT 15 13 fk_8_156 rfl rfl (by decide) dX8_count_84 ?_
        exact hret (i 15 13) _ _ _ _ _ _ dX8_count_87 hT hS (Or.inl ⟨rfl, (rg_c (Rg_at hR 15 13 0 0 (by decide) rfl)), (by omega)⟩)
      ·
        refine lv_tableIn (tgt := 88) (off := 87) hx hb dX8_count_1 (by omega) (by omega) (by rw [f1]; rfl) (by decide) ?_
        have h6 : rg 4 4 a_a := ⟨by omega, by omega⟩
        refine lv_aload_n hx hb dX8_count_88 rfl (lv_at hl 0 rfl) ?_
        refine r_getr X hT 0 3 15 fk_8_32 rfl rfl (by decide) dX8_count_89 ?_
        refine r_geti X hT 15 14 fk_8_176 rfl rfl (by decide) dX8_count_92 ?_
        exact hret (i 15 14) _ _ _ _ _ _ dX8_count_95 hT hS (Or.inl ⟨rfl, (rg_c (Rg_at hR 15 14 0 0 (by decide) rfl)), (by omega)⟩)
      ·
        refine lv_tableIn (tgt := 96) (off := 95) hx hb dX8_count_1 (by omega) (by omega) (by rw [f1]; rfl) (by decide) ?_
        have h7 : rg 5 5 a_a := ⟨by omega, by omega⟩
        refine lv_aload_n hx hb dX8_count_96 rfl (lv_at hl 0 rfl) ?_
        refine r_getr X hT 0 3 15 fk_8_32 rfl rfl (by decide) dX8_count_97 ?_
        refine r_geti X hT 15 15 fk_8_162 rfl rfl (by decide) dX8_count_100 ?_
        exact hret (i 15 15) _ _ _ _ _ _ dX8_count_103 hT hS (Or.inl ⟨rfl, (rg_c (Rg_at hR 15 15 0 0 (by decide) rfl)), (by omega)⟩)
      ·
        refine lv_tableIn (tgt := 104) (off := 103) hx hb dX8_count_1 (by omega) (by omega) (by rw [f1]; rfl) (by decide) ?_
        have h8 : rg 6 6 a_a := ⟨by omega, by omega⟩
        refine lv_aload_n hx hb dX8_count_104 rfl (lv_at hl 0 rfl) ?_
        refine r_getr X hT 0 3 15 fk_8_32 rfl rfl (by decide) dX8_count_105 ?_
        refine r_geti X hT 15 16 fk_8_179 rfl rfl (by decide) dX8_count_108 ?_
        exact hret (i 15 16) _ _ _ _ _ _ dX8_count_111 hT hS (Or.inl ⟨rfl, (rg_c (Rg_at hR 15 16 0 0 (by decide) rfl)), (by omega)⟩)
      ·
        refine lv_tableIn (tgt := 112) (off := 111) hx hb dX8_count_1 (by omega) (by omega) (by rw [f1]; rfl) (by decide) ?_
        have h9 : rg 7 7 a_a := ⟨by omega, by omega⟩
        refine lv_aload_n hx hb dX8_count_112 rfl (lv_at hl 0 rfl) ?_
        refine r_getr X hT 0 3 15 fk_8_32 rfl rfl (by decide) dX8_count_113 ?_
        refine r_geti X hT 15 17 fk_8_118 rfl rfl (by decide) dX8_count_116 ?_
        exact hret (i 15 17) _ _ _ _ _ _ dX8_count_119 hT hS (Or.inl ⟨rfl, (rg_c (Rg_at hR 15 17 0 0 (by decide) rfl)), (by omega)⟩)
      ·
        refine lv_tableIn (tgt := 120) (off := 119) hx hb dX8_count_1 (by omega) (by omega) (by rw [f1]; rfl) (by decide) ?_
        have h10 : rg 8 8 a_a := ⟨by omega, by omega⟩
        refine lv_aload_n hx hb dX8_count_120 rfl (lv_at hl 0 rfl) ?_
        refine r_getr X hT 0 0 1 fk_8_10 rfl rfl (by decide) dX8_count_121 ?_
        refine r_geti X hT 1 1 fk_8_106 rfl rfl (by decide) dX8_count_124 ?_
        exact hret (i 1 1) _ _ _ _ _ _ dX8_count_127 hT hS (Or.inl ⟨rfl, (rg_c (Rg_at hR 1 1 0 0 (by decide) rfl)), (by omega)⟩)
      ·
        refine lv_tableIn (tgt := 128) (off := 127) hx hb dX8_count_1 (by omega) (by omega) (by rw [f1]; rfl) (by decide) ?_
        have h11 : rg 9 9 a_a := ⟨by omega, by omega⟩
        refine lv_aload_n hx hb dX8_count_128 rfl (lv_at hl 0 rfl) ?_
        refine r_getr X hT 0 6 61 fk_8_46 rfl rfl (by decide) dX8_count_129 ?_
        refine r_Vi (As := []) (rest := []) X hT hS (k_X5_filled_61 hR) mk_X5_filled gm_715 rfl rfl (by decide) hd_X5_filled ⟨rfl, rfl⟩ ⟨Nat.le_of_ble_eq_true rfl, Nat.le_of_ble_eq_true rfl⟩ hl.1 rfl (Nat.le_of_ble_eq_true rfl) dX8_count_132 ⟨Nat.zero_le _, Nat.zero_le _⟩ (fun r12 i12 g12 H locs hq hT hS => ?_)
        obtain ⟨eh12, rfl⟩ := hq
        rw [(Prod.mk.inj eh12).1, (Prod.mk.inj eh12).2] at hT
        exact hret 0 _ _ _ _ _ _ dX8_count_135 hT hS (Or.inl ⟨rfl, rfl, (by omega)⟩)

set_option maxRecDepth 100000 in
set_option maxHeartbeats 4000000 in
theorem k_X6_become_27_15 {l : Launch} {D : va_G} {h : Nat → Nat} {cz : Nat → ClassId} {i : Nat → Nat → Int32} {g : Nat → Nat → Int64} (hR : Rg rL i)  : CtV l yX6_become cX6_become 2 none ({ frames := 1, cells := 0, slots := 0, locals := 40 } : Room) D h cz i g [.ref (h 27), .ref (h 15)] (fun u => Rg rL u.1) := by
  refine k_V pn_X6_become (Nat.le_of_ble_eq_true rfl) ?_
  intro p e s m args below meth c ls Q X hret hT hl hS
  have hx := X.1
  have hb := X.2.1
  have hl : lv_has ls 2 [(0, .ref (h 27)), (1, .ref (h 15))] := hl
  refine lv_aload_n hx hb dX6_become_0 rfl (lv_at hl 0 rfl) ?_
  refine lv_aload_n hx hb dX6_become_1 rfl (lv_at hl 1 rfl) ?_
  refine r_geti X hT 15 10 fk_6_42 rfl rfl (by decide) dX6_become_2 ?_
  refine r_puti X hT hS 27 10 pk_6_42 rfl rfl rfl rfl (by decide) dX6_become_5 (fun H locs i1 ei1 hT hS => ?_)
  have hR1 := Rg_put hR ei1 0 0 rfl (Rg_at hR 15 10 0 0 (by decide) rfl) (by decide)
  refine lv_aload_n hx hb dX6_become_8 rfl (lv_at hl 0 rfl) ?_
  refine lv_aload_n hx hb dX6_become_9 rfl (lv_at hl 1 rfl) ?_
  refine r_geti X hT 15 11 fk_6_46 rfl rfl (by decide) dX6_become_10 ?_
  refine r_puti X hT hS 27 11 pk_6_46 rfl rfl rfl rfl (by decide) dX6_become_13 (fun H locs i2 ei2 hT hS => ?_)
  have hR2 := Rg_put hR1 ei2 0 0 rfl (Rg_at hR1 15 11 0 0 (by decide) rfl) (by decide)
  refine lv_aload_n hx hb dX6_become_16 rfl (lv_at hl 0 rfl) ?_
  refine lv_aload_n hx hb dX6_become_17 rfl (lv_at hl 1 rfl) ?_
  refine r_geti X hT 15 12 fk_6_49 rfl rfl (by decide) dX6_become_18 ?_
  refine r_puti X hT hS 27 12 pk_6_49 rfl rfl rfl rfl (by decide) dX6_become_21 (fun H locs i3 ei3 hT hS => ?_)
  have hR3 := Rg_put hR2 ei3 0 0 rfl (Rg_at hR2 15 12 0 0 (by decide) rfl) (by decide)
  refine lv_aload_n hx hb dX6_become_24 rfl (lv_at hl 0 rfl) ?_
  refine lv_aload_n hx hb dX6_become_25 rfl (lv_at hl 1 rfl) ?_
  refine r_geti X hT 15 13 fk_6_52 rfl rfl (by decide) dX6_become_26 ?_
  refine r_puti X hT hS 27 13 pk_6_52 rfl rfl rfl rfl (by decide) dX6_become_29 (fun H locs i4 ei4 hT hS => ?_)
  have hR4 := Rg_put hR3 ei4 0 0 rfl (Rg_at hR3 15 13 0 0 (by decide) rfl) (by decide)
  refine lv_aload_n hx hb dX6_become_32 rfl (lv_at hl 0 rfl) ?_
  refine lv_aload_n hx hb dX6_become_33 rfl (lv_at hl 1 rfl) ?_
  refine r_geti X hT 15 14 fk_6_55 rfl rfl (by decide) dX6_become_34 ?_
  refine r_puti X hT hS 27 14 pk_6_55 rfl rfl rfl rfl (by decide) dX6_become_37 (fun H locs i5 ei5 hT hS => ?_)
  have hR5 := Rg_put hR4 ei5 0 0 rfl (Rg_at hR4 15 14 0 0 (by decide) rfl) (by decide)
  refine lv_aload_n hx hb dX6_become_40 rfl (lv_at hl 0 rfl) ?_
  refine lv_aload_n hx hb dX6_become_41 rfl (lv_at hl 1 rfl) ?_
  refine r_geti X hT 15 15 fk_6_58 rfl rfl (by decide) dX6_become_42 ?_
  refine r_puti X hT hS 27 15 pk_6_58 rfl rfl rfl rfl (by decide) dX6_become_45 (fun H locs i6 ei6 hT hS => ?_)
  have hR6 := Rg_put hR5 ei6 0 0 rfl (Rg_at hR5 15 15 0 0 (by decide) rfl) (by decide)
  refine lv_aload_n hx hb dX6_become_48 rfl (lv_at hl 0 rfl) ?_
  refine lv_aload_n hx hb dX6_become_49 rfl (lv_at hl 1 rfl) ?_
  refine r_geti X hT 15 16 fk_6_61 rfl rfl (by decide) dX6_become_50 ?_
  refine r_puti X hT hS 27 16 pk_6_61 rfl rfl rfl rfl (by decide) dX6_become_53 (fun H locs i7 ei7 hT hS => ?_)
  have hR7 := Rg_put hR6 ei7 0 0 rfl (Rg_at hR6 15 16 0 0 (by decide) rfl) (by decide)
  refine lv_aload_n hx hb dX6_become_56 rfl (lv_at hl 0 rfl) ?_
  refine lv_aload_n hx hb dX6_become_57 rfl (lv_at hl 1 rfl) ?_
  refine r_geti X hT 15 17 fk_6_64 rfl rfl (by decide) dX6_become_58 ?_
  refine r_puti X hT hS 27 17 pk_6_64 rfl rfl rfl rfl (by decide) dX6_become_61 (fun H locs i8 ei8 hT hS => ?_)
  have hR8 := Rg_put hR7 ei8 0 0 rfl (Rg_at hR7 15 17 0 0 (by decide) rfl) (by decide)
  refine lv_aload_n hx hb dX6_become_64 rfl (lv_at hl 1 rfl) ?_
  refine r_getr X hT 15 0 16 fk_6_9 rfl rfl (by decide) dX6_become_65 ?_
  refine lv_iconst (v := 0) hx hb dX6_become_68 (by decide) ?_
  refine lv_aload_n hx hb dX6_become_69 rfl (lv_at hl 0 rfl) ?_
  refine r_getr X hT 27 0 28 fk_6_9 rfl rfl (by decide) dX6_become_70 ?_
  refine lv_iconst (v := 0) hx hb dX6_become_73 (by decide) ?_
  refine lv_bipush (v := 6) hx hb dX6_become_74 (by decide) ?_
  refine r_copyi X hT hS hl.1 16 28 rfl rfl (by decide) (by decide) gm_654 gm_656 gm_655 gm_123 (rg_k (by decide) : rg 0 0 0) (rg_k (by decide) : rg 0 0 0) (rg_k (by decide) : rg 6 6 6) (by decide) (Nat.le_of_ble_eq_true rfl) (by decide +kernel) dX6_become_76 (fun H locs i9 ei9 hT hS => ?_)
  have hR9 := Rg_cpy hR8 ei9 0 0 0 0 (fun _ => rfl) (fun _ => rfl) (by decide) (by decide)
  refine lv_aload_n hx hb dX6_become_79 rfl (lv_at hl 1 rfl) ?_
  refine r_getr X hT 15 1 17 fk_6_15 rfl rfl (by decide) dX6_become_80 ?_
  refine lv_iconst (v := 0) hx hb dX6_become_83 (by decide) ?_
  refine lv_aload_n hx hb dX6_become_84 rfl (lv_at hl 0 rfl) ?_
  refine r_getr X hT 27 1 29 fk_6_15 rfl rfl (by decide) dX6_become_85 ?_
  refine lv_iconst (v := 0) hx hb dX6_become_88 (by decide) ?_
  refine lv_bipush (v := 6) hx hb dX6_become_89 (by decide) ?_
  refine r_copyi X hT hS hl.1 17 29 rfl rfl (by decide) (by decide) gm_654 gm_656 gm_655 gm_123 (rg_k (by decide) : rg 0 0 0) (rg_k (by decide) : rg 0 0 0) (rg_k (by decide) : rg 6 6 6) (by decide) (Nat.le_of_ble_eq_true rfl) (by decide +kernel) dX6_become_91 (fun H locs i10 ei10 hT hS => ?_)
  have hR10 := Rg_cpy hR9 ei10 0 0 0 0 (fun _ => rfl) (fun _ => rfl) (by decide) (by decide)
  refine lv_aload_n hx hb dX6_become_94 rfl (lv_at hl 1 rfl) ?_
  refine r_getr X hT 15 2 18 fk_6_18 rfl rfl (by decide) dX6_become_95 ?_
  refine lv_iconst (v := 0) hx hb dX6_become_98 (by decide) ?_
  refine lv_aload_n hx hb dX6_become_99 rfl (lv_at hl 0 rfl) ?_
  refine r_getr X hT 27 2 30 fk_6_18 rfl rfl (by decide) dX6_become_100 ?_
  refine lv_iconst (v := 0) hx hb dX6_become_103 (by decide) ?_
  refine lv_bipush (v := 6) hx hb dX6_become_104 (by decide) ?_
  refine r_copyi X hT hS hl.1 18 30 rfl rfl (by decide) (by decide) gm_654 gm_656 gm_655 gm_123 (rg_k (by decide) : rg 0 0 0) (rg_k (by decide) : rg 0 0 0) (rg_k (by decide) : rg 6 6 6) (by decide) (Nat.le_of_ble_eq_true rfl) (by decide +kernel) dX6_become_106 (fun H locs i11 ei11 hT hS => ?_)
  have hR11 := Rg_cpy hR10 ei11 0 0 0 0 (fun _ => rfl) (fun _ => rfl) (by decide) (by decide)
  refine lv_aload_n hx hb dX6_become_109 rfl (lv_at hl 1 rfl) ?_
  refine r_getr X hT 15 3 19 fk_6_21 rfl rfl (by decide) dX6_become_110 ?_
  refine lv_iconst (v := 0) hx hb dX6_become_113 (by decide) ?_
  refine lv_aload_n hx hb dX6_become_114 rfl (lv_at hl 0 rfl) ?_
  refine r_getr X hT 27 3 31 fk_6_21 rfl rfl (by decide) dX6_become_115 ?_
  refine lv_iconst (v := 0) hx hb dX6_become_118 (by decide) ?_
  refine lv_bipush (v := 10) hx hb dX6_become_119 (by decide) ?_
  refine r_copyi X hT hS hl.1 19 31 rfl rfl (by decide) (by decide) gm_654 gm_656 gm_655 gm_123 (rg_k (by decide) : rg 0 0 0) (rg_k (by decide) : rg 0 0 0) (rg_k (by decide) : rg 10 10 10) (by decide) (Nat.le_of_ble_eq_true rfl) (by decide +kernel) dX6_become_121 (fun H locs i12 ei12 hT hS => ?_)
  have hR12 := Rg_cpy hR11 ei12 0 0 0 0 (fun _ => rfl) (fun _ => rfl) (by decide) (by decide)
  refine lv_aload_n hx hb dX6_become_124 rfl (lv_at hl 1 rfl) ?_
  refine r_getr X hT 15 4 20 fk_6_24 rfl rfl (by decide) dX6_become_125 ?_
  refine lv_iconst (v := 0) hx hb dX6_become_128 (by decide) ?_
  refine lv_aload_n hx hb dX6_become_129 rfl (lv_at hl 0 rfl) ?_
  refine r_getr X hT 27 4 32 fk_6_24 rfl rfl (by decide) dX6_become_130 ?_
  refine lv_iconst (v := 0) hx hb dX6_become_133 (by decide) ?_
  refine lv_bipush (v := 10) hx hb dX6_become_134 (by decide) ?_
  refine r_copyi X hT hS hl.1 20 32 rfl rfl (by decide) (by decide) gm_654 gm_656 gm_655 gm_123 (rg_k (by decide) : rg 0 0 0) (rg_k (by decide) : rg 0 0 0) (rg_k (by decide) : rg 10 10 10) (by decide) (Nat.le_of_ble_eq_true rfl) (by decide +kernel) dX6_become_136 (fun H locs i13 ei13 hT hS => ?_)
  have hR13 := Rg_cpy hR12 ei13 0 0 0 0 (fun _ => rfl) (fun _ => rfl) (by decide) (by decide)
  refine lv_aload_n hx hb dX6_become_139 rfl (lv_at hl 1 rfl) ?_
  refine r_getr X hT 15 5 21 fk_6_27 rfl rfl (by decide) dX6_become_140 ?_
  refine lv_iconst (v := 0) hx hb dX6_become_143 (by decide) ?_
  refine lv_aload_n hx hb dX6_become_144 rfl (lv_at hl 0 rfl) ?_
  refine r_getr X hT 27 5 33 fk_6_27 rfl rfl (by decide) dX6_become_145 ?_
  refine lv_iconst (v := 0) hx hb dX6_become_148 (by decide) ?_
  refine lv_bipush (v := 8) hx hb dX6_become_149 (by decide) ?_
  refine r_copyi X hT hS hl.1 21 33 rfl rfl (by decide) (by decide) gm_654 gm_656 gm_655 gm_123 (rg_k (by decide) : rg 0 0 0) (rg_k (by decide) : rg 0 0 0) (rg_k (by decide) : rg 8 8 8) (by decide) (Nat.le_of_ble_eq_true rfl) (by decide +kernel) dX6_become_151 (fun H locs i14 ei14 hT hS => ?_)
  have hR14 := Rg_cpy hR13 ei14 0 0 0 0 (fun _ => rfl) (fun _ => rfl) (by decide) (by decide)
  refine lv_aload_n hx hb dX6_become_154 rfl (lv_at hl 1 rfl) ?_
  refine r_getr X hT 15 6 22 fk_6_30 rfl rfl (by decide) dX6_become_155 ?_
  refine lv_iconst (v := 0) hx hb dX6_become_158 (by decide) ?_
  refine lv_aload_n hx hb dX6_become_159 rfl (lv_at hl 0 rfl) ?_
  refine r_getr X hT 27 6 34 fk_6_30 rfl rfl (by decide) dX6_become_160 ?_
  refine lv_iconst (v := 0) hx hb dX6_become_163 (by decide) ?_
  refine lv_bipush (v := 8) hx hb dX6_become_164 (by decide) ?_
  refine r_copyi X hT hS hl.1 22 34 rfl rfl (by decide) (by decide) gm_654 gm_656 gm_655 gm_123 (rg_k (by decide) : rg 0 0 0) (rg_k (by decide) : rg 0 0 0) (rg_k (by decide) : rg 8 8 8) (by decide) (Nat.le_of_ble_eq_true rfl) (by decide +kernel) dX6_become_166 (fun H locs i15 ei15 hT hS => ?_)
  have hR15 := Rg_cpy hR14 ei15 0 0 0 0 (fun _ => rfl) (fun _ => rfl) (by decide) (by decide)
  refine lv_aload_n hx hb dX6_become_169 rfl (lv_at hl 1 rfl) ?_
  refine r_getr X hT 15 7 23 fk_6_33 rfl rfl (by decide) dX6_become_170 ?_
  refine lv_iconst (v := 0) hx hb dX6_become_173 (by decide) ?_
  refine lv_aload_n hx hb dX6_become_174 rfl (lv_at hl 0 rfl) ?_
  refine r_getr X hT 27 7 35 fk_6_33 rfl rfl (by decide) dX6_become_175 ?_
  refine lv_iconst (v := 0) hx hb dX6_become_178 (by decide) ?_
  refine lv_bipush (v := 20) hx hb dX6_become_179 (by decide) ?_
  refine r_copyi X hT hS hl.1 23 35 rfl rfl (by decide) (by decide) gm_654 gm_656 gm_655 gm_123 (rg_k (by decide) : rg 0 0 0) (rg_k (by decide) : rg 0 0 0) (rg_k (by decide) : rg 20 20 20) (by decide) (Nat.le_of_ble_eq_true rfl) (by decide +kernel) dX6_become_181 (fun H locs i16 ei16 hT hS => ?_)
  have hR16 := Rg_cpy hR15 ei16 0 0 0 0 (fun _ => rfl) (fun _ => rfl) (by decide) (by decide)
  refine lv_aload_n hx hb dX6_become_184 rfl (lv_at hl 1 rfl) ?_
  refine r_getr X hT 15 8 24 fk_6_36 rfl rfl (by decide) dX6_become_185 ?_
  refine lv_iconst (v := 0) hx hb dX6_become_188 (by decide) ?_
  refine lv_aload_n hx hb dX6_become_189 rfl (lv_at hl 0 rfl) ?_
  refine r_getr X hT 27 8 36 fk_6_36 rfl rfl (by decide) dX6_become_190 ?_
  refine lv_iconst (v := 0) hx hb dX6_become_193 (by decide) ?_
  refine lv_bipush (v := 20) hx hb dX6_become_194 (by decide) ?_
  refine r_copyi X hT hS hl.1 24 36 rfl rfl (by decide) (by decide) gm_654 gm_656 gm_655 gm_123 (rg_k (by decide) : rg 0 0 0) (rg_k (by decide) : rg 0 0 0) (rg_k (by decide) : rg 20 20 20) (by decide) (Nat.le_of_ble_eq_true rfl) (by decide +kernel) dX6_become_196 (fun H locs i17 ei17 hT hS => ?_)
  have hR17 := Rg_cpy hR16 ei17 0 0 0 0 (fun _ => rfl) (fun _ => rfl) (by decide) (by decide)
  refine lv_aload_n hx hb dX6_become_199 rfl (lv_at hl 1 rfl) ?_
  refine r_getr X hT 15 9 25 fk_6_39 rfl rfl (by decide) dX6_become_200 ?_
  refine lv_iconst (v := 0) hx hb dX6_become_203 (by decide) ?_
  refine lv_aload_n hx hb dX6_become_204 rfl (lv_at hl 0 rfl) ?_
  refine r_getr X hT 27 9 37 fk_6_39 rfl rfl (by decide) dX6_become_205 ?_
  refine lv_iconst (v := 0) hx hb dX6_become_208 (by decide) ?_
  refine lv_bipush (v := 20) hx hb dX6_become_209 (by decide) ?_
  refine r_copyi X hT hS hl.1 25 37 rfl rfl (by decide) (by decide) gm_654 gm_656 gm_655 gm_123 (rg_k (by decide) : rg 0 0 0) (rg_k (by decide) : rg 0 0 0) (rg_k (by decide) : rg 20 20 20) (by decide) (Nat.le_of_ble_eq_true rfl) (by decide +kernel) dX6_become_211 (fun H locs i18 ei18 hT hS => ?_)
  have hR18 := Rg_cpy hR17 ei18 0 0 0 0 (fun _ => rfl) (fun _ => rfl) (by decide) (by decide)
  exact hret _ _ _ _ _ _ dX6_become_214 hT hS hR18

set_option maxRecDepth 100000 in
set_option maxHeartbeats 4000000 in
theorem k_X6_become_38_15 {l : Launch} {D : va_G} {h : Nat → Nat} {cz : Nat → ClassId} {i : Nat → Nat → Int32} {g : Nat → Nat → Int64} (hR : Rg rL i)  : CtV l yX6_become cX6_become 2 none ({ frames := 1, cells := 0, slots := 0, locals := 40 } : Room) D h cz i g [.ref (h 38), .ref (h 15)] (fun u => Rg rL u.1) := by
  refine k_V pn_X6_become (Nat.le_of_ble_eq_true rfl) ?_
  intro p e s m args below meth c ls Q X hret hT hl hS
  have hx := X.1
  have hb := X.2.1
  have hl : lv_has ls 2 [(0, .ref (h 38)), (1, .ref (h 15))] := hl
  refine lv_aload_n hx hb dX6_become_0 rfl (lv_at hl 0 rfl) ?_
  refine lv_aload_n hx hb dX6_become_1 rfl (lv_at hl 1 rfl) ?_
  refine r_geti X hT 15 10 fk_6_42 rfl rfl (by decide) dX6_become_2 ?_
  refine r_puti X hT hS 38 10 pk_6_42 rfl rfl rfl rfl (by decide) dX6_become_5 (fun H locs i1 ei1 hT hS => ?_)
  have hR1 := Rg_put hR ei1 0 0 rfl (Rg_at hR 15 10 0 0 (by decide) rfl) (by decide)
  refine lv_aload_n hx hb dX6_become_8 rfl (lv_at hl 0 rfl) ?_
  refine lv_aload_n hx hb dX6_become_9 rfl (lv_at hl 1 rfl) ?_
  refine r_geti X hT 15 11 fk_6_46 rfl rfl (by decide) dX6_become_10 ?_
  refine r_puti X hT hS 38 11 pk_6_46 rfl rfl rfl rfl (by decide) dX6_become_13 (fun H locs i2 ei2 hT hS => ?_)
  have hR2 := Rg_put hR1 ei2 0 0 rfl (Rg_at hR1 15 11 0 0 (by decide) rfl) (by decide)
  refine lv_aload_n hx hb dX6_become_16 rfl (lv_at hl 0 rfl) ?_
  refine lv_aload_n hx hb dX6_become_17 rfl (lv_at hl 1 rfl) ?_
  refine r_geti X hT 15 12 fk_6_49 rfl rfl (by decide) dX6_become_18 ?_
  refine r_puti X hT hS 38 12 pk_6_49 rfl rfl rfl rfl (by decide) dX6_become_21 (fun H locs i3 ei3 hT hS => ?_)
  have hR3 := Rg_put hR2 ei3 0 0 rfl (Rg_at hR2 15 12 0 0 (by decide) rfl) (by decide)
  refine lv_aload_n hx hb dX6_become_24 rfl (lv_at hl 0 rfl) ?_
  refine lv_aload_n hx hb dX6_become_25 rfl (lv_at hl 1 rfl) ?_
  refine r_geti X hT 15 13 fk_6_52 rfl rfl (by decide) dX6_become_26 ?_
  refine r_puti X hT hS 38 13 pk_6_52 rfl rfl rfl rfl (by decide) dX6_become_29 (fun H locs i4 ei4 hT hS => ?_)
  have hR4 := Rg_put hR3 ei4 0 0 rfl (Rg_at hR3 15 13 0 0 (by decide) rfl) (by decide)
  refine lv_aload_n hx hb dX6_become_32 rfl (lv_at hl 0 rfl) ?_
  refine lv_aload_n hx hb dX6_become_33 rfl (lv_at hl 1 rfl) ?_
  refine r_geti X hT 15 14 fk_6_55 rfl rfl (by decide) dX6_become_34 ?_
  refine r_puti X hT hS 38 14 pk_6_55 rfl rfl rfl rfl (by decide) dX6_become_37 (fun H locs i5 ei5 hT hS => ?_)
  have hR5 := Rg_put hR4 ei5 0 0 rfl (Rg_at hR4 15 14 0 0 (by decide) rfl) (by decide)
  refine lv_aload_n hx hb dX6_become_40 rfl (lv_at hl 0 rfl) ?_
  refine lv_aload_n hx hb dX6_become_41 rfl (lv_at hl 1 rfl) ?_
  refine r_geti X hT 15 15 fk_6_58 rfl rfl (by decide) dX6_become_42 ?_
  refine r_puti X hT hS 38 15 pk_6_58 rfl rfl rfl rfl (by decide) dX6_become_45 (fun H locs i6 ei6 hT hS => ?_)
  have hR6 := Rg_put hR5 ei6 0 0 rfl (Rg_at hR5 15 15 0 0 (by decide) rfl) (by decide)
  refine lv_aload_n hx hb dX6_become_48 rfl (lv_at hl 0 rfl) ?_
  refine lv_aload_n hx hb dX6_become_49 rfl (lv_at hl 1 rfl) ?_
  refine r_geti X hT 15 16 fk_6_61 rfl rfl (by decide) dX6_become_50 ?_
  refine r_puti X hT hS 38 16 pk_6_61 rfl rfl rfl rfl (by decide) dX6_become_53 (fun H locs i7 ei7 hT hS => ?_)
  have hR7 := Rg_put hR6 ei7 0 0 rfl (Rg_at hR6 15 16 0 0 (by decide) rfl) (by decide)
  refine lv_aload_n hx hb dX6_become_56 rfl (lv_at hl 0 rfl) ?_
  refine lv_aload_n hx hb dX6_become_57 rfl (lv_at hl 1 rfl) ?_
  refine r_geti X hT 15 17 fk_6_64 rfl rfl (by decide) dX6_become_58 ?_
  refine r_puti X hT hS 38 17 pk_6_64 rfl rfl rfl rfl (by decide) dX6_become_61 (fun H locs i8 ei8 hT hS => ?_)
  have hR8 := Rg_put hR7 ei8 0 0 rfl (Rg_at hR7 15 17 0 0 (by decide) rfl) (by decide)
  refine lv_aload_n hx hb dX6_become_64 rfl (lv_at hl 1 rfl) ?_
  refine r_getr X hT 15 0 16 fk_6_9 rfl rfl (by decide) dX6_become_65 ?_
  refine lv_iconst (v := 0) hx hb dX6_become_68 (by decide) ?_
  refine lv_aload_n hx hb dX6_become_69 rfl (lv_at hl 0 rfl) ?_
  refine r_getr X hT 38 0 39 fk_6_9 rfl rfl (by decide) dX6_become_70 ?_
  refine lv_iconst (v := 0) hx hb dX6_become_73 (by decide) ?_
  refine lv_bipush (v := 6) hx hb dX6_become_74 (by decide) ?_
  refine r_copyi X hT hS hl.1 16 39 rfl rfl (by decide) (by decide) gm_654 gm_656 gm_655 gm_123 (rg_k (by decide) : rg 0 0 0) (rg_k (by decide) : rg 0 0 0) (rg_k (by decide) : rg 6 6 6) (by decide) (Nat.le_of_ble_eq_true rfl) (by decide +kernel) dX6_become_76 (fun H locs i9 ei9 hT hS => ?_)
  have hR9 := Rg_cpy hR8 ei9 0 0 0 0 (fun _ => rfl) (fun _ => rfl) (by decide) (by decide)
  refine lv_aload_n hx hb dX6_become_79 rfl (lv_at hl 1 rfl) ?_
  refine r_getr X hT 15 1 17 fk_6_15 rfl rfl (by decide) dX6_become_80 ?_
  refine lv_iconst (v := 0) hx hb dX6_become_83 (by decide) ?_
  refine lv_aload_n hx hb dX6_become_84 rfl (lv_at hl 0 rfl) ?_
  refine r_getr X hT 38 1 40 fk_6_15 rfl rfl (by decide) dX6_become_85 ?_
  refine lv_iconst (v := 0) hx hb dX6_become_88 (by decide) ?_
  refine lv_bipush (v := 6) hx hb dX6_become_89 (by decide) ?_
  refine r_copyi X hT hS hl.1 17 40 rfl rfl (by decide) (by decide) gm_654 gm_656 gm_655 gm_123 (rg_k (by decide) : rg 0 0 0) (rg_k (by decide) : rg 0 0 0) (rg_k (by decide) : rg 6 6 6) (by decide) (Nat.le_of_ble_eq_true rfl) (by decide +kernel) dX6_become_91 (fun H locs i10 ei10 hT hS => ?_)
  have hR10 := Rg_cpy hR9 ei10 0 0 0 0 (fun _ => rfl) (fun _ => rfl) (by decide) (by decide)
  refine lv_aload_n hx hb dX6_become_94 rfl (lv_at hl 1 rfl) ?_
  refine r_getr X hT 15 2 18 fk_6_18 rfl rfl (by decide) dX6_become_95 ?_
  refine lv_iconst (v := 0) hx hb dX6_become_98 (by decide) ?_
  refine lv_aload_n hx hb dX6_become_99 rfl (lv_at hl 0 rfl) ?_
  refine r_getr X hT 38 2 41 fk_6_18 rfl rfl (by decide) dX6_become_100 ?_
  refine lv_iconst (v := 0) hx hb dX6_become_103 (by decide) ?_
  refine lv_bipush (v := 6) hx hb dX6_become_104 (by decide) ?_
  refine r_copyi X hT hS hl.1 18 41 rfl rfl (by decide) (by decide) gm_654 gm_656 gm_655 gm_123 (rg_k (by decide) : rg 0 0 0) (rg_k (by decide) : rg 0 0 0) (rg_k (by decide) : rg 6 6 6) (by decide) (Nat.le_of_ble_eq_true rfl) (by decide +kernel) dX6_become_106 (fun H locs i11 ei11 hT hS => ?_)
  have hR11 := Rg_cpy hR10 ei11 0 0 0 0 (fun _ => rfl) (fun _ => rfl) (by decide) (by decide)
  refine lv_aload_n hx hb dX6_become_109 rfl (lv_at hl 1 rfl) ?_
  refine r_getr X hT 15 3 19 fk_6_21 rfl rfl (by decide) dX6_become_110 ?_
  refine lv_iconst (v := 0) hx hb dX6_become_113 (by decide) ?_
  refine lv_aload_n hx hb dX6_become_114 rfl (lv_at hl 0 rfl) ?_
  refine r_getr X hT 38 3 42 fk_6_21 rfl rfl (by decide) dX6_become_115 ?_
  refine lv_iconst (v := 0) hx hb dX6_become_118 (by decide) ?_
  refine lv_bipush (v := 10) hx hb dX6_become_119 (by decide) ?_
  refine r_copyi X hT hS hl.1 19 42 rfl rfl (by decide) (by decide) gm_654 gm_656 gm_655 gm_123 (rg_k (by decide) : rg 0 0 0) (rg_k (by decide) : rg 0 0 0) (rg_k (by decide) : rg 10 10 10) (by decide) (Nat.le_of_ble_eq_true rfl) (by decide +kernel) dX6_become_121 (fun H locs i12 ei12 hT hS => ?_)
  have hR12 := Rg_cpy hR11 ei12 0 0 0 0 (fun _ => rfl) (fun _ => rfl) (by decide) (by decide)
  refine lv_aload_n hx hb dX6_become_124 rfl (lv_at hl 1 rfl) ?_
  refine r_getr X hT 15 4 20 fk_6_24 rfl rfl (by decide) dX6_become_125 ?_
  refine lv_iconst (v := 0) hx hb dX6_become_128 (by decide) ?_
  refine lv_aload_n hx hb dX6_become_129 rfl (lv_at hl 0 rfl) ?_
  refine r_getr X hT 38 4 43 fk_6_24 rfl rfl (by decide) dX6_become_130 ?_
  refine lv_iconst (v := 0) hx hb dX6_become_133 (by decide) ?_
  refine lv_bipush (v := 10) hx hb dX6_become_134 (by decide) ?_
  refine r_copyi X hT hS hl.1 20 43 rfl rfl (by decide) (by decide) gm_654 gm_656 gm_655 gm_123 (rg_k (by decide) : rg 0 0 0) (rg_k (by decide) : rg 0 0 0) (rg_k (by decide) : rg 10 10 10) (by decide) (Nat.le_of_ble_eq_true rfl) (by decide +kernel) dX6_become_136 (fun H locs i13 ei13 hT hS => ?_)
  have hR13 := Rg_cpy hR12 ei13 0 0 0 0 (fun _ => rfl) (fun _ => rfl) (by decide) (by decide)
  refine lv_aload_n hx hb dX6_become_139 rfl (lv_at hl 1 rfl) ?_
  refine r_getr X hT 15 5 21 fk_6_27 rfl rfl (by decide) dX6_become_140 ?_
  refine lv_iconst (v := 0) hx hb dX6_become_143 (by decide) ?_
  refine lv_aload_n hx hb dX6_become_144 rfl (lv_at hl 0 rfl) ?_
  refine r_getr X hT 38 5 44 fk_6_27 rfl rfl (by decide) dX6_become_145 ?_
  refine lv_iconst (v := 0) hx hb dX6_become_148 (by decide) ?_
  refine lv_bipush (v := 8) hx hb dX6_become_149 (by decide) ?_
  refine r_copyi X hT hS hl.1 21 44 rfl rfl (by decide) (by decide) gm_654 gm_656 gm_655 gm_123 (rg_k (by decide) : rg 0 0 0) (rg_k (by decide) : rg 0 0 0) (rg_k (by decide) : rg 8 8 8) (by decide) (Nat.le_of_ble_eq_true rfl) (by decide +kernel) dX6_become_151 (fun H locs i14 ei14 hT hS => ?_)
  have hR14 := Rg_cpy hR13 ei14 0 0 0 0 (fun _ => rfl) (fun _ => rfl) (by decide) (by decide)
  refine lv_aload_n hx hb dX6_become_154 rfl (lv_at hl 1 rfl) ?_
  refine r_getr X hT 15 6 22 fk_6_30 rfl rfl (by decide) dX6_become_155 ?_
  refine lv_iconst (v := 0) hx hb dX6_become_158 (by decide) ?_
  refine lv_aload_n hx hb dX6_become_159 rfl (lv_at hl 0 rfl) ?_
  refine r_getr X hT 38 6 45 fk_6_30 rfl rfl (by decide) dX6_become_160 ?_
  refine lv_iconst (v := 0) hx hb dX6_become_163 (by decide) ?_
  refine lv_bipush (v := 8) hx hb dX6_become_164 (by decide) ?_
  refine r_copyi X hT hS hl.1 22 45 rfl rfl (by decide) (by decide) gm_654 gm_656 gm_655 gm_123 (rg_k (by decide) : rg 0 0 0) (rg_k (by decide) : rg 0 0 0) (rg_k (by decide) : rg 8 8 8) (by decide) (Nat.le_of_ble_eq_true rfl) (by decide +kernel) dX6_become_166 (fun H locs i15 ei15 hT hS => ?_)
  have hR15 := Rg_cpy hR14 ei15 0 0 0 0 (fun _ => rfl) (fun _ => rfl) (by decide) (by decide)
  refine lv_aload_n hx hb dX6_become_169 rfl (lv_at hl 1 rfl) ?_
  refine r_getr X hT 15 7 23 fk_6_33 rfl rfl (by decide) dX6_become_170 ?_
  refine lv_iconst (v := 0) hx hb dX6_become_173 (by decide) ?_
  refine lv_aload_n hx hb dX6_become_174 rfl (lv_at hl 0 rfl) ?_
  refine r_getr X hT 38 7 46 fk_6_33 rfl rfl (by decide) dX6_become_175 ?_
  refine lv_iconst (v := 0) hx hb dX6_become_178 (by decide) ?_
  refine lv_bipush (v := 20) hx hb dX6_become_179 (by decide) ?_
  refine r_copyi X hT hS hl.1 23 46 rfl rfl (by decide) (by decide) gm_654 gm_656 gm_655 gm_123 (rg_k (by decide) : rg 0 0 0) (rg_k (by decide) : rg 0 0 0) (rg_k (by decide) : rg 20 20 20) (by decide) (Nat.le_of_ble_eq_true rfl) (by decide +kernel) dX6_become_181 (fun H locs i16 ei16 hT hS => ?_)
  have hR16 := Rg_cpy hR15 ei16 0 0 0 0 (fun _ => rfl) (fun _ => rfl) (by decide) (by decide)
  refine lv_aload_n hx hb dX6_become_184 rfl (lv_at hl 1 rfl) ?_
  refine r_getr X hT 15 8 24 fk_6_36 rfl rfl (by decide) dX6_become_185 ?_
  refine lv_iconst (v := 0) hx hb dX6_become_188 (by decide) ?_
  refine lv_aload_n hx hb dX6_become_189 rfl (lv_at hl 0 rfl) ?_
  refine r_getr X hT 38 8 47 fk_6_36 rfl rfl (by decide) dX6_become_190 ?_
  refine lv_iconst (v := 0) hx hb dX6_become_193 (by decide) ?_
  refine lv_bipush (v := 20) hx hb dX6_become_194 (by decide) ?_
  refine r_copyi X hT hS hl.1 24 47 rfl rfl (by decide) (by decide) gm_654 gm_656 gm_655 gm_123 (rg_k (by decide) : rg 0 0 0) (rg_k (by decide) : rg 0 0 0) (rg_k (by decide) : rg 20 20 20) (by decide) (Nat.le_of_ble_eq_true rfl) (by decide +kernel) dX6_become_196 (fun H locs i17 ei17 hT hS => ?_)
  have hR17 := Rg_cpy hR16 ei17 0 0 0 0 (fun _ => rfl) (fun _ => rfl) (by decide) (by decide)
  refine lv_aload_n hx hb dX6_become_199 rfl (lv_at hl 1 rfl) ?_
  refine r_getr X hT 15 9 25 fk_6_39 rfl rfl (by decide) dX6_become_200 ?_
  refine lv_iconst (v := 0) hx hb dX6_become_203 (by decide) ?_
  refine lv_aload_n hx hb dX6_become_204 rfl (lv_at hl 0 rfl) ?_
  refine r_getr X hT 38 9 48 fk_6_39 rfl rfl (by decide) dX6_become_205 ?_
  refine lv_iconst (v := 0) hx hb dX6_become_208 (by decide) ?_
  refine lv_bipush (v := 20) hx hb dX6_become_209 (by decide) ?_
  refine r_copyi X hT hS hl.1 25 48 rfl rfl (by decide) (by decide) gm_654 gm_656 gm_655 gm_123 (rg_k (by decide) : rg 0 0 0) (rg_k (by decide) : rg 0 0 0) (rg_k (by decide) : rg 20 20 20) (by decide) (Nat.le_of_ble_eq_true rfl) (by decide +kernel) dX6_become_211 (fun H locs i18 ei18 hT hS => ?_)
  have hR18 := Rg_cpy hR17 ei18 0 0 0 0 (fun _ => rfl) (fun _ => rfl) (by decide) (by decide)
  exact hret _ _ _ _ _ _ dX6_become_214 hT hS hR18

set_option maxRecDepth 100000 in
set_option maxHeartbeats 4000000 in
theorem k_X6_become_49_15 {l : Launch} {D : va_G} {h : Nat → Nat} {cz : Nat → ClassId} {i : Nat → Nat → Int32} {g : Nat → Nat → Int64} (hR : Rg rL i)  : CtV l yX6_become cX6_become 2 none ({ frames := 1, cells := 0, slots := 0, locals := 40 } : Room) D h cz i g [.ref (h 49), .ref (h 15)] (fun u => Rg rL u.1) := by
  refine k_V pn_X6_become (Nat.le_of_ble_eq_true rfl) ?_
  intro p e s m args below meth c ls Q X hret hT hl hS
  have hx := X.1
  have hb := X.2.1
  have hl : lv_has ls 2 [(0, .ref (h 49)), (1, .ref (h 15))] := hl
  refine lv_aload_n hx hb dX6_become_0 rfl (lv_at hl 0 rfl) ?_
  refine lv_aload_n hx hb dX6_become_1 rfl (lv_at hl 1 rfl) ?_
  refine r_geti X hT 15 10 fk_6_42 rfl rfl (by decide) dX6_become_2 ?_
  refine r_puti X hT hS 49 10 pk_6_42 rfl rfl rfl rfl (by decide) dX6_become_5 (fun H locs i1 ei1 hT hS => ?_)
  have hR1 := Rg_put hR ei1 0 0 rfl (Rg_at hR 15 10 0 0 (by decide) rfl) (by decide)
  refine lv_aload_n hx hb dX6_become_8 rfl (lv_at hl 0 rfl) ?_
  refine lv_aload_n hx hb dX6_become_9 rfl (lv_at hl 1 rfl) ?_
  refine r_geti X hT 15 11 fk_6_46 rfl rfl (by decide) dX6_become_10 ?_
  refine r_puti X hT hS 49 11 pk_6_46 rfl rfl rfl rfl (by decide) dX6_become_13 (fun H locs i2 ei2 hT hS => ?_)
  have hR2 := Rg_put hR1 ei2 0 0 rfl (Rg_at hR1 15 11 0 0 (by decide) rfl) (by decide)
  refine lv_aload_n hx hb dX6_become_16 rfl (lv_at hl 0 rfl) ?_
  refine lv_aload_n hx hb dX6_become_17 rfl (lv_at hl 1 rfl) ?_
  refine r_geti X hT 15 12 fk_6_49 rfl rfl (by decide) dX6_become_18 ?_
  refine r_puti X hT hS 49 12 pk_6_49 rfl rfl rfl rfl (by decide) dX6_become_21 (fun H locs i3 ei3 hT hS => ?_)
  have hR3 := Rg_put hR2 ei3 0 0 rfl (Rg_at hR2 15 12 0 0 (by decide) rfl) (by decide)
  refine lv_aload_n hx hb dX6_become_24 rfl (lv_at hl 0 rfl) ?_
  refine lv_aload_n hx hb dX6_become_25 rfl (lv_at hl 1 rfl) ?_
  refine r_geti X hT 15 13 fk_6_52 rfl rfl (by decide) dX6_become_26 ?_
  refine r_puti X hT hS 49 13 pk_6_52 rfl rfl rfl rfl (by decide) dX6_become_29 (fun H locs i4 ei4 hT hS => ?_)
  have hR4 := Rg_put hR3 ei4 0 0 rfl (Rg_at hR3 15 13 0 0 (by decide) rfl) (by decide)
  refine lv_aload_n hx hb dX6_become_32 rfl (lv_at hl 0 rfl) ?_
  refine lv_aload_n hx hb dX6_become_33 rfl (lv_at hl 1 rfl) ?_
  refine r_geti X hT 15 14 fk_6_55 rfl rfl (by decide) dX6_become_34 ?_
  refine r_puti X hT hS 49 14 pk_6_55 rfl rfl rfl rfl (by decide) dX6_become_37 (fun H locs i5 ei5 hT hS => ?_)
  have hR5 := Rg_put hR4 ei5 0 0 rfl (Rg_at hR4 15 14 0 0 (by decide) rfl) (by decide)
  refine lv_aload_n hx hb dX6_become_40 rfl (lv_at hl 0 rfl) ?_
  refine lv_aload_n hx hb dX6_become_41 rfl (lv_at hl 1 rfl) ?_
  refine r_geti X hT 15 15 fk_6_58 rfl rfl (by decide) dX6_become_42 ?_
  refine r_puti X hT hS 49 15 pk_6_58 rfl rfl rfl rfl (by decide) dX6_become_45 (fun H locs i6 ei6 hT hS => ?_)
  have hR6 := Rg_put hR5 ei6 0 0 rfl (Rg_at hR5 15 15 0 0 (by decide) rfl) (by decide)
  refine lv_aload_n hx hb dX6_become_48 rfl (lv_at hl 0 rfl) ?_
  refine lv_aload_n hx hb dX6_become_49 rfl (lv_at hl 1 rfl) ?_
  refine r_geti X hT 15 16 fk_6_61 rfl rfl (by decide) dX6_become_50 ?_
  refine r_puti X hT hS 49 16 pk_6_61 rfl rfl rfl rfl (by decide) dX6_become_53 (fun H locs i7 ei7 hT hS => ?_)
  have hR7 := Rg_put hR6 ei7 0 0 rfl (Rg_at hR6 15 16 0 0 (by decide) rfl) (by decide)
  refine lv_aload_n hx hb dX6_become_56 rfl (lv_at hl 0 rfl) ?_
  refine lv_aload_n hx hb dX6_become_57 rfl (lv_at hl 1 rfl) ?_
  refine r_geti X hT 15 17 fk_6_64 rfl rfl (by decide) dX6_become_58 ?_
  refine r_puti X hT hS 49 17 pk_6_64 rfl rfl rfl rfl (by decide) dX6_become_61 (fun H locs i8 ei8 hT hS => ?_)
  have hR8 := Rg_put hR7 ei8 0 0 rfl (Rg_at hR7 15 17 0 0 (by decide) rfl) (by decide)
  refine lv_aload_n hx hb dX6_become_64 rfl (lv_at hl 1 rfl) ?_
  refine r_getr X hT 15 0 16 fk_6_9 rfl rfl (by decide) dX6_become_65 ?_
  refine lv_iconst (v := 0) hx hb dX6_become_68 (by decide) ?_
  refine lv_aload_n hx hb dX6_become_69 rfl (lv_at hl 0 rfl) ?_
  refine r_getr X hT 49 0 50 fk_6_9 rfl rfl (by decide) dX6_become_70 ?_
  refine lv_iconst (v := 0) hx hb dX6_become_73 (by decide) ?_
  refine lv_bipush (v := 6) hx hb dX6_become_74 (by decide) ?_
  refine r_copyi X hT hS hl.1 16 50 rfl rfl (by decide) (by decide) gm_654 gm_656 gm_655 gm_123 (rg_k (by decide) : rg 0 0 0) (rg_k (by decide) : rg 0 0 0) (rg_k (by decide) : rg 6 6 6) (by decide) (Nat.le_of_ble_eq_true rfl) (by decide +kernel) dX6_become_76 (fun H locs i9 ei9 hT hS => ?_)
  have hR9 := Rg_cpy hR8 ei9 0 0 0 0 (fun _ => rfl) (fun _ => rfl) (by decide) (by decide)
  refine lv_aload_n hx hb dX6_become_79 rfl (lv_at hl 1 rfl) ?_
  refine r_getr X hT 15 1 17 fk_6_15 rfl rfl (by decide) dX6_become_80 ?_
  refine lv_iconst (v := 0) hx hb dX6_become_83 (by decide) ?_
  refine lv_aload_n hx hb dX6_become_84 rfl (lv_at hl 0 rfl) ?_
  refine r_getr X hT 49 1 51 fk_6_15 rfl rfl (by decide) dX6_become_85 ?_
  refine lv_iconst (v := 0) hx hb dX6_become_88 (by decide) ?_
  refine lv_bipush (v := 6) hx hb dX6_become_89 (by decide) ?_
  refine r_copyi X hT hS hl.1 17 51 rfl rfl (by decide) (by decide) gm_654 gm_656 gm_655 gm_123 (rg_k (by decide) : rg 0 0 0) (rg_k (by decide) : rg 0 0 0) (rg_k (by decide) : rg 6 6 6) (by decide) (Nat.le_of_ble_eq_true rfl) (by decide +kernel) dX6_become_91 (fun H locs i10 ei10 hT hS => ?_)
  have hR10 := Rg_cpy hR9 ei10 0 0 0 0 (fun _ => rfl) (fun _ => rfl) (by decide) (by decide)
  refine lv_aload_n hx hb dX6_become_94 rfl (lv_at hl 1 rfl) ?_
  refine r_getr X hT 15 2 18 fk_6_18 rfl rfl (by decide) dX6_become_95 ?_
  refine lv_iconst (v := 0) hx hb dX6_become_98 (by decide) ?_
  refine lv_aload_n hx hb dX6_become_99 rfl (lv_at hl 0 rfl) ?_
  refine r_getr X hT 49 2 52 fk_6_18 rfl rfl (by decide) dX6_become_100 ?_
  refine lv_iconst (v := 0) hx hb dX6_become_103 (by decide) ?_
  refine lv_bipush (v := 6) hx hb dX6_become_104 (by decide) ?_
  refine r_copyi X hT hS hl.1 18 52 rfl rfl (by decide) (by decide) gm_654 gm_656 gm_655 gm_123 (rg_k (by decide) : rg 0 0 0) (rg_k (by decide) : rg 0 0 0) (rg_k (by decide) : rg 6 6 6) (by decide) (Nat.le_of_ble_eq_true rfl) (by decide +kernel) dX6_become_106 (fun H locs i11 ei11 hT hS => ?_)
  have hR11 := Rg_cpy hR10 ei11 0 0 0 0 (fun _ => rfl) (fun _ => rfl) (by decide) (by decide)
  refine lv_aload_n hx hb dX6_become_109 rfl (lv_at hl 1 rfl) ?_
  refine r_getr X hT 15 3 19 fk_6_21 rfl rfl (by decide) dX6_become_110 ?_
  refine lv_iconst (v := 0) hx hb dX6_become_113 (by decide) ?_
  refine lv_aload_n hx hb dX6_become_114 rfl (lv_at hl 0 rfl) ?_
  refine r_getr X hT 49 3 53 fk_6_21 rfl rfl (by decide) dX6_become_115 ?_
  refine lv_iconst (v := 0) hx hb dX6_become_118 (by decide) ?_
  refine lv_bipush (v := 10) hx hb dX6_become_119 (by decide) ?_
  refine r_copyi X hT hS hl.1 19 53 rfl rfl (by decide) (by decide) gm_654 gm_656 gm_655 gm_123 (rg_k (by decide) : rg 0 0 0) (rg_k (by decide) : rg 0 0 0) (rg_k (by decide) : rg 10 10 10) (by decide) (Nat.le_of_ble_eq_true rfl) (by decide +kernel) dX6_become_121 (fun H locs i12 ei12 hT hS => ?_)
  have hR12 := Rg_cpy hR11 ei12 0 0 0 0 (fun _ => rfl) (fun _ => rfl) (by decide) (by decide)
  refine lv_aload_n hx hb dX6_become_124 rfl (lv_at hl 1 rfl) ?_
  refine r_getr X hT 15 4 20 fk_6_24 rfl rfl (by decide) dX6_become_125 ?_
  refine lv_iconst (v := 0) hx hb dX6_become_128 (by decide) ?_
  refine lv_aload_n hx hb dX6_become_129 rfl (lv_at hl 0 rfl) ?_
  refine r_getr X hT 49 4 54 fk_6_24 rfl rfl (by decide) dX6_become_130 ?_
  refine lv_iconst (v := 0) hx hb dX6_become_133 (by decide) ?_
  refine lv_bipush (v := 10) hx hb dX6_become_134 (by decide) ?_
  refine r_copyi X hT hS hl.1 20 54 rfl rfl (by decide) (by decide) gm_654 gm_656 gm_655 gm_123 (rg_k (by decide) : rg 0 0 0) (rg_k (by decide) : rg 0 0 0) (rg_k (by decide) : rg 10 10 10) (by decide) (Nat.le_of_ble_eq_true rfl) (by decide +kernel) dX6_become_136 (fun H locs i13 ei13 hT hS => ?_)
  have hR13 := Rg_cpy hR12 ei13 0 0 0 0 (fun _ => rfl) (fun _ => rfl) (by decide) (by decide)
  refine lv_aload_n hx hb dX6_become_139 rfl (lv_at hl 1 rfl) ?_
  refine r_getr X hT 15 5 21 fk_6_27 rfl rfl (by decide) dX6_become_140 ?_
  refine lv_iconst (v := 0) hx hb dX6_become_143 (by decide) ?_
  refine lv_aload_n hx hb dX6_become_144 rfl (lv_at hl 0 rfl) ?_
  refine r_getr X hT 49 5 55 fk_6_27 rfl rfl (by decide) dX6_become_145 ?_
  refine lv_iconst (v := 0) hx hb dX6_become_148 (by decide) ?_
  refine lv_bipush (v := 8) hx hb dX6_become_149 (by decide) ?_
  refine r_copyi X hT hS hl.1 21 55 rfl rfl (by decide) (by decide) gm_654 gm_656 gm_655 gm_123 (rg_k (by decide) : rg 0 0 0) (rg_k (by decide) : rg 0 0 0) (rg_k (by decide) : rg 8 8 8) (by decide) (Nat.le_of_ble_eq_true rfl) (by decide +kernel) dX6_become_151 (fun H locs i14 ei14 hT hS => ?_)
  have hR14 := Rg_cpy hR13 ei14 0 0 0 0 (fun _ => rfl) (fun _ => rfl) (by decide) (by decide)
  refine lv_aload_n hx hb dX6_become_154 rfl (lv_at hl 1 rfl) ?_
  refine r_getr X hT 15 6 22 fk_6_30 rfl rfl (by decide) dX6_become_155 ?_
  refine lv_iconst (v := 0) hx hb dX6_become_158 (by decide) ?_
  refine lv_aload_n hx hb dX6_become_159 rfl (lv_at hl 0 rfl) ?_
  refine r_getr X hT 49 6 56 fk_6_30 rfl rfl (by decide) dX6_become_160 ?_
  refine lv_iconst (v := 0) hx hb dX6_become_163 (by decide) ?_
  refine lv_bipush (v := 8) hx hb dX6_become_164 (by decide) ?_
  refine r_copyi X hT hS hl.1 22 56 rfl rfl (by decide) (by decide) gm_654 gm_656 gm_655 gm_123 (rg_k (by decide) : rg 0 0 0) (rg_k (by decide) : rg 0 0 0) (rg_k (by decide) : rg 8 8 8) (by decide) (Nat.le_of_ble_eq_true rfl) (by decide +kernel) dX6_become_166 (fun H locs i15 ei15 hT hS => ?_)
  have hR15 := Rg_cpy hR14 ei15 0 0 0 0 (fun _ => rfl) (fun _ => rfl) (by decide) (by decide)
  refine lv_aload_n hx hb dX6_become_169 rfl (lv_at hl 1 rfl) ?_
  refine r_getr X hT 15 7 23 fk_6_33 rfl rfl (by decide) dX6_become_170 ?_
  refine lv_iconst (v := 0) hx hb dX6_become_173 (by decide) ?_
  refine lv_aload_n hx hb dX6_become_174 rfl (lv_at hl 0 rfl) ?_
  refine r_getr X hT 49 7 57 fk_6_33 rfl rfl (by decide) dX6_become_175 ?_
  refine lv_iconst (v := 0) hx hb dX6_become_178 (by decide) ?_
  refine lv_bipush (v := 20) hx hb dX6_become_179 (by decide) ?_
  refine r_copyi X hT hS hl.1 23 57 rfl rfl (by decide) (by decide) gm_654 gm_656 gm_655 gm_123 (rg_k (by decide) : rg 0 0 0) (rg_k (by decide) : rg 0 0 0) (rg_k (by decide) : rg 20 20 20) (by decide) (Nat.le_of_ble_eq_true rfl) (by decide +kernel) dX6_become_181 (fun H locs i16 ei16 hT hS => ?_)
  have hR16 := Rg_cpy hR15 ei16 0 0 0 0 (fun _ => rfl) (fun _ => rfl) (by decide) (by decide)
  refine lv_aload_n hx hb dX6_become_184 rfl (lv_at hl 1 rfl) ?_
  refine r_getr X hT 15 8 24 fk_6_36 rfl rfl (by decide) dX6_become_185 ?_
  refine lv_iconst (v := 0) hx hb dX6_become_188 (by decide) ?_
  refine lv_aload_n hx hb dX6_become_189 rfl (lv_at hl 0 rfl) ?_
  refine r_getr X hT 49 8 58 fk_6_36 rfl rfl (by decide) dX6_become_190 ?_
  refine lv_iconst (v := 0) hx hb dX6_become_193 (by decide) ?_
  refine lv_bipush (v := 20) hx hb dX6_become_194 (by decide) ?_
  refine r_copyi X hT hS hl.1 24 58 rfl rfl (by decide) (by decide) gm_654 gm_656 gm_655 gm_123 (rg_k (by decide) : rg 0 0 0) (rg_k (by decide) : rg 0 0 0) (rg_k (by decide) : rg 20 20 20) (by decide) (Nat.le_of_ble_eq_true rfl) (by decide +kernel) dX6_become_196 (fun H locs i17 ei17 hT hS => ?_)
  have hR17 := Rg_cpy hR16 ei17 0 0 0 0 (fun _ => rfl) (fun _ => rfl) (by decide) (by decide)
  refine lv_aload_n hx hb dX6_become_199 rfl (lv_at hl 1 rfl) ?_
  refine r_getr X hT 15 9 25 fk_6_39 rfl rfl (by decide) dX6_become_200 ?_
  refine lv_iconst (v := 0) hx hb dX6_become_203 (by decide) ?_
  refine lv_aload_n hx hb dX6_become_204 rfl (lv_at hl 0 rfl) ?_
  refine r_getr X hT 49 9 59 fk_6_39 rfl rfl (by decide) dX6_become_205 ?_
  refine lv_iconst (v := 0) hx hb dX6_become_208 (by decide) ?_
  refine lv_bipush (v := 20) hx hb dX6_become_209 (by decide) ?_
  refine r_copyi X hT hS hl.1 25 59 rfl rfl (by decide) (by decide) gm_654 gm_656 gm_655 gm_123 (rg_k (by decide) : rg 0 0 0) (rg_k (by decide) : rg 0 0 0) (rg_k (by decide) : rg 20 20 20) (by decide) (Nat.le_of_ble_eq_true rfl) (by decide +kernel) dX6_become_211 (fun H locs i18 ei18 hT hS => ?_)
  have hR18 := Rg_cpy hR17 ei18 0 0 0 0 (fun _ => rfl) (fun _ => rfl) (by decide) (by decide)
  exact hret _ _ _ _ _ _ dX6_become_214 hT hS hR18

set_option maxRecDepth 100000 in
set_option maxHeartbeats 4000000 in
theorem k_X8_image {l : Launch} {D : va_G} {h : Nat → Nat} {cz : Nat → ClassId} {i : Nat → Nat → Int32} {g : Nat → Nat → Int64} (hR : Rg rL i) (a_a : Int32) : CtI l yX8_image cX8_image 2 (some .int) ({ frames := 2, cells := 0, slots := 0, locals := 61 } : Room) D h cz i g [.ref (h 0), .int a_a] (fun r u => (Rg rL u.1 ∧ r = 0 ∧ rg 0 2 a_a) ∨ (Rg rL u.1 ∧ r = (-2) ∧ (a_a.toInt < 0 ∨ 2 < a_a.toInt))) := by
  refine k_I pn_X8_image (Nat.le_of_ble_eq_true rfl) ?_
  intro p e s m args below meth c ls Q X hret hT hl hS
  have hx := X.1
  have hb := X.2.1
  have hl : lv_has ls 2 [(0, .ref (h 0)), (1, .int a_a)] := hl
  refine lv_iload_n hx hb dX8_image_0 rfl (lv_at hl 1 rfl) ?_
  refine lv_if_lt (tgt := 9) hx hb dX8_image_1 (by decide) (fun c1 => ?_) (fun c1 => ?_)
  ·
    have q1 : a_a.toInt < 0 := i_lt c1
    have h2 : rg (-2147483648) (-1) a_a := t_ltx (-2147483648) (-1) (rg_top a_a) (rg_k (by decide) : rg 0 0 0) (i_lt c1) (by decide)
    refine lv_bipush (v := (-2)) hx hb dX8_image_9 (by decide) ?_
    exact hret (-2) _ _ _ _ _ _ dX8_image_11 hT hS (Or.inr ⟨hR, rfl, (by omega)⟩)
  ·
    have q1 : 0 ≤ a_a.toInt := i_nlt c1
    have h3 : rg 0 2147483647 a_a := t_ley 0 2147483647 (rg_k (by decide) : rg 0 0 0) (rg_top a_a) (i_nlt c1) (by decide)
    refine lv_iload_n hx hb dX8_image_4 rfl (lv_at hl 1 rfl) ?_
    refine lv_iconst (v := 3) hx hb dX8_image_5 (by decide) ?_
    refine lv_icmp_lt (tgt := 12) hx hb dX8_image_6 (by decide) (fun c4 => ?_) (fun c4 => ?_)
    ·
      have q4 : a_a.toInt < 3 := i_lt c4
      have h5 : rg 0 2 a_a := t_ltx 0 2 h3 (rg_k (by decide) : rg 3 3 3) (i_lt c4) (by decide)
      refine lv_aload_n hx hb dX8_image_12 rfl (lv_at hl 0 rfl) ?_
      refine r_getr X hT 0 4 26 fk_8_35 rfl rfl (by decide) dX8_image_13 ?_
      refine lv_iload_n hx hb dX8_image_16 rfl (lv_at hl 1 rfl) ?_
      rcases (show a_a.toInt = 0 ∨ a_a.toInt = 1 ∨ a_a.toInt = 2 by have := h5.1; have := h5.2; omega) with f6 | f6 | f6
      ·
        have h7 : rg 0 0 a_a := ⟨by omega, by omega⟩
        refine r_aald X hT 26 27 rfl (by decide) (v_in h5 (by decide)) (by rw [cl_c h7 0 rfl (by decide)]; rfl) dX8_image_17 ?_
        refine lv_aload_n hx hb dX8_image_18 rfl (lv_at hl 0 rfl) ?_
        refine r_getr X hT 0 3 15 fk_8_32 rfl rfl (by decide) dX8_image_19 ?_
        refine r_Vv (As := [.ref (h 15)]) (rest := []) X hT hS (k_X6_become_27_15 hR) mk_X6_become gm_650 rfl rfl (by decide) hd_X6_become ⟨rfl, rfl⟩ ⟨Nat.le_of_ble_eq_true rfl, Nat.le_of_ble_eq_true rfl⟩ hl.1 rfl (Nat.le_of_ble_eq_true rfl) dX8_image_22 ⟨Nat.zero_le _, Nat.zero_le _⟩ (fun i8 g8 H locs hq hT hS => ?_)
        have hR8 := hq
        refine lv_aload_n hx hb dX8_image_25 rfl (lv_at hl 0 rfl) ?_
        refine r_getr X hT 0 5 60 fk_8_39 rfl rfl (by decide) dX8_image_26 ?_
        refine lv_iload_n hx hb dX8_image_29 rfl (lv_at hl 1 rfl) ?_
        refine lv_iconst (v := 1) hx hb dX8_image_30 (by decide) ?_
        refine r_zast X hT hS 60 rfl (by decide) (v_in h7 (by decide)) dX8_image_31 (fun H locs i9 ei9 hT hS => ?_)
        replace ei9 : i9 = up2 i8 60 a_a.toNatClampNeg 1 := ei9
        have hR9 := Rg_put hR8 ei9 0 1 rfl (rg_k (by decide) : rg 1 1 1) (by decide)
        refine lv_iconst (v := 0) hx hb dX8_image_32 (by decide) ?_
        exact hret 0 _ _ _ _ _ _ dX8_image_33 hT hS (Or.inl ⟨hR9, rfl, (rg_w h7 (by decide) : rg 0 2 a_a)⟩)
      ·
        have h10 : rg 1 1 a_a := ⟨by omega, by omega⟩
        refine r_aald X hT 26 38 rfl (by decide) (v_in h5 (by decide)) (by rw [cl_c h10 1 rfl (by decide)]; rfl) dX8_image_17 ?_
        refine lv_aload_n hx hb dX8_image_18 rfl (lv_at hl 0 rfl) ?_
        refine r_getr X hT 0 3 15 fk_8_32 rfl rfl (by decide) dX8_image_19 ?_
        refine r_Vv (As := [.ref (h 15)]) (rest := []) X hT hS (k_X6_become_38_15 hR) mk_X6_become gm_650 rfl rfl (by decide) hd_X6_become ⟨rfl, rfl⟩ ⟨Nat.le_of_ble_eq_true rfl, Nat.le_of_ble_eq_true rfl⟩ hl.1 rfl (Nat.le_of_ble_eq_true rfl) dX8_image_22 ⟨Nat.zero_le _, Nat.zero_le _⟩ (fun i11 g11 H locs hq hT hS => ?_)
        have hR11 := hq
        refine lv_aload_n hx hb dX8_image_25 rfl (lv_at hl 0 rfl) ?_
        refine r_getr X hT 0 5 60 fk_8_39 rfl rfl (by decide) dX8_image_26 ?_
        refine lv_iload_n hx hb dX8_image_29 rfl (lv_at hl 1 rfl) ?_
        refine lv_iconst (v := 1) hx hb dX8_image_30 (by decide) ?_
        refine r_zast X hT hS 60 rfl (by decide) (v_in h10 (by decide)) dX8_image_31 (fun H locs i12 ei12 hT hS => ?_)
        replace ei12 : i12 = up2 i11 60 a_a.toNatClampNeg 1 := ei12
        have hR12 := Rg_put hR11 ei12 0 1 rfl (rg_k (by decide) : rg 1 1 1) (by decide)
        refine lv_iconst (v := 0) hx hb dX8_image_32 (by decide) ?_
        exact hret 0 _ _ _ _ _ _ dX8_image_33 hT hS (Or.inl ⟨hR12, rfl, (rg_w h10 (by decide) : rg 0 2 a_a)⟩)
      ·
        have h13 : rg 2 2 a_a := ⟨by omega, by omega⟩
        refine r_aald X hT 26 49 rfl (by decide) (v_in h5 (by decide)) (by rw [cl_c h13 2 rfl (by decide)]; rfl) dX8_image_17 ?_
        refine lv_aload_n hx hb dX8_image_18 rfl (lv_at hl 0 rfl) ?_
        refine r_getr X hT 0 3 15 fk_8_32 rfl rfl (by decide) dX8_image_19 ?_
        refine r_Vv (As := [.ref (h 15)]) (rest := []) X hT hS (k_X6_become_49_15 hR) mk_X6_become gm_650 rfl rfl (by decide) hd_X6_become ⟨rfl, rfl⟩ ⟨Nat.le_of_ble_eq_true rfl, Nat.le_of_ble_eq_true rfl⟩ hl.1 rfl (Nat.le_of_ble_eq_true rfl) dX8_image_22 ⟨Nat.zero_le _, Nat.zero_le _⟩ (fun i14 g14 H locs hq hT hS => ?_)
        have hR14 := hq
        refine lv_aload_n hx hb dX8_image_25 rfl (lv_at hl 0 rfl) ?_
        refine r_getr X hT 0 5 60 fk_8_39 rfl rfl (by decide) dX8_image_26 ?_
        refine lv_iload_n hx hb dX8_image_29 rfl (lv_at hl 1 rfl) ?_
        refine lv_iconst (v := 1) hx hb dX8_image_30 (by decide) ?_
        refine r_zast X hT hS 60 rfl (by decide) (v_in h13 (by decide)) dX8_image_31 (fun H locs i15 ei15 hT hS => ?_)
        replace ei15 : i15 = up2 i14 60 a_a.toNatClampNeg 1 := ei15
        have hR15 := Rg_put hR14 ei15 0 1 rfl (rg_k (by decide) : rg 1 1 1) (by decide)
        refine lv_iconst (v := 0) hx hb dX8_image_32 (by decide) ?_
        exact hret 0 _ _ _ _ _ _ dX8_image_33 hT hS (Or.inl ⟨hR15, rfl, (rg_w h13 (by decide) : rg 0 2 a_a)⟩)
    ·
      have q4 : 3 ≤ a_a.toInt := i_nlt c4
      have h16 : rg 3 2147483647 a_a := t_ley 3 2147483647 (rg_k (by decide) : rg 3 3 3) h3 (i_nlt c4) (by decide)
      refine lv_bipush (v := (-2)) hx hb dX8_image_9 (by decide) ?_
      exact hret (-2) _ _ _ _ _ _ dX8_image_11 hT hS (Or.inr ⟨hR, rfl, (by omega)⟩)

set_option maxRecDepth 100000 in
set_option maxHeartbeats 4000000 in
theorem k_X8_back {l : Launch} {D : va_G} {h : Nat → Nat} {cz : Nat → ClassId} {i : Nat → Nat → Int32} {g : Nat → Nat → Int64} (hR : Rg rF i) (a_a : Int32) : CtI l yX8_back cX8_back 2 (some .int) ({ frames := 0, cells := 0, slots := 0, locals := 0 } : Room) D h cz i g [.ref (h 0), .int a_a] (fun r u => (u = (i, g) ∧ r = (-6) ∧ rg 0 2 a_a) ∨ (u = (i, g) ∧ r = (-2) ∧ (a_a.toInt < 0 ∨ 2 < a_a.toInt))) := by
  refine k_I pn_X8_back (Nat.le_of_ble_eq_true rfl) ?_
  intro p e s m args below meth c ls Q X hret hT hl hS
  have hx := X.1
  have hb := X.2.1
  have hl : lv_has ls 2 [(0, .ref (h 0)), (1, .int a_a)] := hl
  refine lv_iload_n hx hb dX8_back_0 rfl (lv_at hl 1 rfl) ?_
  refine lv_if_lt (tgt := 9) hx hb dX8_back_1 (by decide) (fun c1 => ?_) (fun c1 => ?_)
  ·
    have q1 : a_a.toInt < 0 := i_lt c1
    have h2 : rg (-2147483648) (-1) a_a := t_ltx (-2147483648) (-1) (rg_top a_a) (rg_k (by decide) : rg 0 0 0) (i_lt c1) (by decide)
    refine lv_bipush (v := (-2)) hx hb dX8_back_9 (by decide) ?_
    exact hret (-2) _ _ _ _ _ _ dX8_back_11 hT hS (Or.inr ⟨rfl, rfl, (by omega)⟩)
  ·
    have q1 : 0 ≤ a_a.toInt := i_nlt c1
    have h3 : rg 0 2147483647 a_a := t_ley 0 2147483647 (rg_k (by decide) : rg 0 0 0) (rg_top a_a) (i_nlt c1) (by decide)
    refine lv_iload_n hx hb dX8_back_4 rfl (lv_at hl 1 rfl) ?_
    refine lv_iconst (v := 3) hx hb dX8_back_5 (by decide) ?_
    refine lv_icmp_lt (tgt := 12) hx hb dX8_back_6 (by decide) (fun c4 => ?_) (fun c4 => ?_)
    ·
      have q4 : a_a.toInt < 3 := i_lt c4
      have h5 : rg 0 2 a_a := t_ltx 0 2 h3 (rg_k (by decide) : rg 3 3 3) (i_lt c4) (by decide)
      refine lv_aload_n hx hb dX8_back_12 rfl (lv_at hl 0 rfl) ?_
      refine r_getr X hT 0 5 60 fk_8_39 rfl rfl (by decide) dX8_back_13 ?_
      refine lv_iload_n hx hb dX8_back_16 rfl (lv_at hl 1 rfl) ?_
      refine r_zald X hT 60 rfl (by decide) (v_in h5 (by decide)) dX8_back_17 ?_
      refine lv_if_ne (tgt := 24) hx hb dX8_back_18 (by decide) (fun c6 => (x_ne (Rg_at hR 60 a_a.toNatClampNeg 0 0 (v_lt (v_in h5 (by decide))) rfl) (rg_k (by decide) : rg 0 0 0) (i_ne c6) (by decide)).elim) (fun c6 => ?_)
      have q6 : (i 60 a_a.toNatClampNeg).toInt = 0 := i_eq c6
      refine lv_bipush (v := (-6)) hx hb dX8_back_21 (by decide) ?_
      exact hret (-6) _ _ _ _ _ _ dX8_back_23 hT hS (Or.inl ⟨rfl, rfl, h5⟩)
    ·
      have q4 : 3 ≤ a_a.toInt := i_nlt c4
      have h7 : rg 3 2147483647 a_a := t_ley 3 2147483647 (rg_k (by decide) : rg 3 3 3) h3 (i_nlt c4) (by decide)
      refine lv_bipush (v := (-2)) hx hb dX8_back_9 (by decide) ?_
      exact hret (-2) _ _ _ _ _ _ dX8_back_11 hT hS (Or.inr ⟨rfl, rfl, (by omega)⟩)

set_option maxRecDepth 100000 in
set_option maxHeartbeats 4000000 in
theorem k_X5_isSlot_61L {l : Launch} {D : va_G} {h : Nat → Nat} {cz : Nat → ClassId} {i : Nat → Nat → Int32} {g : Nat → Nat → Int64} (hR : Rg rL i) (a_a : Int32) : CtI l yX5_isSlot cX5_isSlot 2 (some .boolean) ({ frames := 0, cells := 0, slots := 0, locals := 0 } : Room) D h cz i g [.ref (h 61), .int a_a] (fun r u => (u = (i, g) ∧ r = 1 ∧ rg 0 3 a_a) ∨ (u = (i, g) ∧ r = 0 ∧ (a_a.toInt < 0 ∨ 3 < a_a.toInt))) := by
  refine k_Z (by intro v u hq; rcases hq with ⟨-, hq, -⟩ | ⟨-, hq, -⟩ <;> first | exact Or.inl hq | exact Or.inr hq) pn_X5_isSlot (Nat.le_of_ble_eq_true rfl) ?_
  intro p e s m args below meth c ls Q X hret hT hl hS
  have hx := X.1
  have hb := X.2.1
  have hl : lv_has ls 2 [(0, .ref (h 61)), (1, .int a_a)] := hl
  refine lv_iload_n hx hb dX5_isSlot_0 rfl (lv_at hl 1 rfl) ?_
  refine lv_if_lt (tgt := 13) hx hb dX5_isSlot_1 (by decide) (fun c1 => ?_) (fun c1 => ?_)
  ·
    have q1 : a_a.toInt < 0 := i_lt c1
    have h2 : rg (-2147483648) (-1) a_a := t_ltx (-2147483648) (-1) (rg_top a_a) (rg_k (by decide) : rg 0 0 0) (i_lt c1) (by decide)
    refine lv_iconst (v := 0) hx hb dX5_isSlot_13 (by decide) ?_
    exact hret 0 _ _ _ _ _ _ dX5_isSlot_14 hT hS (Or.inr ⟨rfl, rfl, (by omega)⟩)
  ·
    have q1 : 0 ≤ a_a.toInt := i_nlt c1
    have h3 : rg 0 2147483647 a_a := t_ley 0 2147483647 (rg_k (by decide) : rg 0 0 0) (rg_top a_a) (i_nlt c1) (by decide)
    refine lv_iload_n hx hb dX5_isSlot_4 rfl (lv_at hl 1 rfl) ?_
    refine lv_iconst (v := 4) hx hb dX5_isSlot_5 (by decide) ?_
    refine lv_icmp_ge (tgt := 13) hx hb dX5_isSlot_6 (by decide) (fun c4 => ?_) (fun c4 => ?_)
    ·
      have q4 : 4 ≤ a_a.toInt := i_le c4
      have h5 : rg 4 2147483647 a_a := t_ley 4 2147483647 (rg_k (by decide) : rg 4 4 4) h3 (i_le c4) (by decide)
      refine lv_iconst (v := 0) hx hb dX5_isSlot_13 (by decide) ?_
      exact hret 0 _ _ _ _ _ _ dX5_isSlot_14 hT hS (Or.inr ⟨rfl, rfl, (by omega)⟩)
    ·
      have q4 : a_a.toInt < 4 := i_nle c4
      have h6 : rg 0 3 a_a := t_ltx 0 3 h3 (rg_k (by decide) : rg 4 4 4) (i_nle c4) (by decide)
      refine lv_iconst (v := 1) hx hb dX5_isSlot_9 (by decide) ?_
      refine lv_goto (tgt := 14) hx hb dX5_isSlot_10 (by decide) ?_
      exact hret 1 _ _ _ _ _ _ dX5_isSlot_14 hT hS (Or.inl ⟨rfl, rfl, h6⟩)

set_option maxRecDepth 100000 in
set_option maxHeartbeats 4000000 in
theorem k_rangeCheck_240_0_60 {l : Launch} {D : va_G} {h : Nat → Nat} {cz : Nat → ClassId} {i : Nat → Nat → Int32} {g : Nat → Nat → Int64} (a_a : Int32) (a_b : Int32) (a_c : Int32) (ha_a : rg 240 240 a_a) (ha_b : rg 0 0 a_b) (ha_c : rg 60 60 a_c) : CtV l yJ7_rangeCheck_23922 cJ7_rangeCheck_23922 3 none ({ frames := 0, cells := 0, slots := 0, locals := 0 } : Room) D h cz i g [.int a_a, .int a_b, .int a_c] (fun u => u = (i, g)) := by
  refine k_V pn_J7_rangeCheck_23922 (Nat.le_of_ble_eq_true rfl) ?_
  intro p e s m args below meth c ls Q X hret hT hl hS
  have hx := X.1
  have hb := X.2.1
  have hl : lv_has ls 3 [(0, .int a_a), (1, .int a_b), (2, .int a_c)] := hl
  refine lv_iload_n hx hb dJ7_rangeCheck_23922_0 rfl (lv_at hl 1 rfl) ?_
  refine lv_iload_n hx hb dJ7_rangeCheck_23922_1 rfl (lv_at hl 2 rfl) ?_
  refine lv_icmp_le (tgt := 46) hx hb dJ7_rangeCheck_23922_2 (by decide) (fun c1 => ?_) (fun c1 => (x_lt ha_c ha_b (i_nle c1) (by decide)).elim)
  have q1 : a_b.toInt ≤ a_c.toInt := i_le c1
  refine lv_iload_n hx hb dJ7_rangeCheck_23922_46 rfl (lv_at hl 1 rfl) ?_
  refine lv_if_ge (tgt := 59) hx hb dJ7_rangeCheck_23922_47 (by decide) (fun c2 => ?_) (fun c2 => (x_lt ha_b (rg_k (by decide) : rg 0 0 0) (i_nle c2) (by decide)).elim)
  have q2 : 0 ≤ a_b.toInt := i_le c2
  refine lv_iload_n hx hb dJ7_rangeCheck_23922_59 rfl (lv_at hl 2 rfl) ?_
  refine lv_iload_n hx hb dJ7_rangeCheck_23922_60 rfl (lv_at hl 0 rfl) ?_
  refine lv_icmp_le (tgt := 73) hx hb dJ7_rangeCheck_23922_61 (by decide) (fun c3 => ?_) (fun c3 => (x_lt ha_a ha_c (i_nle c3) (by decide)).elim)
  have q3 : a_c.toInt ≤ a_a.toInt := i_le c3
  exact hret _ _ _ _ _ _ dJ7_rangeCheck_23922_73 hT hS rfl

set_option maxRecDepth 100000 in
set_option maxHeartbeats 4000000 in
theorem k_fillJ_64_0_60_0 {l : Launch} {D : va_G} {h : Nat → Nat} {cz : Nat → ClassId} {i : Nat → Nat → Int32} {g : Nat → Nat → Int64} (hR : Rg rL i) (a_b : Int32) (a_c : Int32) (a_d : Int64) (ha_b : rg 0 0 a_b) (ha_c : rg 60 60 a_c) : CtV l yJ7_fill_bad5a cJ7_fill_bad5a 6 none ({ frames := 1, cells := 0, slots := 0, locals := 22 } : Room) D h cz i g [.ref (h 64), .int a_b, .int a_c, .long a_d] (fun u => Rg rL u.1) := by
  refine k_V pn_J7_fill_bad5a (Nat.le_of_ble_eq_true rfl) ?_
  intro p e s m args below meth c ls Q X hret hT hl hS
  have hx := X.1
  have hb := X.2.1
  have hl : lv_has ls 6 [(0, .ref (h 64)), (1, .int a_b), (2, .int a_c), (3, .long a_d)] := hl
  refine lv_aload_n hx hb dJ7_fill_bad5a_0 rfl (lv_at hl 0 rfl) ?_
  refine r_alen (v := 240) X hT 64 rfl (by decide) (by decide) (by decide) dJ7_fill_bad5a_1 ?_
  refine lv_iload_n hx hb dJ7_fill_bad5a_2 rfl (lv_at hl 1 rfl) ?_
  refine lv_iload_n hx hb dJ7_fill_bad5a_3 rfl (lv_at hl 2 rfl) ?_
  refine r_Sv (As := [.int 240, .int a_b, .int a_c]) (rest := []) X hT hS (k_rangeCheck_240_0_60 (240) a_b a_c (rg_k (by decide) : rg 240 240 240) ha_b ha_c) sk_J7_rangeCheck_23922 gm_1297 hd_J7_rangeCheck_23922 ⟨rfl, rfl⟩ ⟨Nat.le_of_ble_eq_true rfl, Nat.le_of_ble_eq_true rfl⟩ hl.1 rfl (Nat.le_of_ble_eq_true rfl) dJ7_fill_bad5a_4 ⟨Nat.zero_le _, Nat.zero_le _⟩ (fun i1 g1 H locs hq hT hS => ?_)
  have eh1 := hq
  rw [(Prod.mk.inj eh1).1, (Prod.mk.inj eh1).2] at hT
  refine lv_iload_n hx hb dJ7_fill_bad5a_7 rfl (lv_at hl 1 rfl) ?_
  refine lv_istore (lv' := [(5, .int a_b), (0, .ref (h 64)), (1, .int a_b), (2, .int a_c), (3, .long a_d)]) hx hb dJ7_fill_bad5a_8 hl (by decide) rfl (fun ls hl => ?_)
  have L10_2 : ∀ (n : Nat) (x10_5 : Int32) (i3 : Nat → Nat → Int32) (g3 : Nat → Nat → Int64) (H : Heap) (locs : List Loc) (ls : Array Slot), rg 0 60 x10_5 → Rg rL i3 → TH D h cz i3 g3 H → va_S (hA h) s.heap H locs → lv_has ls 6 [(0, .ref (h 64)), (2, .int a_c), (3, .long a_d), (5, .int x10_5)] → (60 - x10_5.toInt).toNat < n → W p l e ({ frames := 1, cells := 0, slots := 0, locals := 22 } : Room) s m args below meth c H locs 0 0 Q (F0 m 10 ls []) := by
    intro n
    induction n with
    | zero => intro x10_5 i3 g3 H locs ls hhx10_5 hR3 hT hS hl hm; exact absurd hm (Nat.not_lt_zero _)
    | succ n ih =>
      intro x10_5 i3 g3 H locs ls hhx10_5 hR3 hT hS hl hm
      refine lv_iload hx hb dJ7_fill_bad5a_10 (lv_at hl 3 rfl) ?_
      refine lv_iload_n hx hb dJ7_fill_bad5a_12 rfl (lv_at hl 1 rfl) ?_
      refine lv_icmp_ge (tgt := 27) hx hb dJ7_fill_bad5a_13 (by decide) (fun c4 => ?_) (fun c4 => ?_)
      ·
        have q4 : a_c.toInt ≤ x10_5.toInt := i_le c4
        have h5 : rg 60 60 x10_5 := t_ley 60 60 ha_c hhx10_5 (i_le c4) (by decide)
        exact hret _ _ _ _ _ _ dJ7_fill_bad5a_27 hT hS hR3
      ·
        have q4 : x10_5.toInt < a_c.toInt := i_nle c4
        have h6 : rg 0 59 x10_5 := t_ltx 0 59 hhx10_5 ha_c (i_nle c4) (by decide)
        refine lv_aload_n hx hb dJ7_fill_bad5a_16 rfl (lv_at hl 0 rfl) ?_
        refine lv_iload hx hb dJ7_fill_bad5a_17 (lv_at hl 3 rfl) ?_
        refine lv_lload_n hx hb dJ7_fill_bad5a_19 rfl (lv_at hl 2 rfl) ?_
        refine r_last X hT hS 64 rfl (by decide) (v_in h6 (by decide)) dJ7_fill_bad5a_20 (fun H locs g7 eg7 hT hS => ?_)
        obtain ⟨x8, ex8⟩ : ∃ y : Int32, y = x10_5 + 1 := ⟨_, rfl⟩
        refine lv_iinc (v := x8) (lv' := [(5, .int x8), (0, .ref (h 64)), (2, .int a_c), (3, .long a_d)]) hx hb dJ7_fill_bad5a_21 hl (k := 3) rfl (by rw [ex8]; rfl) (by decide) rfl (fun ls hl => ?_)
        obtain ⟨hx8, ax8⟩ := rg_add 1 60 ex8 h6 (rg_k (by decide) : rg 1 1 1) (by decide)
        replace ax8 : x8.toInt = x10_5.toInt + 1 := ax8
        refine lv_goto (tgt := 10) hx hb dJ7_fill_bad5a_24 (by decide) ?_
        exact ih x8 _ _ _ _ _ (rg_w hx8 (by decide) : rg 0 60 x8) hR3 hT hS (lv_sub hl [1, 2, 3, 0] rfl) (m_up ax8 hx8 (by decide) hm)
  exact L10_2 _ a_b _ _ _ _ _ (rg_w ha_b (by decide) : rg 0 60 a_b) hR hT hS (lv_sub hl [1, 3, 4, 0] rfl) (Nat.lt_succ_self _)

set_option maxRecDepth 100000 in
set_option maxHeartbeats 4000000 in
theorem k_rangeCheck_240_60_120 {l : Launch} {D : va_G} {h : Nat → Nat} {cz : Nat → ClassId} {i : Nat → Nat → Int32} {g : Nat → Nat → Int64} (a_a : Int32) (a_b : Int32) (a_c : Int32) (ha_a : rg 240 240 a_a) (ha_b : rg 60 60 a_b) (ha_c : rg 120 120 a_c) : CtV l yJ7_rangeCheck_23922 cJ7_rangeCheck_23922 3 none ({ frames := 0, cells := 0, slots := 0, locals := 0 } : Room) D h cz i g [.int a_a, .int a_b, .int a_c] (fun u => u = (i, g)) := by
  refine k_V pn_J7_rangeCheck_23922 (Nat.le_of_ble_eq_true rfl) ?_
  intro p e s m args below meth c ls Q X hret hT hl hS
  have hx := X.1
  have hb := X.2.1
  have hl : lv_has ls 3 [(0, .int a_a), (1, .int a_b), (2, .int a_c)] := hl
  refine lv_iload_n hx hb dJ7_rangeCheck_23922_0 rfl (lv_at hl 1 rfl) ?_
  refine lv_iload_n hx hb dJ7_rangeCheck_23922_1 rfl (lv_at hl 2 rfl) ?_
  refine lv_icmp_le (tgt := 46) hx hb dJ7_rangeCheck_23922_2 (by decide) (fun c1 => ?_) (fun c1 => (x_lt ha_c ha_b (i_nle c1) (by decide)).elim)
  have q1 : a_b.toInt ≤ a_c.toInt := i_le c1
  refine lv_iload_n hx hb dJ7_rangeCheck_23922_46 rfl (lv_at hl 1 rfl) ?_
  refine lv_if_ge (tgt := 59) hx hb dJ7_rangeCheck_23922_47 (by decide) (fun c2 => ?_) (fun c2 => (x_lt ha_b (rg_k (by decide) : rg 0 0 0) (i_nle c2) (by decide)).elim)
  have q2 : 0 ≤ a_b.toInt := i_le c2
  refine lv_iload_n hx hb dJ7_rangeCheck_23922_59 rfl (lv_at hl 2 rfl) ?_
  refine lv_iload_n hx hb dJ7_rangeCheck_23922_60 rfl (lv_at hl 0 rfl) ?_
  refine lv_icmp_le (tgt := 73) hx hb dJ7_rangeCheck_23922_61 (by decide) (fun c3 => ?_) (fun c3 => (x_lt ha_a ha_c (i_nle c3) (by decide)).elim)
  have q3 : a_c.toInt ≤ a_a.toInt := i_le c3
  exact hret _ _ _ _ _ _ dJ7_rangeCheck_23922_73 hT hS rfl

set_option maxRecDepth 100000 in
set_option maxHeartbeats 4000000 in
theorem k_fillJ_64_60_120_0 {l : Launch} {D : va_G} {h : Nat → Nat} {cz : Nat → ClassId} {i : Nat → Nat → Int32} {g : Nat → Nat → Int64} (hR : Rg rL i) (a_b : Int32) (a_c : Int32) (a_d : Int64) (ha_b : rg 60 60 a_b) (ha_c : rg 120 120 a_c) : CtV l yJ7_fill_bad5a cJ7_fill_bad5a 6 none ({ frames := 1, cells := 0, slots := 0, locals := 22 } : Room) D h cz i g [.ref (h 64), .int a_b, .int a_c, .long a_d] (fun u => Rg rL u.1) := by
  refine k_V pn_J7_fill_bad5a (Nat.le_of_ble_eq_true rfl) ?_
  intro p e s m args below meth c ls Q X hret hT hl hS
  have hx := X.1
  have hb := X.2.1
  have hl : lv_has ls 6 [(0, .ref (h 64)), (1, .int a_b), (2, .int a_c), (3, .long a_d)] := hl
  refine lv_aload_n hx hb dJ7_fill_bad5a_0 rfl (lv_at hl 0 rfl) ?_
  refine r_alen (v := 240) X hT 64 rfl (by decide) (by decide) (by decide) dJ7_fill_bad5a_1 ?_
  refine lv_iload_n hx hb dJ7_fill_bad5a_2 rfl (lv_at hl 1 rfl) ?_
  refine lv_iload_n hx hb dJ7_fill_bad5a_3 rfl (lv_at hl 2 rfl) ?_
  refine r_Sv (As := [.int 240, .int a_b, .int a_c]) (rest := []) X hT hS (k_rangeCheck_240_60_120 (240) a_b a_c (rg_k (by decide) : rg 240 240 240) ha_b ha_c) sk_J7_rangeCheck_23922 gm_1297 hd_J7_rangeCheck_23922 ⟨rfl, rfl⟩ ⟨Nat.le_of_ble_eq_true rfl, Nat.le_of_ble_eq_true rfl⟩ hl.1 rfl (Nat.le_of_ble_eq_true rfl) dJ7_fill_bad5a_4 ⟨Nat.zero_le _, Nat.zero_le _⟩ (fun i1 g1 H locs hq hT hS => ?_)
  have eh1 := hq
  rw [(Prod.mk.inj eh1).1, (Prod.mk.inj eh1).2] at hT
  refine lv_iload_n hx hb dJ7_fill_bad5a_7 rfl (lv_at hl 1 rfl) ?_
  refine lv_istore (lv' := [(5, .int a_b), (0, .ref (h 64)), (1, .int a_b), (2, .int a_c), (3, .long a_d)]) hx hb dJ7_fill_bad5a_8 hl (by decide) rfl (fun ls hl => ?_)
  have L10_2 : ∀ (n : Nat) (x10_5 : Int32) (i3 : Nat → Nat → Int32) (g3 : Nat → Nat → Int64) (H : Heap) (locs : List Loc) (ls : Array Slot), rg 60 128 x10_5 → Rg rL i3 → TH D h cz i3 g3 H → va_S (hA h) s.heap H locs → lv_has ls 6 [(0, .ref (h 64)), (2, .int a_c), (3, .long a_d), (5, .int x10_5)] → (128 - x10_5.toInt).toNat < n → W p l e ({ frames := 1, cells := 0, slots := 0, locals := 22 } : Room) s m args below meth c H locs 0 0 Q (F0 m 10 ls []) := by
    intro n
    induction n with
    | zero => intro x10_5 i3 g3 H locs ls hhx10_5 hR3 hT hS hl hm; exact absurd hm (Nat.not_lt_zero _)
    | succ n ih =>
      intro x10_5 i3 g3 H locs ls hhx10_5 hR3 hT hS hl hm
      refine lv_iload hx hb dJ7_fill_bad5a_10 (lv_at hl 3 rfl) ?_
      refine lv_iload_n hx hb dJ7_fill_bad5a_12 rfl (lv_at hl 1 rfl) ?_
      refine lv_icmp_ge (tgt := 27) hx hb dJ7_fill_bad5a_13 (by decide) (fun c4 => ?_) (fun c4 => ?_)
      ·
        have q4 : a_c.toInt ≤ x10_5.toInt := i_le c4
        have h5 : rg 120 128 x10_5 := t_ley 120 128 ha_c hhx10_5 (i_le c4) (by decide)
        exact hret _ _ _ _ _ _ dJ7_fill_bad5a_27 hT hS hR3
      ·
        have q4 : x10_5.toInt < a_c.toInt := i_nle c4
        have h6 : rg 60 119 x10_5 := t_ltx 60 119 hhx10_5 ha_c (i_nle c4) (by decide)
        refine lv_aload_n hx hb dJ7_fill_bad5a_16 rfl (lv_at hl 0 rfl) ?_
        refine lv_iload hx hb dJ7_fill_bad5a_17 (lv_at hl 3 rfl) ?_
        refine lv_lload_n hx hb dJ7_fill_bad5a_19 rfl (lv_at hl 2 rfl) ?_
        refine r_last X hT hS 64 rfl (by decide) (v_in h6 (by decide)) dJ7_fill_bad5a_20 (fun H locs g7 eg7 hT hS => ?_)
        obtain ⟨x8, ex8⟩ : ∃ y : Int32, y = x10_5 + 1 := ⟨_, rfl⟩
        refine lv_iinc (v := x8) (lv' := [(5, .int x8), (0, .ref (h 64)), (2, .int a_c), (3, .long a_d)]) hx hb dJ7_fill_bad5a_21 hl (k := 3) rfl (by rw [ex8]; rfl) (by decide) rfl (fun ls hl => ?_)
        obtain ⟨hx8, ax8⟩ := rg_add 61 120 ex8 h6 (rg_k (by decide) : rg 1 1 1) (by decide)
        replace ax8 : x8.toInt = x10_5.toInt + 1 := ax8
        refine lv_goto (tgt := 10) hx hb dJ7_fill_bad5a_24 (by decide) ?_
        exact ih x8 _ _ _ _ _ (rg_w hx8 (by decide) : rg 60 128 x8) hR3 hT hS (lv_sub hl [1, 2, 3, 0] rfl) (m_up ax8 hx8 (by decide) hm)
  exact L10_2 _ a_b _ _ _ _ _ (rg_w ha_b (by decide) : rg 60 128 a_b) hR hT hS (lv_sub hl [1, 3, 4, 0] rfl) (Nat.lt_succ_self _)

set_option maxRecDepth 100000 in
set_option maxHeartbeats 4000000 in
theorem k_rangeCheck_240_120_180 {l : Launch} {D : va_G} {h : Nat → Nat} {cz : Nat → ClassId} {i : Nat → Nat → Int32} {g : Nat → Nat → Int64} (a_a : Int32) (a_b : Int32) (a_c : Int32) (ha_a : rg 240 240 a_a) (ha_b : rg 120 120 a_b) (ha_c : rg 180 180 a_c) : CtV l yJ7_rangeCheck_23922 cJ7_rangeCheck_23922 3 none ({ frames := 0, cells := 0, slots := 0, locals := 0 } : Room) D h cz i g [.int a_a, .int a_b, .int a_c] (fun u => u = (i, g)) := by
  refine k_V pn_J7_rangeCheck_23922 (Nat.le_of_ble_eq_true rfl) ?_
  intro p e s m args below meth c ls Q X hret hT hl hS
  have hx := X.1
  have hb := X.2.1
  have hl : lv_has ls 3 [(0, .int a_a), (1, .int a_b), (2, .int a_c)] := hl
  refine lv_iload_n hx hb dJ7_rangeCheck_23922_0 rfl (lv_at hl 1 rfl) ?_
  refine lv_iload_n hx hb dJ7_rangeCheck_23922_1 rfl (lv_at hl 2 rfl) ?_
  refine lv_icmp_le (tgt := 46) hx hb dJ7_rangeCheck_23922_2 (by decide) (fun c1 => ?_) (fun c1 => (x_lt ha_c ha_b (i_nle c1) (by decide)).elim)
  have q1 : a_b.toInt ≤ a_c.toInt := i_le c1
  refine lv_iload_n hx hb dJ7_rangeCheck_23922_46 rfl (lv_at hl 1 rfl) ?_
  refine lv_if_ge (tgt := 59) hx hb dJ7_rangeCheck_23922_47 (by decide) (fun c2 => ?_) (fun c2 => (x_lt ha_b (rg_k (by decide) : rg 0 0 0) (i_nle c2) (by decide)).elim)
  have q2 : 0 ≤ a_b.toInt := i_le c2
  refine lv_iload_n hx hb dJ7_rangeCheck_23922_59 rfl (lv_at hl 2 rfl) ?_
  refine lv_iload_n hx hb dJ7_rangeCheck_23922_60 rfl (lv_at hl 0 rfl) ?_
  refine lv_icmp_le (tgt := 73) hx hb dJ7_rangeCheck_23922_61 (by decide) (fun c3 => ?_) (fun c3 => (x_lt ha_a ha_c (i_nle c3) (by decide)).elim)
  have q3 : a_c.toInt ≤ a_a.toInt := i_le c3
  exact hret _ _ _ _ _ _ dJ7_rangeCheck_23922_73 hT hS rfl

set_option maxRecDepth 100000 in
set_option maxHeartbeats 4000000 in
theorem k_fillJ_64_120_180_0 {l : Launch} {D : va_G} {h : Nat → Nat} {cz : Nat → ClassId} {i : Nat → Nat → Int32} {g : Nat → Nat → Int64} (hR : Rg rL i) (a_b : Int32) (a_c : Int32) (a_d : Int64) (ha_b : rg 120 120 a_b) (ha_c : rg 180 180 a_c) : CtV l yJ7_fill_bad5a cJ7_fill_bad5a 6 none ({ frames := 1, cells := 0, slots := 0, locals := 22 } : Room) D h cz i g [.ref (h 64), .int a_b, .int a_c, .long a_d] (fun u => Rg rL u.1) := by
  refine k_V pn_J7_fill_bad5a (Nat.le_of_ble_eq_true rfl) ?_
  intro p e s m args below meth c ls Q X hret hT hl hS
  have hx := X.1
  have hb := X.2.1
  have hl : lv_has ls 6 [(0, .ref (h 64)), (1, .int a_b), (2, .int a_c), (3, .long a_d)] := hl
  refine lv_aload_n hx hb dJ7_fill_bad5a_0 rfl (lv_at hl 0 rfl) ?_
  refine r_alen (v := 240) X hT 64 rfl (by decide) (by decide) (by decide) dJ7_fill_bad5a_1 ?_
  refine lv_iload_n hx hb dJ7_fill_bad5a_2 rfl (lv_at hl 1 rfl) ?_
  refine lv_iload_n hx hb dJ7_fill_bad5a_3 rfl (lv_at hl 2 rfl) ?_
  refine r_Sv (As := [.int 240, .int a_b, .int a_c]) (rest := []) X hT hS (k_rangeCheck_240_120_180 (240) a_b a_c (rg_k (by decide) : rg 240 240 240) ha_b ha_c) sk_J7_rangeCheck_23922 gm_1297 hd_J7_rangeCheck_23922 ⟨rfl, rfl⟩ ⟨Nat.le_of_ble_eq_true rfl, Nat.le_of_ble_eq_true rfl⟩ hl.1 rfl (Nat.le_of_ble_eq_true rfl) dJ7_fill_bad5a_4 ⟨Nat.zero_le _, Nat.zero_le _⟩ (fun i1 g1 H locs hq hT hS => ?_)
  have eh1 := hq
  rw [(Prod.mk.inj eh1).1, (Prod.mk.inj eh1).2] at hT
  refine lv_iload_n hx hb dJ7_fill_bad5a_7 rfl (lv_at hl 1 rfl) ?_
  refine lv_istore (lv' := [(5, .int a_b), (0, .ref (h 64)), (1, .int a_b), (2, .int a_c), (3, .long a_d)]) hx hb dJ7_fill_bad5a_8 hl (by decide) rfl (fun ls hl => ?_)
  have L10_2 : ∀ (n : Nat) (x10_5 : Int32) (i3 : Nat → Nat → Int32) (g3 : Nat → Nat → Int64) (H : Heap) (locs : List Loc) (ls : Array Slot), rg 120 255 x10_5 → Rg rL i3 → TH D h cz i3 g3 H → va_S (hA h) s.heap H locs → lv_has ls 6 [(0, .ref (h 64)), (2, .int a_c), (3, .long a_d), (5, .int x10_5)] → (255 - x10_5.toInt).toNat < n → W p l e ({ frames := 1, cells := 0, slots := 0, locals := 22 } : Room) s m args below meth c H locs 0 0 Q (F0 m 10 ls []) := by
    intro n
    induction n with
    | zero => intro x10_5 i3 g3 H locs ls hhx10_5 hR3 hT hS hl hm; exact absurd hm (Nat.not_lt_zero _)
    | succ n ih =>
      intro x10_5 i3 g3 H locs ls hhx10_5 hR3 hT hS hl hm
      refine lv_iload hx hb dJ7_fill_bad5a_10 (lv_at hl 3 rfl) ?_
      refine lv_iload_n hx hb dJ7_fill_bad5a_12 rfl (lv_at hl 1 rfl) ?_
      refine lv_icmp_ge (tgt := 27) hx hb dJ7_fill_bad5a_13 (by decide) (fun c4 => ?_) (fun c4 => ?_)
      ·
        have q4 : a_c.toInt ≤ x10_5.toInt := i_le c4
        have h5 : rg 180 255 x10_5 := t_ley 180 255 ha_c hhx10_5 (i_le c4) (by decide)
        exact hret _ _ _ _ _ _ dJ7_fill_bad5a_27 hT hS hR3
      ·
        have q4 : x10_5.toInt < a_c.toInt := i_nle c4
        have h6 : rg 120 179 x10_5 := t_ltx 120 179 hhx10_5 ha_c (i_nle c4) (by decide)
        refine lv_aload_n hx hb dJ7_fill_bad5a_16 rfl (lv_at hl 0 rfl) ?_
        refine lv_iload hx hb dJ7_fill_bad5a_17 (lv_at hl 3 rfl) ?_
        refine lv_lload_n hx hb dJ7_fill_bad5a_19 rfl (lv_at hl 2 rfl) ?_
        refine r_last X hT hS 64 rfl (by decide) (v_in h6 (by decide)) dJ7_fill_bad5a_20 (fun H locs g7 eg7 hT hS => ?_)
        obtain ⟨x8, ex8⟩ : ∃ y : Int32, y = x10_5 + 1 := ⟨_, rfl⟩
        refine lv_iinc (v := x8) (lv' := [(5, .int x8), (0, .ref (h 64)), (2, .int a_c), (3, .long a_d)]) hx hb dJ7_fill_bad5a_21 hl (k := 3) rfl (by rw [ex8]; rfl) (by decide) rfl (fun ls hl => ?_)
        obtain ⟨hx8, ax8⟩ := rg_add 121 180 ex8 h6 (rg_k (by decide) : rg 1 1 1) (by decide)
        replace ax8 : x8.toInt = x10_5.toInt + 1 := ax8
        refine lv_goto (tgt := 10) hx hb dJ7_fill_bad5a_24 (by decide) ?_
        exact ih x8 _ _ _ _ _ (rg_w hx8 (by decide) : rg 120 255 x8) hR3 hT hS (lv_sub hl [1, 2, 3, 0] rfl) (m_up ax8 hx8 (by decide) hm)
  exact L10_2 _ a_b _ _ _ _ _ (rg_w ha_b (by decide) : rg 120 255 a_b) hR hT hS (lv_sub hl [1, 3, 4, 0] rfl) (Nat.lt_succ_self _)

set_option maxRecDepth 100000 in
set_option maxHeartbeats 4000000 in
theorem k_rangeCheck_240_180_240 {l : Launch} {D : va_G} {h : Nat → Nat} {cz : Nat → ClassId} {i : Nat → Nat → Int32} {g : Nat → Nat → Int64} (a_a : Int32) (a_b : Int32) (a_c : Int32) (ha_a : rg 240 240 a_a) (ha_b : rg 180 180 a_b) (ha_c : rg 240 240 a_c) : CtV l yJ7_rangeCheck_23922 cJ7_rangeCheck_23922 3 none ({ frames := 0, cells := 0, slots := 0, locals := 0 } : Room) D h cz i g [.int a_a, .int a_b, .int a_c] (fun u => u = (i, g)) := by
  refine k_V pn_J7_rangeCheck_23922 (Nat.le_of_ble_eq_true rfl) ?_
  intro p e s m args below meth c ls Q X hret hT hl hS
  have hx := X.1
  have hb := X.2.1
  have hl : lv_has ls 3 [(0, .int a_a), (1, .int a_b), (2, .int a_c)] := hl
  refine lv_iload_n hx hb dJ7_rangeCheck_23922_0 rfl (lv_at hl 1 rfl) ?_
  refine lv_iload_n hx hb dJ7_rangeCheck_23922_1 rfl (lv_at hl 2 rfl) ?_
  refine lv_icmp_le (tgt := 46) hx hb dJ7_rangeCheck_23922_2 (by decide) (fun c1 => ?_) (fun c1 => (x_lt ha_c ha_b (i_nle c1) (by decide)).elim)
  have q1 : a_b.toInt ≤ a_c.toInt := i_le c1
  refine lv_iload_n hx hb dJ7_rangeCheck_23922_46 rfl (lv_at hl 1 rfl) ?_
  refine lv_if_ge (tgt := 59) hx hb dJ7_rangeCheck_23922_47 (by decide) (fun c2 => ?_) (fun c2 => (x_lt ha_b (rg_k (by decide) : rg 0 0 0) (i_nle c2) (by decide)).elim)
  have q2 : 0 ≤ a_b.toInt := i_le c2
  refine lv_iload_n hx hb dJ7_rangeCheck_23922_59 rfl (lv_at hl 2 rfl) ?_
  refine lv_iload_n hx hb dJ7_rangeCheck_23922_60 rfl (lv_at hl 0 rfl) ?_
  refine lv_icmp_le (tgt := 73) hx hb dJ7_rangeCheck_23922_61 (by decide) (fun c3 => ?_) (fun c3 => (x_lt ha_a ha_c (i_nle c3) (by decide)).elim)
  have q3 : a_c.toInt ≤ a_a.toInt := i_le c3
  exact hret _ _ _ _ _ _ dJ7_rangeCheck_23922_73 hT hS rfl

set_option maxRecDepth 100000 in
set_option maxHeartbeats 4000000 in
theorem k_fillJ_64_180_240_0 {l : Launch} {D : va_G} {h : Nat → Nat} {cz : Nat → ClassId} {i : Nat → Nat → Int32} {g : Nat → Nat → Int64} (hR : Rg rL i) (a_b : Int32) (a_c : Int32) (a_d : Int64) (ha_b : rg 180 180 a_b) (ha_c : rg 240 240 a_c) : CtV l yJ7_fill_bad5a cJ7_fill_bad5a 6 none ({ frames := 1, cells := 0, slots := 0, locals := 22 } : Room) D h cz i g [.ref (h 64), .int a_b, .int a_c, .long a_d] (fun u => Rg rL u.1) := by
  refine k_V pn_J7_fill_bad5a (Nat.le_of_ble_eq_true rfl) ?_
  intro p e s m args below meth c ls Q X hret hT hl hS
  have hx := X.1
  have hb := X.2.1
  have hl : lv_has ls 6 [(0, .ref (h 64)), (1, .int a_b), (2, .int a_c), (3, .long a_d)] := hl
  refine lv_aload_n hx hb dJ7_fill_bad5a_0 rfl (lv_at hl 0 rfl) ?_
  refine r_alen (v := 240) X hT 64 rfl (by decide) (by decide) (by decide) dJ7_fill_bad5a_1 ?_
  refine lv_iload_n hx hb dJ7_fill_bad5a_2 rfl (lv_at hl 1 rfl) ?_
  refine lv_iload_n hx hb dJ7_fill_bad5a_3 rfl (lv_at hl 2 rfl) ?_
  refine r_Sv (As := [.int 240, .int a_b, .int a_c]) (rest := []) X hT hS (k_rangeCheck_240_180_240 (240) a_b a_c (rg_k (by decide) : rg 240 240 240) ha_b ha_c) sk_J7_rangeCheck_23922 gm_1297 hd_J7_rangeCheck_23922 ⟨rfl, rfl⟩ ⟨Nat.le_of_ble_eq_true rfl, Nat.le_of_ble_eq_true rfl⟩ hl.1 rfl (Nat.le_of_ble_eq_true rfl) dJ7_fill_bad5a_4 ⟨Nat.zero_le _, Nat.zero_le _⟩ (fun i1 g1 H locs hq hT hS => ?_)
  have eh1 := hq
  rw [(Prod.mk.inj eh1).1, (Prod.mk.inj eh1).2] at hT
  refine lv_iload_n hx hb dJ7_fill_bad5a_7 rfl (lv_at hl 1 rfl) ?_
  refine lv_istore (lv' := [(5, .int a_b), (0, .ref (h 64)), (1, .int a_b), (2, .int a_c), (3, .long a_d)]) hx hb dJ7_fill_bad5a_8 hl (by decide) rfl (fun ls hl => ?_)
  have L10_2 : ∀ (n : Nat) (x10_5 : Int32) (i3 : Nat → Nat → Int32) (g3 : Nat → Nat → Int64) (H : Heap) (locs : List Loc) (ls : Array Slot), rg 180 255 x10_5 → Rg rL i3 → TH D h cz i3 g3 H → va_S (hA h) s.heap H locs → lv_has ls 6 [(0, .ref (h 64)), (2, .int a_c), (3, .long a_d), (5, .int x10_5)] → (255 - x10_5.toInt).toNat < n → W p l e ({ frames := 1, cells := 0, slots := 0, locals := 22 } : Room) s m args below meth c H locs 0 0 Q (F0 m 10 ls []) := by
    intro n
    induction n with
    | zero => intro x10_5 i3 g3 H locs ls hhx10_5 hR3 hT hS hl hm; exact absurd hm (Nat.not_lt_zero _)
    | succ n ih =>
      intro x10_5 i3 g3 H locs ls hhx10_5 hR3 hT hS hl hm
      refine lv_iload hx hb dJ7_fill_bad5a_10 (lv_at hl 3 rfl) ?_
      refine lv_iload_n hx hb dJ7_fill_bad5a_12 rfl (lv_at hl 1 rfl) ?_
      refine lv_icmp_ge (tgt := 27) hx hb dJ7_fill_bad5a_13 (by decide) (fun c4 => ?_) (fun c4 => ?_)
      ·
        have q4 : a_c.toInt ≤ x10_5.toInt := i_le c4
        have h5 : rg 240 255 x10_5 := t_ley 240 255 ha_c hhx10_5 (i_le c4) (by decide)
        exact hret _ _ _ _ _ _ dJ7_fill_bad5a_27 hT hS hR3
      ·
        have q4 : x10_5.toInt < a_c.toInt := i_nle c4
        have h6 : rg 180 239 x10_5 := t_ltx 180 239 hhx10_5 ha_c (i_nle c4) (by decide)
        refine lv_aload_n hx hb dJ7_fill_bad5a_16 rfl (lv_at hl 0 rfl) ?_
        refine lv_iload hx hb dJ7_fill_bad5a_17 (lv_at hl 3 rfl) ?_
        refine lv_lload_n hx hb dJ7_fill_bad5a_19 rfl (lv_at hl 2 rfl) ?_
        refine r_last X hT hS 64 rfl (by decide) (v_in h6 (by decide)) dJ7_fill_bad5a_20 (fun H locs g7 eg7 hT hS => ?_)
        obtain ⟨x8, ex8⟩ : ∃ y : Int32, y = x10_5 + 1 := ⟨_, rfl⟩
        refine lv_iinc (v := x8) (lv' := [(5, .int x8), (0, .ref (h 64)), (2, .int a_c), (3, .long a_d)]) hx hb dJ7_fill_bad5a_21 hl (k := 3) rfl (by rw [ex8]; rfl) (by decide) rfl (fun ls hl => ?_)
        obtain ⟨hx8, ax8⟩ := rg_add 181 240 ex8 h6 (rg_k (by decide) : rg 1 1 1) (by decide)
        replace ax8 : x8.toInt = x10_5.toInt + 1 := ax8
        refine lv_goto (tgt := 10) hx hb dJ7_fill_bad5a_24 (by decide) ?_
        exact ih x8 _ _ _ _ _ (rg_w hx8 (by decide) : rg 180 255 x8) hR3 hT hS (lv_sub hl [1, 2, 3, 0] rfl) (m_up ax8 hx8 (by decide) hm)
  exact L10_2 _ a_b _ _ _ _ _ (rg_w ha_b (by decide) : rg 180 255 a_b) hR hT hS (lv_sub hl [1, 3, 4, 0] rfl) (Nat.lt_succ_self _)

set_option maxRecDepth 100000 in
set_option maxHeartbeats 4000000 in
theorem k_X5_lay_61 {l : Launch} {D : va_G} {h : Nat → Nat} {cz : Nat → ClassId} {i : Nat → Nat → Int32} {g : Nat → Nat → Int64} (hR : Rg rL i) (a_a : Int32) (a_b : Int32) (a_c : Int32) (ha_a : rg 0 3 a_a) (ha_b : rg 0 3 a_b) (ha_c : rg 0 60 a_c) : CtV l yX5_lay cX5_lay 5 none ({ frames := 2, cells := 0, slots := 0, locals := 47 } : Room) D h cz i g [.ref (h 61), .int a_a, .int a_b, .int a_c] (fun u => Rg rL u.1) := by
  refine k_V pn_X5_lay (Nat.le_of_ble_eq_true rfl) ?_
  intro p e s m args below meth c ls Q X hret hT hl hS
  have hx := X.1
  have hb := X.2.1
  have hl : lv_has ls 5 [(0, .ref (h 61)), (1, .int a_a), (2, .int a_b), (3, .int a_c)] := hl
  rcases (show a_a.toInt = 0 ∨ a_a.toInt = 1 ∨ a_a.toInt = 2 ∨ a_a.toInt = 3 by have := ha_a.1; have := ha_a.2; omega) with f1 | f1 | f1 | f1
  ·
    have h2 : rg 0 0 a_a := ⟨by omega, by omega⟩
    refine lv_aload_n hx hb dX5_lay_0 rfl (lv_at hl 0 rfl) ?_
    refine r_getr X hT 61 0 62 fk_5_9 rfl rfl (by decide) dX5_lay_1 ?_
    refine lv_iload_n hx hb dX5_lay_4 rfl (lv_at hl 1 rfl) ?_
    refine lv_iload_n hx hb dX5_lay_5 rfl (lv_at hl 2 rfl) ?_
    refine r_iast X hT hS 62 rfl (by decide) (v_in h2 (by decide)) dX5_lay_6 (fun H locs i3 ei3 hT hS => ?_)
    have hR3 := Rg_put hR ei3 (-1) 3 rfl ha_b (by decide)
    refine lv_aload_n hx hb dX5_lay_7 rfl (lv_at hl 0 rfl) ?_
    refine r_getr X hT 61 1 63 fk_5_15 rfl rfl (by decide) dX5_lay_8 ?_
    refine lv_iload_n hx hb dX5_lay_11 rfl (lv_at hl 1 rfl) ?_
    refine lv_iload_n hx hb dX5_lay_12 rfl (lv_at hl 3 rfl) ?_
    refine r_iast X hT hS 63 rfl (by decide) (v_in h2 (by decide)) dX5_lay_13 (fun H locs i4 ei4 hT hS => ?_)
    have hR4 := Rg_put hR3 ei4 0 60 rfl ha_c (by decide)
    refine lv_iload_n hx hb dX5_lay_14 rfl (lv_at hl 1 rfl) ?_
    refine lv_bipush (v := 60) hx hb dX5_lay_15 (by decide) ?_
    refine q_imul hx hb dX5_lay_17 (fun x5 ex5 => ?_)
    obtain ⟨hx5, ax5⟩ := rg_mul 0 0 ex5 h2 (rg_k (by decide) : rg 60 60 60) (by decide)
    replace ax5 : x5.toInt = a_a.toInt * 60 := ax5
    refine lv_istore (lv' := [(4, .int x5), (0, .ref (h 61)), (1, .int a_a), (2, .int a_b), (3, .int a_c)]) hx hb dX5_lay_18 hl (by decide) rfl (fun ls hl => ?_)
    refine lv_aload_n hx hb dX5_lay_20 rfl (lv_at hl 1 rfl) ?_
    refine r_getr X hT 61 2 64 fk_5_18 rfl rfl (by decide) dX5_lay_21 ?_
    refine lv_iload hx hb dX5_lay_24 (lv_at hl 0 rfl) ?_
    refine lv_iload hx hb dX5_lay_26 (lv_at hl 0 rfl) ?_
    refine lv_bipush (v := 60) hx hb dX5_lay_28 (by decide) ?_
    refine q_iadd hx hb dX5_lay_30 (fun x6 ex6 => ?_)
    obtain ⟨hx6, ax6⟩ := rg_add 60 60 ex6 hx5 (rg_k (by decide) : rg 60 60 60) (by decide)
    replace ax6 : x6.toInt = x5.toInt + 60 := ax6
    refine lv_lconst (v := 0) hx hb dX5_lay_31 (by decide) ?_
    refine r_Sv (As := [.ref (h 64), .int x5, .int x6, .long 0]) (rest := []) X hT hS (k_fillJ_64_0_60_0 hR4 x5 x6 (0) hx5 hx6) sk_J7_fill_bad5a gm_1294 hd_J7_fill_bad5a ⟨rfl, rfl⟩ ⟨Nat.le_of_ble_eq_true rfl, Nat.le_of_ble_eq_true rfl⟩ hl.1 rfl (Nat.le_of_ble_eq_true rfl) dX5_lay_32 ⟨Nat.zero_le _, Nat.zero_le _⟩ (fun i7 g7 H locs hq hT hS => ?_)
    have hR7 := hq
    exact hret _ _ _ _ _ _ dX5_lay_35 hT hS hR7
  ·
    have h8 : rg 1 1 a_a := ⟨by omega, by omega⟩
    refine lv_aload_n hx hb dX5_lay_0 rfl (lv_at hl 0 rfl) ?_
    refine r_getr X hT 61 0 62 fk_5_9 rfl rfl (by decide) dX5_lay_1 ?_
    refine lv_iload_n hx hb dX5_lay_4 rfl (lv_at hl 1 rfl) ?_
    refine lv_iload_n hx hb dX5_lay_5 rfl (lv_at hl 2 rfl) ?_
    refine r_iast X hT hS 62 rfl (by decide) (v_in h8 (by decide)) dX5_lay_6 (fun H locs i9 ei9 hT hS => ?_)
    have hR9 := Rg_put hR ei9 (-1) 3 rfl ha_b (by decide)
    refine lv_aload_n hx hb dX5_lay_7 rfl (lv_at hl 0 rfl) ?_
    refine r_getr X hT 61 1 63 fk_5_15 rfl rfl (by decide) dX5_lay_8 ?_
    refine lv_iload_n hx hb dX5_lay_11 rfl (lv_at hl 1 rfl) ?_
    refine lv_iload_n hx hb dX5_lay_12 rfl (lv_at hl 3 rfl) ?_
    refine r_iast X hT hS 63 rfl (by decide) (v_in h8 (by decide)) dX5_lay_13 (fun H locs i10 ei10 hT hS => ?_)
    have hR10 := Rg_put hR9 ei10 0 60 rfl ha_c (by decide)
    refine lv_iload_n hx hb dX5_lay_14 rfl (lv_at hl 1 rfl) ?_
    refine lv_bipush (v := 60) hx hb dX5_lay_15 (by decide) ?_
    refine q_imul hx hb dX5_lay_17 (fun x11 ex11 => ?_)
    obtain ⟨hx11, ax11⟩ := rg_mul 60 60 ex11 h8 (rg_k (by decide) : rg 60 60 60) (by decide)
    replace ax11 : x11.toInt = a_a.toInt * 60 := ax11
    refine lv_istore (lv' := [(4, .int x11), (0, .ref (h 61)), (1, .int a_a), (2, .int a_b), (3, .int a_c)]) hx hb dX5_lay_18 hl (by decide) rfl (fun ls hl => ?_)
    refine lv_aload_n hx hb dX5_lay_20 rfl (lv_at hl 1 rfl) ?_
    refine r_getr X hT 61 2 64 fk_5_18 rfl rfl (by decide) dX5_lay_21 ?_
    refine lv_iload hx hb dX5_lay_24 (lv_at hl 0 rfl) ?_
    refine lv_iload hx hb dX5_lay_26 (lv_at hl 0 rfl) ?_
    refine lv_bipush (v := 60) hx hb dX5_lay_28 (by decide) ?_
    refine q_iadd hx hb dX5_lay_30 (fun x12 ex12 => ?_)
    obtain ⟨hx12, ax12⟩ := rg_add 120 120 ex12 hx11 (rg_k (by decide) : rg 60 60 60) (by decide)
    replace ax12 : x12.toInt = x11.toInt + 60 := ax12
    refine lv_lconst (v := 0) hx hb dX5_lay_31 (by decide) ?_
    refine r_Sv (As := [.ref (h 64), .int x11, .int x12, .long 0]) (rest := []) X hT hS (k_fillJ_64_60_120_0 hR10 x11 x12 (0) hx11 hx12) sk_J7_fill_bad5a gm_1294 hd_J7_fill_bad5a ⟨rfl, rfl⟩ ⟨Nat.le_of_ble_eq_true rfl, Nat.le_of_ble_eq_true rfl⟩ hl.1 rfl (Nat.le_of_ble_eq_true rfl) dX5_lay_32 ⟨Nat.zero_le _, Nat.zero_le _⟩ (fun i13 g13 H locs hq hT hS => ?_)
    have hR13 := hq
    exact hret _ _ _ _ _ _ dX5_lay_35 hT hS hR13
  ·
    have h14 : rg 2 2 a_a := ⟨by omega, by omega⟩
    refine lv_aload_n hx hb dX5_lay_0 rfl (lv_at hl 0 rfl) ?_
    refine r_getr X hT 61 0 62 fk_5_9 rfl rfl (by decide) dX5_lay_1 ?_
    refine lv_iload_n hx hb dX5_lay_4 rfl (lv_at hl 1 rfl) ?_
    refine lv_iload_n hx hb dX5_lay_5 rfl (lv_at hl 2 rfl) ?_
    refine r_iast X hT hS 62 rfl (by decide) (v_in h14 (by decide)) dX5_lay_6 (fun H locs i15 ei15 hT hS => ?_)
    have hR15 := Rg_put hR ei15 (-1) 3 rfl ha_b (by decide)
    refine lv_aload_n hx hb dX5_lay_7 rfl (lv_at hl 0 rfl) ?_
    refine r_getr X hT 61 1 63 fk_5_15 rfl rfl (by decide) dX5_lay_8 ?_
    refine lv_iload_n hx hb dX5_lay_11 rfl (lv_at hl 1 rfl) ?_
    refine lv_iload_n hx hb dX5_lay_12 rfl (lv_at hl 3 rfl) ?_
    refine r_iast X hT hS 63 rfl (by decide) (v_in h14 (by decide)) dX5_lay_13 (fun H locs i16 ei16 hT hS => ?_)
    have hR16 := Rg_put hR15 ei16 0 60 rfl ha_c (by decide)
    refine lv_iload_n hx hb dX5_lay_14 rfl (lv_at hl 1 rfl) ?_
    refine lv_bipush (v := 60) hx hb dX5_lay_15 (by decide) ?_
    refine q_imul hx hb dX5_lay_17 (fun x17 ex17 => ?_)
    obtain ⟨hx17, ax17⟩ := rg_mul 120 120 ex17 h14 (rg_k (by decide) : rg 60 60 60) (by decide)
    replace ax17 : x17.toInt = a_a.toInt * 60 := ax17
    refine lv_istore (lv' := [(4, .int x17), (0, .ref (h 61)), (1, .int a_a), (2, .int a_b), (3, .int a_c)]) hx hb dX5_lay_18 hl (by decide) rfl (fun ls hl => ?_)
    refine lv_aload_n hx hb dX5_lay_20 rfl (lv_at hl 1 rfl) ?_
    refine r_getr X hT 61 2 64 fk_5_18 rfl rfl (by decide) dX5_lay_21 ?_
    refine lv_iload hx hb dX5_lay_24 (lv_at hl 0 rfl) ?_
    refine lv_iload hx hb dX5_lay_26 (lv_at hl 0 rfl) ?_
    refine lv_bipush (v := 60) hx hb dX5_lay_28 (by decide) ?_
    refine q_iadd hx hb dX5_lay_30 (fun x18 ex18 => ?_)
    obtain ⟨hx18, ax18⟩ := rg_add 180 180 ex18 hx17 (rg_k (by decide) : rg 60 60 60) (by decide)
    replace ax18 : x18.toInt = x17.toInt + 60 := ax18
    refine lv_lconst (v := 0) hx hb dX5_lay_31 (by decide) ?_
    refine r_Sv (As := [.ref (h 64), .int x17, .int x18, .long 0]) (rest := []) X hT hS (k_fillJ_64_120_180_0 hR16 x17 x18 (0) hx17 hx18) sk_J7_fill_bad5a gm_1294 hd_J7_fill_bad5a ⟨rfl, rfl⟩ ⟨Nat.le_of_ble_eq_true rfl, Nat.le_of_ble_eq_true rfl⟩ hl.1 rfl (Nat.le_of_ble_eq_true rfl) dX5_lay_32 ⟨Nat.zero_le _, Nat.zero_le _⟩ (fun i19 g19 H locs hq hT hS => ?_)
    have hR19 := hq
    exact hret _ _ _ _ _ _ dX5_lay_35 hT hS hR19
  ·
    have h20 : rg 3 3 a_a := ⟨by omega, by omega⟩
    refine lv_aload_n hx hb dX5_lay_0 rfl (lv_at hl 0 rfl) ?_
    refine r_getr X hT 61 0 62 fk_5_9 rfl rfl (by decide) dX5_lay_1 ?_
    refine lv_iload_n hx hb dX5_lay_4 rfl (lv_at hl 1 rfl) ?_
    refine lv_iload_n hx hb dX5_lay_5 rfl (lv_at hl 2 rfl) ?_
    refine r_iast X hT hS 62 rfl (by decide) (v_in h20 (by decide)) dX5_lay_6 (fun H locs i21 ei21 hT hS => ?_)
    have hR21 := Rg_put hR ei21 (-1) 3 rfl ha_b (by decide)
    refine lv_aload_n hx hb dX5_lay_7 rfl (lv_at hl 0 rfl) ?_
    refine r_getr X hT 61 1 63 fk_5_15 rfl rfl (by decide) dX5_lay_8 ?_
    refine lv_iload_n hx hb dX5_lay_11 rfl (lv_at hl 1 rfl) ?_
    refine lv_iload_n hx hb dX5_lay_12 rfl (lv_at hl 3 rfl) ?_
    refine r_iast X hT hS 63 rfl (by decide) (v_in h20 (by decide)) dX5_lay_13 (fun H locs i22 ei22 hT hS => ?_)
    have hR22 := Rg_put hR21 ei22 0 60 rfl ha_c (by decide)
    refine lv_iload_n hx hb dX5_lay_14 rfl (lv_at hl 1 rfl) ?_
    refine lv_bipush (v := 60) hx hb dX5_lay_15 (by decide) ?_
    refine q_imul hx hb dX5_lay_17 (fun x23 ex23 => ?_)
    obtain ⟨hx23, ax23⟩ := rg_mul 180 180 ex23 h20 (rg_k (by decide) : rg 60 60 60) (by decide)
    replace ax23 : x23.toInt = a_a.toInt * 60 := ax23
    refine lv_istore (lv' := [(4, .int x23), (0, .ref (h 61)), (1, .int a_a), (2, .int a_b), (3, .int a_c)]) hx hb dX5_lay_18 hl (by decide) rfl (fun ls hl => ?_)
    refine lv_aload_n hx hb dX5_lay_20 rfl (lv_at hl 1 rfl) ?_
    refine r_getr X hT 61 2 64 fk_5_18 rfl rfl (by decide) dX5_lay_21 ?_
    refine lv_iload hx hb dX5_lay_24 (lv_at hl 0 rfl) ?_
    refine lv_iload hx hb dX5_lay_26 (lv_at hl 0 rfl) ?_
    refine lv_bipush (v := 60) hx hb dX5_lay_28 (by decide) ?_
    refine q_iadd hx hb dX5_lay_30 (fun x24 ex24 => ?_)
    obtain ⟨hx24, ax24⟩ := rg_add 240 240 ex24 hx23 (rg_k (by decide) : rg 60 60 60) (by decide)
    replace ax24 : x24.toInt = x23.toInt + 60 := ax24
    refine lv_lconst (v := 0) hx hb dX5_lay_31 (by decide) ?_
    refine r_Sv (As := [.ref (h 64), .int x23, .int x24, .long 0]) (rest := []) X hT hS (k_fillJ_64_180_240_0 hR22 x23 x24 (0) hx23 hx24) sk_J7_fill_bad5a gm_1294 hd_J7_fill_bad5a ⟨rfl, rfl⟩ ⟨Nat.le_of_ble_eq_true rfl, Nat.le_of_ble_eq_true rfl⟩ hl.1 rfl (Nat.le_of_ble_eq_true rfl) dX5_lay_32 ⟨Nat.zero_le _, Nat.zero_le _⟩ (fun i25 g25 H locs hq hT hS => ?_)
    have hR25 := hq
    exact hret _ _ _ _ _ _ dX5_lay_35 hT hS hR25

set_option maxRecDepth 100000 in
set_option maxHeartbeats 4000000 in
theorem k_X8_row {l : Launch} {D : va_G} {h : Nat → Nat} {cz : Nat → ClassId} {i : Nat → Nat → Int32} {g : Nat → Nat → Int64} (hR : Rg rL i) (a_a : Int32) (a_b : Int32) (a_c : Int32) : CtI l yX8_row cX8_row 4 (some .int) ({ frames := 3, cells := 0, slots := 0, locals := 71 } : Room) D h cz i g [.ref (h 0), .int a_a, .int a_b, .int a_c] (fun r u => (Rg rL u.1 ∧ r = 0 ∧ ((0 ≤ a_a.toInt ∧ a_a.toInt ≤ 3) ∧ (0 ≤ a_b.toInt ∧ a_b.toInt ≤ 3) ∧ 0 ≤ a_c.toInt ∧ a_c.toInt ≤ 60)) ∨ (Rg rL u.1 ∧ r = (-3) ∧ ((0 ≤ a_a.toInt ∧ a_a.toInt ≤ 3) ∧ (0 ≤ a_b.toInt ∧ a_b.toInt ≤ 3) ∧ a_c.toInt < 0)) ∨ (Rg rL u.1 ∧ r = (-2) ∧ ((a_a.toInt < 0 ∨ 3 < a_a.toInt) ∨ (a_b.toInt < 0 ∨ 3 < a_b.toInt) ∨ 60 < a_c.toInt))) := by
  refine k_I pn_X8_row (Nat.le_of_ble_eq_true rfl) ?_
  intro p e s m args below meth c ls Q X hret hT hl hS
  have hx := X.1
  have hb := X.2.1
  have hl : lv_has ls 4 [(0, .ref (h 0)), (1, .int a_a), (2, .int a_b), (3, .int a_c)] := hl
  refine lv_aload_n hx hb dX8_row_0 rfl (lv_at hl 0 rfl) ?_
  refine r_getr X hT 0 6 61 fk_8_46 rfl rfl (by decide) dX8_row_1 ?_
  refine lv_iload_n hx hb dX8_row_4 rfl (lv_at hl 1 rfl) ?_
  refine r_Vi (As := [.int a_a]) (rest := []) X hT hS (k_X5_isSlot_61L hR a_a) mk_X5_isSlot gm_1056 rfl rfl (by decide) hd_X5_isSlot ⟨rfl, rfl⟩ ⟨Nat.le_of_ble_eq_true rfl, Nat.le_of_ble_eq_true rfl⟩ hl.1 rfl (Nat.le_of_ble_eq_true rfl) dX8_row_5 ⟨Nat.zero_le _, Nat.zero_le _⟩ (fun r1 i1 g1 H locs hq hT hS => ?_)
  rcases hq with hq | hq
  ·
    obtain ⟨eh1, rfl, hf1_0⟩ := hq
    rw [(Prod.mk.inj eh1).1, (Prod.mk.inj eh1).2] at hT
    have h2 : rg 0 3 a_a := ⟨by have := (rg_top a_a).1; have := hf1_0.1; omega, by have := (rg_top a_a).2; have := hf1_0.2; omega⟩
    refine lv_if_eq (tgt := 26) hx hb dX8_row_8 (by decide) (fun c3 => (x_eq (rg_k (by decide) : rg 1 1 1) (rg_k (by decide) : rg 0 0 0) (i_eq c3) (by decide)).elim) (fun c3 => ?_)
    refine lv_iload_n hx hb dX8_row_11 rfl (lv_at hl 2 rfl) ?_
    refine lv_if_lt (tgt := 26) hx hb dX8_row_12 (by decide) (fun c4 => ?_) (fun c4 => ?_)
    ·
      have q4 : a_b.toInt < 0 := i_lt c4
      have h5 : rg (-2147483648) (-1) a_b := t_ltx (-2147483648) (-1) (rg_top a_b) (rg_k (by decide) : rg 0 0 0) (i_lt c4) (by decide)
      refine lv_bipush (v := (-2)) hx hb dX8_row_26 (by decide) ?_
      exact hret (-2) _ _ _ _ _ _ dX8_row_28 hT hS (Or.inr (Or.inr ⟨hR, rfl, (by have := h2.1; have := h2.2; have := h5.1; have := h5.2; omega)⟩))
    ·
      have q4 : 0 ≤ a_b.toInt := i_nlt c4
      have h6 : rg 0 2147483647 a_b := t_ley 0 2147483647 (rg_k (by decide) : rg 0 0 0) (rg_top a_b) (i_nlt c4) (by decide)
      refine lv_iload_n hx hb dX8_row_15 rfl (lv_at hl 2 rfl) ?_
      refine lv_iconst (v := 4) hx hb dX8_row_16 (by decide) ?_
      refine lv_icmp_ge (tgt := 26) hx hb dX8_row_17 (by decide) (fun c7 => ?_) (fun c7 => ?_)
      ·
        have q7 : 4 ≤ a_b.toInt := i_le c7
        have h8 : rg 4 2147483647 a_b := t_ley 4 2147483647 (rg_k (by decide) : rg 4 4 4) h6 (i_le c7) (by decide)
        refine lv_bipush (v := (-2)) hx hb dX8_row_26 (by decide) ?_
        exact hret (-2) _ _ _ _ _ _ dX8_row_28 hT hS (Or.inr (Or.inr ⟨hR, rfl, (by have := h2.1; have := h2.2; have := h8.1; have := h8.2; omega)⟩))
      ·
        have q7 : a_b.toInt < 4 := i_nle c7
        have h9 : rg 0 3 a_b := t_ltx 0 3 h6 (rg_k (by decide) : rg 4 4 4) (i_nle c7) (by decide)
        refine lv_iload_n hx hb dX8_row_20 rfl (lv_at hl 3 rfl) ?_
        refine lv_bipush (v := 60) hx hb dX8_row_21 (by decide) ?_
        refine lv_icmp_le (tgt := 29) hx hb dX8_row_23 (by decide) (fun c10 => ?_) (fun c10 => ?_)
        ·
          have q10 : a_c.toInt ≤ 60 := i_le c10
          have h11 : rg (-2147483648) 60 a_c := t_lex (-2147483648) 60 (rg_top a_c) (rg_k (by decide) : rg 60 60 60) (i_le c10) (by decide)
          refine lv_iload_n hx hb dX8_row_29 rfl (lv_at hl 3 rfl) ?_
          refine lv_if_ge (tgt := 36) hx hb dX8_row_30 (by decide) (fun c12 => ?_) (fun c12 => ?_)
          ·
            have q12 : 0 ≤ a_c.toInt := i_le c12
            have h13 : rg 0 60 a_c := t_ley 0 60 (rg_k (by decide) : rg 0 0 0) h11 (i_le c12) (by decide)
            refine lv_aload_n hx hb dX8_row_36 rfl (lv_at hl 0 rfl) ?_
            refine r_getr X hT 0 6 61 fk_8_46 rfl rfl (by decide) dX8_row_37 ?_
            refine lv_iload_n hx hb dX8_row_40 rfl (lv_at hl 1 rfl) ?_
            refine lv_iload_n hx hb dX8_row_41 rfl (lv_at hl 2 rfl) ?_
            refine lv_iload_n hx hb dX8_row_42 rfl (lv_at hl 3 rfl) ?_
            refine r_Vv (As := [.int a_a, .int a_b, .int a_c]) (rest := []) X hT hS (k_X5_lay_61 hR a_a a_b a_c h2 h9 h13) mk_X5_lay gm_1290 rfl rfl (by decide) hd_X5_lay ⟨rfl, rfl⟩ ⟨Nat.le_of_ble_eq_true rfl, Nat.le_of_ble_eq_true rfl⟩ hl.1 rfl (Nat.le_of_ble_eq_true rfl) dX8_row_43 ⟨Nat.zero_le _, Nat.zero_le _⟩ (fun i14 g14 H locs hq hT hS => ?_)
            have hR14 := hq
            refine lv_iconst (v := 0) hx hb dX8_row_46 (by decide) ?_
            exact hret 0 _ _ _ _ _ _ dX8_row_47 hT hS (Or.inl ⟨hR14, rfl, (by have := h2.1; have := h2.2; have := h9.1; have := h9.2; have := h13.1; have := h13.2; omega)⟩)
          ·
            have q12 : a_c.toInt < 0 := i_nle c12
            have h15 : rg (-2147483648) (-1) a_c := t_ltx (-2147483648) (-1) h11 (rg_k (by decide) : rg 0 0 0) (i_nle c12) (by decide)
            refine lv_bipush (v := (-3)) hx hb dX8_row_33 (by decide) ?_
            exact hret (-3) _ _ _ _ _ _ dX8_row_35 hT hS (Or.inr (Or.inl ⟨hR, rfl, (by have := h2.1; have := h2.2; have := h9.1; have := h9.2; have := h15.1; have := h15.2; omega)⟩))
        ·
          have q10 : 60 < a_c.toInt := i_nle c10
          have h16 : rg 61 2147483647 a_c := t_lty 61 2147483647 (rg_k (by decide) : rg 60 60 60) (rg_top a_c) (i_nle c10) (by decide)
          refine lv_bipush (v := (-2)) hx hb dX8_row_26 (by decide) ?_
          exact hret (-2) _ _ _ _ _ _ dX8_row_28 hT hS (Or.inr (Or.inr ⟨hR, rfl, (by have := h2.1; have := h2.2; have := h9.1; have := h9.2; have := h16.1; have := h16.2; omega)⟩))
  ·
    obtain ⟨eh1, rfl, hf1_0⟩ := hq
    rw [(Prod.mk.inj eh1).1, (Prod.mk.inj eh1).2] at hT
    refine lv_if_eq (tgt := 26) hx hb dX8_row_8 (by decide) (fun c17 => ?_) (fun c17 => (x_ne (rg_k (by decide) : rg 0 0 0) (rg_k (by decide) : rg 0 0 0) (i_ne c17) (by decide)).elim)
    refine lv_bipush (v := (-2)) hx hb dX8_row_26 (by decide) ?_
    exact hret (-2) _ _ _ _ _ _ dX8_row_28 hT hS (Or.inr (Or.inr ⟨hR, rfl, (by omega)⟩))

set_option maxRecDepth 100000 in
set_option maxHeartbeats 4000000 in
theorem k_X5_isSlot_61 {l : Launch} {D : va_G} {h : Nat → Nat} {cz : Nat → ClassId} {i : Nat → Nat → Int32} {g : Nat → Nat → Int64} (hR : Rg rF i) (a_a : Int32) : CtI l yX5_isSlot cX5_isSlot 2 (some .boolean) ({ frames := 0, cells := 0, slots := 0, locals := 0 } : Room) D h cz i g [.ref (h 61), .int a_a] (fun r u => (u = (i, g) ∧ r = 1 ∧ rg 0 3 a_a) ∨ (u = (i, g) ∧ r = 0 ∧ (a_a.toInt < 0 ∨ 3 < a_a.toInt))) := by
  refine k_Z (by intro v u hq; rcases hq with ⟨-, hq, -⟩ | ⟨-, hq, -⟩ <;> first | exact Or.inl hq | exact Or.inr hq) pn_X5_isSlot (Nat.le_of_ble_eq_true rfl) ?_
  intro p e s m args below meth c ls Q X hret hT hl hS
  have hx := X.1
  have hb := X.2.1
  have hl : lv_has ls 2 [(0, .ref (h 61)), (1, .int a_a)] := hl
  refine lv_iload_n hx hb dX5_isSlot_0 rfl (lv_at hl 1 rfl) ?_
  refine lv_if_lt (tgt := 13) hx hb dX5_isSlot_1 (by decide) (fun c1 => ?_) (fun c1 => ?_)
  ·
    have q1 : a_a.toInt < 0 := i_lt c1
    have h2 : rg (-2147483648) (-1) a_a := t_ltx (-2147483648) (-1) (rg_top a_a) (rg_k (by decide) : rg 0 0 0) (i_lt c1) (by decide)
    refine lv_iconst (v := 0) hx hb dX5_isSlot_13 (by decide) ?_
    exact hret 0 _ _ _ _ _ _ dX5_isSlot_14 hT hS (Or.inr ⟨rfl, rfl, (by omega)⟩)
  ·
    have q1 : 0 ≤ a_a.toInt := i_nlt c1
    have h3 : rg 0 2147483647 a_a := t_ley 0 2147483647 (rg_k (by decide) : rg 0 0 0) (rg_top a_a) (i_nlt c1) (by decide)
    refine lv_iload_n hx hb dX5_isSlot_4 rfl (lv_at hl 1 rfl) ?_
    refine lv_iconst (v := 4) hx hb dX5_isSlot_5 (by decide) ?_
    refine lv_icmp_ge (tgt := 13) hx hb dX5_isSlot_6 (by decide) (fun c4 => ?_) (fun c4 => ?_)
    ·
      have q4 : 4 ≤ a_a.toInt := i_le c4
      have h5 : rg 4 2147483647 a_a := t_ley 4 2147483647 (rg_k (by decide) : rg 4 4 4) h3 (i_le c4) (by decide)
      refine lv_iconst (v := 0) hx hb dX5_isSlot_13 (by decide) ?_
      exact hret 0 _ _ _ _ _ _ dX5_isSlot_14 hT hS (Or.inr ⟨rfl, rfl, (by omega)⟩)
    ·
      have q4 : a_a.toInt < 4 := i_nle c4
      have h6 : rg 0 3 a_a := t_ltx 0 3 h3 (rg_k (by decide) : rg 4 4 4) (i_nle c4) (by decide)
      refine lv_iconst (v := 1) hx hb dX5_isSlot_9 (by decide) ?_
      refine lv_goto (tgt := 14) hx hb dX5_isSlot_10 (by decide) ?_
      exact hret 1 _ _ _ _ _ _ dX5_isSlot_14 hT hS (Or.inl ⟨rfl, rfl, h6⟩)

set_option maxRecDepth 100000 in
set_option maxHeartbeats 4000000 in
theorem k_X8_write {l : Launch} {D : va_G} {h : Nat → Nat} {cz : Nat → ClassId} {i : Nat → Nat → Int32} {g : Nat → Nat → Int64} (hR : Rg rF i) (a_a : Int32) (a_b : Int32) (a_c : Int64) : CtI l yX8_write cX8_write 5 (some .int) ({ frames := 1, cells := 0, slots := 0, locals := 21 } : Room) D h cz i g [.ref (h 0), .int a_a, .int a_b, .long a_c] (fun r u => (u = (i, g) ∧ r = (-6) ∧ rg 0 3 a_a) ∨ (u = (i, g) ∧ r = (-2) ∧ (a_a.toInt < 0 ∨ 3 < a_a.toInt))) := by
  refine k_I pn_X8_write (Nat.le_of_ble_eq_true rfl) ?_
  intro p e s m args below meth c ls Q X hret hT hl hS
  have hx := X.1
  have hb := X.2.1
  have hl : lv_has ls 5 [(0, .ref (h 0)), (1, .int a_a), (2, .int a_b), (3, .long a_c)] := hl
  refine lv_aload_n hx hb dX8_write_0 rfl (lv_at hl 0 rfl) ?_
  refine r_getr X hT 0 6 61 fk_8_46 rfl rfl (by decide) dX8_write_1 ?_
  refine lv_iload_n hx hb dX8_write_4 rfl (lv_at hl 1 rfl) ?_
  refine r_Vi (As := [.int a_a]) (rest := []) X hT hS (k_X5_isSlot_61 hR a_a) mk_X5_isSlot gm_1056 rfl rfl (by decide) hd_X5_isSlot ⟨rfl, rfl⟩ ⟨Nat.le_of_ble_eq_true rfl, Nat.le_of_ble_eq_true rfl⟩ hl.1 rfl (Nat.le_of_ble_eq_true rfl) dX8_write_5 ⟨Nat.zero_le _, Nat.zero_le _⟩ (fun r1 i1 g1 H locs hq hT hS => ?_)
  rcases hq with hq | hq
  ·
    obtain ⟨eh1, rfl, hf1_0⟩ := hq
    rw [(Prod.mk.inj eh1).1, (Prod.mk.inj eh1).2] at hT
    have h2 : rg 0 3 a_a := ⟨by have := (rg_top a_a).1; have := hf1_0.1; omega, by have := (rg_top a_a).2; have := hf1_0.2; omega⟩
    refine lv_if_ne (tgt := 14) hx hb dX8_write_8 (by decide) (fun c3 => ?_) (fun c3 => (x_eq (rg_k (by decide) : rg 1 1 1) (rg_k (by decide) : rg 0 0 0) (i_eq c3) (by decide)).elim)
    refine lv_aload_n hx hb dX8_write_14 rfl (lv_at hl 0 rfl) ?_
    refine r_getr X hT 0 6 61 fk_8_46 rfl rfl (by decide) dX8_write_15 ?_
    refine lv_iload_n hx hb dX8_write_18 rfl (lv_at hl 1 rfl) ?_
    refine r_Vi (As := [.int a_a]) (rest := []) X hT hS (k_X5_isBare_61 hR a_a h2) mk_X5_isBare gm_1060 rfl rfl (by decide) hd_X5_isBare ⟨rfl, rfl⟩ ⟨Nat.le_of_ble_eq_true rfl, Nat.le_of_ble_eq_true rfl⟩ hl.1 rfl (Nat.le_of_ble_eq_true rfl) dX8_write_19 ⟨Nat.zero_le _, Nat.zero_le _⟩ (fun r4 i4 g4 H locs hq hT hS => ?_)
    obtain ⟨eh4, rfl⟩ := hq
    rw [(Prod.mk.inj eh4).1, (Prod.mk.inj eh4).2] at hT
    refine lv_if_eq (tgt := 28) hx hb dX8_write_22 (by decide) (fun c5 => (x_eq (rg_k (by decide) : rg 1 1 1) (rg_k (by decide) : rg 0 0 0) (i_eq c5) (by decide)).elim) (fun c5 => ?_)
    refine lv_bipush (v := (-6)) hx hb dX8_write_25 (by decide) ?_
    exact hret (-6) _ _ _ _ _ _ dX8_write_27 hT hS (Or.inl ⟨rfl, rfl, h2⟩)
  ·
    obtain ⟨eh1, rfl, hf1_0⟩ := hq
    rw [(Prod.mk.inj eh1).1, (Prod.mk.inj eh1).2] at hT
    refine lv_if_ne (tgt := 14) hx hb dX8_write_8 (by decide) (fun c6 => (x_ne (rg_k (by decide) : rg 0 0 0) (rg_k (by decide) : rg 0 0 0) (i_ne c6) (by decide)).elim) (fun c6 => ?_)
    refine lv_bipush (v := (-2)) hx hb dX8_write_11 (by decide) ?_
    exact hret (-2) _ _ _ _ _ _ dX8_write_13 hT hS (Or.inr ⟨rfl, rfl, (by omega)⟩)

set_option maxRecDepth 100000 in
set_option maxHeartbeats 4000000 in
theorem k_X8_paste {l : Launch} {D : va_G} {h : Nat → Nat} {cz : Nat → ClassId} {i : Nat → Nat → Int32} {g : Nat → Nat → Int64} (hR : Rg rF i) (a_a : Int32) (a_b : Int32) (a_c : Int32) (a_d : Int32) (a_e : Int32) : CtI l yX8_paste cX8_paste 6 (some .int) ({ frames := 1, cells := 0, slots := 0, locals := 21 } : Room) D h cz i g [.ref (h 0), .int a_a, .int a_b, .int a_c, .int a_d, .int a_e] (fun r u => (u = (i, g) ∧ r = (-6) ∧ ((0 ≤ a_a.toInt ∧ a_a.toInt ≤ 3) ∧ (0 ≤ a_c.toInt ∧ a_c.toInt ≤ 3))) ∨ (u = (i, g) ∧ r = (-2) ∧ ((a_a.toInt < 0 ∨ 3 < a_a.toInt) ∨ (a_c.toInt < 0 ∨ 3 < a_c.toInt)))) := by
  refine k_I pn_X8_paste (Nat.le_of_ble_eq_true rfl) ?_
  intro p e s m args below meth c ls Q X hret hT hl hS
  have hx := X.1
  have hb := X.2.1
  have hl : lv_has ls 6 [(0, .ref (h 0)), (1, .int a_a), (2, .int a_b), (3, .int a_c), (4, .int a_d), (5, .int a_e)] := hl
  refine lv_aload_n hx hb dX8_paste_0 rfl (lv_at hl 0 rfl) ?_
  refine r_getr X hT 0 6 61 fk_8_46 rfl rfl (by decide) dX8_paste_1 ?_
  refine lv_iload_n hx hb dX8_paste_4 rfl (lv_at hl 1 rfl) ?_
  refine r_Vi (As := [.int a_a]) (rest := []) X hT hS (k_X5_isSlot_61 hR a_a) mk_X5_isSlot gm_1056 rfl rfl (by decide) hd_X5_isSlot ⟨rfl, rfl⟩ ⟨Nat.le_of_ble_eq_true rfl, Nat.le_of_ble_eq_true rfl⟩ hl.1 rfl (Nat.le_of_ble_eq_true rfl) dX8_paste_5 ⟨Nat.zero_le _, Nat.zero_le _⟩ (fun r1 i1 g1 H locs hq hT hS => ?_)
  rcases hq with hq | hq
  ·
    obtain ⟨eh1, rfl, hf1_0⟩ := hq
    rw [(Prod.mk.inj eh1).1, (Prod.mk.inj eh1).2] at hT
    have h2 : rg 0 3 a_a := ⟨by have := (rg_top a_a).1; have := hf1_0.1; omega, by have := (rg_top a_a).2; have := hf1_0.2; omega⟩
    refine lv_if_eq (tgt := 22) hx hb dX8_paste_8 (by decide) (fun c3 => (x_eq (rg_k (by decide) : rg 1 1 1) (rg_k (by decide) : rg 0 0 0) (i_eq c3) (by decide)).elim) (fun c3 => ?_)
    refine lv_aload_n hx hb dX8_paste_11 rfl (lv_at hl 0 rfl) ?_
    refine r_getr X hT 0 6 61 fk_8_46 rfl rfl (by decide) dX8_paste_12 ?_
    refine lv_iload_n hx hb dX8_paste_15 rfl (lv_at hl 3 rfl) ?_
    refine r_Vi (As := [.int a_c]) (rest := []) X hT hS (k_X5_isSlot_61 hR a_c) mk_X5_isSlot gm_1056 rfl rfl (by decide) hd_X5_isSlot ⟨rfl, rfl⟩ ⟨Nat.le_of_ble_eq_true rfl, Nat.le_of_ble_eq_true rfl⟩ hl.1 rfl (Nat.le_of_ble_eq_true rfl) dX8_paste_16 ⟨Nat.zero_le _, Nat.zero_le _⟩ (fun r4 i4 g4 H locs hq hT hS => ?_)
    rcases hq with hq | hq
    ·
      obtain ⟨eh4, rfl, hf4_0⟩ := hq
      rw [(Prod.mk.inj eh4).1, (Prod.mk.inj eh4).2] at hT
      have h5 : rg 0 3 a_c := ⟨by have := (rg_top a_c).1; have := hf4_0.1; omega, by have := (rg_top a_c).2; have := hf4_0.2; omega⟩
      refine lv_if_ne (tgt := 25) hx hb dX8_paste_19 (by decide) (fun c6 => ?_) (fun c6 => (x_eq (rg_k (by decide) : rg 1 1 1) (rg_k (by decide) : rg 0 0 0) (i_eq c6) (by decide)).elim)
      refine lv_aload_n hx hb dX8_paste_25 rfl (lv_at hl 0 rfl) ?_
      refine r_getr X hT 0 6 61 fk_8_46 rfl rfl (by decide) dX8_paste_26 ?_
      refine lv_iload_n hx hb dX8_paste_29 rfl (lv_at hl 1 rfl) ?_
      refine r_Vi (As := [.int a_a]) (rest := []) X hT hS (k_X5_isBare_61 hR a_a h2) mk_X5_isBare gm_1060 rfl rfl (by decide) hd_X5_isBare ⟨rfl, rfl⟩ ⟨Nat.le_of_ble_eq_true rfl, Nat.le_of_ble_eq_true rfl⟩ hl.1 rfl (Nat.le_of_ble_eq_true rfl) dX8_paste_30 ⟨Nat.zero_le _, Nat.zero_le _⟩ (fun r7 i7 g7 H locs hq hT hS => ?_)
      obtain ⟨eh7, rfl⟩ := hq
      rw [(Prod.mk.inj eh7).1, (Prod.mk.inj eh7).2] at hT
      refine lv_if_ne (tgt := 47) hx hb dX8_paste_33 (by decide) (fun c8 => ?_) (fun c8 => (x_eq (rg_k (by decide) : rg 1 1 1) (rg_k (by decide) : rg 0 0 0) (i_eq c8) (by decide)).elim)
      refine lv_bipush (v := (-6)) hx hb dX8_paste_47 (by decide) ?_
      exact hret (-6) _ _ _ _ _ _ dX8_paste_49 hT hS (Or.inl ⟨rfl, rfl, (by have := h2.1; have := h2.2; have := h5.1; have := h5.2; omega)⟩)
    ·
      obtain ⟨eh4, rfl, hf4_0⟩ := hq
      rw [(Prod.mk.inj eh4).1, (Prod.mk.inj eh4).2] at hT
      refine lv_if_ne (tgt := 25) hx hb dX8_paste_19 (by decide) (fun c9 => (x_ne (rg_k (by decide) : rg 0 0 0) (rg_k (by decide) : rg 0 0 0) (i_ne c9) (by decide)).elim) (fun c9 => ?_)
      refine lv_bipush (v := (-2)) hx hb dX8_paste_22 (by decide) ?_
      exact hret (-2) _ _ _ _ _ _ dX8_paste_24 hT hS (Or.inr ⟨rfl, rfl, (by have := h2.1; have := h2.2; omega)⟩)
  ·
    obtain ⟨eh1, rfl, hf1_0⟩ := hq
    rw [(Prod.mk.inj eh1).1, (Prod.mk.inj eh1).2] at hT
    refine lv_if_eq (tgt := 22) hx hb dX8_paste_8 (by decide) (fun c10 => ?_) (fun c10 => (x_ne (rg_k (by decide) : rg 0 0 0) (rg_k (by decide) : rg 0 0 0) (i_ne c10) (by decide)).elim)
    refine lv_bipush (v := (-2)) hx hb dX8_paste_22 (by decide) ?_
    exact hret (-2) _ _ _ _ _ _ dX8_paste_24 hT hS (Or.inr ⟨rfl, rfl, (by omega)⟩)

set_option maxRecDepth 100000 in
set_option maxHeartbeats 4000000 in
theorem k_X7_hasRoomForFive_1 {l : Launch} {D : va_G} {h : Nat → Nat} {cz : Nat → ClassId} {i : Nat → Nat → Int32} {g : Nat → Nat → Int64} (hR : Rg rL i) (hz : rg 0 680 (i 1 1)) : CtI l yX7_hasRoomForFive cX7_hasRoomForFive 1 (some .boolean) ({ frames := 0, cells := 0, slots := 0, locals := 0 } : Room) D h cz i g [.ref (h 1)] (fun r u => u = (i, g) ∧ r = 1) := by
  refine k_Z (by intro v u hq; obtain ⟨-, hq⟩ := hq; exact Or.inr hq) pn_X7_hasRoomForFive (Nat.le_of_ble_eq_true rfl) ?_
  intro p e s m args below meth c ls Q X hret hT hl hS
  have hx := X.1
  have hb := X.2.1
  have hl : lv_has ls 1 [(0, .ref (h 1))] := hl
  refine lv_aload_n hx hb dX7_hasRoomForFive_0 rfl (lv_at hl 0 rfl) ?_
  refine r_geti X hT 1 1 fk_7_15 rfl rfl (by decide) dX7_hasRoomForFive_1 ?_
  refine lv_bipush (v := 20) hx hb dX7_hasRoomForFive_4 (by decide) ?_
  refine q_iadd hx hb dX7_hasRoomForFive_6 (fun x1 ex1 => ?_)
  obtain ⟨hx1, ax1⟩ := rg_add 20 700 ex1 hz (rg_k (by decide) : rg 20 20 20) (by decide)
  replace ax1 : x1.toInt = (i 1 1).toInt + 20 := ax1
  refine lv_sipush (v := 700) hx hb dX7_hasRoomForFive_7 (by decide) ?_
  refine lv_icmp_gt (tgt := 17) hx hb dX7_hasRoomForFive_10 (by decide) (fun c2 => (x_lt (rg_k (by decide) : rg 700 700 700) hx1 (i_lt c2) (by decide)).elim) (fun c2 => ?_)
  have q2 : x1.toInt ≤ 700 := i_nlt c2
  refine lv_iconst (v := 1) hx hb dX7_hasRoomForFive_13 (by decide) ?_
  refine lv_goto (tgt := 18) hx hb dX7_hasRoomForFive_14 (by decide) ?_
  exact hret 1 _ _ _ _ _ _ dX7_hasRoomForFive_18 hT hS ⟨rfl, rfl⟩

set_option maxRecDepth 100000 in
set_option maxHeartbeats 4000000 in
theorem k_X7_append_1 {l : Launch} {D : va_G} {h : Nat → Nat} {cz : Nat → ClassId} {i : Nat → Nat → Int32} {g : Nat → Nat → Int64} (hR : Rg rL i) (a_a : Int32) (hz : rg 0 696 (i 1 1)) : CtV l yX7_append cX7_append 3 none ({ frames := 0, cells := 0, slots := 0, locals := 0 } : Room) D h cz i g [.ref (h 1), .int a_a] (fun u => Rg rL u.1 ∧ (u.1 1 1).toInt = (i 1 1).toInt + 4) := by
  refine k_V pn_X7_append (Nat.le_of_ble_eq_true rfl) ?_
  intro p e s m args below meth c ls Q X hret hT hl hS
  have hx := X.1
  have hb := X.2.1
  have hl : lv_has ls 3 [(0, .ref (h 1)), (1, .int a_a)] := hl
  refine lv_bipush (v := 24) hx hb dX7_append_0 (by decide) ?_
  refine lv_istore_n (lv' := [(2, .int 24), (0, .ref (h 1)), (1, .int a_a)]) hx hb dX7_append_2 rfl hl (by decide) rfl (fun ls hl => ?_)
  refine lv_iload_n hx hb dX7_append_3 rfl (lv_at hl 0 rfl) ?_
  refine lv_if_lt (tgt := 46) hx hb dX7_append_4 (by decide) (fun c1 => (x_lt (rg_k (by decide) : rg 24 24 24) (rg_k (by decide) : rg 0 0 0) (i_lt c1) (by decide)).elim) (fun c1 => ?_)
  refine lv_aload_n hx hb dX7_append_7 rfl (lv_at hl 1 rfl) ?_
  refine r_geti X hT 1 1 fk_7_15 rfl rfl (by decide) dX7_append_8 ?_
  refine lv_sipush (v := 700) hx hb dX7_append_11 (by decide) ?_
  refine lv_icmp_ge (tgt := 46) hx hb dX7_append_14 (by decide) (fun c2 => (x_le (rg_k (by decide) : rg 700 700 700) hz (i_le c2) (by decide)).elim) (fun c2 => ?_)
  have q2 : (i 1 1).toInt < 700 := i_nle c2
  refine lv_aload_n hx hb dX7_append_17 rfl (lv_at hl 1 rfl) ?_
  refine r_getr X hT 1 0 2 fk_7_9 rfl rfl (by decide) dX7_append_18 ?_
  refine lv_aload_n hx hb dX7_append_21 rfl (lv_at hl 1 rfl) ?_
  refine r_geti X hT 1 1 fk_7_15 rfl rfl (by decide) dX7_append_22 ?_
  refine lv_iload_n hx hb dX7_append_25 rfl (lv_at hl 2 rfl) ?_
  refine lv_iload_n hx hb dX7_append_26 rfl (lv_at hl 0 rfl) ?_
  refine q_ishr hx hb dX7_append_27 (fun x3 ex3 => ?_)
  refine q_i2b hx hb dX7_append_28 (fun x4 ex4 => ?_)
  refine r_bast X hT hS 2 rfl (by decide) (v_in hz (by decide)) dX7_append_29 (fun H locs i5 ei5 hT hS => ?_)
  have z5_1_1 : i5 1 1 = (i 1 1) := z_j ei5 rfl (by decide)
  have hR5 := Rg_put hR ei5 (-128) 127 rfl (rg_nb x4) (by decide)
  refine lv_aload_n hx hb dX7_append_30 rfl (lv_at hl 1 rfl) ?_
  refine lv_dup hx hb dX7_append_31 rfl ?_
  refine r_geti X hT 1 1 fk_7_15 rfl rfl (by decide) dX7_append_32 ?_
  rw [z5_1_1]
  refine lv_iconst (v := 1) hx hb dX7_append_35 (by decide) ?_
  refine q_iadd hx hb dX7_append_36 (fun x6 ex6 => ?_)
  obtain ⟨hx6, ax6⟩ := rg_add 1 697 ex6 hz (rg_k (by decide) : rg 1 1 1) (by decide)
  replace ax6 : x6.toInt = (i 1 1).toInt + 1 := ax6
  refine r_puti X hT hS 1 1 pk_7_15 rfl rfl rfl rfl (by decide) dX7_append_37 (fun H locs i7 ei7 hT hS => ?_)
  have z7_1_1 : i7 1 1 = x6 := z_s ei7
  have hR7 := Rg_put hR5 ei7 0 700 rfl hx6 (by decide)
  obtain ⟨x8, ex8⟩ : ∃ y : Int32, y = 24 + (-8) := ⟨_, rfl⟩
  refine lv_iinc (v := x8) (lv' := [(2, .int x8), (0, .ref (h 1)), (1, .int a_a)]) hx hb dX7_append_40 hl (k := 0) rfl (by rw [ex8]; rfl) (by decide) rfl (fun ls hl => ?_)
  obtain ⟨hx8, ax8⟩ := rg_add 16 16 ex8 (rg_k (by decide) : rg 24 24 24) (rg_k (by decide) : rg (-8) (-8) (-8)) (by decide)
  replace ax8 : x8.toInt = 24 + (-8) := ax8
  refine lv_goto (tgt := 3) hx hb dX7_append_43 (by decide) ?_
  refine lv_iload_n hx hb dX7_append_3 rfl (lv_at hl 0 rfl) ?_
  refine lv_if_lt (tgt := 46) hx hb dX7_append_4 (by decide) (fun c9 => (x_lt hx8 (rg_k (by decide) : rg 0 0 0) (i_lt c9) (by decide)).elim) (fun c9 => ?_)
  have q9 : 0 ≤ x8.toInt := i_nlt c9
  refine lv_aload_n hx hb dX7_append_7 rfl (lv_at hl 1 rfl) ?_
  refine r_geti X hT 1 1 fk_7_15 rfl rfl (by decide) dX7_append_8 ?_
  rw [z7_1_1]
  refine lv_sipush (v := 700) hx hb dX7_append_11 (by decide) ?_
  refine lv_icmp_ge (tgt := 46) hx hb dX7_append_14 (by decide) (fun c10 => (x_le (rg_k (by decide) : rg 700 700 700) hx6 (i_le c10) (by decide)).elim) (fun c10 => ?_)
  have q10 : x6.toInt < 700 := i_nle c10
  refine lv_aload_n hx hb dX7_append_17 rfl (lv_at hl 1 rfl) ?_
  refine r_getr X hT 1 0 2 fk_7_9 rfl rfl (by decide) dX7_append_18 ?_
  refine lv_aload_n hx hb dX7_append_21 rfl (lv_at hl 1 rfl) ?_
  refine r_geti X hT 1 1 fk_7_15 rfl rfl (by decide) dX7_append_22 ?_
  rw [z7_1_1]
  refine lv_iload_n hx hb dX7_append_25 rfl (lv_at hl 2 rfl) ?_
  refine lv_iload_n hx hb dX7_append_26 rfl (lv_at hl 0 rfl) ?_
  refine q_ishr hx hb dX7_append_27 (fun x11 ex11 => ?_)
  refine q_i2b hx hb dX7_append_28 (fun x12 ex12 => ?_)
  refine r_bast X hT hS 2 rfl (by decide) (v_in hx6 (by decide)) dX7_append_29 (fun H locs i13 ei13 hT hS => ?_)
  have z13_1_1 : i13 1 1 = x6 := z_j ei13 z7_1_1 (by decide)
  have hR13 := Rg_put hR7 ei13 (-128) 127 rfl (rg_nb x12) (by decide)
  refine lv_aload_n hx hb dX7_append_30 rfl (lv_at hl 1 rfl) ?_
  refine lv_dup hx hb dX7_append_31 rfl ?_
  refine r_geti X hT 1 1 fk_7_15 rfl rfl (by decide) dX7_append_32 ?_
  rw [z13_1_1]
  refine lv_iconst (v := 1) hx hb dX7_append_35 (by decide) ?_
  refine q_iadd hx hb dX7_append_36 (fun x14 ex14 => ?_)
  obtain ⟨hx14, ax14⟩ := rg_add 2 698 ex14 hx6 (rg_k (by decide) : rg 1 1 1) (by decide)
  replace ax14 : x14.toInt = x6.toInt + 1 := ax14
  refine r_puti X hT hS 1 1 pk_7_15 rfl rfl rfl rfl (by decide) dX7_append_37 (fun H locs i15 ei15 hT hS => ?_)
  have z15_1_1 : i15 1 1 = x14 := z_s ei15
  have hR15 := Rg_put hR13 ei15 0 700 rfl hx14 (by decide)
  obtain ⟨x16, ex16⟩ : ∃ y : Int32, y = x8 + (-8) := ⟨_, rfl⟩
  refine lv_iinc (v := x16) (lv' := [(2, .int x16), (0, .ref (h 1)), (1, .int a_a)]) hx hb dX7_append_40 hl (k := 0) rfl (by rw [ex16]; rfl) (by decide) rfl (fun ls hl => ?_)
  obtain ⟨hx16, ax16⟩ := rg_add 8 8 ex16 hx8 (rg_k (by decide) : rg (-8) (-8) (-8)) (by decide)
  replace ax16 : x16.toInt = x8.toInt + (-8) := ax16
  refine lv_goto (tgt := 3) hx hb dX7_append_43 (by decide) ?_
  refine lv_iload_n hx hb dX7_append_3 rfl (lv_at hl 0 rfl) ?_
  refine lv_if_lt (tgt := 46) hx hb dX7_append_4 (by decide) (fun c17 => (x_lt hx16 (rg_k (by decide) : rg 0 0 0) (i_lt c17) (by decide)).elim) (fun c17 => ?_)
  have q17 : 0 ≤ x16.toInt := i_nlt c17
  refine lv_aload_n hx hb dX7_append_7 rfl (lv_at hl 1 rfl) ?_
  refine r_geti X hT 1 1 fk_7_15 rfl rfl (by decide) dX7_append_8 ?_
  rw [z15_1_1]
  refine lv_sipush (v := 700) hx hb dX7_append_11 (by decide) ?_
  refine lv_icmp_ge (tgt := 46) hx hb dX7_append_14 (by decide) (fun c18 => (x_le (rg_k (by decide) : rg 700 700 700) hx14 (i_le c18) (by decide)).elim) (fun c18 => ?_)
  have q18 : x14.toInt < 700 := i_nle c18
  refine lv_aload_n hx hb dX7_append_17 rfl (lv_at hl 1 rfl) ?_
  refine r_getr X hT 1 0 2 fk_7_9 rfl rfl (by decide) dX7_append_18 ?_
  refine lv_aload_n hx hb dX7_append_21 rfl (lv_at hl 1 rfl) ?_
  refine r_geti X hT 1 1 fk_7_15 rfl rfl (by decide) dX7_append_22 ?_
  rw [z15_1_1]
  refine lv_iload_n hx hb dX7_append_25 rfl (lv_at hl 2 rfl) ?_
  refine lv_iload_n hx hb dX7_append_26 rfl (lv_at hl 0 rfl) ?_
  refine q_ishr hx hb dX7_append_27 (fun x19 ex19 => ?_)
  refine q_i2b hx hb dX7_append_28 (fun x20 ex20 => ?_)
  refine r_bast X hT hS 2 rfl (by decide) (v_in hx14 (by decide)) dX7_append_29 (fun H locs i21 ei21 hT hS => ?_)
  have z21_1_1 : i21 1 1 = x14 := z_j ei21 z15_1_1 (by decide)
  have hR21 := Rg_put hR15 ei21 (-128) 127 rfl (rg_nb x20) (by decide)
  refine lv_aload_n hx hb dX7_append_30 rfl (lv_at hl 1 rfl) ?_
  refine lv_dup hx hb dX7_append_31 rfl ?_
  refine r_geti X hT 1 1 fk_7_15 rfl rfl (by decide) dX7_append_32 ?_
  rw [z21_1_1]
  refine lv_iconst (v := 1) hx hb dX7_append_35 (by decide) ?_
  refine q_iadd hx hb dX7_append_36 (fun x22 ex22 => ?_)
  obtain ⟨hx22, ax22⟩ := rg_add 3 699 ex22 hx14 (rg_k (by decide) : rg 1 1 1) (by decide)
  replace ax22 : x22.toInt = x14.toInt + 1 := ax22
  refine r_puti X hT hS 1 1 pk_7_15 rfl rfl rfl rfl (by decide) dX7_append_37 (fun H locs i23 ei23 hT hS => ?_)
  have z23_1_1 : i23 1 1 = x22 := z_s ei23
  have hR23 := Rg_put hR21 ei23 0 700 rfl hx22 (by decide)
  obtain ⟨x24, ex24⟩ : ∃ y : Int32, y = x16 + (-8) := ⟨_, rfl⟩
  refine lv_iinc (v := x24) (lv' := [(2, .int x24), (0, .ref (h 1)), (1, .int a_a)]) hx hb dX7_append_40 hl (k := 0) rfl (by rw [ex24]; rfl) (by decide) rfl (fun ls hl => ?_)
  obtain ⟨hx24, ax24⟩ := rg_add 0 0 ex24 hx16 (rg_k (by decide) : rg (-8) (-8) (-8)) (by decide)
  replace ax24 : x24.toInt = x16.toInt + (-8) := ax24
  refine lv_goto (tgt := 3) hx hb dX7_append_43 (by decide) ?_
  refine lv_iload_n hx hb dX7_append_3 rfl (lv_at hl 0 rfl) ?_
  refine lv_if_lt (tgt := 46) hx hb dX7_append_4 (by decide) (fun c25 => (x_lt hx24 (rg_k (by decide) : rg 0 0 0) (i_lt c25) (by decide)).elim) (fun c25 => ?_)
  have q25 : 0 ≤ x24.toInt := i_nlt c25
  refine lv_aload_n hx hb dX7_append_7 rfl (lv_at hl 1 rfl) ?_
  refine r_geti X hT 1 1 fk_7_15 rfl rfl (by decide) dX7_append_8 ?_
  rw [z23_1_1]
  refine lv_sipush (v := 700) hx hb dX7_append_11 (by decide) ?_
  refine lv_icmp_ge (tgt := 46) hx hb dX7_append_14 (by decide) (fun c26 => (x_le (rg_k (by decide) : rg 700 700 700) hx22 (i_le c26) (by decide)).elim) (fun c26 => ?_)
  have q26 : x22.toInt < 700 := i_nle c26
  refine lv_aload_n hx hb dX7_append_17 rfl (lv_at hl 1 rfl) ?_
  refine r_getr X hT 1 0 2 fk_7_9 rfl rfl (by decide) dX7_append_18 ?_
  refine lv_aload_n hx hb dX7_append_21 rfl (lv_at hl 1 rfl) ?_
  refine r_geti X hT 1 1 fk_7_15 rfl rfl (by decide) dX7_append_22 ?_
  rw [z23_1_1]
  refine lv_iload_n hx hb dX7_append_25 rfl (lv_at hl 2 rfl) ?_
  refine lv_iload_n hx hb dX7_append_26 rfl (lv_at hl 0 rfl) ?_
  refine q_ishr hx hb dX7_append_27 (fun x27 ex27 => ?_)
  refine q_i2b hx hb dX7_append_28 (fun x28 ex28 => ?_)
  refine r_bast X hT hS 2 rfl (by decide) (v_in hx22 (by decide)) dX7_append_29 (fun H locs i29 ei29 hT hS => ?_)
  have z29_1_1 : i29 1 1 = x22 := z_j ei29 z23_1_1 (by decide)
  have hR29 := Rg_put hR23 ei29 (-128) 127 rfl (rg_nb x28) (by decide)
  refine lv_aload_n hx hb dX7_append_30 rfl (lv_at hl 1 rfl) ?_
  refine lv_dup hx hb dX7_append_31 rfl ?_
  refine r_geti X hT 1 1 fk_7_15 rfl rfl (by decide) dX7_append_32 ?_
  rw [z29_1_1]
  refine lv_iconst (v := 1) hx hb dX7_append_35 (by decide) ?_
  refine q_iadd hx hb dX7_append_36 (fun x30 ex30 => ?_)
  obtain ⟨hx30, ax30⟩ := rg_add 4 700 ex30 hx22 (rg_k (by decide) : rg 1 1 1) (by decide)
  replace ax30 : x30.toInt = x22.toInt + 1 := ax30
  refine r_puti X hT hS 1 1 pk_7_15 rfl rfl rfl rfl (by decide) dX7_append_37 (fun H locs i31 ei31 hT hS => ?_)
  have z31_1_1 : i31 1 1 = x30 := z_s ei31
  have hR31 := Rg_put hR29 ei31 0 700 rfl hx30 (by decide)
  obtain ⟨x32, ex32⟩ : ∃ y : Int32, y = x24 + (-8) := ⟨_, rfl⟩
  refine lv_iinc (v := x32) (lv' := [(2, .int x32), (0, .ref (h 1)), (1, .int a_a)]) hx hb dX7_append_40 hl (k := 0) rfl (by rw [ex32]; rfl) (by decide) rfl (fun ls hl => ?_)
  obtain ⟨hx32, ax32⟩ := rg_add (-8) (-8) ex32 hx24 (rg_k (by decide) : rg (-8) (-8) (-8)) (by decide)
  replace ax32 : x32.toInt = x24.toInt + (-8) := ax32
  refine lv_goto (tgt := 3) hx hb dX7_append_43 (by decide) ?_
  refine lv_iload_n hx hb dX7_append_3 rfl (lv_at hl 0 rfl) ?_
  refine lv_if_lt (tgt := 46) hx hb dX7_append_4 (by decide) (fun c33 => ?_) (fun c33 => (x_le (rg_k (by decide) : rg 0 0 0) hx32 (i_nlt c33) (by decide)).elim)
  have q33 : x32.toInt < 0 := i_lt c33
  exact hret _ _ _ _ _ _ dX7_append_46 hT hS ⟨hR31, (by show (i31 1 1).toInt = _; rw [z31_1_1]; omega)⟩

set_option maxRecDepth 100000 in
set_option maxHeartbeats 4000000 in
theorem k_X8_feed {l : Launch} {D : va_G} {h : Nat → Nat} {cz : Nat → ClassId} {i : Nat → Nat → Int32} {g : Nat → Nat → Int64} (hR : Rg rL i) (a_a : Int32) (a_b : Int32) (a_c : Int32) (a_d : Int32) (a_e : Int32) (hz : rg 0 0 (i 1 1)) : CtI l yX8_feed cX8_feed 6 (some .int) ({ frames := 1, cells := 0, slots := 0, locals := 22 } : Room) D h cz i g [.ref (h 0), .int a_a, .int a_b, .int a_c, .int a_d, .int a_e] (fun r u => Rg rL u.1 ∧ r = 20) := by
  refine k_I pn_X8_feed (Nat.le_of_ble_eq_true rfl) ?_
  intro p e s m args below meth c ls Q X hret hT hl hS
  have hx := X.1
  have hb := X.2.1
  have hl : lv_has ls 6 [(0, .ref (h 0)), (1, .int a_a), (2, .int a_b), (3, .int a_c), (4, .int a_d), (5, .int a_e)] := hl
  refine lv_aload_n hx hb dX8_feed_0 rfl (lv_at hl 0 rfl) ?_
  refine r_getr X hT 0 0 1 fk_8_10 rfl rfl (by decide) dX8_feed_1 ?_
  refine r_Vi (As := []) (rest := []) X hT hS (k_X7_hasRoomForFive_1 hR (rg_w hz (by decide) : rg 0 680 (i 1 1))) mk_X7_hasRoomForFive gm_493 rfl rfl (by decide) hd_X7_hasRoomForFive ⟨rfl, rfl⟩ ⟨Nat.le_of_ble_eq_true rfl, Nat.le_of_ble_eq_true rfl⟩ hl.1 rfl (Nat.le_of_ble_eq_true rfl) dX8_feed_4 ⟨Nat.zero_le _, Nat.zero_le _⟩ (fun r1 i1 g1 H locs hq hT hS => ?_)
  obtain ⟨eh1, rfl⟩ := hq
  rw [(Prod.mk.inj eh1).1, (Prod.mk.inj eh1).2] at hT
  refine lv_if_ne (tgt := 12) hx hb dX8_feed_7 (by decide) (fun c2 => ?_) (fun c2 => (x_eq (rg_k (by decide) : rg 1 1 1) (rg_k (by decide) : rg 0 0 0) (i_eq c2) (by decide)).elim)
  refine lv_aload_n hx hb dX8_feed_12 rfl (lv_at hl 0 rfl) ?_
  refine r_getr X hT 0 0 1 fk_8_10 rfl rfl (by decide) dX8_feed_13 ?_
  refine lv_iload_n hx hb dX8_feed_16 rfl (lv_at hl 1 rfl) ?_
  refine r_Vv (As := [.int a_a]) (rest := []) X hT hS (k_X7_append_1 hR a_a (rg_w hz (by decide) : rg 0 696 (i 1 1))) mk_X7_append gm_497 rfl rfl (by decide) hd_X7_append ⟨rfl, rfl⟩ ⟨Nat.le_of_ble_eq_true rfl, Nat.le_of_ble_eq_true rfl⟩ hl.1 rfl (Nat.le_of_ble_eq_true rfl) dX8_feed_17 ⟨Nat.zero_le _, Nat.zero_le _⟩ (fun i3 g3 H locs hq hT hS => ?_)
  obtain ⟨hR3, hf3_0⟩ := hq
  replace hf3_0 : (i3 1 1).toInt = (i 1 1).toInt + 4 := hf3_0
  have h4 : rg 4 4 (i3 1 1) := ⟨by have := hz.1; have := hf3_0; omega, by have := hz.2; have := hf3_0; omega⟩
  refine lv_aload_n hx hb dX8_feed_20 rfl (lv_at hl 0 rfl) ?_
  refine r_getr X hT 0 0 1 fk_8_10 rfl rfl (by decide) dX8_feed_21 ?_
  refine lv_iload_n hx hb dX8_feed_24 rfl (lv_at hl 2 rfl) ?_
  refine r_Vv (As := [.int a_b]) (rest := []) X hT hS (k_X7_append_1 hR3 a_b (rg_w h4 (by decide) : rg 0 696 (i3 1 1))) mk_X7_append gm_497 rfl rfl (by decide) hd_X7_append ⟨rfl, rfl⟩ ⟨Nat.le_of_ble_eq_true rfl, Nat.le_of_ble_eq_true rfl⟩ hl.1 rfl (Nat.le_of_ble_eq_true rfl) dX8_feed_25 ⟨Nat.zero_le _, Nat.zero_le _⟩ (fun i5 g5 H locs hq hT hS => ?_)
  obtain ⟨hR5, hf5_0⟩ := hq
  replace hf5_0 : (i5 1 1).toInt = (i3 1 1).toInt + 4 := hf5_0
  have h6 : rg 8 8 (i5 1 1) := ⟨by have := h4.1; have := hf5_0; omega, by have := h4.2; have := hf5_0; omega⟩
  refine lv_aload_n hx hb dX8_feed_28 rfl (lv_at hl 0 rfl) ?_
  refine r_getr X hT 0 0 1 fk_8_10 rfl rfl (by decide) dX8_feed_29 ?_
  refine lv_iload_n hx hb dX8_feed_32 rfl (lv_at hl 3 rfl) ?_
  refine r_Vv (As := [.int a_c]) (rest := []) X hT hS (k_X7_append_1 hR5 a_c (rg_w h6 (by decide) : rg 0 696 (i5 1 1))) mk_X7_append gm_497 rfl rfl (by decide) hd_X7_append ⟨rfl, rfl⟩ ⟨Nat.le_of_ble_eq_true rfl, Nat.le_of_ble_eq_true rfl⟩ hl.1 rfl (Nat.le_of_ble_eq_true rfl) dX8_feed_33 ⟨Nat.zero_le _, Nat.zero_le _⟩ (fun i7 g7 H locs hq hT hS => ?_)
  obtain ⟨hR7, hf7_0⟩ := hq
  replace hf7_0 : (i7 1 1).toInt = (i5 1 1).toInt + 4 := hf7_0
  have h8 : rg 12 12 (i7 1 1) := ⟨by have := h6.1; have := hf7_0; omega, by have := h6.2; have := hf7_0; omega⟩
  refine lv_aload_n hx hb dX8_feed_36 rfl (lv_at hl 0 rfl) ?_
  refine r_getr X hT 0 0 1 fk_8_10 rfl rfl (by decide) dX8_feed_37 ?_
  refine lv_iload hx hb dX8_feed_40 (lv_at hl 4 rfl) ?_
  refine r_Vv (As := [.int a_d]) (rest := []) X hT hS (k_X7_append_1 hR7 a_d (rg_w h8 (by decide) : rg 0 696 (i7 1 1))) mk_X7_append gm_497 rfl rfl (by decide) hd_X7_append ⟨rfl, rfl⟩ ⟨Nat.le_of_ble_eq_true rfl, Nat.le_of_ble_eq_true rfl⟩ hl.1 rfl (Nat.le_of_ble_eq_true rfl) dX8_feed_42 ⟨Nat.zero_le _, Nat.zero_le _⟩ (fun i9 g9 H locs hq hT hS => ?_)
  obtain ⟨hR9, hf9_0⟩ := hq
  replace hf9_0 : (i9 1 1).toInt = (i7 1 1).toInt + 4 := hf9_0
  have h10 : rg 16 16 (i9 1 1) := ⟨by have := h8.1; have := hf9_0; omega, by have := h8.2; have := hf9_0; omega⟩
  refine lv_aload_n hx hb dX8_feed_45 rfl (lv_at hl 0 rfl) ?_
  refine r_getr X hT 0 0 1 fk_8_10 rfl rfl (by decide) dX8_feed_46 ?_
  refine lv_iload hx hb dX8_feed_49 (lv_at hl 5 rfl) ?_
  refine r_Vv (As := [.int a_e]) (rest := []) X hT hS (k_X7_append_1 hR9 a_e (rg_w h10 (by decide) : rg 0 696 (i9 1 1))) mk_X7_append gm_497 rfl rfl (by decide) hd_X7_append ⟨rfl, rfl⟩ ⟨Nat.le_of_ble_eq_true rfl, Nat.le_of_ble_eq_true rfl⟩ hl.1 rfl (Nat.le_of_ble_eq_true rfl) dX8_feed_51 ⟨Nat.zero_le _, Nat.zero_le _⟩ (fun i11 g11 H locs hq hT hS => ?_)
  obtain ⟨hR11, hf11_0⟩ := hq
  replace hf11_0 : (i11 1 1).toInt = (i9 1 1).toInt + 4 := hf11_0
  have h12 : rg 20 20 (i11 1 1) := ⟨by have := h10.1; have := hf11_0; omega, by have := h10.2; have := hf11_0; omega⟩
  refine lv_aload_n hx hb dX8_feed_54 rfl (lv_at hl 0 rfl) ?_
  refine r_getr X hT 0 0 1 fk_8_10 rfl rfl (by decide) dX8_feed_55 ?_
  refine r_geti X hT 1 1 fk_8_106 rfl rfl (by decide) dX8_feed_58 ?_
  exact hret (i11 1 1) _ _ _ _ _ _ dX8_feed_61 hT hS ⟨hR11, (rg_c h12)⟩

set_option maxRecDepth 100000 in
set_option maxHeartbeats 4000000 in
theorem k_X6_clear_3 {l : Launch} {D : va_G} {h : Nat → Nat} {cz : Nat → ClassId} {i : Nat → Nat → Int32} {g : Nat → Nat → Int64} (hR : Rg rF i)  : CtV l yX6_clear cX6_clear 1 none ({ frames := 0, cells := 0, slots := 0, locals := 0 } : Room) D h cz i g [.ref (h 3)] (fun u => Rg rF u.1) := by
  refine k_V pn_X6_clear (Nat.le_of_ble_eq_true rfl) ?_
  intro p e s m args below meth c ls Q X hret hT hl hS
  have hx := X.1
  have hb := X.2.1
  have hl : lv_has ls 1 [(0, .ref (h 3))] := hl
  refine lv_aload_n hx hb dX6_clear_0 rfl (lv_at hl 0 rfl) ?_
  refine lv_iconst (v := 0) hx hb dX6_clear_1 (by decide) ?_
  refine r_puti X hT hS 3 10 pk_6_42 rfl rfl rfl rfl (by decide) dX6_clear_2 (fun H locs i1 ei1 hT hS => ?_)
  have hR1 := Rg_put hR ei1 0 0 rfl (rg_k (by decide) : rg 0 0 0) (by decide)
  refine lv_aload_n hx hb dX6_clear_5 rfl (lv_at hl 0 rfl) ?_
  refine lv_iconst (v := 0) hx hb dX6_clear_6 (by decide) ?_
  refine r_puti X hT hS 3 11 pk_6_46 rfl rfl rfl rfl (by decide) dX6_clear_7 (fun H locs i2 ei2 hT hS => ?_)
  have hR2 := Rg_put hR1 ei2 0 0 rfl (rg_k (by decide) : rg 0 0 0) (by decide)
  refine lv_aload_n hx hb dX6_clear_10 rfl (lv_at hl 0 rfl) ?_
  refine lv_iconst (v := 0) hx hb dX6_clear_11 (by decide) ?_
  refine r_puti X hT hS 3 12 pk_6_49 rfl rfl rfl rfl (by decide) dX6_clear_12 (fun H locs i3 ei3 hT hS => ?_)
  have hR3 := Rg_put hR2 ei3 0 0 rfl (rg_k (by decide) : rg 0 0 0) (by decide)
  refine lv_aload_n hx hb dX6_clear_15 rfl (lv_at hl 0 rfl) ?_
  refine lv_iconst (v := 0) hx hb dX6_clear_16 (by decide) ?_
  refine r_puti X hT hS 3 13 pk_6_52 rfl rfl rfl rfl (by decide) dX6_clear_17 (fun H locs i4 ei4 hT hS => ?_)
  have hR4 := Rg_put hR3 ei4 0 0 rfl (rg_k (by decide) : rg 0 0 0) (by decide)
  refine lv_aload_n hx hb dX6_clear_20 rfl (lv_at hl 0 rfl) ?_
  refine lv_iconst (v := 0) hx hb dX6_clear_21 (by decide) ?_
  refine r_puti X hT hS 3 14 pk_6_55 rfl rfl rfl rfl (by decide) dX6_clear_22 (fun H locs i5 ei5 hT hS => ?_)
  have hR5 := Rg_put hR4 ei5 0 0 rfl (rg_k (by decide) : rg 0 0 0) (by decide)
  refine lv_aload_n hx hb dX6_clear_25 rfl (lv_at hl 0 rfl) ?_
  refine lv_iconst (v := 0) hx hb dX6_clear_26 (by decide) ?_
  refine r_puti X hT hS 3 15 pk_6_58 rfl rfl rfl rfl (by decide) dX6_clear_27 (fun H locs i6 ei6 hT hS => ?_)
  have hR6 := Rg_put hR5 ei6 0 0 rfl (rg_k (by decide) : rg 0 0 0) (by decide)
  refine lv_aload_n hx hb dX6_clear_30 rfl (lv_at hl 0 rfl) ?_
  refine lv_iconst (v := 0) hx hb dX6_clear_31 (by decide) ?_
  refine r_puti X hT hS 3 16 pk_6_61 rfl rfl rfl rfl (by decide) dX6_clear_32 (fun H locs i7 ei7 hT hS => ?_)
  have hR7 := Rg_put hR6 ei7 0 0 rfl (rg_k (by decide) : rg 0 0 0) (by decide)
  refine lv_aload_n hx hb dX6_clear_35 rfl (lv_at hl 0 rfl) ?_
  refine lv_iconst (v := 0) hx hb dX6_clear_36 (by decide) ?_
  refine r_puti X hT hS 3 17 pk_6_64 rfl rfl rfl rfl (by decide) dX6_clear_37 (fun H locs i8 ei8 hT hS => ?_)
  have hR8 := Rg_put hR7 ei8 0 0 rfl (rg_k (by decide) : rg 0 0 0) (by decide)
  exact hret _ _ _ _ _ _ dX6_clear_40 hT hS hR8

set_option maxRecDepth 100000 in
set_option maxHeartbeats 4000000 in
theorem k_X7_at_1 {l : Launch} {D : va_G} {h : Nat → Nat} {cz : Nat → ClassId} {i : Nat → Nat → Int32} {g : Nat → Nat → Int64} (hR : Rg rF i) (a_a : Int32) : CtI l yX7_at cX7_at 2 (some .int) ({ frames := 0, cells := 0, slots := 0, locals := 0 } : Room) D h cz i g [.ref (h 1), .int a_a] (fun r u => u = (i, g) ∧ r = (-1)) := by
  refine k_I pn_X7_at (Nat.le_of_ble_eq_true rfl) ?_
  intro p e s m args below meth c ls Q X hret hT hl hS
  have hx := X.1
  have hb := X.2.1
  have hl : lv_has ls 2 [(0, .ref (h 1)), (1, .int a_a)] := hl
  refine lv_iload_n hx hb dX7_at_0 rfl (lv_at hl 1 rfl) ?_
  refine lv_if_lt (tgt := 25) hx hb dX7_at_1 (by decide) (fun c1 => ?_) (fun c1 => ?_)
  ·
    have q1 : a_a.toInt < 0 := i_lt c1
    have h2 : rg (-2147483648) (-1) a_a := t_ltx (-2147483648) (-1) (rg_top a_a) (rg_k (by decide) : rg 0 0 0) (i_lt c1) (by decide)
    refine lv_iconst (v := (-1)) hx hb dX7_at_25 (by decide) ?_
    exact hret (-1) _ _ _ _ _ _ dX7_at_26 hT hS ⟨rfl, rfl⟩
  ·
    have q1 : 0 ≤ a_a.toInt := i_nlt c1
    have h3 : rg 0 2147483647 a_a := t_ley 0 2147483647 (rg_k (by decide) : rg 0 0 0) (rg_top a_a) (i_nlt c1) (by decide)
    refine lv_iload_n hx hb dX7_at_4 rfl (lv_at hl 1 rfl) ?_
    refine lv_aload_n hx hb dX7_at_5 rfl (lv_at hl 0 rfl) ?_
    refine r_geti X hT 1 1 fk_7_15 rfl rfl (by decide) dX7_at_6 ?_
    refine lv_icmp_ge (tgt := 25) hx hb dX7_at_9 (by decide) (fun c4 => ?_) (fun c4 => (x_lt h3 (Rg_at hR 1 1 0 0 (by decide) rfl) (i_nle c4) (by decide)).elim)
    have q4 : (i 1 1).toInt ≤ a_a.toInt := i_le c4
    refine lv_iconst (v := (-1)) hx hb dX7_at_25 (by decide) ?_
    exact hret (-1) _ _ _ _ _ _ dX7_at_26 hT hS ⟨rfl, rfl⟩

set_option maxRecDepth 100000 in
set_option maxHeartbeats 4000000 in
theorem k_kindOf_m1 {l : Launch} {D : va_G} {h : Nat → Nat} {cz : Nat → ClassId} {i : Nat → Nat → Int32} {g : Nat → Nat → Int64}  : CtI l yX3_kindOf cX3_kindOf 1 (some .int) ({ frames := 0, cells := 0, slots := 0, locals := 0 } : Room) D h cz i g [.int (-1)] (fun r u => u = (i, g) ∧ r = 0) := by
  refine k_I pn_X3_kindOf (Nat.le_of_ble_eq_true rfl) ?_
  intro p e s m args below meth c ls Q X hret hT hl hS
  have hx := X.1
  have hb := X.2.1
  have hl : lv_has ls 1 [(0, .int (-1))] := hl
  refine lv_iload_n hx hb dX3_kindOf_0 rfl (lv_at hl 0 rfl) ?_
  refine lv_bipush (v := 97) hx hb dX3_kindOf_1 (by decide) ?_
  refine lv_icmp_lt (tgt := 14) hx hb dX3_kindOf_3 (by decide) (fun c1 => ?_) (fun c1 => (x_le (rg_k (by decide) : rg 97 97 97) (rg_k (by decide) : rg (-1) (-1) (-1)) (i_nlt c1) (by decide)).elim)
  refine lv_iload_n hx hb dX3_kindOf_14 rfl (lv_at hl 0 rfl) ?_
  refine lv_bipush (v := 48) hx hb dX3_kindOf_15 (by decide) ?_
  refine lv_icmp_lt (tgt := 28) hx hb dX3_kindOf_17 (by decide) (fun c2 => ?_) (fun c2 => (x_le (rg_k (by decide) : rg 48 48 48) (rg_k (by decide) : rg (-1) (-1) (-1)) (i_nlt c2) (by decide)).elim)
  refine lv_iload_n hx hb dX3_kindOf_28 rfl (lv_at hl 0 rfl) ?_
  refine lv_bipush (v := 59) hx hb dX3_kindOf_29 (by decide) ?_
  refine lv_icmp_ne (tgt := 36) hx hb dX3_kindOf_31 (by decide) (fun c3 => ?_) (fun c3 => (x_eq (rg_k (by decide) : rg (-1) (-1) (-1)) (rg_k (by decide) : rg 59 59 59) (i_eq c3) (by decide)).elim)
  refine lv_iload_n hx hb dX3_kindOf_36 rfl (lv_at hl 0 rfl) ?_
  refine lv_iconst (v := (-1)) hx hb dX3_kindOf_37 (by decide) ?_
  refine lv_icmp_ne (tgt := 45) hx hb dX3_kindOf_38 (by decide) (fun c4 => (x_ne (rg_k (by decide) : rg (-1) (-1) (-1)) (rg_k (by decide) : rg (-1) (-1) (-1)) (i_ne c4) (by decide)).elim) (fun c4 => ?_)
  refine lv_iconst (v := 0) hx hb dX3_kindOf_41 (by decide) ?_
  refine lv_goto (tgt := 46) hx hb dX3_kindOf_42 (by decide) ?_
  exact hret 0 _ _ _ _ _ _ dX3_kindOf_46 hT hS ⟨rfl, rfl⟩

set_option maxRecDepth 100000 in
set_option maxHeartbeats 4000000 in
theorem k_X3_advance_14 {l : Launch} {D : va_G} {h : Nat → Nat} {cz : Nat → ClassId} {i : Nat → Nat → Int32} {g : Nat → Nat → Int64} (hR : Rg rF i)  : CtV l yX3_advance cX3_advance 3 none ({ frames := 1, cells := 0, slots := 0, locals := 21 } : Room) D h cz i g [.ref (h 14)] (fun u => Rg rF u.1) := by
  refine k_V pn_X3_advance (Nat.le_of_ble_eq_true rfl) ?_
  intro p e s m args below meth c ls Q X hret hT hl hS
  have hx := X.1
  have hb := X.2.1
  have hl : lv_has ls 3 [(0, .ref (h 14))] := hl
  refine lv_aload_n hx hb dX3_advance_0 rfl (lv_at hl 0 rfl) ?_
  refine lv_aload_n hx hb dX3_advance_1 rfl (lv_at hl 0 rfl) ?_
  refine r_geti X hT 14 4 fk_3_31 rfl rfl (by decide) dX3_advance_2 ?_
  refine r_puti X hT hS 14 3 pk_3_137 rfl rfl rfl rfl (by decide) dX3_advance_5 (fun H locs i1 ei1 hT hS => ?_)
  have hR1 := Rg_put hR ei1 0 0 rfl (Rg_at hR 14 4 0 0 (by decide) rfl) (by decide)
  refine lv_aload_n hx hb dX3_advance_8 rfl (lv_at hl 0 rfl) ?_
  refine r_geti X hT 14 3 fk_3_137 rfl rfl (by decide) dX3_advance_9 ?_
  refine lv_aload_n hx hb dX3_advance_12 rfl (lv_at hl 0 rfl) ?_
  refine r_getr X hT 14 0 1 fk_3_15 rfl rfl (by decide) dX3_advance_13 ?_
  refine r_geti X hT 1 1 fk_3_140 rfl rfl (by decide) dX3_advance_16 ?_
  refine lv_icmp_ge (tgt := 67) hx hb dX3_advance_19 (by decide) (fun c2 => ?_) (fun c2 => (x_lt (Rg_at hR1 14 3 0 0 (by decide) rfl) (Rg_at hR1 1 1 0 0 (by decide) rfl) (i_nle c2) (by decide)).elim)
  have q2 : (i1 1 1).toInt ≤ (i1 14 3).toInt := i_le c2
  refine lv_aload_n hx hb dX3_advance_67 rfl (lv_at hl 0 rfl) ?_
  refine lv_aload_n hx hb dX3_advance_68 rfl (lv_at hl 0 rfl) ?_
  refine r_getr X hT 14 0 1 fk_3_15 rfl rfl (by decide) dX3_advance_69 ?_
  refine lv_aload_n hx hb dX3_advance_72 rfl (lv_at hl 0 rfl) ?_
  refine r_geti X hT 14 3 fk_3_137 rfl rfl (by decide) dX3_advance_73 ?_
  refine r_Vi (As := [.int (i1 14 3)]) (rest := [.ref (h 14)]) X hT hS (k_X7_at_1 hR1 (i1 14 3)) mk_X7_at gm_521 rfl rfl (by decide) hd_X7_at ⟨rfl, rfl⟩ ⟨Nat.le_of_ble_eq_true rfl, Nat.le_of_ble_eq_true rfl⟩ hl.1 rfl (Nat.le_of_ble_eq_true rfl) dX3_advance_76 ⟨Nat.zero_le _, Nat.zero_le _⟩ (fun r3 i3 g3 H locs hq hT hS => ?_)
  obtain ⟨eh3, rfl⟩ := hq
  rw [(Prod.mk.inj eh3).1, (Prod.mk.inj eh3).2] at hT
  refine r_Si (As := [.int (-1)]) (rest := [.ref (h 14)]) X hT hS (k_kindOf_m1) sk_X3_kindOf gm_525 hd_X3_kindOf ⟨rfl, rfl⟩ ⟨Nat.le_of_ble_eq_true rfl, Nat.le_of_ble_eq_true rfl⟩ hl.1 rfl (Nat.le_of_ble_eq_true rfl) dX3_advance_79 ⟨Nat.zero_le _, Nat.zero_le _⟩ (fun r4 i4 g4 H locs hq hT hS => ?_)
  obtain ⟨eh4, rfl⟩ := hq
  rw [(Prod.mk.inj eh4).1, (Prod.mk.inj eh4).2] at hT
  refine r_puti X hT hS 14 2 pk_3_37 rfl rfl rfl rfl (by decide) dX3_advance_82 (fun H locs i5 ei5 hT hS => ?_)
  have hR5 := Rg_put hR1 ei5 0 0 rfl (rg_k (by decide) : rg 0 0 0) (by decide)
  refine lv_aload_n hx hb dX3_advance_85 rfl (lv_at hl 0 rfl) ?_
  refine lv_aload_n hx hb dX3_advance_86 rfl (lv_at hl 0 rfl) ?_
  refine r_geti X hT 14 2 fk_3_37 rfl rfl (by decide) dX3_advance_87 ?_
  refine lv_if_ne (tgt := 100) hx hb dX3_advance_90 (by decide) (fun c6 => (x_ne (Rg_at hR5 14 2 0 0 (by decide) rfl) (rg_k (by decide) : rg 0 0 0) (i_ne c6) (by decide)).elim) (fun c6 => ?_)
  have q6 : (i5 14 2).toInt = 0 := i_eq c6
  refine lv_aload_n hx hb dX3_advance_93 rfl (lv_at hl 0 rfl) ?_
  refine r_geti X hT 14 3 fk_3_137 rfl rfl (by decide) dX3_advance_94 ?_
  refine lv_goto (tgt := 106) hx hb dX3_advance_97 (by decide) ?_
  refine r_puti X hT hS 14 4 pk_3_31 rfl rfl rfl rfl (by decide) dX3_advance_106 (fun H locs i7 ei7 hT hS => ?_)
  have hR7 := Rg_put hR5 ei7 0 0 rfl (Rg_at hR5 14 3 0 0 (by decide) rfl) (by decide)
  refine lv_aload_n hx hb dX3_advance_109 rfl (lv_at hl 0 rfl) ?_
  refine r_geti X hT 14 2 fk_3_37 rfl rfl (by decide) dX3_advance_110 ?_
  refine lv_iconst (v := 1) hx hb dX3_advance_113 (by decide) ?_
  refine lv_icmp_eq (tgt := 125) hx hb dX3_advance_114 (by decide) (fun c8 => (x_eq (Rg_at hR7 14 2 0 0 (by decide) rfl) (rg_k (by decide) : rg 1 1 1) (i_eq c8) (by decide)).elim) (fun c8 => ?_)
  have q8 : ¬ (i7 14 2).toInt = 1 := i_ne c8
  refine lv_aload_n hx hb dX3_advance_117 rfl (lv_at hl 0 rfl) ?_
  refine r_geti X hT 14 2 fk_3_37 rfl rfl (by decide) dX3_advance_118 ?_
  refine lv_iconst (v := 2) hx hb dX3_advance_121 (by decide) ?_
  refine lv_icmp_ne (tgt := 129) hx hb dX3_advance_122 (by decide) (fun c9 => ?_) (fun c9 => (x_eq (Rg_at hR7 14 2 0 0 (by decide) rfl) (rg_k (by decide) : rg 2 2 2) (i_eq c9) (by decide)).elim)
  have q9 : ¬ (i7 14 2).toInt = 2 := i_ne c9
  refine lv_iconst (v := 0) hx hb dX3_advance_129 (by decide) ?_
  refine lv_istore_n (lv' := [(1, .int 0), (0, .ref (h 14))]) hx hb dX3_advance_130 rfl hl (by decide) rfl (fun ls hl => ?_)
  refine lv_iload_n hx hb dX3_advance_131 rfl (lv_at hl 0 rfl) ?_
  refine lv_if_eq (tgt := 183) hx hb dX3_advance_132 (by decide) (fun c10 => ?_) (fun c10 => (x_ne (rg_k (by decide) : rg 0 0 0) (rg_k (by decide) : rg 0 0 0) (i_ne c10) (by decide)).elim)
  refine lv_aload_n hx hb dX3_advance_183 rfl (lv_at hl 1 rfl) ?_
  refine lv_iconst (v := 0) hx hb dX3_advance_184 (by decide) ?_
  refine r_puti X hT hS 14 5 pk_3_118 rfl rfl rfl rfl (by decide) dX3_advance_185 (fun H locs i11 ei11 hT hS => ?_)
  have hR11 := Rg_put hR7 ei11 0 0 rfl (rg_k (by decide) : rg 0 0 0) (by decide)
  refine lv_aload_n hx hb dX3_advance_188 rfl (lv_at hl 1 rfl) ?_
  refine r_geti X hT 14 3 fk_3_137 rfl rfl (by decide) dX3_advance_189 ?_
  refine lv_istore_n (lv' := [(2, .int (i11 14 3)), (1, .int 0), (0, .ref (h 14))]) hx hb dX3_advance_192 rfl hl (by decide) rfl (fun ls hl => ?_)
  refine lv_aload_n hx hb dX3_advance_193 rfl (lv_at hl 2 rfl) ?_
  refine r_geti X hT 14 2 fk_3_37 rfl rfl (by decide) dX3_advance_194 ?_
  refine lv_iconst (v := 2) hx hb dX3_advance_197 (by decide) ?_
  refine lv_icmp_ne (tgt := 244) hx hb dX3_advance_198 (by decide) (fun c12 => ?_) (fun c12 => (x_eq (Rg_at hR11 14 2 0 0 (by decide) rfl) (rg_k (by decide) : rg 2 2 2) (i_eq c12) (by decide)).elim)
  have q12 : ¬ (i11 14 2).toInt = 2 := i_ne c12
  exact hret _ _ _ _ _ _ dX3_advance_244 hT hS hR11

set_option maxRecDepth 100000 in
set_option maxHeartbeats 4000000 in
theorem k_X3_parse_14 {l : Launch} {D : va_G} {h : Nat → Nat} {cz : Nat → ClassId} {i : Nat → Nat → Int32} {g : Nat → Nat → Int64} (hR : Rg rF i)  : CtI l yX3_parse cX3_parse 2 (some .boolean) ({ frames := 2, cells := 0, slots := 0, locals := 43 } : Room) D h cz i g [.ref (h 14)] (fun r u => Rg rF u.1 ∧ r = 1) := by
  refine k_Z (by intro v u hq; obtain ⟨-, hq⟩ := hq; exact Or.inr hq) pn_X3_parse (Nat.le_of_ble_eq_true rfl) ?_
  intro p e s m args below meth c ls Q X hret hT hl hS
  have hx := X.1
  have hb := X.2.1
  have hl : lv_has ls 2 [(0, .ref (h 14))] := hl
  refine lv_aload_n hx hb dX3_parse_0 rfl (lv_at hl 0 rfl) ?_
  refine r_getr X hT 14 1 3 fk_3_19 rfl rfl (by decide) dX3_parse_1 ?_
  refine r_Vv (As := []) (rest := []) X hT hS (k_X6_clear_3 hR) mk_X6_clear gm_513 rfl rfl (by decide) hd_X6_clear ⟨rfl, rfl⟩ ⟨Nat.le_of_ble_eq_true rfl, Nat.le_of_ble_eq_true rfl⟩ hl.1 rfl (Nat.le_of_ble_eq_true rfl) dX3_parse_4 ⟨Nat.zero_le _, Nat.zero_le _⟩ (fun i1 g1 H locs hq hT hS => ?_)
  have hR1 := hq
  refine lv_aload_n hx hb dX3_parse_7 rfl (lv_at hl 0 rfl) ?_
  refine lv_iconst (v := 0) hx hb dX3_parse_8 (by decide) ?_
  refine r_puti X hT hS 14 6 pk_3_28 rfl rfl rfl rfl (by decide) dX3_parse_9 (fun H locs i2 ei2 hT hS => ?_)
  have hR2 := Rg_put hR1 ei2 0 0 rfl (rg_k (by decide) : rg 0 0 0) (by decide)
  refine lv_aload_n hx hb dX3_parse_12 rfl (lv_at hl 0 rfl) ?_
  refine lv_iconst (v := (-1)) hx hb dX3_parse_13 (by decide) ?_
  refine r_puti X hT hS 14 7 pk_3_9 rfl rfl rfl rfl (by decide) dX3_parse_14 (fun H locs i3 ei3 hT hS => ?_)
  have hR3 := Rg_put hR2 ei3 (-1) (-1) rfl (rg_k (by decide) : rg (-1) (-1) (-1)) (by decide)
  refine lv_aload_n hx hb dX3_parse_17 rfl (lv_at hl 0 rfl) ?_
  refine lv_iconst (v := 0) hx hb dX3_parse_18 (by decide) ?_
  refine r_puti X hT hS 14 4 pk_3_31 rfl rfl rfl rfl (by decide) dX3_parse_19 (fun H locs i4 ei4 hT hS => ?_)
  have hR4 := Rg_put hR3 ei4 0 0 rfl (rg_k (by decide) : rg 0 0 0) (by decide)
  refine lv_aload_n hx hb dX3_parse_22 rfl (lv_at hl 0 rfl) ?_
  refine r_Vv (As := []) (rest := []) X hT hS (k_X3_advance_14 hR4) mk_X3_advance gm_517 rfl rfl (by decide) hd_X3_advance ⟨rfl, rfl⟩ ⟨Nat.le_of_ble_eq_true rfl, Nat.le_of_ble_eq_true rfl⟩ hl.1 rfl (Nat.le_of_ble_eq_true rfl) dX3_parse_23 ⟨Nat.zero_le _, Nat.zero_le _⟩ (fun i5 g5 H locs hq hT hS => ?_)
  have hR5 := hq
  refine lv_iconst (v := 0) hx hb dX3_parse_26 (by decide) ?_
  refine lv_istore_n (lv' := [(1, .int 0), (0, .ref (h 14))]) hx hb dX3_parse_27 rfl hl (by decide) rfl (fun ls hl => ?_)
  refine lv_iload_n hx hb dX3_parse_28 rfl (lv_at hl 0 rfl) ?_
  refine lv_sipush (v := 700) hx hb dX3_parse_29 (by decide) ?_
  refine lv_icmp_ge (tgt := 70) hx hb dX3_parse_32 (by decide) (fun c6 => (x_le (rg_k (by decide) : rg 700 700 700) (rg_k (by decide) : rg 0 0 0) (i_le c6) (by decide)).elim) (fun c6 => ?_)
  refine lv_aload_n hx hb dX3_parse_35 rfl (lv_at hl 1 rfl) ?_
  refine r_geti X hT 14 2 fk_3_37 rfl rfl (by decide) dX3_parse_36 ?_
  refine lv_if_eq (tgt := 70) hx hb dX3_parse_39 (by decide) (fun c7 => ?_) (fun c7 => (x_ne (Rg_at hR5 14 2 0 0 (by decide) rfl) (rg_k (by decide) : rg 0 0 0) (i_ne c7) (by decide)).elim)
  have q7 : (i5 14 2).toInt = 0 := i_eq c7
  refine lv_iconst (v := 1) hx hb dX3_parse_70 (by decide) ?_
  exact hret 1 _ _ _ _ _ _ dX3_parse_71 hT hS ⟨hR5, rfl⟩

set_option maxRecDepth 100000 in
set_option maxHeartbeats 4000000 in
theorem k_X6_become_15_3 {l : Launch} {D : va_G} {h : Nat → Nat} {cz : Nat → ClassId} {i : Nat → Nat → Int32} {g : Nat → Nat → Int64} (hR : Rg rF i)  : CtV l yX6_become cX6_become 2 none ({ frames := 1, cells := 0, slots := 0, locals := 40 } : Room) D h cz i g [.ref (h 15), .ref (h 3)] (fun u => Rg rF u.1) := by
  refine k_V pn_X6_become (Nat.le_of_ble_eq_true rfl) ?_
  intro p e s m args below meth c ls Q X hret hT hl hS
  have hx := X.1
  have hb := X.2.1
  have hl : lv_has ls 2 [(0, .ref (h 15)), (1, .ref (h 3))] := hl
  refine lv_aload_n hx hb dX6_become_0 rfl (lv_at hl 0 rfl) ?_
  refine lv_aload_n hx hb dX6_become_1 rfl (lv_at hl 1 rfl) ?_
  refine r_geti X hT 3 10 fk_6_42 rfl rfl (by decide) dX6_become_2 ?_
  refine r_puti X hT hS 15 10 pk_6_42 rfl rfl rfl rfl (by decide) dX6_become_5 (fun H locs i1 ei1 hT hS => ?_)
  have hR1 := Rg_put hR ei1 0 0 rfl (Rg_at hR 3 10 0 0 (by decide) rfl) (by decide)
  refine lv_aload_n hx hb dX6_become_8 rfl (lv_at hl 0 rfl) ?_
  refine lv_aload_n hx hb dX6_become_9 rfl (lv_at hl 1 rfl) ?_
  refine r_geti X hT 3 11 fk_6_46 rfl rfl (by decide) dX6_become_10 ?_
  refine r_puti X hT hS 15 11 pk_6_46 rfl rfl rfl rfl (by decide) dX6_become_13 (fun H locs i2 ei2 hT hS => ?_)
  have hR2 := Rg_put hR1 ei2 0 0 rfl (Rg_at hR1 3 11 0 0 (by decide) rfl) (by decide)
  refine lv_aload_n hx hb dX6_become_16 rfl (lv_at hl 0 rfl) ?_
  refine lv_aload_n hx hb dX6_become_17 rfl (lv_at hl 1 rfl) ?_
  refine r_geti X hT 3 12 fk_6_49 rfl rfl (by decide) dX6_become_18 ?_
  refine r_puti X hT hS 15 12 pk_6_49 rfl rfl rfl rfl (by decide) dX6_become_21 (fun H locs i3 ei3 hT hS => ?_)
  have hR3 := Rg_put hR2 ei3 0 0 rfl (Rg_at hR2 3 12 0 0 (by decide) rfl) (by decide)
  refine lv_aload_n hx hb dX6_become_24 rfl (lv_at hl 0 rfl) ?_
  refine lv_aload_n hx hb dX6_become_25 rfl (lv_at hl 1 rfl) ?_
  refine r_geti X hT 3 13 fk_6_52 rfl rfl (by decide) dX6_become_26 ?_
  refine r_puti X hT hS 15 13 pk_6_52 rfl rfl rfl rfl (by decide) dX6_become_29 (fun H locs i4 ei4 hT hS => ?_)
  have hR4 := Rg_put hR3 ei4 0 0 rfl (Rg_at hR3 3 13 0 0 (by decide) rfl) (by decide)
  refine lv_aload_n hx hb dX6_become_32 rfl (lv_at hl 0 rfl) ?_
  refine lv_aload_n hx hb dX6_become_33 rfl (lv_at hl 1 rfl) ?_
  refine r_geti X hT 3 14 fk_6_55 rfl rfl (by decide) dX6_become_34 ?_
  refine r_puti X hT hS 15 14 pk_6_55 rfl rfl rfl rfl (by decide) dX6_become_37 (fun H locs i5 ei5 hT hS => ?_)
  have hR5 := Rg_put hR4 ei5 0 0 rfl (Rg_at hR4 3 14 0 0 (by decide) rfl) (by decide)
  refine lv_aload_n hx hb dX6_become_40 rfl (lv_at hl 0 rfl) ?_
  refine lv_aload_n hx hb dX6_become_41 rfl (lv_at hl 1 rfl) ?_
  refine r_geti X hT 3 15 fk_6_58 rfl rfl (by decide) dX6_become_42 ?_
  refine r_puti X hT hS 15 15 pk_6_58 rfl rfl rfl rfl (by decide) dX6_become_45 (fun H locs i6 ei6 hT hS => ?_)
  have hR6 := Rg_put hR5 ei6 0 0 rfl (Rg_at hR5 3 15 0 0 (by decide) rfl) (by decide)
  refine lv_aload_n hx hb dX6_become_48 rfl (lv_at hl 0 rfl) ?_
  refine lv_aload_n hx hb dX6_become_49 rfl (lv_at hl 1 rfl) ?_
  refine r_geti X hT 3 16 fk_6_61 rfl rfl (by decide) dX6_become_50 ?_
  refine r_puti X hT hS 15 16 pk_6_61 rfl rfl rfl rfl (by decide) dX6_become_53 (fun H locs i7 ei7 hT hS => ?_)
  have hR7 := Rg_put hR6 ei7 0 0 rfl (Rg_at hR6 3 16 0 0 (by decide) rfl) (by decide)
  refine lv_aload_n hx hb dX6_become_56 rfl (lv_at hl 0 rfl) ?_
  refine lv_aload_n hx hb dX6_become_57 rfl (lv_at hl 1 rfl) ?_
  refine r_geti X hT 3 17 fk_6_64 rfl rfl (by decide) dX6_become_58 ?_
  refine r_puti X hT hS 15 17 pk_6_64 rfl rfl rfl rfl (by decide) dX6_become_61 (fun H locs i8 ei8 hT hS => ?_)
  have hR8 := Rg_put hR7 ei8 0 0 rfl (Rg_at hR7 3 17 0 0 (by decide) rfl) (by decide)
  refine lv_aload_n hx hb dX6_become_64 rfl (lv_at hl 1 rfl) ?_
  refine r_getr X hT 3 0 4 fk_6_9 rfl rfl (by decide) dX6_become_65 ?_
  refine lv_iconst (v := 0) hx hb dX6_become_68 (by decide) ?_
  refine lv_aload_n hx hb dX6_become_69 rfl (lv_at hl 0 rfl) ?_
  refine r_getr X hT 15 0 16 fk_6_9 rfl rfl (by decide) dX6_become_70 ?_
  refine lv_iconst (v := 0) hx hb dX6_become_73 (by decide) ?_
  refine lv_bipush (v := 6) hx hb dX6_become_74 (by decide) ?_
  refine r_copyi X hT hS hl.1 4 16 rfl rfl (by decide) (by decide) gm_654 gm_656 gm_655 gm_123 (rg_k (by decide) : rg 0 0 0) (rg_k (by decide) : rg 0 0 0) (rg_k (by decide) : rg 6 6 6) (by decide) (Nat.le_of_ble_eq_true rfl) (by decide +kernel) dX6_become_76 (fun H locs i9 ei9 hT hS => ?_)
  have hR9 := Rg_cpy hR8 ei9 0 0 0 0 (fun _ => rfl) (fun _ => rfl) (by decide) (by decide)
  refine lv_aload_n hx hb dX6_become_79 rfl (lv_at hl 1 rfl) ?_
  refine r_getr X hT 3 1 5 fk_6_15 rfl rfl (by decide) dX6_become_80 ?_
  refine lv_iconst (v := 0) hx hb dX6_become_83 (by decide) ?_
  refine lv_aload_n hx hb dX6_become_84 rfl (lv_at hl 0 rfl) ?_
  refine r_getr X hT 15 1 17 fk_6_15 rfl rfl (by decide) dX6_become_85 ?_
  refine lv_iconst (v := 0) hx hb dX6_become_88 (by decide) ?_
  refine lv_bipush (v := 6) hx hb dX6_become_89 (by decide) ?_
  refine r_copyi X hT hS hl.1 5 17 rfl rfl (by decide) (by decide) gm_654 gm_656 gm_655 gm_123 (rg_k (by decide) : rg 0 0 0) (rg_k (by decide) : rg 0 0 0) (rg_k (by decide) : rg 6 6 6) (by decide) (Nat.le_of_ble_eq_true rfl) (by decide +kernel) dX6_become_91 (fun H locs i10 ei10 hT hS => ?_)
  have hR10 := Rg_cpy hR9 ei10 0 0 0 0 (fun _ => rfl) (fun _ => rfl) (by decide) (by decide)
  refine lv_aload_n hx hb dX6_become_94 rfl (lv_at hl 1 rfl) ?_
  refine r_getr X hT 3 2 6 fk_6_18 rfl rfl (by decide) dX6_become_95 ?_
  refine lv_iconst (v := 0) hx hb dX6_become_98 (by decide) ?_
  refine lv_aload_n hx hb dX6_become_99 rfl (lv_at hl 0 rfl) ?_
  refine r_getr X hT 15 2 18 fk_6_18 rfl rfl (by decide) dX6_become_100 ?_
  refine lv_iconst (v := 0) hx hb dX6_become_103 (by decide) ?_
  refine lv_bipush (v := 6) hx hb dX6_become_104 (by decide) ?_
  refine r_copyi X hT hS hl.1 6 18 rfl rfl (by decide) (by decide) gm_654 gm_656 gm_655 gm_123 (rg_k (by decide) : rg 0 0 0) (rg_k (by decide) : rg 0 0 0) (rg_k (by decide) : rg 6 6 6) (by decide) (Nat.le_of_ble_eq_true rfl) (by decide +kernel) dX6_become_106 (fun H locs i11 ei11 hT hS => ?_)
  have hR11 := Rg_cpy hR10 ei11 0 0 0 0 (fun _ => rfl) (fun _ => rfl) (by decide) (by decide)
  refine lv_aload_n hx hb dX6_become_109 rfl (lv_at hl 1 rfl) ?_
  refine r_getr X hT 3 3 7 fk_6_21 rfl rfl (by decide) dX6_become_110 ?_
  refine lv_iconst (v := 0) hx hb dX6_become_113 (by decide) ?_
  refine lv_aload_n hx hb dX6_become_114 rfl (lv_at hl 0 rfl) ?_
  refine r_getr X hT 15 3 19 fk_6_21 rfl rfl (by decide) dX6_become_115 ?_
  refine lv_iconst (v := 0) hx hb dX6_become_118 (by decide) ?_
  refine lv_bipush (v := 10) hx hb dX6_become_119 (by decide) ?_
  refine r_copyi X hT hS hl.1 7 19 rfl rfl (by decide) (by decide) gm_654 gm_656 gm_655 gm_123 (rg_k (by decide) : rg 0 0 0) (rg_k (by decide) : rg 0 0 0) (rg_k (by decide) : rg 10 10 10) (by decide) (Nat.le_of_ble_eq_true rfl) (by decide +kernel) dX6_become_121 (fun H locs i12 ei12 hT hS => ?_)
  have hR12 := Rg_cpy hR11 ei12 0 0 0 0 (fun _ => rfl) (fun _ => rfl) (by decide) (by decide)
  refine lv_aload_n hx hb dX6_become_124 rfl (lv_at hl 1 rfl) ?_
  refine r_getr X hT 3 4 8 fk_6_24 rfl rfl (by decide) dX6_become_125 ?_
  refine lv_iconst (v := 0) hx hb dX6_become_128 (by decide) ?_
  refine lv_aload_n hx hb dX6_become_129 rfl (lv_at hl 0 rfl) ?_
  refine r_getr X hT 15 4 20 fk_6_24 rfl rfl (by decide) dX6_become_130 ?_
  refine lv_iconst (v := 0) hx hb dX6_become_133 (by decide) ?_
  refine lv_bipush (v := 10) hx hb dX6_become_134 (by decide) ?_
  refine r_copyi X hT hS hl.1 8 20 rfl rfl (by decide) (by decide) gm_654 gm_656 gm_655 gm_123 (rg_k (by decide) : rg 0 0 0) (rg_k (by decide) : rg 0 0 0) (rg_k (by decide) : rg 10 10 10) (by decide) (Nat.le_of_ble_eq_true rfl) (by decide +kernel) dX6_become_136 (fun H locs i13 ei13 hT hS => ?_)
  have hR13 := Rg_cpy hR12 ei13 0 0 0 0 (fun _ => rfl) (fun _ => rfl) (by decide) (by decide)
  refine lv_aload_n hx hb dX6_become_139 rfl (lv_at hl 1 rfl) ?_
  refine r_getr X hT 3 5 9 fk_6_27 rfl rfl (by decide) dX6_become_140 ?_
  refine lv_iconst (v := 0) hx hb dX6_become_143 (by decide) ?_
  refine lv_aload_n hx hb dX6_become_144 rfl (lv_at hl 0 rfl) ?_
  refine r_getr X hT 15 5 21 fk_6_27 rfl rfl (by decide) dX6_become_145 ?_
  refine lv_iconst (v := 0) hx hb dX6_become_148 (by decide) ?_
  refine lv_bipush (v := 8) hx hb dX6_become_149 (by decide) ?_
  refine r_copyi X hT hS hl.1 9 21 rfl rfl (by decide) (by decide) gm_654 gm_656 gm_655 gm_123 (rg_k (by decide) : rg 0 0 0) (rg_k (by decide) : rg 0 0 0) (rg_k (by decide) : rg 8 8 8) (by decide) (Nat.le_of_ble_eq_true rfl) (by decide +kernel) dX6_become_151 (fun H locs i14 ei14 hT hS => ?_)
  have hR14 := Rg_cpy hR13 ei14 0 0 0 0 (fun _ => rfl) (fun _ => rfl) (by decide) (by decide)
  refine lv_aload_n hx hb dX6_become_154 rfl (lv_at hl 1 rfl) ?_
  refine r_getr X hT 3 6 10 fk_6_30 rfl rfl (by decide) dX6_become_155 ?_
  refine lv_iconst (v := 0) hx hb dX6_become_158 (by decide) ?_
  refine lv_aload_n hx hb dX6_become_159 rfl (lv_at hl 0 rfl) ?_
  refine r_getr X hT 15 6 22 fk_6_30 rfl rfl (by decide) dX6_become_160 ?_
  refine lv_iconst (v := 0) hx hb dX6_become_163 (by decide) ?_
  refine lv_bipush (v := 8) hx hb dX6_become_164 (by decide) ?_
  refine r_copyi X hT hS hl.1 10 22 rfl rfl (by decide) (by decide) gm_654 gm_656 gm_655 gm_123 (rg_k (by decide) : rg 0 0 0) (rg_k (by decide) : rg 0 0 0) (rg_k (by decide) : rg 8 8 8) (by decide) (Nat.le_of_ble_eq_true rfl) (by decide +kernel) dX6_become_166 (fun H locs i15 ei15 hT hS => ?_)
  have hR15 := Rg_cpy hR14 ei15 0 0 0 0 (fun _ => rfl) (fun _ => rfl) (by decide) (by decide)
  refine lv_aload_n hx hb dX6_become_169 rfl (lv_at hl 1 rfl) ?_
  refine r_getr X hT 3 7 11 fk_6_33 rfl rfl (by decide) dX6_become_170 ?_
  refine lv_iconst (v := 0) hx hb dX6_become_173 (by decide) ?_
  refine lv_aload_n hx hb dX6_become_174 rfl (lv_at hl 0 rfl) ?_
  refine r_getr X hT 15 7 23 fk_6_33 rfl rfl (by decide) dX6_become_175 ?_
  refine lv_iconst (v := 0) hx hb dX6_become_178 (by decide) ?_
  refine lv_bipush (v := 20) hx hb dX6_become_179 (by decide) ?_
  refine r_copyi X hT hS hl.1 11 23 rfl rfl (by decide) (by decide) gm_654 gm_656 gm_655 gm_123 (rg_k (by decide) : rg 0 0 0) (rg_k (by decide) : rg 0 0 0) (rg_k (by decide) : rg 20 20 20) (by decide) (Nat.le_of_ble_eq_true rfl) (by decide +kernel) dX6_become_181 (fun H locs i16 ei16 hT hS => ?_)
  have hR16 := Rg_cpy hR15 ei16 0 0 0 0 (fun _ => rfl) (fun _ => rfl) (by decide) (by decide)
  refine lv_aload_n hx hb dX6_become_184 rfl (lv_at hl 1 rfl) ?_
  refine r_getr X hT 3 8 12 fk_6_36 rfl rfl (by decide) dX6_become_185 ?_
  refine lv_iconst (v := 0) hx hb dX6_become_188 (by decide) ?_
  refine lv_aload_n hx hb dX6_become_189 rfl (lv_at hl 0 rfl) ?_
  refine r_getr X hT 15 8 24 fk_6_36 rfl rfl (by decide) dX6_become_190 ?_
  refine lv_iconst (v := 0) hx hb dX6_become_193 (by decide) ?_
  refine lv_bipush (v := 20) hx hb dX6_become_194 (by decide) ?_
  refine r_copyi X hT hS hl.1 12 24 rfl rfl (by decide) (by decide) gm_654 gm_656 gm_655 gm_123 (rg_k (by decide) : rg 0 0 0) (rg_k (by decide) : rg 0 0 0) (rg_k (by decide) : rg 20 20 20) (by decide) (Nat.le_of_ble_eq_true rfl) (by decide +kernel) dX6_become_196 (fun H locs i17 ei17 hT hS => ?_)
  have hR17 := Rg_cpy hR16 ei17 0 0 0 0 (fun _ => rfl) (fun _ => rfl) (by decide) (by decide)
  refine lv_aload_n hx hb dX6_become_199 rfl (lv_at hl 1 rfl) ?_
  refine r_getr X hT 3 9 13 fk_6_39 rfl rfl (by decide) dX6_become_200 ?_
  refine lv_iconst (v := 0) hx hb dX6_become_203 (by decide) ?_
  refine lv_aload_n hx hb dX6_become_204 rfl (lv_at hl 0 rfl) ?_
  refine r_getr X hT 15 9 25 fk_6_39 rfl rfl (by decide) dX6_become_205 ?_
  refine lv_iconst (v := 0) hx hb dX6_become_208 (by decide) ?_
  refine lv_bipush (v := 20) hx hb dX6_become_209 (by decide) ?_
  refine r_copyi X hT hS hl.1 13 25 rfl rfl (by decide) (by decide) gm_654 gm_656 gm_655 gm_123 (rg_k (by decide) : rg 0 0 0) (rg_k (by decide) : rg 0 0 0) (rg_k (by decide) : rg 20 20 20) (by decide) (Nat.le_of_ble_eq_true rfl) (by decide +kernel) dX6_become_211 (fun H locs i18 ei18 hT hS => ?_)
  have hR18 := Rg_cpy hR17 ei18 0 0 0 0 (fun _ => rfl) (fun _ => rfl) (by decide) (by decide)
  exact hret _ _ _ _ _ _ dX6_become_214 hT hS hR18

set_option maxRecDepth 100000 in
set_option maxHeartbeats 4000000 in
theorem k_X8_forgetAnswers {l : Launch} {D : va_G} {h : Nat → Nat} {cz : Nat → ClassId} {i : Nat → Nat → Int32} {g : Nat → Nat → Int64} (hR : Rg rF i)  : CtV l yX8_forgetAnswers cX8_forgetAnswers 1 none ({ frames := 0, cells := 0, slots := 0, locals := 0 } : Room) D h cz i g [.ref (h 0)] (fun u => Rg rF u.1) := by
  refine k_V pn_X8_forgetAnswers (Nat.le_of_ble_eq_true rfl) ?_
  intro p e s m args below meth c ls Q X hret hT hl hS
  have hx := X.1
  have hb := X.2.1
  have hl : lv_has ls 1 [(0, .ref (h 0))] := hl
  refine lv_aload_n hx hb dX8_forgetAnswers_0 rfl (lv_at hl 0 rfl) ?_
  refine lv_iconst (v := 1) hx hb dX8_forgetAnswers_1 (by decide) ?_
  refine r_puti X hT hS 0 12 pk_8_87 rfl rfl rfl rfl (by decide) dX8_forgetAnswers_2 (fun H locs i1 ei1 hT hS => ?_)
  have hR1 := Rg_put hR ei1 1 1 rfl (rg_k (by decide) : rg 1 1 1) (by decide)
  refine lv_aload_n hx hb dX8_forgetAnswers_5 rfl (lv_at hl 0 rfl) ?_
  refine lv_iconst (v := 1) hx hb dX8_forgetAnswers_6 (by decide) ?_
  refine r_puti X hT hS 0 13 pk_8_91 rfl rfl rfl rfl (by decide) dX8_forgetAnswers_7 (fun H locs i2 ei2 hT hS => ?_)
  have hR2 := Rg_put hR1 ei2 1 1 rfl (rg_k (by decide) : rg 1 1 1) (by decide)
  refine lv_aload_n hx hb dX8_forgetAnswers_10 rfl (lv_at hl 0 rfl) ?_
  refine lv_iconst (v := 0) hx hb dX8_forgetAnswers_11 (by decide) ?_
  refine r_puti X hT hS 0 14 pk_8_94 rfl rfl rfl rfl (by decide) dX8_forgetAnswers_12 (fun H locs i3 ei3 hT hS => ?_)
  have hR3 := Rg_put hR2 ei3 0 0 rfl (rg_k (by decide) : rg 0 0 0) (by decide)
  exact hret _ _ _ _ _ _ dX8_forgetAnswers_15 hT hS hR3

set_option maxRecDepth 100000 in
set_option maxHeartbeats 4000000 in
theorem k_X8_tale {l : Launch} {D : va_G} {h : Nat → Nat} {cz : Nat → ClassId} {i : Nat → Nat → Int32} {g : Nat → Nat → Int64} (hR : Rg rF i)  : CtI l yX8_tale cX8_tale 1 (some .int) ({ frames := 3, cells := 0, slots := 0, locals := 64 } : Room) D h cz i g [.ref (h 0)] (fun r u => Rg rF u.1 ∧ r = 0) := by
  refine k_I pn_X8_tale (Nat.le_of_ble_eq_true rfl) ?_
  intro p e s m args below meth c ls Q X hret hT hl hS
  have hx := X.1
  have hb := X.2.1
  have hl : lv_has ls 1 [(0, .ref (h 0))] := hl
  refine lv_aload_n hx hb dX8_tale_0 rfl (lv_at hl 0 rfl) ?_
  refine r_getr X hT 0 2 14 fk_8_28 rfl rfl (by decide) dX8_tale_1 ?_
  refine r_Vi (As := []) (rest := []) X hT hS (k_X3_parse_14 hR) mk_X3_parse gm_509 rfl rfl (by decide) hd_X3_parse ⟨rfl, rfl⟩ ⟨Nat.le_of_ble_eq_true rfl, Nat.le_of_ble_eq_true rfl⟩ hl.1 rfl (Nat.le_of_ble_eq_true rfl) dX8_tale_4 ⟨Nat.zero_le _, Nat.zero_le _⟩ (fun r1 i1 g1 H locs hq hT hS => ?_)
  obtain ⟨hR1, rfl⟩ := hq
  refine lv_if_ne (tgt := 13) hx hb dX8_tale_7 (by decide) (fun c2 => ?_) (fun c2 => (x_eq (rg_k (by decide) : rg 1 1 1) (rg_k (by decide) : rg 0 0 0) (i_eq c2) (by decide)).elim)
  refine lv_aload_n hx hb dX8_tale_13 rfl (lv_at hl 0 rfl) ?_
  refine r_getr X hT 0 3 15 fk_8_32 rfl rfl (by decide) dX8_tale_14 ?_
  refine lv_aload_n hx hb dX8_tale_17 rfl (lv_at hl 0 rfl) ?_
  refine r_getr X hT 0 1 3 fk_8_19 rfl rfl (by decide) dX8_tale_18 ?_
  refine r_Vv (As := [.ref (h 3)]) (rest := []) X hT hS (k_X6_become_15_3 hR1) mk_X6_become gm_650 rfl rfl (by decide) hd_X6_become ⟨rfl, rfl⟩ ⟨Nat.le_of_ble_eq_true rfl, Nat.le_of_ble_eq_true rfl⟩ hl.1 rfl (Nat.le_of_ble_eq_true rfl) dX8_tale_21 ⟨Nat.zero_le _, Nat.zero_le _⟩ (fun i3 g3 H locs hq hT hS => ?_)
  have hR3 := hq
  refine lv_aload_n hx hb dX8_tale_24 rfl (lv_at hl 0 rfl) ?_
  refine r_getr X hT 0 0 1 fk_8_10 rfl rfl (by decide) dX8_tale_25 ?_
  refine lv_iconst (v := 0) hx hb dX8_tale_28 (by decide) ?_
  refine r_puti X hT hS 1 1 pk_8_106 rfl rfl rfl rfl (by decide) dX8_tale_29 (fun H locs i4 ei4 hT hS => ?_)
  have hR4 := Rg_put hR3 ei4 0 0 rfl (rg_k (by decide) : rg 0 0 0) (by decide)
  refine lv_aload_n hx hb dX8_tale_32 rfl (lv_at hl 0 rfl) ?_
  refine r_Vv (As := []) (rest := []) X hT hS (k_X8_forgetAnswers hR4) mk_X8_forgetAnswers gm_657 rfl rfl (by decide) hd_X8_forgetAnswers ⟨rfl, rfl⟩ ⟨Nat.le_of_ble_eq_true rfl, Nat.le_of_ble_eq_true rfl⟩ hl.1 rfl (Nat.le_of_ble_eq_true rfl) dX8_tale_33 ⟨Nat.zero_le _, Nat.zero_le _⟩ (fun i5 g5 H locs hq hT hS => ?_)
  have hR5 := hq
  refine lv_aload_n hx hb dX8_tale_36 rfl (lv_at hl 0 rfl) ?_
  refine r_getr X hT 0 3 15 fk_8_32 rfl rfl (by decide) dX8_tale_37 ?_
  refine r_geti X hT 15 17 fk_8_118 rfl rfl (by decide) dX8_tale_40 ?_
  exact hret (i5 15 17) _ _ _ _ _ _ dX8_tale_43 hT hS ⟨hR5, (rg_c (Rg_at hR5 15 17 0 0 (by decide) rfl))⟩
end
