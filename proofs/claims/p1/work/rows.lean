section
-- ===== PART A: goes FIRST, ahead of the names: the tables' words, and 'selects' of the private methods out of them =====
/-- a private method of a class that the tables say can be made, by its rows of tables_1 -/
def lw_okq (q : MethodName × Nat) : Prop := (q.1.cls ≠ "java/lang/invoke/MethodHandle" ∧ q.1.cls ≠ "java/lang/invoke/VarHandle") ∧ Cond.instantiable q.1.cls q.2 ∈ tables_1 ∧ Cond.privateMethod q.1 ∈ tables_1 ∧ Cond.instanceMethod q.1 ∈ tables_1
theorem lw_p0 : lw_okq (⟨"UncutTale$Parser", "advance", "()V"⟩, 8) := ⟨⟨by decide +kernel, by decide +kernel⟩, List.mem_of_getElem? (i := 153) (by decide +kernel), List.mem_of_getElem? (i := 411) (by decide +kernel), List.mem_of_getElem? (i := 412) (by decide +kernel)⟩
theorem lw_p1 : lw_okq (⟨"UncutTale$Parser", "takeLine", "()Z"⟩, 8) := ⟨⟨by decide +kernel, by decide +kernel⟩, List.mem_of_getElem? (i := 153) (by decide +kernel), List.mem_of_getElem? (i := 425) (by decide +kernel), List.mem_of_getElem? (i := 426) (by decide +kernel)⟩
theorem lw_p2 : lw_okq (⟨"UncutTale$Parser", "takeHead", "()Z"⟩, 8) := ⟨⟨by decide +kernel, by decide +kernel⟩, List.mem_of_getElem? (i := 153) (by decide +kernel), List.mem_of_getElem? (i := 429) (by decide +kernel), List.mem_of_getElem? (i := 430) (by decide +kernel)⟩
theorem lw_p3 : lw_okq (⟨"UncutTale$Parser", "takeWord", "(Ljava/lang/String;)V"⟩, 8) := ⟨⟨by decide +kernel, by decide +kernel⟩, List.mem_of_getElem? (i := 153) (by decide +kernel), List.mem_of_getElem? (i := 434) (by decide +kernel), List.mem_of_getElem? (i := 435) (by decide +kernel)⟩
theorem lw_p4 : lw_okq (⟨"UncutTale$Parser", "isWord", "(Ljava/lang/String;)Z"⟩, 8) := ⟨⟨by decide +kernel, by decide +kernel⟩, List.mem_of_getElem? (i := 153) (by decide +kernel), List.mem_of_getElem? (i := 438) (by decide +kernel), List.mem_of_getElem? (i := 439) (by decide +kernel)⟩
theorem lw_p5 : lw_okq (⟨"UncutTale$Parser", "refuse", "(I)Z"⟩, 8) := ⟨⟨by decide +kernel, by decide +kernel⟩, List.mem_of_getElem? (i := 153) (by decide +kernel), List.mem_of_getElem? (i := 490) (by decide +kernel), List.mem_of_getElem? (i := 491) (by decide +kernel)⟩
theorem lw_p6 : lw_okq (⟨"UncutTale$Parser", "takeNamed", "(Ljava/lang/String;II)I"⟩, 8) := ⟨⟨by decide +kernel, by decide +kernel⟩, List.mem_of_getElem? (i := 153) (by decide +kernel), List.mem_of_getElem? (i := 495) (by decide +kernel), List.mem_of_getElem? (i := 496) (by decide +kernel)⟩
theorem lw_p7 : lw_okq (⟨"UncutTale$Parser", "takeNumber", "(II)I"⟩, 8) := ⟨⟨by decide +kernel, by decide +kernel⟩, List.mem_of_getElem? (i := 153) (by decide +kernel), List.mem_of_getElem? (i := 499) (by decide +kernel), List.mem_of_getElem? (i := 500) (by decide +kernel)⟩
theorem lw_p8 : lw_okq (⟨"UncutTale$Parser", "takePart", "()Z"⟩, 8) := ⟨⟨by decide +kernel, by decide +kernel⟩, List.mem_of_getElem? (i := 153) (by decide +kernel), List.mem_of_getElem? (i := 506) (by decide +kernel), List.mem_of_getElem? (i := 507) (by decide +kernel)⟩
theorem lw_p9 : lw_okq (⟨"UncutTale$Parser", "takeFold", "()Z"⟩, 8) := ⟨⟨by decide +kernel, by decide +kernel⟩, List.mem_of_getElem? (i := 153) (by decide +kernel), List.mem_of_getElem? (i := 518) (by decide +kernel), List.mem_of_getElem? (i := 519) (by decide +kernel)⟩
theorem lw_p10 : lw_okq (⟨"UncutTale$Parser", "takeKnife", "()Z"⟩, 8) := ⟨⟨by decide +kernel, by decide +kernel⟩, List.mem_of_getElem? (i := 153) (by decide +kernel), List.mem_of_getElem? (i := 531) (by decide +kernel), List.mem_of_getElem? (i := 532) (by decide +kernel)⟩
theorem lw_p11 : lw_okq (⟨"UncutTale$Parser", "takeSign", "()Z"⟩, 8) := ⟨⟨by decide +kernel, by decide +kernel⟩, List.mem_of_getElem? (i := 153) (by decide +kernel), List.mem_of_getElem? (i := 540) (by decide +kernel), List.mem_of_getElem? (i := 541) (by decide +kernel)⟩
theorem lw_p12 : lw_okq (⟨"UncutTale", "forgetAnswers", "()V"⟩, 15) := ⟨⟨by decide +kernel, by decide +kernel⟩, List.mem_of_getElem? (i := 20) (by decide +kernel), List.mem_of_getElem? (i := 551) (by decide +kernel), List.mem_of_getElem? (i := 552) (by decide +kernel)⟩
theorem lw_p13 : lw_okq (⟨"UncutTale", "hasPartAndYear", "(II)Z"⟩, 15) := ⟨⟨by decide +kernel, by decide +kernel⟩, List.mem_of_getElem? (i := 20) (by decide +kernel), List.mem_of_getElem? (i := 621) (by decide +kernel), List.mem_of_getElem? (i := 622) (by decide +kernel)⟩
theorem lw_p14 : lw_okq (⟨"UncutTale", "current", "()LUncutTale$Course;"⟩, 15) := ⟨⟨by decide +kernel, by decide +kernel⟩, List.mem_of_getElem? (i := 20) (by decide +kernel), List.mem_of_getElem? (i := 630) (by decide +kernel), List.mem_of_getElem? (i := 631) (by decide +kernel)⟩
theorem lw_p15 : lw_okq (⟨"UncutTale$Course", "unfold", "()V"⟩, 10) := ⟨⟨by decide +kernel, by decide +kernel⟩, List.mem_of_getElem? (i := 205) (by decide +kernel), List.mem_of_getElem? (i := 651) (by decide +kernel), List.mem_of_getElem? (i := 652) (by decide +kernel)⟩
def lw_privs_1 : List (MethodName × Nat) := [(⟨"UncutTale$Parser", "advance", "()V"⟩, 8), (⟨"UncutTale$Parser", "takeLine", "()Z"⟩, 8), (⟨"UncutTale$Parser", "takeHead", "()Z"⟩, 8), (⟨"UncutTale$Parser", "takeWord", "(Ljava/lang/String;)V"⟩, 8), (⟨"UncutTale$Parser", "isWord", "(Ljava/lang/String;)Z"⟩, 8), (⟨"UncutTale$Parser", "refuse", "(I)Z"⟩, 8), (⟨"UncutTale$Parser", "takeNamed", "(Ljava/lang/String;II)I"⟩, 8), (⟨"UncutTale$Parser", "takeNumber", "(II)I"⟩, 8), (⟨"UncutTale$Parser", "takePart", "()Z"⟩, 8), (⟨"UncutTale$Parser", "takeFold", "()Z"⟩, 8), (⟨"UncutTale$Parser", "takeKnife", "()Z"⟩, 8), (⟨"UncutTale$Parser", "takeSign", "()Z"⟩, 8), (⟨"UncutTale", "forgetAnswers", "()V"⟩, 15), (⟨"UncutTale", "hasPartAndYear", "(II)Z"⟩, 15), (⟨"UncutTale", "current", "()LUncutTale$Course;"⟩, 15), (⟨"UncutTale$Course", "unfold", "()V"⟩, 10)]
theorem lw_r1 : ∀ q ∈ lw_privs_1, lw_okq q := List.forall_mem_cons.mpr ⟨lw_p0, List.forall_mem_cons.mpr ⟨lw_p1, List.forall_mem_cons.mpr ⟨lw_p2, List.forall_mem_cons.mpr ⟨lw_p3, List.forall_mem_cons.mpr ⟨lw_p4, List.forall_mem_cons.mpr ⟨lw_p5, List.forall_mem_cons.mpr ⟨lw_p6, List.forall_mem_cons.mpr ⟨lw_p7, List.forall_mem_cons.mpr ⟨lw_p8, List.forall_mem_cons.mpr ⟨lw_p9, List.forall_mem_cons.mpr ⟨lw_p10, List.forall_mem_cons.mpr ⟨lw_p11, List.forall_mem_cons.mpr ⟨lw_p12, List.forall_mem_cons.mpr ⟨lw_p13, List.forall_mem_cons.mpr ⟨lw_p14, List.forall_mem_cons.mpr ⟨lw_p15, fun _ h => absurd h List.not_mem_nil⟩⟩⟩⟩⟩⟩⟩⟩⟩⟩⟩⟩⟩⟩⟩⟩
theorem lw_p16 : lw_okq (⟨"UncutTale$Course", "noteOpenings", "(II)V"⟩, 10) := ⟨⟨by decide +kernel, by decide +kernel⟩, List.mem_of_getElem? (i := 205) (by decide +kernel), List.mem_of_getElem? (i := 659) (by decide +kernel), List.mem_of_getElem? (i := 660) (by decide +kernel)⟩
theorem lw_p17 : lw_okq (⟨"UncutTale", "openingKnives", "()I"⟩, 15) := ⟨⟨by decide +kernel, by decide +kernel⟩, List.mem_of_getElem? (i := 20) (by decide +kernel), List.mem_of_getElem? (i := 787) (by decide +kernel), List.mem_of_getElem? (i := 788) (by decide +kernel)⟩
theorem lw_p18 : lw_okq (⟨"UncutTale", "opensAnew", "(III)Z"⟩, 15) := ⟨⟨by decide +kernel, by decide +kernel⟩, List.mem_of_getElem? (i := 20) (by decide +kernel), List.mem_of_getElem? (i := 791) (by decide +kernel), List.mem_of_getElem? (i := 792) (by decide +kernel)⟩
theorem lw_p19 : lw_okq (⟨"UncutTale", "shutAtLast", "()I"⟩, 15) := ⟨⟨by decide +kernel, by decide +kernel⟩, List.mem_of_getElem? (i := 20) (by decide +kernel), List.mem_of_getElem? (i := 803) (by decide +kernel), List.mem_of_getElem? (i := 804) (by decide +kernel)⟩
theorem lw_p20 : lw_okq (⟨"UncutTale", "openedIn", "(I)I"⟩, 15) := ⟨⟨by decide +kernel, by decide +kernel⟩, List.mem_of_getElem? (i := 20) (by decide +kernel), List.mem_of_getElem? (i := 819) (by decide +kernel), List.mem_of_getElem? (i := 820) (by decide +kernel)⟩
theorem lw_p21 : lw_okq (⟨"UncutTale", "fewest", "()I"⟩, 15) := ⟨⟨by decide +kernel, by decide +kernel⟩, List.mem_of_getElem? (i := 20) (by decide +kernel), List.mem_of_getElem? (i := 852) (by decide +kernel), List.mem_of_getElem? (i := 853) (by decide +kernel)⟩
theorem lw_p22 : lw_okq (⟨"UncutTale", "setWorth", "(I)I"⟩, 15) := ⟨⟨by decide +kernel, by decide +kernel⟩, List.mem_of_getElem? (i := 20) (by decide +kernel), List.mem_of_getElem? (i := 865) (by decide +kernel), List.mem_of_getElem? (i := 866) (by decide +kernel)⟩
theorem lw_p23 : lw_okq (⟨"UncutTale", "hasPlan", "(I)Z"⟩, 15) := ⟨⟨by decide +kernel, by decide +kernel⟩, List.mem_of_getElem? (i := 20) (by decide +kernel), List.mem_of_getElem? (i := 902) (by decide +kernel), List.mem_of_getElem? (i := 903) (by decide +kernel)⟩
theorem lw_p24 : lw_okq (⟨"UncutTale", "planFor", "(I)V"⟩, 15) := ⟨⟨by decide +kernel, by decide +kernel⟩, List.mem_of_getElem? (i := 20) (by decide +kernel), List.mem_of_getElem? (i := 906) (by decide +kernel), List.mem_of_getElem? (i := 907) (by decide +kernel)⟩
theorem lw_p25 : lw_okq (⟨"UncutTale$Planner", "spend", "(I)V"⟩, 9) := ⟨⟨by decide +kernel, by decide +kernel⟩, List.mem_of_getElem? (i := 246) (by decide +kernel), List.mem_of_getElem? (i := 918) (by decide +kernel), List.mem_of_getElem? (i := 919) (by decide +kernel)⟩
theorem lw_p26 : lw_okq (⟨"UncutTale$Planner", "compare", "(I)V"⟩, 9) := ⟨⟨by decide +kernel, by decide +kernel⟩, List.mem_of_getElem? (i := 246) (by decide +kernel), List.mem_of_getElem? (i := 926) (by decide +kernel), List.mem_of_getElem? (i := 927) (by decide +kernel)⟩
theorem lw_p27 : lw_okq (⟨"UncutTale", "refuseSeenOf", "(II)I"⟩, 15) := ⟨⟨by decide +kernel, by decide +kernel⟩, List.mem_of_getElem? (i := 20) (by decide +kernel), List.mem_of_getElem? (i := 942) (by decide +kernel), List.mem_of_getElem? (i := 943) (by decide +kernel)⟩
theorem lw_p28 : lw_okq (⟨"UncutTale", "refuseSeen", "(I)I"⟩, 15) := ⟨⟨by decide +kernel, by decide +kernel⟩, List.mem_of_getElem? (i := 20) (by decide +kernel), List.mem_of_getElem? (i := 946) (by decide +kernel), List.mem_of_getElem? (i := 947) (by decide +kernel)⟩
theorem lw_p29 : lw_okq (⟨"UncutTale$Guess", "isTraceAsSeen", "(IILUncutTale$Course;)Z"⟩, 6) := ⟨⟨by decide +kernel, by decide +kernel⟩, List.mem_of_getElem? (i := 310) (by decide +kernel), List.mem_of_getElem? (i := 978) (by decide +kernel), List.mem_of_getElem? (i := 979) (by decide +kernel)⟩
theorem lw_p30 : lw_okq (⟨"UncutTale$Guess", "tallyTraces", "(ILUncutTale$Course;)V"⟩, 6) := ⟨⟨by decide +kernel, by decide +kernel⟩, List.mem_of_getElem? (i := 310) (by decide +kernel), List.mem_of_getElem? (i := 1007) (by decide +kernel), List.mem_of_getElem? (i := 1008) (by decide +kernel)⟩
theorem lw_p31 : lw_okq (⟨"UncutTale$Guess", "worstIn", "(I)I"⟩, 6) := ⟨⟨by decide +kernel, by decide +kernel⟩, List.mem_of_getElem? (i := 310) (by decide +kernel), List.mem_of_getElem? (i := 1012) (by decide +kernel), List.mem_of_getElem? (i := 1013) (by decide +kernel)⟩
def lw_privs_2 : List (MethodName × Nat) := [(⟨"UncutTale$Course", "noteOpenings", "(II)V"⟩, 10), (⟨"UncutTale", "openingKnives", "()I"⟩, 15), (⟨"UncutTale", "opensAnew", "(III)Z"⟩, 15), (⟨"UncutTale", "shutAtLast", "()I"⟩, 15), (⟨"UncutTale", "openedIn", "(I)I"⟩, 15), (⟨"UncutTale", "fewest", "()I"⟩, 15), (⟨"UncutTale", "setWorth", "(I)I"⟩, 15), (⟨"UncutTale", "hasPlan", "(I)Z"⟩, 15), (⟨"UncutTale", "planFor", "(I)V"⟩, 15), (⟨"UncutTale$Planner", "spend", "(I)V"⟩, 9), (⟨"UncutTale$Planner", "compare", "(I)V"⟩, 9), (⟨"UncutTale", "refuseSeenOf", "(II)I"⟩, 15), (⟨"UncutTale", "refuseSeen", "(I)I"⟩, 15), (⟨"UncutTale$Guess", "isTraceAsSeen", "(IILUncutTale$Course;)Z"⟩, 6), (⟨"UncutTale$Guess", "tallyTraces", "(ILUncutTale$Course;)V"⟩, 6), (⟨"UncutTale$Guess", "worstIn", "(I)I"⟩, 6)]
theorem lw_r2 : ∀ q ∈ lw_privs_2, lw_okq q := List.forall_mem_cons.mpr ⟨lw_p16, List.forall_mem_cons.mpr ⟨lw_p17, List.forall_mem_cons.mpr ⟨lw_p18, List.forall_mem_cons.mpr ⟨lw_p19, List.forall_mem_cons.mpr ⟨lw_p20, List.forall_mem_cons.mpr ⟨lw_p21, List.forall_mem_cons.mpr ⟨lw_p22, List.forall_mem_cons.mpr ⟨lw_p23, List.forall_mem_cons.mpr ⟨lw_p24, List.forall_mem_cons.mpr ⟨lw_p25, List.forall_mem_cons.mpr ⟨lw_p26, List.forall_mem_cons.mpr ⟨lw_p27, List.forall_mem_cons.mpr ⟨lw_p28, List.forall_mem_cons.mpr ⟨lw_p29, List.forall_mem_cons.mpr ⟨lw_p30, List.forall_mem_cons.mpr ⟨lw_p31, fun _ h => absurd h List.not_mem_nil⟩⟩⟩⟩⟩⟩⟩⟩⟩⟩⟩⟩⟩⟩⟩⟩
theorem lw_p32 : lw_okq (⟨"UncutTale", "asNow", "(I)V"⟩, 15) := ⟨⟨by decide +kernel, by decide +kernel⟩, List.mem_of_getElem? (i := 20) (by decide +kernel), List.mem_of_getElem? (i := 1025) (by decide +kernel), List.mem_of_getElem? (i := 1026) (by decide +kernel)⟩
theorem lw_p33 : lw_okq (⟨"UncutTale", "readByLaw", "(I)I"⟩, 15) := ⟨⟨by decide +kernel, by decide +kernel⟩, List.mem_of_getElem? (i := 20) (by decide +kernel), List.mem_of_getElem? (i := 1034) (by decide +kernel), List.mem_of_getElem? (i := 1035) (by decide +kernel)⟩
theorem lw_p34 : lw_okq (⟨"UncutTale", "uncleWorth", "(I)I"⟩, 15) := ⟨⟨by decide +kernel, by decide +kernel⟩, List.mem_of_getElem? (i := 20) (by decide +kernel), List.mem_of_getElem? (i := 1054) (by decide +kernel), List.mem_of_getElem? (i := 1055) (by decide +kernel)⟩
theorem lw_p35 : lw_okq (⟨"UncutTale", "earChoice", "(I)I"⟩, 15) := ⟨⟨by decide +kernel, by decide +kernel⟩, List.mem_of_getElem? (i := 20) (by decide +kernel), List.mem_of_getElem? (i := 1058) (by decide +kernel), List.mem_of_getElem? (i := 1059) (by decide +kernel)⟩
theorem lw_p36 : lw_okq (⟨"UncutTale", "isPair", "(II)Z"⟩, 15) := ⟨⟨by decide +kernel, by decide +kernel⟩, List.mem_of_getElem? (i := 20) (by decide +kernel), List.mem_of_getElem? (i := 1074) (by decide +kernel), List.mem_of_getElem? (i := 1075) (by decide +kernel)⟩
theorem lw_p37 : lw_okq (⟨"UncutTale", "sewnGets", "(IIII)I"⟩, 15) := ⟨⟨by decide +kernel, by decide +kernel⟩, List.mem_of_getElem? (i := 20) (by decide +kernel), List.mem_of_getElem? (i := 1078) (by decide +kernel), List.mem_of_getElem? (i := 1079) (by decide +kernel)⟩
theorem lw_p38 : lw_okq (⟨"UncutTale", "weighOdds", "()V"⟩, 15) := ⟨⟨by decide +kernel, by decide +kernel⟩, List.mem_of_getElem? (i := 20) (by decide +kernel), List.mem_of_getElem? (i := 1093) (by decide +kernel), List.mem_of_getElem? (i := 1094) (by decide +kernel)⟩
theorem lw_p39 : lw_okq (⟨"UncutTale$Odds", "weightOf", "(I)J"⟩, 5) := ⟨⟨by decide +kernel, by decide +kernel⟩, List.mem_of_getElem? (i := 285) (by decide +kernel), List.mem_of_getElem? (i := 1106) (by decide +kernel), List.mem_of_getElem? (i := 1107) (by decide +kernel)⟩
theorem lw_p40 : lw_okq (⟨"UncutTale$Odds", "addToOpen", "(J)V"⟩, 5) := ⟨⟨by decide +kernel, by decide +kernel⟩, List.mem_of_getElem? (i := 285) (by decide +kernel), List.mem_of_getElem? (i := 1113) (by decide +kernel), List.mem_of_getElem? (i := 1114) (by decide +kernel)⟩
theorem lw_p41 : lw_okq (⟨"UncutTale", "knivesDrawn", "(J)I"⟩, 15) := ⟨⟨by decide +kernel, by decide +kernel⟩, List.mem_of_getElem? (i := 20) (by decide +kernel), List.mem_of_getElem? (i := 1131) (by decide +kernel), List.mem_of_getElem? (i := 1132) (by decide +kernel)⟩
theorem lw_p42 : lw_okq (⟨"UncutTale", "refuseAct", "(II)I"⟩, 15) := ⟨⟨by decide +kernel, by decide +kernel⟩, List.mem_of_getElem? (i := 20) (by decide +kernel), List.mem_of_getElem? (i := 1148) (by decide +kernel), List.mem_of_getElem? (i := 1149) (by decide +kernel)⟩
theorem lw_p43 : lw_okq (⟨"UncutTaleModel", "four", "(I)V"⟩, 51) := ⟨⟨by decide +kernel, by decide +kernel⟩, List.mem_of_getElem? (i := 1222) (by decide +kernel), List.mem_of_getElem? (i := 1408) (by decide +kernel), List.mem_of_getElem? (i := 1409) (by decide +kernel)⟩
theorem lw_p44 : lw_okq (⟨"UncutTaleModel", "clears", "()V"⟩, 51) := ⟨⟨by decide +kernel, by decide +kernel⟩, List.mem_of_getElem? (i := 1222) (by decide +kernel), List.mem_of_getElem? (i := 1424) (by decide +kernel), List.mem_of_getElem? (i := 1425) (by decide +kernel)⟩
theorem lw_p45 : lw_okq (⟨"UncutTaleModel", "tellsOf", "(II)V"⟩, 51) := ⟨⟨by decide +kernel, by decide +kernel⟩, List.mem_of_getElem? (i := 1222) (by decide +kernel), List.mem_of_getElem? (i := 1428) (by decide +kernel), List.mem_of_getElem? (i := 1429) (by decide +kernel)⟩
theorem lw_p46 : lw_okq (⟨"UncutTaleModel", "begins", "()V"⟩, 51) := ⟨⟨by decide +kernel, by decide +kernel⟩, List.mem_of_getElem? (i := 1222) (by decide +kernel), List.mem_of_getElem? (i := 1432) (by decide +kernel), List.mem_of_getElem? (i := 1433) (by decide +kernel)⟩
theorem lw_p47 : lw_okq (⟨"UncutTaleModel", "follows", "()V"⟩, 51) := ⟨⟨by decide +kernel, by decide +kernel⟩, List.mem_of_getElem? (i := 1222) (by decide +kernel), List.mem_of_getElem? (i := 1436) (by decide +kernel), List.mem_of_getElem? (i := 1437) (by decide +kernel)⟩
def lw_privs_3 : List (MethodName × Nat) := [(⟨"UncutTale", "asNow", "(I)V"⟩, 15), (⟨"UncutTale", "readByLaw", "(I)I"⟩, 15), (⟨"UncutTale", "uncleWorth", "(I)I"⟩, 15), (⟨"UncutTale", "earChoice", "(I)I"⟩, 15), (⟨"UncutTale", "isPair", "(II)Z"⟩, 15), (⟨"UncutTale", "sewnGets", "(IIII)I"⟩, 15), (⟨"UncutTale", "weighOdds", "()V"⟩, 15), (⟨"UncutTale$Odds", "weightOf", "(I)J"⟩, 5), (⟨"UncutTale$Odds", "addToOpen", "(J)V"⟩, 5), (⟨"UncutTale", "knivesDrawn", "(J)I"⟩, 15), (⟨"UncutTale", "refuseAct", "(II)I"⟩, 15), (⟨"UncutTaleModel", "four", "(I)V"⟩, 51), (⟨"UncutTaleModel", "clears", "()V"⟩, 51), (⟨"UncutTaleModel", "tellsOf", "(II)V"⟩, 51), (⟨"UncutTaleModel", "begins", "()V"⟩, 51), (⟨"UncutTaleModel", "follows", "()V"⟩, 51)]
theorem lw_r3 : ∀ q ∈ lw_privs_3, lw_okq q := List.forall_mem_cons.mpr ⟨lw_p32, List.forall_mem_cons.mpr ⟨lw_p33, List.forall_mem_cons.mpr ⟨lw_p34, List.forall_mem_cons.mpr ⟨lw_p35, List.forall_mem_cons.mpr ⟨lw_p36, List.forall_mem_cons.mpr ⟨lw_p37, List.forall_mem_cons.mpr ⟨lw_p38, List.forall_mem_cons.mpr ⟨lw_p39, List.forall_mem_cons.mpr ⟨lw_p40, List.forall_mem_cons.mpr ⟨lw_p41, List.forall_mem_cons.mpr ⟨lw_p42, List.forall_mem_cons.mpr ⟨lw_p43, List.forall_mem_cons.mpr ⟨lw_p44, List.forall_mem_cons.mpr ⟨lw_p45, List.forall_mem_cons.mpr ⟨lw_p46, List.forall_mem_cons.mpr ⟨lw_p47, fun _ h => absurd h List.not_mem_nil⟩⟩⟩⟩⟩⟩⟩⟩⟩⟩⟩⟩⟩⟩⟩⟩
theorem lw_p48 : lw_okq (⟨"UncutTaleModel", "isByte", "(III)Z"⟩, 51) := ⟨⟨by decide +kernel, by decide +kernel⟩, List.mem_of_getElem? (i := 1222) (by decide +kernel), List.mem_of_getElem? (i := 1440) (by decide +kernel), List.mem_of_getElem? (i := 1441) (by decide +kernel)⟩
theorem lw_p49 : lw_okq (⟨"UncutTaleModel", "isGood", "()Z"⟩, 51) := ⟨⟨by decide +kernel, by decide +kernel⟩, List.mem_of_getElem? (i := 1222) (by decide +kernel), List.mem_of_getElem? (i := 1449) (by decide +kernel), List.mem_of_getElem? (i := 1450) (by decide +kernel)⟩
theorem lw_p50 : lw_okq (⟨"UncutTaleModel", "asks", "(J)V"⟩, 51) := ⟨⟨by decide +kernel, by decide +kernel⟩, List.mem_of_getElem? (i := 1222) (by decide +kernel), List.mem_of_getElem? (i := 1454) (by decide +kernel), List.mem_of_getElem? (i := 1455) (by decide +kernel)⟩
theorem lw_p51 : lw_okq (⟨"UncutTaleModel", "takesWord", "(J)Z"⟩, 51) := ⟨⟨by decide +kernel, by decide +kernel⟩, List.mem_of_getElem? (i := 1222) (by decide +kernel), List.mem_of_getElem? (i := 1458) (by decide +kernel), List.mem_of_getElem? (i := 1459) (by decide +kernel)⟩
theorem lw_p52 : lw_okq (⟨"UncutTaleModel", "is", "(J)Z"⟩, 51) := ⟨⟨by decide +kernel, by decide +kernel⟩, List.mem_of_getElem? (i := 1222) (by decide +kernel), List.mem_of_getElem? (i := 1462) (by decide +kernel), List.mem_of_getElem? (i := 1463) (by decide +kernel)⟩
theorem lw_p53 : lw_okq (⟨"UncutTaleModel", "fails", "(I)V"⟩, 51) := ⟨⟨by decide +kernel, by decide +kernel⟩, List.mem_of_getElem? (i := 1222) (by decide +kernel), List.mem_of_getElem? (i := 1466) (by decide +kernel), List.mem_of_getElem? (i := 1467) (by decide +kernel)⟩
theorem lw_p54 : lw_okq (⟨"UncutTaleModel", "number", "(JII)I"⟩, 51) := ⟨⟨by decide +kernel, by decide +kernel⟩, List.mem_of_getElem? (i := 1222) (by decide +kernel), List.mem_of_getElem? (i := 1471) (by decide +kernel), List.mem_of_getElem? (i := 1472) (by decide +kernel)⟩
theorem lw_p55 : lw_okq (⟨"UncutTaleModel", "number", "(II)I"⟩, 51) := ⟨⟨by decide +kernel, by decide +kernel⟩, List.mem_of_getElem? (i := 1222) (by decide +kernel), List.mem_of_getElem? (i := 1475) (by decide +kernel), List.mem_of_getElem? (i := 1476) (by decide +kernel)⟩
theorem lw_p56 : lw_okq (⟨"UncutTaleModel", "lineHere", "()V"⟩, 51) := ⟨⟨by decide +kernel, by decide +kernel⟩, List.mem_of_getElem? (i := 1222) (by decide +kernel), List.mem_of_getElem? (i := 1481) (by decide +kernel), List.mem_of_getElem? (i := 1482) (by decide +kernel)⟩
theorem lw_p57 : lw_okq (⟨"UncutTaleModel", "isRoom", "(ZII)Z"⟩, 51) := ⟨⟨by decide +kernel, by decide +kernel⟩, List.mem_of_getElem? (i := 1222) (by decide +kernel), List.mem_of_getElem? (i := 1486) (by decide +kernel), List.mem_of_getElem? (i := 1487) (by decide +kernel)⟩
theorem lw_p58 : lw_okq (⟨"UncutTaleModel", "hasRead", "(I)I"⟩, 51) := ⟨⟨by decide +kernel, by decide +kernel⟩, List.mem_of_getElem? (i := 1222) (by decide +kernel), List.mem_of_getElem? (i := 1490) (by decide +kernel), List.mem_of_getElem? (i := 1491) (by decide +kernel)⟩
theorem lw_p59 : lw_okq (⟨"UncutTaleModel", "partLine", "()V"⟩, 51) := ⟨⟨by decide +kernel, by decide +kernel⟩, List.mem_of_getElem? (i := 1222) (by decide +kernel), List.mem_of_getElem? (i := 1494) (by decide +kernel), List.mem_of_getElem? (i := 1495) (by decide +kernel)⟩
theorem lw_p60 : lw_okq (⟨"UncutTaleModel", "foldLine", "()V"⟩, 51) := ⟨⟨by decide +kernel, by decide +kernel⟩, List.mem_of_getElem? (i := 1222) (by decide +kernel), List.mem_of_getElem? (i := 1502) (by decide +kernel), List.mem_of_getElem? (i := 1503) (by decide +kernel)⟩
theorem lw_p61 : lw_okq (⟨"UncutTaleModel", "partHere", "()I"⟩, 51) := ⟨⟨by decide +kernel, by decide +kernel⟩, List.mem_of_getElem? (i := 1222) (by decide +kernel), List.mem_of_getElem? (i := 1506) (by decide +kernel), List.mem_of_getElem? (i := 1507) (by decide +kernel)⟩
theorem lw_p62 : lw_okq (⟨"UncutTaleModel", "areJoined", "(II)Z"⟩, 51) := ⟨⟨by decide +kernel, by decide +kernel⟩, List.mem_of_getElem? (i := 1222) (by decide +kernel), List.mem_of_getElem? (i := 1510) (by decide +kernel), List.mem_of_getElem? (i := 1511) (by decide +kernel)⟩
theorem lw_p63 : lw_okq (⟨"UncutTaleModel", "knifeLine", "()V"⟩, 51) := ⟨⟨by decide +kernel, by decide +kernel⟩, List.mem_of_getElem? (i := 1222) (by decide +kernel), List.mem_of_getElem? (i := 1515) (by decide +kernel), List.mem_of_getElem? (i := 1516) (by decide +kernel)⟩
def lw_privs_4 : List (MethodName × Nat) := [(⟨"UncutTaleModel", "isByte", "(III)Z"⟩, 51), (⟨"UncutTaleModel", "isGood", "()Z"⟩, 51), (⟨"UncutTaleModel", "asks", "(J)V"⟩, 51), (⟨"UncutTaleModel", "takesWord", "(J)Z"⟩, 51), (⟨"UncutTaleModel", "is", "(J)Z"⟩, 51), (⟨"UncutTaleModel", "fails", "(I)V"⟩, 51), (⟨"UncutTaleModel", "number", "(JII)I"⟩, 51), (⟨"UncutTaleModel", "number", "(II)I"⟩, 51), (⟨"UncutTaleModel", "lineHere", "()V"⟩, 51), (⟨"UncutTaleModel", "isRoom", "(ZII)Z"⟩, 51), (⟨"UncutTaleModel", "hasRead", "(I)I"⟩, 51), (⟨"UncutTaleModel", "partLine", "()V"⟩, 51), (⟨"UncutTaleModel", "foldLine", "()V"⟩, 51), (⟨"UncutTaleModel", "partHere", "()I"⟩, 51), (⟨"UncutTaleModel", "areJoined", "(II)Z"⟩, 51), (⟨"UncutTaleModel", "knifeLine", "()V"⟩, 51)]
theorem lw_r4 : ∀ q ∈ lw_privs_4, lw_okq q := List.forall_mem_cons.mpr ⟨lw_p48, List.forall_mem_cons.mpr ⟨lw_p49, List.forall_mem_cons.mpr ⟨lw_p50, List.forall_mem_cons.mpr ⟨lw_p51, List.forall_mem_cons.mpr ⟨lw_p52, List.forall_mem_cons.mpr ⟨lw_p53, List.forall_mem_cons.mpr ⟨lw_p54, List.forall_mem_cons.mpr ⟨lw_p55, List.forall_mem_cons.mpr ⟨lw_p56, List.forall_mem_cons.mpr ⟨lw_p57, List.forall_mem_cons.mpr ⟨lw_p58, List.forall_mem_cons.mpr ⟨lw_p59, List.forall_mem_cons.mpr ⟨lw_p60, List.forall_mem_cons.mpr ⟨lw_p61, List.forall_mem_cons.mpr ⟨lw_p62, List.forall_mem_cons.mpr ⟨lw_p63, fun _ h => absurd h List.not_mem_nil⟩⟩⟩⟩⟩⟩⟩⟩⟩⟩⟩⟩⟩⟩⟩⟩
theorem lw_p64 : lw_okq (⟨"UncutTaleModel", "ends", "()V"⟩, 51) := ⟨⟨by decide +kernel, by decide +kernel⟩, List.mem_of_getElem? (i := 1222) (by decide +kernel), List.mem_of_getElem? (i := 1520) (by decide +kernel), List.mem_of_getElem? (i := 1521) (by decide +kernel)⟩
theorem lw_p65 : lw_okq (⟨"UncutTaleModel", "isOver", "()V"⟩, 51) := ⟨⟨by decide +kernel, by decide +kernel⟩, List.mem_of_getElem? (i := 1222) (by decide +kernel), List.mem_of_getElem? (i := 1524) (by decide +kernel), List.mem_of_getElem? (i := 1525) (by decide +kernel)⟩
theorem lw_p66 : lw_okq (⟨"UncutTaleModel", "copyTale", "(II)V"⟩, 51) := ⟨⟨by decide +kernel, by decide +kernel⟩, List.mem_of_getElem? (i := 1222) (by decide +kernel), List.mem_of_getElem? (i := 1528) (by decide +kernel), List.mem_of_getElem? (i := 1529) (by decide +kernel)⟩
theorem lw_p67 : lw_okq (⟨"UncutTaleModel", "isPart", "(J)Z"⟩, 51) := ⟨⟨by decide +kernel, by decide +kernel⟩, List.mem_of_getElem? (i := 1222) (by decide +kernel), List.mem_of_getElem? (i := 1539) (by decide +kernel), List.mem_of_getElem? (i := 1540) (by decide +kernel)⟩
theorem lw_p68 : lw_okq (⟨"UncutTaleModel", "parts", "()I"⟩, 51) := ⟨⟨by decide +kernel, by decide +kernel⟩, List.mem_of_getElem? (i := 1222) (by decide +kernel), List.mem_of_getElem? (i := 1543) (by decide +kernel), List.mem_of_getElem? (i := 1544) (by decide +kernel)⟩
theorem lw_p69 : lw_okq (⟨"UncutTaleModel", "lays", "()V"⟩, 51) := ⟨⟨by decide +kernel, by decide +kernel⟩, List.mem_of_getElem? (i := 1222) (by decide +kernel), List.mem_of_getElem? (i := 1552) (by decide +kernel), List.mem_of_getElem? (i := 1553) (by decide +kernel)⟩
theorem lw_p70 : lw_okq (⟨"UncutTaleModel", "nearOf", "(I)I"⟩, 51) := ⟨⟨by decide +kernel, by decide +kernel⟩, List.mem_of_getElem? (i := 1222) (by decide +kernel), List.mem_of_getElem? (i := 1556) (by decide +kernel), List.mem_of_getElem? (i := 1557) (by decide +kernel)⟩
theorem lw_p71 : lw_okq (⟨"UncutTaleModel", "isThen", "(II)Z"⟩, 51) := ⟨⟨by decide +kernel, by decide +kernel⟩, List.mem_of_getElem? (i := 1222) (by decide +kernel), List.mem_of_getElem? (i := 1571) (by decide +kernel), List.mem_of_getElem? (i := 1572) (by decide +kernel)⟩
theorem lw_p72 : lw_okq (⟨"UncutTaleModel", "isYear", "(J)Z"⟩, 51) := ⟨⟨by decide +kernel, by decide +kernel⟩, List.mem_of_getElem? (i := 1222) (by decide +kernel), List.mem_of_getElem? (i := 1575) (by decide +kernel), List.mem_of_getElem? (i := 1576) (by decide +kernel)⟩
theorem lw_p73 : lw_okq (⟨"UncutTaleModel", "isTale", "()Z"⟩, 51) := ⟨⟨by decide +kernel, by decide +kernel⟩, List.mem_of_getElem? (i := 1222) (by decide +kernel), List.mem_of_getElem? (i := 1579) (by decide +kernel), List.mem_of_getElem? (i := 1580) (by decide +kernel)⟩
theorem lw_p74 : lw_okq (⟨"UncutTaleModel", "years", "()I"⟩, 51) := ⟨⟨by decide +kernel, by decide +kernel⟩, List.mem_of_getElem? (i := 1222) (by decide +kernel), List.mem_of_getElem? (i := 1583) (by decide +kernel), List.mem_of_getElem? (i := 1584) (by decide +kernel)⟩
theorem lw_p75 : lw_okq (⟨"UncutTaleModel", "laysNow", "()V"⟩, 51) := ⟨⟨by decide +kernel, by decide +kernel⟩, List.mem_of_getElem? (i := 1222) (by decide +kernel), List.mem_of_getElem? (i := 1587) (by decide +kernel), List.mem_of_getElem? (i := 1588) (by decide +kernel)⟩
theorem lw_p76 : lw_okq (⟨"UncutTaleModel", "runs", "()V"⟩, 51) := ⟨⟨by decide +kernel, by decide +kernel⟩, List.mem_of_getElem? (i := 1222) (by decide +kernel), List.mem_of_getElem? (i := 1591) (by decide +kernel), List.mem_of_getElem? (i := 1592) (by decide +kernel)⟩
theorem lw_p77 : lw_okq (⟨"UncutTaleModel", "stiffAt", "(II)I"⟩, 51) := ⟨⟨by decide +kernel, by decide +kernel⟩, List.mem_of_getElem? (i := 1222) (by decide +kernel), List.mem_of_getElem? (i := 1595) (by decide +kernel), List.mem_of_getElem? (i := 1596) (by decide +kernel)⟩
theorem lw_p78 : lw_okq (⟨"UncutTaleModel", "airs", "(I)V"⟩, 51) := ⟨⟨by decide +kernel, by decide +kernel⟩, List.mem_of_getElem? (i := 1222) (by decide +kernel), List.mem_of_getElem? (i := 1599) (by decide +kernel), List.mem_of_getElem? (i := 1600) (by decide +kernel)⟩
theorem lw_p79 : lw_okq (⟨"UncutTaleModel", "knivesOf", "(I)V"⟩, 51) := ⟨⟨by decide +kernel, by decide +kernel⟩, List.mem_of_getElem? (i := 1222) (by decide +kernel), List.mem_of_getElem? (i := 1606) (by decide +kernel), List.mem_of_getElem? (i := 1607) (by decide +kernel)⟩
def lw_privs_5 : List (MethodName × Nat) := [(⟨"UncutTaleModel", "ends", "()V"⟩, 51), (⟨"UncutTaleModel", "isOver", "()V"⟩, 51), (⟨"UncutTaleModel", "copyTale", "(II)V"⟩, 51), (⟨"UncutTaleModel", "isPart", "(J)Z"⟩, 51), (⟨"UncutTaleModel", "parts", "()I"⟩, 51), (⟨"UncutTaleModel", "lays", "()V"⟩, 51), (⟨"UncutTaleModel", "nearOf", "(I)I"⟩, 51), (⟨"UncutTaleModel", "isThen", "(II)Z"⟩, 51), (⟨"UncutTaleModel", "isYear", "(J)Z"⟩, 51), (⟨"UncutTaleModel", "isTale", "()Z"⟩, 51), (⟨"UncutTaleModel", "years", "()I"⟩, 51), (⟨"UncutTaleModel", "laysNow", "()V"⟩, 51), (⟨"UncutTaleModel", "runs", "()V"⟩, 51), (⟨"UncutTaleModel", "stiffAt", "(II)I"⟩, 51), (⟨"UncutTaleModel", "airs", "(I)V"⟩, 51), (⟨"UncutTaleModel", "knivesOf", "(I)V"⟩, 51)]
theorem lw_r5 : ∀ q ∈ lw_privs_5, lw_okq q := List.forall_mem_cons.mpr ⟨lw_p64, List.forall_mem_cons.mpr ⟨lw_p65, List.forall_mem_cons.mpr ⟨lw_p66, List.forall_mem_cons.mpr ⟨lw_p67, List.forall_mem_cons.mpr ⟨lw_p68, List.forall_mem_cons.mpr ⟨lw_p69, List.forall_mem_cons.mpr ⟨lw_p70, List.forall_mem_cons.mpr ⟨lw_p71, List.forall_mem_cons.mpr ⟨lw_p72, List.forall_mem_cons.mpr ⟨lw_p73, List.forall_mem_cons.mpr ⟨lw_p74, List.forall_mem_cons.mpr ⟨lw_p75, List.forall_mem_cons.mpr ⟨lw_p76, List.forall_mem_cons.mpr ⟨lw_p77, List.forall_mem_cons.mpr ⟨lw_p78, List.forall_mem_cons.mpr ⟨lw_p79, fun _ h => absurd h List.not_mem_nil⟩⟩⟩⟩⟩⟩⟩⟩⟩⟩⟩⟩⟩⟩⟩⟩
theorem lw_p80 : lw_okq (⟨"UncutTaleModel", "cuts", "(III)V"⟩, 51) := ⟨⟨by decide +kernel, by decide +kernel⟩, List.mem_of_getElem? (i := 1222) (by decide +kernel), List.mem_of_getElem? (i := 1610) (by decide +kernel), List.mem_of_getElem? (i := 1611) (by decide +kernel)⟩
theorem lw_p81 : lw_okq (⟨"UncutTaleModel", "opens0", "(III)V"⟩, 51) := ⟨⟨by decide +kernel, by decide +kernel⟩, List.mem_of_getElem? (i := 1222) (by decide +kernel), List.mem_of_getElem? (i := 1614) (by decide +kernel), List.mem_of_getElem? (i := 1615) (by decide +kernel)⟩
theorem lw_p82 : lw_okq (⟨"UncutTaleModel", "opensOthers", "(I)V"⟩, 51) := ⟨⟨by decide +kernel, by decide +kernel⟩, List.mem_of_getElem? (i := 1222) (by decide +kernel), List.mem_of_getElem? (i := 1618) (by decide +kernel), List.mem_of_getElem? (i := 1619) (by decide +kernel)⟩
theorem lw_p83 : lw_okq (⟨"UncutTaleModel", "stiffer", "(II)I"⟩, 51) := ⟨⟨by decide +kernel, by decide +kernel⟩, List.mem_of_getElem? (i := 1222) (by decide +kernel), List.mem_of_getElem? (i := 1622) (by decide +kernel), List.mem_of_getElem? (i := 1623) (by decide +kernel)⟩
theorem lw_p84 : lw_okq (⟨"UncutTaleModel", "isAhead", "(I)Z"⟩, 51) := ⟨⟨by decide +kernel, by decide +kernel⟩, List.mem_of_getElem? (i := 1222) (by decide +kernel), List.mem_of_getElem? (i := 1652) (by decide +kernel), List.mem_of_getElem? (i := 1653) (by decide +kernel)⟩
theorem lw_p85 : lw_okq (⟨"UncutTaleModel", "readIn", "(I)I"⟩, 51) := ⟨⟨by decide +kernel, by decide +kernel⟩, List.mem_of_getElem? (i := 1222) (by decide +kernel), List.mem_of_getElem? (i := 1656) (by decide +kernel), List.mem_of_getElem? (i := 1657) (by decide +kernel)⟩
theorem lw_p86 : lw_okq (⟨"UncutTaleModel", "readAll", "()I"⟩, 51) := ⟨⟨by decide +kernel, by decide +kernel⟩, List.mem_of_getElem? (i := 1222) (by decide +kernel), List.mem_of_getElem? (i := 1664) (by decide +kernel), List.mem_of_getElem? (i := 1665) (by decide +kernel)⟩
theorem lw_p87 : lw_okq (⟨"UncutTaleModel", "keepsOf", "(II)I"⟩, 51) := ⟨⟨by decide +kernel, by decide +kernel⟩, List.mem_of_getElem? (i := 1222) (by decide +kernel), List.mem_of_getElem? (i := 1672) (by decide +kernel), List.mem_of_getElem? (i := 1673) (by decide +kernel)⟩
theorem lw_p88 : lw_okq (⟨"UncutTaleModel", "every", "()I"⟩, 51) := ⟨⟨by decide +kernel, by decide +kernel⟩, List.mem_of_getElem? (i := 1222) (by decide +kernel), List.mem_of_getElem? (i := 1708) (by decide +kernel), List.mem_of_getElem? (i := 1709) (by decide +kernel)⟩
theorem lw_p89 : lw_okq (⟨"UncutTaleModel", "freshIn", "(I)I"⟩, 51) := ⟨⟨by decide +kernel, by decide +kernel⟩, List.mem_of_getElem? (i := 1222) (by decide +kernel), List.mem_of_getElem? (i := 1720) (by decide +kernel), List.mem_of_getElem? (i := 1721) (by decide +kernel)⟩
theorem lw_p90 : lw_okq (⟨"UncutTaleModel", "fewOf", "()I"⟩, 51) := ⟨⟨by decide +kernel, by decide +kernel⟩, List.mem_of_getElem? (i := 1222) (by decide +kernel), List.mem_of_getElem? (i := 1776) (by decide +kernel), List.mem_of_getElem? (i := 1777) (by decide +kernel)⟩
theorem lw_p91 : lw_okq (⟨"UncutTaleModel", "worthOf", "(I)I"⟩, 51) := ⟨⟨by decide +kernel, by decide +kernel⟩, List.mem_of_getElem? (i := 1222) (by decide +kernel), List.mem_of_getElem? (i := 1780) (by decide +kernel), List.mem_of_getElem? (i := 1781) (by decide +kernel)⟩
theorem lw_p92 : lw_okq (⟨"UncutTaleModel", "isPlan", "(I)Z"⟩, 51) := ⟨⟨by decide +kernel, by decide +kernel⟩, List.mem_of_getElem? (i := 1222) (by decide +kernel), List.mem_of_getElem? (i := 1813) (by decide +kernel), List.mem_of_getElem? (i := 1814) (by decide +kernel)⟩
theorem lw_p93 : lw_okq (⟨"UncutTaleModel", "laysPlan", "(I)V"⟩, 51) := ⟨⟨by decide +kernel, by decide +kernel⟩, List.mem_of_getElem? (i := 1222) (by decide +kernel), List.mem_of_getElem? (i := 1817) (by decide +kernel), List.mem_of_getElem? (i := 1818) (by decide +kernel)⟩
theorem lw_p94 : lw_okq (⟨"UncutTaleModel", "planFrom", "(II)V"⟩, 51) := ⟨⟨by decide +kernel, by decide +kernel⟩, List.mem_of_getElem? (i := 1222) (by decide +kernel), List.mem_of_getElem? (i := 1821) (by decide +kernel), List.mem_of_getElem? (i := 1822) (by decide +kernel)⟩
theorem lw_p95 : lw_okq (⟨"UncutTaleModel", "runsPlan", "(I)V"⟩, 51) := ⟨⟨by decide +kernel, by decide +kernel⟩, List.mem_of_getElem? (i := 1222) (by decide +kernel), List.mem_of_getElem? (i := 1825) (by decide +kernel), List.mem_of_getElem? (i := 1826) (by decide +kernel)⟩
def lw_privs_6 : List (MethodName × Nat) := [(⟨"UncutTaleModel", "cuts", "(III)V"⟩, 51), (⟨"UncutTaleModel", "opens0", "(III)V"⟩, 51), (⟨"UncutTaleModel", "opensOthers", "(I)V"⟩, 51), (⟨"UncutTaleModel", "stiffer", "(II)I"⟩, 51), (⟨"UncutTaleModel", "isAhead", "(I)Z"⟩, 51), (⟨"UncutTaleModel", "readIn", "(I)I"⟩, 51), (⟨"UncutTaleModel", "readAll", "()I"⟩, 51), (⟨"UncutTaleModel", "keepsOf", "(II)I"⟩, 51), (⟨"UncutTaleModel", "every", "()I"⟩, 51), (⟨"UncutTaleModel", "freshIn", "(I)I"⟩, 51), (⟨"UncutTaleModel", "fewOf", "()I"⟩, 51), (⟨"UncutTaleModel", "worthOf", "(I)I"⟩, 51), (⟨"UncutTaleModel", "isPlan", "(I)Z"⟩, 51), (⟨"UncutTaleModel", "laysPlan", "(I)V"⟩, 51), (⟨"UncutTaleModel", "planFrom", "(II)V"⟩, 51), (⟨"UncutTaleModel", "runsPlan", "(I)V"⟩, 51)]
theorem lw_r6 : ∀ q ∈ lw_privs_6, lw_okq q := List.forall_mem_cons.mpr ⟨lw_p80, List.forall_mem_cons.mpr ⟨lw_p81, List.forall_mem_cons.mpr ⟨lw_p82, List.forall_mem_cons.mpr ⟨lw_p83, List.forall_mem_cons.mpr ⟨lw_p84, List.forall_mem_cons.mpr ⟨lw_p85, List.forall_mem_cons.mpr ⟨lw_p86, List.forall_mem_cons.mpr ⟨lw_p87, List.forall_mem_cons.mpr ⟨lw_p88, List.forall_mem_cons.mpr ⟨lw_p89, List.forall_mem_cons.mpr ⟨lw_p90, List.forall_mem_cons.mpr ⟨lw_p91, List.forall_mem_cons.mpr ⟨lw_p92, List.forall_mem_cons.mpr ⟨lw_p93, List.forall_mem_cons.mpr ⟨lw_p94, List.forall_mem_cons.mpr ⟨lw_p95, fun _ h => absurd h List.not_mem_nil⟩⟩⟩⟩⟩⟩⟩⟩⟩⟩⟩⟩⟩⟩⟩⟩
theorem lw_p96 : lw_okq (⟨"UncutTaleModel", "whyNot", "(IZ)I"⟩, 51) := ⟨⟨by decide +kernel, by decide +kernel⟩, List.mem_of_getElem? (i := 1222) (by decide +kernel), List.mem_of_getElem? (i := 1841) (by decide +kernel), List.mem_of_getElem? (i := 1842) (by decide +kernel)⟩
theorem lw_p97 : lw_okq (⟨"UncutTaleModel", "laysSeen", "(II)V"⟩, 51) := ⟨⟨by decide +kernel, by decide +kernel⟩, List.mem_of_getElem? (i := 1222) (by decide +kernel), List.mem_of_getElem? (i := 1846) (by decide +kernel), List.mem_of_getElem? (i := 1847) (by decide +kernel)⟩
theorem lw_p98 : lw_okq (⟨"UncutTaleModel", "isSo", "(I)Z"⟩, 51) := ⟨⟨by decide +kernel, by decide +kernel⟩, List.mem_of_getElem? (i := 1222) (by decide +kernel), List.mem_of_getElem? (i := 1850) (by decide +kernel), List.mem_of_getElem? (i := 1851) (by decide +kernel)⟩
theorem lw_p99 : lw_okq (⟨"UncutTaleModel", "allBy", "(I)I"⟩, 51) := ⟨⟨by decide +kernel, by decide +kernel⟩, List.mem_of_getElem? (i := 1222) (by decide +kernel), List.mem_of_getElem? (i := 1874) (by decide +kernel), List.mem_of_getElem? (i := 1875) (by decide +kernel)⟩
theorem lw_p100 : lw_okq (⟨"UncutTaleModel", "laysUncle", "()V"⟩, 51) := ⟨⟨by decide +kernel, by decide +kernel⟩, List.mem_of_getElem? (i := 1222) (by decide +kernel), List.mem_of_getElem? (i := 1898) (by decide +kernel), List.mem_of_getElem? (i := 1899) (by decide +kernel)⟩
theorem lw_p101 : lw_okq (⟨"UncutTaleModel", "laysEar", "(I)V"⟩, 51) := ⟨⟨by decide +kernel, by decide +kernel⟩, List.mem_of_getElem? (i := 1222) (by decide +kernel), List.mem_of_getElem? (i := 1902) (by decide +kernel), List.mem_of_getElem? (i := 1903) (by decide +kernel)⟩
theorem lw_p102 : lw_okq (⟨"UncutTaleModel", "areTwo", "(II)Z"⟩, 51) := ⟨⟨by decide +kernel, by decide +kernel⟩, List.mem_of_getElem? (i := 1222) (by decide +kernel), List.mem_of_getElem? (i := 1918) (by decide +kernel), List.mem_of_getElem? (i := 1919) (by decide +kernel)⟩
theorem lw_p103 : lw_okq (⟨"UncutTaleModel", "getsBy", "(IIIII)I"⟩, 51) := ⟨⟨by decide +kernel, by decide +kernel⟩, List.mem_of_getElem? (i := 1222) (by decide +kernel), List.mem_of_getElem? (i := 1922) (by decide +kernel), List.mem_of_getElem? (i := 1923) (by decide +kernel)⟩
theorem lw_p104 : lw_okq (⟨"UncutTaleModel", "weightOf", "(I)J"⟩, 51) := ⟨⟨by decide +kernel, by decide +kernel⟩, List.mem_of_getElem? (i := 1222) (by decide +kernel), List.mem_of_getElem? (i := 1934) (by decide +kernel), List.mem_of_getElem? (i := 1935) (by decide +kernel)⟩
theorem lw_p105 : lw_okq (⟨"UncutTaleModel", "draws", "(J)I"⟩, 51) := ⟨⟨by decide +kernel, by decide +kernel⟩, List.mem_of_getElem? (i := 1222) (by decide +kernel), List.mem_of_getElem? (i := 1955) (by decide +kernel), List.mem_of_getElem? (i := 1956) (by decide +kernel)⟩
theorem lw_p106 : lw_okq (⟨"UncutTaleModel", "does", "(III)V"⟩, 51) := ⟨⟨by decide +kernel, by decide +kernel⟩, List.mem_of_getElem? (i := 1222) (by decide +kernel), List.mem_of_getElem? (i := 1972) (by decide +kernel), List.mem_of_getElem? (i := 1973) (by decide +kernel)⟩
def lw_privs_7 : List (MethodName × Nat) := [(⟨"UncutTaleModel", "whyNot", "(IZ)I"⟩, 51), (⟨"UncutTaleModel", "laysSeen", "(II)V"⟩, 51), (⟨"UncutTaleModel", "isSo", "(I)Z"⟩, 51), (⟨"UncutTaleModel", "allBy", "(I)I"⟩, 51), (⟨"UncutTaleModel", "laysUncle", "()V"⟩, 51), (⟨"UncutTaleModel", "laysEar", "(I)V"⟩, 51), (⟨"UncutTaleModel", "areTwo", "(II)Z"⟩, 51), (⟨"UncutTaleModel", "getsBy", "(IIIII)I"⟩, 51), (⟨"UncutTaleModel", "weightOf", "(I)J"⟩, 51), (⟨"UncutTaleModel", "draws", "(J)I"⟩, 51), (⟨"UncutTaleModel", "does", "(III)V"⟩, 51)]
theorem lw_r7 : ∀ q ∈ lw_privs_7, lw_okq q := List.forall_mem_cons.mpr ⟨lw_p96, List.forall_mem_cons.mpr ⟨lw_p97, List.forall_mem_cons.mpr ⟨lw_p98, List.forall_mem_cons.mpr ⟨lw_p99, List.forall_mem_cons.mpr ⟨lw_p100, List.forall_mem_cons.mpr ⟨lw_p101, List.forall_mem_cons.mpr ⟨lw_p102, List.forall_mem_cons.mpr ⟨lw_p103, List.forall_mem_cons.mpr ⟨lw_p104, List.forall_mem_cons.mpr ⟨lw_p105, List.forall_mem_cons.mpr ⟨lw_p106, fun _ h => absurd h List.not_mem_nil⟩⟩⟩⟩⟩⟩⟩⟩⟩⟩⟩
def lw_privs : List (MethodName × Nat) := lw_privs_1 ++ (lw_privs_2 ++ (lw_privs_3 ++ (lw_privs_4 ++ (lw_privs_5 ++ (lw_privs_6 ++ (lw_privs_7))))))
def lw_tbl : List Cond := k2_sels lw_privs ++ tables_1
theorem lw_privs_ok : ∀ q ∈ lw_privs, lw_okq q := by
  show ∀ q ∈ lw_privs_1 ++ (lw_privs_2 ++ (lw_privs_3 ++ (lw_privs_4 ++ (lw_privs_5 ++ (lw_privs_6 ++ (lw_privs_7)))))), lw_okq q
  exact List.forall_mem_append.mpr ⟨lw_r1, List.forall_mem_append.mpr ⟨lw_r2, List.forall_mem_append.mpr ⟨lw_r3, List.forall_mem_append.mpr ⟨lw_r4, List.forall_mem_append.mpr ⟨lw_r5, List.forall_mem_append.mpr ⟨lw_r6, lw_r7⟩⟩⟩⟩⟩⟩
end
section
def va_AOA (ty : FieldType) (U : State) : Prop := (Cond.arrayOver (.array ty)).before #[] U = true
theorem va_AOA.use {ty : FieldType} {A : Array Value} {U : State} (h : va_AOA ty U) : (Cond.arrayOver (.array ty)).before A U = true := h
/-! ===== BEGIN new T[n][m]: the outer array a place, the inner ones among the pooled ===== -/
/-- f, but v at every address of l -/
def vr_up {α : Type} (f : Nat → α) (l : List Nat) (v : α) : Nat → α := fun a => if a ∈ l then v else f a
theorem vr_up_in {α : Type} {f : Nat → α} {l : List Nat} {v : α} {a : Nat} (h : a ∈ l) : vr_up f l v a = v := if_pos h
theorem vr_up_ne {α : Type} {f : Nat → α} {l : List Nat} {v : α} {a : Nat} (h : a ∉ l) : vr_up f l v a = f a := if_neg h
theorem vr_rows {L l : List Nat} {f : Nat → va_E} {e : va_E} (h : ∀ a, a ∈ l → a ∉ L) : va_pl L f ++ l.map (fun a => (a, e)) = va_pl (L ++ l) (vr_up f l e) := by
  unfold va_pl
  rw [List.map_append]
  congr 1
  · apply List.map_congr_left
    intro a ha
    rw [vr_up_ne (fun q => h a q ha)]
  · apply List.map_congr_left
    intro a ha
    rw [vr_up_in ha]
theorem vr_lay {X rows : va_W} {x : Nat × va_E} {pl : va_W} {D : va_G} {cl : List vw_C} {H : Heap} (hP : va_P D cl (((X ++ pl) ++ [x]) ++ rows) H) : va_P D cl ((X ++ [x]) ++ (pl ++ rows)) H := by
  rw [List.append_assoc (X ++ pl)] at hP
  have h := va_P.swap hP
  rw [← List.append_assoc X] at h
  have h2 := va_P.swap h
  rw [List.append_assoc (X ++ [x])] at h2
  exact h2
theorem vr_layD {X rows : va_W} {x : Nat × va_E} {pl : va_W} {A : Nat → Prop} (hD : va_D A (((X ++ pl) ++ [x]) ++ rows)) : va_D A ((X ++ [x]) ++ (pl ++ rows)) := by
  rw [List.append_assoc (X ++ pl)] at hD
  have h := va_D.swap hD
  rw [← List.append_assoc X] at h
  have h2 := va_D.swap h
  rw [List.append_assoc (X ++ [x])] at h2
  exact h2
theorem vr_outer (c : ClassId) (N h0 : Nat) : ∀ i : Nat, Jvm.Free.Multi.outerC c N h0 i = arrV c N (fun j => va_rf (if j < i then some (h0 + 1 + j) else none))
  | 0 => by
    show ({ cls := c, slots := Array.replicate N .null, vm := .none } : Cell) = _
    rw [arrV_new]
    refine congrArg (arrV c N) (funext fun j => ?_)
    simp [va_rf]
  | i + 1 => by
    show (Jvm.Free.Multi.outerC c N h0 i).setSlot i (.ref (h0 + 1 + i)) = _
    rw [vr_outer c N h0 i, arrV_store]
    refine congrArg (arrV c N) (funext fun j => ?_)
    by_cases e : j = i
    · subst e
      simp [updV, va_rf]
    · by_cases h : j < i
      · simp [updV, e, h, Nat.lt_succ_of_lt h]
      · simp [updV, e, h, show ¬ j < i + 1 by omega]
section VGM
variable {p : Program} {l : Launch} {e : Env} {R : Room} {s : State} {m : MethodId} {args : Array Value} {below : List Frame} {meth : Method} {c : Code} {H : Heap} {locs : List Loc} {cells slots : Nat} {Q : State → Prop}
variable {cc : ByteArray} {pc : Nat} {ls : Array Slot} {rest : List Value} {D : va_G} {cl : List vw_C} {A : Nat → Prop} {a : Nat} {tys : List (ClassId × FieldType)} {ws : va_W} {H0 : Heap}
theorem va_mna {X : va_W} {L : List Nat} {f : Nat → va_E} {cc : ByteArray} (hexec : p.tables.exec = Jvm.exec) (hb : c.code = cc) {own : String} {index : Nat} {ty : FieldType} {cy : ClassId} (hown : s.vm.findClass own = some m.cls) (hclink : (Cond.classLink own index ("[" ++ (FieldType.array ty).toString)).before args s = true) (hover : va_AOA ty s) (harr : (Cond.arrayClass ty).before args s = true) (hcy : s.vm.findClass (FieldType.array ty).toString = some cy)
    (hK : va_K D cl tys s) (hP : va_P D cl (X ++ va_pl L f) H) (hD : va_D A (X ++ va_pl L f)) (hS : va_S A H0 H locs) (hA : ∀ q, H0.size ≤ q → A q) {n k : Int32} {N' K' : Nat} {z : vp_A} (hn : ¬ n < 0) (hk : ¬ k < 0) (hN : n.toNatClampNeg = N') (hM : k.toNatClampNeg = K')
    (hb1 : N' * 4 ≤ 536870912) (hb2 : K' * componentBytes ty ≤ 536870912) (hb3 : K' ≤ 536870912) (hdf : fits ty (defaultValue ty) = true) (hdd : (defaultValue ty).isDefault = true) (hcells : cells + (1 + N') ≤ R.cells) (hslots : slots + (N' + N' * K') ≤ R.slots) (hz : ∀ c : ClassId, Jvm.Free.Multi.innerC c K' (defaultValue ty) = vp_cell c z) (hdg : decode cc pc = .ok (.multianewarray index 2, 4))
    (kk : ∀ (q : Nat) (r : Nat → Nat) (cA : ClassId) (H1 : Heap), (∀ i j : Nat, i < N' → j < N' → r i = r j → i = j) → (∀ i : Nat, i < N' → r i ∉ L) → va_K D cl (tys ++ [(cA, .array ty)]) s →
      va_P D cl ((X ++ [(q, .inl (cA, N', .inr (.inr (.inr (.inr (fun i => if i < N' then some (r i) else none))))))]) ++ va_pl (L ++ (List.range N').map r) (vr_up f ((List.range N').map r) (.inl (cy, z)))) H1 → va_D A ((X ++ [(q, .inl (cA, N', .inr (.inr (.inr (.inr (fun i => if i < N' then some (r i) else none))))))]) ++ va_pl (L ++ (List.range N').map r) (vr_up f ((List.range N').map r) (.inl (cy, z)))) → va_S A H0 H1 locs →
      W p l e R s m args below meth c H1 locs (cells + 1 + N') (slots + N' + N' * K') Q (F0 m (pc + 4) ls (.ref q :: rest))) : W p l e R s m args below meth c H locs cells slots Q (F0 m pc ls (.int k :: .int n :: rest)) := by
  subst hN
  subst hM
  intro T hT Xs
  obtain ⟨vm₁, cA, comp, -, fA, fC, hO, -, X', step⟩ := Xs.multianewarray2F hexec hown hclink (va_AOA.use hover) harr (g := F0 m pc ls (.int k :: .int n :: rest)) rfl (by rw [hb]; exact hdg) rfl hn hk hb1 hb2 hb3 hdf hdd hcells hslots
  have ec : some cy = some comp := hcy.symm.trans fC
  cases ec
  generalize hF : Jvm.Free.Multi.fill (T.setVm vm₁) cA cy n.toNatClampNeg k.toNatClampNeg (defaultValue ty) n.toNatClampNeg = F at X' step
  have hTh : (T.setVm vm₁).heap = H := hT
  obtain ⟨f1, f2, -, -⟩ := Jvm.Free.Multi.fill_facts (T.setVm vm₁) cA cy n.toNatClampNeg k.toNatClampNeg (defaultValue ty) n.toNatClampNeg
  rw [hF, hTh] at f1 f2
  have hold : ∀ x : Nat, x < H.size → F.heap[x]? = H[x]? := fun x hx => by
    have := Jvm.Free.Multi.fill_old (T.setVm vm₁) cA cy n.toNatClampNeg k.toNatClampNeg (defaultValue ty) (a := x) (by rw [hTh]; exact hx) n.toNatClampNeg
    rw [hF, hTh] at this
    exact this
  have hrow : ∀ j : Nat, j < n.toNatClampNeg → F.heap[H.size + 1 + j]? = some (vp_cell cy z) := fun j hj => by
    have := Jvm.Free.Multi.fill_inner (T.setVm vm₁) cA cy n.toNatClampNeg k.toNatClampNeg (defaultValue ty) n.toNatClampNeg j hj
    rw [hF, hTh, hz] at this
    exact this
  have hout : Jvm.Free.Multi.outerC cA n.toNatClampNeg H.size n.toNatClampNeg = vp_cell cA (n.toNatClampNeg, .inr (.inr (.inr (.inr (fun i => if i < n.toNatClampNeg then some (H.size + 1 + i) else none))))) := by
    rw [vp_cell_q]
    exact vr_outer cA n.toNatClampNeg H.size n.toNatClampNeg
  rw [hout] at f2
  have hlt : ∀ a, a ∈ L → a < H.size := fun a ha => by
    obtain ⟨k9, hk9⟩ := va_pl_get (X := X) (f := f) ha
    exact (hP k9 _ hk9).lt
  have hnl : ∀ i : Nat, i < n.toNatClampNeg → H.size + 1 + i ∉ L := fun i _ h => by
    have := hlt _ h
    omega
  have hnm : ∀ a, a ∈ (List.range n.toNatClampNeg).map (fun i => H.size + 1 + i) → a ∉ L := fun a ha h => by
    obtain ⟨i, -, rfl⟩ := List.mem_map.mp ha
    have := hlt _ h
    omega
  have hP0 : va_P D cl (X ++ va_pl L f) F.heap := hP.kept (fun k9 x hx => hold x.1 ((hP k9 x hx).lt))
  have hP1 : va_P D cl ((X ++ va_pl L f) ++ [(H.size, .inl (cA, n.toNatClampNeg, .inr (.inr (.inr (.inr (fun i => if i < n.toNatClampNeg then some (H.size + 1 + i) else none))))))]) F.heap := hP0.app (fun k9 x hx => by
    have h0 : k9 < 1 := (List.getElem?_eq_some_iff.mp hx).1
    rw [show k9 = 0 by omega] at hx
    cases hx
    exact f2)
  have hP2 : va_P D cl (((X ++ va_pl L f) ++ [(H.size, .inl (cA, n.toNatClampNeg, .inr (.inr (.inr (.inr (fun i => if i < n.toNatClampNeg then some (H.size + 1 + i) else none))))))]) ++ ((List.range n.toNatClampNeg).map (fun i => H.size + 1 + i)).map (fun a => (a, .inl (cy, z)))) F.heap := hP1.app (fun k9 x hx => by
    obtain ⟨a, ha, rfl⟩ := List.mem_map.mp (List.mem_of_getElem? hx)
    obtain ⟨i, hi, rfl⟩ := List.mem_map.mp ha
    exact hrow i (List.mem_range.mp hi))
  have hD2 : va_D A (((X ++ va_pl L f) ++ [(H.size, .inl (cA, n.toNatClampNeg, .inr (.inr (.inr (.inr (fun i => if i < n.toNatClampNeg then some (H.size + 1 + i) else none))))))]) ++ ((List.range n.toNatClampNeg).map (fun i => H.size + 1 + i)).map (fun a => (a, .inl (cy, z)))) := by
    have hD1 := hD.push (e := .inl (cA, n.toNatClampNeg, .inr (.inr (.inr (.inr (fun i => if i < n.toNatClampNeg then some (H.size + 1 + i) else none)))))) hP rfl (hA _ hS.1)
    generalize hW1 : (X ++ va_pl L f) ++ [(H.size, .inl (cA, n.toNatClampNeg, .inr (.inr (.inr (.inr (fun i => if i < n.toNatClampNeg then some (H.size + 1 + i) else none))))))] = W1 at hD1 hP1 ⊢
    have hle : ∀ (k9 : Nat) (x : Nat × va_E), W1[k9]? = some x → x.1 ≤ H.size := fun k9 x hx => by
      rw [← hW1] at hx
      by_cases hl : k9 < (X ++ va_pl L f).length
      · rw [List.getElem?_append_left hl] at hx
        exact Nat.le_of_lt ((hP k9 x hx).lt)
      · rw [List.getElem?_append_right (by omega)] at hx
        have h0 : k9 - (X ++ va_pl L f).length < 1 := (List.getElem?_eq_some_iff.mp hx).1
        rw [show k9 - (X ++ va_pl L f).length = 0 by omega] at hx
        cases hx
        exact Nat.le_refl _
    have hr : ∀ (k9 : Nat) (x : Nat × va_E), (((List.range n.toNatClampNeg).map (fun i => H.size + 1 + i)).map (fun a => ((a, .inl (cy, z)) : Nat × va_E)))[k9]? = some x → x.1 = H.size + 1 + k9 := fun k9 x hx => by
      rw [List.getElem?_map, List.getElem?_map] at hx
      by_cases h9 : k9 < n.toNatClampNeg
      · rw [List.getElem?_range h9] at hx
        cases hx
        rfl
      · have hn0 : (List.range n.toNatClampNeg)[k9]? = none := List.getElem?_eq_none (by rw [List.length_range]; omega)
        rw [hn0] at hx
        cases hx
    refine ⟨fun i j x y hi hj hxy => ?_, fun k9 x hx => ?_⟩
    · by_cases h1 : i < W1.length <;> by_cases h2 : j < W1.length
      · rw [List.getElem?_append_left h1] at hi
        rw [List.getElem?_append_left h2] at hj
        exact hD1.1 i j x y hi hj hxy
      · rw [List.getElem?_append_left h1] at hi
        rw [List.getElem?_append_right (by omega)] at hj
        have := hle _ _ hi
        have := hr _ _ hj
        omega
      · rw [List.getElem?_append_right (by omega)] at hi
        rw [List.getElem?_append_left h2] at hj
        have := hle _ _ hj
        have := hr _ _ hi
        omega
      · rw [List.getElem?_append_right (by omega)] at hi hj
        have := hr _ _ hi
        have := hr _ _ hj
        omega
    · by_cases h1 : k9 < W1.length
      · rw [List.getElem?_append_left h1] at hx
        exact hD1.2 k9 x hx
      · rw [List.getElem?_append_right (by omega)] at hx
        have := hr _ _ hx
        exact hA _ (by have := hS.1; omega)
  have hAr : ArrOfT s cA (.array ty) := fun N9 z9 => by
    obtain ⟨-, k9, hk9, cm9, hkk9⟩ := (hO 0 0 0).1
    exact ⟨(fun q hq => by cases hq), k9, hk9, cm9, hkk9⟩
  have hK2 : va_K D cl (tys ++ [(cA, .array ty)]) s := ⟨hK.1, fun k9 x hx => by
    by_cases hl : k9 < tys.length
    · rw [List.getElem?_append_left hl] at hx
      exact hK.2 k9 x hx
    · rw [List.getElem?_append_right (by omega)] at hx
      have h0 : k9 - tys.length < 1 := (List.getElem?_eq_some_iff.mp hx).1
      rw [show k9 - tys.length = 0 by omega] at hx
      cases hx
      exact ⟨hAr, fA⟩⟩
  obtain ⟨t, a1, b1⟩ := kk H.size (fun i => H.size + 1 + i) cA F.heap (fun i j _ _ h => by have h9 : H.size + 1 + i = H.size + 1 + j := h; omega) hnl hK2 (by rw [← vr_rows hnm]; exact vr_lay hP2) (by rw [← vr_rows hnm]; exact vr_layD hD2) ⟨by rw [f1]; have := hS.1; omega, fun x h1 h2 => (hold x (Nat.lt_of_lt_of_le h1 hS.1)).trans (hS.2.1 x h1 h2), hS.2.2⟩ F rfl X'
  refine ⟨t, step t ?_, b1⟩
  have e : T.heap.size = H.size := by rw [hT]
  rw [e]
  exact a1
end VGM
/-! ===== END ===== -/


def RX0 : String := "UncutTale$Course"
def TX0 : u_T := fun k => match k with
  | 0 => ("UncutTale$Course", "story", "LUncutTale$Story;", true)
  | 1 => ("UncutTale$Course", "near", "[I", true)
  | 2 => ("UncutTale$Course", "airings", "[I", true)
  | 3 => ("UncutTale$Course", "toCut", "[I", true)
  | 4 => ("UncutTale$Course", "open", "[I", true)
  | 5 => ("UncutTale$Course", "openedAt", "[I", true)
  | 6 => ("UncutTale$Course", "trace", "[I", true)
  | 7 => ("UncutTale$Course", "law", "I", false)
  | 8 => ("UncutTale$Course", "sewn", "I", false)
  | _ => ("UncutTale$Course", "ofThemselves", "I", false)
def tyX0 : Nat → FieldType := fun k => match k with
  | 0 => .object "UncutTale$Story"
  | 1 => .array .int
  | 2 => .array .int
  | 3 => .array .int
  | 4 => .array .int
  | 5 => .array .int
  | 6 => .array .int
  | 7 => .int
  | 8 => .int
  | _ => .int
abbrev wsX00 : List Cond := u_ws RX0 TX0 10
theorem nmX0 : ∀ a, a < 10 → ∀ b, b < 10 → a ≠ b → (TX0 a).2.1 ≠ (TX0 b).2.1 := by decide +kernel
theorem tyX0_ok : ∀ k, k < 10 → parseFieldDescriptor (TX0 k).2.2.1 = some (tyX0 k) := by decide +kernel
abbrev cX0_init : ByteArray := prog_2_method_1_code
def yX0_init : MethodName := ⟨RX0, "<init>", "(LUncutTale$Story;)V"⟩
abbrev cX0_begin : ByteArray := prog_2_method_2_code
def yX0_begin : MethodName := ⟨RX0, "begin", "(I)V"⟩
abbrev cX0_unfoldWith : ByteArray := prog_2_method_3_code
def yX0_unfoldWith : MethodName := ⟨RX0, "unfoldWith", "(I)V"⟩
abbrev cX0_unfoldBy : ByteArray := prog_2_method_4_code
def yX0_unfoldBy : MethodName := ⟨RX0, "unfoldBy", "(II)V"⟩
abbrev cX0_unfold : ByteArray := prog_2_method_5_code
def yX0_unfold : MethodName := ⟨RX0, "unfold", "()V"⟩
abbrev cX0_noteOpenings : ByteArray := prog_2_method_6_code
def yX0_noteOpenings : MethodName := ⟨RX0, "noteOpenings", "(II)V"⟩
abbrev cX0_settle : ByteArray := prog_2_method_7_code
def yX0_settle : MethodName := ⟨RX0, "settle", "(I)I"⟩
abbrev cX0_openIn : ByteArray := prog_2_method_8_code
def yX0_openIn : MethodName := ⟨RX0, "openIn", "(I)I"⟩
abbrev cX0_openingYear : ByteArray := prog_2_method_9_code
def yX0_openingYear : MethodName := ⟨RX0, "openingYear", "(I)I"⟩
abbrev cX0_stiffness : ByteArray := prog_2_method_10_code
def yX0_stiffness : MethodName := ⟨RX0, "stiffness", "(II)I"⟩
abbrev cX0_follow : ByteArray := prog_2_method_11_code
def yX0_follow : MethodName := ⟨RX0, "follow", "(III)I"⟩
abbrev cX0_aired : ByteArray := prog_2_method_12_code
def yX0_aired : MethodName := ⟨RX0, "aired", "(III)I"⟩
abbrev cX0_waited : ByteArray := prog_2_method_13_code
def yX0_waited : MethodName := ⟨RX0, "waited", "(III)I"⟩
abbrev cX0_readFor : ByteArray := prog_2_method_14_code
def yX0_readFor : MethodName := ⟨RX0, "readFor", "(I)I"⟩
abbrev cX0_readIn : ByteArray := prog_2_method_15_code
def yX0_readIn : MethodName := ⟨RX0, "readIn", "(I)I"⟩
abbrev cX0_readInAll : ByteArray := prog_2_method_16_code
def yX0_readInAll : MethodName := ⟨RX0, "readInAll", "()I"⟩
abbrev cX0_shutWorth : ByteArray := prog_2_method_17_code
def yX0_shutWorth : MethodName := ⟨RX0, "shutWorth", "(II)I"⟩
def RX1 : String := "UncutTale$Guess"
def TX1 : u_T := fun k => match k with
  | 0 => ("UncutTale$Guess", "story", "LUncutTale$Story;", true)
  | 1 => ("UncutTale$Guess", "slots", "LUncutTale$Slots;", true)
  | 2 => ("UncutTale$Guess", "fits", "[Z", true)
  | 3 => ("UncutTale$Guess", "tally", "[I", true)
  | 4 => ("UncutTale$Guess", "askedYear", "I", false)
  | _ => ("UncutTale$Guess", "left", "I", false)
def tyX1 : Nat → FieldType := fun k => match k with
  | 0 => .object "UncutTale$Story"
  | 1 => .object "UncutTale$Slots"
  | 2 => .array .boolean
  | 3 => .array .int
  | 4 => .int
  | _ => .int
abbrev wsX10 : List Cond := u_ws RX1 TX1 6
theorem nmX1 : ∀ a, a < 6 → ∀ b, b < 6 → a ≠ b → (TX1 a).2.1 ≠ (TX1 b).2.1 := by decide +kernel
theorem tyX1_ok : ∀ k, k < 6 → parseFieldDescriptor (TX1 k).2.2.1 = some (tyX1 k) := by decide +kernel
abbrev cX1_init : ByteArray := prog_3_method_1_code
def yX1_init : MethodName := ⟨RX1, "<init>", "(LUncutTale$Story;LUncutTale$Slots;)V"⟩
abbrev cX1_isSeenRow : ByteArray := prog_3_method_2_code
def yX1_isSeenRow : MethodName := ⟨RX1, "isSeenRow", "(I)Z"⟩
abbrev cX1_isAsSeen : ByteArray := prog_3_method_3_code
def yX1_isAsSeen : MethodName := ⟨RX1, "isAsSeen", "(IILUncutTale$Course;)Z"⟩
abbrev cX1_howMany : ByteArray := prog_3_method_4_code
def yX1_howMany : MethodName := ⟨RX1, "howMany", "(IILUncutTale$Course;)I"⟩
abbrev cX1_isTraceAsSeen : ByteArray := prog_3_method_5_code
def yX1_isTraceAsSeen : MethodName := ⟨RX1, "isTraceAsSeen", "(IILUncutTale$Course;)Z"⟩
abbrev cX1_least : ByteArray := prog_3_method_6_code
def yX1_least : MethodName := ⟨RX1, "least", "()I"⟩
abbrev cX1_greatest : ByteArray := prog_3_method_7_code
def yX1_greatest : MethodName := ⟨RX1, "greatest", "()I"⟩
abbrev cX1_choose : ByteArray := prog_3_method_8_code
def yX1_choose : MethodName := ⟨RX1, "choose", "(IILUncutTale$Course;)V"⟩
abbrev cX1_tallyTraces : ByteArray := prog_3_method_9_code
def yX1_tallyTraces : MethodName := ⟨RX1, "tallyTraces", "(ILUncutTale$Course;)V"⟩
abbrev cX1_worstIn : ByteArray := prog_3_method_10_code
def yX1_worstIn : MethodName := ⟨RX1, "worstIn", "(I)I"⟩
def RX2 : String := "UncutTale$Odds"
def TX2 : u_T := fun k => match k with
  | 0 => ("UncutTale$Odds", "story", "LUncutTale$Story;", true)
  | 1 => ("UncutTale$Odds", "course", "LUncutTale$Course;", true)
  | 2 => ("UncutTale$Odds", "openWeight", "[J", true)
  | 3 => ("UncutTale$Odds", "readWeight", "J", false)
  | _ => ("UncutTale$Odds", "whole", "J", false)
def tyX2 : Nat → FieldType := fun k => match k with
  | 0 => .object "UncutTale$Story"
  | 1 => .object "UncutTale$Course"
  | 2 => .array .long
  | 3 => .long
  | _ => .long
abbrev wsX20 : List Cond := u_ws RX2 TX2 5
theorem nmX2 : ∀ a, a < 5 → ∀ b, b < 5 → a ≠ b → (TX2 a).2.1 ≠ (TX2 b).2.1 := by decide +kernel
theorem tyX2_ok : ∀ k, k < 5 → parseFieldDescriptor (TX2 k).2.2.1 = some (tyX2 k) := by decide +kernel
abbrev cX2_init : ByteArray := prog_4_method_1_code
def yX2_init : MethodName := ⟨RX2, "<init>", "(LUncutTale$Story;LUncutTale$Course;)V"⟩
abbrev cX2_weigh : ByteArray := prog_4_method_2_code
def yX2_weigh : MethodName := ⟨RX2, "weigh", "()V"⟩
abbrev cX2_weightOf : ByteArray := prog_4_method_3_code
def yX2_weightOf : MethodName := ⟨RX2, "weightOf", "(I)J"⟩
abbrev cX2_addToOpen : ByteArray := prog_4_method_4_code
def yX2_addToOpen : MethodName := ⟨RX2, "addToOpen", "(J)V"⟩
def RX3 : String := "UncutTale$Parser"
def TX3 : u_T := fun k => match k with
  | 0 => ("UncutTale$Parser", "tape", "LUncutTale$Tape;", true)
  | 1 => ("UncutTale$Parser", "draft", "LUncutTale$Story;", true)
  | 2 => ("UncutTale$Parser", "kind", "I", false)
  | 3 => ("UncutTale$Parser", "start", "I", false)
  | 4 => ("UncutTale$Parser", "stop", "I", false)
  | 5 => ("UncutTale$Parser", "value", "I", false)
  | 6 => ("UncutTale$Parser", "fault", "I", false)
  | _ => ("UncutTale$Parser", "faultPlace", "I", false)
def tyX3 : Nat → FieldType := fun k => match k with
  | 0 => .object "UncutTale$Tape"
  | 1 => .object "UncutTale$Story"
  | 2 => .int
  | 3 => .int
  | 4 => .int
  | 5 => .int
  | 6 => .int
  | _ => .int
abbrev wsX30 : List Cond := u_ws RX3 TX3 8
theorem nmX3 : ∀ a, a < 8 → ∀ b, b < 8 → a ≠ b → (TX3 a).2.1 ≠ (TX3 b).2.1 := by decide +kernel
theorem tyX3_ok : ∀ k, k < 8 → parseFieldDescriptor (TX3 k).2.2.1 = some (tyX3 k) := by decide +kernel
abbrev cX3_init : ByteArray := prog_5_method_1_code
def yX3_init : MethodName := ⟨RX3, "<init>", "(LUncutTale$Tape;LUncutTale$Story;)V"⟩
abbrev cX3_parse : ByteArray := prog_5_method_2_code
def yX3_parse : MethodName := ⟨RX3, "parse", "()Z"⟩
abbrev cX3_takeLine : ByteArray := prog_5_method_3_code
def yX3_takeLine : MethodName := ⟨RX3, "takeLine", "()Z"⟩
abbrev cX3_takeHead : ByteArray := prog_5_method_4_code
def yX3_takeHead : MethodName := ⟨RX3, "takeHead", "()Z"⟩
abbrev cX3_takePart : ByteArray := prog_5_method_5_code
def yX3_takePart : MethodName := ⟨RX3, "takePart", "()Z"⟩
abbrev cX3_takeFold : ByteArray := prog_5_method_6_code
def yX3_takeFold : MethodName := ⟨RX3, "takeFold", "()Z"⟩
abbrev cX3_takeKnife : ByteArray := prog_5_method_7_code
def yX3_takeKnife : MethodName := ⟨RX3, "takeKnife", "()Z"⟩
abbrev cX3_takeSign : ByteArray := prog_5_method_8_code
def yX3_takeSign : MethodName := ⟨RX3, "takeSign", "()Z"⟩
abbrev cX3_takeNamed : ByteArray := prog_5_method_9_code
def yX3_takeNamed : MethodName := ⟨RX3, "takeNamed", "(Ljava/lang/String;II)I"⟩
abbrev cX3_takeWord : ByteArray := prog_5_method_10_code
def yX3_takeWord : MethodName := ⟨RX3, "takeWord", "(Ljava/lang/String;)V"⟩
abbrev cX3_takeNumber : ByteArray := prog_5_method_11_code
def yX3_takeNumber : MethodName := ⟨RX3, "takeNumber", "(II)I"⟩
abbrev cX3_refuse : ByteArray := prog_5_method_12_code
def yX3_refuse : MethodName := ⟨RX3, "refuse", "(I)Z"⟩
abbrev cX3_advance : ByteArray := prog_5_method_13_code
def yX3_advance : MethodName := ⟨RX3, "advance", "()V"⟩
abbrev cX3_isWord : ByteArray := prog_5_method_14_code
def yX3_isWord : MethodName := ⟨RX3, "isWord", "(Ljava/lang/String;)Z"⟩
abbrev cX3_kindOf : ByteArray := prog_5_method_15_code
def yX3_kindOf : MethodName := ⟨RX3, "kindOf", "(I)I"⟩
def RX4 : String := "UncutTale$Planner"
def TX4 : u_T := fun k => match k with
  | 0 => ("UncutTale$Planner", "story", "LUncutTale$Story;", true)
  | 1 => ("UncutTale$Planner", "course", "LUncutTale$Course;", true)
  | 2 => ("UncutTale$Planner", "stiff", "[[I", true)
  | 3 => ("UncutTale$Planner", "open", "[I", true)
  | 4 => ("UncutTale$Planner", "read", "[I", true)
  | 5 => ("UncutTale$Planner", "choice", "[I", true)
  | 6 => ("UncutTale$Planner", "firstRow", "[I", true)
  | 7 => ("UncutTale$Planner", "most", "I", false)
  | _ => ("UncutTale$Planner", "rows", "I", false)
def tyX4 : Nat → FieldType := fun k => match k with
  | 0 => .object "UncutTale$Story"
  | 1 => .object "UncutTale$Course"
  | 2 => .array (.array .int)
  | 3 => .array .int
  | 4 => .array .int
  | 5 => .array .int
  | 6 => .array .int
  | 7 => .int
  | _ => .int
abbrev wsX40 : List Cond := u_ws RX4 TX4 9
theorem nmX4 : ∀ a, a < 9 → ∀ b, b < 9 → a ≠ b → (TX4 a).2.1 ≠ (TX4 b).2.1 := by decide +kernel
theorem tyX4_ok : ∀ k, k < 9 → parseFieldDescriptor (TX4 k).2.2.1 = some (tyX4 k) := by decide +kernel
abbrev cX4_init : ByteArray := prog_6_method_1_code
def yX4_init : MethodName := ⟨RX4, "<init>", "(LUncutTale$Story;LUncutTale$Course;)V"⟩
abbrev cX4_search : ByteArray := prog_6_method_2_code
def yX4_search : MethodName := ⟨RX4, "search", "(I)V"⟩
abbrev cX4_spend : ByteArray := prog_6_method_3_code
def yX4_spend : MethodName := ⟨RX4, "spend", "(I)V"⟩
abbrev cX4_compare : ByteArray := prog_6_method_4_code
def yX4_compare : MethodName := ⟨RX4, "compare", "(I)V"⟩
def RX5 : String := "UncutTale$Slots"
def TX5 : u_T := fun k => match k with
  | 0 => ("UncutTale$Slots", "widths", "[I", true)
  | 1 => ("UncutTale$Slots", "sizes", "[I", true)
  | _ => ("UncutTale$Slots", "numbers", "[J", true)
def tyX5 : Nat → FieldType := fun k => match k with
  | 0 => .array .int
  | 1 => .array .int
  | _ => .array .long
abbrev wsX50 : List Cond := u_ws RX5 TX5 3
theorem nmX5 : ∀ a, a < 3 → ∀ b, b < 3 → a ≠ b → (TX5 a).2.1 ≠ (TX5 b).2.1 := by decide +kernel
theorem tyX5_ok : ∀ k, k < 3 → parseFieldDescriptor (TX5 k).2.2.1 = some (tyX5 k) := by decide +kernel
abbrev cX5_init : ByteArray := prog_7_method_1_code
def yX5_init : MethodName := ⟨RX5, "<init>", "()V"⟩
abbrev cX5_isSlot : ByteArray := prog_7_method_2_code
def yX5_isSlot : MethodName := ⟨RX5, "isSlot", "(I)Z"⟩
abbrev cX5_isBare : ByteArray := prog_7_method_3_code
def yX5_isBare : MethodName := ⟨RX5, "isBare", "(I)Z"⟩
abbrev cX5_areOfOneWidth : ByteArray := prog_7_method_4_code
def yX5_areOfOneWidth : MethodName := ⟨RX5, "areOfOneWidth", "(II)Z"⟩
abbrev cX5_covers : ByteArray := prog_7_method_5_code
def yX5_covers : MethodName := ⟨RX5, "covers", "(III)Z"⟩
abbrev cX5_filled : ByteArray := prog_7_method_6_code
def yX5_filled : MethodName := ⟨RX5, "filled", "()I"⟩
abbrev cX5_size : ByteArray := prog_7_method_7_code
def yX5_size : MethodName := ⟨RX5, "size", "(I)I"⟩
abbrev cX5_number : ByteArray := prog_7_method_8_code
def yX5_number : MethodName := ⟨RX5, "number", "(II)J"⟩
abbrev cX5_lay : ByteArray := prog_7_method_9_code
def yX5_lay : MethodName := ⟨RX5, "lay", "(III)V"⟩
abbrev cX5_put : ByteArray := prog_7_method_10_code
def yX5_put : MethodName := ⟨RX5, "put", "(IIJ)V"⟩
abbrev cX5_cutTo : ByteArray := prog_7_method_11_code
def yX5_cutTo : MethodName := ⟨RX5, "cutTo", "(IJ)J"⟩
abbrev cX5_move : ByteArray := prog_7_method_12_code
def yX5_move : MethodName := ⟨RX5, "move", "(IIIII)V"⟩
def RX6 : String := "UncutTale$Story"
def TX6 : u_T := fun k => match k with
  | 0 => ("UncutTale$Story", "charm", "[I", true)
  | 1 => ("UncutTale$Story", "tires", "[I", true)
  | 2 => ("UncutTale$Story", "toldStiff", "[I", true)
  | 3 => ("UncutTale$Story", "foldFrom", "[I", true)
  | 4 => ("UncutTale$Story", "foldTo", "[I", true)
  | 5 => ("UncutTale$Story", "knifePart", "[I", true)
  | 6 => ("UncutTale$Story", "knifeYear", "[I", true)
  | 7 => ("UncutTale$Story", "actKind", "[I", true)
  | 8 => ("UncutTale$Story", "actPart", "[I", true)
  | 9 => ("UncutTale$Story", "actYear", "[I", true)
  | 10 => ("UncutTale$Story", "years", "I", false)
  | 11 => ("UncutTale$Story", "law", "I", false)
  | 12 => ("UncutTale$Story", "odds", "I", false)
  | 13 => ("UncutTale$Story", "parts", "I", false)
  | 14 => ("UncutTale$Story", "folds", "I", false)
  | 15 => ("UncutTale$Story", "knives", "I", false)
  | 16 => ("UncutTale$Story", "acts", "I", false)
  | _ => ("UncutTale$Story", "lines", "I", false)
def tyX6 : Nat → FieldType := fun k => match k with
  | 0 => .array .int
  | 1 => .array .int
  | 2 => .array .int
  | 3 => .array .int
  | 4 => .array .int
  | 5 => .array .int
  | 6 => .array .int
  | 7 => .array .int
  | 8 => .array .int
  | 9 => .array .int
  | 10 => .int
  | 11 => .int
  | 12 => .int
  | 13 => .int
  | 14 => .int
  | 15 => .int
  | 16 => .int
  | _ => .int
abbrev wsX60 : List Cond := u_ws RX6 TX6 18
theorem nmX6 : ∀ a, a < 18 → ∀ b, b < 18 → a ≠ b → (TX6 a).2.1 ≠ (TX6 b).2.1 := by decide +kernel
theorem tyX6_ok : ∀ k, k < 18 → parseFieldDescriptor (TX6 k).2.2.1 = some (tyX6 k) := by decide +kernel
abbrev cX6_init : ByteArray := prog_8_method_1_code
def yX6_init : MethodName := ⟨RX6, "<init>", "()V"⟩
abbrev cX6_clear : ByteArray := prog_8_method_2_code
def yX6_clear : MethodName := ⟨RX6, "clear", "()V"⟩
abbrev cX6_become : ByteArray := prog_8_method_3_code
def yX6_become : MethodName := ⟨RX6, "become", "(LUncutTale$Story;)V"⟩
abbrev cX6_addPart : ByteArray := prog_8_method_4_code
def yX6_addPart : MethodName := ⟨RX6, "addPart", "(III)V"⟩
abbrev cX6_addFold : ByteArray := prog_8_method_5_code
def yX6_addFold : MethodName := ⟨RX6, "addFold", "(II)V"⟩
abbrev cX6_addKnife : ByteArray := prog_8_method_6_code
def yX6_addKnife : MethodName := ⟨RX6, "addKnife", "(II)V"⟩
abbrev cX6_addAct : ByteArray := prog_8_method_7_code
def yX6_addAct : MethodName := ⟨RX6, "addAct", "(III)V"⟩
abbrev cX6_isTold : ByteArray := prog_8_method_8_code
def yX6_isTold : MethodName := ⟨RX6, "isTold", "()Z"⟩
abbrev cX6_hasPart : ByteArray := prog_8_method_9_code
def yX6_hasPart : MethodName := ⟨RX6, "hasPart", "(I)Z"⟩
abbrev cX6_hasYear : ByteArray := prog_8_method_10_code
def yX6_hasYear : MethodName := ⟨RX6, "hasYear", "(I)Z"⟩
abbrev cX6_hasWorkingYear : ByteArray := prog_8_method_11_code
def yX6_hasWorkingYear : MethodName := ⟨RX6, "hasWorkingYear", "(I)Z"⟩
abbrev cX6_everyPart : ByteArray := prog_8_method_12_code
def yX6_everyPart : MethodName := ⟨RX6, "everyPart", "()I"⟩
abbrev cX6_everyKnife : ByteArray := prog_8_method_13_code
def yX6_everyKnife : MethodName := ⟨RX6, "everyKnife", "()I"⟩
abbrev cX6_areJoined : ByteArray := prog_8_method_14_code
def yX6_areJoined : MethodName := ⟨RX6, "areJoined", "(II)Z"⟩
abbrev cX6_neighbours : ByteArray := prog_8_method_15_code
def yX6_neighbours : MethodName := ⟨RX6, "neighbours", "(II)I"⟩
abbrev cX6_spread : ByteArray := prog_8_method_16_code
def yX6_spread : MethodName := ⟨RX6, "spread", "(I)I"⟩
abbrev cX6_joinedWith : ByteArray := prog_8_method_17_code
def yX6_joinedWith : MethodName := ⟨RX6, "joinedWith", "(I)I"⟩
def RX7 : String := "UncutTale$Tape"
def TX7 : u_T := fun k => match k with
  | 0 => ("UncutTale$Tape", "bytes", "[B", true)
  | _ => ("UncutTale$Tape", "length", "I", false)
def tyX7 : Nat → FieldType := fun k => match k with
  | 0 => .array .byte
  | _ => .int
abbrev wsX70 : List Cond := u_ws RX7 TX7 2
theorem nmX7 : ∀ a, a < 2 → ∀ b, b < 2 → a ≠ b → (TX7 a).2.1 ≠ (TX7 b).2.1 := by decide +kernel
theorem tyX7_ok : ∀ k, k < 2 → parseFieldDescriptor (TX7 k).2.2.1 = some (tyX7 k) := by decide +kernel
abbrev cX7_init : ByteArray := prog_9_method_1_code
def yX7_init : MethodName := ⟨RX7, "<init>", "()V"⟩
abbrev cX7_hasRoomForFive : ByteArray := prog_9_method_2_code
def yX7_hasRoomForFive : MethodName := ⟨RX7, "hasRoomForFive", "()Z"⟩
abbrev cX7_append : ByteArray := prog_9_method_3_code
def yX7_append : MethodName := ⟨RX7, "append", "(I)V"⟩
abbrev cX7_at : ByteArray := prog_9_method_4_code
def yX7_at : MethodName := ⟨RX7, "at", "(I)I"⟩
def RX8 : String := "UncutTale"
def TX8 : u_T := fun k => match k with
  | 0 => ("UncutTale", "tape", "LUncutTale$Tape;", true)
  | 1 => ("UncutTale", "draft", "LUncutTale$Story;", true)
  | 2 => ("UncutTale", "parser", "LUncutTale$Parser;", true)
  | 3 => ("UncutTale", "story", "LUncutTale$Story;", true)
  | 4 => ("UncutTale", "images", "[LUncutTale$Story;", true)
  | 5 => ("UncutTale", "imaged", "[Z", true)
  | 6 => ("UncutTale", "slots", "LUncutTale$Slots;", true)
  | 7 => ("UncutTale", "now", "LUncutTale$Course;", true)
  | 8 => ("UncutTale", "trial", "LUncutTale$Course;", true)
  | 9 => ("UncutTale", "planner", "LUncutTale$Planner;", true)
  | 10 => ("UncutTale", "odds", "LUncutTale$Odds;", true)
  | 11 => ("UncutTale", "guess", "LUncutTale$Guess;", true)
  | 12 => ("UncutTale", "nowIsStale", "Z", false)
  | 13 => ("UncutTale", "oddsAreStale", "Z", false)
  | _ => ("UncutTale", "plannedYears", "I", false)
def tyX8 : Nat → FieldType := fun k => match k with
  | 0 => .object "UncutTale$Tape"
  | 1 => .object "UncutTale$Story"
  | 2 => .object "UncutTale$Parser"
  | 3 => .object "UncutTale$Story"
  | 4 => .array (.object "UncutTale$Story")
  | 5 => .array .boolean
  | 6 => .object "UncutTale$Slots"
  | 7 => .object "UncutTale$Course"
  | 8 => .object "UncutTale$Course"
  | 9 => .object "UncutTale$Planner"
  | 10 => .object "UncutTale$Odds"
  | 11 => .object "UncutTale$Guess"
  | 12 => .boolean
  | 13 => .boolean
  | _ => .int
abbrev wsX80 : List Cond := u_ws RX8 TX8 15
theorem nmX8 : ∀ a, a < 15 → ∀ b, b < 15 → a ≠ b → (TX8 a).2.1 ≠ (TX8 b).2.1 := by decide +kernel
theorem tyX8_ok : ∀ k, k < 15 → parseFieldDescriptor (TX8 k).2.2.1 = some (tyX8 k) := by decide +kernel
abbrev cX8_init : ByteArray := prog_1_method_1_code
def yX8_init : MethodName := ⟨RX8, "<init>", "()V"⟩
abbrev cX8_feed : ByteArray := prog_1_method_2_code
def yX8_feed : MethodName := ⟨RX8, "feed", "(IIIII)I"⟩
abbrev cX8_end : ByteArray := prog_1_method_3_code
def yX8_end : MethodName := ⟨RX8, "end", "(I)I"⟩
abbrev cX8_tale : ByteArray := prog_1_method_4_code
def yX8_tale : MethodName := ⟨RX8, "tale", "()I"⟩
abbrev cX8_fault : ByteArray := prog_1_method_5_code
def yX8_fault : MethodName := ⟨RX8, "fault", "(I)I"⟩
abbrev cX8_part : ByteArray := prog_1_method_6_code
def yX8_part : MethodName := ⟨RX8, "part", "(II)I"⟩
abbrev cX8_near : ByteArray := prog_1_method_7_code
def yX8_near : MethodName := ⟨RX8, "near", "(I)I"⟩
abbrev cX8_far : ByteArray := prog_1_method_8_code
def yX8_far : MethodName := ⟨RX8, "far", "(II)I"⟩
abbrev cX8_pieces : ByteArray := prog_1_method_9_code
def yX8_pieces : MethodName := ⟨RX8, "pieces", "()I"⟩
abbrev cX8_knives : ByteArray := prog_1_method_10_code
def yX8_knives : MethodName := ⟨RX8, "knives", "(I)I"⟩
abbrev cX8_count : ByteArray := prog_1_method_11_code
def yX8_count : MethodName := ⟨RX8, "count", "(I)I"⟩
abbrev cX8_stiff : ByteArray := prog_1_method_12_code
def yX8_stiff : MethodName := ⟨RX8, "stiff", "(II)I"⟩
abbrev cX8_open : ByteArray := prog_1_method_13_code
def yX8_open : MethodName := ⟨RX8, "open", "(I)I"⟩
abbrev cX8_when : ByteArray := prog_1_method_14_code
def yX8_when : MethodName := ⟨RX8, "when", "(I)I"⟩
abbrev cX8_how : ByteArray := prog_1_method_15_code
def yX8_how : MethodName := ⟨RX8, "how", "(I)I"⟩
abbrev cX8_read : ByteArray := prog_1_method_16_code
def yX8_read : MethodName := ⟨RX8, "read", "(I)I"⟩
abbrev cX8_reads : ByteArray := prog_1_method_17_code
def yX8_reads : MethodName := ⟨RX8, "reads", "(I)I"⟩
abbrev cX8_all : ByteArray := prog_1_method_18_code
def yX8_all : MethodName := ⟨RX8, "all", "()I"⟩
abbrev cX8_keeps : ByteArray := prog_1_method_19_code
def yX8_keeps : MethodName := ⟨RX8, "keeps", "(II)I"⟩
abbrev cX8_waits : ByteArray := prog_1_method_20_code
def yX8_waits : MethodName := ⟨RX8, "waits", "(I)I"⟩
abbrev cX8_next : ByteArray := prog_1_method_21_code
def yX8_next : MethodName := ⟨RX8, "next", "(I)I"⟩
abbrev cX8_dull : ByteArray := prog_1_method_22_code
def yX8_dull : MethodName := ⟨RX8, "dull", "(I)I"⟩
abbrev cX8_dies : ByteArray := prog_1_method_23_code
def yX8_dies : MethodName := ⟨RX8, "dies", "(I)I"⟩
abbrev cX8_ages : ByteArray := prog_1_method_24_code
def yX8_ages : MethodName := ⟨RX8, "ages", "(I)I"⟩
abbrev cX8_best : ByteArray := prog_1_method_25_code
def yX8_best : MethodName := ⟨RX8, "best", "(I)I"⟩
abbrev cX8_lone : ByteArray := prog_1_method_26_code
def yX8_lone : MethodName := ⟨RX8, "lone", "(I)I"⟩
abbrev cX8_stalest : ByteArray := prog_1_method_27_code
def yX8_stalest : MethodName := ⟨RX8, "stalest", "(I)I"⟩
abbrev cX8_cut : ByteArray := prog_1_method_28_code
def yX8_cut : MethodName := ⟨RX8, "cut", "(I)I"⟩
abbrev cX8_sharp : ByteArray := prog_1_method_29_code
def yX8_sharp : MethodName := ⟨RX8, "sharp", "()I"⟩
abbrev cX8_idle : ByteArray := prog_1_method_30_code
def yX8_idle : MethodName := ⟨RX8, "idle", "()I"⟩
abbrev cX8_uncut : ByteArray := prog_1_method_31_code
def yX8_uncut : MethodName := ⟨RX8, "uncut", "()I"⟩
abbrev cX8_done : ByteArray := prog_1_method_32_code
def yX8_done : MethodName := ⟨RX8, "done", "()I"⟩
abbrev cX8_rush : ByteArray := prog_1_method_33_code
def yX8_rush : MethodName := ⟨RX8, "rush", "()I"⟩
abbrev cX8_with : ByteArray := prog_1_method_34_code
def yX8_with : MethodName := ⟨RX8, "with", "(I)I"⟩
abbrev cX8_charms : ByteArray := prog_1_method_35_code
def yX8_charms : MethodName := ⟨RX8, "charms", "()I"⟩
abbrev cX8_peak : ByteArray := prog_1_method_36_code
def yX8_peak : MethodName := ⟨RX8, "peak", "()I"⟩
abbrev cX8_first : ByteArray := prog_1_method_37_code
def yX8_first : MethodName := ⟨RX8, "first", "()I"⟩
abbrev cX8_quiet : ByteArray := prog_1_method_38_code
def yX8_quiet : MethodName := ⟨RX8, "quiet", "()I"⟩
abbrev cX8_lost : ByteArray := prog_1_method_39_code
def yX8_lost : MethodName := ⟨RX8, "lost", "()I"⟩
abbrev cX8_few : ByteArray := prog_1_method_40_code
def yX8_few : MethodName := ⟨RX8, "few", "()I"⟩
abbrev cX8_fews : ByteArray := prog_1_method_41_code
def yX8_fews : MethodName := ⟨RX8, "fews", "()I"⟩
abbrev cX8_worth : ByteArray := prog_1_method_42_code
def yX8_worth : MethodName := ⟨RX8, "worth", "(I)I"⟩
abbrev cX8_share : ByteArray := prog_1_method_43_code
def yX8_share : MethodName := ⟨RX8, "share", "(II)I"⟩
abbrev cX8_plan : ByteArray := prog_1_method_44_code
def yX8_plan : MethodName := ⟨RX8, "plan", "(I)I"⟩
abbrev cX8_planned : ByteArray := prog_1_method_45_code
def yX8_planned : MethodName := ⟨RX8, "planned", "(II)I"⟩
abbrev cX8_plans : ByteArray := prog_1_method_46_code
def yX8_plans : MethodName := ⟨RX8, "plans", "(I)I"⟩
abbrev cX8_stiffs : ByteArray := prog_1_method_47_code
def yX8_stiffs : MethodName := ⟨RX8, "stiffs", "(II)I"⟩
abbrev cX8_low : ByteArray := prog_1_method_48_code
def yX8_low : MethodName := ⟨RX8, "low", "(II)I"⟩
abbrev cX8_high : ByteArray := prog_1_method_49_code
def yX8_high : MethodName := ⟨RX8, "high", "(II)I"⟩
abbrev cX8_ask : ByteArray := prog_1_method_50_code
def yX8_ask : MethodName := ⟨RX8, "ask", "(II)I"⟩
abbrev cX8_leaves : ByteArray := prog_1_method_51_code
def yX8_leaves : MethodName := ⟨RX8, "leaves", "(II)I"⟩
abbrev cX8_laws : ByteArray := prog_1_method_52_code
def yX8_laws : MethodName := ⟨RX8, "laws", "(I)I"⟩
abbrev cX8_by : ByteArray := prog_1_method_53_code
def yX8_by : MethodName := ⟨RX8, "by", "(I)I"⟩
abbrev cX8_law : ByteArray := prog_1_method_54_code
def yX8_law : MethodName := ⟨RX8, "law", "()I"⟩
abbrev cX8_blunt : ByteArray := prog_1_method_55_code
def yX8_blunt : MethodName := ⟨RX8, "blunt", "()I"⟩
abbrev cX8_slit : ByteArray := prog_1_method_56_code
def yX8_slit : MethodName := ⟨RX8, "slit", "()I"⟩
abbrev cX8_uncle : ByteArray := prog_1_method_57_code
def yX8_uncle : MethodName := ⟨RX8, "uncle", "()I"⟩
abbrev cX8_opens : ByteArray := prog_1_method_58_code
def yX8_opens : MethodName := ⟨RX8, "opens", "()I"⟩
abbrev cX8_replies : ByteArray := prog_1_method_59_code
def yX8_replies : MethodName := ⟨RX8, "replies", "(I)I"⟩
abbrev cX8_rests : ByteArray := prog_1_method_60_code
def yX8_rests : MethodName := ⟨RX8, "rests", "(II)I"⟩
abbrev cX8_gets : ByteArray := prog_1_method_61_code
def yX8_gets : MethodName := ⟨RX8, "gets", "(IIII)I"⟩
abbrev cX8_chance : ByteArray := prog_1_method_62_code
def yX8_chance : MethodName := ⟨RX8, "chance", "(II)I"⟩
abbrev cX8_mean : ByteArray := prog_1_method_63_code
def yX8_mean : MethodName := ⟨RX8, "mean", "(I)J"⟩
abbrev cX8_drawn : ByteArray := prog_1_method_64_code
def yX8_drawn : MethodName := ⟨RX8, "drawn", "(II)I"⟩
abbrev cX8_luck : ByteArray := prog_1_method_65_code
def yX8_luck : MethodName := ⟨RX8, "luck", "(III)I"⟩
abbrev cX8_knife : ByteArray := prog_1_method_66_code
def yX8_knife : MethodName := ⟨RX8, "knife", "(II)I"⟩
abbrev cX8_air : ByteArray := prog_1_method_67_code
def yX8_air : MethodName := ⟨RX8, "air", "(II)I"⟩
abbrev cX8_undo : ByteArray := prog_1_method_68_code
def yX8_undo : MethodName := ⟨RX8, "undo", "()I"⟩
abbrev cX8_anew : ByteArray := prog_1_method_69_code
def yX8_anew : MethodName := ⟨RX8, "anew", "()I"⟩
abbrev cX8_rate : ByteArray := prog_1_method_70_code
def yX8_rate : MethodName := ⟨RX8, "rate", "(II)I"⟩
abbrev cX8_image : ByteArray := prog_1_method_71_code
def yX8_image : MethodName := ⟨RX8, "image", "(I)I"⟩
abbrev cX8_back : ByteArray := prog_1_method_72_code
def yX8_back : MethodName := ⟨RX8, "back", "(I)I"⟩
abbrev cX8_row : ByteArray := prog_1_method_73_code
def yX8_row : MethodName := ⟨RX8, "row", "(III)I"⟩
abbrev cX8_write : ByteArray := prog_1_method_74_code
def yX8_write : MethodName := ⟨RX8, "write", "(IIJ)I"⟩
abbrev cX8_paste : ByteArray := prog_1_method_75_code
def yX8_paste : MethodName := ⟨RX8, "paste", "(IIIII)I"⟩
abbrev cX8_hasBit : ByteArray := prog_1_method_76_code
def yX8_hasBit : MethodName := ⟨RX8, "hasBit", "(II)Z"⟩
abbrev cX8_isAboveOrBelow : ByteArray := prog_1_method_77_code
def yX8_isAboveOrBelow : MethodName := ⟨RX8, "isAboveOrBelow", "(I)Z"⟩
abbrev cX8_isChoice : ByteArray := prog_1_method_78_code
def yX8_isChoice : MethodName := ⟨RX8, "isChoice", "(I)Z"⟩
abbrev cX8_isSeed : ByteArray := prog_1_method_79_code
def yX8_isSeed : MethodName := ⟨RX8, "isSeed", "(I)Z"⟩
abbrev cX8_factorial : ByteArray := prog_1_method_80_code
def yX8_factorial : MethodName := ⟨RX8, "factorial", "(I)I"⟩
abbrev cX8_lowestTerms : ByteArray := prog_1_method_81_code
def yX8_lowestTerms : MethodName := ⟨RX8, "lowestTerms", "(JJI)J"⟩
abbrev cX8_greatestDivisor : ByteArray := prog_1_method_82_code
def yX8_greatestDivisor : MethodName := ⟨RX8, "greatestDivisor", "(JJ)J"⟩
abbrev cX8_forgetAnswers : ByteArray := prog_1_method_83_code
def yX8_forgetAnswers : MethodName := ⟨RX8, "forgetAnswers", "()V"⟩
abbrev cX8_current : ByteArray := prog_1_method_84_code
def yX8_current : MethodName := ⟨RX8, "current", "()LUncutTale$Course;"⟩
abbrev cX8_asNow : ByteArray := prog_1_method_85_code
def yX8_asNow : MethodName := ⟨RX8, "asNow", "(I)V"⟩
abbrev cX8_hasPartAndYear : ByteArray := prog_1_method_86_code
def yX8_hasPartAndYear : MethodName := ⟨RX8, "hasPartAndYear", "(II)Z"⟩
abbrev cX8_isPair : ByteArray := prog_1_method_87_code
def yX8_isPair : MethodName := ⟨RX8, "isPair", "(II)Z"⟩
abbrev cX8_shutAtLast : ByteArray := prog_1_method_88_code
def yX8_shutAtLast : MethodName := ⟨RX8, "shutAtLast", "()I"⟩
abbrev cX8_openedIn : ByteArray := prog_1_method_89_code
def yX8_openedIn : MethodName := ⟨RX8, "openedIn", "(I)I"⟩
abbrev cX8_openingKnives : ByteArray := prog_1_method_90_code
def yX8_openingKnives : MethodName := ⟨RX8, "openingKnives", "()I"⟩
abbrev cX8_opensAnew : ByteArray := prog_1_method_91_code
def yX8_opensAnew : MethodName := ⟨RX8, "opensAnew", "(III)Z"⟩
abbrev cX8_fewest : ByteArray := prog_1_method_92_code
def yX8_fewest : MethodName := ⟨RX8, "fewest", "()I"⟩
abbrev cX8_setWorth : ByteArray := prog_1_method_93_code
def yX8_setWorth : MethodName := ⟨RX8, "setWorth", "(I)I"⟩
abbrev cX8_hasPlan : ByteArray := prog_1_method_94_code
def yX8_hasPlan : MethodName := ⟨RX8, "hasPlan", "(I)Z"⟩
abbrev cX8_planFor : ByteArray := prog_1_method_95_code
def yX8_planFor : MethodName := ⟨RX8, "planFor", "(I)V"⟩
abbrev cX8_refuseSeenOf : ByteArray := prog_1_method_96_code
def yX8_refuseSeenOf : MethodName := ⟨RX8, "refuseSeenOf", "(II)I"⟩
abbrev cX8_refuseSeen : ByteArray := prog_1_method_97_code
def yX8_refuseSeen : MethodName := ⟨RX8, "refuseSeen", "(I)I"⟩
abbrev cX8_refuseAct : ByteArray := prog_1_method_98_code
def yX8_refuseAct : MethodName := ⟨RX8, "refuseAct", "(II)I"⟩
abbrev cX8_readByLaw : ByteArray := prog_1_method_99_code
def yX8_readByLaw : MethodName := ⟨RX8, "readByLaw", "(I)I"⟩
abbrev cX8_uncleWorth : ByteArray := prog_1_method_100_code
def yX8_uncleWorth : MethodName := ⟨RX8, "uncleWorth", "(I)I"⟩
abbrev cX8_earChoice : ByteArray := prog_1_method_101_code
def yX8_earChoice : MethodName := ⟨RX8, "earChoice", "(I)I"⟩
abbrev cX8_sewnGets : ByteArray := prog_1_method_102_code
def yX8_sewnGets : MethodName := ⟨RX8, "sewnGets", "(IIII)I"⟩
abbrev cX8_weighOdds : ByteArray := prog_1_method_103_code
def yX8_weighOdds : MethodName := ⟨RX8, "weighOdds", "()V"⟩
abbrev cX8_knivesDrawn : ByteArray := prog_1_method_104_code
def yX8_knivesDrawn : MethodName := ⟨RX8, "knivesDrawn", "(J)I"⟩
def RX9 : String := "UncutTaleModel"
def TX9 : u_T := fun k => match k with
  | 0 => ("UncutTaleModel", "thrown", "I", false)
  | 1 => ("UncutTaleModel", "width", "[I", true)
  | 2 => ("UncutTaleModel", "many", "[I", true)
  | 3 => ("UncutTaleModel", "cells", "[J", true)
  | 4 => ("UncutTaleModel", "moved", "[J", true)
  | 5 => ("UncutTaleModel", "tape", "[B", true)
  | 6 => ("UncutTaleModel", "taped", "I", false)
  | 7 => ("UncutTaleModel", "spot", "I", false)
  | 8 => ("UncutTaleModel", "token", "I", false)
  | 9 => ("UncutTaleModel", "place", "I", false)
  | 10 => ("UncutTaleModel", "value", "I", false)
  | 11 => ("UncutTaleModel", "word", "J", false)
  | 12 => ("UncutTaleModel", "bad", "I", false)
  | 13 => ("UncutTaleModel", "badPlace", "I", false)
  | 14 => ("UncutTaleModel", "fault", "I", false)
  | 15 => ("UncutTaleModel", "faultPlace", "I", false)
  | 16 => ("UncutTaleModel", "lines", "[I", true)
  | 17 => ("UncutTaleModel", "has", "[I", true)
  | 18 => ("UncutTaleModel", "told", "[I", true)
  | 19 => ("UncutTaleModel", "fold", "[I", true)
  | 20 => ("UncutTaleModel", "blade", "[I", true)
  | 21 => ("UncutTaleModel", "act", "[I", true)
  | 22 => ("UncutTaleModel", "isKept", "[Z", true)
  | 23 => ("UncutTaleModel", "law", "I", false)
  | 24 => ("UncutTaleModel", "sewn", "I", false)
  | 25 => ("UncutTaleModel", "untold", "I", false)
  | 26 => ("UncutTaleModel", "notBlade", "I", false)
  | 27 => ("UncutTaleModel", "isPlanned", "Z", false)
  | 28 => ("UncutTaleModel", "stiffTold", "[I", true)
  | 29 => ("UncutTaleModel", "planSet", "[I", true)
  | 30 => ("UncutTaleModel", "stiffs0", "[I", true)
  | 31 => ("UncutTaleModel", "openAt", "[I", true)
  | 32 => ("UncutTaleModel", "openedIn", "[I", true)
  | 33 => ("UncutTaleModel", "howOpened", "[I", true)
  | 34 => ("UncutTaleModel", "readFor", "[I", true)
  | 35 => ("UncutTaleModel", "sharpBits", "I", false)
  | 36 => ("UncutTaleModel", "openNow", "I", false)
  | 37 => ("UncutTaleModel", "planMost", "I", false)
  | 38 => ("UncutTaleModel", "planMany", "I", false)
  | 39 => ("UncutTaleModel", "planRow", "[I", true)
  | 40 => ("UncutTaleModel", "planNow", "[I", true)
  | 41 => ("UncutTaleModel", "seenMany", "I", false)
  | 42 => ("UncutTaleModel", "seenLow", "I", false)
  | 43 => ("UncutTaleModel", "seenHigh", "I", false)
  | 44 => ("UncutTaleModel", "askBest", "I", false)
  | 45 => ("UncutTaleModel", "askLeaves", "I", false)
  | 46 => ("UncutTaleModel", "oftenAt", "[I", true)
  | 47 => ("UncutTaleModel", "earBest", "I", false)
  | 48 => ("UncutTaleModel", "earLeast", "I", false)
  | 49 => ("UncutTaleModel", "uncleBest", "I", false)
  | _ => ("UncutTaleModel", "uncleMost", "I", false)
def tyX9 : Nat → FieldType := fun k => match k with
  | 0 => .int
  | 1 => .array .int
  | 2 => .array .int
  | 3 => .array .long
  | 4 => .array .long
  | 5 => .array .byte
  | 6 => .int
  | 7 => .int
  | 8 => .int
  | 9 => .int
  | 10 => .int
  | 11 => .long
  | 12 => .int
  | 13 => .int
  | 14 => .int
  | 15 => .int
  | 16 => .array .int
  | 17 => .array .int
  | 18 => .array .int
  | 19 => .array .int
  | 20 => .array .int
  | 21 => .array .int
  | 22 => .array .boolean
  | 23 => .int
  | 24 => .int
  | 25 => .int
  | 26 => .int
  | 27 => .boolean
  | 28 => .array .int
  | 29 => .array .int
  | 30 => .array .int
  | 31 => .array .int
  | 32 => .array .int
  | 33 => .array .int
  | 34 => .array .int
  | 35 => .int
  | 36 => .int
  | 37 => .int
  | 38 => .int
  | 39 => .array .int
  | 40 => .array .int
  | 41 => .int
  | 42 => .int
  | 43 => .int
  | 44 => .int
  | 45 => .int
  | 46 => .array .int
  | 47 => .int
  | 48 => .int
  | 49 => .int
  | _ => .int
abbrev wsX90 : List Cond := u_ws RX9 TX9 51
theorem nmX9 : ∀ a, a < 51 → ∀ b, b < 51 → a ≠ b → (TX9 a).2.1 ≠ (TX9 b).2.1 := by decide +kernel
theorem tyX9_ok : ∀ k, k < 51 → parseFieldDescriptor (TX9 k).2.2.1 = some (tyX9 k) := by decide +kernel
abbrev cX9_init : ByteArray := prog_11_method_1_code
def yX9_init : MethodName := ⟨RX9, "<init>", "()V"⟩
abbrev cX9_in : ByteArray := prog_11_method_3_code
def yX9_in : MethodName := ⟨RX9, "in", "(JJJ)Z"⟩
abbrev cX9_isSlot : ByteArray := prog_11_method_4_code
def yX9_isSlot : MethodName := ⟨RX9, "isSlot", "(I)Z"⟩
abbrev cX9_row : ByteArray := prog_11_method_5_code
def yX9_row : MethodName := ⟨RX9, "row", "(III)I"⟩
abbrev cX9_cut : ByteArray := prog_11_method_6_code
def yX9_cut : MethodName := ⟨RX9, "cut", "(JI)J"⟩
abbrev cX9_write : ByteArray := prog_11_method_7_code
def yX9_write : MethodName := ⟨RX9, "write", "(IIJ)I"⟩
abbrev cX9_paste : ByteArray := prog_11_method_8_code
def yX9_paste : MethodName := ⟨RX9, "paste", "(IIIII)I"⟩
abbrev cX9_feed : ByteArray := prog_11_method_9_code
def yX9_feed : MethodName := ⟨RX9, "feed", "(IIIII)I"⟩
abbrev cX9_four : ByteArray := prog_11_method_10_code
def yX9_four : MethodName := ⟨RX9, "four", "(I)V"⟩
abbrev cX9_end : ByteArray := prog_11_method_11_code
def yX9_end : MethodName := ⟨RX9, "end", "(I)I"⟩
abbrev cX9_isByte : ByteArray := prog_11_method_12_code
def yX9_isByte : MethodName := ⟨RX9, "isByte", "(III)Z"⟩
abbrev cX9_follows : ByteArray := prog_11_method_13_code
def yX9_follows : MethodName := ⟨RX9, "follows", "()V"⟩
abbrev cX9_isGood : ByteArray := prog_11_method_14_code
def yX9_isGood : MethodName := ⟨RX9, "isGood", "()Z"⟩
abbrev cX9_fails : ByteArray := prog_11_method_15_code
def yX9_fails : MethodName := ⟨RX9, "fails", "(I)V"⟩
abbrev cX9_is : ByteArray := prog_11_method_16_code
def yX9_is : MethodName := ⟨RX9, "is", "(J)Z"⟩
abbrev cX9_takesWord : ByteArray := prog_11_method_17_code
def yX9_takesWord : MethodName := ⟨RX9, "takesWord", "(J)Z"⟩
abbrev cX9_asks : ByteArray := prog_11_method_18_code
def yX9_asks : MethodName := ⟨RX9, "asks", "(J)V"⟩
abbrev cX9_number : ByteArray := prog_11_method_19_code
def yX9_number : MethodName := ⟨RX9, "number", "(II)I"⟩
abbrev cX9_number_ : ByteArray := prog_11_method_20_code
def yX9_number_ : MethodName := ⟨RX9, "number", "(JII)I"⟩
abbrev cX9_ends : ByteArray := prog_11_method_21_code
def yX9_ends : MethodName := ⟨RX9, "ends", "()V"⟩
abbrev cX9_begins : ByteArray := prog_11_method_22_code
def yX9_begins : MethodName := ⟨RX9, "begins", "()V"⟩
abbrev cX9_isOver : ByteArray := prog_11_method_23_code
def yX9_isOver : MethodName := ⟨RX9, "isOver", "()V"⟩
abbrev cX9_fault : ByteArray := prog_11_method_24_code
def yX9_fault : MethodName := ⟨RX9, "fault", "(I)I"⟩
abbrev cX9_hasRead : ByteArray := prog_11_method_25_code
def yX9_hasRead : MethodName := ⟨RX9, "hasRead", "(I)I"⟩
abbrev cX9_tellsOf : ByteArray := prog_11_method_26_code
def yX9_tellsOf : MethodName := ⟨RX9, "tellsOf", "(II)V"⟩
abbrev cX9_partHere : ByteArray := prog_11_method_27_code
def yX9_partHere : MethodName := ⟨RX9, "partHere", "()I"⟩
abbrev cX9_partLine : ByteArray := prog_11_method_28_code
def yX9_partLine : MethodName := ⟨RX9, "partLine", "()V"⟩
abbrev cX9_areJoined : ByteArray := prog_11_method_29_code
def yX9_areJoined : MethodName := ⟨RX9, "areJoined", "(II)Z"⟩
abbrev cX9_foldLine : ByteArray := prog_11_method_30_code
def yX9_foldLine : MethodName := ⟨RX9, "foldLine", "()V"⟩
abbrev cX9_knifeLine : ByteArray := prog_11_method_31_code
def yX9_knifeLine : MethodName := ⟨RX9, "knifeLine", "()V"⟩
abbrev cX9_isRoom : ByteArray := prog_11_method_32_code
def yX9_isRoom : MethodName := ⟨RX9, "isRoom", "(ZII)Z"⟩
abbrev cX9_lineHere : ByteArray := prog_11_method_33_code
def yX9_lineHere : MethodName := ⟨RX9, "lineHere", "()V"⟩
abbrev cX9_clears : ByteArray := prog_11_method_34_code
def yX9_clears : MethodName := ⟨RX9, "clears", "()V"⟩
abbrev cX9_tale : ByteArray := prog_11_method_35_code
def yX9_tale : MethodName := ⟨RX9, "tale", "()I"⟩
abbrev cX9_copyRow : ByteArray := prog_11_method_36_code
def yX9_copyRow : MethodName := ⟨RX9, "copyRow", "([IIII)V"⟩
abbrev cX9_copyTale : ByteArray := prog_11_method_37_code
def yX9_copyTale : MethodName := ⟨RX9, "copyTale", "(II)V"⟩
abbrev cX9_isTale : ByteArray := prog_11_method_38_code
def yX9_isTale : MethodName := ⟨RX9, "isTale", "()Z"⟩
abbrev cX9_parts : ByteArray := prog_11_method_39_code
def yX9_parts : MethodName := ⟨RX9, "parts", "()I"⟩
abbrev cX9_years : ByteArray := prog_11_method_40_code
def yX9_years : MethodName := ⟨RX9, "years", "()I"⟩
abbrev cX9_isPart : ByteArray := prog_11_method_41_code
def yX9_isPart : MethodName := ⟨RX9, "isPart", "(J)Z"⟩
abbrev cX9_isYear : ByteArray := prog_11_method_42_code
def yX9_isYear : MethodName := ⟨RX9, "isYear", "(J)Z"⟩
abbrev cX9_isAhead : ByteArray := prog_11_method_43_code
def yX9_isAhead : MethodName := ⟨RX9, "isAhead", "(I)Z"⟩
abbrev cX9_isThen : ByteArray := prog_11_method_44_code
def yX9_isThen : MethodName := ⟨RX9, "isThen", "(II)Z"⟩
abbrev cX9_areTwo : ByteArray := prog_11_method_45_code
def yX9_areTwo : MethodName := ⟨RX9, "areTwo", "(II)Z"⟩
abbrev cX9_isHalf : ByteArray := prog_11_method_46_code
def yX9_isHalf : MethodName := ⟨RX9, "isHalf", "(I)Z"⟩
abbrev cX9_isBit : ByteArray := prog_11_method_47_code
def yX9_isBit : MethodName := ⟨RX9, "isBit", "(II)Z"⟩
abbrev cX9_sizeOf : ByteArray := prog_11_method_48_code
def yX9_sizeOf : MethodName := ⟨RX9, "sizeOf", "(I)I"⟩
abbrev cX9_lessOf : ByteArray := prog_11_method_49_code
def yX9_lessOf : MethodName := ⟨RX9, "lessOf", "(II)I"⟩
abbrev cX9_moreOf : ByteArray := prog_11_method_50_code
def yX9_moreOf : MethodName := ⟨RX9, "moreOf", "(II)I"⟩
abbrev cX9_every : ByteArray := prog_11_method_51_code
def yX9_every : MethodName := ⟨RX9, "every", "()I"⟩
abbrev cX9_lays : ByteArray := prog_11_method_52_code
def yX9_lays : MethodName := ⟨RX9, "lays", "()V"⟩
abbrev cX9_nearOf : ByteArray := prog_11_method_53_code
def yX9_nearOf : MethodName := ⟨RX9, "nearOf", "(I)I"⟩
abbrev cX9_stiffAt : ByteArray := prog_11_method_54_code
def yX9_stiffAt : MethodName := ⟨RX9, "stiffAt", "(II)I"⟩
abbrev cX9_opens0 : ByteArray := prog_11_method_55_code
def yX9_opens0 : MethodName := ⟨RX9, "opens0", "(III)V"⟩
abbrev cX9_cuts : ByteArray := prog_11_method_56_code
def yX9_cuts : MethodName := ⟨RX9, "cuts", "(III)V"⟩
abbrev cX9_opensOthers : ByteArray := prog_11_method_57_code
def yX9_opensOthers : MethodName := ⟨RX9, "opensOthers", "(I)V"⟩
abbrev cX9_stiffer : ByteArray := prog_11_method_58_code
def yX9_stiffer : MethodName := ⟨RX9, "stiffer", "(II)I"⟩
abbrev cX9_runs : ByteArray := prog_11_method_59_code
def yX9_runs : MethodName := ⟨RX9, "runs", "()V"⟩
abbrev cX9_airs : ByteArray := prog_11_method_60_code
def yX9_airs : MethodName := ⟨RX9, "airs", "(I)V"⟩
abbrev cX9_knivesOf : ByteArray := prog_11_method_61_code
def yX9_knivesOf : MethodName := ⟨RX9, "knivesOf", "(I)V"⟩
abbrev cX9_laysNow : ByteArray := prog_11_method_62_code
def yX9_laysNow : MethodName := ⟨RX9, "laysNow", "()V"⟩
abbrev cX9_readIn : ByteArray := prog_11_method_63_code
def yX9_readIn : MethodName := ⟨RX9, "readIn", "(I)I"⟩
abbrev cX9_readAll : ByteArray := prog_11_method_64_code
def yX9_readAll : MethodName := ⟨RX9, "readAll", "()I"⟩
abbrev cX9_keepsOf : ByteArray := prog_11_method_65_code
def yX9_keepsOf : MethodName := ⟨RX9, "keepsOf", "(II)I"⟩
abbrev cX9_part : ByteArray := prog_11_method_66_code
def yX9_part : MethodName := ⟨RX9, "part", "(II)I"⟩
abbrev cX9_near : ByteArray := prog_11_method_67_code
def yX9_near : MethodName := ⟨RX9, "near", "(I)I"⟩
abbrev cX9_far : ByteArray := prog_11_method_68_code
def yX9_far : MethodName := ⟨RX9, "far", "(II)I"⟩
abbrev cX9_stiff : ByteArray := prog_11_method_69_code
def yX9_stiff : MethodName := ⟨RX9, "stiff", "(II)I"⟩
abbrev cX9_open : ByteArray := prog_11_method_70_code
def yX9_open : MethodName := ⟨RX9, "open", "(I)I"⟩
abbrev cX9_when : ByteArray := prog_11_method_71_code
def yX9_when : MethodName := ⟨RX9, "when", "(I)I"⟩
abbrev cX9_how : ByteArray := prog_11_method_72_code
def yX9_how : MethodName := ⟨RX9, "how", "(I)I"⟩
abbrev cX9_read : ByteArray := prog_11_method_73_code
def yX9_read : MethodName := ⟨RX9, "read", "(I)I"⟩
abbrev cX9_reads : ByteArray := prog_11_method_74_code
def yX9_reads : MethodName := ⟨RX9, "reads", "(I)I"⟩
abbrev cX9_all : ByteArray := prog_11_method_75_code
def yX9_all : MethodName := ⟨RX9, "all", "()I"⟩
abbrev cX9_keeps : ByteArray := prog_11_method_76_code
def yX9_keeps : MethodName := ⟨RX9, "keeps", "(II)I"⟩
abbrev cX9_waits : ByteArray := prog_11_method_77_code
def yX9_waits : MethodName := ⟨RX9, "waits", "(I)I"⟩
abbrev cX9_next : ByteArray := prog_11_method_78_code
def yX9_next : MethodName := ⟨RX9, "next", "(I)I"⟩
abbrev cX9_dull : ByteArray := prog_11_method_79_code
def yX9_dull : MethodName := ⟨RX9, "dull", "(I)I"⟩
abbrev cX9_dies : ByteArray := prog_11_method_80_code
def yX9_dies : MethodName := ⟨RX9, "dies", "(I)I"⟩
abbrev cX9_ages : ByteArray := prog_11_method_81_code
def yX9_ages : MethodName := ⟨RX9, "ages", "(I)I"⟩
abbrev cX9_cut_ : ByteArray := prog_11_method_82_code
def yX9_cut_ : MethodName := ⟨RX9, "cut", "(I)I"⟩
abbrev cX9_sharp : ByteArray := prog_11_method_83_code
def yX9_sharp : MethodName := ⟨RX9, "sharp", "()I"⟩
abbrev cX9_uncut : ByteArray := prog_11_method_84_code
def yX9_uncut : MethodName := ⟨RX9, "uncut", "()I"⟩
abbrev cX9_done : ByteArray := prog_11_method_85_code
def yX9_done : MethodName := ⟨RX9, "done", "()I"⟩
abbrev cX9_freshIn : ByteArray := prog_11_method_86_code
def yX9_freshIn : MethodName := ⟨RX9, "freshIn", "(I)I"⟩
abbrev cX9_rush : ByteArray := prog_11_method_87_code
def yX9_rush : MethodName := ⟨RX9, "rush", "()I"⟩
abbrev cX9_with : ByteArray := prog_11_method_88_code
def yX9_with : MethodName := ⟨RX9, "with", "(I)I"⟩
abbrev cX9_charms : ByteArray := prog_11_method_89_code
def yX9_charms : MethodName := ⟨RX9, "charms", "()I"⟩
abbrev cX9_best : ByteArray := prog_11_method_90_code
def yX9_best : MethodName := ⟨RX9, "best", "(I)I"⟩
abbrev cX9_peak : ByteArray := prog_11_method_91_code
def yX9_peak : MethodName := ⟨RX9, "peak", "()I"⟩
abbrev cX9_first : ByteArray := prog_11_method_92_code
def yX9_first : MethodName := ⟨RX9, "first", "()I"⟩
abbrev cX9_quiet : ByteArray := prog_11_method_93_code
def yX9_quiet : MethodName := ⟨RX9, "quiet", "()I"⟩
abbrev cX9_lone : ByteArray := prog_11_method_94_code
def yX9_lone : MethodName := ⟨RX9, "lone", "(I)I"⟩
abbrev cX9_stalest : ByteArray := prog_11_method_95_code
def yX9_stalest : MethodName := ⟨RX9, "stalest", "(I)I"⟩
abbrev cX9_pieces : ByteArray := prog_11_method_96_code
def yX9_pieces : MethodName := ⟨RX9, "pieces", "()I"⟩
abbrev cX9_lost : ByteArray := prog_11_method_97_code
def yX9_lost : MethodName := ⟨RX9, "lost", "()I"⟩
abbrev cX9_knives : ByteArray := prog_11_method_98_code
def yX9_knives : MethodName := ⟨RX9, "knives", "(I)I"⟩
abbrev cX9_idle : ByteArray := prog_11_method_99_code
def yX9_idle : MethodName := ⟨RX9, "idle", "()I"⟩
abbrev cX9_worthOf : ByteArray := prog_11_method_100_code
def yX9_worthOf : MethodName := ⟨RX9, "worthOf", "(I)I"⟩
abbrev cX9_fewOf : ByteArray := prog_11_method_101_code
def yX9_fewOf : MethodName := ⟨RX9, "fewOf", "()I"⟩
abbrev cX9_few : ByteArray := prog_11_method_102_code
def yX9_few : MethodName := ⟨RX9, "few", "()I"⟩
abbrev cX9_fews : ByteArray := prog_11_method_103_code
def yX9_fews : MethodName := ⟨RX9, "fews", "()I"⟩
abbrev cX9_worth : ByteArray := prog_11_method_104_code
def yX9_worth : MethodName := ⟨RX9, "worth", "(I)I"⟩
abbrev cX9_times : ByteArray := prog_11_method_105_code
def yX9_times : MethodName := ⟨RX9, "times", "(I)I"⟩
abbrev cX9_common : ByteArray := prog_11_method_106_code
def yX9_common : MethodName := ⟨RX9, "common", "(JJ)J"⟩
abbrev cX9_part0 : ByteArray := prog_11_method_107_code
def yX9_part0 : MethodName := ⟨RX9, "part0", "(JJI)J"⟩
abbrev cX9_share : ByteArray := prog_11_method_108_code
def yX9_share : MethodName := ⟨RX9, "share", "(II)I"⟩
abbrev cX9_runsPlan : ByteArray := prog_11_method_109_code
def yX9_runsPlan : MethodName := ⟨RX9, "runsPlan", "(I)V"⟩
abbrev cX9_planFrom : ByteArray := prog_11_method_110_code
def yX9_planFrom : MethodName := ⟨RX9, "planFrom", "(II)V"⟩
abbrev cX9_laysPlan : ByteArray := prog_11_method_111_code
def yX9_laysPlan : MethodName := ⟨RX9, "laysPlan", "(I)V"⟩
abbrev cX9_isPlan : ByteArray := prog_11_method_112_code
def yX9_isPlan : MethodName := ⟨RX9, "isPlan", "(I)Z"⟩
abbrev cX9_plan : ByteArray := prog_11_method_113_code
def yX9_plan : MethodName := ⟨RX9, "plan", "(I)I"⟩
abbrev cX9_planned : ByteArray := prog_11_method_114_code
def yX9_planned : MethodName := ⟨RX9, "planned", "(II)I"⟩
abbrev cX9_plans : ByteArray := prog_11_method_115_code
def yX9_plans : MethodName := ⟨RX9, "plans", "(I)I"⟩
abbrev cX9_whyNot : ByteArray := prog_11_method_116_code
def yX9_whyNot : MethodName := ⟨RX9, "whyNot", "(IZ)I"⟩
abbrev cX9_isSo : ByteArray := prog_11_method_117_code
def yX9_isSo : MethodName := ⟨RX9, "isSo", "(I)Z"⟩
abbrev cX9_laysSeen : ByteArray := prog_11_method_118_code
def yX9_laysSeen : MethodName := ⟨RX9, "laysSeen", "(II)V"⟩
abbrev cX9_stiffs : ByteArray := prog_11_method_119_code
def yX9_stiffs : MethodName := ⟨RX9, "stiffs", "(II)I"⟩
abbrev cX9_low : ByteArray := prog_11_method_120_code
def yX9_low : MethodName := ⟨RX9, "low", "(II)I"⟩
abbrev cX9_high : ByteArray := prog_11_method_121_code
def yX9_high : MethodName := ⟨RX9, "high", "(II)I"⟩
abbrev cX9_ask : ByteArray := prog_11_method_122_code
def yX9_ask : MethodName := ⟨RX9, "ask", "(II)I"⟩
abbrev cX9_leaves : ByteArray := prog_11_method_123_code
def yX9_leaves : MethodName := ⟨RX9, "leaves", "(II)I"⟩
abbrev cX9_allBy : ByteArray := prog_11_method_124_code
def yX9_allBy : MethodName := ⟨RX9, "allBy", "(I)I"⟩
abbrev cX9_laws : ByteArray := prog_11_method_125_code
def yX9_laws : MethodName := ⟨RX9, "laws", "(I)I"⟩
abbrev cX9_by : ByteArray := prog_11_method_126_code
def yX9_by : MethodName := ⟨RX9, "by", "(I)I"⟩
abbrev cX9_law : ByteArray := prog_11_method_127_code
def yX9_law : MethodName := ⟨RX9, "law", "()I"⟩
abbrev cX9_blunt : ByteArray := prog_11_method_128_code
def yX9_blunt : MethodName := ⟨RX9, "blunt", "()I"⟩
abbrev cX9_slit : ByteArray := prog_11_method_129_code
def yX9_slit : MethodName := ⟨RX9, "slit", "()I"⟩
abbrev cX9_laysEar : ByteArray := prog_11_method_130_code
def yX9_laysEar : MethodName := ⟨RX9, "laysEar", "(I)V"⟩
abbrev cX9_laysUncle : ByteArray := prog_11_method_131_code
def yX9_laysUncle : MethodName := ⟨RX9, "laysUncle", "()V"⟩
abbrev cX9_uncle : ByteArray := prog_11_method_132_code
def yX9_uncle : MethodName := ⟨RX9, "uncle", "()I"⟩
abbrev cX9_opens : ByteArray := prog_11_method_133_code
def yX9_opens : MethodName := ⟨RX9, "opens", "()I"⟩
abbrev cX9_replies : ByteArray := prog_11_method_134_code
def yX9_replies : MethodName := ⟨RX9, "replies", "(I)I"⟩
abbrev cX9_getsBy : ByteArray := prog_11_method_135_code
def yX9_getsBy : MethodName := ⟨RX9, "getsBy", "(IIIII)I"⟩
abbrev cX9_rests : ByteArray := prog_11_method_136_code
def yX9_rests : MethodName := ⟨RX9, "rests", "(II)I"⟩
abbrev cX9_gets : ByteArray := prog_11_method_137_code
def yX9_gets : MethodName := ⟨RX9, "gets", "(IIII)I"⟩
abbrev cX9_power : ByteArray := prog_11_method_138_code
def yX9_power : MethodName := ⟨RX9, "power", "(JI)J"⟩
abbrev cX9_weightOf : ByteArray := prog_11_method_139_code
def yX9_weightOf : MethodName := ⟨RX9, "weightOf", "(I)J"⟩
abbrev cX9_chance : ByteArray := prog_11_method_140_code
def yX9_chance : MethodName := ⟨RX9, "chance", "(II)I"⟩
abbrev cX9_mean : ByteArray := prog_11_method_141_code
def yX9_mean : MethodName := ⟨RX9, "mean", "(I)J"⟩
abbrev cX9_draws : ByteArray := prog_11_method_142_code
def yX9_draws : MethodName := ⟨RX9, "draws", "(J)I"⟩
abbrev cX9_isSeed : ByteArray := prog_11_method_143_code
def yX9_isSeed : MethodName := ⟨RX9, "isSeed", "(I)Z"⟩
abbrev cX9_drawn : ByteArray := prog_11_method_144_code
def yX9_drawn : MethodName := ⟨RX9, "drawn", "(II)I"⟩
abbrev cX9_luck : ByteArray := prog_11_method_145_code
def yX9_luck : MethodName := ⟨RX9, "luck", "(III)I"⟩
abbrev cX9_does : ByteArray := prog_11_method_146_code
def yX9_does : MethodName := ⟨RX9, "does", "(III)V"⟩
abbrev cX9_knife : ByteArray := prog_11_method_147_code
def yX9_knife : MethodName := ⟨RX9, "knife", "(II)I"⟩
abbrev cX9_air : ByteArray := prog_11_method_148_code
def yX9_air : MethodName := ⟨RX9, "air", "(II)I"⟩
abbrev cX9_undo : ByteArray := prog_11_method_149_code
def yX9_undo : MethodName := ⟨RX9, "undo", "()I"⟩
abbrev cX9_anew : ByteArray := prog_11_method_150_code
def yX9_anew : MethodName := ⟨RX9, "anew", "()I"⟩
abbrev cX9_rate : ByteArray := prog_11_method_151_code
def yX9_rate : MethodName := ⟨RX9, "rate", "(II)I"⟩
abbrev cX9_count : ByteArray := prog_11_method_152_code
def yX9_count : MethodName := ⟨RX9, "count", "(I)I"⟩
abbrev cX9_image : ByteArray := prog_11_method_153_code
def yX9_image : MethodName := ⟨RX9, "image", "(I)I"⟩
abbrev cX9_back : ByteArray := prog_11_method_154_code
def yX9_back : MethodName := ⟨RX9, "back", "(I)I"⟩
def RJx145de : String := "java/io/Serializable"
def RJx9f9b0 : String := "java/lang/CharSequence"
def RJxb160c : String := "java/lang/Comparable"
def RJ6 : String := "java/lang/Integer"
abbrev cJ6_bitCount_0f7a4 : ByteArray := prog_12_method_49_code
def yJ6_bitCount_0f7a4 : MethodName := ⟨RJ6, "bitCount", "(I)I"⟩
def RJ9 : String := "java/lang/Math"
abbrev cJ9_abs_067f4 : ByteArray := prog_13_method_61_code
def yJ9_abs_067f4 : MethodName := ⟨RJ9, "abs", "(J)J"⟩
abbrev cJ9_max_7cf53 : ByteArray := prog_13_method_65_code
def yJ9_max_7cf53 : MethodName := ⟨RJ9, "max", "(II)I"⟩
abbrev cJ9_max_f86c9 : ByteArray := prog_13_method_66_code
def yJ9_max_f86c9 : MethodName := ⟨RJ9, "max", "(JJ)J"⟩
abbrev cJ9_min_7cf53 : ByteArray := prog_13_method_69_code
def yJ9_min_7cf53 : MethodName := ⟨RJ9, "min", "(II)I"⟩
def RJ0 : String := "java/lang/String"
abbrev cJ0_length_8abf5 : ByteArray := prog_14_method_54_code
def yJ0_length_8abf5 : MethodName := ⟨RJ0, "length", "()I"⟩
abbrev cJ0_charAt_5068e : ByteArray := prog_14_method_56_code
def yJ0_charAt_5068e : MethodName := ⟨RJ0, "charAt", "(I)C"⟩
abbrev cJ0_coder_7d493 : ByteArray := prog_14_method_152_code
def yJ0_coder_7d493 : MethodName := ⟨RJ0, "coder", "()B"⟩
abbrev cJ0_isLatin1_aae02 : ByteArray := prog_14_method_154_code
def yJ0_isLatin1_aae02 : MethodName := ⟨RJ0, "isLatin1", "()Z"⟩
abbrev cJ0_checkIndex_df160 : ByteArray := prog_14_method_155_code
def yJ0_checkIndex_df160 : MethodName := ⟨RJ0, "checkIndex", "(II)V"⟩
def RJ1 : String := "java/lang/StringLatin1"
abbrev cJ1_charAt_3b067 : ByteArray := prog_15_method_2_code
def yJ1_charAt_3b067 : MethodName := ⟨RJ1, "charAt", "([BI)C"⟩
def RJ2 : String := "java/lang/StringUTF16"
abbrev cJ2_getChar_3b067 : ByteArray := prog_16_method_5_code
def yJ2_getChar_3b067 : MethodName := ⟨RJ2, "getChar", "([BI)C"⟩
abbrev cJ2_length_9d52b : ByteArray := prog_16_method_6_code
def yJ2_length_9d52b : MethodName := ⟨RJ2, "length", "([B)I"⟩
abbrev cJ2_charAt_3b067 : ByteArray := prog_16_method_83_code
def yJ2_charAt_3b067 : MethodName := ⟨RJ2, "charAt", "([BI)C"⟩
abbrev cJ2_checkIndex_2214a : ByteArray := prog_16_method_91_code
def yJ2_checkIndex_2214a : MethodName := ⟨RJ2, "checkIndex", "(I[B)V"⟩
def RJ10 : String := "java/lang/System"
def RJxfd54e : String := "java/lang/constant/Constable"
def RJx3cf43 : String := "java/lang/constant/ConstantDesc"
def RJ7 : String := "java/util/Arrays"
abbrev cJ7_rangeCheck_23922 : ByteArray := prog_18_method_30_code
def yJ7_rangeCheck_23922 : MethodName := ⟨RJ7, "rangeCheck", "(III)V"⟩
abbrev cJ7_fill_d0a16 : ByteArray := prog_18_method_101_code
def yJ7_fill_d0a16 : MethodName := ⟨RJ7, "fill", "([JJ)V"⟩
abbrev cJ7_fill_bad5a : ByteArray := prog_18_method_102_code
def yJ7_fill_bad5a : MethodName := ⟨RJ7, "fill", "([JIIJ)V"⟩
abbrev cJ7_fill_53178 : ByteArray := prog_18_method_103_code
def yJ7_fill_53178 : MethodName := ⟨RJ7, "fill", "([II)V"⟩
def RJ3 : String := "jdk/internal/util/Preconditions"
abbrev cJ3_checkIndex_8e157 : ByteArray := prog_19_method_11_code
def yJ3_checkIndex_8e157 : MethodName := ⟨RJ3, "checkIndex", "(IILjava/util/function/BiFunction;)I"⟩
def RL : String := "UncutTaleLaw"
abbrev cL_law : ByteArray := code
def yL_law : MethodName := ⟨RL, "law", "([I)Z"⟩
abbrev vwCl : List vw_C := [(RX0, TX0, 10), (RX1, TX1, 6), (RX2, TX2, 5), (RX3, TX3, 8), (RX4, TX4, 9), (RX5, TX5, 3), (RX6, TX6, 18), (RX7, TX7, 2), (RX8, TX8, 15), (RX9, TX9, 51)]
def NC : Nat := 119
def tbl : List ((Nat × Nat × List Nat) ⊕ (Nat × List Nat)) := [
  .inr (8, [3, 5, 16, 17, 28, 62, 63, 67, 74, 81, 93, 95, 0, 0, 0]),
  .inr (7, [4, 0]),
  .inl (1, 700, []),
  .inr (6, [6, 7, 8, 9, 10, 11, 12, 13, 14, 15, 0, 0, 0, 0, 0, 0, 0, 0]),
  .inl (0, 6, []),
  .inl (0, 6, []),
  .inl (0, 6, []),
  .inl (0, 10, []),
  .inl (0, 10, []),
  .inl (0, 8, []),
  .inl (0, 8, []),
  .inl (0, 20, []),
  .inl (0, 20, []),
  .inl (0, 20, []),
  .inr (3, [3, 5, 0, 0, 0, 0, 0, 0]),
  .inr (6, [18, 19, 20, 21, 22, 23, 24, 25, 26, 27, 0, 0, 0, 0, 0, 0, 0, 0]),
  .inl (0, 6, []),
  .inl (0, 6, []),
  .inl (0, 6, []),
  .inl (0, 10, []),
  .inl (0, 10, []),
  .inl (0, 8, []),
  .inl (0, 8, []),
  .inl (0, 20, []),
  .inl (0, 20, []),
  .inl (0, 20, []),
  .inl (4, 3, [27, 38, 49]),
  .inr (6, [30, 31, 32, 33, 34, 35, 36, 37, 38, 39, 0, 0, 0, 0, 0, 0, 0, 0]),
  .inl (0, 6, []),
  .inl (0, 6, []),
  .inl (0, 6, []),
  .inl (0, 10, []),
  .inl (0, 10, []),
  .inl (0, 8, []),
  .inl (0, 8, []),
  .inl (0, 20, []),
  .inl (0, 20, []),
  .inl (0, 20, []),
  .inr (6, [41, 42, 43, 44, 45, 46, 47, 48, 49, 50, 0, 0, 0, 0, 0, 0, 0, 0]),
  .inl (0, 6, []),
  .inl (0, 6, []),
  .inl (0, 6, []),
  .inl (0, 10, []),
  .inl (0, 10, []),
  .inl (0, 8, []),
  .inl (0, 8, []),
  .inl (0, 20, []),
  .inl (0, 20, []),
  .inl (0, 20, []),
  .inr (6, [52, 53, 54, 55, 56, 57, 58, 59, 60, 61, 0, 0, 0, 0, 0, 0, 0, 0]),
  .inl (0, 6, []),
  .inl (0, 6, []),
  .inl (0, 6, []),
  .inl (0, 10, []),
  .inl (0, 10, []),
  .inl (0, 8, []),
  .inl (0, 8, []),
  .inl (0, 20, []),
  .inl (0, 20, []),
  .inl (0, 20, []),
  .inl (2, 3, []),
  .inr (5, [64, 65, 66]),
  .inl (0, 4, []),
  .inl (0, 4, []),
  .inl (3, 240, []),
  .inr (0, [17, 68, 69, 70, 71, 72, 73, 0, 0, 0]),
  .inl (0, 6, []),
  .inl (0, 72, []),
  .inl (0, 12, []),
  .inl (0, 13, []),
  .inl (0, 6, []),
  .inl (0, 13, []),
  .inr (0, [17, 75, 76, 77, 78, 79, 80, 0, 0, 0]),
  .inl (0, 6, []),
  .inl (0, 72, []),
  .inl (0, 12, []),
  .inl (0, 13, []),
  .inl (0, 6, []),
  .inl (0, 13, []),
  .inr (4, [17, 74, 82, 89, 90, 91, 92, 0, 0]),
  .inl (5, 6, [81, 82, 83, 84, 85, 86]),
  .inl (0, 6, []),
  .inl (0, 6, []),
  .inl (0, 6, []),
  .inl (0, 6, []),
  .inl (0, 6, []),
  .inl (0, 6, []),
  .inl (0, 6, []),
  .inl (0, 6, []),
  .inl (0, 5, []),
  .inl (0, 5, []),
  .inr (2, [17, 74, 94, 1, 1]),
  .inl (3, 6, []),
  .inr (1, [17, 63, 96, 97, 0, 0]),
  .inl (2, 61, []),
  .inl (0, 1300, []),
  .inr (9, [0, 99, 100, 101, 102, 103, 0, 0, 0, 0, 0, 1, 0, 0, 0, 0, 104, 105, 106, 107, 108, 109, 110, 0, 0, 0, 0, 0, 111, 112, 113, 114, 115, 116, 117, 0, 0, 0, 0, 118, 119, 0, 0, 0, 0, 0, 120, 0, 0, 0, 0]),
  .inl (0, 4, []),
  .inl (0, 4, []),
  .inl (3, 240, []),
  .inl (3, 60, []),
  .inl (1, 700, []),
  .inl (0, 5, []),
  .inl (0, 35, []),
  .inl (0, 90, []),
  .inl (0, 100, []),
  .inl (0, 80, []),
  .inl (0, 300, []),
  .inl (2, 3, []),
  .inl (0, 6, []),
  .inl (0, 12, []),
  .inl (0, 78, []),
  .inl (0, 13, []),
  .inl (0, 6, []),
  .inl (0, 6, []),
  .inl (0, 6, []),
  .inl (0, 5, []),
  .inl (0, 5, []),
  .inl (0, 1300, [])]
end
section
/-! the good words of the tables, one list for all methods -/
def GW : List Cond := lw_tbl.filter goodWord
theorem gm {w : Cond} (k : Nat) (h : lw_tbl[k]? = some w) (hg : goodWord w = true) : w ∈ GW := List.mem_filter.mpr ⟨List.mem_of_getElem? h, hg⟩
theorem GW_good : ∀ w ∈ GW, (w.onTables && w.keeps) = true ∨ ∃ ty, w = .arrayClass ty := fun _ h => good_of_word (List.mem_filter.mp h).2
theorem GW_tbl : ∀ w ∈ GW, w ∈ lw_tbl := fun _ h => (List.mem_filter.mp h).1
abbrev uw (y : MethodName) (cc : ByteArray) (n : Nat) (r : Option FieldType) : List Cond := Cond.code y cc n r :: GW
theorem uw_in {y : MethodName} {cc : ByteArray} {n : Nat} {r : Option FieldType} (hc : Cond.code y cc n r ∈ GW) : GoodIn GW (uw y cc n r) := fun w h => by
  rcases List.mem_cons.mp h with h | h
  · rw [h]; exact ⟨hc, GW_good _ hc⟩
  · exact ⟨h, GW_good _ h⟩
/-! an int between two numbers -/
def rg (lo hi : Int) (x : Int32) : Prop := lo ≤ x.toInt ∧ x.toInt ≤ hi
/-! the cells: .inl (kind, length, cells of an array of references), .inr (class, its fields: 0 int, 1 long, n + 2 the cell n) -/
abbrev tC : Type := (Nat × Nat × List Nat) ⊕ (Nat × List Nat)
def tb (j : Nat) : tC := tbl.getD j (.inl (0, 0, []))
def fV (h : Nat → Nat) (f : Nat → Int32) (g : Nat → Int64) (k d : Nat) : Value := match d with
  | 0 => .int (f k)
  | 1 => .long (g k)
  | d + 2 => .ref (h d)
def fL (h : Nat → Nat) (f : Nat → Int32) (g : Nat → Int64) : Nat → List Nat → List Value
  | _, [] => []
  | k, d :: ds => fV h f g k d :: fL h f g (k + 1) ds
def cE (h : Nat → Nat) (cz : Nat → ClassId) (t : tC) (f : Nat → Int32) (g : Nat → Int64) : va_E := match t with
  | .inl (0, n, _) => .inl (cz 0, n, .inl f)
  | .inl (1, n, _) => .inl (cz 1, n, .inl f)
  | .inl (2, n, _) => .inl (cz 2, n, .inl f)
  | .inl (3, n, _) => .inl (cz 3, n, .inr (.inl g))
  | .inl (k + 4, n, rs) => .inl (cz (k + 4), n, .inr (.inr (.inr (.inr (fun q => if q < rs.length then some (h (rs.getD q 0)) else none)))))
  | .inr (ci, ds) => .inr (ci, fL h f g 0 ds)
def wH (h : Nat → Nat) (cz : Nat → ClassId) (i : Nat → Nat → Int32) (g : Nat → Nat → Int64) : va_W := (List.range NC).map (fun j => (h j, cE h cz (tb j) (i j) (g j)))
def DJ (h : Nat → Nat) : Prop := ∀ j k : Nat, j < NC → k < NC → h j = h k → j = k
def hA (h : Nat → Nat) : Nat → Prop := fun q => ∃ j : Nat, j < NC ∧ h j = q
def TH (D : va_G) (h : Nat → Nat) (cz : Nat → ClassId) (i : Nat → Nat → Int32) (g : Nat → Nat → Int64) (H : Heap) : Prop := va_P D vwCl (wH h cz i g) H ∧ DJ h
def tyL (cz : Nat → ClassId) : List (ClassId × FieldType) := [(cz 0, .int), (cz 1, .byte), (cz 2, .boolean), (cz 3, .long), (cz 4, .object "UncutTale$Story"), (cz 5, .array .int)]
def up2 (i : Nat → Nat → Int32) (j k : Nat) (v : Int32) : Nat → Nat → Int32 := fun q => if q = j then upd (i j) k v else i q
def up3 (g : Nat → Nat → Int64) (j k : Nat) (v : Int64) : Nat → Nat → Int64 := fun q => if q = j then vp_updL (g j) k v else g q
theorem up2_at (i : Nat → Nat → Int32) (j k : Nat) (v : Int32) : up2 i j k v j k = v := by simp [up2, upd]
theorem up2_j {i : Nat → Nat → Int32} {j k : Nat} {v : Int32} {q : Nat} (hq : q ≠ j) : up2 i j k v q = i q := by simp [up2, hq]
theorem up2_k {i : Nat → Nat → Int32} {j k : Nat} {v : Int32} {q r : Nat} (hr : r ≠ k) : up2 i j k v q r = i q r := by
  by_cases hq : q = j
  · subst hq; simp [up2, upd, hr]
  · simp [up2, hq]
theorem up2_s (i : Nat → Nat → Int32) (j k : Nat) (v : Int32) : up2 i j k v j = upd (i j) k v := by simp [up2]
theorem up3_j {g : Nat → Nat → Int64} {j k : Nat} {v : Int64} {q : Nat} (hq : q ≠ j) : up3 g j k v q = g q := by simp [up3, hq]
theorem up3_s (g : Nat → Nat → Int64) (j k : Nat) (v : Int64) : up3 g j k v j = vp_updL (g j) k v := by simp [up3]
theorem wH_get (h : Nat → Nat) (cz : Nat → ClassId) (i : Nat → Nat → Int32) (g : Nat → Nat → Int64) {j : Nat} (hj : j < NC) : (wH h cz i g)[j]? = some (h j, cE h cz (tb j) (i j) (g j)) := by
  simp [wH, hj]
theorem wH_len (h : Nat → Nat) (cz : Nat → ClassId) (i : Nat → Nat → Int32) (g : Nat → Nat → Int64) : (wH h cz i g).length = NC := by simp [wH]
theorem wH_some {h : Nat → Nat} {cz : Nat → ClassId} {i : Nat → Nat → Int32} {g : Nat → Nat → Int64} {j : Nat} {q : Nat × va_E} (hq : (wH h cz i g)[j]? = some q) : j < NC ∧ q = (h j, cE h cz (tb j) (i j) (g j)) := by
  have hl := (List.getElem?_eq_some_iff.mp hq).1
  rw [wH_len] at hl
  exact ⟨hl, (Option.some.inj ((wH_get h cz i g hl).symm.trans hq)).symm⟩
theorem wH_D {h : Nat → Nat} (hd : DJ h) (cz : Nat → ClassId) (i : Nat → Nat → Int32) (g : Nat → Nat → Int64) : va_D (hA h) (wH h cz i g) := by
  refine ⟨fun a b p q hp hq e => ?_, fun k q hq => ?_⟩
  · obtain ⟨l1, e1⟩ := wH_some hp
    obtain ⟨l2, e2⟩ := wH_some hq
    rw [e1, e2] at e
    exact hd a b l1 l2 e
  · obtain ⟨l1, e1⟩ := wH_some hq
    rw [e1]
    exact ⟨k, l1, rfl⟩
theorem wH_set {h : Nat → Nat} {cz : Nat → ClassId} {i i' : Nat → Nat → Int32} {g g' : Nat → Nat → Int64} {j : Nat} (hi : ∀ q, q ≠ j → i' q = i q) (hg : ∀ q, q ≠ j → g' q = g q) : (wH h cz i g).set j (h j, cE h cz (tb j) (i' j) (g' j)) = wH h cz i' g' := by
  apply List.ext_getElem?
  intro q
  by_cases hq : q = j
  · subst hq
    by_cases hl : q < NC
    · rw [List.getElem?_set_self (by rw [wH_len]; exact hl), wH_get _ _ _ _ hl]
    · rw [List.getElem?_eq_none (by rw [List.length_set, wH_len]; omega), List.getElem?_eq_none (by rw [wH_len]; omega)]
  · rw [List.getElem?_set_ne (Ne.symm hq)]
    by_cases hl : q < NC
    · rw [wH_get _ _ _ _ hl, wH_get _ _ _ _ hl, hi q hq, hg q hq]
    · rw [List.getElem?_eq_none (by rw [wH_len]; omega), List.getElem?_eq_none (by rw [wH_len]; omega)]
theorem fL_get (h : Nat → Nat) (f : Nat → Int32) (g : Nat → Int64) : ∀ (ds : List Nat) (b k : Nat), (fL h f g b ds)[k]? = (ds[k]?).map (fV h f g (b + k))
  | [], b, k => by simp [fL]
  | d :: ds, b, 0 => by simp [fL]
  | d :: ds, b, k + 1 => by
    have e := fL_get h f g ds (b + 1) k
    simp only [fL, List.getElem?_cons_succ, e]
    rw [show b + 1 + k = b + (k + 1) by omega]
theorem fL_at {h : Nat → Nat} {f : Nat → Int32} {g : Nat → Int64} {ds : List Nat} {k d : Nat} (hd : ds[k]? = some d) : (fL h f g 0 ds)[k]? = some (fV h f g k d) := by
  rw [fL_get, hd]; simp
theorem fL_len (h : Nat → Nat) (f : Nat → Int32) (g : Nat → Int64) : ∀ (ds : List Nat) (b : Nat), (fL h f g b ds).length = ds.length
  | [], b => rfl
  | d :: ds, b => by simp [fL, fL_len h f g ds (b + 1)]
theorem fL_set {h : Nat → Nat} {f f' : Nat → Int32} {g g' : Nat → Int64} {ds : List Nat} {k d : Nat} (hd : ds[k]? = some d) (hf : ∀ q, q ≠ k → f' q = f q) (hg : ∀ q, q ≠ k → g' q = g q) : (fL h f g 0 ds).set k (fV h f' g' k d) = fL h f' g' 0 ds := by
  apply List.ext_getElem?
  intro q
  have hl : k < ds.length := (List.getElem?_eq_some_iff.mp hd).1
  by_cases hq : q = k
  · subst hq
    rw [List.getElem?_set_self (by rw [fL_len]; exact hl), fL_at hd]
  · rw [List.getElem?_set_ne (Ne.symm hq), fL_get, fL_get]
    have e : fV h f g (0 + q) = fV h f' g' (0 + q) := by
      funext d
      rw [Nat.zero_add]
      match d with
      | 0 => simp [fV, hf q hq]
      | 1 => simp [fV, hg q hq]
      | d + 2 => simp [fV]
    rw [e]
/-! what a method stands in: the machine, its code, its class, the good words, the classes and array classes -/
def Cxt (p : Program) (s : State) (m : MethodId) (c : Code) (args : Array Value) (cc : ByteArray) (nL : Nat) (own : String) (D : va_G) (cz : Nat → ClassId) : Prop :=
  p.tables.exec = Jvm.exec ∧ c.code = cc ∧ c.maxLocals = nL ∧ s.vm.findClass own = some m.cls ∧ (∀ w ∈ GW, w.before args s = true) ∧ va_K D vwCl (tyL cz) s
/-- a field's link: own class, index, the class's number, the field's -/
def FK (own : String) (index ci k : Nat) : Prop := ∃ (C : String) (T : u_T) (N : Nat), vwCl[ci]? = some (C, T, N) ∧ k < N ∧ (∀ w ∈ u_ws C T N, w ∈ GW) ∧ Cond.fieldLink own index (T k).1 (T k).2.1 (T k).2.2.1 ∈ GW
def PK (own : String) (index ci k : Nat) (ty : FieldType) : Prop := ∃ (C : String) (T : u_T) (N : Nat) (t0 : Nat → FieldType), vwCl[ci]? = some (C, T, N) ∧ k < N ∧ (∀ w ∈ u_ws C T N, w ∈ GW) ∧ Cond.fieldLink own index (T k).1 (T k).2.1 (T k).2.2.1 ∈ GW ∧ (∀ k, k < N → parseFieldDescriptor (T k).2.2.1 = some (t0 k)) ∧ (∀ a, a < N → ∀ b, b < N → a ≠ b → (T a).2.1 ≠ (T b).2.1) ∧ (T k).2.2.2 = false ∧ parseFieldDescriptor (T k).2.2.1 = some ty
/-- a method's words -/
def MK (y : MethodName) (cc : ByteArray) (n : Nat) (r : Option FieldType) : Prop := Cond.code y cc n r ∈ GW ∧ Cond.instanceMethod y ∈ GW ∧ Cond.selects y.cls y y ∈ GW ∧ Cond.initialized y.cls ∈ GW
def SK (y : MethodName) (cc : ByteArray) (n : Nat) (r : Option FieldType) : Prop := Cond.code y cc n r ∈ GW ∧ Cond.static y ∈ GW ∧ Cond.initialized y.cls ∈ GW
abbrev St2 : Type := (Nat → Nat → Int32) × (Nat → Nat → Int64)
def wB (D : va_G) (h : Nat → Nat) (cz : Nat → ClassId) (u : St2) (U : State) : Prop := TH D h cz u.1 u.2 U.heap ∧ va_K D vwCl (tyL cz) U
def wP (D : va_G) (h : Nat → Nat) (cz : Nat → ClassId) (i : Nat → Nat → Int32) (g : Nat → Nat → Int64) (av : List Value) : Array Value → State → Prop := va_Pc av (fun U => TH D h cz i g U.heap ∧ va_K D vwCl (tyL cz) U)
abbrev CtI (l : Launch) (y : MethodName) (cc : ByteArray) (n : Nat) (r : Option FieldType) (rm : Room) (D : va_G) (h : Nat → Nat) (cz : Nat → ClassId) (i : Nat → Nat → Int32) (g : Nat → Nat → Int64) (av : List Value) (post : Int32 → St2 → Prop) : Prop := Met l y (uw y cc n r) rm (wP D h cz i g av) (va_Qi post (wB D h cz) (hA h)) 0 0 (hA h)
abbrev CtL (l : Launch) (y : MethodName) (cc : ByteArray) (n : Nat) (r : Option FieldType) (rm : Room) (D : va_G) (h : Nat → Nat) (cz : Nat → ClassId) (i : Nat → Nat → Int32) (g : Nat → Nat → Int64) (av : List Value) (post : Int64 → St2 → Prop) : Prop := Met l y (uw y cc n r) rm (wP D h cz i g av) (va_Ql post (wB D h cz) (hA h)) 0 0 (hA h)
abbrev CtV (l : Launch) (y : MethodName) (cc : ByteArray) (n : Nat) (r : Option FieldType) (rm : Room) (D : va_G) (h : Nat → Nat) (cz : Nat → ClassId) (i : Nat → Nat → Int32) (g : Nat → Nat → Int64) (av : List Value) (post : St2 → Prop) : Prop := Met l y (uw y cc n r) rm (wP D h cz i g av) (va_Qv post (wB D h cz) (hA h)) 0 0 (hA h)
theorem wP_blind (D : va_G) (h : Nat → Nat) (cz : Nat → ClassId) (i : Nat → Nat → Int32) (g : Nat → Nat → Int64) (av : List Value) : FrameBlind (wP D h cz i g av) := by
  intro a U fr mk q
  obtain ⟨q0, q1, q2⟩ := q
  exact ⟨q0, q1, va_K.moved (u := U) (U := U.calling fr mk a) (Vm.Alike.refl U.vm) q2⟩
section RowsA
variable {p : Program} {l : Launch} {e : Env} {R : Room} {s : State} {m : MethodId} {args : Array Value} {below : List Frame} {meth : Method} {c : Code} {H H0 : Heap} {locs : List Loc} {cells slots : Nat} {Q : State → Prop} {cc : ByteArray} {nL : Nat} {own : String} {D : va_G} {cz : Nat → ClassId} {h : Nat → Nat} {i : Nat → Nat → Int32} {g : Nat → Nat → Int64} {pc : Nat} {ls : Array Slot} {rest : List Value}
theorem r_geti (X : Cxt p s m c args cc nL own D cz) (hT : TH D h cz i g H) (j k : Nat) {index ci : Nat} (F : FK own index ci k) {ds : List Nat} (ht : tb j = .inr (ci, ds)) (hd : ds[k]? = some 0) (hj : j < NC) (hdg : decode cc pc = .ok (.getfield index, 3))
    (kk : W p l e R s m args below meth c H locs cells slots Q (F0 m (pc + 3) ls (.int (i j k) :: rest))) : W p l e R s m args below meth c H locs cells slots Q (F0 m pc ls (.ref (h j) :: rest)) := by
  obtain ⟨hx, hb, -, hown, hts, hK⟩ := X
  obtain ⟨C, T, N, hc, hk, hw, hl⟩ := F
  exact va_get (D := D) (ci := ci) (v := .int (i j k)) (C := C) (T := T) (N := N) hx hb hts hw hown hK hT.1 j (by rw [wH_get _ _ _ _ hj, ht]; rfl) hc k hk (hts _ hl) (fun _ q => q) (fL_at hd) hdg kk
theorem r_getl (X : Cxt p s m c args cc nL own D cz) (hT : TH D h cz i g H) (j k : Nat) {index ci : Nat} (F : FK own index ci k) {ds : List Nat} (ht : tb j = .inr (ci, ds)) (hd : ds[k]? = some 1) (hj : j < NC) (hdg : decode cc pc = .ok (.getfield index, 3))
    (kk : W p l e R s m args below meth c H locs cells slots Q (F0 m (pc + 3) ls (.long (g j k) :: rest))) : W p l e R s m args below meth c H locs cells slots Q (F0 m pc ls (.ref (h j) :: rest)) := by
  obtain ⟨hx, hb, -, hown, hts, hK⟩ := X
  obtain ⟨C, T, N, hc, hk, hw, hl⟩ := F
  exact va_get (D := D) (ci := ci) (v := .long (g j k)) (C := C) (T := T) (N := N) hx hb hts hw hown hK hT.1 j (by rw [wH_get _ _ _ _ hj, ht]; rfl) hc k hk (hts _ hl) (fun _ q => q) (fL_at hd) hdg kk
theorem r_getr (X : Cxt p s m c args cc nL own D cz) (hT : TH D h cz i g H) (j k o : Nat) {index ci : Nat} (F : FK own index ci k) {ds : List Nat} (ht : tb j = .inr (ci, ds)) (hd : ds[k]? = some (o + 2)) (hj : j < NC) (hdg : decode cc pc = .ok (.getfield index, 3))
    (kk : W p l e R s m args below meth c H locs cells slots Q (F0 m (pc + 3) ls (.ref (h o) :: rest))) : W p l e R s m args below meth c H locs cells slots Q (F0 m pc ls (.ref (h j) :: rest)) := by
  obtain ⟨hx, hb, -, hown, hts, hK⟩ := X
  obtain ⟨C, T, N, hc, hk, hw, hl⟩ := F
  exact va_get (D := D) (ci := ci) (v := .ref (h o)) (C := C) (T := T) (N := N) hx hb hts hw hown hK hT.1 j (by rw [wH_get _ _ _ _ hj, ht]; rfl) hc k hk (hts _ hl) (fun _ q => q) (fL_at hd) hdg kk
theorem r_puti (X : Cxt p s m c args cc nL own D cz) (hT : TH D h cz i g H) (hS : va_S (hA h) H0 H locs) (j k : Nat) {index ci : Nat} {ty : FieldType} (F : PK own index ci k ty) {v : Int32} (hn : narrow ty (.int v) = .int v) (hfit : fits ty (.int v) = true) {ds : List Nat} (ht : tb j = .inr (ci, ds)) (hd : ds[k]? = some 0) (hj : j < NC) (hdg : decode cc pc = .ok (.putfield index, 3))
    (kk : ∀ (H1 : Heap) (locs1 : List Loc) (i1 : Nat → Nat → Int32), i1 = up2 i j k v → TH D h cz i1 g H1 → va_S (hA h) H0 H1 locs1 → W p l e R s m args below meth c H1 locs1 cells slots Q (F0 m (pc + 3) ls rest)) : W p l e R s m args below meth c H locs cells slots Q (F0 m pc ls (.int v :: .ref (h j) :: rest)) := by
  obtain ⟨hx, hb, -, hown, hts, hK⟩ := X
  obtain ⟨C, T, N, t0, hc, hk, hw, hl, hty, hnm, hfin, hpd⟩ := F
  have hlen : k < (fL h (i j) (g j) 0 ds).length := by rw [fL_len]; exact (List.getElem?_eq_some_iff.mp hd).1
  refine va_put (D := D) (ci := ci) (v := .int v) (C := C) (T := T) (N := N) hx hb hts hw t0 hty hnm hown hK hT.1 (wH_D hT.2 cz i g) hS j (by rw [wH_get _ _ _ _ hj, ht]; rfl) hc k hk (hts _ hl) (fun _ q => q) hfin hpd hn hfit hlen hdg (fun H1 locs1 hP _ hS1 => kk H1 locs1 _ rfl ⟨?_, hT.2⟩ hS1)
  have e : (wH h cz i g).set j (h j, .inr (ci, (fL h (i j) (g j) 0 ds).set k (.int v))) = wH h cz (up2 i j k v) g := by
    rw [← wH_set (i := i) (g := g) (j := j) (fun q hq => up2_j hq) (fun _ _ => rfl), ht]
    congr 2
    show (.inr _ : va_E) = .inr _
    congr 2
    rw [← fL_set (f := i j) (g := g j) hd (f' := up2 i j k v j) (g' := g j) (fun q hq => by rw [up2_k hq]) (fun _ _ => rfl)]
    simp [fV, up2_at]
  rw [e] at hP
  exact hP
theorem r_putl (X : Cxt p s m c args cc nL own D cz) (hT : TH D h cz i g H) (hS : va_S (hA h) H0 H locs) (j k : Nat) {index ci : Nat} (F : PK own index ci k .long) {v : Int64} {ds : List Nat} (ht : tb j = .inr (ci, ds)) (hd : ds[k]? = some 1) (hj : j < NC) (hdg : decode cc pc = .ok (.putfield index, 3))
    (kk : ∀ (H1 : Heap) (locs1 : List Loc) (g1 : Nat → Nat → Int64), g1 = up3 g j k v → TH D h cz i g1 H1 → va_S (hA h) H0 H1 locs1 → W p l e R s m args below meth c H1 locs1 cells slots Q (F0 m (pc + 3) ls rest)) : W p l e R s m args below meth c H locs cells slots Q (F0 m pc ls (.long v :: .ref (h j) :: rest)) := by
  obtain ⟨hx, hb, -, hown, hts, hK⟩ := X
  obtain ⟨C, T, N, t0, hc, hk, hw, hl, hty, hnm, hfin, hpd⟩ := F
  have hlen : k < (fL h (i j) (g j) 0 ds).length := by rw [fL_len]; exact (List.getElem?_eq_some_iff.mp hd).1
  refine va_put (D := D) (ci := ci) (v := .long v) (C := C) (T := T) (N := N) hx hb hts hw t0 hty hnm hown hK hT.1 (wH_D hT.2 cz i g) hS j (by rw [wH_get _ _ _ _ hj, ht]; rfl) hc k hk (hts _ hl) (fun _ q => q) hfin hpd rfl rfl hlen hdg (fun H1 locs1 hP _ hS1 => kk H1 locs1 _ rfl ⟨?_, hT.2⟩ hS1)
  have e : (wH h cz i g).set j (h j, .inr (ci, (fL h (i j) (g j) 0 ds).set k (.long v))) = wH h cz i (up3 g j k v) := by
    rw [← wH_set (i := i) (g := g) (j := j) (fun _ _ => rfl) (fun q hq => up3_j hq), ht]
    congr 2
    show (.inr _ : va_E) = .inr _
    congr 2
    rw [← fL_set (f := i j) (g := g j) hd (f' := i j) (g' := up3 g j k v j) (fun _ _ => rfl) (fun q hq => by rw [up3_s]; simp [vp_updL, hq])]
    simp [fV, up3_s, vp_updL]
  rw [e] at hP
  exact hP
theorem r_iald (X : Cxt p s m c args cc nL own D cz) (hT : TH D h cz i g H) (j : Nat) {n : Nat} {rs : List Nat} (ht : tb j = .inl (0, n, rs)) (hj : j < NC) {x : Int32} (hin : vp_in x n) (hdg : decode cc pc = .ok (.iaload, 1))
    (kk : W p l e R s m args below meth c H locs cells slots Q (F0 m (pc + 1) ls (.int (i j x.toNatClampNeg) :: rest))) : W p l e R s m args below meth c H locs cells slots Q (F0 m pc ls (.int x :: .ref (h j) :: rest)) :=
  va_iald X.1 X.2.1 X.2.2.2.2.2 hT.1 j 0 (cA := cz 0) (n := n) (f := i j) (by rw [wH_get _ _ _ _ hj, ht]; rfl) rfl hin hdg kk
theorem r_bald (X : Cxt p s m c args cc nL own D cz) (hT : TH D h cz i g H) (j : Nat) {n : Nat} {rs : List Nat} (ht : tb j = .inl (1, n, rs)) (hj : j < NC) {x : Int32} (hin : vp_in x n) (hdg : decode cc pc = .ok (.baload, 1))
    (kk : W p l e R s m args below meth c H locs cells slots Q (F0 m (pc + 1) ls (.int (i j x.toNatClampNeg) :: rest))) : W p l e R s m args below meth c H locs cells slots Q (F0 m pc ls (.int x :: .ref (h j) :: rest)) :=
  va_bald X.1 X.2.1 X.2.2.2.2.2 hT.1 j 1 (cA := cz 1) (n := n) (f := i j) (by rw [wH_get _ _ _ _ hj, ht]; rfl) rfl hin hdg kk
theorem r_zald (X : Cxt p s m c args cc nL own D cz) (hT : TH D h cz i g H) (j : Nat) {n : Nat} {rs : List Nat} (ht : tb j = .inl (2, n, rs)) (hj : j < NC) {x : Int32} (hin : vp_in x n) (hdg : decode cc pc = .ok (.baload, 1))
    (kk : W p l e R s m args below meth c H locs cells slots Q (F0 m (pc + 1) ls (.int (i j x.toNatClampNeg) :: rest))) : W p l e R s m args below meth c H locs cells slots Q (F0 m pc ls (.int x :: .ref (h j) :: rest)) :=
  va_zald X.1 X.2.1 X.2.2.2.2.2 hT.1 j 2 (cA := cz 2) (n := n) (f := i j) (by rw [wH_get _ _ _ _ hj, ht]; rfl) rfl hin hdg kk
theorem r_lald (X : Cxt p s m c args cc nL own D cz) (hT : TH D h cz i g H) (j : Nat) {n : Nat} {rs : List Nat} (ht : tb j = .inl (3, n, rs)) (hj : j < NC) {x : Int32} (hin : vp_in x n) (hdg : decode cc pc = .ok (.laload, 1))
    (kk : W p l e R s m args below meth c H locs cells slots Q (F0 m (pc + 1) ls (.long (g j x.toNatClampNeg) :: rest))) : W p l e R s m args below meth c H locs cells slots Q (F0 m pc ls (.int x :: .ref (h j) :: rest)) :=
  va_lald X.1 X.2.1 X.2.2.2.2.2 hT.1 j 3 (cA := cz 3) (n := n) (f := g j) (by rw [wH_get _ _ _ _ hj, ht]; rfl) rfl hin hdg kk
theorem wH_row {j : Nat} {v : Int32} {k n kd : Nat} {rs : List Nat} (ht : tb j = .inl (kd, n, rs)) (hkd : kd < 3) : (wH h cz i g).set j (h j, .inl (cz kd, n, .inl (upd (i j) k v))) = wH h cz (up2 i j k v) g := by
  rw [← wH_set (i := i) (g := g) (j := j) (fun q hq => up2_j hq) (fun _ _ => rfl), ht, up2_s]
  match kd, hkd with
  | 0, _ => rfl
  | 1, _ => rfl
  | 2, _ => rfl
theorem r_iast (X : Cxt p s m c args cc nL own D cz) (hT : TH D h cz i g H) (hS : va_S (hA h) H0 H locs) (j : Nat) {n : Nat} {rs : List Nat} (ht : tb j = .inl (0, n, rs)) (hj : j < NC) {x v : Int32} (hin : vp_in x n) (hdg : decode cc pc = .ok (.iastore, 1))
    (kk : ∀ (H1 : Heap) (locs1 : List Loc) (i1 : Nat → Nat → Int32), i1 = up2 i j x.toNatClampNeg v → TH D h cz i1 g H1 → va_S (hA h) H0 H1 locs1 → W p l e R s m args below meth c H1 locs1 cells slots Q (F0 m (pc + 1) ls rest)) : W p l e R s m args below meth c H locs cells slots Q (F0 m pc ls (.int v :: .int x :: .ref (h j) :: rest)) :=
  va_iast X.1 X.2.1 X.2.2.2.2.2 hT.1 (wH_D hT.2 cz i g) hS j 0 (cA := cz 0) (n := n) (f := i j) (by rw [wH_get _ _ _ _ hj, ht]; rfl) rfl hin hdg (fun H1 locs1 hP _ hS1 => kk H1 locs1 _ rfl ⟨by rw [wH_row ht (by decide)] at hP; exact hP, hT.2⟩ hS1)
theorem r_bast (X : Cxt p s m c args cc nL own D cz) (hT : TH D h cz i g H) (hS : va_S (hA h) H0 H locs) (j : Nat) {n : Nat} {rs : List Nat} (ht : tb j = .inl (1, n, rs)) (hj : j < NC) {x v : Int32} (hin : vp_in x n) (hdg : decode cc pc = .ok (.bastore, 1))
    (kk : ∀ (H1 : Heap) (locs1 : List Loc) (i1 : Nat → Nat → Int32), i1 = up2 i j x.toNatClampNeg (vp_nar .byte v) → TH D h cz i1 g H1 → va_S (hA h) H0 H1 locs1 → W p l e R s m args below meth c H1 locs1 cells slots Q (F0 m (pc + 1) ls rest)) : W p l e R s m args below meth c H locs cells slots Q (F0 m pc ls (.int v :: .int x :: .ref (h j) :: rest)) :=
  va_bast X.1 X.2.1 X.2.2.2.2.2 hT.1 (wH_D hT.2 cz i g) hS j 1 (cA := cz 1) (n := n) (f := i j) (by rw [wH_get _ _ _ _ hj, ht]; rfl) rfl hin hdg (fun H1 locs1 hP _ hS1 => kk H1 locs1 _ rfl ⟨by rw [wH_row ht (by decide)] at hP; exact hP, hT.2⟩ hS1)
theorem r_zast (X : Cxt p s m c args cc nL own D cz) (hT : TH D h cz i g H) (hS : va_S (hA h) H0 H locs) (j : Nat) {n : Nat} {rs : List Nat} (ht : tb j = .inl (2, n, rs)) (hj : j < NC) {x v : Int32} (hin : vp_in x n) (hdg : decode cc pc = .ok (.bastore, 1))
    (kk : ∀ (H1 : Heap) (locs1 : List Loc) (i1 : Nat → Nat → Int32), i1 = up2 i j x.toNatClampNeg (vp_nar .boolean v) → TH D h cz i1 g H1 → va_S (hA h) H0 H1 locs1 → W p l e R s m args below meth c H1 locs1 cells slots Q (F0 m (pc + 1) ls rest)) : W p l e R s m args below meth c H locs cells slots Q (F0 m pc ls (.int v :: .int x :: .ref (h j) :: rest)) :=
  va_zast X.1 X.2.1 X.2.2.2.2.2 hT.1 (wH_D hT.2 cz i g) hS j 2 (cA := cz 2) (n := n) (f := i j) (by rw [wH_get _ _ _ _ hj, ht]; rfl) rfl hin hdg (fun H1 locs1 hP _ hS1 => kk H1 locs1 _ rfl ⟨by rw [wH_row ht (by decide)] at hP; exact hP, hT.2⟩ hS1)
theorem r_last (X : Cxt p s m c args cc nL own D cz) (hT : TH D h cz i g H) (hS : va_S (hA h) H0 H locs) (j : Nat) {n : Nat} {rs : List Nat} (ht : tb j = .inl (3, n, rs)) (hj : j < NC) {x : Int32} {v : Int64} (hin : vp_in x n) (hdg : decode cc pc = .ok (.lastore, 1))
    (kk : ∀ (H1 : Heap) (locs1 : List Loc) (g1 : Nat → Nat → Int64), g1 = up3 g j x.toNatClampNeg v → TH D h cz i g1 H1 → va_S (hA h) H0 H1 locs1 → W p l e R s m args below meth c H1 locs1 cells slots Q (F0 m (pc + 1) ls rest)) : W p l e R s m args below meth c H locs cells slots Q (F0 m pc ls (.long v :: .int x :: .ref (h j) :: rest)) :=
  va_last X.1 X.2.1 X.2.2.2.2.2 hT.1 (wH_D hT.2 cz i g) hS j 3 (cA := cz 3) (n := n) (f := g j) (by rw [wH_get _ _ _ _ hj, ht]; rfl) rfl hin hdg (fun H1 locs1 hP _ hS1 => kk H1 locs1 _ rfl ⟨by
    have e : (wH h cz i g).set j (h j, .inl (cz 3, n, .inr (.inl (vp_updL (g j) x.toNatClampNeg v)))) = wH h cz i (up3 g j x.toNatClampNeg v) := by
      rw [← wH_set (i := i) (g := g) (j := j) (fun _ _ => rfl) (fun q hq => up3_j hq), ht, up3_s]
      rfl
    rw [e] at hP; exact hP, hT.2⟩ hS1)
theorem r_aald (X : Cxt p s m c args cc nL own D cz) (hT : TH D h cz i g H) (j o : Nat) {n : Nat} {rs : List Nat} (ht : tb j = .inl (4, n, rs)) (hj : j < NC) {x : Int32} (hin : vp_in x n) (hq : rs[x.toNatClampNeg]? = some o) (hdg : decode cc pc = .ok (.aaload, 1))
    (kk : W p l e R s m args below meth c H locs cells slots Q (F0 m (pc + 1) ls (.ref (h o) :: rest))) : W p l e R s m args below meth c H locs cells slots Q (F0 m pc ls (.int x :: .ref (h j) :: rest)) := by
  refine va_aldq X.1 X.2.1 X.2.2.2.2.2 hT.1 j 4 (cA := cz 4) (n := n) (f := fun q => if q < rs.length then some (h (rs.getD q 0)) else none) (by rw [wH_get _ _ _ _ hj, ht]; rfl) rfl hin hdg ?_
  have h1 : x.toNatClampNeg < rs.length := (List.getElem?_eq_some_iff.mp hq).1
  have e : (if x.toNatClampNeg < rs.length then some (h (rs.getD x.toNatClampNeg 0)) else none) = some (h o) := by
    rw [if_pos h1, List.getD_eq_getElem?_getD, hq]; rfl
  rw [e]
  exact kk
/-- a call of a method of the receiver's own class -/
theorem r_Vi {jb index maxL n ci : Nat} {y : MethodName} {bytes : ByteArray} {ret : Option FieldType} {rm : Room} {As st : List Value} {post : Int32 → St2 → Prop} {ds : List Nat} {T : u_T} {N : Nat} (X : Cxt p s m c args cc nL own D cz) (hT : TH D h cz i g H) (hS : va_S (hA h) H0 H locs) (hM : CtI l y bytes maxL ret rm D h cz i g (.ref (h jb) :: As) post) (K : MK y bytes maxL ret) (ml : Cond.methodLink own index y ∈ GW)
    (ht : tb jb = .inr (ci, ds)) (hc : vwCl[ci]? = some (y.cls, T, N)) (hjb : jb < NC) (hd : y.cls ≠ "java/lang/invoke/MethodHandle" ∧ y.cls ≠ "java/lang/invoke/VarHandle" ∧ (parseMethodDescriptor y.desc).map (fun d => d.parameters.length) = some As.length) (hrc : rm.cells = 0 ∧ rm.slots = 0) (hR : rm.frames + 1 ≤ R.frames ∧ 8 + (maxL + 11) + rm.locals ≤ R.locals) (hz : ls.size = nL) (hst : st = As.reverse ++ .ref (h jb) :: rest) (hro : (rest.map fun v => v.category).sum ≤ 8) (hdg : decode cc pc = .ok (.invokevirtual index, 3)) (hcs : cells ≤ R.cells ∧ slots ≤ R.slots)
    (kk : ∀ (r : Int32) (i1 : Nat → Nat → Int32) (g1 : Nat → Nat → Int64) (H1 : Heap) (locs1 : List Loc), post r (i1, g1) → TH D h cz i1 g1 H1 → va_S (hA h) H0 H1 locs1 → W p l e R s m args below meth c H1 locs1 cells slots Q (F0 m (pc + 3) ls (.int r :: rest))) : W p l e R s m args below meth c H locs cells slots Q (F0 m pc ls st) := by
  obtain ⟨hx, hb, hml, hown, hts, hK⟩ := X
  have cw : CallW R s args own y.cls index y bytes maxL ret (uw y bytes maxL ret) rm 0 0 As.length := ⟨callB_of As.length hts (uw_in K.1) rfl hrc.1 hrc.2 (hts _ K.2.2.2) (hts _ ml) hd hR, hts _ K.2.1, hts _ K.2.2.1⟩
  refine va_calli (va_runV (As := As) (rest := rest) ⟨hx, hb, hml, hown, hts⟩ hM cw ⟨wP_blind D h cz i g _, va_recv hK hT.1 (q0 := jb) hc (by rw [wH_get _ _ _ _ hjb, ht]; rfl), fun U hU hW => ⟨rfl, by rw [hU]; exact hT, va_K.moved hW.alike hK⟩⟩ rfl rfl hz hst (lv_room hro) hdg ⟨hcs.1, hcs.2⟩) hS (fun _ _ z => z) (fun _ z => z) (fun r u t H1 locs1 ht hvm hw hB _ _ hS1 => ?_)
  obtain ⟨i1, g1⟩ := u
  exact kk r i1 g1 H1 locs1 hw (by have := hB.1; rw [ht] at this; exact this) hS1
theorem r_Vl {jb index maxL n ci : Nat} {y : MethodName} {bytes : ByteArray} {ret : Option FieldType} {rm : Room} {As st : List Value} {post : Int64 → St2 → Prop} {ds : List Nat} {T : u_T} {N : Nat} (X : Cxt p s m c args cc nL own D cz) (hT : TH D h cz i g H) (hS : va_S (hA h) H0 H locs) (hM : CtL l y bytes maxL ret rm D h cz i g (.ref (h jb) :: As) post) (K : MK y bytes maxL ret) (ml : Cond.methodLink own index y ∈ GW)
    (ht : tb jb = .inr (ci, ds)) (hc : vwCl[ci]? = some (y.cls, T, N)) (hjb : jb < NC) (hd : y.cls ≠ "java/lang/invoke/MethodHandle" ∧ y.cls ≠ "java/lang/invoke/VarHandle" ∧ (parseMethodDescriptor y.desc).map (fun d => d.parameters.length) = some As.length) (hrc : rm.cells = 0 ∧ rm.slots = 0) (hR : rm.frames + 1 ≤ R.frames ∧ 8 + (maxL + 11) + rm.locals ≤ R.locals) (hz : ls.size = nL) (hst : st = As.reverse ++ .ref (h jb) :: rest) (hro : (rest.map fun v => v.category).sum ≤ 8) (hdg : decode cc pc = .ok (.invokevirtual index, 3)) (hcs : cells ≤ R.cells ∧ slots ≤ R.slots)
    (kk : ∀ (r : Int64) (i1 : Nat → Nat → Int32) (g1 : Nat → Nat → Int64) (H1 : Heap) (locs1 : List Loc), post r (i1, g1) → TH D h cz i1 g1 H1 → va_S (hA h) H0 H1 locs1 → W p l e R s m args below meth c H1 locs1 cells slots Q (F0 m (pc + 3) ls (.long r :: rest))) : W p l e R s m args below meth c H locs cells slots Q (F0 m pc ls st) := by
  obtain ⟨hx, hb, hml, hown, hts, hK⟩ := X
  have cw : CallW R s args own y.cls index y bytes maxL ret (uw y bytes maxL ret) rm 0 0 As.length := ⟨callB_of As.length hts (uw_in K.1) rfl hrc.1 hrc.2 (hts _ K.2.2.2) (hts _ ml) hd hR, hts _ K.2.1, hts _ K.2.2.1⟩
  refine va_calll (va_runV (As := As) (rest := rest) ⟨hx, hb, hml, hown, hts⟩ hM cw ⟨wP_blind D h cz i g _, va_recv hK hT.1 (q0 := jb) hc (by rw [wH_get _ _ _ _ hjb, ht]; rfl), fun U hU hW => ⟨rfl, by rw [hU]; exact hT, va_K.moved hW.alike hK⟩⟩ rfl rfl hz hst (lv_room hro) hdg ⟨hcs.1, hcs.2⟩) hS (fun _ _ z => z) (fun _ z => z) (fun r u t H1 locs1 ht hvm hw hB _ _ hS1 => ?_)
  obtain ⟨i1, g1⟩ := u
  exact kk r i1 g1 H1 locs1 hw (by have := hB.1; rw [ht] at this; exact this) hS1
theorem r_Vv {jb index maxL n ci : Nat} {y : MethodName} {bytes : ByteArray} {ret : Option FieldType} {rm : Room} {As st : List Value} {post : St2 → Prop} {ds : List Nat} {T : u_T} {N : Nat} (X : Cxt p s m c args cc nL own D cz) (hT : TH D h cz i g H) (hS : va_S (hA h) H0 H locs) (hM : CtV l y bytes maxL ret rm D h cz i g (.ref (h jb) :: As) post) (K : MK y bytes maxL ret) (ml : Cond.methodLink own index y ∈ GW)
    (ht : tb jb = .inr (ci, ds)) (hc : vwCl[ci]? = some (y.cls, T, N)) (hjb : jb < NC) (hd : y.cls ≠ "java/lang/invoke/MethodHandle" ∧ y.cls ≠ "java/lang/invoke/VarHandle" ∧ (parseMethodDescriptor y.desc).map (fun d => d.parameters.length) = some As.length) (hrc : rm.cells = 0 ∧ rm.slots = 0) (hR : rm.frames + 1 ≤ R.frames ∧ 8 + (maxL + 11) + rm.locals ≤ R.locals) (hz : ls.size = nL) (hst : st = As.reverse ++ .ref (h jb) :: rest) (hro : (rest.map fun v => v.category).sum ≤ 8) (hdg : decode cc pc = .ok (.invokevirtual index, 3)) (hcs : cells ≤ R.cells ∧ slots ≤ R.slots)
    (kk : ∀ (i1 : Nat → Nat → Int32) (g1 : Nat → Nat → Int64) (H1 : Heap) (locs1 : List Loc), post (i1, g1) → TH D h cz i1 g1 H1 → va_S (hA h) H0 H1 locs1 → W p l e R s m args below meth c H1 locs1 cells slots Q (F0 m (pc + 3) ls rest)) : W p l e R s m args below meth c H locs cells slots Q (F0 m pc ls st) := by
  obtain ⟨hx, hb, hml, hown, hts, hK⟩ := X
  have cw : CallW R s args own y.cls index y bytes maxL ret (uw y bytes maxL ret) rm 0 0 As.length := ⟨callB_of As.length hts (uw_in K.1) rfl hrc.1 hrc.2 (hts _ K.2.2.2) (hts _ ml) hd hR, hts _ K.2.1, hts _ K.2.2.1⟩
  refine va_callv (va_runV (As := As) (rest := rest) ⟨hx, hb, hml, hown, hts⟩ hM cw ⟨wP_blind D h cz i g _, va_recv hK hT.1 (q0 := jb) hc (by rw [wH_get _ _ _ _ hjb, ht]; rfl), fun U hU hW => ⟨rfl, by rw [hU]; exact hT, va_K.moved hW.alike hK⟩⟩ rfl rfl hz hst (lv_room hro) hdg ⟨hcs.1, hcs.2⟩) hS (fun _ _ z => z) (fun _ z => z) (fun u t H1 locs1 ht hvm hw hB _ _ hS1 => ?_)
  obtain ⟨i1, g1⟩ := u
  exact kk i1 g1 H1 locs1 hw (by have := hB.1; rw [ht] at this; exact this) hS1
/-- a call of a static method of the same class -/
theorem r_Si {index maxL : Nat} {y : MethodName} {bytes : ByteArray} {ret : Option FieldType} {rm : Room} {As st : List Value} {post : Int32 → St2 → Prop} (X : Cxt p s m c args cc nL own D cz) (hT : TH D h cz i g H) (hS : va_S (hA h) H0 H locs) (hM : CtI l y bytes maxL ret rm D h cz i g As post) (K : SK y bytes maxL ret) (ml : Cond.methodLink own index y ∈ GW)
    (hd : y.cls ≠ "java/lang/invoke/MethodHandle" ∧ y.cls ≠ "java/lang/invoke/VarHandle" ∧ (parseMethodDescriptor y.desc).map (fun d => d.parameters.length) = some As.length) (hrc : rm.cells = 0 ∧ rm.slots = 0) (hR : rm.frames + 1 ≤ R.frames ∧ 8 + (maxL + 11) + rm.locals ≤ R.locals) (hz : ls.size = nL) (hst : st = As.reverse ++ rest) (hro : (rest.map fun v => v.category).sum ≤ 8) (hdg : decode cc pc = .ok (.invokestatic index, 3)) (hcs : cells ≤ R.cells ∧ slots ≤ R.slots)
    (kk : ∀ (r : Int32) (i1 : Nat → Nat → Int32) (g1 : Nat → Nat → Int64) (H1 : Heap) (locs1 : List Loc), post r (i1, g1) → TH D h cz i1 g1 H1 → va_S (hA h) H0 H1 locs1 → W p l e R s m args below meth c H1 locs1 cells slots Q (F0 m (pc + 3) ls (.int r :: rest))) : W p l e R s m args below meth c H locs cells slots Q (F0 m pc ls st) := by
  obtain ⟨hx, hb, hml, hown, hts, hK⟩ := X
  refine va_calli (va_runS (As := As) (rest := rest) ⟨hx, hb, hml, hown, hts⟩ hM ⟨callB_of As.length hts (uw_in K.1) rfl hrc.1 hrc.2 (hts _ K.2.2) (hts _ ml) hd hR, hts _ K.2.1⟩ ⟨wP_blind D h cz i g _, fun U hU hW => ⟨rfl, by rw [hU]; exact hT, va_K.moved hW.alike hK⟩⟩ rfl rfl hz hst (lv_room hro) hdg ⟨hcs.1, hcs.2⟩) hS (fun _ _ z => z) (fun _ z => z) (fun r u t H1 locs1 ht hvm hw hB _ _ hS1 => ?_)
  obtain ⟨i1, g1⟩ := u
  exact kk r i1 g1 H1 locs1 hw (by have := hB.1; rw [ht] at this; exact this) hS1
theorem r_Sl {index maxL : Nat} {y : MethodName} {bytes : ByteArray} {ret : Option FieldType} {rm : Room} {As st : List Value} {post : Int64 → St2 → Prop} (X : Cxt p s m c args cc nL own D cz) (hT : TH D h cz i g H) (hS : va_S (hA h) H0 H locs) (hM : CtL l y bytes maxL ret rm D h cz i g As post) (K : SK y bytes maxL ret) (ml : Cond.methodLink own index y ∈ GW)
    (hd : y.cls ≠ "java/lang/invoke/MethodHandle" ∧ y.cls ≠ "java/lang/invoke/VarHandle" ∧ (parseMethodDescriptor y.desc).map (fun d => d.parameters.length) = some As.length) (hrc : rm.cells = 0 ∧ rm.slots = 0) (hR : rm.frames + 1 ≤ R.frames ∧ 8 + (maxL + 11) + rm.locals ≤ R.locals) (hz : ls.size = nL) (hst : st = As.reverse ++ rest) (hro : (rest.map fun v => v.category).sum ≤ 8) (hdg : decode cc pc = .ok (.invokestatic index, 3)) (hcs : cells ≤ R.cells ∧ slots ≤ R.slots)
    (kk : ∀ (r : Int64) (i1 : Nat → Nat → Int32) (g1 : Nat → Nat → Int64) (H1 : Heap) (locs1 : List Loc), post r (i1, g1) → TH D h cz i1 g1 H1 → va_S (hA h) H0 H1 locs1 → W p l e R s m args below meth c H1 locs1 cells slots Q (F0 m (pc + 3) ls (.long r :: rest))) : W p l e R s m args below meth c H locs cells slots Q (F0 m pc ls st) := by
  obtain ⟨hx, hb, hml, hown, hts, hK⟩ := X
  refine va_calll (va_runS (As := As) (rest := rest) ⟨hx, hb, hml, hown, hts⟩ hM ⟨callB_of As.length hts (uw_in K.1) rfl hrc.1 hrc.2 (hts _ K.2.2) (hts _ ml) hd hR, hts _ K.2.1⟩ ⟨wP_blind D h cz i g _, fun U hU hW => ⟨rfl, by rw [hU]; exact hT, va_K.moved hW.alike hK⟩⟩ rfl rfl hz hst (lv_room hro) hdg ⟨hcs.1, hcs.2⟩) hS (fun _ _ z => z) (fun _ z => z) (fun r u t H1 locs1 ht hvm hw hB _ _ hS1 => ?_)
  obtain ⟨i1, g1⟩ := u
  exact kk r i1 g1 H1 locs1 hw (by have := hB.1; rw [ht] at this; exact this) hS1
theorem r_Sv {index maxL : Nat} {y : MethodName} {bytes : ByteArray} {ret : Option FieldType} {rm : Room} {As st : List Value} {post : St2 → Prop} (X : Cxt p s m c args cc nL own D cz) (hT : TH D h cz i g H) (hS : va_S (hA h) H0 H locs) (hM : CtV l y bytes maxL ret rm D h cz i g As post) (K : SK y bytes maxL ret) (ml : Cond.methodLink own index y ∈ GW)
    (hd : y.cls ≠ "java/lang/invoke/MethodHandle" ∧ y.cls ≠ "java/lang/invoke/VarHandle" ∧ (parseMethodDescriptor y.desc).map (fun d => d.parameters.length) = some As.length) (hrc : rm.cells = 0 ∧ rm.slots = 0) (hR : rm.frames + 1 ≤ R.frames ∧ 8 + (maxL + 11) + rm.locals ≤ R.locals) (hz : ls.size = nL) (hst : st = As.reverse ++ rest) (hro : (rest.map fun v => v.category).sum ≤ 8) (hdg : decode cc pc = .ok (.invokestatic index, 3)) (hcs : cells ≤ R.cells ∧ slots ≤ R.slots)
    (kk : ∀ (i1 : Nat → Nat → Int32) (g1 : Nat → Nat → Int64) (H1 : Heap) (locs1 : List Loc), post (i1, g1) → TH D h cz i1 g1 H1 → va_S (hA h) H0 H1 locs1 → W p l e R s m args below meth c H1 locs1 cells slots Q (F0 m (pc + 3) ls rest)) : W p l e R s m args below meth c H locs cells slots Q (F0 m pc ls st) := by
  obtain ⟨hx, hb, hml, hown, hts, hK⟩ := X
  refine va_callv (va_runS (As := As) (rest := rest) ⟨hx, hb, hml, hown, hts⟩ hM ⟨callB_of As.length hts (uw_in K.1) rfl hrc.1 hrc.2 (hts _ K.2.2) (hts _ ml) hd hR, hts _ K.2.1⟩ ⟨wP_blind D h cz i g _, fun U hU hW => ⟨rfl, by rw [hU]; exact hT, va_K.moved hW.alike hK⟩⟩ rfl rfl hz hst (lv_room hro) hdg ⟨hcs.1, hcs.2⟩) hS (fun _ _ z => z) (fun _ z => z) (fun u t H1 locs1 ht hvm hw hB _ _ hS1 => ?_)
  obtain ⟨i1, g1⟩ := u
  exact kk i1 g1 H1 locs1 hw (by have := hB.1; rw [ht] at this; exact this) hS1
/-- a method's ends -/
theorem r_iret {post : Int32 → St2 → Prop} {v : Int32} (X : Cxt p s m c args cc nL own D cz) (hr : meth.sig.returnType = some .int) (hlk : meth.locks = false) (hT : TH D h cz i g H) (hS : va_S (hA h) s.heap H locs) (hdg : decode cc pc = .ok (.ireturn, 1)) (hp : post v (i, g)) : W p l e R s m args below meth c H locs cells slots (MQ below (va_Qi post (wB D h cz) (hA h)) args s cells slots (hA h)) (F0 m pc ls [.int v]) :=
  W.iret (v := v) X.1 X.2.1 hr (fun t ht hW => ⟨⟨v, (i, g), rfl, hp, by rw [ht]; exact hT, va_K.moved hW.alike X.2.2.2.2.2⟩, hS.F ht⟩) hS.2.2 hdg hlk
theorem r_zret {post : Int32 → St2 → Prop} {v : Int32} (X : Cxt p s m c args cc nL own D cz) (hr : meth.sig.returnType = some .boolean) (hlk : meth.locks = false) (hT : TH D h cz i g H) (hS : va_S (hA h) s.heap H locs) (hdg : decode cc pc = .ok (.ireturn, 1)) (hn : narrow .boolean (.int v) = .int v) (hp : post v (i, g)) : W p l e R s m args below meth c H locs cells slots (MQ below (va_Qi post (wB D h cz) (hA h)) args s cells slots (hA h)) (F0 m pc ls [.int v]) :=
  W.zret (v := v) X.1 X.2.1 hr hn (fun t ht hW => ⟨⟨v, (i, g), rfl, hp, by rw [ht]; exact hT, va_K.moved hW.alike X.2.2.2.2.2⟩, hS.F ht⟩) hS.2.2 hdg hlk
theorem r_lret {post : Int64 → St2 → Prop} {v : Int64} (X : Cxt p s m c args cc nL own D cz) (hr : meth.sig.returnType = some .long) (hlk : meth.locks = false) (hT : TH D h cz i g H) (hS : va_S (hA h) s.heap H locs) (hdg : decode cc pc = .ok (.lreturn, 1)) (hp : post v (i, g)) : W p l e R s m args below meth c H locs cells slots (MQ below (va_Ql post (wB D h cz) (hA h)) args s cells slots (hA h)) (F0 m pc ls [.long v]) :=
  W.lret (v := v) X.1 X.2.1 hr (fun t ht hW => ⟨⟨v, (i, g), rfl, hp, by rw [ht]; exact hT, va_K.moved hW.alike X.2.2.2.2.2⟩, hS.F ht⟩) hS.2.2 hdg hlk
theorem r_vret {post : St2 → Prop} (X : Cxt p s m c args cc nL own D cz) (hr : meth.sig.returnType = none) (hlk : meth.locks = false) (hT : TH D h cz i g H) (hS : va_S (hA h) s.heap H locs) (hdg : decode cc pc = .ok (.return_, 1)) (hp : post (i, g)) : W p l e R s m args below meth c H locs cells slots (MQ below (va_Qv post (wB D h cz) (hA h)) args s cells slots (hA h)) (F0 m pc ls []) :=
  W.vret X.1 X.2.1 hr (fun t ht hW => ⟨⟨(i, g), rfl, hp, by rw [ht]; exact hT, va_K.moved hW.alike X.2.2.2.2.2⟩, hS.F ht⟩) hS.2.2 hdg hlk
end RowsA
/-- a contract out of a walk; the end as a continuation -/
abbrev RetI (p : Program) (l : Launch) (e : Env) (R : Room) (s : State) (m : MethodId) (args : Array Value) (below : List Frame) (meth : Method) (c : Code) (cc : ByteArray) (D : va_G) (h : Nat → Nat) (cz : Nat → ClassId) (post : Int32 → St2 → Prop) (Q : State → Prop) : Prop :=
  ∀ (v : Int32) (i : Nat → Nat → Int32) (g : Nat → Nat → Int64) (H : Heap) (locs : List Loc) (pc : Nat) (ls : Array Slot), decode cc pc = .ok (.ireturn, 1) → TH D h cz i g H → va_S (hA h) s.heap H locs → post v (i, g) → W p l e R s m args below meth c H locs 0 0 Q (F0 m pc ls [.int v])
abbrev RetL (p : Program) (l : Launch) (e : Env) (R : Room) (s : State) (m : MethodId) (args : Array Value) (below : List Frame) (meth : Method) (c : Code) (cc : ByteArray) (D : va_G) (h : Nat → Nat) (cz : Nat → ClassId) (post : Int64 → St2 → Prop) (Q : State → Prop) : Prop :=
  ∀ (v : Int64) (i : Nat → Nat → Int32) (g : Nat → Nat → Int64) (H : Heap) (locs : List Loc) (pc : Nat) (ls : Array Slot), decode cc pc = .ok (.lreturn, 1) → TH D h cz i g H → va_S (hA h) s.heap H locs → post v (i, g) → W p l e R s m args below meth c H locs 0 0 Q (F0 m pc ls [.long v])
abbrev RetV (p : Program) (l : Launch) (e : Env) (R : Room) (s : State) (m : MethodId) (args : Array Value) (below : List Frame) (meth : Method) (c : Code) (cc : ByteArray) (D : va_G) (h : Nat → Nat) (cz : Nat → ClassId) (post : St2 → Prop) (Q : State → Prop) : Prop :=
  ∀ (i : Nat → Nat → Int32) (g : Nat → Nat → Int64) (H : Heap) (locs : List Loc) (pc : Nat) (ls : Array Slot), decode cc pc = .ok (.return_, 1) → TH D h cz i g H → va_S (hA h) s.heap H locs → post (i, g) → W p l e R s m args below meth c H locs 0 0 Q (F0 m pc ls [])
section Entry
variable {l : Launch} {y : MethodName} {cc : ByteArray} {n : Nat} {rm : Room} {D : va_G} {h : Nat → Nat} {cz : Nat → ClassId} {i : Nat → Nat → Int32} {g : Nat → Nat → Int64} {av : List Value}
theorem k_entry {r : Option FieldType} {Qc : Array Value → State → Outcome → State → Prop} (hy : plainName y.cls = true) (hav : (lg_sl av).length ≤ n)
    (body : ∀ (p : Program) (e : Env) (s : State) (m : MethodId) (args : Array Value) (below : List Frame) (meth : Method) (c : Code) (ls : Array Slot), Cxt p s m c args cc n y.cls D cz → meth.sig.returnType = r → meth.locks = false → TH D h cz i g s.heap → lv_has ls n (lv_args 0 av) → va_S (hA h) s.heap s.heap [] → W p l e rm s m args below meth c s.heap [] 0 0 (MQ below Qc args s 0 0 (hA h)) (F0 m 0 ls [])) : Met l y (uw y cc n r) rm (wP D h cz i g av) Qc 0 0 (hA h) := by
  refine Met.ofW (cc := cc) (maxL := n) (ret := r) hy rfl ?_
  intro p e s m args below meth c s₁ B hml hv
  obtain ⟨rfl, hT, hK⟩ := hv
  have hts := atoms_spec (ws := uw y cc n r) B.pre
  have hl := lv_entry av (n := n) hav
  rw [lg_entry_eq]
  exact body p e s m _ below meth c _ ⟨B.exec, B.bytes, hml, findClass_of_methodNamed B.named, fun w hw => hts w (List.mem_cons_of_mem _ hw), hK⟩ B.returns B.notSynchronized hT hl va_S.rf
theorem k_I {post : Int32 → St2 → Prop} (hy : plainName y.cls = true) (hav : (lg_sl av).length ≤ n)
    (body : ∀ (p : Program) (e : Env) (s : State) (m : MethodId) (args : Array Value) (below : List Frame) (meth : Method) (c : Code) (ls : Array Slot) (Q : State → Prop), Cxt p s m c args cc n y.cls D cz → RetI p l e rm s m args below meth c cc D h cz post Q → TH D h cz i g s.heap → lv_has ls n (lv_args 0 av) → va_S (hA h) s.heap s.heap [] → W p l e rm s m args below meth c s.heap [] 0 0 Q (F0 m 0 ls [])) : CtI l y cc n (some .int) rm D h cz i g av post :=
  k_entry hy hav (fun p e s m args below meth c ls X hr hlk hT hl hS => body p e s m args below meth c ls _ X (fun v i g H locs pc ls hd hT hS hp => r_iret X hr hlk hT hS hd hp) hT hl hS)
theorem nb_z {v : Int32} (h : v = 0 ∨ v = 1) : narrow .boolean (.int v) = .int v := by rcases h with h | h <;> subst h <;> rfl
theorem k_Z {post : Int32 → St2 → Prop} (hz : ∀ v u, post v u → v = 0 ∨ v = 1) (hy : plainName y.cls = true) (hav : (lg_sl av).length ≤ n)
    (body : ∀ (p : Program) (e : Env) (s : State) (m : MethodId) (args : Array Value) (below : List Frame) (meth : Method) (c : Code) (ls : Array Slot) (Q : State → Prop), Cxt p s m c args cc n y.cls D cz → RetI p l e rm s m args below meth c cc D h cz post Q → TH D h cz i g s.heap → lv_has ls n (lv_args 0 av) → va_S (hA h) s.heap s.heap [] → W p l e rm s m args below meth c s.heap [] 0 0 Q (F0 m 0 ls [])) : CtI l y cc n (some .boolean) rm D h cz i g av post :=
  k_entry hy hav (fun p e s m args below meth c ls X hr hlk hT hl hS => body p e s m args below meth c ls _ X (fun v i g H locs pc ls hd hT hS hp => r_zret X hr hlk hT hS hd (nb_z (hz _ _ hp)) hp) hT hl hS)
theorem k_L {post : Int64 → St2 → Prop} (hy : plainName y.cls = true) (hav : (lg_sl av).length ≤ n)
    (body : ∀ (p : Program) (e : Env) (s : State) (m : MethodId) (args : Array Value) (below : List Frame) (meth : Method) (c : Code) (ls : Array Slot) (Q : State → Prop), Cxt p s m c args cc n y.cls D cz → RetL p l e rm s m args below meth c cc D h cz post Q → TH D h cz i g s.heap → lv_has ls n (lv_args 0 av) → va_S (hA h) s.heap s.heap [] → W p l e rm s m args below meth c s.heap [] 0 0 Q (F0 m 0 ls [])) : CtL l y cc n (some .long) rm D h cz i g av post :=
  k_entry hy hav (fun p e s m args below meth c ls X hr hlk hT hl hS => body p e s m args below meth c ls _ X (fun v i g H locs pc ls hd hT hS hp => r_lret X hr hlk hT hS hd hp) hT hl hS)
theorem k_V {post : St2 → Prop} (hy : plainName y.cls = true) (hav : (lg_sl av).length ≤ n)
    (body : ∀ (p : Program) (e : Env) (s : State) (m : MethodId) (args : Array Value) (below : List Frame) (meth : Method) (c : Code) (ls : Array Slot) (Q : State → Prop), Cxt p s m c args cc n y.cls D cz → RetV p l e rm s m args below meth c cc D h cz post Q → TH D h cz i g s.heap → lv_has ls n (lv_args 0 av) → va_S (hA h) s.heap s.heap [] → W p l e rm s m args below meth c s.heap [] 0 0 Q (F0 m 0 ls [])) : CtV l y cc n none rm D h cz i g av post :=
  k_entry hy hav (fun p e s m args below meth c ls X hr hlk hT hl hS => body p e s m args below meth c ls _ X (fun i g H locs pc ls hd hT hS hp => r_vret X hr hlk hT hS hd hp) hT hl hS)
end Entry
end
section
/-! ints between two numbers -/
def rgL (lo hi : Int) (x : Int64) : Prop := lo ≤ x.toInt ∧ x.toInt ≤ hi
theorem rg_k {lo hi : Int} {x : Int32} (h : (decide (lo ≤ x.toInt) && decide (x.toInt ≤ hi)) = true) : rg lo hi x := by
  simp only [Bool.and_eq_true, decide_eq_true_eq] at h; exact h
theorem rgL_k {lo hi : Int} {x : Int64} (h : (decide (lo ≤ x.toInt) && decide (x.toInt ≤ hi)) = true) : rgL lo hi x := by
  simp only [Bool.and_eq_true, decide_eq_true_eq] at h; exact h
theorem rg_top (x : Int32) : rg (-2147483648) 2147483647 x := ⟨by have := x.le_toInt; simpa using this, by have := x.toInt_lt; simp at this; omega⟩
theorem rgL_top (x : Int64) : rgL (-9223372036854775808) 9223372036854775807 x := ⟨by have := x.le_toInt; simpa using this, by have := x.toInt_lt; simp at this; omega⟩
theorem rg_w {a b lo hi : Int} {x : Int32} (h : rg a b x) (h1 : lo ≤ a ∧ b ≤ hi) : rg lo hi x := ⟨by have := h.1; omega, by have := h.2; omega⟩
theorem rgL_w {a b lo hi : Int} {x : Int64} (h : rgL a b x) (h1 : lo ≤ a ∧ b ≤ hi) : rgL lo hi x := ⟨by have := h.1; omega, by have := h.2; omega⟩
theorem i_lt {x y : Int32} (h : x < y) : x.toInt < y.toInt := Int32.lt_iff_toInt_lt.mp h
theorem i_le {x y : Int32} (h : x ≤ y) : x.toInt ≤ y.toInt := Int32.le_iff_toInt_le.mp h
theorem i_nlt {x y : Int32} (h : ¬ x < y) : y.toInt ≤ x.toInt := by rw [Int32.lt_iff_toInt_lt] at h; omega
theorem i_nle {x y : Int32} (h : ¬ x ≤ y) : y.toInt < x.toInt := by rw [Int32.le_iff_toInt_le] at h; omega
theorem i_eq {x y : Int32} (h : x = y) : x.toInt = y.toInt := by rw [h]
theorem i_ne {x y : Int32} (h : ¬ x = y) : ¬ x.toInt = y.toInt := fun q => h (Int32.toInt_inj.mp q)
theorem l_lt {x y : Int64} (h : x < y) : x.toInt < y.toInt := Int64.lt_iff_toInt_lt.mp h
theorem l_le {x y : Int64} (h : x ≤ y) : x.toInt ≤ y.toInt := Int64.le_iff_toInt_le.mp h
theorem l_nlt {x y : Int64} (h : ¬ x < y) : y.toInt ≤ x.toInt := by rw [Int64.lt_iff_toInt_lt] at h; omega
theorem l_nle {x y : Int64} (h : ¬ x ≤ y) : y.toInt < x.toInt := by rw [Int64.le_iff_toInt_le] at h; omega
theorem l_eq {x y : Int64} (h : x = y) : x.toInt = y.toInt := by rw [h]
theorem l_ne {x y : Int64} (h : ¬ x = y) : ¬ x.toInt = y.toInt := fun q => h (Int64.toInt_inj.mp q)
/-- the answer of lcmp against 0 -/
theorem lg_val (x y : Int64) : (y.toInt < x.toInt ∧ lg_cmp x y = 1) ∨ (x.toInt = y.toInt ∧ lg_cmp x y = 0) ∨ (x.toInt < y.toInt ∧ lg_cmp x y = -1) := by
  unfold lg_cmp
  by_cases h1 : x > y
  · exact Or.inl ⟨Int64.lt_iff_toInt_lt.mp h1, by simp [h1]⟩
  · by_cases h2 : x = y
    · exact Or.inr (Or.inl ⟨by rw [h2], by simp [h2]⟩)
    · have h3 : ¬ y < x := h1
      rw [Int64.lt_iff_toInt_lt] at h3
      exact Or.inr (Or.inr ⟨by have := l_ne h2; omega, by simp [h1, h2]⟩)
theorem c_lt {x y : Int64} (h : lg_cmp x y < 0) : x.toInt < y.toInt := by
  rcases lg_val x y with ⟨a, b⟩ | ⟨a, b⟩ | ⟨a, b⟩
  · rw [b] at h; exact absurd h (by decide)
  · rw [b] at h; exact absurd h (by decide)
  · exact a
theorem c_nlt {x y : Int64} (h : ¬ lg_cmp x y < 0) : y.toInt ≤ x.toInt := by
  rcases lg_val x y with ⟨a, b⟩ | ⟨a, b⟩ | ⟨a, b⟩
  · omega
  · omega
  · rw [b] at h; exact absurd (by decide) h
theorem c_ge {x y : Int64} (h : 0 ≤ lg_cmp x y) : y.toInt ≤ x.toInt := by
  rcases lg_val x y with ⟨a, b⟩ | ⟨a, b⟩ | ⟨a, b⟩
  · omega
  · omega
  · rw [b] at h; exact absurd h (by decide)
theorem c_nge {x y : Int64} (h : ¬ 0 ≤ lg_cmp x y) : x.toInt < y.toInt := by
  rcases lg_val x y with ⟨a, b⟩ | ⟨a, b⟩ | ⟨a, b⟩
  · rw [b] at h; exact absurd (by decide) h
  · rw [b] at h; exact absurd (by decide) h
  · exact a
theorem c_gt {x y : Int64} (h : 0 < lg_cmp x y) : y.toInt < x.toInt := by
  rcases lg_val x y with ⟨a, b⟩ | ⟨a, b⟩ | ⟨a, b⟩
  · exact a
  · rw [b] at h; exact absurd h (by decide)
  · rw [b] at h; exact absurd h (by decide)
theorem c_ngt {x y : Int64} (h : ¬ 0 < lg_cmp x y) : x.toInt ≤ y.toInt := by
  rcases lg_val x y with ⟨a, b⟩ | ⟨a, b⟩ | ⟨a, b⟩
  · rw [b] at h; exact absurd (by decide) h
  · omega
  · omega
theorem c_le {x y : Int64} (h : lg_cmp x y ≤ 0) : x.toInt ≤ y.toInt := by
  rcases lg_val x y with ⟨a, b⟩ | ⟨a, b⟩ | ⟨a, b⟩
  · rw [b] at h; exact absurd h (by decide)
  · omega
  · omega
theorem c_nle {x y : Int64} (h : ¬ lg_cmp x y ≤ 0) : y.toInt < x.toInt := by
  rcases lg_val x y with ⟨a, b⟩ | ⟨a, b⟩ | ⟨a, b⟩
  · exact a
  · rw [b] at h; exact absurd (by decide) h
  · rw [b] at h; exact absurd (by decide) h
theorem c_eq {x y : Int64} (h : lg_cmp x y = 0) : x.toInt = y.toInt := by
  rcases lg_val x y with ⟨a, b⟩ | ⟨a, b⟩ | ⟨a, b⟩
  · rw [b] at h; exact absurd h (by decide)
  · exact a
  · rw [b] at h; exact absurd h (by decide)
theorem c_ne {x y : Int64} (h : ¬ lg_cmp x y = 0) : ¬ x.toInt = y.toInt := by
  rcases lg_val x y with ⟨a, b⟩ | ⟨a, b⟩ | ⟨a, b⟩
  · omega
  · rw [b] at h; exact absurd rfl h
  · omega
theorem rg_lcmp (x y : Int64) : rg (-1) 1 (lg_cmp x y) := by
  rcases lg_val x y with ⟨a, b⟩ | ⟨a, b⟩ | ⟨a, b⟩ <;> rw [b] <;> exact rg_k (by decide)
/-! narrower by a comparison of their numbers; u = x.toInt, w = y.toInt -/
theorem n_hi {a b hi : Int} {x : Int32} (h : rg a b x) {w : Int} (q : x.toInt ≤ w) (hw : w ≤ hi) : rg a hi x := ⟨h.1, by omega⟩
theorem n_lo {a b lo : Int} {x : Int32} (h : rg a b x) {w : Int} (q : w ≤ x.toInt) (hw : lo ≤ w) : rg lo b x := ⟨by omega, h.2⟩
theorem nL_hi {a b hi : Int} {x : Int64} (h : rgL a b x) {w : Int} (q : x.toInt ≤ w) (hw : w ≤ hi) : rgL a hi x := ⟨h.1, by omega⟩
theorem nL_lo {a b lo : Int} {x : Int64} (h : rgL a b x) {w : Int} (q : w ≤ x.toInt) (hw : lo ≤ w) : rgL lo b x := ⟨by omega, h.2⟩
theorem x_lt {a b c d u w : Int} (h1 : a ≤ u ∧ u ≤ b) (h2 : c ≤ w ∧ w ≤ d) (q : u < w) (hn : d ≤ a) : False := by omega
theorem x_le {a b c d u w : Int} (h1 : a ≤ u ∧ u ≤ b) (h2 : c ≤ w ∧ w ≤ d) (q : u ≤ w) (hn : d < a) : False := by omega
theorem x_eq {a b c d u w : Int} (h1 : a ≤ u ∧ u ≤ b) (h2 : c ≤ w ∧ w ≤ d) (q : u = w) (hn : d < a ∨ b < c) : False := by omega
theorem x_ne {a b c d u w : Int} (h1 : a ≤ u ∧ u ≤ b) (h2 : c ≤ w ∧ w ≤ d) (q : ¬ u = w) (hn : a = b ∧ c = d ∧ a = c) : False := by omega
/-- x < y: both bounds; the numbers as they come out -/
theorem t_ltx {a b c d : Int} (lo hi : Int) {x y : Int32} (h1 : rg a b x) (h2 : rg c d y) (q : x.toInt < y.toInt) (hn : lo ≤ a ∧ (b ≤ hi ∨ d - 1 ≤ hi)) : rg lo hi x := by have := h1.1; have := h1.2; have := h2.1; have := h2.2; constructor <;> omega
theorem t_lty {a b c d : Int} (lo hi : Int) {x y : Int32} (h1 : rg a b x) (h2 : rg c d y) (q : x.toInt < y.toInt) (hn : d ≤ hi ∧ (lo ≤ c ∨ lo ≤ a + 1)) : rg lo hi y := by have := h1.1; have := h1.2; have := h2.1; have := h2.2; constructor <;> omega
theorem t_lex {a b c d : Int} (lo hi : Int) {x y : Int32} (h1 : rg a b x) (h2 : rg c d y) (q : x.toInt ≤ y.toInt) (hn : lo ≤ a ∧ (b ≤ hi ∨ d ≤ hi)) : rg lo hi x := by have := h1.1; have := h1.2; have := h2.1; have := h2.2; constructor <;> omega
theorem t_ley {a b c d : Int} (lo hi : Int) {x y : Int32} (h1 : rg a b x) (h2 : rg c d y) (q : x.toInt ≤ y.toInt) (hn : d ≤ hi ∧ (lo ≤ c ∨ lo ≤ a)) : rg lo hi y := by have := h1.1; have := h1.2; have := h2.1; have := h2.2; constructor <;> omega
theorem t_eqx {a b c d : Int} (lo hi : Int) {x y : Int32} (h1 : rg a b x) (h2 : rg c d y) (q : x.toInt = y.toInt) (hn : (lo ≤ a ∨ lo ≤ c) ∧ (b ≤ hi ∨ d ≤ hi)) : rg lo hi x := by have := h1.1; have := h1.2; have := h2.1; have := h2.2; constructor <;> omega
theorem t_eqy {a b c d : Int} (lo hi : Int) {x y : Int32} (h1 : rg a b x) (h2 : rg c d y) (q : x.toInt = y.toInt) (hn : (lo ≤ a ∨ lo ≤ c) ∧ (b ≤ hi ∨ d ≤ hi)) : rg lo hi y := by have := h1.1; have := h1.2; have := h2.1; have := h2.2; constructor <;> omega
/-- x ≠ y, y one number at x's bound -/
theorem t_nelo {a b c d : Int} (lo : Int) {x y : Int32} (h1 : rg a b x) (h2 : rg c d y) (q : ¬ x.toInt = y.toInt) (hn : c = d ∧ c = a ∧ lo = a + 1) : rg lo b x := by have := h1.1; have := h1.2; have := h2.1; have := h2.2; constructor <;> omega
theorem t_nehi {a b c d : Int} (hi : Int) {x y : Int32} (h1 : rg a b x) (h2 : rg c d y) (q : ¬ x.toInt = y.toInt) (hn : c = d ∧ c = b ∧ hi = b - 1) : rg a hi x := by have := h1.1; have := h1.2; have := h2.1; have := h2.2; constructor <;> omega
theorem tL_ltx {a b c d : Int} (lo hi : Int) {x y : Int64} (h1 : rgL a b x) (h2 : rgL c d y) (q : x.toInt < y.toInt) (hn : lo ≤ a ∧ (b ≤ hi ∨ d - 1 ≤ hi)) : rgL lo hi x := by have := h1.1; have := h1.2; have := h2.1; have := h2.2; constructor <;> omega
theorem tL_lty {a b c d : Int} (lo hi : Int) {x y : Int64} (h1 : rgL a b x) (h2 : rgL c d y) (q : x.toInt < y.toInt) (hn : d ≤ hi ∧ (lo ≤ c ∨ lo ≤ a + 1)) : rgL lo hi y := by have := h1.1; have := h1.2; have := h2.1; have := h2.2; constructor <;> omega
theorem tL_lex {a b c d : Int} (lo hi : Int) {x y : Int64} (h1 : rgL a b x) (h2 : rgL c d y) (q : x.toInt ≤ y.toInt) (hn : lo ≤ a ∧ (b ≤ hi ∨ d ≤ hi)) : rgL lo hi x := by have := h1.1; have := h1.2; have := h2.1; have := h2.2; constructor <;> omega
theorem tL_ley {a b c d : Int} (lo hi : Int) {x y : Int64} (h1 : rgL a b x) (h2 : rgL c d y) (q : x.toInt ≤ y.toInt) (hn : d ≤ hi ∧ (lo ≤ c ∨ lo ≤ a)) : rgL lo hi y := by have := h1.1; have := h1.2; have := h2.1; have := h2.2; constructor <;> omega
theorem tL_eqx {a b c d : Int} (lo hi : Int) {x y : Int64} (h1 : rgL a b x) (h2 : rgL c d y) (q : x.toInt = y.toInt) (hn : (lo ≤ a ∨ lo ≤ c) ∧ (b ≤ hi ∨ d ≤ hi)) : rgL lo hi x := by have := h1.1; have := h1.2; have := h2.1; have := h2.2; constructor <;> omega
theorem tL_eqy {a b c d : Int} (lo hi : Int) {x y : Int64} (h1 : rgL a b x) (h2 : rgL c d y) (q : x.toInt = y.toInt) (hn : (lo ≤ a ∨ lo ≤ c) ∧ (b ≤ hi ∨ d ≤ hi)) : rgL lo hi y := by have := h1.1; have := h1.2; have := h2.1; have := h2.2; constructor <;> omega
/-! arithmetic without overflow -/
theorem bm32 {n : Int} (h : -2147483648 ≤ n ∧ n ≤ 2147483647) : n.bmod 4294967296 = n := by rw [Int.bmod_def]; omega
theorem bm64 {n : Int} (h : -9223372036854775808 ≤ n ∧ n ≤ 9223372036854775807) : n.bmod 18446744073709551616 = n := by rw [Int.bmod_def]; omega
theorem e_add {x y : Int32} (h : -2147483648 ≤ x.toInt + y.toInt ∧ x.toInt + y.toInt ≤ 2147483647) : (x + y).toInt = x.toInt + y.toInt := by
  rw [Int32.toInt_add]; exact bm32 h
theorem e_sub {x y : Int32} (h : -2147483648 ≤ x.toInt - y.toInt ∧ x.toInt - y.toInt ≤ 2147483647) : (x - y).toInt = x.toInt - y.toInt := by
  rw [Int32.toInt_sub]; exact bm32 h
theorem e_mul {x y : Int32} (h : -2147483648 ≤ x.toInt * y.toInt ∧ x.toInt * y.toInt ≤ 2147483647) : (x * y).toInt = x.toInt * y.toInt := by
  rw [Int32.toInt_mul]; exact bm32 h
theorem eL_add {x y : Int64} (h : -9223372036854775808 ≤ x.toInt + y.toInt ∧ x.toInt + y.toInt ≤ 9223372036854775807) : (x + y).toInt = x.toInt + y.toInt := by
  rw [Int64.toInt_add]; exact bm64 h
theorem eL_sub {x y : Int64} (h : -9223372036854775808 ≤ x.toInt - y.toInt ∧ x.toInt - y.toInt ≤ 9223372036854775807) : (x - y).toInt = x.toInt - y.toInt := by
  rw [Int64.toInt_sub]; exact bm64 h
theorem rg_add {a b c d : Int} (lo hi : Int) {x y z : Int32} (ez : z = x + y) (h1 : rg a b x) (h2 : rg c d y) (hn : lo ≤ a + c ∧ b + d ≤ hi ∧ -2147483648 ≤ a + c ∧ b + d ≤ 2147483647) : rg lo hi z ∧ z.toInt = x.toInt + y.toInt := by
  have := h1.1; have := h1.2; have := h2.1; have := h2.2
  have e := e_add (x := x) (y := y) (by omega)
  rw [ez]
  exact ⟨⟨by omega, by omega⟩, e⟩
theorem rg_sub {a b c d : Int} (lo hi : Int) {x y z : Int32} (ez : z = x - y) (h1 : rg a b x) (h2 : rg c d y) (hn : lo ≤ a - d ∧ b - c ≤ hi ∧ -2147483648 ≤ a - d ∧ b - c ≤ 2147483647) : rg lo hi z ∧ z.toInt = x.toInt - y.toInt := by
  have := h1.1; have := h1.2; have := h2.1; have := h2.2
  have e := e_sub (x := x) (y := y) (by omega)
  rw [ez]
  exact ⟨⟨by omega, by omega⟩, e⟩
theorem rgL_add {a b c d : Int} (lo hi : Int) {x y z : Int64} (ez : z = x + y) (h1 : rgL a b x) (h2 : rgL c d y) (hn : lo ≤ a + c ∧ b + d ≤ hi ∧ -9223372036854775808 ≤ a + c ∧ b + d ≤ 9223372036854775807) : rgL lo hi z ∧ z.toInt = x.toInt + y.toInt := by
  have := h1.1; have := h1.2; have := h2.1; have := h2.2
  have e := eL_add (x := x) (y := y) (by omega)
  rw [ez]
  exact ⟨⟨by omega, by omega⟩, e⟩
theorem rgL_sub {a b c d : Int} (lo hi : Int) {x y z : Int64} (ez : z = x - y) (h1 : rgL a b x) (h2 : rgL c d y) (hn : lo ≤ a - d ∧ b - c ≤ hi ∧ -9223372036854775808 ≤ a - d ∧ b - c ≤ 9223372036854775807) : rgL lo hi z ∧ z.toInt = x.toInt - y.toInt := by
  have := h1.1; have := h1.2; have := h2.1; have := h2.2
  have e := eL_sub (x := x) (y := y) (by omega)
  rw [ez]
  exact ⟨⟨by omega, by omega⟩, e⟩
theorem mulb {a b c d u w : Int} (h1 : a ≤ u ∧ u ≤ b) (h2 : c ≤ w ∧ w ≤ d) (ha : 0 ≤ a) (hc : 0 ≤ c) : a * c ≤ u * w ∧ u * w ≤ b * d :=
  ⟨Int.mul_le_mul h1.1 h2.1 hc (by omega), Int.mul_le_mul h1.2 h2.2 (by omega) (by omega)⟩
theorem rg_mul {a b c d : Int} (lo hi : Int) {x y z : Int32} (ez : z = x * y) (h1 : rg a b x) (h2 : rg c d y) (hn : 0 ≤ a ∧ 0 ≤ c ∧ lo ≤ a * c ∧ b * d ≤ hi ∧ b * d ≤ 2147483647) : rg lo hi z ∧ z.toInt = x.toInt * y.toInt := by
  obtain ⟨n1, n2, n3, n4, n5⟩ := hn
  have q := mulb h1 h2 n1 n2
  have q0 : 0 ≤ a * c := Int.mul_nonneg n1 n2
  have e := e_mul (x := x) (y := y) ⟨by omega, by omega⟩
  rw [ez]
  exact ⟨⟨by omega, by omega⟩, e⟩
theorem rg_i2l {a b : Int} {x : Int32} {z : Int64} (ez : x.toInt64 = z) (h : rg a b x) : rgL a b z ∧ z.toInt = x.toInt := by
  have e : z.toInt = x.toInt := by rw [← ez]; exact Int32.toInt_toInt64 x
  exact ⟨⟨by rw [e]; exact h.1, by rw [e]; exact h.2⟩, e⟩
theorem v_in {a b : Int} {x : Int32} {n : Nat} (h : rg a b x) (hn : 0 ≤ a ∧ b < (n : Int)) : vp_in x n := vp_in_iff.mpr ⟨by have := h.1; omega, by have := h.2; omega⟩
theorem v_lt {x : Int32} {n : Nat} (h : vp_in x n) : x.toNatClampNeg < n := Nat.not_le.mp fun q => h (Or.inr q)
theorem cl_int {a b : Int} {x : Int32} (h : rg a b x) (hn : 0 ≤ a) : (x.toNatClampNeg : Int) = x.toInt := by
  have h0 := h.1
  obtain ⟨j, hj, e⟩ := nI_of (x := x) (fun q => by have := i_lt q; simp at this; omega)
  subst e
  rw [nI_clamp hj, nI_toInt hj]
theorem m_up {HI K : Int} {n : Nat} {a b : Int} {x y : Int32} (e : y.toInt = x.toInt + K) (hy : rg a b y) (hn : 0 < K ∧ b ≤ HI) (hm : (HI - x.toInt).toNat < n + 1) : (HI - y.toInt).toNat < n := by
  have := hy.2; omega
theorem m_dn {LO K : Int} {n : Nat} {a b : Int} {x y : Int32} (e : y.toInt = x.toInt + K) (hy : rg a b y) (hn : K < 0 ∧ LO ≤ a) (hm : (x.toInt - LO).toNat < n + 1) : (y.toInt - LO).toNat < n := by
  have := hy.1; omega
/-! the typed heap -/
def ln (j : Nat) : Nat := match tb j with
  | .inl (_, n, _) => n
  | .inr (_, ds) => ds.length
def Rg (T : Nat → Nat → Int × Int) (i : Nat → Nat → Int32) : Prop := ∀ j k, k < ln j → rg (T j k).1 (T j k).2 (i j k)
def rT (t : List ((Int × Int) ⊕ List (Int × Int))) (j k : Nat) : Int × Int := match t.getD j (.inl (-2147483648, 2147483647)) with
  | .inl p => p
  | .inr l => l.getD k (-2147483648, 2147483647)
theorem Rg_at {T : Nat → Nat → Int × Int} {i : Nat → Nat → Int32} (hR : Rg T i) (j k : Nat) (lo hi : Int) (hk : k < ln j) (ht : T j k = (lo, hi)) : rg lo hi (i j k) := by
  have := hR j k hk
  rw [ht] at this
  exact this
theorem Rg_put {T : Nat → Nat → Int × Int} {i i1 : Nat → Nat → Int32} {j k : Nat} {v : Int32} {a b : Int} (hR : Rg T i) (e : i1 = up2 i j k v) (lo hi : Int) (ht : T j k = (lo, hi)) (hv : rg a b v) (hn : lo ≤ a ∧ b ≤ hi) : Rg T i1 := by
  intro q r hr
  rw [e]
  by_cases hq : q = j
  · by_cases h2 : r = k
    · rw [hq, h2, up2_at, ht]
      exact rg_w hv hn
    · rw [up2_k h2]
      exact hR q r hr
  · rw [up2_j hq]
    exact hR q r hr
theorem z_j {i i1 : Nat → Nat → Int32} {j k a b : Nat} {v x : Int32} (e : i1 = up2 i j k v) (z : i a b = x) (hne : a ≠ j) : i1 a b = x := by rw [e, up2_j hne]; exact z
theorem z_k {i i1 : Nat → Nat → Int32} {j k a b : Nat} {v x : Int32} (e : i1 = up2 i j k v) (z : i a b = x) (hne : b ≠ k) : i1 a b = x := by rw [e, up2_k hne]; exact z
theorem z_s {i i1 : Nat → Nat → Int32} {j k : Nat} {v : Int32} (e : i1 = up2 i j k v) : i1 j k = v := by rw [e, up2_at]
/-! arithmetic rows that name what comes out -/
section RowsQ
variable {p : Program} {l : Launch} {e : Env} {R : Room} {s : State} {m : MethodId} {args : Array Value} {below : List Frame} {meth : Method} {c : Code} {H : Heap} {locs : List Loc} {cells slots : Nat} {Q : State → Prop} {cc : ByteArray} {pc : Nat} {ls : Array Slot} {rest : List Value}
theorem q_iadd {x y : Int32} (hx : p.tables.exec = Jvm.exec) (hb : c.code = cc) (d : decode cc pc = .ok (.iadd, 1)) (k : ∀ z : Int32, z = x + y → W p l e R s m args below meth c H locs cells slots Q (F0 m (pc + 1) ls (.int z :: rest))) : W p l e R s m args below meth c H locs cells slots Q (F0 m pc ls (.int y :: .int x :: rest)) := lv_iadd hx hb d (k _ rfl)
theorem q_isub {x y : Int32} (hx : p.tables.exec = Jvm.exec) (hb : c.code = cc) (d : decode cc pc = .ok (.isub, 1)) (k : ∀ z : Int32, z = x - y → W p l e R s m args below meth c H locs cells slots Q (F0 m (pc + 1) ls (.int z :: rest))) : W p l e R s m args below meth c H locs cells slots Q (F0 m pc ls (.int y :: .int x :: rest)) := lv_isub hx hb d (k _ rfl)
theorem q_imul {x y : Int32} (hx : p.tables.exec = Jvm.exec) (hb : c.code = cc) (d : decode cc pc = .ok (.imul, 1)) (k : ∀ z : Int32, z = x * y → W p l e R s m args below meth c H locs cells slots Q (F0 m (pc + 1) ls (.int z :: rest))) : W p l e R s m args below meth c H locs cells slots Q (F0 m pc ls (.int y :: .int x :: rest)) := lv_imul hx hb d (k _ rfl)
theorem q_iand {x y : Int32} (hx : p.tables.exec = Jvm.exec) (hb : c.code = cc) (d : decode cc pc = .ok (.iand, 1)) (k : ∀ z : Int32, z = x &&& y → W p l e R s m args below meth c H locs cells slots Q (F0 m (pc + 1) ls (.int z :: rest))) : W p l e R s m args below meth c H locs cells slots Q (F0 m pc ls (.int y :: .int x :: rest)) := lv_iand hx hb d (k _ rfl)
theorem q_ior {x y : Int32} (hx : p.tables.exec = Jvm.exec) (hb : c.code = cc) (d : decode cc pc = .ok (.ior, 1)) (k : ∀ z : Int32, z = x ||| y → W p l e R s m args below meth c H locs cells slots Q (F0 m (pc + 1) ls (.int z :: rest))) : W p l e R s m args below meth c H locs cells slots Q (F0 m pc ls (.int y :: .int x :: rest)) := lv_ior hx hb d (k _ rfl)
theorem q_ixor {x y : Int32} (hx : p.tables.exec = Jvm.exec) (hb : c.code = cc) (d : decode cc pc = .ok (.ixor, 1)) (k : ∀ z : Int32, z = x ^^^ y → W p l e R s m args below meth c H locs cells slots Q (F0 m (pc + 1) ls (.int z :: rest))) : W p l e R s m args below meth c H locs cells slots Q (F0 m pc ls (.int y :: .int x :: rest)) := lv_ixor hx hb d (k _ rfl)
theorem q_ishl {x y : Int32} (hx : p.tables.exec = Jvm.exec) (hb : c.code = cc) (d : decode cc pc = .ok (.ishl, 1)) (k : ∀ z : Int32, z = x <<< (y &&& 31) → W p l e R s m args below meth c H locs cells slots Q (F0 m (pc + 1) ls (.int z :: rest))) : W p l e R s m args below meth c H locs cells slots Q (F0 m pc ls (.int y :: .int x :: rest)) := lv_ishl hx hb d (k _ rfl)
theorem q_ishr {x y : Int32} (hx : p.tables.exec = Jvm.exec) (hb : c.code = cc) (d : decode cc pc = .ok (.ishr, 1)) (k : ∀ z : Int32, z = x >>> (y &&& 31) → W p l e R s m args below meth c H locs cells slots Q (F0 m (pc + 1) ls (.int z :: rest))) : W p l e R s m args below meth c H locs cells slots Q (F0 m pc ls (.int y :: .int x :: rest)) := lv_ishr hx hb d (k _ rfl)
theorem q_ladd {x y : Int64} (hx : p.tables.exec = Jvm.exec) (hb : c.code = cc) (d : decode cc pc = .ok (.ladd, 1)) (k : ∀ z : Int64, z = x + y → W p l e R s m args below meth c H locs cells slots Q (F0 m (pc + 1) ls (.long z :: rest))) : W p l e R s m args below meth c H locs cells slots Q (F0 m pc ls (.long y :: .long x :: rest)) := lv_ladd hx hb d (k _ rfl)
theorem q_lsub {x y : Int64} (hx : p.tables.exec = Jvm.exec) (hb : c.code = cc) (d : decode cc pc = .ok (.lsub, 1)) (k : ∀ z : Int64, z = x - y → W p l e R s m args below meth c H locs cells slots Q (F0 m (pc + 1) ls (.long z :: rest))) : W p l e R s m args below meth c H locs cells slots Q (F0 m pc ls (.long y :: .long x :: rest)) := lv_lsub hx hb d (k _ rfl)
theorem q_lmul {x y : Int64} (hx : p.tables.exec = Jvm.exec) (hb : c.code = cc) (d : decode cc pc = .ok (.lmul, 1)) (k : ∀ z : Int64, z = x * y → W p l e R s m args below meth c H locs cells slots Q (F0 m (pc + 1) ls (.long z :: rest))) : W p l e R s m args below meth c H locs cells slots Q (F0 m pc ls (.long y :: .long x :: rest)) := lv_lmul hx hb d (k _ rfl)
theorem q_i2l {x : Int32} (hx : p.tables.exec = Jvm.exec) (hb : c.code = cc) (d : decode cc pc = .ok (.i2l, 1)) (k : ∀ z : Int64, x.toInt64 = z → W p l e R s m args below meth c H locs cells slots Q (F0 m (pc + 1) ls (.long z :: rest))) : W p l e R s m args below meth c H locs cells slots Q (F0 m pc ls (.int x :: rest)) := lv_i2l hx hb d rfl (k _ rfl)
theorem q_l2i {x : Int64} (hx : p.tables.exec = Jvm.exec) (hb : c.code = cc) (d : decode cc pc = .ok (.l2i, 1)) (k : ∀ z : Int32, x.toInt32 = z → W p l e R s m args below meth c H locs cells slots Q (F0 m (pc + 1) ls (.int z :: rest))) : W p l e R s m args below meth c H locs cells slots Q (F0 m pc ls (.long x :: rest)) := lv_l2i hx hb d rfl (k _ rfl)
theorem q_i2b {x : Int32} (hx : p.tables.exec = Jvm.exec) (hb : c.code = cc) (d : decode cc pc = .ok (.i2b, 1)) (k : ∀ z : Int32, x.toInt8.toInt32 = z → W p l e R s m args below meth c H locs cells slots Q (F0 m (pc + 1) ls (.int z :: rest))) : W p l e R s m args below meth c H locs cells slots Q (F0 m pc ls (.int x :: rest)) := lv_i2b hx hb d rfl (k _ rfl)
end RowsQ
end
