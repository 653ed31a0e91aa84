section
-- ===== PART A: goes FIRST, ahead of the names: the tables' words, and 'selects' of the private methods out of them =====
/-- a private method of a class that the tables say can be made, by its rows of tables_1 -/
def lw_okq (q : MethodName × Nat) : Prop := (q.1.cls ≠ "java/lang/invoke/MethodHandle" ∧ q.1.cls ≠ "java/lang/invoke/VarHandle") ∧ Cond.instantiable q.1.cls q.2 ∈ tables_1 ∧ Cond.privateMethod q.1 ∈ tables_1 ∧ Cond.instanceMethod q.1 ∈ tables_1
theorem lw_p0 : lw_okq (⟨"StandTugs$Field", "areAllGone", "()Z"⟩, 10) := ⟨⟨by decide +kernel, by decide +kernel⟩, List.mem_of_getElem? (i := 26) (by decide +kernel), List.mem_of_getElem? (i := 300) (by decide +kernel), List.mem_of_getElem? (i := 301) (by decide +kernel)⟩
theorem lw_p1 : lw_okq (⟨"StandTugs$Field", "workTugs", "()V"⟩, 10) := ⟨⟨by decide +kernel, by decide +kernel⟩, List.mem_of_getElem? (i := 26) (by decide +kernel), List.mem_of_getElem? (i := 312) (by decide +kernel), List.mem_of_getElem? (i := 313) (by decide +kernel)⟩
theorem lw_p2 : lw_okq (⟨"StandTugs$Field", "finish", "(I)V"⟩, 10) := ⟨⟨by decide +kernel, by decide +kernel⟩, List.mem_of_getElem? (i := 26) (by decide +kernel), List.mem_of_getElem? (i := 316) (by decide +kernel), List.mem_of_getElem? (i := 317) (by decide +kernel)⟩
theorem lw_p3 : lw_okq (⟨"StandTugs$Field", "receive", "()V"⟩, 10) := ⟨⟨by decide +kernel, by decide +kernel⟩, List.mem_of_getElem? (i := 26) (by decide +kernel), List.mem_of_getElem? (i := 324) (by decide +kernel), List.mem_of_getElem? (i := 325) (by decide +kernel)⟩
theorem lw_p4 : lw_okq (⟨"StandTugs$Field", "freeStandFor", "(I)I"⟩, 10) := ⟨⟨by decide +kernel, by decide +kernel⟩, List.mem_of_getElem? (i := 26) (by decide +kernel), List.mem_of_getElem? (i := 328) (by decide +kernel), List.mem_of_getElem? (i := 329) (by decide +kernel)⟩
theorem lw_p5 : lw_okq (⟨"StandTugs$Field", "pushBack", "()V"⟩, 10) := ⟨⟨by decide +kernel, by decide +kernel⟩, List.mem_of_getElem? (i := 26) (by decide +kernel), List.mem_of_getElem? (i := 336) (by decide +kernel), List.mem_of_getElem? (i := 337) (by decide +kernel)⟩
theorem lw_p6 : lw_okq (⟨"StandTugs$Field", "nextToLeave", "(I)I"⟩, 10) := ⟨⟨by decide +kernel, by decide +kernel⟩, List.mem_of_getElem? (i := 26) (by decide +kernel), List.mem_of_getElem? (i := 340) (by decide +kernel), List.mem_of_getElem? (i := 341) (by decide +kernel)⟩
theorem lw_p7 : lw_okq (⟨"StandTugs$Field", "turn", "(I)I"⟩, 10) := ⟨⟨by decide +kernel, by decide +kernel⟩, List.mem_of_getElem? (i := 26) (by decide +kernel), List.mem_of_getElem? (i := 348) (by decide +kernel), List.mem_of_getElem? (i := 349) (by decide +kernel)⟩
theorem lw_p8 : lw_okq (⟨"StandTugs$Field", "isCurfew", "()Z"⟩, 10) := ⟨⟨by decide +kernel, by decide +kernel⟩, List.mem_of_getElem? (i := 26) (by decide +kernel), List.mem_of_getElem? (i := 356) (by decide +kernel), List.mem_of_getElem? (i := 357) (by decide +kernel)⟩
theorem lw_p9 : lw_okq (⟨"StandTugs$Field", "isPushedFrom", "(I)Z"⟩, 10) := ⟨⟨by decide +kernel, by decide +kernel⟩, List.mem_of_getElem? (i := 26) (by decide +kernel), List.mem_of_getElem? (i := 360) (by decide +kernel), List.mem_of_getElem? (i := 361) (by decide +kernel)⟩
theorem lw_p10 : lw_okq (⟨"StandTugs$Field", "freeTugFor", "(I)I"⟩, 10) := ⟨⟨by decide +kernel, by decide +kernel⟩, List.mem_of_getElem? (i := 26) (by decide +kernel), List.mem_of_getElem? (i := 364) (by decide +kernel), List.mem_of_getElem? (i := 365) (by decide +kernel)⟩
theorem lw_p11 : lw_okq (⟨"StandTugs$Field", "beginPush", "(I)V"⟩, 10) := ⟨⟨by decide +kernel, by decide +kernel⟩, List.mem_of_getElem? (i := 26) (by decide +kernel), List.mem_of_getElem? (i := 368) (by decide +kernel), List.mem_of_getElem? (i := 369) (by decide +kernel)⟩
theorem lw_p12 : lw_okq (⟨"StandTugs$Field", "tow", "()V"⟩, 10) := ⟨⟨by decide +kernel, by decide +kernel⟩, List.mem_of_getElem? (i := 26) (by decide +kernel), List.mem_of_getElem? (i := 376) (by decide +kernel), List.mem_of_getElem? (i := 377) (by decide +kernel)⟩
theorem lw_p13 : lw_okq (⟨"StandTugs$Field", "quietMinutes", "()I"⟩, 10) := ⟨⟨by decide +kernel, by decide +kernel⟩, List.mem_of_getElem? (i := 26) (by decide +kernel), List.mem_of_getElem? (i := 380) (by decide +kernel), List.mem_of_getElem? (i := 381) (by decide +kernel)⟩
theorem lw_p14 : lw_okq (⟨"StandTugs$Field", "countMinutes", "(I)V"⟩, 10) := ⟨⟨by decide +kernel, by decide +kernel⟩, List.mem_of_getElem? (i := 26) (by decide +kernel), List.mem_of_getElem? (i := 390) (by decide +kernel), List.mem_of_getElem? (i := 391) (by decide +kernel)⟩
theorem lw_p15 : lw_okq (⟨"StandTugs$Timetable", "readAircraft", "(I)I"⟩, 9) := ⟨⟨by decide +kernel, by decide +kernel⟩, List.mem_of_getElem? (i := 213) (by decide +kernel), List.mem_of_getElem? (i := 418) (by decide +kernel), List.mem_of_getElem? (i := 419) (by decide +kernel)⟩
def lw_privs_1 : List (MethodName × Nat) := [(⟨"StandTugs$Field", "areAllGone", "()Z"⟩, 10), (⟨"StandTugs$Field", "workTugs", "()V"⟩, 10), (⟨"StandTugs$Field", "finish", "(I)V"⟩, 10), (⟨"StandTugs$Field", "receive", "()V"⟩, 10), (⟨"StandTugs$Field", "freeStandFor", "(I)I"⟩, 10), (⟨"StandTugs$Field", "pushBack", "()V"⟩, 10), (⟨"StandTugs$Field", "nextToLeave", "(I)I"⟩, 10), (⟨"StandTugs$Field", "turn", "(I)I"⟩, 10), (⟨"StandTugs$Field", "isCurfew", "()Z"⟩, 10), (⟨"StandTugs$Field", "isPushedFrom", "(I)Z"⟩, 10), (⟨"StandTugs$Field", "freeTugFor", "(I)I"⟩, 10), (⟨"StandTugs$Field", "beginPush", "(I)V"⟩, 10), (⟨"StandTugs$Field", "tow", "()V"⟩, 10), (⟨"StandTugs$Field", "quietMinutes", "()I"⟩, 10), (⟨"StandTugs$Field", "countMinutes", "(I)V"⟩, 10), (⟨"StandTugs$Timetable", "readAircraft", "(I)I"⟩, 9)]
theorem lw_r1 : ∀ q ∈ lw_privs_1, lw_okq q := List.forall_mem_cons.mpr ⟨lw_p0, List.forall_mem_cons.mpr ⟨lw_p1, List.forall_mem_cons.mpr ⟨lw_p2, List.forall_mem_cons.mpr ⟨lw_p3, List.forall_mem_cons.mpr ⟨lw_p4, List.forall_mem_cons.mpr ⟨lw_p5, List.forall_mem_cons.mpr ⟨lw_p6, List.forall_mem_cons.mpr ⟨lw_p7, List.forall_mem_cons.mpr ⟨lw_p8, List.forall_mem_cons.mpr ⟨lw_p9, List.forall_mem_cons.mpr ⟨lw_p10, List.forall_mem_cons.mpr ⟨lw_p11, List.forall_mem_cons.mpr ⟨lw_p12, List.forall_mem_cons.mpr ⟨lw_p13, List.forall_mem_cons.mpr ⟨lw_p14, List.forall_mem_cons.mpr ⟨lw_p15, fun _ h => absurd h List.not_mem_nil⟩⟩⟩⟩⟩⟩⟩⟩⟩⟩⟩⟩⟩⟩⟩⟩
theorem lw_p16 : lw_okq (⟨"StandTugs$Timetable", "digitHere", "()I"⟩, 9) := ⟨⟨by decide +kernel, by decide +kernel⟩, List.mem_of_getElem? (i := 213) (by decide +kernel), List.mem_of_getElem? (i := 422) (by decide +kernel), List.mem_of_getElem? (i := 423) (by decide +kernel)⟩
theorem lw_p17 : lw_okq (⟨"StandTugs$Timetable", "byteHere", "()I"⟩, 9) := ⟨⟨by decide +kernel, by decide +kernel⟩, List.mem_of_getElem? (i := 213) (by decide +kernel), List.mem_of_getElem? (i := 426) (by decide +kernel), List.mem_of_getElem? (i := 427) (by decide +kernel)⟩
theorem lw_p18 : lw_okq (⟨"StandTugs$Timetable", "readMinutes", "(I)I"⟩, 9) := ⟨⟨by decide +kernel, by decide +kernel⟩, List.mem_of_getElem? (i := 213) (by decide +kernel), List.mem_of_getElem? (i := 433) (by decide +kernel), List.mem_of_getElem? (i := 434) (by decide +kernel)⟩
theorem lw_p19 : lw_okq (⟨"StandTugs$Timetable", "readNumber", "(III)I"⟩, 9) := ⟨⟨by decide +kernel, by decide +kernel⟩, List.mem_of_getElem? (i := 213) (by decide +kernel), List.mem_of_getElem? (i := 437) (by decide +kernel), List.mem_of_getElem? (i := 438) (by decide +kernel)⟩
theorem lw_p20 : lw_okq (⟨"StandTugs$Timetable", "readSign", "(I)I"⟩, 9) := ⟨⟨by decide +kernel, by decide +kernel⟩, List.mem_of_getElem? (i := 213) (by decide +kernel), List.mem_of_getElem? (i := 441) (by decide +kernel), List.mem_of_getElem? (i := 442) (by decide +kernel)⟩
theorem lw_p21 : lw_okq (⟨"StandTugs", "save", "()V"⟩, 5) := ⟨⟨by decide +kernel, by decide +kernel⟩, List.mem_of_getElem? (i := 18) (by decide +kernel), List.mem_of_getElem? (i := 445) (by decide +kernel), List.mem_of_getElem? (i := 446) (by decide +kernel)⟩
theorem lw_p22 : lw_okq (⟨"StandTugs", "dropOldest", "()V"⟩, 5) := ⟨⟨by decide +kernel, by decide +kernel⟩, List.mem_of_getElem? (i := 18) (by decide +kernel), List.mem_of_getElem? (i := 449) (by decide +kernel), List.mem_of_getElem? (i := 450) (by decide +kernel)⟩
theorem lw_p23 : lw_okq (⟨"StandTugs$Field", "greatestDelay", "()I"⟩, 10) := ⟨⟨by decide +kernel, by decide +kernel⟩, List.mem_of_getElem? (i := 26) (by decide +kernel), List.mem_of_getElem? (i := 476) (by decide +kernel), List.mem_of_getElem? (i := 477) (by decide +kernel)⟩
theorem lw_p24 : lw_okq (⟨"java/lang/Throwable", "fillInStackTrace", "(I)Ljava/lang/Throwable;"⟩, 6) := ⟨⟨by decide +kernel, by decide +kernel⟩, List.mem_of_getElem? (i := 552) (by decide +kernel), List.mem_of_getElem? (i := 550) (by decide +kernel), List.mem_of_getElem? (i := 551) (by decide +kernel)⟩
theorem lw_p25 : lw_okq (⟨"StandTugsModel", "begins", "(II)V"⟩, 12) := ⟨⟨by decide +kernel, by decide +kernel⟩, List.mem_of_getElem? (i := 771) (by decide +kernel), List.mem_of_getElem? (i := 777) (by decide +kernel), List.mem_of_getElem? (i := 778) (by decide +kernel)⟩
theorem lw_p26 : lw_okq (⟨"StandTugsModel", "clears", "()V"⟩, 12) := ⟨⟨by decide +kernel, by decide +kernel⟩, List.mem_of_getElem? (i := 771) (by decide +kernel), List.mem_of_getElem? (i := 787) (by decide +kernel), List.mem_of_getElem? (i := 788) (by decide +kernel)⟩
theorem lw_p27 : lw_okq (⟨"StandTugsModel", "throwing", "(I)I"⟩, 12) := ⟨⟨by decide +kernel, by decide +kernel⟩, List.mem_of_getElem? (i := 771) (by decide +kernel), List.mem_of_getElem? (i := 842) (by decide +kernel), List.mem_of_getElem? (i := 843) (by decide +kernel)⟩
theorem lw_p28 : lw_okq (⟨"StandTugsModel", "save", "()V"⟩, 12) := ⟨⟨by decide +kernel, by decide +kernel⟩, List.mem_of_getElem? (i := 771) (by decide +kernel), List.mem_of_getElem? (i := 846) (by decide +kernel), List.mem_of_getElem? (i := 847) (by decide +kernel)⟩
theorem lw_p29 : lw_okq (⟨"StandTugsModel", "fine", "(I)I"⟩, 12) := ⟨⟨by decide +kernel, by decide +kernel⟩, List.mem_of_getElem? (i := 771) (by decide +kernel), List.mem_of_getElem? (i := 850) (by decide +kernel), List.mem_of_getElem? (i := 851) (by decide +kernel)⟩
theorem lw_p30 : lw_okq (⟨"StandTugsModel", "isStand", "(I)Z"⟩, 12) := ⟨⟨by decide +kernel, by decide +kernel⟩, List.mem_of_getElem? (i := 771) (by decide +kernel), List.mem_of_getElem? (i := 858) (by decide +kernel), List.mem_of_getElem? (i := 859) (by decide +kernel)⟩
theorem lw_p31 : lw_okq (⟨"StandTugsModel", "isTug", "(I)Z"⟩, 12) := ⟨⟨by decide +kernel, by decide +kernel⟩, List.mem_of_getElem? (i := 771) (by decide +kernel), List.mem_of_getElem? (i := 867) (by decide +kernel), List.mem_of_getElem? (i := 868) (by decide +kernel)⟩
def lw_privs_2 : List (MethodName × Nat) := [(⟨"StandTugs$Timetable", "digitHere", "()I"⟩, 9), (⟨"StandTugs$Timetable", "byteHere", "()I"⟩, 9), (⟨"StandTugs$Timetable", "readMinutes", "(I)I"⟩, 9), (⟨"StandTugs$Timetable", "readNumber", "(III)I"⟩, 9), (⟨"StandTugs$Timetable", "readSign", "(I)I"⟩, 9), (⟨"StandTugs", "save", "()V"⟩, 5), (⟨"StandTugs", "dropOldest", "()V"⟩, 5), (⟨"StandTugs$Field", "greatestDelay", "()I"⟩, 10), (⟨"java/lang/Throwable", "fillInStackTrace", "(I)Ljava/lang/Throwable;"⟩, 6), (⟨"StandTugsModel", "begins", "(II)V"⟩, 12), (⟨"StandTugsModel", "clears", "()V"⟩, 12), (⟨"StandTugsModel", "throwing", "(I)I"⟩, 12), (⟨"StandTugsModel", "save", "()V"⟩, 12), (⟨"StandTugsModel", "fine", "(I)I"⟩, 12), (⟨"StandTugsModel", "isStand", "(I)Z"⟩, 12), (⟨"StandTugsModel", "isTug", "(I)Z"⟩, 12)]
theorem lw_r2 : ∀ q ∈ lw_privs_2, lw_okq q := List.forall_mem_cons.mpr ⟨lw_p16, List.forall_mem_cons.mpr ⟨lw_p17, List.forall_mem_cons.mpr ⟨lw_p18, List.forall_mem_cons.mpr ⟨lw_p19, List.forall_mem_cons.mpr ⟨lw_p20, List.forall_mem_cons.mpr ⟨lw_p21, List.forall_mem_cons.mpr ⟨lw_p22, List.forall_mem_cons.mpr ⟨lw_p23, List.forall_mem_cons.mpr ⟨lw_p24, List.forall_mem_cons.mpr ⟨lw_p25, List.forall_mem_cons.mpr ⟨lw_p26, List.forall_mem_cons.mpr ⟨lw_p27, List.forall_mem_cons.mpr ⟨lw_p28, List.forall_mem_cons.mpr ⟨lw_p29, List.forall_mem_cons.mpr ⟨lw_p30, List.forall_mem_cons.mpr ⟨lw_p31, fun _ h => absurd h List.not_mem_nil⟩⟩⟩⟩⟩⟩⟩⟩⟩⟩⟩⟩⟩⟩⟩⟩
theorem lw_p32 : lw_okq (⟨"StandTugsModel", "adds", "(IIIII)V"⟩, 12) := ⟨⟨by decide +kernel, by decide +kernel⟩, List.mem_of_getElem? (i := 771) (by decide +kernel), List.mem_of_getElem? (i := 884) (by decide +kernel), List.mem_of_getElem? (i := 885) (by decide +kernel)⟩
theorem lw_p33 : lw_okq (⟨"StandTugsModel", "isPlane", "(I)Z"⟩, 12) := ⟨⟨by decide +kernel, by decide +kernel⟩, List.mem_of_getElem? (i := 771) (by decide +kernel), List.mem_of_getElem? (i := 895) (by decide +kernel), List.mem_of_getElem? (i := 896) (by decide +kernel)⟩
theorem lw_p34 : lw_okq (⟨"StandTugsModel", "of", "(II)I"⟩, 12) := ⟨⟨by decide +kernel, by decide +kernel⟩, List.mem_of_getElem? (i := 771) (by decide +kernel), List.mem_of_getElem? (i := 899) (by decide +kernel), List.mem_of_getElem? (i := 900) (by decide +kernel)⟩
theorem lw_p35 : lw_okq (⟨"StandTugsModel", "inState", "(I)I"⟩, 12) := ⟨⟨by decide +kernel, by decide +kernel⟩, List.mem_of_getElem? (i := 771) (by decide +kernel), List.mem_of_getElem? (i := 908) (by decide +kernel), List.mem_of_getElem? (i := 909) (by decide +kernel)⟩
theorem lw_p36 : lw_okq (⟨"StandTugsModel", "minute", "()V"⟩, 12) := ⟨⟨by decide +kernel, by decide +kernel⟩, List.mem_of_getElem? (i := 771) (by decide +kernel), List.mem_of_getElem? (i := 912) (by decide +kernel), List.mem_of_getElem? (i := 913) (by decide +kernel)⟩
theorem lw_p37 : lw_okq (⟨"StandTugsModel", "tugs", "()V"⟩, 12) := ⟨⟨by decide +kernel, by decide +kernel⟩, List.mem_of_getElem? (i := 771) (by decide +kernel), List.mem_of_getElem? (i := 916) (by decide +kernel), List.mem_of_getElem? (i := 917) (by decide +kernel)⟩
theorem lw_p38 : lw_okq (⟨"StandTugsModel", "writes", "(II)V"⟩, 12) := ⟨⟨by decide +kernel, by decide +kernel⟩, List.mem_of_getElem? (i := 771) (by decide +kernel), List.mem_of_getElem? (i := 920) (by decide +kernel), List.mem_of_getElem? (i := 921) (by decide +kernel)⟩
theorem lw_p39 : lw_okq (⟨"StandTugsModel", "arrivals", "()V"⟩, 12) := ⟨⟨by decide +kernel, by decide +kernel⟩, List.mem_of_getElem? (i := 771) (by decide +kernel), List.mem_of_getElem? (i := 924) (by decide +kernel), List.mem_of_getElem? (i := 925) (by decide +kernel)⟩
theorem lw_p40 : lw_okq (⟨"StandTugsModel", "standFor", "(I)I"⟩, 12) := ⟨⟨by decide +kernel, by decide +kernel⟩, List.mem_of_getElem? (i := 771) (by decide +kernel), List.mem_of_getElem? (i := 928) (by decide +kernel), List.mem_of_getElem? (i := 929) (by decide +kernel)⟩
theorem lw_p41 : lw_okq (⟨"StandTugsModel", "planeOf", "(I)I"⟩, 12) := ⟨⟨by decide +kernel, by decide +kernel⟩, List.mem_of_getElem? (i := 771) (by decide +kernel), List.mem_of_getElem? (i := 932) (by decide +kernel), List.mem_of_getElem? (i := 933) (by decide +kernel)⟩
theorem lw_p42 : lw_okq (⟨"StandTugsModel", "buses", "(I)V"⟩, 12) := ⟨⟨by decide +kernel, by decide +kernel⟩, List.mem_of_getElem? (i := 771) (by decide +kernel), List.mem_of_getElem? (i := 936) (by decide +kernel), List.mem_of_getElem? (i := 937) (by decide +kernel)⟩
theorem lw_p43 : lw_okq (⟨"StandTugsModel", "pushbacks", "()V"⟩, 12) := ⟨⟨by decide +kernel, by decide +kernel⟩, List.mem_of_getElem? (i := 771) (by decide +kernel), List.mem_of_getElem? (i := 940) (by decide +kernel), List.mem_of_getElem? (i := 941) (by decide +kernel)⟩
theorem lw_p44 : lw_okq (⟨"StandTugsModel", "whyNot", "(I)I"⟩, 12) := ⟨⟨by decide +kernel, by decide +kernel⟩, List.mem_of_getElem? (i := 771) (by decide +kernel), List.mem_of_getElem? (i := 944) (by decide +kernel), List.mem_of_getElem? (i := 945) (by decide +kernel)⟩
theorem lw_p45 : lw_okq (⟨"StandTugsModel", "isCurfew", "()Z"⟩, 12) := ⟨⟨by decide +kernel, by decide +kernel⟩, List.mem_of_getElem? (i := 771) (by decide +kernel), List.mem_of_getElem? (i := 948) (by decide +kernel), List.mem_of_getElem? (i := 949) (by decide +kernel)⟩
theorem lw_p46 : lw_okq (⟨"StandTugsModel", "isPushedFrom", "(I)Z"⟩, 12) := ⟨⟨by decide +kernel, by decide +kernel⟩, List.mem_of_getElem? (i := 771) (by decide +kernel), List.mem_of_getElem? (i := 952) (by decide +kernel), List.mem_of_getElem? (i := 953) (by decide +kernel)⟩
theorem lw_p47 : lw_okq (⟨"StandTugsModel", "tugFor", "(I)I"⟩, 12) := ⟨⟨by decide +kernel, by decide +kernel⟩, List.mem_of_getElem? (i := 771) (by decide +kernel), List.mem_of_getElem? (i := 956) (by decide +kernel), List.mem_of_getElem? (i := 957) (by decide +kernel)⟩
def lw_privs_3 : List (MethodName × Nat) := [(⟨"StandTugsModel", "adds", "(IIIII)V"⟩, 12), (⟨"StandTugsModel", "isPlane", "(I)Z"⟩, 12), (⟨"StandTugsModel", "of", "(II)I"⟩, 12), (⟨"StandTugsModel", "inState", "(I)I"⟩, 12), (⟨"StandTugsModel", "minute", "()V"⟩, 12), (⟨"StandTugsModel", "tugs", "()V"⟩, 12), (⟨"StandTugsModel", "writes", "(II)V"⟩, 12), (⟨"StandTugsModel", "arrivals", "()V"⟩, 12), (⟨"StandTugsModel", "standFor", "(I)I"⟩, 12), (⟨"StandTugsModel", "planeOf", "(I)I"⟩, 12), (⟨"StandTugsModel", "buses", "(I)V"⟩, 12), (⟨"StandTugsModel", "pushbacks", "()V"⟩, 12), (⟨"StandTugsModel", "whyNot", "(I)I"⟩, 12), (⟨"StandTugsModel", "isCurfew", "()Z"⟩, 12), (⟨"StandTugsModel", "isPushedFrom", "(I)Z"⟩, 12), (⟨"StandTugsModel", "tugFor", "(I)I"⟩, 12)]
theorem lw_r3 : ∀ q ∈ lw_privs_3, lw_okq q := List.forall_mem_cons.mpr ⟨lw_p32, List.forall_mem_cons.mpr ⟨lw_p33, List.forall_mem_cons.mpr ⟨lw_p34, List.forall_mem_cons.mpr ⟨lw_p35, List.forall_mem_cons.mpr ⟨lw_p36, List.forall_mem_cons.mpr ⟨lw_p37, List.forall_mem_cons.mpr ⟨lw_p38, List.forall_mem_cons.mpr ⟨lw_p39, List.forall_mem_cons.mpr ⟨lw_p40, List.forall_mem_cons.mpr ⟨lw_p41, List.forall_mem_cons.mpr ⟨lw_p42, List.forall_mem_cons.mpr ⟨lw_p43, List.forall_mem_cons.mpr ⟨lw_p44, List.forall_mem_cons.mpr ⟨lw_p45, List.forall_mem_cons.mpr ⟨lw_p46, List.forall_mem_cons.mpr ⟨lw_p47, fun _ h => absurd h List.not_mem_nil⟩⟩⟩⟩⟩⟩⟩⟩⟩⟩⟩⟩⟩⟩⟩⟩
theorem lw_p48 : lw_okq (⟨"StandTugsModel", "pushes", "(I)V"⟩, 12) := ⟨⟨by decide +kernel, by decide +kernel⟩, List.mem_of_getElem? (i := 771) (by decide +kernel), List.mem_of_getElem? (i := 960) (by decide +kernel), List.mem_of_getElem? (i := 961) (by decide +kernel)⟩
theorem lw_p49 : lw_okq (⟨"StandTugsModel", "takes", "(IIII)V"⟩, 12) := ⟨⟨by decide +kernel, by decide +kernel⟩, List.mem_of_getElem? (i := 771) (by decide +kernel), List.mem_of_getElem? (i := 964) (by decide +kernel), List.mem_of_getElem? (i := 965) (by decide +kernel)⟩
theorem lw_p50 : lw_okq (⟨"StandTugsModel", "towing", "()V"⟩, 12) := ⟨⟨by decide +kernel, by decide +kernel⟩, List.mem_of_getElem? (i := 771) (by decide +kernel), List.mem_of_getElem? (i := 968) (by decide +kernel), List.mem_of_getElem? (i := 969) (by decide +kernel)⟩
theorem lw_p51 : lw_okq (⟨"StandTugsModel", "standOf", "(II)I"⟩, 12) := ⟨⟨by decide +kernel, by decide +kernel⟩, List.mem_of_getElem? (i := 771) (by decide +kernel), List.mem_of_getElem? (i := 981) (by decide +kernel), List.mem_of_getElem? (i := 982) (by decide +kernel)⟩
theorem lw_p52 : lw_okq (⟨"StandTugsModel", "valueOf", "(I)I"⟩, 12) := ⟨⟨by decide +kernel, by decide +kernel⟩, List.mem_of_getElem? (i := 771) (by decide +kernel), List.mem_of_getElem? (i := 994) (by decide +kernel), List.mem_of_getElem? (i := 995) (by decide +kernel)⟩
theorem lw_p53 : lw_okq (⟨"StandTugsModel", "delays", "(Z)I"⟩, 12) := ⟨⟨by decide +kernel, by decide +kernel⟩, List.mem_of_getElem? (i := 771) (by decide +kernel), List.mem_of_getElem? (i := 998) (by decide +kernel), List.mem_of_getElem? (i := 999) (by decide +kernel)⟩
theorem lw_p54 : lw_okq (⟨"StandTugsModel", "laysAside", "()V"⟩, 12) := ⟨⟨by decide +kernel, by decide +kernel⟩, List.mem_of_getElem? (i := 771) (by decide +kernel), List.mem_of_getElem? (i := 1015) (by decide +kernel), List.mem_of_getElem? (i := 1016) (by decide +kernel)⟩
theorem lw_p55 : lw_okq (⟨"StandTugsModel", "takesBack", "()V"⟩, 12) := ⟨⟨by decide +kernel, by decide +kernel⟩, List.mem_of_getElem? (i := 771) (by decide +kernel), List.mem_of_getElem? (i := 1019) (by decide +kernel), List.mem_of_getElem? (i := 1020) (by decide +kernel)⟩
theorem lw_p56 : lw_okq (⟨"StandTugsModel", "minutesIf", "()I"⟩, 12) := ⟨⟨by decide +kernel, by decide +kernel⟩, List.mem_of_getElem? (i := 771) (by decide +kernel), List.mem_of_getElem? (i := 1027) (by decide +kernel), List.mem_of_getElem? (i := 1028) (by decide +kernel)⟩
theorem lw_p57 : lw_okq (⟨"StandTugsModel", "toAll", "()I"⟩, 12) := ⟨⟨by decide +kernel, by decide +kernel⟩, List.mem_of_getElem? (i := 771) (by decide +kernel), List.mem_of_getElem? (i := 1031) (by decide +kernel), List.mem_of_getElem? (i := 1032) (by decide +kernel)⟩
theorem lw_p58 : lw_okq (⟨"StandTugsModel", "readsText", "()Z"⟩, 12) := ⟨⟨by decide +kernel, by decide +kernel⟩, List.mem_of_getElem? (i := 771) (by decide +kernel), List.mem_of_getElem? (i := 1060) (by decide +kernel), List.mem_of_getElem? (i := 1061) (by decide +kernel)⟩
theorem lw_p59 : lw_okq (⟨"StandTugsModel", "readsPlane", "()Z"⟩, 12) := ⟨⟨by decide +kernel, by decide +kernel⟩, List.mem_of_getElem? (i := 771) (by decide +kernel), List.mem_of_getElem? (i := 1064) (by decide +kernel), List.mem_of_getElem? (i := 1065) (by decide +kernel)⟩
theorem lw_p60 : lw_okq (⟨"StandTugsModel", "readsDigit", "(II)Z"⟩, 12) := ⟨⟨by decide +kernel, by decide +kernel⟩, List.mem_of_getElem? (i := 771) (by decide +kernel), List.mem_of_getElem? (i := 1068) (by decide +kernel), List.mem_of_getElem? (i := 1069) (by decide +kernel)⟩
theorem lw_p61 : lw_okq (⟨"StandTugsModel", "here", "()I"⟩, 12) := ⟨⟨by decide +kernel, by decide +kernel⟩, List.mem_of_getElem? (i := 771) (by decide +kernel), List.mem_of_getElem? (i := 1072) (by decide +kernel), List.mem_of_getElem? (i := 1073) (by decide +kernel)⟩
theorem lw_p62 : lw_okq (⟨"StandTugsModel", "readsNumber", "(III)Z"⟩, 12) := ⟨⟨by decide +kernel, by decide +kernel⟩, List.mem_of_getElem? (i := 771) (by decide +kernel), List.mem_of_getElem? (i := 1077) (by decide +kernel), List.mem_of_getElem? (i := 1078) (by decide +kernel)⟩
theorem lw_p63 : lw_okq (⟨"StandTugsModel", "passes", "(I)Z"⟩, 12) := ⟨⟨by decide +kernel, by decide +kernel⟩, List.mem_of_getElem? (i := 771) (by decide +kernel), List.mem_of_getElem? (i := 1083) (by decide +kernel), List.mem_of_getElem? (i := 1084) (by decide +kernel)⟩
def lw_privs_4 : List (MethodName × Nat) := [(⟨"StandTugsModel", "pushes", "(I)V"⟩, 12), (⟨"StandTugsModel", "takes", "(IIII)V"⟩, 12), (⟨"StandTugsModel", "towing", "()V"⟩, 12), (⟨"StandTugsModel", "standOf", "(II)I"⟩, 12), (⟨"StandTugsModel", "valueOf", "(I)I"⟩, 12), (⟨"StandTugsModel", "delays", "(Z)I"⟩, 12), (⟨"StandTugsModel", "laysAside", "()V"⟩, 12), (⟨"StandTugsModel", "takesBack", "()V"⟩, 12), (⟨"StandTugsModel", "minutesIf", "()I"⟩, 12), (⟨"StandTugsModel", "toAll", "()I"⟩, 12), (⟨"StandTugsModel", "readsText", "()Z"⟩, 12), (⟨"StandTugsModel", "readsPlane", "()Z"⟩, 12), (⟨"StandTugsModel", "readsDigit", "(II)Z"⟩, 12), (⟨"StandTugsModel", "here", "()I"⟩, 12), (⟨"StandTugsModel", "readsNumber", "(III)Z"⟩, 12), (⟨"StandTugsModel", "passes", "(I)Z"⟩, 12)]
theorem lw_r4 : ∀ q ∈ lw_privs_4, lw_okq q := List.forall_mem_cons.mpr ⟨lw_p48, List.forall_mem_cons.mpr ⟨lw_p49, List.forall_mem_cons.mpr ⟨lw_p50, List.forall_mem_cons.mpr ⟨lw_p51, List.forall_mem_cons.mpr ⟨lw_p52, List.forall_mem_cons.mpr ⟨lw_p53, List.forall_mem_cons.mpr ⟨lw_p54, List.forall_mem_cons.mpr ⟨lw_p55, List.forall_mem_cons.mpr ⟨lw_p56, List.forall_mem_cons.mpr ⟨lw_p57, List.forall_mem_cons.mpr ⟨lw_p58, List.forall_mem_cons.mpr ⟨lw_p59, List.forall_mem_cons.mpr ⟨lw_p60, List.forall_mem_cons.mpr ⟨lw_p61, List.forall_mem_cons.mpr ⟨lw_p62, List.forall_mem_cons.mpr ⟨lw_p63, fun _ h => absurd h List.not_mem_nil⟩⟩⟩⟩⟩⟩⟩⟩⟩⟩⟩⟩⟩⟩⟩⟩
def lw_privs : List (MethodName × Nat) := lw_privs_1 ++ (lw_privs_2 ++ (lw_privs_3 ++ (lw_privs_4)))
def lw_tbl : List Cond := k2_sels lw_privs ++ tables_1
theorem lw_privs_ok : ∀ q ∈ lw_privs, lw_okq q := by
  show ∀ q ∈ lw_privs_1 ++ (lw_privs_2 ++ (lw_privs_3 ++ (lw_privs_4))), lw_okq q
  exact List.forall_mem_append.mpr ⟨lw_r1, List.forall_mem_append.mpr ⟨lw_r2, List.forall_mem_append.mpr ⟨lw_r3, lw_r4⟩⟩⟩
/-- the streams that the claim lets the run draw from -/
abbrev lw_cs : List Choice := [Jvm.Choice.named "NaN.bits"]
theorem lw_bits : nanBits ∈ lw_cs := by first | decide | exact List.mem_cons_self | simp [lw_cs, nanBits]
-- ===== end of PART A; then your names; then what follows =====
end
section
/-! ===== BEGIN words of one list among another's, by their places ===== -/
theorem goodIn_r {big : List Cond} (ws : List Cond) (ps : List Nat) (hp : ws = ps.filterMap (fun i => big[i]?)) (h : ws.all goodWord = true) : GoodIn big ws := by
  intro w hw
  have h1 := List.all_eq_true.mp h w hw
  rw [hp] at hw
  obtain ⟨i, -, hi⟩ := List.mem_filterMap.mp hw
  have hm : w ∈ big := by first | exact List.mem_of_getElem? hi | exact List.getElem?_mem hi
  exact ⟨hm, good_of_word h1⟩
theorem goodIn_app {big a b : List Cond} (ha : GoodIn big a) (hb : GoodIn big b) : GoodIn big (a ++ b) := fun w h => (List.mem_append.mp h).elim (ha w) (hb w)
theorem goodIn_ca {big a b : List Cond} {c : Cond} (ha : GoodIn big (c :: a)) (hb : GoodIn big b) : GoodIn big (c :: (a ++ b)) := fun w h => (List.mem_cons.mp h).elim (fun e => ha w (List.mem_cons.mpr (Or.inl e))) (fun h => (List.mem_append.mp h).elim (fun h => ha w (List.mem_cons.mpr (Or.inr h))) (hb w))
theorem goodIn_sub {big ws : List Cond} (hm : ∀ w ∈ ws, w ∈ big) (h : ws.all goodWord = true) : GoodIn big ws := fun w hw => ⟨hm w hw, good_of_word (List.all_eq_true.mp h w hw)⟩
/-! ===== END ===== -/

/-! ===== BEGIN exceptions that leave a method, and their catching by the caller (launches without stack traces) ===== -/
section VXA
/-! The laws vx_back, vx_callV, vx_callS, vx_callSW, vx_throw0, vx_throwS follow proofs of the library, with one case more: JvmDerived/Free/Laws.lean (Back.of_free), Shelf42/LK1.lean (callV, callS), Shelf/KitTraced.lean (throwNew0V, throwNewS). -/
/-- where a method has thrown q: the class by its name, the cell, what was written, the world -/
def vx_T (XC : String → State → State → Prop) (st : State) (q : Addr) (t : State) (mc ms : Nat) (free : Addr → Prop) : Prop :=
  ∃ (E : String) (ce : Cell) (L : List Loc), XC E st t ∧ t.heap[q]? = some ce ∧ ce.vm = .none ∧ st.vm.findClass E = some ce.cls ∧ st.WarmedH t.vm ∧ st.sameButNew ({ t with vm := st.vm } : State) L mc ms ∧ ∀ z ∈ L, free z.base
def vx_Q (Qc : Array Value → State → Outcome → State → Prop) (XC : String → State → State → Prop) (mc ms : Nat) (free : Addr → Prop) : Array Value → State → Outcome → State → Prop := fun a st o t =>
  (Qc a st o t ∧ ∃ L, FrameEnd st o t L mc ms ∧ ∀ q ∈ L, free q.base) ∨ ∃ q, o = .threw q ∧ vx_T XC st q t mc ms free
/-- a callee that returns or throws -/
def vx_Met (l : Launch) (y : MethodName) (ws : List Cond) (rm : Room) (Pc : Array Value → State → Prop) (Qc : Array Value → State → Outcome → State → Prop) (XC : String → State → State → Prop) (mc ms : Nat) (free : Addr → Prop) : Prop :=
  MetFree l y (headSpec ws rm) Pc (fun _ _ _ _ _ => True) (vx_Q Qc XC mc ms free)
def vx_Post (XC : String → State → State → Prop) (mc ms : Nat) (free : Addr → Prop) : Pt → Array Value → Addr → Pt → Prop := fun A a q B =>
  ∃ (g : JFrame) (mk : MethodId) (t : State) (L : List Loc) (E : String) (ce : Cell), B.U.heap = t.heap ∧ B.U.vm = t.vm ∧ XC E (A.U.calling g mk a) t ∧ t.heap[q]? = some ce ∧ ce.vm = .none ∧ A.U.vm.findClass E = some ce.cls ∧ B.locs = A.locs ++ L ∧ (∀ z ∈ L, free z.base) ∧ B.cells = A.cells + mc ∧ B.slots = A.slots + ms
def vx_Back (l : Launch) (R : Room) (p : Program) (e : Env) (below : List Frame) (s : State) (sargs : Array Value) (y : MethodName) (len W9 : Nat)
    (Pre : Pt → Array Value → Prop) (Post : Pt → Array Value → Option Value → Pt → Prop) (PostX : Pt → Array Value → Addr → Pt → Prop) : Prop :=
  ∀ (m : MethodId) (meth : Method) (c : Code) (A : Pt) (g : JFrame) (ig : Instr) (mk : MethodId) (a : Array Value),
    Stand p l e R s m sargs below meth c A.U A.locs A.cells A.slots → g.method = m → g.locals.size = c.maxLocals → decode c.code g.pc = .ok (ig, len) →
    2 * g.monitorRoom + (g.stack.map fun v => v.category).sum ≤ W9 → A.U.methodNamed? y = some mk → Pre A a →
    (∃ (v : Option Value) (B : Pt), Stand p l e R s m sargs below meth c B.U B.locs B.cells B.slots ∧ Post A a v B ∧
      Steps p.tables e below (doInvoke e (A.U.setTop g) [] mk a).1 (B.U.setTop { g with pc := g.pc + len, stack := v.toList ++ g.stack })) ∨
    (∃ (q : Addr) (B : Pt), Stand p l e R s m sargs below meth c B.U B.locs B.cells B.slots ∧ PostX A a q B ∧
      Steps p.tables e below (doInvoke e (A.U.setTop g) [] mk a).1 ((B.U.setTop g).pushFrame (.throwing q)))
section Payer
variable {l : Launch} {R : Room} {p : Program} {e : Env} {below : List Frame} {s : State} {sargs : Array Value} {y : MethodName} {len W9 : Nat}
theorem vx_back {ws : List Cond} {rm : Room} {Pc : Array Value → State → Prop} {Qc : Array Value → State → Outcome → State → Prop} {XC : String → State → State → Prop} {mc ms : Nat} {free : Addr → Prop} {bytes : ByteArray} {maxL : Nat} {ret : Option FieldType}
    (hM : vx_Met l y ws rm Pc Qc XC mc ms free) (hblind : FrameBlind Pc) (hrc : rm.cells = mc) (hrs : rm.slots = ms)
    (hframes : rm.frames + 1 ≤ R.frames) (hlocals : W9 + (maxL + 11) + rm.locals ≤ R.locals)
    (hws : ∀ w ∈ ws, ∀ a' U, s.WarmedH U.vm → w.before a' U = true) (hcode : Cond.code y bytes maxL ret ∈ ws) (hinit : ∀ a' U, s.WarmedH U.vm → (Cond.initialized y.cls).before a' U = true) :
    vx_Back l R p e below s sargs y len W9 (PreOf R mc ms Pc) (PostOf Qc mc ms free) (vx_Post XC mc ms free) := by
  intro m meth c A g ig mk a X hg hsize hdg hW hn hp
  have h1 : (headSpec ws rm).pre.before a A.U = true := atoms_intro fun w hw => hws w hw _ _ X.warmed
  have h2 : (Cond.code y bytes maxL ret).before a A.U = true := hws _ hcode _ _ X.warmed
  have h3 : (Cond.initialized y.cls).before a A.U = true := hinit _ _ X.warmed
  have h4 : A.cells + (headSpec ws rm).room.cells ≤ R.cells := by rw [show (headSpec ws rm).room.cells = mc from hrc]; exact hp.1
  have h5 : A.slots + (headSpec ws rm).room.slots ≤ R.slots := by rw [show (headSpec ws rm).room.slots = ms from hrs]; exact hp.2.1
  have hPc : Pc a (A.U.calling g mk a) := hblind _ _ _ _ hp.2.2
  obtain ⟨U, Ls, c0, s0⟩ := A
  dsimp only [Pt.U, Pt.locs, Pt.cells, Pt.slots] at h1 h2 h3 h4 h5 X hn hPc ⊢
  obtain ⟨methY, cY, hmY, hcY, -, hlY, -, -, -, -⟩ := Cond.code_spec hn h2
  obtain ⟨kY, hkY, -⟩ := className_of_methodNamed hn
  have hinitY : kY.init = .initialized := Cond.initialized_spec (findClass_of_methodNamed hn) hkY h3
  have h : At U g.method c below := by rw [hg]; exact X.here
  have hlocals9 : W9 + (maxL + 11) + (headSpec ws rm).room.locals ≤ R.locals := hlocals
  have happ : (headSpec ws rm).appliesLoose y e.platform (U.calling g mk a) = true :=
    Spec.appliesLoose_calling (g := g) h hdg hn hkY hinitY
      (X.room_calling (g := g) (R' := (headSpec ws rm).room) hsize hmY hcY hframes (by rw [hlY]; omega) h4 h5) h1
  obtain ⟨mid, hmid⟩ := h.above
  have hfr : (U.setTop g).frames = (.java g :: mid) ++ below := by rw [State.frames_setTop' g h.top, hmid]; rfl
  obtain ⟨o, s₂, hsteps, -, hend, hq⟩ := Steps.callFree hM p X.admits X.cas X.clock (acts := []) hfr happ hPc trivial
  have hq' : vx_Q Qc XC mc ms free a (U.calling g mk a) o s₂ := hq
  rw [State.frames_setTop' g h.top] at hend
  obtain ⟨g₀, hg0⟩ := Option.isSome_iff_exists.mp h.top
  obtain ⟨r, hr⟩ := State.topJava?_eq_some.mp hg0
  have hr' : (({ U with heap := s₂.heap, slotsUsed := s₂.slotsUsed } : State).setVm s₂.vm).frames = .java g₀ :: r := hr
  rcases hq' with ⟨hqc, L, hfe, hL⟩ | ⟨q, rfl, E, ce, L, hx, hce, hcv, hcl, hW₂, hsm, hL⟩
  · obtain ⟨⟨v, rfl⟩, hW₂, e2, q2, q3, q4, q5, q6⟩ := id hfe
    have e3 : s₂ = ({ (U.calling g mk a).setFrames s₂.frames with heap := s₂.heap, slotsUsed := s₂.slotsUsed } : State).setVm s₂.vm := by
      have : s₂ = ({ s₂ with vm := (U.calling g mk a).vm } : State).setVm s₂.vm := rfl
      rw [e2] at this
      exact this
    obtain ⟨c₂, i₂, len₂, hc₂, hd₂, hf₂⟩ := hend
    have hW' : U.WarmedH s₂.vm := hW₂
    have hcc : c₂ = c := by
      have h1 : s₂.code? g.method = U.code? g.method := by
        rw [State.code?_eq, State.code?_eq, hW'.alike.method?]
      exact Option.some.inj (hc₂.symm.trans (h1.trans h.code))
    subst hcc
    have hlen : len₂ = len := by rw [hdg] at hd₂; cases hd₂; rfl
    subst hlen
    have hs₂ : s₂ = (({ U with heap := s₂.heap, slotsUsed := s₂.slotsUsed } : State).setVm s₂.vm).setTop { g with pc := g.pc + len₂, stack := v.toList ++ g.stack } := by
      refine e3.trans ?_
      rw [hf₂, State.calling_eq h.top, State.setFrames_setFrames, State.setTop_of_frames _ hr', hr]
      rfl
    have hsame : U.sameButNew ({ U with heap := s₂.heap, slotsUsed := s₂.slotsUsed } : State) L mc ms := by
      refine ⟨?_, q2, q3, q4, q5, q6⟩
      obtain ⟨t, ht, -⟩ := State.frames_cons hr
      show ({ U with heap := s₂.heap, slotsUsed := s₂.slotsUsed } : State) = { U.setFrames U.frames with heap := s₂.heap, slotsUsed := s₂.slotsUsed }
      rw [State.setFrames_self ht]
    subst hg
    refine Or.inl ⟨v, ⟨(({ U with heap := s₂.heap, slotsUsed := s₂.slotsUsed } : State).setVm s₂.vm), Ls ++ L, c0 + mc, s0 + ms⟩,
      ⟨X.admits, X.cas, X.clock, X.frames, X.room, X.hears, X.method, X.code, (X.here.setHeapUsed s₂.heap s₂.slotsUsed).setVm hW'.alike, X.tail, State.WarmedH.trans X.warmed hW', X.limits, X.bytes, X.same.trans (hsame.setVm s.vm)⟩,
      ⟨g, mk, s₂, L, rfl, rfl, hqc, rfl, hL, rfl, rfl⟩, ?_⟩
    show Steps p.tables e below _ ((({ U with heap := s₂.heap, slotsUsed := s₂.slotsUsed } : State).setVm s₂.vm).setTop { g with pc := g.pc + len₂, stack := v.toList ++ g.stack })
    rw [← hs₂]
    exact hsteps
  · obtain ⟨e2, q2, q3, q4, q5, q6⟩ := id hsm
    have e3 : s₂ = ({ (U.calling g mk a).setFrames s₂.frames with heap := s₂.heap, slotsUsed := s₂.slotsUsed } : State).setVm s₂.vm := by
      have : s₂ = ({ s₂ with vm := (U.calling g mk a).vm } : State).setVm s₂.vm := rfl
      rw [e2] at this
      exact this
    have hf₂ : s₂.frames = .throwing q :: .java g :: U.frames.tail := hend
    have hW' : U.WarmedH s₂.vm := hW₂
    have hs₂ : s₂ = ((({ U with heap := s₂.heap, slotsUsed := s₂.slotsUsed } : State).setVm s₂.vm).setTop g).pushFrame (.throwing q) := by
      refine e3.trans ?_
      rw [hf₂, State.calling_eq h.top, State.setFrames_setFrames, State.pushFrame, State.frames_setTop _ hr', State.setTop_of_frames _ hr', State.setFrames_setFrames, hr]
      rfl
    have hsame : U.sameButNew ({ U with heap := s₂.heap, slotsUsed := s₂.slotsUsed } : State) L mc ms := by
      refine ⟨?_, q2, q3, q4, q5, q6⟩
      obtain ⟨t, ht, -⟩ := State.frames_cons hr
      show ({ U with heap := s₂.heap, slotsUsed := s₂.slotsUsed } : State) = { U.setFrames U.frames with heap := s₂.heap, slotsUsed := s₂.slotsUsed }
      rw [State.setFrames_self ht]
    subst hg
    refine Or.inr ⟨q, ⟨(({ U with heap := s₂.heap, slotsUsed := s₂.slotsUsed } : State).setVm s₂.vm), Ls ++ L, c0 + mc, s0 + ms⟩,
      ⟨X.admits, X.cas, X.clock, X.frames, X.room, X.hears, X.method, X.code, (X.here.setHeapUsed s₂.heap s₂.slotsUsed).setVm hW'.alike, X.tail, State.WarmedH.trans X.warmed hW', X.limits, X.bytes, X.same.trans (hsame.setVm s.vm)⟩,
      ⟨g, mk, s₂, L, E, ce, rfl, rfl, hx, hce, hcv, hcl, rfl, hL, rfl, rfl⟩, ?_⟩
    show Steps p.tables e below _ (((({ U with heap := s₂.heap, slotsUsed := s₂.slotsUsed } : State).setVm s₂.vm).setTop g).pushFrame (.throwing q))
    rw [← hs₂]
    exact hsteps
end Payer
section Calls
variable {p : Program} {l : Launch} {e : Env} {R : Room} {s : State} {m : MethodId} {args : Array Value} {below : List Frame} {meth : Method} {c : Code} {T : State} {locs : List Loc} {cells slots : Nat}
theorem vx_callV (X : Stand p l e R s m args below meth c T locs cells slots) (hexec : p.tables.exec = Jvm.exec) {own C : String} {index : Nat} {y : MethodName} {bytes : ByteArray} {maxL : Nat} {ret : Option FieldType}
    (hown : s.vm.findClass own = some m.cls) (hlink : (Cond.methodLink own index y).before args s = true) (hinst : (Cond.instanceMethod y).before args s = true) (hsel : (Cond.selects C y y).before args s = true)
    (hcode : (Cond.code y bytes maxL ret).before args s = true) (hy : y.cls ≠ "java/lang/invoke/MethodHandle" ∧ y.cls ≠ "java/lang/invoke/VarHandle")
    {W9 : Nat} {Pre : Pt → Array Value → Prop} {Post : Pt → Array Value → Option Value → Pt → Prop} {PostX : Pt → Array Value → Addr → Pt → Prop} (hK : vx_Back l R p e below s args y 3 W9 Pre Post PostX)
    {b : Addr} {cellB : Cell} (hcell : T.heap[b]? = some cellB) (hobj : cellB.vm.isStatics = false) (hcls : s.vm.findClass C = some cellB.cls)
    {g : JFrame} (hg : g.method = m) (hsize : g.locals.size = c.maxLocals) {argsL rest : List Value} (hlen : ∀ sig, parseMethodDescriptor y.desc = some sig → argsL.length = sig.parameters.length)
    (hstack : g.stack = argsL.reverse ++ .ref b :: rest) (hW : 2 * g.monitorRoom + (rest.map fun v => v.category).sum ≤ W9) (hdg : decode c.code g.pc = .ok (.invokevirtual index, 3))
    (hpre : ∀ vm₁, s.WarmedH vm₁ → Pre ⟨T.setVm vm₁, locs, cells, slots⟩ (Value.ref b :: argsL).toArray) :
    (∃ (v : Option Value) (vm₁ : Vm) (B : Pt), s.WarmedH vm₁ ∧ Stand p l e R s m args below meth c B.U B.locs B.cells B.slots ∧ Post ⟨T.setVm vm₁, locs, cells, slots⟩ (Value.ref b :: argsL).toArray v B ∧
      ∀ target, Steps p.tables e below (B.U.setTop { g with pc := g.pc + 3, stack := v.toList ++ rest }) target → Steps p.tables e below (T.setTop g) target) ∨
    (∃ (q : Addr) (vm₁ : Vm) (B : Pt), s.WarmedH vm₁ ∧ Stand p l e R s m args below meth c B.U B.locs B.cells B.slots ∧ PostX ⟨T.setVm vm₁, locs, cells, slots⟩ (Value.ref b :: argsL).toArray q B ∧
      Steps p.tables e below (T.setTop g) ((B.U.setTop { g with stack := rest }).pushFrame (.throwing q))) := by
  obtain ⟨mk, methM, hnamed, hmethM, hstM, habM⟩ := Cond.instanceMethod_spec hinst
  obtain ⟨methM', cM, hmethM', -, -, -, -, -, -, hsigM⟩ := Cond.code_spec hnamed hcode
  cases hmethM.symm.trans hmethM'
  obtain ⟨c2, r2, m2, q1, q2, q3, q4, kP, hkP, hkPi⟩ := Cond.selects_spec hsel
  cases hcls.symm.trans q1
  cases (State.methodFound?_of_named hnamed hy).symm.trans q2
  cases hnamed.symm.trans q3
  have hselP : selectMethod e.platform s.vm cellB.cls mk = .method mk := by rw [Launch.admits_selectMethod X.admits]; exact q4
  obtain ⟨vm₁, X₁, hstep₁⟩ := X.invokevirtual hexec hown hlink hnamed hmethM hstM hkP hkPi hy (a := b) (cell := cellB) hcell
    (fun z h => by rw [h] at hobj; cases hobj) hselP hmethM habM hkP hkPi (g := g) hg (argsL := argsL) (rest := rest) (hlen _ hsigM) hstack hdg
  rcases hK m meth c ⟨T.setVm vm₁, locs, cells, slots⟩ { g with stack := rest } (.invokevirtual index) mk (Value.ref b :: argsL).toArray X₁ hg hsize hdg hW (X₁.named hnamed) (hpre vm₁ X₁.warmed) with ⟨v, B, X', hpost, hsteps⟩ | ⟨q, B, X', hpost, hsteps⟩
  · exact Or.inl ⟨v, vm₁, B, X₁.warmed, X', hpost, fun target h => hstep₁ _ fun acts => by rw [doInvoke_state]; exact hsteps.trans h⟩
  · exact Or.inr ⟨q, vm₁, B, X₁.warmed, X', hpost, hstep₁ _ fun acts => by rw [doInvoke_state]; exact hsteps⟩
theorem vx_callS (X : Stand p l e R s m args below meth c T locs cells slots) (hexec : p.tables.exec = Jvm.exec) {own : String} {index : Nat} {y : MethodName} {bytes : ByteArray} {maxL : Nat} {ret : Option FieldType}
    (hown : s.vm.findClass own = some m.cls) (hlink : (Cond.methodLink own index y).before args s = true) (hstat : (Cond.static y).before args s = true) (hinit : (Cond.initialized y.cls).before args s = true)
    (hcode : (Cond.code y bytes maxL ret).before args s = true) (hy : y.cls ≠ "java/lang/invoke/MethodHandle" ∧ y.cls ≠ "java/lang/invoke/VarHandle")
    {W9 : Nat} {Pre : Pt → Array Value → Prop} {Post : Pt → Array Value → Option Value → Pt → Prop} {PostX : Pt → Array Value → Addr → Pt → Prop} (hK : vx_Back l R p e below s args y 3 W9 Pre Post PostX)
    {g : JFrame} (hg : g.method = m) (hsize : g.locals.size = c.maxLocals) {argsL rest : List Value} (hlen : ∀ sig, parseMethodDescriptor y.desc = some sig → argsL.length = sig.parameters.length)
    (hstack : g.stack = argsL.reverse ++ rest) (hW : 2 * g.monitorRoom + (rest.map fun v => v.category).sum ≤ W9) (hdg : decode c.code g.pc = .ok (.invokestatic index, 3))
    (hpre : ∀ vm₁, s.WarmedH vm₁ → Pre ⟨T.setVm vm₁, locs, cells, slots⟩ argsL.toArray) :
    (∃ (v : Option Value) (vm₁ : Vm) (B : Pt), s.WarmedH vm₁ ∧ Stand p l e R s m args below meth c B.U B.locs B.cells B.slots ∧ Post ⟨T.setVm vm₁, locs, cells, slots⟩ argsL.toArray v B ∧
      ∀ target, Steps p.tables e below (B.U.setTop { g with pc := g.pc + 3, stack := v.toList ++ rest }) target → Steps p.tables e below (T.setTop g) target) ∨
    (∃ (q : Addr) (vm₁ : Vm) (B : Pt), s.WarmedH vm₁ ∧ Stand p l e R s m args below meth c B.U B.locs B.cells B.slots ∧ PostX ⟨T.setVm vm₁, locs, cells, slots⟩ argsL.toArray q B ∧
      Steps p.tables e below (T.setTop g) ((B.U.setTop { g with stack := rest }).pushFrame (.throwing q))) := by
  obtain ⟨mk, hnamed⟩ := Cond.code_named hcode
  obtain ⟨methM, cM, hmethM, -, -, -, -, -, -, hsigM⟩ := Cond.code_spec hnamed hcode
  have hstatic : methM.isStatic = true := Cond.static_spec hnamed hmethM hstat
  obtain ⟨kP, hkP, -⟩ := className_of_methodNamed hnamed
  have hinitP : kP.init = .initialized := Cond.initialized_spec (findClass_of_methodNamed hnamed) hkP hinit
  obtain ⟨vm₁, X₁, hstep₁⟩ := X.invokestatic hexec hown hlink hnamed hmethM hstatic hkP hinitP hy (g := g) hg (argsL := argsL) (rest := rest) (hlen _ hsigM) hstack hdg
  rcases hK m meth c ⟨T.setVm vm₁, locs, cells, slots⟩ { g with stack := rest } (.invokestatic index) mk argsL.toArray X₁ hg hsize hdg hW (X₁.named hnamed) (hpre vm₁ X₁.warmed) with ⟨v, B, X', hpost, hsteps⟩ | ⟨q, B, X', hpost, hsteps⟩
  · exact Or.inl ⟨v, vm₁, B, X₁.warmed, X', hpost, fun target h => hstep₁ _ fun acts => by rw [doInvoke_state]; exact hsteps.trans h⟩
  · exact Or.inr ⟨q, vm₁, B, X₁.warmed, X', hpost, hstep₁ _ fun acts => by rw [doInvoke_state]; exact hsteps⟩
end Calls
theorem vx_cls {s : State} {T : State} {vm₁ : Vm} {E : String} {k : ClassId} (hW : s.WarmedH vm₁) (h : (T.setVm vm₁).vm.findClass E = some k) : s.vm.findClass E = some k := by
  have h1 : vm₁.findClass E = some k := h
  rw [hW.alike.findClass] at h1
  exact h1
/-- the method's frame g, with q thrown over it -/
def vx_W (p : Program) (l : Launch) (e : Env) (R : Room) (s : State) (m : MethodId) (args : Array Value) (below : List Frame) (meth : Method) (c : Code) (H : Heap) (locs : List Loc) (cells slots : Nat) (Q : State → Prop) (g : JFrame) (q : Addr) : Prop :=
  ∀ T : State, T.heap = H → Stand p l e R s m args below meth c T locs cells slots → ∃ t, Steps p.tables e below ((T.setTop g).pushFrame (.throwing q)) t ∧ Q t
def vx_Run (p : Program) (l : Launch) (e : Env) (R : Room) (s : State) (m : MethodId) (args : Array Value) (below : List Frame) (meth : Method) (c : Code) (H : Heap) (locs : List Loc) (cells slots mc ms : Nat) (g : JFrame) (rest : List Value) (Qa : State → Outcome → State → Prop) (XC : String → State → State → Prop) (free : Addr → Prop) : Prop :=
  ∀ T : State, T.heap = H → Stand p l e R s m args below meth c T locs cells slots →
    (∃ (v : Option Value) (st₀ t T' : State) (L : List Loc), st₀.heap = H ∧ Stand p l e R s m args below meth c T' (locs ++ L) (cells + mc) (slots + ms) ∧ (∀ q ∈ L, free q.base) ∧ T'.heap = t.heap ∧ T'.vm = t.vm ∧ Qa st₀ (.returned v) t ∧
      Goes p e below T g T' { g with pc := g.pc + 3, stack := v.toList ++ rest }) ∨
    (∃ (q : Addr) (st₀ t T' : State) (L : List Loc) (E : String) (ce : Cell), st₀.heap = H ∧ Stand p l e R s m args below meth c T' (locs ++ L) (cells + mc) (slots + ms) ∧ (∀ z ∈ L, free z.base) ∧ T'.heap = t.heap ∧ T'.vm = t.vm ∧ XC E st₀ t ∧ t.heap[q]? = some ce ∧ ce.vm = .none ∧ s.vm.findClass E = some ce.cls ∧
      Steps p.tables e below (T.setTop g) ((T'.setTop { g with stack := rest }).pushFrame (.throwing q)))
def vx_X {S : Type} (px : S → Prop) (B : String → S → State → Prop) (A : Nat → Prop) : String → State → State → Prop := fun E st t => ∃ u : S, px u ∧ B E u t ∧ va_F A st t
section Runs
variable {p : Program} {l : Launch} {e : Env} {R : Room} {s : State} {m : MethodId} {args : Array Value} {below : List Frame} {meth : Method} {c : Code} {H : Heap} {locs : List Loc} {cells slots : Nat}
variable {y : MethodName} {bytes cc : ByteArray} {maxL nL mc ms n index : Nat} {ret : Option FieldType} {ws : List Cond} {rm : Room} {Pc : Array Value → State → Prop} {Qc : Array Value → State → Outcome → State → Prop} {XC : String → State → State → Prop} {free : Addr → Prop} {Ts : List Cond} {own C : String} {b : Addr} {As rest : List Value} {g : JFrame}
theorem vx_callBack (cb : CallB R s args own index y bytes maxL ret ws rm mc ms n) (hM : vx_Met l y ws rm Pc Qc XC mc ms free) (hbl : FrameBlind Pc) : vx_Back l R p e below s args y 3 8 (PreOf R mc ms Pc) (PostOf Qc mc ms free) (vx_Post XC mc ms free) := by
  obtain ⟨hrc, hrs, hfr, hlo, hws, hcw, -, hini, -⟩ := cb
  exact vx_back (bytes := bytes) (maxL := maxL) (ret := ret) hM hbl hrc hrs hfr hlo hws hcw (fun a' U hW => word_at hW (Or.inl (by first | rfl | simp [Cond.onTables, Cond.keeps, Cond.steady])) hini)
theorem vx_runV (S : CallFix p m c cc nL s args Ts own) (hM : vx_Met l y ws rm Pc Qc XC mc ms free) (cw : CallW R s args own C index y bytes maxL ret ws rm mc ms n) (hp : PreV s H C b Pc As)
    (hg : g.method = m) (hn : As.length = n) (hsize : g.locals.size = nL) (hstack : g.stack = As.reverse ++ .ref b :: rest) (hW : 2 * g.monitorRoom + (rest.map fun v => v.category).sum ≤ 8) (hdg : decode cc g.pc = .ok (.invokevirtual index, 3)) (hf : cells + mc ≤ R.cells ∧ slots + ms ≤ R.slots) :
    vx_Run p l e R s m args below meth c H locs cells slots mc ms g rest (Qc (Value.ref b :: As).toArray) XC free := by
  have hK : vx_Back l R p e below s args y 3 8 (PreOf R mc ms Pc) (PostOf Qc mc ms free) (vx_Post XC mc ms free) := vx_callBack cw.1 hM hp.1
  obtain ⟨⟨-, -, -, -, -, -, hcode, -, hy, hlen, hl⟩, hin, hse⟩ := cw
  obtain ⟨hx, hb, hml, ho, -⟩ := S
  obtain ⟨-, ⟨cellB, hcB, hoB, hclB⟩, hPc⟩ := hp
  intro T hT X
  rcases vx_callV X hx (C := C) (bytes := bytes) (maxL := maxL) (ret := ret) ho hl hin hse hcode hy hK (by rw [hT]; exact hcB) hoB hclB hg (hsize.trans hml.symm) (argsL := As) (rest := rest) (fun sig h => hn.trans (hlen sig h)) hstack hW (by rw [hb]; exact hdg)
    (fun vm₁ hW₁ => ⟨hf.1, hf.2, hPc (T.setVm vm₁) hT hW₁⟩) with ⟨v, vm₁, ⟨U', l2, c2, s2⟩, hW₁, X', ⟨g', mk, t, L, e1, e2, hq, h1, hL, h2, h3⟩, st⟩ | ⟨q, vm₁, ⟨U', l2, c2, s2⟩, hW₁, X', ⟨g', mk, t, L, E, ce, e1, e2, hq, hce, hcv, hcl, h1, hL, h2, h3⟩, st⟩
  · dsimp only [Pt.U, Pt.locs, Pt.cells, Pt.slots] at X' e1 e2 h1 h2 h3 st
    subst h1; subst h2; subst h3
    exact Or.inl ⟨v, (T.setVm vm₁).calling g' mk (Value.ref b :: As).toArray, t, U', L, hT, X', hL, e1, e2, hq, st⟩
  · dsimp only [Pt.U, Pt.locs, Pt.cells, Pt.slots] at X' e1 e2 h1 h2 h3 st hcl
    subst h1; subst h2; subst h3
    exact Or.inr ⟨q, (T.setVm vm₁).calling g' mk (Value.ref b :: As).toArray, t, U', L, E, ce, hT, X', hL, e1, e2, hq, hce, hcv, vx_cls hW₁ hcl, st⟩
theorem vx_runS (S : CallFix p m c cc nL s args Ts own) (hM : vx_Met l y ws rm Pc Qc XC mc ms free) (cw : CallB R s args own index y bytes maxL ret ws rm mc ms n ∧ (Cond.static y).before args s = true) (hp : PreS s H Pc As)
    (hg : g.method = m) (hn : As.length = n) (hsize : g.locals.size = nL) (hstack : g.stack = As.reverse ++ rest) (hW : 2 * g.monitorRoom + (rest.map fun v => v.category).sum ≤ 8) (hdg : decode cc g.pc = .ok (.invokestatic index, 3)) (hf : cells + mc ≤ R.cells ∧ slots + ms ≤ R.slots) :
    vx_Run p l e R s m args below meth c H locs cells slots mc ms g rest (Qc As.toArray) XC free := by
  have hK : vx_Back l R p e below s args y 3 8 (PreOf R mc ms Pc) (PostOf Qc mc ms free) (vx_Post XC mc ms free) := vx_callBack cw.1 hM hp.1
  obtain ⟨⟨-, -, -, -, -, -, hcode, hini, hy, hlen, hl⟩, hstt⟩ := cw
  obtain ⟨hx, hb, hml, ho, -⟩ := S
  intro T hT X
  rcases vx_callS X hx (bytes := bytes) (maxL := maxL) (ret := ret) ho hl hstt hini hcode hy hK hg (hsize.trans hml.symm) (argsL := As) (rest := rest) (fun sig h => hn.trans (hlen sig h)) hstack hW (by rw [hb]; exact hdg)
    (fun vm₁ hW₁ => ⟨hf.1, hf.2, hp.2 (T.setVm vm₁) hT hW₁⟩) with ⟨v, vm₁, ⟨U', l2, c2, s2⟩, hW₁, X', ⟨g', mk, t, L, e1, e2, hq, h1, hL, h2, h3⟩, st⟩ | ⟨q, vm₁, ⟨U', l2, c2, s2⟩, hW₁, X', ⟨g', mk, t, L, E, ce, e1, e2, hq, hce, hcv, hcl, h1, hL, h2, h3⟩, st⟩
  · dsimp only [Pt.U, Pt.locs, Pt.cells, Pt.slots] at X' e1 e2 h1 h2 h3 st
    subst h1; subst h2; subst h3
    exact Or.inl ⟨v, (T.setVm vm₁).calling g' mk As.toArray, t, U', L, hT, X', hL, e1, e2, hq, st⟩
  · dsimp only [Pt.U, Pt.locs, Pt.cells, Pt.slots] at X' e1 e2 h1 h2 h3 st hcl
    subst h1; subst h2; subst h3
    exact Or.inr ⟨q, (T.setVm vm₁).calling g' mk As.toArray, t, U', L, E, ce, hT, X', hL, e1, e2, hq, hce, hcv, vx_cls hW₁ hcl, st⟩
end Runs
section Rows
variable {p : Program} {l : Launch} {e : Env} {R : Room} {s : State} {m : MethodId} {args : Array Value} {below : List Frame} {meth : Method} {c : Code} {H : Heap} {locs : List Loc} {cells slots : Nat} {Q : State → Prop}
variable {mc ms : Nat} {free : Addr → Prop} {A0 A1 : Nat → Prop} {H0 : Heap} {a : Array Value} {pc : Nat} {ls : Array Slot} {st0 rest : List Value}
theorem vx_keep {st₀ t T' : State} {L : List Loc} (h0 : st₀.heap = H) (e1 : T'.heap = t.heap) (hS : va_S A0 H0 H locs) (hA : ∀ q, q < H.size → A1 q → A0 q) (hf : ∀ q, free q → A0 q) (hL : ∀ q ∈ L, free q.base) (hF : va_F A1 st₀ t) :
    H.size ≤ T'.heap.size ∧ (∀ q : Nat, q < H.size → ¬ A1 q → T'.heap[q]? = H[q]?) ∧ va_S A0 H0 T'.heap (locs ++ L) := by
  obtain ⟨hz, hk⟩ := hF
  rw [h0] at hz hk
  exact ⟨by rw [e1]; exact hz, fun q h1 h2 => by rw [e1]; exact hk q h1 h2,
    ⟨Nat.le_trans hS.1 (by rw [e1]; exact hz), fun q h1 h2 => by rw [e1, hk q (Nat.lt_of_lt_of_le h1 hS.1) (fun z => h2 (hA q (Nat.lt_of_lt_of_le h1 hS.1) z))]; exact hS.2.1 q h1 h2, fun q hq => by
      rcases List.mem_append.mp hq with h | h
      · exact hS.2.2 q h
      · exact hf _ (hL q h)⟩⟩
theorem vx_calli {S SX : Type} {post : Int32 → S → Prop} {px : SX → Prop} {B : S → State → Prop} {BX : String → SX → State → Prop} {AX : Nat → Prop} (hr : vx_Run p l e R s m args below meth c H locs cells slots mc ms (F0 m pc ls st0) rest (va_Qi post B A1 a) (vx_X px BX AX) free) (hS : va_S A0 H0 H locs) (hA : ∀ q, q < H.size → A1 q → A0 q) (hf : ∀ q, free q → A0 q) (hAX : ∀ q, q < H.size → AX q → A0 q)
    (kx : ∀ (E : String) (ce : Cell) (q9 : Addr) (u : SX) (t : State) (H1 : Heap) (locs1 : List Loc), t.heap = H1 → s.vm.Alike t.vm → px u → BX E u t → H.size ≤ H1.size → (∀ q : Nat, q < H.size → ¬ AX q → H1[q]? = H[q]?) → va_S A0 H0 H1 locs1 → H1[q9]? = some ce → ce.vm = .none → s.vm.findClass E = some ce.cls → vx_W p l e R s m args below meth c H1 locs1 (cells + mc) (slots + ms) Q (F0 m pc ls rest) q9)
    (kk : ∀ (r : Int32) (u : S) (t : State) (H1 : Heap) (locs1 : List Loc), t.heap = H1 → s.vm.Alike t.vm → post r u → B u t → H.size ≤ H1.size → (∀ q : Nat, q < H.size → ¬ A1 q → H1[q]? = H[q]?) → va_S A0 H0 H1 locs1 → W p l e R s m args below meth c H1 locs1 (cells + mc) (slots + ms) Q (F0 m (pc + 3) ls (.int r :: rest))) : W p l e R s m args below meth c H locs cells slots Q (F0 m pc ls st0) := by
  intro T hT X
  rcases hr T hT X with ⟨v, st₀, t, T', L, h0, X', hL, e1, e2, ⟨⟨r, u, hv, hp, hb⟩, hF⟩, st⟩ | ⟨q, st₀, t, T', L, E, ce, h0, X', hL, e1, e2, ⟨u, hp, hb, hF⟩, hce, hcv, hcl, st⟩
  · cases hv
    obtain ⟨k1, k2, k3⟩ := vx_keep h0 e1 hS hA hf hL hF
    obtain ⟨t2, a1, b1⟩ := kk r u t T'.heap (locs ++ L) e1.symm (by rw [← e2]; exact X'.warmed.alike) hp hb k1 k2 k3 T' rfl X'
    exact ⟨t2, st t2 a1, b1⟩
  · obtain ⟨k1, k2, k3⟩ := vx_keep h0 e1 hS hAX hf hL hF
    obtain ⟨t2, a1, b1⟩ := kx E ce q u t T'.heap (locs ++ L) e1.symm (by rw [← e2]; exact X'.warmed.alike) hp hb k1 k2 k3 (by rw [e1]; exact hce) hcv hcl T' rfl X'
    exact ⟨t2, st.trans a1, b1⟩
theorem vx_calll {S SX : Type} {post : Int64 → S → Prop} {px : SX → Prop} {B : S → State → Prop} {BX : String → SX → State → Prop} {AX : Nat → Prop} (hr : vx_Run p l e R s m args below meth c H locs cells slots mc ms (F0 m pc ls st0) rest (va_Ql post B A1 a) (vx_X px BX AX) free) (hS : va_S A0 H0 H locs) (hA : ∀ q, q < H.size → A1 q → A0 q) (hf : ∀ q, free q → A0 q) (hAX : ∀ q, q < H.size → AX q → A0 q)
    (kx : ∀ (E : String) (ce : Cell) (q9 : Addr) (u : SX) (t : State) (H1 : Heap) (locs1 : List Loc), t.heap = H1 → s.vm.Alike t.vm → px u → BX E u t → H.size ≤ H1.size → (∀ q : Nat, q < H.size → ¬ AX q → H1[q]? = H[q]?) → va_S A0 H0 H1 locs1 → H1[q9]? = some ce → ce.vm = .none → s.vm.findClass E = some ce.cls → vx_W p l e R s m args below meth c H1 locs1 (cells + mc) (slots + ms) Q (F0 m pc ls rest) q9)
    (kk : ∀ (r : Int64) (u : S) (t : State) (H1 : Heap) (locs1 : List Loc), t.heap = H1 → s.vm.Alike t.vm → post r u → B u t → H.size ≤ H1.size → (∀ q : Nat, q < H.size → ¬ A1 q → H1[q]? = H[q]?) → va_S A0 H0 H1 locs1 → W p l e R s m args below meth c H1 locs1 (cells + mc) (slots + ms) Q (F0 m (pc + 3) ls (.long r :: rest))) : W p l e R s m args below meth c H locs cells slots Q (F0 m pc ls st0) := by
  intro T hT X
  rcases hr T hT X with ⟨v, st₀, t, T', L, h0, X', hL, e1, e2, ⟨⟨r, u, hv, hp, hb⟩, hF⟩, st⟩ | ⟨q, st₀, t, T', L, E, ce, h0, X', hL, e1, e2, ⟨u, hp, hb, hF⟩, hce, hcv, hcl, st⟩
  · cases hv
    obtain ⟨k1, k2, k3⟩ := vx_keep h0 e1 hS hA hf hL hF
    obtain ⟨t2, a1, b1⟩ := kk r u t T'.heap (locs ++ L) e1.symm (by rw [← e2]; exact X'.warmed.alike) hp hb k1 k2 k3 T' rfl X'
    exact ⟨t2, st t2 a1, b1⟩
  · obtain ⟨k1, k2, k3⟩ := vx_keep h0 e1 hS hAX hf hL hF
    obtain ⟨t2, a1, b1⟩ := kx E ce q u t T'.heap (locs ++ L) e1.symm (by rw [← e2]; exact X'.warmed.alike) hp hb k1 k2 k3 (by rw [e1]; exact hce) hcv hcl T' rfl X'
    exact ⟨t2, st.trans a1, b1⟩
theorem vx_callf {S SX : Type} {post : UInt32 → S → Prop} {px : SX → Prop} {B : S → State → Prop} {BX : String → SX → State → Prop} {AX : Nat → Prop} (hr : vx_Run p l e R s m args below meth c H locs cells slots mc ms (F0 m pc ls st0) rest (va_Qf post B A1 a) (vx_X px BX AX) free) (hS : va_S A0 H0 H locs) (hA : ∀ q, q < H.size → A1 q → A0 q) (hf : ∀ q, free q → A0 q) (hAX : ∀ q, q < H.size → AX q → A0 q)
    (kx : ∀ (E : String) (ce : Cell) (q9 : Addr) (u : SX) (t : State) (H1 : Heap) (locs1 : List Loc), t.heap = H1 → s.vm.Alike t.vm → px u → BX E u t → H.size ≤ H1.size → (∀ q : Nat, q < H.size → ¬ AX q → H1[q]? = H[q]?) → va_S A0 H0 H1 locs1 → H1[q9]? = some ce → ce.vm = .none → s.vm.findClass E = some ce.cls → vx_W p l e R s m args below meth c H1 locs1 (cells + mc) (slots + ms) Q (F0 m pc ls rest) q9)
    (kk : ∀ (r : UInt32) (u : S) (t : State) (H1 : Heap) (locs1 : List Loc), t.heap = H1 → s.vm.Alike t.vm → post r u → B u t → H.size ≤ H1.size → (∀ q : Nat, q < H.size → ¬ A1 q → H1[q]? = H[q]?) → va_S A0 H0 H1 locs1 → W p l e R s m args below meth c H1 locs1 (cells + mc) (slots + ms) Q (F0 m (pc + 3) ls (.float r :: rest))) : W p l e R s m args below meth c H locs cells slots Q (F0 m pc ls st0) := by
  intro T hT X
  rcases hr T hT X with ⟨v, st₀, t, T', L, h0, X', hL, e1, e2, ⟨⟨r, u, hv, hp, hb⟩, hF⟩, st⟩ | ⟨q, st₀, t, T', L, E, ce, h0, X', hL, e1, e2, ⟨u, hp, hb, hF⟩, hce, hcv, hcl, st⟩
  · cases hv
    obtain ⟨k1, k2, k3⟩ := vx_keep h0 e1 hS hA hf hL hF
    obtain ⟨t2, a1, b1⟩ := kk r u t T'.heap (locs ++ L) e1.symm (by rw [← e2]; exact X'.warmed.alike) hp hb k1 k2 k3 T' rfl X'
    exact ⟨t2, st t2 a1, b1⟩
  · obtain ⟨k1, k2, k3⟩ := vx_keep h0 e1 hS hAX hf hL hF
    obtain ⟨t2, a1, b1⟩ := kx E ce q u t T'.heap (locs ++ L) e1.symm (by rw [← e2]; exact X'.warmed.alike) hp hb k1 k2 k3 (by rw [e1]; exact hce) hcv hcl T' rfl X'
    exact ⟨t2, st.trans a1, b1⟩
theorem vx_calld {S SX : Type} {post : UInt64 → S → Prop} {px : SX → Prop} {B : S → State → Prop} {BX : String → SX → State → Prop} {AX : Nat → Prop} (hr : vx_Run p l e R s m args below meth c H locs cells slots mc ms (F0 m pc ls st0) rest (va_Qd post B A1 a) (vx_X px BX AX) free) (hS : va_S A0 H0 H locs) (hA : ∀ q, q < H.size → A1 q → A0 q) (hf : ∀ q, free q → A0 q) (hAX : ∀ q, q < H.size → AX q → A0 q)
    (kx : ∀ (E : String) (ce : Cell) (q9 : Addr) (u : SX) (t : State) (H1 : Heap) (locs1 : List Loc), t.heap = H1 → s.vm.Alike t.vm → px u → BX E u t → H.size ≤ H1.size → (∀ q : Nat, q < H.size → ¬ AX q → H1[q]? = H[q]?) → va_S A0 H0 H1 locs1 → H1[q9]? = some ce → ce.vm = .none → s.vm.findClass E = some ce.cls → vx_W p l e R s m args below meth c H1 locs1 (cells + mc) (slots + ms) Q (F0 m pc ls rest) q9)
    (kk : ∀ (r : UInt64) (u : S) (t : State) (H1 : Heap) (locs1 : List Loc), t.heap = H1 → s.vm.Alike t.vm → post r u → B u t → H.size ≤ H1.size → (∀ q : Nat, q < H.size → ¬ A1 q → H1[q]? = H[q]?) → va_S A0 H0 H1 locs1 → W p l e R s m args below meth c H1 locs1 (cells + mc) (slots + ms) Q (F0 m (pc + 3) ls (.double r :: rest))) : W p l e R s m args below meth c H locs cells slots Q (F0 m pc ls st0) := by
  intro T hT X
  rcases hr T hT X with ⟨v, st₀, t, T', L, h0, X', hL, e1, e2, ⟨⟨r, u, hv, hp, hb⟩, hF⟩, st⟩ | ⟨q, st₀, t, T', L, E, ce, h0, X', hL, e1, e2, ⟨u, hp, hb, hF⟩, hce, hcv, hcl, st⟩
  · cases hv
    obtain ⟨k1, k2, k3⟩ := vx_keep h0 e1 hS hA hf hL hF
    obtain ⟨t2, a1, b1⟩ := kk r u t T'.heap (locs ++ L) e1.symm (by rw [← e2]; exact X'.warmed.alike) hp hb k1 k2 k3 T' rfl X'
    exact ⟨t2, st t2 a1, b1⟩
  · obtain ⟨k1, k2, k3⟩ := vx_keep h0 e1 hS hAX hf hL hF
    obtain ⟨t2, a1, b1⟩ := kx E ce q u t T'.heap (locs ++ L) e1.symm (by rw [← e2]; exact X'.warmed.alike) hp hb k1 k2 k3 (by rw [e1]; exact hce) hcv hcl T' rfl X'
    exact ⟨t2, st.trans a1, b1⟩
theorem vx_callv {S SX : Type} {post : S → Prop} {px : SX → Prop} {B : S → State → Prop} {BX : String → SX → State → Prop} {AX : Nat → Prop} (hr : vx_Run p l e R s m args below meth c H locs cells slots mc ms (F0 m pc ls st0) rest (va_Qv post B A1 a) (vx_X px BX AX) free) (hS : va_S A0 H0 H locs) (hA : ∀ q, q < H.size → A1 q → A0 q) (hf : ∀ q, free q → A0 q) (hAX : ∀ q, q < H.size → AX q → A0 q)
    (kx : ∀ (E : String) (ce : Cell) (q9 : Addr) (u : SX) (t : State) (H1 : Heap) (locs1 : List Loc), t.heap = H1 → s.vm.Alike t.vm → px u → BX E u t → H.size ≤ H1.size → (∀ q : Nat, q < H.size → ¬ AX q → H1[q]? = H[q]?) → va_S A0 H0 H1 locs1 → H1[q9]? = some ce → ce.vm = .none → s.vm.findClass E = some ce.cls → vx_W p l e R s m args below meth c H1 locs1 (cells + mc) (slots + ms) Q (F0 m pc ls rest) q9)
    (kk : ∀ (u : S) (t : State) (H1 : Heap) (locs1 : List Loc), t.heap = H1 → s.vm.Alike t.vm → post u → B u t → H.size ≤ H1.size → (∀ q : Nat, q < H.size → ¬ A1 q → H1[q]? = H[q]?) → va_S A0 H0 H1 locs1 → W p l e R s m args below meth c H1 locs1 (cells + mc) (slots + ms) Q (F0 m (pc + 3) ls (rest))) : W p l e R s m args below meth c H locs cells slots Q (F0 m pc ls st0) := by
  intro T hT X
  rcases hr T hT X with ⟨v, st₀, t, T', L, h0, X', hL, e1, e2, ⟨⟨u, hv, hp, hb⟩, hF⟩, st⟩ | ⟨q, st₀, t, T', L, E, ce, h0, X', hL, e1, e2, ⟨u, hp, hb, hF⟩, hce, hcv, hcl, st⟩
  · cases hv
    obtain ⟨k1, k2, k3⟩ := vx_keep h0 e1 hS hA hf hL hF
    obtain ⟨t2, a1, b1⟩ := kk u t T'.heap (locs ++ L) e1.symm (by rw [← e2]; exact X'.warmed.alike) hp hb k1 k2 k3 T' rfl X'
    exact ⟨t2, st t2 a1, b1⟩
  · obtain ⟨k1, k2, k3⟩ := vx_keep h0 e1 hS hAX hf hL hF
    obtain ⟨t2, a1, b1⟩ := kx E ce q u t T'.heap (locs ++ L) e1.symm (by rw [← e2]; exact X'.warmed.alike) hp hb k1 k2 k3 (by rw [e1]; exact hce) hcv hcl T' rfl X'
    exact ⟨t2, st.trans a1, b1⟩
/-- caught by the row x of this method's table; the rows ahead don't take it -/
theorem vx_catch {own name : String} {E : String} {ce : Cell} {q : Addr} (hown : s.vm.findClass own = some m.cls) (pre : List ExceptionTableEntry) (x : ExceptionTableEntry) (suf : List ExceptionTableEntry) (hsplit : c.exceptionTable.toList = pre ++ x :: suf)
    (hpass : ∀ z ∈ pre, covers z pc = false ∨ (z.catchType ≠ 0 ∧ ∃ nm : String, (Cond.classLink own z.catchType nm).before args s = true ∧ va_Nc E nm s)) (hx : covers x pc = true) (h0 : x.catchType ≠ 0)
    (hlink : (Cond.classLink own x.catchType name).before args s = true) (hcast : (Cond.castable E name).before args s = true) (hcell : H[q]? = some ce) (hv : ce.vm = .none) (hcl : s.vm.findClass E = some ce.cls)
    (kk : W p l e R s m args below meth c H locs cells slots Q (F0 m x.handlerPc ls [.ref q])) : vx_W p l e R s m args below meth c H locs cells slots Q (F0 m pc ls rest) q := by
  intro T hT X
  have hpl : e.platform.magicAccessors = ({} : Platform).magicAccessors := by rw [X.admits.platform]
  obtain ⟨c3, c4, hc3, hc4, hasg⟩ := Cond.castable_spec hcast
  cases Option.some.inj (hc3.symm.trans hcl)
  obtain ⟨c5, hc5, hcl5⟩ := Cond.classLink_spec hown hlink e.platform hpl
  cases Option.some.inj (hc4.symm.trans hc5)
  obtain ⟨vm', X', st⟩ := X.thenCaughtThrough q (g := F0 m pc ls rest) rfl (Steps.refl _) (by rw [hT]; exact hcell) (by rw [hv]; rfl) (by obtain ⟨k9, h9, -⟩ := Vm.findClass_spec hcl; exact ⟨k9, h9⟩) pre x suf hsplit
    (fun z hz => by
      rcases hpass z hz with h | ⟨hz0, nm, hl1, hn1⟩
      · exact Or.inl h
      · obtain ⟨c6, hc6, hcl6⟩ := Cond.classLink_spec hown hl1 e.platform hpl
        obtain ⟨a8, b8, h1, h2, h3⟩ := hn1
        cases Option.some.inj (h1.symm.trans hcl)
        cases Option.some.inj (h2.symm.trans hc6)
        exact Or.inr ⟨hz0, _, hcl6, h3⟩) hx (Or.inr ⟨h0, c4, hcl5, hasg⟩)
  obtain ⟨t, a1, b1⟩ := kk (T.setVm vm') hT X'
  exact ⟨t, st.trans a1, b1⟩
end Rows
section Ends
variable {p : Program} {l : Launch} {e : Env} {R : Room} {s : State} {m : MethodId} {args : Array Value} {below : List Frame} {meth : Method} {c : Code} {H : Heap} {locs : List Loc} {cells slots : Nat} {Q : State → Prop}
variable {mc ms : Nat} {free : Addr → Prop} {A0 A1 : Nat → Prop} {H0 : Heap} {a : Array Value} {ls : Array Slot} {st0 rest : List Value}
variable {Qc : Array Value → State → Outcome → State → Prop} {XC : String → State → State → Prop}
/-- what a body that may throw owes at its end -/
def vx_MQ (below : List Frame) (Qc : Array Value → State → Outcome → State → Prop) (XC : String → State → State → Prop) (a : Array Value) (s : State) (mc ms : Nat) (free : Addr → Prop) : State → Prop := fun t =>
  ∃ o, t.status = .running ∧ Ended t below o ∧ vx_Q Qc XC mc ms free a s o t
theorem vx_ret {g : JFrame} {mc ms : Nat} (k : W p l e R s m args below meth c H locs cells slots (MQ below Qc args s mc ms free) g) : W p l e R s m args below meth c H locs cells slots (vx_MQ below Qc XC args s mc ms free) g := by
  intro T hT X
  obtain ⟨t, a1, o, b1, b2, b3, b4⟩ := k T hT X
  exact ⟨t, a1, o, b1, b2, Or.inl ⟨b3, b4⟩⟩
/-- not caught here: it goes on to the caller -/
theorem vx_widen {g : JFrame} {q : Addr} {k n : Nat} (h1 : cells ≤ k) (h2 : slots ≤ n) (kk : vx_W p l e R s m args below meth c H locs k n Q g q) : vx_W p l e R s m args below meth c H locs cells slots Q g q := fun T hT X => kk T hT (stand_widen X h1 h2)
theorem vx_out {pc : Nat} {E : String} {ce : Cell} {q : Addr} {mc ms : Nat} (hout : ∀ x ∈ c.exceptionTable.toList, covers x pc = false) (hlocks : meth.locks = false) (hcell : H[q]? = some ce) (hv : ce.vm = .none) (hcl : s.vm.findClass E = some ce.cls)
    (hx : ∀ t : State, t.heap = H → s.vm.Alike t.vm → XC E s t) (hf : ∀ z ∈ locs, free z.base) (hc : cells ≤ mc) (hs : slots ≤ ms) :
    vx_W p l e R s m args below meth c H locs cells slots (vx_MQ below Qc XC args s mc ms free) (F0 m pc ls rest) q := by
  intro T hT X
  obtain ⟨st1, hrun, hend, hW, hsm⟩ := X.leaveThrown q (g := F0 m pc ls rest) rfl rfl rfl hout hlocks
  have hcell9 : (T.setFrames (.throwing q :: below)).heap[q]? = some ce := by
    show T.heap[q]? = some ce
    rw [hT]; exact hcell
  exact ⟨_, st1, .threw q, hrun, hend, Or.inr ⟨q, rfl, E, ce, locs, hx _ hT hW.alike, hcell9, hv, hcl, hW, hsm.mono hc hs, hf⟩⟩
theorem vx_frame {U : State} {k n : Nat} (h : s.sameButNew ({ U with vm := s.vm } : State) locs k n) : s.heap.size ≤ U.heap.size ∧ ∀ q : Nat, q < s.heap.size → (∀ z ∈ locs, z.base ≠ q) → U.heap[q]? = s.heap[q]? := by
  obtain ⟨-, h2, -, -, -, h6⟩ := h
  refine ⟨h2, fun q hq hz => ?_⟩
  obtain ⟨c9, e1, e2, e3, e4⟩ := h6 q _ (Array.getElem?_eq_getElem hq)
  have hs : c9.slots = (s.heap[q]).slots := Array.ext_getElem? fun i => e4 i fun hm => hz _ hm rfl
  have h9 : c9 = s.heap[q] := by
    rw [hs] at e2
    exact e2
  have e5 : U.heap[q]? = some c9 := e1
  rw [e5, h9, Array.getElem?_eq_getElem hq]
/-- the words of a throw but the four that speak of the heap -/
def vx_no (w : Cond) : Bool := decide (w ≠ .isRef (.static Bundle.tN "UNASSIGNED_STACK" Bundle.steD)) && decide (w ≠ .isRef (.static Bundle.tN "SUPPRESSED_SENTINEL" Bundle.listD)) && decide (w ≠ .laysStatic Bundle.tN "UNASSIGNED_STACK" Bundle.steD) && decide (w ≠ .laysStatic Bundle.tN "SUPPRESSED_SENTINEL" Bundle.listD)
def vx_at0 (own : String) (ic : Nat) (X : String) (names : List String) : List Cond := (Bundle.ownAtoms0 own ic X names).filter vx_no
def vx_atS (own : String) (ic : Nat) (X : String) (names : List String) : List Cond := (Bundle.ownAtoms own ic X names).filter vx_no
/-- a word that the tables alone decide, or a good one -/
def vx_ot (w : Cond) : Bool := w.onTables || goodWord w
theorem vx_ot_at {args a' : Array Value} {s U : State} {w : Cond} (hW : s.WarmedH U.vm) (hvm : s.vm = U.vm) (hg : vx_ot w = true) (h : w.before args s = true) : w.before a' U = true := by
  simp only [vx_ot, Bool.or_eq_true] at hg
  rcases hg with hg | hg
  · exact va_tabs hg hvm h
  · exact word_at hW (good_of_word hg) h
/-- a list's words: the good ones out of the method's own list, the others by premises of their own -/
theorem vx_hat {args : Array Value} {s : State} {L B : List Cond} (h1 : ∀ w ∈ L.filter goodWord, w.before args s = true) (h2 : ∀ w ∈ L.filter (fun w => !goodWord w), w ∈ B) (h3 : ∀ w ∈ B, w.before args s = true) : ∀ w ∈ L, w.before args s = true := by
  intro w hw
  by_cases g : goodWord w = true
  · exact h1 w (List.mem_filter.mpr ⟨hw, g⟩)
  · refine h3 w (h2 w (List.mem_filter.mpr ⟨hw, ?_⟩))
    show (!goodWord w) = true
    cases hgw : goodWord w
    · rfl
    · exact absurd hgw g
theorem vx_c {args : Array Value} {s : State} {w : Cond} {B : List Cond} (h : w.before args s = true) (t : ∀ w ∈ B, w.before args s = true) : ∀ w' ∈ w :: B, w'.before args s = true := fun w' h' => (List.mem_cons.mp h').elim (fun e => by rw [e]; exact h) (t w')
theorem vx_n {args : Array Value} {s : State} : ∀ w ∈ ([] : List Cond), w.before args s = true := fun _ h => nomatch h
theorem vx_own {args : Array Value} {s : State} {L : List Cond} (h1 : ∀ w ∈ L.filter vx_no, w.before args s = true)
    (hU : (Cond.isRef (.static Bundle.tN "UNASSIGNED_STACK" Bundle.steD)).before args s = true) (hN : (Cond.isRef (.static Bundle.tN "SUPPRESSED_SENTINEL" Bundle.listD)).before args s = true)
    (lU : (Cond.laysStatic Bundle.tN "UNASSIGNED_STACK" Bundle.steD).before args s = true) (lN : (Cond.laysStatic Bundle.tN "SUPPRESSED_SENTINEL" Bundle.listD).before args s = true) : ∀ w ∈ L, w.before args s = true := by
  intro w hw
  by_cases e1 : w = .isRef (.static Bundle.tN "UNASSIGNED_STACK" Bundle.steD)
  · rw [e1]; exact hU
  · by_cases e2 : w = .isRef (.static Bundle.tN "SUPPRESSED_SENTINEL" Bundle.listD)
    · rw [e2]; exact hN
    · by_cases e3 : w = .laysStatic Bundle.tN "UNASSIGNED_STACK" Bundle.steD
      · rw [e3]; exact lU
      · by_cases e4 : w = .laysStatic Bundle.tN "SUPPRESSED_SENTINEL" Bundle.listD
        · rw [e4]; exact lN
        · exact h1 w (List.mem_filter.mpr ⟨hw, by unfold vx_no; rw [decide_eq_true e1, decide_eq_true e2, decide_eq_true e3, decide_eq_true e4]; rfl⟩)
/-- where a static field lies, its class's statics cell in H -/
def vx_L (C n d : String) (A : Nat → Prop) (U : State) (H : Heap) : Prop := ∃ (c : ClassId) (k : Class) (i : Nat) (f : Field) (a : Nat) (cell : Cell), U.vm.findClass C = some c ∧ U.fieldFound? C n d = some (c, k, i, f) ∧ f.isStatic = true ∧ k.statics = some a ∧ H[a]? = some cell ∧ cell.vm.isStatics = true ∧ cell.cls = c ∧ f.slot < cell.slots.size ∧ k.staticTypes[f.slot]? = some f.type ∧ ¬ A a
theorem vx_L.moved {C n d : String} {A : Nat → Prop} {u U : State} {H : Heap} (hvm : u.vm.Alike U.vm) (h : vx_L C n d A u H) : vx_L C n d A U H := by
  obtain ⟨c, k, i, f, a, cell, h1, h2, h3, h4, h5, h6, h7, h8, h9, h10⟩ := h
  obtain ⟨k', hi', he⟩ := State.fieldFound?_setVm hvm h2
  exact ⟨c, k', i, f, a, cell, by rw [hvm.findClass]; exact h1, hi', h3, by rw [he]; exact h4, h5, h6, h7, h8, by rw [he]; exact h9, h10⟩
theorem vx_L.kept {C n d : String} {A : Nat → Prop} {U : State} {H H1 : Heap} (h : vx_L C n d A U H) (hq : ∀ a : Nat, a < H.size → ¬ A a → H1[a]? = H[a]?) : vx_L C n d A U H1 := by
  obtain ⟨c, k, i, f, a, cell, h1, h2, h3, h4, h5, h6, h7, h8, h9, h10⟩ := h
  exact ⟨c, k, i, f, a, cell, h1, h2, h3, h4, by rw [hq a (Array.getElem?_eq_some_iff.mp h5).1 h10]; exact h5, h6, h7, h8, h9, h10⟩
theorem vx_L.narrow {C n d : String} {A B : Nat → Prop} {U : State} {H : Heap} (h : vx_L C n d A U H) (hAB : ∀ q, B q → A q) : vx_L C n d B U H := by
  obtain ⟨c, k, i, f, a, cell, h1, h2, h3, h4, h5, h6, h7, h8, h9, h10⟩ := h
  exact ⟨c, k, i, f, a, cell, h1, h2, h3, h4, h5, h6, h7, h8, h9, fun z => h10 (hAB _ z)⟩
theorem vx_L.word {C n d : String} {A : Nat → Prop} {s : State} {args : Array Value} (h : vx_L C n d A s s.heap) : (Cond.laysStatic C n d).before args s = true := by
  obtain ⟨c, k, i, f, a, cell, h1, h2, h3, h4, h5, h6, h7, h8, h9, -⟩ := h
  show (Cond.laysStatic C n d).holds args s none s [] = true
  exact Cond.laysStatic_of h1 h2 h3 h4 h5 h6 h7 h8 h9
/-- .. and what it holds: null or some reference -/
def vx_Zq (C n d : String) (A : Nat → Prop) (U : State) (H : Heap) : Prop := va_Zq C n d A U H ∧ vx_L C n d A U H
theorem vx_Zq.moved {C n d : String} {A : Nat → Prop} {u U : State} {H : Heap} (hvm : u.vm.Alike U.vm) (h : vx_Zq C n d A u H) : vx_Zq C n d A U H := ⟨va_Zq.moved hvm h.1, vx_L.moved hvm h.2⟩
theorem vx_Zq.kept {C n d : String} {A : Nat → Prop} {U : State} {H H1 : Heap} (h : vx_Zq C n d A U H) (hq : ∀ a : Nat, a < H.size → ¬ A a → H1[a]? = H[a]?) : vx_Zq C n d A U H1 := ⟨va_Zq.kept h.1 hq, vx_L.kept h.2 hq⟩
theorem vx_Zq.narrow {C n d : String} {A B : Nat → Prop} {U : State} {H : Heap} (h : vx_Zq C n d A U H) (hAB : ∀ q, B q → A q) : vx_Zq C n d B U H := ⟨va_Zq.narrow h.1 hAB, vx_L.narrow h.2 hAB⟩
theorem vx_Zqof {args : Array Value} {s : State} {C n d : String} {A : Nat → Prop} (hl : (Cond.laysStatic C n d).before args s = true) (hini : (Cond.initialized C).before args s = true) (h : (Cond.isRef (.static C n d)).before args s = true) (hA : ∀ a : Nat, a < s.heap.size → ¬ A a) : vx_Zq C n d A s s.heap := by
  refine ⟨va_Zqof hl hini h hA, ?_⟩
  obtain ⟨c, k, i, f, a, cell, h1, h2, h3, h4, h5, h6, h7, h8, h9⟩ := Cond.laysStatic_spec hl
  exact ⟨c, k, i, f, a, cell, h1, h2, h3, h4, h5, h6, h7, h8, h9, hA a (Array.getElem?_eq_some_iff.mp h5).1⟩
theorem vx_isRef {C n d : String} {v : Value} {A : Nat → Prop} {s : State} {args : Array Value} (h : va_Z C n d v A s s.heap) (hv : v.isRef = true) : (Cond.isRef (.static C n d)).before args s = true := by
  obtain ⟨cf, kf, fi, f, a, cell, h1, h2, h3, h4, h5, h6, h7, -⟩ := h
  have he : (Term.static C n d).eval args s none [] s = some v := by
    simp [Term.eval, State.fieldNamed?, h1, h2, h4, h5, h6, h7]
  simp only [Cond.before, Cond.holds, Cond.value, he]
  cases v <;> simp_all [Value.isRef]
theorem vx_isRefq {C n d : String} {A : Nat → Prop} {s : State} {args : Array Value} (h : va_Zq C n d A s s.heap) : (Cond.isRef (.static C n d)).before args s = true := by
  rcases h with h | ⟨t, h⟩
  · exact vx_isRef h rfl
  · exact vx_isRef h rfl
/-- the same frame, seen from here: as if the method were called anew in this heap -/
theorem vx_rebase {T : State} (X : Stand p l e R s m args below meth c T locs cells slots) {R' : Room} (hf : R'.frames ≤ R.frames) (hl : R'.locals ≤ R.locals) (hc : cells + R'.cells ≤ R.cells) (hs : slots + R'.slots ≤ R.slots) :
    Stand p l e R' ((T.setVm s.vm).setFrames (.invoking m args :: below)) m args below meth c T [] 0 0 := by
  have htop : (T.setVm s.vm).topJava?.isSome := X.here.top
  have hF : ((T.setVm s.vm).setFrames (.invoking m args :: below)).frames = .invoking m args :: below := State.frames_setFrames _ (State.cur_lt_of_top htop)
  obtain ⟨g₀, hg0⟩ := Option.isSome_iff_exists.mp htop
  obtain ⟨r, hr⟩ := State.topJava?_eq_some.mp hg0
  have hl9 : e.platform.stackLimits (T.setVm s.vm).me = e.platform.stackLimits s.me := X.limits
  have hb9 : (T.setVm s.vm).me.stackBytes = s.me.stackBytes := X.bytes
  refine ⟨X.admits, X.cas, X.clock, hF, ?_, X.hears, X.method, X.code, X.here, X.tail, X.warmed, ?_, ?_, ?_⟩
  · have h := X.room
    have hU : ((T.setVm s.vm).setFrames (.invoking m args :: below)).localsInUse = s.localsInUse := by
      rw [State.localsInUse_invoking hF (meth := meth) (c := c) X.method X.code, State.localsInUse_invoking X.frames X.method X.code]
    simp only [State.hasRoom, Bool.and_eq_true, decide_eq_true_eq] at h ⊢
    obtain ⟨⟨⟨⟨h1, h2, h3, h4, h5, h6⟩, h7⟩, h8⟩, h9⟩ := h
    rw [X.frames, List.length_cons] at h2 h3
    have q1 := X.heapSize
    have q2 := X.used
    simp only [hF, hU, List.length_cons, State.stackLimits_setFrames, State.stackBytes_setFrames, hl9, hb9]
    refine ⟨⟨⟨⟨by omega, by omega, by omega, by omega, by omega, h6⟩, ?_⟩, ?_⟩, X.book⟩
    · show T.heap.size + R'.cells ≤ e.platform.maxCells
      omega
    · show T.slotsUsed + R'.slots ≤ e.platform.maxSlots
      omega
  · rw [State.stackLimits_setFrames]; rfl
  · rw [State.stackBytes_setFrames]; rfl
  · refine ⟨?_, Nat.le_refl _, Nat.le_refl _, ?_, ?_, fun a c9 h9 => ⟨c9, h9, rfl, rfl, fun _ _ => rfl⟩⟩
    · obtain ⟨t, ht, -⟩ := State.frames_cons hr
      show T.setVm s.vm = { ((T.setVm s.vm).setFrames (.invoking m args :: below)).setFrames (T.setVm s.vm).frames with heap := T.heap, slotsUsed := T.slotsUsed }
      rw [State.setFrames_setFrames, State.setFrames_self ht]
      rfl
    · show T.slotsUsed = T.slotsUsed + ((T.heap.toList.drop T.heap.size).map (·.slots.size)).sum
      rw [List.drop_eq_nil_of_le (Nat.le_of_eq Array.length_toList)]
      rfl
    · show ((T.heap.toList.drop T.heap.size).map (·.slots.size)).sum ≤ 0
      rw [List.drop_eq_nil_of_le (Nat.le_of_eq Array.length_toList)]
      exact Nat.le_refl _
/-- 'throw new E()': new; dup; invokespecial; athrow -/
theorem vx_throw0 {cc : ByteArray} {pc : Nat} (hexec : p.tables.exec = Jvm.exec) (hb : c.code = cc) (hl : l.stackTraces = false) {own cls : String} {names : List String} {ik ic mc ms : Nat} {A : Nat → Prop}
    (hown : s.vm.findClass own = some m.cls) (hcls : Bundle.fit cls = true) (hnames : ∀ n ∈ names, Bundle.fit n = true)
    (hk : (Cond.classLink own ik cls).before args s = true) (hini : (Cond.initialized cls).before args s = true) (hat : ∀ w ∈ vx_at0 own ic cls names, w.before args s = true)
    (hgood : ∀ w ∈ Cond.classLink own ik cls :: Cond.initialized cls :: vx_at0 own ic cls names, vx_ot w = true)
    (hU : vx_Zq Bundle.tN "UNASSIGNED_STACK" Bundle.steD A s s.heap) (hN : vx_Zq Bundle.tN "SUPPRESSED_SENTINEL" Bundle.listD A s s.heap) (hS : va_S A s.heap H locs) (hsize : ls.size = c.maxLocals)
    (d0 : decode cc pc = .ok (.new ik, 3)) (d3 : decode cc (pc + 3) = .ok (.dup, 1)) (d4 : decode cc (pc + 4) = .ok (.invokespecial ic, 3)) (d7 : decode cc (pc + 7) = .ok (.athrow, 1))
    (hout : ∀ x ∈ c.exceptionTable.toList, covers x (pc + 7) = false)
    (hRframes : names.length + 3 < R.frames) (hRlocals : (rest.map fun v => v.category).sum + (13 * (names.length + 1) + 42) ≤ R.locals) (hRcells : cells + 1 ≤ R.cells) (hRslots : slots + 6 ≤ R.slots) (hlocks : meth.locks = false)
    (hx : ∀ t : State, s.vm.Alike t.vm → H.size ≤ t.heap.size → (∀ q : Nat, q < H.size → t.heap[q]? = H[q]?) → XC cls s t)
    (hf : ∀ z ∈ locs, free z.base) (hc : cells + 1 ≤ mc) (hs : slots + 6 ≤ ms) :
    W p l e R s m args below meth c H locs cells slots (vx_MQ below Qc XC args s mc ms free) (F0 m pc ls rest) := by
  intro T hT X
  have htr : e.platform.stackTraces = false := (show e.platform.stackTraces = l.stackTraces by rw [X.admits.platform]).trans hl
  have Y := vx_rebase X (R' := { frames := R.frames, locals := R.locals, cells := 1, slots := 6 }) (Nat.le_refl _) (Nat.le_refl _) hRcells hRslots
  obtain ⟨s', hA⟩ : ∃ z, z = (T.setVm s.vm).setFrames (.invoking m args :: below) := ⟨_, rfl⟩
  rw [← hA] at Y
  have hvm : s'.vm = s.vm := by rw [hA]; rfl
  have hhp : s'.heap = H := by rw [hA]; exact hT
  have hW0 : s.WarmedH s'.vm := by rw [hvm]; exact State.WarmedH.refl s
  have hat' : ∀ w ∈ vx_at0 own ic cls names, w.before args s' = true := fun w hw => vx_ot_at hW0 hvm.symm (hgood w (List.mem_cons_of_mem _ (List.mem_cons_of_mem _ hw))) (hat w hw)
  have hk' : (Cond.classLink own ik cls).before args s' = true := vx_ot_at hW0 hvm.symm (hgood _ List.mem_cons_self) hk
  have hini' : (Cond.initialized cls).before args s' = true := vx_ot_at hW0 hvm.symm (hgood _ (List.mem_cons_of_mem _ List.mem_cons_self)) hini
  have hU' : vx_Zq Bundle.tN "UNASSIGNED_STACK" Bundle.steD A s' s'.heap := by rw [hhp]; exact vx_Zq.moved hW0.alike (hU.kept hS.2.1)
  have hN' : vx_Zq Bundle.tN "SUPPRESSED_SENTINEL" Bundle.listD A s' s'.heap := by rw [hhp]; exact vx_Zq.moved hW0.alike (hN.kept hS.2.1)
  have h : ∀ w ∈ Bundle.ownAtoms0 own ic cls names, w.before args s' = true := vx_own hat' (vx_isRefq hU'.1) (vx_isRefq hN'.1) hU'.2.word hN'.2.word
  have hown' : s'.vm.findClass own = some m.cls := by rw [hvm]; exact hown
  have hins : (Cond.instantiable cls 6).before args s' = true := h _ (by simp [Bundle.ownAtoms0])
  obtain ⟨vm₁, cX, kX, hfX, hkX, -, -, X₁, st1⟩ := Y.newCold hexec (own := own) (C := cls) (index := ik) (n := 6) hown' hk' hins hini'
    (g := F0 m pc ls rest) rfl (by rw [hb]; exact d0) (Nat.le_refl _) (Nat.le_refl _)
  generalize hT1 : (T.setVm vm₁).pushCell { cls := cX, slots := kX.instanceTypes.map defaultValue, vm := .none } = T1 at X₁ st1
  have hcat : (Value.ref T.heap.size).category = 1 := rfl
  have hcellA : T1.heap[T.heap.size]? = some (freshCell cX kX) := by rw [← hT1]; exact State.heap_pushCell_size _ _
  have d3' : decode c.code (pc + 3) = .ok (.dup, 1) := by rw [hb]; exact d3
  obtain ⟨U, hsteps, hrun, hend, hW, hsame, ce, hce, hO⟩ := X₁.ctorThrow0 hexec htr (own := own) (cls := cls) (names := names) (ic := ic) hown' hcls hnames h (fun x hx => nomatch hx) hfX hkX hcellA (by rw [hhp, hT]; exact Nat.le_refl _)
    (g := { method := m, pc := pc + 4, locals := ls, stack := .ref T.heap.size :: .ref T.heap.size :: rest, locked := none }) rfl hsize rfl rfl (rest := rest) rfl
    (by rw [hb]; exact d4) (by rw [hb]; exact d7) hout hRframes (by simp only [List.map_cons, List.sum_cons, hcat]; omega) hlocks
  obtain ⟨f1, f2⟩ := vx_frame hsame
  rw [hhp] at f1 f2
  have hWs : s.WarmedH U.vm := State.WarmedH.trans hW0 hW
  have hcl : s.vm.findClass cls = some ce.cls := by
    have h9 := hO.cls
    rw [hvm] at h9
    exact h9
  have hall : s.sameButNew ({ U with vm := s.vm } : State) locs mc ms := by
    subst hA
    obtain ⟨e1, e2⟩ := hsame
    rw [State.setFrames_setFrames] at e1
    have h2 : (T.setVm s.vm).sameButNew ({ U with vm := s.vm } : State) [] (0 + 1) (0 + 6) := ⟨e1, e2⟩
    have h3 := X.same.trans h2
    rw [List.append_nil] at h3
    exact h3.mono hc hs
  refine ⟨U, ?_, .threw T.heap.size, hrun, hend, Or.inr ⟨T.heap.size, rfl, cls, ce, locs, hx U hWs.alike f1 (fun q hq => f2 q hq (fun z hz => nomatch hz)), hce, hO.vm, hcl, hWs, hall, hf⟩⟩
  refine st1 _ ?_
  show Steps p.tables e below (T1.setTop { method := m, pc := pc + 3, locals := ls, stack := .ref T.heap.size :: rest, locked := none }) _
  jvm_step X₁.here [X₁.here.top, hexec, d3', Value.category]
  exact hsteps
/-- 'throw new E("text")': new; dup; ldc; invokespecial; athrow -/
theorem vx_throwS {cc : ByteArray} {pc : Nat} (hexec : p.tables.exec = Jvm.exec) (hb : c.code = cc) (hl : l.stackTraces = false) {own cls text : String} {names : List String} {ik is ic mc ms sa : Nat} {A : Nat → Prop}
    (hown : s.vm.findClass own = some m.cls) (hcls : Bundle.fit cls = true) (hnames : ∀ n ∈ names, Bundle.fit n = true)
    (hk : (Cond.classLink own ik cls).before args s = true) (hini : (Cond.initialized cls).before args s = true) (hstr : vk_R own is text sa s) (hat : ∀ w ∈ vx_atS own ic cls names, w.before args s = true)
    (hgood : ∀ w ∈ Cond.classLink own ik cls :: Cond.initialized cls :: vx_atS own ic cls names, vx_ot w = true)
    (hU : vx_Zq Bundle.tN "UNASSIGNED_STACK" Bundle.steD A s s.heap) (hN : vx_Zq Bundle.tN "SUPPRESSED_SENTINEL" Bundle.listD A s s.heap) (hS : va_S A s.heap H locs) (hsize : ls.size = c.maxLocals)
    (d0 : decode cc pc = .ok (.new ik, 3)) (d3 : decode cc (pc + 3) = .ok (.dup, 1)) (d4 : decode cc (pc + 4) = .ok (.ldc is, 2)) (d6 : decode cc (pc + 6) = .ok (.invokespecial ic, 3)) (d9 : decode cc (pc + 9) = .ok (.athrow, 1))
    (hout : ∀ x ∈ c.exceptionTable.toList, covers x (pc + 9) = false)
    (hRframes : names.length + 3 < R.frames) (hRlocals : (rest.map fun v => v.category).sum + (13 * (names.length + 1) + 43) ≤ R.locals) (hRcells : cells + 1 ≤ R.cells) (hRslots : slots + 6 ≤ R.slots) (hlocks : meth.locks = false)
    (hx : ∀ t : State, s.vm.Alike t.vm → H.size ≤ t.heap.size → (∀ q : Nat, q < H.size → t.heap[q]? = H[q]?) → XC cls s t)
    (hf : ∀ z ∈ locs, free z.base) (hc : cells + 1 ≤ mc) (hs : slots + 6 ≤ ms) :
    W p l e R s m args below meth c H locs cells slots (vx_MQ below Qc XC args s mc ms free) (F0 m pc ls rest) := by
  intro T hT X
  have htr : e.platform.stackTraces = false := (show e.platform.stackTraces = l.stackTraces by rw [X.admits.platform]).trans hl
  have Y := vx_rebase X (R' := { frames := R.frames, locals := R.locals, cells := 1, slots := 6 }) (Nat.le_refl _) (Nat.le_refl _) hRcells hRslots
  obtain ⟨s', hA⟩ : ∃ z, z = (T.setVm s.vm).setFrames (.invoking m args :: below) := ⟨_, rfl⟩
  rw [← hA] at Y
  have hvm : s'.vm = s.vm := by rw [hA]; rfl
  have hhp : s'.heap = H := by rw [hA]; exact hT
  have hW0 : s.WarmedH s'.vm := by rw [hvm]; exact State.WarmedH.refl s
  have hat' : ∀ w ∈ vx_atS own ic cls names, w.before args s' = true := fun w hw => vx_ot_at hW0 hvm.symm (hgood w (List.mem_cons_of_mem _ (List.mem_cons_of_mem _ hw))) (hat w hw)
  have hk' : (Cond.classLink own ik cls).before args s' = true := vx_ot_at hW0 hvm.symm (hgood _ List.mem_cons_self) hk
  have hini' : (Cond.initialized cls).before args s' = true := vx_ot_at hW0 hvm.symm (hgood _ (List.mem_cons_of_mem _ List.mem_cons_self)) hini
  have hU' : vx_Zq Bundle.tN "UNASSIGNED_STACK" Bundle.steD A s' s'.heap := by rw [hhp]; exact vx_Zq.moved hW0.alike (hU.kept hS.2.1)
  have hN' : vx_Zq Bundle.tN "SUPPRESSED_SENTINEL" Bundle.listD A s' s'.heap := by rw [hhp]; exact vx_Zq.moved hW0.alike (hN.kept hS.2.1)
  have h : ∀ w ∈ Bundle.ownAtoms own ic cls names, w.before args s' = true := vx_own hat' (vx_isRefq hU'.1) (vx_isRefq hN'.1) hU'.2.word hN'.2.word
  have hown' : s'.vm.findClass own = some m.cls := by rw [hvm]; exact hown
  have hins : (Cond.instantiable cls 6).before args s' = true := h _ (by simp [Bundle.ownAtoms])
  obtain ⟨vm₁, cX, kX, hfX, hkX, -, -, X₁, st1⟩ := Y.newCold hexec (own := own) (C := cls) (index := ik) (n := 6) hown' hk' hins hini'
    (g := F0 m pc ls rest) rfl (by rw [hb]; exact d0) (Nat.le_refl _) (Nat.le_refl _)
  generalize hT1 : (T.setVm vm₁).pushCell { cls := cX, slots := kX.instanceTypes.map defaultValue, vm := .none } = T1 at X₁ st1
  have hcat : (Value.ref T.heap.size).category = 1 := rfl
  have hcellA : T1.heap[T.heap.size]? = some (freshCell cX kX) := by rw [← hT1]; exact State.heap_pushCell_size _ _
  have d3' : decode c.code (pc + 3) = .ok (.dup, 1) := by rw [hb]; exact d3
  have d4' : decode c.code (pc + 4) = .ok (.ldc is, 2) := by rw [hb]; exact d4
  have hstr' : vk_R own is text sa s' := vk_R.warm hW0 hstr
  obtain ⟨U, hsteps, hrun, hend, hW, hsame, ce, hce, hO⟩ := X₁.ctorThrowS hexec htr (own := own) (cls := cls) (names := names) (ic := ic) hown' hcls hnames h (fun x hx => nomatch hx) hfX hkX hcellA (by rw [hhp, hT]; exact Nat.le_refl _) (msg := .ref sa) rfl
    (g := { method := m, pc := pc + 6, locals := ls, stack := .ref sa :: .ref T.heap.size :: .ref T.heap.size :: rest, locked := none }) rfl hsize rfl rfl (rest := rest) rfl
    (by rw [hb]; exact d6) (by rw [hb]; exact d9) hout hRframes (by simp only [List.map_cons, List.sum_cons, hcat]; omega) hlocks
  obtain ⟨f1, f2⟩ := vx_frame hsame
  rw [hhp] at f1 f2
  have hWs : s.WarmedH U.vm := State.WarmedH.trans hW0 hW
  have hcl : s.vm.findClass cls = some ce.cls := by
    have h9 := hO.cls
    rw [hvm] at h9
    exact h9
  have hall : s.sameButNew ({ U with vm := s.vm } : State) locs mc ms := by
    subst hA
    obtain ⟨e1, e2⟩ := hsame
    rw [State.setFrames_setFrames] at e1
    have h2 : (T.setVm s.vm).sameButNew ({ U with vm := s.vm } : State) [] (0 + 1) (0 + 6) := ⟨e1, e2⟩
    have h3 := X.same.trans h2
    rw [List.append_nil] at h3
    exact h3.mono hc hs
  refine ⟨U, ?_, .threw T.heap.size, hrun, hend, Or.inr ⟨T.heap.size, rfl, cls, ce, locs, hx U hWs.alike f1 (fun q hq => f2 q hq (fun z hz => nomatch hz)), hce, hO.vm, hcl, hWs, hall, hf⟩⟩
  refine st1 _ ?_
  show Steps p.tables e below (T1.setTop { method := m, pc := pc + 3, locals := ls, stack := .ref T.heap.size :: rest, locked := none }) _
  jvm_step X₁.here [X₁.here.top, hexec, d3', Value.category]
  exact X₁.ldcString hexec (own := own) (text := text) (index := is) (a := sa) hown' hstr'.1 hstr'.2
    (g := { method := m, pc := pc + 4, locals := ls, stack := .ref T.heap.size :: .ref T.heap.size :: rest, locked := none }) rfl d4' _ hsteps
/-- 'throw new E("text")', the text by a wide index -/
theorem vx_throwSW {cc : ByteArray} {pc : Nat} (hexec : p.tables.exec = Jvm.exec) (hb : c.code = cc) (hl : l.stackTraces = false) {own cls text : String} {names : List String} {ik is ic mc ms sa : Nat} {A : Nat → Prop}
    (hown : s.vm.findClass own = some m.cls) (hcls : Bundle.fit cls = true) (hnames : ∀ n ∈ names, Bundle.fit n = true)
    (hk : (Cond.classLink own ik cls).before args s = true) (hini : (Cond.initialized cls).before args s = true) (hstr : vk_R own is text sa s) (hat : ∀ w ∈ vx_atS own ic cls names, w.before args s = true)
    (hgood : ∀ w ∈ Cond.classLink own ik cls :: Cond.initialized cls :: vx_atS own ic cls names, vx_ot w = true)
    (hU : vx_Zq Bundle.tN "UNASSIGNED_STACK" Bundle.steD A s s.heap) (hN : vx_Zq Bundle.tN "SUPPRESSED_SENTINEL" Bundle.listD A s s.heap) (hS : va_S A s.heap H locs) (hsize : ls.size = c.maxLocals)
    (d0 : decode cc pc = .ok (.new ik, 3)) (d3 : decode cc (pc + 3) = .ok (.dup, 1)) (d4 : decode cc (pc + 4) = .ok (.ldc_w is, 3)) (d7 : decode cc (pc + 7) = .ok (.invokespecial ic, 3)) (d10 : decode cc (pc + 10) = .ok (.athrow, 1))
    (hout : ∀ x ∈ c.exceptionTable.toList, covers x (pc + 10) = false)
    (hRframes : names.length + 3 < R.frames) (hRlocals : (rest.map fun v => v.category).sum + (13 * (names.length + 1) + 43) ≤ R.locals) (hRcells : cells + 1 ≤ R.cells) (hRslots : slots + 6 ≤ R.slots) (hlocks : meth.locks = false)
    (hx : ∀ t : State, s.vm.Alike t.vm → H.size ≤ t.heap.size → (∀ q : Nat, q < H.size → t.heap[q]? = H[q]?) → XC cls s t)
    (hf : ∀ z ∈ locs, free z.base) (hc : cells + 1 ≤ mc) (hs : slots + 6 ≤ ms) :
    W p l e R s m args below meth c H locs cells slots (vx_MQ below Qc XC args s mc ms free) (F0 m pc ls rest) := by
  intro T hT X
  have htr : e.platform.stackTraces = false := (show e.platform.stackTraces = l.stackTraces by rw [X.admits.platform]).trans hl
  have Y := vx_rebase X (R' := { frames := R.frames, locals := R.locals, cells := 1, slots := 6 }) (Nat.le_refl _) (Nat.le_refl _) hRcells hRslots
  obtain ⟨s', hA⟩ : ∃ z, z = (T.setVm s.vm).setFrames (.invoking m args :: below) := ⟨_, rfl⟩
  rw [← hA] at Y
  have hvm : s'.vm = s.vm := by rw [hA]; rfl
  have hhp : s'.heap = H := by rw [hA]; exact hT
  have hW0 : s.WarmedH s'.vm := by rw [hvm]; exact State.WarmedH.refl s
  have hat' : ∀ w ∈ vx_atS own ic cls names, w.before args s' = true := fun w hw => vx_ot_at hW0 hvm.symm (hgood w (List.mem_cons_of_mem _ (List.mem_cons_of_mem _ hw))) (hat w hw)
  have hk' : (Cond.classLink own ik cls).before args s' = true := vx_ot_at hW0 hvm.symm (hgood _ List.mem_cons_self) hk
  have hini' : (Cond.initialized cls).before args s' = true := vx_ot_at hW0 hvm.symm (hgood _ (List.mem_cons_of_mem _ List.mem_cons_self)) hini
  have hU' : vx_Zq Bundle.tN "UNASSIGNED_STACK" Bundle.steD A s' s'.heap := by rw [hhp]; exact vx_Zq.moved hW0.alike (hU.kept hS.2.1)
  have hN' : vx_Zq Bundle.tN "SUPPRESSED_SENTINEL" Bundle.listD A s' s'.heap := by rw [hhp]; exact vx_Zq.moved hW0.alike (hN.kept hS.2.1)
  have h : ∀ w ∈ Bundle.ownAtoms own ic cls names, w.before args s' = true := vx_own hat' (vx_isRefq hU'.1) (vx_isRefq hN'.1) hU'.2.word hN'.2.word
  have hown' : s'.vm.findClass own = some m.cls := by rw [hvm]; exact hown
  have hins : (Cond.instantiable cls 6).before args s' = true := h _ (by simp [Bundle.ownAtoms])
  obtain ⟨vm₁, cX, kX, hfX, hkX, -, -, X₁, st1⟩ := Y.newCold hexec (own := own) (C := cls) (index := ik) (n := 6) hown' hk' hins hini'
    (g := F0 m pc ls rest) rfl (by rw [hb]; exact d0) (Nat.le_refl _) (Nat.le_refl _)
  generalize hT1 : (T.setVm vm₁).pushCell { cls := cX, slots := kX.instanceTypes.map defaultValue, vm := .none } = T1 at X₁ st1
  have hcat : (Value.ref T.heap.size).category = 1 := rfl
  have hcellA : T1.heap[T.heap.size]? = some (freshCell cX kX) := by rw [← hT1]; exact State.heap_pushCell_size _ _
  have d3' : decode c.code (pc + 3) = .ok (.dup, 1) := by rw [hb]; exact d3
  have d4' : decode c.code (pc + 4) = .ok (.ldc_w is, 3) := by rw [hb]; exact d4
  have hstr' : vk_R own is text sa s' := vk_R.warm hW0 hstr
  obtain ⟨U, hsteps, hrun, hend, hW, hsame, ce, hce, hO⟩ := X₁.ctorThrowS hexec htr (own := own) (cls := cls) (names := names) (ic := ic) hown' hcls hnames h (fun x hx => nomatch hx) hfX hkX hcellA (by rw [hhp, hT]; exact Nat.le_refl _) (msg := .ref sa) rfl
    (g := { method := m, pc := pc + 7, locals := ls, stack := .ref sa :: .ref T.heap.size :: .ref T.heap.size :: rest, locked := none }) rfl hsize rfl rfl (rest := rest) rfl
    (by rw [hb]; exact d7) (by rw [hb]; exact d10) hout hRframes (by simp only [List.map_cons, List.sum_cons, hcat]; omega) hlocks
  obtain ⟨f1, f2⟩ := vx_frame hsame
  rw [hhp] at f1 f2
  have hWs : s.WarmedH U.vm := State.WarmedH.trans hW0 hW
  have hcl : s.vm.findClass cls = some ce.cls := by
    have h9 := hO.cls
    rw [hvm] at h9
    exact h9
  have hall : s.sameButNew ({ U with vm := s.vm } : State) locs mc ms := by
    subst hA
    obtain ⟨e1, e2⟩ := hsame
    rw [State.setFrames_setFrames] at e1
    have h2 : (T.setVm s.vm).sameButNew ({ U with vm := s.vm } : State) [] (0 + 1) (0 + 6) := ⟨e1, e2⟩
    have h3 := X.same.trans h2
    rw [List.append_nil] at h3
    exact h3.mono hc hs
  refine ⟨U, ?_, .threw T.heap.size, hrun, hend, Or.inr ⟨T.heap.size, rfl, cls, ce, locs, hx U hWs.alike f1 (fun q hq => f2 q hq (fun z hz => nomatch hz)), hce, hO.vm, hcl, hWs, hall, hf⟩⟩
  refine st1 _ ?_
  show Steps p.tables e below (T1.setTop { method := m, pc := pc + 3, locals := ls, stack := .ref T.heap.size :: rest, locked := none }) _
  jvm_step X₁.here [X₁.here.top, hexec, d3', Value.category]
  exact X₁.ldcStringW hexec (own := own) (text := text) (index := is) (a := sa) hown' hstr'.1 hstr'.2
    (g := { method := m, pc := pc + 4, locals := ls, stack := .ref T.heap.size :: .ref T.heap.size :: rest, locked := none }) rfl d4' _ hsteps
end Ends
section Bodies
variable {l : Launch}
theorem vx_ofW {y : MethodName} {ws ws' : List Cond} {rm : Room} {Pc : Array Value → State → Prop} {Qc : Array Value → State → Outcome → State → Prop} {XC : String → State → State → Prop} {mc ms : Nat} {free : Addr → Prop} {cc : ByteArray} {maxL : Nat} {ret : Option FieldType}
    (hy : plainName y.cls = true) (hw : ws = Cond.code y cc maxL ret :: ws')
    (body : ∀ p e s m args below meth c s₁, BodyLoose p l y (headSpec ws rm) cc maxL ret e s m args below meth c s₁ → c.maxLocals = maxL → (∀ x ∈ c.exceptionTable.toList, False) → Pc args s →
      W p l e (headSpec ws rm).room s m args below meth c s.heap [] 0 0 (vx_MQ below Qc XC args s mc ms free) (entryFrame m args maxL)) : vx_Met l y ws rm Pc Qc XC mc ms free := by
  refine MetFree.of_bodyS (code := cc) (maxLocals := maxL) (ret := ret) hy ?_ ?_
  · intro args s m h hn
    obtain ⟨meth, c, h1, h2, h3, h4, h5, h6, -, -⟩ := Cond.code_spec hn (atoms_spec (ws := ws) h _ (by rw [hw]; exact List.mem_cons_self))
    exact ⟨meth, c, h1, h2, h3, h4, h5, h6⟩
  · intro p e s m args below meth c s₁ B hml hP _
    have hh0 : s₁.heap = s.heap := by rw [B.state]; rfl
    have ht : ∀ x ∈ c.exceptionTable.toList, False := by
      obtain ⟨meth9, c9, h1, h2, -, -, -, -, h7, -⟩ := Cond.code_spec B.named (atoms_spec (ws := ws) B.pre _ (by rw [hw]; exact List.mem_cons_self))
      cases Option.some.inj (h1.symm.trans B.method)
      cases Option.some.inj (h2.symm.trans (Stand.of_body B).code)
      intro x hx
      rw [Array.isEmpty_iff.mp h7] at hx
      cases hx
    obtain ⟨t, a1, o, b1, b2, b3⟩ := body p e s m args below meth c s₁ B hml ht hP s₁ hh0 (Stand.of_body B)
    exact ⟨t, o, a1, b1, b2, b3⟩
/-- the table of a body with handlers -/
theorem vx_table {p : Program} {x y : MethodName} {S : Spec} {cc bytes : ByteArray} {maxL maxL' : Nat} {ret ret' : Option FieldType} {e : Env} {s s₁ : State} {m : MethodId} {args : Array Value} {below : List Frame} {meth : Method} {c : Code} {hh : List (Nat × Nat × Nat × Nat)}
    (B : BodyLoose p l y S cc maxL ret e s m args below meth c s₁) (h : (Cond.codeWith y bytes maxL' ret' hh).before args s = true) : c.exceptionTable.toList = tableOf hh := by
  obtain ⟨m9, meth9, c9, hn9, h1, h2, -, -, h6, -⟩ := Cond.codeWith_spec h
  cases Option.some.inj (hn9.symm.trans B.named)
  cases Option.some.inj (h1.symm.trans B.method)
  cases Option.some.inj (h2.symm.trans (Stand.of_body B).code)
  rw [← h6, table_eq]
end Bodies
end VXA
/-! ===== END ===== -/
/-! ===== BEGIN a static call of a method with an exception table ===== -/
section VXS
variable {p : Program} {l : Launch} {e : Env} {R : Room} {s : State} {m : MethodId} {args : Array Value} {below : List Frame} {meth : Method} {c : Code} {T : State} {H : Heap} {locs : List Loc} {cells slots : Nat}
abbrev vx_CSW (R : Room) (s : State) (args : Array Value) (own : String) (index : Nat) (y : MethodName) (bytes : ByteArray) (maxL : Nat) (ret : Option FieldType) (hh : List (Nat × Nat × Nat × Nat)) (ws : List Cond) (rm : Room) (mc ms n : Nat) : Prop :=
  (rm.cells = mc ∧ rm.slots = ms ∧ rm.frames + 1 ≤ R.frames ∧ 8 + (maxL + 11) + rm.locals ≤ R.locals ∧ (∀ w ∈ ws, ∀ (a' : Array Value) (U : State), s.WarmedH U.vm → w.before a' U = true) ∧ Cond.codeWith y bytes maxL ret hh ∈ ws) ∧
  (Cond.codeWith y bytes maxL ret hh).before args s = true ∧ (Cond.initialized y.cls).before args s = true ∧ (y.cls ≠ "java/lang/invoke/MethodHandle" ∧ y.cls ≠ "java/lang/invoke/VarHandle") ∧
  (∀ sig, parseMethodDescriptor y.desc = some sig → n = sig.parameters.length) ∧ (Cond.methodLink own index y).before args s = true ∧ (Cond.static y).before args s = true
theorem vx_cwSW {own : String} {index maxL mc ms : Nat} {y : MethodName} {bytes : ByteArray} {ret : Option FieldType} {hh : List (Nat × Nat × Nat × Nat)} {Ts ws ws' : List Cond} {rm : Room} (n : Nat) (ht : ∀ w ∈ Ts, w.before args s = true) (hT : GoodIn Ts (va_wsS own index y ws)) (hw : ws = Cond.codeWith y bytes maxL ret hh :: ws') (hrc : rm.cells = mc) (hrs : rm.slots = ms)
    (hd : y.cls ≠ "java/lang/invoke/MethodHandle" ∧ y.cls ≠ "java/lang/invoke/VarHandle" ∧ (parseMethodDescriptor y.desc).map (fun d => d.parameters.length) = some n) (hR : rm.frames + 1 ≤ R.frames ∧ 8 + (maxL + 11) + rm.locals ≤ R.locals) :
    vx_CSW R s args own index y bytes maxL ret hh ws rm mc ms n := by
  have ok : ∀ w ∈ va_wsS own index y ws, w.before args s = true := fun w h => ht w (hT w h).1
  have hG : GoodIn Ts ws := fun w h => hT w (by unfold va_wsS; exact List.mem_append_right _ h)
  have hc : Cond.codeWith y bytes maxL ret hh ∈ ws := by rw [hw]; exact List.mem_cons_self
  refine ⟨⟨hrc, hrs, hR.1, hR.2, pay_in ht hG, hc⟩, ht _ (hG _ hc).1, ok _ (by simp [va_wsS]), ⟨hd.1, hd.2.1⟩, fun sig h => ?_, ok _ (by simp [va_wsS]), ok _ (by simp [va_wsS])⟩
  have h2 := hd.2.2
  rw [h] at h2
  exact (Option.some.inj h2).symm
theorem vx_callSW (X : Stand p l e R s m args below meth c T locs cells slots) (hexec : p.tables.exec = Jvm.exec) {own : String} {index : Nat} {y : MethodName} {bytes : ByteArray} {maxL : Nat} {ret : Option FieldType} {hh : List (Nat × Nat × Nat × Nat)}
    (hown : s.vm.findClass own = some m.cls) (hlink : (Cond.methodLink own index y).before args s = true) (hstat : (Cond.static y).before args s = true) (hinit : (Cond.initialized y.cls).before args s = true)
    (hcode : (Cond.codeWith y bytes maxL ret hh).before args s = true) (hy : y.cls ≠ "java/lang/invoke/MethodHandle" ∧ y.cls ≠ "java/lang/invoke/VarHandle")
    {W9 : Nat} {Pre : Pt → Array Value → Prop} {Post : Pt → Array Value → Option Value → Pt → Prop} (hK : Back l R p e below s args y 3 W9 Pre Post)
    {g : JFrame} (hg : g.method = m) (hsize : g.locals.size = c.maxLocals) {argsL rest : List Value} (hlen : ∀ sig, parseMethodDescriptor y.desc = some sig → argsL.length = sig.parameters.length)
    (hstack : g.stack = argsL.reverse ++ rest) (hW : 2 * g.monitorRoom + (rest.map fun v => v.category).sum ≤ W9) (hdg : decode c.code g.pc = .ok (.invokestatic index, 3))
    (hpre : ∀ vm₁, s.WarmedH vm₁ → Pre ⟨T.setVm vm₁, locs, cells, slots⟩ argsL.toArray) :
    ∃ (v : Option Value) (vm₁ : Vm) (B : Pt), s.WarmedH vm₁ ∧ Stand p l e R s m args below meth c B.U B.locs B.cells B.slots ∧ Post ⟨T.setVm vm₁, locs, cells, slots⟩ argsL.toArray v B ∧
      ∀ target, Steps p.tables e below (B.U.setTop { g with pc := g.pc + 3, stack := v.toList ++ rest }) target → Steps p.tables e below (T.setTop g) target := by
  obtain ⟨mk, methM, cM, hnamed, hmethM, -, -, -, -, -, -, hsigM⟩ := Cond.codeWith_spec hcode
  have hstatic : methM.isStatic = true := Cond.static_spec hnamed hmethM hstat
  obtain ⟨kP, hkP, -⟩ := className_of_methodNamed hnamed
  have hinitP : kP.init = .initialized := Cond.initialized_spec (findClass_of_methodNamed hnamed) hkP hinit
  obtain ⟨vm₁, X₁, hstep₁⟩ := X.invokestatic hexec hown hlink hnamed hmethM hstatic hkP hinitP hy (g := g) hg (argsL := argsL) (rest := rest) (hlen _ hsigM) hstack hdg
  obtain ⟨v, B, X', hpost, hsteps⟩ := hK m meth c ⟨T.setVm vm₁, locs, cells, slots⟩ { g with stack := rest } (.invokestatic index) mk argsL.toArray X₁ hg hsize hdg hW (X₁.named hnamed) (hpre vm₁ X₁.warmed)
  exact ⟨v, vm₁, B, X₁.warmed, X', hpost, fun target h => hstep₁ _ fun acts => by rw [doInvoke_state]; exact hsteps.trans h⟩
theorem vx_runSW {y : MethodName} {bytes cc : ByteArray} {maxL nL mc ms n index : Nat} {ret : Option FieldType} {hh : List (Nat × Nat × Nat × Nat)} {ws : List Cond} {rm : Room} {Pc : Array Value → State → Prop} {Qc : Array Value → State → Outcome → State → Prop} {free : Addr → Prop} {Ts : List Cond} {own : String} {As rest : List Value} {g : JFrame}
    (S : CallFix p m c cc nL s args Ts own) (hM : Met l y ws rm Pc Qc mc ms free) (cw : vx_CSW R s args own index y bytes maxL ret hh ws rm mc ms n) (hp : PreS s H Pc As)
    (hg : g.method = m) (hn : As.length = n) (hsize : g.locals.size = nL) (hstack : g.stack = As.reverse ++ rest) (hW : 2 * g.monitorRoom + (rest.map fun v => v.category).sum ≤ 8) (hdg : decode cc g.pc = .ok (.invokestatic index, 3)) (hf : cells + mc ≤ R.cells ∧ slots + ms ≤ R.slots) :
    va_Run p l e R s m args below meth c H locs cells slots mc ms g rest (Qc As.toArray) (free) := by
  obtain ⟨⟨hrc, hrs, hfr, hlo, hws, hcw⟩, hcode, hini, hy, hlen, hl, hstt⟩ := cw
  have hK : Back l R p e below s args y 3 8 (PreOf R mc ms Pc) (PostOf Qc mc ms free) := va_backW (hh := hh) (bytes := bytes) (maxL := maxL) (ret := ret) hM hp.1 hrc hrs hfr hlo hws hcw (fun a' U hW => word_at hW (Or.inl (by first | rfl | simp [Cond.onTables, Cond.keeps, Cond.steady])) hini)
  obtain ⟨hx, hb, hml, ho, -⟩ := S
  intro T hT X
  obtain ⟨v, vm₁, ⟨U', l2, c2, s2⟩, hW₁, X', ⟨g', mk, t, L, e1, e2, hq, h1, hL, h2, h3⟩, st⟩ := vx_callSW X hx (hh := hh) (bytes := bytes) (maxL := maxL) (ret := ret) ho hl hstt hini hcode hy hK hg (hsize.trans hml.symm) (argsL := As) (rest := rest) (fun sig h => hn.trans (hlen sig h)) hstack hW (by rw [hb]; exact hdg)
    (fun vm₁ hW₁ => ⟨hf.1, hf.2, hp.2 (T.setVm vm₁) hT hW₁⟩)
  dsimp only [Pt.U, Pt.locs, Pt.cells, Pt.slots] at X' e1 e2 h1 h2 h3 st
  subst h1; subst h2; subst h3
  exact ⟨v, (T.setVm vm₁).calling g' mk As.toArray, t, U', L, hT, X', hL, e1, e2, hq, st⟩
/-- not caught here, past rows that name other classes: it goes on to the caller -/
theorem vx_outP {p : Program} {l : Launch} {e : Env} {R : Room} {s : State} {m : MethodId} {args : Array Value} {below : List Frame} {meth : Method} {c : Code} {H : Heap} {locs : List Loc} {cells slots : Nat} {free : Addr → Prop} {ls : Array Slot} {rest : List Value} {Qc : Array Value → State → Outcome → State → Prop} {XC : String → State → State → Prop}
    {pc : Nat} {own E : String} {ce : Cell} {q : Addr} {mc ms : Nat} (hown : s.vm.findClass own = some m.cls) (hlocks : meth.locks = false)
    (hpass : ∀ z ∈ c.exceptionTable.toList, covers z pc = false ∨ (z.catchType ≠ 0 ∧ ∃ nm : String, (Cond.classLink own z.catchType nm).before args s = true ∧ va_Nc E nm s)) (hcell : H[q]? = some ce) (hv : ce.vm = .none) (hcl : s.vm.findClass E = some ce.cls)
    (hx : ∀ t : State, t.heap = H → s.vm.Alike t.vm → XC E s t) (hf : ∀ z ∈ locs, free z.base) (hc : cells ≤ mc) (hs : slots ≤ ms) :
    vx_W p l e R s m args below meth c H locs cells slots (vx_MQ below Qc XC args s mc ms free) (F0 m pc ls rest) q := by
  intro T hT X
  have hpl : e.platform.magicAccessors = ({} : Platform).magicAccessors := by rw [X.admits.platform]
  obtain ⟨vm', hW', X', st⟩ := X.outThrough hlocks q (g := F0 m pc ls rest) rfl rfl rfl (cell := ce) (by rw [hT]; exact hcell) (by rw [hv]; rfl)
    (by obtain ⟨k9, h9, -⟩ := Vm.findClass_spec hcl; exact ⟨k9, h9⟩) (fun z hz => by
      rcases hpass z hz with h | ⟨hz0, nm, hl1, hn1⟩
      · exact Or.inl h
      · obtain ⟨c6, hc6, hcl6⟩ := Cond.classLink_spec hown hl1 e.platform hpl
        obtain ⟨a8, b8, h1, h2, h3⟩ := hn1
        cases Option.some.inj (h1.symm.trans hcl)
        cases Option.some.inj (h2.symm.trans hc6)
        exact Or.inr ⟨hz0, _, hcl6, h3⟩)
  obtain ⟨g₀, hfr⟩ := X'.frames_eq
  have hcell9 : ((T.setVm vm').setFrames (.throwing q :: below)).heap[q]? = some ce := by
    show T.heap[q]? = some ce
    rw [hT]; exact hcell
  have hend : Ended ((T.setVm vm').setFrames (.throwing q :: below)) below (.threw q) := State.frames_setFrames _ (State.cur_lt_of_frames hfr)
  refine ⟨(T.setVm vm').setFrames (.throwing q :: below), ?_, .threw q, X'.here.running, hend, Or.inr ⟨q, rfl, E, ce, locs, hx _ hT (X'.ends _).1.alike, hcell9, hv, hcl, (X'.ends _).1, (X'.ends _).2.mono hc hs, hf⟩⟩
  rw [X.pushThrowing_eq]
  exact st
/-- a thing of a world lies in the heap -/
theorem vx_lt {D : va_G} {cl : List vw_C} {ws : va_W} {H1 : Heap} (h : va_P D cl ws H1) {k : Nat} {q : Nat × va_E} (hk : ws[k]? = some q) : q.1 < H1.size := (h k q hk).lt
end VXS
/-! ===== END ===== -/
/-! ===== BEGIN methods with a table of their own: called by a name, returning or throwing ===== -/
section VXH
/-! vx_backW, vx_callVX, vx_callSX, vx_callVW, vx_runVW, vx_runVX, vx_runSX, vx_ofWH follow the same proofs as their sisters above (Free/Laws.lean, Shelf42/LK1.lean); vx_outP calls Shelf42/NT130.lean (outThrough). -/
section
variable {l : Launch} {R : Room} {p : Program} {e : Env} {below : List Frame} {s : State} {sargs : Array Value} {y : MethodName} {len W9 : Nat}
theorem vx_backW {ws : List Cond} {rm : Room} {Pc : Array Value → State → Prop} {Qc : Array Value → State → Outcome → State → Prop} {XC : String → State → State → Prop} {mc ms : Nat} {free : Addr → Prop} {bytes : ByteArray} {maxL : Nat} {ret : Option FieldType} {hh : List (Nat × Nat × Nat × Nat)}
    (hM : vx_Met l y ws rm Pc Qc XC mc ms free) (hblind : FrameBlind Pc) (hrc : rm.cells = mc) (hrs : rm.slots = ms)
    (hframes : rm.frames + 1 ≤ R.frames) (hlocals : W9 + (maxL + 11) + rm.locals ≤ R.locals)
    (hws : ∀ w ∈ ws, ∀ a' U, s.WarmedH U.vm → w.before a' U = true) (hcode : Cond.codeWith y bytes maxL ret hh ∈ ws) (hinit : ∀ a' U, s.WarmedH U.vm → (Cond.initialized y.cls).before a' U = true) :
    vx_Back l R p e below s sargs y len W9 (PreOf R mc ms Pc) (PostOf Qc mc ms free) (vx_Post XC mc ms free) := by
  intro m meth c A g ig mk a X hg hsize hdg hW hn hp
  have h1 : (headSpec ws rm).pre.before a A.U = true := atoms_intro fun w hw => hws w hw _ _ X.warmed
  have h2 : (Cond.codeWith y bytes maxL ret hh).before a A.U = true := hws _ hcode _ _ X.warmed
  have h3 : (Cond.initialized y.cls).before a A.U = true := hinit _ _ X.warmed
  have h4 : A.cells + (headSpec ws rm).room.cells ≤ R.cells := by rw [show (headSpec ws rm).room.cells = mc from hrc]; exact hp.1
  have h5 : A.slots + (headSpec ws rm).room.slots ≤ R.slots := by rw [show (headSpec ws rm).room.slots = ms from hrs]; exact hp.2.1
  have hPc : Pc a (A.U.calling g mk a) := hblind _ _ _ _ hp.2.2
  obtain ⟨U, Ls, c0, s0⟩ := A
  dsimp only [Pt.U, Pt.locs, Pt.cells, Pt.slots] at h1 h2 h3 h4 h5 X hn hPc ⊢
  obtain ⟨m9, methY, cY, hn9, hmY, hcY, -, hlY, -⟩ := Cond.codeWith_spec h2
  cases Option.some.inj (hn9.symm.trans hn)
  obtain ⟨kY, hkY, -⟩ := className_of_methodNamed hn
  have hinitY : kY.init = .initialized := Cond.initialized_spec (findClass_of_methodNamed hn) hkY h3
  have h : At U g.method c below := by rw [hg]; exact X.here
  have hlocals9 : W9 + (maxL + 11) + (headSpec ws rm).room.locals ≤ R.locals := hlocals
  have happ : (headSpec ws rm).appliesLoose y e.platform (U.calling g mk a) = true :=
    Spec.appliesLoose_calling (g := g) h hdg hn hkY hinitY
      (X.room_calling (g := g) (R' := (headSpec ws rm).room) hsize hmY hcY hframes (by rw [hlY]; omega) h4 h5) h1
  obtain ⟨mid, hmid⟩ := h.above
  have hfr : (U.setTop g).frames = (.java g :: mid) ++ below := by rw [State.frames_setTop' g h.top, hmid]; rfl
  obtain ⟨o, s₂, hsteps, -, hend, hq⟩ := Steps.callFree hM p X.admits X.cas X.clock (acts := []) hfr happ hPc trivial
  have hq' : vx_Q Qc XC mc ms free a (U.calling g mk a) o s₂ := hq
  rw [State.frames_setTop' g h.top] at hend
  obtain ⟨g₀, hg0⟩ := Option.isSome_iff_exists.mp h.top
  obtain ⟨r, hr⟩ := State.topJava?_eq_some.mp hg0
  have hr' : (({ U with heap := s₂.heap, slotsUsed := s₂.slotsUsed } : State).setVm s₂.vm).frames = .java g₀ :: r := hr
  rcases hq' with ⟨hqc, L, hfe, hL⟩ | ⟨q, rfl, E, ce, L, hx, hce, hcv, hcl, hW₂, hsm, hL⟩
  · obtain ⟨⟨v, rfl⟩, hW₂, e2, q2, q3, q4, q5, q6⟩ := id hfe
    have e3 : s₂ = ({ (U.calling g mk a).setFrames s₂.frames with heap := s₂.heap, slotsUsed := s₂.slotsUsed } : State).setVm s₂.vm := by
      have : s₂ = ({ s₂ with vm := (U.calling g mk a).vm } : State).setVm s₂.vm := rfl
      rw [e2] at this
      exact this
    obtain ⟨c₂, i₂, len₂, hc₂, hd₂, hf₂⟩ := hend
    have hW' : U.WarmedH s₂.vm := hW₂
    have hcc : c₂ = c := by
      have h1 : s₂.code? g.method = U.code? g.method := by
        rw [State.code?_eq, State.code?_eq, hW'.alike.method?]
      exact Option.some.inj (hc₂.symm.trans (h1.trans h.code))
    subst hcc
    have hlen : len₂ = len := by rw [hdg] at hd₂; cases hd₂; rfl
    subst hlen
    have hs₂ : s₂ = (({ U with heap := s₂.heap, slotsUsed := s₂.slotsUsed } : State).setVm s₂.vm).setTop { g with pc := g.pc + len₂, stack := v.toList ++ g.stack } := by
      refine e3.trans ?_
      rw [hf₂, State.calling_eq h.top, State.setFrames_setFrames, State.setTop_of_frames _ hr', hr]
      rfl
    have hsame : U.sameButNew ({ U with heap := s₂.heap, slotsUsed := s₂.slotsUsed } : State) L mc ms := by
      refine ⟨?_, q2, q3, q4, q5, q6⟩
      obtain ⟨t, ht, -⟩ := State.frames_cons hr
      show ({ U with heap := s₂.heap, slotsUsed := s₂.slotsUsed } : State) = { U.setFrames U.frames with heap := s₂.heap, slotsUsed := s₂.slotsUsed }
      rw [State.setFrames_self ht]
    subst hg
    refine Or.inl ⟨v, ⟨(({ U with heap := s₂.heap, slotsUsed := s₂.slotsUsed } : State).setVm s₂.vm), Ls ++ L, c0 + mc, s0 + ms⟩,
      ⟨X.admits, X.cas, X.clock, X.frames, X.room, X.hears, X.method, X.code, (X.here.setHeapUsed s₂.heap s₂.slotsUsed).setVm hW'.alike, X.tail, State.WarmedH.trans X.warmed hW', X.limits, X.bytes, X.same.trans (hsame.setVm s.vm)⟩,
      ⟨g, mk, s₂, L, rfl, rfl, hqc, rfl, hL, rfl, rfl⟩, ?_⟩
    show Steps p.tables e below _ ((({ U with heap := s₂.heap, slotsUsed := s₂.slotsUsed } : State).setVm s₂.vm).setTop { g with pc := g.pc + len₂, stack := v.toList ++ g.stack })
    rw [← hs₂]
    exact hsteps
  · obtain ⟨e2, q2, q3, q4, q5, q6⟩ := id hsm
    have e3 : s₂ = ({ (U.calling g mk a).setFrames s₂.frames with heap := s₂.heap, slotsUsed := s₂.slotsUsed } : State).setVm s₂.vm := by
      have : s₂ = ({ s₂ with vm := (U.calling g mk a).vm } : State).setVm s₂.vm := rfl
      rw [e2] at this
      exact this
    have hf₂ : s₂.frames = .throwing q :: .java g :: U.frames.tail := hend
    have hW' : U.WarmedH s₂.vm := hW₂
    have hs₂ : s₂ = ((({ U with heap := s₂.heap, slotsUsed := s₂.slotsUsed } : State).setVm s₂.vm).setTop g).pushFrame (.throwing q) := by
      refine e3.trans ?_
      rw [hf₂, State.calling_eq h.top, State.setFrames_setFrames, State.pushFrame, State.frames_setTop _ hr', State.setTop_of_frames _ hr', State.setFrames_setFrames, hr]
      rfl
    have hsame : U.sameButNew ({ U with heap := s₂.heap, slotsUsed := s₂.slotsUsed } : State) L mc ms := by
      refine ⟨?_, q2, q3, q4, q5, q6⟩
      obtain ⟨t, ht, -⟩ := State.frames_cons hr
      show ({ U with heap := s₂.heap, slotsUsed := s₂.slotsUsed } : State) = { U.setFrames U.frames with heap := s₂.heap, slotsUsed := s₂.slotsUsed }
      rw [State.setFrames_self ht]
    subst hg
    refine Or.inr ⟨q, ⟨(({ U with heap := s₂.heap, slotsUsed := s₂.slotsUsed } : State).setVm s₂.vm), Ls ++ L, c0 + mc, s0 + ms⟩,
      ⟨X.admits, X.cas, X.clock, X.frames, X.room, X.hears, X.method, X.code, (X.here.setHeapUsed s₂.heap s₂.slotsUsed).setVm hW'.alike, X.tail, State.WarmedH.trans X.warmed hW', X.limits, X.bytes, X.same.trans (hsame.setVm s.vm)⟩,
      ⟨g, mk, s₂, L, E, ce, rfl, rfl, hx, hce, hcv, hcl, rfl, hL, rfl, rfl⟩, ?_⟩
    show Steps p.tables e below _ (((({ U with heap := s₂.heap, slotsUsed := s₂.slotsUsed } : State).setVm s₂.vm).setTop g).pushFrame (.throwing q))
    rw [← hs₂]
    exact hsteps
end
variable {p : Program} {l : Launch} {e : Env} {R : Room} {s : State} {m : MethodId} {args : Array Value} {below : List Frame} {meth : Method} {c : Code} {T : State} {H : Heap} {locs : List Loc} {cells slots : Nat}
theorem vx_callVX (X : Stand p l e R s m args below meth c T locs cells slots) (hexec : p.tables.exec = Jvm.exec) {own C : String} {index : Nat} {y : MethodName} {bytes : ByteArray} {maxL : Nat} {ret : Option FieldType} {hh : List (Nat × Nat × Nat × Nat)}
    (hown : s.vm.findClass own = some m.cls) (hlink : (Cond.methodLink own index y).before args s = true) (hinst : (Cond.instanceMethod y).before args s = true) (hsel : (Cond.selects C y y).before args s = true)
    (hcode : (Cond.codeWith y bytes maxL ret hh).before args s = true) (hy : y.cls ≠ "java/lang/invoke/MethodHandle" ∧ y.cls ≠ "java/lang/invoke/VarHandle")
    {W9 : Nat} {Pre : Pt → Array Value → Prop} {Post : Pt → Array Value → Option Value → Pt → Prop} {PostX : Pt → Array Value → Addr → Pt → Prop} (hK : vx_Back l R p e below s args y 3 W9 Pre Post PostX)
    {b : Addr} {cellB : Cell} (hcell : T.heap[b]? = some cellB) (hobj : cellB.vm.isStatics = false) (hcls : s.vm.findClass C = some cellB.cls)
    {g : JFrame} (hg : g.method = m) (hsize : g.locals.size = c.maxLocals) {argsL rest : List Value} (hlen : ∀ sig, parseMethodDescriptor y.desc = some sig → argsL.length = sig.parameters.length)
    (hstack : g.stack = argsL.reverse ++ .ref b :: rest) (hW : 2 * g.monitorRoom + (rest.map fun v => v.category).sum ≤ W9) (hdg : decode c.code g.pc = .ok (.invokevirtual index, 3))
    (hpre : ∀ vm₁, s.WarmedH vm₁ → Pre ⟨T.setVm vm₁, locs, cells, slots⟩ (Value.ref b :: argsL).toArray) :
    (∃ (v : Option Value) (vm₁ : Vm) (B : Pt), s.WarmedH vm₁ ∧ Stand p l e R s m args below meth c B.U B.locs B.cells B.slots ∧ Post ⟨T.setVm vm₁, locs, cells, slots⟩ (Value.ref b :: argsL).toArray v B ∧
      ∀ target, Steps p.tables e below (B.U.setTop { g with pc := g.pc + 3, stack := v.toList ++ rest }) target → Steps p.tables e below (T.setTop g) target) ∨
    (∃ (q : Addr) (vm₁ : Vm) (B : Pt), s.WarmedH vm₁ ∧ Stand p l e R s m args below meth c B.U B.locs B.cells B.slots ∧ PostX ⟨T.setVm vm₁, locs, cells, slots⟩ (Value.ref b :: argsL).toArray q B ∧
      Steps p.tables e below (T.setTop g) ((B.U.setTop { g with stack := rest }).pushFrame (.throwing q))) := by
  obtain ⟨mk, methM, hnamed, hmethM, hstM, habM⟩ := Cond.instanceMethod_spec hinst
  obtain ⟨m8, methM', cM, hn8, hmethM', -, -, -, -, -, -, hsigM⟩ := Cond.codeWith_spec hcode
  cases Option.some.inj (hn8.symm.trans hnamed)
  cases hmethM.symm.trans hmethM'
  obtain ⟨c2, r2, m2, q1, q2, q3, q4, kP, hkP, hkPi⟩ := Cond.selects_spec hsel
  cases hcls.symm.trans q1
  cases (State.methodFound?_of_named hnamed hy).symm.trans q2
  cases hnamed.symm.trans q3
  have hselP : selectMethod e.platform s.vm cellB.cls mk = .method mk := by rw [Launch.admits_selectMethod X.admits]; exact q4
  obtain ⟨vm₁, X₁, hstep₁⟩ := X.invokevirtual hexec hown hlink hnamed hmethM hstM hkP hkPi hy (a := b) (cell := cellB) hcell
    (fun z h => by rw [h] at hobj; cases hobj) hselP hmethM habM hkP hkPi (g := g) hg (argsL := argsL) (rest := rest) (hlen _ hsigM) hstack hdg
  rcases hK m meth c ⟨T.setVm vm₁, locs, cells, slots⟩ { g with stack := rest } (.invokevirtual index) mk (Value.ref b :: argsL).toArray X₁ hg hsize hdg hW (X₁.named hnamed) (hpre vm₁ X₁.warmed) with ⟨v, B, X', hpost, hsteps⟩ | ⟨q, B, X', hpost, hsteps⟩
  · exact Or.inl ⟨v, vm₁, B, X₁.warmed, X', hpost, fun target h => hstep₁ _ fun acts => by rw [doInvoke_state]; exact hsteps.trans h⟩
  · exact Or.inr ⟨q, vm₁, B, X₁.warmed, X', hpost, hstep₁ _ fun acts => by rw [doInvoke_state]; exact hsteps⟩
theorem vx_callSX (X : Stand p l e R s m args below meth c T locs cells slots) (hexec : p.tables.exec = Jvm.exec) {own : String} {index : Nat} {y : MethodName} {bytes : ByteArray} {maxL : Nat} {ret : Option FieldType} {hh : List (Nat × Nat × Nat × Nat)}
    (hown : s.vm.findClass own = some m.cls) (hlink : (Cond.methodLink own index y).before args s = true) (hstat : (Cond.static y).before args s = true) (hinit : (Cond.initialized y.cls).before args s = true)
    (hcode : (Cond.codeWith y bytes maxL ret hh).before args s = true) (hy : y.cls ≠ "java/lang/invoke/MethodHandle" ∧ y.cls ≠ "java/lang/invoke/VarHandle")
    {W9 : Nat} {Pre : Pt → Array Value → Prop} {Post : Pt → Array Value → Option Value → Pt → Prop} {PostX : Pt → Array Value → Addr → Pt → Prop} (hK : vx_Back l R p e below s args y 3 W9 Pre Post PostX)
    {g : JFrame} (hg : g.method = m) (hsize : g.locals.size = c.maxLocals) {argsL rest : List Value} (hlen : ∀ sig, parseMethodDescriptor y.desc = some sig → argsL.length = sig.parameters.length)
    (hstack : g.stack = argsL.reverse ++ rest) (hW : 2 * g.monitorRoom + (rest.map fun v => v.category).sum ≤ W9) (hdg : decode c.code g.pc = .ok (.invokestatic index, 3))
    (hpre : ∀ vm₁, s.WarmedH vm₁ → Pre ⟨T.setVm vm₁, locs, cells, slots⟩ argsL.toArray) :
    (∃ (v : Option Value) (vm₁ : Vm) (B : Pt), s.WarmedH vm₁ ∧ Stand p l e R s m args below meth c B.U B.locs B.cells B.slots ∧ Post ⟨T.setVm vm₁, locs, cells, slots⟩ argsL.toArray v B ∧
      ∀ target, Steps p.tables e below (B.U.setTop { g with pc := g.pc + 3, stack := v.toList ++ rest }) target → Steps p.tables e below (T.setTop g) target) ∨
    (∃ (q : Addr) (vm₁ : Vm) (B : Pt), s.WarmedH vm₁ ∧ Stand p l e R s m args below meth c B.U B.locs B.cells B.slots ∧ PostX ⟨T.setVm vm₁, locs, cells, slots⟩ argsL.toArray q B ∧
      Steps p.tables e below (T.setTop g) ((B.U.setTop { g with stack := rest }).pushFrame (.throwing q))) := by
  obtain ⟨mk, methM, cM, hnamed, hmethM, -, -, -, -, -, -, hsigM⟩ := Cond.codeWith_spec hcode
  have hstatic : methM.isStatic = true := Cond.static_spec hnamed hmethM hstat
  obtain ⟨kP, hkP, -⟩ := className_of_methodNamed hnamed
  have hinitP : kP.init = .initialized := Cond.initialized_spec (findClass_of_methodNamed hnamed) hkP hinit
  obtain ⟨vm₁, X₁, hstep₁⟩ := X.invokestatic hexec hown hlink hnamed hmethM hstatic hkP hinitP hy (g := g) hg (argsL := argsL) (rest := rest) (hlen _ hsigM) hstack hdg
  rcases hK m meth c ⟨T.setVm vm₁, locs, cells, slots⟩ { g with stack := rest } (.invokestatic index) mk argsL.toArray X₁ hg hsize hdg hW (X₁.named hnamed) (hpre vm₁ X₁.warmed) with ⟨v, B, X', hpost, hsteps⟩ | ⟨q, B, X', hpost, hsteps⟩
  · exact Or.inl ⟨v, vm₁, B, X₁.warmed, X', hpost, fun target h => hstep₁ _ fun acts => by rw [doInvoke_state]; exact hsteps.trans h⟩
  · exact Or.inr ⟨q, vm₁, B, X₁.warmed, X', hpost, hstep₁ _ fun acts => by rw [doInvoke_state]; exact hsteps⟩
theorem vx_callVW (X : Stand p l e R s m args below meth c T locs cells slots) (hexec : p.tables.exec = Jvm.exec) {own C : String} {index : Nat} {y : MethodName} {bytes : ByteArray} {maxL : Nat} {ret : Option FieldType} {hh : List (Nat × Nat × Nat × Nat)}
    (hown : s.vm.findClass own = some m.cls) (hlink : (Cond.methodLink own index y).before args s = true) (hinst : (Cond.instanceMethod y).before args s = true) (hsel : (Cond.selects C y y).before args s = true)
    (hcode : (Cond.codeWith y bytes maxL ret hh).before args s = true) (hy : y.cls ≠ "java/lang/invoke/MethodHandle" ∧ y.cls ≠ "java/lang/invoke/VarHandle")
    {W9 : Nat} {Pre : Pt → Array Value → Prop} {Post : Pt → Array Value → Option Value → Pt → Prop} (hK : Back l R p e below s args y 3 W9 Pre Post)
    {b : Addr} {cellB : Cell} (hcell : T.heap[b]? = some cellB) (hobj : cellB.vm.isStatics = false) (hcls : s.vm.findClass C = some cellB.cls)
    {g : JFrame} (hg : g.method = m) (hsize : g.locals.size = c.maxLocals) {argsL rest : List Value} (hlen : ∀ sig, parseMethodDescriptor y.desc = some sig → argsL.length = sig.parameters.length)
    (hstack : g.stack = argsL.reverse ++ .ref b :: rest) (hW : 2 * g.monitorRoom + (rest.map fun v => v.category).sum ≤ W9) (hdg : decode c.code g.pc = .ok (.invokevirtual index, 3))
    (hpre : ∀ vm₁, s.WarmedH vm₁ → Pre ⟨T.setVm vm₁, locs, cells, slots⟩ (Value.ref b :: argsL).toArray) :
    ∃ (v : Option Value) (vm₁ : Vm) (B : Pt), s.WarmedH vm₁ ∧ Stand p l e R s m args below meth c B.U B.locs B.cells B.slots ∧ Post ⟨T.setVm vm₁, locs, cells, slots⟩ (Value.ref b :: argsL).toArray v B ∧
      ∀ target, Steps p.tables e below (B.U.setTop { g with pc := g.pc + 3, stack := v.toList ++ rest }) target → Steps p.tables e below (T.setTop g) target := by
  obtain ⟨mk, methM, hnamed, hmethM, hstM, habM⟩ := Cond.instanceMethod_spec hinst
  obtain ⟨m8, methM', cM, hn8, hmethM', -, -, -, -, -, -, hsigM⟩ := Cond.codeWith_spec hcode
  cases Option.some.inj (hn8.symm.trans hnamed)
  cases hmethM.symm.trans hmethM'
  obtain ⟨c2, r2, m2, q1, q2, q3, q4, kP, hkP, hkPi⟩ := Cond.selects_spec hsel
  cases hcls.symm.trans q1
  cases (State.methodFound?_of_named hnamed hy).symm.trans q2
  cases hnamed.symm.trans q3
  have hselP : selectMethod e.platform s.vm cellB.cls mk = .method mk := by rw [Launch.admits_selectMethod X.admits]; exact q4
  obtain ⟨vm₁, X₁, hstep₁⟩ := X.invokevirtual hexec hown hlink hnamed hmethM hstM hkP hkPi hy (a := b) (cell := cellB) hcell
    (fun z h => by rw [h] at hobj; cases hobj) hselP hmethM habM hkP hkPi (g := g) hg (argsL := argsL) (rest := rest) (hlen _ hsigM) hstack hdg
  obtain ⟨v, B, X', hpost, hsteps⟩ := hK m meth c ⟨T.setVm vm₁, locs, cells, slots⟩ { g with stack := rest } (.invokevirtual index) mk (Value.ref b :: argsL).toArray X₁ hg hsize hdg hW (X₁.named hnamed) (hpre vm₁ X₁.warmed)
  exact ⟨v, vm₁, B, X₁.warmed, X', hpost, fun target h => hstep₁ _ fun acts => by rw [doInvoke_state]; exact hsteps.trans h⟩
abbrev vx_CVW (R : Room) (s : State) (args : Array Value) (own C : String) (index : Nat) (y : MethodName) (bytes : ByteArray) (maxL : Nat) (ret : Option FieldType) (hh : List (Nat × Nat × Nat × Nat)) (ws : List Cond) (rm : Room) (mc ms n : Nat) : Prop :=
  (rm.cells = mc ∧ rm.slots = ms ∧ rm.frames + 1 ≤ R.frames ∧ 8 + (maxL + 11) + rm.locals ≤ R.locals ∧ (∀ w ∈ ws, ∀ (a' : Array Value) (U : State), s.WarmedH U.vm → w.before a' U = true) ∧ Cond.codeWith y bytes maxL ret hh ∈ ws) ∧
  (Cond.codeWith y bytes maxL ret hh).before args s = true ∧ (Cond.initialized y.cls).before args s = true ∧ (y.cls ≠ "java/lang/invoke/MethodHandle" ∧ y.cls ≠ "java/lang/invoke/VarHandle") ∧
  (∀ sig, parseMethodDescriptor y.desc = some sig → n = sig.parameters.length) ∧ (Cond.methodLink own index y).before args s = true ∧ (Cond.instanceMethod y).before args s = true ∧ (Cond.selects C y y).before args s = true
theorem vx_cwVW {own C : String} {index maxL mc ms : Nat} {y : MethodName} {bytes : ByteArray} {ret : Option FieldType} {hh : List (Nat × Nat × Nat × Nat)} {Ts ws ws' : List Cond} {rm : Room} (n : Nat) (ht : ∀ w ∈ Ts, w.before args s = true) (hT : GoodIn Ts (wsV own index C y ws)) (hw : ws = Cond.codeWith y bytes maxL ret hh :: ws') (hrc : rm.cells = mc) (hrs : rm.slots = ms)
    (hd : y.cls = C ∧ y.cls ≠ "java/lang/invoke/MethodHandle" ∧ y.cls ≠ "java/lang/invoke/VarHandle" ∧ (parseMethodDescriptor y.desc).map (fun d => d.parameters.length) = some n) (hR : rm.frames + 1 ≤ R.frames ∧ 8 + (maxL + 11) + rm.locals ≤ R.locals) :
    vx_CVW R s args own C index y bytes maxL ret hh ws rm mc ms n := by
  obtain ⟨hC, hd⟩ := hd
  subst hC
  have ok : ∀ w ∈ wsV own index y.cls y ws, w.before args s = true := fun w h => ht w (hT w h).1
  have hG : GoodIn Ts ws := fun w h => hT w (by unfold wsV; exact List.mem_append_right _ h)
  have hc : Cond.codeWith y bytes maxL ret hh ∈ ws := by rw [hw]; exact List.mem_cons_self
  refine ⟨⟨hrc, hrs, hR.1, hR.2, pay_in ht hG, hc⟩, ht _ (hG _ hc).1, ok _ (by simp [wsV]), ⟨hd.1, hd.2.1⟩, fun sig h => ?_, ok _ (by simp [wsV]), ok _ (by simp [wsV]), ok _ (by simp [wsV])⟩
  have h2 := hd.2.2
  rw [h] at h2
  exact (Option.some.inj h2).symm
theorem vx_runVW {y : MethodName} {bytes cc : ByteArray} {maxL nL mc ms n index : Nat} {ret : Option FieldType} {hh : List (Nat × Nat × Nat × Nat)} {ws : List Cond} {rm : Room} {Pc : Array Value → State → Prop} {Qc : Array Value → State → Outcome → State → Prop} {free : Addr → Prop} {Ts : List Cond} {own C : String} {b : Addr} {As rest : List Value} {g : JFrame}
    (S : CallFix p m c cc nL s args Ts own) (hM : Met l y ws rm Pc Qc mc ms free) (cw : vx_CVW R s args own C index y bytes maxL ret hh ws rm mc ms n) (hp : PreV s H C b Pc As)
    (hg : g.method = m) (hn : As.length = n) (hsize : g.locals.size = nL) (hstack : g.stack = As.reverse ++ .ref b :: rest) (hW : 2 * g.monitorRoom + (rest.map fun v => v.category).sum ≤ 8) (hdg : decode cc g.pc = .ok (.invokevirtual index, 3)) (hf : cells + mc ≤ R.cells ∧ slots + ms ≤ R.slots) :
    va_Run p l e R s m args below meth c H locs cells slots mc ms g rest (Qc (Value.ref b :: As).toArray) free := by
  obtain ⟨⟨hrc, hrs, hfr, hlo, hws, hcw⟩, hcode, hini, hy, hlen, hl, hin, hse⟩ := cw
  have hK : Back l R p e below s args y 3 8 (PreOf R mc ms Pc) (PostOf Qc mc ms free) := va_backW (hh := hh) (bytes := bytes) (maxL := maxL) (ret := ret) hM hp.1 hrc hrs hfr hlo hws hcw (fun a' U hW => word_at hW (Or.inl (by first | rfl | simp [Cond.onTables, Cond.keeps, Cond.steady])) hini)
  obtain ⟨hx, hb, hml, ho, -⟩ := S
  obtain ⟨-, ⟨cellB, hcB, hoB, hclB⟩, hPc⟩ := hp
  intro T hT X
  obtain ⟨v, vm₁, ⟨U', l2, c2, s2⟩, hW₁, X', ⟨g', mk, t, L, e1, e2, hq, h1, hL, h2, h3⟩, st⟩ := vx_callVW X hx (C := C) (hh := hh) (bytes := bytes) (maxL := maxL) (ret := ret) ho hl hin hse hcode hy hK (by rw [hT]; exact hcB) hoB hclB hg (hsize.trans hml.symm) (argsL := As) (rest := rest) (fun sig h => hn.trans (hlen sig h)) hstack hW (by rw [hb]; exact hdg)
    (fun vm₁ hW₁ => ⟨hf.1, hf.2, hPc (T.setVm vm₁) hT hW₁⟩)
  dsimp only [Pt.U, Pt.locs, Pt.cells, Pt.slots] at X' e1 e2 h1 h2 h3 st
  subst h1; subst h2; subst h3
  exact ⟨v, (T.setVm vm₁).calling g' mk (Value.ref b :: As).toArray, t, U', L, hT, X', hL, e1, e2, hq, st⟩
section
variable {y : MethodName} {bytes cc : ByteArray} {maxL nL mc ms n index : Nat} {ret : Option FieldType} {ws : List Cond} {rm : Room} {Pc : Array Value → State → Prop} {Qc : Array Value → State → Outcome → State → Prop} {XC : String → State → State → Prop} {free : Addr → Prop} {Ts : List Cond} {own C : String} {b : Addr} {As rest : List Value} {g : JFrame}
theorem vx_runVX {hh : List (Nat × Nat × Nat × Nat)} (S : CallFix p m c cc nL s args Ts own) (hM : vx_Met l y ws rm Pc Qc XC mc ms free) (cw : vx_CVW R s args own C index y bytes maxL ret hh ws rm mc ms n) (hp : PreV s H C b Pc As)
    (hg : g.method = m) (hn : As.length = n) (hsize : g.locals.size = nL) (hstack : g.stack = As.reverse ++ .ref b :: rest) (hW : 2 * g.monitorRoom + (rest.map fun v => v.category).sum ≤ 8) (hdg : decode cc g.pc = .ok (.invokevirtual index, 3)) (hf : cells + mc ≤ R.cells ∧ slots + ms ≤ R.slots) :
    vx_Run p l e R s m args below meth c H locs cells slots mc ms g rest (Qc (Value.ref b :: As).toArray) XC free := by
  obtain ⟨⟨hrc, hrs, hfr, hlo, hws, hcw⟩, hcode, hini, hy, hlen, hl, hin, hse⟩ := cw
  have hK : vx_Back l R p e below s args y 3 8 (PreOf R mc ms Pc) (PostOf Qc mc ms free) (vx_Post XC mc ms free) := vx_backW (hh := hh) (bytes := bytes) (maxL := maxL) (ret := ret) hM hp.1 hrc hrs hfr hlo hws hcw (fun a' U hW => word_at hW (Or.inl (by first | rfl | simp [Cond.onTables, Cond.keeps, Cond.steady])) hini)
  obtain ⟨hx, hb, hml, ho, -⟩ := S
  obtain ⟨-, ⟨cellB, hcB, hoB, hclB⟩, hPc⟩ := hp
  intro T hT X
  rcases vx_callVX X hx (C := C) (hh := hh) (bytes := bytes) (maxL := maxL) (ret := ret) ho hl hin hse hcode hy hK (by rw [hT]; exact hcB) hoB hclB hg (hsize.trans hml.symm) (argsL := As) (rest := rest) (fun sig h => hn.trans (hlen sig h)) hstack hW (by rw [hb]; exact hdg)
    (fun vm₁ hW₁ => ⟨hf.1, hf.2, hPc (T.setVm vm₁) hT hW₁⟩) with ⟨v, vm₁, ⟨U', l2, c2, s2⟩, hW₁, X', ⟨g', mk, t, L, e1, e2, hq, h1, hL, h2, h3⟩, st⟩ | ⟨q, vm₁, ⟨U', l2, c2, s2⟩, hW₁, X', ⟨g', mk, t, L, E, ce, e1, e2, hq, hce, hcv, hcl, h1, hL, h2, h3⟩, st⟩
  · dsimp only [Pt.U, Pt.locs, Pt.cells, Pt.slots] at X' e1 e2 h1 h2 h3 st
    subst h1; subst h2; subst h3
    exact Or.inl ⟨v, (T.setVm vm₁).calling g' mk (Value.ref b :: As).toArray, t, U', L, hT, X', hL, e1, e2, hq, st⟩
  · dsimp only [Pt.U, Pt.locs, Pt.cells, Pt.slots] at X' e1 e2 h1 h2 h3 st hcl
    subst h1; subst h2; subst h3
    exact Or.inr ⟨q, (T.setVm vm₁).calling g' mk (Value.ref b :: As).toArray, t, U', L, E, ce, hT, X', hL, e1, e2, hq, hce, hcv, vx_cls hW₁ hcl, st⟩
theorem vx_runSX {hh : List (Nat × Nat × Nat × Nat)} (S : CallFix p m c cc nL s args Ts own) (hM : vx_Met l y ws rm Pc Qc XC mc ms free) (cw : vx_CSW R s args own index y bytes maxL ret hh ws rm mc ms n) (hp : PreS s H Pc As)
    (hg : g.method = m) (hn : As.length = n) (hsize : g.locals.size = nL) (hstack : g.stack = As.reverse ++ rest) (hW : 2 * g.monitorRoom + (rest.map fun v => v.category).sum ≤ 8) (hdg : decode cc g.pc = .ok (.invokestatic index, 3)) (hf : cells + mc ≤ R.cells ∧ slots + ms ≤ R.slots) :
    vx_Run p l e R s m args below meth c H locs cells slots mc ms g rest (Qc As.toArray) XC free := by
  obtain ⟨⟨hrc, hrs, hfr, hlo, hws, hcw⟩, hcode, hini, hy, hlen, hl, hstt⟩ := cw
  have hK : vx_Back l R p e below s args y 3 8 (PreOf R mc ms Pc) (PostOf Qc mc ms free) (vx_Post XC mc ms free) := vx_backW (hh := hh) (bytes := bytes) (maxL := maxL) (ret := ret) hM hp.1 hrc hrs hfr hlo hws hcw (fun a' U hW => word_at hW (Or.inl (by first | rfl | simp [Cond.onTables, Cond.keeps, Cond.steady])) hini)
  obtain ⟨hx, hb, hml, ho, -⟩ := S
  intro T hT X
  rcases vx_callSX X hx (hh := hh) (bytes := bytes) (maxL := maxL) (ret := ret) ho hl hstt hini hcode hy hK hg (hsize.trans hml.symm) (argsL := As) (rest := rest) (fun sig h => hn.trans (hlen sig h)) hstack hW (by rw [hb]; exact hdg)
    (fun vm₁ hW₁ => ⟨hf.1, hf.2, hp.2 (T.setVm vm₁) hT hW₁⟩) with ⟨v, vm₁, ⟨U', l2, c2, s2⟩, hW₁, X', ⟨g', mk, t, L, e1, e2, hq, h1, hL, h2, h3⟩, st⟩ | ⟨q, vm₁, ⟨U', l2, c2, s2⟩, hW₁, X', ⟨g', mk, t, L, E, ce, e1, e2, hq, hce, hcv, hcl, h1, hL, h2, h3⟩, st⟩
  · dsimp only [Pt.U, Pt.locs, Pt.cells, Pt.slots] at X' e1 e2 h1 h2 h3 st
    subst h1; subst h2; subst h3
    exact Or.inl ⟨v, (T.setVm vm₁).calling g' mk As.toArray, t, U', L, hT, X', hL, e1, e2, hq, st⟩
  · dsimp only [Pt.U, Pt.locs, Pt.cells, Pt.slots] at X' e1 e2 h1 h2 h3 st hcl
    subst h1; subst h2; subst h3
    exact Or.inr ⟨q, (T.setVm vm₁).calling g' mk As.toArray, t, U', L, E, ce, hT, X', hL, e1, e2, hq, hce, hcv, vx_cls hW₁ hcl, st⟩
end
end VXH
theorem vx_ofWH {l : Launch} {y : MethodName} {ws ws' : List Cond} {rm : Room} {Pc : Array Value → State → Prop} {Qc : Array Value → State → Outcome → State → Prop} {XC : String → State → State → Prop} {mc ms : Nat} {free : Addr → Prop} {cc : ByteArray} {maxL : Nat} {ret : Option FieldType} {hh : List (Nat × Nat × Nat × Nat)}
    (hy : plainName y.cls = true) (hw : ws = Cond.codeWith y cc maxL ret hh :: ws')
    (body : ∀ p e s m args below meth c s₁, BodyLoose p l y (headSpec ws rm) cc maxL ret e s m args below meth c s₁ → c.maxLocals = maxL → Pc args s →
      W p l e (headSpec ws rm).room s m args below meth c s.heap [] 0 0 (vx_MQ below Qc XC args s mc ms free) (entryFrame m args maxL)) : vx_Met l y ws rm Pc Qc XC mc ms free := by
  refine MetFree.of_bodyS (code := cc) (maxLocals := maxL) (ret := ret) hy ?_ ?_
  · intro args s m h hn
    obtain ⟨m9, meth, c, hn9, h1, h2, h3, h4, -, h5, h6, -⟩ := Cond.codeWith_spec (atoms_spec (ws := ws) h _ (by rw [hw]; exact List.mem_cons_self))
    cases hn.symm.trans hn9
    exact ⟨meth, c, h1, h2, h3, h4, h5, h6⟩
  · intro p e s m args below meth c s₁ B hml hP _
    have hh0 : s₁.heap = s.heap := by rw [B.state]; rfl
    obtain ⟨t, a1, o, b1, b2, b3⟩ := body p e s m args below meth c s₁ B hml hP s₁ hh0 (Stand.of_body B)
    exact ⟨t, o, a1, b1, b2, b3⟩
/-! ===== END ===== -/
end
section
def RX0 : String := "StandTugs$Aircraft"
def TX0 : u_T := fun k => match k with
  | 0 => ("StandTugs$Aircraft", "span", "I", false)
  | 1 => ("StandTugs$Aircraft", "weight", "I", false)
  | 2 => ("StandTugs$Aircraft", "comes", "I", false)
  | 3 => ("StandTugs$Aircraft", "leaves", "I", false)
  | 4 => ("StandTugs$Aircraft", "passengers", "I", false)
  | 5 => ("StandTugs$Aircraft", "place", "I", false)
  | 6 => ("StandTugs$Aircraft", "stand", "I", false)
  | 7 => ("StandTugs$Aircraft", "delay", "I", false)
  | 8 => ("StandTugs$Aircraft", "minutes", "I", false)
  | _ => ("StandTugs$Aircraft", "buses", "I", false)
def tyX0 : Nat → FieldType := fun k => match k with
  | 0 => .int
  | 1 => .int
  | 2 => .int
  | 3 => .int
  | 4 => .int
  | 5 => .int
  | 6 => .int
  | 7 => .int
  | 8 => .int
  | _ => .int
theorem nmX0 : ∀ a, a < 10 → ∀ b, b < 10 → a ≠ b → (TX0 a).2.1 ≠ (TX0 b).2.1 := by decide +kernel
theorem tyX0_ok : ∀ k, k < 10 → parseFieldDescriptor (TX0 k).2.2.1 = some (tyX0 k) := by decide +kernel
abbrev cX0_init : ByteArray := prog_2_method_1_code
def yX0_init : MethodName := ⟨RX0, "<init>", "()V"⟩
abbrev cX0_tell : ByteArray := prog_2_method_2_code
def yX0_tell : MethodName := ⟨RX0, "tell", "(IIII)V"⟩
abbrev cX0_copyFrom : ByteArray := prog_2_method_3_code
def yX0_copyFrom : MethodName := ⟨RX0, "copyFrom", "(LStandTugs$Aircraft;)V"⟩
abbrev cX0_isOnStandOrBay : ByteArray := prog_2_method_4_code
def yX0_isOnStandOrBay : MethodName := ⟨RX0, "isOnStandOrBay", "()Z"⟩
abbrev cX0_takeBuses : ByteArray := prog_2_method_5_code
def yX0_takeBuses : MethodName := ⟨RX0, "takeBuses", "()V"⟩
abbrev cX0_answer : ByteArray := prog_2_method_6_code
def yX0_answer : MethodName := ⟨RX0, "answer", "(I)I"⟩
def RX1 : String := "StandTugs$Field"
def TX1 : u_T := fun k => match k with
  | 0 => ("StandTugs$Field", "stands", "[LStandTugs$Stand;", true)
  | 1 => ("StandTugs$Field", "tugs", "[LStandTugs$Tug;", true)
  | 2 => ("StandTugs$Field", "aircraft", "[LStandTugs$Aircraft;", true)
  | 3 => ("StandTugs$Field", "log", "LStandTugs$Log;", true)
  | 4 => ("StandTugs$Field", "standCount", "I", false)
  | 5 => ("StandTugs$Field", "tugCount", "I", false)
  | 6 => ("StandTugs$Field", "aircraftCount", "I", false)
  | 7 => ("StandTugs$Field", "minute", "I", false)
  | 8 => ("StandTugs$Field", "curfewBegin", "I", false)
  | _ => ("StandTugs$Field", "curfewEnd", "I", false)
def tyX1 : Nat → FieldType := fun k => match k with
  | 0 => .array (.object "StandTugs$Stand")
  | 1 => .array (.object "StandTugs$Tug")
  | 2 => .array (.object "StandTugs$Aircraft")
  | 3 => .object "StandTugs$Log"
  | 4 => .int
  | 5 => .int
  | 6 => .int
  | 7 => .int
  | 8 => .int
  | _ => .int
theorem nmX1 : ∀ a, a < 10 → ∀ b, b < 10 → a ≠ b → (TX1 a).2.1 ≠ (TX1 b).2.1 := by decide +kernel
theorem tyX1_ok : ∀ k, k < 10 → parseFieldDescriptor (TX1 k).2.2.1 = some (tyX1 k) := by decide +kernel
abbrev cX1_init : ByteArray := prog_3_method_1_code
def yX1_init : MethodName := ⟨RX1, "<init>", "()V"⟩
abbrev cX1_build : ByteArray := prog_3_method_2_code
def yX1_build : MethodName := ⟨RX1, "build", "(II)V"⟩
abbrev cX1_restart : ByteArray := prog_3_method_3_code
def yX1_restart : MethodName := ⟨RX1, "restart", "()V"⟩
abbrev cX1_copyFrom : ByteArray := prog_3_method_4_code
def yX1_copyFrom : MethodName := ⟨RX1, "copyFrom", "(LStandTugs$Field;)V"⟩
abbrev cX1_hasStand : ByteArray := prog_3_method_5_code
def yX1_hasStand : MethodName := ⟨RX1, "hasStand", "(I)Z"⟩
abbrev cX1_hasTug : ByteArray := prog_3_method_6_code
def yX1_hasTug : MethodName := ⟨RX1, "hasTug", "(I)Z"⟩
abbrev cX1_hasAircraft : ByteArray := prog_3_method_7_code
def yX1_hasAircraft : MethodName := ⟨RX1, "hasAircraft", "(I)Z"⟩
abbrev cX1_add : ByteArray := prog_3_method_8_code
def yX1_add : MethodName := ⟨RX1, "add", "(IIII)V"⟩
abbrev cX1_addTug : ByteArray := prog_3_method_9_code
def yX1_addTug : MethodName := ⟨RX1, "addTug", "(I)V"⟩
abbrev cX1_passSome : ByteArray := prog_3_method_10_code
def yX1_passSome : MethodName := ⟨RX1, "passSome", "(I)I"⟩
abbrev cX1_quietMinutes : ByteArray := prog_3_method_11_code
def yX1_quietMinutes : MethodName := ⟨RX1, "quietMinutes", "()I"⟩
abbrev cX1_workTugs : ByteArray := prog_3_method_12_code
def yX1_workTugs : MethodName := ⟨RX1, "workTugs", "()V"⟩
abbrev cX1_finish : ByteArray := prog_3_method_13_code
def yX1_finish : MethodName := ⟨RX1, "finish", "(I)V"⟩
abbrev cX1_receive : ByteArray := prog_3_method_14_code
def yX1_receive : MethodName := ⟨RX1, "receive", "()V"⟩
abbrev cX1_pushBack : ByteArray := prog_3_method_15_code
def yX1_pushBack : MethodName := ⟨RX1, "pushBack", "()V"⟩
abbrev cX1_turn : ByteArray := prog_3_method_16_code
def yX1_turn : MethodName := ⟨RX1, "turn", "(I)I"⟩
abbrev cX1_nextToLeave : ByteArray := prog_3_method_17_code
def yX1_nextToLeave : MethodName := ⟨RX1, "nextToLeave", "(I)I"⟩
abbrev cX1_beginPush : ByteArray := prog_3_method_18_code
def yX1_beginPush : MethodName := ⟨RX1, "beginPush", "(I)V"⟩
abbrev cX1_tow : ByteArray := prog_3_method_19_code
def yX1_tow : MethodName := ⟨RX1, "tow", "()V"⟩
abbrev cX1_countMinutes : ByteArray := prog_3_method_20_code
def yX1_countMinutes : MethodName := ⟨RX1, "countMinutes", "(I)V"⟩
abbrev cX1_freeStandFor : ByteArray := prog_3_method_21_code
def yX1_freeStandFor : MethodName := ⟨RX1, "freeStandFor", "(I)I"⟩
abbrev cX1_freeTugFor : ByteArray := prog_3_method_22_code
def yX1_freeTugFor : MethodName := ⟨RX1, "freeTugFor", "(I)I"⟩
abbrev cX1_reason : ByteArray := prog_3_method_23_code
def yX1_reason : MethodName := ⟨RX1, "reason", "(I)I"⟩
abbrev cX1_isCurfew : ByteArray := prog_3_method_24_code
def yX1_isCurfew : MethodName := ⟨RX1, "isCurfew", "()Z"⟩
abbrev cX1_isPushedFrom : ByteArray := prog_3_method_25_code
def yX1_isPushedFrom : MethodName := ⟨RX1, "isPushedFrom", "(I)Z"⟩
abbrev cX1_passUntilAllGone : ByteArray := prog_3_method_26_code
def yX1_passUntilAllGone : MethodName := ⟨RX1, "passUntilAllGone", "()I"⟩
abbrev cX1_areAllGone : ByteArray := prog_3_method_27_code
def yX1_areAllGone : MethodName := ⟨RX1, "areAllGone", "()Z"⟩
abbrev cX1_countAt : ByteArray := prog_3_method_28_code
def yX1_countAt : MethodName := ⟨RX1, "countAt", "(I)I"⟩
abbrev cX1_sumOfDelays : ByteArray := prog_3_method_29_code
def yX1_sumOfDelays : MethodName := ⟨RX1, "sumOfDelays", "()I"⟩
abbrev cX1_greatestDelay : ByteArray := prog_3_method_30_code
def yX1_greatestDelay : MethodName := ⟨RX1, "greatestDelay", "()I"⟩
abbrev cX1_sumOfBuses : ByteArray := prog_3_method_31_code
def yX1_sumOfBuses : MethodName := ⟨RX1, "sumOfBuses", "()I"⟩
abbrev cX1_standAnswer : ByteArray := prog_3_method_32_code
def yX1_standAnswer : MethodName := ⟨RX1, "standAnswer", "(II)I"⟩
abbrev cX1_answer : ByteArray := prog_3_method_33_code
def yX1_answer : MethodName := ⟨RX1, "answer", "(I)I"⟩
def RX2 : String := "StandTugs$Log"
def TX2 : u_T := fun k => match k with
  | 0 => ("StandTugs$Log", "kinds", "[I", true)
  | 1 => ("StandTugs$Log", "minutes", "[I", true)
  | 2 => ("StandTugs$Log", "numbers", "[I", true)
  | _ => ("StandTugs$Log", "total", "I", false)
def tyX2 : Nat → FieldType := fun k => match k with
  | 0 => .array .int
  | 1 => .array .int
  | 2 => .array .int
  | _ => .int
theorem nmX2 : ∀ a, a < 4 → ∀ b, b < 4 → a ≠ b → (TX2 a).2.1 ≠ (TX2 b).2.1 := by decide +kernel
theorem tyX2_ok : ∀ k, k < 4 → parseFieldDescriptor (TX2 k).2.2.1 = some (tyX2 k) := by decide +kernel
abbrev cX2_init : ByteArray := prog_4_method_1_code
def yX2_init : MethodName := ⟨RX2, "<init>", "()V"⟩
abbrev cX2_put : ByteArray := prog_4_method_2_code
def yX2_put : MethodName := ⟨RX2, "put", "(III)V"⟩
abbrev cX2_kept : ByteArray := prog_4_method_3_code
def yX2_kept : MethodName := ⟨RX2, "kept", "()I"⟩
abbrev cX2_answer : ByteArray := prog_4_method_4_code
def yX2_answer : MethodName := ⟨RX2, "answer", "(II)I"⟩
abbrev cX2_copyFrom : ByteArray := prog_4_method_5_code
def yX2_copyFrom : MethodName := ⟨RX2, "copyFrom", "(LStandTugs$Log;)V"⟩
def RX3 : String := "StandTugs$Stand"
def TX3 : u_T := fun k => match k with
  | 0 => ("StandTugs$Stand", "span", "I", false)
  | 1 => ("StandTugs$Stand", "aircraft", "I", false)
  | _ => ("StandTugs$Stand", "minutes", "I", false)
def tyX3 : Nat → FieldType := fun k => match k with
  | 0 => .int
  | 1 => .int
  | _ => .int
theorem nmX3 : ∀ a, a < 3 → ∀ b, b < 3 → a ≠ b → (TX3 a).2.1 ≠ (TX3 b).2.1 := by decide +kernel
theorem tyX3_ok : ∀ k, k < 3 → parseFieldDescriptor (TX3 k).2.2.1 = some (tyX3 k) := by decide +kernel
abbrev cX3_init : ByteArray := prog_5_method_1_code
def yX3_init : MethodName := ⟨RX3, "<init>", "()V"⟩
abbrev cX3_restart : ByteArray := prog_5_method_2_code
def yX3_restart : MethodName := ⟨RX3, "restart", "()V"⟩
abbrev cX3_copyFrom : ByteArray := prog_5_method_3_code
def yX3_copyFrom : MethodName := ⟨RX3, "copyFrom", "(LStandTugs$Stand;)V"⟩
def RX4 : String := "StandTugs$Timetable"
def TX4 : u_T := fun k => match k with
  | 0 => ("StandTugs$Timetable", "bytes", "[I", true)
  | 1 => ("StandTugs$Timetable", "length", "I", false)
  | 2 => ("StandTugs$Timetable", "kinds", "[I", true)
  | 3 => ("StandTugs$Timetable", "comes", "[I", true)
  | 4 => ("StandTugs$Timetable", "leaves", "[I", true)
  | 5 => ("StandTugs$Timetable", "passengers", "[I", true)
  | 6 => ("StandTugs$Timetable", "count", "I", false)
  | 7 => ("StandTugs$Timetable", "position", "I", false)
  | _ => ("StandTugs$Timetable", "number", "I", false)
def tyX4 : Nat → FieldType := fun k => match k with
  | 0 => .array .int
  | 1 => .int
  | 2 => .array .int
  | 3 => .array .int
  | 4 => .array .int
  | 5 => .array .int
  | 6 => .int
  | 7 => .int
  | _ => .int
theorem nmX4 : ∀ a, a < 9 → ∀ b, b < 9 → a ≠ b → (TX4 a).2.1 ≠ (TX4 b).2.1 := by decide +kernel
theorem tyX4_ok : ∀ k, k < 9 → parseFieldDescriptor (TX4 k).2.2.1 = some (tyX4 k) := by decide +kernel
abbrev cX4_init : ByteArray := prog_6_method_1_code
def yX4_init : MethodName := ⟨RX4, "<init>", "()V"⟩
abbrev cX4_add : ByteArray := prog_6_method_2_code
def yX4_add : MethodName := ⟨RX4, "add", "(I)V"⟩
abbrev cX4_read : ByteArray := prog_6_method_3_code
def yX4_read : MethodName := ⟨RX4, "read", "()I"⟩
abbrev cX4_readAircraft : ByteArray := prog_6_method_4_code
def yX4_readAircraft : MethodName := ⟨RX4, "readAircraft", "(I)I"⟩
abbrev cX4_readMinutes : ByteArray := prog_6_method_5_code
def yX4_readMinutes : MethodName := ⟨RX4, "readMinutes", "(I)I"⟩
abbrev cX4_readSign : ByteArray := prog_6_method_6_code
def yX4_readSign : MethodName := ⟨RX4, "readSign", "(I)I"⟩
abbrev cX4_readNumber : ByteArray := prog_6_method_7_code
def yX4_readNumber : MethodName := ⟨RX4, "readNumber", "(III)I"⟩
abbrev cX4_byteHere : ByteArray := prog_6_method_8_code
def yX4_byteHere : MethodName := ⟨RX4, "byteHere", "()I"⟩
abbrev cX4_digitHere : ByteArray := prog_6_method_9_code
def yX4_digitHere : MethodName := ⟨RX4, "digitHere", "()I"⟩
def RX5 : String := "StandTugs$Tug"
def TX5 : u_T := fun k => match k with
  | 0 => ("StandTugs$Tug", "strength", "I", false)
  | 1 => ("StandTugs$Tug", "aircraft", "I", false)
  | 2 => ("StandTugs$Tug", "minutesLeft", "I", false)
  | 3 => ("StandTugs$Tug", "pushes", "I", false)
  | _ => ("StandTugs$Tug", "tows", "I", false)
def tyX5 : Nat → FieldType := fun k => match k with
  | 0 => .int
  | 1 => .int
  | 2 => .int
  | 3 => .int
  | _ => .int
theorem nmX5 : ∀ a, a < 5 → ∀ b, b < 5 → a ≠ b → (TX5 a).2.1 ≠ (TX5 b).2.1 := by decide +kernel
theorem tyX5_ok : ∀ k, k < 5 → parseFieldDescriptor (TX5 k).2.2.1 = some (tyX5 k) := by decide +kernel
abbrev cX5_init : ByteArray := prog_7_method_1_code
def yX5_init : MethodName := ⟨RX5, "<init>", "()V"⟩
abbrev cX5_restart : ByteArray := prog_7_method_2_code
def yX5_restart : MethodName := ⟨RX5, "restart", "()V"⟩
abbrev cX5_copyFrom : ByteArray := prog_7_method_3_code
def yX5_copyFrom : MethodName := ⟨RX5, "copyFrom", "(LStandTugs$Tug;)V"⟩
abbrev cX5_take : ByteArray := prog_7_method_4_code
def yX5_take : MethodName := ⟨RX5, "take", "(II)V"⟩
abbrev cX5_answer : ByteArray := prog_7_method_5_code
def yX5_answer : MethodName := ⟨RX5, "answer", "(I)I"⟩
def RX6 : String := "StandTugs"
def TX6 : u_T := fun k => match k with
  | 0 => ("StandTugs", "now", "LStandTugs$Field;", true)
  | 1 => ("StandTugs", "trial", "LStandTugs$Field;", true)
  | 2 => ("StandTugs", "saved", "[LStandTugs$Field;", true)
  | 3 => ("StandTugs", "savedCount", "I", false)
  | _ => ("StandTugs", "timetable", "LStandTugs$Timetable;", true)
def tyX6 : Nat → FieldType := fun k => match k with
  | 0 => .object "StandTugs$Field"
  | 1 => .object "StandTugs$Field"
  | 2 => .array (.object "StandTugs$Field")
  | 3 => .int
  | _ => .object "StandTugs$Timetable"
theorem nmX6 : ∀ a, a < 5 → ∀ b, b < 5 → a ≠ b → (TX6 a).2.1 ≠ (TX6 b).2.1 := by decide +kernel
theorem tyX6_ok : ∀ k, k < 5 → parseFieldDescriptor (TX6 k).2.2.1 = some (tyX6 k) := by decide +kernel
abbrev cX6_init : ByteArray := prog_1_method_1_code
def yX6_init : MethodName := ⟨RX6, "<init>", "()V"⟩
abbrev cX6_begin : ByteArray := prog_1_method_2_code
def yX6_begin : MethodName := ⟨RX6, "begin", "(II)I"⟩
abbrev cX6_setSpan : ByteArray := prog_1_method_3_code
def yX6_setSpan : MethodName := ⟨RX6, "setSpan", "(II)I"⟩
abbrev cX6_setStrength : ByteArray := prog_1_method_4_code
def yX6_setStrength : MethodName := ⟨RX6, "setStrength", "(II)I"⟩
abbrev cX6_setCurfew : ByteArray := prog_1_method_5_code
def yX6_setCurfew : MethodName := ⟨RX6, "setCurfew", "(II)I"⟩
abbrev cX6_expect : ByteArray := prog_1_method_6_code
def yX6_expect : MethodName := ⟨RX6, "expect", "(IIII)I"⟩
abbrev cX6_setLeaves : ByteArray := prog_1_method_7_code
def yX6_setLeaves : MethodName := ⟨RX6, "setLeaves", "(II)I"⟩
abbrev cX6_pass : ByteArray := prog_1_method_8_code
def yX6_pass : MethodName := ⟨RX6, "pass", "(I)I"⟩
abbrev cX6_aircraft : ByteArray := prog_1_method_9_code
def yX6_aircraft : MethodName := ⟨RX6, "aircraft", "(II)I"⟩
abbrev cX6_stand : ByteArray := prog_1_method_10_code
def yX6_stand : MethodName := ⟨RX6, "stand", "(II)I"⟩
abbrev cX6_tug : ByteArray := prog_1_method_11_code
def yX6_tug : MethodName := ⟨RX6, "tug", "(II)I"⟩
abbrev cX6_value : ByteArray := prog_1_method_12_code
def yX6_value : MethodName := ⟨RX6, "value", "(I)I"⟩
abbrev cX6_event : ByteArray := prog_1_method_13_code
def yX6_event : MethodName := ⟨RX6, "event", "(II)I"⟩
abbrev cX6_why : ByteArray := prog_1_method_14_code
def yX6_why : MethodName := ⟨RX6, "why", "(I)I"⟩
abbrev cX6_delayOf : ByteArray := prog_1_method_15_code
def yX6_delayOf : MethodName := ⟨RX6, "delayOf", "(I)I"⟩
abbrev cX6_minutesToAll : ByteArray := prog_1_method_16_code
def yX6_minutesToAll : MethodName := ⟨RX6, "minutesToAll", "()I"⟩
abbrev cX6_delaysWithTug : ByteArray := prog_1_method_17_code
def yX6_delaysWithTug : MethodName := ⟨RX6, "delaysWithTug", "(I)I"⟩
abbrev cX6_bestStand : ByteArray := prog_1_method_18_code
def yX6_bestStand : MethodName := ⟨RX6, "bestStand", "()I"⟩
abbrev cX6_used : ByteArray := prog_1_method_19_code
def yX6_used : MethodName := ⟨RX6, "used", "()D"⟩
abbrev cX6_append : ByteArray := prog_1_method_20_code
def yX6_append : MethodName := ⟨RX6, "append", "(I)I"⟩
abbrev cX6_clearText : ByteArray := prog_1_method_21_code
def yX6_clearText : MethodName := ⟨RX6, "clearText", "()I"⟩
abbrev cX6_parse : ByteArray := prog_1_method_22_code
def yX6_parse : MethodName := ⟨RX6, "parse", "()I"⟩
abbrev cX6_undo : ByteArray := prog_1_method_23_code
def yX6_undo : MethodName := ⟨RX6, "undo", "()I"⟩
abbrev cX6_digest : ByteArray := prog_1_method_24_code
def yX6_digest : MethodName := ⟨RX6, "digest", "()J"⟩
abbrev cX6_isOutside : ByteArray := prog_1_method_25_code
def yX6_isOutside : MethodName := ⟨RX6, "isOutside", "(III)Z"⟩
abbrev cX6_isKind : ByteArray := prog_1_method_26_code
def yX6_isKind : MethodName := ⟨RX6, "isKind", "(I)Z"⟩
abbrev cX6_save : ByteArray := prog_1_method_27_code
def yX6_save : MethodName := ⟨RX6, "save", "()V"⟩
abbrev cX6_dropOldest : ByteArray := prog_1_method_28_code
def yX6_dropOldest : MethodName := ⟨RX6, "dropOldest", "()V"⟩
def RX7 : String := "StandTugsModel"
def TX7 : u_T := fun k => match k with
  | 0 => ("StandTugsModel", "all", "[I", true)
  | 1 => ("StandTugsModel", "saved", "[I", true)
  | 2 => ("StandTugsModel", "aside", "[I", true)
  | 3 => ("StandTugsModel", "savedMany", "I", false)
  | 4 => ("StandTugsModel", "threw", "I", false)
  | 5 => ("StandTugsModel", "wasAsked", "[Z", true)
  | 6 => ("StandTugsModel", "text", "[I", true)
  | 7 => ("StandTugsModel", "textLong", "I", false)
  | 8 => ("StandTugsModel", "place", "I", false)
  | 9 => ("StandTugsModel", "read", "[I", true)
  | 10 => ("StandTugsModel", "readMany", "I", false)
  | _ => ("StandTugsModel", "number", "I", false)
def tyX7 : Nat → FieldType := fun k => match k with
  | 0 => .array .int
  | 1 => .array .int
  | 2 => .array .int
  | 3 => .int
  | 4 => .int
  | 5 => .array .boolean
  | 6 => .array .int
  | 7 => .int
  | 8 => .int
  | 9 => .array .int
  | 10 => .int
  | _ => .int
theorem nmX7 : ∀ a, a < 12 → ∀ b, b < 12 → a ≠ b → (TX7 a).2.1 ≠ (TX7 b).2.1 := by decide +kernel
theorem tyX7_ok : ∀ k, k < 12 → parseFieldDescriptor (TX7 k).2.2.1 = some (tyX7 k) := by decide +kernel
abbrev cX7_init : ByteArray := prog_9_method_1_code
def yX7_init : MethodName := ⟨RX7, "<init>", "()V"⟩
abbrev cX7_thrown : ByteArray := prog_9_method_2_code
def yX7_thrown : MethodName := ⟨RX7, "thrown", "()I"⟩
abbrev cX7_in : ByteArray := prog_9_method_3_code
def yX7_in : MethodName := ⟨RX7, "in", "(JJJ)Z"⟩
abbrev cX7_fine : ByteArray := prog_9_method_4_code
def yX7_fine : MethodName := ⟨RX7, "fine", "(I)I"⟩
abbrev cX7_throwing : ByteArray := prog_9_method_5_code
def yX7_throwing : MethodName := ⟨RX7, "throwing", "(I)I"⟩
abbrev cX7_save : ByteArray := prog_9_method_6_code
def yX7_save : MethodName := ⟨RX7, "save", "()V"⟩
abbrev cX7_laysAside : ByteArray := prog_9_method_7_code
def yX7_laysAside : MethodName := ⟨RX7, "laysAside", "()V"⟩
abbrev cX7_takesBack : ByteArray := prog_9_method_8_code
def yX7_takesBack : MethodName := ⟨RX7, "takesBack", "()V"⟩
abbrev cX7_standAt : ByteArray := prog_9_method_9_code
def yX7_standAt : MethodName := ⟨RX7, "standAt", "(II)I"⟩
abbrev cX7_tugAt : ByteArray := prog_9_method_10_code
def yX7_tugAt : MethodName := ⟨RX7, "tugAt", "(II)I"⟩
abbrev cX7_planeAt : ByteArray := prog_9_method_11_code
def yX7_planeAt : MethodName := ⟨RX7, "planeAt", "(II)I"⟩
abbrev cX7_of : ByteArray := prog_9_method_12_code
def yX7_of : MethodName := ⟨RX7, "of", "(II)I"⟩
abbrev cX7_clears : ByteArray := prog_9_method_13_code
def yX7_clears : MethodName := ⟨RX7, "clears", "()V"⟩
abbrev cX7_begins : ByteArray := prog_9_method_14_code
def yX7_begins : MethodName := ⟨RX7, "begins", "(II)V"⟩
abbrev cX7_begin : ByteArray := prog_9_method_15_code
def yX7_begin : MethodName := ⟨RX7, "begin", "(II)I"⟩
abbrev cX7_isStand : ByteArray := prog_9_method_16_code
def yX7_isStand : MethodName := ⟨RX7, "isStand", "(I)Z"⟩
abbrev cX7_isTug : ByteArray := prog_9_method_17_code
def yX7_isTug : MethodName := ⟨RX7, "isTug", "(I)Z"⟩
abbrev cX7_isPlane : ByteArray := prog_9_method_18_code
def yX7_isPlane : MethodName := ⟨RX7, "isPlane", "(I)Z"⟩
abbrev cX7_setSpan : ByteArray := prog_9_method_19_code
def yX7_setSpan : MethodName := ⟨RX7, "setSpan", "(II)I"⟩
abbrev cX7_setStrength : ByteArray := prog_9_method_20_code
def yX7_setStrength : MethodName := ⟨RX7, "setStrength", "(II)I"⟩
abbrev cX7_setCurfew : ByteArray := prog_9_method_21_code
def yX7_setCurfew : MethodName := ⟨RX7, "setCurfew", "(II)I"⟩
abbrev cX7_adds : ByteArray := prog_9_method_22_code
def yX7_adds : MethodName := ⟨RX7, "adds", "(IIIII)V"⟩
abbrev cX7_expect : ByteArray := prog_9_method_23_code
def yX7_expect : MethodName := ⟨RX7, "expect", "(IIII)I"⟩
abbrev cX7_setLeaves : ByteArray := prog_9_method_24_code
def yX7_setLeaves : MethodName := ⟨RX7, "setLeaves", "(II)I"⟩
abbrev cX7_writes : ByteArray := prog_9_method_25_code
def yX7_writes : MethodName := ⟨RX7, "writes", "(II)V"⟩
abbrev cX7_buses : ByteArray := prog_9_method_26_code
def yX7_buses : MethodName := ⟨RX7, "buses", "(I)V"⟩
abbrev cX7_planeOf : ByteArray := prog_9_method_27_code
def yX7_planeOf : MethodName := ⟨RX7, "planeOf", "(I)I"⟩
abbrev cX7_standFor : ByteArray := prog_9_method_28_code
def yX7_standFor : MethodName := ⟨RX7, "standFor", "(I)I"⟩
abbrev cX7_tugFor : ByteArray := prog_9_method_29_code
def yX7_tugFor : MethodName := ⟨RX7, "tugFor", "(I)I"⟩
abbrev cX7_tugs : ByteArray := prog_9_method_30_code
def yX7_tugs : MethodName := ⟨RX7, "tugs", "()V"⟩
abbrev cX7_arrivals : ByteArray := prog_9_method_31_code
def yX7_arrivals : MethodName := ⟨RX7, "arrivals", "()V"⟩
abbrev cX7_isCurfew : ByteArray := prog_9_method_32_code
def yX7_isCurfew : MethodName := ⟨RX7, "isCurfew", "()Z"⟩
abbrev cX7_isPushedFrom : ByteArray := prog_9_method_33_code
def yX7_isPushedFrom : MethodName := ⟨RX7, "isPushedFrom", "(I)Z"⟩
abbrev cX7_whyNot : ByteArray := prog_9_method_34_code
def yX7_whyNot : MethodName := ⟨RX7, "whyNot", "(I)I"⟩
abbrev cX7_takes : ByteArray := prog_9_method_35_code
def yX7_takes : MethodName := ⟨RX7, "takes", "(IIII)V"⟩
abbrev cX7_pushes : ByteArray := prog_9_method_36_code
def yX7_pushes : MethodName := ⟨RX7, "pushes", "(I)V"⟩
abbrev cX7_pushbacks : ByteArray := prog_9_method_37_code
def yX7_pushbacks : MethodName := ⟨RX7, "pushbacks", "()V"⟩
abbrev cX7_towing : ByteArray := prog_9_method_38_code
def yX7_towing : MethodName := ⟨RX7, "towing", "()V"⟩
abbrev cX7_minute : ByteArray := prog_9_method_39_code
def yX7_minute : MethodName := ⟨RX7, "minute", "()V"⟩
abbrev cX7_inState : ByteArray := prog_9_method_40_code
def yX7_inState : MethodName := ⟨RX7, "inState", "(I)I"⟩
abbrev cX7_pass : ByteArray := prog_9_method_41_code
def yX7_pass : MethodName := ⟨RX7, "pass", "(I)I"⟩
abbrev cX7_aircraft : ByteArray := prog_9_method_42_code
def yX7_aircraft : MethodName := ⟨RX7, "aircraft", "(II)I"⟩
abbrev cX7_standOf : ByteArray := prog_9_method_43_code
def yX7_standOf : MethodName := ⟨RX7, "standOf", "(II)I"⟩
abbrev cX7_stand : ByteArray := prog_9_method_44_code
def yX7_stand : MethodName := ⟨RX7, "stand", "(II)I"⟩
abbrev cX7_tug : ByteArray := prog_9_method_45_code
def yX7_tug : MethodName := ⟨RX7, "tug", "(II)I"⟩
abbrev cX7_delays : ByteArray := prog_9_method_46_code
def yX7_delays : MethodName := ⟨RX7, "delays", "(Z)I"⟩
abbrev cX7_valueOf : ByteArray := prog_9_method_47_code
def yX7_valueOf : MethodName := ⟨RX7, "valueOf", "(I)I"⟩
abbrev cX7_value : ByteArray := prog_9_method_48_code
def yX7_value : MethodName := ⟨RX7, "value", "(I)I"⟩
abbrev cX7_event : ByteArray := prog_9_method_49_code
def yX7_event : MethodName := ⟨RX7, "event", "(II)I"⟩
abbrev cX7_why : ByteArray := prog_9_method_50_code
def yX7_why : MethodName := ⟨RX7, "why", "(I)I"⟩
abbrev cX7_delayOf : ByteArray := prog_9_method_51_code
def yX7_delayOf : MethodName := ⟨RX7, "delayOf", "(I)I"⟩
abbrev cX7_toAll : ByteArray := prog_9_method_52_code
def yX7_toAll : MethodName := ⟨RX7, "toAll", "()I"⟩
abbrev cX7_minutesIf : ByteArray := prog_9_method_53_code
def yX7_minutesIf : MethodName := ⟨RX7, "minutesIf", "()I"⟩
abbrev cX7_minutesToAll : ByteArray := prog_9_method_54_code
def yX7_minutesToAll : MethodName := ⟨RX7, "minutesToAll", "()I"⟩
abbrev cX7_delaysWithTug : ByteArray := prog_9_method_55_code
def yX7_delaysWithTug : MethodName := ⟨RX7, "delaysWithTug", "(I)I"⟩
abbrev cX7_bestStand : ByteArray := prog_9_method_56_code
def yX7_bestStand : MethodName := ⟨RX7, "bestStand", "()I"⟩
abbrev cX7_used : ByteArray := prog_9_method_57_code
def yX7_used : MethodName := ⟨RX7, "used", "()D"⟩
abbrev cX7_append : ByteArray := prog_9_method_58_code
def yX7_append : MethodName := ⟨RX7, "append", "(I)I"⟩
abbrev cX7_clearText : ByteArray := prog_9_method_59_code
def yX7_clearText : MethodName := ⟨RX7, "clearText", "()I"⟩
abbrev cX7_here : ByteArray := prog_9_method_60_code
def yX7_here : MethodName := ⟨RX7, "here", "()I"⟩
abbrev cX7_passes : ByteArray := prog_9_method_61_code
def yX7_passes : MethodName := ⟨RX7, "passes", "(I)Z"⟩
abbrev cX7_readsNumber : ByteArray := prog_9_method_62_code
def yX7_readsNumber : MethodName := ⟨RX7, "readsNumber", "(III)Z"⟩
abbrev cX7_readsDigit : ByteArray := prog_9_method_63_code
def yX7_readsDigit : MethodName := ⟨RX7, "readsDigit", "(II)Z"⟩
abbrev cX7_readsPlane : ByteArray := prog_9_method_64_code
def yX7_readsPlane : MethodName := ⟨RX7, "readsPlane", "()Z"⟩
abbrev cX7_readsText : ByteArray := prog_9_method_65_code
def yX7_readsText : MethodName := ⟨RX7, "readsText", "()Z"⟩
abbrev cX7_parse : ByteArray := prog_9_method_66_code
def yX7_parse : MethodName := ⟨RX7, "parse", "()I"⟩
abbrev cX7_undo : ByteArray := prog_9_method_67_code
def yX7_undo : MethodName := ⟨RX7, "undo", "()I"⟩
abbrev cX7_digest : ByteArray := prog_9_method_68_code
def yX7_digest : MethodName := ⟨RX7, "digest", "()J"⟩
def RJ9 : String := "java/lang/Math"
def TJ9 : u_T := fun k => match k with
  | _ => ("", "", "", false)
def tyJ9 : Nat → FieldType := fun k => match k with
  | _ => .int
theorem nmJ9 : ∀ a, a < 0 → ∀ b, b < 0 → a ≠ b → (TJ9 a).2.1 ≠ (TJ9 b).2.1 := by decide +kernel
theorem tyJ9_ok : ∀ k, k < 0 → parseFieldDescriptor (TJ9 k).2.2.1 = some (tyJ9 k) := by decide +kernel
abbrev cJ9_max_7cf53 : ByteArray := prog_14_method_65_code
def yJ9_max_7cf53 : MethodName := ⟨RJ9, "max", "(II)I"⟩
abbrev cJ9_min_7cf53 : ByteArray := prog_14_method_69_code
def yJ9_min_7cf53 : MethodName := ⟨RJ9, "min", "(II)I"⟩
def RJ0 : String := "java/lang/String"
def TJ0 : u_T := fun k => match k with
  | _ => ("", "", "", false)
def tyJ0 : Nat → FieldType := fun k => match k with
  | _ => .int
theorem nmJ0 : ∀ a, a < 0 → ∀ b, b < 0 → a ≠ b → (TJ0 a).2.1 ≠ (TJ0 b).2.1 := by decide +kernel
theorem tyJ0_ok : ∀ k, k < 0 → parseFieldDescriptor (TJ0 k).2.2.1 = some (tyJ0 k) := by decide +kernel
def RJ10 : String := "java/lang/System"
def TJ10 : u_T := fun k => match k with
  | _ => ("", "", "", false)
def tyJ10 : Nat → FieldType := fun k => match k with
  | _ => .int
theorem nmJ10 : ∀ a, a < 0 → ∀ b, b < 0 → a ≠ b → (TJ10 a).2.1 ≠ (TJ10 b).2.1 := by decide +kernel
theorem tyJ10_ok : ∀ k, k < 0 → parseFieldDescriptor (TJ10 k).2.2.1 = some (tyJ10 k) := by decide +kernel
def RL : String := "StandTugsLaw"
abbrev cL_begin : ByteArray := method_3_code
def yL_begin : MethodName := ⟨RL, "begin", "(LStandTugs;II[J)I"⟩
abbrev cL_setSpan : ByteArray := method_4_code
def yL_setSpan : MethodName := ⟨RL, "setSpan", "(LStandTugs;II[J)I"⟩
abbrev cL_setStrength : ByteArray := method_5_code
def yL_setStrength : MethodName := ⟨RL, "setStrength", "(LStandTugs;II[J)I"⟩
abbrev cL_setCurfew : ByteArray := method_6_code
def yL_setCurfew : MethodName := ⟨RL, "setCurfew", "(LStandTugs;II[J)I"⟩
abbrev cL_expect : ByteArray := method_7_code
def yL_expect : MethodName := ⟨RL, "expect", "(LStandTugs;IIII[J)I"⟩
abbrev cL_setLeaves : ByteArray := method_8_code
def yL_setLeaves : MethodName := ⟨RL, "setLeaves", "(LStandTugs;II[J)I"⟩
abbrev cL_pass : ByteArray := method_9_code
def yL_pass : MethodName := ⟨RL, "pass", "(LStandTugs;I[J)I"⟩
abbrev cL_aircraft : ByteArray := method_10_code
def yL_aircraft : MethodName := ⟨RL, "aircraft", "(LStandTugs;II[J)I"⟩
abbrev cL_stand : ByteArray := method_11_code
def yL_stand : MethodName := ⟨RL, "stand", "(LStandTugs;II[J)I"⟩
abbrev cL_tug : ByteArray := method_12_code
def yL_tug : MethodName := ⟨RL, "tug", "(LStandTugs;II[J)I"⟩
abbrev cL_value : ByteArray := method_13_code
def yL_value : MethodName := ⟨RL, "value", "(LStandTugs;I[J)I"⟩
abbrev cL_event : ByteArray := method_14_code
def yL_event : MethodName := ⟨RL, "event", "(LStandTugs;II[J)I"⟩
abbrev cL_why : ByteArray := method_15_code
def yL_why : MethodName := ⟨RL, "why", "(LStandTugs;I[J)I"⟩
abbrev cL_delayOf : ByteArray := method_16_code
def yL_delayOf : MethodName := ⟨RL, "delayOf", "(LStandTugs;I[J)I"⟩
abbrev cL_delaysWithTug : ByteArray := method_17_code
def yL_delaysWithTug : MethodName := ⟨RL, "delaysWithTug", "(LStandTugs;I[J)I"⟩
abbrev cL_append : ByteArray := method_18_code
def yL_append : MethodName := ⟨RL, "append", "(LStandTugs;I[J)I"⟩
abbrev cL_undo : ByteArray := method_19_code
def yL_undo : MethodName := ⟨RL, "undo", "(LStandTugs;[J)I"⟩
abbrev cL_law : ByteArray := code
def yL_law : MethodName := ⟨RL, "law", "([I)Z"⟩
abbrev vwCl : List vw_C := [(RX0, TX0, 10), (RX1, TX1, 10), (RX2, TX2, 4), (RX3, TX3, 3), (RX4, TX4, 9), (RX5, TX5, 5), (RX6, TX6, 5), (RX7, TX7, 12)]
/-- the words of the tables that stay: each has its place -/
def GW : List Cond := lw_tbl.filter goodWord
theorem gw_in : ∀ w ∈ GW, w ∈ lw_tbl := fun w h => (List.mem_filter.mp h).1
theorem gw_good : ∀ w ∈ GW, goodWord w = true := fun w h => (List.mem_filter.mp h).2
theorem gw_of {w : Cond} (h : w ∈ tables_1) (hg : goodWord w = true) : w ∈ GW := List.mem_filter.mpr ⟨List.mem_append_right _ h, hg⟩
theorem tb1 {w : Cond} (i : Nat) (h : tables_1_1[i]? = some w) : w ∈ tables_1 := by
  show w ∈ tables_1_1 ++ (tables_1_2 ++ (tables_1_3 ++ (tables_1_4 ++ (tables_1_5))))
  exact List.mem_append_left _ (List.mem_of_getElem? h)
theorem gw1 {w : Cond} (i : Nat) (h : tables_1_1[i]? = some w) (hg : goodWord w = true) : w ∈ GW := gw_of (tb1 i h) hg
theorem tb2 {w : Cond} (i : Nat) (h : tables_1_2[i]? = some w) : w ∈ tables_1 := by
  show w ∈ tables_1_1 ++ (tables_1_2 ++ (tables_1_3 ++ (tables_1_4 ++ (tables_1_5))))
  exact List.mem_append_right _ (List.mem_append_left _ (List.mem_of_getElem? h))
theorem gw2 {w : Cond} (i : Nat) (h : tables_1_2[i]? = some w) (hg : goodWord w = true) : w ∈ GW := gw_of (tb2 i h) hg
theorem tb3 {w : Cond} (i : Nat) (h : tables_1_3[i]? = some w) : w ∈ tables_1 := by
  show w ∈ tables_1_1 ++ (tables_1_2 ++ (tables_1_3 ++ (tables_1_4 ++ (tables_1_5))))
  exact List.mem_append_right _ (List.mem_append_right _ (List.mem_append_left _ (List.mem_of_getElem? h)))
theorem gw3 {w : Cond} (i : Nat) (h : tables_1_3[i]? = some w) (hg : goodWord w = true) : w ∈ GW := gw_of (tb3 i h) hg
theorem tb4 {w : Cond} (i : Nat) (h : tables_1_4[i]? = some w) : w ∈ tables_1 := by
  show w ∈ tables_1_1 ++ (tables_1_2 ++ (tables_1_3 ++ (tables_1_4 ++ (tables_1_5))))
  exact List.mem_append_right _ (List.mem_append_right _ (List.mem_append_right _ (List.mem_append_left _ (List.mem_of_getElem? h))))
theorem gw4 {w : Cond} (i : Nat) (h : tables_1_4[i]? = some w) (hg : goodWord w = true) : w ∈ GW := gw_of (tb4 i h) hg
theorem tb5 {w : Cond} (i : Nat) (h : tables_1_5[i]? = some w) : w ∈ tables_1 := by
  show w ∈ tables_1_1 ++ (tables_1_2 ++ (tables_1_3 ++ (tables_1_4 ++ (tables_1_5))))
  exact List.mem_append_right _ (List.mem_append_right _ (List.mem_append_right _ (List.mem_append_right _ (List.mem_of_getElem? h))))
theorem gw5 {w : Cond} (i : Nat) (h : tables_1_5[i]? = some w) (hg : goodWord w = true) : w ∈ GW := gw_of (tb5 i h) hg
theorem gs1 {q : MethodName × Nat} (i : Nat) (h : lw_privs_1[i]? = some q) : Cond.selects q.1.cls q.1 q.1 ∈ GW := by
  refine List.mem_filter.mpr ⟨List.mem_append_left _ (List.mem_map.mpr ⟨q, ?_, rfl⟩), rfl⟩
  show q ∈ lw_privs_1 ++ (lw_privs_2 ++ (lw_privs_3 ++ (lw_privs_4)))
  exact List.mem_append_left _ (List.mem_of_getElem? h)
theorem gs2 {q : MethodName × Nat} (i : Nat) (h : lw_privs_2[i]? = some q) : Cond.selects q.1.cls q.1 q.1 ∈ GW := by
  refine List.mem_filter.mpr ⟨List.mem_append_left _ (List.mem_map.mpr ⟨q, ?_, rfl⟩), rfl⟩
  show q ∈ lw_privs_1 ++ (lw_privs_2 ++ (lw_privs_3 ++ (lw_privs_4)))
  exact List.mem_append_right _ (List.mem_append_left _ (List.mem_of_getElem? h))
theorem gs3 {q : MethodName × Nat} (i : Nat) (h : lw_privs_3[i]? = some q) : Cond.selects q.1.cls q.1 q.1 ∈ GW := by
  refine List.mem_filter.mpr ⟨List.mem_append_left _ (List.mem_map.mpr ⟨q, ?_, rfl⟩), rfl⟩
  show q ∈ lw_privs_1 ++ (lw_privs_2 ++ (lw_privs_3 ++ (lw_privs_4)))
  exact List.mem_append_right _ (List.mem_append_right _ (List.mem_append_left _ (List.mem_of_getElem? h)))
theorem gs4 {q : MethodName × Nat} (i : Nat) (h : lw_privs_4[i]? = some q) : Cond.selects q.1.cls q.1 q.1 ∈ GW := by
  refine List.mem_filter.mpr ⟨List.mem_append_left _ (List.mem_map.mpr ⟨q, ?_, rfl⟩), rfl⟩
  show q ∈ lw_privs_1 ++ (lw_privs_2 ++ (lw_privs_3 ++ (lw_privs_4)))
  exact List.mem_append_right _ (List.mem_append_right _ (List.mem_append_right _ (List.mem_of_getElem? h)))
theorem gw_goodIn {ws : List Cond} (h : ∀ w ∈ ws, w ∈ GW) : GoodIn GW ws := fun w hw => ⟨h w hw, good_of_word (gw_good w (h w hw))⟩
theorem gw_sub {big ws : List Cond} (hb : ∀ w ∈ GW, w ∈ big) (h : ∀ w ∈ ws, w ∈ GW) : GoodIn big ws := fun w hw => ⟨hb w (h w hw), good_of_word (gw_good w (h w hw))⟩
theorem inX0 : ∀ w ∈ u_ws RX0 TX0 10, w ∈ GW := by
  show ∀ w ∈ [Cond.lays "StandTugs$Aircraft" "StandTugs$Aircraft" "span" "I", Cond.lays "StandTugs$Aircraft" "StandTugs$Aircraft" "weight" "I", Cond.lays "StandTugs$Aircraft" "StandTugs$Aircraft" "comes" "I", Cond.lays "StandTugs$Aircraft" "StandTugs$Aircraft" "leaves" "I", Cond.lays "StandTugs$Aircraft" "StandTugs$Aircraft" "passengers" "I", Cond.lays "StandTugs$Aircraft" "StandTugs$Aircraft" "place" "I", Cond.lays "StandTugs$Aircraft" "StandTugs$Aircraft" "stand" "I", Cond.lays "StandTugs$Aircraft" "StandTugs$Aircraft" "delay" "I", Cond.lays "StandTugs$Aircraft" "StandTugs$Aircraft" "minutes" "I", Cond.lays "StandTugs$Aircraft" "StandTugs$Aircraft" "buses" "I"], w ∈ GW
  exact List.forall_mem_cons.mpr ⟨gw1 133 rfl rfl, List.forall_mem_cons.mpr ⟨gw1 135 rfl rfl, List.forall_mem_cons.mpr ⟨gw1 137 rfl rfl, List.forall_mem_cons.mpr ⟨gw1 139 rfl rfl, List.forall_mem_cons.mpr ⟨gw1 141 rfl rfl, List.forall_mem_cons.mpr ⟨gw1 143 rfl rfl, List.forall_mem_cons.mpr ⟨gw1 145 rfl rfl, List.forall_mem_cons.mpr ⟨gw1 147 rfl rfl, List.forall_mem_cons.mpr ⟨gw1 149 rfl rfl, List.forall_mem_cons.mpr ⟨gw1 151 rfl rfl, fun _ h => absurd h List.not_mem_nil⟩⟩⟩⟩⟩⟩⟩⟩⟩⟩
theorem inX1 : ∀ w ∈ u_ws RX1 TX1 10, w ∈ GW := by
  show ∀ w ∈ [Cond.laysFinal "StandTugs$Field" "StandTugs$Field" "stands" "[LStandTugs$Stand;", Cond.laysFinal "StandTugs$Field" "StandTugs$Field" "tugs" "[LStandTugs$Tug;", Cond.laysFinal "StandTugs$Field" "StandTugs$Field" "aircraft" "[LStandTugs$Aircraft;", Cond.laysFinal "StandTugs$Field" "StandTugs$Field" "log" "LStandTugs$Log;", Cond.lays "StandTugs$Field" "StandTugs$Field" "standCount" "I", Cond.lays "StandTugs$Field" "StandTugs$Field" "tugCount" "I", Cond.lays "StandTugs$Field" "StandTugs$Field" "aircraftCount" "I", Cond.lays "StandTugs$Field" "StandTugs$Field" "minute" "I", Cond.lays "StandTugs$Field" "StandTugs$Field" "curfewBegin" "I", Cond.lays "StandTugs$Field" "StandTugs$Field" "curfewEnd" "I"], w ∈ GW
  exact List.forall_mem_cons.mpr ⟨gw1 190 rfl rfl, List.forall_mem_cons.mpr ⟨gw1 192 rfl rfl, List.forall_mem_cons.mpr ⟨gw1 194 rfl rfl, List.forall_mem_cons.mpr ⟨gw1 196 rfl rfl, List.forall_mem_cons.mpr ⟨gw1 198 rfl rfl, List.forall_mem_cons.mpr ⟨gw1 200 rfl rfl, List.forall_mem_cons.mpr ⟨gw1 202 rfl rfl, List.forall_mem_cons.mpr ⟨gw1 204 rfl rfl, List.forall_mem_cons.mpr ⟨gw1 206 rfl rfl, List.forall_mem_cons.mpr ⟨gw1 208 rfl rfl, fun _ h => absurd h List.not_mem_nil⟩⟩⟩⟩⟩⟩⟩⟩⟩⟩
theorem inX2 : ∀ w ∈ u_ws RX2 TX2 4, w ∈ GW := by
  show ∀ w ∈ [Cond.laysFinal "StandTugs$Log" "StandTugs$Log" "kinds" "[I", Cond.laysFinal "StandTugs$Log" "StandTugs$Log" "minutes" "[I", Cond.laysFinal "StandTugs$Log" "StandTugs$Log" "numbers" "[I", Cond.lays "StandTugs$Log" "StandTugs$Log" "total" "I"], w ∈ GW
  exact List.forall_mem_cons.mpr ⟨gw1 48 rfl rfl, List.forall_mem_cons.mpr ⟨gw1 50 rfl rfl, List.forall_mem_cons.mpr ⟨gw1 52 rfl rfl, List.forall_mem_cons.mpr ⟨gw1 54 rfl rfl, fun _ h => absurd h List.not_mem_nil⟩⟩⟩⟩
theorem inX3 : ∀ w ∈ u_ws RX3 TX3 3, w ∈ GW := by
  show ∀ w ∈ [Cond.lays "StandTugs$Stand" "StandTugs$Stand" "span" "I", Cond.lays "StandTugs$Stand" "StandTugs$Stand" "aircraft" "I", Cond.lays "StandTugs$Stand" "StandTugs$Stand" "minutes" "I"], w ∈ GW
  exact List.forall_mem_cons.mpr ⟨gw1 71 rfl rfl, List.forall_mem_cons.mpr ⟨gw1 73 rfl rfl, List.forall_mem_cons.mpr ⟨gw1 75 rfl rfl, fun _ h => absurd h List.not_mem_nil⟩⟩⟩
theorem inX4 : ∀ w ∈ u_ws RX4 TX4 9, w ∈ GW := by
  show ∀ w ∈ [Cond.laysFinal "StandTugs$Timetable" "StandTugs$Timetable" "bytes" "[I", Cond.lays "StandTugs$Timetable" "StandTugs$Timetable" "length" "I", Cond.laysFinal "StandTugs$Timetable" "StandTugs$Timetable" "kinds" "[I", Cond.laysFinal "StandTugs$Timetable" "StandTugs$Timetable" "comes" "[I", Cond.laysFinal "StandTugs$Timetable" "StandTugs$Timetable" "leaves" "[I", Cond.laysFinal "StandTugs$Timetable" "StandTugs$Timetable" "passengers" "[I", Cond.lays "StandTugs$Timetable" "StandTugs$Timetable" "count" "I", Cond.lays "StandTugs$Timetable" "StandTugs$Timetable" "position" "I", Cond.lays "StandTugs$Timetable" "StandTugs$Timetable" "number" "I"], w ∈ GW
  exact List.forall_mem_cons.mpr ⟨gw1 233 rfl rfl, List.forall_mem_cons.mpr ⟨gw1 235 rfl rfl, List.forall_mem_cons.mpr ⟨gw1 237 rfl rfl, List.forall_mem_cons.mpr ⟨gw1 239 rfl rfl, List.forall_mem_cons.mpr ⟨gw2 1 rfl rfl, List.forall_mem_cons.mpr ⟨gw2 3 rfl rfl, List.forall_mem_cons.mpr ⟨gw2 5 rfl rfl, List.forall_mem_cons.mpr ⟨gw2 7 rfl rfl, List.forall_mem_cons.mpr ⟨gw2 9 rfl rfl, fun _ h => absurd h List.not_mem_nil⟩⟩⟩⟩⟩⟩⟩⟩⟩
theorem inX5 : ∀ w ∈ u_ws RX5 TX5 5, w ∈ GW := by
  show ∀ w ∈ [Cond.lays "StandTugs$Tug" "StandTugs$Tug" "strength" "I", Cond.lays "StandTugs$Tug" "StandTugs$Tug" "aircraft" "I", Cond.lays "StandTugs$Tug" "StandTugs$Tug" "minutesLeft" "I", Cond.lays "StandTugs$Tug" "StandTugs$Tug" "pushes" "I", Cond.lays "StandTugs$Tug" "StandTugs$Tug" "tows" "I"], w ∈ GW
  exact List.forall_mem_cons.mpr ⟨gw1 94 rfl rfl, List.forall_mem_cons.mpr ⟨gw1 96 rfl rfl, List.forall_mem_cons.mpr ⟨gw1 98 rfl rfl, List.forall_mem_cons.mpr ⟨gw1 100 rfl rfl, List.forall_mem_cons.mpr ⟨gw1 102 rfl rfl, fun _ h => absurd h List.not_mem_nil⟩⟩⟩⟩⟩
theorem inX6 : ∀ w ∈ u_ws RX6 TX6 5, w ∈ GW := by
  show ∀ w ∈ [Cond.laysFinal "StandTugs" "StandTugs" "now" "LStandTugs$Field;", Cond.laysFinal "StandTugs" "StandTugs" "trial" "LStandTugs$Field;", Cond.laysFinal "StandTugs" "StandTugs" "saved" "[LStandTugs$Field;", Cond.lays "StandTugs" "StandTugs" "savedCount" "I", Cond.laysFinal "StandTugs" "StandTugs" "timetable" "LStandTugs$Timetable;"], w ∈ GW
  exact List.forall_mem_cons.mpr ⟨gw2 17 rfl rfl, List.forall_mem_cons.mpr ⟨gw2 19 rfl rfl, List.forall_mem_cons.mpr ⟨gw2 21 rfl rfl, List.forall_mem_cons.mpr ⟨gw2 23 rfl rfl, List.forall_mem_cons.mpr ⟨gw2 25 rfl rfl, fun _ h => absurd h List.not_mem_nil⟩⟩⟩⟩⟩
theorem inX7 : ∀ w ∈ u_ws RX7 TX7 12, w ∈ GW := by
  show ∀ w ∈ [Cond.laysFinal "StandTugsModel" "StandTugsModel" "all" "[I", Cond.laysFinal "StandTugsModel" "StandTugsModel" "saved" "[I", Cond.laysFinal "StandTugsModel" "StandTugsModel" "aside" "[I", Cond.lays "StandTugsModel" "StandTugsModel" "savedMany" "I", Cond.lays "StandTugsModel" "StandTugsModel" "threw" "I", Cond.laysFinal "StandTugsModel" "StandTugsModel" "wasAsked" "[Z", Cond.laysFinal "StandTugsModel" "StandTugsModel" "text" "[I", Cond.lays "StandTugsModel" "StandTugsModel" "textLong" "I", Cond.lays "StandTugsModel" "StandTugsModel" "place" "I", Cond.laysFinal "StandTugsModel" "StandTugsModel" "read" "[I", Cond.lays "StandTugsModel" "StandTugsModel" "readMany" "I", Cond.lays "StandTugsModel" "StandTugsModel" "number" "I"], w ∈ GW
  exact List.forall_mem_cons.mpr ⟨gw4 82 rfl rfl, List.forall_mem_cons.mpr ⟨gw4 84 rfl rfl, List.forall_mem_cons.mpr ⟨gw4 86 rfl rfl, List.forall_mem_cons.mpr ⟨gw4 88 rfl rfl, List.forall_mem_cons.mpr ⟨gw4 90 rfl rfl, List.forall_mem_cons.mpr ⟨gw4 92 rfl rfl, List.forall_mem_cons.mpr ⟨gw4 94 rfl rfl, List.forall_mem_cons.mpr ⟨gw4 96 rfl rfl, List.forall_mem_cons.mpr ⟨gw4 98 rfl rfl, List.forall_mem_cons.mpr ⟨gw4 100 rfl rfl, List.forall_mem_cons.mpr ⟨gw4 102 rfl rfl, List.forall_mem_cons.mpr ⟨gw4 104 rfl rfl, fun _ h => absurd h List.not_mem_nil⟩⟩⟩⟩⟩⟩⟩⟩⟩⟩⟩⟩
def NW : List Cond := [(Jvm.Cond.methodLinkNest "StandTugs$Field" (31 : Nat) ({ cls := "StandTugs$Log", name := "<init>", desc := "()V" } : Jvm.MethodName) "StandTugs"), (Jvm.Cond.methodLinkNest "StandTugs$Field" (36 : Nat) ({ cls := "StandTugs$Stand", name := "<init>", desc := "()V" } : Jvm.MethodName) "StandTugs"), (Jvm.Cond.methodLinkNest "StandTugs$Field" (37 : Nat) ({ cls := "StandTugs$Tug", name := "<init>", desc := "()V" } : Jvm.MethodName) "StandTugs"), (Jvm.Cond.methodLinkNest "StandTugs$Field" (38 : Nat) ({ cls := "StandTugs$Aircraft", name := "<init>", desc := "()V" } : Jvm.MethodName) "StandTugs"), (Jvm.Cond.methodLinkNest "StandTugs" (29 : Nat) ({ cls := "StandTugs$Timetable", name := "<init>", desc := "()V" } : Jvm.MethodName) "StandTugs"), (Jvm.Cond.methodLinkNest "StandTugs$Timetable" (45 : Nat) ({ cls := "StandTugs", name := "isOutside", desc := "(III)Z" } : Jvm.MethodName) "StandTugs"), (Jvm.Cond.castable "java/lang/IllegalArgumentException" "java/lang/IllegalArgumentException"), (Jvm.Cond.declares ({ cls := "java/lang/RuntimeException", name := "<init>", desc := "()V" } : Jvm.MethodName)), (Jvm.Cond.declares ({ cls := "java/lang/RuntimeException", name := "<init>", desc := "(Ljava/lang/String;)V" } : Jvm.MethodName)), (Jvm.Cond.declares ({ cls := "java/lang/Exception", name := "<init>", desc := "()V" } : Jvm.MethodName)), (Jvm.Cond.declares ({ cls := "java/lang/Exception", name := "<init>", desc := "(Ljava/lang/String;)V" } : Jvm.MethodName)), (Jvm.Cond.declares ({ cls := "java/lang/Throwable", name := "<init>", desc := "()V" } : Jvm.MethodName)), (Jvm.Cond.declares ({ cls := "java/lang/Throwable", name := "<init>", desc := "(Ljava/lang/String;)V" } : Jvm.MethodName)), (Jvm.Cond.castable "java/lang/IndexOutOfBoundsException" "java/lang/IndexOutOfBoundsException"), (Jvm.Cond.castable "java/lang/IllegalStateException" "java/lang/IllegalStateException")]
theorem nw_form : ∀ w ∈ NW, (∃ (a : String) (i : Nat) (x : MethodName) (h : String), w = .methodLinkNest a i x h) ∨ (∃ a b : String, w = .castable a b) ∨ ∃ x : MethodName, w = .declares x := List.forall_mem_cons.mpr ⟨Or.inl ⟨_, _, _, _, rfl⟩, List.forall_mem_cons.mpr ⟨Or.inl ⟨_, _, _, _, rfl⟩, List.forall_mem_cons.mpr ⟨Or.inl ⟨_, _, _, _, rfl⟩, List.forall_mem_cons.mpr ⟨Or.inl ⟨_, _, _, _, rfl⟩, List.forall_mem_cons.mpr ⟨Or.inl ⟨_, _, _, _, rfl⟩, List.forall_mem_cons.mpr ⟨Or.inl ⟨_, _, _, _, rfl⟩, List.forall_mem_cons.mpr ⟨Or.inr (Or.inl ⟨_, _, rfl⟩), List.forall_mem_cons.mpr ⟨Or.inr (Or.inr ⟨_, rfl⟩), List.forall_mem_cons.mpr ⟨Or.inr (Or.inr ⟨_, rfl⟩), List.forall_mem_cons.mpr ⟨Or.inr (Or.inr ⟨_, rfl⟩), List.forall_mem_cons.mpr ⟨Or.inr (Or.inr ⟨_, rfl⟩), List.forall_mem_cons.mpr ⟨Or.inr (Or.inr ⟨_, rfl⟩), List.forall_mem_cons.mpr ⟨Or.inr (Or.inr ⟨_, rfl⟩), List.forall_mem_cons.mpr ⟨Or.inr (Or.inl ⟨_, _, rfl⟩), List.forall_mem_cons.mpr ⟨Or.inr (Or.inl ⟨_, _, rfl⟩), fun _ h => absurd h List.not_mem_nil⟩⟩⟩⟩⟩⟩⟩⟩⟩⟩⟩⟩⟩⟩⟩
theorem nw_in : ∀ w ∈ NW, w ∈ tables_1 := List.forall_mem_cons.mpr ⟨tb1 39 rfl, List.forall_mem_cons.mpr ⟨tb1 59 rfl, List.forall_mem_cons.mpr ⟨tb1 79 rfl, List.forall_mem_cons.mpr ⟨tb1 106 rfl, List.forall_mem_cons.mpr ⟨tb1 214 rfl, List.forall_mem_cons.mpr ⟨tb2 189 rfl, List.forall_mem_cons.mpr ⟨tb3 35 rfl, List.forall_mem_cons.mpr ⟨tb3 36 rfl, List.forall_mem_cons.mpr ⟨tb3 37 rfl, List.forall_mem_cons.mpr ⟨tb3 38 rfl, List.forall_mem_cons.mpr ⟨tb3 39 rfl, List.forall_mem_cons.mpr ⟨tb3 40 rfl, List.forall_mem_cons.mpr ⟨tb3 41 rfl, List.forall_mem_cons.mpr ⟨tb3 116 rfl, List.forall_mem_cons.mpr ⟨tb3 167 rfl, fun _ h => absurd h List.not_mem_nil⟩⟩⟩⟩⟩⟩⟩⟩⟩⟩⟩⟩⟩⟩⟩
def AOS : List String := ["StandTugs$Stand", "StandTugs$Tug", "StandTugs$Aircraft", "StandTugs$Field"]
theorem ao_in : ∀ C ∈ AOS, Cond.arrayOver (.object C) ∈ tables_1 := List.forall_mem_cons.mpr ⟨tb1 32 rfl, List.forall_mem_cons.mpr ⟨tb1 34 rfl, List.forall_mem_cons.mpr ⟨tb1 36 rfl, List.forall_mem_cons.mpr ⟨tb1 211 rfl, fun _ h => absurd h List.not_mem_nil⟩⟩⟩⟩
def STR : List (String × Nat × String) := [("StandTugs", 40, "stands or tugs out of range"), ("StandTugs", 61, "no such stand"), ("StandTugs", 64, "span out of range"), ("StandTugs", 78, "no such tug"), ("StandTugs", 80, "strength out of range"), ("StandTugs", 91, "begin or end out of range"), ("StandTugs", 108, "kind, minutes or passengers out of range"), ("StandTugs", 115, "12 aircraft already"), ("StandTugs", 125, "no such aircraft"), ("StandTugs", 136, "leaves out of range"), ("StandTugs", 141, "pushed back or gone"), ("StandTugs", 146, "minutes out of range"), ("StandTugs", 148, "after the last minute"), ("StandTugs", 157, "what out of range"), ("StandTugs", 177, "not so many events"), ("StandTugs", 213, "value out of range"), ("StandTugs", 218, "the text is full"), ("StandTugs", 242, "no saved state")]
theorem str_in : ∀ z ∈ STR, Cond.stringRef z.1 z.2.1 z.2.2 ∈ tables_1 := List.forall_mem_cons.mpr ⟨tb3 74 rfl, List.forall_mem_cons.mpr ⟨tb3 123 rfl, List.forall_mem_cons.mpr ⟨tb3 130 rfl, List.forall_mem_cons.mpr ⟨tb3 142 rfl, List.forall_mem_cons.mpr ⟨tb3 143 rfl, List.forall_mem_cons.mpr ⟨tb3 151 rfl, List.forall_mem_cons.mpr ⟨tb3 164 rfl, List.forall_mem_cons.mpr ⟨tb3 174 rfl, List.forall_mem_cons.mpr ⟨tb3 192 rfl, List.forall_mem_cons.mpr ⟨tb3 193 rfl, List.forall_mem_cons.mpr ⟨tb3 194 rfl, List.forall_mem_cons.mpr ⟨tb3 202 rfl, List.forall_mem_cons.mpr ⟨tb3 203 rfl, List.forall_mem_cons.mpr ⟨tb3 213 rfl, List.forall_mem_cons.mpr ⟨tb4 2 rfl, List.forall_mem_cons.mpr ⟨tb4 36 rfl, List.forall_mem_cons.mpr ⟨tb4 37 rfl, List.forall_mem_cons.mpr ⟨tb4 49 rfl, fun _ h => absurd h List.not_mem_nil⟩⟩⟩⟩⟩⟩⟩⟩⟩⟩⟩⟩⟩⟩⟩⟩⟩⟩
end
section
/-! THE LIGHT MACHINE: the program's own cells by numbers (1, 2, ..; 0 is the script), a frame as (pc, locals, stack), a code table of actions. Its runs are plain values; each action is sound over the machine (JOk), and so is a method's whole run (Con, ConX). -/
abbrev JC : Type := (Nat × vp_A) ⊕ (Nat × List Value)
abbrev JM : Type := Nat → JC
abbrev JH : Type := Nat × Nat × Nat × JM
abbrev JF : Type := Nat × List (Nat × Value) × List Value
abbrev JO : Type := Option Value ⊕ String
abbrev JA : Type := JF → JH → Option ((JF × JH) ⊕ ((Nat × List Value × JF × List (String × Int32)) ⊕ JO))
/-- a value by the cells' addresses -/
def tv (a : Nat → Nat) (v : Value) : Value := match v with
  | .ref q => .ref (a q)
  | w => w
def tx (a : Nat → Nat) (y : vp_A) : vp_A := match y with
  | (n, .inr (.inr (.inr (.inr f)))) => (n, .inr (.inr (.inr (.inr (fun j => (f j).map a)))))
  | z => z
def te (g : Nat → ClassId) (a : Nat → Nat) (c : JC) : va_E := match c with
  | .inl (t, y) => .inl (g t, tx a y)
  | .inr (c, fs) => .inr (c, fs.map (tv a))
def vwf (n : Nat) (v : Value) : Prop := match v with
  | .ref q => q < n
  | _ => True
def jwf (n : Nat) (c : JC) : Prop := match c with
  | .inl (_, _, .inr (.inr (.inr (.inr f)))) => ∀ (j q : Nat), f j = some q → q < n
  | .inl _ => True
  | .inr (_, fs) => ∀ v ∈ fs, vwf n v
def vfb (n : Nat) (v : Value) : Bool := match v with
  | .ref q => decide (q < n)
  | _ => true
/-- all references of a frame are below n -/
def jfr (n : Nat) (f : JF) : Bool := f.2.1.all (fun q => vfb n q.2) && f.2.2.all (vfb n)
def jT (t : Nat) : FieldType := match t with
  | 0 => .int
  | 1 => .boolean
  | 2 => .long
  | 3 => .object "StandTugs$Stand"
  | 4 => .object "StandTugs$Tug"
  | 5 => .object "StandTugs$Aircraft"
  | _ => .object "StandTugs$Field"
def jtys (g : Nat → ClassId) : List (ClassId × FieldType) := (List.range 7).map fun t => (g t, jT t)
theorem jtys_at (g : Nat → ClassId) {t : Nat} (h : t < 7) : (jtys g)[t]? = some (g t, jT t) := by
  unfold jtys
  rw [List.getElem?_map, List.getElem?_range h]
  rfl
def jR (D : va_G) (g : Nat → ClassId) (a : Nat → Nat) (n : Nat) (M : JM) (H : Heap) : Prop :=
  (∀ q, 0 < q → q < n → va_at D vwCl (a q, te g a (M q)) H) ∧ (∀ q r, 0 < q → q < n → 0 < r → r < n → a q = a r → q = r) ∧ (∀ q, 0 < q → q < n → jwf n (M q)) ∧ 0 < n ∧ ∀ q, q = 0 ∨ n ≤ q → M q = .inr (99, [])
/-- which cells a run may change: its own, and new ones -/
def jA (a : Nat → Nat) (n sz : Nat) : Nat → Prop := fun x => (∃ q, 0 < q ∧ q < n ∧ a q = x) ∨ sz ≤ x
theorem tv_cat (a : Nat → Nat) (v : Value) : (tv a v).category = v.category := by cases v <;> rfl
theorem tv_catsum (a : Nat → Nat) (vs : List Value) : ((vs.map (tv a)).map fun v => v.category) = vs.map fun v => v.category := by
  rw [List.map_map]
  exact List.map_congr_left fun v _ => tv_cat a v
theorem tv_congr {a a' : Nat → Nat} {n : Nat} {v : Value} (h : ∀ q, q < n → a' q = a q) (hv : vwf n v) : tv a' v = tv a v := by
  cases v with
  | ref q => exact congrArg Value.ref (h q hv)
  | _ => rfl
theorem vwf_of {n : Nat} {v : Value} (h : vfb n v = true) : vwf n v := by
  cases v with
  | ref q => exact (of_decide_eq_true (p := q < n) h)
  | _ => trivial
theorem vwf_mono {n m : Nat} {v : Value} (h : n ≤ m) (hv : vwf n v) : vwf m v := by
  cases v with
  | ref q => exact Nat.lt_of_lt_of_le hv h
  | _ => trivial
theorem jwf_mono {n m : Nat} {c : JC} (h : n ≤ m) (hc : jwf n c) : jwf m c := by
  obtain ⟨t, k, f | f | f | f | f⟩ | ⟨c, fs⟩ := c
  · trivial
  · trivial
  · trivial
  · trivial
  · exact fun j q e => Nat.lt_of_lt_of_le (hc j q e) h
  · exact fun v hv => vwf_mono h (hc v hv)
theorem te_congr {g : Nat → ClassId} {a a' : Nat → Nat} {n : Nat} {c : JC} (h : ∀ q, q < n → a' q = a q) (hc : jwf n c) : te g a' c = te g a c := by
  obtain ⟨t, k, f | f | f | f | f⟩ | ⟨c, fs⟩ := c
  · rfl
  · rfl
  · rfl
  · rfl
  · show Sum.inl (g t, k, _) = Sum.inl (g t, k, _)
    have e : (fun j => (f j).map a') = fun j => (f j).map a := by
      funext j
      cases hj : f j with
      | none => rfl
      | some q => exact congrArg some (h q (hc j q hj))
    rw [e]
  · show Sum.inr (c, fs.map (tv a')) = Sum.inr (c, fs.map (tv a))
    rw [List.map_congr_left fun v hv => tv_congr h (hc v hv)]
theorem tvs_congr {a a' : Nat → Nat} {n : Nat} {vs : List Value} (h : ∀ q, q < n → a' q = a q) (hv : vs.all (vfb n) = true) : vs.map (tv a') = vs.map (tv a) :=
  List.map_congr_left fun v hm => tv_congr h (vwf_of (List.all_eq_true.mp hv v hm))
theorem tvl_congr {a a' : Nat → Nat} {n : Nat} {l : List (Nat × Value)} (h : ∀ q, q < n → a' q = a q) (hv : l.all (fun q => vfb n q.2) = true) : l.map (fun q => (q.1, tv a' q.2)) = l.map (fun q => (q.1, tv a q.2)) :=
  List.map_congr_left fun v hm => by rw [tv_congr h (vwf_of (List.all_eq_true.mp hv v hm))]
theorem lv_args_tv (a : Nat → Nat) : ∀ (vs : List Value) (i : Nat), lv_args i (vs.map (tv a)) = (lv_args i vs).map (fun q => (q.1, tv a q.2))
  | [], _ => rfl
  | v :: vs, i => by
    show (i, tv a v) :: lv_args (if (tv a v).category = 2 then i + 2 else i + 1) (vs.map (tv a)) = (i, tv a v) :: (lv_args (if v.category = 2 then i + 2 else i + 1) vs).map _
    rw [tv_cat, lv_args_tv a vs]
/-- storing keeps step with the addresses -/
theorem tv_store1 (a : Nat → Nat) (i : Nat) (v : Value) (l : List (Nat × Value)) : (i, tv a v) :: (l.map (fun q => (q.1, tv a q.2))).filter (fun q => !(q.1 == i) && !(q.1 + 1 == i && q.2.category == 2)) = ((i, v) :: l.filter (fun q => !(q.1 == i) && !(q.1 + 1 == i && q.2.category == 2))).map (fun q => (q.1, tv a q.2)) := by
  rw [List.map_cons, List.filter_map]
  congr 3
  funext q
  simp only [Function.comp, tv_cat]
theorem tv_store2 (a : Nat → Nat) (i : Nat) (v : Value) (l : List (Nat × Value)) : (i, tv a v) :: (l.map (fun q => (q.1, tv a q.2))).filter (fun q => !(q.1 == i) && (!(q.1 == i + 1) && !(q.1 + 1 == i && q.2.category == 2))) = ((i, v) :: l.filter (fun q => !(q.1 == i) && (!(q.1 == i + 1) && !(q.1 + 1 == i && q.2.category == 2)))).map (fun q => (q.1, tv a q.2)) := by
  rw [List.map_cons, List.filter_map]
  congr 3
  funext q
  simp only [Function.comp, tv_cat]
def jlv (l : List (Nat × Value)) (i : Nat) : Option Value := match l with
  | [] => none
  | q :: r => if q.1 = i then some q.2 else jlv r i
theorem jlv_mem {i : Nat} {v : Value} : ∀ {l : List (Nat × Value)}, jlv l i = some v → (i, v) ∈ l
  | [], h => by cases h
  | q :: r, h => by
    unfold jlv at h
    by_cases e : q.1 = i
    · rw [if_pos e] at h
      cases h
      rw [← e]
      exact List.mem_cons_self
    · rw [if_neg e] at h
      exact List.mem_cons_of_mem _ (jlv_mem h)
theorem jlv_at {ls : Array Slot} {nL : Nat} {a : Nat → Nat} {l : List (Nat × Value)} {i : Nat} {v : Value} (hl : lv_has ls nL (l.map (fun q => (q.1, tv a q.2)))) (h : jlv l i = some v) : ls[i]? = some (.val (tv a v)) :=
  hl.2.2 (i, tv a v) (List.mem_map.mpr ⟨(i, v), jlv_mem h, rfl⟩)
theorem jlv_k {a : Nat → Nat} {l : List (Nat × Value)} {i : Nat} {v : Value} (h : jlv l i = some v) : ∃ k : Nat, (l.map (fun q => (q.1, tv a q.2)))[k]? = some (i, tv a v) :=
  List.getElem?_of_mem (List.mem_map.mpr ⟨(i, v), jlv_mem h, rfl⟩)
/-- exceptions that a handler of another kind lets pass -/
def NCS : List (String × String) := [("java/lang/IllegalArgumentException", "java/lang/IndexOutOfBoundsException"), ("java/lang/IllegalStateException", "java/lang/IndexOutOfBoundsException"), ("java/lang/IllegalStateException", "java/lang/IllegalArgumentException")]
/-! what the tables say at a state, and where the exceptions' statics lie -/
def jK (D : va_G) (g : Nat → ClassId) (U : State) : Prop := va_K D vwCl (jtys g) U ∧ (∀ w ∈ NW, va_Nw w U) ∧ (∀ C ∈ AOS, va_AO C U) ∧ (∀ z ∈ STR, ∃ sa, vk_R z.1 z.2.1 z.2.2 sa U) ∧ ∀ z ∈ NCS, va_Nc z.1 z.2 U
theorem jK.warm {D : va_G} {g : Nat → ClassId} {s U : State} (hW : s.WarmedH U.vm) (h : jK D g s) : jK D g U := by
  refine ⟨va_K.moved hW.alike h.1, fun w hw => ?_, fun C hC => va_AO.moved hW.alike (h.2.2.1 C hC), fun z hz => ?_, fun z hz => va_Nc.moved hW.alike (h.2.2.2.2 z hz)⟩
  · rcases nw_form w hw with ⟨a, i, x, k, rfl⟩ | ⟨a, b, rfl⟩ | ⟨x, rfl⟩
    · exact va_Nw.warmM hW (h.2.1 _ hw)
    · exact va_Nw.warmC hW (h.2.1 _ hw)
    · exact va_Nw.warmD hW (h.2.1 _ hw)
  · obtain ⟨sa, q⟩ := h.2.2.2.1 z hz
    exact ⟨sa, vk_R.warm hW q⟩
def jZ (A : Nat → Prop) (U : State) (H : Heap) : Prop := vx_Zq Bundle.tN "UNASSIGNED_STACK" Bundle.steD A U H ∧ vx_Zq Bundle.tN "SUPPRESSED_SENTINEL" Bundle.listD A U H
/-- a run's fixed surroundings -/
abbrev JX : Type := (Program × Launch × Env × Room × State) × (MethodId × Array Value × List Frame × Method × Code) × (va_G × (Nat → ClassId)) × ((Nat → Prop) × Nat × Nat × (Nat → Nat)) × (Nat × Nat × Nat × Nat) × (State → Prop)
def jC (cc : ByteArray) (own : String) (nm : String × List (Nat × Nat × Nat × Nat)) (nL0 dd : Nat) (scr : Option (Nat × (Nat → Int32))) (X : JX) : Prop := match X with
  | ((p, l, _, R, s), (m, args, _, meth, c), (D, g), (A, nL, n0, a0), (c0, s0, cE, sE), _) =>
    p.tables.exec = Jvm.exec ∧ c.code = cc ∧ s.vm.findClass own = some m.cls ∧ (c.maxLocals = nL ∧ nL = nL0) ∧ (∀ w ∈ GW, w.before args s = true) ∧ jK D g s ∧ jZ A s s.heap ∧
    (dd ≤ R.frames ∧ 36 * dd ≤ R.locals ∧ cE ≤ c0 + R.cells ∧ sE ≤ s0 + R.slots) ∧ ((∀ q, 0 < q → q < n0 → A (a0 q)) ∧ ∀ x, s.heap.size ≤ x → A x) ∧
    (∀ L xs, scr = some (L, xs) → va_X (a0 0) L xs s s.heap ∧ a0 0 < s.heap.size ∧ ¬ A (a0 0) ∧ 0 < n0) ∧ l.stackTraces = false ∧ meth.locks = false ∧ meth.name = nm.1 ∧ c.exceptionTable.toList = tableOf nm.2
def jQ (X : JX) (a : Nat → Nat) (h : JH) (H : Heap) (locs : List Loc) (cells slots : Nat) : Prop := match X with
  | ((_, _, _, _, s), _, (D, g), (A, _, n0, a0), (c0, s0, _, _), _) =>
    jR D g a h.1 h.2.2.2 H ∧ va_S A s.heap H locs ∧ (∀ q, q < n0 → a q = a0 q) ∧ (h.1 = n0 → a = a0) ∧ (∀ q, n0 ≤ q → q < h.1 → s.heap.size ≤ a q) ∧ n0 ≤ h.1 ∧ h.2.1 = c0 + cells ∧ h.2.2.1 = s0 + slots
/-- from this frame over this heap the machine comes to its end -/
def jW (X : JX) (f : JF) (h : JH) : Prop := match X with
  | ((p, l, e, R, s), (m, args, below, meth, c), (D, g), (A, nL, n0, a0), (c0, s0, cE, sE), Q) => ∀ (a : Nat → Nat) (ls : Array Slot) (H : Heap) (locs : List Loc) (cells slots : Nat),
    lv_has ls nL (f.2.1.map (fun q => (q.1, tv a q.2))) → jQ ((p, l, e, R, s), (m, args, below, meth, c), (D, g), (A, nL, n0, a0), (c0, s0, cE, sE), Q) a h H locs cells slots → h.2.1 ≤ cE → h.2.2.1 ≤ sE →
    W p l e R s m args below meth c H locs cells slots Q (F0 m f.1 ls (f.2.2.map (tv a)))
/-- a return instruction for an answer of this kind -/
def jRet (i : Instr) (v : Option Value) : Prop := (i = .ireturn ∧ ∃ x, v = some (.int x)) ∨ (i = .lreturn ∧ ∃ x, v = some (.long x)) ∨ (i = .dreturn ∧ ∃ x, v = some (.double x)) ∨ (i = .return_ ∧ v = none)
/-- a run's end with an answer -/
def jEnd (cc : ByteArray) (X : JX) (v : Option Value) (h : JH) : Prop := match X with
  | ((p, l, e, R, s), (m, args, below, meth, c), Dg, An, (c0, s0, cE, sE), Q) => ∀ (a : Nat → Nat) (ls : Array Slot) (H : Heap) (locs : List Loc) (cells slots pc : Nat) (i : Instr),
    jQ ((p, l, e, R, s), (m, args, below, meth, c), Dg, An, (c0, s0, cE, sE), Q) a h H locs cells slots → h.2.1 ≤ cE → h.2.2.1 ≤ sE → decode cc pc = .ok (i, 1) → jRet i v →
    W p l e R s m args below meth c H locs cells slots Q (F0 m pc ls (v.toList.map (tv a)))
/-- .. with an exception -/
def jEndX (X : JX) (E : String) (h : JH) : Prop := match X with
  | ((p, l, e, R, s), (m, args, below, meth, c), Dg, An, (c0, s0, cE, sE), Q) => ∀ (a : Nat → Nat) (H : Heap) (locs : List Loc) (cells slots : Nat),
    jQ ((p, l, e, R, s), (m, args, below, meth, c), Dg, An, (c0, s0, cE, sE), Q) a h H locs cells slots → ∃ (Qc : Array Value → State → Outcome → State → Prop) (XC : String → State → State → Prop) (mc ms : Nat) (free : Addr → Prop),
      Q = vx_MQ below Qc XC args s mc ms free ∧ (∀ x ∈ c.exceptionTable.toList, False) ∧ (∀ t : State, s.vm.Alike t.vm → H.size ≤ t.heap.size → (∀ q : Nat, q < H.size → t.heap[q]? = H[q]?) → XC E s t) ∧ (∀ z ∈ locs, free z.base) ∧ cells + 1 ≤ mc ∧ slots + 6 ≤ ms ∧ mc ≤ R.cells ∧ ms ≤ R.slots
end
section
/-! actions, each sound over the machine -/
/-- a callee's run that returns, as a contract: μ's name, code .. come by M -/
abbrev JM5 : Type := MethodName × ByteArray × Nat × Option FieldType × Option (List (Nat × Nat × Nat × Nat))
def jword (M : JM5) : Cond := match M.2.2.2.2 with
  | none => .code M.1 M.2.1 M.2.2.1 M.2.2.2.1
  | some hh => .codeWith M.1 M.2.1 M.2.2.1 M.2.2.2.1 hh
def jws (M : JM5) : List Cond := jword M :: GW
/-- what a start says of the state -/
def jPre (D : va_G) (g : Nat → ClassId) (a : Nat → Nat) (h : JH) (sz : Nat) (U : State) : Prop := U.heap.size = sz ∧ jK D g U ∧ jR D g a h.1 h.2.2.2 U.heap ∧ jZ (jA a h.1 sz) U U.heap
def jPost (D : va_G) (g : Nat → ClassId) (a : Nat → Nat) (h h1 : JH) (sz : Nat) (r : Option Value) (st : State) (oc : Outcome) (t : State) : Prop :=
  (∃ a' : Nat → Nat, oc = .returned (r.map (tv a')) ∧ (∀ q, q < h.1 → a' q = a q) ∧ (h1.1 = h.1 → a' = a) ∧ (∀ q, h.1 ≤ q → q < h1.1 → sz ≤ a' q) ∧ jR D g a' h1.1 h1.2.2.2 t.heap) ∧ va_F (jA a h.1 sz) st t
def jLe (h h1 : JH) : Prop := h.1 ≤ h1.1 ∧ h.2.1 ≤ h1.2.1 ∧ h.2.2.1 ≤ h1.2.2.1
def Con (M : JM5) (d : Nat) (as : List Value) (h : JH) (r : Option Value) (h1 : JH) : Prop := jLe h h1 ∧ ∀ (l : Launch) (D : va_G) (g : Nat → ClassId) (a : Nat → Nat) (sz : Nat), l.stackTraces = false →
  Met l M.1 (jws M) { frames := d, cells := h1.2.1 - h.2.1, slots := h1.2.2.1 - h.2.2.1, locals := 36 * d } (va_Pc (as.map (tv a)) (jPre D g a h sz)) (fun _ st oc t => jPost D g a h h1 sz r st oc t) (h1.2.1 - h.2.1) (h1.2.2.1 - h.2.2.1) (jA a h.1 sz)
def jXC (D : va_G) (g : Nat → ClassId) (a : Nat → Nat) (h : JH) (sz : Nat) (E0 : String) : String → State → State → Prop := fun E st t => E = E0 ∧ jR D g a h.1 h.2.2.2 t.heap ∧ va_F (jA a h.1 sz) st t
def ConX (M : JM5) (d : Nat) (as : List Value) (h : JH) (E : String) (h1 : JH) : Prop := (jLe h h1 ∧ h1.1 = h.1) ∧ ∀ (l : Launch) (D : va_G) (g : Nat → ClassId) (a : Nat → Nat) (sz : Nat), l.stackTraces = false →
  vx_Met l M.1 (jws M) { frames := d, cells := h1.2.1 - h.2.1, slots := h1.2.2.1 - h.2.2.1, locals := 36 * d } (va_Pc (as.map (tv a)) (jPre D g a h sz)) (fun _ _ _ _ => False) (jXC D g a h1 sz E) (h1.2.1 - h.2.1) (h1.2.2.1 - h.2.2.1) (jA a h.1 sz)
/-- a call's two ways on -/
def jCall (tab : Nat → JM5) (cc : ByteArray) (dd : Nat) (X : JX) (μ : Nat) (as : List Value) (f' : JF) (ct : List (String × Int32)) (f : JF) (h : JH) : Prop := ∀ d, dd = d + 1 →
  (∀ r h1, Con (tab μ) d as h r h1 → (h1.1 = h.1 ∨ jfr h.1 f' = true) → h1.2.1 ≤ (match X with | (_, _, _, _, (_, _, cE, _), _) => cE) → h1.2.2.1 ≤ (match X with | (_, _, _, _, (_, _, _, sE), _) => sE) → jW X (f'.1, f'.2.1, r.toList ++ f'.2.2) h1 → jW X f h) ∧
  (∀ E k h1, ConX (tab μ) d as h E h1 → (E, k) ∈ ct → h1.2.1 ≤ (match X with | (_, _, _, _, (_, _, cE, _), _) => cE) → h1.2.2.1 ≤ (match X with | (_, _, _, _, (_, _, _, sE), _) => sE) → jEnd cc X (some (.int k)) h1 → jW X f h)
def jDo (tab : Nat → JM5) (cc : ByteArray) (dd : Nat) (X : JX) (f : JF) (h : JH) (r : Option ((JF × JH) ⊕ ((Nat × List Value × JF × List (String × Int32)) ⊕ JO))) : Prop := match r with
  | none => True
  | some (.inl (f', h')) => h'.2.1 ≤ (match X with | (_, _, _, _, (_, _, cE, _), _) => cE) → h'.2.2.1 ≤ (match X with | (_, _, _, _, (_, _, _, sE), _) => sE) → jW X f' h' → jW X f h
  | some (.inr (.inl (μ, as, f', ct))) => jCall tab cc dd X μ as f' ct f h
  | some (.inr (.inr (.inl v))) => jEnd cc X v h → jW X f h
  | some (.inr (.inr (.inr E))) => 6 ≤ dd → jEndX X E h → jW X f h
/-- an action is sound at a place of a method's code -/
def JOk (tab : Nat → JM5) (cc : ByteArray) (own : String) (nm : String × List (Nat × Nat × Nat × Nat)) (nL : Nat) (scr : Option (Nat × (Nat → Int32))) (pc : Nat) (act : JA) : Prop :=
  (∀ l st h f' h', act (pc, l, st) h = some (.inl (f', h')) → jLe h h') ∧ ∀ dd X, 1 ≤ dd → jC cc own nm nL dd scr X → ∀ l st h, jDo tab cc dd X (pc, l, st) h (act (pc, l, st) h)
theorem jLe.rf {h : JH} : jLe h h := ⟨Nat.le_refl _, Nat.le_refl _, Nat.le_refl _⟩
theorem jLe.trans {h h1 h2 : JH} (p : jLe h h1) (q : jLe h1 h2) : jLe h h2 := ⟨Nat.le_trans p.1 q.1, Nat.le_trans p.2.1 q.2.1, Nat.le_trans p.2.2 q.2.2⟩
section JOPS
variable {tab : Nat → JM5} {cc : ByteArray} {own : String} {nm : String × List (Nat × Nat × Nat × Nat)} {nL : Nat} {scr : Option (Nat × (Nat → Int32))} {pc : Nat}
/-! the stack alone -/
def a_stk (len : Nat) (sem : List Value → Option (List Value)) : JA := fun f h => match sem f.2.2 with
  | some st => some (.inl ((f.1 + len, f.2.1, st), h))
  | none => none
def jStk (cc : ByteArray) (pc len : Nat) (sem : List Value → Option (List Value)) : Prop := ∀ (p : Program) (l : Launch) (e : Env) (R : Room) (s : State) (m : MethodId) (args : Array Value) (below : List Frame) (meth : Method) (c : Code) (H : Heap) (locs : List Loc) (cells slots : Nat) (Q : State → Prop) (ls : Array Slot) (a : Nat → Nat) (st st' : List Value),
  p.tables.exec = Jvm.exec → c.code = cc → sem st = some st' → W p l e R s m args below meth c H locs cells slots Q (F0 m (pc + len) ls (st'.map (tv a))) → W p l e R s m args below meth c H locs cells slots Q (F0 m pc ls (st.map (tv a)))
theorem k_stk {len : Nat} {sem : List Value → Option (List Value)} (hk : jStk cc pc len sem) : JOk tab cc own nm nL scr pc (a_stk len sem) := by
  refine ⟨fun l st h f' h' e => ?_, fun dd X _ C l st h => ?_⟩
  · unfold a_stk at e
    split at e
    · cases e
      exact jLe.rf
    · cases e
  · show jDo tab cc dd X (pc, l, st) h (match sem st with
      | some st => some (.inl ((pc + len, l, st), h))
      | none => none)
    cases hs : sem st with
    | none => trivial
    | some st' =>
      obtain ⟨⟨p, ln, e, R, s⟩, ⟨m, args, below, meth, c⟩, ⟨D, g⟩, ⟨A, n, n0, a0⟩, ⟨c0, s0, cE, sE⟩, Q⟩ := X
      intro _ _ k a ls H locs cells slots h1 h2 h3 h4
      exact hk p ln e R s m args below meth c H locs cells slots Q ls a st st' C.1 C.2.1 hs (k a ls H locs cells slots h1 h2 h3 h4)
def s_push (v : Value) : List Value → Option (List Value) := fun st => some (v :: st)
def s_iadd : List Value → Option (List Value) := fun st => match st with
  | .int y :: .int x :: r => some (.int (x + y) :: r)
  | _ => none
def s_isub : List Value → Option (List Value) := fun st => match st with
  | .int y :: .int x :: r => some (.int (x - y) :: r)
  | _ => none
def s_imul : List Value → Option (List Value) := fun st => match st with
  | .int y :: .int x :: r => some (.int (x * y) :: r)
  | _ => none
def s_iand : List Value → Option (List Value) := fun st => match st with
  | .int y :: .int x :: r => some (.int (x &&& y) :: r)
  | _ => none
def s_idiv : List Value → Option (List Value) := fun st => match st with
  | .int y :: .int x :: r => if y = 0 then none else some (.int (x / y) :: r)
  | _ => none
def s_irem : List Value → Option (List Value) := fun st => match st with
  | .int y :: .int x :: r => if y = 0 then none else some (.int (x - x / y * y) :: r)
  | _ => none
def s_ladd : List Value → Option (List Value) := fun st => match st with
  | .long y :: .long x :: r => some (.long (x + y) :: r)
  | _ => none
def s_lsub : List Value → Option (List Value) := fun st => match st with
  | .long y :: .long x :: r => some (.long (x - y) :: r)
  | _ => none
def s_lmul : List Value → Option (List Value) := fun st => match st with
  | .long y :: .long x :: r => some (.long (x * y) :: r)
  | _ => none
def s_i2l : List Value → Option (List Value) := fun st => match st with
  | .int x :: r => some (.long x.toInt64 :: r)
  | _ => none
def s_i2d : List Value → Option (List Value) := fun st => match st with
  | .int x :: r => some (.double (FP.i2d x) :: r)
  | _ => none
def s_dup : List Value → Option (List Value) := fun st => match st with
  | v :: r => if v.category = 1 then some (v :: v :: r) else none
  | _ => none
def s_dup2 : List Value → Option (List Value) := fun st => match st with
  | v :: w :: r => if v.category = 1 ∧ w.category = 1 then some (v :: w :: v :: w :: r) else none
  | _ => none
theorem k_iconst {n : Int} {v : Int32} (hd : decode cc pc = .ok (.iconst n, 1)) (hv : Int32.ofInt n = v) : JOk tab cc own nm nL scr pc (a_stk 1 (s_push (.int v))) := k_stk (by
  intro p l e R s m args below meth c H locs cells slots Q ls a st st' hx hb hs k
  cases hs
  exact lv_iconst hx hb hd hv k)
theorem k_bipush {n : Int} {v : Int32} (hd : decode cc pc = .ok (.bipush n, 2)) (hv : (Int8.ofInt n).toInt32 = v) : JOk tab cc own nm nL scr pc (a_stk 2 (s_push (.int v))) := k_stk (by
  intro p l e R s m args below meth c H locs cells slots Q ls a st st' hx hb hs k
  cases hs
  exact lv_bipush hx hb hd hv k)
theorem k_sipush {n : Int} {v : Int32} (hd : decode cc pc = .ok (.sipush n, 3)) (hv : (Int16.ofInt n).toInt32 = v) : JOk tab cc own nm nL scr pc (a_stk 3 (s_push (.int v))) := k_stk (by
  intro p l e R s m args below meth c H locs cells slots Q ls a st st' hx hb hs k
  cases hs
  exact lv_sipush hx hb hd hv k)
theorem k_lconst {n : Fin 2} {v : Int64} (hd : decode cc pc = .ok (.lconst n, 1)) (hv : Int64.ofNat (n : Nat) = v) : JOk tab cc own nm nL scr pc (a_stk 1 (s_push (.long v))) := k_stk (by
  intro p l e R s m args below meth c H locs cells slots Q ls a st st' hx hb hs k
  cases hs
  exact lv_lconst hx hb hd hv k)
theorem k_dconst0 (hd : decode cc pc = .ok (.dconst 0, 1)) : JOk tab cc own nm nL scr pc (a_stk 1 (s_push (.double FP.dconst0))) := k_stk (by
  intro p l e R s m args below meth c H locs cells slots Q ls a st st' hx hb hs k
  cases hs
  exact lv_dconst0 hx hb hd k)
theorem k_iadd (hd : decode cc pc = .ok (.iadd, 1)) : JOk tab cc own nm nL scr pc (a_stk 1 s_iadd) := k_stk (by
  intro p l e R s m args below meth c H locs cells slots Q ls a st st' hx hb hs k
  unfold s_iadd at hs
  split at hs
  · cases hs
    exact lv_iadd hx hb hd k
  · cases hs)
theorem k_isub (hd : decode cc pc = .ok (.isub, 1)) : JOk tab cc own nm nL scr pc (a_stk 1 s_isub) := k_stk (by
  intro p l e R s m args below meth c H locs cells slots Q ls a st st' hx hb hs k
  unfold s_isub at hs
  split at hs
  · cases hs
    exact lv_isub hx hb hd k
  · cases hs)
theorem k_imul (hd : decode cc pc = .ok (.imul, 1)) : JOk tab cc own nm nL scr pc (a_stk 1 s_imul) := k_stk (by
  intro p l e R s m args below meth c H locs cells slots Q ls a st st' hx hb hs k
  unfold s_imul at hs
  split at hs
  · cases hs
    exact lv_imul hx hb hd k
  · cases hs)
theorem k_iand (hd : decode cc pc = .ok (.iand, 1)) : JOk tab cc own nm nL scr pc (a_stk 1 s_iand) := k_stk (by
  intro p l e R s m args below meth c H locs cells slots Q ls a st st' hx hb hs k
  unfold s_iand at hs
  split at hs
  · cases hs
    exact lv_iand hx hb hd k
  · cases hs)
theorem k_idiv (hd : decode cc pc = .ok (.idiv, 1)) : JOk tab cc own nm nL scr pc (a_stk 1 s_idiv) := k_stk (by
  intro p l e R s m args below meth c H locs cells slots Q ls a st st' hx hb hs k
  unfold s_idiv at hs
  split at hs
  · split at hs
    · cases hs
    · cases hs
      exact lv_idiv hx hb hd (by assumption) k
  · cases hs)
theorem k_irem (hd : decode cc pc = .ok (.irem, 1)) : JOk tab cc own nm nL scr pc (a_stk 1 s_irem) := k_stk (by
  intro p l e R s m args below meth c H locs cells slots Q ls a st st' hx hb hs k
  unfold s_irem at hs
  split at hs
  · split at hs
    · cases hs
    · cases hs
      exact lv_irem hx hb hd (by assumption) k
  · cases hs)
theorem k_ladd (hd : decode cc pc = .ok (.ladd, 1)) : JOk tab cc own nm nL scr pc (a_stk 1 s_ladd) := k_stk (by
  intro p l e R s m args below meth c H locs cells slots Q ls a st st' hx hb hs k
  unfold s_ladd at hs
  split at hs
  · cases hs
    exact lv_ladd hx hb hd k
  · cases hs)
theorem k_lsub (hd : decode cc pc = .ok (.lsub, 1)) : JOk tab cc own nm nL scr pc (a_stk 1 s_lsub) := k_stk (by
  intro p l e R s m args below meth c H locs cells slots Q ls a st st' hx hb hs k
  unfold s_lsub at hs
  split at hs
  · cases hs
    exact lv_lsub hx hb hd k
  · cases hs)
theorem k_lmul (hd : decode cc pc = .ok (.lmul, 1)) : JOk tab cc own nm nL scr pc (a_stk 1 s_lmul) := k_stk (by
  intro p l e R s m args below meth c H locs cells slots Q ls a st st' hx hb hs k
  unfold s_lmul at hs
  split at hs
  · cases hs
    exact lv_lmul hx hb hd k
  · cases hs)
theorem k_i2l (hd : decode cc pc = .ok (.i2l, 1)) : JOk tab cc own nm nL scr pc (a_stk 1 s_i2l) := k_stk (by
  intro p l e R s m args below meth c H locs cells slots Q ls a st st' hx hb hs k
  unfold s_i2l at hs
  split at hs
  · cases hs
    exact lv_i2l hx hb hd rfl k
  · cases hs)
theorem k_i2d (hd : decode cc pc = .ok (.i2d, 1)) : JOk tab cc own nm nL scr pc (a_stk 1 s_i2d) := k_stk (by
  intro p l e R s m args below meth c H locs cells slots Q ls a st st' hx hb hs k
  unfold s_i2d at hs
  split at hs
  · cases hs
    exact lv_i2d hx hb hd k
  · cases hs)
theorem k_dup (hd : decode cc pc = .ok (.dup, 1)) : JOk tab cc own nm nL scr pc (a_stk 1 s_dup) := k_stk (by
  intro p l e R s m args below meth c H locs cells slots Q ls a st st' hx hb hs k
  unfold s_dup at hs
  split at hs
  · split at hs
    · cases hs
      exact lv_dup hx hb hd (by rw [tv_cat]; assumption) k
    · cases hs
  · cases hs)
theorem k_dup2 (hd : decode cc pc = .ok (.dup2, 1)) : JOk tab cc own nm nL scr pc (a_stk 1 s_dup2) := k_stk (by
  intro p l e R s m args below meth c H locs cells slots Q ls a st st' hx hb hs k
  unfold s_dup2 at hs
  split at hs
  · split at hs
    · rename_i hc
      cases hs
      exact lv_dup2_11 hx hb hd (by rw [tv_cat]; exact hc.1) (by rw [tv_cat]; exact hc.2) k
    · cases hs
  · cases hs)
/-- a double that is no NaN -/
def jnn (r : UInt64) : Bool := decide (r &&& 0x7fffffffffffffff ≤ 0x7ff0000000000000)
def s_dadd : List Value → Option (List Value) := fun st => match st with
  | .double y :: .double x :: r => if jnn (FP.dadd x y) = true then some (.double (FP.dadd x y) :: r) else none
  | _ => none
def s_ddiv : List Value → Option (List Value) := fun st => match st with
  | .double y :: .double x :: r => if jnn (FP.ddiv x y) = true then some (.double (FP.ddiv x y) :: r) else none
  | _ => none
def s_dcmp (op : CmpOp) : List Value → Option (List Value) := fun st => match st with
  | .double y :: .double x :: r => some (.int (Op.cmpValue (FP.dcmp x y) op) :: r)
  | _ => none
def s_lcmp : List Value → Option (List Value) := fun st => match st with
  | .long y :: .long x :: r => some (.int (lg_cmp x y) :: r)
  | _ => none
theorem k_dadd (hd : decode cc pc = .ok (.dadd, 1)) : JOk tab cc own nm nL scr pc (a_stk 1 s_dadd) := k_stk (by
  intro p l e R s m args below meth c H locs cells slots Q ls a st st' hx hb hs k
  unfold s_dadd at hs
  split at hs
  · split at hs
    · rename_i hc
      cases hs
      exact lv_dadd hx hb hd (by unfold vf_n64; exact of_decide_eq_true hc) k
    · cases hs
  · cases hs)
theorem k_ddiv (hd : decode cc pc = .ok (.ddiv, 1)) : JOk tab cc own nm nL scr pc (a_stk 1 s_ddiv) := k_stk (by
  intro p l e R s m args below meth c H locs cells slots Q ls a st st' hx hb hs k
  unfold s_ddiv at hs
  split at hs
  · split at hs
    · rename_i hc
      cases hs
      exact lv_ddiv hx hb hd (by unfold vf_n64; exact of_decide_eq_true hc) k
    · cases hs
  · cases hs)
theorem k_dcmp {op : CmpOp} (hd : decode cc pc = .ok (.dcmp op, 1)) : JOk tab cc own nm nL scr pc (a_stk 1 (s_dcmp op)) := k_stk (by
  intro p l e R s m args below meth c H locs cells slots Q ls a st st' hx hb hs k
  unfold s_dcmp at hs
  split at hs
  · cases hs
    exact lv_dcmp hx hb hd k
  · cases hs)
theorem k_lcmp (hd : decode cc pc = .ok (.lcmp, 1)) : JOk tab cc own nm nL scr pc (a_stk 1 s_lcmp) := k_stk (by
  intro p l e R s m args below meth c H locs cells slots Q ls a st st' hx hb hs k
  unfold s_lcmp at hs
  split at hs
  · cases hs
    exact W.lcmp hx hb hd k
  · cases hs)
/-! actions that leave the heap: a general way in -/
def jLoc (tab : Nat → JM5) (cc : ByteArray) (own : String) (nm : String × List (Nat × Nat × Nat × Nat)) (nL : Nat) (scr : Option (Nat × (Nat → Int32))) (pc : Nat) (act : JA) : Prop := ∀ l st h f' h', act (pc, l, st) h = some (.inl (f', h')) → h' = h ∧
  ∀ dd (p : Program) (l0 : Launch) (e : Env) (R : Room) (s : State) (m : MethodId) (args : Array Value) (below : List Frame) (meth : Method) (c : Code) (D : va_G) (g : Nat → ClassId) (A : Nat → Prop) (n n0 : Nat) (a0 : Nat → Nat) (c0 s0 cE sE : Nat) (Q : State → Prop), 1 ≤ dd →
    jC cc own nm nL dd scr ((p, l0, e, R, s), (m, args, below, meth, c), (D, g), (A, n, n0, a0), (c0, s0, cE, sE), Q) →
    ∀ (a : Nat → Nat) (ls : Array Slot) (H : Heap) (locs : List Loc) (cells slots : Nat), lv_has ls n (l.map (fun q => (q.1, tv a q.2))) →
    jQ ((p, l0, e, R, s), (m, args, below, meth, c), (D, g), (A, n, n0, a0), (c0, s0, cE, sE), Q) a h H locs cells slots → h.2.1 ≤ cE → h.2.2.1 ≤ sE →
    (∀ ls' : Array Slot, lv_has ls' n (f'.2.1.map (fun q => (q.1, tv a q.2))) → W p l0 e R s m args below meth c H locs cells slots Q (F0 m f'.1 ls' (f'.2.2.map (tv a)))) → W p l0 e R s m args below meth c H locs cells slots Q (F0 m pc ls (st.map (tv a)))
theorem k_loc {act : JA} (h0 : ∀ f h y, act f h ≠ some (.inr y)) (hk : jLoc tab cc own nm nL scr pc act) : JOk tab cc own nm nL scr pc act := by
  refine ⟨fun l st h f' h' e => ?_, fun dd X hdd C l st h => ?_⟩
  · obtain ⟨rfl, -⟩ := hk l st h f' h' e
    exact jLe.rf
  · obtain ⟨⟨p, ln, e, R, s⟩, ⟨m, args, below, meth, c⟩, ⟨D, g⟩, ⟨A, n, n0, a0⟩, ⟨c0, s0, cE, sE⟩, Q⟩ := X
    cases hs : act (pc, l, st) h with
    | none => trivial
    | some y =>
      obtain ⟨f', h'⟩ | y := y
      · obtain ⟨rfl, q⟩ := hk l st h f' h' hs
        intro _ _ k a ls H locs cells slots h1 h2 h3 h4
        exact q dd p ln e R s m args below meth c D g A n n0 a0 c0 s0 cE sE Q hdd C a ls H locs cells slots h1 h2 h3 h4 (fun ls' h5 => k a ls' H locs cells slots h5 h2 h3 h4)
      · exact absurd hs (h0 _ _ y)
def a_ild (len i : Nat) : JA := fun f h => match jlv f.2.1 i with
  | some (.int x) => some (.inl ((f.1 + len, f.2.1, .int x :: f.2.2), h))
  | _ => none
def a_ald (len i : Nat) : JA := fun f h => match jlv f.2.1 i with
  | some (.ref x) => some (.inl ((f.1 + len, f.2.1, .ref x :: f.2.2), h))
  | _ => none
def a_lld (len i : Nat) : JA := fun f h => match jlv f.2.1 i with
  | some (.long x) => some (.inl ((f.1 + len, f.2.1, .long x :: f.2.2), h))
  | _ => none
def a_dld (len i : Nat) : JA := fun f h => match jlv f.2.1 i with
  | some (.double x) => some (.inl ((f.1 + len, f.2.1, .double x :: f.2.2), h))
  | _ => none
def a_ist (len i : Nat) : JA := fun f h => match f.2.2 with
  | .int x :: r => some (.inl ((f.1 + len, (i, .int x) :: f.2.1.filter (fun q => !(q.1 == i) && !(q.1 + 1 == i && q.2.category == 2)), r), h))
  | _ => none
def a_ast (len i : Nat) : JA := fun f h => match f.2.2 with
  | .ref x :: r => some (.inl ((f.1 + len, (i, .ref x) :: f.2.1.filter (fun q => !(q.1 == i) && !(q.1 + 1 == i && q.2.category == 2)), r), h))
  | _ => none
def a_lst (len i : Nat) : JA := fun f h => match f.2.2 with
  | .long x :: r => some (.inl ((f.1 + len, (i, .long x) :: f.2.1.filter (fun q => !(q.1 == i) && (!(q.1 == i + 1) && !(q.1 + 1 == i && q.2.category == 2))), r), h))
  | _ => none
def a_dst (len i : Nat) : JA := fun f h => match f.2.2 with
  | .double x :: r => some (.inl ((f.1 + len, (i, .double x) :: f.2.1.filter (fun q => !(q.1 == i) && (!(q.1 == i + 1) && !(q.1 + 1 == i && q.2.category == 2))), r), h))
  | _ => none
def a_iinc (i : Nat) (d : Int32) : JA := fun f h => match jlv f.2.1 i with
  | some (.int x) => some (.inl ((f.1 + 3, (i, .int (x + d)) :: f.2.1.filter (fun q => !(q.1 == i) && !(q.1 + 1 == i && q.2.category == 2)), f.2.2), h))
  | _ => none
def a_goto (t : Nat) : JA := fun f h => some (.inl ((t, f.2.1, f.2.2), h))
def a_ldc2 (v : Int64) : JA := fun f h => some (.inl ((f.1 + 3, f.2.1, .long v :: f.2.2), h))
theorem k_ild {i : Nat} (hd : decode cc pc = .ok (.iload i, 2)) : JOk tab cc own nm nL scr pc (a_ild 2 i) := k_loc (fun f h y e => by unfold a_ild at e; split at e <;> cases e) (by
  intro l st h f' h' e
  unfold a_ild at e
  split at e
  · rename_i x hx
    cases e
    refine ⟨rfl, fun dd p l0 e R s m args below meth c D g A n n0 a0 c0 s0 cE sE Q hdd C a ls H locs cells slots hl hq h1 h2 k => ?_⟩
    exact lv_iload C.1 C.2.1 hd (jlv_at hl hx) (k ls hl)
  · cases e)
theorem k_ild_n {n : Fin 4} {i : Nat} (hd : decode cc pc = .ok (.iload_n n, 1)) (hi : (n : Nat) = i) : JOk tab cc own nm nL scr pc (a_ild 1 i) := k_loc (fun f h y e => by unfold a_ild at e; split at e <;> cases e) (by
  intro l st h f' h' e
  unfold a_ild at e
  split at e
  · rename_i x hx
    cases e
    refine ⟨rfl, fun dd p l0 e R s m args below meth c D g A n n0 a0 c0 s0 cE sE Q hdd C a ls H locs cells slots hl hq h1 h2 k => ?_⟩
    exact lv_iload_n C.1 C.2.1 hd hi (jlv_at hl hx) (k ls hl)
  · cases e)
theorem k_ald {i : Nat} (hd : decode cc pc = .ok (.aload i, 2)) : JOk tab cc own nm nL scr pc (a_ald 2 i) := k_loc (fun f h y e => by unfold a_ald at e; split at e <;> cases e) (by
  intro l st h f' h' e
  unfold a_ald at e
  split at e
  · rename_i x hx
    cases e
    refine ⟨rfl, fun dd p l0 e R s m args below meth c D g A n n0 a0 c0 s0 cE sE Q hdd C a ls H locs cells slots hl hq h1 h2 k => ?_⟩
    exact lv_aload C.1 C.2.1 hd (jlv_at hl hx) (k ls hl)
  · cases e)
theorem k_ald_n {n : Fin 4} {i : Nat} (hd : decode cc pc = .ok (.aload_n n, 1)) (hi : (n : Nat) = i) : JOk tab cc own nm nL scr pc (a_ald 1 i) := k_loc (fun f h y e => by unfold a_ald at e; split at e <;> cases e) (by
  intro l st h f' h' e
  unfold a_ald at e
  split at e
  · rename_i x hx
    cases e
    refine ⟨rfl, fun dd p l0 e R s m args below meth c D g A n n0 a0 c0 s0 cE sE Q hdd C a ls H locs cells slots hl hq h1 h2 k => ?_⟩
    exact lv_aload_n C.1 C.2.1 hd hi (jlv_at hl hx) (k ls hl)
  · cases e)
theorem k_lld {i : Nat} (hd : decode cc pc = .ok (.lload i, 2)) : JOk tab cc own nm nL scr pc (a_lld 2 i) := k_loc (fun f h y e => by unfold a_lld at e; split at e <;> cases e) (by
  intro l st h f' h' e
  unfold a_lld at e
  split at e
  · rename_i x hx
    cases e
    refine ⟨rfl, fun dd p l0 e R s m args below meth c D g A n n0 a0 c0 s0 cE sE Q hdd C a ls H locs cells slots hl hq h1 h2 k => ?_⟩
    exact lv_lload C.1 C.2.1 hd (jlv_at hl hx) (k ls hl)
  · cases e)
theorem k_lld_n {n : Fin 4} {i : Nat} (hd : decode cc pc = .ok (.lload_n n, 1)) (hi : (n : Nat) = i) : JOk tab cc own nm nL scr pc (a_lld 1 i) := k_loc (fun f h y e => by unfold a_lld at e; split at e <;> cases e) (by
  intro l st h f' h' e
  unfold a_lld at e
  split at e
  · rename_i x hx
    cases e
    refine ⟨rfl, fun dd p l0 e R s m args below meth c D g A n n0 a0 c0 s0 cE sE Q hdd C a ls H locs cells slots hl hq h1 h2 k => ?_⟩
    exact lv_lload_n C.1 C.2.1 hd hi (jlv_at hl hx) (k ls hl)
  · cases e)
theorem k_dld {i : Nat} (hd : decode cc pc = .ok (.dload i, 2)) : JOk tab cc own nm nL scr pc (a_dld 2 i) := k_loc (fun f h y e => by unfold a_dld at e; split at e <;> cases e) (by
  intro l st h f' h' e
  unfold a_dld at e
  split at e
  · rename_i x hx
    cases e
    refine ⟨rfl, fun dd p l0 e R s m args below meth c D g A n n0 a0 c0 s0 cE sE Q hdd C a ls H locs cells slots hl hq h1 h2 k => ?_⟩
    exact lv_dload C.1 C.2.1 hd (jlv_at hl hx) (k ls hl)
  · cases e)
theorem k_dld_n {n : Fin 4} {i : Nat} (hd : decode cc pc = .ok (.dload_n n, 1)) (hi : (n : Nat) = i) : JOk tab cc own nm nL scr pc (a_dld 1 i) := k_loc (fun f h y e => by unfold a_dld at e; split at e <;> cases e) (by
  intro l st h f' h' e
  unfold a_dld at e
  split at e
  · rename_i x hx
    cases e
    refine ⟨rfl, fun dd p l0 e R s m args below meth c D g A n n0 a0 c0 s0 cE sE Q hdd C a ls H locs cells slots hl hq h1 h2 k => ?_⟩
    exact lv_dload_n C.1 C.2.1 hd hi (jlv_at hl hx) (k ls hl)
  · cases e)
theorem k_ist {i : Nat} (hd : decode cc pc = .ok (.istore i, 2)) (hi2 : i < nL) : JOk tab cc own nm nL scr pc (a_ist 2 i) := k_loc (fun f h y e => by unfold a_ist at e; split at e <;> cases e) (by
  intro l st h f' h' e
  unfold a_ist at e
  split at e
  · rename_i x r hx
    cases e
    cases hx
    refine ⟨rfl, fun dd p l0 e R s m args below meth c D g A n n0 a0 c0 s0 cE sE Q hdd C a ls H locs cells slots hl hq h1 h2 k => ?_⟩
    exact lv_istore C.1 C.2.1 hd hl (by rw [C.2.2.2.1.2]; exact hi2) (tv_store1 a i (.int x) l) (fun ls' h' => k ls' h')
  · cases e)
theorem k_ist_n {n : Fin 4} {i : Nat} (hd : decode cc pc = .ok (.istore_n n, 1)) (hi : (n : Nat) = i) (hi2 : i < nL) : JOk tab cc own nm nL scr pc (a_ist 1 i) := k_loc (fun f h y e => by unfold a_ist at e; split at e <;> cases e) (by
  intro l st h f' h' e
  unfold a_ist at e
  split at e
  · rename_i x r hx
    cases e
    cases hx
    refine ⟨rfl, fun dd p l0 e R s m args below meth c D g A n n0 a0 c0 s0 cE sE Q hdd C a ls H locs cells slots hl hq h1 h2 k => ?_⟩
    exact lv_istore_n C.1 C.2.1 hd hi hl (by rw [C.2.2.2.1.2]; exact hi2) (tv_store1 a i (.int x) l) (fun ls' h' => k ls' h')
  · cases e)
theorem k_ast {i : Nat} (hd : decode cc pc = .ok (.astore i, 2)) (hi2 : i < nL) : JOk tab cc own nm nL scr pc (a_ast 2 i) := k_loc (fun f h y e => by unfold a_ast at e; split at e <;> cases e) (by
  intro l st h f' h' e
  unfold a_ast at e
  split at e
  · rename_i x r hx
    cases e
    cases hx
    refine ⟨rfl, fun dd p l0 e R s m args below meth c D g A n n0 a0 c0 s0 cE sE Q hdd C a ls H locs cells slots hl hq h1 h2 k => ?_⟩
    exact lv_astore C.1 C.2.1 hd hl (by rw [C.2.2.2.1.2]; exact hi2) (tv_store1 a i (.ref x) l) (fun ls' h' => k ls' h')
  · cases e)
theorem k_ast_n {n : Fin 4} {i : Nat} (hd : decode cc pc = .ok (.astore_n n, 1)) (hi : (n : Nat) = i) (hi2 : i < nL) : JOk tab cc own nm nL scr pc (a_ast 1 i) := k_loc (fun f h y e => by unfold a_ast at e; split at e <;> cases e) (by
  intro l st h f' h' e
  unfold a_ast at e
  split at e
  · rename_i x r hx
    cases e
    cases hx
    refine ⟨rfl, fun dd p l0 e R s m args below meth c D g A n n0 a0 c0 s0 cE sE Q hdd C a ls H locs cells slots hl hq h1 h2 k => ?_⟩
    exact lv_astore_n C.1 C.2.1 hd hi hl (by rw [C.2.2.2.1.2]; exact hi2) (tv_store1 a i (.ref x) l) (fun ls' h' => k ls' h')
  · cases e)
theorem k_lst {i : Nat} (hd : decode cc pc = .ok (.lstore i, 2)) (hi2 : i + 1 < nL) : JOk tab cc own nm nL scr pc (a_lst 2 i) := k_loc (fun f h y e => by unfold a_lst at e; split at e <;> cases e) (by
  intro l st h f' h' e
  unfold a_lst at e
  split at e
  · rename_i x r hx
    cases e
    cases hx
    refine ⟨rfl, fun dd p l0 e R s m args below meth c D g A n n0 a0 c0 s0 cE sE Q hdd C a ls H locs cells slots hl hq h1 h2 k => ?_⟩
    exact lv_lstore C.1 C.2.1 hd hl (by rw [C.2.2.2.1.2]; exact hi2) (tv_store2 a i (.long x) l) (fun ls' h' => k ls' h')
  · cases e)
theorem k_lst_n {n : Fin 4} {i : Nat} (hd : decode cc pc = .ok (.lstore_n n, 1)) (hi : (n : Nat) = i) (hi2 : i + 1 < nL) : JOk tab cc own nm nL scr pc (a_lst 1 i) := k_loc (fun f h y e => by unfold a_lst at e; split at e <;> cases e) (by
  intro l st h f' h' e
  unfold a_lst at e
  split at e
  · rename_i x r hx
    cases e
    cases hx
    refine ⟨rfl, fun dd p l0 e R s m args below meth c D g A n n0 a0 c0 s0 cE sE Q hdd C a ls H locs cells slots hl hq h1 h2 k => ?_⟩
    exact lv_lstore_n C.1 C.2.1 hd hi hl (by rw [C.2.2.2.1.2]; exact hi2) (tv_store2 a i (.long x) l) (fun ls' h' => k ls' h')
  · cases e)
theorem k_dst {i : Nat} (hd : decode cc pc = .ok (.dstore i, 2)) (hi2 : i + 1 < nL) : JOk tab cc own nm nL scr pc (a_dst 2 i) := k_loc (fun f h y e => by unfold a_dst at e; split at e <;> cases e) (by
  intro l st h f' h' e
  unfold a_dst at e
  split at e
  · rename_i x r hx
    cases e
    cases hx
    refine ⟨rfl, fun dd p l0 e R s m args below meth c D g A n n0 a0 c0 s0 cE sE Q hdd C a ls H locs cells slots hl hq h1 h2 k => ?_⟩
    exact lv_dstore C.1 C.2.1 hd hl (by rw [C.2.2.2.1.2]; exact hi2) (tv_store2 a i (.double x) l) (fun ls' h' => k ls' h')
  · cases e)
theorem k_dst_n {n : Fin 4} {i : Nat} (hd : decode cc pc = .ok (.dstore_n n, 1)) (hi : (n : Nat) = i) (hi2 : i + 1 < nL) : JOk tab cc own nm nL scr pc (a_dst 1 i) := k_loc (fun f h y e => by unfold a_dst at e; split at e <;> cases e) (by
  intro l st h f' h' e
  unfold a_dst at e
  split at e
  · rename_i x r hx
    cases e
    cases hx
    refine ⟨rfl, fun dd p l0 e R s m args below meth c D g A n n0 a0 c0 s0 cE sE Q hdd C a ls H locs cells slots hl hq h1 h2 k => ?_⟩
    exact lv_dstore_n C.1 C.2.1 hd hi hl (by rw [C.2.2.2.1.2]; exact hi2) (tv_store2 a i (.double x) l) (fun ls' h' => k ls' h')
  · cases e)
theorem k_iinc {i : Nat} {n : Int} {d : Int32} (hd : decode cc pc = .ok (.iinc i n, 3)) (hn : Int32.ofInt n = d) (hi2 : i < nL) : JOk tab cc own nm nL scr pc (a_iinc i d) := k_loc (fun f h y e => by unfold a_iinc at e; split at e <;> cases e) (by
  intro l st h f' h' e
  unfold a_iinc at e
  split at e
  · rename_i x hx
    cases e
    refine ⟨rfl, fun dd p l0 e R s m args below meth c D g A n n0 a0 c0 s0 cE sE Q hdd C a ls H locs cells slots hl hq h1 h2 k => ?_⟩
    obtain ⟨k0, hk0⟩ := jlv_k (a := a) hx
    exact lv_iinc (v := x + d) C.1 C.2.1 hd hl hk0 (by rw [hn]) (by rw [C.2.2.2.1.2]; exact hi2) (tv_store1 a i (.int (x + d)) l) (fun ls' h' => k ls' h')
  · cases e)
theorem k_goto {off : Int} {t : Nat} (hd : decode cc pc = .ok (.goto off, 3)) (ht : (pc : Int) + off = (t : Int)) : JOk tab cc own nm nL scr pc (a_goto t) := k_loc (fun f h y e => by unfold a_goto at e; cases e) (by
  intro l st h f' h' e
  unfold a_goto at e
  cases e
  refine ⟨rfl, fun dd p l0 e R s m args below meth c D g A n n0 a0 c0 s0 cE sE Q hdd C a ls H locs cells slots hl hq h1 h2 k => ?_⟩
  exact lv_goto C.1 C.2.1 hd ht (k ls hl))
theorem k_ldc2 {i : Nat} {v : Int64} (hd : decode cc pc = .ok (.ldc2_w i, 3)) (hw : Cond.constantLong own i v ∈ GW) : JOk tab cc own nm nL scr pc (a_ldc2 v) := k_loc (fun f h y e => by unfold a_ldc2 at e; cases e) (by
  intro l st h f' h' e
  unfold a_ldc2 at e
  cases e
  refine ⟨rfl, fun dd p l0 e R s m args below meth c D g A n n0 a0 c0 s0 cE sE Q hdd C a ls H locs cells slots hl hq h1 h2 k => ?_⟩
  exact lv_ldc2 C.1 C.2.1 C.2.2.1 (C.2.2.2.2.1 _ hw) hd (k ls hl))
/-! branches -/
def a_br (t : Nat) (sem : List Value → Option (Bool × List Value)) : JA := fun f h => match sem f.2.2 with
  | some (b, st) => some (.inl ((bif b then t else f.1 + 3, f.2.1, st), h))
  | none => none
def b_if_eq : List Value → Option (Bool × List Value) := fun st => match st with
  | .int x :: r => some (decide (x = 0), r)
  | _ => none
theorem k_if_eq {off : Int} {t : Nat} (hd : decode cc pc = .ok (.ifCond .eq off, 3)) (ht : (pc : Int) + off = (t : Int)) : JOk tab cc own nm nL scr pc (a_br t b_if_eq) := k_loc (fun f h y e => by unfold a_br at e; split at e <;> cases e) (by
  intro l st h f' h' e
  unfold a_br b_if_eq at e
  dsimp only at e
  split at e
  · rename_i b st' hs
    cases e
    refine ⟨rfl, fun dd p l0 e R s m args below meth c D g A n n0 a0 c0 s0 cE sE Q hdd C a ls H locs cells slots hl hq h1 h2 k => ?_⟩
    split at hs
    · cases hs
      refine lv_if_eq C.1 C.2.1 hd ht (fun hc => ?_) (fun hc => ?_)
      · have k' := k ls hl
        simp only [decide_eq_true hc, cond_true] at k'
        exact k'
      · have k' := k ls hl
        simp only [decide_eq_false hc, cond_false] at k'
        exact k'
    · cases hs
  · cases e)
def b_icmp_eq : List Value → Option (Bool × List Value) := fun st => match st with
  | .int y :: .int x :: r => some (decide (x = y), r)
  | _ => none
theorem k_icmp_eq {off : Int} {t : Nat} (hd : decode cc pc = .ok (.if_icmp .eq off, 3)) (ht : (pc : Int) + off = (t : Int)) : JOk tab cc own nm nL scr pc (a_br t b_icmp_eq) := k_loc (fun f h y e => by unfold a_br at e; split at e <;> cases e) (by
  intro l st h f' h' e
  unfold a_br b_icmp_eq at e
  dsimp only at e
  split at e
  · rename_i b st' hs
    cases e
    refine ⟨rfl, fun dd p l0 e R s m args below meth c D g A n n0 a0 c0 s0 cE sE Q hdd C a ls H locs cells slots hl hq h1 h2 k => ?_⟩
    split at hs
    · cases hs
      refine lv_icmp_eq C.1 C.2.1 hd ht (fun hc => ?_) (fun hc => ?_)
      · have k' := k ls hl
        simp only [decide_eq_true hc, cond_true] at k'
        exact k'
      · have k' := k ls hl
        simp only [decide_eq_false hc, cond_false] at k'
        exact k'
    · cases hs
  · cases e)
def b_if_ne : List Value → Option (Bool × List Value) := fun st => match st with
  | .int x :: r => some (decide (¬ x = 0), r)
  | _ => none
theorem k_if_ne {off : Int} {t : Nat} (hd : decode cc pc = .ok (.ifCond .ne off, 3)) (ht : (pc : Int) + off = (t : Int)) : JOk tab cc own nm nL scr pc (a_br t b_if_ne) := k_loc (fun f h y e => by unfold a_br at e; split at e <;> cases e) (by
  intro l st h f' h' e
  unfold a_br b_if_ne at e
  dsimp only at e
  split at e
  · rename_i b st' hs
    cases e
    refine ⟨rfl, fun dd p l0 e R s m args below meth c D g A n n0 a0 c0 s0 cE sE Q hdd C a ls H locs cells slots hl hq h1 h2 k => ?_⟩
    split at hs
    · cases hs
      refine lv_if_ne C.1 C.2.1 hd ht (fun hc => ?_) (fun hc => ?_)
      · have k' := k ls hl
        simp only [decide_eq_true hc, cond_true] at k'
        exact k'
      · have k' := k ls hl
        simp only [decide_eq_false (not_not_intro hc), cond_false] at k'
        exact k'
    · cases hs
  · cases e)
def b_icmp_ne : List Value → Option (Bool × List Value) := fun st => match st with
  | .int y :: .int x :: r => some (decide (¬ x = y), r)
  | _ => none
theorem k_icmp_ne {off : Int} {t : Nat} (hd : decode cc pc = .ok (.if_icmp .ne off, 3)) (ht : (pc : Int) + off = (t : Int)) : JOk tab cc own nm nL scr pc (a_br t b_icmp_ne) := k_loc (fun f h y e => by unfold a_br at e; split at e <;> cases e) (by
  intro l st h f' h' e
  unfold a_br b_icmp_ne at e
  dsimp only at e
  split at e
  · rename_i b st' hs
    cases e
    refine ⟨rfl, fun dd p l0 e R s m args below meth c D g A n n0 a0 c0 s0 cE sE Q hdd C a ls H locs cells slots hl hq h1 h2 k => ?_⟩
    split at hs
    · cases hs
      refine lv_icmp_ne C.1 C.2.1 hd ht (fun hc => ?_) (fun hc => ?_)
      · have k' := k ls hl
        simp only [decide_eq_true hc, cond_true] at k'
        exact k'
      · have k' := k ls hl
        simp only [decide_eq_false (not_not_intro hc), cond_false] at k'
        exact k'
    · cases hs
  · cases e)
def b_if_lt : List Value → Option (Bool × List Value) := fun st => match st with
  | .int x :: r => some (decide (x < 0), r)
  | _ => none
theorem k_if_lt {off : Int} {t : Nat} (hd : decode cc pc = .ok (.ifCond .lt off, 3)) (ht : (pc : Int) + off = (t : Int)) : JOk tab cc own nm nL scr pc (a_br t b_if_lt) := k_loc (fun f h y e => by unfold a_br at e; split at e <;> cases e) (by
  intro l st h f' h' e
  unfold a_br b_if_lt at e
  dsimp only at e
  split at e
  · rename_i b st' hs
    cases e
    refine ⟨rfl, fun dd p l0 e R s m args below meth c D g A n n0 a0 c0 s0 cE sE Q hdd C a ls H locs cells slots hl hq h1 h2 k => ?_⟩
    split at hs
    · cases hs
      refine lv_if_lt C.1 C.2.1 hd ht (fun hc => ?_) (fun hc => ?_)
      · have k' := k ls hl
        simp only [decide_eq_true hc, cond_true] at k'
        exact k'
      · have k' := k ls hl
        simp only [decide_eq_false hc, cond_false] at k'
        exact k'
    · cases hs
  · cases e)
def b_icmp_lt : List Value → Option (Bool × List Value) := fun st => match st with
  | .int y :: .int x :: r => some (decide (x < y), r)
  | _ => none
theorem k_icmp_lt {off : Int} {t : Nat} (hd : decode cc pc = .ok (.if_icmp .lt off, 3)) (ht : (pc : Int) + off = (t : Int)) : JOk tab cc own nm nL scr pc (a_br t b_icmp_lt) := k_loc (fun f h y e => by unfold a_br at e; split at e <;> cases e) (by
  intro l st h f' h' e
  unfold a_br b_icmp_lt at e
  dsimp only at e
  split at e
  · rename_i b st' hs
    cases e
    refine ⟨rfl, fun dd p l0 e R s m args below meth c D g A n n0 a0 c0 s0 cE sE Q hdd C a ls H locs cells slots hl hq h1 h2 k => ?_⟩
    split at hs
    · cases hs
      refine lv_icmp_lt C.1 C.2.1 hd ht (fun hc => ?_) (fun hc => ?_)
      · have k' := k ls hl
        simp only [decide_eq_true hc, cond_true] at k'
        exact k'
      · have k' := k ls hl
        simp only [decide_eq_false hc, cond_false] at k'
        exact k'
    · cases hs
  · cases e)
def b_if_ge : List Value → Option (Bool × List Value) := fun st => match st with
  | .int x :: r => some (decide (0 ≤ x), r)
  | _ => none
theorem k_if_ge {off : Int} {t : Nat} (hd : decode cc pc = .ok (.ifCond .ge off, 3)) (ht : (pc : Int) + off = (t : Int)) : JOk tab cc own nm nL scr pc (a_br t b_if_ge) := k_loc (fun f h y e => by unfold a_br at e; split at e <;> cases e) (by
  intro l st h f' h' e
  unfold a_br b_if_ge at e
  dsimp only at e
  split at e
  · rename_i b st' hs
    cases e
    refine ⟨rfl, fun dd p l0 e R s m args below meth c D g A n n0 a0 c0 s0 cE sE Q hdd C a ls H locs cells slots hl hq h1 h2 k => ?_⟩
    split at hs
    · cases hs
      refine lv_if_ge C.1 C.2.1 hd ht (fun hc => ?_) (fun hc => ?_)
      · have k' := k ls hl
        simp only [decide_eq_true hc, cond_true] at k'
        exact k'
      · have k' := k ls hl
        simp only [decide_eq_false hc, cond_false] at k'
        exact k'
    · cases hs
  · cases e)
def b_icmp_ge : List Value → Option (Bool × List Value) := fun st => match st with
  | .int y :: .int x :: r => some (decide (y ≤ x), r)
  | _ => none
theorem k_icmp_ge {off : Int} {t : Nat} (hd : decode cc pc = .ok (.if_icmp .ge off, 3)) (ht : (pc : Int) + off = (t : Int)) : JOk tab cc own nm nL scr pc (a_br t b_icmp_ge) := k_loc (fun f h y e => by unfold a_br at e; split at e <;> cases e) (by
  intro l st h f' h' e
  unfold a_br b_icmp_ge at e
  dsimp only at e
  split at e
  · rename_i b st' hs
    cases e
    refine ⟨rfl, fun dd p l0 e R s m args below meth c D g A n n0 a0 c0 s0 cE sE Q hdd C a ls H locs cells slots hl hq h1 h2 k => ?_⟩
    split at hs
    · cases hs
      refine lv_icmp_ge C.1 C.2.1 hd ht (fun hc => ?_) (fun hc => ?_)
      · have k' := k ls hl
        simp only [decide_eq_true hc, cond_true] at k'
        exact k'
      · have k' := k ls hl
        simp only [decide_eq_false hc, cond_false] at k'
        exact k'
    · cases hs
  · cases e)
def b_if_gt : List Value → Option (Bool × List Value) := fun st => match st with
  | .int x :: r => some (decide (0 < x), r)
  | _ => none
theorem k_if_gt {off : Int} {t : Nat} (hd : decode cc pc = .ok (.ifCond .gt off, 3)) (ht : (pc : Int) + off = (t : Int)) : JOk tab cc own nm nL scr pc (a_br t b_if_gt) := k_loc (fun f h y e => by unfold a_br at e; split at e <;> cases e) (by
  intro l st h f' h' e
  unfold a_br b_if_gt at e
  dsimp only at e
  split at e
  · rename_i b st' hs
    cases e
    refine ⟨rfl, fun dd p l0 e R s m args below meth c D g A n n0 a0 c0 s0 cE sE Q hdd C a ls H locs cells slots hl hq h1 h2 k => ?_⟩
    split at hs
    · cases hs
      refine lv_if_gt C.1 C.2.1 hd ht (fun hc => ?_) (fun hc => ?_)
      · have k' := k ls hl
        simp only [decide_eq_true hc, cond_true] at k'
        exact k'
      · have k' := k ls hl
        simp only [decide_eq_false hc, cond_false] at k'
        exact k'
    · cases hs
  · cases e)
def b_icmp_gt : List Value → Option (Bool × List Value) := fun st => match st with
  | .int y :: .int x :: r => some (decide (y < x), r)
  | _ => none
theorem k_icmp_gt {off : Int} {t : Nat} (hd : decode cc pc = .ok (.if_icmp .gt off, 3)) (ht : (pc : Int) + off = (t : Int)) : JOk tab cc own nm nL scr pc (a_br t b_icmp_gt) := k_loc (fun f h y e => by unfold a_br at e; split at e <;> cases e) (by
  intro l st h f' h' e
  unfold a_br b_icmp_gt at e
  dsimp only at e
  split at e
  · rename_i b st' hs
    cases e
    refine ⟨rfl, fun dd p l0 e R s m args below meth c D g A n n0 a0 c0 s0 cE sE Q hdd C a ls H locs cells slots hl hq h1 h2 k => ?_⟩
    split at hs
    · cases hs
      refine lv_icmp_gt C.1 C.2.1 hd ht (fun hc => ?_) (fun hc => ?_)
      · have k' := k ls hl
        simp only [decide_eq_true hc, cond_true] at k'
        exact k'
      · have k' := k ls hl
        simp only [decide_eq_false hc, cond_false] at k'
        exact k'
    · cases hs
  · cases e)
def b_if_le : List Value → Option (Bool × List Value) := fun st => match st with
  | .int x :: r => some (decide (x ≤ 0), r)
  | _ => none
theorem k_if_le {off : Int} {t : Nat} (hd : decode cc pc = .ok (.ifCond .le off, 3)) (ht : (pc : Int) + off = (t : Int)) : JOk tab cc own nm nL scr pc (a_br t b_if_le) := k_loc (fun f h y e => by unfold a_br at e; split at e <;> cases e) (by
  intro l st h f' h' e
  unfold a_br b_if_le at e
  dsimp only at e
  split at e
  · rename_i b st' hs
    cases e
    refine ⟨rfl, fun dd p l0 e R s m args below meth c D g A n n0 a0 c0 s0 cE sE Q hdd C a ls H locs cells slots hl hq h1 h2 k => ?_⟩
    split at hs
    · cases hs
      refine lv_if_le C.1 C.2.1 hd ht (fun hc => ?_) (fun hc => ?_)
      · have k' := k ls hl
        simp only [decide_eq_true hc, cond_true] at k'
        exact k'
      · have k' := k ls hl
        simp only [decide_eq_false hc, cond_false] at k'
        exact k'
    · cases hs
  · cases e)
def b_icmp_le : List Value → Option (Bool × List Value) := fun st => match st with
  | .int y :: .int x :: r => some (decide (x ≤ y), r)
  | _ => none
theorem k_icmp_le {off : Int} {t : Nat} (hd : decode cc pc = .ok (.if_icmp .le off, 3)) (ht : (pc : Int) + off = (t : Int)) : JOk tab cc own nm nL scr pc (a_br t b_icmp_le) := k_loc (fun f h y e => by unfold a_br at e; split at e <;> cases e) (by
  intro l st h f' h' e
  unfold a_br b_icmp_le at e
  dsimp only at e
  split at e
  · rename_i b st' hs
    cases e
    refine ⟨rfl, fun dd p l0 e R s m args below meth c D g A n n0 a0 c0 s0 cE sE Q hdd C a ls H locs cells slots hl hq h1 h2 k => ?_⟩
    split at hs
    · cases hs
      refine lv_icmp_le C.1 C.2.1 hd ht (fun hc => ?_) (fun hc => ?_)
      · have k' := k ls hl
        simp only [decide_eq_true hc, cond_true] at k'
        exact k'
      · have k' := k ls hl
        simp only [decide_eq_false hc, cond_false] at k'
        exact k'
    · cases hs
  · cases e)
/-! switches over 0, 1, .. -/
def a_sw (ts : List Nat) (d : Nat) : JA := fun f h => match f.2.2 with
  | .int x :: r => some (.inl ((if x < 0 then d else ts.getD x.toNatClampNeg d, f.2.1, r), h))
  | _ => none
theorem j_clamp {x : Int32} (h : ¬ x < 0) : x.toInt = (x.toNatClampNeg : Int) := by
  have hz0 : (0 : Int) ≤ x.toInt := by
    have := Int32.not_lt.mp h
    simpa using Int32.le_iff_toInt_le.mp this
  show x.toInt = ((x.toInt.toNat : Nat) : Int)
  omega
theorem k_tsw {dflt : Int} {offs : Array Int} {hi : Int} {len d : Nat} {ts : List Nat} (hd : decode cc pc = .ok (.tableswitch dflt 0 hi offs, len)) (hdf : (pc : Int) + dflt = (d : Int)) (hhi : hi + 1 = (ts.length : Int)) (hts : offs.toList.map (fun o => (pc : Int) + o) = ts.map (fun t : Nat => (t : Int))) : JOk tab cc own nm nL scr pc (a_sw ts d) := k_loc (fun f h y e => by unfold a_sw at e; split at e <;> cases e) (by
  intro l st h f' h' e
  unfold a_sw at e
  split at e
  · rename_i x r hx
    cases e
    cases hx
    refine ⟨rfl, fun dd p l0 e R s m args below meth c D g A n n0 a0 c0 s0 cE sE Q hdd C a ls H locs cells slots hl hq h1 h2 k => ?_⟩
    have k' := k ls hl
    dsimp only at k'
    by_cases h0 : x < 0
    · rw [if_pos h0] at k'
      refine lv_tableOut C.1 C.2.1 hd (Or.inl ?_) hdf k'
      have := Int32.lt_iff_toInt_lt.mp h0
      simpa using this
    · rw [if_neg h0] at k'
      have hc := j_clamp h0
      by_cases h9 : x.toNatClampNeg < ts.length
      · have e9 : ts.getD x.toNatClampNeg d = ts[x.toNatClampNeg] := by rw [List.getD_eq_getElem?_getD, List.getElem?_eq_getElem h9]; rfl
        rw [e9] at k'
        have hl9 : offs.toList.length = ts.length := by
          have := congrArg List.length hts
          simpa using this
        have ho : x.toNatClampNeg < offs.toList.length := by omega
        refine lv_tableIn (off := offs.toList[x.toNatClampNeg]) C.1 C.2.1 hd (by omega) (by omega) (by
          rw [show (x.toInt - 0).toNat = x.toNatClampNeg by omega, ← Array.getElem?_toList, List.getElem?_eq_getElem ho]) ?_ k'
        have h8 : (offs.toList.map (fun o => (pc : Int) + o))[x.toNatClampNeg]? = (ts.map (fun t : Nat => (t : Int)))[x.toNatClampNeg]? := by rw [hts]
        rw [List.getElem?_map, List.getElem?_map, List.getElem?_eq_getElem ho, List.getElem?_eq_getElem h9] at h8
        exact Option.some.inj h8
      · rw [List.getD_eq_getElem?_getD, List.getElem?_eq_none (by omega)] at k'
        exact lv_tableOut C.1 C.2.1 hd (Or.inr (by omega)) hdf k'
  · cases e)
theorem k_lsw2 {dflt o0 o1 : Int} {len d t0 t1 : Nat} (hd : decode cc pc = .ok (.lookupswitch dflt #[(0, o0), (1, o1)], len)) (hdf : (pc : Int) + dflt = (d : Int)) (h0 : (pc : Int) + o0 = (t0 : Int)) (h1 : (pc : Int) + o1 = (t1 : Int)) : JOk tab cc own nm nL scr pc (a_sw [t0, t1] d) := k_loc (fun f h y e => by unfold a_sw at e; split at e <;> cases e) (by
  intro l st h f' h' e
  unfold a_sw at e
  split at e
  · rename_i x r hx
    cases e
    cases hx
    refine ⟨rfl, fun dd p l0 e R s m args below meth c D g A n n0 a0 c0 s0 cE sE Q hdd C a ls H locs cells slots hl hq g1 g2 k => ?_⟩
    have k' := k ls hl
    dsimp only at k'
    by_cases c0 : x = 0
    · subst c0
      exact lv_lookup (off := o0) (tgt := t0) C.1 C.2.1 hd (by simp) (by simp [Op.lookupswitch.offset]) h0 k'
    · by_cases c1 : x = 1
      · subst c1
        exact lv_lookup (off := o1) (tgt := t1) C.1 C.2.1 hd (by simp) (by simp [Op.lookupswitch.offset]) h1 k'
      · have e9 : (if x < 0 then d else [t0, t1].getD x.toNatClampNeg d) = d := by
          by_cases hn : x < 0
          · rw [if_pos hn]
          · rw [if_neg hn]
            have hc := j_clamp hn
            have n0 : x.toNatClampNeg ≠ 0 := fun q => c0 (Int32.toInt_inj.mp (by rw [hc, q]; rfl))
            have n1 : x.toNatClampNeg ≠ 1 := fun q => c1 (Int32.toInt_inj.mp (by rw [hc, q]; rfl))
            rw [List.getD_eq_getElem?_getD, List.getElem?_eq_none (by simp; omega)]
            rfl
        rw [e9] at k'
        exact lv_lookup (off := dflt) (tgt := d) C.1 C.2.1 hd (by simp) (by rw [lv_osw c0 (by rfl), lv_osw c1 (by rfl)]; rfl) hdf k'
  · cases e)
end JOPS
end
section
/-! actions on the heap -/
theorem va_P1 {D : va_G} {cl : List vw_C} {x : Nat × va_E} {H : Heap} (h : va_at D cl x H) : va_P D cl [x] H := fun k q hk => by
  have hz : k < 1 := (List.getElem?_eq_some_iff.mp hk).1
  rw [show k = 0 by omega] at hk
  cases hk
  exact h
section JHEAP
theorem jR.ok {D : va_G} {g : Nat → ClassId} {a : Nat → Nat} {n : Nat} {M : JM} {H : Heap} (h : jR D g a n M H) {q : Nat} (hne : M q ≠ .inr (99, [])) : 0 < q ∧ q < n := by
  obtain ⟨-, -, -, -, h5⟩ := h
  rcases Nat.lt_or_ge 0 q with h1 | h1
  · rcases Nat.lt_or_ge q n with h2 | h2
    · exact ⟨h1, h2⟩
    · exact absurd (h5 q (Or.inr h2)) hne
  · exact absurd (h5 q (Or.inl (by omega))) hne
theorem jR.okr {D : va_G} {g : Nat → ClassId} {a : Nat → Nat} {n : Nat} {M : JM} {H : Heap} (h : jR D g a n M H) {q ci : Nat} {fs : List Value} (hM : M q = .inr (ci, fs)) (hc : ci < 99) : 0 < q ∧ q < n :=
  h.ok (by rw [hM]; intro e; cases e; omega)
theorem jR.okl {D : va_G} {g : Nat → ClassId} {a : Nat → Nat} {n : Nat} {M : JM} {H : Heap} (h : jR D g a n M H) {q t : Nat} {y : vp_A} (hM : M q = .inl (t, y)) : 0 < q ∧ q < n :=
  h.ok (by rw [hM]; intro e; cases e)
theorem jR.set {D : va_G} {g : Nat → ClassId} {a : Nat → Nat} {n : Nat} {M : JM} {H H1 : Heap} (h : jR D g a n M H) {q : Nat} (h0 : 0 < q) (hq : q < n) {c : JC} (hc : jwf n c) (hat : va_at D vwCl (a q, te g a c) H1) (ho : ∀ x : Nat, x ≠ a q → H1[x]? = H[x]?) : jR D g a n (va_up M q c) H1 := by
  obtain ⟨h1, h2, h3, h4, h5⟩ := h
  refine ⟨fun r hr hr2 => ?_, h2, fun r hr hr2 => ?_, h4, fun r hr => ?_⟩
  · by_cases e : r = q
    · subst e
      rw [va_up_self]
      exact hat
    · rw [va_up_ne _ _ e]
      exact (h1 r hr hr2).kept (ho _ (fun e2 => e (h2 r q hr hr2 h0 hq e2)))
  · by_cases e : r = q
    · subst e
      rw [va_up_self]
      exact hc
    · rw [va_up_ne _ _ e]
      exact h3 r hr hr2
  · rw [va_up_ne _ _ (by omega)]
    exact h5 r hr
/-- the cells of a run lie where it may write -/
theorem jQ.inA {cc : ByteArray} {own : String} {nm : String × List (Nat × Nat × Nat × Nat)} {nL dd : Nat} {scr : Option (Nat × (Nat → Int32))} {p : Program} {l : Launch} {e : Env} {R : Room} {s : State} {m : MethodId} {args : Array Value} {below : List Frame} {meth : Method} {c : Code} {D : va_G} {g : Nat → ClassId} {A : Nat → Prop} {n n0 : Nat} {a0 : Nat → Nat} {c0 s0 cE sE : Nat} {Q : State → Prop}
    (C : jC cc own nm nL dd scr ((p, l, e, R, s), (m, args, below, meth, c), (D, g), (A, n, n0, a0), (c0, s0, cE, sE), Q)) {a : Nat → Nat} {h : JH} {H : Heap} {locs : List Loc} {cells slots : Nat}
    (hq : jQ ((p, l, e, R, s), (m, args, below, meth, c), (D, g), (A, n, n0, a0), (c0, s0, cE, sE), Q) a h H locs cells slots) {q : Nat} (h0 : 0 < q) (h1 : q < h.1) : A (a q) := by
  obtain ⟨-, -, -, -, -, -, -, -, ⟨hA, hB⟩, -⟩ := C
  obtain ⟨-, -, k1, -, k2, -⟩ := hq
  rcases Nat.lt_or_ge q n0 with hl | hl
  · rw [k1 q hl]
    exact hA q h0 hl
  · exact hB _ (k2 q hl h1)
/-- a write into one cell -/
theorem jQ.put {cc : ByteArray} {own : String} {nm : String × List (Nat × Nat × Nat × Nat)} {nL dd : Nat} {scr : Option (Nat × (Nat → Int32))} {p : Program} {l : Launch} {e : Env} {R : Room} {s : State} {m : MethodId} {args : Array Value} {below : List Frame} {meth : Method} {c : Code} {D : va_G} {g : Nat → ClassId} {A : Nat → Prop} {n n0 : Nat} {a0 : Nat → Nat} {c0 s0 cE sE : Nat} {Q : State → Prop}
    (C : jC cc own nm nL dd scr ((p, l, e, R, s), (m, args, below, meth, c), (D, g), (A, n, n0, a0), (c0, s0, cE, sE), Q)) {a : Nat → Nat} {h : JH} {H H1 : Heap} {locs locs1 : List Loc} {cells slots : Nat}
    (hq : jQ ((p, l, e, R, s), (m, args, below, meth, c), (D, g), (A, n, n0, a0), (c0, s0, cE, sE), Q) a h H locs cells slots) {q : Nat} (h0 : 0 < q) (h1 : q < h.1) {y : JC} (hy : jwf h.1 y) (hat : va_at D vwCl (a q, te g a y) H1) (hz : H1.size = H.size) (ho : ∀ x : Nat, x ≠ a q → H1[x]? = H[x]?)
    (hl : ∀ z ∈ locs1, z ∈ locs ∨ z.base = a q) :
    jQ ((p, l, e, R, s), (m, args, below, meth, c), (D, g), (A, n, n0, a0), (c0, s0, cE, sE), Q) a (h.1, h.2.1, h.2.2.1, va_up h.2.2.2 q y) H1 locs1 cells slots := by
  have hA := hq.inA C h0 h1
  obtain ⟨k0, ⟨k1, k2, k3⟩, k4⟩ := hq
  refine ⟨k0.set h0 h1 hy hat ho, ⟨by rw [hz]; exact k1, fun x hx hxA => ?_, fun z hz => ?_⟩, k4⟩
  · rw [ho x (fun e => hxA (by rw [e]; exact hA))]
    exact k2 x hx hxA
  · rcases hl z hz with h9 | h9
    · exact k3 z h9
    · rw [h9]; exact hA
variable {p : Program} {l : Launch} {e : Env} {R : Room} {s : State} {m : MethodId} {args : Array Value} {below : List Frame} {meth : Method} {c : Code} {H : Heap} {locs : List Loc} {cells slots : Nat} {Q : State → Prop}
variable {cc : ByteArray} {pc : Nat} {ls : Array Slot} {rest : List Value} {D : va_G} {a : Nat} {tys : List (ClassId × FieldType)}
/-- putfield, by the cell alone -/
theorem jw_put (hexec : p.tables.exec = Jvm.exec) (hb : c.code = cc) {own C : String} {T : u_T} {N ci index : Nat} (hts : ∀ w ∈ GW, w.before args s = true) (hin : ∀ w ∈ u_ws C T N, w ∈ GW) (ty0 : Nat → FieldType) (hty : ∀ k, k < N → parseFieldDescriptor (T k).2.2.1 = some (ty0 k)) (hnm : ∀ a, a < N → ∀ b, b < N → a ≠ b → (T a).2.1 ≠ (T b).2.1) (hown : s.vm.findClass own = some m.cls) (hK : va_K D vwCl tys s) {fs : List Value} (he : va_at D vwCl (a, .inr (ci, fs)) H) (hc : vwCl[ci]? = some (C, T, N)) (k : Nat) (hk : k < N) (hlink : (Cond.fieldLink own index (T k).1 (T k).2.1 (T k).2.2.1).before args s = true) (hfin : (T k).2.2.2 = false) {ty : FieldType} {v : Value} (hd : parseFieldDescriptor (T k).2.2.1 = some ty) (hn : narrow ty v = v) (hfit : fits ty v = true) (hl : k < fs.length)
    (hdg : decode cc pc = .ok (.putfield index, 3)) (kk : ∀ (H1 : Heap) (i : Nat), va_at D vwCl (a, .inr (ci, fs.set k v)) H1 → H1.size = H.size → (∀ q : Nat, q ≠ a → H1[q]? = H[q]?) → W p l e R s m args below meth c H1 (locs ++ [⟨a, i⟩]) cells slots Q (F0 m (pc + 3) ls rest)) : W p l e R s m args below meth c H locs cells slots Q (F0 m pc ls (v :: .ref a :: rest)) := by
  have hap := va_apart (own := own) hts hin ty0 hty hnm hK hc
  obtain ⟨r, h1, cell, q1, q2, q3, q4⟩ := he
  have hr : r = (C, T, N) := Option.some.inj (h1.symm.trans hc)
  subst hr
  obtain ⟨hS, hfc, kC, hkC, hkind⟩ := hK.1 ci _ hc
  obtain ⟨cf, kf, fi, f, hi, hsl⟩ := hS k hk
  have hlay := hts _ (hin _ (u_in_lay hk))
  unfold u_lay at hlay
  rw [if_neg (by rw [hfin]; decide)] at hlay
  have hst := (u_facts hfc hkC (u_lays hts hin hk) hi).1
  have h6 := u_store hfc hkC hkind hlay hi hd hn hfit
  refine W.putK hexec hb (f := f) ⟨hown, hlink, ⟨_, _, _, hi⟩, hst⟩ (by rw [q2]; exact h6) q1 q3 (by rw [hsl]; exact k2_hasslot (q4 k hk)) rfl rfl hdg fun H' e1 e2 e3 => ?_
  rw [hsl] at e1 ⊢
  exact kk H' _ ⟨_, hc, t_OB.to (V := updV (vp_V fs) k v) ⟨_, e1, q2, q3, t_set q4 hap hk v⟩ (fun j _ => vp_updV_set hl v j)⟩ e2 e3
/-- .. of a final field, in its constructor -/
theorem jw_putF (hexec : p.tables.exec = Jvm.exec) (hb : c.code = cc) {own C : String} {T : u_T} {N ci index : Nat} (hts : ∀ w ∈ GW, w.before args s = true) (hin : ∀ w ∈ u_ws C T N, w ∈ GW) (ty0 : Nat → FieldType) (hty : ∀ k, k < N → parseFieldDescriptor (T k).2.2.1 = some (ty0 k)) (hnm : ∀ a, a < N → ∀ b, b < N → a ≠ b → (T a).2.1 ≠ (T b).2.1) (hown : s.vm.findClass own = some m.cls) (hK : va_K D vwCl tys s) {fs : List Value} (he : va_at D vwCl (a, .inr (ci, fs)) H) (hc : vwCl[ci]? = some (C, T, N)) (k : Nat) (hk : k < N) (hlink : (Cond.fieldLink own index (T k).1 (T k).2.1 (T k).2.2.1).before args s = true) (hfin : (T k).2.2.2 = true) (hin2 : meth.name = "<init>") (hdecl : (T k).1 = own) {ty : FieldType} {v : Value} (hd : parseFieldDescriptor (T k).2.2.1 = some ty) (hn : narrow ty v = v) (hfit : fits ty v = true) (hl : k < fs.length)
    (hdg : decode cc pc = .ok (.putfield index, 3)) (kk : ∀ (H1 : Heap) (i : Nat), va_at D vwCl (a, .inr (ci, fs.set k v)) H1 → H1.size = H.size → (∀ q : Nat, q ≠ a → H1[q]? = H[q]?) → W p l e R s m args below meth c H1 (locs ++ [⟨a, i⟩]) cells slots Q (F0 m (pc + 3) ls rest)) : W p l e R s m args below meth c H locs cells slots Q (F0 m pc ls (v :: .ref a :: rest)) := by
  have hap := va_apart (own := own) hts hin ty0 hty hnm hK hc
  obtain ⟨r, h1, cell, q1, q2, q3, q4⟩ := he
  have hr : r = (C, T, N) := Option.some.inj (h1.symm.trans hc)
  subst hr
  obtain ⟨hS, hfc, kC, hkC, hkind⟩ := hK.1 ci _ hc
  obtain ⟨cf, kf, fi, f, hi, hsl⟩ := hS k hk
  have hlay := hts _ (hin _ (u_in_lay hk))
  unfold u_lay at hlay
  rw [if_pos hfin] at hlay
  have hst := (u_facts hfc hkC (u_lays hts hin hk) hi).1
  have hcf : m.cls = cf := by
    obtain ⟨_, _, c', _, _, _, -, -, hf', -, -, -, hown2, -⟩ := Cond.laysFinal_spec hlay
    have e1 : c' = cf := by have := hi.symm.trans hf'; simp at this; exact this.1.symm
    rw [hdecl] at hown2
    rw [← e1]; exact Option.some.inj (hown.symm.trans hown2)
  have h6 := u_fits hfc hkC hkind (Or.inr hlay) hi hd hn hfit
  refine W.putFinK hexec hb hown hlink hi hst hcf hin2 (by rw [q2]; exact h6) q1 q3 (by rw [hsl]; exact k2_hasslot (q4 k hk)) rfl rfl hdg fun H' e1 e2 e3 => ?_
  rw [hsl] at e1 ⊢
  exact kk H' _ ⟨_, hc, t_OB.to (V := updV (vp_V fs) k v) ⟨_, e1, q2, q3, t_set q4 hap hk v⟩ (fun j _ => vp_updV_set hl v j)⟩ e2 e3
end JHEAP
end
section
section JHO
variable {tab : Nat → JM5} {cc : ByteArray} {own : String} {nm : String × List (Nat × Nat × Nat × Nat)} {nL : Nat} {scr : Option (Nat × (Nat → Int32))} {pc : Nat}
/-- an index in its row -/
def jin (i : Int32) (n : Nat) : Bool := !(decide (i < 0) || decide (n ≤ i.toNatClampNeg))
theorem jin_of {i : Int32} {n : Nat} (h : jin i n = true) : vp_in i n := by
  unfold jin at h
  intro q
  rcases q with q | q
  · rw [decide_eq_true q] at h
    simp at h
  · rw [decide_eq_true q] at h
    simp at h
theorem jin_mk {i : Int32} {n : Nat} (h : vp_in i n) : jin i n = true := by
  unfold jin
  rw [decide_eq_false (fun q => h (Or.inl q)), decide_eq_false (fun q => h (Or.inr q))]
  rfl
theorem jin_nI {k n : Nat} (h : k < n) (hn : n < 2 ^ 31) : jin (nI k) n = true := jin_mk (vp_in_nI h hn)
def a_getf (ci k : Nat) : JA := fun f h => match f.2.2 with
  | .ref q :: r => match h.2.2.2 q with
    | .inr (c, fs) => if c = ci then (match fs[k]? with
      | some v => some (.inl ((f.1 + 3, f.2.1, v :: r), h))
      | none => none) else none
    | _ => none
  | _ => none
theorem a_getf_no {ci k : Nat} : ∀ (f : JF) (h : JH) y, a_getf ci k f h ≠ some (.inr y) := by
  intro f h y e
  unfold a_getf at e
  split at e
  · split at e
    · split at e
      · split at e <;> cases e
      · cases e
    · cases e
  · cases e
theorem k_getf {ci k idx N : Nat} {C : String} {T : u_T} (hd : decode cc pc = .ok (.getfield idx, 3)) (hc : vwCl[ci]? = some (C, T, N)) (hin : ∀ w ∈ u_ws C T N, w ∈ GW) (hk : k < N) (hw : Cond.fieldLink own idx (T k).1 (T k).2.1 (T k).2.2.1 ∈ GW) (h99 : ci < 99) : JOk tab cc own nm nL scr pc (a_getf ci k) := k_loc a_getf_no (by
  intro l st h f' h' e
  unfold a_getf at e
  split at e
  · rename_i q r hst
    split at e
    · rename_i cx fs hM
      split at e
      · rename_i hcc
        subst hcc
        split at e
        · rename_i v hv
          cases e
          cases hst
          refine ⟨rfl, fun dd p l0 e R s m args below meth c D g A n n0 a0 c0 s0 cE sE Q hdd C0 a ls H locs cells slots hl hq h1 h2 k2 => ?_⟩
          obtain ⟨g1, g2⟩ := hq.1.okr hM h99
          have hat := hq.1.1 q g1 g2
          rw [hM] at hat
          exact va_get (ref := (T k).1) (ci := cx) (v := tv a v) C0.1 C0.2.1 C0.2.2.2.2.1 hin C0.2.2.1 C0.2.2.2.2.2.1.1 (va_P1 hat) 0 rfl hc k hk (C0.2.2.2.2.1 _ hw) (fun _ h9 => h9) (by
            show (fs.map (tv a))[k]? = _
            rw [List.getElem?_map, hv]
            rfl) hd (k2 ls hl)
        · cases e
      · cases e
    · cases e
  · cases e)
/-! reading a row -/
def a_iald (t : Nat) : JA := fun f h => match f.2.2 with
  | .int i :: .ref q :: r => match h.2.2.2 q with
    | .inl (t', n, .inl xs) => if t' = t ∧ jin i n = true then some (.inl ((f.1 + 1, f.2.1, .int (xs i.toNatClampNeg) :: r), h)) else none
    | _ => none
  | _ => none
def a_lald : JA := fun f h => match f.2.2 with
  | .int i :: .ref q :: r => match h.2.2.2 q with
    | .inl (t', n, .inr (.inl xs)) => if t' = 2 ∧ jin i n = true then some (.inl ((f.1 + 1, f.2.1, .long (xs i.toNatClampNeg) :: r), h)) else none
    | _ => none
  | _ => none
def a_aald (t : Nat) : JA := fun f h => match f.2.2 with
  | .int i :: .ref q :: r => match h.2.2.2 q with
    | .inl (t', n, .inr (.inr (.inr (.inr xs)))) => if t' = t ∧ jin i n = true then some (.inl ((f.1 + 1, f.2.1, va_rf (xs i.toNatClampNeg) :: r), h)) else none
    | _ => none
  | _ => none
theorem k_iald (hd : decode cc pc = .ok (.iaload, 1)) : JOk tab cc own nm nL scr pc (a_iald 0) := k_loc (fun f h y e => by
  unfold a_iald at e
  split at e
  · split at e
    · split at e <;> cases e
    · cases e
  · cases e) (by
  intro l st h f' h' e
  unfold a_iald at e
  split at e
  · rename_i i q r hst
    split at e
    · rename_i t' n xs hM
      split at e
      · rename_i hcc
        obtain ⟨rfl, hin⟩ := hcc
        cases e
        cases hst
        refine ⟨rfl, fun dd p l0 e R s m args below meth c D g A n1 n0 a0 c0 s0 cE sE Q hdd C0 a ls H locs cells slots hl hq h1 h2 k2 => ?_⟩
        obtain ⟨g1, g2⟩ := hq.1.okl hM
        have hat := hq.1.1 q g1 g2
        rw [hM] at hat
        exact va_iald C0.1 C0.2.1 C0.2.2.2.2.2.1.1 (va_P1 hat) 0 0 rfl rfl (jin_of hin) hd (k2 ls hl)
      · cases e
    · cases e
  · cases e)
theorem k_zald (hd : decode cc pc = .ok (.baload, 1)) : JOk tab cc own nm nL scr pc (a_iald 1) := k_loc (fun f h y e => by
  unfold a_iald at e
  split at e
  · split at e
    · split at e <;> cases e
    · cases e
  · cases e) (by
  intro l st h f' h' e
  unfold a_iald at e
  split at e
  · rename_i i q r hst
    split at e
    · rename_i t' n xs hM
      split at e
      · rename_i hcc
        obtain ⟨rfl, hin⟩ := hcc
        cases e
        cases hst
        refine ⟨rfl, fun dd p l0 e R s m args below meth c D g A n1 n0 a0 c0 s0 cE sE Q hdd C0 a ls H locs cells slots hl hq h1 h2 k2 => ?_⟩
        obtain ⟨g1, g2⟩ := hq.1.okl hM
        have hat := hq.1.1 q g1 g2
        rw [hM] at hat
        exact va_zald C0.1 C0.2.1 C0.2.2.2.2.2.1.1 (va_P1 hat) 0 1 rfl rfl (jin_of hin) hd (k2 ls hl)
      · cases e
    · cases e
  · cases e)
theorem k_lald (hd : decode cc pc = .ok (.laload, 1)) : JOk tab cc own nm nL scr pc a_lald := k_loc (fun f h y e => by
  unfold a_lald at e
  split at e
  · split at e
    · split at e <;> cases e
    · cases e
  · cases e) (by
  intro l st h f' h' e
  unfold a_lald at e
  split at e
  · rename_i i q r hst
    split at e
    · rename_i t' n xs hM
      split at e
      · rename_i hcc
        obtain ⟨rfl, hin⟩ := hcc
        cases e
        cases hst
        refine ⟨rfl, fun dd p l0 e R s m args below meth c D g A n1 n0 a0 c0 s0 cE sE Q hdd C0 a ls H locs cells slots hl hq h1 h2 k2 => ?_⟩
        obtain ⟨g1, g2⟩ := hq.1.okl hM
        have hat := hq.1.1 q g1 g2
        rw [hM] at hat
        exact va_lald C0.1 C0.2.1 C0.2.2.2.2.2.1.1 (va_P1 hat) 0 2 rfl rfl (jin_of hin) hd (k2 ls hl)
      · cases e
    · cases e
  · cases e)
theorem tv_rf (a : Nat → Nat) (x : Option Nat) : tv a (va_rf x) = va_rf (x.map a) := by cases x <;> rfl
theorem k_aald {t : Nat} {C : String} (hd : decode cc pc = .ok (.aaload, 1)) (ht : t < 7) (hT : jT t = .object C) : JOk tab cc own nm nL scr pc (a_aald t) := k_loc (fun f h y e => by
  unfold a_aald at e
  split at e
  · split at e
    · split at e <;> cases e
    · cases e
  · cases e) (by
  intro l st h f' h' e
  unfold a_aald at e
  split at e
  · rename_i i q r hst
    split at e
    · rename_i t' n xs hM
      split at e
      · rename_i hcc
        obtain ⟨rfl, hin⟩ := hcc
        cases e
        cases hst
        refine ⟨rfl, fun dd p l0 e R s m args below meth c D g A n1 n0 a0 c0 s0 cE sE Q hdd C0 a ls H locs cells slots hl hq h1 h2 k2 => ?_⟩
        obtain ⟨g1, g2⟩ := hq.1.okl hM
        have hat := hq.1.1 q g1 g2
        rw [hM] at hat
        refine va_aldq (C := C) C0.1 C0.2.1 C0.2.2.2.2.2.1.1 (va_P1 hat) 0 t' rfl (by rw [jtys_at g ht, hT]) (jin_of hin) hd ?_
        have k3 := k2 ls hl
        rw [List.map_cons, tv_rf] at k3
        exact k3
      · cases e
    · cases e
  · cases e)
/-! the script -/
def a_sld (L : Nat) (xs : Nat → Int32) : JA := fun f h => match f.2.2 with
  | .int i :: .ref q :: r => if q = 0 ∧ jin i L = true then some (.inl ((f.1 + 1, f.2.1, .int (xs i.toNatClampNeg) :: r), h)) else none
  | _ => none
def a_slen (L : Nat) : JA := fun f h => match f.2.2 with
  | .ref q :: r => if q = 0 then some (.inl ((f.1 + 1, f.2.1, .int (Int32.ofNat L) :: r), h)) else none
  | _ => none
theorem k_sld {L : Nat} {xs : Nat → Int32} (hd : decode cc pc = .ok (.iaload, 1)) : JOk tab cc own nm nL (some (L, xs)) pc (a_sld L xs) := k_loc (fun f h y e => by
  unfold a_sld at e
  split at e
  · split at e <;> cases e
  · cases e) (by
  intro l st h f' h' e
  unfold a_sld at e
  split at e
  · rename_i i q r hst
    split at e
    · rename_i hcc
      obtain ⟨rfl, hin⟩ := hcc
      cases e
      cases hst
      refine ⟨rfl, fun dd p l0 e R s m args below meth c D g A n1 n0 a0 c0 s0 cE sE Q hdd C0 a ls H locs cells slots hl hq h1 h2 k2 => ?_⟩
      obtain ⟨x1, x2, x3, x4⟩ := C0.2.2.2.2.2.2.2.2.2.1 L xs rfl
      have e0 : a 0 = a0 0 := hq.2.2.1 0 x4
      rw [← e0] at x1 x2 x3
      exact va_sld C0.1 C0.2.1 x1 x2 x3 hq.2.1 (jin_of hin) hd (k2 ls hl)
    · cases e
  · cases e)
theorem k_slen {L : Nat} {xs : Nat → Int32} (hd : decode cc pc = .ok (.arraylength, 1)) : JOk tab cc own nm nL (some (L, xs)) pc (a_slen L) := k_loc (fun f h y e => by
  unfold a_slen at e
  split at e
  · split at e <;> cases e
  · cases e) (by
  intro l st h f' h' e
  unfold a_slen at e
  split at e
  · rename_i q r hst
    split at e
    · rename_i hcc
      cases e
      cases hst
      subst hcc
      refine ⟨rfl, fun dd p l0 e R s m args below meth c D g A n1 n0 a0 c0 s0 cE sE Q hdd C0 a ls H locs cells slots hl hq h1 h2 k2 => ?_⟩
      obtain ⟨x1, x2, x3, x4⟩ := C0.2.2.2.2.2.2.2.2.2.1 L xs rfl
      have e0 : a 0 = a0 0 := hq.2.2.1 0 x4
      rw [← e0] at x1 x2 x3
      exact va_slen C0.1 C0.2.1 x1 x2 x3 hq.2.1 hd (k2 ls hl)
    · cases e
  · cases e)
/-! writes -/
def jWr (tab : Nat → JM5) (cc : ByteArray) (own : String) (nm : String × List (Nat × Nat × Nat × Nat)) (nL : Nat) (scr : Option (Nat × (Nat → Int32))) (pc : Nat) (act : JA) : Prop := ∀ l st h f' h', act (pc, l, st) h = some (.inl (f', h')) →
  ∃ (q : Nat) (y : JC), h' = (h.1, h.2.1, h.2.2.1, va_up h.2.2.2 q y) ∧ f'.2.1 = l ∧
  ∀ dd (p : Program) (l0 : Launch) (e : Env) (R : Room) (s : State) (m : MethodId) (args : Array Value) (below : List Frame) (meth : Method) (c : Code) (D : va_G) (g : Nat → ClassId) (A : Nat → Prop) (n n0 : Nat) (a0 : Nat → Nat) (c0 s0 cE sE : Nat) (Q : State → Prop), 1 ≤ dd →
    jC cc own nm nL dd scr ((p, l0, e, R, s), (m, args, below, meth, c), (D, g), (A, n, n0, a0), (c0, s0, cE, sE), Q) →
    ∀ (a : Nat → Nat) (ls : Array Slot) (H : Heap) (locs : List Loc) (cells slots : Nat), jR D g a h.1 h.2.2.2 H → ls.size = n → (0 < q ∧ q < h.1 ∧ jwf h.1 y) ∧
    ((∀ (H1 : Heap) (locs1 : List Loc), va_at D vwCl (a q, te g a y) H1 → H1.size = H.size → (∀ x : Nat, x ≠ a q → H1[x]? = H[x]?) → (∀ z ∈ locs1, z ∈ locs ∨ z.base = a q) → W p l0 e R s m args below meth c H1 locs1 cells slots Q (F0 m f'.1 ls (f'.2.2.map (tv a)))) → W p l0 e R s m args below meth c H locs cells slots Q (F0 m pc ls (st.map (tv a))))
theorem k_wr {act : JA} (h0 : ∀ f h y, act f h ≠ some (.inr y)) (hk : jWr tab cc own nm nL scr pc act) : JOk tab cc own nm nL scr pc act := by
  refine ⟨fun l st h f' h' e => ?_, fun dd X hdd C l st h => ?_⟩
  · obtain ⟨q, y, rfl, -⟩ := hk l st h f' h' e
    exact jLe.rf
  · obtain ⟨⟨p, ln, e, R, s⟩, ⟨m, args, below, meth, c⟩, ⟨D, g⟩, ⟨A, n, n0, a0⟩, ⟨c0, s0, cE, sE⟩, Q⟩ := X
    cases hs : act (pc, l, st) h with
    | none => trivial
    | some z =>
      obtain ⟨f', h'⟩ | z := z
      · obtain ⟨q, y, rfl, hl', w⟩ := hk l st h f' h' hs
        intro _ _ k a ls H locs cells slots h1 h2 h3 h4
        obtain ⟨⟨g1, g2, g3⟩, w2⟩ := w dd p ln e R s m args below meth c D g A n n0 a0 c0 s0 cE sE Q hdd C a ls H locs cells slots h2.1 h1.1
        refine w2 (fun H1 locs1 e1 e2 e3 e4 => k a ls H1 locs1 cells slots (by rw [hl']; exact h1) (h2.put C g1 g2 g3 e1 e2 e3 e4) h3 h4)
      · exact absurd hs (h0 _ _ z)
theorem jloc1 {a k : Nat} {locs : List Loc} : ∀ z ∈ locs ++ [⟨a, k⟩], z ∈ locs ∨ z.base = a := fun z hz => (List.mem_append.mp hz).elim Or.inl (fun h => Or.inr (by rw [List.mem_singleton.mp h]))
def a_puti (ci k : Nat) : JA := fun f h => match f.2.2 with
  | .int x :: .ref q :: r => match h.2.2.2 q with
    | .inr (c, fs) => if c = ci ∧ k < fs.length then some (.inl ((f.1 + 3, f.2.1, r), (h.1, h.2.1, h.2.2.1, va_up h.2.2.2 q (.inr (ci, fs.set k (.int x)))))) else none
    | _ => none
  | _ => none
def a_putr (ci k : Nat) : JA := fun f h => match f.2.2 with
  | .ref x :: .ref q :: r => match h.2.2.2 q with
    | .inr (c, fs) => if c = ci ∧ k < fs.length ∧ x < h.1 then some (.inl ((f.1 + 3, f.2.1, r), (h.1, h.2.1, h.2.2.1, va_up h.2.2.2 q (.inr (ci, fs.set k (.ref x)))))) else none
    | _ => none
  | _ => none
theorem jwf_set {n c k : Nat} {fs : List Value} {v : Value} (h : jwf n (.inr (c, fs))) (hv : vwf n v) : jwf n (.inr (c, fs.set k v)) := by
  intro w hw
  rcases List.mem_or_eq_of_mem_set hw with h1 | h1
  · exact h w h1
  · rw [h1]; exact hv
theorem k_puti {ci k idx N : Nat} {C : String} {T : u_T} {ty0 : Nat → FieldType} (hd : decode cc pc = .ok (.putfield idx, 3)) (hc : vwCl[ci]? = some (C, T, N)) (hin : ∀ w ∈ u_ws C T N, w ∈ GW) (hty : ∀ k, k < N → parseFieldDescriptor (T k).2.2.1 = some (ty0 k)) (hnm : ∀ a, a < N → ∀ b, b < N → a ≠ b → (T a).2.1 ≠ (T b).2.1) (hk : k < N) (hfin : (T k).2.2.2 = false) (hi : ty0 k = .int) (hw : Cond.fieldLink own idx (T k).1 (T k).2.1 (T k).2.2.1 ∈ GW) (h99 : ci < 99) : JOk tab cc own nm nL scr pc (a_puti ci k) := k_wr (fun f h y e => by
  unfold a_puti at e
  split at e
  · split at e
    · split at e <;> cases e
    · cases e
  · cases e) (by
  intro l st h f' h' e
  unfold a_puti at e
  split at e
  · rename_i x q r hst
    split at e
    · rename_i cx fs hM
      split at e
      · rename_i hcc
        obtain ⟨rfl, hlen⟩ := hcc
        cases e
        cases hst
        refine ⟨q, _, rfl, rfl, fun dd p l0 e R s m args below meth c D g A n n0 a0 c0 s0 cE sE Q hdd C0 a ls H locs cells slots hR hsz => ?_⟩
        obtain ⟨g1, g2⟩ := hR.okr hM h99
        have hat := hR.1 q g1 g2
        have hwf := hR.2.2.1 q g1 g2
        rw [hM] at hat hwf
        refine ⟨⟨g1, g2, jwf_set hwf trivial⟩, fun kk => ?_⟩
        refine jw_put C0.1 C0.2.1 C0.2.2.2.2.1 hin ty0 hty hnm C0.2.2.1 C0.2.2.2.2.2.1.1 hat hc k hk (C0.2.2.2.2.1 _ hw) hfin (by rw [hty k hk, hi]) rfl rfl (by rw [List.length_map]; exact hlen) hd (fun H1 i e1 e2 e3 => kk H1 _ ?_ e2 e3 jloc1)
        show va_at D vwCl (a q, .inr (cx, (fs.set k (.int x)).map (tv a))) H1
        rw [List.map_set]
        exact e1
      · cases e
    · cases e
  · cases e)
theorem k_putrF {ci k idx N : Nat} {C Cv : String} {T : u_T} {ty0 : Nat → FieldType} {ty : FieldType} (hd : decode cc pc = .ok (.putfield idx, 3)) (hc : vwCl[ci]? = some (C, T, N)) (hin : ∀ w ∈ u_ws C T N, w ∈ GW) (hty : ∀ k, k < N → parseFieldDescriptor (T k).2.2.1 = some (ty0 k)) (hnm : ∀ a, a < N → ∀ b, b < N → a ≠ b → (T a).2.1 ≠ (T b).2.1) (hk : k < N) (hfin : (T k).2.2.2 = true) (hini : nm.1 = "<init>") (hdc : (T k).1 = own) (hi : ty0 k = ty) (hfit : ∀ x, narrow ty (.ref x) = .ref x ∧ fits ty (.ref x) = true) (hw : Cond.fieldLink own idx (T k).1 (T k).2.1 (T k).2.2.1 ∈ GW) (h99 : ci < 99) : JOk tab cc own nm nL scr pc (a_putr ci k) := k_wr (fun f h y e => by
  unfold a_putr at e
  split at e
  · split at e
    · split at e <;> cases e
    · cases e
  · cases e) (by
  intro l st h f' h' e
  unfold a_putr at e
  split at e
  · rename_i x q r hst
    split at e
    · rename_i cx fs hM
      split at e
      · rename_i hcc
        obtain ⟨rfl, hlen, hx⟩ := hcc
        cases e
        cases hst
        refine ⟨q, _, rfl, rfl, fun dd p l0 e R s m args below meth c D g A n n0 a0 c0 s0 cE sE Q hdd C0 a ls H locs cells slots hR hsz => ?_⟩
        obtain ⟨g1, g2⟩ := hR.okr hM h99
        have hat := hR.1 q g1 g2
        have hwf := hR.2.2.1 q g1 g2
        rw [hM] at hat hwf
        refine ⟨⟨g1, g2, jwf_set hwf hx⟩, fun kk => ?_⟩
        refine jw_putF C0.1 C0.2.1 C0.2.2.2.2.1 hin ty0 hty hnm C0.2.2.1 C0.2.2.2.2.2.1.1 hat hc k hk (C0.2.2.2.2.1 _ hw) hfin (by rw [C0.2.2.2.2.2.2.2.2.2.2.2.2.1, hini]) hdc (by rw [hty k hk, hi]) (hfit _).1 (hfit _).2 (by rw [List.length_map]; exact hlen) hd (fun H1 i e1 e2 e3 => kk H1 _ ?_ e2 e3 jloc1)
        show va_at D vwCl (a q, .inr (cx, (fs.set k (.ref x)).map (tv a))) H1
        rw [List.map_set]
        exact e1
      · cases e
    · cases e
  · cases e)
end JHO
end
section
section JHO2
variable {tab : Nat → JM5} {cc : ByteArray} {own : String} {nm : String × List (Nat × Nat × Nat × Nat)} {nL : Nat} {scr : Option (Nat × (Nat → Int32))} {pc : Nat}
def a_iast : JA := fun f h => match f.2.2 with
  | .int x :: .int i :: .ref q :: r => match h.2.2.2 q with
    | .inl (t', n, .inl xs) => if t' = 0 ∧ jin i n = true then some (.inl ((f.1 + 1, f.2.1, r), (h.1, h.2.1, h.2.2.1, va_up h.2.2.2 q (.inl (0, n, .inl (upd xs i.toNatClampNeg x)))))) else none
    | _ => none
  | _ => none
def a_zast : JA := fun f h => match f.2.2 with
  | .int x :: .int i :: .ref q :: r => match h.2.2.2 q with
    | .inl (t', n, .inl xs) => if t' = 1 ∧ jin i n = true then some (.inl ((f.1 + 1, f.2.1, r), (h.1, h.2.1, h.2.2.1, va_up h.2.2.2 q (.inl (1, n, .inl (upd xs i.toNatClampNeg (vp_nar .boolean x))))))) else none
    | _ => none
  | _ => none
def a_last : JA := fun f h => match f.2.2 with
  | .long x :: .int i :: .ref q :: r => match h.2.2.2 q with
    | .inl (t', n, .inr (.inl xs)) => if t' = 2 ∧ jin i n = true then some (.inl ((f.1 + 1, f.2.1, r), (h.1, h.2.1, h.2.2.1, va_up h.2.2.2 q (.inl (2, n, .inr (.inl (vp_updL xs i.toNatClampNeg x))))))) else none
    | _ => none
  | _ => none
def a_aast (t ci : Nat) : JA := fun f h => match f.2.2 with
  | .ref x :: .int i :: .ref q :: r => match h.2.2.2 q with
    | .inl (t', n, .inr (.inr (.inr (.inr xs)))) => if t' = t ∧ jin i n = true then (match h.2.2.2 x with
      | .inr (c, _) => if c = ci then some (.inl ((f.1 + 1, f.2.1, r), (h.1, h.2.1, h.2.2.1, va_up h.2.2.2 q (.inl (t, n, .inr (.inr (.inr (.inr (va_up xs i.toNatClampNeg (some x)))))))))) else none
      | _ => none) else none
    | _ => none
  | _ => none
theorem k_iast (hd : decode cc pc = .ok (.iastore, 1)) : JOk tab cc own nm nL scr pc a_iast := k_wr (fun f h y e => by
  unfold a_iast at e
  split at e
  · split at e
    · split at e <;> cases e
    · cases e
  · cases e) (by
  intro l st h f' h' e
  unfold a_iast at e
  split at e
  · rename_i x i q r hst
    split at e
    · rename_i t' n xs hM
      split at e
      · rename_i hcc
        obtain ⟨rfl, hin⟩ := hcc
        cases e
        cases hst
        refine ⟨q, _, rfl, rfl, fun dd p l0 e R s m args below meth c D g A n1 n0 a0 c0 s0 cE sE Q hdd C0 a ls H locs cells slots hR hsz => ?_⟩
        obtain ⟨g1, g2⟩ := hR.okl hM
        have hat := hR.1 q g1 g2
        rw [hM] at hat
        refine ⟨⟨g1, g2, trivial⟩, fun kk => ?_⟩
        have hin2 := jin_of hin
        refine W.iast C0.1 C0.2.1 hat ((C0.2.2.2.2.2.1.1.2 0 _ rfl).1 n (fun j => .int (xs j))) (fun q => by cases q) (by show ¬ (i < 0 ∨ (arrV _ _ _).slots.size ≤ _); rw [arrV_size]; exact hin2) rfl rfl hd fun H1 e z oq => ?_
        refine kk H1 _ ?_ z oq jloc1
        show H1[a q]? = some (vp_cell _ _)
        rw [e]
        show some ((vp_cell (g 0) (n, .inl xs)).setSlot i.toNatClampNeg (.int x)) = some (vp_cell (g 0) (n, .inl (upd xs i.toNatClampNeg x)))
        rw [vp_cell_i, vp_cell_i, arrV_store]
        congr 2
        funext q2
        by_cases hq : q2 = i.toNatClampNeg
        · subst hq
          simp [updV, upd]
          
        · simp [updV, upd, hq]
      · cases e
    · cases e
  · cases e)
theorem k_zast (hd : decode cc pc = .ok (.bastore, 1)) : JOk tab cc own nm nL scr pc a_zast := k_wr (fun f h y e => by
  unfold a_zast at e
  split at e
  · split at e
    · split at e <;> cases e
    · cases e
  · cases e) (by
  intro l st h f' h' e
  unfold a_zast at e
  split at e
  · rename_i x i q r hst
    split at e
    · rename_i t' n xs hM
      split at e
      · rename_i hcc
        obtain ⟨rfl, hin⟩ := hcc
        cases e
        cases hst
        refine ⟨q, _, rfl, rfl, fun dd p l0 e R s m args below meth c D g A n1 n0 a0 c0 s0 cE sE Q hdd C0 a ls H locs cells slots hR hsz => ?_⟩
        obtain ⟨g1, g2⟩ := hR.okl hM
        have hat := hR.1 q g1 g2
        rw [hM] at hat
        refine ⟨⟨g1, g2, trivial⟩, fun kk => ?_⟩
        have hin2 := jin_of hin
        refine W.zast C0.1 C0.2.1 hat ((C0.2.2.2.2.2.1.1.2 1 _ rfl).1 n (fun j => .int (xs j))) (fun q => by cases q) (by show ¬ (i < 0 ∨ (arrV _ _ _).slots.size ≤ _); rw [arrV_size]; exact hin2) rfl rfl hd fun H1 e z oq => ?_
        refine kk H1 _ ?_ z oq jloc1
        show H1[a q]? = some (vp_cell _ _)
        rw [e]
        show some ((vp_cell (g 1) (n, .inl xs)).setSlot i.toNatClampNeg (narrow .boolean (.int x))) = some (vp_cell (g 1) (n, .inl (upd xs i.toNatClampNeg (vp_nar .boolean x))))
        rw [vp_cell_i, vp_cell_i, arrV_store]
        congr 2
        funext q2
        by_cases hq : q2 = i.toNatClampNeg
        · subst hq
          simp [updV, upd, vp_nar]
          try rfl
        · simp [updV, upd, vp_nar, hq]
      · cases e
    · cases e
  · cases e)
theorem k_last (hd : decode cc pc = .ok (.lastore, 1)) : JOk tab cc own nm nL scr pc a_last := k_wr (fun f h y e => by
  unfold a_last at e
  split at e
  · split at e
    · split at e <;> cases e
    · cases e
  · cases e) (by
  intro l st h f' h' e
  unfold a_last at e
  split at e
  · rename_i x i q r hst
    split at e
    · rename_i t' n xs hM
      split at e
      · rename_i hcc
        obtain ⟨rfl, hin⟩ := hcc
        cases e
        cases hst
        refine ⟨q, _, rfl, rfl, fun dd p l0 e R s m args below meth c D g A n1 n0 a0 c0 s0 cE sE Q hdd C0 a ls H locs cells slots hR hsz => ?_⟩
        obtain ⟨g1, g2⟩ := hR.okl hM
        have hat := hR.1 q g1 g2
        rw [hM] at hat
        refine ⟨⟨g1, g2, trivial⟩, fun kk => ?_⟩
        have hin2 := jin_of hin
        refine W.last C0.1 C0.2.1 hat ((C0.2.2.2.2.2.1.1.2 2 _ rfl).1 n (fun j => .long (xs j))) (fun q => by cases q) (by show ¬ (i < 0 ∨ (arrV _ _ _).slots.size ≤ _); rw [arrV_size]; exact hin2) rfl rfl hd fun H1 e z oq => ?_
        refine kk H1 _ ?_ z oq jloc1
        show H1[a q]? = some (vp_cell _ _)
        rw [e]
        show some ((vp_cell (g 2) (n, .inr (.inl xs))).setSlot i.toNatClampNeg (.long x)) = some (vp_cell (g 2) (n, .inr (.inl (vp_updL xs i.toNatClampNeg x))))
        rw [vp_cell_l, vp_cell_l, arrV_store]
        congr 2
        funext q2
        by_cases hq : q2 = i.toNatClampNeg
        · subst hq
          simp [updV, vp_updL]
          
        · simp [updV, vp_updL, hq]
      · cases e
    · cases e
  · cases e)
theorem k_aast {t ci : Nat} {r0 : vw_C} (hd : decode cc pc = .ok (.aastore, 1)) (ht : t < 7) (hc : vwCl[ci]? = some r0) (hT : jT t = .object r0.1) (h99 : ci < 99) : JOk tab cc own nm nL scr pc (a_aast t ci) := k_wr (fun f h y e => by
  unfold a_aast at e
  split at e
  · split at e
    · split at e
      · split at e
        · split at e <;> cases e
        · cases e
      · cases e
    · cases e
  · cases e) (by
  intro l st h f' h' e
  unfold a_aast at e
  split at e
  · rename_i x i q r hst
    split at e
    · rename_i t' n xs hM
      split at e
      · rename_i hcc
        obtain ⟨rfl, hin⟩ := hcc
        split at e
        · rename_i cx fx hMx
          split at e
          · rename_i hcx
            subst hcx
            cases e
            cases hst
            refine ⟨q, _, rfl, rfl, fun dd p l0 e R s m args below meth c D g A n1 n0 a0 c0 s0 cE sE Q hdd C0 a ls H locs cells slots hR hsz => ?_⟩
            obtain ⟨g1, g2⟩ := hR.okl hM
            obtain ⟨x1, x2⟩ := hR.okr hMx h99
            have hat := hR.1 q g1 g2
            have hatx := hR.1 x x1 x2
            have hwf := hR.2.2.1 q g1 g2
            rw [hM] at hat hwf
            rw [hMx] at hatx
            refine ⟨⟨g1, g2, fun j y hj => ?_⟩, fun kk => ?_⟩
            · by_cases hji : j = i.toNatClampNeg
              · subst hji
                rw [va_up_self] at hj
                cases hj
                exact x2
              · rw [va_up_ne _ _ hji] at hj
                exact hwf j y hj
            have hin2 := jin_of hin
            have hK := C0.2.2.2.2.2.1.1
            have hlt : i.toNatClampNeg < n := Nat.not_le.mp fun q => hin2 (Or.inr q)
            have h0 : ¬ i < 0 := fun q => hin2 (Or.inl q)
            obtain ⟨r', hr', cellV, g1, g2, g3, -⟩ := hatx
            have hcls := (hK.1 cx r0 hc).2
            have htt : (jtys g)[t']? = some (g t', .object r0.1) := by rw [jtys_at g ht, hT]
            obtain ⟨kA, comp, k1, k2, k3, -⟩ := (hK.2 t' _ htt).2
            have hcomp : comp = D.1 cx := Option.some.inj (k3.symm.trans hcls.1)
            subst hcomp
            obtain ⟨kC, hkC, -⟩ := hcls.2
            refine W.aast C0.1 C0.2.1 hat (fun q h => by cases h) (fun h => by cases h) k1 k2 rfl hkC ⟨h0, by show _ < (arrV _ _ _).slots.size; rw [arrV_size]; exact hlt⟩ g1 (fun q h => by rw [g3] at h; cases h) (by rw [g2]; exact hkC) (by rw [g2]; exact va_assign hcls) rfl rfl hd fun H1 e z oq => ?_
            refine kk H1 _ ?_ z oq jloc1
            show H1[a q]? = some (vp_cell _ _)
            rw [e]
            show some ((vp_cell (g t') (n, .inr (.inr (.inr (.inr (fun j => (xs j).map a)))))).setSlot i.toNatClampNeg (.ref (a x))) = some (vp_cell (g t') (n, .inr (.inr (.inr (.inr (fun j => (va_up xs i.toNatClampNeg (some x) j).map a))))))
            rw [vp_cell_q, vp_cell_q, arrV_store]
            congr 2
            funext q2
            by_cases hq : q2 = i.toNatClampNeg
            · subst hq
              simp [updV, va_up, va_rf]
            · simp [updV, va_up, hq]
          · cases e
        · cases e
      · cases e
    · cases e
  · cases e)
end JHO2
end
section
section JMK
variable {tab : Nat → JM5} {cc : ByteArray} {own : String} {nm : String × List (Nat × Nat × Nat × Nat)} {nL : Nat} {scr : Option (Nat × (Nat → Int32))} {pc : Nat}
/-- a new cell gets the next number -/
theorem jQ.new {p : Program} {l : Launch} {e : Env} {R : Room} {s : State} {m : MethodId} {args : Array Value} {below : List Frame} {meth : Method} {c : Code} {D : va_G} {g : Nat → ClassId} {A : Nat → Prop} {n n0 : Nat} {a0 : Nat → Nat} {c0 s0 cE sE : Nat} {Q : State → Prop}
    {a : Nat → Nat} {h : JH} {H H1 : Heap} {locs : List Loc} {cells slots N : Nat}
    (hq : jQ ((p, l, e, R, s), (m, args, below, meth, c), (D, g), (A, n, n0, a0), (c0, s0, cE, sE), Q) a h H locs cells slots) {y : JC} (hy : jwf h.1 y) (hat : va_at D vwCl (H.size, te g a y) H1) (hz : H1.size = H.size + 1) (ho : ∀ x : Nat, x < H.size → H1[x]? = H[x]?) :
    jQ ((p, l, e, R, s), (m, args, below, meth, c), (D, g), (A, n, n0, a0), (c0, s0, cE, sE), Q) (va_up a h.1 H.size) (h.1 + 1, h.2.1 + 1, h.2.2.1 + N, va_up h.2.2.2 h.1 y) H1 locs (cells + 1) (slots + N) := by
  obtain ⟨⟨k1, k2, k3, k4, k5⟩, ⟨v1, v2, v3⟩, k6, k7, k8, k9, k10, k11⟩ := hq
  have hag : ∀ q, q < h.1 → va_up a h.1 H.size q = a q := fun q hq => va_up_ne _ _ (Nat.ne_of_lt hq)
  have hlt : ∀ q, 0 < q → q < h.1 → a q < H.size := fun q h0 h1 => (k1 q h0 h1).lt
  refine ⟨⟨fun q h0 h1 => ?_, fun q r q0 q1 r0 r1 e1 => ?_, fun q h0 h1 => ?_, Nat.succ_pos _, fun q h0 => ?_⟩, ⟨by rw [hz]; omega, fun x hx hxA => ?_, v3⟩, fun q h0 => ?_, fun h0 => ?_, fun q h0 h1 => ?_, by show n0 ≤ h.1 + 1; omega, by show h.2.1 + 1 = _; omega, by show h.2.2.1 + N = _; omega⟩
  · by_cases e1 : q = h.1
    · subst e1
      show va_at D vwCl (va_up a h.1 H.size h.1, te g (va_up a h.1 H.size) (va_up h.2.2.2 h.1 y h.1)) H1
      rw [va_up_self, va_up_self, te_congr hag hy]
      exact hat
    · have h2 : q < h.1 := by have : q < h.1 + 1 := h1; omega
      show va_at D vwCl (va_up a h.1 H.size q, te g (va_up a h.1 H.size) (va_up h.2.2.2 h.1 y q)) H1
      rw [va_up_ne _ _ e1, va_up_ne _ _ e1, te_congr hag (k3 q h0 h2)]
      exact (k1 q h0 h2).kept (ho _ (hlt q h0 h2))
  · have q2 : q < h.1 + 1 := q1
    have r2 : r < h.1 + 1 := r1
    by_cases eq : q = h.1
    · by_cases er : r = h.1
      · omega
      · have := hlt r r0 (by omega)
        rw [eq, va_up_self, va_up_ne _ _ er] at e1
        omega
    · by_cases er : r = h.1
      · have := hlt q q0 (by omega)
        rw [er, va_up_self, va_up_ne _ _ eq] at e1
        omega
      · rw [va_up_ne _ _ eq, va_up_ne _ _ er] at e1
        exact k2 q r q0 (by omega) r0 (by omega) e1
  · have h2 : q < h.1 + 1 := h1
    show jwf (h.1 + 1) (va_up h.2.2.2 h.1 y q)
    by_cases e1 : q = h.1
    · rw [e1, va_up_self]
      exact jwf_mono (Nat.le_succ _) hy
    · rw [va_up_ne _ _ e1]
      exact jwf_mono (Nat.le_succ _) (k3 q h0 (by omega))
  · show va_up h.2.2.2 h.1 y q = _
    have h2 : q = 0 ∨ h.1 + 1 ≤ q := h0
    rw [va_up_ne _ _ (by omega)]
    exact k5 q (by omega)
  · rw [ho x (Nat.lt_of_lt_of_le hx v1)]
    exact v2 x hx hxA
  · rw [hag q (by omega)]
    exact k6 q h0
  · have h2 : h.1 + 1 = n0 := h0
    omega
  · have h2 : q < h.1 + 1 := h1
    by_cases e1 : q = h.1
    · rw [e1, va_up_self]
      exact v1
    · rw [va_up_ne _ _ e1]
      exact k8 q h0 (by omega)
/-- actions that make a cell -/
def jMk (tab : Nat → JM5) (cc : ByteArray) (own : String) (nm : String × List (Nat × Nat × Nat × Nat)) (nL : Nat) (scr : Option (Nat × (Nat → Int32))) (pc : Nat) (act : JA) : Prop := ∀ l st h f' h', act (pc, l, st) h = some (.inl (f', h')) →
  ∃ (y : JC) (N : Nat) (st' : List Value), h' = (h.1 + 1, h.2.1 + 1, h.2.2.1 + N, va_up h.2.2.2 h.1 y) ∧ f'.2.1 = l ∧ f'.2.2 = .ref h.1 :: st' ∧ l.all (fun q => vfb h.1 q.2) = true ∧ st'.all (vfb h.1) = true ∧ (∀ n, jwf n y) ∧
  ∀ dd (p : Program) (l0 : Launch) (e : Env) (R : Room) (s : State) (m : MethodId) (args : Array Value) (below : List Frame) (meth : Method) (c : Code) (D : va_G) (g : Nat → ClassId) (A : Nat → Prop) (n n0 : Nat) (a0 : Nat → Nat) (c0 s0 cE sE : Nat) (Q : State → Prop), 1 ≤ dd →
    jC cc own nm nL dd scr ((p, l0, e, R, s), (m, args, below, meth, c), (D, g), (A, n, n0, a0), (c0, s0, cE, sE), Q) →
    ∀ (a : Nat → Nat) (ls : Array Slot) (H : Heap) (locs : List Loc) (cells slots : Nat), ls.size = n → cells + 1 ≤ R.cells → slots + N ≤ R.slots →
    (∀ (H1 : Heap), va_at D vwCl (H.size, te g a y) H1 → H1.size = H.size + 1 → (∀ x : Nat, x < H.size → H1[x]? = H[x]?) → W p l0 e R s m args below meth c H1 locs (cells + 1) (slots + N) Q (F0 m f'.1 ls (.ref H.size :: st'.map (tv a)))) → W p l0 e R s m args below meth c H locs cells slots Q (F0 m pc ls (st.map (tv a)))
theorem k_mk {act : JA} (h0 : ∀ f h y, act f h ≠ some (.inr y)) (hk : jMk tab cc own nm nL scr pc act) : JOk tab cc own nm nL scr pc act := by
  refine ⟨fun l st h f' h' e => ?_, fun dd X hdd C l st h => ?_⟩
  · obtain ⟨y, N, st', rfl, -⟩ := hk l st h f' h' e
    exact ⟨Nat.le_succ _, Nat.le_succ _, Nat.le_add_right _ _⟩
  · obtain ⟨⟨p, ln, e, R, s⟩, ⟨m, args, below, meth, c⟩, ⟨D, g⟩, ⟨A, n, n0, a0⟩, ⟨c0, s0, cE, sE⟩, Q⟩ := X
    cases hs : act (pc, l, st) h with
    | none => trivial
    | some z =>
      obtain ⟨f', h'⟩ | z := z
      · obtain ⟨y, N, st', rfl, hl', hst', hf1, hf2, hy, w⟩ := hk l st h f' h' hs
        intro b1 b2 k a ls H locs cells slots h1 h2 h3 h4
        have b1' : h.2.1 + 1 ≤ cE := b1
        have b2' : h.2.2.1 + N ≤ sE := b2
        obtain ⟨-, -, -, -, -, -, -, ⟨-, -, r3, r4⟩, -⟩ := id C
        obtain ⟨-, -, -, -, -, -, q1, q2⟩ := id h2
        refine w dd p ln e R s m args below meth c D g A n n0 a0 c0 s0 cE sE Q hdd C a ls H locs cells slots h1.1 (by omega) (by omega) (fun H1 e1 e2 e3 => ?_)
        have hag : ∀ q, q < h.1 → va_up a h.1 H.size q = a q := fun q hq => va_up_ne _ _ (Nat.ne_of_lt hq)
        have k' := k (va_up a h.1 H.size) ls H1 locs (cells + 1) (slots + N) (by rw [hl', tvl_congr hag hf1]; exact h1) (h2.new (hy _) e1 e2 e3) b1 b2
        rw [hst', List.map_cons, tvs_congr hag hf2] at k'
        have e9 : tv (va_up a h.1 H.size) (.ref h.1) = .ref H.size := congrArg Value.ref (va_up_self _ _ _)
        rw [e9] at k'
        exact k'
      · exact absurd hs (h0 _ _ z)
def a_new (ci N : Nat) (fs : List Value) : JA := fun f h => if f.2.1.all (fun q => vfb h.1 q.2) = true ∧ f.2.2.all (vfb h.1) = true then some (.inl ((f.1 + 3, f.2.1, .ref h.1 :: f.2.2), (h.1 + 1, h.2.1 + 1, h.2.2.1 + N, va_up h.2.2.2 h.1 (.inr (ci, fs))))) else none
theorem k_new {ci idx N : Nat} {fs : List Value} {C : String} {T : u_T} {ty0 : Nat → FieldType} (hd : decode cc pc = .ok (.new idx, 3)) (hc : vwCl[ci]? = some (C, T, N)) (hin : ∀ w ∈ u_ws C T N, w ∈ GW) (hty : ∀ k, k < N → parseFieldDescriptor (T k).2.2.1 = some (ty0 k)) (hfs : ∀ j, j < N → defaultValue (ty0 j) = vp_V fs j) (hnr : ∀ a : Nat → Nat, fs.map (tv a) = fs) (hwf : ∀ n, jwf n (.inr (ci, fs)))
    (w1 : Cond.classLink own idx C ∈ GW) (w2 : Cond.instantiable C N ∈ GW) (w3 : Cond.initialized C ∈ GW) : JOk tab cc own nm nL scr pc (a_new ci N fs) := k_mk (fun f h y e => by
  unfold a_new at e
  split at e <;> cases e) (by
  intro l st h f' h' e
  unfold a_new at e
  split at e
  · rename_i hf
    cases e
    refine ⟨_, N, st, rfl, rfl, rfl, hf.1, hf.2, hwf, fun dd p l0 e R s m args below meth c D g A n n0 a0 c0 s0 cE sE Q hdd C0 a ls H locs cells slots hsz hcl hsl kk => ?_⟩
    have hKn := C0.2.2.2.2.2.1.1.1 ci _ hc
    refine W.newcK C0.1 C0.2.1 C0.2.2.1 (C0.2.2.2.2.1 _ w1) (C0.2.2.2.2.1 _ w2) (C0.2.2.2.2.1 _ w3) rfl hd hcl hsl hKn.2.1 rfl fun H1 kC hkC e1 z1 o1 => ?_
    refine kk H1 ?_ z1 o1
    show va_at D vwCl (H.size, .inr (ci, fs.map (tv a))) H1
    rw [hnr]
    exact ⟨_, hc, (u_born ty0 C0.2.2.2.2.1 hin hKn hkC e1 hty).to hfs⟩
  · cases e)
/-- a new row of numbers -/
def a_newi (t : Nat) : JA := fun f h => match f.2.2 with
  | .int x :: r => if f.2.1.all (fun q => vfb h.1 q.2) = true ∧ r.all (vfb h.1) = true ∧ ¬ x < 0 ∧ x.toNatClampNeg ≤ 65536 then some (.inl ((f.1 + 2, f.2.1, .ref h.1 :: r), (h.1 + 1, h.2.1 + 1, h.2.2.1 + x.toNatClampNeg, va_up h.2.2.2 h.1 (.inl (t, x.toNatClampNeg, .inl (fun _ => 0)))))) else none
  | _ => none
def a_newl : JA := fun f h => match f.2.2 with
  | .int x :: r => if f.2.1.all (fun q => vfb h.1 q.2) = true ∧ r.all (vfb h.1) = true ∧ ¬ x < 0 ∧ x.toNatClampNeg ≤ 65536 then some (.inl ((f.1 + 2, f.2.1, .ref h.1 :: r), (h.1 + 1, h.2.1 + 1, h.2.2.1 + x.toNatClampNeg, va_up h.2.2.2 h.1 (.inl (2, x.toNatClampNeg, .inr (.inl (fun _ => 0))))))) else none
  | _ => none
theorem k_newi {t : Nat} {at0 : ArrayType} {ty : FieldType} (hd : decode cc pc = .ok (.newarray at0, 2)) (hat : newarray.typeOf at0 = ty) (ht : t < 7) (hT : jT t = ty) (hcls : Cond.arrayClass ty ∈ GW) (hb : componentBytes ty ≤ 8) (hdf : defaultValue ty = .int 0) (hno : ∀ (U : State) (cA : ClassId), va_RA U cA ty → U.vm.findClass ("[" ++ ty.toString) = some cA) : JOk tab cc own nm nL scr pc (a_newi t) := k_mk (fun f h y e => by
  unfold a_newi at e
  split at e
  · split at e <;> cases e
  · cases e) (by
  intro l st h f' h' e
  unfold a_newi at e
  split at e
  · rename_i x r hst
    split at e
    · rename_i hf
      cases e
      cases hst
      refine ⟨_, x.toNatClampNeg, r, rfl, rfl, rfl, hf.1, hf.2.1, fun _ => trivial, fun dd p l0 e R s m args below meth c D g A n n0 a0 c0 s0 cE sE Q hdd C0 a ls H locs cells slots hsz hcl hsl kk => ?_⟩
      subst hat
      refine va_newaK C0.1 C0.2.1 (C0.2.2.2.2.1 _ hcls) rfl hd rfl hf.2.2.1 rfl ?_ hcl hsl rfl fun H1 cA e1 z1 o1 hAr hNm => ?_
      · exact Nat.le_trans (Nat.mul_le_mul hf.2.2.2 hb) (Nat.le_of_ble_eq_true rfl)
      · have hRA := (C0.2.2.2.2.2.1.1.2 t (g t, newarray.typeOf at0) (by rw [jtys_at g ht, hT])).2
        have e2 : cA = g t := Option.some.inj (hNm.symm.trans (hno _ _ hRA))
        subst e2
        refine kk H1 ?_ z1 o1
        show H1[H.size]? = some (vp_cell _ _)
        rw [hdf] at e1
        exact e1
    · cases e
  · cases e)
theorem k_newl (hd : decode cc pc = .ok (.newarray .long, 2)) (hcls : Cond.arrayClass .long ∈ GW) : JOk tab cc own nm nL scr pc a_newl := k_mk (fun f h y e => by
  unfold a_newl at e
  split at e
  · split at e <;> cases e
  · cases e) (by
  intro l st h f' h' e
  unfold a_newl at e
  split at e
  · rename_i x r hst
    split at e
    · rename_i hf
      cases e
      cases hst
      refine ⟨_, x.toNatClampNeg, r, rfl, rfl, rfl, hf.1, hf.2.1, fun _ => trivial, fun dd p l0 e R s m args below meth c D g A n n0 a0 c0 s0 cE sE Q hdd C0 a ls H locs cells slots hsz hcl hsl kk => ?_⟩
      refine va_newaK (atype := .long) C0.1 C0.2.1 (C0.2.2.2.2.1 _ hcls) rfl hd rfl hf.2.2.1 rfl ?_ hcl hsl rfl fun H1 cA e1 z1 o1 hAr hNm => ?_
      · exact Nat.le_trans (Nat.mul_le_mul hf.2.2.2 (show componentBytes (newarray.typeOf .long) ≤ 8 from Nat.le_of_ble_eq_true rfl)) (Nat.le_of_ble_eq_true rfl)
      · have hRA := (C0.2.2.2.2.2.1.1.2 2 (g 2, .long) rfl).2
        have e2 : cA = g 2 := Option.some.inj (hNm.symm.trans hRA)
        subst e2
        exact kk H1 e1 z1 o1
    · cases e
  · cases e)
/-- a new row of references -/
def a_newq (t : Nat) : JA := fun f h => match f.2.2 with
  | .int x :: r => if f.2.1.all (fun q => vfb h.1 q.2) = true ∧ r.all (vfb h.1) = true ∧ ¬ x < 0 ∧ x.toNatClampNeg ≤ 65536 then some (.inl ((f.1 + 3, f.2.1, .ref h.1 :: r), (h.1 + 1, h.2.1 + 1, h.2.2.1 + x.toNatClampNeg, va_up h.2.2.2 h.1 (.inl (t, x.toNatClampNeg, .inr (.inr (.inr (.inr (fun _ => none))))))))) else none
  | _ => none
theorem k_newq {t idx : Nat} {C : String} (hd : decode cc pc = .ok (.anewarray idx, 3)) (ht : t < 7) (hT : jT t = .object C) (hA : C ∈ AOS) (w1 : Cond.classLink own idx C ∈ GW) : JOk tab cc own nm nL scr pc (a_newq t) := k_mk (fun f h y e => by
  unfold a_newq at e
  split at e
  · split at e <;> cases e
  · cases e) (by
  intro l st h f' h' e
  unfold a_newq at e
  split at e
  · rename_i x r hst
    split at e
    · rename_i hf
      cases e
      cases hst
      refine ⟨_, x.toNatClampNeg, r, rfl, rfl, rfl, hf.1, hf.2.1, fun _ => (fun j q e => by cases e), fun dd p l0 e R s m args below meth c D g A n n0 a0 c0 s0 cE sE Q hdd C0 a ls H locs cells slots hsz hcl hsl kk => ?_⟩
      refine W.anew C0.1 C0.2.1 C0.2.2.1 (C0.2.2.2.2.1 _ w1) (va_AO.use (C0.2.2.2.2.2.1.2.2.1 C hA)) rfl hd rfl hf.2.2.1 ?_ hcl hsl fun cA kA comp f1 f2 f3 f4 => ?_
      · exact Nat.le_trans (Nat.mul_le_mul hf.2.2.2 (Nat.le_refl 4)) (Nat.le_of_ble_eq_true rfl)
      · obtain ⟨kA', comp', g1, g2, g3, g4⟩ := (C0.2.2.2.2.2.1.1.2 t (g t, .object C) (by rw [jtys_at g ht, hT])).2
        have e2 : cA = g t := Option.some.inj (f1.symm.trans g4)
        subst e2
        refine kk _ ?_ (by simp) (fun q hq => by rw [Array.getElem?_push, if_neg (Nat.ne_of_lt hq)])
        show (H.push _)[H.size]? = some (vp_cell (g t) (x.toNatClampNeg, .inr (.inr (.inr (.inr (fun j => (none : Option Nat).map a))))))
        rw [Array.getElem?_push_size, vp_cell_q]
        exact congrArg some (arrV_new (g t) x.toNatClampNeg .null)
    · cases e
  · cases e)
end JMK
end
section
section JCL
variable {tab : Nat → JM5} {cc : ByteArray} {own : String} {nm : String × List (Nat × Nat × Nat × Nat)} {nL : Nat} {scr : Option (Nat × (Nat → Int32))} {pc : Nat}
def jcat (st : List Value) : Nat := (st.map fun v => v.category).sum
/-! Math.max, Math.min -/
def a_mmax : JA := fun f h => match f.2.2 with
  | .int y :: .int x :: r => if jcat r ≤ 8 then some (.inl ((f.1 + 3, f.2.1, .int (if x < y then y else x) :: r), h)) else none
  | _ => none
def a_mmin : JA := fun f h => match f.2.2 with
  | .int y :: .int x :: r => if jcat r ≤ 8 then some (.inl ((f.1 + 3, f.2.1, .int (if y < x then y else x) :: r), h)) else none
  | _ => none
theorem k_mmax {idx : Nat} (hd : decode cc pc = .ok (.invokestatic idx, 3)) (w1 : Cond.methodLink own idx Lib.Math.max.name ∈ GW) (w2 : Cond.static Lib.Math.max.name ∈ GW) (w3 : Cond.initialized "java/lang/Math" ∈ GW) (w4 : Cond.code Lib.Math.max.name Lib.Math.max.code 2 (some .int) ∈ GW) : JOk tab cc own nm nL scr pc a_mmax := k_loc (fun f h y e => by
  unfold a_mmax at e
  split at e
  · split at e <;> cases e
  · cases e) (by
  intro l st h f' h' e
  unfold a_mmax at e
  split at e
  · rename_i y x r hst
    split at e
    · rename_i hr
      cases e
      cases hst
      refine ⟨rfl, fun dd p l0 e R s m args below meth c D g A n n0 a0 c0 s0 cE sE Q hdd C0 a ls H locs cells slots hl hq h1 h2 k2 => ?_⟩
      obtain ⟨-, -, -, ⟨hml, -⟩, -, -, -, ⟨r1, r2, r3, r4⟩, -⟩ := id C0
      obtain ⟨-, -, -, -, -, -, q1, q2⟩ := hq
      have hr' : ((r.map (tv a)).map fun v => v.category).sum ≤ 8 := by rw [tv_catsum]; exact hr
      exact va_mmax C0.1 C0.2.1 (hml.trans hl.1.symm) C0.2.2.1 (C0.2.2.2.2.1 _ w1) (C0.2.2.2.2.1 _ w2) (C0.2.2.2.2.1 _ w3) (C0.2.2.2.2.1 _ w4) (by omega) (by omega) (by omega) (by omega) hd (k2 ls hl)
    · cases e
  · cases e)
theorem k_mmin {idx : Nat} (hd : decode cc pc = .ok (.invokestatic idx, 3)) (w1 : Cond.methodLink own idx Lib.Math.min.name ∈ GW) (w2 : Cond.static Lib.Math.min.name ∈ GW) (w3 : Cond.initialized "java/lang/Math" ∈ GW) (w4 : Cond.code Lib.Math.min.name Lib.Math.min.code 2 (some .int) ∈ GW) : JOk tab cc own nm nL scr pc a_mmin := k_loc (fun f h y e => by
  unfold a_mmin at e
  split at e
  · split at e <;> cases e
  · cases e) (by
  intro l st h f' h' e
  unfold a_mmin at e
  split at e
  · rename_i y x r hst
    split at e
    · rename_i hr
      cases e
      cases hst
      refine ⟨rfl, fun dd p l0 e R s m args below meth c D g A n n0 a0 c0 s0 cE sE Q hdd C0 a ls H locs cells slots hl hq h1 h2 k2 => ?_⟩
      obtain ⟨-, -, -, ⟨hml, -⟩, -, -, -, ⟨r1, r2, r3, r4⟩, -⟩ := id C0
      obtain ⟨-, -, -, -, -, -, q1, q2⟩ := hq
      have hr' : ((r.map (tv a)).map fun v => v.category).sum ≤ 8 := by rw [tv_catsum]; exact hr
      exact va_mmin C0.1 C0.2.1 (hml.trans hl.1.symm) C0.2.2.1 (C0.2.2.2.2.1 _ w1) (C0.2.2.2.2.1 _ w2) (C0.2.2.2.2.1 _ w3) (C0.2.2.2.2.1 _ w4) (by omega) (by omega) (by omega) (by omega) hd (k2 ls hl)
    · cases e
  · cases e)
/-! Object's constructor -/
def a_oini : JA := fun f h => match f.2.2 with
  | .ref _ :: r => if jcat r ≤ 8 then some (.inl ((f.1 + 3, f.2.1, r), h)) else none
  | _ => none
theorem k_oini {idx : Nat} (hd : decode cc pc = .ok (.invokespecial idx, 3)) (w1 : Cond.methodLink own idx Lib.objectInit ∈ GW) (w2 : Cond.instanceMethod Lib.objectInit ∈ GW) (w3 : Cond.code Lib.objectInit ⟨#[0xb1]⟩ 1 none ∈ GW) : JOk tab cc own nm nL scr pc a_oini := k_loc (fun f h y e => by
  unfold a_oini at e
  split at e
  · split at e <;> cases e
  · cases e) (by
  intro l st h f' h' e
  unfold a_oini at e
  split at e
  · rename_i q r hst
    split at e
    · rename_i hr
      cases e
      cases hst
      refine ⟨rfl, fun dd p l0 e R s m args below meth c D g A n n0 a0 c0 s0 cE sE Q hdd C0 a ls H locs cells slots hl hq h1 h2 k2 => ?_⟩
      obtain ⟨-, -, -, ⟨hml, -⟩, -, -, -, ⟨r1, r2, r3, r4⟩, -⟩ := id C0
      have hr' : ((r.map (tv a)).map fun v => v.category).sum ≤ 8 := by rw [tv_catsum]; exact hr
      exact W.objInit C0.1 C0.2.1 C0.2.2.1 (C0.2.2.2.2.1 _ w1) (C0.2.2.2.2.1 _ w2) (C0.2.2.2.2.1 _ w3) rfl (hl.1.trans hml.symm) rfl hd (by omega) (by show 2 * 0 + _ + 12 ≤ _; omega) (k2 ls hl)
    · cases e
  · cases e)
/-! System.arraycopy of numbers -/
def a_copy : JA := fun f h => match f.2.2 with
  | .int n :: .int dp :: .ref q :: .int sp :: .ref q0 :: r => match h.2.2.2 q0, h.2.2.2 q with
    | .inl (t0, n0, .inl xs), .inl (t1, n1, .inl ys) => if t0 = 0 ∧ t1 = 0 ∧ jcat r ≤ 8 ∧ ¬ sp < 0 ∧ ¬ dp < 0 ∧ ¬ n < 0 ∧ sp.toNatClampNeg + n.toNatClampNeg ≤ n0 ∧ dp.toNatClampNeg + n.toNatClampNeg ≤ n1 then
        some (.inl ((f.1 + 3, f.2.1, r), (h.1, h.2.1, h.2.2.1, va_up h.2.2.2 q (.inl (0, n1, .inl (va_cpy xs ys sp.toNatClampNeg dp.toNatClampNeg n.toNatClampNeg)))))) else none
    | _, _ => none
  | _ => none
theorem jw_copy {p : Program} {l : Launch} {e : Env} {R : Room} {s : State} {m : MethodId} {args : Array Value} {below : List Frame} {meth : Method} {c : Code} {H : Heap} {locs : List Loc} {cells slots : Nat} {Q : State → Prop} {ls : Array Slot} {rest : List Value} {a : Nat} {tys : List (ClassId × FieldType)}
    (hexec : p.tables.exec = Jvm.exec) (hb : c.code = cc) (hml : c.maxLocals = ls.size) {own : String} {index : Nat} (hown : s.vm.findClass own = some m.cls) (hlink : (Cond.methodLink own index arraycopyName).before args s = true) (hnat : (Cond.native arraycopyName).before args s = true) (hstat : (Cond.static arraycopyName).before args s = true) (hini : (Cond.initialized "java/lang/System").before args s = true)
    {D : va_G} (hK : va_K D vwCl tys s) (t0 t1 : Nat) {a0 : Nat} {c0 c1 : ClassId} {n0 n1 : Nat} {f g : Nat → Int32} {ty : FieldType} (hc0 : H[a0]? = some (vp_cell c0 (n0, .inl f))) (hc1 : H[a]? = some (vp_cell c1 (n1, .inl g))) (ht0 : tys[t0]? = some (c0, ty)) (ht1 : tys[t1]? = some (c1, ty)) (hprim : refKind ty = false)
    {sp dp n : Int32} (h1 : ¬ sp < 0) (h2 : ¬ dp < 0) (h3 : ¬ n < 0) (h4 : sp.toNatClampNeg + n.toNatClampNeg ≤ n0) (h5 : dp.toNatClampNeg + n.toNatClampNeg ≤ n1) (hfit : ∀ i, i < n.toNatClampNeg → fits ty (.int (f (sp.toNatClampNeg + i))) = true)
    (hframes : 1 ≤ R.frames) (hlocals : (rest.map fun v => v.category).sum + (nativeFrameWords "java/lang/System" "arraycopy" 5 + 11) ≤ R.locals) (hdg : decode cc pc = .ok (.invokestatic index, 3))
    (kk : ∀ (H1 : Heap) (locs1 : List Loc), H1[a]? = some (vp_cell c1 (n1, .inl (va_cpy f g sp.toNatClampNeg dp.toNatClampNeg n.toNatClampNeg))) → H1.size = H.size → (∀ q : Nat, q ≠ a → H1[q]? = H[q]?) → (∀ z ∈ locs1, z ∈ locs ∨ z.base = a) → W p l e R s m args below meth c H1 locs1 cells slots Q (F0 m (pc + 3) ls rest)) : W p l e R s m args below meth c H locs cells slots Q (F0 m pc ls (.int n :: .int dp :: .ref a :: .int sp :: .ref a0 :: rest)) := by
  intro T hT X
  obtain ⟨-, k0, hk0, cm0, hkk0⟩ := (hK.2 t0 _ ht0).1 n0 (fun j => .int (f j))
  obtain ⟨-, k1, hk1, cm1, hkk1⟩ := (hK.2 t1 _ ht1).1 n1 (fun j => .int (g j))
  obtain ⟨vm', X', step⟩ := X.arraycopy hexec hown hlink hnat hstat hini (src := a0) (dst := a) (cs := vp_cell c0 (n0, .inl f)) (cd := vp_cell c1 (n1, .inl g)) (srcPos := sp) (destPos := dp) (n := n) (by rw [hT]; exact hc0) (by rw [hT]; exact hc1)
    (fun _ h => by cases h) (fun _ h => by cases h) (fun h => by cases h) (fun h => by cases h) hk0 hk1 hkk0 hkk1 (by simp [hprim]) h1 h2 h3
    (by rw [j_clamp h1, j_clamp h3]; show ¬ _ > ((arrV c0 n0 (fun j => .int (f j))).slots.size : Int); rw [arrV_size]; omega)
    (by rw [j_clamp h2, j_clamp h3]; show ¬ _ > ((arrV c1 n1 (fun j => .int (g j))).slots.size : Int); rw [arrV_size]; omega)
    (fun vm₁ _ i hi => by
      have e : (vp_cell c0 (n0, .inl f)).slots.getD (sp.toNatClampNeg + i) .null = .int (f (sp.toNatClampNeg + i)) := by
        show (arrV c0 n0 (fun j => .int (f j))).slots.getD _ _ = _
        rw [Array.getD_eq_getD_getElem?, arrV_read _ _ (by omega)]
        rfl
      refine ⟨?_, ?_⟩
      · rw [e]
        exact hfit i hi
      · rw [e]
        exact trivial)
    (g := F0 m pc ls (.int n :: .int dp :: .ref a :: .int sp :: .ref a0 :: rest)) rfl (by rw [hml]) (rest := rest) rfl (by rw [hb]; exact hdg) hframes (by show 2 * 0 + _ + _ ≤ _; omega)
  have e1 : copied (vp_cell c0 (n0, .inl f)) (vp_cell c1 (n1, .inl g)) sp dp n = vp_cell c1 (n1, .inl (va_cpy f g sp.toNatClampNeg dp.toNatClampNeg n.toNatClampNeg)) := va_copied (fun z => .int z) c0 c1 f g h4
  rw [e1] at X' step
  have hl : a < H.size := (Array.getElem?_eq_some_iff.mp hc1).1
  have hheap : ((T.setVm vm').setCell a (vp_cell c1 (n1, .inl (va_cpy f g sp.toNatClampNeg dp.toNatClampNeg n.toNatClampNeg)))).heap = H.setIfInBounds a (vp_cell c1 (n1, .inl (va_cpy f g sp.toNatClampNeg dp.toNatClampNeg n.toNatClampNeg))) := by rw [← hT]; rfl
  obtain ⟨t, b1, b2⟩ := kk _ _ (show (H.setIfInBounds a (vp_cell c1 (n1, .inl (va_cpy f g sp.toNatClampNeg dp.toNatClampNeg n.toNatClampNeg))))[a]? = some _ by simp [Array.getElem?_setIfInBounds, hl]) (by simp) (fun q hq => by simp [Array.getElem?_setIfInBounds, Ne.symm hq])
    (fun q hq => by
      rcases List.mem_append.mp hq with h | h
      · exact Or.inl h
      · obtain ⟨z, -, hz⟩ := List.mem_map.mp h
        exact Or.inr (by rw [← hz])) _ hheap X'
  exact ⟨t, step t b1, b2⟩
theorem k_copy {idx : Nat} (hd : decode cc pc = .ok (.invokestatic idx, 3)) (w1 : Cond.methodLink own idx arraycopyName ∈ GW) (w2 : Cond.native arraycopyName ∈ GW) (w3 : Cond.static arraycopyName ∈ GW) (w4 : Cond.initialized "java/lang/System" ∈ GW) : JOk tab cc own nm nL scr pc a_copy := k_wr (fun f h y e => by
  unfold a_copy at e
  split at e
  · split at e
    · split at e <;> cases e
    · cases e
  · cases e) (by
  intro l st h f' h' e
  unfold a_copy at e
  split at e
  · rename_i n dp q sp q0 r hst
    split at e
    · rename_i t0 n0 xs t1 n1 ys hM0 hM1
      split at e
      · rename_i hcc
        obtain ⟨rfl, rfl, hr, g1, g2, g3, g4, g5⟩ := hcc
        cases e
        cases hst
        refine ⟨q, _, rfl, rfl, fun dd p l0 e R s m args below meth c D g A nn nn0 a0 c0 s0 cE sE Q hdd C0 a ls H locs cells slots hR hsz => ?_⟩
        obtain ⟨x1, x2⟩ := hR.okl hM1
        obtain ⟨y1, y2⟩ := hR.okl hM0
        have hat1 := hR.1 q x1 x2
        have hat0 := hR.1 q0 y1 y2
        rw [hM1] at hat1
        rw [hM0] at hat0
        refine ⟨⟨x1, x2, trivial⟩, fun kk => ?_⟩
        obtain ⟨-, -, -, ⟨hml, -⟩, -, -, -, ⟨r1, r2, r3, r4⟩, -⟩ := id C0
        have hr' : ((r.map (tv a)).map fun v => v.category).sum ≤ 8 := by rw [tv_catsum]; exact hr
        have hw : nativeFrameWords "java/lang/System" "arraycopy" 5 + 11 ≤ 28 := by decide +kernel
        exact jw_copy C0.1 C0.2.1 (hml.trans hsz.symm) C0.2.2.1 (C0.2.2.2.2.1 _ w1) (C0.2.2.2.2.1 _ w2) (C0.2.2.2.2.1 _ w3) (C0.2.2.2.2.1 _ w4) C0.2.2.2.2.2.1.1 0 0 hat0 hat1 rfl rfl rfl g1 g2 g3 g4 g5 (fun _ _ => rfl) (by omega) (by omega) hd (fun H1 locs1 e1 e2 e3 e4 => kk H1 locs1 e1 e2 e3 e4)
      · cases e
    · cases e
  · cases e)
/-! returns -/
def a_ret (k : Nat) : JA := fun f h => match f.2.2 with
  | [.int x] => if k = 0 ∨ (k = 1 ∧ (x = 0 ∨ x = 1)) then some (.inr (.inr (.inl (some (.int x))))) else none
  | [.long x] => if k = 2 then some (.inr (.inr (.inl (some (.long x))))) else none
  | [.double x] => if k = 3 then some (.inr (.inr (.inl (some (.double x))))) else none
  | [] => if k = 4 then some (.inr (.inr (.inl none))) else none
  | _ => none
theorem k_ret0 {act : JA} {i : Instr} (hd : decode cc pc = .ok (i, 1)) (ha : ∀ l st h, act (pc, l, st) h = none ∨ ∃ v, act (pc, l, st) h = some (.inr (.inr (.inl v))) ∧ st = v.toList ∧ jRet i v) : JOk tab cc own nm nL scr pc act := by
  refine ⟨fun l st h f' h' e => ?_, fun dd X hdd C l st h => ?_⟩
  · rcases ha l st h with h9 | ⟨v, h9, -⟩ <;> rw [h9] at e <;> cases e
  · rcases ha l st h with h9 | ⟨v, h9, rfl, hr⟩
    · rw [h9]; trivial
    · rw [h9]
      obtain ⟨⟨p, ln, e, R, s⟩, ⟨m, args, below, meth, c⟩, ⟨D, g⟩, ⟨A, n, n0, a0⟩, ⟨c0, s0, cE, sE⟩, Q⟩ := X
      intro k a ls H locs cells slots h1 h2 h3 h4
      exact k a ls H locs cells slots pc i h2 h3 h4 hd hr
theorem k_iret (hd : decode cc pc = .ok (.ireturn, 1)) : JOk tab cc own nm nL scr pc (a_ret 0) := k_ret0 hd (fun l st h => by
  unfold a_ret
  split
  · split
    · exact Or.inr ⟨_, rfl, by assumption, Or.inl ⟨rfl, _, rfl⟩⟩
    · exact Or.inl rfl
  · simp
  · simp
  · simp
  · exact Or.inl rfl)
theorem k_zret (hd : decode cc pc = .ok (.ireturn, 1)) : JOk tab cc own nm nL scr pc (a_ret 1) := k_ret0 hd (fun l st h => by
  unfold a_ret
  split
  · split
    · exact Or.inr ⟨_, rfl, by assumption, Or.inl ⟨rfl, _, rfl⟩⟩
    · exact Or.inl rfl
  · simp
  · simp
  · simp
  · exact Or.inl rfl)
theorem k_lret (hd : decode cc pc = .ok (.lreturn, 1)) : JOk tab cc own nm nL scr pc (a_ret 2) := k_ret0 hd (fun l st h => by
  unfold a_ret
  split
  · simp
  · exact Or.inr ⟨_, rfl, by assumption, Or.inr (Or.inl ⟨rfl, _, rfl⟩)⟩
  · simp
  · simp
  · exact Or.inl rfl)
theorem k_dret (hd : decode cc pc = .ok (.dreturn, 1)) : JOk tab cc own nm nL scr pc (a_ret 3) := k_ret0 hd (fun l st h => by
  unfold a_ret
  split
  · simp
  · simp
  · exact Or.inr ⟨_, rfl, by assumption, Or.inr (Or.inr (Or.inl ⟨rfl, _, rfl⟩))⟩
  · simp
  · exact Or.inl rfl)
theorem k_vret (hd : decode cc pc = .ok (.return_, 1)) : JOk tab cc own nm nL scr pc (a_ret 4) := k_ret0 hd (fun l st h => by
  unfold a_ret
  split
  · simp
  · simp
  · simp
  · exact Or.inr ⟨_, rfl, by assumption, Or.inr (Or.inr (Or.inr ⟨rfl, rfl⟩))⟩
  · exact Or.inl rfl)
end JCL
end
section
section JIV
variable {tab : Nat → JM5} {cc : ByteArray} {own : String} {nm : String × List (Nat × Nat × Nat × Nat)} {nL : Nat} {scr : Option (Nat × (Nat → Int32))} {pc : Nat}
theorem jPre.blind (D : va_G) (g : Nat → ClassId) (a : Nat → Nat) (h : JH) (sz : Nat) (av : List Value) : FrameBlind (va_Pc av (jPre D g a h sz)) := by
  intro v U fr mk q
  obtain ⟨q1, q2, q3, q4, q5⟩ := q
  exact ⟨q1, q2, jK.warm (s := U) (U := U.calling fr mk v) (State.WarmedH.refl U) q3, q4, ⟨vx_Zq.moved (u := U) (U := U.calling fr mk v) (Vm.Alike.refl U.vm) q5.1, vx_Zq.moved (u := U) (U := U.calling fr mk v) (Vm.Alike.refl U.vm) q5.2⟩⟩
section JIV2
variable {p : Program} {l : Launch} {e : Env} {R : Room} {s : State} {m : MethodId} {args : Array Value} {below : List Frame} {meth : Method} {c : Code} {D : va_G} {g : Nat → ClassId} {A : Nat → Prop} {n n0 : Nat} {a0 : Nat → Nat} {c0 s0 cE sE : Nat} {Q : State → Prop}
/-- what a run hands on is inside what it may write -/
theorem jQ.sub {nL dd : Nat} (C : jC cc own nm nL dd scr ((p, l, e, R, s), (m, args, below, meth, c), (D, g), (A, n, n0, a0), (c0, s0, cE, sE), Q)) {a : Nat → Nat} {h : JH} {H : Heap} {locs : List Loc} {cells slots : Nat}
    (hq : jQ ((p, l, e, R, s), (m, args, below, meth, c), (D, g), (A, n, n0, a0), (c0, s0, cE, sE), Q) a h H locs cells slots) : ∀ x, jA a h.1 H.size x → A x := by
  intro x hx
  rcases hx with ⟨q, h0, h1, rfl⟩ | hx
  · exact hq.inA C h0 h1
  · obtain ⟨-, -, -, -, -, -, -, -, ⟨-, hB⟩, -⟩ := C
    exact hB x (Nat.le_trans hq.2.1.1 hx)
theorem jQ.pre {nL dd : Nat} (C : jC cc own nm nL dd scr ((p, l, e, R, s), (m, args, below, meth, c), (D, g), (A, n, n0, a0), (c0, s0, cE, sE), Q)) {a : Nat → Nat} {h : JH} {H : Heap} {locs : List Loc} {cells slots : Nat}
    (hq : jQ ((p, l, e, R, s), (m, args, below, meth, c), (D, g), (A, n, n0, a0), (c0, s0, cE, sE), Q) a h H locs cells slots) {U : State} (hU : U.heap = H) (hW : s.WarmedH U.vm) : jPre D g a h H.size U := by
  have hsub := hq.sub C
  obtain ⟨-, -, -, -, -, hK, ⟨hZ1, hZ2⟩, -⟩ := C
  obtain ⟨k1, ⟨v1, v2, v3⟩, -⟩ := hq
  subst hU
  exact ⟨rfl, jK.warm hW hK, k1, (vx_Zq.moved hW.alike (hZ1.kept v2)).narrow hsub, (vx_Zq.moved hW.alike (hZ2.kept v2)).narrow hsub⟩
/-- behind a call that returns -/
theorem j_after {nL dd : Nat} (C : jC cc own nm nL dd scr ((p, l, e, R, s), (m, args, below, meth, c), (D, g), (A, n, n0, a0), (c0, s0, cE, sE), Q)) {a : Nat → Nat} {h h1 : JH} {H : Heap} {locs : List Loc} {cells slots : Nat} {ls : Array Slot} {lv : List (Nat × Value)} {st0 st' : List Value} {r : Option Value}
    (hl : lv_has ls n (lv.map (fun q => (q.1, tv a q.2))))
    (hq : jQ ((p, l, e, R, s), (m, args, below, meth, c), (D, g), (A, n, n0, a0), (c0, s0, cE, sE), Q) a h H locs cells slots)
    (hr : va_Run p l e R s m args below meth c H locs cells slots (h1.2.1 - h.2.1) (h1.2.2.1 - h.2.2.1) (F0 m pc ls st0) (st'.map (tv a)) (fun st oc t => jPost D g a h h1 H.size r st oc t) (jA a h.1 H.size))
    (hle : jLe h h1) (hfr : h1.1 = h.1 ∨ jfr h.1 (pc + 3, lv, st') = true) (b1 : h1.2.1 ≤ cE) (b2 : h1.2.2.1 ≤ sE)
    (k : jW ((p, l, e, R, s), (m, args, below, meth, c), (D, g), (A, n, n0, a0), (c0, s0, cE, sE), Q) (pc + 3, lv, r.toList ++ st') h1) : W p l e R s m args below meth c H locs cells slots Q (F0 m pc ls st0) := by
  have hsub := hq.sub C
  intro T hT X
  obtain ⟨v, st₀, t, T', L, h0, X', hL, e1, e2, ⟨⟨a', hv, k1, k2, k3, kR⟩, hz, hk⟩, st⟩ := hr T hT X
  cases hv
  rw [h0] at hz hk
  obtain ⟨j1, ⟨v1, v2, v3⟩, j3, j4, j5, j6, j7, j8⟩ := hq
  have hfa : lv.map (fun q => (q.1, tv a' q.2)) = lv.map (fun q => (q.1, tv a q.2)) ∧ st'.map (tv a') = st'.map (tv a) := by
    rcases hfr with h9 | h9
    · rw [k2 h9]; exact ⟨rfl, rfl⟩
    · unfold jfr at h9
      rw [Bool.and_eq_true] at h9
      exact ⟨tvl_congr k1 h9.1, tvs_congr k1 h9.2⟩
  have hqn : jQ ((p, l, e, R, s), (m, args, below, meth, c), (D, g), (A, n, n0, a0), (c0, s0, cE, sE), Q) a' h1 T'.heap (locs ++ L) (cells + (h1.2.1 - h.2.1)) (slots + (h1.2.2.1 - h.2.2.1)) := by
    refine ⟨by rw [e1]; exact kR, ⟨Nat.le_trans v1 (by rw [e1]; exact hz), fun q g1 g2 => ?_, fun q hq => ?_⟩, fun q hq => ?_, fun h9 => ?_, fun q g1 g2 => ?_, Nat.le_trans j6 hle.1, ?_, ?_⟩
    · rw [e1, hk q (Nat.lt_of_lt_of_le g1 v1) (fun z => g2 (hsub q z))]
      exact v2 q g1 g2
    · rcases List.mem_append.mp hq with h | h
      · exact v3 q h
      · exact hsub _ (hL q h)
    · rw [k1 q (Nat.lt_of_lt_of_le hq j6)]
      exact j3 q hq
    · have hh : h.1 = n0 := Nat.le_antisymm (by rw [← h9]; exact hle.1) j6
      rw [k2 (by omega)]
      exact j4 hh
    · rcases Nat.lt_or_ge q h.1 with h9 | h9
      · rw [k1 q h9]
        exact j5 q g1 h9
      · exact Nat.le_trans v1 (k3 q h9 g2)
    · have := hle.2.1; omega
    · have := hle.2.2; omega
  have k' := k a' ls T'.heap (locs ++ L) _ _ (by show lv_has ls n (lv.map _); rw [hfa.1]; exact hl) hqn b1 b2
  have e9 : (r.toList ++ st').map (tv a') = (r.map (tv a')).toList ++ st'.map (tv a) := by
    rw [List.map_append, hfa.2]
    cases r <;> rfl
  obtain ⟨t2, a1, b3⟩ := k' T' rfl X'
  refine ⟨t2, st t2 ?_, b3⟩
  show Steps p.tables e below (T'.setTop (F0 m (pc + 3) ls ((r.map (tv a')).toList ++ st'.map (tv a)))) t2
  rw [← e9]
  exact a1
end JIV2
/-! calls: of an own object, of a plain function, of a constructor -/
def a_inv (μ k ci : Nat) (ct : List (String × Int32)) : JA := fun f h => match f.2.2.drop k with
  | .ref q :: r => match h.2.2.2 q with
    | .inr (c, _) => if c = ci ∧ jcat r ≤ 8 then some (.inr (.inl (μ, .ref q :: (f.2.2.take k).reverse, (f.1 + 3, f.2.1, r), ct))) else none
    | _ => none
  | _ => none
def a_ins (μ k : Nat) : JA := fun f _ => if k ≤ f.2.2.length ∧ jcat (f.2.2.drop k) ≤ 8 then some (.inr (.inl (μ, (f.2.2.take k).reverse, (f.1 + 3, f.2.1, f.2.2.drop k), []))) else none
def a_ini (μ k : Nat) : JA := fun f _ => match f.2.2.drop k with
  | .ref q :: r => if jcat r ≤ 8 then some (.inr (.inl (μ, .ref q :: (f.2.2.take k).reverse, (f.1 + 3, f.2.1, r), []))) else none
  | _ => none
theorem k_call0 {act : JA} (h0 : ∀ f h y, act f h ≠ some (.inl y)) (h1 : ∀ f h y, act f h ≠ some (.inr (.inr y)))
    (hk : ∀ l st h μ as f' ct, act (pc, l, st) h = some (.inr (.inl (μ, as, f', ct))) → ∀ dd X, 1 ≤ dd → jC cc own nm nL dd scr X → jCall tab cc dd X μ as f' ct (pc, l, st) h) : JOk tab cc own nm nL scr pc act := by
  refine ⟨fun l st h f' h' e => absurd e (h0 _ _ _), fun dd X hdd C l st h => ?_⟩
  cases hs : act (pc, l, st) h with
  | none => trivial
  | some z =>
    obtain z | ⟨μ, as, f', ct⟩ | z := z
    · exact absurd hs (h0 _ _ _)
    · exact hk l st h μ as f' ct hs dd X hdd C
    · exact absurd hs (h1 _ _ _)
theorem drop_cons {α : Type} {l : List α} {k : Nat} {x : α} {r : List α} (h : l.drop k = x :: r) : l = l.take k ++ x :: r ∧ (l.take k).length = k := by
  refine ⟨by rw [← h, List.take_append_drop], ?_⟩
  rw [List.length_take]
  have : (l.drop k).length = r.length + 1 := by rw [h]; rfl
  rw [List.length_drop] at this
  omega
end JIV
end
section
section JCO
variable {tab : Nat → JM5} {cc : ByteArray} {own : String} {nm : String × List (Nat × Nat × Nat × Nat)} {nL : Nat} {scr : Option (Nat × (Nat → Int32))} {pc : Nat}
/-- a handler: it stores the exception and answers a number -/
def JCt (cc : ByteArray) (own : String) (nm : String × List (Nat × Nat × Nat × Nat)) (nL pc : Nat) (E : String) (kv : Int32) : Prop := ∃ (pre suf : List ExceptionTableEntry) (x : ExceptionTableEntry) (name : String) (i len : Nat) (z : Int),
  tableOf nm.2 = pre ++ x :: suf ∧ (∀ y ∈ pre, covers y pc = false ∨ (y.catchType ≠ 0 ∧ ∃ nm' : String, Cond.classLink own y.catchType nm' ∈ GW ∧ (E, nm') ∈ NCS)) ∧ covers x pc = true ∧ x.catchType ≠ 0 ∧ Cond.classLink own x.catchType name ∈ GW ∧ Cond.castable E name ∈ NW ∧
  ((∃ n : Fin 4, decode cc x.handlerPc = .ok (.astore_n n, 1) ∧ (n : Nat) = i ∧ len = 1) ∨ (decode cc x.handlerPc = .ok (.astore i, 2) ∧ len = 2)) ∧ i < nL ∧ decode cc (x.handlerPc + len) = .ok (.iconst z, 1) ∧ Int32.ofInt z = kv ∧ decode cc (x.handlerPc + len + 1) = .ok (.ireturn, 1)
theorem j_handler {p : Program} {l : Launch} {e : Env} {R : Room} {s : State} {m : MethodId} {args : Array Value} {below : List Frame} {meth : Method} {c : Code} {D : va_G} {g : Nat → ClassId} {A : Nat → Prop} {n n0 : Nat} {a0 : Nat → Nat} {c0 s0 cE sE : Nat} {Q : State → Prop} {dd : Nat}
    (C : jC cc own nm nL dd scr ((p, l, e, R, s), (m, args, below, meth, c), (D, g), (A, n, n0, a0), (c0, s0, cE, sE), Q)) {E : String} {kv : Int32} (hct : JCt cc own nm nL pc E kv) {a : Nat → Nat} {h1 : JH} {H : Heap} {locs : List Loc} {cells slots : Nat} {ls : Array Slot} {lv : List (Nat × Value)} {rest : List Value}
    (hl : lv_has ls n lv) (hq : jQ ((p, l, e, R, s), (m, args, below, meth, c), (D, g), (A, n, n0, a0), (c0, s0, cE, sE), Q) a h1 H locs cells slots) (b1 : h1.2.1 ≤ cE) (b2 : h1.2.2.1 ≤ sE)
    (hend : jEnd cc ((p, l, e, R, s), (m, args, below, meth, c), (D, g), (A, n, n0, a0), (c0, s0, cE, sE), Q) (some (.int kv)) h1) {q : Addr} {ce : Cell} (hcell : H[q]? = some ce) (hv : ce.vm = .none) (hcl : s.vm.findClass E = some ce.cls) :
    vx_W p l e R s m args below meth c H locs cells slots Q (F0 m pc ls rest) q := by
  obtain ⟨pre, suf, x, name, i, len, z, t1, t2, t3, t4, t5, t6, t7, t8, t9, t10, t11⟩ := hct
  obtain ⟨hx, hb, hown, ⟨hml, hnL⟩, hts, hK, -, -, -, -, -, -, -, htb⟩ := id C
  refine vx_catch hown pre x suf (htb.trans t1) (fun y hy => ?_) t3 t4 (hts _ t5) (va_Nw.use rfl (hK.2.1 _ t6)) hcell hv hcl ?_
  · rcases t2 y hy with h | ⟨h, nm', w1, w2⟩
    · exact Or.inl h
    · exact Or.inr ⟨h, nm', hts _ w1, hK.2.2.2.2 _ w2⟩
  · have go : ∀ (ls' : Array Slot), W p l e R s m args below meth c H locs cells slots Q (F0 m (x.handlerPc + len) ls' []) := fun ls' =>
      lv_iconst hx hb t9 t10 (hend a ls' H locs cells slots _ _ hq b1 b2 t11 (Or.inl ⟨rfl, _, rfl⟩))
    rcases t7 with ⟨n4, d1, d2, rfl⟩ | ⟨d1, rfl⟩
    · exact lv_astore_n hx hb d1 d2 hl (by omega) rfl (fun ls' _ => go ls')
    · exact lv_astore hx hb d1 hl (by omega) rfl (fun ls' _ => go ls')
theorem jLe.of_con {M : JM5} {d : Nat} {as : List Value} {h h1 : JH} {r : Option Value} (k : Con M d as h r h1) : jLe h h1 := k.1
theorem k_inv {μ k ci idx N : Nat} {ct : List (String × Int32)} {M : JM5} {T : u_T} (hM : tab μ = M) (hh : M.2.2.2.2 = none) (hd : decode cc pc = .ok (.invokevirtual idx, 3)) (hc : vwCl[ci]? = some (M.1.cls, T, N)) (h99 : ci < 99)
    (hpl : M.1.cls ≠ "java/lang/invoke/MethodHandle" ∧ M.1.cls ≠ "java/lang/invoke/VarHandle" ∧ (parseMethodDescriptor M.1.desc).map (fun d => d.parameters.length) = some k) (hL : M.2.2.1 ≤ 17)
    (w0 : Cond.code M.1 M.2.1 M.2.2.1 M.2.2.2.1 ∈ GW) (w1 : Cond.methodLink own idx M.1 ∈ GW) (w2 : Cond.instanceMethod M.1 ∈ GW) (w3 : Cond.selects M.1.cls M.1 M.1 ∈ GW) (w4 : Cond.initialized M.1.cls ∈ GW)
    (hct : ∀ z ∈ ct, JCt cc own nm nL pc z.1 z.2) : JOk tab cc own nm nL scr pc (a_inv μ k ci ct) := k_call0 (fun f h y e => by
  unfold a_inv at e
  split at e
  · split at e
    · split at e <;> cases e
    · cases e
  · cases e) (fun f h y e => by
  unfold a_inv at e
  split at e
  · split at e
    · split at e <;> cases e
    · cases e
  · cases e) (by
  intro l st h μ' as f' ct' e dd X hdd C d hde
  unfold a_inv at e
  split at e
  · rename_i q r hdr
    split at e
    · rename_i cx fs hMq
      split at e
      · rename_i hcc
        obtain ⟨rfl, hr⟩ := hcc
        cases e
        have hdr' : st.drop k = .ref q :: r := hdr
        obtain ⟨hst, hlen⟩ := drop_cons hdr'
        obtain ⟨⟨p, ln, e, R, s⟩, ⟨m, args, below, meth, c⟩, ⟨D, g⟩, ⟨A, n, n0, a0⟩, ⟨c0, s0, cE, sE⟩, Q⟩ := X
        have hw : jws M = Cond.code M.1 M.2.1 M.2.2.1 M.2.2.2.1 :: GW := by
          unfold jws jword
          rw [hh]
        have hG : GoodIn GW (wsV own idx M.1.cls M.1 (jws M)) := gw_goodIn (fun w hw2 => by
          unfold wsV at hw2
          rw [hw] at hw2
          simp only [List.cons_append, List.nil_append, List.mem_cons] at hw2
          rcases hw2 with rfl | rfl | rfl | rfl | rfl | hw2
          · exact w1
          · exact w2
          · exact w3
          · exact w4
          · exact w0
          · exact hw2)
        obtain ⟨hx, hb, hown, ⟨hml, hnL⟩, hts, hK, hZ, ⟨r1, r2, r3, r4⟩, -, -, hfl, -, -, -⟩ := id C
        have hstk : ∀ a : Nat → Nat, st.map (tv a) = (((st.take k).reverse).map (tv a)).reverse ++ .ref (a q) :: r.map (tv a) := fun a => by
          rw [List.map_reverse, List.reverse_reverse, ← show tv a (.ref q) = .ref (a q) from rfl, ← List.map_cons, ← List.map_append, ← hst]
        subst hM
        refine ⟨fun rv h1 hcon hfr b1 b2 kk a ls H locs cells slots hl hq g1 g2 => ?_, fun E kv h1 hcon hin b1 b2 hend a ls H locs cells slots hl hq g1 g2 => ?_⟩
        · have b1' : h1.2.1 ≤ cE := b1
          have b2' : h1.2.2.1 ≤ sE := b2
          have hle := hcon.1
          obtain ⟨z1, z2, z3⟩ := id hle
          obtain ⟨hR, -, -, -, -, -, q1, q2⟩ := id hq
          obtain ⟨x1, x2⟩ := hR.okr hMq h99
          have hat := hR.1 q x1 x2
          rw [hMq] at hat
          show W p ln e R s m args below meth c H locs cells slots Q (F0 m pc ls (st.map (tv a)))
          rw [hstk a]
          refine j_after (h1 := h1) (st' := r) (r := rv) C hl hq ?_ hle hfr b1 b2 kk
          exact va_runV (As := ((st.take k).reverse).map (tv a)) (rest := r.map (tv a)) ⟨hx, hb, hml, hown, hts⟩ (hcon.2 ln D g a H.size hfl) (cwV k hts hG hw rfl rfl ⟨rfl, hpl⟩ ⟨by show d + 1 ≤ _; omega, by show 8 + (_ + 11) + 36 * d ≤ _; omega⟩)
            ⟨jPre.blind D g a h H.size _, va_recv hK.1 (va_P1 hat) hc (q0 := 0) rfl, fun U hU hW => ⟨rfl, hq.pre C hU hW⟩⟩ rfl (by rw [List.length_map, List.length_reverse, hlen]) hl.1 rfl (lv_room (by rw [tv_catsum]; exact hr)) hd ⟨by show cells + _ ≤ _; omega, by show slots + _ ≤ _; omega⟩
        · have b1' : h1.2.1 ≤ cE := b1
          have b2' : h1.2.2.1 ≤ sE := b2
          obtain ⟨⟨hle, heq⟩, hcx⟩ := hcon
          obtain ⟨z1, z2, z3⟩ := id hle
          obtain ⟨hR, ⟨v1, v2, v3⟩, j3, j4, j5, j6, q1, q2⟩ := id hq
          obtain ⟨x1, x2⟩ := hR.okr hMq h99
          have hat := hR.1 q x1 x2
          rw [hMq] at hat
          show W p ln e R s m args below meth c H locs cells slots Q (F0 m pc ls (st.map (tv a)))
          rw [hstk a]
          intro T' hT' X'
          have hrun := vx_runV (As := ((st.take k).reverse).map (tv a)) (rest := r.map (tv a)) (g := F0 m pc ls ((((st.take k).reverse).map (tv a)).reverse ++ .ref (a q) :: r.map (tv a))) ⟨hx, hb, hml, hown, hts⟩ (hcx ln D g a H.size hfl) (cwV k hts hG hw rfl rfl ⟨rfl, hpl⟩ ⟨by show d + 1 ≤ _; omega, by show 8 + (_ + 11) + 36 * d ≤ _; omega⟩)
            ⟨jPre.blind D g a h H.size _, va_recv hK.1 (va_P1 hat) hc (q0 := 0) rfl, fun U hU hW => ⟨rfl, hq.pre C hU hW⟩⟩ rfl (by rw [List.length_map, List.length_reverse, hlen]) hl.1 rfl (lv_room (by rw [tv_catsum]; exact hr)) hd ⟨by show cells + _ ≤ _; omega, by show slots + _ ≤ _; omega⟩ T' hT' X'
          rcases hrun with ⟨v, st₀, t, T2, L, h0, X2, hL, e1, e2, hf, st2⟩ | ⟨qx, st₀, t, T2, L, E', ce, h0, X2, hL, e1, e2, ⟨rfl, hR1, hz, hk⟩, hce, hcv, hcl, st2⟩
          · exact hf.elim
          · rw [h0] at hz hk
            have hsub := hq.sub C
            have hqn : jQ ((p, ln, e, R, s), (m, args, below, meth, c), (D, g), (A, n, n0, a0), (c0, s0, cE, sE), Q) a h1 T2.heap (locs ++ L) (cells + (h1.2.1 - h.2.1)) (slots + (h1.2.2.1 - h.2.2.1)) := by
              refine ⟨by rw [e1]; exact hR1, ⟨Nat.le_trans v1 (by rw [e1]; exact hz), fun q g1 g2 => ?_, fun q hq => ?_⟩, j3, fun h9 => j4 (by rw [← heq]; exact h9), fun q g1 g2 => j5 q g1 (by rw [← heq]; exact g2), by rw [heq]; exact j6, ?_, ?_⟩
              · rw [e1, hk q (Nat.lt_of_lt_of_le g1 v1) (fun z => g2 (hsub q (by rw [← heq]; exact z)))]
                exact v2 q g1 g2
              · rcases List.mem_append.mp hq with h | h
                · exact v3 q h
                · exact hsub _ (hL q h)
              · omega
              · omega
            obtain ⟨t2, a1, b3⟩ := j_handler (rest := r.map (tv a)) C (hct _ hin) hl hqn b1 b2 hend (by rw [e1]; exact hce) hcv hcl T2 rfl X2
            exact ⟨t2, st2.trans a1, b3⟩
      · cases e
    · cases e
  · cases e)
end JCO
end
section
section JCS
variable {tab : Nat → JM5} {cc : ByteArray} {own : String} {nm : String × List (Nat × Nat × Nat × Nat)} {nL : Nat} {scr : Option (Nat × (Nat → Int32))} {pc : Nat}
theorem k_ins {μ k idx : Nat} {M : JM5} (hM : tab μ = M) (hh : M.2.2.2.2 = none) (hd : decode cc pc = .ok (.invokestatic idx, 3))
    (hpl : M.1.cls ≠ "java/lang/invoke/MethodHandle" ∧ M.1.cls ≠ "java/lang/invoke/VarHandle" ∧ (parseMethodDescriptor M.1.desc).map (fun d => d.parameters.length) = some k) (hL : M.2.2.1 ≤ 17)
    (w0 : Cond.code M.1 M.2.1 M.2.2.1 M.2.2.2.1 ∈ GW) (w1 : Cond.methodLink own idx M.1 ∈ GW) (w2 : Cond.static M.1 ∈ GW) (w3 : Cond.initialized M.1.cls ∈ GW) : JOk tab cc own nm nL scr pc (a_ins μ k) := k_call0 (fun f h y e => by
  unfold a_ins at e
  split at e <;> cases e) (fun f h y e => by
  unfold a_ins at e
  split at e <;> cases e) (by
  intro l st h μ' as f' ct' e dd X hdd C d hde
  unfold a_ins at e
  split at e
  · rename_i hcc
    obtain ⟨hlen, hr⟩ := hcc
    cases e
    have hlen' : k ≤ st.length := hlen
    have hr' : jcat (st.drop k) ≤ 8 := hr
    obtain ⟨⟨p, ln, e, R, s⟩, ⟨m, args, below, meth, c⟩, ⟨D, g⟩, ⟨A, n, n0, a0⟩, ⟨c0, s0, cE, sE⟩, Q⟩ := X
    have hw : jws M = Cond.code M.1 M.2.1 M.2.2.1 M.2.2.2.1 :: GW := by
      unfold jws jword
      rw [hh]
    obtain ⟨hx, hb, hown, ⟨hml, hnL⟩, hts, hK, hZ, ⟨r1, r2, r3, r4⟩, -, -, hfl, -, -, -⟩ := id C
    have hstk : ∀ a : Nat → Nat, st.map (tv a) = (((st.take k).reverse).map (tv a)).reverse ++ (st.drop k).map (tv a) := fun a => by
      rw [List.map_reverse, List.reverse_reverse, ← List.map_append, List.take_append_drop]
    subst hM
    refine ⟨fun rv h1 hcon hfr b1 b2 kk a ls H locs cells slots hl hq g1 g2 => ?_, fun E kv h1 hcon hin => absurd hin List.not_mem_nil⟩
    have b1' : h1.2.1 ≤ cE := b1
    have b2' : h1.2.2.1 ≤ sE := b2
    have hle := hcon.1
    obtain ⟨z1, z2, z3⟩ := id hle
    obtain ⟨hR, -, -, -, -, -, q1, q2⟩ := id hq
    show W p ln e R s m args below meth c H locs cells slots Q (F0 m pc ls (st.map (tv a)))
    rw [hstk a]
    refine j_after (h1 := h1) (st' := st.drop k) (r := rv) C hl hq ?_ hle hfr b1 b2 kk
    exact va_runS (As := ((st.take k).reverse).map (tv a)) (rest := (st.drop k).map (tv a)) ⟨hx, hb, hml, hown, hts⟩ (hcon.2 ln D g a H.size hfl) (va_cwS k hts (gw_goodIn (fun w hw2 => by
          unfold va_wsS at hw2
          rw [hw] at hw2
          simp only [List.cons_append, List.nil_append, List.mem_cons] at hw2
          rcases hw2 with rfl | rfl | rfl | rfl | hw2
          · exact w1
          · exact w2
          · exact w3
          · exact w0
          · exact hw2)) hw rfl rfl hpl ⟨by show d + 1 ≤ _; omega, by show 8 + (_ + 11) + 36 * d ≤ _; omega⟩)
      ⟨jPre.blind D g a h H.size _, fun U hU hW => ⟨rfl, hq.pre C hU hW⟩⟩ rfl (by rw [List.length_map, List.length_reverse, List.length_take]; omega) hl.1 rfl (lv_room (by rw [tv_catsum]; exact hr')) hd ⟨by show cells + _ ≤ _; omega, by show slots + _ ≤ _; omega⟩
  · cases e)
theorem k_insW {μ k idx : Nat} {M : JM5} {hh0 : List (Nat × Nat × Nat × Nat)} (hM : tab μ = M) (hh : M.2.2.2.2 = some hh0) (hd : decode cc pc = .ok (.invokestatic idx, 3))
    (hpl : M.1.cls ≠ "java/lang/invoke/MethodHandle" ∧ M.1.cls ≠ "java/lang/invoke/VarHandle" ∧ (parseMethodDescriptor M.1.desc).map (fun d => d.parameters.length) = some k) (hL : M.2.2.1 ≤ 17)
    (w0 : Cond.codeWith M.1 M.2.1 M.2.2.1 M.2.2.2.1 hh0 ∈ GW) (w1 : Cond.methodLink own idx M.1 ∈ GW) (w2 : Cond.static M.1 ∈ GW) (w3 : Cond.initialized M.1.cls ∈ GW) : JOk tab cc own nm nL scr pc (a_ins μ k) := k_call0 (fun f h y e => by
  unfold a_ins at e
  split at e <;> cases e) (fun f h y e => by
  unfold a_ins at e
  split at e <;> cases e) (by
  intro l st h μ' as f' ct' e dd X hdd C d hde
  unfold a_ins at e
  split at e
  · rename_i hcc
    obtain ⟨hlen, hr⟩ := hcc
    cases e
    have hlen' : k ≤ st.length := hlen
    have hr' : jcat (st.drop k) ≤ 8 := hr
    obtain ⟨⟨p, ln, e, R, s⟩, ⟨m, args, below, meth, c⟩, ⟨D, g⟩, ⟨A, n, n0, a0⟩, ⟨c0, s0, cE, sE⟩, Q⟩ := X
    have hw : jws M = Cond.codeWith M.1 M.2.1 M.2.2.1 M.2.2.2.1 hh0 :: GW := by
      unfold jws jword
      rw [hh]
    obtain ⟨hx, hb, hown, ⟨hml, hnL⟩, hts, hK, hZ, ⟨r1, r2, r3, r4⟩, -, -, hfl, -, -, -⟩ := id C
    have hstk : ∀ a : Nat → Nat, st.map (tv a) = (((st.take k).reverse).map (tv a)).reverse ++ (st.drop k).map (tv a) := fun a => by
      rw [List.map_reverse, List.reverse_reverse, ← List.map_append, List.take_append_drop]
    subst hM
    refine ⟨fun rv h1 hcon hfr b1 b2 kk a ls H locs cells slots hl hq g1 g2 => ?_, fun E kv h1 hcon hin => absurd hin List.not_mem_nil⟩
    have b1' : h1.2.1 ≤ cE := b1
    have b2' : h1.2.2.1 ≤ sE := b2
    have hle := hcon.1
    obtain ⟨z1, z2, z3⟩ := id hle
    obtain ⟨hR, -, -, -, -, -, q1, q2⟩ := id hq
    show W p ln e R s m args below meth c H locs cells slots Q (F0 m pc ls (st.map (tv a)))
    rw [hstk a]
    refine j_after (h1 := h1) (st' := st.drop k) (r := rv) C hl hq ?_ hle hfr b1 b2 kk
    exact vx_runSW (As := ((st.take k).reverse).map (tv a)) (rest := (st.drop k).map (tv a)) ⟨hx, hb, hml, hown, hts⟩ (hcon.2 ln D g a H.size hfl) (vx_cwSW k hts (gw_goodIn (fun w hw2 => by
          unfold va_wsS at hw2
          rw [hw] at hw2
          simp only [List.cons_append, List.nil_append, List.mem_cons] at hw2
          rcases hw2 with rfl | rfl | rfl | rfl | hw2
          · exact w1
          · exact w2
          · exact w3
          · exact w0
          · exact hw2)) hw rfl rfl hpl ⟨by show d + 1 ≤ _; omega, by show 8 + (_ + 11) + 36 * d ≤ _; omega⟩)
      ⟨jPre.blind D g a h H.size _, fun U hU hW => ⟨rfl, hq.pre C hU hW⟩⟩ rfl (by rw [List.length_map, List.length_reverse, List.length_take]; omega) hl.1 rfl (lv_room (by rw [tv_catsum]; exact hr')) hd ⟨by show cells + _ ≤ _; omega, by show slots + _ ≤ _; omega⟩
  · cases e)
theorem k_insN {μ k idx : Nat} {M : JM5} {host : String} (hM : tab μ = M) (hh : M.2.2.2.2 = none) (hd : decode cc pc = .ok (.invokestatic idx, 3))
    (hpl : M.1.cls ≠ "java/lang/invoke/MethodHandle" ∧ M.1.cls ≠ "java/lang/invoke/VarHandle" ∧ (parseMethodDescriptor M.1.desc).map (fun d => d.parameters.length) = some k) (hL : M.2.2.1 ≤ 17)
    (w0 : Cond.code M.1 M.2.1 M.2.2.1 M.2.2.2.1 ∈ GW) (w1 : Cond.methodLinkNest own idx M.1 host ∈ NW) (w2 : Cond.static M.1 ∈ GW) (w3 : Cond.initialized M.1.cls ∈ GW) : JOk tab cc own nm nL scr pc (a_ins μ k) := k_call0 (fun f h y e => by
  unfold a_ins at e
  split at e <;> cases e) (fun f h y e => by
  unfold a_ins at e
  split at e <;> cases e) (by
  intro l st h μ' as f' ct' e dd X hdd C d hde
  unfold a_ins at e
  split at e
  · rename_i hcc
    obtain ⟨hlen, hr⟩ := hcc
    cases e
    have hlen' : k ≤ st.length := hlen
    have hr' : jcat (st.drop k) ≤ 8 := hr
    obtain ⟨⟨p, ln, e, R, s⟩, ⟨m, args, below, meth, c⟩, ⟨D, g⟩, ⟨A, n, n0, a0⟩, ⟨c0, s0, cE, sE⟩, Q⟩ := X
    have hw : jws M = Cond.code M.1 M.2.1 M.2.2.1 M.2.2.2.1 :: GW := by
      unfold jws jword
      rw [hh]
    obtain ⟨hx, hb, hown, ⟨hml, hnL⟩, hts, hK, hZ, ⟨r1, r2, r3, r4⟩, -, -, hfl, -, -, -⟩ := id C
    have hstk : ∀ a : Nat → Nat, st.map (tv a) = (((st.take k).reverse).map (tv a)).reverse ++ (st.drop k).map (tv a) := fun a => by
      rw [List.map_reverse, List.reverse_reverse, ← List.map_append, List.take_append_drop]
    subst hM
    refine ⟨fun rv h1 hcon hfr b1 b2 kk a ls H locs cells slots hl hq g1 g2 => ?_, fun E kv h1 hcon hin => absurd hin List.not_mem_nil⟩
    have b1' : h1.2.1 ≤ cE := b1
    have b2' : h1.2.2.1 ≤ sE := b2
    have hle := hcon.1
    obtain ⟨z1, z2, z3⟩ := id hle
    obtain ⟨hR, -, -, -, -, -, q1, q2⟩ := id hq
    show W p ln e R s m args below meth c H locs cells slots Q (F0 m pc ls (st.map (tv a)))
    rw [hstk a]
    refine j_after (h1 := h1) (st' := st.drop k) (r := rv) C hl hq ?_ hle hfr b1 b2 kk
    exact va_runSN (host := host) (As := ((st.take k).reverse).map (tv a)) (rest := (st.drop k).map (tv a)) ⟨hx, hb, hml, hown, hts⟩ (hcon.2 ln D g a H.size hfl) ⟨va_cnB k hts (gw_goodIn (fun w hw2 => by rw [hw] at hw2; exact (List.mem_cons.mp hw2).elim (fun e => e ▸ w0) id)) hw rfl rfl (hK.2.1 _ w1) (hts _ w3) hpl ⟨by show d + 1 ≤ _; omega, by show 8 + (_ + 11) + 36 * d ≤ _; omega⟩, hts _ w2, trivial⟩
      ⟨jPre.blind D g a h H.size _, fun U hU hW => ⟨rfl, hq.pre C hU hW⟩⟩ rfl (by rw [List.length_map, List.length_reverse, List.length_take]; omega) hl.1 rfl (lv_room (by rw [tv_catsum]; exact hr')) hd ⟨by show cells + _ ≤ _; omega, by show slots + _ ≤ _; omega⟩
  · cases e)
theorem k_ini {μ k idx : Nat} {M : JM5} (hM : tab μ = M) (hh : M.2.2.2.2 = none) (hret : M.2.2.2.1 = none) (hin0 : M.1.name = "<init>") (hd : decode cc pc = .ok (.invokespecial idx, 3))
    (hpl : M.1.cls ≠ "java/lang/invoke/MethodHandle" ∧ M.1.cls ≠ "java/lang/invoke/VarHandle" ∧ (parseMethodDescriptor M.1.desc).map (fun d => d.parameters.length) = some k) (hL : M.2.2.1 ≤ 17)
    (w0 : Cond.code M.1 M.2.1 M.2.2.1 M.2.2.2.1 ∈ GW) (w1 : Cond.methodLink own idx M.1 ∈ GW) (w2 : Cond.instanceMethod M.1 ∈ GW) (w3 : Cond.initialized M.1.cls ∈ GW) : JOk tab cc own nm nL scr pc (a_ini μ k) := k_call0 (fun f h y e => by
  unfold a_ini at e
  split at e
  · split at e <;> cases e
  · cases e) (fun f h y e => by
  unfold a_ini at e
  split at e
  · split at e <;> cases e
  · cases e) (by
  intro l st h μ' as f' ct' e dd X hdd C d hde
  unfold a_ini at e
  split at e
  · rename_i q r hdr
    split at e
    · rename_i hr
      cases e
      have hdr' : st.drop k = .ref q :: r := hdr
      obtain ⟨hst, hlen⟩ := drop_cons hdr'
      obtain ⟨⟨p, ln, e, R, s⟩, ⟨m, args, below, meth, c⟩, ⟨D, g⟩, ⟨A, n, n0, a0⟩, ⟨c0, s0, cE, sE⟩, Q⟩ := X
      have hw : jws M = Cond.code M.1 M.2.1 M.2.2.1 none :: GW := by
        unfold jws jword
        rw [hh, hret]
      have w0' : Cond.code M.1 M.2.1 M.2.2.1 none ∈ GW := hret ▸ w0
      obtain ⟨hx, hb, hown, ⟨hml, hnL⟩, hts, hK, hZ, ⟨r1, r2, r3, r4⟩, -, -, hfl, -, -, -⟩ := id C
      have hstk : ∀ a : Nat → Nat, st.map (tv a) = (((st.take k).reverse).map (tv a)).reverse ++ .ref (a q) :: r.map (tv a) := fun a => by
        rw [List.map_reverse, List.reverse_reverse, ← show tv a (.ref q) = .ref (a q) from rfl, ← List.map_cons, ← List.map_append, ← hst]
      subst hM
      refine ⟨fun rv h1 hcon hfr b1 b2 kk a ls H locs cells slots hl hq g1 g2 => ?_, fun E kv h1 hcon hin => absurd hin List.not_mem_nil⟩
      have b1' : h1.2.1 ≤ cE := b1
      have b2' : h1.2.2.1 ≤ sE := b2
      have hle := hcon.1
      obtain ⟨z1, z2, z3⟩ := id hle
      obtain ⟨hR, -, -, -, -, -, q1, q2⟩ := id hq
      show W p ln e R s m args below meth c H locs cells slots Q (F0 m pc ls (st.map (tv a)))
      rw [hstk a]
      refine j_after (h1 := h1) (st' := r) (r := rv) C hl hq ?_ hle hfr b1 b2 kk
      exact va_runI (As := ((st.take k).reverse).map (tv a)) (rest := r.map (tv a)) ⟨hx, hb, hml, hown, hts⟩ (hcon.2 ln D g a H.size hfl) (cwI k hts (gw_goodIn (fun w hw2 => by rw [hw] at hw2; exact (List.mem_cons.mp hw2).elim (fun e => e ▸ w0') id)) hw rfl rfl (hts _ w3) (hts _ w1) (hts _ w2) hin0 hpl ⟨by show d + 1 ≤ _; omega, by show 8 + (_ + 11) + 36 * d ≤ _; omega⟩)
        ⟨jPre.blind D g a h H.size _, fun U hU hW => ⟨rfl, hq.pre C hU hW⟩⟩ rfl (by rw [List.length_map, List.length_reverse, hlen]) hl.1 rfl (lv_room (by rw [tv_catsum]; exact hr)) hd ⟨by show cells + _ ≤ _; omega, by show slots + _ ≤ _; omega⟩
    · cases e
  · cases e)
theorem k_iniN {μ k idx : Nat} {M : JM5} {host : String} (hM : tab μ = M) (hh : M.2.2.2.2 = none) (hret : M.2.2.2.1 = none) (hin0 : M.1.name = "<init>") (hd : decode cc pc = .ok (.invokespecial idx, 3))
    (hpl : M.1.cls ≠ "java/lang/invoke/MethodHandle" ∧ M.1.cls ≠ "java/lang/invoke/VarHandle" ∧ (parseMethodDescriptor M.1.desc).map (fun d => d.parameters.length) = some k) (hL : M.2.2.1 ≤ 17)
    (w0 : Cond.code M.1 M.2.1 M.2.2.1 M.2.2.2.1 ∈ GW) (w1 : Cond.methodLinkNest own idx M.1 host ∈ NW) (w2 : Cond.instanceMethod M.1 ∈ GW) (w3 : Cond.initialized M.1.cls ∈ GW) : JOk tab cc own nm nL scr pc (a_ini μ k) := k_call0 (fun f h y e => by
  unfold a_ini at e
  split at e
  · split at e <;> cases e
  · cases e) (fun f h y e => by
  unfold a_ini at e
  split at e
  · split at e <;> cases e
  · cases e) (by
  intro l st h μ' as f' ct' e dd X hdd C d hde
  unfold a_ini at e
  split at e
  · rename_i q r hdr
    split at e
    · rename_i hr
      cases e
      have hdr' : st.drop k = .ref q :: r := hdr
      obtain ⟨hst, hlen⟩ := drop_cons hdr'
      obtain ⟨⟨p, ln, e, R, s⟩, ⟨m, args, below, meth, c⟩, ⟨D, g⟩, ⟨A, n, n0, a0⟩, ⟨c0, s0, cE, sE⟩, Q⟩ := X
      have hw : jws M = Cond.code M.1 M.2.1 M.2.2.1 none :: GW := by
        unfold jws jword
        rw [hh, hret]
      have w0' : Cond.code M.1 M.2.1 M.2.2.1 none ∈ GW := hret ▸ w0
      obtain ⟨hx, hb, hown, ⟨hml, hnL⟩, hts, hK, hZ, ⟨r1, r2, r3, r4⟩, -, -, hfl, -, -, -⟩ := id C
      have hstk : ∀ a : Nat → Nat, st.map (tv a) = (((st.take k).reverse).map (tv a)).reverse ++ .ref (a q) :: r.map (tv a) := fun a => by
        rw [List.map_reverse, List.reverse_reverse, ← show tv a (.ref q) = .ref (a q) from rfl, ← List.map_cons, ← List.map_append, ← hst]
      subst hM
      refine ⟨fun rv h1 hcon hfr b1 b2 kk a ls H locs cells slots hl hq g1 g2 => ?_, fun E kv h1 hcon hin => absurd hin List.not_mem_nil⟩
      have b1' : h1.2.1 ≤ cE := b1
      have b2' : h1.2.2.1 ≤ sE := b2
      have hle := hcon.1
      obtain ⟨z1, z2, z3⟩ := id hle
      obtain ⟨hR, -, -, -, -, -, q1, q2⟩ := id hq
      show W p ln e R s m args below meth c H locs cells slots Q (F0 m pc ls (st.map (tv a)))
      rw [hstk a]
      refine j_after (h1 := h1) (st' := r) (r := rv) C hl hq ?_ hle hfr b1 b2 kk
      exact va_runIN (host := host) (As := ((st.take k).reverse).map (tv a)) (rest := r.map (tv a)) ⟨hx, hb, hml, hown, hts⟩ (hcon.2 ln D g a H.size hfl) ⟨va_cnB k hts (gw_goodIn (fun w hw2 => by rw [hw] at hw2; exact (List.mem_cons.mp hw2).elim (fun e => e ▸ w0') id)) hw rfl rfl (hK.2.1 _ w1) (hts _ w3) hpl ⟨by show d + 1 ≤ _; omega, by show 8 + (_ + 11) + 36 * d ≤ _; omega⟩, hin0, hts _ w2⟩
        ⟨jPre.blind D g a h H.size _, fun U hU hW => ⟨rfl, hq.pre C hU hW⟩⟩ rfl (by rw [List.length_map, List.length_reverse, hlen]) hl.1 rfl (lv_room (by rw [tv_catsum]; exact hr)) hd ⟨by show cells + _ ≤ _; omega, by show slots + _ ≤ _; omega⟩
    · cases e
  · cases e)
end JCS
end
section
section JTH
/-- the superiors of the exceptions that the program throws -/
def thN : List String := ["java/lang/RuntimeException", "java/lang/Exception"]
theorem nw_tab : ∀ w ∈ NW, w.onTables = true := fun w hw => by
  rcases nw_form w hw with ⟨a, i, x, k, rfl⟩ | ⟨a, b, rfl⟩ | ⟨x, rfl⟩ <;> rfl
theorem th_ot : ∀ w, (w ∈ GW ∨ w ∈ NW) → vx_ot w = true := fun w hw => by
  unfold vx_ot
  rcases hw with h | h
  · rw [gw_good w h, Bool.or_true]
  · rw [nw_tab w h, Bool.true_or]
theorem th_at {D : va_G} {g : Nat → ClassId} {args : Array Value} {s : State} (hts : ∀ w ∈ GW, w.before args s = true) (hK : jK D g s) : ∀ w, (w ∈ GW ∨ w ∈ NW) → w.before args s = true := fun w hw => by
  rcases hw with h | h
  · exact hts w h
  · exact va_Nw.use (nw_tab w h) (hK.2.1 w h)
variable {tab : Nat → JM5} {cc : ByteArray} {own : String} {nm : String × List (Nat × Nat × Nat × Nat)} {nL : Nat} {scr : Option (Nat × (Nat → Int32))} {pc : Nat}
def a_thr (E : String) : JA := fun f _ => if jcat f.2.2 ≤ 8 then some (.inr (.inr (.inr E))) else none
theorem k_thr {E text : String} {ik is ic : Nat} (hfit : Bundle.fit E = true) (w1 : Cond.classLink own ik E ∈ GW) (w2 : Cond.initialized E ∈ GW) (w3 : (own, is, text) ∈ STR) (w4 : ∀ w ∈ vx_atS own ic E thN, w ∈ GW ∨ w ∈ NW)
    (d0 : decode cc pc = .ok (.new ik, 3)) (d3 : decode cc (pc + 3) = .ok (.dup, 1)) (d4 : decode cc (pc + 4) = .ok (.ldc is, 2)) (d6 : decode cc (pc + 6) = .ok (.invokespecial ic, 3)) (d9 : decode cc (pc + 9) = .ok (.athrow, 1)) : JOk tab cc own nm nL scr pc (a_thr E) := by
  refine ⟨fun l st h f' h' e => ?_, fun dd X hdd C l st h => ?_⟩
  · unfold a_thr at e
    split at e <;> cases e
  · show jDo tab cc dd X (pc, l, st) h (if jcat st ≤ 8 then some (.inr (.inr (.inr E))) else none)
    split
    · rename_i hr
      obtain ⟨⟨p, ln, e, R, s⟩, ⟨m, args, below, meth, c⟩, ⟨D, g⟩, ⟨A, n, n0, a0⟩, ⟨c0, s0, cE, sE⟩, Q⟩ := X
      intro h6 hend a ls H locs cells slots hl hq g1 g2
      obtain ⟨hx, hb, hown, ⟨hml, hnL⟩, hts, hK, ⟨hZ1, hZ2⟩, ⟨r1, r2, r3, r4⟩, -, -, hfl, hlk, -, -⟩ := id C
      obtain ⟨Qc, XC, mc, ms, free, rfl, hno, hxc, hfree, hmc, hms, hmR, hsR⟩ := hend a H locs cells slots hq
      obtain ⟨sa, hstr⟩ := hK.2.2.2.1 _ w3
      have hr' : ((st.map (tv a)).map fun v => v.category).sum ≤ 8 := by rw [tv_catsum]; exact hr
      refine vx_throwS (sa := sa) (names := thN) hx hb hfl hown hfit (by decide +kernel) (hts _ w1) (hts _ w2) hstr (fun w hw => th_at hts hK w (w4 w hw)) (fun w hw => ?_) hZ1 hZ2 hq.2.1 (hl.1.trans hml.symm) d0 d3 d4 d6 d9 (fun x hx => (hno x hx).elim) (by show 2 + 3 < _; omega) (by show ((st.map (tv a)).map fun v => v.category).sum + (13 * (2 + 1) + 43) ≤ _; omega) (by omega) (by omega) hlk hxc hfree hmc hms
      rcases List.mem_cons.mp hw with rfl | hw
      · exact th_ot _ (Or.inl w1)
      · rcases List.mem_cons.mp hw with rfl | hw
        · exact th_ot _ (Or.inl w2)
        · exact th_ot _ (w4 w hw)
    · trivial
theorem k_thrW {E text : String} {ik is ic : Nat} (hfit : Bundle.fit E = true) (w1 : Cond.classLink own ik E ∈ GW) (w2 : Cond.initialized E ∈ GW) (w3 : (own, is, text) ∈ STR) (w4 : ∀ w ∈ vx_atS own ic E thN, w ∈ GW ∨ w ∈ NW)
    (d0 : decode cc pc = .ok (.new ik, 3)) (d3 : decode cc (pc + 3) = .ok (.dup, 1)) (d4 : decode cc (pc + 4) = .ok (.ldc_w is, 3)) (d7 : decode cc (pc + 7) = .ok (.invokespecial ic, 3)) (d10 : decode cc (pc + 10) = .ok (.athrow, 1)) : JOk tab cc own nm nL scr pc (a_thr E) := by
  refine ⟨fun l st h f' h' e => ?_, fun dd X hdd C l st h => ?_⟩
  · unfold a_thr at e
    split at e <;> cases e
  · show jDo tab cc dd X (pc, l, st) h (if jcat st ≤ 8 then some (.inr (.inr (.inr E))) else none)
    split
    · rename_i hr
      obtain ⟨⟨p, ln, e, R, s⟩, ⟨m, args, below, meth, c⟩, ⟨D, g⟩, ⟨A, n, n0, a0⟩, ⟨c0, s0, cE, sE⟩, Q⟩ := X
      intro h6 hend a ls H locs cells slots hl hq g1 g2
      obtain ⟨hx, hb, hown, ⟨hml, hnL⟩, hts, hK, ⟨hZ1, hZ2⟩, ⟨r1, r2, r3, r4⟩, -, -, hfl, hlk, -, -⟩ := id C
      obtain ⟨Qc, XC, mc, ms, free, rfl, hno, hxc, hfree, hmc, hms, hmR, hsR⟩ := hend a H locs cells slots hq
      obtain ⟨sa, hstr⟩ := hK.2.2.2.1 _ w3
      have hr' : ((st.map (tv a)).map fun v => v.category).sum ≤ 8 := by rw [tv_catsum]; exact hr
      refine vx_throwSW (sa := sa) (names := thN) hx hb hfl hown hfit (by decide +kernel) (hts _ w1) (hts _ w2) hstr (fun w hw => th_at hts hK w (w4 w hw)) (fun w hw => ?_) hZ1 hZ2 hq.2.1 (hl.1.trans hml.symm) d0 d3 d4 d7 d10 (fun x hx => (hno x hx).elim) (by show 2 + 3 < _; omega) (by show ((st.map (tv a)).map fun v => v.category).sum + (13 * (2 + 1) + 43) ≤ _; omega) (by omega) (by omega) hlk hxc hfree hmc hms
      rcases List.mem_cons.mp hw with rfl | hw
      · exact th_ot _ (Or.inl w1)
      · rcases List.mem_cons.mp hw with rfl | hw
        · exact th_ot _ (Or.inl w2)
        · exact th_ot _ (w4 w hw)
    · trivial
end JTH
theorem th_split {own X : String} {ic : Nat} (h : ∀ w ∈ Bundle.ownAtoms own ic X thN, vx_no w = true → w ∈ GW ∨ w ∈ NW) : ∀ w ∈ vx_atS own ic X thN, w ∈ GW ∨ w ∈ NW := fun w hw => h w (List.mem_filter.mp hw).1 (List.mem_filter.mp hw).2
theorem th_w42 : ∀ w ∈ vx_atS RX6 42 "java/lang/IllegalArgumentException" thN, w ∈ GW ∨ w ∈ NW := th_split (by
  unfold Bundle.ownAtoms Bundle.throwableAtoms Bundle.throwableSAtoms thN
  simp only [Bundle.chainSAtoms, Bundle.passSAtoms, List.cons_append, List.nil_append, List.append_assoc, List.forall_mem_cons]
  repeat' apply And.intro
  all_goals first
    | exact fun _ => Or.inl (gw_of (by decide +kernel) rfl)
    | exact fun _ => Or.inr (by decide +kernel)
    | exact fun h => absurd h (by decide +kernel)
    | exact fun _ h => absurd h List.not_mem_nil)
theorem th_w63 : ∀ w ∈ vx_atS RX6 63 "java/lang/IndexOutOfBoundsException" thN, w ∈ GW ∨ w ∈ NW := th_split (by
  unfold Bundle.ownAtoms Bundle.throwableAtoms Bundle.throwableSAtoms thN
  simp only [Bundle.chainSAtoms, Bundle.passSAtoms, List.cons_append, List.nil_append, List.append_assoc, List.forall_mem_cons]
  repeat' apply And.intro
  all_goals first
    | exact fun _ => Or.inl (gw_of (by decide +kernel) rfl)
    | exact fun _ => Or.inr (by decide +kernel)
    | exact fun h => absurd h (by decide +kernel)
    | exact fun _ h => absurd h List.not_mem_nil)
theorem th_w117 : ∀ w ∈ vx_atS RX6 117 "java/lang/IllegalStateException" thN, w ∈ GW ∨ w ∈ NW := th_split (by
  unfold Bundle.ownAtoms Bundle.throwableAtoms Bundle.throwableSAtoms thN
  simp only [Bundle.chainSAtoms, Bundle.passSAtoms, List.cons_append, List.nil_append, List.append_assoc, List.forall_mem_cons]
  repeat' apply And.intro
  all_goals first
    | exact fun _ => Or.inl (gw_of (by decide +kernel) rfl)
    | exact fun _ => Or.inr (by decide +kernel)
    | exact fun h => absurd h (by decide +kernel)
    | exact fun _ h => absurd h List.not_mem_nil)
end
section
/-! runs, and their soundness -/
def jlk (cd : List (Nat × JA)) (pc : Nat) : Option JA := match cd with
  | [] => none
  | q :: r => if q.1 = pc then some q.2 else jlk r pc
theorem jlk_mem {pc : Nat} {act : JA} : ∀ {cd : List (Nat × JA)}, jlk cd pc = some act → (pc, act) ∈ cd
  | [], h => by cases h
  | q :: r, h => by
    unfold jlk at h
    by_cases e : q.1 = pc
    · rw [if_pos e] at h
      cases h
      rw [← e]
      exact List.mem_cons_self
    · rw [if_neg e] at h
      exact List.mem_cons_of_mem _ (jlk_mem h)
abbrev JE : Type := Nat → List Value → JH → JO → JH → Prop
def jbump (h : JH) : JH := (h.1, h.2.1 + 1, h.2.2.1 + 6, h.2.2.2)
def jst (E : JE) (K : JF → JH → JO → JH → Prop) (r : Option ((JF × JH) ⊕ ((Nat × List Value × JF × List (String × Int32)) ⊕ JO))) (h : JH) (o : JO) (hf : JH) : Prop := match r with
  | none => False
  | some (.inl (f', h')) => K f' h' o hf
  | some (.inr (.inl (μ, as, f', ct))) => (∃ rv h1, E μ as h (.inl rv) h1 ∧ (h1.1 = h.1 ∨ jfr h.1 f' = true) ∧ K (f'.1, f'.2.1, rv.toList ++ f'.2.2) h1 o hf) ∨ (∃ X kv h1, E μ as h (.inr X) h1 ∧ (X, kv) ∈ ct ∧ o = .inl (some (.int kv)) ∧ hf = h1)
  | some (.inr (.inr (.inl v))) => o = .inl v ∧ hf = h
  | some (.inr (.inr (.inr X))) => o = .inr X ∧ hf = jbump h
def JG (E : JE) (cd : List (Nat × JA)) : Nat → JF → JH → JO → JH → Prop
  | 0, _, _, _, _ => False
  | k + 1, f, h, o, hf => ∃ act, jlk cd f.1 = some act ∧ jst E (JG E cd k) (act f h) h o hf
def jrv (ret : Option FieldType) (v : Option Value) : Prop := match ret, v with
  | none, none => True
  | some .int, some (.int _) => True
  | some .boolean, some (.int x) => x = 0 ∨ x = 1
  | some .long, some (.long _) => True
  | some .double, some (.double _) => True
  | _, _ => False
def jchk (d : Nat) (M : JM5) (as : List Value) (o : JO) : Prop := (lg_sl as).length ≤ M.2.2.1 ∧ match o with
  | .inl v => jrv M.2.2.2.1 v
  | .inr _ => 6 ≤ d ∧ M.2.2.2.2 = none
def Ev (tab : Nat → JM5) (code : Nat → List (Nat × JA)) : Nat → JE
  | 0 => fun _ _ _ _ _ => False
  | d + 1 => fun μ as h o hf => jchk (d + 1) (tab μ) as o ∧ (∀ x, o = .inr x → hf.1 = h.1) ∧ ∃ k, JG (Ev tab code d) (code μ) k (0, lv_args 0 as, []) h o hf
section JSND
variable {tab : Nat → JM5} {code : Nat → List (Nat × JA)}
def jEok (tab : Nat → JM5) (d : Nat) (E : JE) : Prop := ∀ μ as h, (∀ r h1, E μ as h (.inl r) h1 → Con (tab μ) d as h r h1) ∧ (∀ x h1, E μ as h (.inr x) h1 → ConX (tab μ) d as h x h1)
def jFin (cc : ByteArray) (X : JX) (dd : Nat) (o : JO) (hf : JH) : Prop := match o with
  | .inl v => jEnd cc X v hf
  | .inr x => 6 ≤ dd ∧ ∀ h, hf = jbump h → jEndX X x h
theorem jbump_le (h : JH) : jLe h (jbump h) := ⟨Nat.le_refl _, Nat.le_add_right _ _, Nat.le_add_right _ _⟩
theorem run_le {E : JE} {d : Nat} {cc : ByteArray} {own : String} {nm : String × List (Nat × Nat × Nat × Nat)} {nL : Nat} {scr : Option (Nat × (Nat → Int32))} {cd : List (Nat × JA)} (hE : jEok tab d E) (hcd : ∀ q ∈ cd, JOk tab cc own nm nL scr q.1 q.2) {o : JO} {hf : JH} : ∀ (k : Nat) (f : JF) (h : JH), JG E cd k f h o hf → jLe h hf
  | 0, _, _, h => h.elim
  | k + 1, (pc, l, st), h, ⟨act, hlk, hst⟩ => by
    have ok := hcd _ (jlk_mem hlk)
    cases ha : act (pc, l, st) h with
    | none => rw [ha] at hst; exact hst.elim
    | some z =>
      rw [ha] at hst
      obtain ⟨f', h'⟩ | ⟨μ, as, f', ct⟩ | v | x := z
      · exact (ok.1 l st h f' h' ha).trans (run_le hE hcd k f' h' hst)
      · rcases hst with ⟨rv, h1, e1, -, e3⟩ | ⟨X, kv, h1, e1, -, -, rfl⟩
        · exact ((hE μ as h).1 rv h1 e1).1.trans (run_le hE hcd k _ h1 e3)
        · exact ((hE μ as h).2 X _ e1).1.1
      · obtain ⟨-, rfl⟩ := hst
        exact jLe.rf
      · obtain ⟨-, rfl⟩ := hst
        exact jbump_le h
theorem run_ok {E : JE} {d : Nat} {cc : ByteArray} {own : String} {nm : String × List (Nat × Nat × Nat × Nat)} {nL : Nat} {scr : Option (Nat × (Nat → Int32))} {cd : List (Nat × JA)} (hE : jEok tab d E) (hcd : ∀ q ∈ cd, JOk tab cc own nm nL scr q.1 q.2) {X : JX} (C : jC cc own nm nL (d + 1) scr X) {o : JO} {hf : JH} (hend : jFin cc X (d + 1) o hf)
    (b1 : hf.2.1 ≤ (match X with | (_, _, _, _, (_, _, cE, _), _) => cE)) (b2 : hf.2.2.1 ≤ (match X with | (_, _, _, _, (_, _, _, sE), _) => sE)) : ∀ (k : Nat) (f : JF) (h : JH), JG E cd k f h o hf → jW X f h
  | 0, _, _, h => h.elim
  | k + 1, (pc, l, st), h, ⟨act, hlk, hst⟩ => by
    have ok : jDo tab cc (d + 1) X (pc, l, st) h (act (pc, l, st) h) := (hcd _ (jlk_mem hlk)).2 (d + 1) X (Nat.succ_pos d) C l st h
    cases ha : act (pc, l, st) h with
    | none => rw [ha] at hst; exact hst.elim
    | some z =>
      rw [ha] at hst ok
      obtain ⟨f', h'⟩ | ⟨μ, as, f', ct⟩ | v | x := z
      · have hle := run_le hE hcd k f' h' hst
        exact ok (Nat.le_trans hle.2.1 b1) (Nat.le_trans hle.2.2 b2) (run_ok hE hcd C hend b1 b2 k f' h' hst)
      · rcases hst with ⟨rv, h1, e1, e2, e3⟩ | ⟨x, kv, h1, e1, e2, rfl, rfl⟩
        · have hle := run_le hE hcd k _ h1 e3
          exact (ok d rfl).1 rv h1 ((hE μ as h).1 rv h1 e1) e2 (Nat.le_trans hle.2.1 b1) (Nat.le_trans hle.2.2 b2) (run_ok hE hcd C hend b1 b2 k _ h1 e3)
        · exact (ok d rfl).2 x kv _ ((hE μ as h).2 x _ e1) e2 b1 b2 hend
      · obtain ⟨rfl, rfl⟩ := hst
        exact ok hend
      · obtain ⟨rfl, rfl⟩ := hst
        exact ok hend.1 (hend.2 h rfl)
/-- what the tables say of a method -/
def jTab (tab : Nat → JM5) (code : Nat → List (Nat × JA)) : Prop := ∀ μ, plainName (tab μ).1.cls = true ∧ ∀ q ∈ code μ, JOk tab (tab μ).2.1 (tab μ).1.cls ((tab μ).1.name, (tab μ).2.2.2.2.getD []) (tab μ).2.2.1 none q.1 q.2
theorem jrv_bool {x : Int32} (h : x = 0 ∨ x = 1) : narrow .boolean (.int x) = .int x := by
  rcases h with rfl | rfl <;> decide +kernel
/-- a method's own end -/
theorem j_end {p : Program} {l : Launch} {e : Env} {R : Room} {s : State} {m : MethodId} {args : Array Value} {below : List Frame} {meth : Method} {c : Code} {D : va_G} {g : Nat → ClassId} {nL : Nat} {a0 : Nat → Nat} {M : JM5} {own : String} {nm : String × List (Nat × Nat × Nat × Nat)} {dd : Nat} {h h1 : JH} {r : Option Value} {mc ms : Nat}
    (hx : p.tables.exec = Jvm.exec) (hb : c.code = M.2.1) (hr : meth.sig.returnType = M.2.2.2.1) (hlocks : meth.locks = false) (hv : jrv M.2.2.2.1 r) (hle : jLe h h1) (hmc : mc = h1.2.1 - h.2.1) (hms : ms = h1.2.2.1 - h.2.2.1) :
    jEnd M.2.1 ((p, l, e, R, s), (m, args, below, meth, c), (D, g), (jA a0 h.1 s.heap.size, nL, h.1, a0), (h.2.1, h.2.2.1, h1.2.1, h1.2.2.1), MQ below (fun _ st oc t => jPost D g a0 h h1 s.heap.size r st oc t) args s mc ms (jA a0 h.1 s.heap.size)) r h1 := by
  intro a ls H locs cells slots pc i hq g1 g2 hd hret
  obtain ⟨kR, kS, k3, k4, k5, k6, k7, k8⟩ := hq
  obtain ⟨z1, z2, z3⟩ := id hle
  have hpost : ∀ t : State, t.heap = H → s.WarmedH t.vm → jPost D g a0 h h1 s.heap.size r s (.returned (r.map (tv a))) t := fun t ht hW =>
    ⟨⟨a, rfl, k3, k4, k5, by rw [ht]; exact kR⟩, kS.F ht⟩
  refine W.widen (k := mc) (n := ms) (by omega) (by omega) ?_
  rcases hret with ⟨rfl, x, rfl⟩ | ⟨rfl, x, rfl⟩ | ⟨rfl, x, rfl⟩ | ⟨rfl, rfl⟩
  · cases hrt : M.2.2.2.1 with
    | none => rw [hrt] at hv; exact hv.elim
    | some ty =>
      rw [hrt] at hv hr
      cases ty <;> first | exact hv.elim | skip
      · exact W.iret hx hb hr hpost kS.2.2 hd hlocks
      · exact W.zret hx hb hr (jrv_bool hv) hpost kS.2.2 hd hlocks
  · cases hrt : M.2.2.2.1 with
    | none => rw [hrt] at hv; exact hv.elim
    | some ty =>
      rw [hrt] at hv hr
      cases ty <;> first | exact hv.elim | skip
      exact W.lret hx hb hr hpost kS.2.2 hd hlocks
  · cases hrt : M.2.2.2.1 with
    | none => rw [hrt] at hv; exact hv.elim
    | some ty =>
      rw [hrt] at hv hr
      cases ty <;> first | exact hv.elim | skip
      exact W.dret hx hb hr hpost kS.2.2 hd hlocks
  · cases hrt : M.2.2.2.1 with
    | none =>
      rw [hrt] at hr
      exact W.vret hx hb hr hpost kS.2.2 hd hlocks
    | some ty => rw [hrt] at hv; cases ty <;> exact hv.elim
end JSND
end
section
section JCON
variable {tab : Nat → JM5} {code : Nat → List (Nat × JA)}
/-- the surroundings of a method's run at its entry -/
theorem j_ctx {p : Program} {l : Launch} {e : Env} {s : State} {m : MethodId} {args : Array Value} {below : List Frame} {meth : Method} {c : Code} {D : va_G} {g : Nat → ClassId} {a : Nat → Nat} {M : JM5} {d : Nat} {h h1 : JH} {Q : State → Prop}
    (hx : p.tables.exec = Jvm.exec) (hb : c.code = M.2.1) (hown : s.vm.findClass M.1.cls = some m.cls) (hml : c.maxLocals = M.2.2.1) (hts : ∀ w ∈ GW, w.before args s = true) (hp : jPre D g a h s.heap.size s) (hle : jLe h h1) (hfl : l.stackTraces = false) (hlk : meth.locks = false) (hnm : meth.name = M.1.name) (htb : c.exceptionTable.toList = tableOf (M.2.2.2.2.getD [])) :
    jC M.2.1 M.1.cls (M.1.name, M.2.2.2.2.getD []) M.2.2.1 d none ((p, l, e, { frames := d, cells := h1.2.1 - h.2.1, slots := h1.2.2.1 - h.2.2.1, locals := 36 * d }, s), (m, args, below, meth, c), (D, g), (jA a h.1 s.heap.size, M.2.2.1, h.1, a), (h.2.1, h.2.2.1, h1.2.1, h1.2.2.1), Q) := by
  obtain ⟨z1, z2, z3⟩ := id hle
  obtain ⟨-, hK, hR, hZ⟩ := hp
  exact ⟨hx, hb, hown, ⟨hml, rfl⟩, hts, hK, hZ, ⟨Nat.le_refl _, Nat.le_refl _, by show h1.2.1 ≤ h.2.1 + (h1.2.1 - h.2.1); omega, by show h1.2.2.1 ≤ h.2.2.1 + (h1.2.2.1 - h.2.2.1); omega⟩, ⟨fun q h0 h1 => Or.inl ⟨q, h0, h1, rfl⟩, fun x hx => Or.inr hx⟩, (fun _ _ h => nomatch h), hfl, hlk, hnm, htb⟩
theorem j_begin {p : Program} {l : Launch} {e : Env} {R : Room} {s : State} {m : MethodId} {below : List Frame} {meth : Method} {c : Code} {D : va_G} {g : Nat → ClassId} {a : Nat → Nat} {nL : Nat} {as : List Value} {h h1 : JH} {Q : State → Prop} (hn : (lg_sl as).length ≤ nL) (hp : jPre D g a h s.heap.size s) (hle : jLe h h1)
    (k : jW ((p, l, e, R, s), (m, (as.map (tv a)).toArray, below, meth, c), (D, g), (jA a h.1 s.heap.size, nL, h.1, a), (h.2.1, h.2.2.1, h1.2.1, h1.2.2.1), Q) (0, lv_args 0 as, []) h) : W p l e R s m (as.map (tv a)).toArray below meth c s.heap [] 0 0 Q (entryFrame m (as.map (tv a)).toArray nL) := by
  rw [lg_entry_eq]
  have hsl : ∀ vs : List Value, (lg_sl (vs.map (tv a))).length = (lg_sl vs).length := by
    intro vs
    induction vs with
    | nil => rfl
    | cons v vs ih =>
      have e1 : lg_sl ((v :: vs).map (tv a)) = (if (tv a v).category = 2 then [.val (tv a v), .second] else [.val (tv a v)]) ++ lg_sl (vs.map (tv a)) := rfl
      have e2 : lg_sl (v :: vs) = (if v.category = 2 then [.val v, .second] else [.val v]) ++ lg_sl vs := rfl
      rw [e1, e2, List.length_append, List.length_append, ih, tv_cat]
      split <;> rfl
  have hl := lv_entry (as.map (tv a)) (n := nL) (by rw [hsl]; exact hn)
  rw [lv_args_tv] at hl
  exact k a _ s.heap [] 0 0 hl ⟨hp.2.2.1, va_S.rf, fun _ _ => rfl, fun _ => rfl, fun q h0 h1 => absurd h1 (Nat.not_lt.mpr h0), Nat.le_refl _, rfl, rfl⟩ hle.2.1 hle.2.2
theorem table_none {x y : MethodName} {S : Spec} {p : Program} {l : Launch} {e : Env} {s s₁ : State} {m : MethodId} {args : Array Value} {below : List Frame} {meth : Method} {c : Code} {cc bytes : ByteArray} {maxL maxL' : Nat} {ret ret' : Option FieldType}
    (B : BodyLoose p l y S cc maxL ret e s m args below meth c s₁) (h : (Cond.code y bytes maxL' ret').before args s = true) : c.exceptionTable.toList = [] := by
  obtain ⟨meth9, c9, h1, h2, -, -, -, -, h7, -⟩ := Cond.code_spec B.named h
  cases Option.some.inj (h1.symm.trans B.method)
  cases Option.some.inj (h2.symm.trans (Stand.of_body B).code)
  rw [Array.isEmpty_iff.mp h7]
theorem con_of {d : Nat} {E : JE} {M : JM5} {cd : List (Nat × JA)} {as : List Value} {h h1 : JH} {r : Option Value} (hE : jEok tab d E) (hpl : plainName M.1.cls = true) (hcd : ∀ q ∈ cd, JOk tab M.2.1 M.1.cls (M.1.name, M.2.2.2.2.getD []) M.2.2.1 none q.1 q.2) (hck : jchk (d + 1) M as (.inl r)) {k : Nat} (hG : JG E cd k (0, lv_args 0 as, []) h (.inl r) h1) : Con M (d + 1) as h r h1 := by
  have hle := run_le hE hcd k _ _ hG
  refine ⟨hle, fun l D g a sz hfl => ?_⟩
  cases hh : M.2.2.2.2 with
  | none =>
    refine Met.ofW (cc := M.2.1) (maxL := M.2.2.1) (ret := M.2.2.2.1) (ws' := GW) hpl (by unfold jws jword; rw [hh]) ?_
    intro p e s m args below meth c s₁ B hml hv
    obtain ⟨rfl, hp⟩ := hv
    obtain ⟨rfl⟩ : s.heap.size = sz := hp.1
    have hall := atoms_spec (ws := jws M) B.pre
    have hts : ∀ w ∈ GW, w.before (as.map (tv a)).toArray s = true := fun w hw => hall w (List.mem_cons_of_mem _ hw)
    have hcw : (Cond.code M.1 M.2.1 M.2.2.1 M.2.2.2.1).before (as.map (tv a)).toArray s = true := by
      have := hall _ List.mem_cons_self
      unfold jword at this
      rw [hh] at this
      exact this
    have htb := table_none (x := M.1) B hcw
    refine j_begin hck.1 hp hle (run_ok hE hcd (j_ctx B.exec B.bytes (findClass_of_methodNamed B.named) hml hts hp hle hfl B.notSynchronized (name_of_methodNamed B.named B.method).1 (by rw [htb, hh]; rfl)) (o := .inl r) (hf := h1) ?_ (Nat.le_refl _) (Nat.le_refl _) k _ _ hG)
    exact j_end (own := M.1.cls) (nm := (M.1.name, [])) (dd := d) B.exec B.bytes B.returns B.notSynchronized hck.2 hle rfl rfl
  | some hh0 =>
    refine va_MetW (cc := M.2.1) (maxL := M.2.2.1) (ret := M.2.2.2.1) (hh := hh0) (ws' := GW) hpl (by unfold jws jword; rw [hh]) ?_
    intro p e s m args below meth c s₁ B hml hv
    obtain ⟨rfl, hp⟩ := hv
    obtain ⟨rfl⟩ : s.heap.size = sz := hp.1
    have hall := atoms_spec (ws := jws M) B.pre
    have hts : ∀ w ∈ GW, w.before (as.map (tv a)).toArray s = true := fun w hw => hall w (List.mem_cons_of_mem _ hw)
    have hcw : (Cond.codeWith M.1 M.2.1 M.2.2.1 M.2.2.2.1 hh0).before (as.map (tv a)).toArray s = true := by
      have := hall _ List.mem_cons_self
      unfold jword at this
      rw [hh] at this
      exact this
    have htb := vx_table (x := M.1) B hcw
    refine j_begin hck.1 hp hle (run_ok hE hcd (j_ctx B.exec B.bytes (findClass_of_methodNamed B.named) hml hts hp hle hfl B.notSynchronized (name_of_methodNamed B.named B.method).1 (by rw [htb, hh]; rfl)) (o := .inl r) (hf := h1) ?_ (Nat.le_refl _) (Nat.le_refl _) k _ _ hG)
    exact j_end (own := M.1.cls) (nm := (M.1.name, [])) (dd := d) B.exec B.bytes B.returns B.notSynchronized hck.2 hle rfl rfl
/-- a run that throws keeps the cells' count -/
theorem run_n {E : JE} {d : Nat} {cc : ByteArray} {own : String} {nm : String × List (Nat × Nat × Nat × Nat)} {nL : Nat} {scr : Option (Nat × (Nat → Int32))} {cd : List (Nat × JA)} (hE : jEok tab d E) (hcd : ∀ q ∈ cd, JOk tab cc own nm nL scr q.1 q.2) {x : String} {hf : JH} : ∀ (k : Nat) (f : JF) (h : JH), JG E cd k f h (.inr x) hf → ∃ h', hf = jbump h' ∧ jLe h h'
  | 0, _, _, h => h.elim
  | k + 1, (pc, l, st), h, ⟨act, hlk, hst⟩ => by
    have ok := hcd _ (jlk_mem hlk)
    cases ha : act (pc, l, st) h with
    | none => rw [ha] at hst; exact hst.elim
    | some z =>
      rw [ha] at hst
      obtain ⟨f', h'⟩ | ⟨μ, as, f', ct⟩ | v | x := z
      · obtain ⟨h2, e1, e2⟩ := run_n hE hcd k f' h' hst
        exact ⟨h2, e1, (ok.1 l st h f' h' ha).trans e2⟩
      · rcases hst with ⟨rv, h1, e1, -, e3⟩ | ⟨X, kv, h1, -, -, e4, -⟩
        · obtain ⟨h2, e4, e5⟩ := run_n hE hcd k _ h1 e3
          exact ⟨h2, e4, ((hE μ as h).1 rv h1 e1).1.trans e5⟩
        · cases e4
      · obtain ⟨e4, -⟩ := hst
        cases e4
      · obtain ⟨-, rfl⟩ := hst
        exact ⟨h, rfl, jLe.rf⟩
theorem conX_of {d : Nat} {E : JE} {M : JM5} {cd : List (Nat × JA)} {as : List Value} {h h1 : JH} {x : String} (hE : jEok tab d E) (hpl : plainName M.1.cls = true) (hcd : ∀ q ∈ cd, JOk tab M.2.1 M.1.cls (M.1.name, M.2.2.2.2.getD []) M.2.2.1 none q.1 q.2) (hck : jchk (d + 1) M as (.inr x)) (hn : h1.1 = h.1) {k : Nat} (hG : JG E cd k (0, lv_args 0 as, []) h (.inr x) h1) : ConX M (d + 1) as h x h1 := by
  have hle := run_le hE hcd k _ _ hG
  refine ⟨⟨hle, hn⟩, fun l D g a sz hfl => ?_⟩
  obtain ⟨hck1, hck2, hh⟩ := hck
  refine vx_ofW (cc := M.2.1) (maxL := M.2.2.1) (ret := M.2.2.2.1) (ws' := GW) hpl (by unfold jws jword; rw [hh]) ?_
  intro p e s m args below meth c s₁ B hml ht hv
  obtain ⟨rfl, hp⟩ := hv
  obtain ⟨rfl⟩ : s.heap.size = sz := hp.1
  have hall := atoms_spec (ws := jws M) B.pre
  have hts : ∀ w ∈ GW, w.before (as.map (tv a)).toArray s = true := fun w hw => hall w (List.mem_cons_of_mem _ hw)
  have htb : c.exceptionTable.toList = [] := by
    cases he : c.exceptionTable.toList with
    | nil => rfl
    | cons y r => exact (ht y (by rw [he]; exact List.mem_cons_self)).elim
  refine j_begin hck1 hp hle (run_ok hE hcd (j_ctx B.exec B.bytes (findClass_of_methodNamed B.named) hml hts hp hle hfl B.notSynchronized (name_of_methodNamed B.named B.method).1 (by rw [htb, hh]; rfl)) (o := .inr x) (hf := h1) ?_ (Nat.le_refl _) (Nat.le_refl _) k _ _ hG)
  refine ⟨hck2, fun h9 e9 => ?_⟩
  subst e9
  intro a' H locs cells slots hq
  obtain ⟨kR, kS, k3, k4, k5, k6, k7, k8⟩ := hq
  have hn9 : h9.1 = h.1 := hn
  have ha : a' = a := k4 hn9
  subst ha
  obtain ⟨z1, z2, z3⟩ := id hle
  have y2 : h.2.1 ≤ h9.2.1 + 1 := z2
  have y3 : h.2.2.1 ≤ h9.2.2.1 + 6 := z3
  refine ⟨_, _, _, _, _, rfl, ht, fun t hal hz ho => ⟨rfl, ?_, ?_⟩, kS.2.2, by show cells + 1 ≤ h9.2.1 + 1 - h.2.1; omega, by show slots + 6 ≤ h9.2.2.1 + 6 - h.2.2.1; omega, Nat.le_refl _, Nat.le_refl _⟩
  · exact ⟨fun q q0 q1 => (kR.1 q q0 q1).kept (ho _ (kR.1 q q0 q1).lt), kR.2⟩
  · refine ⟨Nat.le_trans kS.1 hz, fun q g1 g2 => ?_⟩
    rw [ho q (Nat.lt_of_lt_of_le g1 kS.1)]
    exact kS.2.1 q g1 (fun z => g2 (by
      rcases z with ⟨q9, w1, w2, w3⟩ | z
      · exact Or.inl ⟨q9, w1, by show q9 < h9.1; rw [hn9]; exact w2, w3⟩
      · exact Or.inr z))
theorem ev_ok (ht : jTab tab code) : ∀ d, jEok tab d (Ev tab code d)
  | 0 => fun _ _ _ => ⟨fun _ _ h => h.elim, fun _ _ h => h.elim⟩
  | d + 1 => fun μ as h => ⟨fun _ _ ⟨hck, _, _, hG⟩ => con_of (ev_ok ht d) (ht μ).1 (ht μ).2 hck hG, fun x _ ⟨hck, hn, _, hG⟩ => conX_of (ev_ok ht d) (ht μ).1 (ht μ).2 hck (hn x rfl) hG⟩
end JCON
end
