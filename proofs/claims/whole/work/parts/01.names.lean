-- ===== PART A: goes FIRST, ahead of the names: the tables' words, and 'selects' of the private methods out of them =====
/-- a private method of a class that the tables say can be made, by its rows of tables_1 -/
def lw_okq (q : MethodName × Nat) : Prop := (q.1.cls ≠ "java/lang/invoke/MethodHandle" ∧ q.1.cls ≠ "java/lang/invoke/VarHandle") ∧ Cond.instantiable q.1.cls q.2 ∈ tables_1 ∧ Cond.privateMethod q.1 ∈ tables_1 ∧ Cond.instanceMethod q.1 ∈ tables_1
theorem lw_p0 : lw_okq (⟨"SheSays$BookReader", "readSpeeches", "()Z"⟩, 8) := ⟨⟨by decide +kernel, by decide +kernel⟩, List.mem_of_getElem? (i := 51) (by decide +kernel), List.mem_of_getElem? (i := 462) (by decide +kernel), List.mem_of_getElem? (i := 463) (by decide +kernel)⟩
theorem lw_p1 : lw_okq (⟨"SheSays$BookReader", "readSpeech", "(I)Z"⟩, 8) := ⟨⟨by decide +kernel, by decide +kernel⟩, List.mem_of_getElem? (i := 51) (by decide +kernel), List.mem_of_getElem? (i := 478) (by decide +kernel), List.mem_of_getElem? (i := 479) (by decide +kernel)⟩
theorem lw_p2 : lw_okq (⟨"SheSays$BookReader", "readLength", "(I)Z"⟩, 8) := ⟨⟨by decide +kernel, by decide +kernel⟩, List.mem_of_getElem? (i := 51) (by decide +kernel), List.mem_of_getElem? (i := 486) (by decide +kernel), List.mem_of_getElem? (i := 487) (by decide +kernel)⟩
theorem lw_p3 : lw_okq (⟨"SheSays$BookReader", "readCuts", "()Z"⟩, 8) := ⟨⟨by decide +kernel, by decide +kernel⟩, List.mem_of_getElem? (i := 51) (by decide +kernel), List.mem_of_getElem? (i := 499) (by decide +kernel), List.mem_of_getElem? (i := 500) (by decide +kernel)⟩
theorem lw_p4 : lw_okq (⟨"SheSays$BookReader", "readCut", "()Z"⟩, 8) := ⟨⟨by decide +kernel, by decide +kernel⟩, List.mem_of_getElem? (i := 51) (by decide +kernel), List.mem_of_getElem? (i := 503) (by decide +kernel), List.mem_of_getElem? (i := 504) (by decide +kernel)⟩
theorem lw_p5 : lw_okq (⟨"SheSays$LawReader", "readClause", "()Z"⟩, 3) := ⟨⟨by decide +kernel, by decide +kernel⟩, List.mem_of_getElem? (i := 88) (by decide +kernel), List.mem_of_getElem? (i := 511) (by decide +kernel), List.mem_of_getElem? (i := 512) (by decide +kernel)⟩
theorem lw_p6 : lw_okq (⟨"SheSays$LawReader", "readSum", "(I)Z"⟩, 3) := ⟨⟨by decide +kernel, by decide +kernel⟩, List.mem_of_getElem? (i := 88) (by decide +kernel), List.mem_of_getElem? (i := 517) (by decide +kernel), List.mem_of_getElem? (i := 518) (by decide +kernel)⟩
theorem lw_p7 : lw_okq (⟨"SheSays$LawReader", "readTerm", "(I)Z"⟩, 3) := ⟨⟨by decide +kernel, by decide +kernel⟩, List.mem_of_getElem? (i := 88) (by decide +kernel), List.mem_of_getElem? (i := 521) (by decide +kernel), List.mem_of_getElem? (i := 522) (by decide +kernel)⟩
theorem lw_p8 : lw_okq (⟨"SheSays$LawReader", "readAtom", "(I)Z"⟩, 3) := ⟨⟨by decide +kernel, by decide +kernel⟩, List.mem_of_getElem? (i := 88) (by decide +kernel), List.mem_of_getElem? (i := 525) (by decide +kernel), List.mem_of_getElem? (i := 526) (by decide +kernel)⟩
theorem lw_p9 : lw_okq (⟨"SheSays$LawReader", "write", "(I)V"⟩, 3) := ⟨⟨by decide +kernel, by decide +kernel⟩, List.mem_of_getElem? (i := 88) (by decide +kernel), List.mem_of_getElem? (i := 532) (by decide +kernel), List.mem_of_getElem? (i := 533) (by decide +kernel)⟩
theorem lw_p10 : lw_okq (⟨"SheSays$LawReader", "atComparison", "()Z"⟩, 3) := ⟨⟨by decide +kernel, by decide +kernel⟩, List.mem_of_getElem? (i := 88) (by decide +kernel), List.mem_of_getElem? (i := 537) (by decide +kernel), List.mem_of_getElem? (i := 538) (by decide +kernel)⟩
theorem lw_p11 : lw_okq (⟨"SheSays$LawReader", "readCondition", "(IZ)Z"⟩, 3) := ⟨⟨by decide +kernel, by decide +kernel⟩, List.mem_of_getElem? (i := 88) (by decide +kernel), List.mem_of_getElem? (i := 541) (by decide +kernel), List.mem_of_getElem? (i := 542) (by decide +kernel)⟩
theorem lw_p12 : lw_okq (⟨"SheSays$LawReader", "readTruth", "(IZ)Z"⟩, 3) := ⟨⟨by decide +kernel, by decide +kernel⟩, List.mem_of_getElem? (i := 88) (by decide +kernel), List.mem_of_getElem? (i := 545) (by decide +kernel), List.mem_of_getElem? (i := 546) (by decide +kernel)⟩
theorem lw_p13 : lw_okq (⟨"SheSays$LawReader", "readUnit", "(IZ)Z"⟩, 3) := ⟨⟨by decide +kernel, by decide +kernel⟩, List.mem_of_getElem? (i := 88) (by decide +kernel), List.mem_of_getElem? (i := 549) (by decide +kernel), List.mem_of_getElem? (i := 550) (by decide +kernel)⟩
theorem lw_p14 : lw_okq (⟨"SheSays$LawReader", "readNested", "(II)Z"⟩, 3) := ⟨⟨by decide +kernel, by decide +kernel⟩, List.mem_of_getElem? (i := 88) (by decide +kernel), List.mem_of_getElem? (i := 553) (by decide +kernel), List.mem_of_getElem? (i := 554) (by decide +kernel)⟩
theorem lw_p15 : lw_okq (⟨"SheSays", "takeBook", "()I"⟩, 13) := ⟨⟨by decide +kernel, by decide +kernel⟩, List.mem_of_getElem? (i := 23) (by decide +kernel), List.mem_of_getElem? (i := 562) (by decide +kernel), List.mem_of_getElem? (i := 563) (by decide +kernel)⟩
def lw_privs_1 : List (MethodName × Nat) := [(⟨"SheSays$BookReader", "readSpeeches", "()Z"⟩, 8), (⟨"SheSays$BookReader", "readSpeech", "(I)Z"⟩, 8), (⟨"SheSays$BookReader", "readLength", "(I)Z"⟩, 8), (⟨"SheSays$BookReader", "readCuts", "()Z"⟩, 8), (⟨"SheSays$BookReader", "readCut", "()Z"⟩, 8), (⟨"SheSays$LawReader", "readClause", "()Z"⟩, 3), (⟨"SheSays$LawReader", "readSum", "(I)Z"⟩, 3), (⟨"SheSays$LawReader", "readTerm", "(I)Z"⟩, 3), (⟨"SheSays$LawReader", "readAtom", "(I)Z"⟩, 3), (⟨"SheSays$LawReader", "write", "(I)V"⟩, 3), (⟨"SheSays$LawReader", "atComparison", "()Z"⟩, 3), (⟨"SheSays$LawReader", "readCondition", "(IZ)Z"⟩, 3), (⟨"SheSays$LawReader", "readTruth", "(IZ)Z"⟩, 3), (⟨"SheSays$LawReader", "readUnit", "(IZ)Z"⟩, 3), (⟨"SheSays$LawReader", "readNested", "(II)Z"⟩, 3), (⟨"SheSays", "takeBook", "()I"⟩, 13)]
theorem lw_r1 : ∀ q ∈ lw_privs_1, lw_okq q := List.forall_mem_cons.mpr ⟨lw_p0, List.forall_mem_cons.mpr ⟨lw_p1, List.forall_mem_cons.mpr ⟨lw_p2, List.forall_mem_cons.mpr ⟨lw_p3, List.forall_mem_cons.mpr ⟨lw_p4, List.forall_mem_cons.mpr ⟨lw_p5, List.forall_mem_cons.mpr ⟨lw_p6, List.forall_mem_cons.mpr ⟨lw_p7, List.forall_mem_cons.mpr ⟨lw_p8, List.forall_mem_cons.mpr ⟨lw_p9, List.forall_mem_cons.mpr ⟨lw_p10, List.forall_mem_cons.mpr ⟨lw_p11, List.forall_mem_cons.mpr ⟨lw_p12, List.forall_mem_cons.mpr ⟨lw_p13, List.forall_mem_cons.mpr ⟨lw_p14, List.forall_mem_cons.mpr ⟨lw_p15, fun _ h => absurd h List.not_mem_nil⟩⟩⟩⟩⟩⟩⟩⟩⟩⟩⟩⟩⟩⟩⟩⟩
theorem lw_p16 : lw_okq (⟨"SheSays$Play", "gapOf", "(I)I"⟩, 13) := ⟨⟨by decide +kernel, by decide +kernel⟩, List.mem_of_getElem? (i := 126) (by decide +kernel), List.mem_of_getElem? (i := 573) (by decide +kernel), List.mem_of_getElem? (i := 574) (by decide +kernel)⟩
theorem lw_p17 : lw_okq (⟨"SheSays$Play", "likesOf", "(I)I"⟩, 13) := ⟨⟨by decide +kernel, by decide +kernel⟩, List.mem_of_getElem? (i := 126) (by decide +kernel), List.mem_of_getElem? (i := 577) (by decide +kernel), List.mem_of_getElem? (i := 578) (by decide +kernel)⟩
theorem lw_p18 : lw_okq (⟨"SheSays", "heldLaw", "()LSheSays$Law;"⟩, 13) := ⟨⟨by decide +kernel, by decide +kernel⟩, List.mem_of_getElem? (i := 23) (by decide +kernel), List.mem_of_getElem? (i := 589) (by decide +kernel), List.mem_of_getElem? (i := 590) (by decide +kernel)⟩
theorem lw_p19 : lw_okq (⟨"SheSays$Law", "pop", "()I"⟩, 4) := ⟨⟨by decide +kernel, by decide +kernel⟩, List.mem_of_getElem? (i := 107) (by decide +kernel), List.mem_of_getElem? (i := 601) (by decide +kernel), List.mem_of_getElem? (i := 602) (by decide +kernel)⟩
theorem lw_p20 : lw_okq (⟨"SheSays$Law", "work", "(ILSheSays$Play;IZ)V"⟩, 4) := ⟨⟨by decide +kernel, by decide +kernel⟩, List.mem_of_getElem? (i := 107) (by decide +kernel), List.mem_of_getElem? (i := 605) (by decide +kernel), List.mem_of_getElem? (i := 606) (by decide +kernel)⟩
theorem lw_p21 : lw_okq (⟨"SheSays$Law", "push", "(I)V"⟩, 4) := ⟨⟨by decide +kernel, by decide +kernel⟩, List.mem_of_getElem? (i := 107) (by decide +kernel), List.mem_of_getElem? (i := 609) (by decide +kernel), List.mem_of_getElem? (i := 610) (by decide +kernel)⟩
theorem lw_p22 : lw_okq (⟨"SheSays$Leaps", "target", "(I)I"⟩, 5) := ⟨⟨by decide +kernel, by decide +kernel⟩, List.mem_of_getElem? (i := 188) (by decide +kernel), List.mem_of_getElem? (i := 638) (by decide +kernel), List.mem_of_getElem? (i := 639) (by decide +kernel)⟩
theorem lw_p23 : lw_okq (⟨"SheSays$Night", "draw", "()I"⟩, 13) := ⟨⟨by decide +kernel, by decide +kernel⟩, List.mem_of_getElem? (i := 324) (by decide +kernel), List.mem_of_getElem? (i := 716) (by decide +kernel), List.mem_of_getElem? (i := 717) (by decide +kernel)⟩
theorem lw_p24 : lw_okq (⟨"SheSays$Notes", "mostLostNotMarked", "()I"⟩, 7) := ⟨⟨by decide +kernel, by decide +kernel⟩, List.mem_of_getElem? (i := 222) (by decide +kernel), List.mem_of_getElem? (i := 768) (by decide +kernel), List.mem_of_getElem? (i := 769) (by decide +kernel)⟩
theorem lw_p25 : lw_okq (⟨"SheSays$Odds", "prepare", "(I)V"⟩, 10) := ⟨⟨by decide +kernel, by decide +kernel⟩, List.mem_of_getElem? (i := 360) (by decide +kernel), List.mem_of_getElem? (i := 830) (by decide +kernel), List.mem_of_getElem? (i := 831) (by decide +kernel)⟩
theorem lw_p26 : lw_okq (⟨"SheSays$Odds", "flow", "(I)V"⟩, 10) := ⟨⟨by decide +kernel, by decide +kernel⟩, List.mem_of_getElem? (i := 360) (by decide +kernel), List.mem_of_getElem? (i := 836) (by decide +kernel), List.mem_of_getElem? (i := 837) (by decide +kernel)⟩
theorem lw_p27 : lw_okq (⟨"SheSays$Odds", "start", "()V"⟩, 10) := ⟨⟨by decide +kernel, by decide +kernel⟩, List.mem_of_getElem? (i := 360) (by decide +kernel), List.mem_of_getElem? (i := 840) (by decide +kernel), List.mem_of_getElem? (i := 841) (by decide +kernel)⟩
theorem lw_p28 : lw_okq (⟨"SheSays$Odds", "step", "()V"⟩, 10) := ⟨⟨by decide +kernel, by decide +kernel⟩, List.mem_of_getElem? (i := 360) (by decide +kernel), List.mem_of_getElem? (i := 848) (by decide +kernel), List.mem_of_getElem? (i := 849) (by decide +kernel)⟩
theorem lw_p29 : lw_okq (⟨"SheSays$Odds", "comeTo", "(IJ)V"⟩, 10) := ⟨⟨by decide +kernel, by decide +kernel⟩, List.mem_of_getElem? (i := 360) (by decide +kernel), List.mem_of_getElem? (i := 852) (by decide +kernel), List.mem_of_getElem? (i := 853) (by decide +kernel)⟩
theorem lw_p30 : lw_okq (⟨"SheSays$Odds", "say", "(IJ)V"⟩, 10) := ⟨⟨by decide +kernel, by decide +kernel⟩, List.mem_of_getElem? (i := 360) (by decide +kernel), List.mem_of_getElem? (i := 857) (by decide +kernel), List.mem_of_getElem? (i := 858) (by decide +kernel)⟩
theorem lw_p31 : lw_okq (⟨"SheSays$Odds", "reaches", "(III)Z"⟩, 10) := ⟨⟨by decide +kernel, by decide +kernel⟩, List.mem_of_getElem? (i := 360) (by decide +kernel), List.mem_of_getElem? (i := 888) (by decide +kernel), List.mem_of_getElem? (i := 889) (by decide +kernel)⟩
def lw_privs_2 : List (MethodName × Nat) := [(⟨"SheSays$Play", "gapOf", "(I)I"⟩, 13), (⟨"SheSays$Play", "likesOf", "(I)I"⟩, 13), (⟨"SheSays", "heldLaw", "()LSheSays$Law;"⟩, 13), (⟨"SheSays$Law", "pop", "()I"⟩, 4), (⟨"SheSays$Law", "work", "(ILSheSays$Play;IZ)V"⟩, 4), (⟨"SheSays$Law", "push", "(I)V"⟩, 4), (⟨"SheSays$Leaps", "target", "(I)I"⟩, 5), (⟨"SheSays$Night", "draw", "()I"⟩, 13), (⟨"SheSays$Notes", "mostLostNotMarked", "()I"⟩, 7), (⟨"SheSays$Odds", "prepare", "(I)V"⟩, 10), (⟨"SheSays$Odds", "flow", "(I)V"⟩, 10), (⟨"SheSays$Odds", "start", "()V"⟩, 10), (⟨"SheSays$Odds", "step", "()V"⟩, 10), (⟨"SheSays$Odds", "comeTo", "(IJ)V"⟩, 10), (⟨"SheSays$Odds", "say", "(IJ)V"⟩, 10), (⟨"SheSays$Odds", "reaches", "(III)Z"⟩, 10)]
theorem lw_r2 : ∀ q ∈ lw_privs_2, lw_okq q := List.forall_mem_cons.mpr ⟨lw_p16, List.forall_mem_cons.mpr ⟨lw_p17, List.forall_mem_cons.mpr ⟨lw_p18, List.forall_mem_cons.mpr ⟨lw_p19, List.forall_mem_cons.mpr ⟨lw_p20, List.forall_mem_cons.mpr ⟨lw_p21, List.forall_mem_cons.mpr ⟨lw_p22, List.forall_mem_cons.mpr ⟨lw_p23, List.forall_mem_cons.mpr ⟨lw_p24, List.forall_mem_cons.mpr ⟨lw_p25, List.forall_mem_cons.mpr ⟨lw_p26, List.forall_mem_cons.mpr ⟨lw_p27, List.forall_mem_cons.mpr ⟨lw_p28, List.forall_mem_cons.mpr ⟨lw_p29, List.forall_mem_cons.mpr ⟨lw_p30, List.forall_mem_cons.mpr ⟨lw_p31, fun _ h => absurd h List.not_mem_nil⟩⟩⟩⟩⟩⟩⟩⟩⟩⟩⟩⟩⟩⟩⟩⟩
theorem lw_p32 : lw_okq (⟨"SheSays$Play", "actors", "()I"⟩, 13) := ⟨⟨by decide +kernel, by decide +kernel⟩, List.mem_of_getElem? (i := 126) (by decide +kernel), List.mem_of_getElem? (i := 900) (by decide +kernel), List.mem_of_getElem? (i := 901) (by decide +kernel)⟩
theorem lw_p33 : lw_okq (⟨"SheSays$Play", "canShare", "(I)Z"⟩, 13) := ⟨⟨by decide +kernel, by decide +kernel⟩, List.mem_of_getElem? (i := 126) (by decide +kernel), List.mem_of_getElem? (i := 945) (by decide +kernel), List.mem_of_getElem? (i := 946) (by decide +kernel)⟩
theorem lw_p34 : lw_okq (⟨"SheSays", "extreme", "(IIZ)I"⟩, 13) := ⟨⟨by decide +kernel, by decide +kernel⟩, List.mem_of_getElem? (i := 23) (by decide +kernel), List.mem_of_getElem? (i := 953) (by decide +kernel), List.mem_of_getElem? (i := 954) (by decide +kernel)⟩
theorem lw_p35 : lw_okq (⟨"SheSays$Evening", "explore", "(IIIII)V"⟩, 11) := ⟨⟨by decide +kernel, by decide +kernel⟩, List.mem_of_getElem? (i := 255) (by decide +kernel), List.mem_of_getElem? (i := 961) (by decide +kernel), List.mem_of_getElem? (i := 962) (by decide +kernel)⟩
theorem lw_p36 : lw_okq (⟨"SheSays$Evening", "settle", "(II)V"⟩, 11) := ⟨⟨by decide +kernel, by decide +kernel⟩, List.mem_of_getElem? (i := 255) (by decide +kernel), List.mem_of_getElem? (i := 965) (by decide +kernel), List.mem_of_getElem? (i := 966) (by decide +kernel)⟩
theorem lw_p37 : lw_okq (⟨"java/lang/Throwable", "fillInStackTrace", "(I)Ljava/lang/Throwable;"⟩, 6) := ⟨⟨by decide +kernel, by decide +kernel⟩, List.mem_of_getElem? (i := 1070) (by decide +kernel), List.mem_of_getElem? (i := 1068) (by decide +kernel), List.mem_of_getElem? (i := 1069) (by decide +kernel)⟩
theorem lw_p38 : lw_okq (⟨"SheSaysModel", "readBook", "()I"⟩, 59) := ⟨⟨by decide +kernel, by decide +kernel⟩, List.mem_of_getElem? (i := 1101) (by decide +kernel), List.mem_of_getElem? (i := 1304) (by decide +kernel), List.mem_of_getElem? (i := 1305) (by decide +kernel)⟩
theorem lw_p39 : lw_okq (⟨"SheSaysModel", "speechText", "()V"⟩, 59) := ⟨⟨by decide +kernel, by decide +kernel⟩, List.mem_of_getElem? (i := 1101) (by decide +kernel), List.mem_of_getElem? (i := 1308) (by decide +kernel), List.mem_of_getElem? (i := 1309) (by decide +kernel)⟩
theorem lw_p40 : lw_okq (⟨"SheSaysModel", "look", "()I"⟩, 59) := ⟨⟨by decide +kernel, by decide +kernel⟩, List.mem_of_getElem? (i := 1101) (by decide +kernel), List.mem_of_getElem? (i := 1312) (by decide +kernel), List.mem_of_getElem? (i := 1313) (by decide +kernel)⟩
theorem lw_p41 : lw_okq (⟨"SheSaysModel", "here", "()I"⟩, 59) := ⟨⟨by decide +kernel, by decide +kernel⟩, List.mem_of_getElem? (i := 1101) (by decide +kernel), List.mem_of_getElem? (i := 1316) (by decide +kernel), List.mem_of_getElem? (i := 1317) (by decide +kernel)⟩
theorem lw_p42 : lw_okq (⟨"SheSaysModel", "bad", "()V"⟩, 59) := ⟨⟨by decide +kernel, by decide +kernel⟩, List.mem_of_getElem? (i := 1101) (by decide +kernel), List.mem_of_getElem? (i := 1323) (by decide +kernel), List.mem_of_getElem? (i := 1324) (by decide +kernel)⟩
theorem lw_p43 : lw_okq (⟨"SheSaysModel", "digits", "()I"⟩, 59) := ⟨⟨by decide +kernel, by decide +kernel⟩, List.mem_of_getElem? (i := 1101) (by decide +kernel), List.mem_of_getElem? (i := 1330) (by decide +kernel), List.mem_of_getElem? (i := 1331) (by decide +kernel)⟩
theorem lw_p44 : lw_okq (⟨"SheSaysModel", "lastBad", "()V"⟩, 59) := ⟨⟨by decide +kernel, by decide +kernel⟩, List.mem_of_getElem? (i := 1101) (by decide +kernel), List.mem_of_getElem? (i := 1334) (by decide +kernel), List.mem_of_getElem? (i := 1335) (by decide +kernel)⟩
theorem lw_p45 : lw_okq (⟨"SheSaysModel", "cutText", "(I)V"⟩, 59) := ⟨⟨by decide +kernel, by decide +kernel⟩, List.mem_of_getElem? (i := 1101) (by decide +kernel), List.mem_of_getElem? (i := 1342) (by decide +kernel), List.mem_of_getElem? (i := 1343) (by decide +kernel)⟩
theorem lw_p46 : lw_okq (⟨"SheSaysModel", "atEnd", "()I"⟩, 59) := ⟨⟨by decide +kernel, by decide +kernel⟩, List.mem_of_getElem? (i := 1101) (by decide +kernel), List.mem_of_getElem? (i := 1347) (by decide +kernel), List.mem_of_getElem? (i := 1348) (by decide +kernel)⟩
theorem lw_p47 : lw_okq (⟨"SheSaysModel", "readLaw", "(I)I"⟩, 59) := ⟨⟨by decide +kernel, by decide +kernel⟩, List.mem_of_getElem? (i := 1101) (by decide +kernel), List.mem_of_getElem? (i := 1351) (by decide +kernel), List.mem_of_getElem? (i := 1352) (by decide +kernel)⟩
def lw_privs_3 : List (MethodName × Nat) := [(⟨"SheSays$Play", "actors", "()I"⟩, 13), (⟨"SheSays$Play", "canShare", "(I)Z"⟩, 13), (⟨"SheSays", "extreme", "(IIZ)I"⟩, 13), (⟨"SheSays$Evening", "explore", "(IIIII)V"⟩, 11), (⟨"SheSays$Evening", "settle", "(II)V"⟩, 11), (⟨"java/lang/Throwable", "fillInStackTrace", "(I)Ljava/lang/Throwable;"⟩, 6), (⟨"SheSaysModel", "readBook", "()I"⟩, 59), (⟨"SheSaysModel", "speechText", "()V"⟩, 59), (⟨"SheSaysModel", "look", "()I"⟩, 59), (⟨"SheSaysModel", "here", "()I"⟩, 59), (⟨"SheSaysModel", "bad", "()V"⟩, 59), (⟨"SheSaysModel", "digits", "()I"⟩, 59), (⟨"SheSaysModel", "lastBad", "()V"⟩, 59), (⟨"SheSaysModel", "cutText", "(I)V"⟩, 59), (⟨"SheSaysModel", "atEnd", "()I"⟩, 59), (⟨"SheSaysModel", "readLaw", "(I)I"⟩, 59)]
theorem lw_r3 : ∀ q ∈ lw_privs_3, lw_okq q := List.forall_mem_cons.mpr ⟨lw_p32, List.forall_mem_cons.mpr ⟨lw_p33, List.forall_mem_cons.mpr ⟨lw_p34, List.forall_mem_cons.mpr ⟨lw_p35, List.forall_mem_cons.mpr ⟨lw_p36, List.forall_mem_cons.mpr ⟨lw_p37, List.forall_mem_cons.mpr ⟨lw_p38, List.forall_mem_cons.mpr ⟨lw_p39, List.forall_mem_cons.mpr ⟨lw_p40, List.forall_mem_cons.mpr ⟨lw_p41, List.forall_mem_cons.mpr ⟨lw_p42, List.forall_mem_cons.mpr ⟨lw_p43, List.forall_mem_cons.mpr ⟨lw_p44, List.forall_mem_cons.mpr ⟨lw_p45, List.forall_mem_cons.mpr ⟨lw_p46, List.forall_mem_cons.mpr ⟨lw_p47, fun _ h => absurd h List.not_mem_nil⟩⟩⟩⟩⟩⟩⟩⟩⟩⟩⟩⟩⟩⟩⟩⟩
theorem lw_p48 : lw_okq (⟨"SheSaysModel", "open", "(I)V"⟩, 59) := ⟨⟨by decide +kernel, by decide +kernel⟩, List.mem_of_getElem? (i := 1101) (by decide +kernel), List.mem_of_getElem? (i := 1355) (by decide +kernel), List.mem_of_getElem? (i := 1356) (by decide +kernel)⟩
theorem lw_p49 : lw_okq (⟨"SheSaysModel", "clause", "()V"⟩, 59) := ⟨⟨by decide +kernel, by decide +kernel⟩, List.mem_of_getElem? (i := 1101) (by decide +kernel), List.mem_of_getElem? (i := 1359) (by decide +kernel), List.mem_of_getElem? (i := 1360) (by decide +kernel)⟩
theorem lw_p50 : lw_okq (⟨"SheSaysModel", "condition", "()V"⟩, 59) := ⟨⟨by decide +kernel, by decide +kernel⟩, List.mem_of_getElem? (i := 1101) (by decide +kernel), List.mem_of_getElem? (i := 1363) (by decide +kernel), List.mem_of_getElem? (i := 1364) (by decide +kernel)⟩
theorem lw_p51 : lw_okq (⟨"SheSaysModel", "unit", "()V"⟩, 59) := ⟨⟨by decide +kernel, by decide +kernel⟩, List.mem_of_getElem? (i := 1101) (by decide +kernel), List.mem_of_getElem? (i := 1367) (by decide +kernel), List.mem_of_getElem? (i := 1368) (by decide +kernel)⟩
theorem lw_p52 : lw_okq (⟨"SheSaysModel", "opens", "()V"⟩, 59) := ⟨⟨by decide +kernel, by decide +kernel⟩, List.mem_of_getElem? (i := 1101) (by decide +kernel), List.mem_of_getElem? (i := 1371) (by decide +kernel), List.mem_of_getElem? (i := 1372) (by decide +kernel)⟩
theorem lw_p53 : lw_okq (⟨"SheSaysModel", "put", "(II)V"⟩, 59) := ⟨⟨by decide +kernel, by decide +kernel⟩, List.mem_of_getElem? (i := 1101) (by decide +kernel), List.mem_of_getElem? (i := 1375) (by decide +kernel), List.mem_of_getElem? (i := 1376) (by decide +kernel)⟩
theorem lw_p54 : lw_okq (⟨"SheSaysModel", "closes", "(I)V"⟩, 59) := ⟨⟨by decide +kernel, by decide +kernel⟩, List.mem_of_getElem? (i := 1101) (by decide +kernel), List.mem_of_getElem? (i := 1379) (by decide +kernel), List.mem_of_getElem? (i := 1380) (by decide +kernel)⟩
theorem lw_p55 : lw_okq (⟨"SheSaysModel", "sum", "()V"⟩, 59) := ⟨⟨by decide +kernel, by decide +kernel⟩, List.mem_of_getElem? (i := 1101) (by decide +kernel), List.mem_of_getElem? (i := 1383) (by decide +kernel), List.mem_of_getElem? (i := 1384) (by decide +kernel)⟩
theorem lw_p56 : lw_okq (⟨"SheSaysModel", "term", "()V"⟩, 59) := ⟨⟨by decide +kernel, by decide +kernel⟩, List.mem_of_getElem? (i := 1101) (by decide +kernel), List.mem_of_getElem? (i := 1387) (by decide +kernel), List.mem_of_getElem? (i := 1388) (by decide +kernel)⟩
theorem lw_p57 : lw_okq (⟨"SheSaysModel", "atom", "()V"⟩, 59) := ⟨⟨by decide +kernel, by decide +kernel⟩, List.mem_of_getElem? (i := 1101) (by decide +kernel), List.mem_of_getElem? (i := 1391) (by decide +kernel), List.mem_of_getElem? (i := 1392) (by decide +kernel)⟩
theorem lw_p58 : lw_okq (⟨"SheSaysModel", "plainNumber", "()I"⟩, 59) := ⟨⟨by decide +kernel, by decide +kernel⟩, List.mem_of_getElem? (i := 1101) (by decide +kernel), List.mem_of_getElem? (i := 1395) (by decide +kernel), List.mem_of_getElem? (i := 1396) (by decide +kernel)⟩
theorem lw_p59 : lw_okq (⟨"SheSaysModel", "compare", "()V"⟩, 59) := ⟨⟨by decide +kernel, by decide +kernel⟩, List.mem_of_getElem? (i := 1101) (by decide +kernel), List.mem_of_getElem? (i := 1402) (by decide +kernel), List.mem_of_getElem? (i := 1403) (by decide +kernel)⟩
theorem lw_p60 : lw_okq (⟨"SheSaysModel", "goOnAnd", "()V"⟩, 59) := ⟨⟨by decide +kernel, by decide +kernel⟩, List.mem_of_getElem? (i := 1101) (by decide +kernel), List.mem_of_getElem? (i := 1409) (by decide +kernel), List.mem_of_getElem? (i := 1410) (by decide +kernel)⟩
theorem lw_p61 : lw_okq (⟨"SheSaysModel", "goOnOr", "()V"⟩, 59) := ⟨⟨by decide +kernel, by decide +kernel⟩, List.mem_of_getElem? (i := 1101) (by decide +kernel), List.mem_of_getElem? (i := 1413) (by decide +kernel), List.mem_of_getElem? (i := 1414) (by decide +kernel)⟩
theorem lw_p62 : lw_okq (⟨"SheSaysModel", "takeBook", "()I"⟩, 59) := ⟨⟨by decide +kernel, by decide +kernel⟩, List.mem_of_getElem? (i := 1101) (by decide +kernel), List.mem_of_getElem? (i := 1421) (by decide +kernel), List.mem_of_getElem? (i := 1422) (by decide +kernel)⟩
theorem lw_p63 : lw_okq (⟨"SheSaysModel", "isSpeech", "(I)Z"⟩, 59) := ⟨⟨by decide +kernel, by decide +kernel⟩, List.mem_of_getElem? (i := 1101) (by decide +kernel), List.mem_of_getElem? (i := 1432) (by decide +kernel), List.mem_of_getElem? (i := 1433) (by decide +kernel)⟩
def lw_privs_4 : List (MethodName × Nat) := [(⟨"SheSaysModel", "open", "(I)V"⟩, 59), (⟨"SheSaysModel", "clause", "()V"⟩, 59), (⟨"SheSaysModel", "condition", "()V"⟩, 59), (⟨"SheSaysModel", "unit", "()V"⟩, 59), (⟨"SheSaysModel", "opens", "()V"⟩, 59), (⟨"SheSaysModel", "put", "(II)V"⟩, 59), (⟨"SheSaysModel", "closes", "(I)V"⟩, 59), (⟨"SheSaysModel", "sum", "()V"⟩, 59), (⟨"SheSaysModel", "term", "()V"⟩, 59), (⟨"SheSaysModel", "atom", "()V"⟩, 59), (⟨"SheSaysModel", "plainNumber", "()I"⟩, 59), (⟨"SheSaysModel", "compare", "()V"⟩, 59), (⟨"SheSaysModel", "goOnAnd", "()V"⟩, 59), (⟨"SheSaysModel", "goOnOr", "()V"⟩, 59), (⟨"SheSaysModel", "takeBook", "()I"⟩, 59), (⟨"SheSaysModel", "isSpeech", "(I)Z"⟩, 59)]
theorem lw_r4 : ∀ q ∈ lw_privs_4, lw_okq q := List.forall_mem_cons.mpr ⟨lw_p48, List.forall_mem_cons.mpr ⟨lw_p49, List.forall_mem_cons.mpr ⟨lw_p50, List.forall_mem_cons.mpr ⟨lw_p51, List.forall_mem_cons.mpr ⟨lw_p52, List.forall_mem_cons.mpr ⟨lw_p53, List.forall_mem_cons.mpr ⟨lw_p54, List.forall_mem_cons.mpr ⟨lw_p55, List.forall_mem_cons.mpr ⟨lw_p56, List.forall_mem_cons.mpr ⟨lw_p57, List.forall_mem_cons.mpr ⟨lw_p58, List.forall_mem_cons.mpr ⟨lw_p59, List.forall_mem_cons.mpr ⟨lw_p60, List.forall_mem_cons.mpr ⟨lw_p61, List.forall_mem_cons.mpr ⟨lw_p62, List.forall_mem_cons.mpr ⟨lw_p63, fun _ h => absurd h List.not_mem_nil⟩⟩⟩⟩⟩⟩⟩⟩⟩⟩⟩⟩⟩⟩⟩⟩
theorem lw_p64 : lw_okq (⟨"SheSaysModel", "cue", "(I)I"⟩, 59) := ⟨⟨by decide +kernel, by decide +kernel⟩, List.mem_of_getElem? (i := 1101) (by decide +kernel), List.mem_of_getElem? (i := 1436) (by decide +kernel), List.mem_of_getElem? (i := 1437) (by decide +kernel)⟩
theorem lw_p65 : lw_okq (⟨"SheSaysModel", "gap", "(I)I"⟩, 59) := ⟨⟨by decide +kernel, by decide +kernel⟩, List.mem_of_getElem? (i := 1101) (by decide +kernel), List.mem_of_getElem? (i := 1440) (by decide +kernel), List.mem_of_getElem? (i := 1441) (by decide +kernel)⟩
theorem lw_p66 : lw_okq (⟨"SheSaysModel", "likes", "(I)I"⟩, 59) := ⟨⟨by decide +kernel, by decide +kernel⟩, List.mem_of_getElem? (i := 1101) (by decide +kernel), List.mem_of_getElem? (i := 1444) (by decide +kernel), List.mem_of_getElem? (i := 1445) (by decide +kernel)⟩
theorem lw_p67 : lw_okq (⟨"SheSaysModel", "areLike", "(II)Z"⟩, 59) := ⟨⟨by decide +kernel, by decide +kernel⟩, List.mem_of_getElem? (i := 1101) (by decide +kernel), List.mem_of_getElem? (i := 1448) (by decide +kernel), List.mem_of_getElem? (i := 1449) (by decide +kernel)⟩
theorem lw_p68 : lw_okq (⟨"SheSaysModel", "forgets", "(I)I"⟩, 59) := ⟨⟨by decide +kernel, by decide +kernel⟩, List.mem_of_getElem? (i := 1101) (by decide +kernel), List.mem_of_getElem? (i := 1452) (by decide +kernel), List.mem_of_getElem? (i := 1453) (by decide +kernel)⟩
theorem lw_p69 : lw_okq (⟨"SheSaysModel", "worthOf", "(I)I"⟩, 59) := ⟨⟨by decide +kernel, by decide +kernel⟩, List.mem_of_getElem? (i := 1101) (by decide +kernel), List.mem_of_getElem? (i := 1456) (by decide +kernel), List.mem_of_getElem? (i := 1457) (by decide +kernel)⟩
theorem lw_p70 : lw_okq (⟨"SheSaysModel", "workOut", "(III)I"⟩, 59) := ⟨⟨by decide +kernel, by decide +kernel⟩, List.mem_of_getElem? (i := 1101) (by decide +kernel), List.mem_of_getElem? (i := 1460) (by decide +kernel), List.mem_of_getElem? (i := 1461) (by decide +kernel)⟩
theorem lw_p71 : lw_okq (⟨"SheSaysModel", "leapOf", "(I)I"⟩, 59) := ⟨⟨by decide +kernel, by decide +kernel⟩, List.mem_of_getElem? (i := 1101) (by decide +kernel), List.mem_of_getElem? (i := 1497) (by decide +kernel), List.mem_of_getElem? (i := 1498) (by decide +kernel)⟩
theorem lw_p72 : lw_okq (⟨"SheSaysModel", "areLosses", "(I)Z"⟩, 59) := ⟨⟨by decide +kernel, by decide +kernel⟩, List.mem_of_getElem? (i := 1101) (by decide +kernel), List.mem_of_getElem? (i := 1506) (by decide +kernel), List.mem_of_getElem? (i := 1507) (by decide +kernel)⟩
theorem lw_p73 : lw_okq (⟨"SheSaysModel", "goThrough", "(I)V"⟩, 59) := ⟨⟨by decide +kernel, by decide +kernel⟩, List.mem_of_getElem? (i := 1101) (by decide +kernel), List.mem_of_getElem? (i := 1510) (by decide +kernel), List.mem_of_getElem? (i := 1511) (by decide +kernel)⟩
theorem lw_p74 : lw_okq (⟨"SheSaysModel", "begin", "()V"⟩, 59) := ⟨⟨by decide +kernel, by decide +kernel⟩, List.mem_of_getElem? (i := 1101) (by decide +kernel), List.mem_of_getElem? (i := 1514) (by decide +kernel), List.mem_of_getElem? (i := 1515) (by decide +kernel)⟩
theorem lw_p75 : lw_okq (⟨"SheSaysModel", "lose", "(I)I"⟩, 59) := ⟨⟨by decide +kernel, by decide +kernel⟩, List.mem_of_getElem? (i := 1101) (by decide +kernel), List.mem_of_getElem? (i := 1518) (by decide +kernel), List.mem_of_getElem? (i := 1519) (by decide +kernel)⟩
theorem lw_p76 : lw_okq (⟨"SheSaysModel", "say", "(I)V"⟩, 59) := ⟨⟨by decide +kernel, by decide +kernel⟩, List.mem_of_getElem? (i := 1101) (by decide +kernel), List.mem_of_getElem? (i := 1522) (by decide +kernel), List.mem_of_getElem? (i := 1523) (by decide +kernel)⟩
theorem lw_p77 : lw_okq (⟨"SheSaysModel", "drawn", "(J)V"⟩, 59) := ⟨⟨by decide +kernel, by decide +kernel⟩, List.mem_of_getElem? (i := 1101) (by decide +kernel), List.mem_of_getElem? (i := 1534) (by decide +kernel), List.mem_of_getElem? (i := 1535) (by decide +kernel)⟩
theorem lw_p78 : lw_okq (⟨"SheSaysModel", "comes", "(I)I"⟩, 59) := ⟨⟨by decide +kernel, by decide +kernel⟩, List.mem_of_getElem? (i := 1101) (by decide +kernel), List.mem_of_getElem? (i := 1538) (by decide +kernel), List.mem_of_getElem? (i := 1539) (by decide +kernel)⟩
theorem lw_p79 : lw_okq (⟨"SheSaysModel", "draw", "()I"⟩, 59) := ⟨⟨by decide +kernel, by decide +kernel⟩, List.mem_of_getElem? (i := 1101) (by decide +kernel), List.mem_of_getElem? (i := 1542) (by decide +kernel), List.mem_of_getElem? (i := 1543) (by decide +kernel)⟩
def lw_privs_5 : List (MethodName × Nat) := [(⟨"SheSaysModel", "cue", "(I)I"⟩, 59), (⟨"SheSaysModel", "gap", "(I)I"⟩, 59), (⟨"SheSaysModel", "likes", "(I)I"⟩, 59), (⟨"SheSaysModel", "areLike", "(II)Z"⟩, 59), (⟨"SheSaysModel", "forgets", "(I)I"⟩, 59), (⟨"SheSaysModel", "worthOf", "(I)I"⟩, 59), (⟨"SheSaysModel", "workOut", "(III)I"⟩, 59), (⟨"SheSaysModel", "leapOf", "(I)I"⟩, 59), (⟨"SheSaysModel", "areLosses", "(I)Z"⟩, 59), (⟨"SheSaysModel", "goThrough", "(I)V"⟩, 59), (⟨"SheSaysModel", "begin", "()V"⟩, 59), (⟨"SheSaysModel", "lose", "(I)I"⟩, 59), (⟨"SheSaysModel", "say", "(I)V"⟩, 59), (⟨"SheSaysModel", "drawn", "(J)V"⟩, 59), (⟨"SheSaysModel", "comes", "(I)I"⟩, 59), (⟨"SheSaysModel", "draw", "()I"⟩, 59)]
theorem lw_r5 : ∀ q ∈ lw_privs_5, lw_okq q := List.forall_mem_cons.mpr ⟨lw_p64, List.forall_mem_cons.mpr ⟨lw_p65, List.forall_mem_cons.mpr ⟨lw_p66, List.forall_mem_cons.mpr ⟨lw_p67, List.forall_mem_cons.mpr ⟨lw_p68, List.forall_mem_cons.mpr ⟨lw_p69, List.forall_mem_cons.mpr ⟨lw_p70, List.forall_mem_cons.mpr ⟨lw_p71, List.forall_mem_cons.mpr ⟨lw_p72, List.forall_mem_cons.mpr ⟨lw_p73, List.forall_mem_cons.mpr ⟨lw_p74, List.forall_mem_cons.mpr ⟨lw_p75, List.forall_mem_cons.mpr ⟨lw_p76, List.forall_mem_cons.mpr ⟨lw_p77, List.forall_mem_cons.mpr ⟨lw_p78, List.forall_mem_cons.mpr ⟨lw_p79, fun _ h => absurd h List.not_mem_nil⟩⟩⟩⟩⟩⟩⟩⟩⟩⟩⟩⟩⟩⟩⟩⟩
theorem lw_p80 : lw_okq (⟨"SheSaysModel", "leapTold", "(ZI)I"⟩, 59) := ⟨⟨by decide +kernel, by decide +kernel⟩, List.mem_of_getElem? (i := 1101) (by decide +kernel), List.mem_of_getElem? (i := 1561) (by decide +kernel), List.mem_of_getElem? (i := 1562) (by decide +kernel)⟩
theorem lw_p81 : lw_okq (⟨"SheSaysModel", "leapBy", "(Z)I"⟩, 59) := ⟨⟨by decide +kernel, by decide +kernel⟩, List.mem_of_getElem? (i := 1101) (by decide +kernel), List.mem_of_getElem? (i := 1565) (by decide +kernel), List.mem_of_getElem? (i := 1566) (by decide +kernel)⟩
theorem lw_p82 : lw_okq (⟨"SheSaysModel", "leapsTo", "(I)I"⟩, 59) := ⟨⟨by decide +kernel, by decide +kernel⟩, List.mem_of_getElem? (i := 1101) (by decide +kernel), List.mem_of_getElem? (i := 1580) (by decide +kernel), List.mem_of_getElem? (i := 1581) (by decide +kernel)⟩
theorem lw_p83 : lw_okq (⟨"SheSaysModel", "isMost", "(I)Z"⟩, 59) := ⟨⟨by decide +kernel, by decide +kernel⟩, List.mem_of_getElem? (i := 1101) (by decide +kernel), List.mem_of_getElem? (i := 1600) (by decide +kernel), List.mem_of_getElem? (i := 1601) (by decide +kernel)⟩
theorem lw_p84 : lw_okq (⟨"SheSaysModel", "chanceOf", "(II)I"⟩, 59) := ⟨⟨by decide +kernel, by decide +kernel⟩, List.mem_of_getElem? (i := 1101) (by decide +kernel), List.mem_of_getElem? (i := 1604) (by decide +kernel), List.mem_of_getElem? (i := 1605) (by decide +kernel)⟩
theorem lw_p85 : lw_okq (⟨"SheSaysModel", "goOn", "(I)V"⟩, 59) := ⟨⟨by decide +kernel, by decide +kernel⟩, List.mem_of_getElem? (i := 1101) (by decide +kernel), List.mem_of_getElem? (i := 1608) (by decide +kernel), List.mem_of_getElem? (i := 1609) (by decide +kernel)⟩
theorem lw_p86 : lw_okq (⟨"SheSaysModel", "actors", "()I"⟩, 59) := ⟨⟨by decide +kernel, by decide +kernel⟩, List.mem_of_getElem? (i := 1101) (by decide +kernel), List.mem_of_getElem? (i := 1634) (by decide +kernel), List.mem_of_getElem? (i := 1635) (by decide +kernel)⟩
theorem lw_p87 : lw_okq (⟨"SheSaysModel", "canBeOne", "(III)Z"⟩, 59) := ⟨⟨by decide +kernel, by decide +kernel⟩, List.mem_of_getElem? (i := 1101) (by decide +kernel), List.mem_of_getElem? (i := 1654) (by decide +kernel), List.mem_of_getElem? (i := 1655) (by decide +kernel)⟩
theorem lw_p88 : lw_okq (⟨"SheSaysModel", "areOne", "(II)Z"⟩, 59) := ⟨⟨by decide +kernel, by decide +kernel⟩, List.mem_of_getElem? (i := 1101) (by decide +kernel), List.mem_of_getElem? (i := 1658) (by decide +kernel), List.mem_of_getElem? (i := 1659) (by decide +kernel)⟩
theorem lw_p89 : lw_okq (⟨"SheSaysModel", "lossesTold", "(IIZ)I"⟩, 59) := ⟨⟨by decide +kernel, by decide +kernel⟩, List.mem_of_getElem? (i := 1101) (by decide +kernel), List.mem_of_getElem? (i := 1666) (by decide +kernel), List.mem_of_getElem? (i := 1667) (by decide +kernel)⟩
theorem lw_p90 : lw_okq (⟨"SheSaysModel", "lossesFor", "(IZ)I"⟩, 59) := ⟨⟨by decide +kernel, by decide +kernel⟩, List.mem_of_getElem? (i := 1101) (by decide +kernel), List.mem_of_getElem? (i := 1670) (by decide +kernel), List.mem_of_getElem? (i := 1671) (by decide +kernel)⟩
def lw_privs_6 : List (MethodName × Nat) := [(⟨"SheSaysModel", "leapTold", "(ZI)I"⟩, 59), (⟨"SheSaysModel", "leapBy", "(Z)I"⟩, 59), (⟨"SheSaysModel", "leapsTo", "(I)I"⟩, 59), (⟨"SheSaysModel", "isMost", "(I)Z"⟩, 59), (⟨"SheSaysModel", "chanceOf", "(II)I"⟩, 59), (⟨"SheSaysModel", "goOn", "(I)V"⟩, 59), (⟨"SheSaysModel", "actors", "()I"⟩, 59), (⟨"SheSaysModel", "canBeOne", "(III)Z"⟩, 59), (⟨"SheSaysModel", "areOne", "(II)Z"⟩, 59), (⟨"SheSaysModel", "lossesTold", "(IIZ)I"⟩, 59), (⟨"SheSaysModel", "lossesFor", "(IZ)I"⟩, 59)]
theorem lw_r6 : ∀ q ∈ lw_privs_6, lw_okq q := List.forall_mem_cons.mpr ⟨lw_p80, List.forall_mem_cons.mpr ⟨lw_p81, List.forall_mem_cons.mpr ⟨lw_p82, List.forall_mem_cons.mpr ⟨lw_p83, List.forall_mem_cons.mpr ⟨lw_p84, List.forall_mem_cons.mpr ⟨lw_p85, List.forall_mem_cons.mpr ⟨lw_p86, List.forall_mem_cons.mpr ⟨lw_p87, List.forall_mem_cons.mpr ⟨lw_p88, List.forall_mem_cons.mpr ⟨lw_p89, List.forall_mem_cons.mpr ⟨lw_p90, fun _ h => absurd h List.not_mem_nil⟩⟩⟩⟩⟩⟩⟩⟩⟩⟩⟩
def lw_privs : List (MethodName × Nat) := lw_privs_1 ++ (lw_privs_2 ++ (lw_privs_3 ++ (lw_privs_4 ++ (lw_privs_5 ++ (lw_privs_6)))))
def lw_tbl : List Cond := k2_sels lw_privs ++ tables_1
theorem lw_privs_ok : ∀ q ∈ lw_privs, lw_okq q := by
  show ∀ q ∈ lw_privs_1 ++ (lw_privs_2 ++ (lw_privs_3 ++ (lw_privs_4 ++ (lw_privs_5 ++ (lw_privs_6))))), lw_okq q
  exact List.forall_mem_append.mpr ⟨lw_r1, List.forall_mem_append.mpr ⟨lw_r2, List.forall_mem_append.mpr ⟨lw_r3, List.forall_mem_append.mpr ⟨lw_r4, List.forall_mem_append.mpr ⟨lw_r5, lw_r6⟩⟩⟩⟩⟩
def RX0 : String := "SheSays$BookReader"
def TX0 : u_T := fun k => match k with
  | 0 => ("SheSays$BookReader", "tape", "LSheSays$Tape;", true)
  | 1 => ("SheSays$BookReader", "actor", "[I", true)
  | 2 => ("SheSays$BookReader", "word", "[I", true)
  | 3 => ("SheSays$BookReader", "length", "[I", true)
  | 4 => ("SheSays$BookReader", "isCut", "[Z", true)
  | 5 => ("SheSays$BookReader", "speeches", "I", false)
  | 6 => ("SheSays$BookReader", "left", "I", false)
  | _ => ("SheSays$BookReader", "lastCut", "I", false)
def tyX0 : Nat → FieldType := fun k => match k with
  | 0 => .object "SheSays$Tape"
  | 1 => .array .int
  | 2 => .array .int
  | 3 => .array .int
  | 4 => .array .boolean
  | 5 => .int
  | 6 => .int
  | _ => .int
abbrev wsX00 : List Cond := u_ws RX0 TX0 8
theorem nmX0 : ∀ a, a < 8 → ∀ b, b < 8 → a ≠ b → (TX0 a).2.1 ≠ (TX0 b).2.1 := by decide +kernel
theorem tyX0_ok : ∀ k, k < 8 → parseFieldDescriptor (TX0 k).2.2.1 = some (tyX0 k) := by decide +kernel
abbrev cX0_init : ByteArray := prog_2_method_1_code
def yX0_init : MethodName := ⟨RX0, "<init>", "(LSheSays$Tape;)V"⟩
abbrev cX0_read : ByteArray := prog_2_method_2_code
def yX0_read : MethodName := ⟨RX0, "read", "()I"⟩
abbrev cX0_readSpeeches : ByteArray := prog_2_method_3_code
def yX0_readSpeeches : MethodName := ⟨RX0, "readSpeeches", "()Z"⟩
abbrev cX0_readSpeech : ByteArray := prog_2_method_4_code
def yX0_readSpeech : MethodName := ⟨RX0, "readSpeech", "(I)Z"⟩
abbrev cX0_readLength : ByteArray := prog_2_method_5_code
def yX0_readLength : MethodName := ⟨RX0, "readLength", "(I)Z"⟩
abbrev cX0_readCuts : ByteArray := prog_2_method_6_code
def yX0_readCuts : MethodName := ⟨RX0, "readCuts", "()Z"⟩
abbrev cX0_readCut : ByteArray := prog_2_method_7_code
def yX0_readCut : MethodName := ⟨RX0, "readCut", "()Z"⟩
def RX1 : String := "SheSays$Evening"
def TX1 : u_T := fun k => match k with
  | 0 => ("SheSays$Walk", "play", "LSheSays$Play;", true)
  | 1 => ("SheSays$Walk", "leaps", "LSheSays$Leaps;", true)
  | 2 => ("SheSays$Walk", "row", "[I", true)
  | 3 => ("SheSays$Walk", "said", "I", false)
  | 4 => ("SheSays$Walk", "seconds", "I", false)
  | 5 => ("SheSays$Walk", "ending", "I", false)
  | 6 => ("SheSays$Walk", "stoppedAt", "I", false)
  | 7 => ("SheSays$Evening", "pending", "I", false)
  | 8 => ("SheSays$Evening", "wantsMost", "Z", false)
  | 9 => ("SheSays$Evening", "bestSaid", "I", false)
  | _ => ("SheSays$Evening", "bestLosses", "I", false)
def tyX1 : Nat → FieldType := fun k => match k with
  | 0 => .object "SheSays$Play"
  | 1 => .object "SheSays$Leaps"
  | 2 => .array .int
  | 3 => .int
  | 4 => .int
  | 5 => .int
  | 6 => .int
  | 7 => .int
  | 8 => .boolean
  | 9 => .int
  | _ => .int
abbrev wsX10 : List Cond := u_ws RX1 TX1 11
theorem nmX1 : ∀ a, a < 11 → ∀ b, b < 11 → a ≠ b → (TX1 a).2.1 ≠ (TX1 b).2.1 := by decide +kernel
theorem tyX1_ok : ∀ k, k < 11 → parseFieldDescriptor (TX1 k).2.2.1 = some (tyX1 k) := by decide +kernel
abbrev cX1_init : ByteArray := prog_3_method_1_code
def yX1_init : MethodName := ⟨RX1, "<init>", "(LSheSays$Play;LSheSays$Leaps;)V"⟩
abbrev cX1_play : ByteArray := prog_3_method_2_code
def yX1_play : MethodName := ⟨RX1, "play", "(I)V"⟩
abbrev cX1_saidAt : ByteArray := prog_3_method_3_code
def yX1_saidAt : MethodName := ⟨RX1, "saidAt", "(I)I"⟩
abbrev cX1_search : ByteArray := prog_3_method_4_code
def yX1_search : MethodName := ⟨RX1, "search", "(IZ)V"⟩
abbrev cX1_explore : ByteArray := prog_3_method_5_code
def yX1_explore : MethodName := ⟨RX1, "explore", "(IIIII)V"⟩
abbrev cX1_settle : ByteArray := prog_3_method_6_code
def yX1_settle : MethodName := ⟨RX1, "settle", "(II)V"⟩
def RX2 : String := "SheSays$Law"
def TX2 : u_T := fun k => match k with
  | 0 => ("SheSays$Law", "code", "[I", true)
  | 1 => ("SheSays$Law", "size", "I", false)
  | 2 => ("SheSays$Law", "stack", "[I", true)
  | _ => ("SheSays$Law", "top", "I", false)
def tyX2 : Nat → FieldType := fun k => match k with
  | 0 => .array .int
  | 1 => .int
  | 2 => .array .int
  | _ => .int
abbrev wsX20 : List Cond := u_ws RX2 TX2 4
theorem nmX2 : ∀ a, a < 4 → ∀ b, b < 4 → a ≠ b → (TX2 a).2.1 ≠ (TX2 b).2.1 := by decide +kernel
theorem tyX2_ok : ∀ k, k < 4 → parseFieldDescriptor (TX2 k).2.2.1 = some (tyX2 k) := by decide +kernel
abbrev cX2_init : ByteArray := prog_4_method_1_code
def yX2_init : MethodName := ⟨RX2, "<init>", "()V"⟩
abbrev cX2_isLetter : ByteArray := prog_4_method_2_code
def yX2_isLetter : MethodName := ⟨RX2, "isLetter", "(I)Z"⟩
abbrev cX2_put : ByteArray := prog_4_method_3_code
def yX2_put : MethodName := ⟨RX2, "put", "(LSheSays$LawReader;)V"⟩
abbrev cX2_worth : ByteArray := prog_4_method_4_code
def yX2_worth : MethodName := ⟨RX2, "worth", "(LSheSays$Play;IZ)I"⟩
abbrev cX2_work : ByteArray := prog_4_method_5_code
def yX2_work : MethodName := ⟨RX2, "work", "(ILSheSays$Play;IZ)V"⟩
abbrev cX2_push : ByteArray := prog_4_method_6_code
def yX2_push : MethodName := ⟨RX2, "push", "(I)V"⟩
abbrev cX2_pop : ByteArray := prog_4_method_7_code
def yX2_pop : MethodName := ⟨RX2, "pop", "()I"⟩
abbrev cX2_join : ByteArray := prog_4_method_8_code
def yX2_join : MethodName := ⟨RX2, "join", "(III)I"⟩
abbrev cX2_within : ByteArray := prog_4_method_9_code
def yX2_within : MethodName := ⟨RX2, "within", "(J)I"⟩
def RX3 : String := "SheSays$LawReader"
def TX3 : u_T := fun k => match k with
  | 0 => ("SheSays$LawReader", "tape", "LSheSays$Tape;", true)
  | 1 => ("SheSays$LawReader", "code", "[I", true)
  | _ => ("SheSays$LawReader", "size", "I", false)
def tyX3 : Nat → FieldType := fun k => match k with
  | 0 => .object "SheSays$Tape"
  | 1 => .array .int
  | _ => .int
abbrev wsX30 : List Cond := u_ws RX3 TX3 3
theorem nmX3 : ∀ a, a < 3 → ∀ b, b < 3 → a ≠ b → (TX3 a).2.1 ≠ (TX3 b).2.1 := by decide +kernel
theorem tyX3_ok : ∀ k, k < 3 → parseFieldDescriptor (TX3 k).2.2.1 = some (tyX3 k) := by decide +kernel
abbrev cX3_init : ByteArray := prog_5_method_1_code
def yX3_init : MethodName := ⟨RX3, "<init>", "(LSheSays$Tape;)V"⟩
abbrev cX3_read : ByteArray := prog_5_method_2_code
def yX3_read : MethodName := ⟨RX3, "read", "()I"⟩
abbrev cX3_write : ByteArray := prog_5_method_3_code
def yX3_write : MethodName := ⟨RX3, "write", "(I)V"⟩
abbrev cX3_readClause : ByteArray := prog_5_method_4_code
def yX3_readClause : MethodName := ⟨RX3, "readClause", "()Z"⟩
abbrev cX3_atComparison : ByteArray := prog_5_method_5_code
def yX3_atComparison : MethodName := ⟨RX3, "atComparison", "()Z"⟩
abbrev cX3_readCondition : ByteArray := prog_5_method_6_code
def yX3_readCondition : MethodName := ⟨RX3, "readCondition", "(IZ)Z"⟩
abbrev cX3_readTruth : ByteArray := prog_5_method_7_code
def yX3_readTruth : MethodName := ⟨RX3, "readTruth", "(IZ)Z"⟩
abbrev cX3_readUnit : ByteArray := prog_5_method_8_code
def yX3_readUnit : MethodName := ⟨RX3, "readUnit", "(IZ)Z"⟩
abbrev cX3_readNested : ByteArray := prog_5_method_9_code
def yX3_readNested : MethodName := ⟨RX3, "readNested", "(II)Z"⟩
abbrev cX3_readSum : ByteArray := prog_5_method_10_code
def yX3_readSum : MethodName := ⟨RX3, "readSum", "(I)Z"⟩
abbrev cX3_readTerm : ByteArray := prog_5_method_11_code
def yX3_readTerm : MethodName := ⟨RX3, "readTerm", "(I)Z"⟩
abbrev cX3_readAtom : ByteArray := prog_5_method_12_code
def yX3_readAtom : MethodName := ⟨RX3, "readAtom", "(I)Z"⟩
def RX4 : String := "SheSays$Leaps"
def TX4 : u_T := fun k => match k with
  | 0 => ("SheSays$Leaps", "play", "LSheSays$Play;", true)
  | 1 => ("SheSays$Leaps", "kind", "[I", true)
  | 2 => ("SheSays$Leaps", "take", "[I", true)
  | 3 => ("SheSays$Leaps", "to", "[I", true)
  | _ => ("SheSays$Leaps", "rows", "[[J", true)
def tyX4 : Nat → FieldType := fun k => match k with
  | 0 => .object "SheSays$Play"
  | 1 => .array .int
  | 2 => .array .int
  | 3 => .array .int
  | _ => .array (.array .long)
abbrev wsX40 : List Cond := u_ws RX4 TX4 5
theorem nmX4 : ∀ a, a < 5 → ∀ b, b < 5 → a ≠ b → (TX4 a).2.1 ≠ (TX4 b).2.1 := by decide +kernel
theorem tyX4_ok : ∀ k, k < 5 → parseFieldDescriptor (TX4 k).2.2.1 = some (tyX4 k) := by decide +kernel
abbrev cX4_init : ByteArray := prog_6_method_1_code
def yX4_init : MethodName := ⟨RX4, "<init>", "(LSheSays$Play;)V"⟩
abbrev cX4_plan : ByteArray := prog_6_method_2_code
def yX4_plan : MethodName := ⟨RX4, "plan", "()V"⟩
abbrev cX4_target : ByteArray := prog_6_method_3_code
def yX4_target : MethodName := ⟨RX4, "target", "(I)I"⟩
abbrev cX4_takeOf : ByteArray := prog_6_method_4_code
def yX4_takeOf : MethodName := ⟨RX4, "takeOf", "(I)I"⟩
abbrev cX4_shortestLoop : ByteArray := prog_6_method_5_code
def yX4_shortestLoop : MethodName := ⟨RX4, "shortestLoop", "(Z)I"⟩
abbrev cX4_longestHole : ByteArray := prog_6_method_6_code
def yX4_longestHole : MethodName := ⟨RX4, "longestHole", "(Z)I"⟩
abbrev cX4_whichLeapTo : ByteArray := prog_6_method_7_code
def yX4_whichLeapTo : MethodName := ⟨RX4, "whichLeapTo", "(I)I"⟩
abbrev cX4_rowsWith : ByteArray := prog_6_method_8_code
def yX4_rowsWith : MethodName := ⟨RX4, "rowsWith", "(I)I"⟩
def RX5 : String := "SheSays$Night"
def TX5 : u_T := fun k => match k with
  | 0 => ("SheSays$Walk", "play", "LSheSays$Play;", true)
  | 1 => ("SheSays$Walk", "leaps", "LSheSays$Leaps;", true)
  | 2 => ("SheSays$Walk", "row", "[I", true)
  | 3 => ("SheSays$Walk", "said", "I", false)
  | 4 => ("SheSays$Walk", "seconds", "I", false)
  | 5 => ("SheSays$Walk", "ending", "I", false)
  | 6 => ("SheSays$Walk", "stoppedAt", "I", false)
  | 7 => ("SheSays$Night", "x", "J", false)
  | 8 => ("SheSays$Night", "marked", "I", false)
  | 9 => ("SheSays$Night", "lost", "I", false)
  | 10 => ("SheSays$Night", "saved", "I", false)
  | 11 => ("SheSays$Night", "leapt", "I", false)
  | _ => ("SheSays$Night", "lostAt", "[I", true)
def tyX5 : Nat → FieldType := fun k => match k with
  | 0 => .object "SheSays$Play"
  | 1 => .object "SheSays$Leaps"
  | 2 => .array .int
  | 3 => .int
  | 4 => .int
  | 5 => .int
  | 6 => .int
  | 7 => .long
  | 8 => .int
  | 9 => .int
  | 10 => .int
  | 11 => .int
  | _ => .array .int
abbrev wsX50 : List Cond := u_ws RX5 TX5 13
theorem nmX5 : ∀ a, a < 13 → ∀ b, b < 13 → a ≠ b → (TX5 a).2.1 ≠ (TX5 b).2.1 := by decide +kernel
theorem tyX5_ok : ∀ k, k < 13 → parseFieldDescriptor (TX5 k).2.2.1 = some (tyX5 k) := by decide +kernel
abbrev cX5_init : ByteArray := prog_7_method_1_code
def yX5_init : MethodName := ⟨RX5, "<init>", "(LSheSays$Play;LSheSays$Leaps;)V"⟩
abbrev cX5_play : ByteArray := prog_7_method_2_code
def yX5_play : MethodName := ⟨RX5, "play", "(JI)V"⟩
abbrev cX5_draw : ByteArray := prog_7_method_3_code
def yX5_draw : MethodName := ⟨RX5, "draw", "()I"⟩
abbrev cX5_saidAt : ByteArray := prog_7_method_4_code
def yX5_saidAt : MethodName := ⟨RX5, "saidAt", "(I)I"⟩
abbrev cX5_secondsInAll : ByteArray := prog_7_method_5_code
def yX5_secondsInAll : MethodName := ⟨RX5, "secondsInAll", "()I"⟩
def RX6 : String := "SheSays$Notes"
def TX6 : u_T := fun k => match k with
  | 0 => ("SheSays$Notes", "marked", "I", false)
  | 1 => ("SheSays$Notes", "could", "I", false)
  | 2 => ("SheSays$Notes", "nights", "I", false)
  | 3 => ("SheSays$Notes", "timesLost", "[I", true)
  | 4 => ("SheSays$Notes", "hasImage", "Z", false)
  | 5 => ("SheSays$Notes", "imageMarked", "I", false)
  | _ => ("SheSays$Notes", "imageTimesLost", "[I", true)
def tyX6 : Nat → FieldType := fun k => match k with
  | 0 => .int
  | 1 => .int
  | 2 => .int
  | 3 => .array .int
  | 4 => .boolean
  | 5 => .int
  | _ => .array .int
abbrev wsX60 : List Cond := u_ws RX6 TX6 7
theorem nmX6 : ∀ a, a < 7 → ∀ b, b < 7 → a ≠ b → (TX6 a).2.1 ≠ (TX6 b).2.1 := by decide +kernel
theorem tyX6_ok : ∀ k, k < 7 → parseFieldDescriptor (TX6 k).2.2.1 = some (tyX6 k) := by decide +kernel
abbrev cX6_init : ByteArray := prog_8_method_1_code
def yX6_init : MethodName := ⟨RX6, "<init>", "()V"⟩
abbrev cX6_clear : ByteArray := prog_8_method_2_code
def yX6_clear : MethodName := ⟨RX6, "clear", "()V"⟩
abbrev cX6_isMarked : ByteArray := prog_8_method_3_code
def yX6_isMarked : MethodName := ⟨RX6, "isMarked", "(I)Z"⟩
abbrev cX6_couldBe : ByteArray := prog_8_method_4_code
def yX6_couldBe : MethodName := ⟨RX6, "couldBe", "(I)Z"⟩
abbrev cX6_keep : ByteArray := prog_8_method_5_code
def yX6_keep : MethodName := ⟨RX6, "keep", "(LSheSays$Night;)V"⟩
abbrev cX6_markMostLost : ByteArray := prog_8_method_6_code
def yX6_markMostLost : MethodName := ⟨RX6, "markMostLost", "(I)V"⟩
abbrev cX6_mostLostNotMarked : ByteArray := prog_8_method_7_code
def yX6_mostLostNotMarked : MethodName := ⟨RX6, "mostLostNotMarked", "()I"⟩
abbrev cX6_keepImage : ByteArray := prog_8_method_8_code
def yX6_keepImage : MethodName := ⟨RX6, "keepImage", "()V"⟩
abbrev cX6_goBack : ByteArray := prog_8_method_9_code
def yX6_goBack : MethodName := ⟨RX6, "goBack", "()V"⟩
def RX7 : String := "SheSays$Odds"
def TX7 : u_T := fun k => match k with
  | 0 => ("SheSays$Odds", "play", "LSheSays$Play;", true)
  | 1 => ("SheSays$Odds", "leaps", "LSheSays$Leaps;", true)
  | 2 => ("SheSays$Odds", "forgets", "[I", true)
  | 3 => ("SheSays$Odds", "takes", "[I", true)
  | 4 => ("SheSays$Odds", "now", "[J", false)
  | 5 => ("SheSays$Odds", "next", "[J", false)
  | 6 => ("SheSays$Odds", "stopped", "[J", true)
  | 7 => ("SheSays$Odds", "saidParts", "[J", true)
  | 8 => ("SheSays$Odds", "ended", "J", false)
  | _ => ("SheSays$Odds", "underWay", "J", false)
def tyX7 : Nat → FieldType := fun k => match k with
  | 0 => .object "SheSays$Play"
  | 1 => .object "SheSays$Leaps"
  | 2 => .array .int
  | 3 => .array .int
  | 4 => .array .long
  | 5 => .array .long
  | 6 => .array .long
  | 7 => .array .long
  | 8 => .long
  | _ => .long
abbrev wsX70 : List Cond := u_ws RX7 TX7 10
theorem nmX7 : ∀ a, a < 10 → ∀ b, b < 10 → a ≠ b → (TX7 a).2.1 ≠ (TX7 b).2.1 := by decide +kernel
theorem tyX7_ok : ∀ k, k < 10 → parseFieldDescriptor (TX7 k).2.2.1 = some (tyX7 k) := by decide +kernel
abbrev cX7_init : ByteArray := prog_9_method_1_code
def yX7_init : MethodName := ⟨RX7, "<init>", "(LSheSays$Play;LSheSays$Leaps;)V"⟩
abbrev cX7_chanceWith : ByteArray := prog_9_method_2_code
def yX7_chanceWith : MethodName := ⟨RX7, "chanceWith", "(II)I"⟩
abbrev cX7_chanceIfSure : ByteArray := prog_9_method_3_code
def yX7_chanceIfSure : MethodName := ⟨RX7, "chanceIfSure", "(III)I"⟩
abbrev cX7_fewestMarks : ByteArray := prog_9_method_4_code
def yX7_fewestMarks : MethodName := ⟨RX7, "fewestMarks", "(IIII)I"⟩
abbrev cX7_spread : ByteArray := prog_9_method_5_code
def yX7_spread : MethodName := ⟨RX7, "spread", "(II)I"⟩
abbrev cX7_prepare : ByteArray := prog_9_method_6_code
def yX7_prepare : MethodName := ⟨RX7, "prepare", "(I)V"⟩
abbrev cX7_start : ByteArray := prog_9_method_7_code
def yX7_start : MethodName := ⟨RX7, "start", "()V"⟩
abbrev cX7_flow : ByteArray := prog_9_method_8_code
def yX7_flow : MethodName := ⟨RX7, "flow", "(I)V"⟩
abbrev cX7_reaches : ByteArray := prog_9_method_9_code
def yX7_reaches : MethodName := ⟨RX7, "reaches", "(III)Z"⟩
abbrev cX7_step : ByteArray := prog_9_method_10_code
def yX7_step : MethodName := ⟨RX7, "step", "()V"⟩
abbrev cX7_comeTo : ByteArray := prog_9_method_11_code
def yX7_comeTo : MethodName := ⟨RX7, "comeTo", "(IJ)V"⟩
abbrev cX7_say : ByteArray := prog_9_method_12_code
def yX7_say : MethodName := ⟨RX7, "say", "(IJ)V"⟩
def RX8 : String := "SheSays$Play"
def TX8 : u_T := fun k => match k with
  | 0 => ("SheSays$Play", "bookSize", "I", false)
  | 1 => ("SheSays$Play", "size", "I", false)
  | 2 => ("SheSays$Play", "actor", "[I", true)
  | 3 => ("SheSays$Play", "word", "[I", true)
  | 4 => ("SheSays$Play", "length", "[I", true)
  | 5 => ("SheSays$Play", "place", "[I", true)
  | 6 => ("SheSays$Play", "cue", "[I", true)
  | 7 => ("SheSays$Play", "gap", "[I", true)
  | 8 => ("SheSays$Play", "likes", "[I", true)
  | 9 => ("SheSays$Play", "forgetsBare", "[I", true)
  | 10 => ("SheSays$Play", "forgetsMarked", "[I", true)
  | 11 => ("SheSays$Play", "sharers", "[I", true)
  | _ => ("SheSays$Play", "needed", "[I", true)
def tyX8 : Nat → FieldType := fun k => match k with
  | 0 => .int
  | 1 => .int
  | 2 => .array .int
  | 3 => .array .int
  | 4 => .array .int
  | 5 => .array .int
  | 6 => .array .int
  | 7 => .array .int
  | 8 => .array .int
  | 9 => .array .int
  | 10 => .array .int
  | 11 => .array .int
  | _ => .array .int
abbrev wsX80 : List Cond := u_ws RX8 TX8 13
theorem nmX8 : ∀ a, a < 13 → ∀ b, b < 13 → a ≠ b → (TX8 a).2.1 ≠ (TX8 b).2.1 := by decide +kernel
theorem tyX8_ok : ∀ k, k < 13 → parseFieldDescriptor (TX8 k).2.2.1 = some (tyX8 k) := by decide +kernel
abbrev cX8_init : ByteArray := prog_10_method_1_code
def yX8_init : MethodName := ⟨RX8, "<init>", "()V"⟩
abbrev cX8_put : ByteArray := prog_10_method_2_code
def yX8_put : MethodName := ⟨RX8, "put", "(LSheSays$BookReader;)V"⟩
abbrev cX8_gapOf : ByteArray := prog_10_method_3_code
def yX8_gapOf : MethodName := ⟨RX8, "gapOf", "(I)I"⟩
abbrev cX8_likesOf : ByteArray := prog_10_method_4_code
def yX8_likesOf : MethodName := ⟨RX8, "likesOf", "(I)I"⟩
abbrev cX8_has : ByteArray := prog_10_method_5_code
def yX8_has : MethodName := ⟨RX8, "has", "(I)Z"⟩
abbrev cX8_hasAll : ByteArray := prog_10_method_6_code
def yX8_hasAll : MethodName := ⟨RX8, "hasAll", "(I)Z"⟩
abbrev cX8_actors : ByteArray := prog_10_method_7_code
def yX8_actors : MethodName := ⟨RX8, "actors", "()I"⟩
abbrev cX8_hasActor : ByteArray := prog_10_method_8_code
def yX8_hasActor : MethodName := ⟨RX8, "hasActor", "(I)Z"⟩
abbrev cX8_alike : ByteArray := prog_10_method_9_code
def yX8_alike : MethodName := ⟨RX8, "alike", "(II)Z"⟩
abbrev cX8_lastLikeAhead : ByteArray := prog_10_method_10_code
def yX8_lastLikeAhead : MethodName := ⟨RX8, "lastLikeAhead", "(I)I"⟩
abbrev cX8_firstLikeBehind : ByteArray := prog_10_method_11_code
def yX8_firstLikeBehind : MethodName := ⟨RX8, "firstLikeBehind", "(I)I"⟩
abbrev cX8_letter : ByteArray := prog_10_method_12_code
def yX8_letter : MethodName := ⟨RX8, "letter", "(IIZ)I"⟩
abbrev cX8_weigh : ByteArray := prog_10_method_13_code
def yX8_weigh : MethodName := ⟨RX8, "weigh", "(LSheSays$Law;)V"⟩
abbrev cX8_percent : ByteArray := prog_10_method_14_code
def yX8_percent : MethodName := ⟨RX8, "percent", "(I)I"⟩
abbrev cX8_forgets : ByteArray := prog_10_method_15_code
def yX8_forgets : MethodName := ⟨RX8, "forgets", "(IZ)I"⟩
abbrev cX8_longestSilence : ByteArray := prog_10_method_16_code
def yX8_longestSilence : MethodName := ⟨RX8, "longestSilence", "(I)I"⟩
abbrev cX8_sparePlace : ByteArray := prog_10_method_17_code
def yX8_sparePlace : MethodName := ⟨RX8, "sparePlace", "(I)I"⟩
abbrev cX8_changesCue : ByteArray := prog_10_method_18_code
def yX8_changesCue : MethodName := ⟨RX8, "changesCue", "(II)Z"⟩
abbrev cX8_findSharers : ByteArray := prog_10_method_19_code
def yX8_findSharers : MethodName := ⟨RX8, "findSharers", "(I)V"⟩
abbrev cX8_fewestPlayers : ByteArray := prog_10_method_20_code
def yX8_fewestPlayers : MethodName := ⟨RX8, "fewestPlayers", "()I"⟩
abbrev cX8_canShare : ByteArray := prog_10_method_21_code
def yX8_canShare : MethodName := ⟨RX8, "canShare", "(I)Z"⟩
abbrev cX8_doubtfulOf : ByteArray := prog_10_method_22_code
def yX8_doubtfulOf : MethodName := ⟨RX8, "doubtfulOf", "(I)I"⟩
abbrev cX8_wordsToChange : ByteArray := prog_10_method_23_code
def yX8_wordsToChange : MethodName := ⟨RX8, "wordsToChange", "()I"⟩
abbrev cX8_firstWordToChange : ByteArray := prog_10_method_24_code
def yX8_firstWordToChange : MethodName := ⟨RX8, "firstWordToChange", "()I"⟩
def RX9 : String := "SheSays$Tape"
def TX9 : u_T := fun k => match k with
  | 0 => ("SheSays$Tape", "bytes", "[I", true)
  | 1 => ("SheSays$Tape", "size", "I", false)
  | _ => ("SheSays$Tape", "at", "I", false)
def tyX9 : Nat → FieldType := fun k => match k with
  | 0 => .array .int
  | 1 => .int
  | _ => .int
abbrev wsX90 : List Cond := u_ws RX9 TX9 3
theorem nmX9 : ∀ a, a < 3 → ∀ b, b < 3 → a ≠ b → (TX9 a).2.1 ≠ (TX9 b).2.1 := by decide +kernel
theorem tyX9_ok : ∀ k, k < 3 → parseFieldDescriptor (TX9 k).2.2.1 = some (tyX9 k) := by decide +kernel
abbrev cX9_init : ByteArray := prog_11_method_1_code
def yX9_init : MethodName := ⟨RX9, "<init>", "()V"⟩
abbrev cX9_bytesIn : ByteArray := prog_11_method_2_code
def yX9_bytesIn : MethodName := ⟨RX9, "bytesIn", "(I)I"⟩
abbrev cX9_append : ByteArray := prog_11_method_3_code
def yX9_append : MethodName := ⟨RX9, "append", "(I)V"⟩
abbrev cX9_here : ByteArray := prog_11_method_4_code
def yX9_here : MethodName := ⟨RX9, "here", "()I"⟩
abbrev cX9_sign : ByteArray := prog_11_method_5_code
def yX9_sign : MethodName := ⟨RX9, "sign", "()I"⟩
abbrev cX9_takes : ByteArray := prog_11_method_6_code
def yX9_takes : MethodName := ⟨RX9, "takes", "(I)Z"⟩
abbrev cX9_isDigit : ByteArray := prog_11_method_7_code
def yX9_isDigit : MethodName := ⟨RX9, "isDigit", "(I)Z"⟩
abbrev cX9_number : ByteArray := prog_11_method_8_code
def yX9_number : MethodName := ⟨RX9, "number", "(I)I"⟩
abbrev cX9_refuseNumber : ByteArray := prog_11_method_9_code
def yX9_refuseNumber : MethodName := ⟨RX9, "refuseNumber", "()Z"⟩
def RX10 : String := "SheSays$Walk"
def TX10 : u_T := fun k => match k with
  | _ => ("", "", "", false)
def tyX10 : Nat → FieldType := fun k => match k with
  | _ => .int
abbrev wsX100 : List Cond := u_ws RX10 TX10 0
theorem nmX10 : ∀ a, a < 0 → ∀ b, b < 0 → a ≠ b → (TX10 a).2.1 ≠ (TX10 b).2.1 := by decide +kernel
theorem tyX10_ok : ∀ k, k < 0 → parseFieldDescriptor (TX10 k).2.2.1 = some (tyX10 k) := by decide +kernel
abbrev cX10_init : ByteArray := prog_12_method_1_code
def yX10_init : MethodName := ⟨RX10, "<init>", "(LSheSays$Play;LSheSays$Leaps;)V"⟩
abbrev cX10_walk : ByteArray := prog_12_method_3_code
def yX10_walk : MethodName := ⟨RX10, "walk", "()V"⟩
def RX11 : String := "SheSays"
def TX11 : u_T := fun k => match k with
  | 0 => ("SheSays", "tape", "LSheSays$Tape;", true)
  | 1 => ("SheSays", "bookReader", "LSheSays$BookReader;", true)
  | 2 => ("SheSays", "lawReader", "LSheSays$LawReader;", true)
  | 3 => ("SheSays", "laws", "[LSheSays$Law;", true)
  | 4 => ("SheSays", "play", "LSheSays$Play;", true)
  | 5 => ("SheSays", "leaps", "LSheSays$Leaps;", true)
  | 6 => ("SheSays", "notes", "LSheSays$Notes;", true)
  | 7 => ("SheSays", "eveningWalk", "LSheSays$Evening;", true)
  | 8 => ("SheSays", "latestNight", "LSheSays$Night;", true)
  | 9 => ("SheSays", "trialNight", "LSheSays$Night;", true)
  | 10 => ("SheSays", "odds", "LSheSays$Odds;", true)
  | 11 => ("SheSays", "lawCount", "I", false)
  | _ => ("SheSays", "lawHeld", "I", false)
def tyX11 : Nat → FieldType := fun k => match k with
  | 0 => .object "SheSays$Tape"
  | 1 => .object "SheSays$BookReader"
  | 2 => .object "SheSays$LawReader"
  | 3 => .array (.object "SheSays$Law")
  | 4 => .object "SheSays$Play"
  | 5 => .object "SheSays$Leaps"
  | 6 => .object "SheSays$Notes"
  | 7 => .object "SheSays$Evening"
  | 8 => .object "SheSays$Night"
  | 9 => .object "SheSays$Night"
  | 10 => .object "SheSays$Odds"
  | 11 => .int
  | _ => .int
abbrev wsX110 : List Cond := u_ws RX11 TX11 13
theorem nmX11 : ∀ a, a < 13 → ∀ b, b < 13 → a ≠ b → (TX11 a).2.1 ≠ (TX11 b).2.1 := by decide +kernel
theorem tyX11_ok : ∀ k, k < 13 → parseFieldDescriptor (TX11 k).2.2.1 = some (tyX11 k) := by decide +kernel
abbrev cX11_init : ByteArray := prog_1_method_1_code
def yX11_init : MethodName := ⟨RX11, "<init>", "()V"⟩
abbrev cX11_feed : ByteArray := prog_1_method_2_code
def yX11_feed : MethodName := ⟨RX11, "feed", "(IIIII)I"⟩
abbrev cX11_end : ByteArray := prog_1_method_3_code
def yX11_end : MethodName := ⟨RX11, "end", "(I)Z"⟩
abbrev cX11_fault : ByteArray := prog_1_method_4_code
def yX11_fault : MethodName := ⟨RX11, "fault", "(I)I"⟩
abbrev cX11_text : ByteArray := prog_1_method_5_code
def yX11_text : MethodName := ⟨RX11, "text", "(I)I"⟩
abbrev cX11_takeBook : ByteArray := prog_1_method_6_code
def yX11_takeBook : MethodName := ⟨RX11, "takeBook", "()I"⟩
abbrev cX11_heldLaw : ByteArray := prog_1_method_7_code
def yX11_heldLaw : MethodName := ⟨RX11, "heldLaw", "()LSheSays$Law;"⟩
abbrev cX11_speech : ByteArray := prog_1_method_8_code
def yX11_speech : MethodName := ⟨RX11, "speech", "(II)I"⟩
abbrev cX11_law : ByteArray := prog_1_method_9_code
def yX11_law : MethodName := ⟨RX11, "law", "(I)Z"⟩
abbrev cX11_set : ByteArray := prog_1_method_10_code
def yX11_set : MethodName := ⟨RX11, "set", "(III)Z"⟩
abbrev cX11_isActor : ByteArray := prog_1_method_11_code
def yX11_isActor : MethodName := ⟨RX11, "isActor", "(I)Z"⟩
abbrev cX11_mark : ByteArray := prog_1_method_12_code
def yX11_mark : MethodName := ⟨RX11, "mark", "(IZ)Z"⟩
abbrev cX11_leap : ByteArray := prog_1_method_13_code
def yX11_leap : MethodName := ⟨RX11, "leap", "(I)I"⟩
abbrev cX11_evening : ByteArray := prog_1_method_14_code
def yX11_evening : MethodName := ⟨RX11, "evening", "(II)I"⟩
abbrev cX11_ends : ByteArray := prog_1_method_15_code
def yX11_ends : MethodName := ⟨RX11, "ends", "(II)I"⟩
abbrev cX11_night : ByteArray := prog_1_method_16_code
def yX11_night : MethodName := ⟨RX11, "night", "(J)I"⟩
abbrev cX11_latest : ByteArray := prog_1_method_17_code
def yX11_latest : MethodName := ⟨RX11, "latest", "(I)I"⟩
abbrev cX11_learn : ByteArray := prog_1_method_18_code
def yX11_learn : MethodName := ⟨RX11, "learn", "(I)I"⟩
abbrev cX11_loop : ByteArray := prog_1_method_19_code
def yX11_loop : MethodName := ⟨RX11, "loop", "(I)I"⟩
abbrev cX11_hole : ByteArray := prog_1_method_20_code
def yX11_hole : MethodName := ⟨RX11, "hole", "(I)I"⟩
abbrev cX11_stops : ByteArray := prog_1_method_21_code
def yX11_stops : MethodName := ⟨RX11, "stops", "()I"⟩
abbrev cX11_from : ByteArray := prog_1_method_22_code
def yX11_from : MethodName := ⟨RX11, "from", "(I)I"⟩
abbrev cX11_rows : ByteArray := prog_1_method_23_code
def yX11_rows : MethodName := ⟨RX11, "rows", "(I)I"⟩
abbrev cX11_chance : ByteArray := prog_1_method_24_code
def yX11_chance : MethodName := ⟨RX11, "chance", "(I)I"⟩
abbrev cX11_isMostSaid : ByteArray := prog_1_method_25_code
def yX11_isMostSaid : MethodName := ⟨RX11, "isMostSaid", "(I)Z"⟩
abbrev cX11_mean : ByteArray := prog_1_method_26_code
def yX11_mean : MethodName := ⟨RX11, "mean", "(II)I"⟩
abbrev cX11_could : ByteArray := prog_1_method_27_code
def yX11_could : MethodName := ⟨RX11, "could", "(I)I"⟩
abbrev cX11_fewest : ByteArray := prog_1_method_28_code
def yX11_fewest : MethodName := ⟨RX11, "fewest", "(III)I"⟩
abbrev cX11_understudy : ByteArray := prog_1_method_29_code
def yX11_understudy : MethodName := ⟨RX11, "understudy", "(II)I"⟩
abbrev cX11_worst : ByteArray := prog_1_method_30_code
def yX11_worst : MethodName := ⟨RX11, "worst", "(I)I"⟩
abbrev cX11_silence : ByteArray := prog_1_method_31_code
def yX11_silence : MethodName := ⟨RX11, "silence", "(I)I"⟩
abbrev cX11_spare : ByteArray := prog_1_method_32_code
def yX11_spare : MethodName := ⟨RX11, "spare", "(II)I"⟩
abbrev cX11_players : ByteArray := prog_1_method_33_code
def yX11_players : MethodName := ⟨RX11, "players", "(II)I"⟩
abbrev cX11_shortest : ByteArray := prog_1_method_34_code
def yX11_shortest : MethodName := ⟨RX11, "shortest", "(II)I"⟩
abbrev cX11_longest : ByteArray := prog_1_method_35_code
def yX11_longest : MethodName := ⟨RX11, "longest", "(II)I"⟩
abbrev cX11_extreme : ByteArray := prog_1_method_36_code
def yX11_extreme : MethodName := ⟨RX11, "extreme", "(IIZ)I"⟩
abbrev cX11_visits : ByteArray := prog_1_method_37_code
def yX11_visits : MethodName := ⟨RX11, "visits", "(II)J"⟩
abbrev cX11_trial : ByteArray := prog_1_method_38_code
def yX11_trial : MethodName := ⟨RX11, "trial", "(II)I"⟩
abbrev cX11_doubtful : ByteArray := prog_1_method_39_code
def yX11_doubtful : MethodName := ⟨RX11, "doubtful", "(I)I"⟩
abbrev cX11_reword : ByteArray := prog_1_method_40_code
def yX11_reword : MethodName := ⟨RX11, "reword", "(I)I"⟩
abbrev cX11_image : ByteArray := prog_1_method_41_code
def yX11_image : MethodName := ⟨RX11, "image", "()I"⟩
abbrev cX11_back : ByteArray := prog_1_method_42_code
def yX11_back : MethodName := ⟨RX11, "back", "()I"⟩
abbrev cX11_count : ByteArray := prog_1_method_43_code
def yX11_count : MethodName := ⟨RX11, "count", "(I)I"⟩
def RX12 : String := "SheSaysModel"
def TX12 : u_T := fun k => match k with
  | 0 => ("SheSaysModel", "thrown", "I", false)
  | 1 => ("SheSaysModel", "tape", "[I", true)
  | 2 => ("SheSaysModel", "size", "I", false)
  | 3 => ("SheSaysModel", "at", "I", false)
  | 4 => ("SheSaysModel", "wrong", "I", false)
  | 5 => ("SheSaysModel", "deep", "I", false)
  | 6 => ("SheSaysModel", "code", "[I", true)
  | 7 => ("SheSaysModel", "value", "[I", true)
  | 8 => ("SheSaysModel", "codes", "[I", true)
  | 9 => ("SheSaysModel", "clauses", "[I", true)
  | 10 => ("SheSaysModel", "testFrom", "[I", true)
  | 11 => ("SheSaysModel", "sumFrom", "[I", true)
  | 12 => ("SheSaysModel", "sumTo", "[I", true)
  | 13 => ("SheSaysModel", "laws", "I", false)
  | 14 => ("SheSaysModel", "text", "I", false)
  | 15 => ("SheSaysModel", "letters", "[I", true)
  | 16 => ("SheSaysModel", "stack", "[I", true)
  | 17 => ("SheSaysModel", "readActor", "[I", true)
  | 18 => ("SheSaysModel", "readWord", "[I", true)
  | 19 => ("SheSaysModel", "readLength", "[I", true)
  | 20 => ("SheSaysModel", "readMany", "I", false)
  | 21 => ("SheSaysModel", "readCut", "I", false)
  | 22 => ("SheSaysModel", "actor", "[I", true)
  | 23 => ("SheSaysModel", "word", "[I", true)
  | 24 => ("SheSaysModel", "length", "[I", true)
  | 25 => ("SheSaysModel", "place", "[I", true)
  | 26 => ("SheSaysModel", "book", "I", false)
  | 27 => ("SheSaysModel", "play", "I", false)
  | 28 => ("SheSaysModel", "holding", "I", false)
  | 29 => ("SheSaysModel", "kinds", "[I", true)
  | 30 => ("SheSaysModel", "takes", "[I", true)
  | 31 => ("SheSaysModel", "marks", "I", false)
  | 32 => ("SheSaysModel", "coulds", "I", false)
  | 33 => ("SheSaysModel", "losts", "[I", true)
  | 34 => ("SheSaysModel", "nights", "I", false)
  | 35 => ("SheSaysModel", "says", "[I", true)
  | 36 => ("SheSaysModel", "saidMany", "I", false)
  | 37 => ("SheSaysModel", "ending", "I", false)
  | 38 => ("SheSaysModel", "stopAt", "I", false)
  | 39 => ("SheSaysModel", "seconds", "I", false)
  | 40 => ("SheSaysModel", "draws", "J", false)
  | 41 => ("SheSaysModel", "lostMany", "I", false)
  | 42 => ("SheSaysModel", "savedMany", "I", false)
  | 43 => ("SheSaysModel", "leaps", "I", false)
  | 44 => ("SheSaysModel", "latest", "[I", true)
  | 45 => ("SheSaysModel", "hasNight", "Z", false)
  | 46 => ("SheSaysModel", "nightLost", "[I", true)
  | 47 => ("SheSaysModel", "rowsAt", "[I", true)
  | 48 => ("SheSaysModel", "rowsThen", "[I", true)
  | 49 => ("SheSaysModel", "parts", "[J", true)
  | 50 => ("SheSaysModel", "then", "[J", true)
  | 51 => ("SheSaysModel", "stopped", "[J", true)
  | 52 => ("SheSaysModel", "visited", "[J", true)
  | 53 => ("SheSaysModel", "lossOf", "[I", true)
  | 54 => ("SheSaysModel", "leapTo", "[I", true)
  | 55 => ("SheSaysModel", "players", "[I", true)
  | 56 => ("SheSaysModel", "imageLosts", "[I", true)
  | 57 => ("SheSaysModel", "imageMarks", "I", false)
  | _ => ("SheSaysModel", "hasImage", "Z", false)
def tyX12 : Nat → FieldType := fun k => match k with
  | 0 => .int
  | 1 => .array .int
  | 2 => .int
  | 3 => .int
  | 4 => .int
  | 5 => .int
  | 6 => .array .int
  | 7 => .array .int
  | 8 => .array .int
  | 9 => .array .int
  | 10 => .array .int
  | 11 => .array .int
  | 12 => .array .int
  | 13 => .int
  | 14 => .int
  | 15 => .array .int
  | 16 => .array .int
  | 17 => .array .int
  | 18 => .array .int
  | 19 => .array .int
  | 20 => .int
  | 21 => .int
  | 22 => .array .int
  | 23 => .array .int
  | 24 => .array .int
  | 25 => .array .int
  | 26 => .int
  | 27 => .int
  | 28 => .int
  | 29 => .array .int
  | 30 => .array .int
  | 31 => .int
  | 32 => .int
  | 33 => .array .int
  | 34 => .int
  | 35 => .array .int
  | 36 => .int
  | 37 => .int
  | 38 => .int
  | 39 => .int
  | 40 => .long
  | 41 => .int
  | 42 => .int
  | 43 => .int
  | 44 => .array .int
  | 45 => .boolean
  | 46 => .array .int
  | 47 => .array .int
  | 48 => .array .int
  | 49 => .array .long
  | 50 => .array .long
  | 51 => .array .long
  | 52 => .array .long
  | 53 => .array .int
  | 54 => .array .int
  | 55 => .array .int
  | 56 => .array .int
  | 57 => .int
  | _ => .boolean
abbrev wsX120 : List Cond := u_ws RX12 TX12 59
theorem nmX12 : ∀ a, a < 59 → ∀ b, b < 59 → a ≠ b → (TX12 a).2.1 ≠ (TX12 b).2.1 := by decide +kernel
theorem tyX12_ok : ∀ k, k < 59 → parseFieldDescriptor (TX12 k).2.2.1 = some (tyX12 k) := by decide +kernel
abbrev cX12_in : ByteArray := prog_14_method_1_code
def yX12_in : MethodName := ⟨RX12, "in", "(III)Z"⟩
abbrev cX12_has : ByteArray := prog_14_method_2_code
def yX12_has : MethodName := ⟨RX12, "has", "(II)Z"⟩
abbrev cX12_init : ByteArray := prog_14_method_3_code
def yX12_init : MethodName := ⟨RX12, "<init>", "()V"⟩
abbrev cX12_thrown : ByteArray := prog_14_method_4_code
def yX12_thrown : MethodName := ⟨RX12, "thrown", "()I"⟩
abbrev cX12_byteOf : ByteArray := prog_14_method_5_code
def yX12_byteOf : MethodName := ⟨RX12, "byteOf", "(IIIIII)I"⟩
abbrev cX12_feed : ByteArray := prog_14_method_6_code
def yX12_feed : MethodName := ⟨RX12, "feed", "(IIIII)I"⟩
abbrev cX12_end : ByteArray := prog_14_method_7_code
def yX12_end : MethodName := ⟨RX12, "end", "(I)Z"⟩
abbrev cX12_here : ByteArray := prog_14_method_8_code
def yX12_here : MethodName := ⟨RX12, "here", "()I"⟩
abbrev cX12_look : ByteArray := prog_14_method_9_code
def yX12_look : MethodName := ⟨RX12, "look", "()I"⟩
abbrev cX12_bad : ByteArray := prog_14_method_10_code
def yX12_bad : MethodName := ⟨RX12, "bad", "()V"⟩
abbrev cX12_isDigit : ByteArray := prog_14_method_11_code
def yX12_isDigit : MethodName := ⟨RX12, "isDigit", "(I)Z"⟩
abbrev cX12_put : ByteArray := prog_14_method_12_code
def yX12_put : MethodName := ⟨RX12, "put", "(II)V"⟩
abbrev cX12_letterOf : ByteArray := prog_14_method_13_code
def yX12_letterOf : MethodName := ⟨RX12, "letterOf", "(I)I"⟩
abbrev cX12_opens : ByteArray := prog_14_method_14_code
def yX12_opens : MethodName := ⟨RX12, "opens", "()V"⟩
abbrev cX12_closes : ByteArray := prog_14_method_15_code
def yX12_closes : MethodName := ⟨RX12, "closes", "(I)V"⟩
abbrev cX12_plainNumber : ByteArray := prog_14_method_16_code
def yX12_plainNumber : MethodName := ⟨RX12, "plainNumber", "()I"⟩
abbrev cX12_atom : ByteArray := prog_14_method_17_code
def yX12_atom : MethodName := ⟨RX12, "atom", "()V"⟩
abbrev cX12_term : ByteArray := prog_14_method_18_code
def yX12_term : MethodName := ⟨RX12, "term", "()V"⟩
abbrev cX12_sum : ByteArray := prog_14_method_19_code
def yX12_sum : MethodName := ⟨RX12, "sum", "()V"⟩
abbrev cX12_isSign : ByteArray := prog_14_method_20_code
def yX12_isSign : MethodName := ⟨RX12, "isSign", "(I)Z"⟩
abbrev cX12_compare : ByteArray := prog_14_method_21_code
def yX12_compare : MethodName := ⟨RX12, "compare", "()V"⟩
abbrev cX12_unit : ByteArray := prog_14_method_22_code
def yX12_unit : MethodName := ⟨RX12, "unit", "()V"⟩
abbrev cX12_goOnAnd : ByteArray := prog_14_method_23_code
def yX12_goOnAnd : MethodName := ⟨RX12, "goOnAnd", "()V"⟩
abbrev cX12_goOnOr : ByteArray := prog_14_method_24_code
def yX12_goOnOr : MethodName := ⟨RX12, "goOnOr", "()V"⟩
abbrev cX12_condition : ByteArray := prog_14_method_25_code
def yX12_condition : MethodName := ⟨RX12, "condition", "()V"⟩
abbrev cX12_clause : ByteArray := prog_14_method_26_code
def yX12_clause : MethodName := ⟨RX12, "clause", "()V"⟩
abbrev cX12_open : ByteArray := prog_14_method_27_code
def yX12_open : MethodName := ⟨RX12, "open", "(I)V"⟩
abbrev cX12_atEnd : ByteArray := prog_14_method_28_code
def yX12_atEnd : MethodName := ⟨RX12, "atEnd", "()I"⟩
abbrev cX12_readLaw : ByteArray := prog_14_method_29_code
def yX12_readLaw : MethodName := ⟨RX12, "readLaw", "(I)I"⟩
abbrev cX12_bounded : ByteArray := prog_14_method_30_code
def yX12_bounded : MethodName := ⟨RX12, "bounded", "(J)I"⟩
abbrev cX12_worked : ByteArray := prog_14_method_31_code
def yX12_worked : MethodName := ⟨RX12, "worked", "(IJJ)I"⟩
abbrev cX12_workOut : ByteArray := prog_14_method_32_code
def yX12_workOut : MethodName := ⟨RX12, "workOut", "(III)I"⟩
abbrev cX12_worthOf : ByteArray := prog_14_method_33_code
def yX12_worthOf : MethodName := ⟨RX12, "worthOf", "(I)I"⟩
abbrev cX12_digits : ByteArray := prog_14_method_34_code
def yX12_digits : MethodName := ⟨RX12, "digits", "()I"⟩
abbrev cX12_lastBad : ByteArray := prog_14_method_35_code
def yX12_lastBad : MethodName := ⟨RX12, "lastBad", "()V"⟩
abbrev cX12_speechText : ByteArray := prog_14_method_36_code
def yX12_speechText : MethodName := ⟨RX12, "speechText", "()V"⟩
abbrev cX12_cutText : ByteArray := prog_14_method_37_code
def yX12_cutText : MethodName := ⟨RX12, "cutText", "(I)V"⟩
abbrev cX12_readBook : ByteArray := prog_14_method_38_code
def yX12_readBook : MethodName := ⟨RX12, "readBook", "()I"⟩
abbrev cX12_fault : ByteArray := prog_14_method_39_code
def yX12_fault : MethodName := ⟨RX12, "fault", "(I)I"⟩
abbrev cX12_takeBook : ByteArray := prog_14_method_40_code
def yX12_takeBook : MethodName := ⟨RX12, "takeBook", "()I"⟩
abbrev cX12_text : ByteArray := prog_14_method_41_code
def yX12_text : MethodName := ⟨RX12, "text", "(I)I"⟩
abbrev cX12_isSpeech : ByteArray := prog_14_method_42_code
def yX12_isSpeech : MethodName := ⟨RX12, "isSpeech", "(I)Z"⟩
abbrev cX12_isActor : ByteArray := prog_14_method_43_code
def yX12_isActor : MethodName := ⟨RX12, "isActor", "(I)Z"⟩
abbrev cX12_cue : ByteArray := prog_14_method_44_code
def yX12_cue : MethodName := ⟨RX12, "cue", "(I)I"⟩
abbrev cX12_gap : ByteArray := prog_14_method_45_code
def yX12_gap : MethodName := ⟨RX12, "gap", "(I)I"⟩
abbrev cX12_areLike : ByteArray := prog_14_method_46_code
def yX12_areLike : MethodName := ⟨RX12, "areLike", "(II)Z"⟩
abbrev cX12_likes : ByteArray := prog_14_method_47_code
def yX12_likes : MethodName := ⟨RX12, "likes", "(I)I"⟩
abbrev cX12_forgets : ByteArray := prog_14_method_48_code
def yX12_forgets : MethodName := ⟨RX12, "forgets", "(I)I"⟩
abbrev cX12_speech : ByteArray := prog_14_method_49_code
def yX12_speech : MethodName := ⟨RX12, "speech", "(II)I"⟩
abbrev cX12_law : ByteArray := prog_14_method_50_code
def yX12_law : MethodName := ⟨RX12, "law", "(I)Z"⟩
abbrev cX12_set : ByteArray := prog_14_method_51_code
def yX12_set : MethodName := ⟨RX12, "set", "(III)Z"⟩
abbrev cX12_mark : ByteArray := prog_14_method_52_code
def yX12_mark : MethodName := ⟨RX12, "mark", "(IZ)Z"⟩
abbrev cX12_leapOf : ByteArray := prog_14_method_53_code
def yX12_leapOf : MethodName := ⟨RX12, "leapOf", "(I)I"⟩
abbrev cX12_leap : ByteArray := prog_14_method_54_code
def yX12_leap : MethodName := ⟨RX12, "leap", "(I)I"⟩
abbrev cX12_say : ByteArray := prog_14_method_55_code
def yX12_say : MethodName := ⟨RX12, "say", "(I)V"⟩
abbrev cX12_begin : ByteArray := prog_14_method_56_code
def yX12_begin : MethodName := ⟨RX12, "begin", "()V"⟩
abbrev cX12_lose : ByteArray := prog_14_method_57_code
def yX12_lose : MethodName := ⟨RX12, "lose", "(I)I"⟩
abbrev cX12_goThrough : ByteArray := prog_14_method_58_code
def yX12_goThrough : MethodName := ⟨RX12, "goThrough", "(I)V"⟩
abbrev cX12_areLosses : ByteArray := prog_14_method_59_code
def yX12_areLosses : MethodName := ⟨RX12, "areLosses", "(I)Z"⟩
abbrev cX12_evening : ByteArray := prog_14_method_60_code
def yX12_evening : MethodName := ⟨RX12, "evening", "(II)I"⟩
abbrev cX12_ends : ByteArray := prog_14_method_61_code
def yX12_ends : MethodName := ⟨RX12, "ends", "(II)I"⟩
abbrev cX12_draw : ByteArray := prog_14_method_62_code
def yX12_draw : MethodName := ⟨RX12, "draw", "()I"⟩
abbrev cX12_drawn : ByteArray := prog_14_method_63_code
def yX12_drawn : MethodName := ⟨RX12, "drawn", "(J)V"⟩
abbrev cX12_comes : ByteArray := prog_14_method_64_code
def yX12_comes : MethodName := ⟨RX12, "comes", "(I)I"⟩
abbrev cX12_night : ByteArray := prog_14_method_65_code
def yX12_night : MethodName := ⟨RX12, "night", "(J)I"⟩
abbrev cX12_latest : ByteArray := prog_14_method_66_code
def yX12_latest : MethodName := ⟨RX12, "latest", "(I)I"⟩
abbrev cX12_learn : ByteArray := prog_14_method_67_code
def yX12_learn : MethodName := ⟨RX12, "learn", "(I)I"⟩
abbrev cX12_leapBy : ByteArray := prog_14_method_68_code
def yX12_leapBy : MethodName := ⟨RX12, "leapBy", "(Z)I"⟩
abbrev cX12_leapTold : ByteArray := prog_14_method_69_code
def yX12_leapTold : MethodName := ⟨RX12, "leapTold", "(ZI)I"⟩
abbrev cX12_loop : ByteArray := prog_14_method_70_code
def yX12_loop : MethodName := ⟨RX12, "loop", "(I)I"⟩
abbrev cX12_hole : ByteArray := prog_14_method_71_code
def yX12_hole : MethodName := ⟨RX12, "hole", "(I)I"⟩
abbrev cX12_leapsTo : ByteArray := prog_14_method_72_code
def yX12_leapsTo : MethodName := ⟨RX12, "leapsTo", "(I)I"⟩
abbrev cX12_stops : ByteArray := prog_14_method_73_code
def yX12_stops : MethodName := ⟨RX12, "stops", "()I"⟩
abbrev cX12_from : ByteArray := prog_14_method_74_code
def yX12_from : MethodName := ⟨RX12, "from", "(I)I"⟩
abbrev cX12_added : ByteArray := prog_14_method_75_code
def yX12_added : MethodName := ⟨RX12, "added", "(II)I"⟩
abbrev cX12_rows : ByteArray := prog_14_method_76_code
def yX12_rows : MethodName := ⟨RX12, "rows", "(I)I"⟩
abbrev cX12_chanceOf : ByteArray := prog_14_method_77_code
def yX12_chanceOf : MethodName := ⟨RX12, "chanceOf", "(II)I"⟩
abbrev cX12_goOn : ByteArray := prog_14_method_78_code
def yX12_goOn : MethodName := ⟨RX12, "goOn", "(I)V"⟩
abbrev cX12_isMost : ByteArray := prog_14_method_79_code
def yX12_isMost : MethodName := ⟨RX12, "isMost", "(I)Z"⟩
abbrev cX12_chance : ByteArray := prog_14_method_80_code
def yX12_chance : MethodName := ⟨RX12, "chance", "(I)I"⟩
abbrev cX12_mean : ByteArray := prog_14_method_81_code
def yX12_mean : MethodName := ⟨RX12, "mean", "(II)I"⟩
abbrev cX12_visits : ByteArray := prog_14_method_82_code
def yX12_visits : MethodName := ⟨RX12, "visits", "(II)J"⟩
abbrev cX12_could : ByteArray := prog_14_method_83_code
def yX12_could : MethodName := ⟨RX12, "could", "(I)I"⟩
abbrev cX12_fewest : ByteArray := prog_14_method_84_code
def yX12_fewest : MethodName := ⟨RX12, "fewest", "(III)I"⟩
abbrev cX12_actors : ByteArray := prog_14_method_85_code
def yX12_actors : MethodName := ⟨RX12, "actors", "()I"⟩
abbrev cX12_understudy : ByteArray := prog_14_method_86_code
def yX12_understudy : MethodName := ⟨RX12, "understudy", "(II)I"⟩
abbrev cX12_worst : ByteArray := prog_14_method_87_code
def yX12_worst : MethodName := ⟨RX12, "worst", "(I)I"⟩
abbrev cX12_silence : ByteArray := prog_14_method_88_code
def yX12_silence : MethodName := ⟨RX12, "silence", "(I)I"⟩
abbrev cX12_spare : ByteArray := prog_14_method_89_code
def yX12_spare : MethodName := ⟨RX12, "spare", "(II)I"⟩
abbrev cX12_canBeOne : ByteArray := prog_14_method_90_code
def yX12_canBeOne : MethodName := ⟨RX12, "canBeOne", "(III)Z"⟩
abbrev cX12_areOne : ByteArray := prog_14_method_91_code
def yX12_areOne : MethodName := ⟨RX12, "areOne", "(II)Z"⟩
abbrev cX12_players : ByteArray := prog_14_method_92_code
def yX12_players : MethodName := ⟨RX12, "players", "(II)I"⟩
abbrev cX12_lossesFor : ByteArray := prog_14_method_93_code
def yX12_lossesFor : MethodName := ⟨RX12, "lossesFor", "(IZ)I"⟩
abbrev cX12_lossesTold : ByteArray := prog_14_method_94_code
def yX12_lossesTold : MethodName := ⟨RX12, "lossesTold", "(IIZ)I"⟩
abbrev cX12_shortest : ByteArray := prog_14_method_95_code
def yX12_shortest : MethodName := ⟨RX12, "shortest", "(II)I"⟩
abbrev cX12_longest : ByteArray := prog_14_method_96_code
def yX12_longest : MethodName := ⟨RX12, "longest", "(II)I"⟩
abbrev cX12_trial : ByteArray := prog_14_method_97_code
def yX12_trial : MethodName := ⟨RX12, "trial", "(II)I"⟩
abbrev cX12_doubtful : ByteArray := prog_14_method_98_code
def yX12_doubtful : MethodName := ⟨RX12, "doubtful", "(I)I"⟩
abbrev cX12_reword : ByteArray := prog_14_method_99_code
def yX12_reword : MethodName := ⟨RX12, "reword", "(I)I"⟩
abbrev cX12_image : ByteArray := prog_14_method_100_code
def yX12_image : MethodName := ⟨RX12, "image", "()I"⟩
abbrev cX12_back : ByteArray := prog_14_method_101_code
def yX12_back : MethodName := ⟨RX12, "back", "()I"⟩
abbrev cX12_count : ByteArray := prog_14_method_102_code
def yX12_count : MethodName := ⟨RX12, "count", "(I)I"⟩
def RJx145de : String := "java/io/Serializable"
def TJx145de : u_T := fun k => match k with
  | _ => ("", "", "", false)
def tyJx145de : Nat → FieldType := fun k => match k with
  | _ => .int
abbrev wsJx145de0 : List Cond := u_ws RJx145de TJx145de 0
theorem nmJx145de : ∀ a, a < 0 → ∀ b, b < 0 → a ≠ b → (TJx145de a).2.1 ≠ (TJx145de b).2.1 := by decide +kernel
theorem tyJx145de_ok : ∀ k, k < 0 → parseFieldDescriptor (TJx145de k).2.2.1 = some (tyJx145de k) := by decide +kernel
def RJ6 : String := "java/lang/Integer"
def TJ6 : u_T := fun k => match k with
  | _ => ("", "", "", false)
def tyJ6 : Nat → FieldType := fun k => match k with
  | _ => .int
abbrev wsJ60 : List Cond := u_ws RJ6 TJ6 0
theorem nmJ6 : ∀ a, a < 0 → ∀ b, b < 0 → a ≠ b → (TJ6 a).2.1 ≠ (TJ6 b).2.1 := by decide +kernel
theorem tyJ6_ok : ∀ k, k < 0 → parseFieldDescriptor (TJ6 k).2.2.1 = some (tyJ6 k) := by decide +kernel
abbrev cJ6_numberOfLeadingZeros_0f7a4 : ByteArray := prog_17_method_47_code
def yJ6_numberOfLeadingZeros_0f7a4 : MethodName := ⟨RJ6, "numberOfLeadingZeros", "(I)I"⟩
abbrev cJ6_bitCount_0f7a4 : ByteArray := prog_17_method_49_code
def yJ6_bitCount_0f7a4 : MethodName := ⟨RJ6, "bitCount", "(I)I"⟩
def RJ9 : String := "java/lang/Math"
def TJ9 : u_T := fun k => match k with
  | _ => ("", "", "", false)
def tyJ9 : Nat → FieldType := fun k => match k with
  | _ => .int
abbrev wsJ90 : List Cond := u_ws RJ9 TJ9 0
theorem nmJ9 : ∀ a, a < 0 → ∀ b, b < 0 → a ≠ b → (TJ9 a).2.1 ≠ (TJ9 b).2.1 := by decide +kernel
theorem tyJ9_ok : ∀ k, k < 0 → parseFieldDescriptor (TJ9 k).2.2.1 = some (tyJ9 k) := by decide +kernel
abbrev cJ9_abs_0f7a4 : ByteArray := prog_18_method_59_code
def yJ9_abs_0f7a4 : MethodName := ⟨RJ9, "abs", "(I)I"⟩
abbrev cJ9_max_7cf53 : ByteArray := prog_18_method_65_code
def yJ9_max_7cf53 : MethodName := ⟨RJ9, "max", "(II)I"⟩
abbrev cJ9_max_f86c9 : ByteArray := prog_18_method_66_code
def yJ9_max_f86c9 : MethodName := ⟨RJ9, "max", "(JJ)J"⟩
abbrev cJ9_min_7cf53 : ByteArray := prog_18_method_69_code
def yJ9_min_7cf53 : MethodName := ⟨RJ9, "min", "(II)I"⟩
abbrev cJ9_min_f86c9 : ByteArray := prog_18_method_70_code
def yJ9_min_f86c9 : MethodName := ⟨RJ9, "min", "(JJ)J"⟩
def RJ0 : String := "java/lang/String"
def TJ0 : u_T := fun k => match k with
  | _ => ("", "", "", false)
def tyJ0 : Nat → FieldType := fun k => match k with
  | _ => .int
abbrev wsJ00 : List Cond := u_ws RJ0 TJ0 0
theorem nmJ0 : ∀ a, a < 0 → ∀ b, b < 0 → a ≠ b → (TJ0 a).2.1 ≠ (TJ0 b).2.1 := by decide +kernel
theorem tyJ0_ok : ∀ k, k < 0 → parseFieldDescriptor (TJ0 k).2.2.1 = some (tyJ0 k) := by decide +kernel
def RJ10 : String := "java/lang/System"
def TJ10 : u_T := fun k => match k with
  | _ => ("", "", "", false)
def tyJ10 : Nat → FieldType := fun k => match k with
  | _ => .int
abbrev wsJ100 : List Cond := u_ws RJ10 TJ10 0
theorem nmJ10 : ∀ a, a < 0 → ∀ b, b < 0 → a ≠ b → (TJ10 a).2.1 ≠ (TJ10 b).2.1 := by decide +kernel
theorem tyJ10_ok : ∀ k, k < 0 → parseFieldDescriptor (TJ10 k).2.2.1 = some (tyJ10 k) := by decide +kernel
def RJ7 : String := "java/util/Arrays"
def TJ7 : u_T := fun k => match k with
  | _ => ("", "", "", false)
def tyJ7 : Nat → FieldType := fun k => match k with
  | _ => .int
abbrev wsJ70 : List Cond := u_ws RJ7 TJ7 0
theorem nmJ7 : ∀ a, a < 0 → ∀ b, b < 0 → a ≠ b → (TJ7 a).2.1 ≠ (TJ7 b).2.1 := by decide +kernel
theorem tyJ7_ok : ∀ k, k < 0 → parseFieldDescriptor (TJ7 k).2.2.1 = some (tyJ7 k) := by decide +kernel
abbrev cJ7_fill_d0a16 : ByteArray := prog_23_method_101_code
def yJ7_fill_d0a16 : MethodName := ⟨RJ7, "fill", "([JJ)V"⟩
abbrev cJ7_fill_53178 : ByteArray := prog_23_method_103_code
def yJ7_fill_53178 : MethodName := ⟨RJ7, "fill", "([II)V"⟩
def RL : String := "SheSaysLaw"
abbrev cL_speech : ByteArray := method_3_code
def yL_speech : MethodName := ⟨RL, "speech", "(LSheSays;II[J)I"⟩
abbrev cL_law : ByteArray := code
def yL_law : MethodName := ⟨RL, "law", "([I)Z"⟩
abbrev vwCl : List vw_C := [(RX0, TX0, 8), (RX1, TX1, 11), (RX2, TX2, 4), (RX3, TX3, 3), (RX4, TX4, 5), (RX5, TX5, 13), (RX6, TX6, 7), (RX7, TX7, 10), (RX8, TX8, 13), (RX9, TX9, 3), (RX11, TX11, 13), (RX12, TX12, 59)]
