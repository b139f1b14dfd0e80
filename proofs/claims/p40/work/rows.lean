section
-- ===== PART A: goes FIRST, ahead of the names: the tables' words, and 'selects' of the private methods out of them =====
/-- a private method of a class that the tables say can be made, by its rows of tables_1 -/
def lw_okq (q : MethodName × Nat) : Prop := (q.1.cls ≠ "java/lang/invoke/MethodHandle" ∧ q.1.cls ≠ "java/lang/invoke/VarHandle") ∧ Cond.instantiable q.1.cls q.2 ∈ tables_1 ∧ Cond.privateMethod q.1 ∈ tables_1 ∧ Cond.instanceMethod q.1 ∈ tables_1
theorem lw_p0 : lw_okq (⟨"SheSays$BookReader", "readSpeeches", "()Z"⟩, 8) := ⟨⟨by decide +kernel, by decide +kernel⟩, List.mem_of_getElem? (i := 58) (by decide +kernel), List.mem_of_getElem? (i := 453) (by decide +kernel), List.mem_of_getElem? (i := 454) (by decide +kernel)⟩
theorem lw_p1 : lw_okq (⟨"SheSays$BookReader", "readSpeech", "(I)Z"⟩, 8) := ⟨⟨by decide +kernel, by decide +kernel⟩, List.mem_of_getElem? (i := 58) (by decide +kernel), List.mem_of_getElem? (i := 469) (by decide +kernel), List.mem_of_getElem? (i := 470) (by decide +kernel)⟩
theorem lw_p2 : lw_okq (⟨"SheSays$BookReader", "readLength", "(I)Z"⟩, 8) := ⟨⟨by decide +kernel, by decide +kernel⟩, List.mem_of_getElem? (i := 58) (by decide +kernel), List.mem_of_getElem? (i := 477) (by decide +kernel), List.mem_of_getElem? (i := 478) (by decide +kernel)⟩
theorem lw_p3 : lw_okq (⟨"SheSays$BookReader", "readCuts", "()Z"⟩, 8) := ⟨⟨by decide +kernel, by decide +kernel⟩, List.mem_of_getElem? (i := 58) (by decide +kernel), List.mem_of_getElem? (i := 490) (by decide +kernel), List.mem_of_getElem? (i := 491) (by decide +kernel)⟩
theorem lw_p4 : lw_okq (⟨"SheSays$BookReader", "readCut", "()Z"⟩, 8) := ⟨⟨by decide +kernel, by decide +kernel⟩, List.mem_of_getElem? (i := 58) (by decide +kernel), List.mem_of_getElem? (i := 494) (by decide +kernel), List.mem_of_getElem? (i := 495) (by decide +kernel)⟩
theorem lw_p5 : lw_okq (⟨"SheSays", "takeBook", "()I"⟩, 13) := ⟨⟨by decide +kernel, by decide +kernel⟩, List.mem_of_getElem? (i := 30) (by decide +kernel), List.mem_of_getElem? (i := 498) (by decide +kernel), List.mem_of_getElem? (i := 499) (by decide +kernel)⟩
theorem lw_p6 : lw_okq (⟨"SheSays$Play", "gapOf", "(I)I"⟩, 13) := ⟨⟨by decide +kernel, by decide +kernel⟩, List.mem_of_getElem? (i := 133) (by decide +kernel), List.mem_of_getElem? (i := 509) (by decide +kernel), List.mem_of_getElem? (i := 510) (by decide +kernel)⟩
theorem lw_p7 : lw_okq (⟨"SheSays$Play", "likesOf", "(I)I"⟩, 13) := ⟨⟨by decide +kernel, by decide +kernel⟩, List.mem_of_getElem? (i := 133) (by decide +kernel), List.mem_of_getElem? (i := 513) (by decide +kernel), List.mem_of_getElem? (i := 514) (by decide +kernel)⟩
theorem lw_p8 : lw_okq (⟨"SheSays", "heldLaw", "()LSheSays$Law;"⟩, 13) := ⟨⟨by decide +kernel, by decide +kernel⟩, List.mem_of_getElem? (i := 30) (by decide +kernel), List.mem_of_getElem? (i := 525) (by decide +kernel), List.mem_of_getElem? (i := 526) (by decide +kernel)⟩
theorem lw_p9 : lw_okq (⟨"SheSays$Law", "pop", "()I"⟩, 4) := ⟨⟨by decide +kernel, by decide +kernel⟩, List.mem_of_getElem? (i := 114) (by decide +kernel), List.mem_of_getElem? (i := 537) (by decide +kernel), List.mem_of_getElem? (i := 538) (by decide +kernel)⟩
theorem lw_p10 : lw_okq (⟨"SheSays$Law", "work", "(ILSheSays$Play;IZ)V"⟩, 4) := ⟨⟨by decide +kernel, by decide +kernel⟩, List.mem_of_getElem? (i := 114) (by decide +kernel), List.mem_of_getElem? (i := 541) (by decide +kernel), List.mem_of_getElem? (i := 542) (by decide +kernel)⟩
theorem lw_p11 : lw_okq (⟨"SheSays$Law", "push", "(I)V"⟩, 4) := ⟨⟨by decide +kernel, by decide +kernel⟩, List.mem_of_getElem? (i := 114) (by decide +kernel), List.mem_of_getElem? (i := 545) (by decide +kernel), List.mem_of_getElem? (i := 546) (by decide +kernel)⟩
theorem lw_p12 : lw_okq (⟨"SheSays$Leaps", "target", "(I)I"⟩, 5) := ⟨⟨by decide +kernel, by decide +kernel⟩, List.mem_of_getElem? (i := 195) (by decide +kernel), List.mem_of_getElem? (i := 576) (by decide +kernel), List.mem_of_getElem? (i := 577) (by decide +kernel)⟩
theorem lw_p13 : lw_okq (⟨"SheSays$LawReader", "readClause", "()Z"⟩, 3) := ⟨⟨by decide +kernel, by decide +kernel⟩, List.mem_of_getElem? (i := 95) (by decide +kernel), List.mem_of_getElem? (i := 598) (by decide +kernel), List.mem_of_getElem? (i := 599) (by decide +kernel)⟩
theorem lw_p14 : lw_okq (⟨"SheSays$LawReader", "readSum", "(I)Z"⟩, 3) := ⟨⟨by decide +kernel, by decide +kernel⟩, List.mem_of_getElem? (i := 95) (by decide +kernel), List.mem_of_getElem? (i := 604) (by decide +kernel), List.mem_of_getElem? (i := 605) (by decide +kernel)⟩
theorem lw_p15 : lw_okq (⟨"SheSays$LawReader", "readTerm", "(I)Z"⟩, 3) := ⟨⟨by decide +kernel, by decide +kernel⟩, List.mem_of_getElem? (i := 95) (by decide +kernel), List.mem_of_getElem? (i := 608) (by decide +kernel), List.mem_of_getElem? (i := 609) (by decide +kernel)⟩
def lw_privs_1 : List (MethodName × Nat) := [(⟨"SheSays$BookReader", "readSpeeches", "()Z"⟩, 8), (⟨"SheSays$BookReader", "readSpeech", "(I)Z"⟩, 8), (⟨"SheSays$BookReader", "readLength", "(I)Z"⟩, 8), (⟨"SheSays$BookReader", "readCuts", "()Z"⟩, 8), (⟨"SheSays$BookReader", "readCut", "()Z"⟩, 8), (⟨"SheSays", "takeBook", "()I"⟩, 13), (⟨"SheSays$Play", "gapOf", "(I)I"⟩, 13), (⟨"SheSays$Play", "likesOf", "(I)I"⟩, 13), (⟨"SheSays", "heldLaw", "()LSheSays$Law;"⟩, 13), (⟨"SheSays$Law", "pop", "()I"⟩, 4), (⟨"SheSays$Law", "work", "(ILSheSays$Play;IZ)V"⟩, 4), (⟨"SheSays$Law", "push", "(I)V"⟩, 4), (⟨"SheSays$Leaps", "target", "(I)I"⟩, 5), (⟨"SheSays$LawReader", "readClause", "()Z"⟩, 3), (⟨"SheSays$LawReader", "readSum", "(I)Z"⟩, 3), (⟨"SheSays$LawReader", "readTerm", "(I)Z"⟩, 3)]
theorem lw_r1 : ∀ q ∈ lw_privs_1, lw_okq q := List.forall_mem_cons.mpr ⟨lw_p0, List.forall_mem_cons.mpr ⟨lw_p1, List.forall_mem_cons.mpr ⟨lw_p2, List.forall_mem_cons.mpr ⟨lw_p3, List.forall_mem_cons.mpr ⟨lw_p4, List.forall_mem_cons.mpr ⟨lw_p5, List.forall_mem_cons.mpr ⟨lw_p6, List.forall_mem_cons.mpr ⟨lw_p7, List.forall_mem_cons.mpr ⟨lw_p8, List.forall_mem_cons.mpr ⟨lw_p9, List.forall_mem_cons.mpr ⟨lw_p10, List.forall_mem_cons.mpr ⟨lw_p11, List.forall_mem_cons.mpr ⟨lw_p12, List.forall_mem_cons.mpr ⟨lw_p13, List.forall_mem_cons.mpr ⟨lw_p14, List.forall_mem_cons.mpr ⟨lw_p15, fun _ h => absurd h List.not_mem_nil⟩⟩⟩⟩⟩⟩⟩⟩⟩⟩⟩⟩⟩⟩⟩⟩
theorem lw_p16 : lw_okq (⟨"SheSays$LawReader", "readAtom", "(I)Z"⟩, 3) := ⟨⟨by decide +kernel, by decide +kernel⟩, List.mem_of_getElem? (i := 95) (by decide +kernel), List.mem_of_getElem? (i := 612) (by decide +kernel), List.mem_of_getElem? (i := 613) (by decide +kernel)⟩
theorem lw_p17 : lw_okq (⟨"SheSays$LawReader", "write", "(I)V"⟩, 3) := ⟨⟨by decide +kernel, by decide +kernel⟩, List.mem_of_getElem? (i := 95) (by decide +kernel), List.mem_of_getElem? (i := 617) (by decide +kernel), List.mem_of_getElem? (i := 618) (by decide +kernel)⟩
theorem lw_p18 : lw_okq (⟨"SheSays$LawReader", "atComparison", "()Z"⟩, 3) := ⟨⟨by decide +kernel, by decide +kernel⟩, List.mem_of_getElem? (i := 95) (by decide +kernel), List.mem_of_getElem? (i := 622) (by decide +kernel), List.mem_of_getElem? (i := 623) (by decide +kernel)⟩
theorem lw_p19 : lw_okq (⟨"SheSays$LawReader", "readCondition", "(IZ)Z"⟩, 3) := ⟨⟨by decide +kernel, by decide +kernel⟩, List.mem_of_getElem? (i := 95) (by decide +kernel), List.mem_of_getElem? (i := 626) (by decide +kernel), List.mem_of_getElem? (i := 627) (by decide +kernel)⟩
theorem lw_p20 : lw_okq (⟨"SheSays$LawReader", "readTruth", "(IZ)Z"⟩, 3) := ⟨⟨by decide +kernel, by decide +kernel⟩, List.mem_of_getElem? (i := 95) (by decide +kernel), List.mem_of_getElem? (i := 630) (by decide +kernel), List.mem_of_getElem? (i := 631) (by decide +kernel)⟩
theorem lw_p21 : lw_okq (⟨"SheSays$LawReader", "readUnit", "(IZ)Z"⟩, 3) := ⟨⟨by decide +kernel, by decide +kernel⟩, List.mem_of_getElem? (i := 95) (by decide +kernel), List.mem_of_getElem? (i := 634) (by decide +kernel), List.mem_of_getElem? (i := 635) (by decide +kernel)⟩
theorem lw_p22 : lw_okq (⟨"SheSays$LawReader", "readNested", "(II)Z"⟩, 3) := ⟨⟨by decide +kernel, by decide +kernel⟩, List.mem_of_getElem? (i := 95) (by decide +kernel), List.mem_of_getElem? (i := 638) (by decide +kernel), List.mem_of_getElem? (i := 639) (by decide +kernel)⟩
theorem lw_p23 : lw_okq (⟨"SheSays$Night", "draw", "()I"⟩, 13) := ⟨⟨by decide +kernel, by decide +kernel⟩, List.mem_of_getElem? (i := 331) (by decide +kernel), List.mem_of_getElem? (i := 703) (by decide +kernel), List.mem_of_getElem? (i := 704) (by decide +kernel)⟩
theorem lw_p24 : lw_okq (⟨"SheSays$Notes", "mostLostNotMarked", "()I"⟩, 7) := ⟨⟨by decide +kernel, by decide +kernel⟩, List.mem_of_getElem? (i := 229) (by decide +kernel), List.mem_of_getElem? (i := 755) (by decide +kernel), List.mem_of_getElem? (i := 756) (by decide +kernel)⟩
theorem lw_p25 : lw_okq (⟨"SheSays$Odds", "prepare", "(I)V"⟩, 10) := ⟨⟨by decide +kernel, by decide +kernel⟩, List.mem_of_getElem? (i := 367) (by decide +kernel), List.mem_of_getElem? (i := 797) (by decide +kernel), List.mem_of_getElem? (i := 798) (by decide +kernel)⟩
theorem lw_p26 : lw_okq (⟨"SheSays$Odds", "flow", "(I)V"⟩, 10) := ⟨⟨by decide +kernel, by decide +kernel⟩, List.mem_of_getElem? (i := 367) (by decide +kernel), List.mem_of_getElem? (i := 803) (by decide +kernel), List.mem_of_getElem? (i := 804) (by decide +kernel)⟩
theorem lw_p27 : lw_okq (⟨"SheSays$Odds", "start", "()V"⟩, 10) := ⟨⟨by decide +kernel, by decide +kernel⟩, List.mem_of_getElem? (i := 367) (by decide +kernel), List.mem_of_getElem? (i := 807) (by decide +kernel), List.mem_of_getElem? (i := 808) (by decide +kernel)⟩
theorem lw_p28 : lw_okq (⟨"SheSays$Odds", "step", "()V"⟩, 10) := ⟨⟨by decide +kernel, by decide +kernel⟩, List.mem_of_getElem? (i := 367) (by decide +kernel), List.mem_of_getElem? (i := 815) (by decide +kernel), List.mem_of_getElem? (i := 816) (by decide +kernel)⟩
theorem lw_p29 : lw_okq (⟨"SheSays$Odds", "comeTo", "(IJ)V"⟩, 10) := ⟨⟨by decide +kernel, by decide +kernel⟩, List.mem_of_getElem? (i := 367) (by decide +kernel), List.mem_of_getElem? (i := 819) (by decide +kernel), List.mem_of_getElem? (i := 820) (by decide +kernel)⟩
theorem lw_p30 : lw_okq (⟨"SheSays$Odds", "say", "(IJ)V"⟩, 10) := ⟨⟨by decide +kernel, by decide +kernel⟩, List.mem_of_getElem? (i := 367) (by decide +kernel), List.mem_of_getElem? (i := 824) (by decide +kernel), List.mem_of_getElem? (i := 825) (by decide +kernel)⟩
theorem lw_p31 : lw_okq (⟨"SheSays$Play", "actors", "()I"⟩, 13) := ⟨⟨by decide +kernel, by decide +kernel⟩, List.mem_of_getElem? (i := 133) (by decide +kernel), List.mem_of_getElem? (i := 841) (by decide +kernel), List.mem_of_getElem? (i := 842) (by decide +kernel)⟩
def lw_privs_2 : List (MethodName × Nat) := [(⟨"SheSays$LawReader", "readAtom", "(I)Z"⟩, 3), (⟨"SheSays$LawReader", "write", "(I)V"⟩, 3), (⟨"SheSays$LawReader", "atComparison", "()Z"⟩, 3), (⟨"SheSays$LawReader", "readCondition", "(IZ)Z"⟩, 3), (⟨"SheSays$LawReader", "readTruth", "(IZ)Z"⟩, 3), (⟨"SheSays$LawReader", "readUnit", "(IZ)Z"⟩, 3), (⟨"SheSays$LawReader", "readNested", "(II)Z"⟩, 3), (⟨"SheSays$Night", "draw", "()I"⟩, 13), (⟨"SheSays$Notes", "mostLostNotMarked", "()I"⟩, 7), (⟨"SheSays$Odds", "prepare", "(I)V"⟩, 10), (⟨"SheSays$Odds", "flow", "(I)V"⟩, 10), (⟨"SheSays$Odds", "start", "()V"⟩, 10), (⟨"SheSays$Odds", "step", "()V"⟩, 10), (⟨"SheSays$Odds", "comeTo", "(IJ)V"⟩, 10), (⟨"SheSays$Odds", "say", "(IJ)V"⟩, 10), (⟨"SheSays$Play", "actors", "()I"⟩, 13)]
theorem lw_r2 : ∀ q ∈ lw_privs_2, lw_okq q := List.forall_mem_cons.mpr ⟨lw_p16, List.forall_mem_cons.mpr ⟨lw_p17, List.forall_mem_cons.mpr ⟨lw_p18, List.forall_mem_cons.mpr ⟨lw_p19, List.forall_mem_cons.mpr ⟨lw_p20, List.forall_mem_cons.mpr ⟨lw_p21, List.forall_mem_cons.mpr ⟨lw_p22, List.forall_mem_cons.mpr ⟨lw_p23, List.forall_mem_cons.mpr ⟨lw_p24, List.forall_mem_cons.mpr ⟨lw_p25, List.forall_mem_cons.mpr ⟨lw_p26, List.forall_mem_cons.mpr ⟨lw_p27, List.forall_mem_cons.mpr ⟨lw_p28, List.forall_mem_cons.mpr ⟨lw_p29, List.forall_mem_cons.mpr ⟨lw_p30, List.forall_mem_cons.mpr ⟨lw_p31, fun _ h => absurd h List.not_mem_nil⟩⟩⟩⟩⟩⟩⟩⟩⟩⟩⟩⟩⟩⟩⟩⟩
theorem lw_p32 : lw_okq (⟨"SheSays$Play", "canShare", "(I)Z"⟩, 13) := ⟨⟨by decide +kernel, by decide +kernel⟩, List.mem_of_getElem? (i := 133) (by decide +kernel), List.mem_of_getElem? (i := 861) (by decide +kernel), List.mem_of_getElem? (i := 862) (by decide +kernel)⟩
theorem lw_p33 : lw_okq (⟨"SheSays", "extreme", "(IIZ)I"⟩, 13) := ⟨⟨by decide +kernel, by decide +kernel⟩, List.mem_of_getElem? (i := 30) (by decide +kernel), List.mem_of_getElem? (i := 869) (by decide +kernel), List.mem_of_getElem? (i := 870) (by decide +kernel)⟩
theorem lw_p34 : lw_okq (⟨"SheSays$Evening", "explore", "(IIIII)V"⟩, 11) := ⟨⟨by decide +kernel, by decide +kernel⟩, List.mem_of_getElem? (i := 262) (by decide +kernel), List.mem_of_getElem? (i := 877) (by decide +kernel), List.mem_of_getElem? (i := 878) (by decide +kernel)⟩
theorem lw_p35 : lw_okq (⟨"SheSays$Evening", "settle", "(II)V"⟩, 11) := ⟨⟨by decide +kernel, by decide +kernel⟩, List.mem_of_getElem? (i := 262) (by decide +kernel), List.mem_of_getElem? (i := 881) (by decide +kernel), List.mem_of_getElem? (i := 882) (by decide +kernel)⟩
theorem lw_p36 : lw_okq (⟨"java/lang/Throwable", "fillInStackTrace", "(I)Ljava/lang/Throwable;"⟩, 6) := ⟨⟨by decide +kernel, by decide +kernel⟩, List.mem_of_getElem? (i := 1042) (by decide +kernel), List.mem_of_getElem? (i := 1040) (by decide +kernel), List.mem_of_getElem? (i := 1041) (by decide +kernel)⟩
def lw_privs_3 : List (MethodName × Nat) := [(⟨"SheSays$Play", "canShare", "(I)Z"⟩, 13), (⟨"SheSays", "extreme", "(IIZ)I"⟩, 13), (⟨"SheSays$Evening", "explore", "(IIIII)V"⟩, 11), (⟨"SheSays$Evening", "settle", "(II)V"⟩, 11), (⟨"java/lang/Throwable", "fillInStackTrace", "(I)Ljava/lang/Throwable;"⟩, 6)]
theorem lw_r3 : ∀ q ∈ lw_privs_3, lw_okq q := List.forall_mem_cons.mpr ⟨lw_p32, List.forall_mem_cons.mpr ⟨lw_p33, List.forall_mem_cons.mpr ⟨lw_p34, List.forall_mem_cons.mpr ⟨lw_p35, List.forall_mem_cons.mpr ⟨lw_p36, fun _ h => absurd h List.not_mem_nil⟩⟩⟩⟩⟩
def lw_privs : List (MethodName × Nat) := lw_privs_1 ++ (lw_privs_2 ++ (lw_privs_3))
def lw_tbl : List Cond := k2_sels lw_privs ++ tables_1
theorem lw_privs_ok : ∀ q ∈ lw_privs, lw_okq q := by
  show ∀ q ∈ lw_privs_1 ++ (lw_privs_2 ++ (lw_privs_3)), lw_okq q
  exact List.forall_mem_append.mpr ⟨lw_r1, List.forall_mem_append.mpr ⟨lw_r2, lw_r3⟩⟩
def RX0 : String := "SheSays$BookReader"
def TX0 : u_T := fun k => match k with
  | 0 => ("SheSays$BookReader", "tape", "LSheSays$Tape;", true)
  | 1 => ("SheSays$BookReader", "actor", "[I", true)
  | 2 => ("SheSays$BookReader", "word", "[I", true)
  | 3 => ("SheSays$BookReader", "length", "[I", true)
  | 4 => ("SheSays$BookReader", "isCut", "[Z", true)
  | 5 => ("SheSays$BookReader", "speeches", "I", false)
  | 6 => ("SheSays$BookReader", "left", "I", false)
  | _ => ("SheSays$BookReader", "lastCut", "I", false)
def tyX0 : Nat → FieldType := fun k => match k with
  | 0 => .object "SheSays$Tape"
  | 1 => .array .int
  | 2 => .array .int
  | 3 => .array .int
  | 4 => .array .boolean
  | 5 => .int
  | 6 => .int
  | _ => .int
abbrev wsX00 : List Cond := u_ws RX0 TX0 8
theorem nmX0 : ∀ a, a < 8 → ∀ b, b < 8 → a ≠ b → (TX0 a).2.1 ≠ (TX0 b).2.1 := by decide +kernel
theorem tyX0_ok : ∀ k, k < 8 → parseFieldDescriptor (TX0 k).2.2.1 = some (tyX0 k) := by decide +kernel
abbrev cX0_init : ByteArray := prog_2_method_1_code
def yX0_init : MethodName := ⟨RX0, "<init>", "(LSheSays$Tape;)V"⟩
abbrev cX0_read : ByteArray := prog_2_method_2_code
def yX0_read : MethodName := ⟨RX0, "read", "()I"⟩
abbrev cX0_readSpeeches : ByteArray := prog_2_method_3_code
def yX0_readSpeeches : MethodName := ⟨RX0, "readSpeeches", "()Z"⟩
abbrev cX0_readSpeech : ByteArray := prog_2_method_4_code
def yX0_readSpeech : MethodName := ⟨RX0, "readSpeech", "(I)Z"⟩
abbrev cX0_readLength : ByteArray := prog_2_method_5_code
def yX0_readLength : MethodName := ⟨RX0, "readLength", "(I)Z"⟩
abbrev cX0_readCuts : ByteArray := prog_2_method_6_code
def yX0_readCuts : MethodName := ⟨RX0, "readCuts", "()Z"⟩
abbrev cX0_readCut : ByteArray := prog_2_method_7_code
def yX0_readCut : MethodName := ⟨RX0, "readCut", "()Z"⟩
def RX1 : String := "SheSays$Evening"
def TX1 : u_T := fun k => match k with
  | 0 => ("SheSays$Walk", "play", "LSheSays$Play;", true)
  | 1 => ("SheSays$Walk", "leaps", "LSheSays$Leaps;", true)
  | 2 => ("SheSays$Walk", "row", "[I", true)
  | 3 => ("SheSays$Walk", "said", "I", false)
  | 4 => ("SheSays$Walk", "seconds", "I", false)
  | 5 => ("SheSays$Walk", "ending", "I", false)
  | 6 => ("SheSays$Walk", "stoppedAt", "I", false)
  | 7 => ("SheSays$Evening", "pending", "I", false)
  | 8 => ("SheSays$Evening", "wantsMost", "Z", false)
  | 9 => ("SheSays$Evening", "bestSaid", "I", false)
  | _ => ("SheSays$Evening", "bestLosses", "I", false)
def tyX1 : Nat → FieldType := fun k => match k with
  | 0 => .object "SheSays$Play"
  | 1 => .object "SheSays$Leaps"
  | 2 => .array .int
  | 3 => .int
  | 4 => .int
  | 5 => .int
  | 6 => .int
  | 7 => .int
  | 8 => .boolean
  | 9 => .int
  | _ => .int
abbrev wsX10 : List Cond := u_ws RX1 TX1 11
theorem nmX1 : ∀ a, a < 11 → ∀ b, b < 11 → a ≠ b → (TX1 a).2.1 ≠ (TX1 b).2.1 := by decide +kernel
theorem tyX1_ok : ∀ k, k < 11 → parseFieldDescriptor (TX1 k).2.2.1 = some (tyX1 k) := by decide +kernel
abbrev cX1_init : ByteArray := prog_3_method_1_code
def yX1_init : MethodName := ⟨RX1, "<init>", "(LSheSays$Play;LSheSays$Leaps;)V"⟩
abbrev cX1_play : ByteArray := prog_3_method_2_code
def yX1_play : MethodName := ⟨RX1, "play", "(I)V"⟩
abbrev cX1_saidAt : ByteArray := prog_3_method_3_code
def yX1_saidAt : MethodName := ⟨RX1, "saidAt", "(I)I"⟩
abbrev cX1_search : ByteArray := prog_3_method_4_code
def yX1_search : MethodName := ⟨RX1, "search", "(IZ)V"⟩
abbrev cX1_explore : ByteArray := prog_3_method_5_code
def yX1_explore : MethodName := ⟨RX1, "explore", "(IIIII)V"⟩
abbrev cX1_settle : ByteArray := prog_3_method_6_code
def yX1_settle : MethodName := ⟨RX1, "settle", "(II)V"⟩
def RX2 : String := "SheSays$Law"
def TX2 : u_T := fun k => match k with
  | 0 => ("SheSays$Law", "code", "[I", true)
  | 1 => ("SheSays$Law", "size", "I", false)
  | 2 => ("SheSays$Law", "stack", "[I", true)
  | _ => ("SheSays$Law", "top", "I", false)
def tyX2 : Nat → FieldType := fun k => match k with
  | 0 => .array .int
  | 1 => .int
  | 2 => .array .int
  | _ => .int
abbrev wsX20 : List Cond := u_ws RX2 TX2 4
theorem nmX2 : ∀ a, a < 4 → ∀ b, b < 4 → a ≠ b → (TX2 a).2.1 ≠ (TX2 b).2.1 := by decide +kernel
theorem tyX2_ok : ∀ k, k < 4 → parseFieldDescriptor (TX2 k).2.2.1 = some (tyX2 k) := by decide +kernel
abbrev cX2_init : ByteArray := prog_4_method_1_code
def yX2_init : MethodName := ⟨RX2, "<init>", "()V"⟩
abbrev cX2_isLetter : ByteArray := prog_4_method_2_code
def yX2_isLetter : MethodName := ⟨RX2, "isLetter", "(I)Z"⟩
abbrev cX2_put : ByteArray := prog_4_method_3_code
def yX2_put : MethodName := ⟨RX2, "put", "(LSheSays$LawReader;)V"⟩
abbrev cX2_worth : ByteArray := prog_4_method_4_code
def yX2_worth : MethodName := ⟨RX2, "worth", "(LSheSays$Play;IZ)I"⟩
abbrev cX2_work : ByteArray := prog_4_method_5_code
def yX2_work : MethodName := ⟨RX2, "work", "(ILSheSays$Play;IZ)V"⟩
abbrev cX2_push : ByteArray := prog_4_method_6_code
def yX2_push : MethodName := ⟨RX2, "push", "(I)V"⟩
abbrev cX2_pop : ByteArray := prog_4_method_7_code
def yX2_pop : MethodName := ⟨RX2, "pop", "()I"⟩
abbrev cX2_join : ByteArray := prog_4_method_8_code
def yX2_join : MethodName := ⟨RX2, "join", "(III)I"⟩
abbrev cX2_within : ByteArray := prog_4_method_9_code
def yX2_within : MethodName := ⟨RX2, "within", "(J)I"⟩
def RX3 : String := "SheSays$LawReader"
def TX3 : u_T := fun k => match k with
  | 0 => ("SheSays$LawReader", "tape", "LSheSays$Tape;", true)
  | 1 => ("SheSays$LawReader", "code", "[I", true)
  | _ => ("SheSays$LawReader", "size", "I", false)
def tyX3 : Nat → FieldType := fun k => match k with
  | 0 => .object "SheSays$Tape"
  | 1 => .array .int
  | _ => .int
abbrev wsX30 : List Cond := u_ws RX3 TX3 3
theorem nmX3 : ∀ a, a < 3 → ∀ b, b < 3 → a ≠ b → (TX3 a).2.1 ≠ (TX3 b).2.1 := by decide +kernel
theorem tyX3_ok : ∀ k, k < 3 → parseFieldDescriptor (TX3 k).2.2.1 = some (tyX3 k) := by decide +kernel
abbrev cX3_init : ByteArray := prog_5_method_1_code
def yX3_init : MethodName := ⟨RX3, "<init>", "(LSheSays$Tape;)V"⟩
abbrev cX3_read : ByteArray := prog_5_method_2_code
def yX3_read : MethodName := ⟨RX3, "read", "()I"⟩
abbrev cX3_write : ByteArray := prog_5_method_3_code
def yX3_write : MethodName := ⟨RX3, "write", "(I)V"⟩
abbrev cX3_readClause : ByteArray := prog_5_method_4_code
def yX3_readClause : MethodName := ⟨RX3, "readClause", "()Z"⟩
abbrev cX3_atComparison : ByteArray := prog_5_method_5_code
def yX3_atComparison : MethodName := ⟨RX3, "atComparison", "()Z"⟩
abbrev cX3_readCondition : ByteArray := prog_5_method_6_code
def yX3_readCondition : MethodName := ⟨RX3, "readCondition", "(IZ)Z"⟩
abbrev cX3_readTruth : ByteArray := prog_5_method_7_code
def yX3_readTruth : MethodName := ⟨RX3, "readTruth", "(IZ)Z"⟩
abbrev cX3_readUnit : ByteArray := prog_5_method_8_code
def yX3_readUnit : MethodName := ⟨RX3, "readUnit", "(IZ)Z"⟩
abbrev cX3_readNested : ByteArray := prog_5_method_9_code
def yX3_readNested : MethodName := ⟨RX3, "readNested", "(II)Z"⟩
abbrev cX3_readSum : ByteArray := prog_5_method_10_code
def yX3_readSum : MethodName := ⟨RX3, "readSum", "(I)Z"⟩
abbrev cX3_readTerm : ByteArray := prog_5_method_11_code
def yX3_readTerm : MethodName := ⟨RX3, "readTerm", "(I)Z"⟩
abbrev cX3_readAtom : ByteArray := prog_5_method_12_code
def yX3_readAtom : MethodName := ⟨RX3, "readAtom", "(I)Z"⟩
def RX4 : String := "SheSays$Leaps"
def TX4 : u_T := fun k => match k with
  | 0 => ("SheSays$Leaps", "play", "LSheSays$Play;", true)
  | 1 => ("SheSays$Leaps", "kind", "[I", true)
  | 2 => ("SheSays$Leaps", "take", "[I", true)
  | 3 => ("SheSays$Leaps", "to", "[I", true)
  | _ => ("SheSays$Leaps", "rows", "[[J", true)
def tyX4 : Nat → FieldType := fun k => match k with
  | 0 => .object "SheSays$Play"
  | 1 => .array .int
  | 2 => .array .int
  | 3 => .array .int
  | _ => .array (.array .long)
abbrev wsX40 : List Cond := u_ws RX4 TX4 5
theorem nmX4 : ∀ a, a < 5 → ∀ b, b < 5 → a ≠ b → (TX4 a).2.1 ≠ (TX4 b).2.1 := by decide +kernel
theorem tyX4_ok : ∀ k, k < 5 → parseFieldDescriptor (TX4 k).2.2.1 = some (tyX4 k) := by decide +kernel
abbrev cX4_init : ByteArray := prog_6_method_1_code
def yX4_init : MethodName := ⟨RX4, "<init>", "(LSheSays$Play;)V"⟩
abbrev cX4_plan : ByteArray := prog_6_method_2_code
def yX4_plan : MethodName := ⟨RX4, "plan", "()V"⟩
abbrev cX4_target : ByteArray := prog_6_method_3_code
def yX4_target : MethodName := ⟨RX4, "target", "(I)I"⟩
abbrev cX4_takeOf : ByteArray := prog_6_method_4_code
def yX4_takeOf : MethodName := ⟨RX4, "takeOf", "(I)I"⟩
abbrev cX4_whichLeapTo : ByteArray := prog_6_method_7_code
def yX4_whichLeapTo : MethodName := ⟨RX4, "whichLeapTo", "(I)I"⟩
abbrev cX4_rowsWith : ByteArray := prog_6_method_8_code
def yX4_rowsWith : MethodName := ⟨RX4, "rowsWith", "(I)I"⟩
def RX5 : String := "SheSays$Night"
def TX5 : u_T := fun k => match k with
  | 0 => ("SheSays$Walk", "play", "LSheSays$Play;", true)
  | 1 => ("SheSays$Walk", "leaps", "LSheSays$Leaps;", true)
  | 2 => ("SheSays$Walk", "row", "[I", true)
  | 3 => ("SheSays$Walk", "said", "I", false)
  | 4 => ("SheSays$Walk", "seconds", "I", false)
  | 5 => ("SheSays$Walk", "ending", "I", false)
  | 6 => ("SheSays$Walk", "stoppedAt", "I", false)
  | 7 => ("SheSays$Night", "x", "J", false)
  | 8 => ("SheSays$Night", "marked", "I", false)
  | 9 => ("SheSays$Night", "lost", "I", false)
  | 10 => ("SheSays$Night", "saved", "I", false)
  | 11 => ("SheSays$Night", "leapt", "I", false)
  | _ => ("SheSays$Night", "lostAt", "[I", true)
def tyX5 : Nat → FieldType := fun k => match k with
  | 0 => .object "SheSays$Play"
  | 1 => .object "SheSays$Leaps"
  | 2 => .array .int
  | 3 => .int
  | 4 => .int
  | 5 => .int
  | 6 => .int
  | 7 => .long
  | 8 => .int
  | 9 => .int
  | 10 => .int
  | 11 => .int
  | _ => .array .int
abbrev wsX50 : List Cond := u_ws RX5 TX5 13
theorem nmX5 : ∀ a, a < 13 → ∀ b, b < 13 → a ≠ b → (TX5 a).2.1 ≠ (TX5 b).2.1 := by decide +kernel
theorem tyX5_ok : ∀ k, k < 13 → parseFieldDescriptor (TX5 k).2.2.1 = some (tyX5 k) := by decide +kernel
abbrev cX5_init : ByteArray := prog_7_method_1_code
def yX5_init : MethodName := ⟨RX5, "<init>", "(LSheSays$Play;LSheSays$Leaps;)V"⟩
abbrev cX5_play : ByteArray := prog_7_method_2_code
def yX5_play : MethodName := ⟨RX5, "play", "(JI)V"⟩
abbrev cX5_draw : ByteArray := prog_7_method_3_code
def yX5_draw : MethodName := ⟨RX5, "draw", "()I"⟩
abbrev cX5_saidAt : ByteArray := prog_7_method_4_code
def yX5_saidAt : MethodName := ⟨RX5, "saidAt", "(I)I"⟩
abbrev cX5_secondsInAll : ByteArray := prog_7_method_5_code
def yX5_secondsInAll : MethodName := ⟨RX5, "secondsInAll", "()I"⟩
def RX6 : String := "SheSays$Notes"
def TX6 : u_T := fun k => match k with
  | 0 => ("SheSays$Notes", "marked", "I", false)
  | 1 => ("SheSays$Notes", "could", "I", false)
  | 2 => ("SheSays$Notes", "nights", "I", false)
  | 3 => ("SheSays$Notes", "timesLost", "[I", true)
  | 4 => ("SheSays$Notes", "hasImage", "Z", false)
  | 5 => ("SheSays$Notes", "imageMarked", "I", false)
  | _ => ("SheSays$Notes", "imageTimesLost", "[I", true)
def tyX6 : Nat → FieldType := fun k => match k with
  | 0 => .int
  | 1 => .int
  | 2 => .int
  | 3 => .array .int
  | 4 => .boolean
  | 5 => .int
  | _ => .array .int
abbrev wsX60 : List Cond := u_ws RX6 TX6 7
theorem nmX6 : ∀ a, a < 7 → ∀ b, b < 7 → a ≠ b → (TX6 a).2.1 ≠ (TX6 b).2.1 := by decide +kernel
theorem tyX6_ok : ∀ k, k < 7 → parseFieldDescriptor (TX6 k).2.2.1 = some (tyX6 k) := by decide +kernel
abbrev cX6_init : ByteArray := prog_8_method_1_code
def yX6_init : MethodName := ⟨RX6, "<init>", "()V"⟩
abbrev cX6_clear : ByteArray := prog_8_method_2_code
def yX6_clear : MethodName := ⟨RX6, "clear", "()V"⟩
abbrev cX6_isMarked : ByteArray := prog_8_method_3_code
def yX6_isMarked : MethodName := ⟨RX6, "isMarked", "(I)Z"⟩
abbrev cX6_keep : ByteArray := prog_8_method_5_code
def yX6_keep : MethodName := ⟨RX6, "keep", "(LSheSays$Night;)V"⟩
abbrev cX6_markMostLost : ByteArray := prog_8_method_6_code
def yX6_markMostLost : MethodName := ⟨RX6, "markMostLost", "(I)V"⟩
abbrev cX6_mostLostNotMarked : ByteArray := prog_8_method_7_code
def yX6_mostLostNotMarked : MethodName := ⟨RX6, "mostLostNotMarked", "()I"⟩
abbrev cX6_keepImage : ByteArray := prog_8_method_8_code
def yX6_keepImage : MethodName := ⟨RX6, "keepImage", "()V"⟩
abbrev cX6_goBack : ByteArray := prog_8_method_9_code
def yX6_goBack : MethodName := ⟨RX6, "goBack", "()V"⟩
def RX7 : String := "SheSays$Odds"
def TX7 : u_T := fun k => match k with
  | 0 => ("SheSays$Odds", "play", "LSheSays$Play;", true)
  | 1 => ("SheSays$Odds", "leaps", "LSheSays$Leaps;", true)
  | 2 => ("SheSays$Odds", "forgets", "[I", true)
  | 3 => ("SheSays$Odds", "takes", "[I", true)
  | 4 => ("SheSays$Odds", "now", "[J", false)
  | 5 => ("SheSays$Odds", "next", "[J", false)
  | 6 => ("SheSays$Odds", "stopped", "[J", true)
  | 7 => ("SheSays$Odds", "saidParts", "[J", true)
  | 8 => ("SheSays$Odds", "ended", "J", false)
  | _ => ("SheSays$Odds", "underWay", "J", false)
def tyX7 : Nat → FieldType := fun k => match k with
  | 0 => .object "SheSays$Play"
  | 1 => .object "SheSays$Leaps"
  | 2 => .array .int
  | 3 => .array .int
  | 4 => .array .long
  | 5 => .array .long
  | 6 => .array .long
  | 7 => .array .long
  | 8 => .long
  | _ => .long
abbrev wsX70 : List Cond := u_ws RX7 TX7 10
theorem nmX7 : ∀ a, a < 10 → ∀ b, b < 10 → a ≠ b → (TX7 a).2.1 ≠ (TX7 b).2.1 := by decide +kernel
theorem tyX7_ok : ∀ k, k < 10 → parseFieldDescriptor (TX7 k).2.2.1 = some (tyX7 k) := by decide +kernel
abbrev cX7_init : ByteArray := prog_9_method_1_code
def yX7_init : MethodName := ⟨RX7, "<init>", "(LSheSays$Play;LSheSays$Leaps;)V"⟩
abbrev cX7_chanceWith : ByteArray := prog_9_method_2_code
def yX7_chanceWith : MethodName := ⟨RX7, "chanceWith", "(II)I"⟩
abbrev cX7_chanceIfSure : ByteArray := prog_9_method_3_code
def yX7_chanceIfSure : MethodName := ⟨RX7, "chanceIfSure", "(III)I"⟩
abbrev cX7_prepare : ByteArray := prog_9_method_6_code
def yX7_prepare : MethodName := ⟨RX7, "prepare", "(I)V"⟩
abbrev cX7_start : ByteArray := prog_9_method_7_code
def yX7_start : MethodName := ⟨RX7, "start", "()V"⟩
abbrev cX7_flow : ByteArray := prog_9_method_8_code
def yX7_flow : MethodName := ⟨RX7, "flow", "(I)V"⟩
abbrev cX7_step : ByteArray := prog_9_method_10_code
def yX7_step : MethodName := ⟨RX7, "step", "()V"⟩
abbrev cX7_comeTo : ByteArray := prog_9_method_11_code
def yX7_comeTo : MethodName := ⟨RX7, "comeTo", "(IJ)V"⟩
abbrev cX7_say : ByteArray := prog_9_method_12_code
def yX7_say : MethodName := ⟨RX7, "say", "(IJ)V"⟩
def RX8 : String := "SheSays$Play"
def TX8 : u_T := fun k => match k with
  | 0 => ("SheSays$Play", "bookSize", "I", false)
  | 1 => ("SheSays$Play", "size", "I", false)
  | 2 => ("SheSays$Play", "actor", "[I", true)
  | 3 => ("SheSays$Play", "word", "[I", true)
  | 4 => ("SheSays$Play", "length", "[I", true)
  | 5 => ("SheSays$Play", "place", "[I", true)
  | 6 => ("SheSays$Play", "cue", "[I", true)
  | 7 => ("SheSays$Play", "gap", "[I", true)
  | 8 => ("SheSays$Play", "likes", "[I", true)
  | 9 => ("SheSays$Play", "forgetsBare", "[I", true)
  | 10 => ("SheSays$Play", "forgetsMarked", "[I", true)
  | 11 => ("SheSays$Play", "sharers", "[I", true)
  | _ => ("SheSays$Play", "needed", "[I", true)
def tyX8 : Nat → FieldType := fun k => match k with
  | 0 => .int
  | 1 => .int
  | 2 => .array .int
  | 3 => .array .int
  | 4 => .array .int
  | 5 => .array .int
  | 6 => .array .int
  | 7 => .array .int
  | 8 => .array .int
  | 9 => .array .int
  | 10 => .array .int
  | 11 => .array .int
  | _ => .array .int
abbrev wsX80 : List Cond := u_ws RX8 TX8 13
theorem nmX8 : ∀ a, a < 13 → ∀ b, b < 13 → a ≠ b → (TX8 a).2.1 ≠ (TX8 b).2.1 := by decide +kernel
theorem tyX8_ok : ∀ k, k < 13 → parseFieldDescriptor (TX8 k).2.2.1 = some (tyX8 k) := by decide +kernel
abbrev cX8_init : ByteArray := prog_10_method_1_code
def yX8_init : MethodName := ⟨RX8, "<init>", "()V"⟩
abbrev cX8_put : ByteArray := prog_10_method_2_code
def yX8_put : MethodName := ⟨RX8, "put", "(LSheSays$BookReader;)V"⟩
abbrev cX8_gapOf : ByteArray := prog_10_method_3_code
def yX8_gapOf : MethodName := ⟨RX8, "gapOf", "(I)I"⟩
abbrev cX8_likesOf : ByteArray := prog_10_method_4_code
def yX8_likesOf : MethodName := ⟨RX8, "likesOf", "(I)I"⟩
abbrev cX8_has : ByteArray := prog_10_method_5_code
def yX8_has : MethodName := ⟨RX8, "has", "(I)Z"⟩
abbrev cX8_hasAll : ByteArray := prog_10_method_6_code
def yX8_hasAll : MethodName := ⟨RX8, "hasAll", "(I)Z"⟩
abbrev cX8_actors : ByteArray := prog_10_method_7_code
def yX8_actors : MethodName := ⟨RX8, "actors", "()I"⟩
abbrev cX8_hasActor : ByteArray := prog_10_method_8_code
def yX8_hasActor : MethodName := ⟨RX8, "hasActor", "(I)Z"⟩
abbrev cX8_alike : ByteArray := prog_10_method_9_code
def yX8_alike : MethodName := ⟨RX8, "alike", "(II)Z"⟩
abbrev cX8_lastLikeAhead : ByteArray := prog_10_method_10_code
def yX8_lastLikeAhead : MethodName := ⟨RX8, "lastLikeAhead", "(I)I"⟩
abbrev cX8_firstLikeBehind : ByteArray := prog_10_method_11_code
def yX8_firstLikeBehind : MethodName := ⟨RX8, "firstLikeBehind", "(I)I"⟩
abbrev cX8_letter : ByteArray := prog_10_method_12_code
def yX8_letter : MethodName := ⟨RX8, "letter", "(IIZ)I"⟩
abbrev cX8_weigh : ByteArray := prog_10_method_13_code
def yX8_weigh : MethodName := ⟨RX8, "weigh", "(LSheSays$Law;)V"⟩
abbrev cX8_percent : ByteArray := prog_10_method_14_code
def yX8_percent : MethodName := ⟨RX8, "percent", "(I)I"⟩
abbrev cX8_forgets : ByteArray := prog_10_method_15_code
def yX8_forgets : MethodName := ⟨RX8, "forgets", "(IZ)I"⟩
abbrev cX8_findSharers : ByteArray := prog_10_method_19_code
def yX8_findSharers : MethodName := ⟨RX8, "findSharers", "(I)V"⟩
abbrev cX8_fewestPlayers : ByteArray := prog_10_method_20_code
def yX8_fewestPlayers : MethodName := ⟨RX8, "fewestPlayers", "()I"⟩
abbrev cX8_canShare : ByteArray := prog_10_method_21_code
def yX8_canShare : MethodName := ⟨RX8, "canShare", "(I)Z"⟩
abbrev cX8_wordsToChange : ByteArray := prog_10_method_23_code
def yX8_wordsToChange : MethodName := ⟨RX8, "wordsToChange", "()I"⟩
abbrev cX8_firstWordToChange : ByteArray := prog_10_method_24_code
def yX8_firstWordToChange : MethodName := ⟨RX8, "firstWordToChange", "()I"⟩
def RX9 : String := "SheSays$Tape"
def TX9 : u_T := fun k => match k with
  | 0 => ("SheSays$Tape", "bytes", "[I", true)
  | 1 => ("SheSays$Tape", "size", "I", false)
  | _ => ("SheSays$Tape", "at", "I", false)
def tyX9 : Nat → FieldType := fun k => match k with
  | 0 => .array .int
  | 1 => .int
  | _ => .int
abbrev wsX90 : List Cond := u_ws RX9 TX9 3
theorem nmX9 : ∀ a, a < 3 → ∀ b, b < 3 → a ≠ b → (TX9 a).2.1 ≠ (TX9 b).2.1 := by decide +kernel
theorem tyX9_ok : ∀ k, k < 3 → parseFieldDescriptor (TX9 k).2.2.1 = some (tyX9 k) := by decide +kernel
abbrev cX9_init : ByteArray := prog_11_method_1_code
def yX9_init : MethodName := ⟨RX9, "<init>", "()V"⟩
abbrev cX9_bytesIn : ByteArray := prog_11_method_2_code
def yX9_bytesIn : MethodName := ⟨RX9, "bytesIn", "(I)I"⟩
abbrev cX9_append : ByteArray := prog_11_method_3_code
def yX9_append : MethodName := ⟨RX9, "append", "(I)V"⟩
abbrev cX9_here : ByteArray := prog_11_method_4_code
def yX9_here : MethodName := ⟨RX9, "here", "()I"⟩
abbrev cX9_sign : ByteArray := prog_11_method_5_code
def yX9_sign : MethodName := ⟨RX9, "sign", "()I"⟩
abbrev cX9_takes : ByteArray := prog_11_method_6_code
def yX9_takes : MethodName := ⟨RX9, "takes", "(I)Z"⟩
abbrev cX9_isDigit : ByteArray := prog_11_method_7_code
def yX9_isDigit : MethodName := ⟨RX9, "isDigit", "(I)Z"⟩
abbrev cX9_number : ByteArray := prog_11_method_8_code
def yX9_number : MethodName := ⟨RX9, "number", "(I)I"⟩
abbrev cX9_refuseNumber : ByteArray := prog_11_method_9_code
def yX9_refuseNumber : MethodName := ⟨RX9, "refuseNumber", "()Z"⟩
def RX10 : String := "SheSays$Walk"
def TX10 : u_T := fun k => match k with
  | _ => ("", "", "", false)
def tyX10 : Nat → FieldType := fun k => match k with
  | _ => .int
abbrev wsX100 : List Cond := u_ws RX10 TX10 0
theorem nmX10 : ∀ a, a < 0 → ∀ b, b < 0 → a ≠ b → (TX10 a).2.1 ≠ (TX10 b).2.1 := by decide +kernel
theorem tyX10_ok : ∀ k, k < 0 → parseFieldDescriptor (TX10 k).2.2.1 = some (tyX10 k) := by decide +kernel
abbrev cX10_init : ByteArray := prog_12_method_1_code
def yX10_init : MethodName := ⟨RX10, "<init>", "(LSheSays$Play;LSheSays$Leaps;)V"⟩
abbrev cX10_walk : ByteArray := prog_12_method_3_code
def yX10_walk : MethodName := ⟨RX10, "walk", "()V"⟩
def RX11 : String := "SheSays"
def TX11 : u_T := fun k => match k with
  | 0 => ("SheSays", "tape", "LSheSays$Tape;", true)
  | 1 => ("SheSays", "bookReader", "LSheSays$BookReader;", true)
  | 2 => ("SheSays", "lawReader", "LSheSays$LawReader;", true)
  | 3 => ("SheSays", "laws", "[LSheSays$Law;", true)
  | 4 => ("SheSays", "play", "LSheSays$Play;", true)
  | 5 => ("SheSays", "leaps", "LSheSays$Leaps;", true)
  | 6 => ("SheSays", "notes", "LSheSays$Notes;", true)
  | 7 => ("SheSays", "eveningWalk", "LSheSays$Evening;", true)
  | 8 => ("SheSays", "latestNight", "LSheSays$Night;", true)
  | 9 => ("SheSays", "trialNight", "LSheSays$Night;", true)
  | 10 => ("SheSays", "odds", "LSheSays$Odds;", true)
  | 11 => ("SheSays", "lawCount", "I", false)
  | _ => ("SheSays", "lawHeld", "I", false)
def tyX11 : Nat → FieldType := fun k => match k with
  | 0 => .object "SheSays$Tape"
  | 1 => .object "SheSays$BookReader"
  | 2 => .object "SheSays$LawReader"
  | 3 => .array (.object "SheSays$Law")
  | 4 => .object "SheSays$Play"
  | 5 => .object "SheSays$Leaps"
  | 6 => .object "SheSays$Notes"
  | 7 => .object "SheSays$Evening"
  | 8 => .object "SheSays$Night"
  | 9 => .object "SheSays$Night"
  | 10 => .object "SheSays$Odds"
  | 11 => .int
  | _ => .int
abbrev wsX110 : List Cond := u_ws RX11 TX11 13
theorem nmX11 : ∀ a, a < 13 → ∀ b, b < 13 → a ≠ b → (TX11 a).2.1 ≠ (TX11 b).2.1 := by decide +kernel
theorem tyX11_ok : ∀ k, k < 13 → parseFieldDescriptor (TX11 k).2.2.1 = some (tyX11 k) := by decide +kernel
abbrev cX11_init : ByteArray := prog_1_method_1_code
def yX11_init : MethodName := ⟨RX11, "<init>", "()V"⟩
abbrev cX11_feed : ByteArray := prog_1_method_2_code
def yX11_feed : MethodName := ⟨RX11, "feed", "(IIIII)I"⟩
abbrev cX11_end : ByteArray := prog_1_method_3_code
def yX11_end : MethodName := ⟨RX11, "end", "(I)Z"⟩
abbrev cX11_text : ByteArray := prog_1_method_5_code
def yX11_text : MethodName := ⟨RX11, "text", "(I)I"⟩
abbrev cX11_takeBook : ByteArray := prog_1_method_6_code
def yX11_takeBook : MethodName := ⟨RX11, "takeBook", "()I"⟩
abbrev cX11_heldLaw : ByteArray := prog_1_method_7_code
def yX11_heldLaw : MethodName := ⟨RX11, "heldLaw", "()LSheSays$Law;"⟩
abbrev cX11_speech : ByteArray := prog_1_method_8_code
def yX11_speech : MethodName := ⟨RX11, "speech", "(II)I"⟩
abbrev cX11_law : ByteArray := prog_1_method_9_code
def yX11_law : MethodName := ⟨RX11, "law", "(I)Z"⟩
abbrev cX11_set : ByteArray := prog_1_method_10_code
def yX11_set : MethodName := ⟨RX11, "set", "(III)Z"⟩
abbrev cX11_isActor : ByteArray := prog_1_method_11_code
def yX11_isActor : MethodName := ⟨RX11, "isActor", "(I)Z"⟩
abbrev cX11_mark : ByteArray := prog_1_method_12_code
def yX11_mark : MethodName := ⟨RX11, "mark", "(IZ)Z"⟩
abbrev cX11_leap : ByteArray := prog_1_method_13_code
def yX11_leap : MethodName := ⟨RX11, "leap", "(I)I"⟩
abbrev cX11_evening : ByteArray := prog_1_method_14_code
def yX11_evening : MethodName := ⟨RX11, "evening", "(II)I"⟩
abbrev cX11_ends : ByteArray := prog_1_method_15_code
def yX11_ends : MethodName := ⟨RX11, "ends", "(II)I"⟩
abbrev cX11_night : ByteArray := prog_1_method_16_code
def yX11_night : MethodName := ⟨RX11, "night", "(J)I"⟩
abbrev cX11_latest : ByteArray := prog_1_method_17_code
def yX11_latest : MethodName := ⟨RX11, "latest", "(I)I"⟩
abbrev cX11_learn : ByteArray := prog_1_method_18_code
def yX11_learn : MethodName := ⟨RX11, "learn", "(I)I"⟩
abbrev cX11_stops : ByteArray := prog_1_method_21_code
def yX11_stops : MethodName := ⟨RX11, "stops", "()I"⟩
abbrev cX11_rows : ByteArray := prog_1_method_23_code
def yX11_rows : MethodName := ⟨RX11, "rows", "(I)I"⟩
abbrev cX11_chance : ByteArray := prog_1_method_24_code
def yX11_chance : MethodName := ⟨RX11, "chance", "(I)I"⟩
abbrev cX11_isMostSaid : ByteArray := prog_1_method_25_code
def yX11_isMostSaid : MethodName := ⟨RX11, "isMostSaid", "(I)Z"⟩
abbrev cX11_mean : ByteArray := prog_1_method_26_code
def yX11_mean : MethodName := ⟨RX11, "mean", "(II)I"⟩
abbrev cX11_understudy : ByteArray := prog_1_method_29_code
def yX11_understudy : MethodName := ⟨RX11, "understudy", "(II)I"⟩
abbrev cX11_players : ByteArray := prog_1_method_33_code
def yX11_players : MethodName := ⟨RX11, "players", "(II)I"⟩
abbrev cX11_shortest : ByteArray := prog_1_method_34_code
def yX11_shortest : MethodName := ⟨RX11, "shortest", "(II)I"⟩
abbrev cX11_longest : ByteArray := prog_1_method_35_code
def yX11_longest : MethodName := ⟨RX11, "longest", "(II)I"⟩
abbrev cX11_extreme : ByteArray := prog_1_method_36_code
def yX11_extreme : MethodName := ⟨RX11, "extreme", "(IIZ)I"⟩
abbrev cX11_trial : ByteArray := prog_1_method_38_code
def yX11_trial : MethodName := ⟨RX11, "trial", "(II)I"⟩
abbrev cX11_reword : ByteArray := prog_1_method_40_code
def yX11_reword : MethodName := ⟨RX11, "reword", "(I)I"⟩
abbrev cX11_image : ByteArray := prog_1_method_41_code
def yX11_image : MethodName := ⟨RX11, "image", "()I"⟩
abbrev cX11_back : ByteArray := prog_1_method_42_code
def yX11_back : MethodName := ⟨RX11, "back", "()I"⟩
abbrev cX11_count : ByteArray := prog_1_method_43_code
def yX11_count : MethodName := ⟨RX11, "count", "(I)I"⟩
def RX12 : String := "SheSaysModel"
def TX12 : u_T := fun k => match k with
  | _ => ("", "", "", false)
def tyX12 : Nat → FieldType := fun k => match k with
  | _ => .int
abbrev wsX120 : List Cond := u_ws RX12 TX12 0
theorem nmX12 : ∀ a, a < 0 → ∀ b, b < 0 → a ≠ b → (TX12 a).2.1 ≠ (TX12 b).2.1 := by decide +kernel
theorem tyX12_ok : ∀ k, k < 0 → parseFieldDescriptor (TX12 k).2.2.1 = some (tyX12 k) := by decide +kernel
def RJx145de : String := "java/io/Serializable"
def TJx145de : u_T := fun k => match k with
  | _ => ("", "", "", false)
def tyJx145de : Nat → FieldType := fun k => match k with
  | _ => .int
abbrev wsJx145de0 : List Cond := u_ws RJx145de TJx145de 0
theorem nmJx145de : ∀ a, a < 0 → ∀ b, b < 0 → a ≠ b → (TJx145de a).2.1 ≠ (TJx145de b).2.1 := by decide +kernel
theorem tyJx145de_ok : ∀ k, k < 0 → parseFieldDescriptor (TJx145de k).2.2.1 = some (tyJx145de k) := by decide +kernel
def RJ5 : String := "java/lang/AbstractStringBuilder"
def TJ5 : u_T := fun k => match k with
  | _ => ("", "", "", false)
def tyJ5 : Nat → FieldType := fun k => match k with
  | _ => .int
abbrev wsJ50 : List Cond := u_ws RJ5 TJ5 0
theorem nmJ5 : ∀ a, a < 0 → ∀ b, b < 0 → a ≠ b → (TJ5 a).2.1 ≠ (TJ5 b).2.1 := by decide +kernel
theorem tyJ5_ok : ∀ k, k < 0 → parseFieldDescriptor (TJ5 k).2.2.1 = some (tyJ5 k) := by decide +kernel
abbrev cJ5_init_d00df : ByteArray := prog_16_method_2_code
def yJ5_init_d00df : MethodName := ⟨RJ5, "<init>", "(I)V"⟩
abbrev cJ5_length_8abf5 : ByteArray := prog_16_method_6_code
def yJ5_length_8abf5 : MethodName := ⟨RJ5, "length", "()I"⟩
abbrev cJ5_ensureCapacityInternal_d00df : ByteArray := prog_16_method_9_code
def yJ5_ensureCapacityInternal_d00df : MethodName := ⟨RJ5, "ensureCapacityInternal", "(I)V"⟩
abbrev cJ5_newCapacity_0f7a4 : ByteArray := prog_16_method_10_code
def yJ5_newCapacity_0f7a4 : MethodName := ⟨RJ5, "newCapacity", "(I)I"⟩
abbrev cJ5_inflate_da8c8 : ByteArray := prog_16_method_11_code
def yJ5_inflate_da8c8 : MethodName := ⟨RJ5, "inflate", "()V"⟩
abbrev cJ5_append_cf1ce : ByteArray := prog_16_method_22_code
def yJ5_append_cf1ce : MethodName := ⟨RJ5, "append", "(Ljava/lang/String;)Ljava/lang/AbstractStringBuilder;"⟩
abbrev cJ5_appendNull_278bc : ByteArray := prog_16_method_26_code
def yJ5_appendNull_278bc : MethodName := ⟨RJ5, "appendNull", "()Ljava/lang/AbstractStringBuilder;"⟩
abbrev cJ5_append_3fe6f : ByteArray := prog_16_method_31_code
def yJ5_append_3fe6f : MethodName := ⟨RJ5, "append", "(C)Ljava/lang/AbstractStringBuilder;"⟩
abbrev cJ5_append_c97b9 : ByteArray := prog_16_method_32_code
def yJ5_append_c97b9 : MethodName := ⟨RJ5, "append", "(I)Ljava/lang/AbstractStringBuilder;"⟩
abbrev cJ5_getValue_6d5f1 : ByteArray := prog_16_method_64_code
def yJ5_getValue_6d5f1 : MethodName := ⟨RJ5, "getValue", "()[B"⟩
abbrev cJ5_isLatin1_aae02 : ByteArray := prog_16_method_68_code
def yJ5_isLatin1_aae02 : MethodName := ⟨RJ5, "isLatin1", "()Z"⟩
abbrev cJ5_inflateIfNeededFor_a7421 : ByteArray := prog_16_method_71_code
def yJ5_inflateIfNeededFor_a7421 : MethodName := ⟨RJ5, "inflateIfNeededFor", "(Ljava/lang/String;)V"⟩
abbrev cJ5_putStringAt_47b60 : ByteArray := prog_16_method_73_code
def yJ5_putStringAt_47b60 : MethodName := ⟨RJ5, "putStringAt", "(ILjava/lang/String;)V"⟩
def RJx2cfe8 : String := "java/lang/Appendable"
def TJx2cfe8 : u_T := fun k => match k with
  | _ => ("", "", "", false)
def tyJx2cfe8 : Nat → FieldType := fun k => match k with
  | _ => .int
abbrev wsJx2cfe80 : List Cond := u_ws RJx2cfe8 TJx2cfe8 0
theorem nmJx2cfe8 : ∀ a, a < 0 → ∀ b, b < 0 → a ≠ b → (TJx2cfe8 a).2.1 ≠ (TJx2cfe8 b).2.1 := by decide +kernel
theorem tyJx2cfe8_ok : ∀ k, k < 0 → parseFieldDescriptor (TJx2cfe8 k).2.2.1 = some (tyJx2cfe8 k) := by decide +kernel
def RJx9f9b0 : String := "java/lang/CharSequence"
def TJx9f9b0 : u_T := fun k => match k with
  | _ => ("", "", "", false)
def tyJx9f9b0 : Nat → FieldType := fun k => match k with
  | _ => .int
abbrev wsJx9f9b00 : List Cond := u_ws RJx9f9b0 TJx9f9b0 0
theorem nmJx9f9b0 : ∀ a, a < 0 → ∀ b, b < 0 → a ≠ b → (TJx9f9b0 a).2.1 ≠ (TJx9f9b0 b).2.1 := by decide +kernel
theorem tyJx9f9b0_ok : ∀ k, k < 0 → parseFieldDescriptor (TJx9f9b0 k).2.2.1 = some (tyJx9f9b0 k) := by decide +kernel
def RJx8e188 : String := "java/lang/Cloneable"
def TJx8e188 : u_T := fun k => match k with
  | _ => ("", "", "", false)
def tyJx8e188 : Nat → FieldType := fun k => match k with
  | _ => .int
abbrev wsJx8e1880 : List Cond := u_ws RJx8e188 TJx8e188 0
theorem nmJx8e188 : ∀ a, a < 0 → ∀ b, b < 0 → a ≠ b → (TJx8e188 a).2.1 ≠ (TJx8e188 b).2.1 := by decide +kernel
theorem tyJx8e188_ok : ∀ k, k < 0 → parseFieldDescriptor (TJx8e188 k).2.2.1 = some (tyJx8e188 k) := by decide +kernel
def RJxb160c : String := "java/lang/Comparable"
def TJxb160c : u_T := fun k => match k with
  | _ => ("", "", "", false)
def tyJxb160c : Nat → FieldType := fun k => match k with
  | _ => .int
abbrev wsJxb160c0 : List Cond := u_ws RJxb160c TJxb160c 0
theorem nmJxb160c : ∀ a, a < 0 → ∀ b, b < 0 → a ≠ b → (TJxb160c a).2.1 ≠ (TJxb160c b).2.1 := by decide +kernel
theorem tyJxb160c_ok : ∀ k, k < 0 → parseFieldDescriptor (TJxb160c k).2.2.1 = some (tyJxb160c k) := by decide +kernel
def RJ6 : String := "java/lang/Integer"
def TJ6 : u_T := fun k => match k with
  | _ => ("", "", "", false)
def tyJ6 : Nat → FieldType := fun k => match k with
  | _ => .int
abbrev wsJ60 : List Cond := u_ws RJ6 TJ6 0
theorem nmJ6 : ∀ a, a < 0 → ∀ b, b < 0 → a ≠ b → (TJ6 a).2.1 ≠ (TJ6 b).2.1 := by decide +kernel
theorem tyJ6_ok : ∀ k, k < 0 → parseFieldDescriptor (TJ6 k).2.2.1 = some (tyJ6 k) := by decide +kernel
abbrev cJ6_getChars_ba4f3 : ByteArray := prog_22_method_12_code
def yJ6_getChars_ba4f3 : MethodName := ⟨RJ6, "getChars", "(II[B)I"⟩
abbrev cJ6_stringSize_0f7a4 : ByteArray := prog_22_method_13_code
def yJ6_stringSize_0f7a4 : MethodName := ⟨RJ6, "stringSize", "(I)I"⟩
abbrev cJ6_bitCount_0f7a4 : ByteArray := prog_22_method_49_code
def yJ6_bitCount_0f7a4 : MethodName := ⟨RJ6, "bitCount", "(I)I"⟩
def RJ9 : String := "java/lang/Math"
def TJ9 : u_T := fun k => match k with
  | _ => ("", "", "", false)
def tyJ9 : Nat → FieldType := fun k => match k with
  | _ => .int
abbrev wsJ90 : List Cond := u_ws RJ9 TJ9 0
theorem nmJ9 : ∀ a, a < 0 → ∀ b, b < 0 → a ≠ b → (TJ9 a).2.1 ≠ (TJ9 b).2.1 := by decide +kernel
theorem tyJ9_ok : ∀ k, k < 0 → parseFieldDescriptor (TJ9 k).2.2.1 = some (tyJ9 k) := by decide +kernel
abbrev cJ9_max_7cf53 : ByteArray := prog_23_method_65_code
def yJ9_max_7cf53 : MethodName := ⟨RJ9, "max", "(II)I"⟩
abbrev cJ9_min_7cf53 : ByteArray := prog_23_method_69_code
def yJ9_min_7cf53 : MethodName := ⟨RJ9, "min", "(II)I"⟩
abbrev cJ9_min_f86c9 : ByteArray := prog_23_method_70_code
def yJ9_min_f86c9 : MethodName := ⟨RJ9, "min", "(JJ)J"⟩
def RJxd2413 : String := "java/lang/Number"
def TJxd2413 : u_T := fun k => match k with
  | _ => ("", "", "", false)
def tyJxd2413 : Nat → FieldType := fun k => match k with
  | _ => .int
abbrev wsJxd24130 : List Cond := u_ws RJxd2413 TJxd2413 0
theorem nmJxd2413 : ∀ a, a < 0 → ∀ b, b < 0 → a ≠ b → (TJxd2413 a).2.1 ≠ (TJxd2413 b).2.1 := by decide +kernel
theorem tyJxd2413_ok : ∀ k, k < 0 → parseFieldDescriptor (TJxd2413 k).2.2.1 = some (tyJxd2413 k) := by decide +kernel
def RJ0 : String := "java/lang/String"
def TJ0 : u_T := fun k => match k with
  | 0 => ("java/lang/String", "value", "[B", true)
  | 1 => ("java/lang/String", "coder", "B", true)
  | 2 => ("java/lang/String", "hash", "I", false)
  | _ => ("java/lang/String", "hashIsZero", "Z", false)
def tyJ0 : Nat → FieldType := fun k => match k with
  | 0 => .array .byte
  | 1 => .byte
  | 2 => .int
  | _ => .boolean
abbrev wsJ00 : List Cond := u_ws RJ0 TJ0 4
theorem nmJ0 : ∀ a, a < 4 → ∀ b, b < 4 → a ≠ b → (TJ0 a).2.1 ≠ (TJ0 b).2.1 := by decide +kernel
theorem tyJ0_ok : ∀ k, k < 4 → parseFieldDescriptor (TJ0 k).2.2.1 = some (tyJ0 k) := by decide +kernel
abbrev cJ0_init_81219 : ByteArray := prog_26_method_53_code
def yJ0_init_81219 : MethodName := ⟨RJ0, "<init>", "(Ljava/lang/StringBuilder;)V"⟩
abbrev cJ0_length_8abf5 : ByteArray := prog_26_method_54_code
def yJ0_length_8abf5 : MethodName := ⟨RJ0, "length", "()I"⟩
abbrev cJ0_charAt_5068e : ByteArray := prog_26_method_56_code
def yJ0_charAt_5068e : MethodName := ⟨RJ0, "charAt", "(I)C"⟩
abbrev cJ0_getBytes_840e7 : ByteArray := prog_26_method_147_code
def yJ0_getBytes_840e7 : MethodName := ⟨RJ0, "getBytes", "([BIB)V"⟩
abbrev cJ0_init_db425 : ByteArray := prog_26_method_150_code
def yJ0_init_db425 : MethodName := ⟨RJ0, "<init>", "(Ljava/lang/AbstractStringBuilder;Ljava/lang/Void;)V"⟩
abbrev cJ0_coder_7d493 : ByteArray := prog_26_method_152_code
def yJ0_coder_7d493 : MethodName := ⟨RJ0, "coder", "()B"⟩
abbrev cJ0_isLatin1_aae02 : ByteArray := prog_26_method_154_code
def yJ0_isLatin1_aae02 : MethodName := ⟨RJ0, "isLatin1", "()Z"⟩
abbrev cJ0_checkIndex_df160 : ByteArray := prog_26_method_155_code
def yJ0_checkIndex_df160 : MethodName := ⟨RJ0, "checkIndex", "(II)V"⟩
abbrev cJ0_checkBoundsOffCount_cabcc : ByteArray := prog_26_method_157_code
def yJ0_checkBoundsOffCount_cabcc : MethodName := ⟨RJ0, "checkBoundsOffCount", "(III)I"⟩
abbrev cJ0_checkBoundsBeginEnd_23922 : ByteArray := prog_26_method_158_code
def yJ0_checkBoundsBeginEnd_23922 : MethodName := ⟨RJ0, "checkBoundsBeginEnd", "(III)V"⟩
def RJ4 : String := "java/lang/StringBuilder"
def TJ4 : u_T := fun k => match k with
  | 0 => ("java/lang/AbstractStringBuilder", "value", "[B", false)
  | 1 => ("java/lang/AbstractStringBuilder", "coder", "B", false)
  | 2 => ("java/lang/AbstractStringBuilder", "maybeLatin1", "Z", false)
  | _ => ("java/lang/AbstractStringBuilder", "count", "I", false)
def tyJ4 : Nat → FieldType := fun k => match k with
  | 0 => .array .byte
  | 1 => .byte
  | 2 => .boolean
  | _ => .int
abbrev wsJ40 : List Cond := u_ws RJ4 TJ4 4
theorem nmJ4 : ∀ a, a < 4 → ∀ b, b < 4 → a ≠ b → (TJ4 a).2.1 ≠ (TJ4 b).2.1 := by decide +kernel
theorem tyJ4_ok : ∀ k, k < 4 → parseFieldDescriptor (TJ4 k).2.2.1 = some (tyJ4 k) := by decide +kernel
abbrev cJ4_init_da8c8 : ByteArray := prog_27_method_1_code
def yJ4_init_da8c8 : MethodName := ⟨RJ4, "<init>", "()V"⟩
abbrev cJ4_append_15ec4 : ByteArray := prog_27_method_7_code
def yJ4_append_15ec4 : MethodName := ⟨RJ4, "append", "(Ljava/lang/String;)Ljava/lang/StringBuilder;"⟩
abbrev cJ4_append_cf468 : ByteArray := prog_27_method_14_code
def yJ4_append_cf468 : MethodName := ⟨RJ4, "append", "(C)Ljava/lang/StringBuilder;"⟩
abbrev cJ4_append_bf812 : ByteArray := prog_27_method_15_code
def yJ4_append_bf812 : MethodName := ⟨RJ4, "append", "(I)Ljava/lang/StringBuilder;"⟩
abbrev cJ4_toString_0e30d : ByteArray := prog_27_method_42_code
def yJ4_toString_0e30d : MethodName := ⟨RJ4, "toString", "()Ljava/lang/String;"⟩
abbrev cJ4_length_8abf5 : ByteArray := prog_27_method_93_code
def yJ4_length_8abf5 : MethodName := ⟨RJ4, "length", "()I"⟩
def RJ1 : String := "java/lang/StringLatin1"
def TJ1 : u_T := fun k => match k with
  | _ => ("", "", "", false)
def tyJ1 : Nat → FieldType := fun k => match k with
  | _ => .int
abbrev wsJ10 : List Cond := u_ws RJ1 TJ1 0
theorem nmJ1 : ∀ a, a < 0 → ∀ b, b < 0 → a ≠ b → (TJ1 a).2.1 ≠ (TJ1 b).2.1 := by decide +kernel
theorem tyJ1_ok : ∀ k, k < 0 → parseFieldDescriptor (TJ1 k).2.2.1 = some (tyJ1 k) := by decide +kernel
abbrev cJ1_charAt_3b067 : ByteArray := prog_28_method_2_code
def yJ1_charAt_3b067 : MethodName := ⟨RJ1, "charAt", "([BI)C"⟩
abbrev cJ1_canEncode_fc78d : ByteArray := prog_28_method_3_code
def yJ1_canEncode_fc78d : MethodName := ⟨RJ1, "canEncode", "(C)Z"⟩
abbrev cJ1_inflate_0e8fd : ByteArray := prog_28_method_50_code
def yJ1_inflate_0e8fd : MethodName := ⟨RJ1, "inflate", "([BI[BII)V"⟩
def RJ2 : String := "java/lang/StringUTF16"
def TJ2 : u_T := fun k => match k with
  | _ => ("", "", "", false)
def tyJ2 : Nat → FieldType := fun k => match k with
  | _ => .int
abbrev wsJ20 : List Cond := u_ws RJ2 TJ2 0
theorem nmJ2 : ∀ a, a < 0 → ∀ b, b < 0 → a ≠ b → (TJ2 a).2.1 ≠ (TJ2 b).2.1 := by decide +kernel
theorem tyJ2_ok : ∀ k, k < 0 → parseFieldDescriptor (TJ2 k).2.2.1 = some (tyJ2 k) := by decide +kernel
abbrev cJ2_newBytesFor_77867 : ByteArray := prog_29_method_2_code
def yJ2_newBytesFor_77867 : MethodName := ⟨RJ2, "newBytesFor", "(I)[B"⟩
abbrev cJ2_newBytesLength_0f7a4 : ByteArray := prog_29_method_3_code
def yJ2_newBytesLength_0f7a4 : MethodName := ⟨RJ2, "newBytesLength", "(I)I"⟩
abbrev cJ2_putChar_b72d1 : ByteArray := prog_29_method_4_code
def yJ2_putChar_b72d1 : MethodName := ⟨RJ2, "putChar", "([BII)V"⟩
abbrev cJ2_getChar_3b067 : ByteArray := prog_29_method_5_code
def yJ2_getChar_3b067 : MethodName := ⟨RJ2, "getChar", "([BI)C"⟩
abbrev cJ2_length_9d52b : ByteArray := prog_29_method_6_code
def yJ2_length_9d52b : MethodName := ⟨RJ2, "length", "([B)I"⟩
abbrev cJ2_coderFromArrayLen_85cad : ByteArray := prog_29_method_15_code
def yJ2_coderFromArrayLen_85cad : MethodName := ⟨RJ2, "coderFromArrayLen", "([BI)B"⟩
abbrev cJ2_compress_39247 : ByteArray := prog_29_method_17_code
def yJ2_compress_39247 : MethodName := ⟨RJ2, "compress", "([BII)[B"⟩
abbrev cJ2_compress_5af95 : ByteArray := prog_29_method_22_code
def yJ2_compress_5af95 : MethodName := ⟨RJ2, "compress", "([BI[BII)I"⟩
abbrev cJ2_putCharSB_b72d1 : ByteArray := prog_29_method_71_code
def yJ2_putCharSB_b72d1 : MethodName := ⟨RJ2, "putCharSB", "([BII)V"⟩
abbrev cJ2_getChars_46870 : ByteArray := prog_29_method_77_code
def yJ2_getChars_46870 : MethodName := ⟨RJ2, "getChars", "(III[B)I"⟩
abbrev cJ2_putCharsAt_cd4e5 : ByteArray := prog_29_method_81_code
def yJ2_putCharsAt_cd4e5 : MethodName := ⟨RJ2, "putCharsAt", "([BICCCC)I"⟩
abbrev cJ2_charAt_3b067 : ByteArray := prog_29_method_83_code
def yJ2_charAt_3b067 : MethodName := ⟨RJ2, "charAt", "([BI)C"⟩
abbrev cJ2_inflate_0e8fd : ByteArray := prog_29_method_86_code
def yJ2_inflate_0e8fd : MethodName := ⟨RJ2, "inflate", "([BI[BII)V"⟩
abbrev cJ2_getChars_ba4f3 : ByteArray := prog_29_method_89_code
def yJ2_getChars_ba4f3 : MethodName := ⟨RJ2, "getChars", "(II[B)I"⟩
abbrev cJ2_checkIndex_2214a : ByteArray := prog_29_method_91_code
def yJ2_checkIndex_2214a : MethodName := ⟨RJ2, "checkIndex", "(I[B)V"⟩
abbrev cJ2_checkBoundsBeginEnd_d044e : ByteArray := prog_29_method_93_code
def yJ2_checkBoundsBeginEnd_d044e : MethodName := ⟨RJ2, "checkBoundsBeginEnd", "(II[B)V"⟩
abbrev cJ2_checkBoundsOffCount_d044e : ByteArray := prog_29_method_94_code
def yJ2_checkBoundsOffCount_d044e : MethodName := ⟨RJ2, "checkBoundsOffCount", "(II[B)V"⟩
def RJ10 : String := "java/lang/System"
def TJ10 : u_T := fun k => match k with
  | _ => ("", "", "", false)
def tyJ10 : Nat → FieldType := fun k => match k with
  | _ => .int
abbrev wsJ100 : List Cond := u_ws RJ10 TJ10 0
theorem nmJ10 : ∀ a, a < 0 → ∀ b, b < 0 → a ≠ b → (TJ10 a).2.1 ≠ (TJ10 b).2.1 := by decide +kernel
theorem tyJ10_ok : ∀ k, k < 0 → parseFieldDescriptor (TJ10 k).2.2.1 = some (tyJ10 k) := by decide +kernel
def RJxfd54e : String := "java/lang/constant/Constable"
def TJxfd54e : u_T := fun k => match k with
  | _ => ("", "", "", false)
def tyJxfd54e : Nat → FieldType := fun k => match k with
  | _ => .int
abbrev wsJxfd54e0 : List Cond := u_ws RJxfd54e TJxfd54e 0
theorem nmJxfd54e : ∀ a, a < 0 → ∀ b, b < 0 → a ≠ b → (TJxfd54e a).2.1 ≠ (TJxfd54e b).2.1 := by decide +kernel
theorem tyJxfd54e_ok : ∀ k, k < 0 → parseFieldDescriptor (TJxfd54e k).2.2.1 = some (tyJxfd54e k) := by decide +kernel
def RJx3cf43 : String := "java/lang/constant/ConstantDesc"
def TJx3cf43 : u_T := fun k => match k with
  | _ => ("", "", "", false)
def tyJx3cf43 : Nat → FieldType := fun k => match k with
  | _ => .int
abbrev wsJx3cf430 : List Cond := u_ws RJx3cf43 TJx3cf43 0
theorem nmJx3cf43 : ∀ a, a < 0 → ∀ b, b < 0 → a ≠ b → (TJx3cf43 a).2.1 ≠ (TJx3cf43 b).2.1 := by decide +kernel
theorem tyJx3cf43_ok : ∀ k, k < 0 → parseFieldDescriptor (TJx3cf43 k).2.2.1 = some (tyJx3cf43 k) := by decide +kernel
def RJ7 : String := "java/util/Arrays"
def TJ7 : u_T := fun k => match k with
  | _ => ("", "", "", false)
def tyJ7 : Nat → FieldType := fun k => match k with
  | _ => .int
abbrev wsJ70 : List Cond := u_ws RJ7 TJ7 0
theorem nmJ7 : ∀ a, a < 0 → ∀ b, b < 0 → a ≠ b → (TJ7 a).2.1 ≠ (TJ7 b).2.1 := by decide +kernel
theorem tyJ7_ok : ∀ k, k < 0 → parseFieldDescriptor (TJ7 k).2.2.1 = some (tyJ7 k) := by decide +kernel
abbrev cJ7_fill_d0a16 : ByteArray := prog_34_method_101_code
def yJ7_fill_d0a16 : MethodName := ⟨RJ7, "fill", "([JJ)V"⟩
abbrev cJ7_fill_53178 : ByteArray := prog_34_method_103_code
def yJ7_fill_53178 : MethodName := ⟨RJ7, "fill", "([II)V"⟩
abbrev cJ7_copyOf_9075b : ByteArray := prog_34_method_121_code
def yJ7_copyOf_9075b : MethodName := ⟨RJ7, "copyOf", "([BI)[B"⟩
abbrev cJ7_checkLength_df160 : ByteArray := prog_34_method_131_code
def yJ7_checkLength_df160 : MethodName := ⟨RJ7, "checkLength", "(II)V"⟩
abbrev cJ7_copyOfRange_39247 : ByteArray := prog_34_method_132_code
def yJ7_copyOfRange_39247 : MethodName := ⟨RJ7, "copyOfRange", "([BII)[B"⟩
abbrev cJ7_copyOfRangeByte_39247 : ByteArray := prog_34_method_133_code
def yJ7_copyOfRangeByte_39247 : MethodName := ⟨RJ7, "copyOfRangeByte", "([BII)[B"⟩
def RJ8 : String := "jdk/internal/util/ArraysSupport"
def TJ8 : u_T := fun k => match k with
  | _ => ("", "", "", false)
def tyJ8 : Nat → FieldType := fun k => match k with
  | _ => .int
abbrev wsJ80 : List Cond := u_ws RJ8 TJ8 0
theorem nmJ8 : ∀ a, a < 0 → ∀ b, b < 0 → a ≠ b → (TJ8 a).2.1 ≠ (TJ8 b).2.1 := by decide +kernel
theorem tyJ8_ok : ∀ k, k < 0 → parseFieldDescriptor (TJ8 k).2.2.1 = some (tyJ8 k) := by decide +kernel
abbrev cJ8_newLength_cabcc : ByteArray := prog_36_method_27_code
def yJ8_newLength_cabcc : MethodName := ⟨RJ8, "newLength", "(III)I"⟩
abbrev cJ8_hugeLength_7cf53 : ByteArray := prog_36_method_28_code
def yJ8_hugeLength_7cf53 : MethodName := ⟨RJ8, "hugeLength", "(II)I"⟩
def RJ3 : String := "jdk/internal/util/Preconditions"
def TJ3 : u_T := fun k => match k with
  | _ => ("", "", "", false)
def tyJ3 : Nat → FieldType := fun k => match k with
  | _ => .int
abbrev wsJ30 : List Cond := u_ws RJ3 TJ3 0
theorem nmJ3 : ∀ a, a < 0 → ∀ b, b < 0 → a ≠ b → (TJ3 a).2.1 ≠ (TJ3 b).2.1 := by decide +kernel
theorem tyJ3_ok : ∀ k, k < 0 → parseFieldDescriptor (TJ3 k).2.2.1 = some (tyJ3 k) := by decide +kernel
abbrev cJ3_checkIndex_8e157 : ByteArray := prog_37_method_11_code
def yJ3_checkIndex_8e157 : MethodName := ⟨RJ3, "checkIndex", "(IILjava/util/function/BiFunction;)I"⟩
abbrev cJ3_checkFromToIndex_8c36e : ByteArray := prog_37_method_12_code
def yJ3_checkFromToIndex_8c36e : MethodName := ⟨RJ3, "checkFromToIndex", "(IIILjava/util/function/BiFunction;)I"⟩
abbrev cJ3_checkFromIndexSize_8c36e : ByteArray := prog_37_method_13_code
def yJ3_checkFromIndexSize_8c36e : MethodName := ⟨RJ3, "checkFromIndexSize", "(IIILjava/util/function/BiFunction;)I"⟩
def RL : String := "SheSaysLaw"
abbrev cL_cell : ByteArray := method_2_code
def yL_cell : MethodName := ⟨RL, "cell", "([II)I"⟩
abbrev cL_pick : ByteArray := method_3_code
def yL_pick : MethodName := ⟨RL, "pick", "([III)I"⟩
abbrev cL_tell : ByteArray := method_4_code
def yL_tell : MethodName := ⟨RL, "tell", "(LSheSays;Ljava/lang/String;)Z"⟩
abbrev cL_speech : ByteArray := method_5_code
def yL_speech : MethodName := ⟨RL, "speech", "(LSheSays;II)I"⟩
abbrev cL_book : ByteArray := method_6_code
def yL_book : MethodName := ⟨RL, "book", "([III[[I)Ljava/lang/String;"⟩
abbrev cL_law : ByteArray := code
def yL_law : MethodName := ⟨RL, "law", "([I)Z"⟩
abbrev vwCl : List vw_C := [(RX0, TX0, 8), (RX1, TX1, 11), (RX2, TX2, 4), (RX3, TX3, 3), (RX4, TX4, 5), (RX5, TX5, 13), (RX6, TX6, 7), (RX7, TX7, 10), (RX8, TX8, 13), (RX9, TX9, 3), (RX11, TX11, 13), (RJ0, TJ0, 4), (RJ4, TJ4, 4)]
end
section
/-! the cells behind the constructor, by their places, and the references in them that never change -/
def mSH : List (Nat × Nat) := [(10, 13), (9, 3), (20, 160), (0, 8), (20, 24), (20, 24), (20, 24), (22, 24), (3, 3), (20, 160), (23, 4), (2, 4), (20, 160), (20, 64), (2, 4), (20, 160), (20, 64), (2, 4), (20, 160), (20, 64), (2, 4), (20, 160), (20, 64), (8, 13), (20, 24), (20, 24), (20, 24), (20, 24), (20, 24), (20, 24), (20, 24), (20, 24), (20, 24), (20, 8), (20, 256), (4, 5), (20, 8), (20, 8), (20, 24), (24, 7), (21, 25), (21, 25), (21, 25), (21, 25), (21, 25), (21, 25), (21, 25), (6, 7), (20, 24), (20, 24), (1, 11), (20, 200), (5, 13), (20, 200), (20, 24), (5, 13), (20, 200), (20, 24), (7, 10), (20, 24), (20, 24), (21, 24), (21, 24), (21, 24), (21, 24)]
def mFixL : List (Nat × Int × Int) := [(0, 0, 1), (0, 1, 3), (0, 2, 8), (0, 3, 10), (0, 4, 23), (0, 5, 35), (0, 6, 47), (0, 7, 50), (0, 8, 52), (0, 9, 55), (0, 10, 58), (1, 0, 2), (3, 0, 1), (3, 1, 4), (3, 2, 5), (3, 3, 6), (3, 4, 7), (8, 0, 1), (8, 1, 9), (10, 0, 11), (10, 1, 14), (10, 2, 17), (10, 3, 20), (11, 0, 12), (11, 2, 13), (14, 0, 15), (14, 2, 16), (17, 0, 18), (17, 2, 19), (20, 0, 21), (20, 2, 22), (23, 2, 24), (23, 3, 25), (23, 4, 26), (23, 5, 27), (23, 6, 28), (23, 7, 29), (23, 8, 30), (23, 9, 31), (23, 10, 32), (23, 11, 33), (23, 12, 34), (35, 0, 23), (35, 1, 36), (35, 2, 37), (35, 3, 38), (35, 4, 39), (39, 0, 40), (39, 1, 41), (39, 2, 42), (39, 3, 43), (39, 4, 44), (39, 5, 45), (39, 6, 46), (47, 3, 48), (47, 6, 49), (50, 0, 23), (50, 1, 35), (50, 2, 51), (52, 0, 23), (52, 1, 35), (52, 2, 53), (52, 12, 54), (55, 0, 23), (55, 1, 35), (55, 2, 56), (55, 12, 57), (58, 0, 23), (58, 1, 35), (58, 2, 59), (58, 3, 60), (58, 6, 63), (58, 7, 64)]
def mFix (mem : Nat → Int → Int) : Prop := ∀ q ∈ mFixL, mem q.1 q.2.1 = q.2.2
def fixOK (a : Nat) (k : Int) : Bool := mFixL.all fun q => !(q.1 == a && q.2.1 == k)
def fixRow (a : Nat) : Bool := mFixL.all fun q => !(q.1 == a)
theorem sh_0 : mSH[0]? = some (10, 13) := rfl
theorem sh_1 : mSH[1]? = some (9, 3) := rfl
theorem sh_2 : mSH[2]? = some (20, 160) := rfl
theorem sh_3 : mSH[3]? = some (0, 8) := rfl
theorem sh_4 : mSH[4]? = some (20, 24) := rfl
theorem sh_5 : mSH[5]? = some (20, 24) := rfl
theorem sh_6 : mSH[6]? = some (20, 24) := rfl
theorem sh_7 : mSH[7]? = some (22, 24) := rfl
theorem sh_8 : mSH[8]? = some (3, 3) := rfl
theorem sh_9 : mSH[9]? = some (20, 160) := rfl
theorem sh_10 : mSH[10]? = some (23, 4) := rfl
theorem sh_11 : mSH[11]? = some (2, 4) := rfl
theorem sh_12 : mSH[12]? = some (20, 160) := rfl
theorem sh_13 : mSH[13]? = some (20, 64) := rfl
theorem sh_14 : mSH[14]? = some (2, 4) := rfl
theorem sh_15 : mSH[15]? = some (20, 160) := rfl
theorem sh_16 : mSH[16]? = some (20, 64) := rfl
theorem sh_17 : mSH[17]? = some (2, 4) := rfl
theorem sh_18 : mSH[18]? = some (20, 160) := rfl
theorem sh_19 : mSH[19]? = some (20, 64) := rfl
theorem sh_20 : mSH[20]? = some (2, 4) := rfl
theorem sh_21 : mSH[21]? = some (20, 160) := rfl
theorem sh_22 : mSH[22]? = some (20, 64) := rfl
theorem sh_23 : mSH[23]? = some (8, 13) := rfl
theorem sh_24 : mSH[24]? = some (20, 24) := rfl
theorem sh_25 : mSH[25]? = some (20, 24) := rfl
theorem sh_26 : mSH[26]? = some (20, 24) := rfl
theorem sh_27 : mSH[27]? = some (20, 24) := rfl
theorem sh_28 : mSH[28]? = some (20, 24) := rfl
theorem sh_29 : mSH[29]? = some (20, 24) := rfl
theorem sh_30 : mSH[30]? = some (20, 24) := rfl
theorem sh_31 : mSH[31]? = some (20, 24) := rfl
theorem sh_32 : mSH[32]? = some (20, 24) := rfl
theorem sh_33 : mSH[33]? = some (20, 8) := rfl
theorem sh_34 : mSH[34]? = some (20, 256) := rfl
theorem sh_35 : mSH[35]? = some (4, 5) := rfl
theorem sh_36 : mSH[36]? = some (20, 8) := rfl
theorem sh_37 : mSH[37]? = some (20, 8) := rfl
theorem sh_38 : mSH[38]? = some (20, 24) := rfl
theorem sh_39 : mSH[39]? = some (24, 7) := rfl
theorem sh_40 : mSH[40]? = some (21, 25) := rfl
theorem sh_41 : mSH[41]? = some (21, 25) := rfl
theorem sh_42 : mSH[42]? = some (21, 25) := rfl
theorem sh_43 : mSH[43]? = some (21, 25) := rfl
theorem sh_44 : mSH[44]? = some (21, 25) := rfl
theorem sh_45 : mSH[45]? = some (21, 25) := rfl
theorem sh_46 : mSH[46]? = some (21, 25) := rfl
theorem sh_47 : mSH[47]? = some (6, 7) := rfl
theorem sh_48 : mSH[48]? = some (20, 24) := rfl
theorem sh_49 : mSH[49]? = some (20, 24) := rfl
theorem sh_50 : mSH[50]? = some (1, 11) := rfl
theorem sh_51 : mSH[51]? = some (20, 200) := rfl
theorem sh_52 : mSH[52]? = some (5, 13) := rfl
theorem sh_53 : mSH[53]? = some (20, 200) := rfl
theorem sh_54 : mSH[54]? = some (20, 24) := rfl
theorem sh_55 : mSH[55]? = some (5, 13) := rfl
theorem sh_56 : mSH[56]? = some (20, 200) := rfl
theorem sh_57 : mSH[57]? = some (20, 24) := rfl
theorem sh_58 : mSH[58]? = some (7, 10) := rfl
theorem sh_59 : mSH[59]? = some (20, 24) := rfl
theorem sh_60 : mSH[60]? = some (20, 24) := rfl
theorem sh_61 : mSH[61]? = some (21, 24) := rfl
theorem sh_62 : mSH[62]? = some (21, 24) := rfl
theorem sh_63 : mSH[63]? = some (21, 24) := rfl
theorem sh_64 : mSH[64]? = some (21, 24) := rfl
theorem fx_0_0 : ((0, 0, 1) : Nat × Int × Int) ∈ mFixL := by decide +kernel
theorem fx_0_1 : ((0, 1, 3) : Nat × Int × Int) ∈ mFixL := by decide +kernel
theorem fx_0_2 : ((0, 2, 8) : Nat × Int × Int) ∈ mFixL := by decide +kernel
theorem fx_0_3 : ((0, 3, 10) : Nat × Int × Int) ∈ mFixL := by decide +kernel
theorem fx_0_4 : ((0, 4, 23) : Nat × Int × Int) ∈ mFixL := by decide +kernel
theorem fx_0_5 : ((0, 5, 35) : Nat × Int × Int) ∈ mFixL := by decide +kernel
theorem fx_0_6 : ((0, 6, 47) : Nat × Int × Int) ∈ mFixL := by decide +kernel
theorem fx_0_7 : ((0, 7, 50) : Nat × Int × Int) ∈ mFixL := by decide +kernel
theorem fx_0_8 : ((0, 8, 52) : Nat × Int × Int) ∈ mFixL := by decide +kernel
theorem fx_0_9 : ((0, 9, 55) : Nat × Int × Int) ∈ mFixL := by decide +kernel
theorem fx_0_10 : ((0, 10, 58) : Nat × Int × Int) ∈ mFixL := by decide +kernel
theorem fx_1_0 : ((1, 0, 2) : Nat × Int × Int) ∈ mFixL := by decide +kernel
theorem fx_3_0 : ((3, 0, 1) : Nat × Int × Int) ∈ mFixL := by decide +kernel
theorem fx_3_1 : ((3, 1, 4) : Nat × Int × Int) ∈ mFixL := by decide +kernel
theorem fx_3_2 : ((3, 2, 5) : Nat × Int × Int) ∈ mFixL := by decide +kernel
theorem fx_3_3 : ((3, 3, 6) : Nat × Int × Int) ∈ mFixL := by decide +kernel
theorem fx_3_4 : ((3, 4, 7) : Nat × Int × Int) ∈ mFixL := by decide +kernel
theorem fx_8_0 : ((8, 0, 1) : Nat × Int × Int) ∈ mFixL := by decide +kernel
theorem fx_8_1 : ((8, 1, 9) : Nat × Int × Int) ∈ mFixL := by decide +kernel
theorem fx_10_0 : ((10, 0, 11) : Nat × Int × Int) ∈ mFixL := by decide +kernel
theorem fx_10_1 : ((10, 1, 14) : Nat × Int × Int) ∈ mFixL := by decide +kernel
theorem fx_10_2 : ((10, 2, 17) : Nat × Int × Int) ∈ mFixL := by decide +kernel
theorem fx_10_3 : ((10, 3, 20) : Nat × Int × Int) ∈ mFixL := by decide +kernel
theorem fx_11_0 : ((11, 0, 12) : Nat × Int × Int) ∈ mFixL := by decide +kernel
theorem fx_11_2 : ((11, 2, 13) : Nat × Int × Int) ∈ mFixL := by decide +kernel
theorem fx_14_0 : ((14, 0, 15) : Nat × Int × Int) ∈ mFixL := by decide +kernel
theorem fx_14_2 : ((14, 2, 16) : Nat × Int × Int) ∈ mFixL := by decide +kernel
theorem fx_17_0 : ((17, 0, 18) : Nat × Int × Int) ∈ mFixL := by decide +kernel
theorem fx_17_2 : ((17, 2, 19) : Nat × Int × Int) ∈ mFixL := by decide +kernel
theorem fx_20_0 : ((20, 0, 21) : Nat × Int × Int) ∈ mFixL := by decide +kernel
theorem fx_20_2 : ((20, 2, 22) : Nat × Int × Int) ∈ mFixL := by decide +kernel
theorem fx_23_2 : ((23, 2, 24) : Nat × Int × Int) ∈ mFixL := by decide +kernel
theorem fx_23_3 : ((23, 3, 25) : Nat × Int × Int) ∈ mFixL := by decide +kernel
theorem fx_23_4 : ((23, 4, 26) : Nat × Int × Int) ∈ mFixL := by decide +kernel
theorem fx_23_5 : ((23, 5, 27) : Nat × Int × Int) ∈ mFixL := by decide +kernel
theorem fx_23_6 : ((23, 6, 28) : Nat × Int × Int) ∈ mFixL := by decide +kernel
theorem fx_23_7 : ((23, 7, 29) : Nat × Int × Int) ∈ mFixL := by decide +kernel
theorem fx_23_8 : ((23, 8, 30) : Nat × Int × Int) ∈ mFixL := by decide +kernel
theorem fx_23_9 : ((23, 9, 31) : Nat × Int × Int) ∈ mFixL := by decide +kernel
theorem fx_23_10 : ((23, 10, 32) : Nat × Int × Int) ∈ mFixL := by decide +kernel
theorem fx_23_11 : ((23, 11, 33) : Nat × Int × Int) ∈ mFixL := by decide +kernel
theorem fx_23_12 : ((23, 12, 34) : Nat × Int × Int) ∈ mFixL := by decide +kernel
theorem fx_35_0 : ((35, 0, 23) : Nat × Int × Int) ∈ mFixL := by decide +kernel
theorem fx_35_1 : ((35, 1, 36) : Nat × Int × Int) ∈ mFixL := by decide +kernel
theorem fx_35_2 : ((35, 2, 37) : Nat × Int × Int) ∈ mFixL := by decide +kernel
theorem fx_35_3 : ((35, 3, 38) : Nat × Int × Int) ∈ mFixL := by decide +kernel
theorem fx_35_4 : ((35, 4, 39) : Nat × Int × Int) ∈ mFixL := by decide +kernel
theorem fx_39_0 : ((39, 0, 40) : Nat × Int × Int) ∈ mFixL := by decide +kernel
theorem fx_39_1 : ((39, 1, 41) : Nat × Int × Int) ∈ mFixL := by decide +kernel
theorem fx_39_2 : ((39, 2, 42) : Nat × Int × Int) ∈ mFixL := by decide +kernel
theorem fx_39_3 : ((39, 3, 43) : Nat × Int × Int) ∈ mFixL := by decide +kernel
theorem fx_39_4 : ((39, 4, 44) : Nat × Int × Int) ∈ mFixL := by decide +kernel
theorem fx_39_5 : ((39, 5, 45) : Nat × Int × Int) ∈ mFixL := by decide +kernel
theorem fx_39_6 : ((39, 6, 46) : Nat × Int × Int) ∈ mFixL := by decide +kernel
theorem fx_47_3 : ((47, 3, 48) : Nat × Int × Int) ∈ mFixL := by decide +kernel
theorem fx_47_6 : ((47, 6, 49) : Nat × Int × Int) ∈ mFixL := by decide +kernel
theorem fx_50_0 : ((50, 0, 23) : Nat × Int × Int) ∈ mFixL := by decide +kernel
theorem fx_50_1 : ((50, 1, 35) : Nat × Int × Int) ∈ mFixL := by decide +kernel
theorem fx_50_2 : ((50, 2, 51) : Nat × Int × Int) ∈ mFixL := by decide +kernel
theorem fx_52_0 : ((52, 0, 23) : Nat × Int × Int) ∈ mFixL := by decide +kernel
theorem fx_52_1 : ((52, 1, 35) : Nat × Int × Int) ∈ mFixL := by decide +kernel
theorem fx_52_2 : ((52, 2, 53) : Nat × Int × Int) ∈ mFixL := by decide +kernel
theorem fx_52_12 : ((52, 12, 54) : Nat × Int × Int) ∈ mFixL := by decide +kernel
theorem fx_55_0 : ((55, 0, 23) : Nat × Int × Int) ∈ mFixL := by decide +kernel
theorem fx_55_1 : ((55, 1, 35) : Nat × Int × Int) ∈ mFixL := by decide +kernel
theorem fx_55_2 : ((55, 2, 56) : Nat × Int × Int) ∈ mFixL := by decide +kernel
theorem fx_55_12 : ((55, 12, 57) : Nat × Int × Int) ∈ mFixL := by decide +kernel
theorem fx_58_0 : ((58, 0, 23) : Nat × Int × Int) ∈ mFixL := by decide +kernel
theorem fx_58_1 : ((58, 1, 35) : Nat × Int × Int) ∈ mFixL := by decide +kernel
theorem fx_58_2 : ((58, 2, 59) : Nat × Int × Int) ∈ mFixL := by decide +kernel
theorem fx_58_3 : ((58, 3, 60) : Nat × Int × Int) ∈ mFixL := by decide +kernel
theorem fx_58_6 : ((58, 6, 63) : Nat × Int × Int) ∈ mFixL := by decide +kernel
theorem fx_58_7 : ((58, 7, 64) : Nat × Int × Int) ∈ mFixL := by decide +kernel
theorem fr_2 : fixRow 2 = true := by decide +kernel
theorem fr_4 : fixRow 4 = true := by decide +kernel
theorem fr_5 : fixRow 5 = true := by decide +kernel
theorem fr_6 : fixRow 6 = true := by decide +kernel
theorem fr_7 : fixRow 7 = true := by decide +kernel
theorem fr_9 : fixRow 9 = true := by decide +kernel
theorem fr_12 : fixRow 12 = true := by decide +kernel
theorem fr_13 : fixRow 13 = true := by decide +kernel
theorem fr_15 : fixRow 15 = true := by decide +kernel
theorem fr_16 : fixRow 16 = true := by decide +kernel
theorem fr_18 : fixRow 18 = true := by decide +kernel
theorem fr_19 : fixRow 19 = true := by decide +kernel
theorem fr_21 : fixRow 21 = true := by decide +kernel
theorem fr_22 : fixRow 22 = true := by decide +kernel
theorem fr_24 : fixRow 24 = true := by decide +kernel
theorem fr_25 : fixRow 25 = true := by decide +kernel
theorem fr_26 : fixRow 26 = true := by decide +kernel
theorem fr_27 : fixRow 27 = true := by decide +kernel
theorem fr_28 : fixRow 28 = true := by decide +kernel
theorem fr_29 : fixRow 29 = true := by decide +kernel
theorem fr_30 : fixRow 30 = true := by decide +kernel
theorem fr_31 : fixRow 31 = true := by decide +kernel
theorem fr_32 : fixRow 32 = true := by decide +kernel
theorem fr_33 : fixRow 33 = true := by decide +kernel
theorem fr_34 : fixRow 34 = true := by decide +kernel
theorem fr_36 : fixRow 36 = true := by decide +kernel
theorem fr_37 : fixRow 37 = true := by decide +kernel
theorem fr_38 : fixRow 38 = true := by decide +kernel
theorem fr_40 : fixRow 40 = true := by decide +kernel
theorem fr_41 : fixRow 41 = true := by decide +kernel
theorem fr_42 : fixRow 42 = true := by decide +kernel
theorem fr_43 : fixRow 43 = true := by decide +kernel
theorem fr_44 : fixRow 44 = true := by decide +kernel
theorem fr_45 : fixRow 45 = true := by decide +kernel
theorem fr_46 : fixRow 46 = true := by decide +kernel
theorem fr_48 : fixRow 48 = true := by decide +kernel
theorem fr_49 : fixRow 49 = true := by decide +kernel
theorem fr_51 : fixRow 51 = true := by decide +kernel
theorem fr_53 : fixRow 53 = true := by decide +kernel
theorem fr_54 : fixRow 54 = true := by decide +kernel
theorem fr_56 : fixRow 56 = true := by decide +kernel
theorem fr_57 : fixRow 57 = true := by decide +kernel
theorem fr_59 : fixRow 59 = true := by decide +kernel
theorem fr_60 : fixRow 60 = true := by decide +kernel
theorem fr_61 : fixRow 61 = true := by decide +kernel
theorem fr_62 : fixRow 62 = true := by decide +kernel
theorem fr_63 : fixRow 63 = true := by decide +kernel
theorem fr_64 : fixRow 64 = true := by decide +kernel
theorem fo_0_11 : fixOK 0 11 = true := by decide +kernel
theorem fo_0_12 : fixOK 0 12 = true := by decide +kernel
theorem fo_1_1 : fixOK 1 1 = true := by decide +kernel
theorem fo_1_2 : fixOK 1 2 = true := by decide +kernel
theorem fo_3_5 : fixOK 3 5 = true := by decide +kernel
theorem fo_3_6 : fixOK 3 6 = true := by decide +kernel
theorem fo_3_7 : fixOK 3 7 = true := by decide +kernel
theorem fo_8_2 : fixOK 8 2 = true := by decide +kernel
theorem fo_11_1 : fixOK 11 1 = true := by decide +kernel
theorem fo_11_3 : fixOK 11 3 = true := by decide +kernel
theorem fo_14_1 : fixOK 14 1 = true := by decide +kernel
theorem fo_14_3 : fixOK 14 3 = true := by decide +kernel
theorem fo_17_1 : fixOK 17 1 = true := by decide +kernel
theorem fo_17_3 : fixOK 17 3 = true := by decide +kernel
theorem fo_20_1 : fixOK 20 1 = true := by decide +kernel
theorem fo_20_3 : fixOK 20 3 = true := by decide +kernel
theorem fo_23_0 : fixOK 23 0 = true := by decide +kernel
theorem fo_23_1 : fixOK 23 1 = true := by decide +kernel
theorem fo_47_0 : fixOK 47 0 = true := by decide +kernel
theorem fo_47_1 : fixOK 47 1 = true := by decide +kernel
theorem fo_47_2 : fixOK 47 2 = true := by decide +kernel
theorem fo_47_4 : fixOK 47 4 = true := by decide +kernel
theorem fo_47_5 : fixOK 47 5 = true := by decide +kernel
theorem fo_50_3 : fixOK 50 3 = true := by decide +kernel
theorem fo_50_4 : fixOK 50 4 = true := by decide +kernel
theorem fo_50_5 : fixOK 50 5 = true := by decide +kernel
theorem fo_50_6 : fixOK 50 6 = true := by decide +kernel
theorem fo_50_7 : fixOK 50 7 = true := by decide +kernel
theorem fo_50_8 : fixOK 50 8 = true := by decide +kernel
theorem fo_50_9 : fixOK 50 9 = true := by decide +kernel
theorem fo_50_10 : fixOK 50 10 = true := by decide +kernel
theorem fo_52_3 : fixOK 52 3 = true := by decide +kernel
theorem fo_52_4 : fixOK 52 4 = true := by decide +kernel
theorem fo_52_5 : fixOK 52 5 = true := by decide +kernel
theorem fo_52_6 : fixOK 52 6 = true := by decide +kernel
theorem fo_52_7 : fixOK 52 7 = true := by decide +kernel
theorem fo_52_8 : fixOK 52 8 = true := by decide +kernel
theorem fo_52_9 : fixOK 52 9 = true := by decide +kernel
theorem fo_52_10 : fixOK 52 10 = true := by decide +kernel
theorem fo_52_11 : fixOK 52 11 = true := by decide +kernel
theorem fo_55_3 : fixOK 55 3 = true := by decide +kernel
theorem fo_55_4 : fixOK 55 4 = true := by decide +kernel
theorem fo_55_5 : fixOK 55 5 = true := by decide +kernel
theorem fo_55_6 : fixOK 55 6 = true := by decide +kernel
theorem fo_55_7 : fixOK 55 7 = true := by decide +kernel
theorem fo_55_8 : fixOK 55 8 = true := by decide +kernel
theorem fo_55_9 : fixOK 55 9 = true := by decide +kernel
theorem fo_55_10 : fixOK 55 10 = true := by decide +kernel
theorem fo_55_11 : fixOK 55 11 = true := by decide +kernel
theorem fo_58_4 : fixOK 58 4 = true := by decide +kernel
theorem fo_58_5 : fixOK 58 5 = true := by decide +kernel
theorem fo_58_8 : fixOK 58 8 = true := by decide +kernel
theorem fo_58_9 : fixOK 58 9 = true := by decide +kernel
end
section
/-! THE SMALL MACHINE: numbers instead of cells. A value is (kind, number): 0 an int, 1 a long, 2 a reference (a place in the list of cells, or -1: null), 3 the script; 9: nothing is said. What an int is, is its number going round. -/
/-- a whole number that an int (a long) can be -/
abbrev R32 (z : Int) : Prop := -2147483648 ≤ z ∧ z < 2147483648
abbrev R64 (z : Int) : Prop := -9223372036854775808 ≤ z ∧ z < 9223372036854775808
abbrev mmV : Type := Nat × Int
abbrev mmM : Type := Nat → Int → Int
abbrev mmS : Type := Bool × List (Nat × Nat)
abbrev mmB : Type := MethodName × ByteArray × Nat × Option FieldType
/-- the script's address, the first base; the classes; the second base, a hole (from, to); the constants' addresses -/
abbrev mmG : Type := (Nat × Nat) × va_G × (Nat → ClassId) × (Nat × Nat × Nat) × (Nat → Nat)
/-- the address of cell k -/
def mmAt (G : mmG) (k : Nat) : Nat := if k < 65 then G.1.2 + k else G.2.2.2.1.1 + (k - 65)
abbrev mmQ : Type := Option mmV → mmS → mmM → Prop
def w32 (z : Int) : Int := (z + 2147483648) % 4294967296 - 2147483648
def w64 (z : Int) : Int := (z + 9223372036854775808) % 18446744073709551616 - 9223372036854775808
theorem w32_toInt (z : Int) : (Int32.ofInt z).toInt = w32 z := by
  rw [Int32.toInt_ofInt, Int.bmod_def]
  unfold w32
  simp only [Int32.size]
  split <;> omega
theorem w64_toInt (z : Int) : (Int64.ofInt z).toInt = w64 z := by
  rw [Int64.toInt_ofInt, Int.bmod_def]
  unfold w64
  simp only [Int64.size]
  split <;> omega
theorem w32_id {z : Int} (h1 : -2147483648 ≤ z) (h2 : z < 2147483648) : w32 z = z := by unfold w32; omega
theorem w64_id {z : Int} (h1 : -9223372036854775808 ≤ z) (h2 : z < 9223372036854775808) : w64 z = z := by unfold w64; omega
theorem w32_rng (z : Int) : -2147483648 ≤ w32 z ∧ w32 z < 2147483648 := by unfold w32; omega
theorem w64_rng (z : Int) : -9223372036854775808 ≤ w64 z ∧ w64 z < 9223372036854775808 := by unfold w64; omega
theorem w32_ofInt (z : Int) : Int32.ofInt (w32 z) = Int32.ofInt z := by rw [← w32_toInt, Int32.ofInt_toInt]
theorem w64_ofInt (z : Int) : Int64.ofInt (w64 z) = Int64.ofInt z := by rw [← w64_toInt, Int64.ofInt_toInt]
def and32 (x y : Int) : Int := (Int32.ofInt x &&& Int32.ofInt y).toInt
def or32 (x y : Int) : Int := (Int32.ofInt x ||| Int32.ofInt y).toInt
def xor32 (x y : Int) : Int := (Int32.ofInt x ^^^ Int32.ofInt y).toInt
def shl32 (x y : Int) : Int := (Int32.ofInt x <<< (Int32.ofInt y &&& 31)).toInt
def shr32 (x y : Int) : Int := (Int32.ofInt x >>> (Int32.ofInt y &&& 31)).toInt
def ushr32 (x y : Int) : Int := (((Int32.ofInt x).toUInt32 >>> ((Int32.ofInt y).toUInt32 &&& Int32.toUInt32 31)).toInt32).toInt
def div32 (x y : Int) : Int := (Int32.ofInt x / Int32.ofInt y).toInt
def rem32 (x y : Int) : Int := (Int32.ofInt x - Int32.ofInt x / Int32.ofInt y * Int32.ofInt y).toInt
def and64 (x y : Int) : Int := (Int64.ofInt x &&& Int64.ofInt y).toInt
def or64 (x y : Int) : Int := (Int64.ofInt x ||| Int64.ofInt y).toInt
def div64 (x y : Int) : Int := (Int64.ofInt x / Int64.ofInt y).toInt
def rem64 (x y : Int) : Int := (Int64.ofInt x - Int64.ofInt x / Int64.ofInt y * Int64.ofInt y).toInt
def shl64 (x y : Int) : Int := (Int64.ofInt x <<< ((Int32.ofInt y).toInt64 &&& 63)).toInt
def ushr64 (x y : Int) : Int := (((Int64.ofInt x).toUInt64 >>> ((Int32.ofInt y).toInt64.toUInt64 &&& Int64.toUInt64 63)).toInt64).toInt
def cmp64 (x y : Int) : Int := if w64 y < w64 x then 1 else if w64 x = w64 y then 0 else -1
/-- which method a StringBuilder's own superclass means by a private name: as its word says that it is private -/
def jvPriv : List Cond := [.selects RJ4 yJ5_ensureCapacityInternal_d00df yJ5_ensureCapacityInternal_d00df, .selects RJ4 yJ5_newCapacity_0f7a4 yJ5_newCapacity_0f7a4, .selects RJ4 yJ5_putStringAt_47b60 yJ5_putStringAt_47b60, .selects RJ4 yJ5_inflateIfNeededFor_a7421 yJ5_inflateIfNeededFor_a7421]
def mm_tbl : List Cond := (lw_tbl ++ jvPriv).filter goodWord
def mm_clTy : Nat → Nat → FieldType := fun ci k => match ci with
  | 0 => tyX0 k
  | 1 => tyX1 k
  | 2 => tyX2 k
  | 3 => tyX3 k
  | 4 => tyX4 k
  | 5 => tyX5 k
  | 6 => tyX6 k
  | 7 => tyX7 k
  | 8 => tyX8 k
  | 9 => tyX9 k
  | 10 => tyX11 k
  | 11 => tyJ0 k
  | _ => tyJ4 k
def mm_tg : FieldType → Nat := fun t => match t with
  | .long => 1
  | .object _ => 2
  | .array _ => 2
  | _ => 0
def mmRf (G : mmG) (i : Int) : Option Nat := if i < 0 then none else some (mmAt G i.toNat)
def mmEnc (G : mmG) (v : mmV) : Value := match v.1 with
  | 0 => .int (Int32.ofInt v.2)
  | 1 => .long (Int64.ofInt v.2)
  | 2 => va_rf (mmRf G v.2)
  | 3 => .ref G.1.1
  | _ => .ref (G.2.2.2.2 v.2.toNat)
/-- the cells' kinds: below 20 an object of that class; 20 int[], 21 long[], 22 boolean[], 23 Law[], 24 long[][], 25 byte[], 26 int[][] -/
def mmA (G : mmG) (t : Nat) (f : Int → Int) : (Nat → Int32) ⊕ (Nat → Int64) ⊕ (Nat → UInt32) ⊕ (Nat → UInt64) ⊕ (Nat → Option Nat) :=
  if t = 20 ∨ t = 22 ∨ t = 25 then .inl (fun j => Int32.ofInt (f j)) else if t = 21 then .inr (.inl (fun j => Int64.ofInt (f j))) else .inr (.inr (.inr (.inr (fun j => mmRf G (f j)))))
def mmFs (G : mmG) (ci N : Nat) (f : Int → Int) : List Value := (List.range N).map fun j => mmEnc G (mm_tg (mm_clTy ci j), f j)
def mmE (G : mmG) (q : Nat × Nat) (f : Int → Int) : va_E := if q.1 < 20 then .inr (q.1, mmFs G q.1 q.2 f) else .inl (G.2.2.1 q.1, q.2, mmA G q.1 f)
def mmW (G : mmG) (sh : List (Nat × Nat)) (mem : mmM) : va_W := (List.range sh.length).map fun k => (mmAt G k, mmE G (sh.getD k (0, 0)) (mem k))
def mmTys (G : mmG) : List (ClassId × FieldType) := [(G.2.2.1 20, .int), (G.2.2.1 21, .long), (G.2.2.1 22, .boolean), (G.2.2.1 23, .object "SheSays$Law"), (G.2.2.1 24, .array .long), (G.2.2.1 25, .byte), (G.2.2.1 26, .array .int)]
def mm_at (t : Nat) : Nat := if t = 20 ∨ t = 22 ∨ t = 25 then 0 else if t = 21 then 1 else 2
def mTag (q : Nat × Nat) (k : Int) : Nat := if q.1 < 20 then mm_tg (mm_clTy q.1 k.toNat) else mm_at q.1
def mCan (sh : List (Nat × Nat)) (mem : mmM) : Prop := (∀ (a : Nat) (q : Nat × Nat) (k : Int), sh[a]? = some q → (mTag q k = 0 → R32 (mem a k)) ∧ (mTag q k = 1 → R64 (mem a k))) ∧ ∀ k, R32 (mem 999 k)
def mmAd (G : mmG) : Nat → Prop := fun q => G.1.2 ≤ q ∧ ¬ (G.2.2.2.1.2.1 ≤ q ∧ q < G.2.2.2.1.2.2)
/-- the law's own String constants -/
def kLen : List Nat := [0, 1, 4, 4, 12]
def kByt : List (List Int32) := [[], [44], [121, 58, 99, 42], [121, 58, 103, 62], [63, 108, 59, 121, 58, 115, 42, 50, 45, 109, 42, 57]]
def kIx (i : Nat) : Nat := [44, 57, 92, 94, 96].getD i 0
def kTx (i : Nat) : String := ["", ",", "y:c*", "y:g>", "?l;y:s*2-m*9"].getD i ""
def dgO (j : Nat) : Int32 := Int32.ofNat (48 + j % 10)
def dgT (j : Nat) : Int32 := Int32.ofNat (48 + j / 10)
def fmC : String := "jdk/internal/util/Preconditions"
def fmD : String := "Ljava/util/function/BiFunction;"
/-- what static fields and constants hold; nobody writes them -/
def mmSF (G : mmG) (U : State) (H : Heap) : Prop := vk_S 5 kLen kByt (fun i => G.2.2.2.2 (2 * i)) (fun i => G.2.2.2.2 (2 * i + 1)) (mmAd G) U H ∧ va_Z "java/lang/String" "COMPACT_STRINGS" "Z" (.int 1) (mmAd G) U H ∧ (va_Z "java/lang/Integer" "DigitOnes" "[B" (.ref (G.2.2.2.2 20)) (mmAd G) U H ∧ va_T .byte (G.2.2.2.2 20) 100 (fun j => .int (dgO j)) (mmAd G) U H) ∧ (va_Z "java/lang/Integer" "DigitTens" "[B" (.ref (G.2.2.2.2 21)) (mmAd G) U H ∧ va_T .byte (G.2.2.2.2 21) 100 (fun j => .int (dgT j)) (mmAd G) U H) ∧ (va_Z fmC "SIOOBE_FORMATTER" fmD .null (mmAd G) U H ∨ va_Z fmC "SIOOBE_FORMATTER" fmD (.ref (G.2.2.2.2 22)) (mmAd G) U H)
theorem mmSF.moved {G : mmG} {u U : State} {H : Heap} (hvm : u.vm.Alike U.vm) (h : mmSF G u H) : mmSF G U H := ⟨h.1.moved hvm, h.2.1.moved hvm, ⟨h.2.2.1.1.moved hvm, h.2.2.1.2.moved hvm⟩, ⟨h.2.2.2.1.1.moved hvm, h.2.2.2.1.2.moved hvm⟩, h.2.2.2.2.imp (va_Z.moved hvm) (va_Z.moved hvm)⟩
theorem mmSF.kept {G : mmG} {U : State} {H H1 : Heap} (h : mmSF G U H) (hq : ∀ a : Nat, a < H.size → ¬ mmAd G a → H1[a]? = H[a]?) : mmSF G U H1 := ⟨h.1.kept hq, h.2.1.kept hq, ⟨h.2.2.1.1.kept hq, h.2.2.1.2.kept hq⟩, ⟨h.2.2.2.1.1.kept hq, h.2.2.2.1.2.kept hq⟩, h.2.2.2.2.imp (fun w => va_Z.kept w hq) (fun w => va_Z.kept w hq)⟩
/-- the room's two bases, and the hole: no cell beyond the first ones where there is one -/
def mmHo (G : mmG) (n : Nat) (b : Bool) (z : Nat) : Prop := G.1.2 + 65 ≤ G.2.2.2.1.1 ∧ (b = true → n < 65 → G.2.2.2.1.1 = G.1.2 + 65) ∧ (G.2.2.2.1.2.2 ≤ G.2.2.2.1.2.1 ∨ (G.1.2 + 65 ≤ G.2.2.2.1.2.1 ∧ G.2.2.2.1.2.2 ≤ z ∧ (n ≤ 65 ∨ G.2.2.2.1.2.2 ≤ G.2.2.2.1.1) ∧ (b = true → G.2.2.2.1.2.2 ≤ G.2.2.2.1.1)))
def mmR (G : mmG) (sh : mmS) (mem : mmM) (U : State) (H : Heap) : Prop :=
  (sh.1 = true → H.size = mmAt G sh.2.length) ∧ va_K G.2.1 vwCl (mmTys G) U ∧ va_P G.2.1 vwCl (mmW G sh.2 mem) H ∧ (va_X G.1.1 (mem 999 (-1)).toNat (fun j => Int32.ofInt (mem 999 j)) U H ∧ mmHo G sh.2.length sh.1 H.size) ∧ G.1.1 < G.1.2 ∧ G.1.2 ≤ H.size ∧ sh.2.length ≤ 999 ∧ (sh.1 = false → mFix mem) ∧ mCan sh.2 mem
def mmL (G : mmG) (nL : Nat) (lc : List mmV) (ls : Array Slot) : Prop := ∃ l, lv_has ls nL l ∧ ∀ (i : Nat) (v : mmV), lc[i]? = some v → v.1 < 9 → (i, mmEnc G v) ∈ l
/-- words that hold on while the launch goes on, but are none of the tables' own kind: private constructors of nest mates, the abstract method -/
def mmNst (q : Nat × MethodName) : Prop := q = (9, yX9_init) ∨ q = (38, yX2_init) ∨ q = (41, yX8_init) ∨ q = (57, yX6_init)
theorem ao_mv {t : FieldType} {s U : State} (hal : s.vm.Alike U.vm) (h : va_Nw (.arrayOver t) s) : va_Nw (.arrayOver t) U := by
  have e : (Cond.arrayOver t).before #[] (s.setVm U.vm) = true := by
    rw [Cond.arrayOver_setVmC hal]
    exact h
  exact e
theorem ao_use {t : FieldType} {s : State} {args : Array Value} (h : va_Nw (.arrayOver t) s) : (Cond.arrayOver t).before args s = true := h
def mmAO (U : State) : Prop := va_Nw (.arrayOver (.object "SheSays$Law")) U ∧ va_Nw (.arrayOver (.array .long)) U ∧ va_Nw (.arrayOver (.array .int)) U
def mmNw (G : mmG) (U : State) : Prop := ((∀ q, mmNst q → va_Nw (.methodLinkNest RX11 q.1 q.2 "SheSays") U) ∧ mmAO U) ∧ va_Nw (.declares ⟨"SheSays$Walk", "saidAt", "(I)I"⟩) U ∧ (∀ i : Nat, i < 5 → vk_R RL (kIx i) (kTx i) (G.2.2.2.2 (2 * i)) U) ∧ va_Nw (.castable "[B" "java/lang/Cloneable") U
theorem mmNw.warm {G : mmG} {s U : State} (h : mmNw G s) (hW : s.WarmedH U.vm) : mmNw G U := ⟨⟨fun q hq => (h.1.1 q hq).warmM hW, ao_mv hW.alike h.1.2.1, ao_mv hW.alike h.1.2.2.1, ao_mv hW.alike h.1.2.2.2⟩, h.2.1.warmD hW, fun i hi => vk_R.warm hW (h.2.2.1 i hi), h.2.2.2.warmC hW⟩
theorem mmNw.same {G : mmG} {s U : State} (h : mmNw G s) (hv : s.vm = U.vm) : mmNw G U := ⟨⟨fun q hq => (h.1.1 q hq).same rfl hv, ao_mv (by rw [hv]; exact Vm.Alike.refl _) h.1.2.1, ao_mv (by rw [hv]; exact Vm.Alike.refl _) h.1.2.2.1, ao_mv (by rw [hv]; exact Vm.Alike.refl _) h.1.2.2.2⟩, h.2.1.same rfl hv, fun i hi => vk_R.same hv.symm (h.2.2.1 i hi), h.2.2.2.same rfl hv⟩
def mmF (G : mmG) (B : mmB) (p : Program) (s : State) (m : MethodId) (args : Array Value) (meth : Method) (c : Code) : Prop :=
  p.tables.exec = Jvm.exec ∧ c.code = B.2.1 ∧ c.maxLocals = B.2.2.1 ∧ meth.sig.returnType = B.2.2.2 ∧ s.vm.findClass B.1.cls = some m.cls ∧ (∀ w ∈ mm_tbl, w.before args s = true) ∧ meth.locks = false ∧ (B.1.name = "<init>" → meth.name = "<init>") ∧ mmNw G s
def mmPost (G : mmG) (Q : mmQ) : Array Value → State → Outcome → State → Prop := fun _ st o t => (∃ r sh mem, o = .returned (r.map (mmEnc G)) ∧ Q r sh mem ∧ mmR G sh mem t t.heap) ∧ va_F (mmAd G) st t
def mmX (B : mmB) (d kc ks : Nat) (G : mmG) (sh : mmS) (mem : mmM) (lc : List mmV) (p : Program) (l : Launch) (R : Room) (s : State) (m : MethodId) (args : Array Value) (meth : Method) (c : Code) (H : Heap) (locs : List Loc) (cells slots : Nat) (ls : Array Slot) : Prop :=
  mmF G B p s m args meth c ∧ mmR G sh mem s H ∧ va_S (mmAd G) s.heap H locs ∧ (G.1.2 ≤ s.heap.size ∧ (G.2.2.2.1.2.2 ≤ G.2.2.2.1.2.1 ∨ G.2.2.2.1.2.2 ≤ s.heap.size)) ∧ mmL G B.2.2.1 lc ls ∧ cells + kc ≤ R.cells ∧ slots + ks ≤ R.slots ∧ d ≤ R.frames ∧ 64 * d ≤ R.locals ∧ (l.flags = flags0 ∧ mmSF G s s.heap)
def mmT (B : mmB) (d kc ks : Nat) (Q : mmQ) (pc : Nat) (lc st : List mmV) (sh : mmS) (mem : mmM) : Prop :=
  ∀ (p : Program) (l : Launch) (e : Env) (R : Room) (s : State) (m : MethodId) (args : Array Value) (below : List Frame) (meth : Method) (c : Code) (G : mmG) (H : Heap) (locs : List Loc) (cells slots : Nat) (ls : Array Slot),
    mmX B d kc ks G sh mem lc p l R s m args meth c H locs cells slots ls → W p l e R s m args below meth c H locs cells slots (MQ below (mmPost G Q) args s R.cells R.slots (mmAd G)) (F0 m pc ls (st.map (mmEnc G)))
theorem mm_cat1 (G : mmG) {v : mmV} (h : v.1 ≠ 1) : (mmEnc G v).category = 1 := by
  obtain ⟨t, a⟩ := v
  match t, h with
  | 0, _ => rfl
  | 1, h => exact absurd rfl h
  | 2, _ =>
    show (va_rf (mmRf G a)).category = 1
    unfold mmRf
    split <;> rfl
  | 3, _ => rfl
  | _ + 4, _ => rfl
theorem mm_cat2 (G : mmG) (x : Int) : (mmEnc G (1, x)).category = 2 := rfl
section MMst
variable {B : mmB} {d kc ks : Nat} {Q : mmQ} {pc : Nat} {lc st : List mmV} {sh : mmS} {mem : mmM}
theorem st_iconst {n : Int} (hd : decode B.2.1 pc = .ok (.iconst n, 1)) (k : mmT B d kc ks Q (pc + 1) lc ((0, n) :: st) sh mem) : mmT B d kc ks Q pc lc st sh mem :=
  fun p l e R s m args below meth c G H locs cells slots ls X => lv_iconst X.1.1 X.1.2.1 hd rfl (k p l e R s m args below meth c G H locs cells slots ls X)
theorem st_bipush {n : Int} (hn : (Int8.ofInt n).toInt32 = Int32.ofInt n) (hd : decode B.2.1 pc = .ok (.bipush n, 2)) (k : mmT B d kc ks Q (pc + 2) lc ((0, n) :: st) sh mem) : mmT B d kc ks Q pc lc st sh mem :=
  fun p l e R s m args below meth c G H locs cells slots ls X => lv_bipush X.1.1 X.1.2.1 hd hn (k p l e R s m args below meth c G H locs cells slots ls X)
theorem st_sipush {n : Int} (hn : (Int16.ofInt n).toInt32 = Int32.ofInt n) (hd : decode B.2.1 pc = .ok (.sipush n, 3)) (k : mmT B d kc ks Q (pc + 3) lc ((0, n) :: st) sh mem) : mmT B d kc ks Q pc lc st sh mem :=
  fun p l e R s m args below meth c G H locs cells slots ls X => lv_sipush X.1.1 X.1.2.1 hd hn (k p l e R s m args below meth c G H locs cells slots ls X)
theorem st_lconst {n : Fin 2} {v : Int} (hn : Int64.ofNat (n : Nat) = Int64.ofInt v) (hd : decode B.2.1 pc = .ok (.lconst n, 1)) (k : mmT B d kc ks Q (pc + 1) lc ((1, v) :: st) sh mem) : mmT B d kc ks Q pc lc st sh mem :=
  fun p l e R s m args below meth c G H locs cells slots ls X => lv_lconst X.1.1 X.1.2.1 hd hn (k p l e R s m args below meth c G H locs cells slots ls X)
theorem mm_word {w : Cond} (i : Nat) (h : lw_tbl[i]? = some w) (hg : goodWord w = true) : w ∈ mm_tbl := List.mem_filter.mpr ⟨List.mem_append_left _ (List.mem_of_getElem? h), hg⟩
theorem mm_jv {w : Cond} (i : Nat) (h : jvPriv[i]? = some w) (hg : goodWord w = true) : w ∈ mm_tbl := List.mem_filter.mpr ⟨List.mem_append_right _ (List.mem_of_getElem? h), hg⟩
theorem mm_wk1 {w : Cond} (i : Nat) (h : tables_1_1[i]? = some w) (hg : goodWord w = true) : w ∈ mm_tbl := List.mem_filter.mpr ⟨List.mem_append_left _ (List.mem_append_right _ ((List.mem_append_left _ (List.mem_of_getElem? h)))), hg⟩
theorem mm_wk2 {w : Cond} (i : Nat) (h : tables_1_2[i]? = some w) (hg : goodWord w = true) : w ∈ mm_tbl := List.mem_filter.mpr ⟨List.mem_append_left _ (List.mem_append_right _ ((List.mem_append_right _ (List.mem_append_left _ (List.mem_of_getElem? h))))), hg⟩
theorem mm_wk3 {w : Cond} (i : Nat) (h : tables_1_3[i]? = some w) (hg : goodWord w = true) : w ∈ mm_tbl := List.mem_filter.mpr ⟨List.mem_append_left _ (List.mem_append_right _ ((List.mem_append_right _ (List.mem_append_right _ (List.mem_append_left _ (List.mem_of_getElem? h)))))), hg⟩
theorem mm_wk4 {w : Cond} (i : Nat) (h : tables_1_4[i]? = some w) (hg : goodWord w = true) : w ∈ mm_tbl := List.mem_filter.mpr ⟨List.mem_append_left _ (List.mem_append_right _ ((List.mem_append_right _ (List.mem_append_right _ (List.mem_append_right _ (List.mem_append_left _ (List.mem_of_getElem? h))))))), hg⟩
theorem mm_wk5 {w : Cond} (i : Nat) (h : tables_1_5[i]? = some w) (hg : goodWord w = true) : w ∈ mm_tbl := List.mem_filter.mpr ⟨List.mem_append_left _ (List.mem_append_right _ ((List.mem_append_right _ (List.mem_append_right _ (List.mem_append_right _ (List.mem_append_right _ (List.mem_append_left _ (List.mem_of_getElem? h)))))))), hg⟩
theorem mm_wk6 {w : Cond} (i : Nat) (h : tables_1_6[i]? = some w) (hg : goodWord w = true) : w ∈ mm_tbl := List.mem_filter.mpr ⟨List.mem_append_left _ (List.mem_append_right _ ((List.mem_append_right _ (List.mem_append_right _ (List.mem_append_right _ (List.mem_append_right _ (List.mem_append_right _ (List.mem_of_getElem? h)))))))), hg⟩
theorem mm_wk0 {w : Cond} (i : Nat) (h : (k2_sels lw_privs)[i]? = some w) (hg : goodWord w = true) : w ∈ mm_tbl := List.mem_filter.mpr ⟨List.mem_append_left _ (List.mem_append_left _ (List.mem_of_getElem? h)), hg⟩
theorem st_ldc {i : Nat} {v : Int} (hw : Cond.constant B.1.cls i (Int32.ofInt v) ∈ mm_tbl) (hd : decode B.2.1 pc = .ok (.ldc i, 2)) (k : mmT B d kc ks Q (pc + 2) lc ((0, v) :: st) sh mem) : mmT B d kc ks Q pc lc st sh mem :=
  fun p l e R s m args below meth c G H locs cells slots ls X => lv_ldc X.1.1 X.1.2.1 X.1.2.2.2.2.1 (X.1.2.2.2.2.2.1 _ hw) hd (k p l e R s m args below meth c G H locs cells slots ls X)
theorem st_ldc2 {i : Nat} {v : Int} (hw : Cond.constantLong B.1.cls i (Int64.ofInt v) ∈ mm_tbl) (hd : decode B.2.1 pc = .ok (.ldc2_w i, 3)) (k : mmT B d kc ks Q (pc + 3) lc ((1, v) :: st) sh mem) : mmT B d kc ks Q pc lc st sh mem :=
  fun p l e R s m args below meth c G H locs cells slots ls X => lv_ldc2 X.1.1 X.1.2.1 X.1.2.2.2.2.1 (X.1.2.2.2.2.2.1 _ hw) hd (k p l e R s m args below meth c G H locs cells slots ls X)
theorem mmL.at {G : mmG} {nL i : Nat} {v : mmV} {ls : Array Slot} (h : mmL G nL lc ls) (hl : lc[i]? = some v) (hv : v.1 < 9) : ls[i]? = some (.val (mmEnc G v)) := by
  obtain ⟨l, h1, h2⟩ := h
  exact h1.2.2 _ (h2 i v hl hv)
theorem st_iload_n {j : Fin 4} {i : Nat} {x : Int} (hi : (j : Nat) = i) (hl : lc[i]? = some (0, x)) (hd : decode B.2.1 pc = .ok (.iload_n j, 1)) (k : mmT B d kc ks Q (pc + 1) lc ((0, x) :: st) sh mem) : mmT B d kc ks Q pc lc st sh mem :=
  fun p l e R s m args below meth c G H locs cells slots ls X => lv_iload_n X.1.1 X.1.2.1 hd hi (X.2.2.2.2.1.at hl (by show 0 < 9; decide)) (k p l e R s m args below meth c G H locs cells slots ls X)
theorem st_iload {i : Nat} {x : Int} (hl : lc[i]? = some (0, x)) (hd : decode B.2.1 pc = .ok (.iload i, 2)) (k : mmT B d kc ks Q (pc + 2) lc ((0, x) :: st) sh mem) : mmT B d kc ks Q pc lc st sh mem :=
  fun p l e R s m args below meth c G H locs cells slots ls X => lv_iload X.1.1 X.1.2.1 hd (X.2.2.2.2.1.at hl (by show 0 < 9; decide)) (k p l e R s m args below meth c G H locs cells slots ls X)
theorem st_lload_n {j : Fin 4} {i : Nat} {x : Int} (hi : (j : Nat) = i) (hl : lc[i]? = some (1, x)) (hd : decode B.2.1 pc = .ok (.lload_n j, 1)) (k : mmT B d kc ks Q (pc + 1) lc ((1, x) :: st) sh mem) : mmT B d kc ks Q pc lc st sh mem :=
  fun p l e R s m args below meth c G H locs cells slots ls X => lv_lload_n X.1.1 X.1.2.1 hd hi (X.2.2.2.2.1.at hl (by show 1 < 9; decide)) (k p l e R s m args below meth c G H locs cells slots ls X)
theorem st_lload {i : Nat} {x : Int} (hl : lc[i]? = some (1, x)) (hd : decode B.2.1 pc = .ok (.lload i, 2)) (k : mmT B d kc ks Q (pc + 2) lc ((1, x) :: st) sh mem) : mmT B d kc ks Q pc lc st sh mem :=
  fun p l e R s m args below meth c G H locs cells slots ls X => lv_lload X.1.1 X.1.2.1 hd (X.2.2.2.2.1.at hl (by show 1 < 9; decide)) (k p l e R s m args below meth c G H locs cells slots ls X)
theorem st_aload_n {j : Fin 4} {i t : Nat} {x : Int} (hi : (j : Nat) = i) (hl : lc[i]? = some (t + 2, x)) (ht : t < 3) (hd : decode B.2.1 pc = .ok (.aload_n j, 1)) (k : mmT B d kc ks Q (pc + 1) lc ((t + 2, x) :: st) sh mem) : mmT B d kc ks Q pc lc st sh mem := by
  intro p l e R s m args below meth c G H locs cells slots ls X
  have h1 := X.2.2.2.2.1.at hl (by show t + 2 < 9; omega)
  have h2 := k p l e R s m args below meth c G H locs cells slots ls X
  simp only [List.map_cons] at h2
  match t, ht with
  | 0, _ =>
    change ls[i]? = some (.val (va_rf (mmRf G x))) at h1
    change W p l e R s m args below meth c H locs cells slots _ (F0 m (pc + 1) ls (va_rf (mmRf G x) :: st.map (mmEnc G))) at h2
    cases hr : mmRf G x with
    | none => rw [hr] at h1 h2; exact lv_aload_nN X.1.1 X.1.2.1 hd hi h1 h2
    | some a => rw [hr] at h1 h2; exact lv_aload_n X.1.1 X.1.2.1 hd hi h1 h2
  | 1, _ => exact lv_aload_n X.1.1 X.1.2.1 hd hi h1 h2
  | 2, _ => exact lv_aload_n X.1.1 X.1.2.1 hd hi h1 h2
theorem st_aload {i t : Nat} {x : Int} (hl : lc[i]? = some (t + 2, x)) (ht : t < 3) (hd : decode B.2.1 pc = .ok (.aload i, 2)) (k : mmT B d kc ks Q (pc + 2) lc ((t + 2, x) :: st) sh mem) : mmT B d kc ks Q pc lc st sh mem := by
  intro p l e R s m args below meth c G H locs cells slots ls X
  have h1 := X.2.2.2.2.1.at hl (by show t + 2 < 9; omega)
  have h2 := k p l e R s m args below meth c G H locs cells slots ls X
  simp only [List.map_cons] at h2
  match t, ht with
  | 0, _ =>
    change ls[i]? = some (.val (va_rf (mmRf G x))) at h1
    change W p l e R s m args below meth c H locs cells slots _ (F0 m (pc + 2) ls (va_rf (mmRf G x) :: st.map (mmEnc G))) at h2
    cases hr : mmRf G x with
    | none => rw [hr] at h1 h2; exact lv_aloadN X.1.1 X.1.2.1 hd h1 h2
    | some a => rw [hr] at h1 h2; exact lv_aload X.1.1 X.1.2.1 hd h1 h2
  | 1, _ => exact lv_aload X.1.1 X.1.2.1 hd h1 h2
  | 2, _ => exact lv_aload X.1.1 X.1.2.1 hd h1 h2
/-- a local is written -/
def mmSet (lc : List mmV) (i : Nat) (v : mmV) : List mmV :=
  let l1 := if v.1 = 1 then (lc.set (i + 1) (9, 0)) else lc
  let l2 := match i with
    | 0 => l1
    | j + 1 => match l1[j]? with
      | some (1, _) => l1.set j (9, 0)
      | _ => l1
  l2.set i v
theorem mmSet_old {lc : List mmV} {i j : Nat} {v w : mmV} (h : (mmSet lc i v)[j]? = some w) (hw : w.1 < 9) : (j = i ∧ w = v) ∨ (j ≠ i ∧ lc[j]? = some w ∧ ¬ (j + 1 = i ∧ w.1 = 1) ∧ (v.1 = 1 → j ≠ i + 1)) := by
  have aux : ∀ L : List mmV, (L.set j v)[j]? = some w → w = v := by
    intro L hL
    rw [List.getElem?_set] at hL
    simp only [↓reduceIte] at hL
    split at hL
    · exact (Option.some.inj hL).symm
    · cases hL
  unfold mmSet at h
  dsimp only at h
  by_cases hji : j = i
  · left
    subst hji
    exact ⟨rfl, aux _ h⟩
  · right
    rw [List.getElem?_set_ne (Ne.symm hji)] at h
    have h1 : ∀ l1 : List mmV, (match i with
      | 0 => l1
      | j + 1 => match l1[j]? with
        | some (1, _) => l1.set j (9, 0)
        | _ => l1)[j]? = some w → l1[j]? = some w ∧ ¬ (j + 1 = i ∧ w.1 = 1) := by
      intro l1 hh
      cases i with
      | zero => exact ⟨hh, fun q => by omega⟩
      | succ i0 =>
        dsimp only at hh
        split at hh
        · rename_i x hx
          by_cases e : j = i0
          · subst e
            rw [List.getElem?_set] at hh
            simp only [↓reduceIte] at hh
            split at hh
            · cases Option.some.inj hh
              exact absurd hw (by decide)
            · cases hh
          · rw [List.getElem?_set_ne (Ne.symm e)] at hh
            exact ⟨hh, fun q => e (by omega)⟩
        · rename_i hx
          refine ⟨hh, fun q => ?_⟩
          have e : j = i0 := by omega
          subst e
          obtain ⟨t, a⟩ := w
          have ht : t = 1 := q.2
          subst ht
          exact hx a hh
    obtain ⟨h2, h3⟩ := h1 _ h
    split at h2
    · rename_i hv
      by_cases e : j = i + 1
      · subst e
        rw [List.getElem?_set] at h2
        simp only [↓reduceIte] at h2
        split at h2
        · cases Option.some.inj h2
          exact absurd hw (by decide)
        · cases h2
      · rw [List.getElem?_set_ne (Ne.symm e)] at h2
        exact ⟨hji, h2, h3, fun _ => e⟩
    · rename_i hv
      exact ⟨hji, h2, h3, fun q => absurd q hv⟩
theorem mm_tag1 (G : mmG) (w : mmV) (h : w.1 < 9) : ((mmEnc G w).category == 2) = (w.1 == 1) := by
  by_cases e : w.1 = 1
  · obtain ⟨t, a⟩ := w
    have : t = 1 := e
    subst this
    rfl
  · rw [mm_cat1 G e]
    simp [e]
theorem mmL.set1 {G : mmG} {nL i : Nat} {v : mmV} {lc' : List mmV} {l l' : List (Nat × Value)} {ls ls' : Array Slot} (hv : v.1 ≠ 1) (he : mmSet lc i v = lc') (hin : ∀ (i : Nat) (v : mmV), lc[i]? = some v → v.1 < 9 → (i, mmEnc G v) ∈ l)
    (hl : (i, mmEnc G v) :: l.filter (fun q => !(q.1 == i) && !(q.1 + 1 == i && q.2.category == 2)) = l') (h' : lv_has ls' nL l') : mmL G nL lc' ls' := by
  refine ⟨l', h', fun j w hj hw => ?_⟩
  subst hl
  rw [← he] at hj
  rcases mmSet_old hj hw with ⟨rfl, rfl⟩ | ⟨h1, h2, h3, -⟩
  · exact List.mem_cons_self
  · refine List.mem_cons_of_mem _ (List.mem_filter.mpr ⟨hin j w h2 hw, ?_⟩)
    rw [mm_tag1 G w hw]
    simp only [Bool.and_eq_true, Bool.not_eq_true', beq_eq_false_iff_ne, ne_eq, Bool.and_eq_false_iff]
    refine ⟨h1, ?_⟩
    by_cases q : j + 1 = i
    · right
      simpa using fun z => h3 ⟨q, z⟩
    · left
      simpa using q
theorem mmL.set2 {G : mmG} {nL i : Nat} {v : mmV} {lc' : List mmV} {l l' : List (Nat × Value)} {ls ls' : Array Slot} (hv : v.1 = 1) (he : mmSet lc i v = lc') (hin : ∀ (i : Nat) (v : mmV), lc[i]? = some v → v.1 < 9 → (i, mmEnc G v) ∈ l)
    (hl : (i, mmEnc G v) :: l.filter (fun q => !(q.1 == i) && (!(q.1 == i + 1) && !(q.1 + 1 == i && q.2.category == 2))) = l') (h' : lv_has ls' nL l') : mmL G nL lc' ls' := by
  refine ⟨l', h', fun j w hj hw => ?_⟩
  subst hl
  rw [← he] at hj
  rcases mmSet_old hj hw with ⟨rfl, rfl⟩ | ⟨h1, h2, h3, h4⟩
  · exact List.mem_cons_self
  · refine List.mem_cons_of_mem _ (List.mem_filter.mpr ⟨hin j w h2 hw, ?_⟩)
    rw [mm_tag1 G w hw]
    simp only [Bool.and_eq_true, Bool.not_eq_true', beq_eq_false_iff_ne, ne_eq, Bool.and_eq_false_iff]
    refine ⟨h1, h4 hv, ?_⟩
    by_cases q : j + 1 = i
    · right
      simpa using fun z => h3 ⟨q, z⟩
    · left
      simpa using q
theorem mm_relc {G : mmG} {lc' : List mmV} {p : Program} {l : Launch} {R : Room} {s : State} {m : MethodId} {args : Array Value} {meth : Method} {c : Code} {H : Heap} {locs : List Loc} {cells slots : Nat} {ls ls' : Array Slot} (X : mmX B d kc ks G sh mem lc p l R s m args meth c H locs cells slots ls) (h : mmL G B.2.2.1 lc' ls') : mmX B d kc ks G sh mem lc' p l R s m args meth c H locs cells slots ls' :=
  ⟨X.1, X.2.1, X.2.2.1, X.2.2.2.1, h, X.2.2.2.2.2⟩
theorem st_istore_n {j : Fin 4} {i : Nat} {x : Int} {lc' : List mmV} (hi : (j : Nat) = i) (hn : i < B.2.2.1) (he : mmSet lc i (0, x) = lc') (hd : decode B.2.1 pc = .ok (.istore_n j, 1)) (k : mmT B d kc ks Q (pc + 1) lc' st sh mem) : mmT B d kc ks Q pc lc ((0, x) :: st) sh mem := by
  intro p l e R s m args below meth c G H locs cells slots ls X
  obtain ⟨lv, h1, h2⟩ := X.2.2.2.2.1
  exact lv_istore_n X.1.1 X.1.2.1 hd hi h1 hn rfl (fun ls' h' => k p l e R s m args below meth c G H locs cells slots ls' (mm_relc X (mmL.set1 (ls := ls) (v := (0, x)) (show (0 : Nat) ≠ 1 by decide) he h2 rfl h')))
theorem st_istore {i : Nat} {x : Int} {lc' : List mmV} (hn : i < B.2.2.1) (he : mmSet lc i (0, x) = lc') (hd : decode B.2.1 pc = .ok (.istore i, 2)) (k : mmT B d kc ks Q (pc + 2) lc' st sh mem) : mmT B d kc ks Q pc lc ((0, x) :: st) sh mem := by
  intro p l e R s m args below meth c G H locs cells slots ls X
  obtain ⟨lv, h1, h2⟩ := X.2.2.2.2.1
  exact lv_istore X.1.1 X.1.2.1 hd h1 hn rfl (fun ls' h' => k p l e R s m args below meth c G H locs cells slots ls' (mm_relc X (mmL.set1 (ls := ls) (v := (0, x)) (show (0 : Nat) ≠ 1 by decide) he h2 rfl h')))
theorem st_lstore_n {j : Fin 4} {i : Nat} {x : Int} {lc' : List mmV} (hi : (j : Nat) = i) (hn : i + 1 < B.2.2.1) (he : mmSet lc i (1, x) = lc') (hd : decode B.2.1 pc = .ok (.lstore_n j, 1)) (k : mmT B d kc ks Q (pc + 1) lc' st sh mem) : mmT B d kc ks Q pc lc ((1, x) :: st) sh mem := by
  intro p l e R s m args below meth c G H locs cells slots ls X
  obtain ⟨lv, h1, h2⟩ := X.2.2.2.2.1
  exact lv_lstore_n X.1.1 X.1.2.1 hd hi h1 hn rfl (fun ls' h' => k p l e R s m args below meth c G H locs cells slots ls' (mm_relc X (mmL.set2 (ls := ls) (v := (1, x)) rfl he h2 rfl h')))
theorem st_lstore {i : Nat} {x : Int} {lc' : List mmV} (hn : i + 1 < B.2.2.1) (he : mmSet lc i (1, x) = lc') (hd : decode B.2.1 pc = .ok (.lstore i, 2)) (k : mmT B d kc ks Q (pc + 2) lc' st sh mem) : mmT B d kc ks Q pc lc ((1, x) :: st) sh mem := by
  intro p l e R s m args below meth c G H locs cells slots ls X
  obtain ⟨lv, h1, h2⟩ := X.2.2.2.2.1
  exact lv_lstore X.1.1 X.1.2.1 hd h1 hn rfl (fun ls' h' => k p l e R s m args below meth c G H locs cells slots ls' (mm_relc X (mmL.set2 (ls := ls) (v := (1, x)) rfl he h2 rfl h')))
theorem st_astore_n {j : Fin 4} {i : Nat} {x : Int} {lc' : List mmV} (hi : (j : Nat) = i) (hn : i < B.2.2.1) (he : mmSet lc i (2, x) = lc') (hx : 0 ≤ x) (hd : decode B.2.1 pc = .ok (.astore_n j, 1)) (k : mmT B d kc ks Q (pc + 1) lc' st sh mem) : mmT B d kc ks Q pc lc ((2, x) :: st) sh mem := by
  intro p l e R s m args below meth c G H locs cells slots ls X
  obtain ⟨lv, h1, h2⟩ := X.2.2.2.2.1
  have hr : mmEnc G (2, x) = .ref (mmAt G x.toNat) := by show va_rf (mmRf G x) = _; unfold mmRf; rw [if_neg (by omega)]; rfl
  show W p l e R s m args below meth c H locs cells slots _ (F0 m pc ls (mmEnc G (2, x) :: st.map (mmEnc G)))
  rw [hr]
  exact lv_astore_n X.1.1 X.1.2.1 hd hi h1 hn rfl (fun ls' h' => k p l e R s m args below meth c G H locs cells slots ls' (mm_relc X (mmL.set1 (ls := ls) (v := (2, x)) (show (2 : Nat) ≠ 1 by decide) he h2 (by rw [hr]) h')))
theorem st_astore {i : Nat} {x : Int} {lc' : List mmV} (hn : i < B.2.2.1) (he : mmSet lc i (2, x) = lc') (hx : 0 ≤ x) (hd : decode B.2.1 pc = .ok (.astore i, 2)) (k : mmT B d kc ks Q (pc + 2) lc' st sh mem) : mmT B d kc ks Q pc lc ((2, x) :: st) sh mem := by
  intro p l e R s m args below meth c G H locs cells slots ls X
  obtain ⟨lv, h1, h2⟩ := X.2.2.2.2.1
  have hr : mmEnc G (2, x) = .ref (mmAt G x.toNat) := by show va_rf (mmRf G x) = _; unfold mmRf; rw [if_neg (by omega)]; rfl
  show W p l e R s m args below meth c H locs cells slots _ (F0 m pc ls (mmEnc G (2, x) :: st.map (mmEnc G)))
  rw [hr]
  exact lv_astore X.1.1 X.1.2.1 hd h1 hn rfl (fun ls' h' => k p l e R s m args below meth c G H locs cells slots ls' (mm_relc X (mmL.set1 (ls := ls) (v := (2, x)) (show (2 : Nat) ≠ 1 by decide) he h2 (by rw [hr]) h')))
theorem st_astoreK {i : Nat} {x : Int} {lc' : List mmV} (hn : i < B.2.2.1) (he : mmSet lc i (4, x) = lc') (hd : decode B.2.1 pc = .ok (.astore i, 2)) (k : mmT B d kc ks Q (pc + 2) lc' st sh mem) : mmT B d kc ks Q pc lc ((4, x) :: st) sh mem := by
  intro p l e R s m args below meth c G H locs cells slots ls X
  obtain ⟨lv, h1, h2⟩ := X.2.2.2.2.1
  exact lv_astore X.1.1 X.1.2.1 hd h1 hn rfl (fun ls' h' => k p l e R s m args below meth c G H locs cells slots ls' (mm_relc X (mmL.set1 (ls := ls) (v := (4, x)) (show (4 : Nat) ≠ 1 by decide) he h2 rfl h')))
theorem st_iinc {i : Nat} {n x y : Int} {lc' : List mmV} (hn : i < B.2.2.1) (hl : lc[i]? = some (0, x)) (hy : y = x + n) (he : mmSet lc i (0, y) = lc') (hd : decode B.2.1 pc = .ok (.iinc i n, 3)) (k : mmT B d kc ks Q (pc + 3) lc' st sh mem) : mmT B d kc ks Q pc lc st sh mem := by
  intro p l e R s m args below meth c G H locs cells slots ls X
  obtain ⟨lv, h1, h2⟩ := X.2.2.2.2.1
  obtain ⟨q, hq⟩ := List.getElem?_of_mem (h2 i _ hl (by show 0 < 9; decide))
  exact lv_iinc (v := Int32.ofInt y) X.1.1 X.1.2.1 hd h1 hq (by rw [hy, Int32.ofInt_add]) hn rfl (fun ls' h' => k p l e R s m args below meth c G H locs cells slots ls' (mm_relc X (mmL.set1 (ls := ls) (v := (0, y)) (show (0 : Nat) ≠ 1 by decide) he h2 rfl h')))
end MMst
end
section
section MMar
variable {B : mmB} {d kc ks : Nat} {Q : mmQ} {pc : Nat} {lc st : List mmV} {sh : mmS} {mem : mmM}
theorem st_iadd {x y : Int} (hd : decode B.2.1 pc = .ok (.iadd, 1)) (k : mmT B d kc ks Q (pc + 1) lc ((0, x + y) :: st) sh mem) : mmT B d kc ks Q pc lc ((0, y) :: (0, x) :: st) sh mem := by
  intro p l e R s m args below meth c G H locs cells slots ls X
  have h := k p l e R s m args below meth c G H locs cells slots ls X
  change W p l e R s m args below meth c H locs cells slots _ (F0 m (pc + 1) ls (.int (Int32.ofInt (x + y)) :: st.map (mmEnc G))) at h
  rw [Int32.ofInt_add] at h
  exact lv_iadd X.1.1 X.1.2.1 hd h
theorem st_isub {x y : Int} (hd : decode B.2.1 pc = .ok (.isub, 1)) (k : mmT B d kc ks Q (pc + 1) lc ((0, x - y) :: st) sh mem) : mmT B d kc ks Q pc lc ((0, y) :: (0, x) :: st) sh mem := by
  intro p l e R s m args below meth c G H locs cells slots ls X
  have h := k p l e R s m args below meth c G H locs cells slots ls X
  change W p l e R s m args below meth c H locs cells slots _ (F0 m (pc + 1) ls (.int (Int32.ofInt (x - y)) :: st.map (mmEnc G))) at h
  rw [Int32.ofInt_sub] at h
  exact lv_isub X.1.1 X.1.2.1 hd h
theorem st_imul {x y : Int} (hd : decode B.2.1 pc = .ok (.imul, 1)) (k : mmT B d kc ks Q (pc + 1) lc ((0, x * y) :: st) sh mem) : mmT B d kc ks Q pc lc ((0, y) :: (0, x) :: st) sh mem := by
  intro p l e R s m args below meth c G H locs cells slots ls X
  have h := k p l e R s m args below meth c G H locs cells slots ls X
  change W p l e R s m args below meth c H locs cells slots _ (F0 m (pc + 1) ls (.int (Int32.ofInt (x * y)) :: st.map (mmEnc G))) at h
  rw [Int32.ofInt_mul] at h
  exact lv_imul X.1.1 X.1.2.1 hd h
theorem st_ladd {x y : Int} (hd : decode B.2.1 pc = .ok (.ladd, 1)) (k : mmT B d kc ks Q (pc + 1) lc ((1, x + y) :: st) sh mem) : mmT B d kc ks Q pc lc ((1, y) :: (1, x) :: st) sh mem := by
  intro p l e R s m args below meth c G H locs cells slots ls X
  have h := k p l e R s m args below meth c G H locs cells slots ls X
  change W p l e R s m args below meth c H locs cells slots _ (F0 m (pc + 1) ls (.long (Int64.ofInt (x + y)) :: st.map (mmEnc G))) at h
  rw [Int64.ofInt_add] at h
  exact lv_ladd X.1.1 X.1.2.1 hd h
theorem st_lsub {x y : Int} (hd : decode B.2.1 pc = .ok (.lsub, 1)) (k : mmT B d kc ks Q (pc + 1) lc ((1, x - y) :: st) sh mem) : mmT B d kc ks Q pc lc ((1, y) :: (1, x) :: st) sh mem := by
  intro p l e R s m args below meth c G H locs cells slots ls X
  have h := k p l e R s m args below meth c G H locs cells slots ls X
  change W p l e R s m args below meth c H locs cells slots _ (F0 m (pc + 1) ls (.long (Int64.ofInt (x - y)) :: st.map (mmEnc G))) at h
  rw [Int64.ofInt_sub] at h
  exact lv_lsub X.1.1 X.1.2.1 hd h
theorem st_lmul {x y : Int} (hd : decode B.2.1 pc = .ok (.lmul, 1)) (k : mmT B d kc ks Q (pc + 1) lc ((1, x * y) :: st) sh mem) : mmT B d kc ks Q pc lc ((1, y) :: (1, x) :: st) sh mem := by
  intro p l e R s m args below meth c G H locs cells slots ls X
  have h := k p l e R s m args below meth c G H locs cells slots ls X
  change W p l e R s m args below meth c H locs cells slots _ (F0 m (pc + 1) ls (.long (Int64.ofInt (x * y)) :: st.map (mmEnc G))) at h
  rw [Int64.ofInt_mul] at h
  exact lv_lmul X.1.1 X.1.2.1 hd h
theorem st_iand {x y : Int} (hd : decode B.2.1 pc = .ok (.iand, 1)) (k : mmT B d kc ks Q (pc + 1) lc ((0, and32 x y) :: st) sh mem) : mmT B d kc ks Q pc lc ((0, y) :: (0, x) :: st) sh mem := by
  intro p l e R s m args below meth c G H locs cells slots ls X
  have h := k p l e R s m args below meth c G H locs cells slots ls X
  change W p l e R s m args below meth c H locs cells slots _ (F0 m (pc + 1) ls (.int (Int32.ofInt (and32 x y)) :: st.map (mmEnc G))) at h
  unfold and32 at h
  rw [Int32.ofInt_toInt] at h
  exact lv_iand X.1.1 X.1.2.1 hd h
theorem st_ior {x y : Int} (hd : decode B.2.1 pc = .ok (.ior, 1)) (k : mmT B d kc ks Q (pc + 1) lc ((0, or32 x y) :: st) sh mem) : mmT B d kc ks Q pc lc ((0, y) :: (0, x) :: st) sh mem := by
  intro p l e R s m args below meth c G H locs cells slots ls X
  have h := k p l e R s m args below meth c G H locs cells slots ls X
  change W p l e R s m args below meth c H locs cells slots _ (F0 m (pc + 1) ls (.int (Int32.ofInt (or32 x y)) :: st.map (mmEnc G))) at h
  unfold or32 at h
  rw [Int32.ofInt_toInt] at h
  exact lv_ior X.1.1 X.1.2.1 hd h
theorem st_ixor {x y : Int} (hd : decode B.2.1 pc = .ok (.ixor, 1)) (k : mmT B d kc ks Q (pc + 1) lc ((0, xor32 x y) :: st) sh mem) : mmT B d kc ks Q pc lc ((0, y) :: (0, x) :: st) sh mem := by
  intro p l e R s m args below meth c G H locs cells slots ls X
  have h := k p l e R s m args below meth c G H locs cells slots ls X
  change W p l e R s m args below meth c H locs cells slots _ (F0 m (pc + 1) ls (.int (Int32.ofInt (xor32 x y)) :: st.map (mmEnc G))) at h
  unfold xor32 at h
  rw [Int32.ofInt_toInt] at h
  exact lv_ixor X.1.1 X.1.2.1 hd h
theorem st_ishl {x y : Int} (hd : decode B.2.1 pc = .ok (.ishl, 1)) (k : mmT B d kc ks Q (pc + 1) lc ((0, shl32 x y) :: st) sh mem) : mmT B d kc ks Q pc lc ((0, y) :: (0, x) :: st) sh mem := by
  intro p l e R s m args below meth c G H locs cells slots ls X
  have h := k p l e R s m args below meth c G H locs cells slots ls X
  change W p l e R s m args below meth c H locs cells slots _ (F0 m (pc + 1) ls (.int (Int32.ofInt (shl32 x y)) :: st.map (mmEnc G))) at h
  unfold shl32 at h
  rw [Int32.ofInt_toInt] at h
  exact lv_ishl X.1.1 X.1.2.1 hd h
theorem st_ishr {x y : Int} (hd : decode B.2.1 pc = .ok (.ishr, 1)) (k : mmT B d kc ks Q (pc + 1) lc ((0, shr32 x y) :: st) sh mem) : mmT B d kc ks Q pc lc ((0, y) :: (0, x) :: st) sh mem := by
  intro p l e R s m args below meth c G H locs cells slots ls X
  have h := k p l e R s m args below meth c G H locs cells slots ls X
  change W p l e R s m args below meth c H locs cells slots _ (F0 m (pc + 1) ls (.int (Int32.ofInt (shr32 x y)) :: st.map (mmEnc G))) at h
  unfold shr32 at h
  rw [Int32.ofInt_toInt] at h
  exact lv_ishr X.1.1 X.1.2.1 hd h
theorem st_iushr {x y : Int} (hd : decode B.2.1 pc = .ok (.iushr, 1)) (k : mmT B d kc ks Q (pc + 1) lc ((0, ushr32 x y) :: st) sh mem) : mmT B d kc ks Q pc lc ((0, y) :: (0, x) :: st) sh mem := by
  intro p l e R s m args below meth c G H locs cells slots ls X
  have h := k p l e R s m args below meth c G H locs cells slots ls X
  change W p l e R s m args below meth c H locs cells slots _ (F0 m (pc + 1) ls (.int (Int32.ofInt (ushr32 x y)) :: st.map (mmEnc G))) at h
  unfold ushr32 at h
  rw [Int32.ofInt_toInt] at h
  exact lv_iushr X.1.1 X.1.2.1 hd rfl h
theorem st_ineg {x : Int} (hd : decode B.2.1 pc = .ok (.ineg, 1)) (k : mmT B d kc ks Q (pc + 1) lc ((0, -x) :: st) sh mem) : mmT B d kc ks Q pc lc ((0, x) :: st) sh mem := by
  intro p l e R s m args below meth c G H locs cells slots ls X
  have h := k p l e R s m args below meth c G H locs cells slots ls X
  change W p l e R s m args below meth c H locs cells slots _ (F0 m (pc + 1) ls (.int (Int32.ofInt (-x)) :: st.map (mmEnc G))) at h
  rw [Int32.ofInt_neg] at h
  exact lv_ineg X.1.1 X.1.2.1 hd h
theorem st_land {x y : Int} (hd : decode B.2.1 pc = .ok (.land, 1)) (k : mmT B d kc ks Q (pc + 1) lc ((1, and64 x y) :: st) sh mem) : mmT B d kc ks Q pc lc ((1, y) :: (1, x) :: st) sh mem := by
  intro p l e R s m args below meth c G H locs cells slots ls X
  have h := k p l e R s m args below meth c G H locs cells slots ls X
  change W p l e R s m args below meth c H locs cells slots _ (F0 m (pc + 1) ls (.long (Int64.ofInt (and64 x y)) :: st.map (mmEnc G))) at h
  unfold and64 at h
  rw [Int64.ofInt_toInt] at h
  exact lv_land X.1.1 X.1.2.1 hd h
theorem st_lor {x y : Int} (hd : decode B.2.1 pc = .ok (.lor, 1)) (k : mmT B d kc ks Q (pc + 1) lc ((1, or64 x y) :: st) sh mem) : mmT B d kc ks Q pc lc ((1, y) :: (1, x) :: st) sh mem := by
  intro p l e R s m args below meth c G H locs cells slots ls X
  have h := k p l e R s m args below meth c G H locs cells slots ls X
  change W p l e R s m args below meth c H locs cells slots _ (F0 m (pc + 1) ls (.long (Int64.ofInt (or64 x y)) :: st.map (mmEnc G))) at h
  unfold or64 at h
  rw [Int64.ofInt_toInt] at h
  exact lv_lor X.1.1 X.1.2.1 hd h
theorem st_lshl {x y : Int} (hd : decode B.2.1 pc = .ok (.lshl, 1)) (k : mmT B d kc ks Q (pc + 1) lc ((1, shl64 x y) :: st) sh mem) : mmT B d kc ks Q pc lc ((0, y) :: (1, x) :: st) sh mem := by
  intro p l e R s m args below meth c G H locs cells slots ls X
  have h := k p l e R s m args below meth c G H locs cells slots ls X
  change W p l e R s m args below meth c H locs cells slots _ (F0 m (pc + 1) ls (.long (Int64.ofInt (shl64 x y)) :: st.map (mmEnc G))) at h
  unfold shl64 at h
  rw [Int64.ofInt_toInt] at h
  exact lv_lshl X.1.1 X.1.2.1 hd rfl h
theorem st_lushr {x y : Int} (hd : decode B.2.1 pc = .ok (.lushr, 1)) (k : mmT B d kc ks Q (pc + 1) lc ((1, ushr64 x y) :: st) sh mem) : mmT B d kc ks Q pc lc ((0, y) :: (1, x) :: st) sh mem := by
  intro p l e R s m args below meth c G H locs cells slots ls X
  have h := k p l e R s m args below meth c G H locs cells slots ls X
  change W p l e R s m args below meth c H locs cells slots _ (F0 m (pc + 1) ls (.long (Int64.ofInt (ushr64 x y)) :: st.map (mmEnc G))) at h
  unfold ushr64 at h
  rw [Int64.ofInt_toInt] at h
  exact lv_lushr X.1.1 X.1.2.1 hd rfl h
theorem mm_ne32 {y : Int} (h : w32 y ≠ 0) : ¬ Int32.ofInt y = 0 := fun q => h (by rw [← w32_toInt, q]; rfl)
theorem mm_ne64 {y : Int} (h : w64 y ≠ 0) : ¬ Int64.ofInt y = 0 := fun q => h (by rw [← w64_toInt, q]; rfl)
theorem st_idiv {x y : Int} (hy : w32 y ≠ 0) (hd : decode B.2.1 pc = .ok (.idiv, 1)) (k : mmT B d kc ks Q (pc + 1) lc ((0, div32 x y) :: st) sh mem) : mmT B d kc ks Q pc lc ((0, y) :: (0, x) :: st) sh mem := by
  intro p l e R s m args below meth c G H locs cells slots ls X
  have h := k p l e R s m args below meth c G H locs cells slots ls X
  change W p l e R s m args below meth c H locs cells slots _ (F0 m (pc + 1) ls (.int (Int32.ofInt (div32 x y)) :: st.map (mmEnc G))) at h
  unfold div32 at h
  rw [Int32.ofInt_toInt] at h
  exact lv_idiv X.1.1 X.1.2.1 hd (mm_ne32 hy) h
theorem st_irem {x y : Int} (hy : w32 y ≠ 0) (hd : decode B.2.1 pc = .ok (.irem, 1)) (k : mmT B d kc ks Q (pc + 1) lc ((0, rem32 x y) :: st) sh mem) : mmT B d kc ks Q pc lc ((0, y) :: (0, x) :: st) sh mem := by
  intro p l e R s m args below meth c G H locs cells slots ls X
  have h := k p l e R s m args below meth c G H locs cells slots ls X
  change W p l e R s m args below meth c H locs cells slots _ (F0 m (pc + 1) ls (.int (Int32.ofInt (rem32 x y)) :: st.map (mmEnc G))) at h
  unfold rem32 at h
  rw [Int32.ofInt_toInt] at h
  exact lv_irem X.1.1 X.1.2.1 hd (mm_ne32 hy) h
theorem st_ldiv {x y : Int} (hy : w64 y ≠ 0) (hd : decode B.2.1 pc = .ok (.ldiv, 1)) (k : mmT B d kc ks Q (pc + 1) lc ((1, div64 x y) :: st) sh mem) : mmT B d kc ks Q pc lc ((1, y) :: (1, x) :: st) sh mem := by
  intro p l e R s m args below meth c G H locs cells slots ls X
  have h := k p l e R s m args below meth c G H locs cells slots ls X
  change W p l e R s m args below meth c H locs cells slots _ (F0 m (pc + 1) ls (.long (Int64.ofInt (div64 x y)) :: st.map (mmEnc G))) at h
  unfold div64 at h
  rw [Int64.ofInt_toInt] at h
  exact lv_ldiv X.1.1 X.1.2.1 hd (mm_ne64 hy) h
theorem st_lrem {x y : Int} (hy : w64 y ≠ 0) (hd : decode B.2.1 pc = .ok (.lrem, 1)) (k : mmT B d kc ks Q (pc + 1) lc ((1, rem64 x y) :: st) sh mem) : mmT B d kc ks Q pc lc ((1, y) :: (1, x) :: st) sh mem := by
  intro p l e R s m args below meth c G H locs cells slots ls X
  have h := k p l e R s m args below meth c G H locs cells slots ls X
  change W p l e R s m args below meth c H locs cells slots _ (F0 m (pc + 1) ls (.long (Int64.ofInt (rem64 x y)) :: st.map (mmEnc G))) at h
  unfold rem64 at h
  rw [Int64.ofInt_toInt] at h
  exact lv_lrem X.1.1 X.1.2.1 hd (mm_ne64 hy) h
theorem st_i2l {x : Int} (hd : decode B.2.1 pc = .ok (.i2l, 1)) (k : mmT B d kc ks Q (pc + 1) lc ((1, w32 x) :: st) sh mem) : mmT B d kc ks Q pc lc ((0, x) :: st) sh mem := by
  intro p l e R s m args below meth c G H locs cells slots ls X
  have h := k p l e R s m args below meth c G H locs cells slots ls X
  exact lv_i2l X.1.1 X.1.2.1 hd (v := Int64.ofInt (w32 x)) (Int64.toInt_inj.mp (by rw [Int32.toInt_toInt64, w32_toInt, w64_toInt, w64_id (by have := w32_rng x; omega) (by have := w32_rng x; omega)])) h
theorem st_l2i {x : Int} (hd : decode B.2.1 pc = .ok (.l2i, 1)) (k : mmT B d kc ks Q (pc + 1) lc ((0, x) :: st) sh mem) : mmT B d kc ks Q pc lc ((1, x) :: st) sh mem := by
  intro p l e R s m args below meth c G H locs cells slots ls X
  have h := k p l e R s m args below meth c G H locs cells slots ls X
  exact lv_l2i X.1.1 X.1.2.1 hd (v := Int32.ofInt x) Int64.toInt32_ofInt h
theorem st_lcmp {x y : Int} (hd : decode B.2.1 pc = .ok (.lcmp, 1)) (k : mmT B d kc ks Q (pc + 1) lc ((0, cmp64 x y) :: st) sh mem) : mmT B d kc ks Q pc lc ((1, y) :: (1, x) :: st) sh mem := by
  intro p l e R s m args below meth c G H locs cells slots ls X
  have h := k p l e R s m args below meth c G H locs cells slots ls X
  have e : lg_cmp (Int64.ofInt x) (Int64.ofInt y) = Int32.ofInt (cmp64 x y) := by
    unfold lg_cmp cmp64
    have h1 : (Int64.ofInt y < Int64.ofInt x) ↔ w64 y < w64 x := by rw [Int64.lt_iff_toInt_lt, w64_toInt, w64_toInt]
    have h2 : (Int64.ofInt x = Int64.ofInt y) ↔ w64 x = w64 y := by rw [← Int64.toInt_inj, w64_toInt, w64_toInt]
    simp only [h1, h2]
    split
    · rfl
    · split <;> rfl
  exact W.lcmp X.1.1 X.1.2.1 hd (by rw [e]; exact h)
theorem st_dup {v : mmV} (hv : v.1 ≠ 1) (hd : decode B.2.1 pc = .ok (.dup, 1)) (k : mmT B d kc ks Q (pc + 1) lc (v :: v :: st) sh mem) : mmT B d kc ks Q pc lc (v :: st) sh mem := by
  intro p l e R s m args below meth c G H locs cells slots ls X
  have h := k p l e R s m args below meth c G H locs cells slots ls X
  exact lv_dup X.1.1 X.1.2.1 hd (mm_cat1 G hv) h
theorem st_dup_x1 {v w : mmV} (hv : v.1 ≠ 1) (hw : w.1 ≠ 1) (hd : decode B.2.1 pc = .ok (.dup_x1, 1)) (k : mmT B d kc ks Q (pc + 1) lc (v :: w :: v :: st) sh mem) : mmT B d kc ks Q pc lc (v :: w :: st) sh mem := by
  intro p l e R s m args below meth c G H locs cells slots ls X
  have h := k p l e R s m args below meth c G H locs cells slots ls X
  exact lv_dup_x1 X.1.1 X.1.2.1 hd (mm_cat1 G hv) (mm_cat1 G hw) h
theorem st_dup2 {v w : mmV} (hv : v.1 ≠ 1) (hw : w.1 ≠ 1) (hd : decode B.2.1 pc = .ok (.dup2, 1)) (k : mmT B d kc ks Q (pc + 1) lc (v :: w :: v :: w :: st) sh mem) : mmT B d kc ks Q pc lc (v :: w :: st) sh mem := by
  intro p l e R s m args below meth c G H locs cells slots ls X
  have h := k p l e R s m args below meth c G H locs cells slots ls X
  exact lv_dup2_11 X.1.1 X.1.2.1 hd (mm_cat1 G hv) (mm_cat1 G hw) h
theorem st_pop {v : mmV} (hv : v.1 ≠ 1) (hd : decode B.2.1 pc = .ok (.pop, 1)) (k : mmT B d kc ks Q (pc + 1) lc (st) sh mem) : mmT B d kc ks Q pc lc (v :: st) sh mem := by
  intro p l e R s m args below meth c G H locs cells slots ls X
  have h := k p l e R s m args below meth c G H locs cells slots ls X
  exact lv_pop X.1.1 X.1.2.1 hd (mm_cat1 G hv) h
theorem st_goto {off : Int} (tgt : Nat) (ht : (pc : Int) + off = (tgt : Int)) (hd : decode B.2.1 pc = .ok (.goto off, 3)) (k : mmT B d kc ks Q tgt lc st sh mem) : mmT B d kc ks Q pc lc st sh mem :=
  fun p l e R s m args below meth c G H locs cells slots ls X => lv_goto X.1.1 X.1.2.1 hd ht (k p l e R s m args below meth c G H locs cells slots ls X)
theorem mm_lt32 {x y : Int} : (Int32.ofInt x < Int32.ofInt y) ↔ w32 x < w32 y := by rw [Int32.lt_iff_toInt_lt, w32_toInt, w32_toInt]
theorem mm_le32 {x y : Int} : (Int32.ofInt x ≤ Int32.ofInt y) ↔ w32 x ≤ w32 y := by rw [Int32.le_iff_toInt_le, w32_toInt, w32_toInt]
theorem mm_eq32 {x y : Int} : (Int32.ofInt x = Int32.ofInt y) ↔ w32 x = w32 y := by rw [← Int32.toInt_inj, w32_toInt, w32_toInt]
theorem mm_w0 : w32 0 = 0 := by decide
theorem st_icmp_eq {x y off : Int} (tgt : Nat) (ht : (pc : Int) + off = (tgt : Int)) (hd : decode B.2.1 pc = .ok (.if_icmp .eq off, 3)) (kt : w32 x = w32 y → mmT B d kc ks Q tgt lc st sh mem) (kf : ¬ (w32 x = w32 y) → mmT B d kc ks Q (pc + 3) lc st sh mem) : mmT B d kc ks Q pc lc ((0, y) :: (0, x) :: st) sh mem :=
  fun p l e R s m args below meth c G H locs cells slots ls X => lv_icmp_eq X.1.1 X.1.2.1 hd ht (fun h => kt (mm_eq32.mp h) p l e R s m args below meth c G H locs cells slots ls X) (fun h => kf (fun q => h (mm_eq32.mpr q)) p l e R s m args below meth c G H locs cells slots ls X)
theorem st_if_eq {x off : Int} (tgt : Nat) (ht : (pc : Int) + off = (tgt : Int)) (hd : decode B.2.1 pc = .ok (.ifCond .eq off, 3)) (kt : w32 x = 0 → mmT B d kc ks Q tgt lc st sh mem) (kf : ¬ (w32 x = 0) → mmT B d kc ks Q (pc + 3) lc st sh mem) : mmT B d kc ks Q pc lc ((0, x) :: st) sh mem :=
  fun p l e R s m args below meth c G H locs cells slots ls X => lv_if_eq X.1.1 X.1.2.1 hd ht (fun h => kt (by have q := mm_eq32.mp (show Int32.ofInt x = Int32.ofInt 0 from h); rw [mm_w0] at q; exact q) p l e R s m args below meth c G H locs cells slots ls X) (fun h => kf (fun q => h (show Int32.ofInt x = Int32.ofInt 0 from mm_eq32.mpr (by rw [mm_w0]; exact q))) p l e R s m args below meth c G H locs cells slots ls X)
theorem st_icmp_ne {x y off : Int} (tgt : Nat) (ht : (pc : Int) + off = (tgt : Int)) (hd : decode B.2.1 pc = .ok (.if_icmp .ne off, 3)) (kt : w32 x ≠ w32 y → mmT B d kc ks Q tgt lc st sh mem) (kf : w32 x = w32 y → mmT B d kc ks Q (pc + 3) lc st sh mem) : mmT B d kc ks Q pc lc ((0, y) :: (0, x) :: st) sh mem :=
  fun p l e R s m args below meth c G H locs cells slots ls X => lv_icmp_ne X.1.1 X.1.2.1 hd ht (fun h => kt ((not_congr mm_eq32).mp h) p l e R s m args below meth c G H locs cells slots ls X) (fun h => kf (mm_eq32.mp h) p l e R s m args below meth c G H locs cells slots ls X)
theorem st_if_ne {x off : Int} (tgt : Nat) (ht : (pc : Int) + off = (tgt : Int)) (hd : decode B.2.1 pc = .ok (.ifCond .ne off, 3)) (kt : w32 x ≠ 0 → mmT B d kc ks Q tgt lc st sh mem) (kf : w32 x = 0 → mmT B d kc ks Q (pc + 3) lc st sh mem) : mmT B d kc ks Q pc lc ((0, x) :: st) sh mem :=
  fun p l e R s m args below meth c G H locs cells slots ls X => lv_if_ne X.1.1 X.1.2.1 hd ht (fun h => kt (by have q := (not_congr mm_eq32).mp (show ¬ Int32.ofInt x = Int32.ofInt 0 from h); rw [mm_w0] at q; exact q) p l e R s m args below meth c G H locs cells slots ls X) (fun h => kf (by have q := mm_eq32.mp (show Int32.ofInt x = Int32.ofInt 0 from h); rw [mm_w0] at q; exact q) p l e R s m args below meth c G H locs cells slots ls X)
theorem st_icmp_lt {x y off : Int} (tgt : Nat) (ht : (pc : Int) + off = (tgt : Int)) (hd : decode B.2.1 pc = .ok (.if_icmp .lt off, 3)) (kt : w32 x < w32 y → mmT B d kc ks Q tgt lc st sh mem) (kf : ¬ (w32 x < w32 y) → mmT B d kc ks Q (pc + 3) lc st sh mem) : mmT B d kc ks Q pc lc ((0, y) :: (0, x) :: st) sh mem :=
  fun p l e R s m args below meth c G H locs cells slots ls X => lv_icmp_lt X.1.1 X.1.2.1 hd ht (fun h => kt (mm_lt32.mp h) p l e R s m args below meth c G H locs cells slots ls X) (fun h => kf (fun q => h (mm_lt32.mpr q)) p l e R s m args below meth c G H locs cells slots ls X)
theorem st_if_lt {x off : Int} (tgt : Nat) (ht : (pc : Int) + off = (tgt : Int)) (hd : decode B.2.1 pc = .ok (.ifCond .lt off, 3)) (kt : w32 x < 0 → mmT B d kc ks Q tgt lc st sh mem) (kf : ¬ (w32 x < 0) → mmT B d kc ks Q (pc + 3) lc st sh mem) : mmT B d kc ks Q pc lc ((0, x) :: st) sh mem :=
  fun p l e R s m args below meth c G H locs cells slots ls X => lv_if_lt X.1.1 X.1.2.1 hd ht (fun h => kt (by have q := mm_lt32.mp (show Int32.ofInt x < Int32.ofInt 0 from h); rw [mm_w0] at q; exact q) p l e R s m args below meth c G H locs cells slots ls X) (fun h => kf (fun q => h (show Int32.ofInt x < Int32.ofInt 0 from mm_lt32.mpr (by rw [mm_w0]; exact q))) p l e R s m args below meth c G H locs cells slots ls X)
theorem st_icmp_ge {x y off : Int} (tgt : Nat) (ht : (pc : Int) + off = (tgt : Int)) (hd : decode B.2.1 pc = .ok (.if_icmp .ge off, 3)) (kt : w32 x ≥ w32 y → mmT B d kc ks Q tgt lc st sh mem) (kf : ¬ (w32 x ≥ w32 y) → mmT B d kc ks Q (pc + 3) lc st sh mem) : mmT B d kc ks Q pc lc ((0, y) :: (0, x) :: st) sh mem :=
  fun p l e R s m args below meth c G H locs cells slots ls X => lv_icmp_ge X.1.1 X.1.2.1 hd ht (fun h => kt (mm_le32.mp h) p l e R s m args below meth c G H locs cells slots ls X) (fun h => kf (fun q => h (mm_le32.mpr q)) p l e R s m args below meth c G H locs cells slots ls X)
theorem st_if_ge {x off : Int} (tgt : Nat) (ht : (pc : Int) + off = (tgt : Int)) (hd : decode B.2.1 pc = .ok (.ifCond .ge off, 3)) (kt : w32 x ≥ 0 → mmT B d kc ks Q tgt lc st sh mem) (kf : ¬ (w32 x ≥ 0) → mmT B d kc ks Q (pc + 3) lc st sh mem) : mmT B d kc ks Q pc lc ((0, x) :: st) sh mem :=
  fun p l e R s m args below meth c G H locs cells slots ls X => lv_if_ge X.1.1 X.1.2.1 hd ht (fun h => kt (by have q := mm_le32.mp (show Int32.ofInt 0 ≤ Int32.ofInt x from h); rw [mm_w0] at q; exact q) p l e R s m args below meth c G H locs cells slots ls X) (fun h => kf (fun q => h (show Int32.ofInt 0 ≤ Int32.ofInt x from mm_le32.mpr (by rw [mm_w0]; exact q))) p l e R s m args below meth c G H locs cells slots ls X)
theorem st_icmp_gt {x y off : Int} (tgt : Nat) (ht : (pc : Int) + off = (tgt : Int)) (hd : decode B.2.1 pc = .ok (.if_icmp .gt off, 3)) (kt : w32 x > w32 y → mmT B d kc ks Q tgt lc st sh mem) (kf : ¬ (w32 x > w32 y) → mmT B d kc ks Q (pc + 3) lc st sh mem) : mmT B d kc ks Q pc lc ((0, y) :: (0, x) :: st) sh mem :=
  fun p l e R s m args below meth c G H locs cells slots ls X => lv_icmp_gt X.1.1 X.1.2.1 hd ht (fun h => kt (mm_lt32.mp h) p l e R s m args below meth c G H locs cells slots ls X) (fun h => kf (fun q => h (mm_lt32.mpr q)) p l e R s m args below meth c G H locs cells slots ls X)
theorem st_if_gt {x off : Int} (tgt : Nat) (ht : (pc : Int) + off = (tgt : Int)) (hd : decode B.2.1 pc = .ok (.ifCond .gt off, 3)) (kt : w32 x > 0 → mmT B d kc ks Q tgt lc st sh mem) (kf : ¬ (w32 x > 0) → mmT B d kc ks Q (pc + 3) lc st sh mem) : mmT B d kc ks Q pc lc ((0, x) :: st) sh mem :=
  fun p l e R s m args below meth c G H locs cells slots ls X => lv_if_gt X.1.1 X.1.2.1 hd ht (fun h => kt (by have q := mm_lt32.mp (show Int32.ofInt 0 < Int32.ofInt x from h); rw [mm_w0] at q; exact q) p l e R s m args below meth c G H locs cells slots ls X) (fun h => kf (fun q => h (show Int32.ofInt 0 < Int32.ofInt x from mm_lt32.mpr (by rw [mm_w0]; exact q))) p l e R s m args below meth c G H locs cells slots ls X)
theorem st_icmp_le {x y off : Int} (tgt : Nat) (ht : (pc : Int) + off = (tgt : Int)) (hd : decode B.2.1 pc = .ok (.if_icmp .le off, 3)) (kt : w32 x ≤ w32 y → mmT B d kc ks Q tgt lc st sh mem) (kf : ¬ (w32 x ≤ w32 y) → mmT B d kc ks Q (pc + 3) lc st sh mem) : mmT B d kc ks Q pc lc ((0, y) :: (0, x) :: st) sh mem :=
  fun p l e R s m args below meth c G H locs cells slots ls X => lv_icmp_le X.1.1 X.1.2.1 hd ht (fun h => kt (mm_le32.mp h) p l e R s m args below meth c G H locs cells slots ls X) (fun h => kf (fun q => h (mm_le32.mpr q)) p l e R s m args below meth c G H locs cells slots ls X)
theorem st_if_le {x off : Int} (tgt : Nat) (ht : (pc : Int) + off = (tgt : Int)) (hd : decode B.2.1 pc = .ok (.ifCond .le off, 3)) (kt : w32 x ≤ 0 → mmT B d kc ks Q tgt lc st sh mem) (kf : ¬ (w32 x ≤ 0) → mmT B d kc ks Q (pc + 3) lc st sh mem) : mmT B d kc ks Q pc lc ((0, x) :: st) sh mem :=
  fun p l e R s m args below meth c G H locs cells slots ls X => lv_if_le X.1.1 X.1.2.1 hd ht (fun h => kt (by have q := mm_le32.mp (show Int32.ofInt x ≤ Int32.ofInt 0 from h); rw [mm_w0] at q; exact q) p l e R s m args below meth c G H locs cells slots ls X) (fun h => kf (fun q => h (show Int32.ofInt x ≤ Int32.ofInt 0 from mm_le32.mpr (by rw [mm_w0]; exact q))) p l e R s m args below meth c G H locs cells slots ls X)
theorem st_ifnonnull {x off : Int} (tgt : Nat) (ht : (pc : Int) + off = (tgt : Int)) (hd : decode B.2.1 pc = .ok (.ifnonnull off, 3)) (kt : 0 ≤ x → mmT B d kc ks Q tgt lc st sh mem) (kf : x < 0 → mmT B d kc ks Q (pc + 3) lc st sh mem) : mmT B d kc ks Q pc lc ((2, x) :: st) sh mem := by
  intro p l e R s m args below meth c G H locs cells slots ls X
  show W p l e R s m args below meth c H locs cells slots _ (F0 m pc ls (va_rf (mmRf G x) :: st.map (mmEnc G)))
  by_cases h : x < 0
  · have e1 : mmRf G x = none := by unfold mmRf; rw [if_pos h]
    rw [e1]
    exact lv_ifnonnullN X.1.1 X.1.2.1 hd (kf h p l e R s m args below meth c G H locs cells slots ls X)
  · have e1 : mmRf G x = some (mmAt G x.toNat) := by unfold mmRf; rw [if_neg h]
    rw [e1]
    exact lv_ifnonnull X.1.1 X.1.2.1 hd ht (kt (by omega) p l e R s m args below meth c G H locs cells slots ls X)
theorem st_ifnull {x off : Int} (tgt : Nat) (ht : (pc : Int) + off = (tgt : Int)) (hd : decode B.2.1 pc = .ok (.ifnull off, 3)) (kt : x < 0 → mmT B d kc ks Q tgt lc st sh mem) (kf : 0 ≤ x → mmT B d kc ks Q (pc + 3) lc st sh mem) : mmT B d kc ks Q pc lc ((2, x) :: st) sh mem := by
  intro p l e R s m args below meth c G H locs cells slots ls X
  show W p l e R s m args below meth c H locs cells slots _ (F0 m pc ls (va_rf (mmRf G x) :: st.map (mmEnc G)))
  by_cases h : x < 0
  · have e1 : mmRf G x = none := by unfold mmRf; rw [if_pos h]
    rw [e1]
    exact lv_ifnullN X.1.1 X.1.2.1 hd ht (kt h p l e R s m args below meth c G H locs cells slots ls X)
  · have e1 : mmRf G x = some (mmAt G x.toNat) := by unfold mmRf; rw [if_neg h]
    rw [e1]
    exact lv_ifnull X.1.1 X.1.2.1 hd (kf (by omega) p l e R s m args below meth c G H locs cells slots ls X)
theorem st_aconst_null (hd : decode B.2.1 pc = .ok (.aconst_null, 1)) (k : mmT B d kc ks Q (pc + 1) lc ((2, -1) :: st) sh mem) : mmT B d kc ks Q pc lc st sh mem :=
  fun p l e R s m args below meth c G H locs cells slots ls X => lv_null X.1.1 X.1.2.1 hd (k p l e R s m args below meth c G H locs cells slots ls X)
theorem st_tableOut {df lo hi x : Int} {offs : Array Int} {len : Nat} (tgt : Nat) (h : w32 x < lo ∨ hi < w32 x) (ht : (pc : Int) + df = (tgt : Int)) (hd : decode B.2.1 pc = .ok (.tableswitch df lo hi offs, len)) (k : mmT B d kc ks Q tgt lc st sh mem) : mmT B d kc ks Q pc lc ((0, x) :: st) sh mem :=
  fun p l e R s m args below meth c G H locs cells slots ls X => lv_tableOut X.1.1 X.1.2.1 hd (by rw [w32_toInt]; exact h) ht (k p l e R s m args below meth c G H locs cells slots ls X)
theorem st_tableIn {df lo hi x off : Int} {offs : Array Int} {len : Nat} (tgt : Nat) (h1 : ¬ w32 x < lo) (h2 : ¬ hi < w32 x) (ho : offs[(w32 x - lo).toNat]? = some off) (ht : (pc : Int) + off = (tgt : Int)) (hd : decode B.2.1 pc = .ok (.tableswitch df lo hi offs, len)) (k : mmT B d kc ks Q tgt lc st sh mem) : mmT B d kc ks Q pc lc ((0, x) :: st) sh mem :=
  fun p l e R s m args below meth c G H locs cells slots ls X => lv_tableIn X.1.1 X.1.2.1 hd (by rw [w32_toInt]; exact h1) (by rw [w32_toInt]; exact h2) (by rw [w32_toInt]; exact ho) ht (k p l e R s m args below meth c G H locs cells slots ls X)
theorem st_lookup {df x off : Int} {ps : Array (Int × Int)} {len : Nat} (tgt : Nat) (hp : (ps.toList.zip (ps.toList.drop 1)).all (fun (a, next) => a.1 < next.1) = true) (ho : Op.lookupswitch.offset ps.toList df (w32 x) = off) (ht : (pc : Int) + off = (tgt : Int)) (hd : decode B.2.1 pc = .ok (.lookupswitch df ps, len)) (k : mmT B d kc ks Q tgt lc st sh mem) : mmT B d kc ks Q pc lc ((0, x) :: st) sh mem :=
  fun p l e R s m args below meth c G H locs cells slots ls X => lv_lookup X.1.1 X.1.2.1 hd hp (by rw [w32_toInt]; exact ho) ht (k p l e R s m args below meth c G H locs cells slots ls X)
/-- a local that is said no more, or another list of locals that holds no more -/
def mmWk : List mmV → List mmV → Prop
  | [], _ => True
  | a :: as, b :: bs => (a.1 = 9 ∨ a = b) ∧ mmWk as bs
  | _ :: _, [] => False
theorem mmWk.at : ∀ {l' l : List mmV}, mmWk l' l → ∀ (i : Nat) (v : mmV), l'[i]? = some v → v.1 < 9 → l[i]? = some v
  | [], _, _, i, v, h, _ => by simp at h
  | a :: as, b :: bs, hw, i, v, h, hv => by
    cases i with
    | zero =>
      simp only [List.getElem?_cons_zero, Option.some.injEq] at h ⊢
      subst h
      rcases hw.1 with h1 | h1
      · omega
      · exact h1.symm
    | succ i =>
      simp only [List.getElem?_cons_succ] at h ⊢
      exact mmWk.at hw.2 i v h hv
theorem st_locals (lc' : List mmV) (h : mmWk lc' lc) (k : mmT B d kc ks Q pc lc' st sh mem) : mmT B d kc ks Q pc lc st sh mem := by
  intro p l e R s m args below meth c G H locs cells slots ls X
  obtain ⟨lv, h1, h2⟩ := X.2.2.2.2.1
  exact k p l e R s m args below meth c G H locs cells slots ls (mm_relc X ⟨lv, h1, fun i v hi hv => h2 i v (h.at i v hi hv) hv⟩)
end MMar
end
section
/-! what is written and read -/
def mset (mem : mmM) (a : Nat) (k v : Int) : mmM := fun a' k' => if a' = a ∧ k' = k then v else mem a' k'
def mrow (mem : mmM) (a : Nat) (f : Int → Int) : mmM := fun a' => if a' = a then f else mem a'
theorem mset_ne {mem : mmM} {a a' : Nat} {k v : Int} (h : a' ≠ a) : mset mem a k v a' = mem a' := by
  funext k'
  simp [mset, h]
theorem mset_same (mem : mmM) (a : Nat) (k v : Int) : mset mem a k v a k = v := by simp [mset]
theorem mset_at (mem : mmM) (a : Nat) (k v j : Int) : mset mem a k v a j = if j = k then v else mem a j := by simp [mset]
theorem mrow_ne {mem : mmM} {a a' : Nat} {f : Int → Int} (h : a' ≠ a) : mrow mem a f a' = mem a' := by simp [mrow, h]
theorem mrow_same (mem : mmM) (a : Nat) (f : Int → Int) : mrow mem a f a = f := by simp [mrow]
theorem mm_cell (G : mmG) (cA : ClassId) (t n : Nat) (f : Int → Int) : vp_cell cA (n, mmA G t f) = arrV cA n (fun j => mmEnc G (mm_at t, f j)) := by
  unfold mmA mm_at
  split
  · rfl
  · split
    · rfl
    · rfl
theorem mmW_get {G : mmG} {sh : List (Nat × Nat)} {mem : mmM} {a : Nat} {q : Nat × Nat} (h : sh[a]? = some q) : (mmW G sh mem)[a]? = some (mmAt G a, mmE G q (mem a)) := by
  have hl := (List.getElem?_eq_some_iff.mp h).1
  unfold mmW
  rw [List.getElem?_map, List.getElem?_range hl]
  simp [List.getD, h]
theorem mmW_len {G : mmG} {sh : List (Nat × Nat)} {mem : mmM} : (mmW G sh mem).length = sh.length := by simp [mmW]
theorem mmW_of {G : mmG} {sh : List (Nat × Nat)} {mem : mmM} {k : Nat} {x : Nat × va_E} (h : (mmW G sh mem)[k]? = some x) : ∃ q, sh[k]? = some q ∧ x = (mmAt G k, mmE G q (mem k)) := by
  have hl : k < sh.length := by
    have := (List.getElem?_eq_some_iff.mp h).1
    rwa [mmW_len] at this
  refine ⟨sh[k], List.getElem?_eq_getElem hl, ?_⟩
  rw [mmW_get (List.getElem?_eq_getElem hl)] at h
  exact (Option.some.inj h).symm
theorem mmAt_inj {G : mmG} {i j : Nat} (h : G.1.2 + 65 ≤ G.2.2.2.1.1) (e : mmAt G i = mmAt G j) : i = j := by
  unfold mmAt at e
  split at e <;> split at e <;> omega
theorem mmAt_ad {G : mmG} {n z a : Nat} {b : Bool} (h : mmHo G n b z) (ha : a < n) : mmAd G (mmAt G a) := by
  obtain ⟨h1, -, h3⟩ := h
  unfold mmAd mmAt
  split <;> omega
theorem mmAt_lt {G : mmG} {i j : Nat} (h : G.1.2 + 65 ≤ G.2.2.2.1.1) (e : i < j) : mmAt G i < mmAt G j := by
  unfold mmAt
  split <;> split <;> omega
theorem mmAt_succ {G : mmG} {n z : Nat} (h : mmHo G n true z) : mmAt G (n + 1) = mmAt G n + 1 := by
  obtain ⟨-, h2, -⟩ := h
  have h3 := h2 rfl
  unfold mmAt
  by_cases e : n = 64
  · subst e
    rw [if_neg (by decide), if_pos (by decide), h3 (by decide)]
  · split <;> split <;> omega
theorem mmHo_new {G : mmG} {n z z' : Nat} (h : mmHo G n true z) (hz : z ≤ z') : mmHo G (n + 1) true z' := ⟨h.1, fun _ hn => h.2.1 rfl (by omega), h.2.2.imp id (fun w => ⟨w.1, Nat.le_trans w.2.1 hz, Or.inr (w.2.2.2 rfl), w.2.2.2⟩)⟩
theorem mmAt_ge {G : mmG} {a : Nat} (h : G.1.2 + 65 ≤ G.2.2.2.1.1) : G.1.2 ≤ mmAt G a := by
  unfold mmAt
  split <;> omega
theorem mmW_D {G : mmG} {sh : List (Nat × Nat)} {mem : mmM} {b : Bool} {z : Nat} (h : mmHo G sh.length b z) : va_D (mmAd G) (mmW G sh mem) := by
  refine ⟨fun i j p q hi hj hpq => ?_, fun k q hk => ?_⟩
  · obtain ⟨x, -, rfl⟩ := mmW_of hi
    obtain ⟨y, -, rfl⟩ := mmW_of hj
    exact mmAt_inj h.1 hpq
  · obtain ⟨x, hx, rfl⟩ := mmW_of hk
    exact mmAt_ad h (List.getElem?_eq_some_iff.mp hx).1
theorem mm_fits {ty : FieldType} {G : mmG} {v : Int} (hty : ty = .int ∨ ty = .long ∨ ((ty = .boolean ∨ ty = .byte) ∧ (v = 0 ∨ v = 1)) ∨ (∃ n, ty = .object n) ∨ ∃ n, ty = .array n) : narrow ty (mmEnc G (mm_tg ty, v)) = mmEnc G (mm_tg ty, v) ∧ fits ty (mmEnc G (mm_tg ty, v)) = true := by
  rcases hty with rfl | rfl | ⟨rfl | rfl, hv⟩ | ⟨n, rfl⟩ | ⟨n, rfl⟩
  · exact ⟨rfl, rfl⟩
  · exact ⟨rfl, rfl⟩
  · rcases hv with rfl | rfl <;> exact ⟨rfl, rfl⟩
  · rcases hv with rfl | rfl <;> exact ⟨rfl, rfl⟩
  · show narrow (.object n) (va_rf (mmRf G v)) = va_rf (mmRf G v) ∧ fits (.object n) (va_rf (mmRf G v)) = true
    unfold mmRf
    split <;> exact ⟨rfl, rfl⟩
  · show narrow (.array n) (va_rf (mmRf G v)) = va_rf (mmRf G v) ∧ fits (.array n) (va_rf (mmRf G v)) = true
    unfold mmRf
    split <;> exact ⟨rfl, rfl⟩
theorem mFix_set {mem : mmM} {a : Nat} {k v : Int} (h : mFix mem) (hk : fixOK a k = true) : mFix (mset mem a k v) := by
  intro q hq
  have h1 := List.all_eq_true.mp hk q hq
  show mset mem a k v q.1 q.2.1 = q.2.2
  unfold mset
  rw [if_neg (fun e => by rw [e.1, e.2] at h1; simp at h1)]
  exact h q hq
theorem fix_row {a : Nat} (h : fixRow a = true) (k : Int) : fixOK a k = true := by
  refine List.all_eq_true.mpr fun q hq => ?_
  have h1 := List.all_eq_true.mp h q hq
  simp only [Bool.not_eq_true', beq_eq_false_iff_ne, ne_eq] at h1
  simp [h1]
theorem mCan_set {sh : List (Nat × Nat)} {mem : mmM} {a : Nat} {k v : Int} {q : Nat × Nat} (h : mCan sh mem) (hq : sh[a]? = some q) (h9 : a ≠ 999) (hv : (mTag q k = 0 → R32 v) ∧ (mTag q k = 1 → R64 v)) : mCan sh (mset mem a k v) := by
  refine ⟨fun a' q' k' hq' => ?_, fun k' => by rw [mset_ne (Ne.symm h9)]; exact h.2 k'⟩
  unfold mset
  by_cases e : a' = a ∧ k' = k
  · obtain ⟨rfl, rfl⟩ := e
    cases hq.symm.trans hq'
    rw [if_pos ⟨rfl, rfl⟩]
    exact hv
  · rw [if_neg e]
    exact h.1 a' q' k' hq'
theorem mCan_row {sh sh' : List (Nat × Nat)} {mem : mmM} {a : Nat} {f : Int → Int} {q : Nat × Nat} (h : mCan sh mem) (hq : sh'[a]? = some q) (hs : ∀ a', a' ≠ a → sh'[a']? = some q → True) (ho : ∀ (a' : Nat) (q' : Nat × Nat), a' ≠ a → sh'[a']? = some q' → sh[a']? = some q') (h9 : a ≠ 999) (hv : ∀ k, (mTag q k = 0 → R32 (f k)) ∧ (mTag q k = 1 → R64 (f k))) : mCan sh' (mrow mem a f) := by
  refine ⟨fun a' q' k' hq' => ?_, fun k' => by rw [mrow_ne (Ne.symm h9)]; exact h.2 k'⟩
  by_cases e : a' = a
  · subst e
    cases hq.symm.trans hq'
    rw [mrow_same]
    exact hv k'
  · rw [mrow_ne e]
    exact h.1 a' q' k' (ho a' q' e hq')
/-- one cell is written -/
theorem mmR_put {G : mmG} {sh : mmS} {mem : mmM} {s : State} {H H1 : Heap} {a : Nat} {k v : Int} {q : Nat × Nat} (hR : mmR G sh mem s H) (hfx : sh.1 = false → fixOK a k = true) (hv : (mTag q k = 0 → R32 v) ∧ (mTag q k = 1 → R64 v)) (hq : sh.2[a]? = some q) (he : va_at G.2.1 vwCl (mmAt G a, mmE G q (mset mem a k v a)) H1) (hz : H1.size = H.size) (ho : ∀ x : Nat, x ≠ mmAt G a → H1[x]? = H[x]?) : mmR G sh (mset mem a k v) s H1 := by
  obtain ⟨h1, h2, h3, h4, h5, h6, h7, h8, h9⟩ := hR
  have hal : a < sh.2.length := (List.getElem?_eq_some_iff.mp hq).1
  refine ⟨fun h => by rw [hz]; exact h1 h, h2, fun k' x hx => ?_, ?_, h5, by rw [hz]; exact h6, h7, fun h => mFix_set (h8 h) (hfx h), mCan_set h9 hq (by omega) hv⟩
  · obtain ⟨q', hq', rfl⟩ := mmW_of hx
    by_cases e : k' = a
    · subst e
      cases hq.symm.trans hq'
      exact he
    · rw [mset_ne e]
      exact (h3 k' _ (mmW_get hq')).kept (ho _ (fun w => e (mmAt_inj h4.2.1 w)))
  · rw [mset_ne (show 999 ≠ a by omega)]
    exact ⟨h4.1.kept (ho _ (by have := mmAt_ge (a := a) h4.2.1; omega)), by rw [hz]; exact h4.2⟩
theorem mmR_rfl {G : mmG} {r : Int} {a : Nat} (h : r = (a : Int)) : mmRf G r = some (mmAt G a) := by
  subst h
  unfold mmRf
  rw [if_neg (by omega)]
  simp
theorem mm_idx {i : Int} {n : Nat} (h1 : 0 ≤ i) (h2 : i < n) (hn : n < 2147483648) : vp_in (Int32.ofInt i) n ∧ ((Int32.ofInt i).toNatClampNeg : Int) = i := by
  have e : (Int32.ofInt i).toInt = i := by rw [w32_toInt, w32_id (by omega) (by omega)]
  have e2 : ((Int32.ofInt i).toNatClampNeg : Int) = i := by
    rw [← Int32.toNat_toInt, e]
    omega
  refine ⟨fun h => ?_, e2⟩
  rcases h with h | h
  · rw [Int32.lt_iff_toInt_lt, e] at h
    have : (0 : Int32).toInt = 0 := rfl
    omega
  · omega
/-- what the tables say of an instruction that reads or writes a field -/
def mmFR (own : String) (idx ci N k tg : Nat) : Prop := ∃ (C : String) (T : u_T) (ref : String), vwCl[ci]? = some (C, T, N) ∧ ci < 20 ∧ k < N ∧ tg = mm_tg (mm_clTy ci k) ∧ (∀ w ∈ u_ws C T N, w ∈ mm_tbl) ∧ Cond.fieldLink own idx ref (T k).2.1 (T k).2.2.1 ∈ mm_tbl ∧ (ref = (T k).1 ∨ Cond.sameField ref (T k).1 (T k).2.1 (T k).2.2.1 ∈ mm_tbl)
def mmTy (ci : Nat) : Prop := ∃ (C : String) (T : u_T) (N : Nat), vwCl[ci]? = some (C, T, N) ∧ (∀ k, k < N → parseFieldDescriptor (T k).2.2.1 = some (mm_clTy ci k)) ∧ ∀ a, a < N → ∀ b, b < N → a ≠ b → (T a).2.1 ≠ (T b).2.1
theorem mmFs_get {G : mmG} {ci N k : Nat} {f : Int → Int} (h : k < N) : (mmFs G ci N f)[k]? = some (mmEnc G (mm_tg (mm_clTy ci k), f k)) := by
  unfold mmFs
  rw [List.getElem?_map, List.getElem?_range h]
  rfl
section MMhp
variable {B : mmB} {d kc ks : Nat} {Q : mmQ} {pc : Nat} {lc st : List mmV} {sh : mmS} {mem : mmM}
theorem st_getfield {idx ci N tg : Nat} {r v : Int} (a k : Nat) (hf : mmFR B.1.cls idx ci N k tg) (hr : r = (a : Int)) (hs : sh.2[a]? = some (ci, N)) (hv : mem a k = v) (hd : decode B.2.1 pc = .ok (.getfield idx, 3)) (kk : mmT B d kc ks Q (pc + 3) lc ((tg, v) :: st) sh mem) : mmT B d kc ks Q pc lc ((2, r) :: st) sh mem := by
  intro p l e R s m args below meth c G H locs cells slots ls X
  obtain ⟨C, T, ref, e1, e0, e2, e3, e4, e5, e6⟩ := hf
  have h := kk p l e R s m args below meth c G H locs cells slots ls X
  subst e3; subst hv
  have hw := mmW_get (G := G) (mem := mem) hs
  unfold mmE at hw
  rw [if_pos (show (ci, N).1 < 20 from e0)] at hw
  show W p l e R s m args below meth c H locs cells slots _ (F0 m pc ls (va_rf (mmRf G r) :: st.map (mmEnc G)))
  rw [mmR_rfl hr]
  refine va_get (C := C) (T := T) (N := N) (ci := ci) (ref := ref) X.1.1 X.1.2.1 X.1.2.2.2.2.2.1 e4 X.1.2.2.2.2.1 X.2.1.2.1 X.2.1.2.2.1 a hw e1 k e2 (X.1.2.2.2.2.2.1 _ e5) (fun x hx => ?_) (mmFs_get e2) hd h
  rcases e6 with e6 | e6
  · rw [e6]; exact hx
  · exact u_same (X.1.2.2.2.2.2.1 _ e6) x hx
theorem mmX_put {a : Nat} {k v : Int} {q : Nat × Nat} {G : mmG} {p : Program} {l : Launch} {R : Room} {s : State} {m : MethodId} {args : Array Value} {meth : Method} {c : Code} {H H1 : Heap} {locs : List Loc} {cells slots j : Nat} {ls : Array Slot} (X : mmX B d kc ks G sh mem lc p l R s m args meth c H locs cells slots ls) (hfx : sh.1 = false → fixOK a k = true) (hv : (mTag q k = 0 → R32 v) ∧ (mTag q k = 1 → R64 v)) (hq : sh.2[a]? = some q) (he : va_at G.2.1 vwCl (mmAt G a, mmE G q (mset mem a k v a)) H1) (hz : H1.size = H.size) (ho : ∀ x : Nat, x ≠ mmAt G a → H1[x]? = H[x]?) : mmX B d kc ks G sh (mset mem a k v) lc p l R s m args meth c H1 (locs ++ [⟨mmAt G a, j⟩]) cells slots ls :=
  ⟨X.1, mmR_put X.2.1 hfx hv hq he hz ho, X.2.2.1.put hz ho (mmAt_ad X.2.1.2.2.2.1.2 (List.getElem?_eq_some_iff.mp hq).1), X.2.2.2.1, X.2.2.2.2⟩
theorem mm_putV {ci N k : Nat} {G : mmG} {mem : mmM} {a : Nat} {v : Int} (hk : k < N) (j : Nat) (hj : j < N) : updV (vp_V (mmFs G ci N (mem a))) k (mmEnc G (mm_tg (mm_clTy ci k), v)) j = vp_V (mmFs G ci N (mset mem a k v a)) j := by
  unfold updV vp_V
  rw [List.getD_eq_getElem?_getD, List.getD_eq_getElem?_getD, mmFs_get hj, mmFs_get hj, mset_at]
  by_cases e : j = k
  · subst e
    simp
  · rw [if_neg e, if_neg (by omega)]
theorem st_putfield {idx ci N tg : Nat} {r v : Int} (a k : Nat) (hfx : sh.1 = false → fixOK a k = true) (hcv : (mTag (ci, N) k = 0 → R32 v) ∧ (mTag (ci, N) k = 1 → R64 v)) (hf : mmFR B.1.cls idx ci N k tg) (hm : mmTy ci) (hfin : ∀ q, vwCl[ci]? = some q → (q.2.1 k).2.2.2 = false) (hty : mm_clTy ci k = .int ∨ mm_clTy ci k = .long ∨ ((mm_clTy ci k = .boolean ∨ mm_clTy ci k = .byte) ∧ (v = 0 ∨ v = 1)) ∨ (∃ n, mm_clTy ci k = .object n) ∨ ∃ n, mm_clTy ci k = .array n) (hr : r = (a : Int)) (hs : sh.2[a]? = some (ci, N)) (hd : decode B.2.1 pc = .ok (.putfield idx, 3)) (kk : mmT B d kc ks Q (pc + 3) lc st sh (mset mem a k v)) : mmT B d kc ks Q pc lc ((tg, v) :: (2, r) :: st) sh mem := by
  intro p l e R s m args below meth c G H locs cells slots ls X
  obtain ⟨C, T, ref, e1, e0, e2, e3, e4, e5, e6⟩ := hf
  obtain ⟨C', T', N', f1, f2, f3⟩ := hm
  cases e1.symm.trans f1
  have hfin := hfin _ e1
  dsimp only at hfin
  subst e3
  have hts := X.1.2.2.2.2.2.1
  obtain ⟨n1, n2⟩ := mm_fits (G := G) hty
  have hw := mmW_get (G := G) (mem := mem) hs
  unfold mmE at hw
  rw [if_pos (show (ci, N).1 < 20 from e0)] at hw
  have hP := X.2.1.2.2.1
  have hK := X.2.1.2.1
  have hap := va_apart (own := B.1.cls) hts e4 (mm_clTy ci) f2 f3 hK e1
  obtain ⟨q0, h1, cell, q1, q2, q3, q4⟩ := hP a _ hw
  have hq0 : q0 = (C, T, N) := Option.some.inj (h1.symm.trans e1)
  subst hq0
  obtain ⟨hS, hfc, kC, hkC, hkind⟩ := hK.1 ci _ e1
  obtain ⟨cf, kf, fi, f, hi, hsl⟩ := hS k e2
  have hlay := hts _ (e4 _ (u_in_lay e2))
  unfold u_lay at hlay
  rw [if_neg (by rw [hfin]; decide)] at hlay
  have hst := (u_facts hfc hkC (u_lays hts e4 e2) hi).1
  have h6 := u_store hfc hkC hkind hlay hi (f2 k e2) n1 n2
  show W p l e R s m args below meth c H locs cells slots _ (F0 m pc ls (mmEnc G (mm_tg (mm_clTy ci k), v) :: va_rf (mmRf G r) :: st.map (mmEnc G)))
  rw [mmR_rfl hr]
  refine W.putK X.1.1 X.1.2.1 (f := f) (ref := ref) (index := idx) ⟨X.1.2.2.2.2.1, hts _ e5, ⟨cf, kf, fi, ?_⟩, hst⟩ (by rw [q2]; exact h6) q1 q3 (by rw [hsl]; exact k2_hasslot (q4 k e2)) rfl rfl hd fun H' g1 g2 g3 => ?_
  · rcases e6 with e6 | e6
    · rw [e6]; exact hi
    · exact u_same (hts _ e6) _ hi
  · rw [hsl] at g1 ⊢
    refine kk p l e R s m args below meth c G H' _ cells slots ls (mmX_put X hfx hcv hs ?_ g2 g3)
    unfold mmE
    rw [if_pos (show (ci, N).1 < 20 from e0)]
    exact ⟨_, e1, t_OB.to (V := updV (vp_V (mmFs G ci N (mem a))) k (mmEnc G (mm_tg (mm_clTy ci k), v))) ⟨_, g1, q2, q3, t_set q4 hap e2 _⟩ (fun j hj => mm_putV e2 j hj)⟩
theorem st_putfinal {idx ci N tg : Nat} {r v : Int} (a k : Nat) (hfx : sh.1 = false → fixOK a k = true) (hcv : (mTag (ci, N) k = 0 → R32 v) ∧ (mTag (ci, N) k = 1 → R64 v)) (hf : mmFR B.1.cls idx ci N k tg) (hm : mmTy ci) (hfin : ∀ q, vwCl[ci]? = some q → (q.2.1 k).2.2.2 = true ∧ (q.2.1 k).1 = B.1.cls) (hin : B.1.name = "<init>") (hty : mm_clTy ci k = .int ∨ mm_clTy ci k = .long ∨ ((mm_clTy ci k = .boolean ∨ mm_clTy ci k = .byte) ∧ (v = 0 ∨ v = 1)) ∨ (∃ n, mm_clTy ci k = .object n) ∨ ∃ n, mm_clTy ci k = .array n) (hr : r = (a : Int)) (hs : sh.2[a]? = some (ci, N)) (hd : decode B.2.1 pc = .ok (.putfield idx, 3)) (kk : mmT B d kc ks Q (pc + 3) lc st sh (mset mem a k v)) : mmT B d kc ks Q pc lc ((tg, v) :: (2, r) :: st) sh mem := by
  intro p l e R s m args below meth c G H locs cells slots ls X
  obtain ⟨C, T, ref, e1, e0, e2, e3, e4, e5, e6⟩ := hf
  obtain ⟨C', T', N', f1, f2, f3⟩ := hm
  cases e1.symm.trans f1
  obtain ⟨hfin, hdecl⟩ := hfin _ e1
  dsimp only at hfin hdecl
  subst e3
  have hts := X.1.2.2.2.2.2.1
  obtain ⟨n1, n2⟩ := mm_fits (G := G) hty
  have hw := mmW_get (G := G) (mem := mem) hs
  unfold mmE at hw
  rw [if_pos (show (ci, N).1 < 20 from e0)] at hw
  have hP := X.2.1.2.2.1
  have hK := X.2.1.2.1
  have hap := va_apart (own := B.1.cls) hts e4 (mm_clTy ci) f2 f3 hK e1
  obtain ⟨q0, h1, cell, q1, q2, q3, q4⟩ := hP a _ hw
  have hq0 : q0 = (C, T, N) := Option.some.inj (h1.symm.trans e1)
  subst hq0
  obtain ⟨hS, hfc, kC, hkC, hkind⟩ := hK.1 ci _ e1
  obtain ⟨cf, kf, fi, f, hi, hsl⟩ := hS k e2
  have hlay := hts _ (e4 _ (u_in_lay e2))
  unfold u_lay at hlay
  rw [if_pos hfin] at hlay
  have hst := (u_facts hfc hkC (u_lays hts e4 e2) hi).1
  have hcf : m.cls = cf := by
    obtain ⟨_, _, c', _, _, _, -, -, hf', -, -, -, hown2, -⟩ := Cond.laysFinal_spec hlay
    have g1 : c' = cf := by have := hi.symm.trans hf'; simp at this; exact this.1.symm
    rw [hdecl] at hown2
    rw [← g1]; exact Option.some.inj (X.1.2.2.2.2.1.symm.trans hown2)
  have h6 := u_fits hfc hkC hkind (Or.inr hlay) hi (f2 k e2) n1 n2
  show W p l e R s m args below meth c H locs cells slots _ (F0 m pc ls (mmEnc G (mm_tg (mm_clTy ci k), v) :: va_rf (mmRf G r) :: st.map (mmEnc G)))
  rw [mmR_rfl hr]
  refine W.putFinK X.1.1 X.1.2.1 (f := f) (ref := ref) (index := idx) X.1.2.2.2.2.1 (hts _ e5) (cf := cf) (k := kf) (i := fi) ?_ hst hcf (X.1.2.2.2.2.2.2.2.1 hin) (by rw [q2]; exact h6) q1 q3 (by rw [hsl]; exact k2_hasslot (q4 k e2)) rfl rfl hd fun H' g1 g2 g3 => ?_
  · rcases e6 with e6 | e6
    · rw [e6]; exact hi
    · exact u_same (hts _ e6) _ hi
  · rw [hsl] at g1 ⊢
    refine kk p l e R s m args below meth c G H' _ cells slots ls (mmX_put X hfx hcv hs ?_ g2 g3)
    unfold mmE
    rw [if_pos (show (ci, N).1 < 20 from e0)]
    exact ⟨_, e1, t_OB.to (V := updV (vp_V (mmFs G ci N (mem a))) k (mmEnc G (mm_tg (mm_clTy ci k), v))) ⟨_, g1, q2, q3, t_set q4 hap e2 _⟩ (fun j hj => mm_putV e2 j hj)⟩
theorem mm_arr {t n a : Nat} {G : mmG} {s : State} {H : Heap} (hR : mmR G sh mem s H) (hs : sh.2[a]? = some (t, n)) (ht : 20 ≤ t) : H[mmAt G a]? = some (arrV (G.2.2.1 t) n (fun j => mmEnc G (mm_at t, mem a j))) := by
  have hw := hR.2.2.1 a _ (mmW_get hs)
  unfold mmE at hw
  rw [if_neg (show ¬ (t, n).1 < 20 by show ¬ t < 20; omega)] at hw
  have h : H[mmAt G a]? = some (vp_cell (G.2.2.1 t) (n, mmA G t (mem a))) := hw
  rw [mm_cell] at h
  exact h
theorem mm_arrAt {t n a : Nat} {G : mmG} {H : Heap} {f : Int → Int} (h : H[mmAt G a]? = some (arrV (G.2.2.1 t) n (fun j => mmEnc G (mm_at t, f j)))) (ht : 20 ≤ t) : va_at G.2.1 vwCl (mmAt G a, mmE G (t, n) f) H := by
  unfold mmE
  rw [if_neg (show ¬ (t, n).1 < 20 by show ¬ t < 20; omega)]
  show H[mmAt G a]? = some (vp_cell (G.2.2.1 t) (n, mmA G t f))
  rw [mm_cell]
  exact h
theorem mm_kind {G : mmG} {s : State} {H : Heap} (hR : mmR G sh mem s H) : ArrOfT s (G.2.2.1 20) .int ∧ ArrOfT s (G.2.2.1 21) .long ∧ ArrOfT s (G.2.2.1 22) .boolean ∧ ArrOfT s (G.2.2.1 23) (.object "SheSays$Law") ∧ ArrOfT s (G.2.2.1 24) (.array .long) ∧ ArrOfT s (G.2.2.1 25) .byte ∧ ArrOfT s (G.2.2.1 26) (.array .int) :=
  ⟨(hR.2.1.2 0 _ rfl).1, (hR.2.1.2 1 _ rfl).1, (hR.2.1.2 2 _ rfl).1, (hR.2.1.2 3 _ rfl).1, (hR.2.1.2 4 _ rfl).1, (hR.2.1.2 5 _ rfl).1, (hR.2.1.2 6 _ rfl).1⟩
theorem st_alen {t n : Nat} {r : Int} (a : Nat) (hr : r = (a : Int)) (hs : sh.2[a]? = some (t, n)) (ht : 20 ≤ t ∧ t < 27) (hd : decode B.2.1 pc = .ok (.arraylength, 1)) (kk : mmT B d kc ks Q (pc + 1) lc ((0, (n : Int)) :: st) sh mem) : mmT B d kc ks Q pc lc ((2, r) :: st) sh mem := by
  intro p l e R s m args below meth c G H locs cells slots ls X
  have h := kk p l e R s m args below meth c G H locs cells slots ls X
  have hc := mm_arr X.2.1 hs ht.1
  obtain ⟨k0, k1, k2, k3, k4, k5, k6⟩ := mm_kind X.2.1
  show W p l e R s m args below meth c H locs cells slots _ (F0 m pc ls (va_rf (mmRf G r) :: st.map (mmEnc G)))
  rw [mmR_rfl hr]
  have hn : ∀ f : Nat → Value, ((arrV (G.2.2.1 t) n f).slots.size.toInt32) = Int32.ofInt (n : Int) := fun f => by rw [arrV_size]; rfl
  rcases (show t = 20 ∨ t = 21 ∨ t = 22 ∨ t = 23 ∨ t = 24 ∨ t = 25 ∨ t = 26 by omega) with rfl | rfl | rfl | rfl | rfl | rfl | rfl
  · exact W.alen X.1.1 X.1.2.1 hc (k0 _ _) (hn _) rfl rfl hd h
  · exact W.alen X.1.1 X.1.2.1 hc (k1 _ _) (hn _) rfl rfl hd h
  · exact W.alen X.1.1 X.1.2.1 hc (k2 _ _) (hn _) rfl rfl hd h
  · exact W.alen X.1.1 X.1.2.1 hc (k3 _ _) (hn _) rfl rfl hd h
  · exact W.alen X.1.1 X.1.2.1 hc (k4 _ _) (hn _) rfl rfl hd h
  · exact W.alen X.1.1 X.1.2.1 hc (k5 _ _) (hn _) rfl rfl hd h
  · exact W.alen X.1.1 X.1.2.1 hc (k6 _ _) (hn _) rfl rfl hd h
theorem mm_read {t n : Nat} {G : mmG} {i : Int} {f : Nat → Value} {g : Int → Value} (hg : ∀ j : Nat, f j = g j) (h1 : 0 ≤ i) (h2 : i < n) (hn : n < 2147483648) : ¬ (Int32.ofInt i < 0 ∨ (arrV (G.2.2.1 t) n f).slots.size ≤ (Int32.ofInt i).toNatClampNeg) ∧ (arrV (G.2.2.1 t) n f).slots[(Int32.ofInt i).toNatClampNeg]? = some (g i) := by
  obtain ⟨v1, v2⟩ := mm_idx h1 h2 hn
  rw [arrV_size]
  refine ⟨v1, ?_⟩
  have hlt : (Int32.ofInt i).toNatClampNeg < n := by omega
  rw [arrV_read _ _ hlt, hg, v2]
theorem st_iaload {n : Nat} {r i v : Int} (a : Nat) (hr : r = (a : Int)) (hs : sh.2[a]? = some (20, n)) (hn : n < 2147483648) (h1 : 0 ≤ i) (h2 : i < n) (hv : mem a i = v) (hd : decode B.2.1 pc = .ok (.iaload, 1)) (kk : mmT B d kc ks Q (pc + 1) lc ((0, v) :: st) sh mem) : mmT B d kc ks Q pc lc ((0, i) :: (2, r) :: st) sh mem := by
  intro p l e R s m args below meth c G H locs cells slots ls X
  have h := kk p l e R s m args below meth c G H locs cells slots ls X
  subst hv
  obtain ⟨v1, v2⟩ := mm_read (t := 20) (G := G) (f := fun j => mmEnc G (mm_at 20, mem a j)) (g := fun j => mmEnc G (0, mem a j)) (fun _ => rfl) h1 h2 hn
  show W p l e R s m args below meth c H locs cells slots _ (F0 m pc ls (.int (Int32.ofInt i) :: va_rf (mmRf G r) :: st.map (mmEnc G)))
  rw [mmR_rfl hr]
  exact W.iald X.1.1 X.1.2.1 (mm_arr X.2.1 hs (by decide)) ((mm_kind X.2.1).1 _ _) (fun q => by cases q) v1 v2 rfl rfl hd h
theorem st_laload {n : Nat} {r i v : Int} (a : Nat) (hr : r = (a : Int)) (hs : sh.2[a]? = some (21, n)) (hn : n < 2147483648) (h1 : 0 ≤ i) (h2 : i < n) (hv : mem a i = v) (hd : decode B.2.1 pc = .ok (.laload, 1)) (kk : mmT B d kc ks Q (pc + 1) lc ((1, v) :: st) sh mem) : mmT B d kc ks Q pc lc ((0, i) :: (2, r) :: st) sh mem := by
  intro p l e R s m args below meth c G H locs cells slots ls X
  have h := kk p l e R s m args below meth c G H locs cells slots ls X
  subst hv
  obtain ⟨v1, v2⟩ := mm_read (t := 21) (G := G) (f := fun j => mmEnc G (mm_at 21, mem a j)) (g := fun j => mmEnc G (1, mem a j)) (fun _ => rfl) h1 h2 hn
  show W p l e R s m args below meth c H locs cells slots _ (F0 m pc ls (.int (Int32.ofInt i) :: va_rf (mmRf G r) :: st.map (mmEnc G)))
  rw [mmR_rfl hr]
  exact W.lald X.1.1 X.1.2.1 (mm_arr X.2.1 hs (by decide)) ((mm_kind X.2.1).2.1 _ _) (fun q => by cases q) v1 v2 rfl rfl hd h
theorem st_baload {n : Nat} {r i v : Int} (a : Nat) (hr : r = (a : Int)) (hs : sh.2[a]? = some (22, n)) (hn : n < 2147483648) (h1 : 0 ≤ i) (h2 : i < n) (hv : mem a i = v) (hd : decode B.2.1 pc = .ok (.baload, 1)) (kk : mmT B d kc ks Q (pc + 1) lc ((0, v) :: st) sh mem) : mmT B d kc ks Q pc lc ((0, i) :: (2, r) :: st) sh mem := by
  intro p l e R s m args below meth c G H locs cells slots ls X
  have h := kk p l e R s m args below meth c G H locs cells slots ls X
  subst hv
  obtain ⟨v1, v2⟩ := mm_read (t := 22) (G := G) (f := fun j => mmEnc G (mm_at 22, mem a j)) (g := fun j => mmEnc G (0, mem a j)) (fun _ => rfl) h1 h2 hn
  show W p l e R s m args below meth c H locs cells slots _ (F0 m pc ls (.int (Int32.ofInt i) :: va_rf (mmRf G r) :: st.map (mmEnc G)))
  rw [mmR_rfl hr]
  exact W.zald X.1.1 X.1.2.1 (mm_arr X.2.1 hs (by decide)) ((mm_kind X.2.1).2.2.1 _ _) (fun q => by cases q) v1 v2 rfl rfl hd h
theorem st_aaload {n t : Nat} {r i v : Int} (a : Nat) (ht : t = 23 ∨ t = 24 ∨ t = 26) (hr : r = (a : Int)) (hs : sh.2[a]? = some (t, n)) (hn : n < 2147483648) (h1 : 0 ≤ i) (h2 : i < n) (hv : mem a i = v) (hd : decode B.2.1 pc = .ok (.aaload, 1)) (kk : mmT B d kc ks Q (pc + 1) lc ((2, v) :: st) sh mem) : mmT B d kc ks Q pc lc ((0, i) :: (2, r) :: st) sh mem := by
  intro p l e R s m args below meth c G H locs cells slots ls X
  have h := kk p l e R s m args below meth c G H locs cells slots ls X
  subst hv
  obtain ⟨v1, v2⟩ := mm_read (t := t) (G := G) (f := fun j => mmEnc G (mm_at t, mem a j)) (g := fun j => mmEnc G (2, mem a j)) (fun _ => by rcases ht with rfl | rfl | rfl <;> rfl) h1 h2 hn
  show W p l e R s m args below meth c H locs cells slots _ (F0 m pc ls (.int (Int32.ofInt i) :: va_rf (mmRf G r) :: st.map (mmEnc G)))
  rw [mmR_rfl hr]
  have hc := mm_arr X.2.1 hs (by omega)
  rcases ht with rfl | rfl | rfl
  · exact W.aald X.1.1 X.1.2.1 hc ((mm_kind X.2.1).2.2.2.1 _ _) rfl (fun q => by cases q) v1 v2 rfl rfl hd h
  · exact W.aald X.1.1 X.1.2.1 hc ((mm_kind X.2.1).2.2.2.2.1 _ _) rfl (fun q => by cases q) v1 v2 rfl rfl hd h
  · exact W.aald X.1.1 X.1.2.1 hc ((mm_kind X.2.1).2.2.2.2.2.2 _ _) rfl (fun q => by cases q) v1 v2 rfl rfl hd h
theorem mm_stored {t n a : Nat} {G : mmG} {H1 : Heap} {i v : Int} {w : Value} (h1 : 0 ≤ i) (h2 : i < n) (hn : n < 2147483648) (ht : 20 ≤ t) (hw : w = mmEnc G (mm_at t, v)) (h : H1[mmAt G a]? = some ((arrV (G.2.2.1 t) n (fun j => mmEnc G (mm_at t, mem a j))).setSlot (Int32.ofInt i).toNatClampNeg w)) : va_at G.2.1 vwCl (mmAt G a, mmE G (t, n) (mset mem a i v a)) H1 := by
  obtain ⟨v1, v2⟩ := mm_idx h1 h2 hn
  refine mm_arrAt ?_ ht
  rw [h, arrV_store]
  congr 2
  funext j
  unfold updV
  rw [mset_at]
  by_cases e : j = (Int32.ofInt i).toNatClampNeg
  · subst e
    rw [if_pos rfl, if_pos v2, hw]
  · rw [if_neg e, if_neg (by omega)]
theorem st_iastore {n : Nat} {r i v : Int} (a : Nat) (hfx0 : sh.1 = false → fixRow a = true) (hv0 : R32 v) (hr : r = (a : Int)) (hs : sh.2[a]? = some (20, n)) (hn : n < 2147483648) (h1 : 0 ≤ i) (h2 : i < n) (hd : decode B.2.1 pc = .ok (.iastore, 1)) (kk : mmT B d kc ks Q (pc + 1) lc st sh (mset mem a i v)) : mmT B d kc ks Q pc lc ((0, v) :: (0, i) :: (2, r) :: st) sh mem := by
  have hfx : sh.1 = false → fixOK a i = true := fun h => fix_row (hfx0 h) i
  have hcv : (mTag (20, n) i = 0 → R32 v) ∧ (mTag (20, n) i = 1 → R64 v) := ⟨fun _ => hv0, fun h => by cases h⟩
  intro p l e R s m args below meth c G H locs cells slots ls X
  obtain ⟨v1, v2⟩ := mm_read (t := 20) (G := G) (f := fun j => mmEnc G (mm_at 20, mem a j)) (g := fun j => mmEnc G (0, mem a j)) (fun _ => rfl) h1 h2 hn
  show W p l e R s m args below meth c H locs cells slots _ (F0 m pc ls (.int (Int32.ofInt v) :: .int (Int32.ofInt i) :: va_rf (mmRf G r) :: st.map (mmEnc G)))
  rw [mmR_rfl hr]
  exact W.iast X.1.1 X.1.2.1 (mm_arr X.2.1 hs (by decide)) ((mm_kind X.2.1).1 _ _) (fun q => by cases q) v1 rfl rfl hd (fun H1 g1 g2 g3 => kk p l e R s m args below meth c G H1 _ cells slots ls (mmX_put X hfx hcv hs (mm_stored h1 h2 hn (by decide) rfl g1) g2 g3))
theorem st_lastore {n : Nat} {r i v : Int} (a : Nat) (hfx0 : sh.1 = false → fixRow a = true) (hv0 : R64 v) (hr : r = (a : Int)) (hs : sh.2[a]? = some (21, n)) (hn : n < 2147483648) (h1 : 0 ≤ i) (h2 : i < n) (hd : decode B.2.1 pc = .ok (.lastore, 1)) (kk : mmT B d kc ks Q (pc + 1) lc st sh (mset mem a i v)) : mmT B d kc ks Q pc lc ((1, v) :: (0, i) :: (2, r) :: st) sh mem := by
  have hfx : sh.1 = false → fixOK a i = true := fun h => fix_row (hfx0 h) i
  have hcv : (mTag (21, n) i = 0 → R32 v) ∧ (mTag (21, n) i = 1 → R64 v) := ⟨fun h => (by cases h), fun _ => hv0⟩
  intro p l e R s m args below meth c G H locs cells slots ls X
  obtain ⟨v1, v2⟩ := mm_read (t := 21) (G := G) (f := fun j => mmEnc G (mm_at 21, mem a j)) (g := fun j => mmEnc G (1, mem a j)) (fun _ => rfl) h1 h2 hn
  show W p l e R s m args below meth c H locs cells slots _ (F0 m pc ls (.long (Int64.ofInt v) :: .int (Int32.ofInt i) :: va_rf (mmRf G r) :: st.map (mmEnc G)))
  rw [mmR_rfl hr]
  exact W.last X.1.1 X.1.2.1 (mm_arr X.2.1 hs (by decide)) ((mm_kind X.2.1).2.1 _ _) (fun q => by cases q) v1 rfl rfl hd (fun H1 g1 g2 g3 => kk p l e R s m args below meth c G H1 _ cells slots ls (mmX_put X hfx hcv hs (mm_stored h1 h2 hn (by decide) rfl g1) g2 g3))
theorem st_bastore {n : Nat} {r i v : Int} (a : Nat) (hfx0 : sh.1 = false → fixRow a = true) (hv0 : R32 v) (hb : v = 0 ∨ v = 1) (hr : r = (a : Int)) (hs : sh.2[a]? = some (22, n)) (hn : n < 2147483648) (h1 : 0 ≤ i) (h2 : i < n) (hd : decode B.2.1 pc = .ok (.bastore, 1)) (kk : mmT B d kc ks Q (pc + 1) lc st sh (mset mem a i v)) : mmT B d kc ks Q pc lc ((0, v) :: (0, i) :: (2, r) :: st) sh mem := by
  have hfx : sh.1 = false → fixOK a i = true := fun h => fix_row (hfx0 h) i
  have hcv : (mTag (22, n) i = 0 → R32 v) ∧ (mTag (22, n) i = 1 → R64 v) := ⟨fun _ => hv0, fun h => by cases h⟩
  intro p l e R s m args below meth c G H locs cells slots ls X
  obtain ⟨v1, v2⟩ := mm_read (t := 22) (G := G) (f := fun j => mmEnc G (mm_at 22, mem a j)) (g := fun j => mmEnc G (0, mem a j)) (fun _ => rfl) h1 h2 hn
  show W p l e R s m args below meth c H locs cells slots _ (F0 m pc ls (.int (Int32.ofInt v) :: .int (Int32.ofInt i) :: va_rf (mmRf G r) :: st.map (mmEnc G)))
  rw [mmR_rfl hr]
  exact W.zast X.1.1 X.1.2.1 (mm_arr X.2.1 hs (by decide)) ((mm_kind X.2.1).2.2.1 _ _) (fun q => by cases q) v1 rfl rfl hd (fun H1 g1 g2 g3 => kk p l e R s m args below meth c G H1 _ cells slots ls (mmX_put X hfx hcv hs (mm_stored h1 h2 hn (by decide) (by rcases hb with rfl | rfl <;> rfl) g1) g2 g3))
theorem st_aastore {n : Nat} {r i v : Int} (a b : Nat) (hfx0 : sh.1 = true) (hr : r = (a : Int)) (hv : v = (b : Int)) (hs : sh.2[a]? = some (23, n)) (hb : sh.2[b]? = some (2, 4)) (hn : n < 2147483648) (h1 : 0 ≤ i) (h2 : i < n) (hd : decode B.2.1 pc = .ok (.aastore, 1)) (kk : mmT B d kc ks Q (pc + 1) lc st sh (mset mem a i v)) : mmT B d kc ks Q pc lc ((2, v) :: (0, i) :: (2, r) :: st) sh mem := by
  have hfx : sh.1 = false → fixOK a i = true := fun h => by rw [hfx0] at h; cases h
  have hcv : (mTag (23, n) i = 0 → R32 v) ∧ (mTag (23, n) i = 1 → R64 v) := ⟨fun h => (by cases h), fun h => (by cases h)⟩
  intro p l e R s m args below meth c G H locs cells slots ls X
  obtain ⟨v1, v2⟩ := mm_read (t := 23) (G := G) (f := fun j => mmEnc G (mm_at 23, mem a j)) (g := fun j => mmEnc G (2, mem a j)) (fun _ => rfl) h1 h2 hn
  show W p l e R s m args below meth c H locs cells slots _ (F0 m pc ls (va_rf (mmRf G v) :: .int (Int32.ofInt i) :: va_rf (mmRf G r) :: st.map (mmEnc G)))
  have hvv : va_rf (mmRf G v) = .ref (mmAt G b) := by rw [mmR_rfl hv]; rfl
  rw [mmR_rfl hr, hvv]
  have hK := X.2.1.2.1
  obtain ⟨r', hr', cellV, g1, g2, g3, -⟩ := X.2.1.2.2.1 b _ (mmW_get hb)
  have hcls := (hK.1 2 _ rfl).2
  obtain ⟨kA, comp, k1, k2, k3, -⟩ := (hK.2 3 _ rfl).2
  have hcomp : comp = G.2.1.1 2 := Option.some.inj (k3.symm.trans hcls.1)
  subst hcomp
  obtain ⟨kC, hkC, -⟩ := hcls.2
  have v3 : ¬ Int32.ofInt i < 0 ∧ (Int32.ofInt i).toNatClampNeg < (arrV (G.2.2.1 23) n (fun j => mmEnc G (mm_at 23, mem a j))).slots.size := ⟨fun q => v1 (Or.inl q), Nat.not_le.mp fun q => v1 (Or.inr q)⟩
  exact W.aast X.1.1 X.1.2.1 (mm_arr X.2.1 hs (by decide)) (fun q h => by cases h) (fun h => by cases h) k1 k2 rfl hkC v3 g1 (fun q h => by rw [g3] at h; cases h) (by rw [g2]; exact hkC) (by rw [g2]; exact va_assign hcls) rfl rfl hd (fun H1 z1 z2 z3 => kk p l e R s m args below meth c G H1 _ cells slots ls (mmX_put X hfx hcv hs (mm_stored h1 h2 hn (by decide) hvv.symm z1) z2 z3))
/-- the script -/
theorem st_slen (hd : decode B.2.1 pc = .ok (.arraylength, 1)) (hL : 0 ≤ mem 999 (-1)) (kk : mmT B d kc ks Q (pc + 1) lc ((0, mem 999 (-1)) :: st) sh mem) : mmT B d kc ks Q pc lc ((3, 0) :: st) sh mem := by
  intro p l e R s m args below meth c G H locs cells slots ls X
  have h := kk p l e R s m args below meth c G H locs cells slots ls X
  obtain ⟨scr, h1, h2, h3, h4, h5⟩ := X.2.1.2.2.2.1.1
  have e1 : scr.slots.size.toInt32 = Int32.ofInt (mem 999 (-1)) := by
    rw [h4]
    show Int32.ofNat _ = _
    rw [show Int32.ofNat (mem 999 (-1)).toNat = Int32.ofInt ((mem 999 (-1)).toNat : Int) from rfl, Int.toNat_of_nonneg hL]
  exact W.alen X.1.1 X.1.2.1 h1 h2 e1 rfl rfl hd h
theorem st_sload {i : Int} (h1 : 0 ≤ i) (h2 : i < mem 999 (-1)) (hn : i < 2147483648) (hd : decode B.2.1 pc = .ok (.iaload, 1)) (kk : mmT B d kc ks Q (pc + 1) lc ((0, mem 999 i) :: st) sh mem) : mmT B d kc ks Q pc lc ((0, i) :: (3, 0) :: st) sh mem := by
  intro p l e R s m args below meth c G H locs cells slots ls X
  have h := kk p l e R s m args below meth c G H locs cells slots ls X
  obtain ⟨scr, g1, g2, g3, g4, g5⟩ := X.2.1.2.2.2.1.1
  have hc : (Int32.ofInt i).toInt = i := by rw [w32_toInt, w32_id (by omega) hn]
  have e2 : ((Int32.ofInt i).toNatClampNeg : Int) = i := by
    rw [← Int32.toNat_toInt, hc]
    omega
  have hlt : (Int32.ofInt i).toNatClampNeg < (mem 999 (-1)).toNat := by omega
  have hin : ¬ (Int32.ofInt i < 0 ∨ scr.slots.size ≤ (Int32.ofInt i).toNatClampNeg) := by
    intro q
    rcases q with q | q
    · rw [Int32.lt_iff_toInt_lt, hc] at q
      have : (0 : Int32).toInt = 0 := rfl
      omega
    · omega
  have hv := g5 _ hlt
  dsimp only at hv
  rw [e2] at hv
  exact W.iald X.1.1 X.1.2.1 g1 g2 g3 hin hv rfl rfl hd h
theorem mCan_f {ci N k tg : Nat} {a : Nat} {own : String} {idx : Nat} {L : List (Nat × Nat)} (h : mCan L mem) (hs : L[a]? = some (ci, N)) (hf : mmFR own idx ci N k tg) : (tg = 0 → R32 (mem a k)) ∧ (tg = 1 → R64 (mem a k)) := by
  obtain ⟨C, T, ref, e1, e0, e2, e3, -⟩ := hf
  have h1 := h.1 a (ci, N) k hs
  have e : mTag (ci, N) (k : Int) = tg := by
    unfold mTag
    rw [if_pos (show (ci, N).1 < 20 from e0), e3]
    simp
  rw [e] at h1
  exact h1
theorem mm_fact {P : Prop} (hP : ∀ (G : mmG) (s : State) (H : Heap), mmR G sh mem s H → P) (kk : P → mmT B d kc ks Q pc lc st sh mem) : mmT B d kc ks Q pc lc st sh mem :=
  fun p l e R s m args below meth c G H locs cells slots ls X => kk (hP G s H X.2.1) p l e R s m args below meth c G H locs cells slots ls X
theorem st_getI {idx ci N : Nat} {r : Int} (a k : Nat) (hf : mmFR B.1.cls idx ci N k 0) (hr : r = (a : Int)) (hs : sh.2[a]? = some (ci, N)) (hd : decode B.2.1 pc = .ok (.getfield idx, 3)) (kk : R32 (mem a k) → mmT B d kc ks Q (pc + 3) lc ((0, mem a k) :: st) sh mem) : mmT B d kc ks Q pc lc ((2, r) :: st) sh mem :=
  mm_fact (P := R32 (mem a k)) (fun G s H hR => (mCan_f hR.2.2.2.2.2.2.2.2 hs hf).1 rfl) (fun h => st_getfield a k hf hr hs rfl hd (kk h))
theorem st_getJ {idx ci N : Nat} {r : Int} (a k : Nat) (hf : mmFR B.1.cls idx ci N k 1) (hr : r = (a : Int)) (hs : sh.2[a]? = some (ci, N)) (hd : decode B.2.1 pc = .ok (.getfield idx, 3)) (kk : R64 (mem a k) → mmT B d kc ks Q (pc + 3) lc ((1, mem a k) :: st) sh mem) : mmT B d kc ks Q pc lc ((2, r) :: st) sh mem :=
  mm_fact (P := R64 (mem a k)) (fun G s H hR => (mCan_f hR.2.2.2.2.2.2.2.2 hs hf).2 rfl) (fun h => st_getfield a k hf hr hs rfl hd (kk h))
theorem st_getA {idx ci N : Nat} {r v : Int} (a k : Nat) (hsh : sh.1 = false) (hf : mmFR B.1.cls idx ci N k 2) (hr : r = (a : Int)) (hs : sh.2[a]? = some (ci, N)) (hx : ((a, (k : Int), v) : Nat × Int × Int) ∈ mFixL) (hd : decode B.2.1 pc = .ok (.getfield idx, 3)) (kk : mmT B d kc ks Q (pc + 3) lc ((2, v) :: st) sh mem) : mmT B d kc ks Q pc lc ((2, r) :: st) sh mem :=
  mm_fact (P := mem a k = v) (fun G s H hR => hR.2.2.2.2.2.2.2.1 hsh _ hx) (fun h => st_getfield a k hf hr hs h hd kk)
theorem st_aaloadF {n t : Nat} {r i v : Int} (a : Nat) (hsh : sh.1 = false) (ht : t = 23 ∨ t = 24 ∨ t = 26) (hr : r = (a : Int)) (hs : sh.2[a]? = some (t, n)) (hn : n < 2147483648) (h1 : 0 ≤ i) (h2 : i < n) (hx : ((a, i, v) : Nat × Int × Int) ∈ mFixL) (hd : decode B.2.1 pc = .ok (.aaload, 1)) (kk : mmT B d kc ks Q (pc + 1) lc ((2, v) :: st) sh mem) : mmT B d kc ks Q pc lc ((0, i) :: (2, r) :: st) sh mem :=
  mm_fact (P := mem a i = v) (fun G s H hR => hR.2.2.2.2.2.2.2.1 hsh _ hx) (fun h => st_aaload a ht hr hs hn h1 h2 h hd kk)
theorem st_ialoadR {n : Nat} {r i : Int} (a : Nat) (hr : r = (a : Int)) (hs : sh.2[a]? = some (20, n)) (hn : n < 2147483648) (h1 : 0 ≤ i) (h2 : i < n) (hd : decode B.2.1 pc = .ok (.iaload, 1)) (kk : R32 (mem a i) → mmT B d kc ks Q (pc + 1) lc ((0, mem a i) :: st) sh mem) : mmT B d kc ks Q pc lc ((0, i) :: (2, r) :: st) sh mem :=
  mm_fact (P := R32 (mem a i)) (fun G s H hR => (hR.2.2.2.2.2.2.2.2.1 a _ i hs).1 rfl) (fun h => st_iaload a hr hs hn h1 h2 rfl hd (kk h))
theorem st_baloadR {n : Nat} {r i : Int} (a : Nat) (hr : r = (a : Int)) (hs : sh.2[a]? = some (22, n)) (hn : n < 2147483648) (h1 : 0 ≤ i) (h2 : i < n) (hd : decode B.2.1 pc = .ok (.baload, 1)) (kk : R32 (mem a i) → mmT B d kc ks Q (pc + 1) lc ((0, mem a i) :: st) sh mem) : mmT B d kc ks Q pc lc ((0, i) :: (2, r) :: st) sh mem :=
  mm_fact (P := R32 (mem a i)) (fun G s H hR => (hR.2.2.2.2.2.2.2.2.1 a _ i hs).1 rfl) (fun h => st_baload a hr hs hn h1 h2 rfl hd (kk h))
theorem st_laloadR {n : Nat} {r i : Int} (a : Nat) (hr : r = (a : Int)) (hs : sh.2[a]? = some (21, n)) (hn : n < 2147483648) (h1 : 0 ≤ i) (h2 : i < n) (hd : decode B.2.1 pc = .ok (.laload, 1)) (kk : R64 (mem a i) → mmT B d kc ks Q (pc + 1) lc ((1, mem a i) :: st) sh mem) : mmT B d kc ks Q pc lc ((0, i) :: (2, r) :: st) sh mem :=
  mm_fact (P := R64 (mem a i)) (fun G s H hR => (hR.2.2.2.2.2.2.2.2.1 a _ i hs).2 rfl) (fun h => st_laload a hr hs hn h1 h2 rfl hd (kk h))
theorem st_sloadR {i : Int} (h1 : 0 ≤ i) (h2 : i < mem 999 (-1)) (hn : i < 2147483648) (hd : decode B.2.1 pc = .ok (.iaload, 1)) (kk : R32 (mem 999 i) → mmT B d kc ks Q (pc + 1) lc ((0, mem 999 i) :: st) sh mem) : mmT B d kc ks Q pc lc ((0, i) :: (3, 0) :: st) sh mem :=
  mm_fact (P := R32 (mem 999 i)) (fun G s H hR => hR.2.2.2.2.2.2.2.2.2 i) (fun h => st_sload h1 h2 hn hd (kk h))
end MMhp
end
section
/-! contracts, calls, returns, new cells -/
def mmPre (G : mmG) (av : List mmV) (sh : mmS) (mem : mmM) : Array Value → State → Prop := fun a U => a = (av.map (mmEnc G)).toArray ∧ mmR G sh mem U U.heap ∧ mmNw G U ∧ mmSF G U U.heap
def mmC (B : mmB) (d kc ks : Nat) (av : List mmV) (sh : mmS) (mem : mmM) (Q : mmQ) : Prop :=
  ∀ (l : Launch) (G : mmG), l.flags = flags0 → Met l B.1 (Cond.code B.1 B.2.1 B.2.2.1 B.2.2.2 :: mm_tbl) ({ frames := d, cells := kc, slots := ks, locals := 64 * d } : Room) (mmPre G av sh mem) (mmPost G Q) kc ks (mmAd G)
def mmOK (B : mmB) (n : Nat) : Prop := Cond.code B.1 B.2.1 B.2.2.1 B.2.2.2 ∈ mm_tbl ∧ Cond.initialized B.1.cls ∈ mm_tbl ∧ (B.1.cls ≠ "java/lang/invoke/MethodHandle" ∧ B.1.cls ≠ "java/lang/invoke/VarHandle" ∧ (parseMethodDescriptor B.1.desc).map (fun d => d.parameters.length) = some n) ∧ B.2.2.1 ≤ 40 ∧ plainName B.1.cls = true
def mmEntry : List mmV → List mmV
  | [] => []
  | v :: vs => if v.1 = 1 then v :: (9, 0) :: mmEntry vs else v :: mmEntry vs
theorem mmEntry_len (G : mmG) : ∀ av : List mmV, (lg_sl (av.map (mmEnc G))).length = (mmEntry av).length
  | [] => rfl
  | v :: vs => by
    have ih := mmEntry_len G vs
    unfold lg_sl at ih ⊢
    rw [List.map_cons, List.flatMap_cons, List.length_append]
    unfold mmEntry
    by_cases e : v.1 = 1
    · obtain ⟨t, x⟩ := v
      have : t = 1 := e
      subst this
      rw [mm_cat2, if_pos rfl, if_pos rfl, ih]
      simp
      omega
    · rw [mm_cat1 G e, if_neg (by decide), if_neg e, ih]
      simp
      omega
theorem mmEntry_in (G : mmG) : ∀ (av : List mmV) (k i : Nat) (v : mmV), (mmEntry av)[i]? = some v → v.1 < 9 → (k + i, mmEnc G v) ∈ lv_args k (av.map (mmEnc G))
  | [], _, i, v, h, _ => by simp [mmEntry] at h
  | w :: vs, k, i, v, h, hv => by
    rw [List.map_cons]
    unfold lv_args
    unfold mmEntry at h
    by_cases e : w.1 = 1
    · rw [if_pos e] at h
      obtain ⟨t, x⟩ := w
      have : t = 1 := e
      subst this
      rw [mm_cat2, if_pos rfl]
      match i, h with
      | 0, h =>
        simp only [List.getElem?_cons_zero, Option.some.injEq] at h
        subst h
        exact List.mem_cons_self
      | 1, h =>
        simp only [List.getElem?_cons_succ, List.getElem?_cons_zero, Option.some.injEq] at h
        subst h
        exact absurd hv (by decide)
      | i + 2, h =>
        simp only [List.getElem?_cons_succ] at h
        have := mmEntry_in G vs (k + 2) i v h hv
        rw [show k + (i + 2) = k + 2 + i by omega]
        exact List.mem_cons_of_mem _ this
    · rw [if_neg e] at h
      rw [mm_cat1 G e, if_neg (by decide)]
      match i, h with
      | 0, h =>
        simp only [List.getElem?_cons_zero, Option.some.injEq] at h
        subst h
        exact List.mem_cons_self
      | i + 1, h =>
        simp only [List.getElem?_cons_succ] at h
        have := mmEntry_in G vs (k + 1) i v h hv
        rw [show k + (i + 1) = k + 1 + i by omega]
        exact List.mem_cons_of_mem _ this
theorem mmR.moved {G : mmG} {sh : mmS} {mem : mmM} {s U : State} {H : Heap} (h : s.vm.Alike U.vm) (hR : mmR G sh mem s H) : mmR G sh mem U H :=
  ⟨hR.1, hR.2.1.moved h, hR.2.2.1, ⟨hR.2.2.2.1.1.moved h, hR.2.2.2.1.2⟩, hR.2.2.2.2⟩
theorem mmC_of {B : mmB} {d kc ks : Nat} {av : List mmV} {sh : mmS} {mem : mmM} {Q : mmQ} (lc : List mmV) (hy : plainName B.1.cls = true) (hlc : mmEntry av ++ List.replicate (B.2.2.1 - (mmEntry av).length) (9, 0) = lc) (hn : (mmEntry av).length ≤ B.2.2.1) (h : mmT B d kc ks Q 0 lc [] sh mem) : mmC B d kc ks av sh mem Q := by
  intro l G hfl
  refine Met.ofW (cc := B.2.1) (maxL := B.2.2.1) (ret := B.2.2.2) hy rfl ?_
  intro p e s m args below meth c s₁ BL hml hv
  obtain ⟨rfl, hR, hN, hSF⟩ := hv
  have hts := atoms_spec (ws := Cond.code B.1 B.2.1 B.2.2.1 B.2.2.2 :: mm_tbl) BL.pre
  have hown : s.vm.findClass B.1.cls = some m.cls := findClass_of_methodNamed BL.named
  have hname : meth.name = B.1.name := (name_of_methodNamed BL.named BL.method).1
  have hl := lv_entry (av.map (mmEnc G)) (n := B.2.2.1) (by rw [mmEntry_len]; exact hn)
  rw [lg_entry_eq]
  refine h p l e _ s m _ below meth c G s.heap [] 0 0 _ ⟨⟨BL.exec, BL.bytes, hml, BL.returns, hown, fun w hw => hts w (List.mem_cons_of_mem _ hw), BL.notSynchronized, (fun h => hname.trans h), hN⟩, hR, va_S.rf, ⟨hR.2.2.2.2.2.1, hR.2.2.2.1.2.2.2.imp id (fun w => w.2.1)⟩, ⟨_, hl, fun i v hi hv => ?_⟩, ?_, ?_, ?_, ?_, hfl, hSF⟩
  · rw [← hlc] at hi
    by_cases hlt : i < (mmEntry av).length
    · rw [List.getElem?_append_left hlt] at hi
      have := mmEntry_in G av 0 i v hi hv
      rwa [Nat.zero_add] at this
    · rw [List.getElem?_append_right (by omega), List.getElem?_replicate] at hi
      split at hi
      · cases hi
        exact absurd hv (by decide)
      · cases hi
  · show 0 + kc ≤ kc
    omega
  · show 0 + ks ≤ ks
    omega
  · show d ≤ d
    omega
  · show 64 * d ≤ 64 * d
    omega
theorem mm_blind {G : mmG} {av : List mmV} {sh : mmS} {mem : mmM} : FrameBlind (mmPre G av sh mem) := fun a U g mk h => ⟨h.1, h.2.1.moved (Vm.Alike.refl U.vm), h.2.2.1.same rfl, h.2.2.2.moved (Vm.Alike.refl U.vm)⟩
def mmCat (st : List mmV) : Nat := (st.map fun v => if v.1 = 1 then 2 else 1).sum
theorem mmCat_enc (G : mmG) (st : List mmV) : ((st.map (mmEnc G)).map fun v => v.category).sum = mmCat st := by
  unfold mmCat
  rw [List.map_map]
  congr 1
  apply List.map_congr_left
  intro v _
  by_cases e : v.1 = 1
  · obtain ⟨t, x⟩ := v
    have : t = 1 := e
    subst this
    rfl
  · rw [if_neg e]
    exact mm_cat1 G e
section MMca
variable {B : mmB} {d kc ks : Nat} {Q : mmQ} {pc : Nat} {lc st : List mmV} {sh : mmS} {mem : mmM}
theorem mm_goes {Qc : mmQ} {st0 : List Value} {mc ms kc2 ks2 : Nat} {a : Array Value} {p : Program} {l : Launch} {e : Env} {R : Room} {s : State} {m : MethodId} {args : Array Value} {below : List Frame} {meth : Method} {c : Code} {G : mmG} {H : Heap} {locs : List Loc} {cells slots : Nat} {ls : Array Slot} (X : mmX B d kc ks G sh mem lc p l R s m args meth c H locs cells slots ls)
    (hc : mc + kc2 ≤ kc) (hs : ms + ks2 ≤ ks) (hr : va_Run p l e R s m args below meth c H locs cells slots mc ms (F0 m pc ls st0) (st.map (mmEnc G)) (mmPost G Qc a) (mmAd G))
    (kk : ∀ (r : Option mmV) (sh' : mmS) (mem' : mmM), Qc r sh' mem' → mmT B d kc2 ks2 Q (pc + 3) lc (r.toList ++ st) sh' mem') : W p l e R s m args below meth c H locs cells slots (MQ below (mmPost G Q) args s R.cells R.slots (mmAd G)) (F0 m pc ls st0) := by
  intro T hT XT
  obtain ⟨v, st₀, t, T', L, h0, X', hL, e1, e2, ⟨⟨r, sh', mem', hv, hq, hR⟩, hz, hk⟩, stp⟩ := hr T hT XT
  have hv' : v = r.map (mmEnc G) := by cases hv; rfl
  subst hv'
  rw [h0] at hz hk
  have hal : t.vm.Alike s.vm := by rw [← e2]; exact X'.warmed.alike.symm
  have X2 : mmX B d kc2 ks2 G sh' mem' lc p l R s m args meth c T'.heap (locs ++ L) (cells + mc) (slots + ms) ls := by
    refine ⟨X.1, by rw [e1]; exact hR.moved hal, ⟨Nat.le_trans X.2.2.1.1 (by rw [e1]; exact hz), fun q h1 h2 => ?_, fun q hq => ?_⟩, X.2.2.2.1, X.2.2.2.2.1, ?_, ?_, X.2.2.2.2.2.2.2⟩
    · rw [e1, hk q (Nat.lt_of_lt_of_le h1 X.2.2.1.1) h2]
      exact X.2.2.1.2.1 q h1 h2
    · rcases List.mem_append.mp hq with h | h
      · exact X.2.2.1.2.2 q h
      · exact hL q h
    · have := X.2.2.2.2.2.1
      omega
    · have := X.2.2.2.2.2.2.1
      omega
  have hw := kk r sh' mem' hq p l e R s m args below meth c G T'.heap (locs ++ L) (cells + mc) (slots + ms) ls X2
  obtain ⟨t2, a1, b1⟩ := hw T' rfl X'
  refine ⟨t2, stp t2 ?_, b1⟩
  have e3 : (r.map (mmEnc G)).toList ++ st.map (mmEnc G) = (r.toList ++ st).map (mmEnc G) := by cases r <;> rfl
  show Steps p.tables e below (T'.setTop { (F0 m pc ls st0) with pc := pc + 3, stack := (r.map (mmEnc G)).toList ++ st.map (mmEnc G) }) t2
  rw [e3]
  exact a1
theorem mm_fix {p : Program} {l : Launch} {R : Room} {s : State} {m : MethodId} {args : Array Value} {meth : Method} {c : Code} {G : mmG} {H : Heap} {locs : List Loc} {cells slots : Nat} {ls : Array Slot} (X : mmX B d kc ks G sh mem lc p l R s m args meth c H locs cells slots ls) : CallFix p m c B.2.1 B.2.2.1 s args mm_tbl B.1.cls := ⟨X.1.1, X.1.2.1, X.1.2.2.1, X.1.2.2.2.2.1, X.1.2.2.2.2.2.1⟩
theorem mm_good {ws : List Cond} (h : ∀ w ∈ ws, w ∈ mm_tbl) : GoodIn mm_tbl ws := fun w hw => ⟨h w hw, good_of_word (List.mem_filter.mp (h w hw)).2⟩
theorem mm_room {B' : mmB} {d' kc' ks' : Nat} {p : Program} {l : Launch} {R : Room} {s : State} {m : MethodId} {args : Array Value} {meth : Method} {c : Code} {G : mmG} {H : Heap} {locs : List Loc} {cells slots : Nat} {ls : Array Slot} (X : mmX B d kc ks G sh mem lc p l R s m args meth c H locs cells slots ls) (hd : d' + 1 ≤ d) (hm : B'.2.2.1 ≤ 40) : ({ frames := d', cells := kc', slots := ks', locals := 64 * d' } : Room).frames + 1 ≤ R.frames ∧ 8 + (B'.2.2.1 + 11) + ({ frames := d', cells := kc', slots := ks', locals := 64 * d' } : Room).locals ≤ R.locals := by
  have h1 := X.2.2.2.2.2.2.2.1
  have h2 := X.2.2.2.2.2.2.2.2.1
  refine ⟨?_, ?_⟩
  · show d' + 1 ≤ R.frames
    omega
  · show 8 + (B'.2.2.1 + 11) + 64 * d' ≤ R.locals
    omega
theorem mm_recv {a ci N : Nat} {q : vw_C} {s : State} {H : Heap} {G : mmG} (hR : mmR G sh mem s H) (hs : sh.2[a]? = some (ci, N)) (h20 : ci < 20) (hc : vwCl[ci]? = some q) : ∃ cell : Cell, H[mmAt G a]? = some cell ∧ cell.vm.isStatics = false ∧ s.vm.findClass q.1 = some cell.cls := by
  have hw := mmW_get (G := G) (mem := mem) hs
  unfold mmE at hw
  rw [if_pos (show (ci, N).1 < 20 from h20)] at hw
  exact va_recv hR.2.1 hR.2.2.1 hc hw
/-- what the tables say of a call: of a method of the receiver's own class; of a static method; of a constructor -/
def mmMV (own : String) (idx : Nat) (B' : mmB) : Prop := Cond.methodLink own idx B'.1 ∈ mm_tbl ∧ Cond.instanceMethod B'.1 ∈ mm_tbl ∧ Cond.selects B'.1.cls B'.1 B'.1 ∈ mm_tbl
def mmMS (own : String) (idx : Nat) (B' : mmB) : Prop := Cond.methodLink own idx B'.1 ∈ mm_tbl ∧ Cond.static B'.1 ∈ mm_tbl
def mmMI (own : String) (idx : Nat) (B' : mmB) : Prop := Cond.methodLink own idx B'.1 ∈ mm_tbl ∧ Cond.instanceMethod B'.1 ∈ mm_tbl ∧ B'.1.name = "<init>"
def mmMN (own : String) (idx : Nat) (host : String) (B' : mmB) : Prop := own = RX11 ∧ host = "SheSays" ∧ mmNst (idx, B'.1) ∧ Cond.instanceMethod B'.1 ∈ mm_tbl ∧ B'.1.name = "<init>"
/-- a method of a superclass, or what overrides an abstract one -/
def mmMU (own : String) (idx : Nat) (C owner : String) (x : MethodName) (B' : mmB) : Prop := Cond.methodLink own idx x ∈ mm_tbl ∧ Cond.sameMethod x.cls owner x.name x.desc ∈ mm_tbl ∧ Cond.selects C x B'.1 ∈ mm_tbl ∧ Cond.instanceMethod B'.1 ∈ mm_tbl ∧ (B'.1 = ⟨owner, x.name, x.desc⟩ ∨ (⟨owner, x.name, x.desc⟩ : MethodName) = ⟨"SheSays$Walk", "saidAt", "(I)I"⟩) ∧ owner ≠ "java/lang/invoke/MethodHandle" ∧ owner ≠ "java/lang/invoke/VarHandle" ∧ x.desc = B'.1.desc
theorem mm_map1 (G : mmG) {r : Int} {a : Nat} {av : List mmV} (h : r = (a : Int)) : (((2, r) :: av : List mmV).map (mmEnc G)) = .ref (mmAt G a) :: av.map (mmEnc G) := by
  rw [List.map_cons]
  show va_rf (mmRf G r) :: _ = _
  rw [mmR_rfl h]
  rfl
theorem mm_stk (G : mmG) {r : Int} {a : Nat} {av : List mmV} (h : r = (a : Int)) : ((av.reverse ++ (2, r) :: st).map (mmEnc G)) = (av.map (mmEnc G)).reverse ++ .ref (mmAt G a) :: st.map (mmEnc G) := by
  rw [List.map_append, mm_map1 G h, List.map_reverse]
theorem st_callV {B' : mmB} {idx d' kc' ks' kc2 ks2 N n : Nat} {r : Int} {stk av : List mmV} {Qc : mmQ} (a ci : Nat) (hm : mmMV B.1.cls idx B') (ho : mmOK B' n) (hC : mmC B' d' kc' ks' ((2, r) :: av) sh mem Qc) (hr : r = (a : Int)) (hs : sh.2[a]? = some (ci, N)) (hc : ∃ q, vwCl[ci]? = some q ∧ q.1 = B'.1.cls ∧ ci < 20) (hn : av.length = n) (hst : stk = av.reverse ++ (2, r) :: st) (hd' : d' + 1 ≤ d) (hkc : kc' + kc2 ≤ kc) (hks : ks' + ks2 ≤ ks) (hcat : mmCat st ≤ 8) (hd : decode B.2.1 pc = .ok (.invokevirtual idx, 3))
    (kk : ∀ (r : Option mmV) (sh' : mmS) (mem' : mmM), Qc r sh' mem' → mmT B d kc2 ks2 Q (pc + 3) lc (r.toList ++ st) sh' mem') : mmT B d kc ks Q pc lc stk sh mem := by
  intro p l e R s m args below meth c G H locs cells slots ls X
  subst hst
  obtain ⟨q, hq1, hq2, hq3⟩ := hc
  have hrecv := mm_recv X.2.1 hs hq3 hq1
  rw [hq2] at hrecv
  have hM := hC l G X.2.2.2.2.2.2.2.2.2.1
  have hgood : GoodIn mm_tbl (wsV B.1.cls idx B'.1.cls B'.1 (Cond.code B'.1 B'.2.1 B'.2.2.1 B'.2.2.2 :: mm_tbl)) := mm_good fun w hw => by
    unfold wsV at hw
    simp only [List.mem_append, List.mem_cons, List.not_mem_nil, or_false] at hw
    rcases hw with (rfl | rfl | rfl | rfl) | rfl | hw
    · exact hm.1
    · exact hm.2.1
    · exact hm.2.2
    · exact ho.2.1
    · exact ho.1
    · exact hw
  refine mm_goes (Qc := Qc) (mc := kc') (ms := ks') (a := (Value.ref (mmAt G a) :: av.map (mmEnc G)).toArray) X hkc hks ?_ kk
  rw [mm_stk G hr]
  refine va_runV (Pc := mmPre G ((2, r) :: av) sh mem) (C := B'.1.cls) (As := av.map (mmEnc G)) (b := mmAt G a) (mm_fix X) hM (cwV n X.1.2.2.2.2.2.1 hgood rfl rfl rfl ⟨rfl, ho.2.2.1⟩ (mm_room X hd' ho.2.2.2.1)) ⟨mm_blind, hrecv, fun U hU hW => ⟨by rw [mm_map1 G hr], by rw [hU]; exact X.2.1.moved hW.alike, X.1.2.2.2.2.2.2.2.2.warm hW, by rw [hU]; exact (X.2.2.2.2.2.2.2.2.2.2.moved hW.alike).kept X.2.2.1.2.1⟩⟩ rfl (by rw [List.length_map]; exact hn) ?_ rfl (lv_room (by rw [mmCat_enc]; exact hcat)) hd ⟨?_, ?_⟩
  · obtain ⟨lv, h1, -⟩ := X.2.2.2.2.1
    exact h1.1
  · have := X.2.2.2.2.2.1
    omega
  · have := X.2.2.2.2.2.2.1
    omega
theorem st_callU {B' : mmB} {idx d' kc' ks' kc2 ks2 N n : Nat} {r : Int} {stk av : List mmV} {Qc : mmQ} (C owner : String) (x : MethodName) (a ci : Nat) (hm : mmMU B.1.cls idx C owner x B') (ho : mmOK B' n) (hC : mmC B' d' kc' ks' ((2, r) :: av) sh mem Qc) (hr : r = (a : Int)) (hs : sh.2[a]? = some (ci, N)) (hc : ∃ q, vwCl[ci]? = some q ∧ q.1 = C ∧ ci < 20) (hn : av.length = n) (hst : stk = av.reverse ++ (2, r) :: st) (hd' : d' + 1 ≤ d) (hkc : kc' + kc2 ≤ kc) (hks : ks' + ks2 ≤ ks) (hcat : mmCat st ≤ 8) (hd : decode B.2.1 pc = .ok (.invokevirtual idx, 3))
    (kk : ∀ (r : Option mmV) (sh' : mmS) (mem' : mmM), Qc r sh' mem' → mmT B d kc2 ks2 Q (pc + 3) lc (r.toList ++ st) sh' mem') : mmT B d kc ks Q pc lc stk sh mem := by
  intro p l e R s m args below meth c G H locs cells slots ls X
  subst hst
  obtain ⟨q, hq1, hq2, hq3⟩ := hc
  have hrecv := mm_recv X.2.1 hs hq3 hq1
  rw [hq2] at hrecv
  have hM := hC l G X.2.2.2.2.2.2.2.2.2.1
  obtain ⟨m1, m2, m3, m4, m5, m6, m7, m8⟩ := hm
  have hgood : GoodIn mm_tbl (va_wsU B.1.cls idx C owner x B'.1 (Cond.code B'.1 B'.2.1 B'.2.2.1 B'.2.2.2 :: mm_tbl)) := mm_good fun w hw => by
    unfold va_wsU at hw
    simp only [List.mem_append, List.mem_cons, List.not_mem_nil, or_false] at hw
    rcases hw with (rfl | rfl | rfl | rfl | rfl) | rfl | hw
    · exact m1
    · exact m2
    · exact m3
    · exact m4
    · exact ho.2.1
    · exact ho.1
    · exact hw
  have hdd : owner ≠ "java/lang/invoke/MethodHandle" ∧ owner ≠ "java/lang/invoke/VarHandle" ∧ (parseMethodDescriptor x.desc).map (fun d => d.parameters.length) = some n := ⟨m6, m7, by rw [m8]; exact ho.2.2.1.2.2⟩
  have cw : va_CU R s args B.1.cls C owner idx x B'.1 B'.2.1 B'.2.2.1 B'.2.2.2 (Cond.code B'.1 B'.2.1 B'.2.2.1 B'.2.2.2 :: mm_tbl) ({ frames := d', cells := kc', slots := ks', locals := 64 * d' } : Room) kc' ks' n := by
    rcases m5 with m5 | m5
    · exact va_cwU n X.1.2.2.2.2.2.1 hgood rfl rfl rfl m5 hdd (mm_room X hd' ho.2.2.2.1)
    · refine va_cwA n X.1.2.2.2.2.2.1 hgood rfl rfl rfl ?_ hdd (mm_room X hd' ho.2.2.2.1)
      rw [m5]
      exact X.1.2.2.2.2.2.2.2.2.2.1
  refine mm_goes (Qc := Qc) (mc := kc') (ms := ks') (a := (Value.ref (mmAt G a) :: av.map (mmEnc G)).toArray) X hkc hks ?_ kk
  rw [mm_stk G hr]
  refine va_runU (Pc := mmPre G ((2, r) :: av) sh mem) (C := C) (As := av.map (mmEnc G)) (b := mmAt G a) (mm_fix X) hM cw ⟨mm_blind, hrecv, fun U hU hW => ⟨by rw [mm_map1 G hr], by rw [hU]; exact X.2.1.moved hW.alike, X.1.2.2.2.2.2.2.2.2.warm hW, by rw [hU]; exact (X.2.2.2.2.2.2.2.2.2.2.moved hW.alike).kept X.2.2.1.2.1⟩⟩ rfl (by rw [List.length_map]; exact hn) ?_ rfl (lv_room (by rw [mmCat_enc]; exact hcat)) hd ⟨?_, ?_⟩
  · obtain ⟨lv, h1, -⟩ := X.2.2.2.2.1
    exact h1.1
  · have := X.2.2.2.2.2.1
    omega
  · have := X.2.2.2.2.2.2.1
    omega
theorem st_callS {B' : mmB} {idx d' kc' ks' kc2 ks2 n : Nat} {stk av : List mmV} {Qc : mmQ} (hm : mmMS B.1.cls idx B') (ho : mmOK B' n) (hC : mmC B' d' kc' ks' av sh mem Qc) (hn : av.length = n) (hst : stk = av.reverse ++ st) (hd' : d' + 1 ≤ d) (hkc : kc' + kc2 ≤ kc) (hks : ks' + ks2 ≤ ks) (hcat : mmCat st ≤ 8) (hd : decode B.2.1 pc = .ok (.invokestatic idx, 3))
    (kk : ∀ (r : Option mmV) (sh' : mmS) (mem' : mmM), Qc r sh' mem' → mmT B d kc2 ks2 Q (pc + 3) lc (r.toList ++ st) sh' mem') : mmT B d kc ks Q pc lc stk sh mem := by
  intro p l e R s m args below meth c G H locs cells slots ls X
  subst hst
  have hM := hC l G X.2.2.2.2.2.2.2.2.2.1
  have hgood : GoodIn mm_tbl (va_wsS B.1.cls idx B'.1 (Cond.code B'.1 B'.2.1 B'.2.2.1 B'.2.2.2 :: mm_tbl)) := mm_good fun w hw => by
    unfold va_wsS at hw
    simp only [List.mem_append, List.mem_cons, List.not_mem_nil, or_false] at hw
    rcases hw with (rfl | rfl | rfl) | rfl | hw
    · exact hm.1
    · exact hm.2
    · exact ho.2.1
    · exact ho.1
    · exact hw
  refine mm_goes (Qc := Qc) (mc := kc') (ms := ks') (a := (av.map (mmEnc G)).toArray) X hkc hks ?_ kk
  refine va_runS (Pc := mmPre G av sh mem) (As := av.map (mmEnc G)) (mm_fix X) hM (va_cwS n X.1.2.2.2.2.2.1 hgood rfl rfl rfl ho.2.2.1 (mm_room X hd' ho.2.2.2.1)) ⟨mm_blind, fun U hU hW => ⟨rfl, by rw [hU]; exact X.2.1.moved hW.alike, X.1.2.2.2.2.2.2.2.2.warm hW, by rw [hU]; exact (X.2.2.2.2.2.2.2.2.2.2.moved hW.alike).kept X.2.2.1.2.1⟩⟩ rfl (by rw [List.length_map]; exact hn) ?_ ?_ (lv_room (by rw [mmCat_enc]; exact hcat)) hd ⟨?_, ?_⟩
  · obtain ⟨lv, h1, -⟩ := X.2.2.2.2.1
    exact h1.1
  · show (av.reverse ++ st).map (mmEnc G) = _
    rw [List.map_append, List.map_reverse]
  · have := X.2.2.2.2.2.1
    omega
  · have := X.2.2.2.2.2.2.1
    omega
theorem st_callI {B' : mmB} {idx d' kc' ks' kc2 ks2 n : Nat} {r : Int} {stk av : List mmV} {Qc : mmQ} (a : Nat) (hm : mmMI B.1.cls idx B') (hret : B'.2.2.2 = none) (ho : mmOK B' n) (hC : mmC B' d' kc' ks' ((2, r) :: av) sh mem Qc) (hr : r = (a : Int)) (hn : av.length = n) (hst : stk = av.reverse ++ (2, r) :: st) (hd' : d' + 1 ≤ d) (hkc : kc' + kc2 ≤ kc) (hks : ks' + ks2 ≤ ks) (hcat : mmCat st ≤ 8) (hd : decode B.2.1 pc = .ok (.invokespecial idx, 3))
    (kk : ∀ (r : Option mmV) (sh' : mmS) (mem' : mmM), Qc r sh' mem' → mmT B d kc2 ks2 Q (pc + 3) lc (r.toList ++ st) sh' mem') : mmT B d kc ks Q pc lc stk sh mem := by
  intro p l e R s m args below meth c G H locs cells slots ls X
  subst hst
  have hM := hC l G X.2.2.2.2.2.2.2.2.2.1
  rw [hret] at hM
  have hcode := ho.1
  rw [hret] at hcode
  have hgood : GoodIn mm_tbl (Cond.code B'.1 B'.2.1 B'.2.2.1 none :: mm_tbl) := mm_good fun w hw => by
    rcases List.mem_cons.mp hw with rfl | hw
    · exact hcode
    · exact hw
  have hts := X.1.2.2.2.2.2.1
  refine mm_goes (Qc := Qc) (mc := kc') (ms := ks') (a := (Value.ref (mmAt G a) :: av.map (mmEnc G)).toArray) X hkc hks ?_ kk
  rw [mm_stk G hr]
  refine va_runI (Pc := mmPre G ((2, r) :: av) sh mem) (As := av.map (mmEnc G)) (b := mmAt G a) (mm_fix X) hM (cwI n hts hgood rfl rfl rfl (hts _ ho.2.1) (hts _ hm.1) (hts _ hm.2.1) hm.2.2 ho.2.2.1 (mm_room X hd' ho.2.2.2.1)) ⟨mm_blind, fun U hU hW => ⟨by rw [mm_map1 G hr], by rw [hU]; exact X.2.1.moved hW.alike, X.1.2.2.2.2.2.2.2.2.warm hW, by rw [hU]; exact (X.2.2.2.2.2.2.2.2.2.2.moved hW.alike).kept X.2.2.1.2.1⟩⟩ rfl (by rw [List.length_map]; exact hn) ?_ rfl (lv_room (by rw [mmCat_enc]; exact hcat)) hd ⟨?_, ?_⟩
  · obtain ⟨lv, h1, -⟩ := X.2.2.2.2.1
    exact h1.1
  · have := X.2.2.2.2.2.1
    omega
  · have := X.2.2.2.2.2.2.1
    omega
theorem st_callN {B' : mmB} {idx d' kc' ks' kc2 ks2 n : Nat} {r : Int} {stk av : List mmV} {Qc : mmQ} (host : String) (a : Nat) (hm : mmMN B.1.cls idx host B') (hret : B'.2.2.2 = none) (ho : mmOK B' n) (hC : mmC B' d' kc' ks' ((2, r) :: av) sh mem Qc) (hr : r = (a : Int)) (hn : av.length = n) (hst : stk = av.reverse ++ (2, r) :: st) (hd' : d' + 1 ≤ d) (hkc : kc' + kc2 ≤ kc) (hks : ks' + ks2 ≤ ks) (hcat : mmCat st ≤ 8) (hd : decode B.2.1 pc = .ok (.invokespecial idx, 3))
    (kk : ∀ (r : Option mmV) (sh' : mmS) (mem' : mmM), Qc r sh' mem' → mmT B d kc2 ks2 Q (pc + 3) lc (r.toList ++ st) sh' mem') : mmT B d kc ks Q pc lc stk sh mem := by
  intro p l e R s m args below meth c G H locs cells slots ls X
  subst hst
  have hM := hC l G X.2.2.2.2.2.2.2.2.2.1
  rw [hret] at hM
  have hcode := ho.1
  rw [hret] at hcode
  have hgood : GoodIn mm_tbl (Cond.code B'.1 B'.2.1 B'.2.2.1 none :: mm_tbl) := mm_good fun w hw => by
    rcases List.mem_cons.mp hw with rfl | hw
    · exact hcode
    · exact hw
  have hts := X.1.2.2.2.2.2.1
  obtain ⟨m1, m2, m3, m4, m5⟩ := hm
  subst m2
  have hnest : va_Nw (.methodLinkNest B.1.cls idx B'.1 "SheSays") s := by
    rw [m1]
    exact X.1.2.2.2.2.2.2.2.2.1.1 _ m3
  refine mm_goes (Qc := Qc) (mc := kc') (ms := ks') (a := (Value.ref (mmAt G a) :: av.map (mmEnc G)).toArray) X hkc hks ?_ kk
  rw [mm_stk G hr]
  refine va_runIN (host := "SheSays") (Pc := mmPre G ((2, r) :: av) sh mem) (As := av.map (mmEnc G)) (b := mmAt G a) (mm_fix X) hM ⟨va_cnB n hts hgood rfl rfl rfl hnest (hts _ ho.2.1) ho.2.2.1 (mm_room X hd' ho.2.2.2.1), m5, hts _ m4⟩ ⟨mm_blind, fun U hU hW => ⟨by rw [mm_map1 G hr], by rw [hU]; exact X.2.1.moved hW.alike, X.1.2.2.2.2.2.2.2.2.warm hW, by rw [hU]; exact (X.2.2.2.2.2.2.2.2.2.2.moved hW.alike).kept X.2.2.1.2.1⟩⟩ rfl (by rw [List.length_map]; exact hn) ?_ rfl (lv_room (by rw [mmCat_enc]; exact hcat)) hd ⟨?_, ?_⟩
  · obtain ⟨lv, h1, -⟩ := X.2.2.2.2.1
    exact h1.1
  · have := X.2.2.2.2.2.1
    omega
  · have := X.2.2.2.2.2.2.1
    omega
theorem st_objInit {idx : Nat} {r : Int} (a : Nat) (hm : Cond.methodLink B.1.cls idx objectInit ∈ mm_tbl) (h1 : Cond.instanceMethod objectInit ∈ mm_tbl) (h2 : Cond.code objectInit ⟨#[0xb1]⟩ 1 none ∈ mm_tbl) (hd1 : 1 ≤ d) (hcat : mmCat st ≤ 8) (hr : r = (a : Int)) (hd : decode B.2.1 pc = .ok (.invokespecial idx, 3)) (k : mmT B d kc ks Q (pc + 3) lc st sh mem) : mmT B d kc ks Q pc lc ((2, r) :: st) sh mem := by
  intro p l e R s m args below meth c G H locs cells slots ls X
  have hts := X.1.2.2.2.2.2.1
  have h := k p l e R s m args below meth c G H locs cells slots ls X
  rw [mm_map1 G hr]
  refine W.objInit X.1.1 X.1.2.1 X.1.2.2.2.2.1 (hts _ hm) (hts _ h1) (hts _ h2) rfl ?_ rfl hd ?_ ?_ h
  · obtain ⟨lv, h1, -⟩ := X.2.2.2.2.1
    rw [X.1.2.2.1]
    exact h1.1
  · have := X.2.2.2.2.2.2.2.1
    omega
  · have h3 := lv_room (m := m) (pc := pc) (ls := ls) (rest := st.map (mmEnc G)) (st := st.map (mmEnc G)) (by rw [mmCat_enc]; exact hcat)
    have := X.2.2.2.2.2.2.2.2.1
    show 2 * (F0 m pc ls (Value.ref (mmAt G a) :: st.map (mmEnc G))).monitorRoom + _ + 12 ≤ R.locals
    have h4 : 2 * (F0 m pc ls (st.map (mmEnc G))).monitorRoom + ((st.map (mmEnc G)).map fun v => v.category).sum ≤ 8 := h3
    have h5 : (F0 m pc ls (Value.ref (mmAt G a) :: st.map (mmEnc G))).monitorRoom = (F0 m pc ls (st.map (mmEnc G))).monitorRoom := rfl
    rw [h5]
    omega
theorem mm_post {r : Option mmV} {p : Program} {l : Launch} {R : Room} {s : State} {m : MethodId} {args : Array Value} {meth : Method} {c : Code} {G : mmG} {H : Heap} {locs : List Loc} {cells slots : Nat} {ls : Array Slot} (X : mmX B d kc ks G sh mem lc p l R s m args meth c H locs cells slots ls) (hq : Q r sh mem) : ∀ t : State, t.heap = H → s.WarmedH t.vm → mmPost G Q args s (.returned (r.map (mmEnc G))) t := fun t ht hW => ⟨⟨r, sh, mem, rfl, hq, by rw [ht]; exact X.2.1.moved hW.alike⟩, X.2.2.1.F ht⟩
theorem st_ireturn {v : Int} (hret : B.2.2.2 = some .int) (hd : decode B.2.1 pc = .ok (.ireturn, 1)) (hq : Q (some (0, v)) sh mem) : mmT B d kc ks Q pc lc [(0, v)] sh mem := by
  intro p l e R s m args below meth c G H locs cells slots ls X
  have h1 := X.2.2.2.2.2.1
  have h2 := X.2.2.2.2.2.2.1
  refine W.widen (k := R.cells) (n := R.slots) (by omega) (by omega) ?_
  exact W.iret (v := Int32.ofInt v) X.1.1 X.1.2.1 (X.1.2.2.2.1.trans hret) (mm_post X hq) X.2.2.1.2.2 hd (hlocks := X.1.2.2.2.2.2.2.1)
theorem st_zreturn {v : Int} (hret : B.2.2.2 = some .boolean) (hv : v = 0 ∨ v = 1) (hd : decode B.2.1 pc = .ok (.ireturn, 1)) (hq : Q (some (0, v)) sh mem) : mmT B d kc ks Q pc lc [(0, v)] sh mem := by
  intro p l e R s m args below meth c G H locs cells slots ls X
  have h1 := X.2.2.2.2.2.1
  have h2 := X.2.2.2.2.2.2.1
  refine W.widen (k := R.cells) (n := R.slots) (by omega) (by omega) ?_
  exact W.zret (v := Int32.ofInt v) X.1.1 X.1.2.1 (X.1.2.2.2.1.trans hret) (by rcases hv with rfl | rfl <;> rfl) (mm_post X hq) X.2.2.1.2.2 hd (hlocks := X.1.2.2.2.2.2.2.1)
theorem st_lreturn {v : Int} (hret : B.2.2.2 = some .long) (hd : decode B.2.1 pc = .ok (.lreturn, 1)) (hq : Q (some (1, v)) sh mem) : mmT B d kc ks Q pc lc [(1, v)] sh mem := by
  intro p l e R s m args below meth c G H locs cells slots ls X
  have h1 := X.2.2.2.2.2.1
  have h2 := X.2.2.2.2.2.2.1
  refine W.widen (k := R.cells) (n := R.slots) (by omega) (by omega) ?_
  exact W.lret (v := Int64.ofInt v) X.1.1 X.1.2.1 (X.1.2.2.2.1.trans hret) (mm_post X hq) X.2.2.1.2.2 hd (hlocks := X.1.2.2.2.2.2.2.1)
theorem st_areturn {v : Int} {rt : FieldType} (hret : B.2.2.2 = some rt) (hrt : (∃ n, rt = .object n) ∨ ∃ t, rt = .array t) (hd : decode B.2.1 pc = .ok (.areturn, 1)) (hq : Q (some (2, v)) sh mem) : mmT B d kc ks Q pc lc [(2, v)] sh mem := by
  intro p l e R s m args below meth c G H locs cells slots ls X
  have h1 := X.2.2.2.2.2.1
  have h2 := X.2.2.2.2.2.2.1
  refine W.widen (k := R.cells) (n := R.slots) (by omega) (by omega) ?_
  refine W.aret (v := va_rf (mmRf G v)) X.1.1 X.1.2.1 (X.1.2.2.2.1.trans hret) hrt ?_ (mm_post X hq) X.2.2.1.2.2 hd (hlocks := X.1.2.2.2.2.2.2.1)
  cases mmRf G v with
  | none => exact Or.inl rfl
  | some a => exact Or.inr ⟨a, rfl⟩
theorem st_return (hret : B.2.2.2 = none) (hd : decode B.2.1 pc = .ok (.return_, 1)) (hq : Q none sh mem) : mmT B d kc ks Q pc lc [] sh mem := by
  intro p l e R s m args below meth c G H locs cells slots ls X
  have h1 := X.2.2.2.2.2.1
  have h2 := X.2.2.2.2.2.2.1
  refine W.widen (k := R.cells) (n := R.slots) (by omega) (by omega) ?_
  exact W.vret X.1.1 X.1.2.1 (X.1.2.2.2.1.trans hret) (mm_post X hq) X.2.2.1.2.2 hd (hlocks := X.1.2.2.2.2.2.2.1)
end MMca
end
section
/-! new cells -/
def mm_okTy : FieldType → Bool := fun t => match t with
  | .int => true
  | .long => true
  | .boolean => true
  | .byte => true
  | .object _ => true
  | .array _ => true
  | _ => false
def mm_init (ci : Nat) : Int → Int := fun k => if mm_tg (mm_clTy ci k.toNat) = 2 then -1 else 0
theorem mm_def (G : mmG) {ty : FieldType} (h : mm_okTy ty = true) : defaultValue ty = mmEnc G (mm_tg ty, if mm_tg ty = 2 then -1 else 0) := by
  cases ty <;> first | rfl | cases h
theorem mCan_init (ci N : Nat) (k : Int) : (mTag (ci, N) k = 0 → R32 (mm_init ci k)) ∧ (mTag (ci, N) k = 1 → R64 (mm_init ci k)) := by
  unfold mm_init
  split <;> exact ⟨fun _ => by omega, fun _ => by omega⟩
theorem mCan_const (q : Nat × Nat) (z : Int) (h : z = 0 ∨ z = -1) (k : Int) : (mTag q k = 0 → R32 z) ∧ (mTag q k = 1 → R64 z) := by
  rcases h with rfl | rfl <;> exact ⟨fun _ => by omega, fun _ => by omega⟩
theorem mmR_new {G : mmG} {L : List (Nat × Nat)} {mem : mmM} {s : State} {H H1 : Heap} {q : Nat × Nat} {f : Int → Int} (hR : mmR G (true, L) mem s H) (he : va_at G.2.1 vwCl (mmAt G L.length, mmE G q f) H1) (hz : H1.size = H.size + 1) (ho : ∀ x : Nat, x < H.size → H1[x]? = H[x]?) (hl : L.length + 1 ≤ 999) (hv : ∀ k, (mTag q k = 0 → R32 (f k)) ∧ (mTag q k = 1 → R64 (f k))) : mmR G (true, L ++ [q]) (mrow mem L.length f) s H1 := by
  obtain ⟨h1, h2, h3, h4, h5, h6, h7, h8, h9⟩ := hR
  have hs := h1 rfl
  dsimp only at hs
  refine ⟨fun _ => ?_, h2, fun k' x hx => ?_, ?_, h5, by omega, ?_, fun h => (by cases h), mCan_row h9 (q := q) (by show (L ++ [q])[L.length]? = some q; simp) (fun _ _ _ => trivial) (fun a' q' hne hq' => ?_) (by omega) hv⟩
  · rw [hz, hs]
    show _ = mmAt G (L ++ [q]).length
    rw [List.length_append]
    exact (mmAt_succ h4.2).symm
  · obtain ⟨q', hq', rfl⟩ := mmW_of hx
    by_cases e : k' = L.length
    · subst e
      rw [mrow_same]
      have : (L ++ [q])[L.length]? = some q := by simp
      cases this.symm.trans hq'
      exact he
    · have hlt : k' < L.length := by
        have := (List.getElem?_eq_some_iff.mp hq').1
        rw [List.length_append] at this
        simp at this
        omega
      rw [mrow_ne e]
      have hq2 : L[k']? = some q' := by rwa [List.getElem?_append_left hlt] at hq'
      exact (h3 k' _ (mmW_get hq2)).kept (ho _ (by rw [hs]; exact mmAt_lt h4.2.1 hlt))
  · rw [mrow_ne (show 999 ≠ L.length by omega)]
    refine ⟨h4.1.kept (ho _ (by omega)), ?_⟩
    show mmHo G (L ++ [q]).length true H1.size
    rw [List.length_append]
    exact mmHo_new h4.2 (by omega)
  · show (L ++ [q]).length ≤ 999
    rw [List.length_append]
    simpa using hl
  · have hlt : a' < L.length := by
      have := (List.getElem?_eq_some_iff.mp hq').1
      rw [List.length_append] at this
      simp at this
      omega
    rwa [List.getElem?_append_left hlt] at hq'
theorem mm_Snew {A : Nat → Prop} {H0 H H1 : Heap} {locs : List Loc} (h : va_S A H0 H locs) (hz : H.size ≤ H1.size) (ho : ∀ x : Nat, x < H.size → H1[x]? = H[x]?) : va_S A H0 H1 locs :=
  ⟨Nat.le_trans h.1 hz, fun x h1 h2 => (ho x (Nat.lt_of_lt_of_le h1 h.1)).trans (h.2.1 x h1 h2), h.2.2⟩
section MMal
variable {B : mmB} {d kc ks : Nat} {Q : mmQ} {pc : Nat} {lc st : List mmV} {L : List (Nat × Nat)} {mem : mmM}
theorem mmX_new {q : Nat × Nat} {f : Int → Int} {n : Nat} {G : mmG} {p : Program} {l : Launch} {R : Room} {s : State} {m : MethodId} {args : Array Value} {meth : Method} {c : Code} {H H1 : Heap} {locs : List Loc} {cells slots : Nat} {ls : Array Slot} (X : mmX B d (kc + 1) (ks + n) G (true, L) mem lc p l R s m args meth c H locs cells slots ls) (he : va_at G.2.1 vwCl (mmAt G L.length, mmE G q f) H1) (hz : H1.size = H.size + 1) (ho : ∀ x : Nat, x < H.size → H1[x]? = H[x]?) (hl : L.length + 1 ≤ 999) (hv : ∀ k, (mTag q k = 0 → R32 (f k)) ∧ (mTag q k = 1 → R64 (f k))) : mmX B d kc ks G (true, L ++ [q]) (mrow mem L.length f) lc p l R s m args meth c H1 locs (cells + 1) (slots + n) ls := by
  refine ⟨X.1, mmR_new X.2.1 he hz ho hl hv, mm_Snew X.2.2.1 (by omega) ho, X.2.2.2.1, X.2.2.2.2.1, ?_, ?_, X.2.2.2.2.2.2.2⟩
  · have := X.2.2.2.2.2.1
    omega
  · have := X.2.2.2.2.2.2.1
    omega
theorem mm_top {G : mmG} {mem : mmM} {s : State} {H : Heap} (hR : mmR G (true, L) mem s H) : mmEnc G (2, (L.length : Int)) = .ref H.size := by
  show va_rf (mmRf G (L.length : Int)) = _
  rw [mmR_rfl rfl, hR.1 rfl]
  rfl
theorem st_new {idx ci N : Nat} (C : String) (T : u_T) (hc : vwCl[ci]? = some (C, T, N)) (h20 : ci < 20) (hm : mmTy ci) (hok : ∀ k, k < N → mm_okTy (mm_clTy ci k) = true) (hin : ∀ w ∈ u_ws C T N, w ∈ mm_tbl) (h1 : Cond.classLink B.1.cls idx C ∈ mm_tbl) (h2 : Cond.instantiable C N ∈ mm_tbl) (h3 : Cond.initialized C ∈ mm_tbl) (hl : L.length + 1 ≤ 999) (hd : decode B.2.1 pc = .ok (.new idx, 3)) (k : mmT B d kc ks Q (pc + 3) lc ((2, (L.length : Int)) :: st) (true, L ++ [(ci, N)]) (mrow mem L.length (mm_init ci))) : mmT B d (kc + 1) (ks + N) Q pc lc st (true, L) mem := by
  intro p l e R s m args below meth c G H locs cells slots ls X
  have hts := X.1.2.2.2.2.2.1
  obtain ⟨C', T', N', f1, f2, f3⟩ := hm
  cases hc.symm.trans f1
  have hKn := X.2.1.2.1.1 ci _ hc
  have b1 := X.2.2.2.2.2.1
  have b2 := X.2.2.2.2.2.2.1
  refine W.newcK X.1.1 X.1.2.1 X.1.2.2.2.2.1 (hts _ h1) (hts _ h2) (hts _ h3) rfl hd (by omega) (by omega) hKn.2.1 rfl fun H1 kC hkC e1 z1 o1 => ?_
  have hh := k p l e R s m args below meth c G H1 locs (cells + 1) (slots + N) ls (mmX_new X ?_ z1 o1 hl (mCan_init ci N))
  · rw [List.map_cons, mm_top X.2.1] at hh
    exact hh
  · unfold mmE
    rw [if_pos (show (ci, N).1 < 20 from h20)]
    refine ⟨_, hc, ?_⟩
    have hs := X.2.1.1 rfl
    dsimp only at hs
    show t_OB (mmAt G L.length) (G.2.1.1 ci) N (G.2.1.2 ci) H1 (vp_V (mmFs G ci N (mm_init ci)))
    rw [← hs]
    refine (u_born (mm_clTy ci) hts (fun w hw => hin w hw) hKn hkC e1 f2).to (fun j hj => ?_)
    unfold vp_V
    rw [List.getD_eq_getElem?_getD, mmFs_get hj]
    exact mm_def G (hok j hj)
theorem mm_arrNew {t n : Nat} {G : mmG} {H1 : Heap} {ty : FieldType} {z : Int} (ht : 20 ≤ t) (hdv : defaultValue ty = mmEnc G (mm_at t, z)) (h : H1[mmAt G L.length]? = some (arrV (G.2.2.1 t) n (fun _ => defaultValue ty))) : va_at G.2.1 vwCl (mmAt G L.length, mmE G (t, n) (fun _ => z)) H1 := by
  refine mm_arrAt ?_ ht
  rw [h, hdv]
theorem st_newarray {t n : Nat} {r : Int} {at0 : ArrayType} (ht : (t = 20 ∧ at0 = .int) ∨ (t = 21 ∧ at0 = .long) ∨ (t = 22 ∧ at0 = .boolean)) (hw : Cond.arrayClass (newarray.typeOf at0) ∈ mm_tbl) (hr : r = (n : Int)) (hn : n ≤ 5000) (hl : L.length + 1 ≤ 999) (hd : decode B.2.1 pc = .ok (.newarray at0, 2)) (k : mmT B d kc ks Q (pc + 2) lc ((2, (L.length : Int)) :: st) (true, L ++ [(t, n)]) (mrow mem L.length (fun _ => 0))) : mmT B d (kc + 1) (ks + n) Q pc lc ((0, r) :: st) (true, L) mem := by
  intro p l e R s m args below meth c G H locs cells slots ls X
  subst hr
  have hts := X.1.2.2.2.2.2.1
  have b1 := X.2.2.2.2.2.1
  have b2 := X.2.2.2.2.2.2.1
  have e0 : (Int32.ofInt (n : Int)).toInt = n := by rw [w32_toInt, w32_id (by omega) (by omega)]
  have e1 : (Int32.ofInt (n : Int)).toNatClampNeg = n := by
    rw [← Int32.toNat_toInt, e0]
    omega
  have e2 : ¬ Int32.ofInt (n : Int) < 0 := by
    rw [Int32.lt_iff_toInt_lt, e0]
    have : (0 : Int32).toInt = 0 := rfl
    omega
  have hs := X.2.1.1 rfl
  dsimp only at hs
  have hcb : n * componentBytes (newarray.typeOf at0) ≤ 536870912 := by
    rcases ht with ⟨-, rfl⟩ | ⟨-, rfl⟩ | ⟨-, rfl⟩
    · show n * 4 ≤ _
      omega
    · show n * 8 ≤ _
      omega
    · show n * 1 ≤ _
      omega
  refine va_newaK (n := Int32.ofInt (n : Int)) (N := n) X.1.1 X.1.2.1 (hts _ hw) rfl hd rfl e2 e1 hcb (by omega) (by omega) hs fun H1 cA g1 g2 g3 g4 g5 => ?_
  have hcA : cA = G.2.2.1 t := by
    rcases ht with ⟨rfl, rfl⟩ | ⟨rfl, rfl⟩ | ⟨rfl, rfl⟩
    · exact Option.some.inj (g5.symm.trans (X.2.1.2.1.2 0 _ rfl).2)
    · exact Option.some.inj (g5.symm.trans (X.2.1.2.1.2 1 _ rfl).2)
    · exact Option.some.inj (g5.symm.trans (X.2.1.2.1.2 2 _ rfl).2)
  subst hcA
  have hh := k p l e R s m args below meth c G H1 locs (cells + 1) (slots + n) ls (mmX_new X ?_ (by rw [g2, hs]) (by rw [hs]; exact g3) hl (fun k => mCan_const (t, n) 0 (Or.inl rfl) k))
  · rw [List.map_cons, mm_top X.2.1, hs] at hh
    exact hh
  · refine mm_arrNew (ty := newarray.typeOf at0) (by omega) ?_ g1
    rcases ht with ⟨rfl, rfl⟩ | ⟨rfl, rfl⟩ | ⟨rfl, rfl⟩ <;> rfl
theorem st_anewarray {n idx : Nat} {r : Int} (h1 : Cond.classLink B.1.cls idx "SheSays$Law" ∈ mm_tbl) (hr : r = (n : Int)) (hn : n ≤ 5000) (hl : L.length + 1 ≤ 999) (hd : decode B.2.1 pc = .ok (.anewarray idx, 3)) (k : mmT B d kc ks Q (pc + 3) lc ((2, (L.length : Int)) :: st) (true, L ++ [(23, n)]) (mrow mem L.length (fun _ => -1))) : mmT B d (kc + 1) (ks + n) Q pc lc ((0, r) :: st) (true, L) mem := by
  intro p l e R s m args below meth c G H locs cells slots ls X
  subst hr
  have hts := X.1.2.2.2.2.2.1
  have b1 := X.2.2.2.2.2.1
  have b2 := X.2.2.2.2.2.2.1
  have e0 : (Int32.ofInt (n : Int)).toInt = n := by rw [w32_toInt, w32_id (by omega) (by omega)]
  have e1 : (Int32.ofInt (n : Int)).toNatClampNeg = n := by
    rw [← Int32.toNat_toInt, e0]
    omega
  have e2 : ¬ Int32.ofInt (n : Int) < 0 := by
    rw [Int32.lt_iff_toInt_lt, e0]
    have : (0 : Int32).toInt = 0 := rfl
    omega
  have hs := X.2.1.1 rfl
  dsimp only at hs
  refine W.anew (n := Int32.ofInt (n : Int)) X.1.1 X.1.2.1 X.1.2.2.2.2.1 (hts _ h1) (ao_use X.1.2.2.2.2.2.2.2.2.1.2.1) rfl hd rfl e2 (by rw [e1]; omega) (by omega) (by rw [e1]; omega) fun cA kA comp g1 g2 g3 g4 => ?_
  obtain ⟨kA', comp', -, -, -, g5⟩ := (X.2.1.2.1.2 3 _ rfl).2
  have hcA : cA = G.2.2.1 23 := Option.some.inj (g1.symm.trans g5)
  subst hcA
  rw [e1]
  have ho : ∀ x : Nat, x < H.size → (H.push { cls := G.2.2.1 23, slots := Array.replicate n .null, vm := .none })[x]? = H[x]? := fun x hx => by rw [Array.getElem?_push, if_neg (Nat.ne_of_lt hx)]
  have hh := k p l e R s m args below meth c G _ locs (cells + 1) (slots + n) ls (mmX_new (H1 := H.push { cls := G.2.2.1 23, slots := Array.replicate n .null, vm := .none }) X ?_ (by simp) ho hl (fun k => mCan_const (23, n) (-1) (Or.inr rfl) k))
  · rw [List.map_cons, mm_top X.2.1] at hh
    exact hh
  · refine mm_arrAt ?_ (by decide)
    rw [← hs, arrV_new]
    simp
    rfl
/-- new long[N][K]: its row stands in the last part (the library's law of it lies outside the short library) -/
def mmMulti : Prop := ∀ (B : mmB) (d kc ks : Nat) (Q : mmQ) (pc : Nat) (lc st : List mmV) (L : List (Nat × Nat)) (mem : mmM) (N K idx : Nat) (r1 r2 : Int), Cond.classLink B.1.cls idx ("[" ++ (FieldType.array .long).toString) ∈ mm_tbl → Cond.arrayClass .long ∈ mm_tbl → r1 = (N : Int) → r2 = (K : Int) → N ≤ 5000 → K ≤ 5000 → L.length + 1 + N ≤ 999 → decode B.2.1 pc = .ok (.multianewarray idx 2, 4) →
  mmT B d kc ks Q (pc + 4) lc ((2, (L.length : Int)) :: st) (true, (L ++ [(24, N)]) ++ List.replicate N (21, K)) (fun a => if L.length + 1 ≤ a ∧ a < L.length + 1 + N then (fun _ => 0) else mrow mem L.length (fun i => (L.length : Int) + 1 + i) a) → mmT B d (kc + (1 + N)) (ks + (N + N * K)) Q pc lc ((0, r2) :: (0, r1) :: st) (true, L) mem
/-- System.arraycopy of n ints from the first on -/
theorem st_copy {sh : mmS} {idx n n0 n1 : Nat} {ra rb rn z1 z2 : Int} (a b : Nat) (hf : sh.1 = false) (hfr : fixRow b = true) (h1 : Cond.methodLink B.1.cls idx arraycopyName ∈ mm_tbl) (h2 : Cond.native arraycopyName ∈ mm_tbl) (h3 : Cond.static arraycopyName ∈ mm_tbl) (h4 : Cond.initialized "java/lang/System" ∈ mm_tbl) (hra : ra = (a : Int)) (hrb : rb = (b : Int)) (hrn : rn = (n : Int)) (hz1 : z1 = 0) (hz2 : z2 = 0) (hsa : sh.2[a]? = some (20, n0)) (hsb : sh.2[b]? = some (20, n1)) (hn0 : n ≤ n0) (hn1 : n ≤ n1) (hn : n ≤ 5000) (hd1 : 3 ≤ d) (hcat : mmCat st ≤ 8) (hd : decode B.2.1 pc = .ok (.invokestatic idx, 3))
    (k : mmT B d kc ks Q (pc + 3) lc st sh (mrow mem b (fun j => if 0 ≤ j ∧ j < n then mem a j else mem b j))) : mmT B d kc ks Q pc lc ((0, rn) :: (0, z1) :: (2, rb) :: (0, z2) :: (2, ra) :: st) sh mem := by
  intro p l e R s m args below meth c G H locs cells slots ls X
  subst hrn hz1 hz2
  have hts := X.1.2.2.2.2.2.1
  have e0 : (Int32.ofInt (n : Int)).toInt = n := by rw [w32_toInt, w32_id (by omega) (by omega)]
  have e1 : (Int32.ofInt (n : Int)).toNatClampNeg = n := by
    rw [← Int32.toNat_toInt, e0]
    omega
  have e2 : ¬ Int32.ofInt (n : Int) < 0 := by
    rw [Int32.lt_iff_toInt_lt, e0]
    have : (0 : Int32).toInt = 0 := rfl
    omega
  have hwa := mmW_get (G := G) (mem := mem) hsa
  have hwb := mmW_get (G := G) (mem := mem) hsb
  have hmE : ∀ (q : Nat) (f : Int → Int), mmE G (20, q) f = .inl (G.2.2.1 20, q, .inl (fun j => Int32.ofInt (f j))) := fun q f => rfl
  rw [hmE] at hwa hwb
  obtain ⟨lv, hlv, -⟩ := X.2.2.2.2.1
  have hr4 := X.2.2.2.2.2.2.2.2.1
  have hr3 := X.2.2.2.2.2.2.2.1
  show W p l e R s m args below meth c H locs cells slots _ (F0 m pc ls (.int (Int32.ofInt (n : Int)) :: .int (Int32.ofInt 0) :: va_rf (mmRf G rb) :: .int (Int32.ofInt 0) :: va_rf (mmRf G ra) :: st.map (mmEnc G)))
  rw [mmR_rfl hra, mmR_rfl hrb]
  have z0 : (Int32.ofInt 0).toNatClampNeg = 0 := rfl
  refine va_copyi X.1.1 X.1.2.1 (X.1.2.2.1.trans hlv.1.symm) X.1.2.2.2.2.1 (hts _ h1) (hts _ h2) (hts _ h3) (hts _ h4) X.2.1.2.1 X.2.1.2.2.1 (mmW_D (G := G) X.2.1.2.2.2.1.2) X.2.2.1 a b 0 0 hwa hwb rfl rfl rfl (by decide) (by decide) e2 (by rw [z0, e1]; omega) (by rw [z0, e1]; omega) (fun i _ => rfl) (by omega) ?_ hd fun H1 locs1 hP hD hS => ?_
  · have hcc := mmCat_enc G st
    have hnat : nativeFrameWords "java/lang/System" "arraycopy" 5 ≤ 100 := by decide
    omega
  · refine k p l e R s m args below meth c G H1 locs1 cells slots ls ⟨X.1, ⟨fun h => (by rw [hf] at h; cases h), X.2.1.2.1, fun k' x hx => ?_, ?_, X.2.1.2.2.2.2.1, Nat.le_trans X.2.2.2.1.1 hS.1, X.2.1.2.2.2.2.2.2.1, fun h q hq => ?_, mCan_row X.2.1.2.2.2.2.2.2.2.2 hsb (fun _ _ _ => trivial) (fun _ _ _ h => h) (fun e9 => ?_) (fun k => ⟨fun _ => ?_, fun h => by cases h⟩)⟩, hS, X.2.2.2.1, X.2.2.2.2⟩
    · obtain ⟨q', hq', rfl⟩ := mmW_of hx
      have hl := (List.getElem?_eq_some_iff.mp hwb).1
      by_cases e : k' = b
      · subst e
        cases hsb.symm.trans hq'
        have := hP k' (mmAt G k', _) (List.getElem?_set_self hl)
        rw [mrow_same, hmE]
        refine cast ?_ this
        congr 6
        funext j
        unfold va_cpy
        rw [e1, z0]
        by_cases hj : j < n
        · rw [if_pos (by omega), if_pos (by omega)]
          congr 2
          omega
        · rw [if_neg (by omega), if_neg (by omega)]
      · rw [mrow_ne e]
        have hg := mmW_get (G := G) (mem := mem) hq'
        exact hP k' _ (by rw [List.getElem?_set_ne (Ne.symm e)]; exact hg)
    · have hbl := (List.getElem?_eq_some_iff.mp hsb).1
      have hle := X.2.1.2.2.2.2.2.2.1
      rw [mrow_ne (show 999 ≠ b by omega)]
      have hb := X.2.1.2.2.2.2.1
      have old : H1[G.1.1]? = H[G.1.1]? := by
        have hn : ¬ mmAd G G.1.1 := fun w => by have := w.1; omega
        rw [hS.2.1 _ (by have := X.2.2.2.1.1; omega) hn, X.2.2.1.2.1 _ (by have := X.2.2.2.1.1; omega) hn]
      refine ⟨X.2.1.2.2.2.1.1.kept old, X.2.1.2.2.2.1.2.1, X.2.1.2.2.2.1.2.2.1, ?_⟩
      rcases X.2.1.2.2.2.1.2.2.2 with w | w
      · exact Or.inl w
      · rcases X.2.2.2.1.2 with w3 | w3
        · exact Or.inl w3
        · exact Or.inr ⟨w.1, Nat.le_trans w3 hS.1, w.2.2⟩
    · have h1 := List.all_eq_true.mp hfr q hq
      simp only [Bool.not_eq_true', beq_eq_false_iff_ne, ne_eq] at h1
      rw [mrow_ne h1]
      exact X.2.1.2.2.2.2.2.2.2.1 h q hq
    · have hbl := (List.getElem?_eq_some_iff.mp hsb).1
      have hle := X.2.1.2.2.2.2.2.2.1
      omega
    · have ca := (X.2.1.2.2.2.2.2.2.2.2.1 a _ k hsa).1 rfl
      have cb := (X.2.1.2.2.2.2.2.2.2.2.1 b _ k hsb).1 rfl
      split
      · exact ca
      · exact cb
/-- from now on no cell is made; the references that never change are what they are -/
theorem st_seal (hfx : mFix mem) (k : mmT B d kc ks Q pc lc st (false, L) mem) : mmT B d kc ks Q pc lc st (true, L) mem := by
  intro p l e R s m args below meth c G H locs cells slots ls X
  exact k p l e R s m args below meth c G H locs cells slots ls ⟨X.1, ⟨fun h => (by cases h), X.2.1.2.1, X.2.1.2.2.1, ⟨X.2.1.2.2.2.1.1, X.2.1.2.2.2.1.2.1, (fun h => by cases h), X.2.1.2.2.2.1.2.2.2.imp id (fun w => ⟨w.1, w.2.1, w.2.2.1, fun h => by cases h⟩)⟩, X.2.1.2.2.2.2.1, X.2.1.2.2.2.2.2.1, X.2.1.2.2.2.2.2.2.1, fun _ => hfx, X.2.1.2.2.2.2.2.2.2.2⟩, X.2.2⟩
end MMal
end
section
/-! finer rows: comparisons of numbers within bounds, Math, divisions, results of calls -/
section MMfi
variable {B : mmB} {d kc ks : Nat} {Q : mmQ} {pc : Nat} {lc st : List mmV} {sh : mmS} {mem : mmM}
theorem st_ldcw {i : Nat} {v : Int} (hw : Cond.constant B.1.cls i (Int32.ofInt v) ∈ mm_tbl) (hd : decode B.2.1 pc = .ok (.ldc_w i, 3)) (k : mmT B d kc ks Q (pc + 3) lc ((0, v) :: st) sh mem) : mmT B d kc ks Q pc lc st sh mem :=
  fun p l e R s m args below meth c G H locs cells slots ls X => lv_ldcw X.1.1 X.1.2.1 X.1.2.2.2.2.1 (X.1.2.2.2.2.2.1 _ hw) hd (k p l e R s m args below meth c G H locs cells slots ls X)
theorem sr_icmp_eq {x y off : Int} (tgt : Nat) (hx : R32 x) (hy : R32 y) (ht : (pc : Int) + off = (tgt : Int)) (hd : decode B.2.1 pc = .ok (.if_icmp .eq off, 3)) (kt : x = y → mmT B d kc ks Q tgt lc st sh mem) (kf : ¬ (x = y) → mmT B d kc ks Q (pc + 3) lc st sh mem) : mmT B d kc ks Q pc lc ((0, y) :: (0, x) :: st) sh mem :=
  st_icmp_eq tgt ht hd (fun h => kt (by rw [w32_id hx.1 hx.2, w32_id hy.1 hy.2] at h; exact h)) (fun h => kf (by rw [w32_id hx.1 hx.2, w32_id hy.1 hy.2] at h; exact h))
theorem sr_if_eq {x off : Int} (tgt : Nat) (hx : R32 x) (ht : (pc : Int) + off = (tgt : Int)) (hd : decode B.2.1 pc = .ok (.ifCond .eq off, 3)) (kt : x = 0 → mmT B d kc ks Q tgt lc st sh mem) (kf : ¬ (x = 0) → mmT B d kc ks Q (pc + 3) lc st sh mem) : mmT B d kc ks Q pc lc ((0, x) :: st) sh mem :=
  st_if_eq tgt ht hd (fun h => kt (by rw [w32_id hx.1 hx.2] at h; exact h)) (fun h => kf (by rw [w32_id hx.1 hx.2] at h; exact h))
theorem sr_icmp_ne {x y off : Int} (tgt : Nat) (hx : R32 x) (hy : R32 y) (ht : (pc : Int) + off = (tgt : Int)) (hd : decode B.2.1 pc = .ok (.if_icmp .ne off, 3)) (kt : x ≠ y → mmT B d kc ks Q tgt lc st sh mem) (kf : x = y → mmT B d kc ks Q (pc + 3) lc st sh mem) : mmT B d kc ks Q pc lc ((0, y) :: (0, x) :: st) sh mem :=
  st_icmp_ne tgt ht hd (fun h => kt (by rw [w32_id hx.1 hx.2, w32_id hy.1 hy.2] at h; exact h)) (fun h => kf (by rw [w32_id hx.1 hx.2, w32_id hy.1 hy.2] at h; exact h))
theorem sr_if_ne {x off : Int} (tgt : Nat) (hx : R32 x) (ht : (pc : Int) + off = (tgt : Int)) (hd : decode B.2.1 pc = .ok (.ifCond .ne off, 3)) (kt : x ≠ 0 → mmT B d kc ks Q tgt lc st sh mem) (kf : x = 0 → mmT B d kc ks Q (pc + 3) lc st sh mem) : mmT B d kc ks Q pc lc ((0, x) :: st) sh mem :=
  st_if_ne tgt ht hd (fun h => kt (by rw [w32_id hx.1 hx.2] at h; exact h)) (fun h => kf (by rw [w32_id hx.1 hx.2] at h; exact h))
theorem sr_icmp_lt {x y off : Int} (tgt : Nat) (hx : R32 x) (hy : R32 y) (ht : (pc : Int) + off = (tgt : Int)) (hd : decode B.2.1 pc = .ok (.if_icmp .lt off, 3)) (kt : x < y → mmT B d kc ks Q tgt lc st sh mem) (kf : ¬ (x < y) → mmT B d kc ks Q (pc + 3) lc st sh mem) : mmT B d kc ks Q pc lc ((0, y) :: (0, x) :: st) sh mem :=
  st_icmp_lt tgt ht hd (fun h => kt (by rw [w32_id hx.1 hx.2, w32_id hy.1 hy.2] at h; exact h)) (fun h => kf (by rw [w32_id hx.1 hx.2, w32_id hy.1 hy.2] at h; exact h))
theorem sr_if_lt {x off : Int} (tgt : Nat) (hx : R32 x) (ht : (pc : Int) + off = (tgt : Int)) (hd : decode B.2.1 pc = .ok (.ifCond .lt off, 3)) (kt : x < 0 → mmT B d kc ks Q tgt lc st sh mem) (kf : ¬ (x < 0) → mmT B d kc ks Q (pc + 3) lc st sh mem) : mmT B d kc ks Q pc lc ((0, x) :: st) sh mem :=
  st_if_lt tgt ht hd (fun h => kt (by rw [w32_id hx.1 hx.2] at h; exact h)) (fun h => kf (by rw [w32_id hx.1 hx.2] at h; exact h))
theorem sr_icmp_ge {x y off : Int} (tgt : Nat) (hx : R32 x) (hy : R32 y) (ht : (pc : Int) + off = (tgt : Int)) (hd : decode B.2.1 pc = .ok (.if_icmp .ge off, 3)) (kt : x ≥ y → mmT B d kc ks Q tgt lc st sh mem) (kf : ¬ (x ≥ y) → mmT B d kc ks Q (pc + 3) lc st sh mem) : mmT B d kc ks Q pc lc ((0, y) :: (0, x) :: st) sh mem :=
  st_icmp_ge tgt ht hd (fun h => kt (by rw [w32_id hx.1 hx.2, w32_id hy.1 hy.2] at h; exact h)) (fun h => kf (by rw [w32_id hx.1 hx.2, w32_id hy.1 hy.2] at h; exact h))
theorem sr_if_ge {x off : Int} (tgt : Nat) (hx : R32 x) (ht : (pc : Int) + off = (tgt : Int)) (hd : decode B.2.1 pc = .ok (.ifCond .ge off, 3)) (kt : x ≥ 0 → mmT B d kc ks Q tgt lc st sh mem) (kf : ¬ (x ≥ 0) → mmT B d kc ks Q (pc + 3) lc st sh mem) : mmT B d kc ks Q pc lc ((0, x) :: st) sh mem :=
  st_if_ge tgt ht hd (fun h => kt (by rw [w32_id hx.1 hx.2] at h; exact h)) (fun h => kf (by rw [w32_id hx.1 hx.2] at h; exact h))
theorem sr_icmp_gt {x y off : Int} (tgt : Nat) (hx : R32 x) (hy : R32 y) (ht : (pc : Int) + off = (tgt : Int)) (hd : decode B.2.1 pc = .ok (.if_icmp .gt off, 3)) (kt : x > y → mmT B d kc ks Q tgt lc st sh mem) (kf : ¬ (x > y) → mmT B d kc ks Q (pc + 3) lc st sh mem) : mmT B d kc ks Q pc lc ((0, y) :: (0, x) :: st) sh mem :=
  st_icmp_gt tgt ht hd (fun h => kt (by rw [w32_id hx.1 hx.2, w32_id hy.1 hy.2] at h; exact h)) (fun h => kf (by rw [w32_id hx.1 hx.2, w32_id hy.1 hy.2] at h; exact h))
theorem sr_if_gt {x off : Int} (tgt : Nat) (hx : R32 x) (ht : (pc : Int) + off = (tgt : Int)) (hd : decode B.2.1 pc = .ok (.ifCond .gt off, 3)) (kt : x > 0 → mmT B d kc ks Q tgt lc st sh mem) (kf : ¬ (x > 0) → mmT B d kc ks Q (pc + 3) lc st sh mem) : mmT B d kc ks Q pc lc ((0, x) :: st) sh mem :=
  st_if_gt tgt ht hd (fun h => kt (by rw [w32_id hx.1 hx.2] at h; exact h)) (fun h => kf (by rw [w32_id hx.1 hx.2] at h; exact h))
theorem sr_icmp_le {x y off : Int} (tgt : Nat) (hx : R32 x) (hy : R32 y) (ht : (pc : Int) + off = (tgt : Int)) (hd : decode B.2.1 pc = .ok (.if_icmp .le off, 3)) (kt : x ≤ y → mmT B d kc ks Q tgt lc st sh mem) (kf : ¬ (x ≤ y) → mmT B d kc ks Q (pc + 3) lc st sh mem) : mmT B d kc ks Q pc lc ((0, y) :: (0, x) :: st) sh mem :=
  st_icmp_le tgt ht hd (fun h => kt (by rw [w32_id hx.1 hx.2, w32_id hy.1 hy.2] at h; exact h)) (fun h => kf (by rw [w32_id hx.1 hx.2, w32_id hy.1 hy.2] at h; exact h))
theorem sr_if_le {x off : Int} (tgt : Nat) (hx : R32 x) (ht : (pc : Int) + off = (tgt : Int)) (hd : decode B.2.1 pc = .ok (.ifCond .le off, 3)) (kt : x ≤ 0 → mmT B d kc ks Q tgt lc st sh mem) (kf : ¬ (x ≤ 0) → mmT B d kc ks Q (pc + 3) lc st sh mem) : mmT B d kc ks Q pc lc ((0, x) :: st) sh mem :=
  st_if_le tgt ht hd (fun h => kt (by rw [w32_id hx.1 hx.2] at h; exact h)) (fun h => kf (by rw [w32_id hx.1 hx.2] at h; exact h))
theorem sr_i2l {x : Int} (hx : R32 x) (hd : decode B.2.1 pc = .ok (.i2l, 1)) (k : mmT B d kc ks Q (pc + 1) lc ((1, x) :: st) sh mem) : mmT B d kc ks Q pc lc ((0, x) :: st) sh mem :=
  st_i2l hd (by rw [w32_id hx.1 hx.2]; exact k)
theorem cmp64_rng (x y : Int) : -1 ≤ cmp64 x y ∧ cmp64 x y ≤ 1 := by
  unfold cmp64
  split
  · omega
  · split <;> omega
theorem sr_lcmp_eq {x y off : Int} (tgt : Nat) (hx : R64 x) (hy : R64 y) (ht : ((pc + 1 : Nat) : Int) + off = (tgt : Int)) (hd : decode B.2.1 pc = .ok (.lcmp, 1)) (hd2 : decode B.2.1 (pc + 1) = .ok (.ifCond .eq off, 3)) (kt : x = y → mmT B d kc ks Q tgt lc st sh mem) (kf : ¬ (x = y) → mmT B d kc ks Q (pc + 1 + 3) lc st sh mem) : mmT B d kc ks Q pc lc ((1, y) :: (1, x) :: st) sh mem := by
  have hc := cmp64_rng x y
  have e : (y < x ∧ cmp64 x y = 1) ∨ (x = y ∧ cmp64 x y = 0) ∨ (x < y ∧ cmp64 x y = -1) := by
    unfold cmp64
    rw [w64_id hx.1 hx.2, w64_id hy.1 hy.2]
    split
    · exact Or.inl ⟨by assumption, rfl⟩
    · split
      · exact Or.inr (Or.inl ⟨by assumption, rfl⟩)
      · exact Or.inr (Or.inr ⟨by omega, rfl⟩)
  exact st_lcmp hd (sr_if_eq tgt (by omega) ht hd2 (fun h => kt (by omega)) (fun h => kf (by omega)))
theorem sr_lcmp_ne {x y off : Int} (tgt : Nat) (hx : R64 x) (hy : R64 y) (ht : ((pc + 1 : Nat) : Int) + off = (tgt : Int)) (hd : decode B.2.1 pc = .ok (.lcmp, 1)) (hd2 : decode B.2.1 (pc + 1) = .ok (.ifCond .ne off, 3)) (kt : x ≠ y → mmT B d kc ks Q tgt lc st sh mem) (kf : x = y → mmT B d kc ks Q (pc + 1 + 3) lc st sh mem) : mmT B d kc ks Q pc lc ((1, y) :: (1, x) :: st) sh mem := by
  have hc := cmp64_rng x y
  have e : (y < x ∧ cmp64 x y = 1) ∨ (x = y ∧ cmp64 x y = 0) ∨ (x < y ∧ cmp64 x y = -1) := by
    unfold cmp64
    rw [w64_id hx.1 hx.2, w64_id hy.1 hy.2]
    split
    · exact Or.inl ⟨by assumption, rfl⟩
    · split
      · exact Or.inr (Or.inl ⟨by assumption, rfl⟩)
      · exact Or.inr (Or.inr ⟨by omega, rfl⟩)
  exact st_lcmp hd (sr_if_ne tgt (by omega) ht hd2 (fun h => kt (by omega)) (fun h => kf (by omega)))
theorem sr_lcmp_lt {x y off : Int} (tgt : Nat) (hx : R64 x) (hy : R64 y) (ht : ((pc + 1 : Nat) : Int) + off = (tgt : Int)) (hd : decode B.2.1 pc = .ok (.lcmp, 1)) (hd2 : decode B.2.1 (pc + 1) = .ok (.ifCond .lt off, 3)) (kt : x < y → mmT B d kc ks Q tgt lc st sh mem) (kf : ¬ (x < y) → mmT B d kc ks Q (pc + 1 + 3) lc st sh mem) : mmT B d kc ks Q pc lc ((1, y) :: (1, x) :: st) sh mem := by
  have hc := cmp64_rng x y
  have e : (y < x ∧ cmp64 x y = 1) ∨ (x = y ∧ cmp64 x y = 0) ∨ (x < y ∧ cmp64 x y = -1) := by
    unfold cmp64
    rw [w64_id hx.1 hx.2, w64_id hy.1 hy.2]
    split
    · exact Or.inl ⟨by assumption, rfl⟩
    · split
      · exact Or.inr (Or.inl ⟨by assumption, rfl⟩)
      · exact Or.inr (Or.inr ⟨by omega, rfl⟩)
  exact st_lcmp hd (sr_if_lt tgt (by omega) ht hd2 (fun h => kt (by omega)) (fun h => kf (by omega)))
theorem sr_lcmp_ge {x y off : Int} (tgt : Nat) (hx : R64 x) (hy : R64 y) (ht : ((pc + 1 : Nat) : Int) + off = (tgt : Int)) (hd : decode B.2.1 pc = .ok (.lcmp, 1)) (hd2 : decode B.2.1 (pc + 1) = .ok (.ifCond .ge off, 3)) (kt : x ≥ y → mmT B d kc ks Q tgt lc st sh mem) (kf : ¬ (x ≥ y) → mmT B d kc ks Q (pc + 1 + 3) lc st sh mem) : mmT B d kc ks Q pc lc ((1, y) :: (1, x) :: st) sh mem := by
  have hc := cmp64_rng x y
  have e : (y < x ∧ cmp64 x y = 1) ∨ (x = y ∧ cmp64 x y = 0) ∨ (x < y ∧ cmp64 x y = -1) := by
    unfold cmp64
    rw [w64_id hx.1 hx.2, w64_id hy.1 hy.2]
    split
    · exact Or.inl ⟨by assumption, rfl⟩
    · split
      · exact Or.inr (Or.inl ⟨by assumption, rfl⟩)
      · exact Or.inr (Or.inr ⟨by omega, rfl⟩)
  exact st_lcmp hd (sr_if_ge tgt (by omega) ht hd2 (fun h => kt (by omega)) (fun h => kf (by omega)))
theorem sr_lcmp_gt {x y off : Int} (tgt : Nat) (hx : R64 x) (hy : R64 y) (ht : ((pc + 1 : Nat) : Int) + off = (tgt : Int)) (hd : decode B.2.1 pc = .ok (.lcmp, 1)) (hd2 : decode B.2.1 (pc + 1) = .ok (.ifCond .gt off, 3)) (kt : x > y → mmT B d kc ks Q tgt lc st sh mem) (kf : ¬ (x > y) → mmT B d kc ks Q (pc + 1 + 3) lc st sh mem) : mmT B d kc ks Q pc lc ((1, y) :: (1, x) :: st) sh mem := by
  have hc := cmp64_rng x y
  have e : (y < x ∧ cmp64 x y = 1) ∨ (x = y ∧ cmp64 x y = 0) ∨ (x < y ∧ cmp64 x y = -1) := by
    unfold cmp64
    rw [w64_id hx.1 hx.2, w64_id hy.1 hy.2]
    split
    · exact Or.inl ⟨by assumption, rfl⟩
    · split
      · exact Or.inr (Or.inl ⟨by assumption, rfl⟩)
      · exact Or.inr (Or.inr ⟨by omega, rfl⟩)
  exact st_lcmp hd (sr_if_gt tgt (by omega) ht hd2 (fun h => kt (by omega)) (fun h => kf (by omega)))
theorem sr_lcmp_le {x y off : Int} (tgt : Nat) (hx : R64 x) (hy : R64 y) (ht : ((pc + 1 : Nat) : Int) + off = (tgt : Int)) (hd : decode B.2.1 pc = .ok (.lcmp, 1)) (hd2 : decode B.2.1 (pc + 1) = .ok (.ifCond .le off, 3)) (kt : x ≤ y → mmT B d kc ks Q tgt lc st sh mem) (kf : ¬ (x ≤ y) → mmT B d kc ks Q (pc + 1 + 3) lc st sh mem) : mmT B d kc ks Q pc lc ((1, y) :: (1, x) :: st) sh mem := by
  have hc := cmp64_rng x y
  have e : (y < x ∧ cmp64 x y = 1) ∨ (x = y ∧ cmp64 x y = 0) ∨ (x < y ∧ cmp64 x y = -1) := by
    unfold cmp64
    rw [w64_id hx.1 hx.2, w64_id hy.1 hy.2]
    split
    · exact Or.inl ⟨by assumption, rfl⟩
    · split
      · exact Or.inr (Or.inl ⟨by assumption, rfl⟩)
      · exact Or.inr (Or.inr ⟨by omega, rfl⟩)
  exact st_lcmp hd (sr_if_le tgt (by omega) ht hd2 (fun h => kt (by omega)) (fun h => kf (by omega)))
theorem sr_mmax {idx : Nat} {x y : Int} (hx : R32 x) (hy : R32 y) (h1 : Cond.methodLink B.1.cls idx Lib.Math.max.name ∈ mm_tbl) (h2 : Cond.static Lib.Math.max.name ∈ mm_tbl) (h3 : Cond.initialized "java/lang/Math" ∈ mm_tbl) (h4 : Cond.code Lib.Math.max.name Lib.Math.max.code 2 (some .int) ∈ mm_tbl) (hd1 : 1 ≤ d) (hcat : mmCat st ≤ 8) (hd : decode B.2.1 pc = .ok (.invokestatic idx, 3)) (k : mmT B d kc ks Q (pc + 3) lc ((0, max x y) :: st) sh mem) : mmT B d kc ks Q pc lc ((0, y) :: (0, x) :: st) sh mem := by
  intro p l e R s m args below meth c G H locs cells slots ls X
  have hts := X.1.2.2.2.2.2.1
  have h := k p l e R s m args below meth c G H locs cells slots ls X
  obtain ⟨lv, hlv, -⟩ := X.2.2.2.2.1
  have hcc := mmCat_enc G st
  have q1 := X.2.2.2.2.2.1
  have q2 := X.2.2.2.2.2.2.1
  have q3 := X.2.2.2.2.2.2.2.1
  have q4 := X.2.2.2.2.2.2.2.2.1
  refine va_mmax X.1.1 X.1.2.1 (X.1.2.2.1.trans hlv.1.symm) X.1.2.2.2.2.1 (hts _ h1) (hts _ h2) (hts _ h3) (hts _ h4) (by omega) (by omega) (by omega) (by omega) hd ?_
  have e : (if Int32.ofInt x < Int32.ofInt y then Int32.ofInt y else Int32.ofInt x) = Int32.ofInt (max x y) := by
    simp only [mm_lt32, w32_id hx.1 hx.2, w32_id hy.1 hy.2]
    split
    · congr 1; omega
    · congr 1; omega
  rw [e]
  exact h
theorem sr_mmin {idx : Nat} {x y : Int} (hx : R32 x) (hy : R32 y) (h1 : Cond.methodLink B.1.cls idx Lib.Math.min.name ∈ mm_tbl) (h2 : Cond.static Lib.Math.min.name ∈ mm_tbl) (h3 : Cond.initialized "java/lang/Math" ∈ mm_tbl) (h4 : Cond.code Lib.Math.min.name Lib.Math.min.code 2 (some .int) ∈ mm_tbl) (hd1 : 1 ≤ d) (hcat : mmCat st ≤ 8) (hd : decode B.2.1 pc = .ok (.invokestatic idx, 3)) (k : mmT B d kc ks Q (pc + 3) lc ((0, min x y) :: st) sh mem) : mmT B d kc ks Q pc lc ((0, y) :: (0, x) :: st) sh mem := by
  intro p l e R s m args below meth c G H locs cells slots ls X
  have hts := X.1.2.2.2.2.2.1
  have h := k p l e R s m args below meth c G H locs cells slots ls X
  obtain ⟨lv, hlv, -⟩ := X.2.2.2.2.1
  have hcc := mmCat_enc G st
  have q1 := X.2.2.2.2.2.1
  have q2 := X.2.2.2.2.2.2.1
  have q3 := X.2.2.2.2.2.2.2.1
  have q4 := X.2.2.2.2.2.2.2.2.1
  refine va_mmin X.1.1 X.1.2.1 (X.1.2.2.1.trans hlv.1.symm) X.1.2.2.2.2.1 (hts _ h1) (hts _ h2) (hts _ h3) (hts _ h4) (by omega) (by omega) (by omega) (by omega) hd ?_
  have e : (if Int32.ofInt y < Int32.ofInt x then Int32.ofInt y else Int32.ofInt x) = Int32.ofInt (min x y) := by
    simp only [mm_lt32, w32_id hx.1 hx.2, w32_id hy.1 hy.2]
    split
    · congr 1; omega
    · congr 1; omega
  rw [e]
  exact h
theorem sr_mabs {idx : Nat} {x : Int} (hx : -2147483648 < x ∧ x < 2147483648) (h1 : Cond.methodLink B.1.cls idx Lib.Math.abs.name ∈ mm_tbl) (h2 : Cond.static Lib.Math.abs.name ∈ mm_tbl) (h3 : Cond.initialized "java/lang/Math" ∈ mm_tbl) (h4 : Cond.code Lib.Math.abs.name Lib.Math.abs.code 1 (some .int) ∈ mm_tbl) (hd1 : 1 ≤ d) (hcat : mmCat st ≤ 8) (hd : decode B.2.1 pc = .ok (.invokestatic idx, 3)) (k : mmT B d kc ks Q (pc + 3) lc ((0, if 0 ≤ x then x else -x) :: st) sh mem) : mmT B d kc ks Q pc lc ((0, x) :: st) sh mem := by
  intro p l e R s m args below meth c G H locs cells slots ls X
  have hts := X.1.2.2.2.2.2.1
  have h := k p l e R s m args below meth c G H locs cells slots ls X
  obtain ⟨lv, hlv, -⟩ := X.2.2.2.2.1
  have hcc := mmCat_enc G st
  have q1 := X.2.2.2.2.2.1
  have q2 := X.2.2.2.2.2.2.1
  have q3 := X.2.2.2.2.2.2.2.1
  have q4 := X.2.2.2.2.2.2.2.2.1
  refine va_mabs X.1.1 X.1.2.1 (X.1.2.2.1.trans hlv.1.symm) X.1.2.2.2.2.1 (hts _ h1) (hts _ h2) (hts _ h3) (hts _ h4) (by omega) (by omega) (by omega) (by omega) hd ?_
  have e : (if 0 ≤ Int32.ofInt x then Int32.ofInt x else 0 - Int32.ofInt x) = Int32.ofInt (if 0 ≤ x then x else -x) := by
    have z : (0 ≤ Int32.ofInt x) ↔ 0 ≤ x := by
      rw [show (0 : Int32) = Int32.ofInt 0 from rfl, mm_le32, mm_w0, w32_id (by omega) hx.2]
    simp only [z]
    split
    · rfl
    · rw [show (0 : Int32) = Int32.ofInt 0 from rfl, ← Int32.ofInt_sub]
      congr 1
      omega
  rw [e]
  exact h
theorem sr_mmaxl {idx : Nat} {x y : Int} (hx : R64 x) (hy : R64 y) (h1 : Cond.methodLink B.1.cls idx Lib.MathLoose.max_long.x ∈ mm_tbl) (h2 : Cond.static Lib.MathLoose.max_long.x ∈ mm_tbl) (h3 : Cond.initialized "java/lang/Math" ∈ mm_tbl) (h4 : Cond.code Lib.MathLoose.max_long.x Lib.MathLoose.max_long.code 4 (some .long) ∈ mm_tbl) (hd1 : 1 ≤ d) (hcat : mmCat st ≤ 8) (hd : decode B.2.1 pc = .ok (.invokestatic idx, 3)) (k : mmT B d kc ks Q (pc + 3) lc ((1, max x y) :: st) sh mem) : mmT B d kc ks Q pc lc ((1, y) :: (1, x) :: st) sh mem := by
  intro p l e R s m args below meth c G H locs cells slots ls X
  have hts := X.1.2.2.2.2.2.1
  have h := k p l e R s m args below meth c G H locs cells slots ls X
  obtain ⟨lv, hlv, -⟩ := X.2.2.2.2.1
  have hcc := mmCat_enc G st
  have q1 := X.2.2.2.2.2.1
  have q2 := X.2.2.2.2.2.2.1
  have q3 := X.2.2.2.2.2.2.2.1
  have q4 := X.2.2.2.2.2.2.2.2.1
  refine va_mmax_long X.1.1 X.1.2.1 (X.1.2.2.1.trans hlv.1.symm) X.1.2.2.2.2.1 (hts _ h1) (hts _ h2) (hts _ h3) (hts _ h4) (by omega) (by omega) (by omega) (by omega) hd ?_
  have z : (Int64.ofInt y < Int64.ofInt x) ↔ y < x := by rw [Int64.lt_iff_toInt_lt, w64_toInt, w64_toInt, w64_id hx.1 hx.2, w64_id hy.1 hy.2]
  have e : (if Int64.ofInt y < Int64.ofInt x then Int64.ofInt x else Int64.ofInt y) = Int64.ofInt (max x y) := by
    simp only [z]
    split
    · congr 1; omega
    · congr 1; omega
  rw [e]
  exact h
theorem sr_mminl {idx : Nat} {x y : Int} (hx : R64 x) (hy : R64 y) (h1 : Cond.methodLink B.1.cls idx Lib.MathLoose.min_long.x ∈ mm_tbl) (h2 : Cond.static Lib.MathLoose.min_long.x ∈ mm_tbl) (h3 : Cond.initialized "java/lang/Math" ∈ mm_tbl) (h4 : Cond.code Lib.MathLoose.min_long.x Lib.MathLoose.min_long.code 4 (some .long) ∈ mm_tbl) (hd1 : 1 ≤ d) (hcat : mmCat st ≤ 8) (hd : decode B.2.1 pc = .ok (.invokestatic idx, 3)) (k : mmT B d kc ks Q (pc + 3) lc ((1, min x y) :: st) sh mem) : mmT B d kc ks Q pc lc ((1, y) :: (1, x) :: st) sh mem := by
  intro p l e R s m args below meth c G H locs cells slots ls X
  have hts := X.1.2.2.2.2.2.1
  have h := k p l e R s m args below meth c G H locs cells slots ls X
  obtain ⟨lv, hlv, -⟩ := X.2.2.2.2.1
  have hcc := mmCat_enc G st
  have q1 := X.2.2.2.2.2.1
  have q2 := X.2.2.2.2.2.2.1
  have q3 := X.2.2.2.2.2.2.2.1
  have q4 := X.2.2.2.2.2.2.2.2.1
  refine va_mmin_long X.1.1 X.1.2.1 (X.1.2.2.1.trans hlv.1.symm) X.1.2.2.2.2.1 (hts _ h1) (hts _ h2) (hts _ h3) (hts _ h4) (by omega) (by omega) (by omega) (by omega) hd ?_
  have z : (Int64.ofInt y < Int64.ofInt x) ↔ y < x := by rw [Int64.lt_iff_toInt_lt, w64_toInt, w64_toInt, w64_id hx.1 hx.2, w64_id hy.1 hy.2]
  have e : (if Int64.ofInt y < Int64.ofInt x then Int64.ofInt y else Int64.ofInt x) = Int64.ofInt (min x y) := by
    simp only [z]
    split
    · congr 1; omega
    · congr 1; omega
  rw [e]
  exact h
theorem tdiv_bnd (x y : Int) (hy : y ≠ 0) : -(x.natAbs : Int) ≤ x.tdiv y ∧ x.tdiv y ≤ x.natAbs := by
  have h : (x.tdiv y).natAbs ≤ x.natAbs := by
    rw [Int.natAbs_tdiv]
    exact Nat.div_le_self _ _
  omega
theorem div32_eq {x y : Int} (hx : -2147483648 < x ∧ x < 2147483648) (hy : R32 y) (h0 : y ≠ 0) : div32 x y = x.tdiv y := by
  unfold div32
  rw [Int32.toInt_div, w32_toInt, w32_toInt, w32_id (by omega) hx.2, w32_id hy.1 hy.2, Int.bmod_def]
  have := tdiv_bnd x y h0
  split <;> omega
theorem div64_eq {x y : Int} (hx : -9223372036854775808 < x ∧ x < 9223372036854775808) (hy : R64 y) (h0 : y ≠ 0) : div64 x y = x.tdiv y := by
  unfold div64
  rw [Int64.toInt_div, w64_toInt, w64_toInt, w64_id (by omega) hx.2, w64_id hy.1 hy.2, Int.bmod_def]
  have := tdiv_bnd x y h0
  split <;> omega
theorem sr_idiv {x y : Int} (hx : -2147483648 < x ∧ x < 2147483648) (hy : R32 y) (h0 : y ≠ 0) (hd : decode B.2.1 pc = .ok (.idiv, 1)) (k : mmT B d kc ks Q (pc + 1) lc ((0, x.tdiv y) :: st) sh mem) : mmT B d kc ks Q pc lc ((0, y) :: (0, x) :: st) sh mem :=
  st_idiv (by rw [w32_id hy.1 hy.2]; exact h0) hd (by rw [div32_eq hx hy h0]; exact k)
theorem sr_ldiv {x y : Int} (hx : -9223372036854775808 < x ∧ x < 9223372036854775808) (hy : R64 y) (h0 : y ≠ 0) (hd : decode B.2.1 pc = .ok (.ldiv, 1)) (k : mmT B d kc ks Q (pc + 1) lc ((1, x.tdiv y) :: st) sh mem) : mmT B d kc ks Q pc lc ((1, y) :: (1, x) :: st) sh mem :=
  st_ldiv (by rw [w64_id hy.1 hy.2]; exact h0) hd (by rw [div64_eq hx hy h0]; exact k)
/-- what comes back: a number of kind t (0 an int, 1 a long, 2 a reference), or nothing; no cell is made -/
def mS : mmS := (false, mSH)
def mQ (t : Nat) (P : Int → mmM → Prop) : mmQ := fun r sh' m' => ∃ v, r = some (t, v) ∧ sh' = mS ∧ P v m'
def mQv (P : mmM → Prop) : mmQ := fun r sh' m' => r = none ∧ sh' = mS ∧ P m'
theorem mQ.elim {t : Nat} {P : Int → mmM → Prop} {d kc ks pc : Nat} (kk : ∀ (v : Int) (m' : mmM), P v m' → mmT B d kc ks Q pc lc ((t, v) :: st) mS m') : ∀ (r : Option mmV) (sh' : mmS) (mem' : mmM), mQ t P r sh' mem' → mmT B d kc ks Q pc lc (r.toList ++ st) sh' mem' := by
  intro r sh' mem' h
  obtain ⟨v, rfl, rfl, h⟩ := h
  exact kk v mem' h
theorem mQv.elim {P : mmM → Prop} {d kc ks pc : Nat} (kk : ∀ (m' : mmM), P m' → mmT B d kc ks Q pc lc st mS m') : ∀ (r : Option mmV) (sh' : mmS) (mem' : mmM), mQv P r sh' mem' → mmT B d kc ks Q pc lc (r.toList ++ st) sh' mem' := by
  intro r sh' mem' h
  obtain ⟨rfl, rfl, h⟩ := h
  exact kk mem' h
theorem mQ.ret {t : Nat} {P : Int → mmM → Prop} {v : Int} {m' : mmM} (h : P v m') : mQ t P (some (t, v)) mS m' := ⟨v, rfl, rfl, h⟩
theorem mQv.ret {P : mmM → Prop} {m' : mmM} (h : P m') : mQv P none mS m' := ⟨rfl, rfl, h⟩
/-- a contract: with these arguments over these cells the method comes back and P holds of what comes and of the cells -/
def con (t : Nat) (B : mmB) (d : Nat) (av : List mmV) (mem : mmM) (P : Int → mmM → Prop) : Prop := mmC B d 0 0 av mS mem (mQ t P)
def conv (B : mmB) (d : Nat) (av : List mmV) (mem : mmM) (P : mmM → Prop) : Prop := mmC B d 0 0 av mS mem (mQv P)
end MMfi
theorem Met.weak {l : Launch} {y : MethodName} {ws : List Cond} {rm : Room} {Pc : Array Value → State → Prop} {Qc Qc' : Array Value → State → Outcome → State → Prop} {mc ms : Nat} {free : Addr → Prop} (h : Met l y ws rm Pc Qc mc ms free) (hq : ∀ a s o t, Qc a s o t → Qc' a s o t) : Met l y ws rm Pc Qc' mc ms free := by
  intro p e ha hc hk s m args below hf happ hP hK
  obtain ⟨k, o, h1, h2, h3, hQ⟩ := h p e ha hc hk s m args below hf happ hP hK
  exact ⟨k, o, h1, h2, h3, hq _ _ _ _ hQ.1, hQ.2⟩
theorem con.mono {t : Nat} {B : mmB} {d : Nat} {av : List mmV} {mem : mmM} {P P' : Int → mmM → Prop} (h : con t B d av mem P) (hp : ∀ v m', P v m' → P' v m') : con t B d av mem P' :=
  fun l G hfl => (h l G hfl).weak fun _ _ _ _ ⟨⟨r, sh, m, h1, ⟨v, h2, h3, h4⟩, h5⟩, h6⟩ => ⟨⟨r, sh, m, h1, ⟨v, h2, h3, hp v m h4⟩, h5⟩, h6⟩
theorem conv.mono {B : mmB} {d : Nat} {av : List mmV} {mem : mmM} {P P' : mmM → Prop} (h : conv B d av mem P) (hp : ∀ m', P m' → P' m') : conv B d av mem P' :=
  fun l G hfl => (h l G hfl).weak fun _ _ _ _ ⟨⟨r, sh, m, h1, ⟨h2, h3, h4⟩, h5⟩, h6⟩ => ⟨⟨r, sh, m, h1, ⟨h2, h3, hp m h4⟩, h5⟩, h6⟩
end
section
/-! rows for the JDK's texts: constants, static fields, rows of bytes, a superclass's own method -/
def mmMSu (own : String) (idx : Nat) (B' : mmB) : Prop := Cond.methodLink own idx B'.1 ∈ mm_tbl ∧ Cond.sameMethod B'.1.cls B'.1.cls B'.1.name B'.1.desc ∈ mm_tbl ∧ Cond.superclass own B'.1.cls ∈ mm_tbl ∧ Cond.instanceMethod B'.1 ∈ mm_tbl ∧ B'.1.name ≠ "<init>"
def mmMO (own : String) (idx : Nat) (C owner : String) (x : MethodName) (B' : mmB) : Prop := Cond.methodLink own idx x ∈ mm_tbl ∧ Cond.sameMethod x.cls owner x.name x.desc ∈ mm_tbl ∧ Cond.instanceMethod ⟨owner, x.name, x.desc⟩ ∈ mm_tbl ∧ Cond.selects C x B'.1 ∈ mm_tbl ∧ Cond.instanceMethod B'.1 ∈ mm_tbl ∧ (∃ b0 m0 r0, Cond.code ⟨owner, x.name, x.desc⟩ b0 m0 r0 ∈ mm_tbl) ∧ owner ≠ "java/lang/invoke/MethodHandle" ∧ owner ≠ "java/lang/invoke/VarHandle" ∧ x.desc = B'.1.desc
theorem byte_all : ∀ n, n < 128 → (Int32.ofInt (n : Nat)).toInt8.toInt32 = Int32.ofInt (n : Nat) ∧ narrow .byte (.int (Int32.ofInt (n : Nat))) = .int (Int32.ofInt (n : Nat)) ∧ fits .byte (.int (Int32.ofInt (n : Nat))) = true := by decide +kernel
theorem char_all : ∀ n, n < 256 → ((Int32.ofInt (n : Nat)).toUInt32 % 65536).toInt32 = Int32.ofInt (n : Nat) := by decide +kernel
theorem byte_ok {x : Int} (h : 0 ≤ x ∧ x ≤ 127) : (Int32.ofInt x).toInt8.toInt32 = Int32.ofInt x ∧ narrow .byte (.int (Int32.ofInt x)) = .int (Int32.ofInt x) ∧ fits .byte (.int (Int32.ofInt x)) = true := by
  have h2 := byte_all x.toNat (by omega)
  rwa [Int.toNat_of_nonneg h.1] at h2
theorem char_ok {x : Int} (h : 0 ≤ x ∧ x ≤ 255) : ((Int32.ofInt x).toUInt32 % 65536).toInt32 = Int32.ofInt x := by
  have h2 := char_all x.toNat (by omega)
  rwa [Int.toNat_of_nonneg h.1] at h2
section MMjr
variable {B : mmB} {d kc ks : Nat} {Q : mmQ} {pc : Nat} {lc st : List mmV} {sh : mmS} {mem : mmM}
theorem st_i2b {x : Int} (hx : 0 ≤ x ∧ x ≤ 127) (hd : decode B.2.1 pc = .ok (.i2b, 1)) (k : mmT B d kc ks Q (pc + 1) lc ((0, x) :: st) sh mem) : mmT B d kc ks Q pc lc ((0, x) :: st) sh mem :=
  fun p l e R s m args below meth c G H locs cells slots ls X => lv_i2b X.1.1 X.1.2.1 hd (byte_ok hx).1 (k p l e R s m args below meth c G H locs cells slots ls X)
theorem st_i2c {x : Int} (hx : 0 ≤ x ∧ x ≤ 255) (hd : decode B.2.1 pc = .ok (.i2c, 1)) (k : mmT B d kc ks Q (pc + 1) lc ((0, x) :: st) sh mem) : mmT B d kc ks Q pc lc ((0, x) :: st) sh mem :=
  fun p l e R s m args below meth c G H locs cells slots ls X => lv_i2c X.1.1 X.1.2.1 hd (char_ok hx) (k p l e R s m args below meth c G H locs cells slots ls X)
/-! static fields -/
theorem st_getCompact {idx : Nat} (hl : Cond.fieldLink B.1.cls idx "java/lang/String" "COMPACT_STRINGS" "Z" ∈ mm_tbl) (hd : decode B.2.1 pc = .ok (.getstatic idx, 3)) (k : mmT B d kc ks Q (pc + 3) lc ((0, 1) :: st) sh mem) : mmT B d kc ks Q pc lc st sh mem :=
  fun p l e R s m args below meth c G H locs cells slots ls X => va_gets X.1.1 X.1.2.1 X.2.2.2.2.2.2.2.2.2.2.2.1 X.2.2.1 X.1.2.2.2.2.1 (X.1.2.2.2.2.2.1 _ hl) (fun _ h => h) hd (k p l e R s m args below meth c G H locs cells slots ls X)
theorem st_getOnes {idx : Nat} (hl : Cond.fieldLink B.1.cls idx "java/lang/Integer" "DigitOnes" "[B" ∈ mm_tbl) (hd : decode B.2.1 pc = .ok (.getstatic idx, 3)) (k : mmT B d kc ks Q (pc + 3) lc ((4, 20) :: st) sh mem) : mmT B d kc ks Q pc lc st sh mem :=
  fun p l e R s m args below meth c G H locs cells slots ls X => va_gets X.1.1 X.1.2.1 X.2.2.2.2.2.2.2.2.2.2.2.2.1.1 X.2.2.1 X.1.2.2.2.2.1 (X.1.2.2.2.2.2.1 _ hl) (fun _ h => h) hd (k p l e R s m args below meth c G H locs cells slots ls X)
theorem st_getTens {idx : Nat} (hl : Cond.fieldLink B.1.cls idx "java/lang/Integer" "DigitTens" "[B" ∈ mm_tbl) (hd : decode B.2.1 pc = .ok (.getstatic idx, 3)) (k : mmT B d kc ks Q (pc + 3) lc ((4, 21) :: st) sh mem) : mmT B d kc ks Q pc lc st sh mem :=
  fun p l e R s m args below meth c G H locs cells slots ls X => va_gets X.1.1 X.1.2.1 X.2.2.2.2.2.2.2.2.2.2.2.2.2.1.1 X.2.2.1 X.1.2.2.2.2.1 (X.1.2.2.2.2.2.1 _ hl) (fun _ h => h) hd (k p l e R s m args below meth c G H locs cells slots ls X)
theorem st_getForm {idx : Nat} (hl : Cond.fieldLink B.1.cls idx fmC "SIOOBE_FORMATTER" fmD ∈ mm_tbl) (hd : decode B.2.1 pc = .ok (.getstatic idx, 3)) (k1 : mmT B d kc ks Q (pc + 3) lc ((2, -1) :: st) sh mem) (k2 : mmT B d kc ks Q (pc + 3) lc ((4, 22) :: st) sh mem) : mmT B d kc ks Q pc lc st sh mem := by
  intro p l e R s m args below meth c G H locs cells slots ls X
  rcases X.2.2.2.2.2.2.2.2.2.2.2.2.2.2 with h | h
  · exact va_gets X.1.1 X.1.2.1 h X.2.2.1 X.1.2.2.2.2.1 (X.1.2.2.2.2.2.1 _ hl) (fun _ h => h) hd (k1 p l e R s m args below meth c G H locs cells slots ls X)
  · exact va_gets X.1.1 X.1.2.1 h X.2.2.1 X.1.2.2.2.2.1 (X.1.2.2.2.2.2.1 _ hl) (fun _ h => h) hd (k2 p l e R s m args below meth c G H locs cells slots ls X)
theorem st_ldcK {i : Nat} {r : Int} (hi : i < 5) (hr : r = ((2 * i : Nat) : Int)) (hB : B.1.cls = RL) (hd : decode B.2.1 pc = .ok (.ldc (kIx i), 2)) (k : mmT B d kc ks Q (pc + 2) lc ((4, r) :: st) sh mem) : mmT B d kc ks Q pc lc st sh mem := by
  intro p l e R s m args below meth c G H locs cells slots ls X
  subst hr
  have h := k p l e R s m args below meth c G H locs cells slots ls X
  have hZ := X.1.2.2.2.2.2.2.2.2.2.2.1 i hi
  rw [← hB] at hZ
  exact va_ldcS X.1.1 X.1.2.1 X.1.2.2.2.2.1 hZ hd h
/-! rows of digits -/
theorem st_balOnes {i : Int} (h : 0 ≤ i ∧ i < 100) (hd : decode B.2.1 pc = .ok (.baload, 1)) (k : mmT B d kc ks Q (pc + 1) lc ((0, 48 + i % 10) :: st) sh mem) : mmT B d kc ks Q pc lc ((0, i) :: (4, 20) :: st) sh mem := by
  intro p l e R s m args below meth c G H locs cells slots ls X
  obtain ⟨v1, v2⟩ := mm_idx (n := 100) h.1 h.2 (by decide)
  have ed : dgO (Int32.ofInt i).toNatClampNeg = Int32.ofInt (48 + i % 10) := by
    unfold dgO
    rw [show Int32.ofNat (48 + (Int32.ofInt i).toNatClampNeg % 10) = Int32.ofInt ((48 + (Int32.ofInt i).toNatClampNeg % 10 : Nat) : Int) from rfl]
    congr 1
    omega
  exact va_tb X.1.1 X.1.2.1 X.2.2.2.2.2.2.2.2.2.2.2.2.1.2 X.2.2.1 v1 (congrArg Value.int ed) hd (k p l e R s m args below meth c G H locs cells slots ls X)
theorem st_balTens {i : Int} (h : 0 ≤ i ∧ i < 100) (hd : decode B.2.1 pc = .ok (.baload, 1)) (k : mmT B d kc ks Q (pc + 1) lc ((0, 48 + i / 10) :: st) sh mem) : mmT B d kc ks Q pc lc ((0, i) :: (4, 21) :: st) sh mem := by
  intro p l e R s m args below meth c G H locs cells slots ls X
  obtain ⟨v1, v2⟩ := mm_idx (n := 100) h.1 h.2 (by decide)
  have ed : dgT (Int32.ofInt i).toNatClampNeg = Int32.ofInt (48 + i / 10) := by
    unfold dgT
    rw [show Int32.ofNat (48 + (Int32.ofInt i).toNatClampNeg / 10) = Int32.ofInt ((48 + (Int32.ofInt i).toNatClampNeg / 10 : Nat) : Int) from rfl]
    congr 1
    omega
  exact va_tb X.1.1 X.1.2.1 X.2.2.2.2.2.2.2.2.2.2.2.2.2.1.2 X.2.2.1 v1 (congrArg Value.int ed) hd (k p l e R s m args below meth c G H locs cells slots ls X)
/-! rows of bytes in cells -/
theorem st_balB {n : Nat} {r i : Int} (a : Nat) (hr : r = (a : Int)) (hs : sh.2[a]? = some (25, n)) (hn : n < 2147483648) (h1 : 0 ≤ i) (h2 : i < n) (hd : decode B.2.1 pc = .ok (.baload, 1)) (kk : mmT B d kc ks Q (pc + 1) lc ((0, mem a i) :: st) sh mem) : mmT B d kc ks Q pc lc ((0, i) :: (2, r) :: st) sh mem := by
  intro p l e R s m args below meth c G H locs cells slots ls X
  have h := kk p l e R s m args below meth c G H locs cells slots ls X
  obtain ⟨v1, v2⟩ := mm_read (t := 25) (G := G) (f := fun j => mmEnc G (mm_at 25, mem a j)) (g := fun j => mmEnc G (0, mem a j)) (fun _ => rfl) h1 h2 hn
  show W p l e R s m args below meth c H locs cells slots _ (F0 m pc ls (.int (Int32.ofInt i) :: va_rf (mmRf G r) :: st.map (mmEnc G)))
  rw [mmR_rfl hr]
  exact W.bald X.1.1 X.1.2.1 (mm_arr X.2.1 hs (by decide)) ((mm_kind X.2.1).2.2.2.2.2.1 _ _) (fun q => by cases q) v1 v2 rfl rfl hd h
theorem st_bastB {n : Nat} {r i v : Int} (a : Nat) (hf : sh.1 = true) (hv : 0 ≤ v ∧ v ≤ 127) (hr : r = (a : Int)) (hs : sh.2[a]? = some (25, n)) (hn : n < 2147483648) (h1 : 0 ≤ i) (h2 : i < n) (hd : decode B.2.1 pc = .ok (.bastore, 1)) (kk : mmT B d kc ks Q (pc + 1) lc st sh (mset mem a i v)) : mmT B d kc ks Q pc lc ((0, v) :: (0, i) :: (2, r) :: st) sh mem := by
  have hfx : sh.1 = false → fixOK a i = true := fun h => by rw [hf] at h; cases h
  have hcv : (mTag (25, n) i = 0 → R32 v) ∧ (mTag (25, n) i = 1 → R64 v) := ⟨fun _ => by omega, fun h => by cases h⟩
  intro p l e R s m args below meth c G H locs cells slots ls X
  obtain ⟨v1, v2⟩ := mm_read (t := 25) (G := G) (f := fun j => mmEnc G (mm_at 25, mem a j)) (g := fun j => mmEnc G (0, mem a j)) (fun _ => rfl) h1 h2 hn
  show W p l e R s m args below meth c H locs cells slots _ (F0 m pc ls (.int (Int32.ofInt v) :: .int (Int32.ofInt i) :: va_rf (mmRf G r) :: st.map (mmEnc G)))
  rw [mmR_rfl hr]
  exact W.bast X.1.1 X.1.2.1 (mm_arr X.2.1 hs (by decide)) ((mm_kind X.2.1).2.2.2.2.2.1 _ _) (fun q => by cases q) v1 rfl rfl hd (fun H1 g1 g2 g3 => kk p l e R s m args below meth c G H1 _ cells slots ls (mmX_put X hfx hcv hs (mm_stored h1 h2 hn (by decide) (byte_ok hv).2.1 g1) g2 g3))
theorem st_newB {L : List (Nat × Nat)} {n : Nat} {r : Int} (hw : Cond.arrayClass .byte ∈ mm_tbl) (hr : r = (n : Int)) (hn : n ≤ 5000) (hl : L.length + 1 ≤ 999) (hd : decode B.2.1 pc = .ok (.newarray .byte, 2)) (k : mmT B d kc ks Q (pc + 2) lc ((2, (L.length : Int)) :: st) (true, L ++ [(25, n)]) (mrow mem L.length (fun _ => 0))) : mmT B d (kc + 1) (ks + n) Q pc lc ((0, r) :: st) (true, L) mem := by
  intro p l e R s m args below meth c G H locs cells slots ls X
  subst hr
  have hts := X.1.2.2.2.2.2.1
  have b1 := X.2.2.2.2.2.1
  have b2 := X.2.2.2.2.2.2.1
  have e0 : (Int32.ofInt (n : Int)).toInt = n := by rw [w32_toInt, w32_id (by omega) (by omega)]
  have e1 : (Int32.ofInt (n : Int)).toNatClampNeg = n := by
    rw [← Int32.toNat_toInt, e0]
    omega
  have e2 : ¬ Int32.ofInt (n : Int) < 0 := by
    rw [Int32.lt_iff_toInt_lt, e0]
    have : (0 : Int32).toInt = 0 := rfl
    omega
  have hs := X.2.1.1 rfl
  dsimp only at hs
  have hcb : n * componentBytes (newarray.typeOf .byte) ≤ 536870912 := by
    show n * 1 ≤ _
    omega
  refine va_newaK (atype := .byte) (n := Int32.ofInt (n : Int)) (N := n) X.1.1 X.1.2.1 (hts _ hw) rfl hd rfl e2 e1 hcb (by omega) (by omega) hs fun H1 cA g1 g2 g3 g4 g5 => ?_
  have hcA : cA = G.2.2.1 25 := Option.some.inj (g5.symm.trans (X.2.1.2.1.2 5 _ rfl).2)
  subst hcA
  have hh := k p l e R s m args below meth c G H1 locs (cells + 1) (slots + n) ls (mmX_new X ?_ (by rw [g2, hs]) (by rw [hs]; exact g3) hl (fun k => mCan_const (25, n) 0 (Or.inl rfl) k))
  · rw [List.map_cons, mm_top X.2.1, hs] at hh
    exact hh
  · exact mm_arrNew (ty := .byte) (by omega) rfl g1
/-- a superclass's own method, on this -/
theorem st_callSu {B' : mmB} {idx d' kc' ks' kc2 ks2 N n : Nat} {r : Int} {stk av : List mmV} {Qc : mmQ} (a ci : Nat) (hm : mmMSu B.1.cls idx B') (ho : mmOK B' n) (hC : mmC B' d' kc' ks' ((2, r) :: av) sh mem Qc) (hr : r = (a : Int)) (hs : sh.2[a]? = some (ci, N)) (hc : ci < 20) (hci : ci < 13) (hn : av.length = n) (hst : stk = av.reverse ++ (2, r) :: st) (hd' : d' + 1 ≤ d) (hkc : kc' + kc2 ≤ kc) (hks : ks' + ks2 ≤ ks) (hcat : mmCat st ≤ 8) (hd : decode B.2.1 pc = .ok (.invokespecial idx, 3))
    (kk : ∀ (r : Option mmV) (sh' : mmS) (mem' : mmM), Qc r sh' mem' → mmT B d kc2 ks2 Q (pc + 3) lc (r.toList ++ st) sh' mem') : mmT B d kc ks Q pc lc stk sh mem := by
  intro p l e R s m args below meth c G H locs cells slots ls X
  subst hst
  have hq1 : ∃ q, vwCl[ci]? = some q := ⟨_, List.getElem?_eq_getElem (by simpa [vwCl] using hci)⟩
  obtain ⟨q, hq1⟩ := hq1
  have hrecv := mm_recv X.2.1 hs hc hq1
  have hM := hC l G X.2.2.2.2.2.2.2.2.2.1
  have hgood : GoodIn mm_tbl (va_wsSU B.1.cls idx B'.1 (Cond.code B'.1 B'.2.1 B'.2.2.1 B'.2.2.2 :: mm_tbl)) := mm_good fun w hw => by
    unfold va_wsSU at hw
    simp only [List.mem_append, List.mem_cons, List.not_mem_nil, or_false] at hw
    rcases hw with (rfl | rfl | rfl | rfl | rfl) | rfl | hw
    · exact hm.1
    · exact hm.2.1
    · exact hm.2.2.1
    · exact hm.2.2.2.1
    · exact ho.2.1
    · exact ho.1
    · exact hw
  refine mm_goes (Qc := Qc) (mc := kc') (ms := ks') (a := (Value.ref (mmAt G a) :: av.map (mmEnc G)).toArray) X hkc hks ?_ kk
  rw [mm_stk G hr]
  refine va_runSU (Pc := mmPre G ((2, r) :: av) sh mem) (C := q.1) (As := av.map (mmEnc G)) (b := mmAt G a) (X.2.1.2.1.1 ci _ hq1).2 (mm_fix X) hM (va_cwSU n X.1.2.2.2.2.2.1 hgood rfl rfl rfl ⟨hm.2.2.2.2, ho.2.2.1.2.2⟩ (mm_room X hd' ho.2.2.2.1)) ⟨mm_blind, hrecv, fun U hU hW => ⟨by rw [mm_map1 G hr], by rw [hU]; exact X.2.1.moved hW.alike, X.1.2.2.2.2.2.2.2.2.warm hW, by rw [hU]; exact (X.2.2.2.2.2.2.2.2.2.2.moved hW.alike).kept X.2.2.1.2.1⟩⟩ rfl (by rw [List.length_map]; exact hn) ?_ rfl (lv_room (by rw [mmCat_enc]; exact hcat)) hd ⟨?_, ?_⟩
  · obtain ⟨lv, h1, -⟩ := X.2.2.2.2.1
    exact h1.1
  · have := X.2.2.2.2.2.1
    omega
  · have := X.2.2.2.2.2.2.1
    omega
theorem st_callO {B' : mmB} {idx d' kc' ks' kc2 ks2 N n : Nat} {r : Int} {stk av : List mmV} {Qc : mmQ} (C owner : String) (x : MethodName) (a ci : Nat) (hm : mmMO B.1.cls idx C owner x B') (ho : mmOK B' n) (hC : mmC B' d' kc' ks' ((2, r) :: av) sh mem Qc) (hr : r = (a : Int)) (hs : sh.2[a]? = some (ci, N)) (hc : ∃ q, vwCl[ci]? = some q ∧ q.1 = C ∧ ci < 20) (hn : av.length = n) (hst : stk = av.reverse ++ (2, r) :: st) (hd' : d' + 1 ≤ d) (hkc : kc' + kc2 ≤ kc) (hks : ks' + ks2 ≤ ks) (hcat : mmCat st ≤ 8) (hd : decode B.2.1 pc = .ok (.invokevirtual idx, 3))
    (kk : ∀ (r : Option mmV) (sh' : mmS) (mem' : mmM), Qc r sh' mem' → mmT B d kc2 ks2 Q (pc + 3) lc (r.toList ++ st) sh' mem') : mmT B d kc ks Q pc lc stk sh mem := by
  intro p l e R s m args below meth c G H locs cells slots ls X
  subst hst
  obtain ⟨q, hq1, hq2, hq3⟩ := hc
  have hrecv := mm_recv X.2.1 hs hq3 hq1
  rw [hq2] at hrecv
  have hM := hC l G X.2.2.2.2.2.2.2.2.2.1
  obtain ⟨m1, m2, m3, m4, m5, ⟨b0, m0, r0, hcode⟩, m6, m7, m8⟩ := hm
  have hgood : GoodIn mm_tbl (va_wsO B.1.cls idx C owner x B'.1 (Cond.code B'.1 B'.2.1 B'.2.2.1 B'.2.2.2 :: mm_tbl)) := mm_good fun w hw => by
    unfold va_wsO at hw
    simp only [List.mem_append, List.mem_cons, List.not_mem_nil, or_false] at hw
    rcases hw with (rfl | rfl | rfl | rfl | rfl | rfl) | rfl | hw
    · exact m1
    · exact m2
    · exact m3
    · exact m4
    · exact m5
    · exact ho.2.1
    · exact ho.1
    · exact hw
  have hdd : owner ≠ "java/lang/invoke/MethodHandle" ∧ owner ≠ "java/lang/invoke/VarHandle" ∧ (parseMethodDescriptor x.desc).map (fun d => d.parameters.length) = some n := ⟨m6, m7, by rw [m8]; exact ho.2.2.1.2.2⟩
  have cw : va_CU R s args B.1.cls C owner idx x B'.1 B'.2.1 B'.2.2.1 B'.2.2.2 (Cond.code B'.1 B'.2.1 B'.2.2.1 B'.2.2.2 :: mm_tbl) ({ frames := d', cells := kc', slots := ks', locals := 64 * d' } : Room) kc' ks' n := va_cwO n X.1.2.2.2.2.2.1 hgood rfl rfl rfl hcode hdd (mm_room X hd' ho.2.2.2.1)
  refine mm_goes (Qc := Qc) (mc := kc') (ms := ks') (a := (Value.ref (mmAt G a) :: av.map (mmEnc G)).toArray) X hkc hks ?_ kk
  rw [mm_stk G hr]
  refine va_runU (Pc := mmPre G ((2, r) :: av) sh mem) (C := C) (As := av.map (mmEnc G)) (b := mmAt G a) (mm_fix X) hM cw ⟨mm_blind, hrecv, fun U hU hW => ⟨by rw [mm_map1 G hr], by rw [hU]; exact X.2.1.moved hW.alike, X.1.2.2.2.2.2.2.2.2.warm hW, by rw [hU]; exact (X.2.2.2.2.2.2.2.2.2.2.moved hW.alike).kept X.2.2.1.2.1⟩⟩ rfl (by rw [List.length_map]; exact hn) ?_ rfl (lv_room (by rw [mmCat_enc]; exact hcat)) hd ⟨?_, ?_⟩
  · obtain ⟨lv, h1, -⟩ := X.2.2.2.2.1
    exact h1.1
  · have := X.2.2.2.2.2.1
    omega
  · have := X.2.2.2.2.2.2.1
    omega
end MMjr
end
section
/-! a String: a cell of the room, or one of the constants -/
theorem mmR_row {G : mmG} {sh : mmS} {mem : mmM} {s : State} {H H1 : Heap} {a : Nat} {f : Int → Int} {q : Nat × Nat} (hR : mmR G sh mem s H) (hf : sh.1 = true) (hv : ∀ k, (mTag q k = 0 → R32 (f k)) ∧ (mTag q k = 1 → R64 (f k))) (hq : sh.2[a]? = some q) (he : va_at G.2.1 vwCl (mmAt G a, mmE G q f) H1) (hz : H1.size = H.size) (ho : ∀ x : Nat, x ≠ mmAt G a → H1[x]? = H[x]?) : mmR G sh (mrow mem a f) s H1 := by
  obtain ⟨h1, h2, h3, h4, h5, h6, h7, h8, h9⟩ := hR
  have hal : a < sh.2.length := (List.getElem?_eq_some_iff.mp hq).1
  refine ⟨fun h => by rw [hz]; exact h1 h, h2, fun k' x hx => ?_, ?_, h5, by rw [hz]; exact h6, h7, fun h => (by rw [hf] at h; cases h), mCan_row h9 hq (fun _ _ _ => trivial) (fun _ _ _ w => w) (by omega) hv⟩
  · obtain ⟨q', hq', rfl⟩ := mmW_of hx
    by_cases e : k' = a
    · subst e
      cases hq.symm.trans hq'
      rw [mrow_same]
      exact he
    · rw [mrow_ne e]
      exact (h3 k' _ (mmW_get hq')).kept (ho _ (fun w => e (mmAt_inj h4.2.1 w)))
  · rw [mrow_ne (show 999 ≠ a by omega)]
    exact ⟨h4.1.kept (ho _ (by have := mmAt_ge (a := a) h4.2.1; omega)), by rw [hz]; exact h4.2⟩
def srcB (sh : mmS) (mem : mmM) (w : mmV) (n : Nat) (f : Int → Int) : Prop := (∃ b : Nat, w = (2, (b : Int)) ∧ sh.2[b]? = some (25, n) ∧ ∀ j, 0 ≤ j → j < n → mem b j = f j) ∨ (∃ i : Nat, i < 5 ∧ w = (4, ((2 * i + 1 : Nat) : Int)) ∧ n = kLen.getD i 0 ∧ ∀ j : Nat, j < n → f j = ((kByt.getD i []).getD j 0).toInt)
def isStr (sh : mmS) (mem : mmM) (v w : mmV) (n : Nat) (f : Int → Int) : Prop := ((∃ a : Nat, v = (2, (a : Int)) ∧ sh.2[a]? = some (11, 4) ∧ (∃ b : Nat, w = (2, (b : Int)) ∧ mem a 0 = b) ∧ mem a 1 = 0) ∨ (∃ i : Nat, i < 5 ∧ v = (4, ((2 * i : Nat) : Int)) ∧ w = (4, ((2 * i + 1 : Nat) : Int)))) ∧ srcB sh mem w n f ∧ n ≤ 5000 ∧ ∀ j, 0 ≤ j → j < n → 0 ≤ f j ∧ f j ≤ 127
section MMst2
variable {B : mmB} {d kc ks : Nat} {Q : mmQ} {pc : Nat} {lc st : List mmV} {sh : mmS} {mem : mmM}
theorem srcB_at {w : mmV} {n : Nat} {f : Int → Int} (h : srcB sh mem w n f) {p : Program} {l : Launch} {R : Room} {s : State} {m : MethodId} {args : Array Value} {meth : Method} {c : Code} {G : mmG} {H : Heap} {locs : List Loc} {cells slots : Nat} {ls : Array Slot} (X : mmX B d kc ks G sh mem lc p l R s m args meth c H locs cells slots ls) :
    ∃ (b0 : Nat) (scr : Cell), mmEnc G w = .ref b0 ∧ H[b0]? = some scr ∧ s.isArrayOf scr .byte ∧ scr.vm ≠ .unknown ∧ n ≤ scr.slots.size ∧ scr.slots.size.toInt32 = Int32.ofInt (n : Int) ∧ ∀ j : Nat, j < n → scr.slots[j]? = some (.int (Int32.ofInt (f j))) := by
  rcases h with ⟨b, rfl, hs, hv⟩ | ⟨i, hi, rfl, rfl, hv⟩
  · refine ⟨mmAt G b, _, rfl, mm_arr X.2.1 hs (by decide), (mm_kind X.2.1).2.2.2.2.2.1 _ _, (fun q => by cases q), ?_, ?_, fun j hj => ?_⟩
    · rw [arrV_size]
      exact Nat.le_refl _
    · rw [arrV_size]
      rfl
    · rw [arrV_read _ _ hj]
      show some (Value.int (Int32.ofInt (mem b j))) = _
      rw [hv j (by omega) (by omega)]
  · obtain ⟨scr, h1, h2, h3, h4, h5, h6, h7⟩ := (X.2.2.2.2.2.2.2.2.2.2.1.1 i hi).2.2.2.kept X.2.2.1.2.1
    refine ⟨_, scr, rfl, h1, h2, h3, h4, h5, fun j hj => ?_⟩
    rw [h6 j hj, hv j hj, Int32.ofInt_toInt]
theorem st_aloadV {j : Fin 4} {i : Nat} {v : mmV} (hv : v.1 = 2 ∨ v.1 = 4) (hi : (j : Nat) = i) (hl : lc[i]? = some v) (hd : decode B.2.1 pc = .ok (.aload_n j, 1)) (k : mmT B d kc ks Q (pc + 1) lc (v :: st) sh mem) : mmT B d kc ks Q pc lc st sh mem := by
  obtain ⟨t, x⟩ := v
  rcases hv with h | h
  · cases h
    exact st_aload_n (t := 0) hi hl (by decide) hd k
  · cases h
    exact st_aload_n (t := 2) hi hl (by decide) hd k
theorem st_strL {w : mmV} {n : Nat} {f : Int → Int} (h : srcB sh mem w n f) (hd : decode B.2.1 pc = .ok (.arraylength, 1)) (k : mmT B d kc ks Q (pc + 1) lc ((0, (n : Int)) :: st) sh mem) : mmT B d kc ks Q pc lc (w :: st) sh mem := by
  intro p l e R s m args below meth c G H locs cells slots ls X
  have hk := k p l e R s m args below meth c G H locs cells slots ls X
  obtain ⟨b0, scr, e1, g1, g2, -, -, g5, -⟩ := srcB_at h X
  rw [List.map_cons, e1]
  exact W.alen X.1.1 X.1.2.1 g1 g2 g5 rfl rfl hd hk
theorem st_strV {idx n : Nat} {v w : mmV} {f : Int → Int} (h : isStr sh mem v w n f) (hf : mmFR B.1.cls idx 11 4 0 2) (hd : decode B.2.1 pc = .ok (.getfield idx, 3)) (k : mmT B d kc ks Q (pc + 3) lc (w :: st) sh mem) : mmT B d kc ks Q pc lc (v :: st) sh mem := by
  rcases h.1 with ⟨a, rfl, hs, ⟨b, rfl, hb⟩, -⟩ | ⟨i, hi, rfl, rfl⟩
  · exact st_getfield a 0 hf rfl hs hb hd k
  · intro p l e R s m args below meth c G H locs cells slots ls X
    have hk := k p l e R s m args below meth c G H locs cells slots ls X
    obtain ⟨C, T, ref, e1, e0, e2, e3, e4, e5, e6⟩ := hf
    cases e1
    refine vk_getf X.1.1 X.1.2.1 (X.2.2.2.2.2.2.2.2.2.2.1.1 i hi).2.2.1 X.2.2.1 X.1.2.2.2.2.1 (X.1.2.2.2.2.2.1 _ e5) (fun x hx => ?_) hd hk
    rcases e6 with e6 | e6
    · rw [e6]; exact hx
    · exact u_same (X.1.2.2.2.2.2.1 _ e6) x hx
theorem st_strC {idx n : Nat} {v w : mmV} {f : Int → Int} (h : isStr sh mem v w n f) (hf : mmFR B.1.cls idx 11 4 1 0) (hd : decode B.2.1 pc = .ok (.getfield idx, 3)) (k : mmT B d kc ks Q (pc + 3) lc ((0, 0) :: st) sh mem) : mmT B d kc ks Q pc lc (v :: st) sh mem := by
  rcases h.1 with ⟨a, rfl, hs, -, hb⟩ | ⟨i, hi, rfl, rfl⟩
  · exact st_getfield a 1 hf rfl hs hb hd k
  · intro p l e R s m args below meth c G H locs cells slots ls X
    have hk := k p l e R s m args below meth c G H locs cells slots ls X
    obtain ⟨C, T, ref, e1, e0, e2, e3, e4, e5, e6⟩ := hf
    cases e1
    refine vk_getf X.1.1 X.1.2.1 (X.2.2.2.2.2.2.2.2.2.2.1.1 i hi).2.1 X.2.2.1 X.1.2.2.2.2.1 (X.1.2.2.2.2.2.1 _ e5) (fun x hx => ?_) hd hk
    rcases e6 with e6 | e6
    · rw [e6]; exact hx
    · exact u_same (X.1.2.2.2.2.2.1 _ e6) x hx
/-- System.arraycopy of n bytes, from a row or a constant's, into a row -/
theorem st_copyB {idx n0 n1 : Nat} {rb rn rs rd : Int} {w : mmV} {f : Int → Int} (b sp dp n : Nat) (hf : sh.1 = true) (hsrc : srcB sh mem w n0 f) (h1 : Cond.methodLink B.1.cls idx arraycopyName ∈ mm_tbl) (hrb : rb = (b : Int)) (hrn : rn = (n : Int)) (hrs : rs = (sp : Int)) (hrd : rd = (dp : Int)) (hsb : sh.2[b]? = some (25, n1)) (hn0 : sp + n ≤ n0) (hn1 : dp + n ≤ n1) (hb0 : n0 ≤ 5000) (hb1 : n1 ≤ 5000) (hfit : ∀ j : Int, sp ≤ j → j < sp + n → 0 ≤ f j ∧ f j ≤ 127) (hd1 : 3 ≤ d) (hcat : mmCat st ≤ 8) (hd : decode B.2.1 pc = .ok (.invokestatic idx, 3)) (h2 : Cond.native arraycopyName ∈ mm_tbl) (h3 : Cond.static arraycopyName ∈ mm_tbl) (h4 : Cond.initialized "java/lang/System" ∈ mm_tbl)
    (k : mmT B d kc ks Q (pc + 3) lc st sh (mrow mem b (fun j => if dp ≤ j ∧ j < dp + n then f (sp + (j - dp)) else mem b j))) : mmT B d kc ks Q pc lc ((0, rn) :: (0, rd) :: (2, rb) :: (0, rs) :: w :: st) sh mem := by
  intro p l e R s m args below meth c G H locs cells slots ls X
  subst hrn hrs hrd
  have hts := X.1.2.2.2.2.2.1
  have cl : ∀ x : Nat, x ≤ 5000 → (Int32.ofInt (x : Int)).toInt = x ∧ (Int32.ofInt (x : Int)).toNatClampNeg = x ∧ ¬ Int32.ofInt (x : Int) < 0 := by
    intro x hx
    have e0 : (Int32.ofInt (x : Int)).toInt = x := by rw [w32_toInt, w32_id (by omega) (by omega)]
    refine ⟨e0, ?_, ?_⟩
    · rw [← Int32.toNat_toInt, e0]
      omega
    · rw [Int32.lt_iff_toInt_lt, e0]
      have : (0 : Int32).toInt = 0 := rfl
      omega
  obtain ⟨n_a, n_b, n_c⟩ := cl n (by omega)
  obtain ⟨s_a, s_b, s_c⟩ := cl sp (by omega)
  obtain ⟨d_a, d_b, d_c⟩ := cl dp (by omega)
  obtain ⟨b0, scr, e1, g1, g2, g3, g4, -, g6⟩ := srcB_at hsrc X
  have hc1 : H[mmAt G b]? = some (vp_cell (G.2.2.1 25) (n1, .inl (fun j : Nat => Int32.ofInt (mem b j)))) := X.2.1.2.2.1 b _ (mmW_get hsb)
  obtain ⟨-, k1, hk1, cm1, hkk1⟩ := (mm_kind X.2.1).2.2.2.2.2.1 n1 (fun j => .int (Int32.ofInt (mem b j)))
  obtain ⟨hs6, k0, hk0, cm0, hkk0⟩ := g2
  obtain ⟨lv, hlv, -⟩ := X.2.2.2.2.1
  have hr3 := X.2.2.2.2.2.2.2.1
  have hr4 := X.2.2.2.2.2.2.2.2.1
  show W p l e R s m args below meth c H locs cells slots _ (F0 m pc ls (.int (Int32.ofInt (n : Int)) :: .int (Int32.ofInt (dp : Int)) :: va_rf (mmRf G rb) :: .int (Int32.ofInt (sp : Int)) :: mmEnc G w :: st.map (mmEnc G)))
  rw [mmR_rfl hrb, e1]
  intro T hT XT
  obtain ⟨vm', X', step⟩ := XT.arraycopy X.1.1 X.1.2.2.2.2.1 (hts _ h1) (hts _ h2) (hts _ h3) (hts _ h4) (src := b0) (dst := mmAt G b) (cs := scr) (cd := vp_cell (G.2.2.1 25) (n1, .inl (fun j : Nat => Int32.ofInt (mem b j)))) (srcPos := Int32.ofInt (sp : Int)) (destPos := Int32.ofInt (dp : Int)) (n := Int32.ofInt (n : Int)) (by rw [hT]; exact g1) (by rw [hT]; exact hc1)
    hs6 (fun _ h => by cases h) g3 (fun h => by cases h) hk0 hk1 hkk0 hkk1 (by simp [refKind]) s_c d_c n_c
    (by rw [s_a, n_a]; omega)
    (by rw [d_a, n_a]; show ¬ _ > ((arrV (G.2.2.1 25) n1 (fun j => .int (Int32.ofInt (mem b j)))).slots.size : Int); rw [arrV_size]; omega)
    (fun vm₁ _ i hi => by
      have e : scr.slots.getD ((Int32.ofInt (sp : Int)).toNatClampNeg + i) .null = .int (Int32.ofInt (f (((Int32.ofInt (sp : Int)).toNatClampNeg + i : Nat) : Int))) := by
        rw [Array.getD_eq_getD_getElem?, g6 _ (by omega)]
        rfl
      refine ⟨?_, ?_⟩
      · rw [e]
        exact (byte_ok (hfit _ (by omega) (by omega))).2.2
      · rw [e]
        exact trivial)
    (g := F0 m pc ls (.int (Int32.ofInt (n : Int)) :: .int (Int32.ofInt (dp : Int)) :: .ref (mmAt G b) :: .int (Int32.ofInt (sp : Int)) :: .ref b0 :: st.map (mmEnc G))) rfl (by rw [X.1.2.2.1]; exact hlv.1) (rest := st.map (mmEnc G)) rfl (by rw [X.1.2.1]; exact hd) (by omega) (by
      have hcc := mmCat_enc G st
      have hnat : nativeFrameWords "java/lang/System" "arraycopy" 5 ≤ 100 := by decide
      show 2 * 0 + _ + _ ≤ _
      omega)
  have e2 : copied scr (vp_cell (G.2.2.1 25) (n1, .inl (fun j : Nat => Int32.ofInt (mem b j)))) (Int32.ofInt (sp : Int)) (Int32.ofInt (dp : Int)) (Int32.ofInt (n : Int)) = vp_cell (G.2.2.1 25) (n1, .inl (va_cpy (fun j : Nat => Int32.ofInt (f j)) (fun j : Nat => Int32.ofInt (mem b j)) (Int32.ofInt (sp : Int)).toNatClampNeg (Int32.ofInt (dp : Int)).toNatClampNeg (Int32.ofInt (n : Int)).toNatClampNeg)) := va_copiedX (fun z => .int z) scr (G.2.2.1 25) (fun j : Nat => Int32.ofInt (f j)) (fun j : Nat => Int32.ofInt (mem b j)) g6 (by omega)
  rw [e2, s_b, d_b, n_b] at X' step
  have hl : mmAt G b < H.size := (Array.getElem?_eq_some_iff.mp hc1).1
  generalize hcl : vp_cell (G.2.2.1 25) (n1, .inl (va_cpy (fun j : Nat => Int32.ofInt (f j)) (fun j : Nat => Int32.ofInt (mem b j)) sp dp n)) = nw at X' step
  have hheap : ((T.setVm vm').setCell (mmAt G b) nw).heap = H.setIfInBounds (mmAt G b) nw := by rw [← hT]; rfl
  have oq : ∀ q : Nat, q ≠ mmAt G b → (H.setIfInBounds (mmAt G b) nw)[q]? = H[q]? := fun q hq => by simp [Array.getElem?_setIfInBounds, Ne.symm hq]
  have hz : (H.setIfInBounds (mmAt G b) nw).size = H.size := by simp
  have hA : mmAd G (mmAt G b) := mmAt_ad X.2.1.2.2.2.1.2 (List.getElem?_eq_some_iff.mp hsb).1
  have hR : mmR G sh (mrow mem b (fun j => if dp ≤ j ∧ j < dp + n then f (sp + (j - dp)) else mem b j)) s (H.setIfInBounds (mmAt G b) nw) := by
    refine mmR_row X.2.1 hf (fun k => ⟨fun _ => ?_, fun h => by cases h⟩) hsb ?_ hz oq
    · have c0 := (X.2.1.2.2.2.2.2.2.2.2.1 b _ k hsb).1 rfl
      split
      · have := hfit (sp + (k - dp)) (by omega) (by omega)
        omega
      · exact c0
    · show (H.setIfInBounds (mmAt G b) nw)[mmAt G b]? = some (vp_cell (G.2.2.1 25) (n1, .inl (fun j : Nat => Int32.ofInt (if (dp : Int) ≤ j ∧ (j : Int) < dp + n then f (sp + (j - dp)) else mem b j))))
      rw [← hcl]
      simp only [Array.getElem?_setIfInBounds, hl, if_true, ↓reduceIte]
      congr 4
      funext j
      unfold va_cpy
      by_cases hj : dp ≤ j ∧ j < dp + n
      · rw [if_pos hj, if_pos (by omega)]
        show Int32.ofInt (f ((sp + (j - dp) : Nat) : Int)) = _
        rw [show (((sp + (j - dp) : Nat)) : Int) = (sp : Int) + ((j : Int) - (dp : Int)) by omega]
      · rw [if_neg hj, if_neg (by omega)]
  obtain ⟨t, a1, b1⟩ := k p l e R s m args below meth c G _ _ cells slots ls ⟨X.1, hR, ⟨by rw [hz]; exact X.2.2.1.1, fun q q1 q2 => by
      rw [oq q (fun e => q2 (by rw [e]; exact hA))]
      exact X.2.2.1.2.1 q q1 q2, fun q hq => by
      rcases List.mem_append.mp hq with h | h
      · exact X.2.2.1.2.2 q h
      · obtain ⟨z, -, hz⟩ := List.mem_map.mp h
        rw [← hz]
        exact hA⟩, X.2.2.2⟩ _ hheap X'
  exact ⟨t, step t a1, b1⟩
end MMst2
end
section
/-! a call on a String; a row of bytes copied whole -/
section MMjm
variable {B : mmB} {d kc ks : Nat} {Q : mmQ} {pc : Nat} {lc st : List mmV} {sh : mmS} {mem : mmM}
theorem st_callVK {B' : mmB} {idx d' kc' ks' kc2 ks2 n i : Nat} {stk av : List mmV} {Qc : mmQ} (hi : i < 5) (hcls : B'.1.cls = "java/lang/String") (hm : mmMV B.1.cls idx B') (ho : mmOK B' n) (hC : mmC B' d' kc' ks' ((4, ((2 * i : Nat) : Int)) :: av) sh mem Qc) (hn : av.length = n) (hst : stk = av.reverse ++ (4, ((2 * i : Nat) : Int)) :: st) (hd' : d' + 1 ≤ d) (hkc : kc' + kc2 ≤ kc) (hks : ks' + ks2 ≤ ks) (hcat : mmCat st ≤ 8) (hd : decode B.2.1 pc = .ok (.invokevirtual idx, 3))
    (kk : ∀ (r : Option mmV) (sh' : mmS) (mem' : mmM), Qc r sh' mem' → mmT B d kc2 ks2 Q (pc + 3) lc (r.toList ++ st) sh' mem') : mmT B d kc ks Q pc lc stk sh mem := by
  intro p l e R s m args below meth c G H locs cells slots ls X
  subst hst
  have hrecv := vk_recv X.2.2.2.2.2.2.2.2.2.2.1 hi X.2.2.1
  rw [← hcls] at hrecv
  have hM := hC l G X.2.2.2.2.2.2.2.2.2.1
  have hgood : GoodIn mm_tbl (wsV B.1.cls idx B'.1.cls B'.1 (Cond.code B'.1 B'.2.1 B'.2.2.1 B'.2.2.2 :: mm_tbl)) := mm_good fun w hw => by
    unfold wsV at hw
    simp only [List.mem_append, List.mem_cons, List.not_mem_nil, or_false] at hw
    rcases hw with (rfl | rfl | rfl | rfl) | rfl | hw
    · exact hm.1
    · exact hm.2.1
    · exact hm.2.2
    · exact ho.2.1
    · exact ho.1
    · exact hw
  refine mm_goes (Qc := Qc) (mc := kc') (ms := ks') (a := (Value.ref (G.2.2.2.2 (2 * i)) :: av.map (mmEnc G)).toArray) X hkc hks ?_ kk
  have hstk : ((av.reverse ++ (4, ((2 * i : Nat) : Int)) :: st).map (mmEnc G)) = (av.map (mmEnc G)).reverse ++ .ref (G.2.2.2.2 (2 * i)) :: st.map (mmEnc G) := by
    rw [List.map_append, List.map_reverse]
    rfl
  rw [hstk]
  refine va_runV (Pc := mmPre G ((4, ((2 * i : Nat) : Int)) :: av) sh mem) (C := B'.1.cls) (As := av.map (mmEnc G)) (b := G.2.2.2.2 (2 * i)) (mm_fix X) hM (cwV n X.1.2.2.2.2.2.1 hgood rfl rfl rfl ⟨rfl, ho.2.2.1⟩ (mm_room X hd' ho.2.2.2.1)) ⟨mm_blind, hrecv, fun U hU hW => ⟨rfl, by rw [hU]; exact X.2.1.moved hW.alike, X.1.2.2.2.2.2.2.2.2.warm hW, by rw [hU]; exact (X.2.2.2.2.2.2.2.2.2.2.moved hW.alike).kept X.2.2.1.2.1⟩⟩ rfl (by rw [List.length_map]; exact hn) ?_ rfl (lv_room (by rw [mmCat_enc]; exact hcat)) hd ⟨?_, ?_⟩
  · obtain ⟨lv, h1, -⟩ := X.2.2.2.2.1
    exact h1.1
  · have := X.2.2.2.2.2.1
    omega
  · have := X.2.2.2.2.2.2.1
    omega
theorem st_callVs {B' : mmB} {idx d' kc' ks' kc2 ks2 n n0 : Nat} {v w : mmV} {f : Int → Int} {stk av : List mmV} {Qc : mmQ} (hS : isStr sh mem v w n0 f) (hcls : B'.1.cls = "java/lang/String") (hm : mmMV B.1.cls idx B') (ho : mmOK B' n) (hC : mmC B' d' kc' ks' (v :: av) sh mem Qc) (hn : av.length = n) (hst : stk = av.reverse ++ v :: st) (hd' : d' + 1 ≤ d) (hkc : kc' + kc2 ≤ kc) (hks : ks' + ks2 ≤ ks) (hcat : mmCat st ≤ 8) (hd : decode B.2.1 pc = .ok (.invokevirtual idx, 3))
    (kk : ∀ (r : Option mmV) (sh' : mmS) (mem' : mmM), Qc r sh' mem' → mmT B d kc2 ks2 Q (pc + 3) lc (r.toList ++ st) sh' mem') : mmT B d kc ks Q pc lc stk sh mem := by
  rcases hS.1 with ⟨a, rfl, hs, -, -⟩ | ⟨i, hi, rfl, -⟩
  · exact st_callV a 11 hm ho hC rfl hs ⟨_, rfl, hcls.symm, by decide⟩ hn hst hd' hkc hks hcat hd kk
  · exact st_callVK hi hcls hm ho hC hn hst hd' hkc hks hcat hd kk
theorem st_cloneB {L : List (Nat × Nat)} {n : Nat} {r : Int} (a : Nat) (hB : B.1.cls = RJ7) (hr : r = (a : Int)) (hs : L[a]? = some (25, n)) (hl : L.length + 1 ≤ 999) (hb : ∀ j, 0 ≤ j → j < n → 0 ≤ mem a j ∧ mem a j ≤ 127) (hd1 : 3 ≤ d) (hcat : mmCat st ≤ 8) (hd : decode B.2.1 pc = .ok (.invokevirtual 310, 3))
    (h1 : Cond.methodLink RJ7 310 ⟨"[B", "clone", "()Ljava/lang/Object;"⟩ ∈ mm_tbl) (h2 : Cond.sameMethod "[B" "java/lang/Object" "clone" "()Ljava/lang/Object;" ∈ mm_tbl) (h3 : Cond.native ⟨"java/lang/Object", "clone", "()Ljava/lang/Object;"⟩ ∈ mm_tbl) (h4 : Cond.instanceMethod ⟨"java/lang/Object", "clone", "()Ljava/lang/Object;"⟩ ∈ mm_tbl) (h5 : Cond.selects "[B" ⟨"[B", "clone", "()Ljava/lang/Object;"⟩ ⟨"java/lang/Object", "clone", "()Ljava/lang/Object;"⟩ ∈ mm_tbl)
    (k : mmT B d kc ks Q (pc + 3) lc ((2, (L.length : Int)) :: st) (true, L ++ [(25, n)]) (mrow mem L.length (mem a))) : mmT B d (kc + 1) (ks + n) Q pc lc ((2, r) :: st) (true, L) mem := by
  intro p l e R s m args below meth c G H locs cells slots ls X
  have hts := X.1.2.2.2.2.2.1
  have b1 := X.2.2.2.2.2.1
  have b2 := X.2.2.2.2.2.2.1
  have hown := X.1.2.2.2.2.1
  rw [hB] at hown
  have hc1 : H[mmAt G a]? = some (vp_cell (G.2.2.1 25) (n, .inl (fun j : Nat => Int32.ofInt (mem a j)))) := X.2.1.2.2.1 a _ (mmW_get hs)
  obtain ⟨lv, hlv, -⟩ := X.2.2.2.2.1
  have hr3 := X.2.2.2.2.2.2.2.1
  have hr4 := X.2.2.2.2.2.2.2.2.1
  have hcl := X.1.2.2.2.2.2.2.2.2.2.2.2
  have hnm : s.vm.findClass "[B" = some (G.2.2.1 25) := (X.2.1.2.1.2 5 _ rfl).2
  rw [mm_map1 G hr]
  obtain ⟨c0, t0', f1, f2, f3⟩ := Cond.castable_spec (va_Nw.use (A := args) rfl hcl)
  cases hnm.symm.trans f1
  generalize hD : vp_cell (G.2.2.1 25) (n, .inl (fun j : Nat => Int32.ofInt (mem a j))) = D at hc1
  have hvm0 : D.vm = .none := by rw [← hD]; rfl
  have hcl0 : D.cls = G.2.2.1 25 := by rw [← hD]; rfl
  have hsz : D.slots.size = n := by rw [← hD]; exact arrV_size _ _ _
  have hcellE : ({ cls := D.cls, slots := D.slots } : Cell) = D := by rw [← hD]; rfl
  intro T hT XT
  have hcellT : T.heap[mmAt G a]? = some D := by rw [hT]; exact hc1
  obtain ⟨-, kA, hkA, comp, hkind⟩ := State.isArrayOf_alike XT.warmed.alike ((mm_kind X.2.1).2.2.2.2.2.1 0 (fun _ => .null))
  obtain ⟨-, kS, hkS, compS, hkindS⟩ := (mm_kind X.2.1).2.2.2.2.2.1 0 (fun _ => .null)
  obtain ⟨vm', X', st'⟩ := XT.cloneArray X.1.1 hown (hts _ h1) (hts _ h2) (hts _ h3) (hts _ h4) (hts _ h5) (a := mmAt G a) (cell := D) hcellT (fun k h => by rw [hvm0] at h; cases h) (by rw [hvm0]; exact fun h => by cases h) (by rw [hcl0]; exact hnm) f2 (by rw [hcl0]; exact f3)
    (fun i v hv => by
      rw [hcl0]
      have hk' : T.vm.classes[G.2.2.1 25]? = some kA := hkA
      have hlt : i < n := by
        have := (Array.getElem?_eq_some_iff.mp hv).1
        rwa [hsz] at this
      have hv2 : D.slots[i]? = some (.int (Int32.ofInt (mem a i))) := by
        rw [← hD]
        show (arrV (G.2.2.1 25) n (fun j : Nat => Value.int (Int32.ofInt (mem a j)))).slots[i]? = _
        rw [arrV_read _ _ hlt]
      cases hv.symm.trans hv2
      have hfit := (byte_ok (hb i (by omega) (by omega))).2.2
      simpa [State.fitsSlot, State.slotType?, hk', hkind] using hfit)
    (g := F0 m pc ls (.ref (mmAt G a) :: st.map (mmEnc G))) rfl (by rw [X.1.2.2.1]; exact hlv.1) rfl (by rw [X.1.2.1]; exact hd) (by omega) (by
      have hcc := mmCat_enc G st
      show 2 * 0 + _ + 14 ≤ _
      omega) (by omega) (by rw [hsz]; omega) (hloader := by rw [hcl0]; exact Vm.clonesLoader_of_array hkS hkindS)
  rw [hcellE, hsz] at X'
  have z1 : (H.push D).size = H.size + 1 := Array.size_push _
  have o1 : ∀ q : Nat, q < H.size → (H.push D)[q]? = H[q]? := fun q hq => by rw [Array.getElem?_push, if_neg (Nat.ne_of_lt hq)]
  have hsH := X.2.1.1 rfl
  dsimp only at hsH
  have e1 : va_at G.2.1 vwCl (mmAt G L.length, mmE G (25, n) (mem a)) (H.push D) := by
    show (H.push D)[mmAt G L.length]? = some (vp_cell (G.2.2.1 25) (n, .inl (fun j : Nat => Int32.ofInt (mem a j))))
    rw [← hsH, Array.getElem?_push_size, hD]
  obtain ⟨t, a1, a2⟩ := k p l e R s m args below meth c G (H.push D) locs (cells + 1) (slots + n) ls (mmX_new X e1 z1 o1 hl (fun k => ⟨fun h => (X.2.1.2.2.2.2.2.2.2.2.1 a _ k hs).1 h, fun h => (X.2.1.2.2.2.2.2.2.2.2.1 a _ k hs).2 h⟩)) ((T.setVm vm').pushCell D) (by rw [← hT]; rfl) X'
  refine ⟨t, st' t ?_, a2⟩
  rw [hcellE, hT]
  rw [List.map_cons, mm_top X.2.1] at a1
  exact a1
theorem st_castB {L : List (Nat × Nat)} {b : Bool} {n : Nat} {r : Int} (a : Nat) (hB : B.1.cls = RJ7) (hr : r = (a : Int)) (hs : L[a]? = some (25, n)) (h1 : Cond.classLink RJ7 311 "[B" ∈ mm_tbl) (hd : decode B.2.1 pc = .ok (.checkcast 311, 3)) (k : mmT B d kc ks Q (pc + 3) lc ((2, r) :: st) (b, L) mem) : mmT B d kc ks Q pc lc ((2, r) :: st) (b, L) mem := by
  intro p l e R s m args below meth c G H locs cells slots ls X
  have hk := k p l e R s m args below meth c G H locs cells slots ls X
  have hown := X.1.2.2.2.2.1
  rw [hB] at hown
  have hw := mmW_get (G := G) (mem := mem) hs
  rw [mm_map1 G hr] at hk ⊢
  exact va_castA (x := (n, .inl (fun j : Nat => Int32.ofInt (mem a j)))) X.1.1 X.1.2.1 hown (X.1.2.2.2.2.2.1 _ h1) X.2.1.2.2.1 a hw (X.2.1.2.1.2 5 _ rfl).2 hd hk
end MMjm
/-- new int[N][K]: as mmMulti -/
def mmMultiI : Prop := ∀ (B : mmB) (d kc ks : Nat) (Q : mmQ) (pc : Nat) (lc st : List mmV) (L : List (Nat × Nat)) (mem : mmM) (N K idx : Nat) (r1 r2 : Int), Cond.classLink B.1.cls idx "[[I" ∈ mm_tbl → Cond.arrayClass .int ∈ mm_tbl → r1 = (N : Int) → r2 = (K : Int) → N ≤ 5000 → K ≤ 5000 → L.length + 1 + N ≤ 999 → 65 ≤ L.length → decode B.2.1 pc = .ok (.multianewarray idx 2, 4) →
  mmT B d kc ks Q (pc + 4) lc ((2, (L.length : Int)) :: st) (true, (L ++ [(26, N)]) ++ List.replicate N (20, K)) (fun a => if L.length + 1 ≤ a ∧ a < L.length + 1 + N then (fun _ => 0) else mrow mem L.length (fun i => (L.length : Int) + 1 + i) a) → mmT B d (kc + (1 + N)) (ks + (N + N * K)) Q pc lc ((0, r2) :: (0, r1) :: st) (true, L) mem
end
